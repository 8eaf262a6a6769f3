section
-- ===== PART A: goes FIRST, ahead of the names: the tables' words, and 'selects' of the private methods out of them =====
/-- a private method of a class that the tables say can be made, by its rows of tables_1 -/
def lw_okq (q : MethodName × Nat) : Prop := (q.1.cls ≠ "java/lang/invoke/MethodHandle" ∧ q.1.cls ≠ "java/lang/invoke/VarHandle") ∧ Cond.instantiable q.1.cls q.2 ∈ tables_1 ∧ Cond.privateMethod q.1 ∈ tables_1 ∧ Cond.instanceMethod q.1 ∈ tables_1
theorem lw_p0 : lw_okq (⟨"EveningCloak", "finding", "(I)I"⟩, 7) := ⟨⟨by decide +kernel, by decide +kernel⟩, List.mem_of_getElem? (i := 15) (by decide +kernel), List.mem_of_getElem? (i := 183) (by decide +kernel), List.mem_of_getElem? (i := 184) (by decide +kernel)⟩
theorem lw_p1 : lw_okq (⟨"EveningCloak", "tryDays", "(I)V"⟩, 7) := ⟨⟨by decide +kernel, by decide +kernel⟩, List.mem_of_getElem? (i := 15) (by decide +kernel), List.mem_of_getElem? (i := 347) (by decide +kernel), List.mem_of_getElem? (i := 348) (by decide +kernel)⟩
theorem lw_p2 : lw_okq (⟨"EveningCloak", "fewestDays", "(III)I"⟩, 7) := ⟨⟨by decide +kernel, by decide +kernel⟩, List.mem_of_getElem? (i := 15) (by decide +kernel), List.mem_of_getElem? (i := 370) (by decide +kernel), List.mem_of_getElem? (i := 371) (by decide +kernel)⟩
theorem lw_p3 : lw_okq (⟨"EveningCloak", "bestFor", "(III)I"⟩, 7) := ⟨⟨by decide +kernel, by decide +kernel⟩, List.mem_of_getElem? (i := 15) (by decide +kernel), List.mem_of_getElem? (i := 390) (by decide +kernel), List.mem_of_getElem? (i := 391) (by decide +kernel)⟩
theorem lw_p4 : lw_okq (⟨"EveningCloak", "dreamOfLastStand", "(II)I"⟩, 7) := ⟨⟨by decide +kernel, by decide +kernel⟩, List.mem_of_getElem? (i := 15) (by decide +kernel), List.mem_of_getElem? (i := 411) (by decide +kernel), List.mem_of_getElem? (i := 412) (by decide +kernel)⟩
theorem lw_p5 : lw_okq (⟨"EveningCloak", "nobodyMeets", "(II)Z"⟩, 7) := ⟨⟨by decide +kernel, by decide +kernel⟩, List.mem_of_getElem? (i := 15) (by decide +kernel), List.mem_of_getElem? (i := 420) (by decide +kernel), List.mem_of_getElem? (i := 421) (by decide +kernel)⟩
theorem lw_p6 : lw_okq (⟨"EveningCloak", "refusedAsTold", "(II)I"⟩, 7) := ⟨⟨by decide +kernel, by decide +kernel⟩, List.mem_of_getElem? (i := 15) (by decide +kernel), List.mem_of_getElem? (i := 438) (by decide +kernel), List.mem_of_getElem? (i := 439) (by decide +kernel)⟩
theorem lw_p7 : lw_okq (⟨"EveningCloak", "setAsTold", "(ILEveningCloak$Sheet;I)I"⟩, 7) := ⟨⟨by decide +kernel, by decide +kernel⟩, List.mem_of_getElem? (i := 15) (by decide +kernel), List.mem_of_getElem? (i := 449) (by decide +kernel), List.mem_of_getElem? (i := 450) (by decide +kernel)⟩
theorem lw_p8 : lw_okq (⟨"EveningCloak", "trialIsAsTold", "(LEveningCloak$Sheet;)Z"⟩, 7) := ⟨⟨by decide +kernel, by decide +kernel⟩, List.mem_of_getElem? (i := 15) (by decide +kernel), List.mem_of_getElem? (i := 453) (by decide +kernel), List.mem_of_getElem? (i := 454) (by decide +kernel)⟩
theorem lw_p9 : lw_okq (⟨"EveningCloak$Reader", "step", "()V"⟩, 6) := ⟨⟨by decide +kernel, by decide +kernel⟩, List.mem_of_getElem? (i := 105) (by decide +kernel), List.mem_of_getElem? (i := 502) (by decide +kernel), List.mem_of_getElem? (i := 503) (by decide +kernel)⟩
theorem lw_p10 : lw_okq (⟨"EveningCloak$Reader", "readItem", "(LEveningCloak$Room;)Z"⟩, 6) := ⟨⟨by decide +kernel, by decide +kernel⟩, List.mem_of_getElem? (i := 105) (by decide +kernel), List.mem_of_getElem? (i := 513) (by decide +kernel), List.mem_of_getElem? (i := 514) (by decide +kernel)⟩
theorem lw_p11 : lw_okq (⟨"EveningCloak$Reader", "isWord", "(Ljava/lang/String;)Z"⟩, 6) := ⟨⟨by decide +kernel, by decide +kernel⟩, List.mem_of_getElem? (i := 105) (by decide +kernel), List.mem_of_getElem? (i := 518) (by decide +kernel), List.mem_of_getElem? (i := 519) (by decide +kernel)⟩
theorem lw_p12 : lw_okq (⟨"EveningCloak$Reader", "readGirl", "(LEveningCloak$Room;)Z"⟩, 6) := ⟨⟨by decide +kernel, by decide +kernel⟩, List.mem_of_getElem? (i := 105) (by decide +kernel), List.mem_of_getElem? (i := 570) (by decide +kernel), List.mem_of_getElem? (i := 571) (by decide +kernel)⟩
theorem lw_p13 : lw_okq (⟨"EveningCloak$Reader", "isNumber", "(II)Z"⟩, 6) := ⟨⟨by decide +kernel, by decide +kernel⟩, List.mem_of_getElem? (i := 105) (by decide +kernel), List.mem_of_getElem? (i := 576) (by decide +kernel), List.mem_of_getElem? (i := 577) (by decide +kernel)⟩
theorem lw_p14 : lw_okq (⟨"EveningCloak$Reader", "readStand", "(LEveningCloak$Room;)Z"⟩, 6) := ⟨⟨by decide +kernel, by decide +kernel⟩, List.mem_of_getElem? (i := 105) (by decide +kernel), List.mem_of_getElem? (i := 582) (by decide +kernel), List.mem_of_getElem? (i := 583) (by decide +kernel)⟩
theorem lw_p15 : lw_okq (⟨"EveningCloak$Reader", "readDeposit", "(LEveningCloak$Room;I)Z"⟩, 6) := ⟨⟨by decide +kernel, by decide +kernel⟩, List.mem_of_getElem? (i := 105) (by decide +kernel), List.mem_of_getElem? (i := 597) (by decide +kernel), List.mem_of_getElem? (i := 598) (by decide +kernel)⟩
def lw_privs_1 : List (MethodName × Nat) := [(⟨"EveningCloak", "finding", "(I)I"⟩, 7), (⟨"EveningCloak", "tryDays", "(I)V"⟩, 7), (⟨"EveningCloak", "fewestDays", "(III)I"⟩, 7), (⟨"EveningCloak", "bestFor", "(III)I"⟩, 7), (⟨"EveningCloak", "dreamOfLastStand", "(II)I"⟩, 7), (⟨"EveningCloak", "nobodyMeets", "(II)Z"⟩, 7), (⟨"EveningCloak", "refusedAsTold", "(II)I"⟩, 7), (⟨"EveningCloak", "setAsTold", "(ILEveningCloak$Sheet;I)I"⟩, 7), (⟨"EveningCloak", "trialIsAsTold", "(LEveningCloak$Sheet;)Z"⟩, 7), (⟨"EveningCloak$Reader", "step", "()V"⟩, 6), (⟨"EveningCloak$Reader", "readItem", "(LEveningCloak$Room;)Z"⟩, 6), (⟨"EveningCloak$Reader", "isWord", "(Ljava/lang/String;)Z"⟩, 6), (⟨"EveningCloak$Reader", "readGirl", "(LEveningCloak$Room;)Z"⟩, 6), (⟨"EveningCloak$Reader", "isNumber", "(II)Z"⟩, 6), (⟨"EveningCloak$Reader", "readStand", "(LEveningCloak$Room;)Z"⟩, 6), (⟨"EveningCloak$Reader", "readDeposit", "(LEveningCloak$Room;I)Z"⟩, 6)]
theorem lw_r1 : ∀ q ∈ lw_privs_1, lw_okq q := List.forall_mem_cons.mpr ⟨lw_p0, List.forall_mem_cons.mpr ⟨lw_p1, List.forall_mem_cons.mpr ⟨lw_p2, List.forall_mem_cons.mpr ⟨lw_p3, List.forall_mem_cons.mpr ⟨lw_p4, List.forall_mem_cons.mpr ⟨lw_p5, List.forall_mem_cons.mpr ⟨lw_p6, List.forall_mem_cons.mpr ⟨lw_p7, List.forall_mem_cons.mpr ⟨lw_p8, List.forall_mem_cons.mpr ⟨lw_p9, List.forall_mem_cons.mpr ⟨lw_p10, List.forall_mem_cons.mpr ⟨lw_p11, List.forall_mem_cons.mpr ⟨lw_p12, List.forall_mem_cons.mpr ⟨lw_p13, List.forall_mem_cons.mpr ⟨lw_p14, List.forall_mem_cons.mpr ⟨lw_p15, fun _ h => absurd h List.not_mem_nil⟩⟩⟩⟩⟩⟩⟩⟩⟩⟩⟩⟩⟩⟩⟩⟩
theorem lw_p16 : lw_okq (⟨"EveningCloak$Reader", "readPart", "(Ljava/lang/String;[III)Z"⟩, 6) := ⟨⟨by decide +kernel, by decide +kernel⟩, List.mem_of_getElem? (i := 105) (by decide +kernel), List.mem_of_getElem? (i := 603) (by decide +kernel), List.mem_of_getElem? (i := 604) (by decide +kernel)⟩
theorem lw_p17 : lw_okq (⟨"EveningCloak", "foundTogether", "()I"⟩, 7) := ⟨⟨by decide +kernel, by decide +kernel⟩, List.mem_of_getElem? (i := 15) (by decide +kernel), List.mem_of_getElem? (i := 686) (by decide +kernel), List.mem_of_getElem? (i := 687) (by decide +kernel)⟩
theorem lw_p18 : lw_okq (⟨"EveningCloakModel", "becomes", "(II)I"⟩, 15) := ⟨⟨by decide +kernel, by decide +kernel⟩, List.mem_of_getElem? (i := 690) (by decide +kernel), List.mem_of_getElem? (i := 755) (by decide +kernel), List.mem_of_getElem? (i := 756) (by decide +kernel)⟩
theorem lw_p19 : lw_okq (⟨"EveningCloakModel", "finds", "(I)I"⟩, 15) := ⟨⟨by decide +kernel, by decide +kernel⟩, List.mem_of_getElem? (i := 690) (by decide +kernel), List.mem_of_getElem? (i := 760) (by decide +kernel), List.mem_of_getElem? (i := 761) (by decide +kernel)⟩
theorem lw_p20 : lw_okq (⟨"EveningCloakModel", "comes", "(III)I"⟩, 15) := ⟨⟨by decide +kernel, by decide +kernel⟩, List.mem_of_getElem? (i := 690) (by decide +kernel), List.mem_of_getElem? (i := 773) (by decide +kernel), List.mem_of_getElem? (i := 774) (by decide +kernel)⟩
theorem lw_p21 : lw_okq (⟨"EveningCloakModel", "put", "(III)V"⟩, 15) := ⟨⟨by decide +kernel, by decide +kernel⟩, List.mem_of_getElem? (i := 690) (by decide +kernel), List.mem_of_getElem? (i := 777) (by decide +kernel), List.mem_of_getElem? (i := 778) (by decide +kernel)⟩
theorem lw_p22 : lw_okq (⟨"EveningCloakModel", "enters", "(I)I"⟩, 15) := ⟨⟨by decide +kernel, by decide +kernel⟩, List.mem_of_getElem? (i := 690) (by decide +kernel), List.mem_of_getElem? (i := 785) (by decide +kernel), List.mem_of_getElem? (i := 786) (by decide +kernel)⟩
theorem lw_p23 : lw_okq (⟨"EveningCloakModel", "lets", "(III)V"⟩, 15) := ⟨⟨by decide +kernel, by decide +kernel⟩, List.mem_of_getElem? (i := 690) (by decide +kernel), List.mem_of_getElem? (i := 789) (by decide +kernel), List.mem_of_getElem? (i := 790) (by decide +kernel)⟩
theorem lw_p24 : lw_okq (⟨"EveningCloakModel", "isDeposit", "(I)Z"⟩, 15) := ⟨⟨by decide +kernel, by decide +kernel⟩, List.mem_of_getElem? (i := 690) (by decide +kernel), List.mem_of_getElem? (i := 797) (by decide +kernel), List.mem_of_getElem? (i := 798) (by decide +kernel)⟩
theorem lw_p25 : lw_okq (⟨"EveningCloakModel", "shines", "(I)I"⟩, 15) := ⟨⟨by decide +kernel, by decide +kernel⟩, List.mem_of_getElem? (i := 690) (by decide +kernel), List.mem_of_getElem? (i := 801) (by decide +kernel), List.mem_of_getElem? (i := 802) (by decide +kernel)⟩
theorem lw_p26 : lw_okq (⟨"EveningCloakModel", "it", "(II)I"⟩, 15) := ⟨⟨by decide +kernel, by decide +kernel⟩, List.mem_of_getElem? (i := 690) (by decide +kernel), List.mem_of_getElem? (i := 805) (by decide +kernel), List.mem_of_getElem? (i := 806) (by decide +kernel)⟩
theorem lw_p27 : lw_okq (⟨"EveningCloakModel", "reaches", "(I)I"⟩, 15) := ⟨⟨by decide +kernel, by decide +kernel⟩, List.mem_of_getElem? (i := 690) (by decide +kernel), List.mem_of_getElem? (i := 812) (by decide +kernel), List.mem_of_getElem? (i := 813) (by decide +kernel)⟩
theorem lw_p28 : lw_okq (⟨"EveningCloakModel", "wears", "(I)I"⟩, 15) := ⟨⟨by decide +kernel, by decide +kernel⟩, List.mem_of_getElem? (i := 690) (by decide +kernel), List.mem_of_getElem? (i := 816) (by decide +kernel), List.mem_of_getElem? (i := 817) (by decide +kernel)⟩
theorem lw_p29 : lw_okq (⟨"EveningCloakModel", "lightAt", "(I)I"⟩, 15) := ⟨⟨by decide +kernel, by decide +kernel⟩, List.mem_of_getElem? (i := 690) (by decide +kernel), List.mem_of_getElem? (i := 820) (by decide +kernel), List.mem_of_getElem? (i := 821) (by decide +kernel)⟩
theorem lw_p30 : lw_okq (⟨"EveningCloakModel", "isHere", "(I)Z"⟩, 15) := ⟨⟨by decide +kernel, by decide +kernel⟩, List.mem_of_getElem? (i := 690) (by decide +kernel), List.mem_of_getElem? (i := 824) (by decide +kernel), List.mem_of_getElem? (i := 825) (by decide +kernel)⟩
theorem lw_p31 : lw_okq (⟨"EveningCloakModel", "costs", "(I)I"⟩, 15) := ⟨⟨by decide +kernel, by decide +kernel⟩, List.mem_of_getElem? (i := 690) (by decide +kernel), List.mem_of_getElem? (i := 828) (by decide +kernel), List.mem_of_getElem? (i := 829) (by decide +kernel)⟩
def lw_privs_2 : List (MethodName × Nat) := [(⟨"EveningCloak$Reader", "readPart", "(Ljava/lang/String;[III)Z"⟩, 6), (⟨"EveningCloak", "foundTogether", "()I"⟩, 7), (⟨"EveningCloakModel", "becomes", "(II)I"⟩, 15), (⟨"EveningCloakModel", "finds", "(I)I"⟩, 15), (⟨"EveningCloakModel", "comes", "(III)I"⟩, 15), (⟨"EveningCloakModel", "put", "(III)V"⟩, 15), (⟨"EveningCloakModel", "enters", "(I)I"⟩, 15), (⟨"EveningCloakModel", "lets", "(III)V"⟩, 15), (⟨"EveningCloakModel", "isDeposit", "(I)Z"⟩, 15), (⟨"EveningCloakModel", "shines", "(I)I"⟩, 15), (⟨"EveningCloakModel", "it", "(II)I"⟩, 15), (⟨"EveningCloakModel", "reaches", "(I)I"⟩, 15), (⟨"EveningCloakModel", "wears", "(I)I"⟩, 15), (⟨"EveningCloakModel", "lightAt", "(I)I"⟩, 15), (⟨"EveningCloakModel", "isHere", "(I)Z"⟩, 15), (⟨"EveningCloakModel", "costs", "(I)I"⟩, 15)]
theorem lw_r2 : ∀ q ∈ lw_privs_2, lw_okq q := List.forall_mem_cons.mpr ⟨lw_p16, List.forall_mem_cons.mpr ⟨lw_p17, List.forall_mem_cons.mpr ⟨lw_p18, List.forall_mem_cons.mpr ⟨lw_p19, List.forall_mem_cons.mpr ⟨lw_p20, List.forall_mem_cons.mpr ⟨lw_p21, List.forall_mem_cons.mpr ⟨lw_p22, List.forall_mem_cons.mpr ⟨lw_p23, List.forall_mem_cons.mpr ⟨lw_p24, List.forall_mem_cons.mpr ⟨lw_p25, List.forall_mem_cons.mpr ⟨lw_p26, List.forall_mem_cons.mpr ⟨lw_p27, List.forall_mem_cons.mpr ⟨lw_p28, List.forall_mem_cons.mpr ⟨lw_p29, List.forall_mem_cons.mpr ⟨lw_p30, List.forall_mem_cons.mpr ⟨lw_p31, fun _ h => absurd h List.not_mem_nil⟩⟩⟩⟩⟩⟩⟩⟩⟩⟩⟩⟩⟩⟩⟩⟩
theorem lw_p32 : lw_okq (⟨"EveningCloakModel", "isGirl", "(I)Z"⟩, 15) := ⟨⟨by decide +kernel, by decide +kernel⟩, List.mem_of_getElem? (i := 690) (by decide +kernel), List.mem_of_getElem? (i := 843) (by decide +kernel), List.mem_of_getElem? (i := 844) (by decide +kernel)⟩
theorem lw_p33 : lw_okq (⟨"EveningCloakModel", "her", "(II)I"⟩, 15) := ⟨⟨by decide +kernel, by decide +kernel⟩, List.mem_of_getElem? (i := 690) (by decide +kernel), List.mem_of_getElem? (i := 847) (by decide +kernel), List.mem_of_getElem? (i := 848) (by decide +kernel)⟩
theorem lw_p34 : lw_okq (⟨"EveningCloakModel", "orNone", "(I)I"⟩, 15) := ⟨⟨by decide +kernel, by decide +kernel⟩, List.mem_of_getElem? (i := 690) (by decide +kernel), List.mem_of_getElem? (i := 863) (by decide +kernel), List.mem_of_getElem? (i := 864) (by decide +kernel)⟩
theorem lw_p35 : lw_okq (⟨"EveningCloakModel", "goesFor", "(I)V"⟩, 15) := ⟨⟨by decide +kernel, by decide +kernel⟩, List.mem_of_getElem? (i := 690) (by decide +kernel), List.mem_of_getElem? (i := 874) (by decide +kernel), List.mem_of_getElem? (i := 875) (by decide +kernel)⟩
theorem lw_p36 : lw_okq (⟨"EveningCloakModel", "goes", "()V"⟩, 15) := ⟨⟨by decide +kernel, by decide +kernel⟩, List.mem_of_getElem? (i := 690) (by decide +kernel), List.mem_of_getElem? (i := 878) (by decide +kernel), List.mem_of_getElem? (i := 879) (by decide +kernel)⟩
theorem lw_p37 : lw_okq (⟨"EveningCloakModel", "stands", "(II)V"⟩, 15) := ⟨⟨by decide +kernel, by decide +kernel⟩, List.mem_of_getElem? (i := 690) (by decide +kernel), List.mem_of_getElem? (i := 882) (by decide +kernel), List.mem_of_getElem? (i := 883) (by decide +kernel)⟩
theorem lw_p38 : lw_okq (⟨"EveningCloakModel", "allCost", "()I"⟩, 15) := ⟨⟨by decide +kernel, by decide +kernel⟩, List.mem_of_getElem? (i := 690) (by decide +kernel), List.mem_of_getElem? (i := 886) (by decide +kernel), List.mem_of_getElem? (i := 887) (by decide +kernel)⟩
theorem lw_p39 : lw_okq (⟨"EveningCloakModel", "sums", "(I)I"⟩, 15) := ⟨⟨by decide +kernel, by decide +kernel⟩, List.mem_of_getElem? (i := 690) (by decide +kernel), List.mem_of_getElem? (i := 894) (by decide +kernel), List.mem_of_getElem? (i := 895) (by decide +kernel)⟩
theorem lw_p40 : lw_okq (⟨"EveningCloakModel", "goneOnes", "()I"⟩, 15) := ⟨⟨by decide +kernel, by decide +kernel⟩, List.mem_of_getElem? (i := 690) (by decide +kernel), List.mem_of_getElem? (i := 898) (by decide +kernel), List.mem_of_getElem? (i := 899) (by decide +kernel)⟩
theorem lw_p41 : lw_okq (⟨"EveningCloakModel", "darkOnes", "()I"⟩, 15) := ⟨⟨by decide +kernel, by decide +kernel⟩, List.mem_of_getElem? (i := 690) (by decide +kernel), List.mem_of_getElem? (i := 902) (by decide +kernel), List.mem_of_getElem? (i := 903) (by decide +kernel)⟩
theorem lw_p42 : lw_okq (⟨"EveningCloakModel", "lightest", "()I"⟩, 15) := ⟨⟨by decide +kernel, by decide +kernel⟩, List.mem_of_getElem? (i := 690) (by decide +kernel), List.mem_of_getElem? (i := 906) (by decide +kernel), List.mem_of_getElem? (i := 907) (by decide +kernel)⟩
theorem lw_p43 : lw_okq (⟨"EveningCloakModel", "thinks", "()V"⟩, 15) := ⟨⟨by decide +kernel, by decide +kernel⟩, List.mem_of_getElem? (i := 690) (by decide +kernel), List.mem_of_getElem? (i := 914) (by decide +kernel), List.mem_of_getElem? (i := 915) (by decide +kernel)⟩
theorem lw_p44 : lw_okq (⟨"EveningCloakModel", "putsBack", "()V"⟩, 15) := ⟨⟨by decide +kernel, by decide +kernel⟩, List.mem_of_getElem? (i := 690) (by decide +kernel), List.mem_of_getElem? (i := 921) (by decide +kernel), List.mem_of_getElem? (i := 922) (by decide +kernel)⟩
theorem lw_p45 : lw_okq (⟨"EveningCloakModel", "muchIn", "(II)I"⟩, 15) := ⟨⟨by decide +kernel, by decide +kernel⟩, List.mem_of_getElem? (i := 690) (by decide +kernel), List.mem_of_getElem? (i := 937) (by decide +kernel), List.mem_of_getElem? (i := 938) (by decide +kernel)⟩
theorem lw_p46 : lw_okq (⟨"EveningCloakModel", "mostBy", "(IIII)I"⟩, 15) := ⟨⟨by decide +kernel, by decide +kernel⟩, List.mem_of_getElem? (i := 690) (by decide +kernel), List.mem_of_getElem? (i := 953) (by decide +kernel), List.mem_of_getElem? (i := 954) (by decide +kernel)⟩
theorem lw_p47 : lw_okq (⟨"EveningCloakModel", "metBehind", "(I)I"⟩, 15) := ⟨⟨by decide +kernel, by decide +kernel⟩, List.mem_of_getElem? (i := 690) (by decide +kernel), List.mem_of_getElem? (i := 957) (by decide +kernel), List.mem_of_getElem? (i := 958) (by decide +kernel)⟩
def lw_privs_3 : List (MethodName × Nat) := [(⟨"EveningCloakModel", "isGirl", "(I)Z"⟩, 15), (⟨"EveningCloakModel", "her", "(II)I"⟩, 15), (⟨"EveningCloakModel", "orNone", "(I)I"⟩, 15), (⟨"EveningCloakModel", "goesFor", "(I)V"⟩, 15), (⟨"EveningCloakModel", "goes", "()V"⟩, 15), (⟨"EveningCloakModel", "stands", "(II)V"⟩, 15), (⟨"EveningCloakModel", "allCost", "()I"⟩, 15), (⟨"EveningCloakModel", "sums", "(I)I"⟩, 15), (⟨"EveningCloakModel", "goneOnes", "()I"⟩, 15), (⟨"EveningCloakModel", "darkOnes", "()I"⟩, 15), (⟨"EveningCloakModel", "lightest", "()I"⟩, 15), (⟨"EveningCloakModel", "thinks", "()V"⟩, 15), (⟨"EveningCloakModel", "putsBack", "()V"⟩, 15), (⟨"EveningCloakModel", "muchIn", "(II)I"⟩, 15), (⟨"EveningCloakModel", "mostBy", "(IIII)I"⟩, 15), (⟨"EveningCloakModel", "metBehind", "(I)I"⟩, 15)]
theorem lw_r3 : ∀ q ∈ lw_privs_3, lw_okq q := List.forall_mem_cons.mpr ⟨lw_p32, List.forall_mem_cons.mpr ⟨lw_p33, List.forall_mem_cons.mpr ⟨lw_p34, List.forall_mem_cons.mpr ⟨lw_p35, List.forall_mem_cons.mpr ⟨lw_p36, List.forall_mem_cons.mpr ⟨lw_p37, List.forall_mem_cons.mpr ⟨lw_p38, List.forall_mem_cons.mpr ⟨lw_p39, List.forall_mem_cons.mpr ⟨lw_p40, List.forall_mem_cons.mpr ⟨lw_p41, List.forall_mem_cons.mpr ⟨lw_p42, List.forall_mem_cons.mpr ⟨lw_p43, List.forall_mem_cons.mpr ⟨lw_p44, List.forall_mem_cons.mpr ⟨lw_p45, List.forall_mem_cons.mpr ⟨lw_p46, List.forall_mem_cons.mpr ⟨lw_p47, fun _ h => absurd h List.not_mem_nil⟩⟩⟩⟩⟩⟩⟩⟩⟩⟩⟩⟩⟩⟩⟩⟩
theorem lw_p48 : lw_okq (⟨"EveningCloakModel", "isAsNow", "(II)Z"⟩, 15) := ⟨⟨by decide +kernel, by decide +kernel⟩, List.mem_of_getElem? (i := 690) (by decide +kernel), List.mem_of_getElem? (i := 980) (by decide +kernel), List.mem_of_getElem? (i := 981) (by decide +kernel)⟩
theorem lw_p49 : lw_okq (⟨"EveningCloakModel", "notAsked", "(II)I"⟩, 15) := ⟨⟨by decide +kernel, by decide +kernel⟩, List.mem_of_getElem? (i := 690) (by decide +kernel), List.mem_of_getElem? (i := 988) (by decide +kernel), List.mem_of_getElem? (i := 989) (by decide +kernel)⟩
theorem lw_p50 : lw_okq (⟨"EveningCloakModel", "notThere", "(I)I"⟩, 15) := ⟨⟨by decide +kernel, by decide +kernel⟩, List.mem_of_getElem? (i := 690) (by decide +kernel), List.mem_of_getElem? (i := 992) (by decide +kernel), List.mem_of_getElem? (i := 993) (by decide +kernel)⟩
theorem lw_p51 : lw_okq (⟨"EveningCloakModel", "allowed", "(III)I"⟩, 15) := ⟨⟨by decide +kernel, by decide +kernel⟩, List.mem_of_getElem? (i := 690) (by decide +kernel), List.mem_of_getElem? (i := 1000) (by decide +kernel), List.mem_of_getElem? (i := 1001) (by decide +kernel)⟩
theorem lw_p52 : lw_okq (⟨"EveningCloakModel", "isTold", "(I)Z"⟩, 15) := ⟨⟨by decide +kernel, by decide +kernel⟩, List.mem_of_getElem? (i := 690) (by decide +kernel), List.mem_of_getElem? (i := 1004) (by decide +kernel), List.mem_of_getElem? (i := 1005) (by decide +kernel)⟩
theorem lw_p53 : lw_okq (⟨"EveningCloakModel", "draw", "()I"⟩, 15) := ⟨⟨by decide +kernel, by decide +kernel⟩, List.mem_of_getElem? (i := 690) (by decide +kernel), List.mem_of_getElem? (i := 1016) (by decide +kernel), List.mem_of_getElem? (i := 1017) (by decide +kernel)⟩
theorem lw_p54 : lw_okq (⟨"EveningCloakModel", "reads", "()V"⟩, 15) := ⟨⟨by decide +kernel, by decide +kernel⟩, List.mem_of_getElem? (i := 690) (by decide +kernel), List.mem_of_getElem? (i := 1043) (by decide +kernel), List.mem_of_getElem? (i := 1044) (by decide +kernel)⟩
theorem lw_p55 : lw_okq (⟨"EveningCloakModel", "isByte", "(III)Z"⟩, 15) := ⟨⟨by decide +kernel, by decide +kernel⟩, List.mem_of_getElem? (i := 690) (by decide +kernel), List.mem_of_getElem? (i := 1047) (by decide +kernel), List.mem_of_getElem? (i := 1048) (by decide +kernel)⟩
theorem lw_p56 : lw_okq (⟨"EveningCloakModel", "wordHere", "()I"⟩, 15) := ⟨⟨by decide +kernel, by decide +kernel⟩, List.mem_of_getElem? (i := 690) (by decide +kernel), List.mem_of_getElem? (i := 1051) (by decide +kernel), List.mem_of_getElem? (i := 1052) (by decide +kernel)⟩
theorem lw_p57 : lw_okq (⟨"EveningCloakModel", "isName", "(II)Z"⟩, 15) := ⟨⟨by decide +kernel, by decide +kernel⟩, List.mem_of_getElem? (i := 690) (by decide +kernel), List.mem_of_getElem? (i := 1055) (by decide +kernel), List.mem_of_getElem? (i := 1056) (by decide +kernel)⟩
theorem lw_p58 : lw_okq (⟨"EveningCloakModel", "item", "()V"⟩, 15) := ⟨⟨by decide +kernel, by decide +kernel⟩, List.mem_of_getElem? (i := 690) (by decide +kernel), List.mem_of_getElem? (i := 1061) (by decide +kernel), List.mem_of_getElem? (i := 1062) (by decide +kernel)⟩
theorem lw_p59 : lw_okq (⟨"EveningCloakModel", "depositItem", "()V"⟩, 15) := ⟨⟨by decide +kernel, by decide +kernel⟩, List.mem_of_getElem? (i := 690) (by decide +kernel), List.mem_of_getElem? (i := 1065) (by decide +kernel), List.mem_of_getElem? (i := 1066) (by decide +kernel)⟩
theorem lw_p60 : lw_okq (⟨"EveningCloakModel", "perhaps", "(IIII)I"⟩, 15) := ⟨⟨by decide +kernel, by decide +kernel⟩, List.mem_of_getElem? (i := 690) (by decide +kernel), List.mem_of_getElem? (i := 1069) (by decide +kernel), List.mem_of_getElem? (i := 1070) (by decide +kernel)⟩
theorem lw_p61 : lw_okq (⟨"EveningCloakModel", "takes", "(I)Z"⟩, 15) := ⟨⟨by decide +kernel, by decide +kernel⟩, List.mem_of_getElem? (i := 690) (by decide +kernel), List.mem_of_getElem? (i := 1073) (by decide +kernel), List.mem_of_getElem? (i := 1074) (by decide +kernel)⟩
theorem lw_p62 : lw_okq (⟨"EveningCloakModel", "number", "(II)I"⟩, 15) := ⟨⟨by decide +kernel, by decide +kernel⟩, List.mem_of_getElem? (i := 690) (by decide +kernel), List.mem_of_getElem? (i := 1077) (by decide +kernel), List.mem_of_getElem? (i := 1078) (by decide +kernel)⟩
theorem lw_p63 : lw_okq (⟨"EveningCloakModel", "girlItem", "()V"⟩, 15) := ⟨⟨by decide +kernel, by decide +kernel⟩, List.mem_of_getElem? (i := 690) (by decide +kernel), List.mem_of_getElem? (i := 1081) (by decide +kernel), List.mem_of_getElem? (i := 1082) (by decide +kernel)⟩
def lw_privs_4 : List (MethodName × Nat) := [(⟨"EveningCloakModel", "isAsNow", "(II)Z"⟩, 15), (⟨"EveningCloakModel", "notAsked", "(II)I"⟩, 15), (⟨"EveningCloakModel", "notThere", "(I)I"⟩, 15), (⟨"EveningCloakModel", "allowed", "(III)I"⟩, 15), (⟨"EveningCloakModel", "isTold", "(I)Z"⟩, 15), (⟨"EveningCloakModel", "draw", "()I"⟩, 15), (⟨"EveningCloakModel", "reads", "()V"⟩, 15), (⟨"EveningCloakModel", "isByte", "(III)Z"⟩, 15), (⟨"EveningCloakModel", "wordHere", "()I"⟩, 15), (⟨"EveningCloakModel", "isName", "(II)Z"⟩, 15), (⟨"EveningCloakModel", "item", "()V"⟩, 15), (⟨"EveningCloakModel", "depositItem", "()V"⟩, 15), (⟨"EveningCloakModel", "perhaps", "(IIII)I"⟩, 15), (⟨"EveningCloakModel", "takes", "(I)Z"⟩, 15), (⟨"EveningCloakModel", "number", "(II)I"⟩, 15), (⟨"EveningCloakModel", "girlItem", "()V"⟩, 15)]
theorem lw_r4 : ∀ q ∈ lw_privs_4, lw_okq q := List.forall_mem_cons.mpr ⟨lw_p48, List.forall_mem_cons.mpr ⟨lw_p49, List.forall_mem_cons.mpr ⟨lw_p50, List.forall_mem_cons.mpr ⟨lw_p51, List.forall_mem_cons.mpr ⟨lw_p52, List.forall_mem_cons.mpr ⟨lw_p53, List.forall_mem_cons.mpr ⟨lw_p54, List.forall_mem_cons.mpr ⟨lw_p55, List.forall_mem_cons.mpr ⟨lw_p56, List.forall_mem_cons.mpr ⟨lw_p57, List.forall_mem_cons.mpr ⟨lw_p58, List.forall_mem_cons.mpr ⟨lw_p59, List.forall_mem_cons.mpr ⟨lw_p60, List.forall_mem_cons.mpr ⟨lw_p61, List.forall_mem_cons.mpr ⟨lw_p62, List.forall_mem_cons.mpr ⟨lw_p63, fun _ h => absurd h List.not_mem_nil⟩⟩⟩⟩⟩⟩⟩⟩⟩⟩⟩⟩⟩⟩⟩⟩
theorem lw_p64 : lw_okq (⟨"EveningCloakModel", "standItem", "()V"⟩, 15) := ⟨⟨by decide +kernel, by decide +kernel⟩, List.mem_of_getElem? (i := 690) (by decide +kernel), List.mem_of_getElem? (i := 1085) (by decide +kernel), List.mem_of_getElem? (i := 1086) (by decide +kernel)⟩
theorem lw_p65 : lw_okq (⟨"EveningCloakModel", "notCopied", "(IIIII)I"⟩, 15) := ⟨⟨by decide +kernel, by decide +kernel⟩, List.mem_of_getElem? (i := 690) (by decide +kernel), List.mem_of_getElem? (i := 1114) (by decide +kernel), List.mem_of_getElem? (i := 1115) (by decide +kernel)⟩
theorem lw_p66 : lw_okq (⟨"EveningCloakModel", "manyHeld", "()I"⟩, 15) := ⟨⟨by decide +kernel, by decide +kernel⟩, List.mem_of_getElem? (i := 690) (by decide +kernel), List.mem_of_getElem? (i := 1142) (by decide +kernel), List.mem_of_getElem? (i := 1143) (by decide +kernel)⟩
def lw_privs_5 : List (MethodName × Nat) := [(⟨"EveningCloakModel", "standItem", "()V"⟩, 15), (⟨"EveningCloakModel", "notCopied", "(IIIII)I"⟩, 15), (⟨"EveningCloakModel", "manyHeld", "()I"⟩, 15)]
theorem lw_r5 : ∀ q ∈ lw_privs_5, lw_okq q := List.forall_mem_cons.mpr ⟨lw_p64, List.forall_mem_cons.mpr ⟨lw_p65, List.forall_mem_cons.mpr ⟨lw_p66, fun _ h => absurd h List.not_mem_nil⟩⟩⟩
def lw_privs : List (MethodName × Nat) := lw_privs_1 ++ (lw_privs_2 ++ (lw_privs_3 ++ (lw_privs_4 ++ (lw_privs_5))))
def lw_tbl : List Cond := k2_sels lw_privs ++ tables_1
theorem lw_privs_ok : ∀ q ∈ lw_privs, lw_okq q := by
  show ∀ q ∈ lw_privs_1 ++ (lw_privs_2 ++ (lw_privs_3 ++ (lw_privs_4 ++ (lw_privs_5)))), lw_okq q
  exact List.forall_mem_append.mpr ⟨lw_r1, List.forall_mem_append.mpr ⟨lw_r2, List.forall_mem_append.mpr ⟨lw_r3, List.forall_mem_append.mpr ⟨lw_r4, lw_r5⟩⟩⟩⟩
end
section
/-! NAMES of the program, printed by wip/whole/gen/names.py: classes by number, their fields by slot, where each word stands in the table -/
def Rn : Nat → String := fun k => match k with
  | 0 => "EveningCloak"
  | 1 => "EveningCloak$Reader"
  | 2 => "EveningCloak$Room"
  | 3 => "EveningCloak$Sheet"
  | 4 => "EveningCloakModel"
  | 5 => "java/lang/Integer"
  | 6 => "java/util/Arrays"
  | 7 => "java/lang/String"
  | 8 => "java/lang/StringLatin1"
  | 9 => "java/lang/Math"
  | 10 => "java/lang/System"
  | _ => "EveningCloakLaw"
def T0 : u_T := fun k => match k with
  | 0 => ("EveningCloak", "room", "LEveningCloak$Room;", true)
  | 1 => ("EveningCloak", "trial", "LEveningCloak$Room;", true)
  | 2 => ("EveningCloak", "latest", "LEveningCloak$Room;", true)
  | 3 => ("EveningCloak", "latestKept", "Z", false)
  | 4 => ("EveningCloak", "reader", "LEveningCloak$Reader;", true)
  | 5 => ("EveningCloak", "sheets", "[LEveningCloak$Sheet;", true)
  | _ => ("EveningCloak", "found", "[I", true)
def ty0 : Nat → FieldType := fun k => match k with
  | 0 => .object "EveningCloak$Room"
  | 1 => .object "EveningCloak$Room"
  | 2 => .object "EveningCloak$Room"
  | 3 => .boolean
  | 4 => .object "EveningCloak$Reader"
  | 5 => .array (.object "EveningCloak$Sheet")
  | _ => .array .int
def T1 : u_T := fun k => match k with
  | 0 => ("EveningCloak$Reader", "bytes", "[I", true)
  | 1 => ("EveningCloak$Reader", "count", "I", false)
  | 2 => ("EveningCloak$Reader", "token", "I", false)
  | 3 => ("EveningCloak$Reader", "start", "I", false)
  | 4 => ("EveningCloak$Reader", "behind", "I", false)
  | _ => ("EveningCloak$Reader", "number", "I", false)
def ty1 : Nat → FieldType := fun k => match k with
  | 0 => .array .int
  | 1 => .int
  | 2 => .int
  | 3 => .int
  | 4 => .int
  | _ => .int
def T2 : u_T := fun k => match k with
  | 0 => ("EveningCloak$Room", "day", "I", false)
  | 1 => ("EveningCloak$Room", "fees", "I", false)
  | 2 => ("EveningCloak$Room", "z", "I", false)
  | 3 => ("EveningCloak$Room", "deposits", "I", false)
  | 4 => ("EveningCloak$Room", "girls", "I", false)
  | 5 => ("EveningCloak$Room", "list", "[I", true)
  | 6 => ("EveningCloak$Room", "kind", "[I", true)
  | 7 => ("EveningCloak$Room", "hanger", "[I", true)
  | 8 => ("EveningCloak$Room", "stub", "[I", true)
  | 9 => ("EveningCloak$Room", "kept", "[I", true)
  | 10 => ("EveningCloak$Room", "worn", "[I", true)
  | 11 => ("EveningCloak$Room", "out", "[I", true)
  | 12 => ("EveningCloak$Room", "dream", "[I", true)
  | 13 => ("EveningCloak$Room", "hope", "[I", true)
  | 14 => ("EveningCloak$Room", "met", "[I", true)
  | _ => ("EveningCloak$Room", "spots", "[I", true)
def ty2 : Nat → FieldType := fun k => match k with
  | 0 => .int
  | 1 => .int
  | 2 => .int
  | 3 => .int
  | 4 => .int
  | 5 => .array .int
  | 6 => .array .int
  | 7 => .array .int
  | 8 => .array .int
  | 9 => .array .int
  | 10 => .array .int
  | 11 => .array .int
  | 12 => .array .int
  | 13 => .array .int
  | 14 => .array .int
  | _ => .array .int
def T3 : u_T := fun k => match k with
  | 0 => ("EveningCloak$Sheet", "bits", "I", false)
  | 1 => ("EveningCloak$Sheet", "size", "I", false)
  | _ => ("EveningCloak$Sheet", "numbers", "[I", true)
def ty3 : Nat → FieldType := fun k => match k with
  | 0 => .int
  | 1 => .int
  | _ => .array .int
def T4 : u_T := fun k => match k with
  | 0 => ("EveningCloakModel", "m", "[I", true)
  | 1 => ("EveningCloakModel", "kept", "[I", true)
  | 2 => ("EveningCloakModel", "was", "[I", true)
  | 3 => ("EveningCloakModel", "isKept", "Z", false)
  | 4 => ("EveningCloakModel", "found", "[I", true)
  | 5 => ("EveningCloakModel", "bitsOf", "[I", true)
  | 6 => ("EveningCloakModel", "sizeOf", "[I", true)
  | 7 => ("EveningCloakModel", "cells", "[I", true)
  | 8 => ("EveningCloakModel", "tape", "[I", true)
  | 9 => ("EveningCloakModel", "taped", "I", false)
  | 10 => ("EveningCloakModel", "token", "I", false)
  | 11 => ("EveningCloakModel", "begin", "I", false)
  | 12 => ("EveningCloakModel", "at", "I", false)
  | 13 => ("EveningCloakModel", "value", "I", false)
  | _ => ("EveningCloakModel", "bad", "Z", false)
def ty4 : Nat → FieldType := fun k => match k with
  | 0 => .array .int
  | 1 => .array .int
  | 2 => .array .int
  | 3 => .boolean
  | 4 => .array .int
  | 5 => .array .int
  | 6 => .array .int
  | 7 => .array .int
  | 8 => .array .int
  | 9 => .int
  | 10 => .int
  | 11 => .int
  | 12 => .int
  | 13 => .int
  | _ => .boolean
def Tn : Nat → u_T := fun k => match k with
  | 0 => T0
  | 1 => T1
  | 2 => T2
  | 3 => T3
  | _ => T4
def tyn : Nat → Nat → FieldType := fun k => match k with
  | 0 => ty0
  | 1 => ty1
  | 2 => ty2
  | 3 => ty3
  | _ => ty4
def Nn : Nat → Nat := fun k => match k with
  | 0 => 7
  | 1 => 6
  | 2 => 16
  | 3 => 3
  | _ => 15
def lg : List Cond := lw_tbl.filter goodWord
theorem lg_all : lg.all goodWord = true := List.all_eq_true.mpr fun w h => (List.mem_filter.mp h).2
theorem lgm {w : Cond} (i : Nat) (h : lw_tbl[i]? = some w) (hg : goodWord w = true) : w ∈ lg := List.mem_filter.mpr ⟨List.mem_of_getElem? h, hg⟩
abbrev cls : List vw_C := [(Rn 0, Tn 0, Nn 0), (Rn 1, Tn 1, Nn 1), (Rn 2, Tn 2, Nn 2), (Rn 3, Tn 3, Nn 3), (Rn 4, Tn 4, Nn 4)]
theorem cls_at {ci : Nat} (h : ci < 5) : cls[ci]? = some (Rn ci, Tn ci, Nn ci) := by
  rcases (show ci = 0 ∨ ci = 1 ∨ ci = 2 ∨ ci = 3 ∨ ci = 4 by omega) with rfl | rfl | rfl | rfl | rfl <;> rfl
theorem nm0 : ∀ a, a < Nn 0 → ∀ b, b < Nn 0 → a ≠ b → (Tn 0 a).2.1 ≠ (Tn 0 b).2.1 := by decide +kernel
theorem tok0 : ∀ k, k < Nn 0 → parseFieldDescriptor (Tn 0 k).2.2.1 = some (tyn 0 k) := by decide +kernel
theorem inA0 : ∀ k, k < Nn 0 → lw_tbl[(([224, 226, 228, 230, 232, 234, 236] : List Nat).getD k 0)]? = some (u_lay (Rn 0) (Tn 0) k) ∧ goodWord (u_lay (Rn 0) (Tn 0) k) = true := by decide +kernel
theorem nm1 : ∀ a, a < Nn 1 → ∀ b, b < Nn 1 → a ≠ b → (Tn 1 a).2.1 ≠ (Tn 1 b).2.1 := by decide +kernel
theorem tok1 : ∀ k, k < Nn 1 → parseFieldDescriptor (Tn 1 k).2.2.1 = some (tyn 1 k) := by decide +kernel
theorem inA1 : ∀ k, k < Nn 1 → lw_tbl[(([184, 186, 188, 190, 192, 194] : List Nat).getD k 0)]? = some (u_lay (Rn 1) (Tn 1) k) ∧ goodWord (u_lay (Rn 1) (Tn 1) k) = true := by decide +kernel
theorem nm2 : ∀ a, a < Nn 2 → ∀ b, b < Nn 2 → a ≠ b → (Tn 2 a).2.1 ≠ (Tn 2 b).2.1 := by decide +kernel
theorem tok2 : ∀ k, k < Nn 2 → parseFieldDescriptor (Tn 2 k).2.2.1 = some (tyn 2 k) := by decide +kernel
theorem inA2 : ∀ k, k < Nn 2 → lw_tbl[(([137, 139, 141, 143, 145, 147, 149, 151, 153, 155, 157, 159, 161, 163, 165, 167] : List Nat).getD k 0)]? = some (u_lay (Rn 2) (Tn 2) k) ∧ goodWord (u_lay (Rn 2) (Tn 2) k) = true := by decide +kernel
theorem nm3 : ∀ a, a < Nn 3 → ∀ b, b < Nn 3 → a ≠ b → (Tn 3 a).2.1 ≠ (Tn 3 b).2.1 := by decide +kernel
theorem tok3 : ∀ k, k < Nn 3 → parseFieldDescriptor (Tn 3 k).2.2.1 = some (tyn 3 k) := by decide +kernel
theorem inA3 : ∀ k, k < Nn 3 → lw_tbl[(([210, 212, 214] : List Nat).getD k 0)]? = some (u_lay (Rn 3) (Tn 3) k) ∧ goodWord (u_lay (Rn 3) (Tn 3) k) = true := by decide +kernel
theorem nm4 : ∀ a, a < Nn 4 → ∀ b, b < Nn 4 → a ≠ b → (Tn 4 a).2.1 ≠ (Tn 4 b).2.1 := by decide +kernel
theorem tok4 : ∀ k, k < Nn 4 → parseFieldDescriptor (Tn 4 k).2.2.1 = some (tyn 4 k) := by decide +kernel
theorem inA4 : ∀ k, k < Nn 4 → lw_tbl[(([777, 779, 781, 783, 785, 787, 789, 791, 793, 795, 797, 799, 801, 803, 805] : List Nat).getD k 0)]? = some (u_lay (Rn 4) (Tn 4) k) ∧ goodWord (u_lay (Rn 4) (Tn 4) k) = true := by decide +kernel
theorem fiveQ {P : Nat → Prop} (h0 : P 0) (h1 : P 1) (h2 : P 2) (h3 : P 3) (h4 : P 4) {ci : Nat} (h : ci < 5) : P ci := by
  rcases (show ci = 0 ∨ ci = 1 ∨ ci = 2 ∨ ci = 3 ∨ ci = 4 by omega) with rfl | rfl | rfl | rfl | rfl <;> assumption
theorem nmn {ci : Nat} (h : ci < 5) : ∀ a, a < Nn ci → ∀ b, b < Nn ci → a ≠ b → (Tn ci a).2.1 ≠ (Tn ci b).2.1 := fiveQ (P := fun ci => ∀ a, a < Nn ci → ∀ b, b < Nn ci → a ≠ b → (Tn ci a).2.1 ≠ (Tn ci b).2.1) nm0 nm1 nm2 nm3 nm4 h
theorem tokn {ci : Nat} (h : ci < 5) : ∀ k, k < Nn ci → parseFieldDescriptor (Tn ci k).2.2.1 = some (tyn ci k) := fiveQ (P := fun ci => ∀ k, k < Nn ci → parseFieldDescriptor (Tn ci k).2.2.1 = some (tyn ci k)) tok0 tok1 tok2 tok3 tok4 h
theorem inn0 {ci : Nat} {f : Nat → Nat} (h : ∀ k, k < Nn ci → lw_tbl[f k]? = some (u_lay (Rn ci) (Tn ci) k) ∧ goodWord (u_lay (Rn ci) (Tn ci) k) = true) : ∀ w ∈ u_ws (Rn ci) (Tn ci) (Nn ci), w ∈ lg := by
  intro w hw
  obtain ⟨k, hk, rfl⟩ := List.mem_map.mp hw
  exact lgm _ (h k (List.mem_range.mp hk)).1 (h k (List.mem_range.mp hk)).2
theorem inn {ci : Nat} (h : ci < 5) : ∀ w ∈ u_ws (Rn ci) (Tn ci) (Nn ci), w ∈ lg := fiveQ (P := fun ci => ∀ w ∈ u_ws (Rn ci) (Tn ci) (Nn ci), w ∈ lg) (inn0 inA0) (inn0 inA1) (inn0 inA2) (inn0 inA3) (inn0 inA4) h
def nst : List (String × Nat × MethodName × String) := [("EveningCloak", 24, ⟨"EveningCloak$Reader", "<init>", "()V"⟩, "EveningCloak"), ("EveningCloak", 39, ⟨"EveningCloak$Sheet", "<init>", "()V"⟩, "EveningCloak"), ("EveningCloak$Room", 73, ⟨"EveningCloak", "within", "(III)Z"⟩, "EveningCloak"), ("EveningCloak$Room", 94, ⟨"EveningCloak", "standOf", "(II)I"⟩, "EveningCloak"), ("EveningCloak$Reader", 115, ⟨"EveningCloak", "within", "(III)Z"⟩, "EveningCloak"), ("EveningCloak$Reader", 112, ⟨"EveningCloak", "standOf", "(II)I"⟩, "EveningCloak")]
def strs : List (Nat × Nat × String) := [(1, 35, "girl"), (1, 105, "hope"), (1, 44, "stand"), (1, 141, "coat"), (1, 143, "evening"), (1, 145, "hat"), (1, 147, "dusk"), (1, 149, "moon"), (1, 151, "umbrella"), (1, 153, "topper"), (1, 66, "on"), (1, 75, "stub"), (1, 79, "kept"), (1, 83, "worn"), (1, 87, "out")]
def slen : List Nat := [4, 4, 5, 4, 7, 3, 4, 4, 8, 6, 2, 4, 4, 4, 3]
def sbyt : List (List Int32) := [[103, 105, 114, 108], [104, 111, 112, 101], [115, 116, 97, 110, 100], [99, 111, 97, 116], [101, 118, 101, 110, 105, 110, 103], [104, 97, 116], [100, 117, 115, 107], [109, 111, 111, 110], [117, 109, 98, 114, 101, 108, 108, 97], [116, 111, 112, 112, 101, 114], [111, 110], [115, 116, 117, 98], [107, 101, 112, 116], [119, 111, 114, 110], [111, 117, 116]]
def sarr : List (String × String × List Int32) := [("EveningCloak", "MOST_OF", [6, 15, 99, 9999, 99, 1]), ("EveningCloak", "LEAST_OF_GIRL", [0, 1, 0]), ("EveningCloak", "MOST_OF_GIRL", [99, 99, 9999]), ("EveningCloak", "ABOVE", [-1, 0, 0, 1, 3, 0, 2]), ("EveningCloakModel", "NAMES", [99, 111, 97, 116, 0, 0, 0, 0, 101, 118, 101, 110, 105, 110, 103, 0, 104, 97, 116, 0, 0, 0, 0, 0, 100, 117, 115, 107, 0, 0, 0, 0, 109, 111, 111, 110, 0, 0, 0, 0, 117, 109, 98, 114, 101, 108, 108, 97, 116, 111, 112, 112, 101, 114, 0, 0, 111, 110, 0, 0, 0, 0, 0, 0, 115, 116, 117, 98, 0, 0, 0, 0, 107, 101, 112, 116, 0, 0, 0, 0, 119, 111, 114, 110, 0, 0, 0, 0, 111, 117, 116, 0, 0, 0, 0, 0, 103, 105, 114, 108, 0, 0, 0, 0, 104, 111, 112, 101, 0, 0, 0, 0, 115, 116, 97, 110, 100, 0, 0, 0])]
end
section
/-! THE CORE: an abstract world (a list of cells, a cell's place is its abstract address), a frame's abstract locals and stack, and the judgement Sm: from every machine state that shows them the goal is reached -/
abbrev A_E : Type := (Nat × (Nat → Int32)) ⊕ ((Nat × (Nat → Option Nat)) ⊕ (Nat × List Value))
abbrev A_W : Type := List A_E
abbrev A_R : Type := List (Option Value)
abbrev Gx : Type := Launch × Nat × va_G × ClassId × ClassId × (Nat → Nat)
def gL (G : Gx) : Launch := G.1
def gB (G : Gx) : Nat := G.2.1
def gD (G : Gx) : va_G := G.2.2.1
def gI (G : Gx) : ClassId := G.2.2.2.1
def gS (G : Gx) : ClassId := G.2.2.2.2.1
def gT (G : Gx) : Nat → Nat := G.2.2.2.2.2
def gA (G : Gx) : Nat → Prop := fun q => gB G ≤ q
def ad (G : Gx) (k : Nat) : Nat := if k < 1000000 then gB G + k else gT G (k - 1000000)
def rl (G : Gx) : Value → Value
  | .ref a => .ref (ad G a)
  | v => v
def cn (G : Gx) : A_E → va_E
  | .inl (n, f) => .inl (gI G, n, .inl f)
  | .inr (.inl (n, g)) => .inl (gS G, n, .inr (.inr (.inr (.inr (fun i => (g i).map (ad G))))))
  | .inr (.inr (c, fs)) => .inr (c, fs.map (rl G))
def gY (G : Gx) : List (ClassId × FieldType) := [(gI G, .int), (gS G, .object (Rn 3))]
def WD (G : Gx) (w : A_W) (H : Heap) : Prop := H.size = gB G + w.length ∧ w.length ≤ 1000000 ∧ ∀ (k : Nat) (e : A_E), w[k]? = some e → va_at (gD G) cls (gB G + k, cn G e) H
theorem ad_lt {G : Gx} {k : Nat} (h : k < 1000000) : ad G k = gB G + k := if_pos h
theorem WD_ad {G : Gx} {w : A_W} {H : Heap} (h : WD G w H) {k : Nat} {e : A_E} (he : w[k]? = some e) : ad G k = gB G + k := ad_lt (Nat.lt_of_lt_of_le (List.getElem?_eq_some_iff.mp he).1 h.2.1)
theorem WD_at {G : Gx} {w : A_W} {H : Heap} (h : WD G w H) {k : Nat} {e : A_E} (he : w[k]? = some e) : va_at (gD G) cls (ad G k, cn G e) H := by
  rw [WD_ad h he]; exact h.2.2 k e he
theorem WD_P {G : Gx} {w : A_W} {H : Heap} (h : WD G w H) {k : Nat} {e : A_E} (he : w[k]? = some e) : va_P (gD G) cls [(ad G k, cn G e)] H := by
  intro j q hq
  match j, hq with
  | 0, hq => cases hq; exact WD_at h he
  | j + 1, hq => simp at hq
/-- one cell changes -/
theorem WD_set {G : Gx} {w : A_W} {H H1 : Heap} (h : WD G w H) {k : Nat} {e e1 : A_E} (he : w[k]? = some e) (z : H1.size = H.size) (o : ∀ q : Nat, q ≠ ad G k → H1[q]? = H[q]?) (h1 : va_at (gD G) cls (ad G k, cn G e1) H1) : WD G (w.set k e1) H1 := by
  refine ⟨by rw [z, h.1, List.length_set], by rw [List.length_set]; exact h.2.1, fun j x hx => ?_⟩
  by_cases hj : j = k
  · subst hj
    rw [List.getElem?_set_self (List.getElem?_eq_some_iff.mp he).1] at hx
    cases hx
    rw [← WD_ad h he]; exact h1
  · rw [List.getElem?_set_ne (Ne.symm hj)] at hx
    refine (h.2.2 j x hx).kept (o _ ?_)
    rw [WD_ad h he]
    show gB G + j ≠ gB G + k
    omega
/-- one cell comes -/
theorem WD_push {G : Gx} {w : A_W} {H H1 : Heap} (h : WD G w H) {e1 : A_E} (hl : w.length < 1000000) (z : H1.size = H.size + 1) (o : ∀ q : Nat, q < H.size → H1[q]? = H[q]?) (h1 : va_at (gD G) cls (H.size, cn G e1) H1) : WD G (w ++ [e1]) H1 := by
  refine ⟨by rw [z, h.1, List.length_append]; rfl, by rw [List.length_append]; exact hl, fun j x hx => ?_⟩
  by_cases hj : j < w.length
  · rw [List.getElem?_append_left hj] at hx
    exact (h.2.2 j x hx).kept (o _ (by show gB G + j < H.size; rw [h.1]; omega))
  · have hlt := (List.getElem?_eq_some_iff.mp hx).1
    rw [List.length_append] at hlt
    have : j = w.length := by simp at hlt; omega
    subst this
    rw [List.getElem?_append_right (Nat.le_refl _), Nat.sub_self] at hx
    cases hx
    rw [← h.1]; exact h1
/-- abstract addresses of the static rows, of the texts, of the texts' bytes -/
def aA (j : Nat) : Nat := 1000000 + j
def sA (j : Nat) : Nat := 1000100 + j
def sV (j : Nat) : Nat := 1000200 + j
/-- what stays of a state through every call: the classes' numbers, the nest's words, the static rows, the texts -/
def KK (G : Gx) (U : State) : Prop := va_K (gD G) cls (gY G) U ∧ (∀ q ∈ nst, va_Nw (.methodLinkNest q.1 q.2.1 q.2.2.1 q.2.2.2) U) ∧ (∀ (j : Nat) (q : String × String × List Int32), sarr[j]? = some q → va_Z q.1 q.2.1 "[I" (.ref (ad G (aA j))) (gA G) U U.heap ∧ va_T .int (ad G (aA j)) q.2.2.length (fun k => .int (q.2.2.getD k 0)) (gA G) U U.heap) ∧ (∀ (j : Nat) (q : Nat × Nat × String), strs[j]? = some q → vk_R (Rn q.1) q.2.1 q.2.2 (ad G (sA j)) U) ∧ vk_S 15 slen sbyt (fun j => ad G (sA j)) (fun j => ad G (sV j)) (gA G) U U.heap ∧ va_Z "java/lang/String" "COMPACT_STRINGS" "Z" (.int 1) (gA G) U U.heap ∧ va_AO (Rn 3) U
theorem KK.moved {G : Gx} {s U : State} (h : KK G s) (hW : s.WarmedH U.vm) (hq : ∀ a : Nat, a < s.heap.size → ¬ gA G a → U.heap[a]? = s.heap[a]?) : KK G U := by
  obtain ⟨h1, h2, h3, h4, h5, h6, h7⟩ := h
  exact ⟨va_K.moved hW.alike h1, fun q hm => va_Nw.warmM hW (h2 q hm), fun j q hj => ⟨((h3 j q hj).1.moved hW.alike).kept hq, ((h3 j q hj).2.moved hW.alike).kept hq⟩, fun j q hj => (h4 j q hj).warm hW, (h5.moved hW.alike).kept hq, (h6.moved hW.alike).kept hq, va_AO.moved hW.alike h7⟩
theorem KK.same {G : Gx} {s U : State} (h : KK G s) (hv : s.vm = U.vm) (hh : U.heap = s.heap) : KK G U := by
  obtain ⟨h1, h2, h3, h4, h5, h6, h7⟩ := h
  have ha : s.vm.Alike U.vm := by rw [← hv]; exact Vm.Alike.refl _
  have hq : ∀ a : Nat, a < s.heap.size → ¬ gA G a → U.heap[a]? = s.heap[a]? := fun a _ _ => by rw [hh]
  exact ⟨va_K.moved ha h1, fun q hm => (h2 q hm).same rfl hv, fun j q hj => ⟨((h3 j q hj).1.moved ha).kept hq, ((h3 j q hj).2.moved ha).kept hq⟩, fun j q hj => (h4 j q hj).same hv.symm, (h5.moved ha).kept hq, (h6.moved ha).kept hq, va_AO.moved ha h7⟩
/-- a frame's context: p, e, R, s, m, args, below, meth, c, Q -/
abbrev Cx : Type := Program × Env × Room × State × MethodId × Array Value × List Frame × Method × Code × (State → Prop)
def xP (X : Cx) : Program := X.1
def xE (X : Cx) : Env := X.2.1
def xR (X : Cx) : Room := X.2.2.1
def xS (X : Cx) : State := X.2.2.2.1
def xM (X : Cx) : MethodId := X.2.2.2.2.1
def xG (X : Cx) : Array Value := X.2.2.2.2.2.1
def xB (X : Cx) : List Frame := X.2.2.2.2.2.2.1
def xH (X : Cx) : Method := X.2.2.2.2.2.2.2.1
def xC (X : Cx) : Code := X.2.2.2.2.2.2.2.2.1
def xQ (X : Cx) : State → Prop := X.2.2.2.2.2.2.2.2.2
def lk : A_R → Nat → Option Value
  | [], _ => none
  | a :: _, 0 => a
  | _ :: t, n + 1 => lk t n
def sv : A_R → Nat → Option Value → A_R
  | [], _, _ => []
  | _ :: t, 0, v => v :: t
  | a :: t, n + 1, v => a :: sv t n v
theorem lk_sv (r : A_R) (i : Nat) (v : Option Value) (j : Nat) : lk (sv r i v) j = if j = i ∧ i < r.length then v else lk r j := by
  induction r generalizing i j with
  | nil => simp [sv, lk]
  | cons a t ih =>
    cases i with
    | zero => cases j <;> simp [sv, lk]
    | succ i => cases j with
      | zero => simp [sv, lk]
      | succ j => simp [sv, lk, ih]
theorem sv_len (r : A_R) (i : Nat) (v : Option Value) : (sv r i v).length = r.length := by
  induction r generalizing i with
  | nil => rfl
  | cons a t ih => cases i <;> simp [sv, ih]
theorem lk_lt {r : A_R} {i : Nat} {v : Value} (h : lk r i = some v) : i < r.length := by
  induction r generalizing i with
  | nil => simp [lk] at h
  | cons a t ih => cases i with
    | zero => simp
    | succ i => simpa using ih h
def LH (G : Gx) (ls : Array Slot) (r : A_R) : Prop := ls.size = r.length ∧ lv_wf ls ∧ ∀ (i : Nat) (v : Value), lk r i = some v → ls[i]? = some (.val (rl G v))
/-- the listed pairs of the locals -/
def prs (G : Gx) (r : A_R) : List (Nat × Value) := (List.range r.length).filterMap (fun i => (lk r i).map (fun v => (i, rl G v)))
theorem prs_mem {G : Gx} {r : A_R} {i : Nat} {x : Value} : (i, x) ∈ prs G r ↔ ∃ v, lk r i = some v ∧ x = rl G v := by
  unfold prs
  rw [List.mem_filterMap]
  constructor
  · rintro ⟨j, -, h⟩
    cases hl : lk r j with
    | none => rw [hl] at h; cases h
    | some v => rw [hl] at h; cases h; exact ⟨v, hl, rfl⟩
  · rintro ⟨v, h, rfl⟩
    exact ⟨i, List.mem_range.mpr (lk_lt h), by rw [h]; rfl⟩
theorem LH.has {G : Gx} {ls : Array Slot} {r : A_R} (h : LH G ls r) : lv_has ls r.length (prs G r) := ⟨h.1, h.2.1, fun q hq => by
  obtain ⟨v, h1, h2⟩ := prs_mem.mp (show (q.1, q.2) ∈ prs G r from hq)
  rw [h2]; exact h.2.2 _ _ h1⟩
theorem LH.of {G : Gx} {ls : Array Slot} {r : A_R} {l : List (Nat × Value)} (h : lv_has ls r.length l) (hr : ∀ (i : Nat) (v : Value), lk r i = some v → (i, rl G v) ∈ l) : LH G ls r := ⟨h.1, h.2.1, fun i v hv => h.2.2 _ (hr i v hv)⟩
/-- the judgement -/
def Sm (G : Gx) (X : Cx) (w : A_W) (nc ns : Nat) (r : A_R) (st : List Value) (pc : Nat) : Prop :=
  ∀ (H : Heap) (locs : List Loc) (ls : Array Slot), WD G w H → va_S (gA G) (xS X).heap H locs → LH G ls r → W (xP X) (gL G) (xE X) (xR X) (xS X) (xM X) (xG X) (xB X) (xH X) (xC X) H locs nc ns (xQ X) (F0 (xM X) pc ls (st.map (rl G)))
def Ok (G : Gx) (X : Cx) (own : Nat) (cc : ByteArray) (nL : Nat) (rt : Option FieldType) (rm : Room) : Prop :=
  (xP X).tables.exec = Jvm.exec ∧ (xC X).code = cc ∧ (xH X).sig.returnType = rt ∧ (xC X).maxLocals = nL ∧ (xS X).vm.findClass (Rn own) = some (xM X).cls ∧ (∀ w ∈ lg, w.before (xG X) (xS X) = true) ∧ KK G (xS X) ∧ (xH X).locks = false ∧ xR X = rm ∧ gB G ≤ (xS X).heap.size
end
section
/-! THE RULES of Sm: small steps that compute (t1, runL), and one rule for each other instruction -/
abbrev Ent : Type := Nat × Instr × Nat × Nat × Value × Nat × Nat × Nat
def vI (v : Value) (x : Int32) : Bool := match v with
  | .int y => decide (x = y)
  | _ => false
def vJ (v : Value) (x : Int64) : Bool := match v with
  | .long y => decide (x = y)
  | _ => false
def exF (own : Nat) (q : Ent) (idx : Nat) : Bool := decide (q.2.2.2.2.2.1 < 5) && (decide (q.2.2.2.2.2.2.1 < Nn q.2.2.2.2.2.1) && decide (lw_tbl[q.2.2.2.2.2.2.2]? = some (.fieldLink (Rn own) idx (Rn q.2.2.2.2.2.1) (Tn q.2.2.2.2.2.1 q.2.2.2.2.2.2.1).2.1 (Tn q.2.2.2.2.2.1 q.2.2.2.2.2.2.1).2.2.1)))
def exC (own : Nat) (q : Ent) (idx : Nat) : Bool := match q.2.2.2.2.1 with
  | .int v => decide (lw_tbl[q.2.2.2.2.2.2.2]? = some (.constant (Rn own) idx v))
  | .ref a => decide (a = sA q.2.2.2.2.2.2.1) && (match strs[q.2.2.2.2.2.2.1]? with
    | some z => decide (z.1 = own) && decide (z.2.1 = idx)
    | none => false)
  | _ => false
def exG (own : Nat) (q : Ent) (idx : Nat) : Bool := match q.2.2.2.2.1 with
  | .ref a => decide (a = aA q.2.2.2.2.2.2.1) && (match sarr[q.2.2.2.2.2.2.1]? with
    | some z => decide (lw_tbl[q.2.2.2.2.2.2.2]? = some (.fieldLink (Rn own) idx z.1 z.2.1 "[I"))
    | none => false)
  | _ => false
def exL (own : Nat) (q : Ent) (idx : Nat) : Bool := match q.2.2.2.2.1 with
  | .long v => decide (lw_tbl[q.2.2.2.2.2.2.2]? = some (.constantLong (Rn own) idx v))
  | _ => false
def ex (own : Nat) (q : Ent) : Bool := match q.2.1 with
  | .iconst n => vI q.2.2.2.2.1 (Int32.ofInt n) && decide (q.2.2.2.1 = q.1 + 1)
  | .bipush n => vI q.2.2.2.2.1 (Int8.ofInt n).toInt32 && decide (q.2.2.2.1 = q.1 + 2)
  | .sipush n => vI q.2.2.2.2.1 (Int16.ofInt n).toInt32 && decide (q.2.2.2.1 = q.1 + 3)
  | .lconst n => vJ q.2.2.2.2.1 (Int64.ofNat n) && decide (q.2.2.2.1 = q.1 + 1)
  | .iinc _ n => vI q.2.2.2.2.1 (Int32.ofInt n) && decide (q.2.2.2.1 = q.1 + 3)
  | .ldc idx => exC own q idx && decide (q.2.2.2.1 = q.1 + 2)
  | .ldc_w idx => exC own q idx && decide (q.2.2.2.1 = q.1 + 3)
  | .ldc2_w idx => exL own q idx && decide (q.2.2.2.1 = q.1 + 3)
  | .getstatic idx => exG own q idx && decide (q.2.2.2.1 = q.1 + 3)
  | .getfield idx => exF own q idx
  | .putfield idx => exF own q idx
  | .goto off => decide ((q.1 : Int) + off = (q.2.2.2.1 : Int))
  | .if_icmp _ off => decide ((q.1 : Int) + off = (q.2.2.2.1 : Int))
  | .ifCond _ off => decide ((q.1 : Int) + off = (q.2.2.2.1 : Int))
  | _ => decide (q.2.2.2.1 = q.1 + q.2.2.1)
def il : Instr → Nat
  | .iload_n _ | .aload_n _ | .lload_n _ | .istore_n _ | .astore_n _ | .lstore_n _ | .iconst _ | .lconst _ => 1
  | .iload _ | .aload _ | .lload _ | .istore _ | .astore _ | .lstore _ | .bipush _ | .ldc _ => 2
  | .iinc .. | .sipush _ | .ldc_w _ | .ldc2_w _ | .getstatic _ | .goto _ | .if_icmp .. | .ifCond .. | .getfield _ | .putfield _ => 3
  | .invokevirtual _ | .invokestatic _ | .invokespecial _ | .new _ | .anewarray _ => 3
  | .newarray _ => 2
  | .iadd | .isub | .imul | .iand | .ior | .ixor | .ishl | .ishr | .iushr | .ladd | .lmul | .ineg | .i2b | .i2s | .i2l => 1
  | .idiv | .irem | .ldiv | .lrem | .lcmp | .dup | .pop | .dup_x1 | .dup2 | .iaload | .iastore | .aaload | .aastore | .arraylength => 1
  | .ireturn | .areturn | .lreturn | .return_ => 1
  | _ => 0
def eok (own : Nat) (cc : ByteArray) (q : Ent) : Bool := decide (decode cc q.1 = .ok (q.2.1, q.2.2.1)) && (decide (il q.2.1 = 0 ∨ q.2.2.1 = il q.2.1) && ex own q)
theorem eok_l {own : Nat} {cc : ByteArray} {q : Ent} (h : eok own cc q = true) : il q.2.1 = 0 ∨ q.2.2.1 = il q.2.1 := by
  unfold eok at h
  exact of_decide_eq_true (Bool.and_eq_true_iff.mp (Bool.and_eq_true_iff.mp h).2).1
theorem eok_d {own : Nat} {cc : ByteArray} {q : Ent} (h : eok own cc q = true) : decode cc q.1 = .ok (q.2.1, q.2.2.1) := by
  unfold eok at h
  exact of_decide_eq_true (Bool.and_eq_true_iff.mp h).1
theorem eok_x {own : Nat} {cc : ByteArray} {q : Ent} (h : eok own cc q = true) : ex own q = true := by
  unfold eok at h
  exact (Bool.and_eq_true_iff.mp (Bool.and_eq_true_iff.mp h).2).2
/-- the decode row of an entry, with the length that its instruction has -/
theorem eok_i {own : Nat} {cc : ByteArray} {pc len nx ci k pl n : Nat} {ins : Instr} {v : Value} (h : eok own cc (pc, ins, len, nx, v, ci, k, pl) = true) (hn : il ins = n + 1) : decode cc pc = .ok (ins, n + 1) := by
  have h1 := eok_d h
  have h2 := eok_l h
  dsimp only at h1 h2
  rcases h2 with h2 | h2
  · rw [hn] at h2; cases h2
  · rw [h1, h2, hn]
theorem eo {own : Nat} {cc : ByteArray} {es : List Ent} (h : es.all (eok own cc) = true) {i : Nat} {q : Ent} (hi : es[i]? = some q) : eok own cc q = true := List.all_eq_true.mp h q (List.mem_of_getElem? hi)
theorem vI_e {v : Value} {x : Int32} (h : vI v x = true) : v = .int x := by
  cases v <;> simp [vI] at h
  rw [h]
theorem vJ_e {v : Value} {x : Int64} (h : vJ v x = true) : v = .long x := by
  cases v <;> simp [vJ] at h
  rw [h]
def okb (r : A_R) : Nat → Bool
  | 0 => true
  | i + 1 => match lk r i with
    | some (.long _) => false
    | some (.double _) => false
    | _ => true
def sto (r : A_R) (i : Nat) (v : Value) : Option A_R := match okb r i && Nat.ble (i + 1) r.length with
  | true => some (sv r i (some v))
  | false => none
def sto2 (r : A_R) (i : Nat) (v : Value) : Option A_R := match okb r i && Nat.ble (i + 2) r.length with
  | true => some (sv (sv r i (some v)) (i + 1) none)
  | false => none
section SMR
variable {G : Gx} {X : Cx} {own nL : Nat} {cc : ByteArray} {rt : Option FieldType} {rm : Room} {w : A_W} {nc ns : Nat} {r : A_R} {st : List Value} {pc : Nat}
theorem s_iload_n (K : Ok G X own cc nL rt rm) {k : Fin 4} {x : Int32} (hd : decode cc pc = .ok (.iload_n k, 1)) (hl : lk r k.val = some (.int x)) (kk : Sm G X w nc ns r (.int x :: st) (pc + 1)) : Sm G X w nc ns r st pc := fun H locs ls hw hS h => lv_iload_n K.1 K.2.1 hd rfl (h.2.2 _ _ hl) (kk H locs ls hw hS h)
theorem s_iload (K : Ok G X own cc nL rt rm) {i : Nat} {x : Int32} (hd : decode cc pc = .ok (.iload i, 2)) (hl : lk r i = some (.int x)) (kk : Sm G X w nc ns r (.int x :: st) (pc + 2)) : Sm G X w nc ns r st pc := fun H locs ls hw hS h => lv_iload K.1 K.2.1 hd (h.2.2 _ _ hl) (kk H locs ls hw hS h)
theorem s_aload_n (K : Ok G X own cc nL rt rm) {k : Fin 4} {x : Nat} (hd : decode cc pc = .ok (.aload_n k, 1)) (hl : lk r k.val = some (.ref x)) (kk : Sm G X w nc ns r (.ref x :: st) (pc + 1)) : Sm G X w nc ns r st pc := fun H locs ls hw hS h => lv_aload_n K.1 K.2.1 hd rfl (h.2.2 _ _ hl) (kk H locs ls hw hS h)
theorem s_aload (K : Ok G X own cc nL rt rm) {i : Nat} {x : Nat} (hd : decode cc pc = .ok (.aload i, 2)) (hl : lk r i = some (.ref x)) (kk : Sm G X w nc ns r (.ref x :: st) (pc + 2)) : Sm G X w nc ns r st pc := fun H locs ls hw hS h => lv_aload K.1 K.2.1 hd (h.2.2 _ _ hl) (kk H locs ls hw hS h)
theorem s_lload_n (K : Ok G X own cc nL rt rm) {k : Fin 4} {x : Int64} (hd : decode cc pc = .ok (.lload_n k, 1)) (hl : lk r k.val = some (.long x)) (kk : Sm G X w nc ns r (.long x :: st) (pc + 1)) : Sm G X w nc ns r st pc := fun H locs ls hw hS h => lv_lload_n K.1 K.2.1 hd rfl (h.2.2 _ _ hl) (kk H locs ls hw hS h)
theorem s_lload (K : Ok G X own cc nL rt rm) {i : Nat} {x : Int64} (hd : decode cc pc = .ok (.lload i, 2)) (hl : lk r i = some (.long x)) (kk : Sm G X w nc ns r (.long x :: st) (pc + 2)) : Sm G X w nc ns r st pc := fun H locs ls hw hS h => lv_lload K.1 K.2.1 hd (h.2.2 _ _ hl) (kk H locs ls hw hS h)
theorem rl_cat (G : Gx) (v : Value) : (rl G v).category = v.category := by cases v <;> rfl
theorem okb_at {r : A_R} {i : Nat} (h : okb r i = true) {j : Nat} {v : Value} (hj : lk r j = some v) (e : j + 1 = i) : ¬ v.category = 2 := by
  subst e
  simp only [okb, hj] at h
  intro hc
  cases v <;> simp [Value.category] at hc h
theorem sto_e {r r' : A_R} {i : Nat} {v : Value} (h : sto r i v = some r') : okb r i = true ∧ i < r.length ∧ r' = sv r i (some v) := by
  unfold sto at h
  cases hb : okb r i && Nat.ble (i + 1) r.length with
  | false => rw [hb] at h; cases h
  | true =>
    rw [hb] at h; cases h
    have := Bool.and_eq_true_iff.mp hb
    exact ⟨this.1, Nat.le_of_ble_eq_true this.2, rfl⟩
theorem sto2_e {r r' : A_R} {i : Nat} {v : Value} (h : sto2 r i v = some r') : okb r i = true ∧ i + 1 < r.length ∧ r' = sv (sv r i (some v)) (i + 1) none := by
  unfold sto2 at h
  cases hb : okb r i && Nat.ble (i + 2) r.length with
  | false => rw [hb] at h; cases h
  | true =>
    rw [hb] at h; cases h
    have := Bool.and_eq_true_iff.mp hb
    exact ⟨this.1, Nat.le_of_ble_eq_true this.2, rfl⟩
theorem sto_LH {r : A_R} {i : Nat} {v : Value} {ls' : Array Slot} (hk : okb r i = true) (hi : i < r.length) (h : lv_has ls' r.length ((i, rl G v) :: (prs G r).filter (fun q => !(q.1 == i) && !(q.1 + 1 == i && q.2.category == 2)))) : LH G ls' (sv r i (some v)) := by
  refine LH.of (by rw [sv_len]; exact h) fun j x hj => ?_
  rw [lk_sv] at hj
  by_cases e : j = i
  · subst e
    rw [if_pos ⟨rfl, hi⟩] at hj
    cases hj
    exact List.mem_cons_self
  · rw [if_neg (fun z => e z.1)] at hj
    refine List.mem_cons_of_mem _ (List.mem_filter.mpr ⟨prs_mem.mpr ⟨x, hj, rfl⟩, ?_⟩)
    by_cases e1 : j + 1 = i
    · have := okb_at hk hj e1
      simp [e, e1, rl_cat, this]
    · simp [e, e1]
theorem sto2_LH {r : A_R} {i : Nat} {v : Value} {ls' : Array Slot} (hk : okb r i = true) (hi : i + 1 < r.length) (h : lv_has ls' r.length ((i, rl G v) :: (prs G r).filter (fun q => !(q.1 == i) && (!(q.1 == i + 1) && !(q.1 + 1 == i && q.2.category == 2))))) : LH G ls' (sv (sv r i (some v)) (i + 1) none) := by
  refine LH.of (by rw [sv_len, sv_len]; exact h) fun j x hj => ?_
  rw [lk_sv, lk_sv, sv_len] at hj
  by_cases e2 : j = i + 1
  · rw [if_pos ⟨e2, hi⟩] at hj; cases hj
  · rw [if_neg (fun z => e2 z.1)] at hj
    by_cases e : j = i
    · subst e
      rw [if_pos ⟨rfl, by omega⟩] at hj
      cases hj
      exact List.mem_cons_self
    · rw [if_neg (fun z => e z.1)] at hj
      refine List.mem_cons_of_mem _ (List.mem_filter.mpr ⟨prs_mem.mpr ⟨x, hj, rfl⟩, ?_⟩)
      by_cases e1 : j + 1 = i
      · have := okb_at hk hj e1
        simp [e, e1, e2, rl_cat, this]
      · simp [e, e1, e2]
theorem s_istore_n (K : Ok G X own cc nL rt rm) {k : Fin 4} {x : Int32} {r1 : A_R} (hd : decode cc pc = .ok (.istore_n k, 1)) (h1 : sto r k.val (.int x) = some r1) (kk : Sm G X w nc ns r1 st (pc + 1)) : Sm G X w nc ns r (.int x :: st) pc := fun H locs ls hw hS h => by
  obtain ⟨hk, hi, rfl⟩ := sto_e h1
  exact lv_istore_n K.1 K.2.1 hd rfl h.has hi rfl (fun ls1 h2 => kk H locs ls1 hw hS (sto_LH (v := .int x) hk hi h2))
theorem s_istore (K : Ok G X own cc nL rt rm) {i : Nat} {x : Int32} {r1 : A_R} (hd : decode cc pc = .ok (.istore i, 2)) (h1 : sto r i (.int x) = some r1) (kk : Sm G X w nc ns r1 st (pc + 2)) : Sm G X w nc ns r (.int x :: st) pc := fun H locs ls hw hS h => by
  obtain ⟨hk, hi, rfl⟩ := sto_e h1
  exact lv_istore K.1 K.2.1 hd h.has hi rfl (fun ls1 h2 => kk H locs ls1 hw hS (sto_LH (v := .int x) hk hi h2))
theorem s_astore_n (K : Ok G X own cc nL rt rm) {k : Fin 4} {x : Nat} {r1 : A_R} (hd : decode cc pc = .ok (.astore_n k, 1)) (h1 : sto r k.val (.ref x) = some r1) (kk : Sm G X w nc ns r1 st (pc + 1)) : Sm G X w nc ns r (.ref x :: st) pc := fun H locs ls hw hS h => by
  obtain ⟨hk, hi, rfl⟩ := sto_e h1
  exact lv_astore_n K.1 K.2.1 hd rfl h.has hi rfl (fun ls1 h2 => kk H locs ls1 hw hS (sto_LH (v := .ref x) hk hi h2))
theorem s_astore (K : Ok G X own cc nL rt rm) {i : Nat} {x : Nat} {r1 : A_R} (hd : decode cc pc = .ok (.astore i, 2)) (h1 : sto r i (.ref x) = some r1) (kk : Sm G X w nc ns r1 st (pc + 2)) : Sm G X w nc ns r (.ref x :: st) pc := fun H locs ls hw hS h => by
  obtain ⟨hk, hi, rfl⟩ := sto_e h1
  exact lv_astore K.1 K.2.1 hd h.has hi rfl (fun ls1 h2 => kk H locs ls1 hw hS (sto_LH (v := .ref x) hk hi h2))
theorem s_lstore_n (K : Ok G X own cc nL rt rm) {k : Fin 4} {x : Int64} {r1 : A_R} (hd : decode cc pc = .ok (.lstore_n k, 1)) (h1 : sto2 r k.val (.long x) = some r1) (kk : Sm G X w nc ns r1 st (pc + 1)) : Sm G X w nc ns r (.long x :: st) pc := fun H locs ls hw hS h => by
  obtain ⟨hk, hi, rfl⟩ := sto2_e h1
  exact lv_lstore_n K.1 K.2.1 hd rfl h.has hi rfl (fun ls1 h2 => kk H locs ls1 hw hS (sto2_LH (v := .long x) hk hi h2))
theorem s_lstore (K : Ok G X own cc nL rt rm) {i : Nat} {x : Int64} {r1 : A_R} (hd : decode cc pc = .ok (.lstore i, 2)) (h1 : sto2 r i (.long x) = some r1) (kk : Sm G X w nc ns r1 st (pc + 2)) : Sm G X w nc ns r (.long x :: st) pc := fun H locs ls hw hS h => by
  obtain ⟨hk, hi, rfl⟩ := sto2_e h1
  exact lv_lstore K.1 K.2.1 hd h.has hi rfl (fun ls1 h2 => kk H locs ls1 hw hS (sto2_LH (v := .long x) hk hi h2))
theorem s_iinc (K : Ok G X own cc nL rt rm) {i : Nat} {n : Int} {x v : Int32} {r1 : A_R} (hd : decode cc pc = .ok (.iinc i n, 3)) (hl : lk r i = some (.int x)) (hv : Int32.ofInt n = v) (h1 : sto r i (.int (x + v)) = some r1) (kk : Sm G X w nc ns r1 st (pc + 3)) : Sm G X w nc ns r st pc := fun H locs ls hw hS h => by
  obtain ⟨hk, hi, rfl⟩ := sto_e h1
  obtain ⟨j, hj⟩ := List.mem_iff_getElem?.mp (prs_mem.mpr ⟨_, hl, rfl⟩ : (i, rl G (.int x)) ∈ prs G r)
  exact lv_iinc K.1 K.2.1 hd h.has (k := j) hj (by rw [hv]) hi rfl (fun ls1 h2 => kk H locs ls1 hw hS (sto_LH (v := .int (x + v)) hk hi h2))
theorem s_iconst (K : Ok G X own cc nL rt rm) {n : Int} {v : Int32} (hd : decode cc pc = .ok (.iconst n, 1)) (hv : Int32.ofInt n = v) (kk : Sm G X w nc ns r (.int v :: st) (pc + 1)) : Sm G X w nc ns r (st) pc := fun H locs ls hw hS h => lv_iconst K.1 K.2.1 hd hv (kk H locs ls hw hS h)
theorem s_bipush (K : Ok G X own cc nL rt rm) {n : Int} {v : Int32} (hd : decode cc pc = .ok (.bipush n, 2)) (hv : (Int8.ofInt n).toInt32 = v) (kk : Sm G X w nc ns r (.int v :: st) (pc + 2)) : Sm G X w nc ns r (st) pc := fun H locs ls hw hS h => lv_bipush K.1 K.2.1 hd hv (kk H locs ls hw hS h)
theorem s_sipush (K : Ok G X own cc nL rt rm) {n : Int} {v : Int32} (hd : decode cc pc = .ok (.sipush n, 3)) (hv : (Int16.ofInt n).toInt32 = v) (kk : Sm G X w nc ns r (.int v :: st) (pc + 3)) : Sm G X w nc ns r (st) pc := fun H locs ls hw hS h => lv_sipush K.1 K.2.1 hd hv (kk H locs ls hw hS h)
theorem s_lconst (K : Ok G X own cc nL rt rm) {n : Fin 2} {v : Int64} (hd : decode cc pc = .ok (.lconst n, 1)) (hv : Int64.ofNat (n : Nat) = v) (kk : Sm G X w nc ns r (.long v :: st) (pc + 1)) : Sm G X w nc ns r (st) pc := fun H locs ls hw hS h => lv_lconst K.1 K.2.1 hd hv (kk H locs ls hw hS h)
theorem s_ineg (K : Ok G X own cc nL rt rm) {x : Int32} (hd : decode cc pc = .ok (.ineg, 1))  (kk : Sm G X w nc ns r (.int (-x) :: st) (pc + 1)) : Sm G X w nc ns r (.int x :: st) pc := fun H locs ls hw hS h => lv_ineg K.1 K.2.1 hd  (kk H locs ls hw hS h)
theorem s_i2b (K : Ok G X own cc nL rt rm) {x : Int32} (hd : decode cc pc = .ok (.i2b, 1))  (kk : Sm G X w nc ns r (.int x.toInt8.toInt32 :: st) (pc + 1)) : Sm G X w nc ns r (.int x :: st) pc := fun H locs ls hw hS h => lv_i2b K.1 K.2.1 hd rfl (kk H locs ls hw hS h)
theorem s_i2s (K : Ok G X own cc nL rt rm) {x : Int32} (hd : decode cc pc = .ok (.i2s, 1))  (kk : Sm G X w nc ns r (.int x.toInt16.toInt32 :: st) (pc + 1)) : Sm G X w nc ns r (.int x :: st) pc := fun H locs ls hw hS h => lv_i2s K.1 K.2.1 hd rfl (kk H locs ls hw hS h)
theorem s_i2l (K : Ok G X own cc nL rt rm) {x : Int32} (hd : decode cc pc = .ok (.i2l, 1))  (kk : Sm G X w nc ns r (.long x.toInt64 :: st) (pc + 1)) : Sm G X w nc ns r (.int x :: st) pc := fun H locs ls hw hS h => lv_i2l K.1 K.2.1 hd rfl (kk H locs ls hw hS h)
theorem s_iushr (K : Ok G X own cc nL rt rm) {x y : Int32} (hd : decode cc pc = .ok (.iushr, 1))  (kk : Sm G X w nc ns r (.int (x.toUInt32 >>> (y.toUInt32 &&& Int32.toUInt32 31)).toInt32 :: st) (pc + 1)) : Sm G X w nc ns r (.int y :: .int x :: st) pc := fun H locs ls hw hS h => lv_iushr K.1 K.2.1 hd rfl (kk H locs ls hw hS h)
theorem s_iadd (K : Ok G X own cc nL rt rm) {x y : Int32} (hd : decode cc pc = .ok (.iadd, 1))  (kk : Sm G X w nc ns r (.int (x + y) :: st) (pc + 1)) : Sm G X w nc ns r (.int y :: .int x :: st) pc := fun H locs ls hw hS h => lv_iadd K.1 K.2.1 hd  (kk H locs ls hw hS h)
theorem s_isub (K : Ok G X own cc nL rt rm) {x y : Int32} (hd : decode cc pc = .ok (.isub, 1))  (kk : Sm G X w nc ns r (.int (x - y) :: st) (pc + 1)) : Sm G X w nc ns r (.int y :: .int x :: st) pc := fun H locs ls hw hS h => lv_isub K.1 K.2.1 hd  (kk H locs ls hw hS h)
theorem s_imul (K : Ok G X own cc nL rt rm) {x y : Int32} (hd : decode cc pc = .ok (.imul, 1))  (kk : Sm G X w nc ns r (.int (x * y) :: st) (pc + 1)) : Sm G X w nc ns r (.int y :: .int x :: st) pc := fun H locs ls hw hS h => lv_imul K.1 K.2.1 hd  (kk H locs ls hw hS h)
theorem s_iand (K : Ok G X own cc nL rt rm) {x y : Int32} (hd : decode cc pc = .ok (.iand, 1))  (kk : Sm G X w nc ns r (.int (x &&& y) :: st) (pc + 1)) : Sm G X w nc ns r (.int y :: .int x :: st) pc := fun H locs ls hw hS h => lv_iand K.1 K.2.1 hd  (kk H locs ls hw hS h)
theorem s_ior (K : Ok G X own cc nL rt rm) {x y : Int32} (hd : decode cc pc = .ok (.ior, 1))  (kk : Sm G X w nc ns r (.int (x ||| y) :: st) (pc + 1)) : Sm G X w nc ns r (.int y :: .int x :: st) pc := fun H locs ls hw hS h => lv_ior K.1 K.2.1 hd  (kk H locs ls hw hS h)
theorem s_ixor (K : Ok G X own cc nL rt rm) {x y : Int32} (hd : decode cc pc = .ok (.ixor, 1))  (kk : Sm G X w nc ns r (.int (x ^^^ y) :: st) (pc + 1)) : Sm G X w nc ns r (.int y :: .int x :: st) pc := fun H locs ls hw hS h => lv_ixor K.1 K.2.1 hd  (kk H locs ls hw hS h)
theorem s_ishl (K : Ok G X own cc nL rt rm) {x y : Int32} (hd : decode cc pc = .ok (.ishl, 1))  (kk : Sm G X w nc ns r (.int (x <<< (y &&& 31)) :: st) (pc + 1)) : Sm G X w nc ns r (.int y :: .int x :: st) pc := fun H locs ls hw hS h => lv_ishl K.1 K.2.1 hd  (kk H locs ls hw hS h)
theorem s_ishr (K : Ok G X own cc nL rt rm) {x y : Int32} (hd : decode cc pc = .ok (.ishr, 1))  (kk : Sm G X w nc ns r (.int (x >>> (y &&& 31)) :: st) (pc + 1)) : Sm G X w nc ns r (.int y :: .int x :: st) pc := fun H locs ls hw hS h => lv_ishr K.1 K.2.1 hd  (kk H locs ls hw hS h)
theorem s_ladd (K : Ok G X own cc nL rt rm) {x y : Int64} (hd : decode cc pc = .ok (.ladd, 1))  (kk : Sm G X w nc ns r (.long (x + y) :: st) (pc + 1)) : Sm G X w nc ns r (.long y :: .long x :: st) pc := fun H locs ls hw hS h => lv_ladd K.1 K.2.1 hd  (kk H locs ls hw hS h)
theorem s_lmul (K : Ok G X own cc nL rt rm) {x y : Int64} (hd : decode cc pc = .ok (.lmul, 1))  (kk : Sm G X w nc ns r (.long (x * y) :: st) (pc + 1)) : Sm G X w nc ns r (.long y :: .long x :: st) pc := fun H locs ls hw hS h => lv_lmul K.1 K.2.1 hd  (kk H locs ls hw hS h)
theorem s_idiv (K : Ok G X own cc nL rt rm) {x y : Int32} (hd : decode cc pc = .ok (.idiv, 1)) (hne : ¬ y = 0) (kk : Sm G X w nc ns r (.int (x / y) :: st) (pc + 1)) : Sm G X w nc ns r (.int y :: .int x :: st) pc := fun H locs ls hw hS h => lv_idiv K.1 K.2.1 hd hne (kk H locs ls hw hS h)
theorem s_irem (K : Ok G X own cc nL rt rm) {x y : Int32} (hd : decode cc pc = .ok (.irem, 1)) (hne : ¬ y = 0) (kk : Sm G X w nc ns r (.int (x - x / y * y) :: st) (pc + 1)) : Sm G X w nc ns r (.int y :: .int x :: st) pc := fun H locs ls hw hS h => lv_irem K.1 K.2.1 hd hne (kk H locs ls hw hS h)
theorem s_ldiv (K : Ok G X own cc nL rt rm) {x y : Int64} (hd : decode cc pc = .ok (.ldiv, 1)) (hne : ¬ y = 0) (kk : Sm G X w nc ns r (.long (x / y) :: st) (pc + 1)) : Sm G X w nc ns r (.long y :: .long x :: st) pc := fun H locs ls hw hS h => lv_ldiv K.1 K.2.1 hd hne (kk H locs ls hw hS h)
theorem s_lrem (K : Ok G X own cc nL rt rm) {x y : Int64} (hd : decode cc pc = .ok (.lrem, 1)) (hne : ¬ y = 0) (kk : Sm G X w nc ns r (.long (x - x / y * y) :: st) (pc + 1)) : Sm G X w nc ns r (.long y :: .long x :: st) pc := fun H locs ls hw hS h => lv_lrem K.1 K.2.1 hd hne (kk H locs ls hw hS h)
theorem s_dup (K : Ok G X own cc nL rt rm) {a : Value} (hd : decode cc pc = .ok (.dup, 1)) (ha : a.category = 1) (kk : Sm G X w nc ns r (a :: a :: st) (pc + 1)) : Sm G X w nc ns r (a :: st) pc := fun H locs ls hw hS h => lv_dup K.1 K.2.1 hd (by rw [rl_cat]; exact ha) (kk H locs ls hw hS h)
theorem s_pop (K : Ok G X own cc nL rt rm) {a : Value} (hd : decode cc pc = .ok (.pop, 1)) (ha : a.category = 1) (kk : Sm G X w nc ns r st (pc + 1)) : Sm G X w nc ns r (a :: st) pc := fun H locs ls hw hS h => lv_pop K.1 K.2.1 hd (by rw [rl_cat]; exact ha) (kk H locs ls hw hS h)
theorem s_dup_x1 (K : Ok G X own cc nL rt rm) {a b : Value} (hd : decode cc pc = .ok (.dup_x1, 1)) (ha : a.category = 1) (hb : b.category = 1) (kk : Sm G X w nc ns r (a :: b :: a :: st) (pc + 1)) : Sm G X w nc ns r (a :: b :: st) pc := fun H locs ls hw hS h => lv_dup_x1 K.1 K.2.1 hd (by rw [rl_cat]; exact ha) (by rw [rl_cat]; exact hb) (kk H locs ls hw hS h)
theorem s_dup2 (K : Ok G X own cc nL rt rm) {a b : Value} (hd : decode cc pc = .ok (.dup2, 1)) (ha : a.category = 1) (hb : b.category = 1) (kk : Sm G X w nc ns r (a :: b :: a :: b :: st) (pc + 1)) : Sm G X w nc ns r (a :: b :: st) pc := fun H locs ls hw hS h => lv_dup2_11 K.1 K.2.1 hd (by rw [rl_cat]; exact ha) (by rw [rl_cat]; exact hb) (kk H locs ls hw hS h)
theorem s_goto (K : Ok G X own cc nL rt rm) {off : Int} {tgt : Nat} (hd : decode cc pc = .ok (.goto off, 3)) (ht : (pc : Int) + off = (tgt : Int)) (kk : Sm G X w nc ns r st tgt) : Sm G X w nc ns r st pc := fun H locs ls hw hS h => lv_goto K.1 K.2.1 hd ht (kk H locs ls hw hS h)
theorem s_ldc (K : Ok G X own cc nL rt rm) {idx : Nat} {v : Int32} (hd : decode cc pc = .ok (.ldc idx, 2)) (hm : Cond.constant (Rn own) idx v ∈ lg) (kk : Sm G X w nc ns r (.int v :: st) (pc + 2)) : Sm G X w nc ns r st pc := fun H locs ls hw hS h => lv_ldc K.1 K.2.1 K.2.2.2.2.1 (K.2.2.2.2.2.1 _ hm) hd (kk H locs ls hw hS h)
theorem s_ldcw (K : Ok G X own cc nL rt rm) {idx : Nat} {v : Int32} (hd : decode cc pc = .ok (.ldc_w idx, 3)) (hm : Cond.constant (Rn own) idx v ∈ lg) (kk : Sm G X w nc ns r (.int v :: st) (pc + 3)) : Sm G X w nc ns r st pc := fun H locs ls hw hS h => lv_ldcw K.1 K.2.1 K.2.2.2.2.1 (K.2.2.2.2.2.1 _ hm) hd (kk H locs ls hw hS h)
theorem s_ldc2 (K : Ok G X own cc nL rt rm) {idx : Nat} {v : Int64} (hd : decode cc pc = .ok (.ldc2_w idx, 3)) (hm : Cond.constantLong (Rn own) idx v ∈ lg) (kk : Sm G X w nc ns r (.long v :: st) (pc + 3)) : Sm G X w nc ns r st pc := fun H locs ls hw hS h => lv_ldc2 K.1 K.2.1 K.2.2.2.2.1 (K.2.2.2.2.2.1 _ hm) hd (kk H locs ls hw hS h)
theorem s_ldcS (K : Ok G X own cc nL rt rm) {idx j : Nat} {z : Nat × Nat × String} (hd : decode cc pc = .ok (.ldc idx, 2)) (hz : strs[j]? = some z) (h1 : z.1 = own) (h2 : z.2.1 = idx) (kk : Sm G X w nc ns r (.ref (sA j) :: st) (pc + 2)) : Sm G X w nc ns r st pc := fun H locs ls hw hS h => by
  subst h1; subst h2
  exact va_ldcS K.1 K.2.1 K.2.2.2.2.1 (K.2.2.2.2.2.2.1.2.2.2.1 j z hz) hd (kk H locs ls hw hS h)
theorem s_gets (K : Ok G X own cc nL rt rm) {idx j : Nat} {z : String × String × List Int32} (hd : decode cc pc = .ok (.getstatic idx, 3)) (hz : sarr[j]? = some z) (hm : Cond.fieldLink (Rn own) idx z.1 z.2.1 "[I" ∈ lg) (kk : Sm G X w nc ns r (.ref (aA j) :: st) (pc + 3)) : Sm G X w nc ns r st pc := fun H locs ls hw hS h =>
  va_gets K.1 K.2.1 (K.2.2.2.2.2.2.1.2.2.1 j z hz).1 hS K.2.2.2.2.1 (K.2.2.2.2.2.1 _ hm) (fun _ h9 => h9) hd (kk H locs ls hw hS h)
end SMR
def t1 (q : Ent) (r : A_R) (st : List Value) : Option (A_R × List Value) := match q.2.1 with
  | .iload_n k => (match lk r k.val with
    | some (.int x) => some (r, .int x :: st)
    | _ => none)
  | .iload k => (match lk r k with
    | some (.int x) => some (r, .int x :: st)
    | _ => none)
  | .aload_n k => (match lk r k.val with
    | some (.ref x) => some (r, .ref x :: st)
    | _ => none)
  | .aload k => (match lk r k with
    | some (.ref x) => some (r, .ref x :: st)
    | _ => none)
  | .lload_n k => (match lk r k.val with
    | some (.long x) => some (r, .long x :: st)
    | _ => none)
  | .lload k => (match lk r k with
    | some (.long x) => some (r, .long x :: st)
    | _ => none)
  | .istore_n k => (match st with
    | .int x :: st => (match sto r k.val (.int x) with
      | some r1 => some (r1, st)
      | none => none)
    | _ => none)
  | .istore k => (match st with
    | .int x :: st => (match sto r k (.int x) with
      | some r1 => some (r1, st)
      | none => none)
    | _ => none)
  | .astore_n k => (match st with
    | .ref x :: st => (match sto r k.val (.ref x) with
      | some r1 => some (r1, st)
      | none => none)
    | _ => none)
  | .astore k => (match st with
    | .ref x :: st => (match sto r k (.ref x) with
      | some r1 => some (r1, st)
      | none => none)
    | _ => none)
  | .lstore_n k => (match st with
    | .long x :: st => (match sto2 r k.val (.long x) with
      | some r1 => some (r1, st)
      | none => none)
    | _ => none)
  | .lstore k => (match st with
    | .long x :: st => (match sto2 r k (.long x) with
      | some r1 => some (r1, st)
      | none => none)
    | _ => none)
  | .iinc k _ => (match lk r k with
    | some (.int x) => (match q.2.2.2.2.1 with
      | .int v => (match sto r k (.int (x + v)) with
        | some r1 => some (r1, st)
        | none => none)
      | _ => none)
    | _ => none)
  | .iconst _ => some (r, q.2.2.2.2.1 :: st)
  | .bipush _ => some (r, q.2.2.2.2.1 :: st)
  | .sipush _ => some (r, q.2.2.2.2.1 :: st)
  | .lconst _ => some (r, q.2.2.2.2.1 :: st)
  | .ldc _ => some (r, q.2.2.2.2.1 :: st)
  | .ldc_w _ => (match q.2.2.2.2.1 with
    | .int v => some (r, .int v :: st)
    | _ => none)
  | .ldc2_w _ => some (r, q.2.2.2.2.1 :: st)
  | .getstatic _ => some (r, q.2.2.2.2.1 :: st)
  | .goto _ => some (r, st)
  | .iadd => (match st with
    | .int y :: .int x :: st => some (r, .int (x + y) :: st)
    | _ => none)
  | .isub => (match st with
    | .int y :: .int x :: st => some (r, .int (x - y) :: st)
    | _ => none)
  | .imul => (match st with
    | .int y :: .int x :: st => some (r, .int (x * y) :: st)
    | _ => none)
  | .iand => (match st with
    | .int y :: .int x :: st => some (r, .int (x &&& y) :: st)
    | _ => none)
  | .ior => (match st with
    | .int y :: .int x :: st => some (r, .int (x ||| y) :: st)
    | _ => none)
  | .ixor => (match st with
    | .int y :: .int x :: st => some (r, .int (x ^^^ y) :: st)
    | _ => none)
  | .ishl => (match st with
    | .int y :: .int x :: st => some (r, .int (x <<< (y &&& 31)) :: st)
    | _ => none)
  | .ishr => (match st with
    | .int y :: .int x :: st => some (r, .int (x >>> (y &&& 31)) :: st)
    | _ => none)
  | .iushr => (match st with
    | .int y :: .int x :: st => some (r, .int (x.toUInt32 >>> (y.toUInt32 &&& Int32.toUInt32 31)).toInt32 :: st)
    | _ => none)
  | .ladd => (match st with
    | .long y :: .long x :: st => some (r, .long (x + y) :: st)
    | _ => none)
  | .lmul => (match st with
    | .long y :: .long x :: st => some (r, .long (x * y) :: st)
    | _ => none)
  | .ineg => (match st with
    | .int x :: st => some (r, .int (-x) :: st)
    | _ => none)
  | .i2b => (match st with
    | .int x :: st => some (r, .int x.toInt8.toInt32 :: st)
    | _ => none)
  | .i2s => (match st with
    | .int x :: st => some (r, .int x.toInt16.toInt32 :: st)
    | _ => none)
  | .i2l => (match st with
    | .int x :: st => some (r, .long x.toInt64 :: st)
    | _ => none)
  | .dup => (match st with
    | .int a :: st => some (r, .int a :: .int a :: st)
    | .ref a :: st => some (r, .ref a :: .ref a :: st)
    | _ => none)
  | .pop => (match st with
    | .int _ :: st => some (r, st)
    | .ref _ :: st => some (r, st)
    | _ => none)
  | .dup_x1 => (match st with
    | .int a :: .ref b :: st => some (r, .int a :: .ref b :: .int a :: st)
    | .int a :: .int b :: st => some (r, .int a :: .int b :: .int a :: st)
    | _ => none)
  | .dup2 => (match st with
    | .int a :: .ref b :: st => some (r, .int a :: .ref b :: .int a :: .ref b :: st)
    | _ => none)
  | _ => none
section SMT
variable {G : Gx} {X : Cx} {own nL : Nat} {cc : ByteArray} {rt : Option FieldType} {rm : Room} {w : A_W} {nc ns : Nat} {r : A_R} {st : List Value} {pc : Nat}
theorem t1_ok (K : Ok G X own cc nL rt rm) {q : Ent} (hq : eok own cc q = true) {r1 : A_R} {st1 : List Value} (h : t1 q r st = some (r1, st1)) (kk : Sm G X w nc ns r1 st1 q.2.2.2.1) : Sm G X w nc ns r st q.1 := by
  have hx := eok_x hq
  obtain ⟨pc, ins, len, nx, v, ci, k, pl⟩ := q
  dsimp only at kk ⊢
  have fin : ∀ {n : Nat}, nx = pc + n → Sm G X w nc ns r1 st1 nx → Sm G X w nc ns r1 st1 (pc + n) := fun e z => e ▸ z
  have dl : ∀ {n : Nat}, il ins = n + 1 → decide (nx = pc + len) = true → nx = pc + (n + 1) := by
    intro n hn e
    have h1 := of_decide_eq_true e
    rcases eok_l hq with h2 | h2
    · dsimp only at h2; rw [hn] at h2; cases h2
    · dsimp only at h2; rw [h1, h2, hn]
  cases ins
  case iload_n k0 =>
    have hd := eok_i hq rfl
    simp only [t1] at h
    split at h
    · rename_i x hl
      cases h
      exact s_iload_n K hd hl (fin (dl rfl hx) kk)
    · cases h
  case iload k0 =>
    have hd := eok_i hq rfl
    simp only [t1] at h
    split at h
    · rename_i x hl
      cases h
      exact s_iload K hd hl (fin (dl rfl hx) kk)
    · cases h
  case aload_n k0 =>
    have hd := eok_i hq rfl
    simp only [t1] at h
    split at h
    · rename_i x hl
      cases h
      exact s_aload_n K hd hl (fin (dl rfl hx) kk)
    · cases h
  case aload k0 =>
    have hd := eok_i hq rfl
    simp only [t1] at h
    split at h
    · rename_i x hl
      cases h
      exact s_aload K hd hl (fin (dl rfl hx) kk)
    · cases h
  case lload_n k0 =>
    have hd := eok_i hq rfl
    simp only [t1] at h
    split at h
    · rename_i x hl
      cases h
      exact s_lload_n K hd hl (fin (dl rfl hx) kk)
    · cases h
  case lload k0 =>
    have hd := eok_i hq rfl
    simp only [t1] at h
    split at h
    · rename_i x hl
      cases h
      exact s_lload K hd hl (fin (dl rfl hx) kk)
    · cases h
  case istore_n k0 =>
    have hd := eok_i hq rfl
    simp only [t1] at h
    split at h
    · split at h
      · rename_i r2 hl
        cases h
        exact s_istore_n K hd hl (fin (dl rfl hx) kk)
      · cases h
    · cases h
  case istore k0 =>
    have hd := eok_i hq rfl
    simp only [t1] at h
    split at h
    · split at h
      · rename_i r2 hl
        cases h
        exact s_istore K hd hl (fin (dl rfl hx) kk)
      · cases h
    · cases h
  case astore_n k0 =>
    have hd := eok_i hq rfl
    simp only [t1] at h
    split at h
    · split at h
      · rename_i r2 hl
        cases h
        exact s_astore_n K hd hl (fin (dl rfl hx) kk)
      · cases h
    · cases h
  case astore k0 =>
    have hd := eok_i hq rfl
    simp only [t1] at h
    split at h
    · split at h
      · rename_i r2 hl
        cases h
        exact s_astore K hd hl (fin (dl rfl hx) kk)
      · cases h
    · cases h
  case lstore_n k0 =>
    have hd := eok_i hq rfl
    simp only [t1] at h
    split at h
    · split at h
      · rename_i r2 hl
        cases h
        exact s_lstore_n K hd hl (fin (dl rfl hx) kk)
      · cases h
    · cases h
  case lstore k0 =>
    have hd := eok_i hq rfl
    simp only [t1] at h
    split at h
    · split at h
      · rename_i r2 hl
        cases h
        exact s_lstore K hd hl (fin (dl rfl hx) kk)
      · cases h
    · cases h
  case iinc k0 n0 =>
    have hd := eok_i hq rfl
    simp only [t1] at h
    have hx := Bool.and_eq_true_iff.mp hx
    split at h
    · rename_i x hl
      split at h
      · split at h
        · rename_i r2 hs
          cases h
          have hv2 := vI_e hx.1
          dsimp only at hv2
          cases hv2
          exact s_iinc K hd hl rfl hs (fin (of_decide_eq_true hx.2) kk)
        · cases h
      · cases h
    · cases h
  case iconst n0 =>
    have hd := eok_i hq rfl
    have hx := Bool.and_eq_true_iff.mp hx
    simp only [t1] at h
    have hv2 := vI_e hx.1
    dsimp only at hv2
    subst hv2
    cases h
    exact s_iconst K hd rfl (fin (of_decide_eq_true hx.2) kk)
  case bipush n0 =>
    have hd := eok_i hq rfl
    have hx := Bool.and_eq_true_iff.mp hx
    simp only [t1] at h
    have hv2 := vI_e hx.1
    dsimp only at hv2
    subst hv2
    cases h
    exact s_bipush K hd rfl (fin (of_decide_eq_true hx.2) kk)
  case sipush n0 =>
    have hd := eok_i hq rfl
    have hx := Bool.and_eq_true_iff.mp hx
    simp only [t1] at h
    have hv2 := vI_e hx.1
    dsimp only at hv2
    subst hv2
    cases h
    exact s_sipush K hd rfl (fin (of_decide_eq_true hx.2) kk)
  case lconst n0 =>
    have hd := eok_i hq rfl
    have hx := Bool.and_eq_true_iff.mp hx
    simp only [t1] at h
    have hv2 := vJ_e hx.1
    dsimp only at hv2
    subst hv2
    cases h
    exact s_lconst K hd rfl (fin (of_decide_eq_true hx.2) kk)
  case ldc n0 =>
    have hd := eok_i hq rfl
    have hx := Bool.and_eq_true_iff.mp hx
    simp only [t1] at h
    have hc := hx.1
    unfold exC at hc
    dsimp only at hc
    split at hc
    · cases h
      exact s_ldc K hd (lgm _ (of_decide_eq_true hc) rfl) (fin (of_decide_eq_true hx.2) kk)
    · have hc := Bool.and_eq_true_iff.mp hc
      have ha := of_decide_eq_true hc.1
      have hc := hc.2
      split at hc
      · rename_i z hz
        have hc3 := Bool.and_eq_true_iff.mp hc
        subst ha
        cases h
        exact s_ldcS K hd hz (of_decide_eq_true hc3.1) (of_decide_eq_true hc3.2) (fin (of_decide_eq_true hx.2) kk)
      · cases hc
    · cases hc
  case ldc_w n0 =>
    have hd := eok_i hq rfl
    have hx := Bool.and_eq_true_iff.mp hx
    simp only [t1] at h
    have hc := hx.1
    unfold exC at hc
    dsimp only at hc
    split at h
    · cases h
      exact s_ldcw K hd (lgm _ (of_decide_eq_true hc) rfl) (fin (of_decide_eq_true hx.2) kk)
    · cases h
  case ldc2_w n0 =>
    have hd := eok_i hq rfl
    have hx := Bool.and_eq_true_iff.mp hx
    simp only [t1] at h
    have hc := hx.1
    unfold exL at hc
    dsimp only at hc
    split at hc
    · cases h
      exact s_ldc2 K hd (lgm _ (of_decide_eq_true hc) rfl) (fin (of_decide_eq_true hx.2) kk)
    · cases hc
  case getstatic n0 =>
    have hd := eok_i hq rfl
    have hx := Bool.and_eq_true_iff.mp hx
    simp only [t1] at h
    have hc := hx.1
    unfold exG at hc
    dsimp only at hc
    split at hc
    · have hc := Bool.and_eq_true_iff.mp hc
      have ha := of_decide_eq_true hc.1
      have hc := hc.2
      split at hc
      · rename_i z hz
        subst ha
        cases h
        exact s_gets K hd hz (lgm _ (of_decide_eq_true hc) rfl) (fin (of_decide_eq_true hx.2) kk)
      · cases hc
    · cases hc
  case goto off =>
    have hd := eok_i hq rfl
    simp only [t1] at h
    cases h
    exact s_goto K hd (of_decide_eq_true hx) kk
  case iadd =>
    have hd := eok_i hq rfl
    simp only [t1] at h
    split at h
    · cases h
      exact s_iadd K hd (fin (dl rfl hx) kk)
    · cases h
  case isub =>
    have hd := eok_i hq rfl
    simp only [t1] at h
    split at h
    · cases h
      exact s_isub K hd (fin (dl rfl hx) kk)
    · cases h
  case imul =>
    have hd := eok_i hq rfl
    simp only [t1] at h
    split at h
    · cases h
      exact s_imul K hd (fin (dl rfl hx) kk)
    · cases h
  case iand =>
    have hd := eok_i hq rfl
    simp only [t1] at h
    split at h
    · cases h
      exact s_iand K hd (fin (dl rfl hx) kk)
    · cases h
  case ior =>
    have hd := eok_i hq rfl
    simp only [t1] at h
    split at h
    · cases h
      exact s_ior K hd (fin (dl rfl hx) kk)
    · cases h
  case ixor =>
    have hd := eok_i hq rfl
    simp only [t1] at h
    split at h
    · cases h
      exact s_ixor K hd (fin (dl rfl hx) kk)
    · cases h
  case ishl =>
    have hd := eok_i hq rfl
    simp only [t1] at h
    split at h
    · cases h
      exact s_ishl K hd (fin (dl rfl hx) kk)
    · cases h
  case ishr =>
    have hd := eok_i hq rfl
    simp only [t1] at h
    split at h
    · cases h
      exact s_ishr K hd (fin (dl rfl hx) kk)
    · cases h
  case iushr =>
    have hd := eok_i hq rfl
    simp only [t1] at h
    split at h
    · cases h
      exact s_iushr K hd (fin (dl rfl hx) kk)
    · cases h
  case ladd =>
    have hd := eok_i hq rfl
    simp only [t1] at h
    split at h
    · cases h
      exact s_ladd K hd (fin (dl rfl hx) kk)
    · cases h
  case lmul =>
    have hd := eok_i hq rfl
    simp only [t1] at h
    split at h
    · cases h
      exact s_lmul K hd (fin (dl rfl hx) kk)
    · cases h
  case ineg =>
    have hd := eok_i hq rfl
    simp only [t1] at h
    split at h
    · cases h
      exact s_ineg K hd (fin (dl rfl hx) kk)
    · cases h
  case i2b =>
    have hd := eok_i hq rfl
    simp only [t1] at h
    split at h
    · cases h
      exact s_i2b K hd (fin (dl rfl hx) kk)
    · cases h
  case i2s =>
    have hd := eok_i hq rfl
    simp only [t1] at h
    split at h
    · cases h
      exact s_i2s K hd (fin (dl rfl hx) kk)
    · cases h
  case i2l =>
    have hd := eok_i hq rfl
    simp only [t1] at h
    split at h
    · cases h
      exact s_i2l K hd (fin (dl rfl hx) kk)
    · cases h
  case dup =>
    have hd := eok_i hq rfl
    simp only [t1] at h
    split at h
    · cases h
      exact s_dup K hd rfl (fin (dl rfl hx) kk)
    · cases h
      exact s_dup K hd rfl (fin (dl rfl hx) kk)
    · cases h
  case pop =>
    have hd := eok_i hq rfl
    simp only [t1] at h
    split at h
    · cases h
      exact s_pop K hd rfl (fin (dl rfl hx) kk)
    · cases h
      exact s_pop K hd rfl (fin (dl rfl hx) kk)
    · cases h
  case dup_x1 =>
    have hd := eok_i hq rfl
    simp only [t1] at h
    split at h
    · cases h
      exact s_dup_x1 K hd rfl rfl (fin (dl rfl hx) kk)
    · cases h
      exact s_dup_x1 K hd rfl rfl (fin (dl rfl hx) kk)
    · cases h
  case dup2 =>
    have hd := eok_i hq rfl
    simp only [t1] at h
    split at h
    · cases h
      exact s_dup2 K hd rfl rfl (fin (dl rfl hx) kk)
    · cases h
  all_goals (simp only [t1] at h; cases h)
def runL : List Ent → Nat → A_R → List Value → Option (Nat × A_R × List Value)
  | [], pc, r, st => some (pc, r, st)
  | q :: qs, pc, r, st => match Nat.beq q.1 pc with
    | true => (match t1 q r st with
      | some (r1, st1) => runL qs q.2.2.2.1 r1 st1
      | none => none)
    | false => none
theorem runL_ok (K : Ok G X own cc nL rt rm) (es : List Ent) : ∀ (_ : ∀ q ∈ es, eok own cc q = true) (pc : Nat) (r : A_R) (st : List Value) (pc1 : Nat) (r1 : A_R) (st1 : List Value), runL es pc r st = some (pc1, r1, st1) → Sm G X w nc ns r1 st1 pc1 → Sm G X w nc ns r st pc := by
  induction es with
  | nil => intro _ pc r st pc1 r1 st1 h kk; cases h; exact kk
  | cons q qs ih =>
    intro hE pc r st pc1 r1 st1 h kk
    simp only [runL] at h
    split at h
    · rename_i hb
      split at h
      · rename_i r2 st2 ht
        have hpc := Nat.eq_of_beq_eq_true hb
        subst hpc
        exact t1_ok K (hE q List.mem_cons_self) ht (ih (fun z hz => hE z (List.mem_cons_of_mem _ hz)) _ _ _ _ _ _ h kk)
      · cases h
    · cases h
/-- n small steps from the i-th entry of a method on -/
theorem Sm_run (K : Ok G X own cc nL rt rm) {es : List Ent} (hE : es.all (eok own cc) = true) (i n : Nat) {pc1 : Nat} {r1 : A_R} {st1 : List Value} (h : runL ((es.drop i).take n) pc r st = some (pc1, r1, st1)) (kk : Sm G X w nc ns r1 st1 pc1) : Sm G X w nc ns r st pc :=
  runL_ok K _ (fun q hq => List.all_eq_true.mp hE q (List.mem_of_mem_drop (List.mem_of_mem_take hq))) _ _ _ _ _ _ h kk
end SMT
end
section
/-! THE RULES that read and write the world, branch, call and return -/
def gf (w : A_W) (a ci k : Nat) : Option Value := match w[a]? with
  | some (.inr (.inr (c, fs))) => if c = ci then fs[k]? else none
  | _ => none
def gi (w : A_W) (a ci k : Nat) : Option Int32 := match gf w a ci k with
  | some (.int v) => some v
  | _ => none
def gr (w : A_W) (a ci k : Nat) : Option Nat := match gf w a ci k with
  | some (.ref v) => some v
  | _ => none
def pf (w : A_W) (a ci k : Nat) (v : Value) : Option A_W := match w[a]? with
  | some (.inr (.inr (c, fs))) => if c = ci ∧ k < fs.length then some (w.set a (.inr (.inr (c, fs.set k v)))) else none
  | _ => none
abbrev inb (i : Int32) (n : Nat) : Prop := ¬ i < 0 ∧ i.toNatClampNeg < n
def rd (w : A_W) (a : Nat) (i : Int32) : Option Int32 := match w[a]? with
  | some (.inl (n, f)) => if inb i n then some (f i.toNatClampNeg) else none
  | _ => none
def rs (j : Nat) (i : Int32) : Option Int32 := match sarr[j]? with
  | some q => if inb i q.2.2.length then some (q.2.2.getD i.toNatClampNeg 0) else none
  | _ => none
def wr (w : A_W) (a : Nat) (i v : Int32) : Option A_W := match w[a]? with
  | some (.inl (n, f)) => if inb i n then some (w.set a (.inl (n, upd f i.toNatClampNeg v))) else none
  | _ => none
def ra (w : A_W) (a : Nat) (i : Int32) : Option Nat := match w[a]? with
  | some (.inr (.inl (n, f))) => if inb i n then f i.toNatClampNeg else none
  | _ => none
def wa (w : A_W) (a : Nat) (i : Int32) (b : Nat) : Option A_W := match w[a]? with
  | some (.inr (.inl (n, f))) => (match w[b]? with
    | some (.inr (.inr (c, _))) => if inb i n ∧ c = 3 then some (w.set a (.inr (.inl (n, va_up f i.toNatClampNeg (some b))))) else none
    | _ => none)
  | _ => none
def al (w : A_W) (a : Nat) : Option Int32 := match w[a]? with
  | some (.inl (n, _)) => some (Int32.ofNat n)
  | _ => none
def bz (v : Int32) : Option Int32 := if v = 0 ∨ v = 1 then some v else none
theorem vp_inb {i : Int32} {n : Nat} (h : inb i n) : vp_in i n := fun z => z.elim h.1 (fun q => absurd h.2 (Nat.not_lt.mpr q))
theorem gf_e {w : A_W} {a ci k : Nat} {v : Value} (h : gf w a ci k = some v) : ∃ fs, w[a]? = some (.inr (.inr (ci, fs))) ∧ fs[k]? = some v := by
  unfold gf at h
  split at h
  · rename_i c fs hw
    split at h
    · rename_i e; subst e; exact ⟨fs, hw, h⟩
    · cases h
  · cases h
theorem gi_e {w : A_W} {a ci k : Nat} {v : Int32} (h : gi w a ci k = some v) : gf w a ci k = some (.int v) := by
  unfold gi at h
  split at h
  · rename_i x hx; cases h; exact hx
  · cases h
theorem gr_e {w : A_W} {a ci k : Nat} {v : Nat} (h : gr w a ci k = some v) : gf w a ci k = some (.ref v) := by
  unfold gr at h
  split at h
  · rename_i x hx; cases h; exact hx
  · cases h
theorem pf_e {w w1 : A_W} {a ci k : Nat} {v : Value} (h : pf w a ci k v = some w1) : ∃ fs, w[a]? = some (.inr (.inr (ci, fs))) ∧ k < fs.length ∧ w1 = w.set a (.inr (.inr (ci, fs.set k v))) := by
  unfold pf at h
  split at h
  · rename_i c fs hw
    split at h
    · rename_i e; obtain ⟨rfl, hk⟩ := e; cases h; exact ⟨fs, hw, hk, rfl⟩
    · cases h
  · cases h
theorem rd_e {w : A_W} {a : Nat} {i v : Int32} (h : rd w a i = some v) : ∃ n f, w[a]? = some (.inl (n, f)) ∧ inb i n ∧ v = f i.toNatClampNeg := by
  unfold rd at h
  split at h
  · rename_i n f hw
    split at h
    · rename_i e; cases h; exact ⟨n, f, hw, e, rfl⟩
    · cases h
  · cases h
theorem rs_e {j : Nat} {i v : Int32} (h : rs j i = some v) : ∃ q, sarr[j]? = some q ∧ inb i q.2.2.length ∧ v = q.2.2.getD i.toNatClampNeg 0 := by
  unfold rs at h
  split at h
  · rename_i q hq
    split at h
    · rename_i e; cases h; exact ⟨q, hq, e, rfl⟩
    · cases h
  · cases h
theorem wr_e {w w1 : A_W} {a : Nat} {i v : Int32} (h : wr w a i v = some w1) : ∃ n f, w[a]? = some (.inl (n, f)) ∧ inb i n ∧ w1 = w.set a (.inl (n, upd f i.toNatClampNeg v)) := by
  unfold wr at h
  split at h
  · rename_i n f hw
    split at h
    · rename_i e; cases h; exact ⟨n, f, hw, e, rfl⟩
    · cases h
  · cases h
theorem ra_e {w : A_W} {a b : Nat} {i : Int32} (h : ra w a i = some b) : ∃ n f, w[a]? = some (.inr (.inl (n, f))) ∧ inb i n ∧ f i.toNatClampNeg = some b := by
  unfold ra at h
  split at h
  · rename_i n f hw
    split at h
    · rename_i e; exact ⟨n, f, hw, e, h⟩
    · cases h
  · cases h
theorem wa_e {w w1 : A_W} {a b : Nat} {i : Int32} (h : wa w a i b = some w1) : ∃ n f fs, w[a]? = some (.inr (.inl (n, f))) ∧ w[b]? = some (.inr (.inr (3, fs))) ∧ inb i n ∧ w1 = w.set a (.inr (.inl (n, va_up f i.toNatClampNeg (some b)))) := by
  unfold wa at h
  split at h
  · rename_i n f hw
    split at h
    · rename_i c fs hb
      split at h
      · rename_i e; obtain ⟨e1, rfl⟩ := e; cases h; exact ⟨n, f, fs, hw, hb, e1, rfl⟩
      · cases h
    · cases h
  · cases h
theorem al_e {w : A_W} {a : Nat} {v : Int32} (h : al w a = some v) : ∃ n f, w[a]? = some (.inl (n, f)) ∧ v = Int32.ofNat n := by
  unfold al at h
  split at h
  · rename_i n f hw; cases h; exact ⟨n, f, hw, rfl⟩
  · cases h
theorem bz_e {v x : Int32} (h : bz v = some x) : x = v ∧ (v = 0 ∨ v = 1) := by
  unfold bz at h
  split at h
  · rename_i e; cases h; exact ⟨rfl, e⟩
  · cases h
theorem dcl0 : ∀ k, k < Nn 0 → (Tn 0 k).1 = Rn 0 := by decide +kernel
theorem dcl1 : ∀ k, k < Nn 1 → (Tn 1 k).1 = Rn 1 := by decide +kernel
theorem dcl2 : ∀ k, k < Nn 2 → (Tn 2 k).1 = Rn 2 := by decide +kernel
theorem dcl3 : ∀ k, k < Nn 3 → (Tn 3 k).1 = Rn 3 := by decide +kernel
theorem dcl4 : ∀ k, k < Nn 4 → (Tn 4 k).1 = Rn 4 := by decide +kernel
theorem dcl {ci : Nat} (h : ci < 5) : ∀ k, k < Nn ci → (Tn ci k).1 = Rn ci := fiveQ (P := fun ci => ∀ k, k < Nn ci → (Tn ci k).1 = Rn ci) dcl0 dcl1 dcl2 dcl3 dcl4 h
theorem exF_e {own : Nat} {pc len nx ci k pl idx : Nat} {ins : Instr} {v : Value} (h : exF own (pc, ins, len, nx, v, ci, k, pl) idx = true) : ci < 5 ∧ k < Nn ci ∧ Cond.fieldLink (Rn own) idx (Rn ci) (Tn ci k).2.1 (Tn ci k).2.2.1 ∈ lg := by
  unfold exF at h
  have h := Bool.and_eq_true_iff.mp h
  have h2 := Bool.and_eq_true_iff.mp h.2
  exact ⟨of_decide_eq_true h.1, of_decide_eq_true h2.1, lgm _ (of_decide_eq_true h2.2) rfl⟩
section SMH
variable {G : Gx} {X : Cx} {own nL : Nat} {cc : ByteArray} {rt : Option FieldType} {rm : Room} {w w1 : A_W} {nc ns : Nat} {r : A_R} {st : List Value} {pc : Nat} {len nx ci k pl idx : Nat} {v0 v : Value}
theorem Sm_gf (K : Ok G X own cc nL rt rm) (hq : eok own cc (pc, .getfield idx, len, nx, v0, ci, k, pl) = true) {a : Nat} (h : gf w a ci k = some v) (kk : Sm G X w nc ns r (v :: st) (pc + 3)) : Sm G X w nc ns r (.ref a :: st) pc := by
  intro H locs ls hw hS hl
  obtain ⟨fs, he, hv⟩ := gf_e h
  obtain ⟨hci, hk, hm⟩ := exF_e (eok_x hq)
  refine va_get (D := gD G) (ci := ci) (v := rl G v) (C := Rn ci) (T := Tn ci) (N := Nn ci) K.1 K.2.1 K.2.2.2.2.2.1 (inn hci) K.2.2.2.2.1 K.2.2.2.2.2.2.1.1 (WD_P hw he) 0 rfl (cls_at hci) k hk (K.2.2.2.2.2.1 _ hm) (fun x h9 => by rw [dcl hci k hk] at h9; exact h9) ?_ (eok_i hq rfl) (kk H locs ls hw hS hl)
  rw [List.getElem?_map, hv]; rfl
theorem Sm_gi (K : Ok G X own cc nL rt rm) (hq : eok own cc (pc, .getfield idx, len, nx, v0, ci, k, pl) = true) {a : Nat} {x : Int32} (h : gi w a ci k = some x) (kk : Sm G X w nc ns r (.int x :: st) (pc + 3)) : Sm G X w nc ns r (.ref a :: st) pc := Sm_gf K hq (gi_e h) kk
theorem Sm_gr (K : Ok G X own cc nL rt rm) (hq : eok own cc (pc, .getfield idx, len, nx, v0, ci, k, pl) = true) {a : Nat} {x : Nat} (h : gr w a ci k = some x) (kk : Sm G X w nc ns r (.ref x :: st) (pc + 3)) : Sm G X w nc ns r (.ref a :: st) pc := Sm_gf K hq (gr_e h) kk
theorem Sm_pf (K : Ok G X own cc nL rt rm) (hq : eok own cc (pc, .putfield idx, len, nx, v0, ci, k, pl) = true) (hfin : (Tn ci k).2.2.2 = false) {a : Nat} (h : pf w a ci k v = some w1) (hn : narrow (tyn ci k) (rl G v) = rl G v) (hfit : fits (tyn ci k) (rl G v) = true) (kk : Sm G X w1 nc ns r st (pc + 3)) : Sm G X w nc ns r (v :: .ref a :: st) pc := by
  intro H locs ls hw hS hl
  obtain ⟨fs, he, hkl, rfl⟩ := pf_e h
  obtain ⟨hci, hk, hm⟩ := exF_e (eok_x hq)
  have hts := K.2.2.2.2.2.1
  have hin := inn hci
  have hK := K.2.2.2.2.2.2.1.1
  have hc := cls_at hci
  have hap := va_apart (own := Rn own) hts hin (tyn ci) (tokn hci) (nmn hci) hK hc
  obtain ⟨q, h1, cell, q1, q2, q3, q4⟩ := WD_at hw he
  have hr : q = (Rn ci, Tn ci, Nn ci) := Option.some.inj (h1.symm.trans hc)
  subst hr
  obtain ⟨hSl, hfc, kC, hkC, hkind⟩ := hK.1 ci _ hc
  obtain ⟨cf, kf, fi, f, hi, hsl⟩ := hSl k hk
  have hlay := hts _ (hin _ (u_in_lay hk))
  unfold u_lay at hlay
  rw [if_neg (by rw [hfin]; decide)] at hlay
  have hst := (u_facts hfc hkC (u_lays hts hin hk) hi).1
  have h6 := u_store hfc hkC hkind hlay hi (tokn hci k hk) hn hfit
  have hi2 := hi
  rw [show (Tn ci k).1 = Rn ci from dcl hci k hk] at hi2
  refine W.putK K.1 K.2.1 (f := f) ⟨K.2.2.2.2.1, hts _ hm, ⟨_, _, _, hi2⟩, hst⟩ (by rw [q2]; exact h6) q1 q3 (by rw [hsl]; exact k2_hasslot (q4 k hk)) rfl rfl (eok_i hq rfl) fun H1 e1 e2 e3 => ?_
  rw [hsl] at e1 ⊢
  have hA : gA G (ad G a) := by rw [WD_ad hw he]; exact Nat.le_add_right _ _
  refine kk H1 _ ls (WD_set hw he e2 e3 ⟨_, hc, ?_⟩) (hS.put e2 e3 hA) hl
  refine t_OB.to (V := updV (vp_V (fs.map (rl G))) k (rl G v)) ⟨_, e1, q2, q3, t_set q4 hap hk _⟩ (fun j _ => ?_)
  rw [vp_updV_set (by rw [List.length_map]; exact hkl), List.map_set]
theorem Sm_pi (K : Ok G X own cc nL rt rm) (hq : eok own cc (pc, .putfield idx, len, nx, v0, ci, k, pl) = true) (hfin : (Tn ci k).2.2.2 = false) (hty : tyn ci k = .int) {a : Nat} {x : Int32} (h : pf w a ci k (.int x) = some w1) (kk : Sm G X w1 nc ns r st (pc + 3)) : Sm G X w nc ns r (.int x :: .ref a :: st) pc := Sm_pf K hq hfin h (by rw [hty]; rfl) (by rw [hty]; rfl) kk
theorem Sm_pz (K : Ok G X own cc nL rt rm) (hq : eok own cc (pc, .putfield idx, len, nx, v0, ci, k, pl) = true) (hfin : (Tn ci k).2.2.2 = false) (hty : tyn ci k = .boolean) {a : Nat} {x y : Int32} (hb : bz x = some y) (h : pf w a ci k (.int y) = some w1) (kk : Sm G X w1 nc ns r st (pc + 3)) : Sm G X w nc ns r (.int x :: .ref a :: st) pc := by
  obtain ⟨rfl, hx⟩ := bz_e hb
  refine Sm_pf K hq hfin h ?_ ?_ kk
  · rw [hty]; rcases hx with rfl | rfl <;> rfl
  · rw [hty]; rcases hx with rfl | rfl <;> rfl
theorem Sm_pF (K : Ok G X own cc nL rt rm) (hini : (xH X).name = "<init>") (hq : eok own cc (pc, .putfield idx, len, nx, v0, ci, k, pl) = true) (hfin : (Tn ci k).2.2.2 = true) (hown : Rn ci = Rn own) {a : Nat} (h : pf w a ci k v = some w1) (hn : narrow (tyn ci k) (rl G v) = rl G v) (hfit : fits (tyn ci k) (rl G v) = true) (kk : Sm G X w1 nc ns r st (pc + 3)) : Sm G X w nc ns r (v :: .ref a :: st) pc := by
  intro H locs ls hw hS hl
  obtain ⟨fs, he, hkl, rfl⟩ := pf_e h
  obtain ⟨hci, hk, hm⟩ := exF_e (eok_x hq)
  have hts := K.2.2.2.2.2.1
  have hin := inn hci
  have hK := K.2.2.2.2.2.2.1.1
  have hc := cls_at hci
  have hap := va_apart (own := Rn own) hts hin (tyn ci) (tokn hci) (nmn hci) hK hc
  obtain ⟨q, h1, cell, q1, q2, q3, q4⟩ := WD_at hw he
  have hr : q = (Rn ci, Tn ci, Nn ci) := Option.some.inj (h1.symm.trans hc)
  subst hr
  obtain ⟨hSl, hfc, kC, hkC, hkind⟩ := hK.1 ci _ hc
  obtain ⟨cf, kf, fi, f, hi, hsl⟩ := hSl k hk
  have hlay := hts _ (hin _ (u_in_lay hk))
  unfold u_lay at hlay
  rw [if_pos hfin] at hlay
  have hst := (u_facts hfc hkC (u_lays hts hin hk) hi).1
  have hcf : (xM X).cls = cf := by
    obtain ⟨_, _, c', _, _, _, -, -, hf', -, -, -, hown2, -⟩ := Cond.laysFinal_spec hlay
    have e1 : c' = cf := by have := hi.symm.trans hf'; simp at this; exact this.1.symm
    rw [dcl hci k hk, hown] at hown2
    rw [← e1]; exact Option.some.inj (K.2.2.2.2.1.symm.trans hown2)
  have h6 := u_fits hfc hkC hkind (Or.inr hlay) hi (tokn hci k hk) hn hfit
  have hi2 := hi
  rw [show (Tn ci k).1 = Rn ci from dcl hci k hk] at hi2
  refine W.putFinK K.1 K.2.1 K.2.2.2.2.1 (hts _ hm) hi2 hst hcf hini (by rw [q2]; exact h6) q1 q3 (by rw [hsl]; exact k2_hasslot (q4 k hk)) rfl rfl (eok_i hq rfl) fun H1 e1 e2 e3 => ?_
  rw [hsl] at e1 ⊢
  have hA : gA G (ad G a) := by rw [WD_ad hw he]; exact Nat.le_add_right _ _
  refine kk H1 _ ls (WD_set hw he e2 e3 ⟨_, hc, ?_⟩) (hS.put e2 e3 hA) hl
  refine t_OB.to (V := updV (vp_V (fs.map (rl G))) k (rl G v)) ⟨_, e1, q2, q3, t_set q4 hap hk _⟩ (fun j _ => ?_)
  rw [vp_updV_set (by rw [List.length_map]; exact hkl), List.map_set]
theorem Sm_rd (K : Ok G X own cc nL rt rm) (hd : decode cc pc = .ok (.iaload, 1)) {a : Nat} {i x : Int32} (h : rd w a i = some x) (kk : Sm G X w nc ns r (.int x :: st) (pc + 1)) : Sm G X w nc ns r (.int i :: .ref a :: st) pc := by
  intro H locs ls hw hS hl
  obtain ⟨n, f, he, hi, rfl⟩ := rd_e h
  exact va_iald K.1 K.2.1 K.2.2.2.2.2.2.1.1 (WD_P hw he) 0 0 rfl rfl (vp_inb hi) hd (kk H locs ls hw hS hl)
theorem Sm_rs (K : Ok G X own cc nL rt rm) (hd : decode cc pc = .ok (.iaload, 1)) {j : Nat} {i x : Int32} (h : rs j i = some x) (kk : Sm G X w nc ns r (.int x :: st) (pc + 1)) : Sm G X w nc ns r (.int i :: .ref (aA j) :: st) pc := by
  intro H locs ls hw hS hl
  obtain ⟨q, hq, hi, rfl⟩ := rs_e h
  exact va_ti K.1 K.2.1 (K.2.2.2.2.2.2.1.2.2.1 j q hq).2 hS (vp_inb hi) rfl hd (kk H locs ls hw hS hl)
theorem Sm_wr (K : Ok G X own cc nL rt rm) (hd : decode cc pc = .ok (.iastore, 1)) {a : Nat} {i x : Int32} (h : wr w a i x = some w1) (kk : Sm G X w1 nc ns r st (pc + 1)) : Sm G X w nc ns r (.int x :: .int i :: .ref a :: st) pc := by
  intro H locs ls hw hS hl
  obtain ⟨n, f, he, hi, rfl⟩ := wr_e h
  have hK := K.2.2.2.2.2.2.1.1
  have hA : gA G (ad G a) := by rw [WD_ad hw he]; exact Nat.le_add_right _ _
  refine W.iast K.1 K.2.1 (WD_at hw he) ((hK.2 0 _ rfl).1 n (fun j => .int (f j))) (fun q => by cases q) (by show ¬ (i < 0 ∨ (arrV _ _ _).slots.size ≤ _); rw [arrV_size]; exact vp_inb hi) rfl rfl hd fun H1 e z oq => ?_
  refine kk H1 _ ls (WD_set hw he z oq ?_) (hS.put z oq hA) hl
  show H1[ad G a]? = some (vp_cell _ _)
  rw [e]
  rw [vp_cell_i, vp_cell_i, arrV_store]
  congr 2
  funext q
  by_cases hq : q = i.toNatClampNeg
  · subst hq
    simp [updV, upd]
  · simp [updV, upd, hq]
theorem Sm_ra (K : Ok G X own cc nL rt rm) (hd : decode cc pc = .ok (.aaload, 1)) {a b : Nat} {i : Int32} (h : ra w a i = some b) (kk : Sm G X w nc ns r (.ref b :: st) (pc + 1)) : Sm G X w nc ns r (.int i :: .ref a :: st) pc := by
  intro H locs ls hw hS hl
  obtain ⟨n, f, he, hi, hb⟩ := ra_e h
  refine va_aldq K.1 K.2.1 K.2.2.2.2.2.2.1.1 (WD_P hw he) 0 1 rfl rfl (vp_inb hi) hd ?_
  rw [hb]
  exact kk H locs ls hw hS hl
theorem Sm_al (K : Ok G X own cc nL rt rm) (hd : decode cc pc = .ok (.arraylength, 1)) {a : Nat} {x : Int32} (h : al w a = some x) (kk : Sm G X w nc ns r (.int x :: st) (pc + 1)) : Sm G X w nc ns r (.ref a :: st) pc := by
  intro H locs ls hw hS hl
  obtain ⟨n, f, he, rfl⟩ := al_e h
  exact va_alen K.1 K.2.1 K.2.2.2.2.2.2.1.1 (WD_P hw he) 0 0 rfl rfl rfl hd (kk H locs ls hw hS hl)
theorem Sm_lcmp (K : Ok G X own cc nL rt rm) (hd : decode cc pc = .ok (.lcmp, 1)) {x y : Int64} (kk : Sm G X w nc ns r (.int (lg_cmp x y) :: st) (pc + 1)) : Sm G X w nc ns r (.long y :: .long x :: st) pc := fun H locs ls hw hS hl => W.lcmp K.1 K.2.1 hd (kk H locs ls hw hS hl)
end SMH
end
section
/-! BRANCHES, SWITCHES, CALLS, RETURNS -/
section SMB
variable {G : Gx} {X : Cx} {own nL : Nat} {cc : ByteArray} {rt : Option FieldType} {rm : Room} {w w1 : A_W} {nc ns : Nat} {r : A_R} {st : List Value} {pc : Nat} {len nx ci k pl idx : Nat} {v0 v : Value}
theorem Sm_ic_eq (K : Ok G X own cc nL rt rm) {off : Int} (hq : eok own cc (pc, .if_icmp .eq off, len, nx, v0, ci, k, pl) = true) {x y : Int32} (kt : x = y → Sm G X w nc ns r st nx) (kf : ¬ x = y → Sm G X w nc ns r st (pc + 3)) : Sm G X w nc ns r (.int y :: .int x :: st) pc := fun H locs ls hw hS hl => lv_icmp_eq K.1 K.2.1 (eok_i hq rfl) (of_decide_eq_true (eok_x hq)) (fun z => kt z H locs ls hw hS hl) (fun z => kf z H locs ls hw hS hl)
theorem Sm_ic_ne (K : Ok G X own cc nL rt rm) {off : Int} (hq : eok own cc (pc, .if_icmp .ne off, len, nx, v0, ci, k, pl) = true) {x y : Int32} (kt : ¬ x = y → Sm G X w nc ns r st nx) (kf : x = y → Sm G X w nc ns r st (pc + 3)) : Sm G X w nc ns r (.int y :: .int x :: st) pc := fun H locs ls hw hS hl => lv_icmp_ne K.1 K.2.1 (eok_i hq rfl) (of_decide_eq_true (eok_x hq)) (fun z => kt z H locs ls hw hS hl) (fun z => kf z H locs ls hw hS hl)
theorem Sm_ic_lt (K : Ok G X own cc nL rt rm) {off : Int} (hq : eok own cc (pc, .if_icmp .lt off, len, nx, v0, ci, k, pl) = true) {x y : Int32} (kt : x < y → Sm G X w nc ns r st nx) (kf : ¬ x < y → Sm G X w nc ns r st (pc + 3)) : Sm G X w nc ns r (.int y :: .int x :: st) pc := fun H locs ls hw hS hl => lv_icmp_lt K.1 K.2.1 (eok_i hq rfl) (of_decide_eq_true (eok_x hq)) (fun z => kt z H locs ls hw hS hl) (fun z => kf z H locs ls hw hS hl)
theorem Sm_ic_ge (K : Ok G X own cc nL rt rm) {off : Int} (hq : eok own cc (pc, .if_icmp .ge off, len, nx, v0, ci, k, pl) = true) {x y : Int32} (kt : y ≤ x → Sm G X w nc ns r st nx) (kf : ¬ y ≤ x → Sm G X w nc ns r st (pc + 3)) : Sm G X w nc ns r (.int y :: .int x :: st) pc := fun H locs ls hw hS hl => lv_icmp_ge K.1 K.2.1 (eok_i hq rfl) (of_decide_eq_true (eok_x hq)) (fun z => kt z H locs ls hw hS hl) (fun z => kf z H locs ls hw hS hl)
theorem Sm_ic_gt (K : Ok G X own cc nL rt rm) {off : Int} (hq : eok own cc (pc, .if_icmp .gt off, len, nx, v0, ci, k, pl) = true) {x y : Int32} (kt : y < x → Sm G X w nc ns r st nx) (kf : ¬ y < x → Sm G X w nc ns r st (pc + 3)) : Sm G X w nc ns r (.int y :: .int x :: st) pc := fun H locs ls hw hS hl => lv_icmp_gt K.1 K.2.1 (eok_i hq rfl) (of_decide_eq_true (eok_x hq)) (fun z => kt z H locs ls hw hS hl) (fun z => kf z H locs ls hw hS hl)
theorem Sm_ic_le (K : Ok G X own cc nL rt rm) {off : Int} (hq : eok own cc (pc, .if_icmp .le off, len, nx, v0, ci, k, pl) = true) {x y : Int32} (kt : x ≤ y → Sm G X w nc ns r st nx) (kf : ¬ x ≤ y → Sm G X w nc ns r st (pc + 3)) : Sm G X w nc ns r (.int y :: .int x :: st) pc := fun H locs ls hw hS hl => lv_icmp_le K.1 K.2.1 (eok_i hq rfl) (of_decide_eq_true (eok_x hq)) (fun z => kt z H locs ls hw hS hl) (fun z => kf z H locs ls hw hS hl)
theorem Sm_if_eq (K : Ok G X own cc nL rt rm) {off : Int} (hq : eok own cc (pc, .ifCond .eq off, len, nx, v0, ci, k, pl) = true) {x : Int32} (kt : x = 0 → Sm G X w nc ns r st nx) (kf : ¬ x = 0 → Sm G X w nc ns r st (pc + 3)) : Sm G X w nc ns r (.int x :: st) pc := fun H locs ls hw hS hl => lv_if_eq K.1 K.2.1 (eok_i hq rfl) (of_decide_eq_true (eok_x hq)) (fun z => kt z H locs ls hw hS hl) (fun z => kf z H locs ls hw hS hl)
theorem Sm_if_ne (K : Ok G X own cc nL rt rm) {off : Int} (hq : eok own cc (pc, .ifCond .ne off, len, nx, v0, ci, k, pl) = true) {x : Int32} (kt : ¬ x = 0 → Sm G X w nc ns r st nx) (kf : x = 0 → Sm G X w nc ns r st (pc + 3)) : Sm G X w nc ns r (.int x :: st) pc := fun H locs ls hw hS hl => lv_if_ne K.1 K.2.1 (eok_i hq rfl) (of_decide_eq_true (eok_x hq)) (fun z => kt z H locs ls hw hS hl) (fun z => kf z H locs ls hw hS hl)
theorem Sm_if_lt (K : Ok G X own cc nL rt rm) {off : Int} (hq : eok own cc (pc, .ifCond .lt off, len, nx, v0, ci, k, pl) = true) {x : Int32} (kt : x < 0 → Sm G X w nc ns r st nx) (kf : ¬ x < 0 → Sm G X w nc ns r st (pc + 3)) : Sm G X w nc ns r (.int x :: st) pc := fun H locs ls hw hS hl => lv_if_lt K.1 K.2.1 (eok_i hq rfl) (of_decide_eq_true (eok_x hq)) (fun z => kt z H locs ls hw hS hl) (fun z => kf z H locs ls hw hS hl)
theorem Sm_if_ge (K : Ok G X own cc nL rt rm) {off : Int} (hq : eok own cc (pc, .ifCond .ge off, len, nx, v0, ci, k, pl) = true) {x : Int32} (kt : 0 ≤ x → Sm G X w nc ns r st nx) (kf : ¬ 0 ≤ x → Sm G X w nc ns r st (pc + 3)) : Sm G X w nc ns r (.int x :: st) pc := fun H locs ls hw hS hl => lv_if_ge K.1 K.2.1 (eok_i hq rfl) (of_decide_eq_true (eok_x hq)) (fun z => kt z H locs ls hw hS hl) (fun z => kf z H locs ls hw hS hl)
theorem Sm_if_gt (K : Ok G X own cc nL rt rm) {off : Int} (hq : eok own cc (pc, .ifCond .gt off, len, nx, v0, ci, k, pl) = true) {x : Int32} (kt : 0 < x → Sm G X w nc ns r st nx) (kf : ¬ 0 < x → Sm G X w nc ns r st (pc + 3)) : Sm G X w nc ns r (.int x :: st) pc := fun H locs ls hw hS hl => lv_if_gt K.1 K.2.1 (eok_i hq rfl) (of_decide_eq_true (eok_x hq)) (fun z => kt z H locs ls hw hS hl) (fun z => kf z H locs ls hw hS hl)
theorem Sm_if_le (K : Ok G X own cc nL rt rm) {off : Int} (hq : eok own cc (pc, .ifCond .le off, len, nx, v0, ci, k, pl) = true) {x : Int32} (kt : x ≤ 0 → Sm G X w nc ns r st nx) (kf : ¬ x ≤ 0 → Sm G X w nc ns r st (pc + 3)) : Sm G X w nc ns r (.int x :: st) pc := fun H locs ls hw hS hl => lv_if_le K.1 K.2.1 (eok_i hq rfl) (of_decide_eq_true (eok_x hq)) (fun z => kt z H locs ls hw hS hl) (fun z => kf z H locs ls hw hS hl)
theorem Sm_tsw (K : Ok G X own cc nL rt rm) {dflt lo hi : Int} {offs : Array Int} (hd : decode cc pc = .ok (.tableswitch dflt lo hi offs, len)) (tg : List Nat) (dt : Nat) (hhi : hi = lo + tg.length - 1) (hdt : (pc : Int) + dflt = (dt : Int)) (ho : ∀ j : Nat, j < tg.length → offs[j]? = some (((tg.getD j 0 : Nat) : Int) - (pc : Int))) {x : Int32} (k1 : ∀ j : Nat, j < tg.length → x.toInt = lo + j → Sm G X w nc ns r st (tg.getD j 0)) (k2 : (∀ j : Nat, j < tg.length → ¬ x.toInt = lo + j) → Sm G X w nc ns r st dt) : Sm G X w nc ns r (.int x :: st) pc := by
  intro H locs ls hw hS hl
  by_cases h : x.toInt < lo ∨ hi < x.toInt
  · exact lv_tableOut K.1 K.2.1 hd h hdt (k2 (fun j hj e => by omega) H locs ls hw hS hl)
  · have hj : (x.toInt - lo).toNat < tg.length := by omega
    exact lv_tableIn K.1 K.2.1 hd (by omega) (by omega) (ho _ hj) (by omega) (k1 _ hj (by omega) H locs ls hw hS hl)
theorem Sm_lsw (K : Ok G X own cc nL rt rm) {dflt : Int} {ps : Array (Int × Int)} (hd : decode cc pc = .ok (.lookupswitch dflt ps, len)) (hp : (ps.toList.zip (ps.toList.drop 1)).all (fun (a, next) => a.1 < next.1) = true) {x : Int32} (tgt : Nat) (ht : (pc : Int) + Op.lookupswitch.offset ps.toList dflt x.toInt = (tgt : Int)) (kk : Sm G X w nc ns r st tgt) : Sm G X w nc ns r (.int x :: st) pc := fun H locs ls hw hS hl => lv_lookup K.1 K.2.1 hd hp rfl ht (kk H locs ls hw hS hl)
/-- fewer locals are known: a stronger statement -/
def leR : A_R → A_R → Prop
  | [], [] => True
  | a :: t, b :: u => (a = none ∨ a = b) ∧ leR t u
  | _, _ => False
theorem leR_lk {a b : A_R} (h : leR a b) {i : Nat} {v : Value} (hi : lk a i = some v) : lk b i = some v := by
  induction a generalizing b i with
  | nil => simp [lk] at hi
  | cons x t ih =>
    cases b with
    | nil => exact h.elim
    | cons y u =>
      cases i with
      | zero =>
        rcases h.1 with e | e
        · simp [lk, e] at hi
        · simp [lk, ← e] at hi ⊢; exact hi
      | succ i => exact ih h.2 hi
theorem leR_len {a b : A_R} (h : leR a b) : a.length = b.length := by
  induction a generalizing b with
  | nil => cases b with
    | nil => rfl
    | cons => exact h.elim
  | cons x t ih => cases b with
    | nil => exact h.elim
    | cons y u => simp [ih h.2]
theorem Sm_le {r1 : A_R} (h : leR r1 r) (kk : Sm G X w nc ns r1 st pc) : Sm G X w nc ns r st pc := fun H locs ls hw hS hl => kk H locs ls hw hS ⟨hl.1.trans (leR_len h).symm, hl.2.1, fun i v hi => hl.2.2 i v (leR_lk h hi)⟩
end SMB
/-! contracts -/
def Pw (G : Gx) (w : A_W) (U : State) : Prop := WD G w U.heap ∧ KK G U
def Qw (G : Gx) (v : Option Value) (w1 : A_W) : Array Value → State → Outcome → State → Prop := fun _ s oc t => (oc = .returned (v.map (rl G)) ∧ Pw G w1 t) ∧ va_F (gA G) s t
def Cn (G : Gx) (y : MethodName) (bytes : ByteArray) (maxL : Nat) (ret : Option FieldType) (rm : Room) (as : List Value) (w : A_W) (v : Option Value) (w1 : A_W) : Prop :=
  Met (gL G) y (Cond.code y bytes maxL ret :: lg) rm (va_Pc (as.map (rl G)) (Pw G w)) (Qw G v w1) rm.cells rm.slots (gA G)
/-- a method's own facts: code, class, number of parameters -/
def Cy (y : MethodName) (bytes : ByteArray) (maxL : Nat) (ret : Option FieldType) (n : Nat) : Prop :=
  Cond.code y bytes maxL ret ∈ lg ∧ Cond.initialized y.cls ∈ lg ∧ (y.cls ≠ "java/lang/invoke/MethodHandle" ∧ y.cls ≠ "java/lang/invoke/VarHandle" ∧ (parseMethodDescriptor y.desc).map (fun d => d.parameters.length) = some n) ∧ plainName y.cls = true
theorem lg_good {y : MethodName} {bytes : ByteArray} {maxL : Nat} {ret : Option FieldType} (h : Cond.code y bytes maxL ret ∈ lg) : GoodIn lg (Cond.code y bytes maxL ret :: lg) := by
  have key : ∀ w ∈ lg, w ∈ lg ∧ ((w.onTables && w.keeps) = true ∨ ∃ ty, w = .arrayClass ty) := fun w hw => ⟨hw, good_of_word (List.all_eq_true.mp lg_all w hw)⟩
  intro w hw
  rcases List.mem_cons.mp hw with rfl | hw
  · exact key _ h
  · exact key _ hw
section SMC
variable {G : Gx} {X : Cx} {own nL : Nat} {cc : ByteArray} {rt : Option FieldType} {R rm : Room} {w w1 : A_W} {nc ns : Nat} {r : A_R} {st st0 : List Value} {pc : Nat}
theorem Pw_blind {as : List Value} : FrameBlind (va_Pc as (Pw G w)) := fun a U g mk q => ⟨q.1, q.2.1, q.2.2.same (s := U) (U := U.calling g mk a) rfl rfl⟩
theorem Pw_of (K : Ok G X own cc nL rt R) {H : Heap} {locs : List Loc} (hw : WD G w H) (hS : va_S (gA G) (xS X).heap H locs) {U : State} (hU : U.heap = H) (hW : (xS X).WarmedH U.vm) : Pw G w U := ⟨by rw [hU]; exact hw, K.2.2.2.2.2.2.1.moved hW (fun a h1 h2 => by rw [hU]; exact hS.2.1 a h1 h2)⟩
theorem Sm_go {v : Option Value} {mc ms : Nat} {aa : Array Value} (hr : ∀ (H : Heap) (locs : List Loc) (ls : Array Slot), WD G w H → va_S (gA G) (xS X).heap H locs → LH G ls r → va_Run (xP X) (gL G) (xE X) (xR X) (xS X) (xM X) (xG X) (xB X) (xH X) (xC X) H locs nc ns mc ms (F0 (xM X) pc ls (st0.map (rl G))) (st.map (rl G)) (Qw G v w1 aa) (gA G)) (kk : Sm G X w1 (nc + mc) (ns + ms) r (v.toList ++ st) (pc + 3)) : Sm G X w nc ns r st0 pc := by
  intro H locs ls hw hS hl T hT Z
  obtain ⟨v1, s0, t, T1, L, h0, Z1, hL, e1, e2, ⟨⟨hv, hb⟩, hz, hk⟩, sts⟩ := hr H locs ls hw hS hl T hT Z
  have hv : v1 = v.map (rl G) := by cases hv; rfl
  subst hv
  rw [h0] at hz hk
  obtain ⟨t2, a1, b1⟩ := kk T1.heap (locs ++ L) ls (by rw [e1]; exact hb.1) ⟨Nat.le_trans hS.1 (by rw [e1]; exact hz), fun q g1 g2 => by rw [e1, hk q (Nat.lt_of_lt_of_le g1 hS.1) g2]; exact hS.2.1 q g1 g2, fun q hq => by
      rcases List.mem_append.mp hq with h | h
      · exact hS.2.2 q h
      · exact hL q h⟩ hl T1 rfl Z1
  refine ⟨t2, sts t2 ?_, b1⟩
  have e : (v.toList ++ st).map (rl G) = (v.map (rl G)).toList ++ st.map (rl G) := by cases v <;> simp
  rw [e] at a1
  exact a1
theorem map_call {as : List Value} {b : Nat} : (as.reverse ++ .ref b :: st).map (rl G) = (as.map (rl G)).reverse ++ .ref (ad G b) :: st.map (rl G) := by simp [rl]
theorem map_callS {as : List Value} : (as.reverse ++ st).map (rl G) = (as.map (rl G)).reverse ++ st.map (rl G) := by simp
variable {y : MethodName} {bytes : ByteArray} {maxL n idx : Nat} {ret : Option FieldType} {as : List Value} {v : Option Value}
theorem Sm_callB (K : Ok G X own cc nL rt R) (hy : Cy y bytes maxL ret n) (hl : Cond.methodLink (Rn own) idx y ∈ lg) (hR : rm.frames + 1 ≤ R.frames ∧ 8 + (maxL + 11) + rm.locals ≤ R.locals) : CallB (xR X) (xS X) (xG X) (Rn own) idx y bytes maxL ret (Cond.code y bytes maxL ret :: lg) rm rm.cells rm.slots n :=
  callB_of n K.2.2.2.2.2.1 (lg_good hy.1) rfl rfl rfl (K.2.2.2.2.2.1 _ hy.2.1) (K.2.2.2.2.2.1 _ hl) hy.2.2.1 (by rw [K.2.2.2.2.2.2.2.2.1]; exact hR)
theorem Sm_callN (K : Ok G X own cc nL rt R) {host : String} (hy : Cy y bytes maxL ret n) (hl : (Rn own, idx, y, host) ∈ nst) (hR : rm.frames + 1 ≤ R.frames ∧ 8 + (maxL + 11) + rm.locals ≤ R.locals) : va_CN (xR X) (xS X) (xG X) (Rn own) idx y host bytes maxL ret (Cond.code y bytes maxL ret :: lg) rm rm.cells rm.slots n :=
  va_cnB n K.2.2.2.2.2.1 (lg_good hy.1) rfl rfl rfl (K.2.2.2.2.2.2.1.2.1 _ hl) (K.2.2.2.2.2.1 _ hy.2.1) hy.2.2.1 (by rw [K.2.2.2.2.2.2.2.2.1]; exact hR)
theorem Sm_callV (K : Ok G X own cc nL rt R) (hd : decode cc pc = .ok (.invokevirtual idx, 3)) (hy : Cy y bytes maxL ret n) (hi : Cond.instanceMethod y ∈ lg) (hs : Cond.selects y.cls y y ∈ lg) (hl : Cond.methodLink (Rn own) idx y ∈ lg) (hR : rm.frames + 1 ≤ R.frames ∧ 8 + (maxL + 11) + rm.locals ≤ R.locals) {b ci : Nat} {fs : List Value} (hb : w[b]? = some (.inr (.inr (ci, fs)))) (hci : ci < 5) (hyc : y.cls = Rn ci) (hn : as.length = n) (hlen : r.length = nL) (hst : st0 = as.reverse ++ .ref b :: st) (hcat : ((st.map (rl G)).map fun v => v.category).sum ≤ 8) (hf : nc + rm.cells ≤ R.cells ∧ ns + rm.slots ≤ R.slots) (hM : Cn G y bytes maxL ret rm (.ref b :: as) w v w1) (kk : Sm G X w1 (nc + rm.cells) (ns + rm.slots) r (v.toList ++ st) (pc + 3)) : Sm G X w nc ns r st0 pc := by
  refine Sm_go (aa := (Value.ref (ad G b) :: as.map (rl G)).toArray) (fun H locs ls hw hS hl1 => ?_) kk
  subst hst
  rw [map_call]
  refine va_runV (cc := cc) (nL := nL) (Ts := lg) (own := Rn own) (C := y.cls) (As := as.map (rl G)) ⟨K.1, K.2.1, K.2.2.2.1, K.2.2.2.2.1, K.2.2.2.2.2.1⟩ hM ⟨Sm_callB K hy hl hR, K.2.2.2.2.2.1 _ hi, K.2.2.2.2.2.1 _ hs⟩ ⟨Pw_blind, ?_, fun U hU hW => ⟨rfl, Pw_of K hw hS hU hW⟩⟩ rfl (by rw [List.length_map]; exact hn) (hl1.1.trans hlen) rfl (lv_room hcat) hd (by rw [K.2.2.2.2.2.2.2.2.1]; exact hf)
  rw [hyc]
  exact va_recv K.2.2.2.2.2.2.1.1 (WD_P hw hb) (cls_at hci) (q0 := 0) rfl
theorem Sm_callS (K : Ok G X own cc nL rt R) (hd : decode cc pc = .ok (.invokestatic idx, 3)) (hy : Cy y bytes maxL ret n) (hs : Cond.static y ∈ lg) (hl : Cond.methodLink (Rn own) idx y ∈ lg) (hR : rm.frames + 1 ≤ R.frames ∧ 8 + (maxL + 11) + rm.locals ≤ R.locals) (hn : as.length = n) (hlen : r.length = nL) (hst : st0 = as.reverse ++ st) (hcat : ((st.map (rl G)).map fun v => v.category).sum ≤ 8) (hf : nc + rm.cells ≤ R.cells ∧ ns + rm.slots ≤ R.slots) (hM : Cn G y bytes maxL ret rm as w v w1) (kk : Sm G X w1 (nc + rm.cells) (ns + rm.slots) r (v.toList ++ st) (pc + 3)) : Sm G X w nc ns r st0 pc := by
  refine Sm_go (aa := (as.map (rl G)).toArray) (fun H locs ls hw hS hl1 => ?_) kk
  subst hst
  rw [map_callS]
  exact va_runS (cc := cc) (nL := nL) (Ts := lg) (own := Rn own) (As := as.map (rl G)) ⟨K.1, K.2.1, K.2.2.2.1, K.2.2.2.2.1, K.2.2.2.2.2.1⟩ hM ⟨Sm_callB K hy hl hR, K.2.2.2.2.2.1 _ hs⟩ ⟨Pw_blind, fun U hU hW => ⟨rfl, Pw_of K hw hS hU hW⟩⟩ rfl (by rw [List.length_map]; exact hn) (hl1.1.trans hlen) rfl (lv_room hcat) hd (by rw [K.2.2.2.2.2.2.2.2.1]; exact hf)
theorem Sm_callSN (K : Ok G X own cc nL rt R) {host : String} (hd : decode cc pc = .ok (.invokestatic idx, 3)) (hy : Cy y bytes maxL ret n) (hs : Cond.static y ∈ lg) (hl : (Rn own, idx, y, host) ∈ nst) (hR : rm.frames + 1 ≤ R.frames ∧ 8 + (maxL + 11) + rm.locals ≤ R.locals) (hn : as.length = n) (hlen : r.length = nL) (hst : st0 = as.reverse ++ st) (hcat : ((st.map (rl G)).map fun v => v.category).sum ≤ 8) (hf : nc + rm.cells ≤ R.cells ∧ ns + rm.slots ≤ R.slots) (hM : Cn G y bytes maxL ret rm as w v w1) (kk : Sm G X w1 (nc + rm.cells) (ns + rm.slots) r (v.toList ++ st) (pc + 3)) : Sm G X w nc ns r st0 pc := by
  refine Sm_go (aa := (as.map (rl G)).toArray) (fun H locs ls hw hS hl1 => ?_) kk
  subst hst
  rw [map_callS]
  exact va_runSN (cc := cc) (nL := nL) (Ts := lg) (own := Rn own) (As := as.map (rl G)) ⟨K.1, K.2.1, K.2.2.2.1, K.2.2.2.2.1, K.2.2.2.2.2.1⟩ hM ⟨Sm_callN K hy hl hR, K.2.2.2.2.2.1 _ hs, trivial⟩ ⟨Pw_blind, fun U hU hW => ⟨rfl, Pw_of K hw hS hU hW⟩⟩ rfl (by rw [List.length_map]; exact hn) (hl1.1.trans hlen) rfl (lv_room hcat) hd (by rw [K.2.2.2.2.2.2.2.2.1]; exact hf)
theorem Sm_callI (K : Ok G X own cc nL rt R) (hd : decode cc pc = .ok (.invokespecial idx, 3)) (hy : Cy y bytes maxL none n) (hi : Cond.instanceMethod y ∈ lg) (hnm : y.name = "<init>") (hl : Cond.methodLink (Rn own) idx y ∈ lg) (hR : rm.frames + 1 ≤ R.frames ∧ 8 + (maxL + 11) + rm.locals ≤ R.locals) {b : Nat} (hn : as.length = n) (hlen : r.length = nL) (hst : st0 = as.reverse ++ .ref b :: st) (hcat : ((st.map (rl G)).map fun v => v.category).sum ≤ 8) (hf : nc + rm.cells ≤ R.cells ∧ ns + rm.slots ≤ R.slots) (hM : Cn G y bytes maxL none rm (.ref b :: as) w v w1) (kk : Sm G X w1 (nc + rm.cells) (ns + rm.slots) r (v.toList ++ st) (pc + 3)) : Sm G X w nc ns r st0 pc := by
  refine Sm_go (aa := (Value.ref (ad G b) :: as.map (rl G)).toArray) (fun H locs ls hw hS hl1 => ?_) kk
  subst hst
  rw [map_call]
  exact va_runI (cc := cc) (nL := nL) (Ts := lg) (own := Rn own) (As := as.map (rl G)) ⟨K.1, K.2.1, K.2.2.2.1, K.2.2.2.2.1, K.2.2.2.2.2.1⟩ hM ⟨Sm_callB K hy hl hR, hnm, K.2.2.2.2.2.1 _ hi⟩ ⟨Pw_blind, fun U hU hW => ⟨rfl, Pw_of K hw hS hU hW⟩⟩ rfl (by rw [List.length_map]; exact hn) (hl1.1.trans hlen) rfl (lv_room hcat) hd (by rw [K.2.2.2.2.2.2.2.2.1]; exact hf)
theorem Sm_callIN (K : Ok G X own cc nL rt R) {host : String} (hd : decode cc pc = .ok (.invokespecial idx, 3)) (hy : Cy y bytes maxL none n) (hi : Cond.instanceMethod y ∈ lg) (hnm : y.name = "<init>") (hl : (Rn own, idx, y, host) ∈ nst) (hR : rm.frames + 1 ≤ R.frames ∧ 8 + (maxL + 11) + rm.locals ≤ R.locals) {b : Nat} (hn : as.length = n) (hlen : r.length = nL) (hst : st0 = as.reverse ++ .ref b :: st) (hcat : ((st.map (rl G)).map fun v => v.category).sum ≤ 8) (hf : nc + rm.cells ≤ R.cells ∧ ns + rm.slots ≤ R.slots) (hM : Cn G y bytes maxL none rm (.ref b :: as) w v w1) (kk : Sm G X w1 (nc + rm.cells) (ns + rm.slots) r (v.toList ++ st) (pc + 3)) : Sm G X w nc ns r st0 pc := by
  refine Sm_go (aa := (Value.ref (ad G b) :: as.map (rl G)).toArray) (fun H locs ls hw hS hl1 => ?_) kk
  subst hst
  rw [map_call]
  exact va_runIN (cc := cc) (nL := nL) (Ts := lg) (own := Rn own) (As := as.map (rl G)) ⟨K.1, K.2.1, K.2.2.2.1, K.2.2.2.2.1, K.2.2.2.2.2.1⟩ hM ⟨Sm_callN K hy hl hR, hnm, K.2.2.2.2.2.1 _ hi⟩ ⟨Pw_blind, fun U hU hW => ⟨rfl, Pw_of K hw hS hU hW⟩⟩ rfl (by rw [List.length_map]; exact hn) (hl1.1.trans hlen) rfl (lv_room hcat) hd (by rw [K.2.2.2.2.2.2.2.2.1]; exact hf)
/-- the goal of a method's body -/
def QQ (G : Gx) (X : Cx) (v : Option Value) (w1 : A_W) (mc ms : Nat) : Prop := xQ X = MQ (xB X) (Qw G v w1) (xG X) (xS X) mc ms (gA G)
theorem Qw_of (K : Ok G X own cc nL rt R) {H : Heap} {locs : List Loc} (hw : WD G w H) (hS : va_S (gA G) (xS X).heap H locs) {v : Option Value} {aa : Array Value} : ∀ t : State, t.heap = H → (xS X).WarmedH t.vm → Qw G v w aa (xS X) (.returned (v.map (rl G))) t := fun t ht hW => ⟨⟨rfl, Pw_of K hw hS ht hW⟩, hS.F ht⟩
theorem Sm_reti (K : Ok G X own cc nL (some .int) R) {x : Int32} (hQ : QQ G X (some (.int x)) w nc ns) (hd : decode cc pc = .ok (.ireturn, 1)) : Sm G X w nc ns r [.int x] pc := by
  intro H locs ls hw hS hl
  rw [hQ]
  exact W.iret K.1 K.2.1 K.2.2.1 (Qw_of K hw hS (v := some (.int x))) hS.2.2 hd K.2.2.2.2.2.2.2.1
theorem Sm_retz (K : Ok G X own cc nL (some .boolean) R) {x y : Int32} (hb : bz x = some y) (hQ : QQ G X (some (.int y)) w nc ns) (hd : decode cc pc = .ok (.ireturn, 1)) : Sm G X w nc ns r [.int x] pc := by
  obtain ⟨rfl, hx⟩ := bz_e hb
  intro H locs ls hw hS hl
  rw [hQ]
  exact W.zret K.1 K.2.1 K.2.2.1 (by rcases hx with rfl | rfl <;> rfl) (Qw_of K hw hS (v := some (.int y))) hS.2.2 hd K.2.2.2.2.2.2.2.1
theorem Sm_retl (K : Ok G X own cc nL (some .long) R) {x : Int64} (hQ : QQ G X (some (.long x)) w nc ns) (hd : decode cc pc = .ok (.lreturn, 1)) : Sm G X w nc ns r [.long x] pc := by
  intro H locs ls hw hS hl
  rw [hQ]
  exact W.lret K.1 K.2.1 K.2.2.1 (Qw_of K hw hS (v := some (.long x))) hS.2.2 hd K.2.2.2.2.2.2.2.1
theorem Sm_reta {ft : FieldType} (K : Ok G X own cc nL (some ft) R) (hft : (∃ n, ft = .object n) ∨ ∃ t, ft = .array t) {x : Nat} (hQ : QQ G X (some (.ref x)) w nc ns) (hd : decode cc pc = .ok (.areturn, 1)) : Sm G X w nc ns r [.ref x] pc := by
  intro H locs ls hw hS hl
  rw [hQ]
  exact W.aret K.1 K.2.1 K.2.2.1 hft (Or.inr ⟨_, rfl⟩) (Qw_of K hw hS (v := some (.ref x))) hS.2.2 hd K.2.2.2.2.2.2.2.1
theorem Sm_retv (K : Ok G X own cc nL none R) (hQ : QQ G X none w nc ns) (hd : decode cc pc = .ok (.return_, 1)) : Sm G X w nc ns r [] pc := by
  intro H locs ls hw hS hl
  rw [hQ]
  exact W.vret K.1 K.2.1 K.2.2.1 (Qw_of K hw hS (v := none)) hS.2.2 hd K.2.2.2.2.2.2.2.1
theorem lv_args1 {as : List Value} (h : as.all (fun v => v.category == 1) = true) (G : Gx) : ∀ (i j : Nat) (v : Value) (m : Nat), lk (as.map some ++ List.replicate m none) j = some v → (i + j, rl G v) ∈ lv_args i (as.map (rl G)) := by
  induction as with
  | nil =>
    intro i j v m hj
    exfalso
    induction m generalizing j with
    | zero => simp [lk] at hj
    | succ m ih => cases j with
      | zero => simp [lk, List.replicate] at hj
      | succ j => exact ih j (by simpa [lk, List.replicate] using hj)
  | cons a t ih =>
    intro i j v m hj
    have h1 : a.category = 1 := by simpa using (List.all_eq_true.mp h a List.mem_cons_self)
    cases j with
    | zero => simp [lk] at hj; subst hj; exact List.mem_cons_self
    | succ j =>
      have := ih (List.all_eq_true.mpr fun x hx => List.all_eq_true.mp h x (List.mem_cons_of_mem _ hx)) (i + 1) j v m (by simpa [lk] using hj)
      refine List.mem_cons_of_mem _ ?_
      rw [if_neg (by rw [rl_cat, h1]; decide)]
      rwa [show i + (j + 1) = i + 1 + j by omega]
theorem lg_sl1 {as : List Value} (h : as.all (fun v => v.category == 1) = true) (G : Gx) : (lg_sl (as.map (rl G))).length = as.length := by
  induction as with
  | nil => rfl
  | cons a t ih =>
    have h1 : a.category = 1 := by simpa using (List.all_eq_true.mp h a List.mem_cons_self)
    have h2 := ih (List.all_eq_true.mpr fun x hx => List.all_eq_true.mp h x (List.mem_cons_of_mem _ hx))
    unfold lg_sl at h2 ⊢
    rw [List.map_cons, List.flatMap_cons, if_neg (by rw [rl_cat, h1]; decide), List.length_append, h2]
    simp; omega
/-- a contract out of a walk of the body -/
theorem Cn_of {own : Nat} (hy : Cy y bytes maxL ret n) (hc : y.cls = Rn own) (h1 : as.all (fun v => v.category == 1) = true) (hml : as.length ≤ maxL) (hr : r = as.map some ++ List.replicate (maxL - as.length) none) (body : ∀ X : Cx, Ok G X own bytes maxL ret rm → (xH X).name = y.name → QQ G X v w1 rm.cells rm.slots → Sm G X w 0 0 r [] 0) : Cn G y bytes maxL ret rm as w v w1 := by
  refine Met.ofW (cc := bytes) (maxL := maxL) (ret := ret) hy.2.2.2 rfl ?_
  intro p e s m args below meth c s₁ B hm hv
  obtain ⟨rfl, hP, hKK⟩ := hv
  have hts := atoms_spec (ws := Cond.code y bytes maxL ret :: lg) B.pre
  have hown : s.vm.findClass (Rn own) = some m.cls := by rw [← hc]; exact findClass_of_methodNamed B.named
  rw [lg_entry_eq]
  have hl := lv_entry (as.map (rl G)) (n := maxL) (by rw [lg_sl1 h1]; exact hml)
  have hrl : r.length = maxL := by rw [hr]; simp; omega
  have hLH : LH G (lg_sl (as.map (rl G)) ++ List.replicate (maxL - (lg_sl (as.map (rl G))).length) Slot.unset).toArray r := by
    refine LH.of (by rw [hrl]; exact hl) fun i v hi => ?_
    rw [hr] at hi
    have := lv_args1 h1 G 0 i v _ hi
    rwa [Nat.zero_add] at this
  have hb : gB G ≤ s.heap.size := by rw [hP.1]; exact Nat.le_add_right _ _
  exact body (p, e, (headSpec (Cond.code y bytes maxL ret :: lg) rm).room, s, m, _, below, meth, c, MQ below (Qw G v w1) _ s rm.cells rm.slots (gA G)) ⟨B.exec, B.bytes, B.returns, hm, hown, fun x hx => hts x (List.mem_cons_of_mem _ hx), hKK, B.notSynchronized, rfl, hb⟩ (name_of_methodNamed B.named B.method).1 rfl s.heap [] _ hP va_S.rf hLH
end SMC
end
section
/-! THE RULES that make cells, copy rows, and call what has no code -/
def dv : FieldType → Value := defaultValue
section SMM
variable {G : Gx} {X : Cx} {own nL : Nat} {cc : ByteArray} {rt : Option FieldType} {R rm : Room} {w w1 : A_W} {nc ns : Nat} {r : A_R} {st st0 : List Value} {pc idx : Nat}
theorem Sm_objInit (K : Ok G X own cc nL rt R) (hd : decode cc pc = .ok (.invokespecial idx, 3)) (hl : Cond.methodLink (Rn own) idx Lib.objectInit ∈ lg) (hi : Cond.instanceMethod Lib.objectInit ∈ lg) (hc : Cond.code Lib.objectInit ⟨#[0xb1]⟩ 1 none ∈ lg) (hlen : r.length = nL) {a : Nat} (hf : 1 ≤ R.frames) (hlo : ((st.map (rl G)).map fun v => v.category).sum + 12 ≤ R.locals) (kk : Sm G X w nc ns r st (pc + 3)) : Sm G X w nc ns r (.ref a :: st) pc := by
  intro H locs ls hw hS hl1
  have ht := K.2.2.2.2.2.1
  refine W.objInit K.1 K.2.1 K.2.2.2.2.1 (ht _ hl) (ht _ hi) (ht _ hc) rfl (by rw [K.2.2.2.1]; exact hl1.1.trans hlen) rfl hd (by rw [K.2.2.2.2.2.2.2.2.1]; exact hf) ?_ (kk H locs ls hw hS hl1)
  rw [K.2.2.2.2.2.2.2.2.1]
  show 2 * 0 + _ + 12 ≤ _
  omega
theorem Sm_na (K : Ok G X own cc nL rt R) (hd : decode cc pc = .ok (.newarray .int, 2)) (harr : Cond.arrayClass .int ∈ lg) {n : Int32} {N : Nat} (hn : ¬ n < 0) (hN : n.toNatClampNeg = N) (hb : N ≤ 100000000) (hwl : w.length < 1000000) (hc : nc + 1 ≤ R.cells) (hs : ns + N ≤ R.slots) (kk : Sm G X (w ++ [.inl (N, fun _ => 0)]) (nc + 1) (ns + N) r (.ref w.length :: st) (pc + 2)) : Sm G X w nc ns r (.int n :: st) pc := by
  intro H locs ls hw hS hl1
  have ht := K.2.2.2.2.2.1
  have hK := K.2.2.2.2.2.2.1.1
  refine va_newaK (atype := .int) K.1 K.2.1 (ht _ harr) rfl hd rfl hn hN (by show N * 4 ≤ 536870912; omega) (by rw [K.2.2.2.2.2.2.2.2.1]; exact hc) (by rw [K.2.2.2.2.2.2.2.2.1]; exact hs) rfl fun H1 cA e1 z1 o1 hAr hNm => ?_
  have hcA : cA = gI G := Option.some.inj (hNm.symm.trans (hK.2 0 _ rfl).2)
  subst hcA
  have h := kk H1 locs ls (WD_push hw hwl z1 o1 (by exact e1)) ⟨Nat.le_trans hS.1 (by omega), fun q h1 h2 => (o1 q (Nat.lt_of_lt_of_le h1 hS.1)).trans (hS.2.1 q h1 h2), hS.2.2⟩ hl1
  have e : rl G (.ref w.length) = .ref H.size := by
    show Value.ref (ad G w.length) = _
    rw [ad_lt hwl, ← hw.1]
  rw [List.map_cons, e] at h
  exact h
theorem Sm_nq (K : Ok G X own cc nL rt R) (hd : decode cc pc = .ok (.anewarray idx, 3)) (hcl : Cond.classLink (Rn own) idx (Rn 3) ∈ lg) {n : Int32} {N : Nat} (hn : ¬ n < 0) (hN : n.toNatClampNeg = N) (hb : N ≤ 100000000) (hwl : w.length < 1000000) (hc : nc + 1 ≤ R.cells) (hs : ns + N ≤ R.slots) (kk : Sm G X (w ++ [.inr (.inl (N, fun _ => none))]) (nc + 1) (ns + N) r (.ref w.length :: st) (pc + 3)) : Sm G X w nc ns r (.int n :: st) pc := by
  intro H locs ls hw hS hl1
  subst hN
  have ht := K.2.2.2.2.2.1
  have hK := K.2.2.2.2.2.2.1.1
  refine W.anew K.1 K.2.1 K.2.2.2.2.1 (ht _ hcl) (va_AO.use K.2.2.2.2.2.2.1.2.2.2.2.2.2) rfl hd rfl hn (by omega) (by rw [K.2.2.2.2.2.2.2.2.1]; exact hc) (by rw [K.2.2.2.2.2.2.2.2.1]; exact hs) fun cA kA comp f1 f2 f3 f4 => ?_
  obtain ⟨kA2, comp2, g1, g2, g3, g4⟩ := (hK.2 1 _ rfl).2
  have hcA : cA = gS G := Option.some.inj (f1.symm.trans g4)
  subst hcA
  generalize hH1 : H.push ({ cls := gS G, slots := Array.replicate n.toNatClampNeg .null, vm := .none } : Cell) = H1
  have z1 : H1.size = H.size + 1 := by rw [← hH1, Array.size_push]
  have e1 : H1[H.size]? = some (arrV (gS G) n.toNatClampNeg (fun _ => .null)) := by rw [← hH1, Array.getElem?_push_size, ← arrV_new]
  have o1 : ∀ q : Nat, q < H.size → H1[q]? = H[q]? := fun q hq => by rw [← hH1, Array.getElem?_push, if_neg (Nat.ne_of_lt hq)]
  have h := kk H1 locs ls (WD_push hw hwl z1 o1 (by exact e1)) ⟨Nat.le_trans hS.1 (by omega), fun q h1 h2 => (o1 q (Nat.lt_of_lt_of_le h1 hS.1)).trans (hS.2.1 q h1 h2), hS.2.2⟩ hl1
  have e : rl G (.ref w.length) = .ref H.size := by
    show Value.ref (ad G w.length) = _
    rw [ad_lt hwl, ← hw.1]
  rw [List.map_cons, e] at h
  exact h
theorem Sm_new (K : Ok G X own cc nL rt R) (hd : decode cc pc = .ok (.new idx, 3)) {ci : Nat} (hci : ci < 5) (hcl : Cond.classLink (Rn own) idx (Rn ci) ∈ lg) (hins : Cond.instantiable (Rn ci) (Nn ci) ∈ lg) (hini : Cond.initialized (Rn ci) ∈ lg) {fs : List Value} (hfs : ∀ j, j < Nn ci → defaultValue (tyn ci j) = vp_V (fs.map (rl G)) j) (hwl : w.length < 1000000) (hc : nc + 1 ≤ R.cells) (hs : ns + Nn ci ≤ R.slots) (kk : Sm G X (w ++ [.inr (.inr (ci, fs))]) (nc + 1) (ns + Nn ci) r (.ref w.length :: st) (pc + 3)) : Sm G X w nc ns r st pc := by
  intro H locs ls hw hS hl1
  have ht := K.2.2.2.2.2.1
  have hK := K.2.2.2.2.2.2.1.1
  have hc0 := cls_at hci
  have hKn := hK.1 ci _ hc0
  refine W.newcK K.1 K.2.1 K.2.2.2.2.1 (ht _ hcl) (ht _ hins) (ht _ hini) rfl hd (by rw [K.2.2.2.2.2.2.2.2.1]; exact hc) (by rw [K.2.2.2.2.2.2.2.2.1]; exact hs) hKn.2.1 rfl fun H1 kC hkC e1 z1 o1 => ?_
  have h := kk H1 locs ls (WD_push hw hwl z1 o1 ⟨_, hc0, (u_born (tyn ci) ht (inn hci) hKn hkC e1 (tokn hci)).to hfs⟩) ⟨Nat.le_trans hS.1 (by omega), fun q h1 h2 => (o1 q (Nat.lt_of_lt_of_le h1 hS.1)).trans (hS.2.1 q h1 h2), hS.2.2⟩ hl1
  have e : rl G (.ref w.length) = .ref H.size := by
    show Value.ref (ad G w.length) = _
    rw [ad_lt hwl, ← hw.1]
  rw [List.map_cons, e] at h
  exact h
theorem Sm_wa (K : Ok G X own cc nL rt R) (hd : decode cc pc = .ok (.aastore, 1)) {a b : Nat} {i : Int32} (h : wa w a i b = some w1) (kk : Sm G X w1 nc ns r st (pc + 1)) : Sm G X w nc ns r (.ref b :: .int i :: .ref a :: st) pc := by
  intro H locs ls hw hS hl
  obtain ⟨n, f, fs, he, hb, hi, rfl⟩ := wa_e h
  have hK := K.2.2.2.2.2.2.1.1
  have hA : gA G (ad G a) := by rw [WD_ad hw he]; exact Nat.le_add_right _ _
  obtain ⟨r', hr', cellV, g1, g2, g3, -⟩ := WD_at hw hb
  have hcls := (hK.1 3 _ rfl).2
  obtain ⟨kA, comp, k1, k2, k3, -⟩ := (hK.2 1 _ rfl).2
  have hcomp : comp = (gD G).1 3 := Option.some.inj (k3.symm.trans hcls.1)
  subst hcomp
  obtain ⟨kC, hkC, hkk⟩ := hcls.2
  refine W.aast K.1 K.2.1 (WD_at hw he) (fun q h => by cases h) (fun h => by cases h) k1 k2 rfl hkC ⟨hi.1, by show _ < (arrV _ _ _).slots.size; rw [arrV_size]; exact hi.2⟩ g1 (fun q h => by rw [g3] at h; cases h) (by rw [g2]; exact hkC) (by rw [g2]; exact va_assign hcls) rfl rfl hd fun H1 e z oq => ?_
  refine kk H1 _ ls (WD_set hw he z oq ?_) (hS.put z oq hA) hl
  show H1[ad G a]? = some (vp_cell _ _)
  rw [e]
  rw [vp_cell_q, vp_cell_q, arrV_store]
  congr 2
  funext q
  by_cases hq : q = i.toNatClampNeg
  · subst hq
    simp [updV, va_up, va_rf]
  · simp [updV, va_up, hq]
/-- System.arraycopy between rows of ints -/
def cp (w : A_W) (a : Nat) (sp : Int32) (b : Nat) (dp n : Int32) : Option A_W := match w[a]? with
  | some (.inl (n0, f)) => (match w[b]? with
    | some (.inl (n1, g)) => if (¬ sp < 0 ∧ ¬ dp < 0 ∧ ¬ n < 0) ∧ sp.toNatClampNeg + n.toNatClampNeg ≤ n0 ∧ dp.toNatClampNeg + n.toNatClampNeg ≤ n1 then some (w.set b (.inl (n1, va_cpy f g sp.toNatClampNeg dp.toNatClampNeg n.toNatClampNeg))) else none
    | _ => none)
  | _ => none
theorem cp_e {a b : Nat} {sp dp n : Int32} (h : cp w a sp b dp n = some w1) : ∃ n0 f n1 g, w[a]? = some (.inl (n0, f)) ∧ w[b]? = some (.inl (n1, g)) ∧ ((¬ sp < 0 ∧ ¬ dp < 0 ∧ ¬ n < 0) ∧ sp.toNatClampNeg + n.toNatClampNeg ≤ n0 ∧ dp.toNatClampNeg + n.toNatClampNeg ≤ n1) ∧ w1 = w.set b (.inl (n1, va_cpy f g sp.toNatClampNeg dp.toNatClampNeg n.toNatClampNeg)) := by
  unfold cp at h
  split at h
  · rename_i n0 f h0
    split at h
    · rename_i n1 g h1
      split at h
      · rename_i e; cases h; exact ⟨n0, f, n1, g, h0, h1, e, rfl⟩
      · cases h
    · cases h
  · cases h
theorem Sm_cp (K : Ok G X own cc nL rt R) (hd : decode cc pc = .ok (.invokestatic idx, 3)) (hl : Cond.methodLink (Rn own) idx arraycopyName ∈ lg) (hnat : Cond.native arraycopyName ∈ lg) (hst : Cond.static arraycopyName ∈ lg) (hini : Cond.initialized "java/lang/System" ∈ lg) (hlen : r.length = nL) {a b : Nat} {sp dp n : Int32} (h : cp w a sp b dp n = some w1) (hf : 1 ≤ R.frames) (hlo : ((st.map (rl G)).map fun v => v.category).sum + (nativeFrameWords "java/lang/System" "arraycopy" 5 + 11) ≤ R.locals) (kk : Sm G X w1 nc ns r st (pc + 3)) : Sm G X w nc ns r (.int n :: .int dp :: .ref b :: .int sp :: .ref a :: st) pc := by
  intro H locs ls hw hS hl1
  obtain ⟨n0, f, n1, g, h0, hb, ⟨⟨h1, h2, h3⟩, h4, h5⟩, rfl⟩ := cp_e h
  have ht := K.2.2.2.2.2.1
  have hK := K.2.2.2.2.2.2.1.1
  have hA : gA G (ad G b) := by rw [WD_ad hw hb]; exact Nat.le_add_right _ _
  have nn : ∀ z : Int32, ¬ z < 0 → z.toInt = (z.toNatClampNeg : Int) := by
    intro z hz
    have hz0 : (0 : Int) ≤ z.toInt := by
      have := Int32.not_lt.mp hz
      simpa using Int32.le_iff_toInt_le.mp this
    show z.toInt = ((z.toInt.toNat : Nat) : Int)
    omega
  intro T hT Z
  have hc0 : H[ad G a]? = some (vp_cell (gI G) (n0, .inl f)) := WD_at hw h0
  have hc1 : H[ad G b]? = some (vp_cell (gI G) (n1, .inl g)) := WD_at hw hb
  obtain ⟨-, k0, hk0, cm0, hkk0⟩ := (hK.2 0 _ rfl).1 n0 (fun j => .int (f j))
  obtain ⟨-, k1, hk1, cm1, hkk1⟩ := (hK.2 0 _ rfl).1 n1 (fun j => .int (g j))
  obtain ⟨vm', Z1, step⟩ := Z.arraycopy K.1 K.2.2.2.2.1 (ht _ hl) (ht _ hnat) (ht _ hst) (ht _ hini) (src := ad G a) (dst := ad G b) (cs := vp_cell (gI G) (n0, .inl f)) (cd := vp_cell (gI G) (n1, .inl g)) (srcPos := sp) (destPos := dp) (n := n) (by rw [hT]; exact hc0) (by rw [hT]; exact hc1)
    (fun _ h => by cases h) (fun _ h => by cases h) (fun h => by cases h) (fun h => by cases h) hk0 hk1 hkk0 hkk1 (by simp [refKind]) h1 h2 h3
    (by rw [nn sp h1, nn n h3]; show ¬ _ > ((arrV (gI G) n0 (fun j => .int (f j))).slots.size : Int); rw [arrV_size]; omega)
    (by rw [nn dp h2, nn n h3]; show ¬ _ > ((arrV (gI G) n1 (fun j => .int (g j))).slots.size : Int); rw [arrV_size]; omega)
    (fun vm₁ _ i hi => by
      have e : (vp_cell (gI G) (n0, .inl f)).slots.getD (sp.toNatClampNeg + i) .null = .int (f (sp.toNatClampNeg + i)) := by
        show (arrV (gI G) n0 (fun j => .int (f j))).slots.getD _ _ = _
        rw [Array.getD_eq_getD_getElem?, arrV_read _ _ (by omega)]
        rfl
      refine ⟨?_, ?_⟩
      · rw [e]; rfl
      · rw [e]
        exact trivial)
    (g := F0 (xM X) pc ls ((Value.int n :: .int dp :: .ref b :: .int sp :: .ref a :: st).map (rl G))) rfl (by rw [K.2.2.2.1]; exact hl1.1.trans hlen) (rest := st.map (rl G)) rfl (by rw [K.2.1]; exact hd) (by rw [K.2.2.2.2.2.2.2.2.1]; exact hf) (by rw [K.2.2.2.2.2.2.2.2.1]; show 2 * 0 + _ + _ ≤ _; omega)
  have e1 : copied (vp_cell (gI G) (n0, .inl f)) (vp_cell (gI G) (n1, .inl g)) sp dp n = vp_cell (gI G) (n1, .inl (va_cpy f g sp.toNatClampNeg dp.toNatClampNeg n.toNatClampNeg)) := va_copied (fun z => .int z) (gI G) (gI G) f g h4
  rw [e1] at Z1 step
  have hlt : ad G b < H.size := (Array.getElem?_eq_some_iff.mp hc1).1
  have hheap : ((T.setVm vm').setCell (ad G b) (vp_cell (gI G) (n1, .inl (va_cpy f g sp.toNatClampNeg dp.toNatClampNeg n.toNatClampNeg)))).heap = H.setIfInBounds (ad G b) (vp_cell (gI G) (n1, .inl (va_cpy f g sp.toNatClampNeg dp.toNatClampNeg n.toNatClampNeg))) := by rw [← hT]; rfl
  have oq : ∀ q : Nat, q ≠ ad G b → (H.setIfInBounds (ad G b) (vp_cell (gI G) (n1, .inl (va_cpy f g sp.toNatClampNeg dp.toNatClampNeg n.toNatClampNeg))))[q]? = H[q]? := fun q hq => by simp [Array.getElem?_setIfInBounds, Ne.symm hq]
  obtain ⟨t, a1, b1⟩ := kk _ _ ls (WD_set hw hb (by simp) oq (show (H.setIfInBounds (ad G b) _)[ad G b]? = some _ by simp [Array.getElem?_setIfInBounds, hlt])) ⟨by simp; exact hS.1, fun q g1 g2 => by
      rw [oq q (fun e => g2 (by rw [e]; exact hA))]
      exact hS.2.1 q g1 g2, fun q hq => by
      rcases List.mem_append.mp hq with h | h
      · exact hS.2.2 q h
      · obtain ⟨z, -, hz⟩ := List.mem_map.mp h
        rw [← hz]
        exact hA⟩ hl1 _ hheap Z1
  exact ⟨t, step t a1, b1⟩
end SMM
end
section
/-! SMALL HELP for the walks that wip/whole/gen/gen.py prints -/
def FU : Nat := 100000
def jrem (x y : Int32) : Int32 := x - x / y * y
def jreml (x y : Int64) : Int64 := x - x / y * y
def ob (w : A_W) (a ci : Nat) : Option (List Value) := match w[a]? with
  | some (.inr (.inr (c, fs))) => if c = ci then some fs else none
  | _ => none
theorem ob_e {w : A_W} {a ci : Nat} {fs : List Value} (h : ob w a ci = some fs) : w[a]? = some (.inr (.inr (ci, fs))) := by
  unfold ob at h
  split at h
  · rename_i c f hw
    split at h
    · rename_i e; subst e; cases h; exact hw
    · cases h
  · cases h
theorem leR_nil : leR [] [] := trivial
theorem leR_s {a : Option Value} {t u : A_R} (h : leR t u) : leR (a :: t) (a :: u) := ⟨Or.inr rfl, h⟩
theorem leR_n {b : Option Value} {t u : A_R} (h : leR t u) : leR (none :: t) (b :: u) := ⟨Or.inl rfl, h⟩
theorem Sm_eq {G : Gx} {X : Cx} {w : A_W} {nc ns nc1 ns1 : Nat} {r : A_R} {st st1 : List Value} {pc : Nat} (h : st = st1) (h1 : nc = nc1) (h2 : ns = ns1) (kk : Sm G X w nc1 ns1 r st1 pc) : Sm G X w nc ns r st pc := by
  subst h; subst h1; subst h2; exact kk
theorem Sm_pc {G : Gx} {X : Cx} {w : A_W} {nc ns : Nat} {r : A_R} {st : List Value} {pc pc1 : Nat} (h : pc = pc1) (kk : Sm G X w nc ns r st pc1) : Sm G X w nc ns r st pc := by
  subst h; exact kk
theorem Sm_idiv {G : Gx} {X : Cx} {own nL : Nat} {cc : ByteArray} {rt : Option FieldType} {rm : Room} {w : A_W} {nc ns : Nat} {r : A_R} {st : List Value} {pc : Nat} (K : Ok G X own cc nL rt rm) {x y : Int32} (hd : decode cc pc = .ok (.idiv, 1)) (hne : ¬ y = 0) (kk : Sm G X w nc ns r (.int (x / y) :: st) (pc + 1)) : Sm G X w nc ns r (.int y :: .int x :: st) pc := s_idiv K hd hne kk
theorem Sm_irem {G : Gx} {X : Cx} {own nL : Nat} {cc : ByteArray} {rt : Option FieldType} {rm : Room} {w : A_W} {nc ns : Nat} {r : A_R} {st : List Value} {pc : Nat} (K : Ok G X own cc nL rt rm) {x y : Int32} (hd : decode cc pc = .ok (.irem, 1)) (hne : ¬ y = 0) (kk : Sm G X w nc ns r (.int (jrem x y) :: st) (pc + 1)) : Sm G X w nc ns r (.int y :: .int x :: st) pc := s_irem K hd hne kk
theorem Sm_ldiv {G : Gx} {X : Cx} {own nL : Nat} {cc : ByteArray} {rt : Option FieldType} {rm : Room} {w : A_W} {nc ns : Nat} {r : A_R} {st : List Value} {pc : Nat} (K : Ok G X own cc nL rt rm) {x y : Int64} (hd : decode cc pc = .ok (.ldiv, 1)) (hne : ¬ y = 0) (kk : Sm G X w nc ns r (.long (x / y) :: st) (pc + 1)) : Sm G X w nc ns r (.long y :: .long x :: st) pc := s_ldiv K hd hne kk
theorem Sm_lrem {G : Gx} {X : Cx} {own nL : Nat} {cc : ByteArray} {rt : Option FieldType} {rm : Room} {w : A_W} {nc ns : Nat} {r : A_R} {st : List Value} {pc : Nat} (K : Ok G X own cc nL rt rm) {x y : Int64} (hd : decode cc pc = .ok (.lrem, 1)) (hne : ¬ y = 0) (kk : Sm G X w nc ns r (.long (jreml x y) :: st) (pc + 1)) : Sm G X w nc ns r (.long y :: .long x :: st) pc := s_lrem K hd hne kk
theorem ac_nat : Cond.native arraycopyName ∈ lg := lgm 423 (by decide +kernel) rfl
theorem ac_st : Cond.static arraycopyName ∈ lg := lgm 422 (by decide +kernel) rfl
theorem ac_in : Cond.initialized "java/lang/System" ∈ lg := lgm 75 (by decide +kernel) rfl
theorem lsw_off : ∀ (ps : List (Int × Int)) (d k : Int), (∀ q ∈ ps, ¬ k = q.1) → Op.lookupswitch.offset ps d k = d := by
  intro ps
  induction ps with
  | nil => intro d k _; rfl
  | cons q t ih =>
    intro d k h
    obtain ⟨a, b⟩ := q
    have h1 : ¬ k = a := h (a, b) List.mem_cons_self
    have h2 := ih d k (fun z hz => h z (List.mem_cons_of_mem _ hz))
    simp only [Op.lookupswitch.offset]
    split
    · rename_i e; exfalso; first | exact h1 e | exact h1 e.symm | (simp at e; omega)
    · exact h2
theorem lsw_out {ps : Array (Int × Int)} {ps2 : List (Int × Int)} {d k : Int} {pc dt : Nat} (hp : ps.toList = ps2) (hd : (pc : Int) + d = (dt : Int)) (h : ∀ q ∈ ps2, ¬ k = q.1) : (pc : Int) + Op.lookupswitch.offset ps.toList d k = (dt : Int) := by
  rw [hp, lsw_off ps2 d k h]; exact hd
def jmin (x y : Int32) : Int32 := if y < x then y else x
def jmax (x y : Int32) : Int32 := if x < y then y else x
def jabs (x : Int32) : Int32 := if 0 ≤ x then x else 0 - x
theorem ma_in : Cond.initialized "java/lang/Math" ∈ lg := lgm 74 (by decide +kernel) rfl
theorem ma_st_min : Cond.static Lib.Math.min.name ∈ lg := lgm 298 (by decide +kernel) rfl
theorem ma_co_min : Cond.code Lib.Math.min.name Lib.Math.min.code 2 (some .int) ∈ lg := lgm 299 (by decide +kernel) rfl
theorem Sm_min {G : Gx} {X : Cx} {own nL : Nat} {cc : ByteArray} {rt : Option FieldType} {R : Room} {w : A_W} {nc ns : Nat} {r : A_R} {st : List Value} {pc idx : Nat} (K : Ok G X own cc nL rt R) {x y : Int32} (hd : decode cc pc = .ok (.invokestatic idx, 3)) (hl : Cond.methodLink (Rn own) idx Lib.Math.min.name ∈ lg) (hlen : r.length = nL) (hf : 1 ≤ R.frames) (hlo : ((st.map (rl G)).map fun v => v.category).sum + 13 ≤ R.locals) (hc : nc ≤ R.cells) (hs : ns ≤ R.slots) (kk : Sm G X w nc ns r (.int (jmin x y) :: st) (pc + 3)) : Sm G X w nc ns r (.int y :: .int x :: st) pc := fun H locs ls hw hS h => by
  have ht := K.2.2.2.2.2.1
  have hR := K.2.2.2.2.2.2.2.2.1
  exact va_mmin K.1 K.2.1 (by rw [K.2.2.2.1]; exact (h.1.trans hlen).symm) K.2.2.2.2.1 (ht _ hl) (ht _ ma_st_min) (ht _ ma_in) (ht _ ma_co_min) (by rw [hR]; exact hf) (by rw [hR]; exact hlo) (by rw [hR]; exact hc) (by rw [hR]; exact hs) hd (kk H locs ls hw hS h)
theorem ma_st_max : Cond.static Lib.Math.max.name ∈ lg := lgm 316 (by decide +kernel) rfl
theorem ma_co_max : Cond.code Lib.Math.max.name Lib.Math.max.code 2 (some .int) ∈ lg := lgm 317 (by decide +kernel) rfl
theorem Sm_max {G : Gx} {X : Cx} {own nL : Nat} {cc : ByteArray} {rt : Option FieldType} {R : Room} {w : A_W} {nc ns : Nat} {r : A_R} {st : List Value} {pc idx : Nat} (K : Ok G X own cc nL rt R) {x y : Int32} (hd : decode cc pc = .ok (.invokestatic idx, 3)) (hl : Cond.methodLink (Rn own) idx Lib.Math.max.name ∈ lg) (hlen : r.length = nL) (hf : 1 ≤ R.frames) (hlo : ((st.map (rl G)).map fun v => v.category).sum + 13 ≤ R.locals) (hc : nc ≤ R.cells) (hs : ns ≤ R.slots) (kk : Sm G X w nc ns r (.int (jmax x y) :: st) (pc + 3)) : Sm G X w nc ns r (.int y :: .int x :: st) pc := fun H locs ls hw hS h => by
  have ht := K.2.2.2.2.2.1
  have hR := K.2.2.2.2.2.2.2.2.1
  exact va_mmax K.1 K.2.1 (by rw [K.2.2.2.1]; exact (h.1.trans hlen).symm) K.2.2.2.2.1 (ht _ hl) (ht _ ma_st_max) (ht _ ma_in) (ht _ ma_co_max) (by rw [hR]; exact hf) (by rw [hR]; exact hlo) (by rw [hR]; exact hc) (by rw [hR]; exact hs) hd (kk H locs ls hw hS h)
theorem ma_st_abs : Cond.static Lib.Math.abs.name ∈ lg := lgm 313 (by decide +kernel) rfl
theorem ma_co_abs : Cond.code Lib.Math.abs.name Lib.Math.abs.code 1 (some .int) ∈ lg := lgm 314 (by decide +kernel) rfl
theorem Sm_abs {G : Gx} {X : Cx} {own nL : Nat} {cc : ByteArray} {rt : Option FieldType} {R : Room} {w : A_W} {nc ns : Nat} {r : A_R} {st : List Value} {pc idx : Nat} (K : Ok G X own cc nL rt R) {x : Int32} (hd : decode cc pc = .ok (.invokestatic idx, 3)) (hl : Cond.methodLink (Rn own) idx Lib.Math.abs.name ∈ lg) (hlen : r.length = nL) (hf : 1 ≤ R.frames) (hlo : ((st.map (rl G)).map fun v => v.category).sum + 13 ≤ R.locals) (hc : nc ≤ R.cells) (hs : ns ≤ R.slots) (kk : Sm G X w nc ns r (.int (jabs x) :: st) (pc + 3)) : Sm G X w nc ns r (.int x :: st) pc := fun H locs ls hw hS h => by
  have ht := K.2.2.2.2.2.1
  have hR := K.2.2.2.2.2.2.2.2.1
  exact va_mabs K.1 K.2.1 (by rw [K.2.2.2.1]; exact (h.1.trans hlen).symm) K.2.2.2.2.1 (ht _ hl) (ht _ ma_st_abs) (ht _ ma_in) (ht _ ma_co_abs) (by rw [hR]; exact hf) (by rw [hR]; exact hlo) (by rw [hR]; exact hc) (by rw [hR]; exact hs) hd (kk H locs ls hw hS h)
end
section
/-! java/lang/Integer.bitCount(I)I -/
abbrev c_JI_bitCount : ByteArray := prog_7_method_49_code
def y_JI_bitCount : MethodName := ⟨"java/lang/Integer", "bitCount", "(I)I"⟩
def rm_JI_bitCount : Room := { frames := 0, cells := 0, slots := 0, locals := 0 }
theorem cy_JI_bitCount : Cy y_JI_bitCount c_JI_bitCount 1 (some .int) 1 := ⟨lgm 496 (by decide +kernel) rfl, lgm 76 (by decide +kernel) rfl, by decide +kernel, by decide +kernel⟩
theorem st_JI_bitCount : Cond.static y_JI_bitCount ∈ lg := lgm 495 (by decide +kernel) rfl
def e_JI_bitCount : List Ent := [
  (0, .iload_n 0, 1, 1, .null, 0, 0, 0),
  (1, .iload_n 0, 1, 2, .null, 0, 0, 0),
  (2, .iconst 1, 1, 3, .int 1, 0, 0, 0),
  (3, .iushr, 1, 4, .null, 0, 0, 0),
  (4, .ldc_w 265, 3, 7, .int 1431655765, 0, 0, 497),
  (7, .iand, 1, 8, .null, 0, 0, 0),
  (8, .isub, 1, 9, .null, 0, 0, 0),
  (9, .istore_n 0, 1, 10, .null, 0, 0, 0),
  (10, .iload_n 0, 1, 11, .null, 0, 0, 0),
  (11, .ldc_w 266, 3, 14, .int 858993459, 0, 0, 498),
  (14, .iand, 1, 15, .null, 0, 0, 0),
  (15, .iload_n 0, 1, 16, .null, 0, 0, 0),
  (16, .iconst 2, 1, 17, .int 2, 0, 0, 0),
  (17, .iushr, 1, 18, .null, 0, 0, 0),
  (18, .ldc_w 266, 3, 21, .int 858993459, 0, 0, 498),
  (21, .iand, 1, 22, .null, 0, 0, 0),
  (22, .iadd, 1, 23, .null, 0, 0, 0),
  (23, .istore_n 0, 1, 24, .null, 0, 0, 0),
  (24, .iload_n 0, 1, 25, .null, 0, 0, 0),
  (25, .iload_n 0, 1, 26, .null, 0, 0, 0),
  (26, .iconst 4, 1, 27, .int 4, 0, 0, 0),
  (27, .iushr, 1, 28, .null, 0, 0, 0),
  (28, .iadd, 1, 29, .null, 0, 0, 0),
  (29, .ldc_w 267, 3, 32, .int 252645135, 0, 0, 499),
  (32, .iand, 1, 33, .null, 0, 0, 0),
  (33, .istore_n 0, 1, 34, .null, 0, 0, 0),
  (34, .iload_n 0, 1, 35, .null, 0, 0, 0),
  (35, .iload_n 0, 1, 36, .null, 0, 0, 0),
  (36, .bipush 8, 2, 38, .int 8, 0, 0, 0),
  (38, .iushr, 1, 39, .null, 0, 0, 0),
  (39, .iadd, 1, 40, .null, 0, 0, 0),
  (40, .istore_n 0, 1, 41, .null, 0, 0, 0),
  (41, .iload_n 0, 1, 42, .null, 0, 0, 0),
  (42, .iload_n 0, 1, 43, .null, 0, 0, 0),
  (43, .bipush 16, 2, 45, .int 16, 0, 0, 0),
  (45, .iushr, 1, 46, .null, 0, 0, 0),
  (46, .iadd, 1, 47, .null, 0, 0, 0),
  (47, .istore_n 0, 1, 48, .null, 0, 0, 0),
  (48, .iload_n 0, 1, 49, .null, 0, 0, 0),
  (49, .bipush 63, 2, 51, .int 63, 0, 0, 0),
  (51, .iand, 1, 52, .null, 0, 0, 0),
  (52, .ireturn, 1, 53, .null, 0, 0, 0)]
set_option maxRecDepth 100000 in
theorem ek_JI_bitCount : e_JI_bitCount.all (eok 5 c_JI_bitCount) = true := by decide +kernel
def F_JI_bitCount_0 (x0 : Int32) (w : A_W) : Option (Int32 × A_W) :=
  some (((((((((x0 - ((Int32.toUInt32 x0 >>> (Int32.toUInt32 1 &&& Int32.toUInt32 31)).toInt32 &&& 1431655765)) &&& 858993459) + ((Int32.toUInt32 (x0 - ((Int32.toUInt32 x0 >>> (Int32.toUInt32 1 &&& Int32.toUInt32 31)).toInt32 &&& 1431655765)) >>> (Int32.toUInt32 2 &&& Int32.toUInt32 31)).toInt32 &&& 858993459)) + (Int32.toUInt32 (((x0 - ((Int32.toUInt32 x0 >>> (Int32.toUInt32 1 &&& Int32.toUInt32 31)).toInt32 &&& 1431655765)) &&& 858993459) + ((Int32.toUInt32 (x0 - ((Int32.toUInt32 x0 >>> (Int32.toUInt32 1 &&& Int32.toUInt32 31)).toInt32 &&& 1431655765)) >>> (Int32.toUInt32 2 &&& Int32.toUInt32 31)).toInt32 &&& 858993459)) >>> (Int32.toUInt32 4 &&& Int32.toUInt32 31)).toInt32) &&& 252645135) + (Int32.toUInt32 (((((x0 - ((Int32.toUInt32 x0 >>> (Int32.toUInt32 1 &&& Int32.toUInt32 31)).toInt32 &&& 1431655765)) &&& 858993459) + ((Int32.toUInt32 (x0 - ((Int32.toUInt32 x0 >>> (Int32.toUInt32 1 &&& Int32.toUInt32 31)).toInt32 &&& 1431655765)) >>> (Int32.toUInt32 2 &&& Int32.toUInt32 31)).toInt32 &&& 858993459)) + (Int32.toUInt32 (((x0 - ((Int32.toUInt32 x0 >>> (Int32.toUInt32 1 &&& Int32.toUInt32 31)).toInt32 &&& 1431655765)) &&& 858993459) + ((Int32.toUInt32 (x0 - ((Int32.toUInt32 x0 >>> (Int32.toUInt32 1 &&& Int32.toUInt32 31)).toInt32 &&& 1431655765)) >>> (Int32.toUInt32 2 &&& Int32.toUInt32 31)).toInt32 &&& 858993459)) >>> (Int32.toUInt32 4 &&& Int32.toUInt32 31)).toInt32) &&& 252645135) >>> (Int32.toUInt32 8 &&& Int32.toUInt32 31)).toInt32) + (Int32.toUInt32 ((((((x0 - ((Int32.toUInt32 x0 >>> (Int32.toUInt32 1 &&& Int32.toUInt32 31)).toInt32 &&& 1431655765)) &&& 858993459) + ((Int32.toUInt32 (x0 - ((Int32.toUInt32 x0 >>> (Int32.toUInt32 1 &&& Int32.toUInt32 31)).toInt32 &&& 1431655765)) >>> (Int32.toUInt32 2 &&& Int32.toUInt32 31)).toInt32 &&& 858993459)) + (Int32.toUInt32 (((x0 - ((Int32.toUInt32 x0 >>> (Int32.toUInt32 1 &&& Int32.toUInt32 31)).toInt32 &&& 1431655765)) &&& 858993459) + ((Int32.toUInt32 (x0 - ((Int32.toUInt32 x0 >>> (Int32.toUInt32 1 &&& Int32.toUInt32 31)).toInt32 &&& 1431655765)) >>> (Int32.toUInt32 2 &&& Int32.toUInt32 31)).toInt32 &&& 858993459)) >>> (Int32.toUInt32 4 &&& Int32.toUInt32 31)).toInt32) &&& 252645135) + (Int32.toUInt32 (((((x0 - ((Int32.toUInt32 x0 >>> (Int32.toUInt32 1 &&& Int32.toUInt32 31)).toInt32 &&& 1431655765)) &&& 858993459) + ((Int32.toUInt32 (x0 - ((Int32.toUInt32 x0 >>> (Int32.toUInt32 1 &&& Int32.toUInt32 31)).toInt32 &&& 1431655765)) >>> (Int32.toUInt32 2 &&& Int32.toUInt32 31)).toInt32 &&& 858993459)) + (Int32.toUInt32 (((x0 - ((Int32.toUInt32 x0 >>> (Int32.toUInt32 1 &&& Int32.toUInt32 31)).toInt32 &&& 1431655765)) &&& 858993459) + ((Int32.toUInt32 (x0 - ((Int32.toUInt32 x0 >>> (Int32.toUInt32 1 &&& Int32.toUInt32 31)).toInt32 &&& 1431655765)) >>> (Int32.toUInt32 2 &&& Int32.toUInt32 31)).toInt32 &&& 858993459)) >>> (Int32.toUInt32 4 &&& Int32.toUInt32 31)).toInt32) &&& 252645135) >>> (Int32.toUInt32 8 &&& Int32.toUInt32 31)).toInt32) >>> (Int32.toUInt32 16 &&& Int32.toUInt32 31)).toInt32) &&& 63), w)
set_option maxHeartbeats 4000000 in
set_option maxRecDepth 100000 in
theorem s_JI_bitCount_0 {G : Gx} {X : Cx} {res : Int32 × A_W} (K : Ok G X 5 c_JI_bitCount 1 (some .int) rm_JI_bitCount) (hQ : QQ G X (some (.int res.1)) res.2 0 0) (x0 : Int32) (w : A_W) (h : F_JI_bitCount_0 x0 w = some res) : Sm G X w 0 0 [some (.int x0)] [] 0 := by
  unfold F_JI_bitCount_0 at h
  refine Sm_run K ek_JI_bitCount 0 41 rfl ?_
  cases h
  exact Sm_reti K hQ (eok_i (eo ek_JI_bitCount (i := 41) rfl) rfl)
def F_JI_bitCount (x0 : Int32) (w : A_W) : Option (Int32 × A_W) := F_JI_bitCount_0 x0 w
theorem cn_JI_bitCount {G : Gx} {x0 : Int32} {w : A_W} {res : Int32 × A_W} (h : F_JI_bitCount x0 w = some res) : Cn G y_JI_bitCount c_JI_bitCount 1 (some .int) rm_JI_bitCount [.int x0] w (some (.int res.1)) res.2 :=
  Cn_of (own := 5) cy_JI_bitCount rfl rfl (Nat.le_of_ble_eq_true rfl) rfl (fun X K _ hQ => Sm_le (leR_s leR_nil) (s_JI_bitCount_0 K hQ _ _ h))
/-! java/util/Arrays.fill([II)V -/
abbrev c_JA_fill : ByteArray := prog_13_method_103_code
def y_JA_fill : MethodName := ⟨"java/util/Arrays", "fill", "([II)V"⟩
def rm_JA_fill : Room := { frames := 0, cells := 0, slots := 0, locals := 0 }
theorem cy_JA_fill : Cy y_JA_fill c_JA_fill 4 (none) 2 := ⟨lgm 97 (by decide +kernel) rfl, lgm 70 (by decide +kernel) rfl, by decide +kernel, by decide +kernel⟩
theorem st_JA_fill : Cond.static y_JA_fill ∈ lg := lgm 96 (by decide +kernel) rfl
def e_JA_fill : List Ent := [
  (0, .iconst 0, 1, 1, .int 0, 0, 0, 0),
  (1, .istore_n 2, 1, 2, .null, 0, 0, 0),
  (2, .aload_n 0, 1, 3, .null, 0, 0, 0),
  (3, .arraylength, 1, 4, .null, 0, 0, 0),
  (4, .istore_n 3, 1, 5, .null, 0, 0, 0),
  (5, .iload_n 2, 1, 6, .null, 0, 0, 0),
  (6, .iload_n 3, 1, 7, .null, 0, 0, 0),
  (7, .if_icmp .ge 13, 3, 20, .null, 0, 0, 0),
  (10, .aload_n 0, 1, 11, .null, 0, 0, 0),
  (11, .iload_n 2, 1, 12, .null, 0, 0, 0),
  (12, .iload_n 1, 1, 13, .null, 0, 0, 0),
  (13, .iastore, 1, 14, .null, 0, 0, 0),
  (14, .iinc 2 1, 3, 17, .int 1, 0, 0, 0),
  (17, .goto (-12), 3, 5, .null, 0, 0, 0),
  (20, .return_, 1, 21, .null, 0, 0, 0)]
set_option maxRecDepth 100000 in
theorem ek_JA_fill : e_JA_fill.all (eok 6 c_JA_fill) = true := by decide +kernel
def F_JA_fill_5 : Nat → Nat → Int32 → Int32 → Int32 → A_W → Option (A_W)
  | 0, _, _, _, _, _ => none
  | n + 1, x0, x1, x2, x3, w =>
    if x3 ≤ x2 then
      some w
    else
      (wr w x0 x2 x1).bind fun w2 =>
      F_JA_fill_5 n x0 x1 (x2 + 1) x3 w2
def F_JA_fill_0 (x0 : Nat) (x1 : Int32) (w : A_W) : Option (A_W) :=
  (al w x0).bind fun v1 =>
  F_JA_fill_5 FU x0 x1 0 v1 w
set_option maxHeartbeats 4000000 in
set_option maxRecDepth 100000 in
theorem s_JA_fill_5 {G : Gx} {X : Cx} {res : A_W} (K : Ok G X 6 c_JA_fill 4 (none) rm_JA_fill) (hQ : QQ G X none res 0 0) : ∀ (n : Nat) (x0 : Nat) (x1 : Int32) (x2 : Int32) (x3 : Int32) (w : A_W), F_JA_fill_5 n x0 x1 x2 x3 w = some res → Sm G X w 0 0 [some (.ref x0), some (.int x1), some (.int x2), some (.int x3)] [] 5 := by
  intro n
  induction n with
  | zero => intro x0 x1 x2 x3 w h; cases h
  | succ n ih =>
    intro x0 x1 x2 x3 w h
    rw [F_JA_fill_5] at h
    refine Sm_run K ek_JA_fill 5 2 rfl ?_
    refine Sm_ic_ge K (eo ek_JA_fill (i := 7) rfl) (fun c1 => ?_) (fun c1 => ?_)
    · rw [if_pos c1] at h
      cases h
      exact Sm_retv K hQ (eok_i (eo ek_JA_fill (i := 14) rfl) rfl)
    · rw [if_neg c1] at h
      refine Sm_run K ek_JA_fill 8 3 rfl ?_
      obtain ⟨w2, e_w2, h⟩ := Option.bind_eq_some_iff.mp h
      refine Sm_wr K (eok_i (eo ek_JA_fill (i := 11) rfl) rfl) e_w2 ?_
      refine Sm_run K ek_JA_fill 12 2 rfl ?_
      exact Sm_le (leR_s (leR_s (leR_s (leR_s leR_nil)))) (ih _ _ _ _ _ h)
set_option maxHeartbeats 4000000 in
set_option maxRecDepth 100000 in
theorem s_JA_fill_0 {G : Gx} {X : Cx} {res : A_W} (K : Ok G X 6 c_JA_fill 4 (none) rm_JA_fill) (hQ : QQ G X none res 0 0) (x0 : Nat) (x1 : Int32) (w : A_W) (h : F_JA_fill_0 x0 x1 w = some res) : Sm G X w 0 0 [some (.ref x0), some (.int x1), none, none] [] 0 := by
  unfold F_JA_fill_0 at h
  refine Sm_run K ek_JA_fill 0 3 rfl ?_
  obtain ⟨v1, e_v1, h⟩ := Option.bind_eq_some_iff.mp h
  refine Sm_al K (eok_i (eo ek_JA_fill (i := 3) rfl) rfl) e_v1 ?_
  refine Sm_run K ek_JA_fill 4 1 rfl ?_
  exact Sm_le (leR_s (leR_s (leR_s (leR_s leR_nil)))) (s_JA_fill_5 K hQ FU _ _ _ _ _ h)
def F_JA_fill (x0 : Nat) (x1 : Int32) (w : A_W) : Option (A_W) := F_JA_fill_0 x0 x1 w
theorem cn_JA_fill {G : Gx} {x0 : Nat} {x1 : Int32} {w : A_W} {res : A_W} (h : F_JA_fill x0 x1 w = some res) : Cn G y_JA_fill c_JA_fill 4 (none) rm_JA_fill [.ref x0, .int x1] w none res :=
  Cn_of (own := 6) cy_JA_fill rfl rfl (Nat.le_of_ble_eq_true rfl) rfl (fun X K _ hQ => Sm_le (leR_s (leR_s (leR_n (leR_n leR_nil)))) (s_JA_fill_0 K hQ _ _ _ h))
end
section
/-! EveningCloakModel.finds(I)I -/
abbrev c_M_finds : ByteArray := prog_6_method_2_code
def y_M_finds : MethodName := ⟨"EveningCloakModel", "finds", "(I)I"⟩
def rm_M_finds : Room := { frames := 0, cells := 0, slots := 0, locals := 0 }
theorem cy_M_finds : Cy y_M_finds c_M_finds 2 (some .int) 1 := ⟨lgm 829 (by decide +kernel) rfl, lgm 73 (by decide +kernel) rfl, by decide +kernel, by decide +kernel⟩
theorem im_M_finds : Cond.instanceMethod y_M_finds ∈ lg := lgm 828 (by decide +kernel) rfl
theorem se_M_finds : Cond.selects y_M_finds.cls y_M_finds y_M_finds ∈ lg := lgm 19 (by decide +kernel) rfl
def e_M_finds : List Ent := [
  (0, .aload_n 0, 1, 1, .null, 0, 0, 0),
  (1, .getfield 19, 3, 4, .null, 4, 4, 766),
  (4, .ldc 34, 2, 6, .int (-1000001), 0, 0, 825),
  (6, .iload_n 1, 1, 7, .null, 0, 0, 0),
  (7, .isub, 1, 8, .null, 0, 0, 0),
  (8, .dup2, 1, 9, .null, 0, 0, 0),
  (9, .iaload, 1, 10, .null, 0, 0, 0),
  (10, .iconst 1, 1, 11, .int 1, 0, 0, 0),
  (11, .iadd, 1, 12, .null, 0, 0, 0),
  (12, .iastore, 1, 13, .null, 0, 0, 0),
  (13, .iload_n 1, 1, 14, .null, 0, 0, 0),
  (14, .ireturn, 1, 15, .null, 0, 0, 0)]
set_option maxRecDepth 100000 in
theorem ek_M_finds : e_M_finds.all (eok 4 c_M_finds) = true := by decide +kernel
def F_M_finds_0 (t : Nat) (x1 : Int32) (w : A_W) : Option (Int32 × A_W) :=
  (gr w t 4 4).bind fun a1 =>
  (rd w a1 ((-1000001) - x1)).bind fun v2 =>
  (wr w a1 ((-1000001) - x1) (v2 + 1)).bind fun w3 =>
  some (x1, w3)
set_option maxHeartbeats 4000000 in
set_option maxRecDepth 100000 in
theorem s_M_finds_0 {G : Gx} {X : Cx} {res : Int32 × A_W} (K : Ok G X 4 c_M_finds 2 (some .int) rm_M_finds) (hQ : QQ G X (some (.int res.1)) res.2 0 0) (t : Nat) (x1 : Int32) (w : A_W) (h : F_M_finds_0 t x1 w = some res) : Sm G X w 0 0 [some (.ref t), some (.int x1)] [] 0 := by
  unfold F_M_finds_0 at h
  refine Sm_run K ek_M_finds 0 1 rfl ?_
  obtain ⟨a1, e_a1, h⟩ := Option.bind_eq_some_iff.mp h
  refine Sm_gr K (eo ek_M_finds (i := 1) rfl) e_a1 ?_
  refine Sm_run K ek_M_finds 2 4 rfl ?_
  obtain ⟨v2, e_v2, h⟩ := Option.bind_eq_some_iff.mp h
  refine Sm_rd K (eok_i (eo ek_M_finds (i := 6) rfl) rfl) e_v2 ?_
  refine Sm_run K ek_M_finds 7 2 rfl ?_
  obtain ⟨w3, e_w3, h⟩ := Option.bind_eq_some_iff.mp h
  refine Sm_wr K (eok_i (eo ek_M_finds (i := 9) rfl) rfl) e_w3 ?_
  refine Sm_run K ek_M_finds 10 1 rfl ?_
  cases h
  exact Sm_reti K hQ (eok_i (eo ek_M_finds (i := 11) rfl) rfl)
def F_M_finds (t : Nat) (x1 : Int32) (w : A_W) : Option (Int32 × A_W) := F_M_finds_0 t x1 w
theorem cn_M_finds {G : Gx} {t : Nat} {x1 : Int32} {w : A_W} {res : Int32 × A_W} (h : F_M_finds t x1 w = some res) : Cn G y_M_finds c_M_finds 2 (some .int) rm_M_finds [.ref t, .int x1] w (some (.int res.1)) res.2 :=
  Cn_of (own := 4) cy_M_finds rfl rfl (Nat.le_of_ble_eq_true rfl) rfl (fun X K _ hQ => Sm_le (leR_s (leR_s leR_nil)) (s_M_finds_0 K hQ _ _ _ h))
/-! EveningCloakModel.orNone(I)I -/
abbrev c_M_orNone : ByteArray := prog_6_method_3_code
def y_M_orNone : MethodName := ⟨"EveningCloakModel", "orNone", "(I)I"⟩
def rm_M_orNone : Room := { frames := 1, cells := 0, slots := 0, locals := 21 }
theorem cy_M_orNone : Cy y_M_orNone c_M_orNone 2 (some .int) 1 := ⟨lgm 932 (by decide +kernel) rfl, lgm 73 (by decide +kernel) rfl, by decide +kernel, by decide +kernel⟩
theorem im_M_orNone : Cond.instanceMethod y_M_orNone ∈ lg := lgm 931 (by decide +kernel) rfl
theorem se_M_orNone : Cond.selects y_M_orNone.cls y_M_orNone y_M_orNone ∈ lg := lgm 34 (by decide +kernel) rfl
def e_M_orNone : List Ent := [
  (0, .iload_n 1, 1, 1, .null, 0, 0, 0),
  (1, .ifCond .ge 12, 3, 13, .null, 0, 0, 0),
  (4, .aload_n 0, 1, 5, .null, 0, 0, 0),
  (5, .ldc 35, 2, 7, .int (-1000004), 0, 0, 933),
  (7, .invokevirtual 36, 3, 10, .null, 0, 0, 0),
  (10, .goto 4, 3, 14, .null, 0, 0, 0),
  (13, .iload_n 1, 1, 14, .null, 0, 0, 0),
  (14, .ireturn, 1, 15, .null, 0, 0, 0)]
set_option maxRecDepth 100000 in
theorem ek_M_orNone : e_M_orNone.all (eok 4 c_M_orNone) = true := by decide +kernel
def F_M_orNone_14 (y0 : Int32) (w : A_W) : Option (Int32 × A_W) :=
  some (y0, w)
def F_M_orNone_0 (t : Nat) (x1 : Int32) (w : A_W) : Option (Int32 × A_W) :=
  if 0 ≤ x1 then
    F_M_orNone_14 x1 w
  else
    (ob w t 4).bind fun o3 =>
    (F_M_finds t (-1000004) w).bind fun p2 =>
    F_M_orNone_14 p2.1 p2.2
set_option maxHeartbeats 4000000 in
set_option maxRecDepth 100000 in
theorem s_M_orNone_14 {G : Gx} {X : Cx} {res : Int32 × A_W} (K : Ok G X 4 c_M_orNone 2 (some .int) rm_M_orNone) (hQ : QQ G X (some (.int res.1)) res.2 0 0) (y0 : Int32) (w : A_W) (h : F_M_orNone_14 y0 w = some res) : Sm G X w 0 0 [none, none] [.int y0] 14 := by
  unfold F_M_orNone_14 at h
  cases h
  exact Sm_reti K hQ (eok_i (eo ek_M_orNone (i := 7) rfl) rfl)
set_option maxHeartbeats 4000000 in
set_option maxRecDepth 100000 in
theorem s_M_orNone_0 {G : Gx} {X : Cx} {res : Int32 × A_W} (K : Ok G X 4 c_M_orNone 2 (some .int) rm_M_orNone) (hQ : QQ G X (some (.int res.1)) res.2 0 0) (t : Nat) (x1 : Int32) (w : A_W) (h : F_M_orNone_0 t x1 w = some res) : Sm G X w 0 0 [some (.ref t), some (.int x1)] [] 0 := by
  unfold F_M_orNone_0 at h
  refine Sm_run K ek_M_orNone 0 1 rfl ?_
  refine Sm_if_ge K (eo ek_M_orNone (i := 1) rfl) (fun c1 => ?_) (fun c1 => ?_)
  · rw [if_pos c1] at h
    refine Sm_run K ek_M_orNone 6 1 rfl ?_
    exact Sm_le (leR_n (leR_n leR_nil)) (s_M_orNone_14 K hQ _ _ h)
  · rw [if_neg c1] at h
    refine Sm_run K ek_M_orNone 2 2 rfl ?_
    obtain ⟨o3, e_o3, h⟩ := Option.bind_eq_some_iff.mp h
    obtain ⟨p2, e_p2, h⟩ := Option.bind_eq_some_iff.mp h
    refine Sm_callV K (eok_i (eo ek_M_orNone (i := 4) rfl) rfl) cy_M_finds im_M_finds se_M_finds (lgm 826 (by decide +kernel) rfl) ⟨Nat.le_of_ble_eq_true rfl, Nat.le_of_ble_eq_true rfl⟩ (as := [.int (-1000004)]) (b := t) (st := []) (ob_e e_o3) (by decide) rfl rfl rfl rfl (Nat.le_of_ble_eq_true rfl) ⟨Nat.le_of_ble_eq_true rfl, Nat.le_of_ble_eq_true rfl⟩ (cn_M_finds e_p2) ?_
    refine Sm_eq (st1 := .int p2.1 :: []) (nc1 := 0) (ns1 := 0) rfl rfl rfl ?_
    refine Sm_run K ek_M_orNone 5 1 rfl ?_
    exact Sm_le (leR_n (leR_n leR_nil)) (s_M_orNone_14 K hQ _ _ h)
def F_M_orNone (t : Nat) (x1 : Int32) (w : A_W) : Option (Int32 × A_W) := F_M_orNone_0 t x1 w
theorem cn_M_orNone {G : Gx} {t : Nat} {x1 : Int32} {w : A_W} {res : Int32 × A_W} (h : F_M_orNone t x1 w = some res) : Cn G y_M_orNone c_M_orNone 2 (some .int) rm_M_orNone [.ref t, .int x1] w (some (.int res.1)) res.2 :=
  Cn_of (own := 4) cy_M_orNone rfl rfl (Nat.le_of_ble_eq_true rfl) rfl (fun X K _ hQ => Sm_le (leR_s (leR_s leR_nil)) (s_M_orNone_0 K hQ _ _ _ h))
/-! EveningCloakModel.in(III)Z -/
abbrev c_M_in : ByteArray := prog_6_method_4_code
def y_M_in : MethodName := ⟨"EveningCloakModel", "in", "(III)Z"⟩
def rm_M_in : Room := { frames := 0, cells := 0, slots := 0, locals := 0 }
theorem cy_M_in : Cy y_M_in c_M_in 3 (some .boolean) 3 := ⟨lgm 817 (by decide +kernel) rfl, lgm 73 (by decide +kernel) rfl, by decide +kernel, by decide +kernel⟩
theorem st_M_in : Cond.static y_M_in ∈ lg := lgm 816 (by decide +kernel) rfl
def e_M_in : List Ent := [
  (0, .iload_n 0, 1, 1, .null, 0, 0, 0),
  (1, .iload_n 1, 1, 2, .null, 0, 0, 0),
  (2, .if_icmp .lt 12, 3, 14, .null, 0, 0, 0),
  (5, .iload_n 0, 1, 6, .null, 0, 0, 0),
  (6, .iload_n 2, 1, 7, .null, 0, 0, 0),
  (7, .if_icmp .gt 7, 3, 14, .null, 0, 0, 0),
  (10, .iconst 1, 1, 11, .int 1, 0, 0, 0),
  (11, .goto 4, 3, 15, .null, 0, 0, 0),
  (14, .iconst 0, 1, 15, .int 0, 0, 0, 0),
  (15, .ireturn, 1, 16, .null, 0, 0, 0)]
set_option maxRecDepth 100000 in
theorem ek_M_in : e_M_in.all (eok 4 c_M_in) = true := by decide +kernel
def F_M_in_15 (y0 : Int32) (w : A_W) : Option (Int32 × A_W) :=
  (bz y0).bind fun b1 =>
  some (b1, w)
def F_M_in_14 (w : A_W) : Option (Int32 × A_W) :=
  F_M_in_15 0 w
def F_M_in_0 (x0 : Int32) (x1 : Int32) (x2 : Int32) (w : A_W) : Option (Int32 × A_W) :=
  if x0 < x1 then
    F_M_in_14 w
  else
    if x2 < x0 then
      F_M_in_14 w
    else
      F_M_in_15 1 w
set_option maxHeartbeats 4000000 in
set_option maxRecDepth 100000 in
theorem s_M_in_15 {G : Gx} {X : Cx} {res : Int32 × A_W} (K : Ok G X 4 c_M_in 3 (some .boolean) rm_M_in) (hQ : QQ G X (some (.int res.1)) res.2 0 0) (y0 : Int32) (w : A_W) (h : F_M_in_15 y0 w = some res) : Sm G X w 0 0 [none, none, none] [.int y0] 15 := by
  unfold F_M_in_15 at h
  obtain ⟨b1, e_b1, h⟩ := Option.bind_eq_some_iff.mp h
  cases h
  exact Sm_retz K e_b1 hQ (eok_i (eo ek_M_in (i := 9) rfl) rfl)
set_option maxHeartbeats 4000000 in
set_option maxRecDepth 100000 in
theorem s_M_in_14 {G : Gx} {X : Cx} {res : Int32 × A_W} (K : Ok G X 4 c_M_in 3 (some .boolean) rm_M_in) (hQ : QQ G X (some (.int res.1)) res.2 0 0) (w : A_W) (h : F_M_in_14 w = some res) : Sm G X w 0 0 [none, none, none] [] 14 := by
  unfold F_M_in_14 at h
  refine Sm_run K ek_M_in 8 1 rfl ?_
  exact Sm_le (leR_n (leR_n (leR_n leR_nil))) (s_M_in_15 K hQ _ _ h)
set_option maxHeartbeats 4000000 in
set_option maxRecDepth 100000 in
theorem s_M_in_0 {G : Gx} {X : Cx} {res : Int32 × A_W} (K : Ok G X 4 c_M_in 3 (some .boolean) rm_M_in) (hQ : QQ G X (some (.int res.1)) res.2 0 0) (x0 : Int32) (x1 : Int32) (x2 : Int32) (w : A_W) (h : F_M_in_0 x0 x1 x2 w = some res) : Sm G X w 0 0 [some (.int x0), some (.int x1), some (.int x2)] [] 0 := by
  unfold F_M_in_0 at h
  refine Sm_run K ek_M_in 0 2 rfl ?_
  refine Sm_ic_lt K (eo ek_M_in (i := 2) rfl) (fun c1 => ?_) (fun c1 => ?_)
  · rw [if_pos c1] at h
    exact Sm_le (leR_n (leR_n (leR_n leR_nil))) (s_M_in_14 K hQ _ h)
  · rw [if_neg c1] at h
    refine Sm_run K ek_M_in 3 2 rfl ?_
    refine Sm_ic_gt K (eo ek_M_in (i := 5) rfl) (fun c2 => ?_) (fun c2 => ?_)
    · rw [if_pos c2] at h
      exact Sm_le (leR_n (leR_n (leR_n leR_nil))) (s_M_in_14 K hQ _ h)
    · rw [if_neg c2] at h
      refine Sm_run K ek_M_in 6 2 rfl ?_
      exact Sm_le (leR_n (leR_n (leR_n leR_nil))) (s_M_in_15 K hQ _ _ h)
def F_M_in (x0 : Int32) (x1 : Int32) (x2 : Int32) (w : A_W) : Option (Int32 × A_W) := F_M_in_0 x0 x1 x2 w
theorem cn_M_in {G : Gx} {x0 : Int32} {x1 : Int32} {x2 : Int32} {w : A_W} {res : Int32 × A_W} (h : F_M_in x0 x1 x2 w = some res) : Cn G y_M_in c_M_in 3 (some .boolean) rm_M_in [.int x0, .int x1, .int x2] w (some (.int res.1)) res.2 :=
  Cn_of (own := 4) cy_M_in rfl rfl (Nat.le_of_ble_eq_true rfl) rfl (fun X K _ hQ => Sm_le (leR_s (leR_s (leR_s leR_nil))) (s_M_in_0 K hQ _ _ _ _ h))
/-! EveningCloakModel.held(III)I -/
abbrev c_M_held : ByteArray := prog_6_method_5_code
def y_M_held : MethodName := ⟨"EveningCloakModel", "held", "(III)I"⟩
def rm_M_held : Room := { frames := 0, cells := 0, slots := 0, locals := 0 }
theorem cy_M_held : Cy y_M_held c_M_held 3 (some .int) 3 := ⟨lgm 877 (by decide +kernel) rfl, lgm 73 (by decide +kernel) rfl, by decide +kernel, by decide +kernel⟩
theorem st_M_held : Cond.static y_M_held ∈ lg := lgm 876 (by decide +kernel) rfl
def e_M_held : List Ent := [
  (0, .iload_n 0, 1, 1, .null, 0, 0, 0),
  (1, .iload_n 1, 1, 2, .null, 0, 0, 0),
  (2, .if_icmp .ge 7, 3, 9, .null, 0, 0, 0),
  (5, .iload_n 1, 1, 6, .null, 0, 0, 0),
  (6, .goto 13, 3, 19, .null, 0, 0, 0),
  (9, .iload_n 0, 1, 10, .null, 0, 0, 0),
  (10, .iload_n 2, 1, 11, .null, 0, 0, 0),
  (11, .if_icmp .le 7, 3, 18, .null, 0, 0, 0),
  (14, .iload_n 2, 1, 15, .null, 0, 0, 0),
  (15, .goto 4, 3, 19, .null, 0, 0, 0),
  (18, .iload_n 0, 1, 19, .null, 0, 0, 0),
  (19, .ireturn, 1, 20, .null, 0, 0, 0)]
set_option maxRecDepth 100000 in
theorem ek_M_held : e_M_held.all (eok 4 c_M_held) = true := by decide +kernel
def F_M_held_19 (y0 : Int32) (w : A_W) : Option (Int32 × A_W) :=
  some (y0, w)
def F_M_held_0 (x0 : Int32) (x1 : Int32) (x2 : Int32) (w : A_W) : Option (Int32 × A_W) :=
  if x1 ≤ x0 then
    if x0 ≤ x2 then
      F_M_held_19 x0 w
    else
      F_M_held_19 x2 w
  else
    F_M_held_19 x1 w
set_option maxHeartbeats 4000000 in
set_option maxRecDepth 100000 in
theorem s_M_held_19 {G : Gx} {X : Cx} {res : Int32 × A_W} (K : Ok G X 4 c_M_held 3 (some .int) rm_M_held) (hQ : QQ G X (some (.int res.1)) res.2 0 0) (y0 : Int32) (w : A_W) (h : F_M_held_19 y0 w = some res) : Sm G X w 0 0 [none, none, none] [.int y0] 19 := by
  unfold F_M_held_19 at h
  cases h
  exact Sm_reti K hQ (eok_i (eo ek_M_held (i := 11) rfl) rfl)
set_option maxHeartbeats 4000000 in
set_option maxRecDepth 100000 in
theorem s_M_held_0 {G : Gx} {X : Cx} {res : Int32 × A_W} (K : Ok G X 4 c_M_held 3 (some .int) rm_M_held) (hQ : QQ G X (some (.int res.1)) res.2 0 0) (x0 : Int32) (x1 : Int32) (x2 : Int32) (w : A_W) (h : F_M_held_0 x0 x1 x2 w = some res) : Sm G X w 0 0 [some (.int x0), some (.int x1), some (.int x2)] [] 0 := by
  unfold F_M_held_0 at h
  refine Sm_run K ek_M_held 0 2 rfl ?_
  refine Sm_ic_ge K (eo ek_M_held (i := 2) rfl) (fun c1 => ?_) (fun c1 => ?_)
  · rw [if_pos c1] at h
    refine Sm_run K ek_M_held 5 2 rfl ?_
    refine Sm_ic_le K (eo ek_M_held (i := 7) rfl) (fun c2 => ?_) (fun c2 => ?_)
    · rw [if_pos c2] at h
      refine Sm_run K ek_M_held 10 1 rfl ?_
      exact Sm_le (leR_n (leR_n (leR_n leR_nil))) (s_M_held_19 K hQ _ _ h)
    · rw [if_neg c2] at h
      refine Sm_run K ek_M_held 8 2 rfl ?_
      exact Sm_le (leR_n (leR_n (leR_n leR_nil))) (s_M_held_19 K hQ _ _ h)
  · rw [if_neg c1] at h
    refine Sm_run K ek_M_held 3 2 rfl ?_
    exact Sm_le (leR_n (leR_n (leR_n leR_nil))) (s_M_held_19 K hQ _ _ h)
def F_M_held (x0 : Int32) (x1 : Int32) (x2 : Int32) (w : A_W) : Option (Int32 × A_W) := F_M_held_0 x0 x1 x2 w
theorem cn_M_held {G : Gx} {x0 : Int32} {x1 : Int32} {x2 : Int32} {w : A_W} {res : Int32 × A_W} (h : F_M_held x0 x1 x2 w = some res) : Cn G y_M_held c_M_held 3 (some .int) rm_M_held [.int x0, .int x1, .int x2] w (some (.int res.1)) res.2 :=
  Cn_of (own := 4) cy_M_held rfl rfl (Nat.le_of_ble_eq_true rfl) rfl (fun X K _ hQ => Sm_le (leR_s (leR_s (leR_s leR_nil))) (s_M_held_0 K hQ _ _ _ _ h))
/-! EveningCloakModel.copyAll([I[I)V -/
abbrev c_M_copyAll : ByteArray := prog_6_method_6_code
def y_M_copyAll : MethodName := ⟨"EveningCloakModel", "copyAll", "([I[I)V"⟩
def rm_M_copyAll : Room := { frames := 0, cells := 0, slots := 0, locals := 0 }
theorem cy_M_copyAll : Cy y_M_copyAll c_M_copyAll 3 (none) 2 := ⟨lgm 986 (by decide +kernel) rfl, lgm 73 (by decide +kernel) rfl, by decide +kernel, by decide +kernel⟩
theorem st_M_copyAll : Cond.static y_M_copyAll ∈ lg := lgm 985 (by decide +kernel) rfl
def e_M_copyAll : List Ent := [
  (0, .iconst 0, 1, 1, .int 0, 0, 0, 0),
  (1, .istore_n 2, 1, 2, .null, 0, 0, 0),
  (2, .iload_n 2, 1, 3, .null, 0, 0, 0),
  (3, .bipush 87, 2, 5, .int 87, 0, 0, 0),
  (5, .if_icmp .ge 15, 3, 20, .null, 0, 0, 0),
  (8, .aload_n 1, 1, 9, .null, 0, 0, 0),
  (9, .iload_n 2, 1, 10, .null, 0, 0, 0),
  (10, .aload_n 0, 1, 11, .null, 0, 0, 0),
  (11, .iload_n 2, 1, 12, .null, 0, 0, 0),
  (12, .iaload, 1, 13, .null, 0, 0, 0),
  (13, .iastore, 1, 14, .null, 0, 0, 0),
  (14, .iinc 2 1, 3, 17, .int 1, 0, 0, 0),
  (17, .goto (-15), 3, 2, .null, 0, 0, 0),
  (20, .return_, 1, 21, .null, 0, 0, 0)]
set_option maxRecDepth 100000 in
theorem ek_M_copyAll : e_M_copyAll.all (eok 4 c_M_copyAll) = true := by decide +kernel
def F_M_copyAll_2 : Nat → Nat → Nat → Int32 → A_W → Option (A_W)
  | 0, _, _, _, _ => none
  | n + 1, x0, x1, x2, w =>
    if 87 ≤ x2 then
      some w
    else
      (rd w x0 x2).bind fun v2 =>
      (wr w x1 x2 v2).bind fun w3 =>
      F_M_copyAll_2 n x0 x1 (x2 + 1) w3
def F_M_copyAll_0 (x0 : Nat) (x1 : Nat) (w : A_W) : Option (A_W) :=
  F_M_copyAll_2 FU x0 x1 0 w
set_option maxHeartbeats 4000000 in
set_option maxRecDepth 100000 in
theorem s_M_copyAll_2 {G : Gx} {X : Cx} {res : A_W} (K : Ok G X 4 c_M_copyAll 3 (none) rm_M_copyAll) (hQ : QQ G X none res 0 0) : ∀ (n : Nat) (x0 : Nat) (x1 : Nat) (x2 : Int32) (w : A_W), F_M_copyAll_2 n x0 x1 x2 w = some res → Sm G X w 0 0 [some (.ref x0), some (.ref x1), some (.int x2)] [] 2 := by
  intro n
  induction n with
  | zero => intro x0 x1 x2 w h; cases h
  | succ n ih =>
    intro x0 x1 x2 w h
    rw [F_M_copyAll_2] at h
    refine Sm_run K ek_M_copyAll 2 2 rfl ?_
    refine Sm_ic_ge K (eo ek_M_copyAll (i := 4) rfl) (fun c1 => ?_) (fun c1 => ?_)
    · rw [if_pos c1] at h
      cases h
      exact Sm_retv K hQ (eok_i (eo ek_M_copyAll (i := 13) rfl) rfl)
    · rw [if_neg c1] at h
      refine Sm_run K ek_M_copyAll 5 4 rfl ?_
      obtain ⟨v2, e_v2, h⟩ := Option.bind_eq_some_iff.mp h
      refine Sm_rd K (eok_i (eo ek_M_copyAll (i := 9) rfl) rfl) e_v2 ?_
      obtain ⟨w3, e_w3, h⟩ := Option.bind_eq_some_iff.mp h
      refine Sm_wr K (eok_i (eo ek_M_copyAll (i := 10) rfl) rfl) e_w3 ?_
      refine Sm_run K ek_M_copyAll 11 2 rfl ?_
      exact Sm_le (leR_s (leR_s (leR_s leR_nil))) (ih _ _ _ _ h)
set_option maxHeartbeats 4000000 in
set_option maxRecDepth 100000 in
theorem s_M_copyAll_0 {G : Gx} {X : Cx} {res : A_W} (K : Ok G X 4 c_M_copyAll 3 (none) rm_M_copyAll) (hQ : QQ G X none res 0 0) (x0 : Nat) (x1 : Nat) (w : A_W) (h : F_M_copyAll_0 x0 x1 w = some res) : Sm G X w 0 0 [some (.ref x0), some (.ref x1), none] [] 0 := by
  unfold F_M_copyAll_0 at h
  refine Sm_run K ek_M_copyAll 0 2 rfl ?_
  exact Sm_le (leR_s (leR_s (leR_s leR_nil))) (s_M_copyAll_2 K hQ FU _ _ _ _ h)
def F_M_copyAll (x0 : Nat) (x1 : Nat) (w : A_W) : Option (A_W) := F_M_copyAll_0 x0 x1 w
theorem cn_M_copyAll {G : Gx} {x0 : Nat} {x1 : Nat} {w : A_W} {res : A_W} (h : F_M_copyAll x0 x1 w = some res) : Cn G y_M_copyAll c_M_copyAll 3 (none) rm_M_copyAll [.ref x0, .ref x1] w none res :=
  Cn_of (own := 4) cy_M_copyAll rfl rfl (Nat.le_of_ble_eq_true rfl) rfl (fun X K _ hQ => Sm_le (leR_s (leR_s (leR_n leR_nil))) (s_M_copyAll_0 K hQ _ _ _ h))
/-! EveningCloakModel.becomes(II)I -/
abbrev c_M_becomes : ByteArray := prog_6_method_7_code
def y_M_becomes : MethodName := ⟨"EveningCloakModel", "becomes", "(II)I"⟩
def rm_M_becomes : Room := { frames := 0, cells := 0, slots := 0, locals := 0 }
theorem cy_M_becomes : Cy y_M_becomes c_M_becomes 4 (some .int) 2 := ⟨lgm 824 (by decide +kernel) rfl, lgm 73 (by decide +kernel) rfl, by decide +kernel, by decide +kernel⟩
theorem im_M_becomes : Cond.instanceMethod y_M_becomes ∈ lg := lgm 823 (by decide +kernel) rfl
theorem se_M_becomes : Cond.selects y_M_becomes.cls y_M_becomes y_M_becomes ∈ lg := lgm 18 (by decide +kernel) rfl
def e_M_becomes : List Ent := [
  (0, .aload_n 0, 1, 1, .null, 0, 0, 0),
  (1, .getfield 9, 3, 4, .null, 4, 0, 762),
  (4, .iload_n 1, 1, 5, .null, 0, 0, 0),
  (5, .iaload, 1, 6, .null, 0, 0, 0),
  (6, .istore_n 3, 1, 7, .null, 0, 0, 0),
  (7, .aload_n 0, 1, 8, .null, 0, 0, 0),
  (8, .getfield 9, 3, 11, .null, 4, 0, 762),
  (11, .iload_n 1, 1, 12, .null, 0, 0, 0),
  (12, .iload_n 2, 1, 13, .null, 0, 0, 0),
  (13, .iastore, 1, 14, .null, 0, 0, 0),
  (14, .iload_n 3, 1, 15, .null, 0, 0, 0),
  (15, .ireturn, 1, 16, .null, 0, 0, 0)]
set_option maxRecDepth 100000 in
theorem ek_M_becomes : e_M_becomes.all (eok 4 c_M_becomes) = true := by decide +kernel
def F_M_becomes_0 (t : Nat) (x1 : Int32) (x2 : Int32) (w : A_W) : Option (Int32 × A_W) :=
  (gr w t 4 0).bind fun a1 =>
  (rd w a1 x1).bind fun v2 =>
  (gr w t 4 0).bind fun a3 =>
  (wr w a3 x1 x2).bind fun w4 =>
  some (v2, w4)
set_option maxHeartbeats 4000000 in
set_option maxRecDepth 100000 in
theorem s_M_becomes_0 {G : Gx} {X : Cx} {res : Int32 × A_W} (K : Ok G X 4 c_M_becomes 4 (some .int) rm_M_becomes) (hQ : QQ G X (some (.int res.1)) res.2 0 0) (t : Nat) (x1 : Int32) (x2 : Int32) (w : A_W) (h : F_M_becomes_0 t x1 x2 w = some res) : Sm G X w 0 0 [some (.ref t), some (.int x1), some (.int x2), none] [] 0 := by
  unfold F_M_becomes_0 at h
  refine Sm_run K ek_M_becomes 0 1 rfl ?_
  obtain ⟨a1, e_a1, h⟩ := Option.bind_eq_some_iff.mp h
  refine Sm_gr K (eo ek_M_becomes (i := 1) rfl) e_a1 ?_
  refine Sm_run K ek_M_becomes 2 1 rfl ?_
  obtain ⟨v2, e_v2, h⟩ := Option.bind_eq_some_iff.mp h
  refine Sm_rd K (eok_i (eo ek_M_becomes (i := 3) rfl) rfl) e_v2 ?_
  refine Sm_run K ek_M_becomes 4 2 rfl ?_
  obtain ⟨a3, e_a3, h⟩ := Option.bind_eq_some_iff.mp h
  refine Sm_gr K (eo ek_M_becomes (i := 6) rfl) e_a3 ?_
  refine Sm_run K ek_M_becomes 7 2 rfl ?_
  obtain ⟨w4, e_w4, h⟩ := Option.bind_eq_some_iff.mp h
  refine Sm_wr K (eok_i (eo ek_M_becomes (i := 9) rfl) rfl) e_w4 ?_
  refine Sm_run K ek_M_becomes 10 1 rfl ?_
  cases h
  exact Sm_reti K hQ (eok_i (eo ek_M_becomes (i := 11) rfl) rfl)
def F_M_becomes (t : Nat) (x1 : Int32) (x2 : Int32) (w : A_W) : Option (Int32 × A_W) := F_M_becomes_0 t x1 x2 w
theorem cn_M_becomes {G : Gx} {t : Nat} {x1 : Int32} {x2 : Int32} {w : A_W} {res : Int32 × A_W} (h : F_M_becomes t x1 x2 w = some res) : Cn G y_M_becomes c_M_becomes 4 (some .int) rm_M_becomes [.ref t, .int x1, .int x2] w (some (.int res.1)) res.2 :=
  Cn_of (own := 4) cy_M_becomes rfl rfl (Nat.le_of_ble_eq_true rfl) rfl (fun X K _ hQ => Sm_le (leR_s (leR_s (leR_s (leR_n leR_nil)))) (s_M_becomes_0 K hQ _ _ _ _ h))
/-! EveningCloakModel.isDeposit(I)Z -/
abbrev c_M_isDeposit : ByteArray := prog_6_method_8_code
def y_M_isDeposit : MethodName := ⟨"EveningCloakModel", "isDeposit", "(I)Z"⟩
def rm_M_isDeposit : Room := { frames := 1, cells := 0, slots := 0, locals := 22 }
theorem cy_M_isDeposit : Cy y_M_isDeposit c_M_isDeposit 2 (some .boolean) 1 := ⟨lgm 866 (by decide +kernel) rfl, lgm 73 (by decide +kernel) rfl, by decide +kernel, by decide +kernel⟩
theorem im_M_isDeposit : Cond.instanceMethod y_M_isDeposit ∈ lg := lgm 865 (by decide +kernel) rfl
theorem se_M_isDeposit : Cond.selects y_M_isDeposit.cls y_M_isDeposit y_M_isDeposit ∈ lg := lgm 24 (by decide +kernel) rfl
def e_M_isDeposit : List Ent := [
  (0, .iload_n 1, 1, 1, .null, 0, 0, 0),
  (1, .iconst 0, 1, 2, .int 0, 0, 0, 0),
  (2, .aload_n 0, 1, 3, .null, 0, 0, 0),
  (3, .getfield 9, 3, 6, .null, 4, 0, 762),
  (6, .iconst 3, 1, 7, .int 3, 0, 0, 0),
  (7, .iaload, 1, 8, .null, 0, 0, 0),
  (8, .iconst 1, 1, 9, .int 1, 0, 0, 0),
  (9, .isub, 1, 10, .null, 0, 0, 0),
  (10, .invokestatic 40, 3, 13, .null, 0, 0, 0),
  (13, .ireturn, 1, 14, .null, 0, 0, 0)]
set_option maxRecDepth 100000 in
theorem ek_M_isDeposit : e_M_isDeposit.all (eok 4 c_M_isDeposit) = true := by decide +kernel
def F_M_isDeposit_0 (t : Nat) (x1 : Int32) (w : A_W) : Option (Int32 × A_W) :=
  (gr w t 4 0).bind fun a1 =>
  (rd w a1 3).bind fun v2 =>
  (F_M_in x1 0 (v2 - 1) w).bind fun p3 =>
  (bz p3.1).bind fun b4 =>
  some (b4, p3.2)
set_option maxHeartbeats 4000000 in
set_option maxRecDepth 100000 in
theorem s_M_isDeposit_0 {G : Gx} {X : Cx} {res : Int32 × A_W} (K : Ok G X 4 c_M_isDeposit 2 (some .boolean) rm_M_isDeposit) (hQ : QQ G X (some (.int res.1)) res.2 0 0) (t : Nat) (x1 : Int32) (w : A_W) (h : F_M_isDeposit_0 t x1 w = some res) : Sm G X w 0 0 [some (.ref t), some (.int x1)] [] 0 := by
  unfold F_M_isDeposit_0 at h
  refine Sm_run K ek_M_isDeposit 0 3 rfl ?_
  obtain ⟨a1, e_a1, h⟩ := Option.bind_eq_some_iff.mp h
  refine Sm_gr K (eo ek_M_isDeposit (i := 3) rfl) e_a1 ?_
  refine Sm_run K ek_M_isDeposit 4 1 rfl ?_
  obtain ⟨v2, e_v2, h⟩ := Option.bind_eq_some_iff.mp h
  refine Sm_rd K (eok_i (eo ek_M_isDeposit (i := 5) rfl) rfl) e_v2 ?_
  refine Sm_run K ek_M_isDeposit 6 2 rfl ?_
  obtain ⟨p3, e_p3, h⟩ := Option.bind_eq_some_iff.mp h
  refine Sm_callS K (eok_i (eo ek_M_isDeposit (i := 8) rfl) rfl) cy_M_in st_M_in (lgm 815 (by decide +kernel) rfl) ⟨Nat.le_of_ble_eq_true rfl, Nat.le_of_ble_eq_true rfl⟩ (as := [.int x1, .int 0, .int (v2 - 1)]) (st := []) rfl rfl rfl (Nat.le_of_ble_eq_true rfl) ⟨Nat.le_of_ble_eq_true rfl, Nat.le_of_ble_eq_true rfl⟩ (cn_M_in e_p3) ?_
  refine Sm_eq (st1 := .int p3.1 :: []) (nc1 := 0) (ns1 := 0) rfl rfl rfl ?_
  obtain ⟨b4, e_b4, h⟩ := Option.bind_eq_some_iff.mp h
  cases h
  exact Sm_retz K e_b4 hQ (eok_i (eo ek_M_isDeposit (i := 9) rfl) rfl)
def F_M_isDeposit (t : Nat) (x1 : Int32) (w : A_W) : Option (Int32 × A_W) := F_M_isDeposit_0 t x1 w
theorem cn_M_isDeposit {G : Gx} {t : Nat} {x1 : Int32} {w : A_W} {res : Int32 × A_W} (h : F_M_isDeposit t x1 w = some res) : Cn G y_M_isDeposit c_M_isDeposit 2 (some .boolean) rm_M_isDeposit [.ref t, .int x1] w (some (.int res.1)) res.2 :=
  Cn_of (own := 4) cy_M_isDeposit rfl rfl (Nat.le_of_ble_eq_true rfl) rfl (fun X K _ hQ => Sm_le (leR_s (leR_s leR_nil)) (s_M_isDeposit_0 K hQ _ _ _ h))
/-! EveningCloakModel.isGirl(I)Z -/
abbrev c_M_isGirl : ByteArray := prog_6_method_9_code
def y_M_isGirl : MethodName := ⟨"EveningCloakModel", "isGirl", "(I)Z"⟩
def rm_M_isGirl : Room := { frames := 1, cells := 0, slots := 0, locals := 22 }
theorem cy_M_isGirl : Cy y_M_isGirl c_M_isGirl 2 (some .boolean) 1 := ⟨lgm 912 (by decide +kernel) rfl, lgm 73 (by decide +kernel) rfl, by decide +kernel, by decide +kernel⟩
theorem im_M_isGirl : Cond.instanceMethod y_M_isGirl ∈ lg := lgm 911 (by decide +kernel) rfl
theorem se_M_isGirl : Cond.selects y_M_isGirl.cls y_M_isGirl y_M_isGirl ∈ lg := lgm 32 (by decide +kernel) rfl
def e_M_isGirl : List Ent := [
  (0, .iload_n 1, 1, 1, .null, 0, 0, 0),
  (1, .iconst 0, 1, 2, .int 0, 0, 0, 0),
  (2, .aload_n 0, 1, 3, .null, 0, 0, 0),
  (3, .getfield 9, 3, 6, .null, 4, 0, 762),
  (6, .iconst 4, 1, 7, .int 4, 0, 0, 0),
  (7, .iaload, 1, 8, .null, 0, 0, 0),
  (8, .iconst 1, 1, 9, .int 1, 0, 0, 0),
  (9, .isub, 1, 10, .null, 0, 0, 0),
  (10, .invokestatic 40, 3, 13, .null, 0, 0, 0),
  (13, .ireturn, 1, 14, .null, 0, 0, 0)]
set_option maxRecDepth 100000 in
theorem ek_M_isGirl : e_M_isGirl.all (eok 4 c_M_isGirl) = true := by decide +kernel
def F_M_isGirl_0 (t : Nat) (x1 : Int32) (w : A_W) : Option (Int32 × A_W) :=
  (gr w t 4 0).bind fun a1 =>
  (rd w a1 4).bind fun v2 =>
  (F_M_in x1 0 (v2 - 1) w).bind fun p3 =>
  (bz p3.1).bind fun b4 =>
  some (b4, p3.2)
set_option maxHeartbeats 4000000 in
set_option maxRecDepth 100000 in
theorem s_M_isGirl_0 {G : Gx} {X : Cx} {res : Int32 × A_W} (K : Ok G X 4 c_M_isGirl 2 (some .boolean) rm_M_isGirl) (hQ : QQ G X (some (.int res.1)) res.2 0 0) (t : Nat) (x1 : Int32) (w : A_W) (h : F_M_isGirl_0 t x1 w = some res) : Sm G X w 0 0 [some (.ref t), some (.int x1)] [] 0 := by
  unfold F_M_isGirl_0 at h
  refine Sm_run K ek_M_isGirl 0 3 rfl ?_
  obtain ⟨a1, e_a1, h⟩ := Option.bind_eq_some_iff.mp h
  refine Sm_gr K (eo ek_M_isGirl (i := 3) rfl) e_a1 ?_
  refine Sm_run K ek_M_isGirl 4 1 rfl ?_
  obtain ⟨v2, e_v2, h⟩ := Option.bind_eq_some_iff.mp h
  refine Sm_rd K (eok_i (eo ek_M_isGirl (i := 5) rfl) rfl) e_v2 ?_
  refine Sm_run K ek_M_isGirl 6 2 rfl ?_
  obtain ⟨p3, e_p3, h⟩ := Option.bind_eq_some_iff.mp h
  refine Sm_callS K (eok_i (eo ek_M_isGirl (i := 8) rfl) rfl) cy_M_in st_M_in (lgm 815 (by decide +kernel) rfl) ⟨Nat.le_of_ble_eq_true rfl, Nat.le_of_ble_eq_true rfl⟩ (as := [.int x1, .int 0, .int (v2 - 1)]) (st := []) rfl rfl rfl (Nat.le_of_ble_eq_true rfl) ⟨Nat.le_of_ble_eq_true rfl, Nat.le_of_ble_eq_true rfl⟩ (cn_M_in e_p3) ?_
  refine Sm_eq (st1 := .int p3.1 :: []) (nc1 := 0) (ns1 := 0) rfl rfl rfl ?_
  obtain ⟨b4, e_b4, h⟩ := Option.bind_eq_some_iff.mp h
  cases h
  exact Sm_retz K e_b4 hQ (eok_i (eo ek_M_isGirl (i := 9) rfl) rfl)
def F_M_isGirl (t : Nat) (x1 : Int32) (w : A_W) : Option (Int32 × A_W) := F_M_isGirl_0 t x1 w
theorem cn_M_isGirl {G : Gx} {t : Nat} {x1 : Int32} {w : A_W} {res : Int32 × A_W} (h : F_M_isGirl t x1 w = some res) : Cn G y_M_isGirl c_M_isGirl 2 (some .boolean) rm_M_isGirl [.ref t, .int x1] w (some (.int res.1)) res.2 :=
  Cn_of (own := 4) cy_M_isGirl rfl rfl (Nat.le_of_ble_eq_true rfl) rfl (fun X K _ hQ => Sm_le (leR_s (leR_s leR_nil)) (s_M_isGirl_0 K hQ _ _ _ h))
/-! EveningCloakModel.isHanger(I)Z -/
abbrev c_M_isHanger : ByteArray := prog_6_method_10_code
def y_M_isHanger : MethodName := ⟨"EveningCloakModel", "isHanger", "(I)Z"⟩
def rm_M_isHanger : Room := { frames := 1, cells := 0, slots := 0, locals := 22 }
theorem cy_M_isHanger : Cy y_M_isHanger c_M_isHanger 1 (some .boolean) 1 := ⟨lgm 820 (by decide +kernel) rfl, lgm 73 (by decide +kernel) rfl, by decide +kernel, by decide +kernel⟩
theorem st_M_isHanger : Cond.static y_M_isHanger ∈ lg := lgm 819 (by decide +kernel) rfl
def e_M_isHanger : List Ent := [
  (0, .iload_n 0, 1, 1, .null, 0, 0, 0),
  (1, .iconst 0, 1, 2, .int 0, 0, 0, 0),
  (2, .bipush 15, 2, 4, .int 15, 0, 0, 0),
  (4, .invokestatic 40, 3, 7, .null, 0, 0, 0),
  (7, .ireturn, 1, 8, .null, 0, 0, 0)]
set_option maxRecDepth 100000 in
theorem ek_M_isHanger : e_M_isHanger.all (eok 4 c_M_isHanger) = true := by decide +kernel
def F_M_isHanger_0 (x0 : Int32) (w : A_W) : Option (Int32 × A_W) :=
  (F_M_in x0 0 15 w).bind fun p1 =>
  (bz p1.1).bind fun b2 =>
  some (b2, p1.2)
set_option maxHeartbeats 4000000 in
set_option maxRecDepth 100000 in
theorem s_M_isHanger_0 {G : Gx} {X : Cx} {res : Int32 × A_W} (K : Ok G X 4 c_M_isHanger 1 (some .boolean) rm_M_isHanger) (hQ : QQ G X (some (.int res.1)) res.2 0 0) (x0 : Int32) (w : A_W) (h : F_M_isHanger_0 x0 w = some res) : Sm G X w 0 0 [some (.int x0)] [] 0 := by
  unfold F_M_isHanger_0 at h
  refine Sm_run K ek_M_isHanger 0 3 rfl ?_
  obtain ⟨p1, e_p1, h⟩ := Option.bind_eq_some_iff.mp h
  refine Sm_callS K (eok_i (eo ek_M_isHanger (i := 3) rfl) rfl) cy_M_in st_M_in (lgm 815 (by decide +kernel) rfl) ⟨Nat.le_of_ble_eq_true rfl, Nat.le_of_ble_eq_true rfl⟩ (as := [.int x0, .int 0, .int 15]) (st := []) rfl rfl rfl (Nat.le_of_ble_eq_true rfl) ⟨Nat.le_of_ble_eq_true rfl, Nat.le_of_ble_eq_true rfl⟩ (cn_M_in e_p1) ?_
  refine Sm_eq (st1 := .int p1.1 :: []) (nc1 := 0) (ns1 := 0) rfl rfl rfl ?_
  obtain ⟨b2, e_b2, h⟩ := Option.bind_eq_some_iff.mp h
  cases h
  exact Sm_retz K e_b2 hQ (eok_i (eo ek_M_isHanger (i := 4) rfl) rfl)
def F_M_isHanger (x0 : Int32) (w : A_W) : Option (Int32 × A_W) := F_M_isHanger_0 x0 w
theorem cn_M_isHanger {G : Gx} {x0 : Int32} {w : A_W} {res : Int32 × A_W} (h : F_M_isHanger x0 w = some res) : Cn G y_M_isHanger c_M_isHanger 1 (some .boolean) rm_M_isHanger [.int x0] w (some (.int res.1)) res.2 :=
  Cn_of (own := 4) cy_M_isHanger rfl rfl (Nat.le_of_ble_eq_true rfl) rfl (fun X K _ hQ => Sm_le (leR_s leR_nil) (s_M_isHanger_0 K hQ _ _ h))
/-! EveningCloakModel.isPlace(I)Z -/
abbrev c_M_isPlace : ByteArray := prog_6_method_11_code
def y_M_isPlace : MethodName := ⟨"EveningCloakModel", "isPlace", "(I)Z"⟩
def rm_M_isPlace : Room := { frames := 1, cells := 0, slots := 0, locals := 22 }
theorem cy_M_isPlace : Cy y_M_isPlace c_M_isPlace 1 (some .boolean) 1 := ⟨lgm 814 (by decide +kernel) rfl, lgm 73 (by decide +kernel) rfl, by decide +kernel, by decide +kernel⟩
theorem st_M_isPlace : Cond.static y_M_isPlace ∈ lg := lgm 813 (by decide +kernel) rfl
def e_M_isPlace : List Ent := [
  (0, .iload_n 0, 1, 1, .null, 0, 0, 0),
  (1, .iconst 0, 1, 2, .int 0, 0, 0, 0),
  (2, .iconst 5, 1, 3, .int 5, 0, 0, 0),
  (3, .invokestatic 40, 3, 6, .null, 0, 0, 0),
  (6, .ireturn, 1, 7, .null, 0, 0, 0)]
set_option maxRecDepth 100000 in
theorem ek_M_isPlace : e_M_isPlace.all (eok 4 c_M_isPlace) = true := by decide +kernel
def F_M_isPlace_0 (x0 : Int32) (w : A_W) : Option (Int32 × A_W) :=
  (F_M_in x0 0 5 w).bind fun p1 =>
  (bz p1.1).bind fun b2 =>
  some (b2, p1.2)
set_option maxHeartbeats 4000000 in
set_option maxRecDepth 100000 in
theorem s_M_isPlace_0 {G : Gx} {X : Cx} {res : Int32 × A_W} (K : Ok G X 4 c_M_isPlace 1 (some .boolean) rm_M_isPlace) (hQ : QQ G X (some (.int res.1)) res.2 0 0) (x0 : Int32) (w : A_W) (h : F_M_isPlace_0 x0 w = some res) : Sm G X w 0 0 [some (.int x0)] [] 0 := by
  unfold F_M_isPlace_0 at h
  refine Sm_run K ek_M_isPlace 0 3 rfl ?_
  obtain ⟨p1, e_p1, h⟩ := Option.bind_eq_some_iff.mp h
  refine Sm_callS K (eok_i (eo ek_M_isPlace (i := 3) rfl) rfl) cy_M_in st_M_in (lgm 815 (by decide +kernel) rfl) ⟨Nat.le_of_ble_eq_true rfl, Nat.le_of_ble_eq_true rfl⟩ (as := [.int x0, .int 0, .int 5]) (st := []) rfl rfl rfl (Nat.le_of_ble_eq_true rfl) ⟨Nat.le_of_ble_eq_true rfl, Nat.le_of_ble_eq_true rfl⟩ (cn_M_in e_p1) ?_
  refine Sm_eq (st1 := .int p1.1 :: []) (nc1 := 0) (ns1 := 0) rfl rfl rfl ?_
  obtain ⟨b2, e_b2, h⟩ := Option.bind_eq_some_iff.mp h
  cases h
  exact Sm_retz K e_b2 hQ (eok_i (eo ek_M_isPlace (i := 4) rfl) rfl)
def F_M_isPlace (x0 : Int32) (w : A_W) : Option (Int32 × A_W) := F_M_isPlace_0 x0 w
theorem cn_M_isPlace {G : Gx} {x0 : Int32} {w : A_W} {res : Int32 × A_W} (h : F_M_isPlace x0 w = some res) : Cn G y_M_isPlace c_M_isPlace 1 (some .boolean) rm_M_isPlace [.int x0] w (some (.int res.1)) res.2 :=
  Cn_of (own := 4) cy_M_isPlace rfl rfl (Nat.le_of_ble_eq_true rfl) rfl (fun X K _ hQ => Sm_le (leR_s leR_nil) (s_M_isPlace_0 K hQ _ _ h))
/-! EveningCloakModel.it(II)I -/
abbrev c_M_it : ByteArray := prog_6_method_12_code
def y_M_it : MethodName := ⟨"EveningCloakModel", "it", "(II)I"⟩
def rm_M_it : Room := { frames := 0, cells := 0, slots := 0, locals := 0 }
theorem cy_M_it : Cy y_M_it c_M_it 3 (some .int) 2 := ⟨lgm 874 (by decide +kernel) rfl, lgm 73 (by decide +kernel) rfl, by decide +kernel, by decide +kernel⟩
theorem im_M_it : Cond.instanceMethod y_M_it ∈ lg := lgm 873 (by decide +kernel) rfl
theorem se_M_it : Cond.selects y_M_it.cls y_M_it y_M_it ∈ lg := lgm 26 (by decide +kernel) rfl
def e_M_it : List Ent := [
  (0, .aload_n 0, 1, 1, .null, 0, 0, 0),
  (1, .getfield 9, 3, 4, .null, 4, 0, 762),
  (4, .bipush 11, 2, 6, .int 11, 0, 0, 0),
  (6, .bipush 6, 2, 8, .int 6, 0, 0, 0),
  (8, .iload_n 1, 1, 9, .null, 0, 0, 0),
  (9, .imul, 1, 10, .null, 0, 0, 0),
  (10, .iadd, 1, 11, .null, 0, 0, 0),
  (11, .iload_n 2, 1, 12, .null, 0, 0, 0),
  (12, .iadd, 1, 13, .null, 0, 0, 0),
  (13, .iaload, 1, 14, .null, 0, 0, 0),
  (14, .ireturn, 1, 15, .null, 0, 0, 0)]
set_option maxRecDepth 100000 in
theorem ek_M_it : e_M_it.all (eok 4 c_M_it) = true := by decide +kernel
def F_M_it_0 (t : Nat) (x1 : Int32) (x2 : Int32) (w : A_W) : Option (Int32 × A_W) :=
  (gr w t 4 0).bind fun a1 =>
  (rd w a1 ((11 + (6 * x1)) + x2)).bind fun v2 =>
  some (v2, w)
set_option maxHeartbeats 4000000 in
set_option maxRecDepth 100000 in
theorem s_M_it_0 {G : Gx} {X : Cx} {res : Int32 × A_W} (K : Ok G X 4 c_M_it 3 (some .int) rm_M_it) (hQ : QQ G X (some (.int res.1)) res.2 0 0) (t : Nat) (x1 : Int32) (x2 : Int32) (w : A_W) (h : F_M_it_0 t x1 x2 w = some res) : Sm G X w 0 0 [some (.ref t), some (.int x1), some (.int x2)] [] 0 := by
  unfold F_M_it_0 at h
  refine Sm_run K ek_M_it 0 1 rfl ?_
  obtain ⟨a1, e_a1, h⟩ := Option.bind_eq_some_iff.mp h
  refine Sm_gr K (eo ek_M_it (i := 1) rfl) e_a1 ?_
  refine Sm_run K ek_M_it 2 7 rfl ?_
  obtain ⟨v2, e_v2, h⟩ := Option.bind_eq_some_iff.mp h
  refine Sm_rd K (eok_i (eo ek_M_it (i := 9) rfl) rfl) e_v2 ?_
  cases h
  exact Sm_reti K hQ (eok_i (eo ek_M_it (i := 10) rfl) rfl)
def F_M_it (t : Nat) (x1 : Int32) (x2 : Int32) (w : A_W) : Option (Int32 × A_W) := F_M_it_0 t x1 x2 w
theorem cn_M_it {G : Gx} {t : Nat} {x1 : Int32} {x2 : Int32} {w : A_W} {res : Int32 × A_W} (h : F_M_it t x1 x2 w = some res) : Cn G y_M_it c_M_it 3 (some .int) rm_M_it [.ref t, .int x1, .int x2] w (some (.int res.1)) res.2 :=
  Cn_of (own := 4) cy_M_it rfl rfl (Nat.le_of_ble_eq_true rfl) rfl (fun X K _ hQ => Sm_le (leR_s (leR_s (leR_s leR_nil))) (s_M_it_0 K hQ _ _ _ _ h))
/-! EveningCloakModel.put(III)V -/
abbrev c_M_put : ByteArray := prog_6_method_13_code
def y_M_put : MethodName := ⟨"EveningCloakModel", "put", "(III)V"⟩
def rm_M_put : Room := { frames := 0, cells := 0, slots := 0, locals := 0 }
theorem cy_M_put : Cy y_M_put c_M_put 4 (none) 3 := ⟨lgm 846 (by decide +kernel) rfl, lgm 73 (by decide +kernel) rfl, by decide +kernel, by decide +kernel⟩
theorem im_M_put : Cond.instanceMethod y_M_put ∈ lg := lgm 845 (by decide +kernel) rfl
theorem se_M_put : Cond.selects y_M_put.cls y_M_put y_M_put ∈ lg := lgm 21 (by decide +kernel) rfl
def e_M_put : List Ent := [
  (0, .aload_n 0, 1, 1, .null, 0, 0, 0),
  (1, .getfield 9, 3, 4, .null, 4, 0, 762),
  (4, .bipush 11, 2, 6, .int 11, 0, 0, 0),
  (6, .bipush 6, 2, 8, .int 6, 0, 0, 0),
  (8, .iload_n 1, 1, 9, .null, 0, 0, 0),
  (9, .imul, 1, 10, .null, 0, 0, 0),
  (10, .iadd, 1, 11, .null, 0, 0, 0),
  (11, .iload_n 2, 1, 12, .null, 0, 0, 0),
  (12, .iadd, 1, 13, .null, 0, 0, 0),
  (13, .iload_n 3, 1, 14, .null, 0, 0, 0),
  (14, .iastore, 1, 15, .null, 0, 0, 0),
  (15, .return_, 1, 16, .null, 0, 0, 0)]
set_option maxRecDepth 100000 in
theorem ek_M_put : e_M_put.all (eok 4 c_M_put) = true := by decide +kernel
def F_M_put_0 (t : Nat) (x1 : Int32) (x2 : Int32) (x3 : Int32) (w : A_W) : Option (A_W) :=
  (gr w t 4 0).bind fun a1 =>
  (wr w a1 ((11 + (6 * x1)) + x2) x3).bind fun w2 =>
  some w2
set_option maxHeartbeats 4000000 in
set_option maxRecDepth 100000 in
theorem s_M_put_0 {G : Gx} {X : Cx} {res : A_W} (K : Ok G X 4 c_M_put 4 (none) rm_M_put) (hQ : QQ G X none res 0 0) (t : Nat) (x1 : Int32) (x2 : Int32) (x3 : Int32) (w : A_W) (h : F_M_put_0 t x1 x2 x3 w = some res) : Sm G X w 0 0 [some (.ref t), some (.int x1), some (.int x2), some (.int x3)] [] 0 := by
  unfold F_M_put_0 at h
  refine Sm_run K ek_M_put 0 1 rfl ?_
  obtain ⟨a1, e_a1, h⟩ := Option.bind_eq_some_iff.mp h
  refine Sm_gr K (eo ek_M_put (i := 1) rfl) e_a1 ?_
  refine Sm_run K ek_M_put 2 8 rfl ?_
  obtain ⟨w2, e_w2, h⟩ := Option.bind_eq_some_iff.mp h
  refine Sm_wr K (eok_i (eo ek_M_put (i := 10) rfl) rfl) e_w2 ?_
  cases h
  exact Sm_retv K hQ (eok_i (eo ek_M_put (i := 11) rfl) rfl)
def F_M_put (t : Nat) (x1 : Int32) (x2 : Int32) (x3 : Int32) (w : A_W) : Option (A_W) := F_M_put_0 t x1 x2 x3 w
theorem cn_M_put {G : Gx} {t : Nat} {x1 : Int32} {x2 : Int32} {x3 : Int32} {w : A_W} {res : A_W} (h : F_M_put t x1 x2 x3 w = some res) : Cn G y_M_put c_M_put 4 (none) rm_M_put [.ref t, .int x1, .int x2, .int x3] w none res :=
  Cn_of (own := 4) cy_M_put rfl rfl (Nat.le_of_ble_eq_true rfl) rfl (fun X K _ hQ => Sm_le (leR_s (leR_s (leR_s (leR_s leR_nil)))) (s_M_put_0 K hQ _ _ _ _ _ h))
/-! EveningCloakModel.her(II)I -/
abbrev c_M_her : ByteArray := prog_6_method_14_code
def y_M_her : MethodName := ⟨"EveningCloakModel", "her", "(II)I"⟩
def rm_M_her : Room := { frames := 0, cells := 0, slots := 0, locals := 0 }
theorem cy_M_her : Cy y_M_her c_M_her 3 (some .int) 2 := ⟨lgm 916 (by decide +kernel) rfl, lgm 73 (by decide +kernel) rfl, by decide +kernel, by decide +kernel⟩
theorem im_M_her : Cond.instanceMethod y_M_her ∈ lg := lgm 915 (by decide +kernel) rfl
theorem se_M_her : Cond.selects y_M_her.cls y_M_her y_M_her ∈ lg := lgm 33 (by decide +kernel) rfl
def e_M_her : List Ent := [
  (0, .aload_n 0, 1, 1, .null, 0, 0, 0),
  (1, .getfield 9, 3, 4, .null, 4, 0, 762),
  (4, .bipush 59, 2, 6, .int 59, 0, 0, 0),
  (6, .iconst 3, 1, 7, .int 3, 0, 0, 0),
  (7, .iload_n 1, 1, 8, .null, 0, 0, 0),
  (8, .imul, 1, 9, .null, 0, 0, 0),
  (9, .iadd, 1, 10, .null, 0, 0, 0),
  (10, .iload_n 2, 1, 11, .null, 0, 0, 0),
  (11, .iadd, 1, 12, .null, 0, 0, 0),
  (12, .iaload, 1, 13, .null, 0, 0, 0),
  (13, .ireturn, 1, 14, .null, 0, 0, 0)]
set_option maxRecDepth 100000 in
theorem ek_M_her : e_M_her.all (eok 4 c_M_her) = true := by decide +kernel
def F_M_her_0 (t : Nat) (x1 : Int32) (x2 : Int32) (w : A_W) : Option (Int32 × A_W) :=
  (gr w t 4 0).bind fun a1 =>
  (rd w a1 ((59 + (3 * x1)) + x2)).bind fun v2 =>
  some (v2, w)
set_option maxHeartbeats 4000000 in
set_option maxRecDepth 100000 in
theorem s_M_her_0 {G : Gx} {X : Cx} {res : Int32 × A_W} (K : Ok G X 4 c_M_her 3 (some .int) rm_M_her) (hQ : QQ G X (some (.int res.1)) res.2 0 0) (t : Nat) (x1 : Int32) (x2 : Int32) (w : A_W) (h : F_M_her_0 t x1 x2 w = some res) : Sm G X w 0 0 [some (.ref t), some (.int x1), some (.int x2)] [] 0 := by
  unfold F_M_her_0 at h
  refine Sm_run K ek_M_her 0 1 rfl ?_
  obtain ⟨a1, e_a1, h⟩ := Option.bind_eq_some_iff.mp h
  refine Sm_gr K (eo ek_M_her (i := 1) rfl) e_a1 ?_
  refine Sm_run K ek_M_her 2 7 rfl ?_
  obtain ⟨v2, e_v2, h⟩ := Option.bind_eq_some_iff.mp h
  refine Sm_rd K (eok_i (eo ek_M_her (i := 9) rfl) rfl) e_v2 ?_
  cases h
  exact Sm_reti K hQ (eok_i (eo ek_M_her (i := 10) rfl) rfl)
def F_M_her (t : Nat) (x1 : Int32) (x2 : Int32) (w : A_W) : Option (Int32 × A_W) := F_M_her_0 t x1 x2 w
theorem cn_M_her {G : Gx} {t : Nat} {x1 : Int32} {x2 : Int32} {w : A_W} {res : Int32 × A_W} (h : F_M_her t x1 x2 w = some res) : Cn G y_M_her c_M_her 3 (some .int) rm_M_her [.ref t, .int x1, .int x2] w (some (.int res.1)) res.2 :=
  Cn_of (own := 4) cy_M_her rfl rfl (Nat.le_of_ble_eq_true rfl) rfl (fun X K _ hQ => Sm_le (leR_s (leR_s (leR_s leR_nil))) (s_M_her_0 K hQ _ _ _ _ h))
/-! EveningCloakModel.lets(III)V -/
abbrev c_M_lets : ByteArray := prog_6_method_15_code
def y_M_lets : MethodName := ⟨"EveningCloakModel", "lets", "(III)V"⟩
def rm_M_lets : Room := { frames := 0, cells := 0, slots := 0, locals := 0 }
theorem cy_M_lets : Cy y_M_lets c_M_lets 4 (none) 3 := ⟨lgm 858 (by decide +kernel) rfl, lgm 73 (by decide +kernel) rfl, by decide +kernel, by decide +kernel⟩
theorem im_M_lets : Cond.instanceMethod y_M_lets ∈ lg := lgm 857 (by decide +kernel) rfl
theorem se_M_lets : Cond.selects y_M_lets.cls y_M_lets y_M_lets ∈ lg := lgm 23 (by decide +kernel) rfl
def e_M_lets : List Ent := [
  (0, .aload_n 0, 1, 1, .null, 0, 0, 0),
  (1, .getfield 9, 3, 4, .null, 4, 0, 762),
  (4, .bipush 59, 2, 6, .int 59, 0, 0, 0),
  (6, .iconst 3, 1, 7, .int 3, 0, 0, 0),
  (7, .iload_n 1, 1, 8, .null, 0, 0, 0),
  (8, .imul, 1, 9, .null, 0, 0, 0),
  (9, .iadd, 1, 10, .null, 0, 0, 0),
  (10, .iload_n 2, 1, 11, .null, 0, 0, 0),
  (11, .iadd, 1, 12, .null, 0, 0, 0),
  (12, .iload_n 3, 1, 13, .null, 0, 0, 0),
  (13, .iastore, 1, 14, .null, 0, 0, 0),
  (14, .return_, 1, 15, .null, 0, 0, 0)]
set_option maxRecDepth 100000 in
theorem ek_M_lets : e_M_lets.all (eok 4 c_M_lets) = true := by decide +kernel
def F_M_lets_0 (t : Nat) (x1 : Int32) (x2 : Int32) (x3 : Int32) (w : A_W) : Option (A_W) :=
  (gr w t 4 0).bind fun a1 =>
  (wr w a1 ((59 + (3 * x1)) + x2) x3).bind fun w2 =>
  some w2
set_option maxHeartbeats 4000000 in
set_option maxRecDepth 100000 in
theorem s_M_lets_0 {G : Gx} {X : Cx} {res : A_W} (K : Ok G X 4 c_M_lets 4 (none) rm_M_lets) (hQ : QQ G X none res 0 0) (t : Nat) (x1 : Int32) (x2 : Int32) (x3 : Int32) (w : A_W) (h : F_M_lets_0 t x1 x2 x3 w = some res) : Sm G X w 0 0 [some (.ref t), some (.int x1), some (.int x2), some (.int x3)] [] 0 := by
  unfold F_M_lets_0 at h
  refine Sm_run K ek_M_lets 0 1 rfl ?_
  obtain ⟨a1, e_a1, h⟩ := Option.bind_eq_some_iff.mp h
  refine Sm_gr K (eo ek_M_lets (i := 1) rfl) e_a1 ?_
  refine Sm_run K ek_M_lets 2 8 rfl ?_
  obtain ⟨w2, e_w2, h⟩ := Option.bind_eq_some_iff.mp h
  refine Sm_wr K (eok_i (eo ek_M_lets (i := 10) rfl) rfl) e_w2 ?_
  cases h
  exact Sm_retv K hQ (eok_i (eo ek_M_lets (i := 11) rfl) rfl)
def F_M_lets (t : Nat) (x1 : Int32) (x2 : Int32) (x3 : Int32) (w : A_W) : Option (A_W) := F_M_lets_0 t x1 x2 x3 w
theorem cn_M_lets {G : Gx} {t : Nat} {x1 : Int32} {x2 : Int32} {x3 : Int32} {w : A_W} {res : A_W} (h : F_M_lets t x1 x2 x3 w = some res) : Cn G y_M_lets c_M_lets 4 (none) rm_M_lets [.ref t, .int x1, .int x2, .int x3] w none res :=
  Cn_of (own := 4) cy_M_lets rfl rfl (Nat.le_of_ble_eq_true rfl) rfl (fun X K _ hQ => Sm_le (leR_s (leR_s (leR_s (leR_s leR_nil)))) (s_M_lets_0 K hQ _ _ _ _ _ h))
/-! EveningCloakModel.bits(I)I -/
abbrev c_M_bits : ByteArray := prog_6_method_16_code
def y_M_bits : MethodName := ⟨"EveningCloakModel", "bits", "(I)I"⟩
def rm_M_bits : Room := { frames := 0, cells := 0, slots := 0, locals := 0 }
theorem cy_M_bits : Cy y_M_bits c_M_bits 3 (some .int) 1 := ⟨lgm 1045 (by decide +kernel) rfl, lgm 73 (by decide +kernel) rfl, by decide +kernel, by decide +kernel⟩
theorem st_M_bits : Cond.static y_M_bits ∈ lg := lgm 1044 (by decide +kernel) rfl
def e_M_bits : List Ent := [
  (0, .iconst 0, 1, 1, .int 0, 0, 0, 0),
  (1, .istore_n 1, 1, 2, .null, 0, 0, 0),
  (2, .iload_n 0, 1, 3, .null, 0, 0, 0),
  (3, .istore_n 2, 1, 4, .null, 0, 0, 0),
  (4, .iload_n 2, 1, 5, .null, 0, 0, 0),
  (5, .ifCond .eq 15, 3, 20, .null, 0, 0, 0),
  (8, .iinc 1 1, 3, 11, .int 1, 0, 0, 0),
  (11, .iload_n 2, 1, 12, .null, 0, 0, 0),
  (12, .iload_n 2, 1, 13, .null, 0, 0, 0),
  (13, .iconst 1, 1, 14, .int 1, 0, 0, 0),
  (14, .isub, 1, 15, .null, 0, 0, 0),
  (15, .iand, 1, 16, .null, 0, 0, 0),
  (16, .istore_n 2, 1, 17, .null, 0, 0, 0),
  (17, .goto (-13), 3, 4, .null, 0, 0, 0),
  (20, .iload_n 1, 1, 21, .null, 0, 0, 0),
  (21, .ireturn, 1, 22, .null, 0, 0, 0)]
set_option maxRecDepth 100000 in
theorem ek_M_bits : e_M_bits.all (eok 4 c_M_bits) = true := by decide +kernel
def F_M_bits_4 : Nat → Int32 → Int32 → A_W → Option (Int32 × A_W)
  | 0, _, _, _ => none
  | n + 1, x1, x2, w =>
    if x2 = 0 then
      some (x1, w)
    else
      F_M_bits_4 n (x1 + 1) (x2 &&& (x2 - 1)) w
def F_M_bits_0 (x0 : Int32) (w : A_W) : Option (Int32 × A_W) :=
  F_M_bits_4 FU 0 x0 w
set_option maxHeartbeats 4000000 in
set_option maxRecDepth 100000 in
theorem s_M_bits_4 {G : Gx} {X : Cx} {res : Int32 × A_W} (K : Ok G X 4 c_M_bits 3 (some .int) rm_M_bits) (hQ : QQ G X (some (.int res.1)) res.2 0 0) : ∀ (n : Nat) (x1 : Int32) (x2 : Int32) (w : A_W), F_M_bits_4 n x1 x2 w = some res → Sm G X w 0 0 [none, some (.int x1), some (.int x2)] [] 4 := by
  intro n
  induction n with
  | zero => intro x1 x2 w h; cases h
  | succ n ih =>
    intro x1 x2 w h
    rw [F_M_bits_4] at h
    refine Sm_run K ek_M_bits 4 1 rfl ?_
    refine Sm_if_eq K (eo ek_M_bits (i := 5) rfl) (fun c1 => ?_) (fun c1 => ?_)
    · rw [if_pos c1] at h
      refine Sm_run K ek_M_bits 14 1 rfl ?_
      cases h
      exact Sm_reti K hQ (eok_i (eo ek_M_bits (i := 15) rfl) rfl)
    · rw [if_neg c1] at h
      refine Sm_run K ek_M_bits 6 8 rfl ?_
      exact Sm_le (leR_n (leR_s (leR_s leR_nil))) (ih _ _ _ h)
set_option maxHeartbeats 4000000 in
set_option maxRecDepth 100000 in
theorem s_M_bits_0 {G : Gx} {X : Cx} {res : Int32 × A_W} (K : Ok G X 4 c_M_bits 3 (some .int) rm_M_bits) (hQ : QQ G X (some (.int res.1)) res.2 0 0) (x0 : Int32) (w : A_W) (h : F_M_bits_0 x0 w = some res) : Sm G X w 0 0 [some (.int x0), none, none] [] 0 := by
  unfold F_M_bits_0 at h
  refine Sm_run K ek_M_bits 0 4 rfl ?_
  exact Sm_le (leR_n (leR_s (leR_s leR_nil))) (s_M_bits_4 K hQ FU _ _ _ h)
def F_M_bits (x0 : Int32) (w : A_W) : Option (Int32 × A_W) := F_M_bits_0 x0 w
theorem cn_M_bits {G : Gx} {x0 : Int32} {w : A_W} {res : Int32 × A_W} (h : F_M_bits x0 w = some res) : Cn G y_M_bits c_M_bits 3 (some .int) rm_M_bits [.int x0] w (some (.int res.1)) res.2 :=
  Cn_of (own := 4) cy_M_bits rfl rfl (Nat.le_of_ble_eq_true rfl) rfl (fun X K _ hQ => Sm_le (leR_s (leR_n (leR_n leR_nil))) (s_M_bits_0 K hQ _ _ h))
/-! EveningCloakModel.isHere(I)Z -/
abbrev c_M_isHere : ByteArray := prog_6_method_17_code
def y_M_isHere : MethodName := ⟨"EveningCloakModel", "isHere", "(I)Z"⟩
def rm_M_isHere : Room := { frames := 1, cells := 0, slots := 0, locals := 22 }
theorem cy_M_isHere : Cy y_M_isHere c_M_isHere 2 (some .boolean) 1 := ⟨lgm 893 (by decide +kernel) rfl, lgm 73 (by decide +kernel) rfl, by decide +kernel, by decide +kernel⟩
theorem im_M_isHere : Cond.instanceMethod y_M_isHere ∈ lg := lgm 892 (by decide +kernel) rfl
theorem se_M_isHere : Cond.selects y_M_isHere.cls y_M_isHere y_M_isHere ∈ lg := lgm 30 (by decide +kernel) rfl
def e_M_isHere : List Ent := [
  (0, .aload_n 0, 1, 1, .null, 0, 0, 0),
  (1, .iload_n 1, 1, 2, .null, 0, 0, 0),
  (2, .iconst 5, 1, 3, .int 5, 0, 0, 0),
  (3, .invokevirtual 44, 3, 6, .null, 0, 0, 0),
  (6, .ifCond .ne 7, 3, 13, .null, 0, 0, 0),
  (9, .iconst 1, 1, 10, .int 1, 0, 0, 0),
  (10, .goto 4, 3, 14, .null, 0, 0, 0),
  (13, .iconst 0, 1, 14, .int 0, 0, 0, 0),
  (14, .ireturn, 1, 15, .null, 0, 0, 0)]
set_option maxRecDepth 100000 in
theorem ek_M_isHere : e_M_isHere.all (eok 4 c_M_isHere) = true := by decide +kernel
def F_M_isHere_14 (y0 : Int32) (w : A_W) : Option (Int32 × A_W) :=
  (bz y0).bind fun b1 =>
  some (b1, w)
def F_M_isHere_0 (t : Nat) (x1 : Int32) (w : A_W) : Option (Int32 × A_W) :=
  (ob w t 4).bind fun o2 =>
  (F_M_it t x1 5 w).bind fun p1 =>
  if p1.1 = 0 then
    F_M_isHere_14 1 p1.2
  else
    F_M_isHere_14 0 p1.2
set_option maxHeartbeats 4000000 in
set_option maxRecDepth 100000 in
theorem s_M_isHere_14 {G : Gx} {X : Cx} {res : Int32 × A_W} (K : Ok G X 4 c_M_isHere 2 (some .boolean) rm_M_isHere) (hQ : QQ G X (some (.int res.1)) res.2 0 0) (y0 : Int32) (w : A_W) (h : F_M_isHere_14 y0 w = some res) : Sm G X w 0 0 [none, none] [.int y0] 14 := by
  unfold F_M_isHere_14 at h
  obtain ⟨b1, e_b1, h⟩ := Option.bind_eq_some_iff.mp h
  cases h
  exact Sm_retz K e_b1 hQ (eok_i (eo ek_M_isHere (i := 8) rfl) rfl)
set_option maxHeartbeats 4000000 in
set_option maxRecDepth 100000 in
theorem s_M_isHere_0 {G : Gx} {X : Cx} {res : Int32 × A_W} (K : Ok G X 4 c_M_isHere 2 (some .boolean) rm_M_isHere) (hQ : QQ G X (some (.int res.1)) res.2 0 0) (t : Nat) (x1 : Int32) (w : A_W) (h : F_M_isHere_0 t x1 w = some res) : Sm G X w 0 0 [some (.ref t), some (.int x1)] [] 0 := by
  unfold F_M_isHere_0 at h
  refine Sm_run K ek_M_isHere 0 3 rfl ?_
  obtain ⟨o2, e_o2, h⟩ := Option.bind_eq_some_iff.mp h
  obtain ⟨p1, e_p1, h⟩ := Option.bind_eq_some_iff.mp h
  refine Sm_callV K (eok_i (eo ek_M_isHere (i := 3) rfl) rfl) cy_M_it im_M_it se_M_it (lgm 871 (by decide +kernel) rfl) ⟨Nat.le_of_ble_eq_true rfl, Nat.le_of_ble_eq_true rfl⟩ (as := [.int x1, .int 5]) (b := t) (st := []) (ob_e e_o2) (by decide) rfl rfl rfl rfl (Nat.le_of_ble_eq_true rfl) ⟨Nat.le_of_ble_eq_true rfl, Nat.le_of_ble_eq_true rfl⟩ (cn_M_it e_p1) ?_
  refine Sm_eq (st1 := .int p1.1 :: []) (nc1 := 0) (ns1 := 0) rfl rfl rfl ?_
  refine Sm_if_ne K (eo ek_M_isHere (i := 4) rfl) (fun c3 => ?_) (fun c3 => ?_)
  · rw [if_neg c3] at h
    refine Sm_run K ek_M_isHere 7 1 rfl ?_
    exact Sm_le (leR_n (leR_n leR_nil)) (s_M_isHere_14 K hQ _ _ h)
  · rw [if_pos c3] at h
    refine Sm_run K ek_M_isHere 5 2 rfl ?_
    exact Sm_le (leR_n (leR_n leR_nil)) (s_M_isHere_14 K hQ _ _ h)
def F_M_isHere (t : Nat) (x1 : Int32) (w : A_W) : Option (Int32 × A_W) := F_M_isHere_0 t x1 w
theorem cn_M_isHere {G : Gx} {t : Nat} {x1 : Int32} {w : A_W} {res : Int32 × A_W} (h : F_M_isHere t x1 w = some res) : Cn G y_M_isHere c_M_isHere 2 (some .boolean) rm_M_isHere [.ref t, .int x1] w (some (.int res.1)) res.2 :=
  Cn_of (own := 4) cy_M_isHere rfl rfl (Nat.le_of_ble_eq_true rfl) rfl (fun X K _ hQ => Sm_le (leR_s (leR_s leR_nil)) (s_M_isHere_0 K hQ _ _ _ h))
/-! EveningCloakModel.shines(I)I -/
abbrev c_M_shines : ByteArray := prog_6_method_18_code
def y_M_shines : MethodName := ⟨"EveningCloakModel", "shines", "(I)I"⟩
def rm_M_shines : Room := { frames := 1, cells := 0, slots := 0, locals := 22 }
theorem cy_M_shines : Cy y_M_shines c_M_shines 3 (some .int) 1 := ⟨lgm 870 (by decide +kernel) rfl, lgm 73 (by decide +kernel) rfl, by decide +kernel, by decide +kernel⟩
theorem im_M_shines : Cond.instanceMethod y_M_shines ∈ lg := lgm 869 (by decide +kernel) rfl
theorem se_M_shines : Cond.selects y_M_shines.cls y_M_shines y_M_shines ∈ lg := lgm 25 (by decide +kernel) rfl
def e_M_shines : List Ent := [
  (0, .bipush 20, 2, 2, .int 20, 0, 0, 0),
  (2, .aload_n 0, 1, 3, .null, 0, 0, 0),
  (3, .iload_n 1, 1, 4, .null, 0, 0, 0),
  (4, .iconst 3, 1, 5, .int 3, 0, 0, 0),
  (5, .invokevirtual 44, 3, 8, .null, 0, 0, 0),
  (8, .bipush 10, 2, 10, .int 10, 0, 0, 0),
  (10, .idiv, 1, 11, .null, 0, 0, 0),
  (11, .iadd, 1, 12, .null, 0, 0, 0),
  (12, .iconst 0, 1, 13, .int 0, 0, 0, 0),
  (13, .bipush 50, 2, 15, .int 50, 0, 0, 0),
  (15, .invokestatic 48, 3, 18, .null, 0, 0, 0),
  (18, .istore_n 2, 1, 19, .null, 0, 0, 0),
  (19, .aload_n 0, 1, 20, .null, 0, 0, 0),
  (20, .iload_n 1, 1, 21, .null, 0, 0, 0),
  (21, .iconst 0, 1, 22, .int 0, 0, 0, 0),
  (22, .invokevirtual 44, 3, 25, .null, 0, 0, 0),
  (25, .tableswitch 58 1 6 #[39, 58, 41, 45, 58, 56], 39, 64, .null, 0, 0, 0),
  (64, .iload_n 2, 1, 65, .null, 0, 0, 0),
  (65, .ireturn, 1, 66, .null, 0, 0, 0),
  (66, .iload_n 2, 1, 67, .null, 0, 0, 0),
  (67, .iconst 2, 1, 68, .int 2, 0, 0, 0),
  (68, .idiv, 1, 69, .null, 0, 0, 0),
  (69, .ireturn, 1, 70, .null, 0, 0, 0),
  (70, .iload_n 2, 1, 71, .null, 0, 0, 0),
  (71, .iconst 2, 1, 72, .int 2, 0, 0, 0),
  (72, .idiv, 1, 73, .null, 0, 0, 0),
  (73, .aload_n 0, 1, 74, .null, 0, 0, 0),
  (74, .iload_n 1, 1, 75, .null, 0, 0, 0),
  (75, .iconst 4, 1, 76, .int 4, 0, 0, 0),
  (76, .invokevirtual 44, 3, 79, .null, 0, 0, 0),
  (79, .iadd, 1, 80, .null, 0, 0, 0),
  (80, .ireturn, 1, 81, .null, 0, 0, 0),
  (81, .iconst 3, 1, 82, .int 3, 0, 0, 0),
  (82, .ireturn, 1, 83, .null, 0, 0, 0),
  (83, .iconst 0, 1, 84, .int 0, 0, 0, 0),
  (84, .ireturn, 1, 85, .null, 0, 0, 0)]
set_option maxRecDepth 100000 in
theorem ek_M_shines : e_M_shines.all (eok 4 c_M_shines) = true := by decide +kernel
def F_M_shines_83 (w : A_W) : Option (Int32 × A_W) :=
  some (0, w)
def F_M_shines_0 (t : Nat) (x1 : Int32) (w : A_W) : Option (Int32 × A_W) :=
  (ob w t 4).bind fun o2 =>
  (F_M_it t x1 3 w).bind fun p1 =>
  (F_M_held (20 + (p1.1 / 10)) 0 50 p1.2).bind fun p3 =>
  (ob p3.2 t 4).bind fun o5 =>
  (F_M_it t x1 0 p3.2).bind fun p4 =>
  if p4.1 = 1 then
    some (p3.1, p4.2)
  else if p4.1 = 2 then
    F_M_shines_83 p4.2
  else if p4.1 = 3 then
    some ((p3.1 / 2), p4.2)
  else if p4.1 = 4 then
    (ob p4.2 t 4).bind fun o7 =>
    (F_M_it t x1 4 p4.2).bind fun p6 =>
    some (((p3.1 / 2) + p6.1), p6.2)
  else if p4.1 = 5 then
    F_M_shines_83 p4.2
  else if p4.1 = 6 then
    some (3, p4.2)
  else
    F_M_shines_83 p4.2
set_option maxHeartbeats 4000000 in
set_option maxRecDepth 100000 in
theorem s_M_shines_83 {G : Gx} {X : Cx} {res : Int32 × A_W} (K : Ok G X 4 c_M_shines 3 (some .int) rm_M_shines) (hQ : QQ G X (some (.int res.1)) res.2 0 0) (w : A_W) (h : F_M_shines_83 w = some res) : Sm G X w 0 0 [none, none, none] [] 83 := by
  unfold F_M_shines_83 at h
  refine Sm_run K ek_M_shines 34 1 rfl ?_
  cases h
  exact Sm_reti K hQ (eok_i (eo ek_M_shines (i := 35) rfl) rfl)
set_option maxHeartbeats 4000000 in
set_option maxRecDepth 100000 in
theorem s_M_shines_0 {G : Gx} {X : Cx} {res : Int32 × A_W} (K : Ok G X 4 c_M_shines 3 (some .int) rm_M_shines) (hQ : QQ G X (some (.int res.1)) res.2 0 0) (t : Nat) (x1 : Int32) (w : A_W) (h : F_M_shines_0 t x1 w = some res) : Sm G X w 0 0 [some (.ref t), some (.int x1), none] [] 0 := by
  unfold F_M_shines_0 at h
  refine Sm_run K ek_M_shines 0 4 rfl ?_
  obtain ⟨o2, e_o2, h⟩ := Option.bind_eq_some_iff.mp h
  obtain ⟨p1, e_p1, h⟩ := Option.bind_eq_some_iff.mp h
  refine Sm_callV K (eok_i (eo ek_M_shines (i := 4) rfl) rfl) cy_M_it im_M_it se_M_it (lgm 871 (by decide +kernel) rfl) ⟨Nat.le_of_ble_eq_true rfl, Nat.le_of_ble_eq_true rfl⟩ (as := [.int x1, .int 3]) (b := t) (st := [.int 20]) (ob_e e_o2) (by decide) rfl rfl rfl rfl (Nat.le_of_ble_eq_true rfl) ⟨Nat.le_of_ble_eq_true rfl, Nat.le_of_ble_eq_true rfl⟩ (cn_M_it e_p1) ?_
  refine Sm_eq (st1 := .int p1.1 :: [.int 20]) (nc1 := 0) (ns1 := 0) rfl rfl rfl ?_
  refine Sm_run K ek_M_shines 5 1 rfl ?_
  refine Sm_idiv K (eok_i (eo ek_M_shines (i := 6) rfl) rfl) (by decide) ?_
  refine Sm_run K ek_M_shines 7 3 rfl ?_
  obtain ⟨p3, e_p3, h⟩ := Option.bind_eq_some_iff.mp h
  refine Sm_callS K (eok_i (eo ek_M_shines (i := 10) rfl) rfl) cy_M_held st_M_held (lgm 875 (by decide +kernel) rfl) ⟨Nat.le_of_ble_eq_true rfl, Nat.le_of_ble_eq_true rfl⟩ (as := [.int (20 + (p1.1 / 10)), .int 0, .int 50]) (st := []) rfl rfl rfl (Nat.le_of_ble_eq_true rfl) ⟨Nat.le_of_ble_eq_true rfl, Nat.le_of_ble_eq_true rfl⟩ (cn_M_held e_p3) ?_
  refine Sm_eq (st1 := .int p3.1 :: []) (nc1 := 0) (ns1 := 0) rfl rfl rfl ?_
  refine Sm_run K ek_M_shines 11 4 rfl ?_
  obtain ⟨o5, e_o5, h⟩ := Option.bind_eq_some_iff.mp h
  obtain ⟨p4, e_p4, h⟩ := Option.bind_eq_some_iff.mp h
  refine Sm_callV K (eok_i (eo ek_M_shines (i := 15) rfl) rfl) cy_M_it im_M_it se_M_it (lgm 871 (by decide +kernel) rfl) ⟨Nat.le_of_ble_eq_true rfl, Nat.le_of_ble_eq_true rfl⟩ (as := [.int x1, .int 0]) (b := t) (st := []) (ob_e e_o5) (by decide) rfl rfl rfl rfl (Nat.le_of_ble_eq_true rfl) ⟨Nat.le_of_ble_eq_true rfl, Nat.le_of_ble_eq_true rfl⟩ (cn_M_it e_p4) ?_
  refine Sm_eq (st1 := .int p4.1 :: []) (nc1 := 0) (ns1 := 0) rfl rfl rfl ?_
  refine Sm_tsw K (eok_d (eo ek_M_shines (i := 16) rfl)) [64, 83, 66, 70, 83, 81] 83 (by decide) (by decide) (by decide) (fun j hj hx => ?_) (fun hx => ?_)
  · have hj : j < 6 := hj
    rcases (show j = 0 ∨ j = 1 ∨ j = 2 ∨ j = 3 ∨ j = 4 ∨ j = 5 by omega) with rfl | rfl | rfl | rfl | rfl | rfl
    · have hc : p4.1 = 1 := Int32.toInt_inj.mp (hx.trans (by decide))
      rw [if_pos hc] at h
      refine Sm_pc (pc1 := 64) rfl ?_
      refine Sm_run K ek_M_shines 17 1 rfl ?_
      cases h
      exact Sm_reti K hQ (eok_i (eo ek_M_shines (i := 18) rfl) rfl)
    · have hc : p4.1 = 2 := Int32.toInt_inj.mp (hx.trans (by decide))
      rw [if_neg (by rw [hc]; decide), if_pos hc] at h
      refine Sm_pc (pc1 := 83) rfl ?_
      exact Sm_le (leR_n (leR_n (leR_n leR_nil))) (s_M_shines_83 K hQ _ h)
    · have hc : p4.1 = 3 := Int32.toInt_inj.mp (hx.trans (by decide))
      rw [if_neg (by rw [hc]; decide), if_neg (by rw [hc]; decide), if_pos hc] at h
      refine Sm_pc (pc1 := 66) rfl ?_
      refine Sm_run K ek_M_shines 19 2 rfl ?_
      refine Sm_idiv K (eok_i (eo ek_M_shines (i := 21) rfl) rfl) (by decide) ?_
      cases h
      exact Sm_reti K hQ (eok_i (eo ek_M_shines (i := 22) rfl) rfl)
    · have hc : p4.1 = 4 := Int32.toInt_inj.mp (hx.trans (by decide))
      rw [if_neg (by rw [hc]; decide), if_neg (by rw [hc]; decide), if_neg (by rw [hc]; decide), if_pos hc] at h
      refine Sm_pc (pc1 := 70) rfl ?_
      refine Sm_run K ek_M_shines 23 2 rfl ?_
      refine Sm_idiv K (eok_i (eo ek_M_shines (i := 25) rfl) rfl) (by decide) ?_
      refine Sm_run K ek_M_shines 26 3 rfl ?_
      obtain ⟨o7, e_o7, h⟩ := Option.bind_eq_some_iff.mp h
      obtain ⟨p6, e_p6, h⟩ := Option.bind_eq_some_iff.mp h
      refine Sm_callV K (eok_i (eo ek_M_shines (i := 29) rfl) rfl) cy_M_it im_M_it se_M_it (lgm 871 (by decide +kernel) rfl) ⟨Nat.le_of_ble_eq_true rfl, Nat.le_of_ble_eq_true rfl⟩ (as := [.int x1, .int 4]) (b := t) (st := [.int (p3.1 / 2)]) (ob_e e_o7) (by decide) rfl rfl rfl rfl (Nat.le_of_ble_eq_true rfl) ⟨Nat.le_of_ble_eq_true rfl, Nat.le_of_ble_eq_true rfl⟩ (cn_M_it e_p6) ?_
      refine Sm_eq (st1 := .int p6.1 :: [.int (p3.1 / 2)]) (nc1 := 0) (ns1 := 0) rfl rfl rfl ?_
      refine Sm_run K ek_M_shines 30 1 rfl ?_
      cases h
      exact Sm_reti K hQ (eok_i (eo ek_M_shines (i := 31) rfl) rfl)
    · have hc : p4.1 = 5 := Int32.toInt_inj.mp (hx.trans (by decide))
      rw [if_neg (by rw [hc]; decide), if_neg (by rw [hc]; decide), if_neg (by rw [hc]; decide), if_neg (by rw [hc]; decide), if_pos hc] at h
      refine Sm_pc (pc1 := 83) rfl ?_
      exact Sm_le (leR_n (leR_n (leR_n leR_nil))) (s_M_shines_83 K hQ _ h)
    · have hc : p4.1 = 6 := Int32.toInt_inj.mp (hx.trans (by decide))
      rw [if_neg (by rw [hc]; decide), if_neg (by rw [hc]; decide), if_neg (by rw [hc]; decide), if_neg (by rw [hc]; decide), if_neg (by rw [hc]; decide), if_pos hc] at h
      refine Sm_pc (pc1 := 81) rfl ?_
      refine Sm_run K ek_M_shines 32 1 rfl ?_
      cases h
      exact Sm_reti K hQ (eok_i (eo ek_M_shines (i := 33) rfl) rfl)
  · rw [if_neg (fun hc => hx 0 (by decide) (by rw [hc]; decide)), if_neg (fun hc => hx 1 (by decide) (by rw [hc]; decide)), if_neg (fun hc => hx 2 (by decide) (by rw [hc]; decide)), if_neg (fun hc => hx 3 (by decide) (by rw [hc]; decide)), if_neg (fun hc => hx 4 (by decide) (by rw [hc]; decide)), if_neg (fun hc => hx 5 (by decide) (by rw [hc]; decide))] at h
    exact Sm_le (leR_n (leR_n (leR_n leR_nil))) (s_M_shines_83 K hQ _ h)
def F_M_shines (t : Nat) (x1 : Int32) (w : A_W) : Option (Int32 × A_W) := F_M_shines_0 t x1 w
theorem cn_M_shines {G : Gx} {t : Nat} {x1 : Int32} {w : A_W} {res : Int32 × A_W} (h : F_M_shines t x1 w = some res) : Cn G y_M_shines c_M_shines 3 (some .int) rm_M_shines [.ref t, .int x1] w (some (.int res.1)) res.2 :=
  Cn_of (own := 4) cy_M_shines rfl rfl (Nat.le_of_ble_eq_true rfl) rfl (fun X K _ hQ => Sm_le (leR_s (leR_s (leR_n leR_nil))) (s_M_shines_0 K hQ _ _ _ h))
/-! EveningCloakModel.reaches(I)I -/
abbrev c_M_reaches : ByteArray := prog_6_method_19_code
def y_M_reaches : MethodName := ⟨"EveningCloakModel", "reaches", "(I)I"⟩
def rm_M_reaches : Room := { frames := 1, cells := 0, slots := 0, locals := 22 }
theorem cy_M_reaches : Cy y_M_reaches c_M_reaches 2 (some .int) 1 := ⟨lgm 881 (by decide +kernel) rfl, lgm 73 (by decide +kernel) rfl, by decide +kernel, by decide +kernel⟩
theorem im_M_reaches : Cond.instanceMethod y_M_reaches ∈ lg := lgm 880 (by decide +kernel) rfl
theorem se_M_reaches : Cond.selects y_M_reaches.cls y_M_reaches y_M_reaches ∈ lg := lgm 27 (by decide +kernel) rfl
def e_M_reaches : List Ent := [
  (0, .aload_n 0, 1, 1, .null, 0, 0, 0),
  (1, .iload_n 1, 1, 2, .null, 0, 0, 0),
  (2, .iconst 0, 1, 3, .int 0, 0, 0, 0),
  (3, .invokevirtual 44, 3, 6, .null, 0, 0, 0),
  (6, .tableswitch 46 1 4 #[30, 46, 32, 34], 30, 36, .null, 0, 0, 0),
  (36, .iconst 3, 1, 37, .int 3, 0, 0, 0),
  (37, .ireturn, 1, 38, .null, 0, 0, 0),
  (38, .iconst 5, 1, 39, .int 5, 0, 0, 0),
  (39, .ireturn, 1, 40, .null, 0, 0, 0),
  (40, .iconst 5, 1, 41, .int 5, 0, 0, 0),
  (41, .aload_n 0, 1, 42, .null, 0, 0, 0),
  (42, .iload_n 1, 1, 43, .null, 0, 0, 0),
  (43, .iconst 4, 1, 44, .int 4, 0, 0, 0),
  (44, .invokevirtual 44, 3, 47, .null, 0, 0, 0),
  (47, .bipush 20, 2, 49, .int 20, 0, 0, 0),
  (49, .idiv, 1, 50, .null, 0, 0, 0),
  (50, .iadd, 1, 51, .null, 0, 0, 0),
  (51, .ireturn, 1, 52, .null, 0, 0, 0),
  (52, .iconst 0, 1, 53, .int 0, 0, 0, 0),
  (53, .ireturn, 1, 54, .null, 0, 0, 0)]
set_option maxRecDepth 100000 in
theorem ek_M_reaches : e_M_reaches.all (eok 4 c_M_reaches) = true := by decide +kernel
def F_M_reaches_52 (w : A_W) : Option (Int32 × A_W) :=
  some (0, w)
def F_M_reaches_0 (t : Nat) (x1 : Int32) (w : A_W) : Option (Int32 × A_W) :=
  (ob w t 4).bind fun o2 =>
  (F_M_it t x1 0 w).bind fun p1 =>
  if p1.1 = 1 then
    some (3, p1.2)
  else if p1.1 = 2 then
    F_M_reaches_52 p1.2
  else if p1.1 = 3 then
    some (5, p1.2)
  else if p1.1 = 4 then
    (ob p1.2 t 4).bind fun o4 =>
    (F_M_it t x1 4 p1.2).bind fun p3 =>
    some ((5 + (p3.1 / 20)), p3.2)
  else
    F_M_reaches_52 p1.2
set_option maxHeartbeats 4000000 in
set_option maxRecDepth 100000 in
theorem s_M_reaches_52 {G : Gx} {X : Cx} {res : Int32 × A_W} (K : Ok G X 4 c_M_reaches 2 (some .int) rm_M_reaches) (hQ : QQ G X (some (.int res.1)) res.2 0 0) (w : A_W) (h : F_M_reaches_52 w = some res) : Sm G X w 0 0 [none, none] [] 52 := by
  unfold F_M_reaches_52 at h
  refine Sm_run K ek_M_reaches 18 1 rfl ?_
  cases h
  exact Sm_reti K hQ (eok_i (eo ek_M_reaches (i := 19) rfl) rfl)
set_option maxHeartbeats 4000000 in
set_option maxRecDepth 100000 in
theorem s_M_reaches_0 {G : Gx} {X : Cx} {res : Int32 × A_W} (K : Ok G X 4 c_M_reaches 2 (some .int) rm_M_reaches) (hQ : QQ G X (some (.int res.1)) res.2 0 0) (t : Nat) (x1 : Int32) (w : A_W) (h : F_M_reaches_0 t x1 w = some res) : Sm G X w 0 0 [some (.ref t), some (.int x1)] [] 0 := by
  unfold F_M_reaches_0 at h
  refine Sm_run K ek_M_reaches 0 3 rfl ?_
  obtain ⟨o2, e_o2, h⟩ := Option.bind_eq_some_iff.mp h
  obtain ⟨p1, e_p1, h⟩ := Option.bind_eq_some_iff.mp h
  refine Sm_callV K (eok_i (eo ek_M_reaches (i := 3) rfl) rfl) cy_M_it im_M_it se_M_it (lgm 871 (by decide +kernel) rfl) ⟨Nat.le_of_ble_eq_true rfl, Nat.le_of_ble_eq_true rfl⟩ (as := [.int x1, .int 0]) (b := t) (st := []) (ob_e e_o2) (by decide) rfl rfl rfl rfl (Nat.le_of_ble_eq_true rfl) ⟨Nat.le_of_ble_eq_true rfl, Nat.le_of_ble_eq_true rfl⟩ (cn_M_it e_p1) ?_
  refine Sm_eq (st1 := .int p1.1 :: []) (nc1 := 0) (ns1 := 0) rfl rfl rfl ?_
  refine Sm_tsw K (eok_d (eo ek_M_reaches (i := 4) rfl)) [36, 52, 38, 40] 52 (by decide) (by decide) (by decide) (fun j hj hx => ?_) (fun hx => ?_)
  · have hj : j < 4 := hj
    rcases (show j = 0 ∨ j = 1 ∨ j = 2 ∨ j = 3 by omega) with rfl | rfl | rfl | rfl
    · have hc : p1.1 = 1 := Int32.toInt_inj.mp (hx.trans (by decide))
      rw [if_pos hc] at h
      refine Sm_pc (pc1 := 36) rfl ?_
      refine Sm_run K ek_M_reaches 5 1 rfl ?_
      cases h
      exact Sm_reti K hQ (eok_i (eo ek_M_reaches (i := 6) rfl) rfl)
    · have hc : p1.1 = 2 := Int32.toInt_inj.mp (hx.trans (by decide))
      rw [if_neg (by rw [hc]; decide), if_pos hc] at h
      refine Sm_pc (pc1 := 52) rfl ?_
      exact Sm_le (leR_n (leR_n leR_nil)) (s_M_reaches_52 K hQ _ h)
    · have hc : p1.1 = 3 := Int32.toInt_inj.mp (hx.trans (by decide))
      rw [if_neg (by rw [hc]; decide), if_neg (by rw [hc]; decide), if_pos hc] at h
      refine Sm_pc (pc1 := 38) rfl ?_
      refine Sm_run K ek_M_reaches 7 1 rfl ?_
      cases h
      exact Sm_reti K hQ (eok_i (eo ek_M_reaches (i := 8) rfl) rfl)
    · have hc : p1.1 = 4 := Int32.toInt_inj.mp (hx.trans (by decide))
      rw [if_neg (by rw [hc]; decide), if_neg (by rw [hc]; decide), if_neg (by rw [hc]; decide), if_pos hc] at h
      refine Sm_pc (pc1 := 40) rfl ?_
      refine Sm_run K ek_M_reaches 9 4 rfl ?_
      obtain ⟨o4, e_o4, h⟩ := Option.bind_eq_some_iff.mp h
      obtain ⟨p3, e_p3, h⟩ := Option.bind_eq_some_iff.mp h
      refine Sm_callV K (eok_i (eo ek_M_reaches (i := 13) rfl) rfl) cy_M_it im_M_it se_M_it (lgm 871 (by decide +kernel) rfl) ⟨Nat.le_of_ble_eq_true rfl, Nat.le_of_ble_eq_true rfl⟩ (as := [.int x1, .int 4]) (b := t) (st := [.int 5]) (ob_e e_o4) (by decide) rfl rfl rfl rfl (Nat.le_of_ble_eq_true rfl) ⟨Nat.le_of_ble_eq_true rfl, Nat.le_of_ble_eq_true rfl⟩ (cn_M_it e_p3) ?_
      refine Sm_eq (st1 := .int p3.1 :: [.int 5]) (nc1 := 0) (ns1 := 0) rfl rfl rfl ?_
      refine Sm_run K ek_M_reaches 14 1 rfl ?_
      refine Sm_idiv K (eok_i (eo ek_M_reaches (i := 15) rfl) rfl) (by decide) ?_
      refine Sm_run K ek_M_reaches 16 1 rfl ?_
      cases h
      exact Sm_reti K hQ (eok_i (eo ek_M_reaches (i := 17) rfl) rfl)
  · rw [if_neg (fun hc => hx 0 (by decide) (by rw [hc]; decide)), if_neg (fun hc => hx 1 (by decide) (by rw [hc]; decide)), if_neg (fun hc => hx 2 (by decide) (by rw [hc]; decide)), if_neg (fun hc => hx 3 (by decide) (by rw [hc]; decide))] at h
    exact Sm_le (leR_n (leR_n leR_nil)) (s_M_reaches_52 K hQ _ h)
def F_M_reaches (t : Nat) (x1 : Int32) (w : A_W) : Option (Int32 × A_W) := F_M_reaches_0 t x1 w
theorem cn_M_reaches {G : Gx} {t : Nat} {x1 : Int32} {w : A_W} {res : Int32 × A_W} (h : F_M_reaches t x1 w = some res) : Cn G y_M_reaches c_M_reaches 2 (some .int) rm_M_reaches [.ref t, .int x1] w (some (.int res.1)) res.2 :=
  Cn_of (own := 4) cy_M_reaches rfl rfl (Nat.le_of_ble_eq_true rfl) rfl (fun X K _ hQ => Sm_le (leR_s (leR_s leR_nil)) (s_M_reaches_0 K hQ _ _ _ h))
/-! EveningCloakModel.lightAt(I)I -/
abbrev c_M_lightAt : ByteArray := prog_6_method_20_code
def y_M_lightAt : MethodName := ⟨"EveningCloakModel", "lightAt", "(I)I"⟩
def rm_M_lightAt : Room := { frames := 2, cells := 0, slots := 0, locals := 44 }
theorem cy_M_lightAt : Cy y_M_lightAt c_M_lightAt 6 (some .int) 1 := ⟨lgm 889 (by decide +kernel) rfl, lgm 73 (by decide +kernel) rfl, by decide +kernel, by decide +kernel⟩
theorem im_M_lightAt : Cond.instanceMethod y_M_lightAt ∈ lg := lgm 888 (by decide +kernel) rfl
theorem se_M_lightAt : Cond.selects y_M_lightAt.cls y_M_lightAt y_M_lightAt ∈ lg := lgm 29 (by decide +kernel) rfl
def e_M_lightAt : List Ent := [
  (0, .iconst 0, 1, 1, .int 0, 0, 0, 0),
  (1, .istore_n 2, 1, 2, .null, 0, 0, 0),
  (2, .iconst 0, 1, 3, .int 0, 0, 0, 0),
  (3, .istore_n 3, 1, 4, .null, 0, 0, 0),
  (4, .iload_n 3, 1, 5, .null, 0, 0, 0),
  (5, .aload_n 0, 1, 6, .null, 0, 0, 0),
  (6, .getfield 9, 3, 9, .null, 4, 0, 762),
  (9, .iconst 3, 1, 10, .int 3, 0, 0, 0),
  (10, .iaload, 1, 11, .null, 0, 0, 0),
  (11, .if_icmp .ge 84, 3, 95, .null, 0, 0, 0),
  (14, .aload_n 0, 1, 15, .null, 0, 0, 0),
  (15, .iload_n 3, 1, 16, .null, 0, 0, 0),
  (16, .iconst 1, 1, 17, .int 1, 0, 0, 0),
  (17, .invokevirtual 44, 3, 20, .null, 0, 0, 0),
  (20, .iload_n 1, 1, 21, .null, 0, 0, 0),
  (21, .if_icmp .ge 14, 3, 35, .null, 0, 0, 0),
  (24, .iload_n 1, 1, 25, .null, 0, 0, 0),
  (25, .aload_n 0, 1, 26, .null, 0, 0, 0),
  (26, .iload_n 3, 1, 27, .null, 0, 0, 0),
  (27, .iconst 1, 1, 28, .int 1, 0, 0, 0),
  (28, .invokevirtual 44, 3, 31, .null, 0, 0, 0),
  (31, .isub, 1, 32, .null, 0, 0, 0),
  (32, .goto 11, 3, 43, .null, 0, 0, 0),
  (35, .aload_n 0, 1, 36, .null, 0, 0, 0),
  (36, .iload_n 3, 1, 37, .null, 0, 0, 0),
  (37, .iconst 1, 1, 38, .int 1, 0, 0, 0),
  (38, .invokevirtual 44, 3, 41, .null, 0, 0, 0),
  (41, .iload_n 1, 1, 42, .null, 0, 0, 0),
  (42, .isub, 1, 43, .null, 0, 0, 0),
  (43, .istore 4, 2, 45, .null, 0, 0, 0),
  (45, .aload_n 0, 1, 46, .null, 0, 0, 0),
  (46, .iload_n 3, 1, 47, .null, 0, 0, 0),
  (47, .invokevirtual 52, 3, 50, .null, 0, 0, 0),
  (50, .iconst 3, 1, 51, .int 3, 0, 0, 0),
  (51, .iload 4, 2, 53, .null, 0, 0, 0),
  (53, .imul, 1, 54, .null, 0, 0, 0),
  (54, .isub, 1, 55, .null, 0, 0, 0),
  (55, .istore 5, 2, 57, .null, 0, 0, 0),
  (57, .iload_n 2, 1, 58, .null, 0, 0, 0),
  (58, .aload_n 0, 1, 59, .null, 0, 0, 0),
  (59, .iload_n 3, 1, 60, .null, 0, 0, 0),
  (60, .invokevirtual 55, 3, 63, .null, 0, 0, 0),
  (63, .ifCond .eq 23, 3, 86, .null, 0, 0, 0),
  (66, .iload 4, 2, 68, .null, 0, 0, 0),
  (68, .aload_n 0, 1, 69, .null, 0, 0, 0),
  (69, .iload_n 3, 1, 70, .null, 0, 0, 0),
  (70, .invokevirtual 59, 3, 73, .null, 0, 0, 0),
  (73, .if_icmp .gt 13, 3, 86, .null, 0, 0, 0),
  (76, .iload 5, 2, 78, .null, 0, 0, 0),
  (78, .ifCond .le 8, 3, 86, .null, 0, 0, 0),
  (81, .iload 5, 2, 83, .null, 0, 0, 0),
  (83, .goto 4, 3, 87, .null, 0, 0, 0),
  (86, .iconst 0, 1, 87, .int 0, 0, 0, 0),
  (87, .iadd, 1, 88, .null, 0, 0, 0),
  (88, .istore_n 2, 1, 89, .null, 0, 0, 0),
  (89, .iinc 3 1, 3, 92, .int 1, 0, 0, 0),
  (92, .goto (-88), 3, 4, .null, 0, 0, 0),
  (95, .iload_n 2, 1, 96, .null, 0, 0, 0),
  (96, .ireturn, 1, 97, .null, 0, 0, 0)]
set_option maxRecDepth 100000 in
theorem ek_M_lightAt : e_M_lightAt.all (eok 4 c_M_lightAt) = true := by decide +kernel
def F_M_lightAt_87 (k4 : Nat → Int32 → Int32 → Int32 → A_W → Option (Int32 × A_W)) (t : Nat) (x1 : Int32) (x3 : Int32) (y0 : Int32) (y1 : Int32) (w : A_W) : Option (Int32 × A_W) :=
  k4 t x1 (y0 + y1) (x3 + 1) w
def F_M_lightAt_86 (k4 : Nat → Int32 → Int32 → Int32 → A_W → Option (Int32 × A_W)) (t : Nat) (x1 : Int32) (x3 : Int32) (y0 : Int32) (w : A_W) : Option (Int32 × A_W) :=
  F_M_lightAt_87 k4 t x1 x3 y0 0 w
def F_M_lightAt_43 (k4 : Nat → Int32 → Int32 → Int32 → A_W → Option (Int32 × A_W)) (t : Nat) (x1 : Int32) (x2 : Int32) (x3 : Int32) (y0 : Int32) (w : A_W) : Option (Int32 × A_W) :=
  (ob w t 4).bind fun o2 =>
  (F_M_shines t x3 w).bind fun p1 =>
  (ob p1.2 t 4).bind fun o4 =>
  (F_M_isHere t x3 p1.2).bind fun p3 =>
  if p3.1 = 0 then
    F_M_lightAt_86 k4 t x1 x3 x2 p3.2
  else
    (ob p3.2 t 4).bind fun o7 =>
    (F_M_reaches t x3 p3.2).bind fun p6 =>
    if p6.1 < y0 then
      F_M_lightAt_86 k4 t x1 x3 x2 p6.2
    else
      if (p1.1 - (3 * y0)) ≤ 0 then
        F_M_lightAt_86 k4 t x1 x3 x2 p6.2
      else
        F_M_lightAt_87 k4 t x1 x3 x2 (p1.1 - (3 * y0)) p6.2
def F_M_lightAt_4 : Nat → Nat → Int32 → Int32 → Int32 → A_W → Option (Int32 × A_W)
  | 0, _, _, _, _, _ => none
  | n + 1, t, x1, x2, x3, w =>
    (gr w t 4 0).bind fun a1 =>
    (rd w a1 3).bind fun v2 =>
    if v2 ≤ x3 then
      some (x2, w)
    else
      (ob w t 4).bind fun o5 =>
      (F_M_it t x3 1 w).bind fun p4 =>
      if x1 ≤ p4.1 then
        (ob p4.2 t 4).bind fun o8 =>
        (F_M_it t x3 1 p4.2).bind fun p7 =>
        F_M_lightAt_43 (F_M_lightAt_4 n) t x1 x2 x3 (p7.1 - x1) p7.2
      else
        (ob p4.2 t 4).bind fun o10 =>
        (F_M_it t x3 1 p4.2).bind fun p9 =>
        F_M_lightAt_43 (F_M_lightAt_4 n) t x1 x2 x3 (x1 - p9.1) p9.2
def F_M_lightAt_0 (t : Nat) (x1 : Int32) (w : A_W) : Option (Int32 × A_W) :=
  F_M_lightAt_4 FU t x1 0 0 w
set_option maxHeartbeats 4000000 in
set_option maxRecDepth 100000 in
theorem s_M_lightAt_87 {G : Gx} {X : Cx} {res : Int32 × A_W} (K : Ok G X 4 c_M_lightAt 6 (some .int) rm_M_lightAt) (hQ : QQ G X (some (.int res.1)) res.2 0 0) {k4 : Nat → Int32 → Int32 → Int32 → A_W → Option (Int32 × A_W)} (hk4 : ∀ (t : Nat) (x1 : Int32) (x2 : Int32) (x3 : Int32) (w : A_W), k4 t x1 x2 x3 w = some res → Sm G X w 0 0 [some (.ref t), some (.int x1), some (.int x2), some (.int x3), none, none] [] 4) (t : Nat) (x1 : Int32) (x3 : Int32) (y0 : Int32) (y1 : Int32) (w : A_W) (h : F_M_lightAt_87 k4 t x1 x3 y0 y1 w = some res) : Sm G X w 0 0 [some (.ref t), some (.int x1), none, some (.int x3), none, none] [.int y1, .int y0] 87 := by
  unfold F_M_lightAt_87 at h
  refine Sm_run K ek_M_lightAt 53 4 rfl ?_
  exact Sm_le (leR_s (leR_s (leR_s (leR_s (leR_n (leR_n leR_nil)))))) (hk4 _ _ _ _ _ h)
set_option maxHeartbeats 4000000 in
set_option maxRecDepth 100000 in
theorem s_M_lightAt_86 {G : Gx} {X : Cx} {res : Int32 × A_W} (K : Ok G X 4 c_M_lightAt 6 (some .int) rm_M_lightAt) (hQ : QQ G X (some (.int res.1)) res.2 0 0) {k4 : Nat → Int32 → Int32 → Int32 → A_W → Option (Int32 × A_W)} (hk4 : ∀ (t : Nat) (x1 : Int32) (x2 : Int32) (x3 : Int32) (w : A_W), k4 t x1 x2 x3 w = some res → Sm G X w 0 0 [some (.ref t), some (.int x1), some (.int x2), some (.int x3), none, none] [] 4) (t : Nat) (x1 : Int32) (x3 : Int32) (y0 : Int32) (w : A_W) (h : F_M_lightAt_86 k4 t x1 x3 y0 w = some res) : Sm G X w 0 0 [some (.ref t), some (.int x1), none, some (.int x3), none, none] [.int y0] 86 := by
  unfold F_M_lightAt_86 at h
  refine Sm_run K ek_M_lightAt 52 1 rfl ?_
  exact Sm_le (leR_s (leR_s (leR_n (leR_s (leR_n (leR_n leR_nil)))))) (s_M_lightAt_87 K hQ hk4 _ _ _ _ _ _ h)
set_option maxHeartbeats 4000000 in
set_option maxRecDepth 100000 in
theorem s_M_lightAt_43 {G : Gx} {X : Cx} {res : Int32 × A_W} (K : Ok G X 4 c_M_lightAt 6 (some .int) rm_M_lightAt) (hQ : QQ G X (some (.int res.1)) res.2 0 0) {k4 : Nat → Int32 → Int32 → Int32 → A_W → Option (Int32 × A_W)} (hk4 : ∀ (t : Nat) (x1 : Int32) (x2 : Int32) (x3 : Int32) (w : A_W), k4 t x1 x2 x3 w = some res → Sm G X w 0 0 [some (.ref t), some (.int x1), some (.int x2), some (.int x3), none, none] [] 4) (t : Nat) (x1 : Int32) (x2 : Int32) (x3 : Int32) (y0 : Int32) (w : A_W) (h : F_M_lightAt_43 k4 t x1 x2 x3 y0 w = some res) : Sm G X w 0 0 [some (.ref t), some (.int x1), some (.int x2), some (.int x3), none, none] [.int y0] 43 := by
  unfold F_M_lightAt_43 at h
  refine Sm_run K ek_M_lightAt 29 3 rfl ?_
  obtain ⟨o2, e_o2, h⟩ := Option.bind_eq_some_iff.mp h
  obtain ⟨p1, e_p1, h⟩ := Option.bind_eq_some_iff.mp h
  refine Sm_callV K (eok_i (eo ek_M_lightAt (i := 32) rfl) rfl) cy_M_shines im_M_shines se_M_shines (lgm 867 (by decide +kernel) rfl) ⟨Nat.le_of_ble_eq_true rfl, Nat.le_of_ble_eq_true rfl⟩ (as := [.int x3]) (b := t) (st := []) (ob_e e_o2) (by decide) rfl rfl rfl rfl (Nat.le_of_ble_eq_true rfl) ⟨Nat.le_of_ble_eq_true rfl, Nat.le_of_ble_eq_true rfl⟩ (cn_M_shines e_p1) ?_
  refine Sm_eq (st1 := .int p1.1 :: []) (nc1 := 0) (ns1 := 0) rfl rfl rfl ?_
  refine Sm_run K ek_M_lightAt 33 8 rfl ?_
  obtain ⟨o4, e_o4, h⟩ := Option.bind_eq_some_iff.mp h
  obtain ⟨p3, e_p3, h⟩ := Option.bind_eq_some_iff.mp h
  refine Sm_callV K (eok_i (eo ek_M_lightAt (i := 41) rfl) rfl) cy_M_isHere im_M_isHere se_M_isHere (lgm 890 (by decide +kernel) rfl) ⟨Nat.le_of_ble_eq_true rfl, Nat.le_of_ble_eq_true rfl⟩ (as := [.int x3]) (b := t) (st := [.int x2]) (ob_e e_o4) (by decide) rfl rfl rfl rfl (Nat.le_of_ble_eq_true rfl) ⟨Nat.le_of_ble_eq_true rfl, Nat.le_of_ble_eq_true rfl⟩ (cn_M_isHere e_p3) ?_
  refine Sm_eq (st1 := .int p3.1 :: [.int x2]) (nc1 := 0) (ns1 := 0) rfl rfl rfl ?_
  refine Sm_if_eq K (eo ek_M_lightAt (i := 42) rfl) (fun c5 => ?_) (fun c5 => ?_)
  · rw [if_pos c5] at h
    exact Sm_le (leR_s (leR_s (leR_n (leR_s (leR_n (leR_n leR_nil)))))) (s_M_lightAt_86 K hQ hk4 _ _ _ _ _ h)
  · rw [if_neg c5] at h
    refine Sm_run K ek_M_lightAt 43 3 rfl ?_
    obtain ⟨o7, e_o7, h⟩ := Option.bind_eq_some_iff.mp h
    obtain ⟨p6, e_p6, h⟩ := Option.bind_eq_some_iff.mp h
    refine Sm_callV K (eok_i (eo ek_M_lightAt (i := 46) rfl) rfl) cy_M_reaches im_M_reaches se_M_reaches (lgm 878 (by decide +kernel) rfl) ⟨Nat.le_of_ble_eq_true rfl, Nat.le_of_ble_eq_true rfl⟩ (as := [.int x3]) (b := t) (st := [.int y0, .int x2]) (ob_e e_o7) (by decide) rfl rfl rfl rfl (Nat.le_of_ble_eq_true rfl) ⟨Nat.le_of_ble_eq_true rfl, Nat.le_of_ble_eq_true rfl⟩ (cn_M_reaches e_p6) ?_
    refine Sm_eq (st1 := .int p6.1 :: [.int y0, .int x2]) (nc1 := 0) (ns1 := 0) rfl rfl rfl ?_
    refine Sm_ic_gt K (eo ek_M_lightAt (i := 47) rfl) (fun c8 => ?_) (fun c8 => ?_)
    · rw [if_pos c8] at h
      exact Sm_le (leR_s (leR_s (leR_n (leR_s (leR_n (leR_n leR_nil)))))) (s_M_lightAt_86 K hQ hk4 _ _ _ _ _ h)
    · rw [if_neg c8] at h
      refine Sm_run K ek_M_lightAt 48 1 rfl ?_
      refine Sm_if_le K (eo ek_M_lightAt (i := 49) rfl) (fun c9 => ?_) (fun c9 => ?_)
      · rw [if_pos c9] at h
        exact Sm_le (leR_s (leR_s (leR_n (leR_s (leR_n (leR_n leR_nil)))))) (s_M_lightAt_86 K hQ hk4 _ _ _ _ _ h)
      · rw [if_neg c9] at h
        refine Sm_run K ek_M_lightAt 50 2 rfl ?_
        exact Sm_le (leR_s (leR_s (leR_n (leR_s (leR_n (leR_n leR_nil)))))) (s_M_lightAt_87 K hQ hk4 _ _ _ _ _ _ h)
set_option maxHeartbeats 4000000 in
set_option maxRecDepth 100000 in
theorem s_M_lightAt_4 {G : Gx} {X : Cx} {res : Int32 × A_W} (K : Ok G X 4 c_M_lightAt 6 (some .int) rm_M_lightAt) (hQ : QQ G X (some (.int res.1)) res.2 0 0) : ∀ (n : Nat) (t : Nat) (x1 : Int32) (x2 : Int32) (x3 : Int32) (w : A_W), F_M_lightAt_4 n t x1 x2 x3 w = some res → Sm G X w 0 0 [some (.ref t), some (.int x1), some (.int x2), some (.int x3), none, none] [] 4 := by
  intro n
  induction n with
  | zero => intro t x1 x2 x3 w h; cases h
  | succ n ih =>
    intro t x1 x2 x3 w h
    rw [F_M_lightAt_4] at h
    refine Sm_run K ek_M_lightAt 4 2 rfl ?_
    obtain ⟨a1, e_a1, h⟩ := Option.bind_eq_some_iff.mp h
    refine Sm_gr K (eo ek_M_lightAt (i := 6) rfl) e_a1 ?_
    refine Sm_run K ek_M_lightAt 7 1 rfl ?_
    obtain ⟨v2, e_v2, h⟩ := Option.bind_eq_some_iff.mp h
    refine Sm_rd K (eok_i (eo ek_M_lightAt (i := 8) rfl) rfl) e_v2 ?_
    refine Sm_ic_ge K (eo ek_M_lightAt (i := 9) rfl) (fun c3 => ?_) (fun c3 => ?_)
    · rw [if_pos c3] at h
      refine Sm_run K ek_M_lightAt 57 1 rfl ?_
      cases h
      exact Sm_reti K hQ (eok_i (eo ek_M_lightAt (i := 58) rfl) rfl)
    · rw [if_neg c3] at h
      refine Sm_run K ek_M_lightAt 10 3 rfl ?_
      obtain ⟨o5, e_o5, h⟩ := Option.bind_eq_some_iff.mp h
      obtain ⟨p4, e_p4, h⟩ := Option.bind_eq_some_iff.mp h
      refine Sm_callV K (eok_i (eo ek_M_lightAt (i := 13) rfl) rfl) cy_M_it im_M_it se_M_it (lgm 871 (by decide +kernel) rfl) ⟨Nat.le_of_ble_eq_true rfl, Nat.le_of_ble_eq_true rfl⟩ (as := [.int x3, .int 1]) (b := t) (st := []) (ob_e e_o5) (by decide) rfl rfl rfl rfl (Nat.le_of_ble_eq_true rfl) ⟨Nat.le_of_ble_eq_true rfl, Nat.le_of_ble_eq_true rfl⟩ (cn_M_it e_p4) ?_
      refine Sm_eq (st1 := .int p4.1 :: []) (nc1 := 0) (ns1 := 0) rfl rfl rfl ?_
      refine Sm_run K ek_M_lightAt 14 1 rfl ?_
      refine Sm_ic_ge K (eo ek_M_lightAt (i := 15) rfl) (fun c6 => ?_) (fun c6 => ?_)
      · rw [if_pos c6] at h
        refine Sm_run K ek_M_lightAt 23 3 rfl ?_
        obtain ⟨o8, e_o8, h⟩ := Option.bind_eq_some_iff.mp h
        obtain ⟨p7, e_p7, h⟩ := Option.bind_eq_some_iff.mp h
        refine Sm_callV K (eok_i (eo ek_M_lightAt (i := 26) rfl) rfl) cy_M_it im_M_it se_M_it (lgm 871 (by decide +kernel) rfl) ⟨Nat.le_of_ble_eq_true rfl, Nat.le_of_ble_eq_true rfl⟩ (as := [.int x3, .int 1]) (b := t) (st := []) (ob_e e_o8) (by decide) rfl rfl rfl rfl (Nat.le_of_ble_eq_true rfl) ⟨Nat.le_of_ble_eq_true rfl, Nat.le_of_ble_eq_true rfl⟩ (cn_M_it e_p7) ?_
        refine Sm_eq (st1 := .int p7.1 :: []) (nc1 := 0) (ns1 := 0) rfl rfl rfl ?_
        refine Sm_run K ek_M_lightAt 27 2 rfl ?_
        exact Sm_le (leR_s (leR_s (leR_s (leR_s (leR_n (leR_n leR_nil)))))) (s_M_lightAt_43 K hQ ih _ _ _ _ _ _ h)
      · rw [if_neg c6] at h
        refine Sm_run K ek_M_lightAt 16 4 rfl ?_
        obtain ⟨o10, e_o10, h⟩ := Option.bind_eq_some_iff.mp h
        obtain ⟨p9, e_p9, h⟩ := Option.bind_eq_some_iff.mp h
        refine Sm_callV K (eok_i (eo ek_M_lightAt (i := 20) rfl) rfl) cy_M_it im_M_it se_M_it (lgm 871 (by decide +kernel) rfl) ⟨Nat.le_of_ble_eq_true rfl, Nat.le_of_ble_eq_true rfl⟩ (as := [.int x3, .int 1]) (b := t) (st := [.int x1]) (ob_e e_o10) (by decide) rfl rfl rfl rfl (Nat.le_of_ble_eq_true rfl) ⟨Nat.le_of_ble_eq_true rfl, Nat.le_of_ble_eq_true rfl⟩ (cn_M_it e_p9) ?_
        refine Sm_eq (st1 := .int p9.1 :: [.int x1]) (nc1 := 0) (ns1 := 0) rfl rfl rfl ?_
        refine Sm_run K ek_M_lightAt 21 2 rfl ?_
        exact Sm_le (leR_s (leR_s (leR_s (leR_s (leR_n (leR_n leR_nil)))))) (s_M_lightAt_43 K hQ ih _ _ _ _ _ _ h)
set_option maxHeartbeats 4000000 in
set_option maxRecDepth 100000 in
theorem s_M_lightAt_0 {G : Gx} {X : Cx} {res : Int32 × A_W} (K : Ok G X 4 c_M_lightAt 6 (some .int) rm_M_lightAt) (hQ : QQ G X (some (.int res.1)) res.2 0 0) (t : Nat) (x1 : Int32) (w : A_W) (h : F_M_lightAt_0 t x1 w = some res) : Sm G X w 0 0 [some (.ref t), some (.int x1), none, none, none, none] [] 0 := by
  unfold F_M_lightAt_0 at h
  refine Sm_run K ek_M_lightAt 0 4 rfl ?_
  exact Sm_le (leR_s (leR_s (leR_s (leR_s (leR_n (leR_n leR_nil)))))) (s_M_lightAt_4 K hQ FU _ _ _ _ _ h)
def F_M_lightAt (t : Nat) (x1 : Int32) (w : A_W) : Option (Int32 × A_W) := F_M_lightAt_0 t x1 w
theorem cn_M_lightAt {G : Gx} {t : Nat} {x1 : Int32} {w : A_W} {res : Int32 × A_W} (h : F_M_lightAt t x1 w = some res) : Cn G y_M_lightAt c_M_lightAt 6 (some .int) rm_M_lightAt [.ref t, .int x1] w (some (.int res.1)) res.2 :=
  Cn_of (own := 4) cy_M_lightAt rfl rfl (Nat.le_of_ble_eq_true rfl) rfl (fun X K _ hQ => Sm_le (leR_s (leR_s (leR_n (leR_n (leR_n (leR_n leR_nil)))))) (s_M_lightAt_0 K hQ _ _ _ h))
/-! EveningCloakModel.wears(I)I -/
abbrev c_M_wears : ByteArray := prog_6_method_21_code
def y_M_wears : MethodName := ⟨"EveningCloakModel", "wears", "(I)I"⟩
def rm_M_wears : Room := { frames := 3, cells := 0, slots := 0, locals := 69 }
theorem cy_M_wears : Cy y_M_wears c_M_wears 3 (some .int) 1 := ⟨lgm 885 (by decide +kernel) rfl, lgm 73 (by decide +kernel) rfl, by decide +kernel, by decide +kernel⟩
theorem im_M_wears : Cond.instanceMethod y_M_wears ∈ lg := lgm 884 (by decide +kernel) rfl
theorem se_M_wears : Cond.selects y_M_wears.cls y_M_wears y_M_wears ∈ lg := lgm 28 (by decide +kernel) rfl
def e_M_wears : List Ent := [
  (0, .aload_n 0, 1, 1, .null, 0, 0, 0),
  (1, .getfield 9, 3, 4, .null, 4, 0, 762),
  (4, .iconst 0, 1, 5, .int 0, 0, 0, 0),
  (5, .iaload, 1, 6, .null, 0, 0, 0),
  (6, .iconst 2, 1, 7, .int 2, 0, 0, 0),
  (7, .irem, 1, 8, .null, 0, 0, 0),
  (8, .istore_n 2, 1, 9, .null, 0, 0, 0),
  (9, .aload_n 0, 1, 10, .null, 0, 0, 0),
  (10, .iload_n 1, 1, 11, .null, 0, 0, 0),
  (11, .iconst 0, 1, 12, .int 0, 0, 0, 0),
  (12, .invokevirtual 44, 3, 15, .null, 0, 0, 0),
  (15, .tableswitch 64 1 6 #[37, 37, 39, 41, 45, 37], 37, 52, .null, 0, 0, 0),
  (52, .iconst 0, 1, 53, .int 0, 0, 0, 0),
  (53, .ireturn, 1, 54, .null, 0, 0, 0),
  (54, .iload_n 2, 1, 55, .null, 0, 0, 0),
  (55, .ireturn, 1, 56, .null, 0, 0, 0),
  (56, .iload_n 2, 1, 57, .null, 0, 0, 0),
  (57, .iconst 1, 1, 58, .int 1, 0, 0, 0),
  (58, .iadd, 1, 59, .null, 0, 0, 0),
  (59, .ireturn, 1, 60, .null, 0, 0, 0),
  (60, .aload_n 0, 1, 61, .null, 0, 0, 0),
  (61, .aload_n 0, 1, 62, .null, 0, 0, 0),
  (62, .iload_n 1, 1, 63, .null, 0, 0, 0),
  (63, .iconst 1, 1, 64, .int 1, 0, 0, 0),
  (64, .invokevirtual 44, 3, 67, .null, 0, 0, 0),
  (67, .invokevirtual 62, 3, 70, .null, 0, 0, 0),
  (70, .ifCond .le 7, 3, 77, .null, 0, 0, 0),
  (73, .iconst 2, 1, 74, .int 2, 0, 0, 0),
  (74, .goto 4, 3, 78, .null, 0, 0, 0),
  (77, .iconst 1, 1, 78, .int 1, 0, 0, 0),
  (78, .ireturn, 1, 79, .null, 0, 0, 0),
  (79, .iconst 1, 1, 80, .int 1, 0, 0, 0),
  (80, .ireturn, 1, 81, .null, 0, 0, 0)]
set_option maxRecDepth 100000 in
theorem ek_M_wears : e_M_wears.all (eok 4 c_M_wears) = true := by decide +kernel
def F_M_wears_52 (w : A_W) : Option (Int32 × A_W) :=
  some (0, w)
def F_M_wears_78 (y0 : Int32) (w : A_W) : Option (Int32 × A_W) :=
  some (y0, w)
def F_M_wears_0 (t : Nat) (x1 : Int32) (w : A_W) : Option (Int32 × A_W) :=
  (gr w t 4 0).bind fun a1 =>
  (rd w a1 0).bind fun v2 =>
  (ob w t 4).bind fun o4 =>
  (F_M_it t x1 0 w).bind fun p3 =>
  if p3.1 = 1 then
    F_M_wears_52 p3.2
  else if p3.1 = 2 then
    F_M_wears_52 p3.2
  else if p3.1 = 3 then
    some ((jrem v2 2), p3.2)
  else if p3.1 = 4 then
    some (((jrem v2 2) + 1), p3.2)
  else if p3.1 = 5 then
    (ob p3.2 t 4).bind fun o6 =>
    (F_M_it t x1 1 p3.2).bind fun p5 =>
    (ob p5.2 t 4).bind fun o8 =>
    (F_M_lightAt t p5.1 p5.2).bind fun p7 =>
    if p7.1 ≤ 0 then
      F_M_wears_78 1 p7.2
    else
      F_M_wears_78 2 p7.2
  else if p3.1 = 6 then
    F_M_wears_52 p3.2
  else
    some (1, p3.2)
set_option maxHeartbeats 4000000 in
set_option maxRecDepth 100000 in
theorem s_M_wears_52 {G : Gx} {X : Cx} {res : Int32 × A_W} (K : Ok G X 4 c_M_wears 3 (some .int) rm_M_wears) (hQ : QQ G X (some (.int res.1)) res.2 0 0) (w : A_W) (h : F_M_wears_52 w = some res) : Sm G X w 0 0 [none, none, none] [] 52 := by
  unfold F_M_wears_52 at h
  refine Sm_run K ek_M_wears 12 1 rfl ?_
  cases h
  exact Sm_reti K hQ (eok_i (eo ek_M_wears (i := 13) rfl) rfl)
set_option maxHeartbeats 4000000 in
set_option maxRecDepth 100000 in
theorem s_M_wears_78 {G : Gx} {X : Cx} {res : Int32 × A_W} (K : Ok G X 4 c_M_wears 3 (some .int) rm_M_wears) (hQ : QQ G X (some (.int res.1)) res.2 0 0) (y0 : Int32) (w : A_W) (h : F_M_wears_78 y0 w = some res) : Sm G X w 0 0 [none, none, none] [.int y0] 78 := by
  unfold F_M_wears_78 at h
  cases h
  exact Sm_reti K hQ (eok_i (eo ek_M_wears (i := 30) rfl) rfl)
set_option maxHeartbeats 4000000 in
set_option maxRecDepth 100000 in
theorem s_M_wears_0 {G : Gx} {X : Cx} {res : Int32 × A_W} (K : Ok G X 4 c_M_wears 3 (some .int) rm_M_wears) (hQ : QQ G X (some (.int res.1)) res.2 0 0) (t : Nat) (x1 : Int32) (w : A_W) (h : F_M_wears_0 t x1 w = some res) : Sm G X w 0 0 [some (.ref t), some (.int x1), none] [] 0 := by
  unfold F_M_wears_0 at h
  refine Sm_run K ek_M_wears 0 1 rfl ?_
  obtain ⟨a1, e_a1, h⟩ := Option.bind_eq_some_iff.mp h
  refine Sm_gr K (eo ek_M_wears (i := 1) rfl) e_a1 ?_
  refine Sm_run K ek_M_wears 2 1 rfl ?_
  obtain ⟨v2, e_v2, h⟩ := Option.bind_eq_some_iff.mp h
  refine Sm_rd K (eok_i (eo ek_M_wears (i := 3) rfl) rfl) e_v2 ?_
  refine Sm_run K ek_M_wears 4 1 rfl ?_
  refine Sm_irem K (eok_i (eo ek_M_wears (i := 5) rfl) rfl) (by decide) ?_
  refine Sm_run K ek_M_wears 6 4 rfl ?_
  obtain ⟨o4, e_o4, h⟩ := Option.bind_eq_some_iff.mp h
  obtain ⟨p3, e_p3, h⟩ := Option.bind_eq_some_iff.mp h
  refine Sm_callV K (eok_i (eo ek_M_wears (i := 10) rfl) rfl) cy_M_it im_M_it se_M_it (lgm 871 (by decide +kernel) rfl) ⟨Nat.le_of_ble_eq_true rfl, Nat.le_of_ble_eq_true rfl⟩ (as := [.int x1, .int 0]) (b := t) (st := []) (ob_e e_o4) (by decide) rfl rfl rfl rfl (Nat.le_of_ble_eq_true rfl) ⟨Nat.le_of_ble_eq_true rfl, Nat.le_of_ble_eq_true rfl⟩ (cn_M_it e_p3) ?_
  refine Sm_eq (st1 := .int p3.1 :: []) (nc1 := 0) (ns1 := 0) rfl rfl rfl ?_
  refine Sm_tsw K (eok_d (eo ek_M_wears (i := 11) rfl)) [52, 52, 54, 56, 60, 52] 79 (by decide) (by decide) (by decide) (fun j hj hx => ?_) (fun hx => ?_)
  · have hj : j < 6 := hj
    rcases (show j = 0 ∨ j = 1 ∨ j = 2 ∨ j = 3 ∨ j = 4 ∨ j = 5 by omega) with rfl | rfl | rfl | rfl | rfl | rfl
    · have hc : p3.1 = 1 := Int32.toInt_inj.mp (hx.trans (by decide))
      rw [if_pos hc] at h
      refine Sm_pc (pc1 := 52) rfl ?_
      exact Sm_le (leR_n (leR_n (leR_n leR_nil))) (s_M_wears_52 K hQ _ h)
    · have hc : p3.1 = 2 := Int32.toInt_inj.mp (hx.trans (by decide))
      rw [if_neg (by rw [hc]; decide), if_pos hc] at h
      refine Sm_pc (pc1 := 52) rfl ?_
      exact Sm_le (leR_n (leR_n (leR_n leR_nil))) (s_M_wears_52 K hQ _ h)
    · have hc : p3.1 = 3 := Int32.toInt_inj.mp (hx.trans (by decide))
      rw [if_neg (by rw [hc]; decide), if_neg (by rw [hc]; decide), if_pos hc] at h
      refine Sm_pc (pc1 := 54) rfl ?_
      refine Sm_run K ek_M_wears 14 1 rfl ?_
      cases h
      exact Sm_reti K hQ (eok_i (eo ek_M_wears (i := 15) rfl) rfl)
    · have hc : p3.1 = 4 := Int32.toInt_inj.mp (hx.trans (by decide))
      rw [if_neg (by rw [hc]; decide), if_neg (by rw [hc]; decide), if_neg (by rw [hc]; decide), if_pos hc] at h
      refine Sm_pc (pc1 := 56) rfl ?_
      refine Sm_run K ek_M_wears 16 3 rfl ?_
      cases h
      exact Sm_reti K hQ (eok_i (eo ek_M_wears (i := 19) rfl) rfl)
    · have hc : p3.1 = 5 := Int32.toInt_inj.mp (hx.trans (by decide))
      rw [if_neg (by rw [hc]; decide), if_neg (by rw [hc]; decide), if_neg (by rw [hc]; decide), if_neg (by rw [hc]; decide), if_pos hc] at h
      refine Sm_pc (pc1 := 60) rfl ?_
      refine Sm_run K ek_M_wears 20 4 rfl ?_
      obtain ⟨o6, e_o6, h⟩ := Option.bind_eq_some_iff.mp h
      obtain ⟨p5, e_p5, h⟩ := Option.bind_eq_some_iff.mp h
      refine Sm_callV K (eok_i (eo ek_M_wears (i := 24) rfl) rfl) cy_M_it im_M_it se_M_it (lgm 871 (by decide +kernel) rfl) ⟨Nat.le_of_ble_eq_true rfl, Nat.le_of_ble_eq_true rfl⟩ (as := [.int x1, .int 1]) (b := t) (st := [.ref t]) (ob_e e_o6) (by decide) rfl rfl rfl rfl (Nat.le_of_ble_eq_true rfl) ⟨Nat.le_of_ble_eq_true rfl, Nat.le_of_ble_eq_true rfl⟩ (cn_M_it e_p5) ?_
      refine Sm_eq (st1 := .int p5.1 :: [.ref t]) (nc1 := 0) (ns1 := 0) rfl rfl rfl ?_
      obtain ⟨o8, e_o8, h⟩ := Option.bind_eq_some_iff.mp h
      obtain ⟨p7, e_p7, h⟩ := Option.bind_eq_some_iff.mp h
      refine Sm_callV K (eok_i (eo ek_M_wears (i := 25) rfl) rfl) cy_M_lightAt im_M_lightAt se_M_lightAt (lgm 886 (by decide +kernel) rfl) ⟨Nat.le_of_ble_eq_true rfl, Nat.le_of_ble_eq_true rfl⟩ (as := [.int p5.1]) (b := t) (st := []) (ob_e e_o8) (by decide) rfl rfl rfl rfl (Nat.le_of_ble_eq_true rfl) ⟨Nat.le_of_ble_eq_true rfl, Nat.le_of_ble_eq_true rfl⟩ (cn_M_lightAt e_p7) ?_
      refine Sm_eq (st1 := .int p7.1 :: []) (nc1 := 0) (ns1 := 0) rfl rfl rfl ?_
      refine Sm_if_le K (eo ek_M_wears (i := 26) rfl) (fun c9 => ?_) (fun c9 => ?_)
      · rw [if_pos c9] at h
        refine Sm_run K ek_M_wears 29 1 rfl ?_
        exact Sm_le (leR_n (leR_n (leR_n leR_nil))) (s_M_wears_78 K hQ _ _ h)
      · rw [if_neg c9] at h
        refine Sm_run K ek_M_wears 27 2 rfl ?_
        exact Sm_le (leR_n (leR_n (leR_n leR_nil))) (s_M_wears_78 K hQ _ _ h)
    · have hc : p3.1 = 6 := Int32.toInt_inj.mp (hx.trans (by decide))
      rw [if_neg (by rw [hc]; decide), if_neg (by rw [hc]; decide), if_neg (by rw [hc]; decide), if_neg (by rw [hc]; decide), if_neg (by rw [hc]; decide), if_pos hc] at h
      refine Sm_pc (pc1 := 52) rfl ?_
      exact Sm_le (leR_n (leR_n (leR_n leR_nil))) (s_M_wears_52 K hQ _ h)
  · rw [if_neg (fun hc => hx 0 (by decide) (by rw [hc]; decide)), if_neg (fun hc => hx 1 (by decide) (by rw [hc]; decide)), if_neg (fun hc => hx 2 (by decide) (by rw [hc]; decide)), if_neg (fun hc => hx 3 (by decide) (by rw [hc]; decide)), if_neg (fun hc => hx 4 (by decide) (by rw [hc]; decide)), if_neg (fun hc => hx 5 (by decide) (by rw [hc]; decide))] at h
    refine Sm_run K ek_M_wears 31 1 rfl ?_
    cases h
    exact Sm_reti K hQ (eok_i (eo ek_M_wears (i := 32) rfl) rfl)
def F_M_wears (t : Nat) (x1 : Int32) (w : A_W) : Option (Int32 × A_W) := F_M_wears_0 t x1 w
theorem cn_M_wears {G : Gx} {t : Nat} {x1 : Int32} {w : A_W} {res : Int32 × A_W} (h : F_M_wears t x1 w = some res) : Cn G y_M_wears c_M_wears 3 (some .int) rm_M_wears [.ref t, .int x1] w (some (.int res.1)) res.2 :=
  Cn_of (own := 4) cy_M_wears rfl rfl (Nat.le_of_ble_eq_true rfl) rfl (fun X K _ hQ => Sm_le (leR_s (leR_s (leR_n leR_nil))) (s_M_wears_0 K hQ _ _ _ h))
/-! EveningCloakModel.costs(I)I -/
abbrev c_M_costs : ByteArray := prog_6_method_22_code
def y_M_costs : MethodName := ⟨"EveningCloakModel", "costs", "(I)I"⟩
def rm_M_costs : Room := { frames := 1, cells := 0, slots := 0, locals := 22 }
theorem cy_M_costs : Cy y_M_costs c_M_costs 2 (some .int) 1 := ⟨lgm 897 (by decide +kernel) rfl, lgm 73 (by decide +kernel) rfl, by decide +kernel, by decide +kernel⟩
theorem im_M_costs : Cond.instanceMethod y_M_costs ∈ lg := lgm 896 (by decide +kernel) rfl
theorem se_M_costs : Cond.selects y_M_costs.cls y_M_costs y_M_costs ∈ lg := lgm 31 (by decide +kernel) rfl
def e_M_costs : List Ent := [
  (0, .aload_n 0, 1, 1, .null, 0, 0, 0),
  (1, .iload_n 1, 1, 2, .null, 0, 0, 0),
  (2, .iconst 0, 1, 3, .int 0, 0, 0, 0),
  (3, .invokevirtual 44, 3, 6, .null, 0, 0, 0),
  (6, .tableswitch 44 1 6 #[38, 40, 38, 38, 40, 42], 38, 44, .null, 0, 0, 0),
  (44, .iconst 0, 1, 45, .int 0, 0, 0, 0),
  (45, .ireturn, 1, 46, .null, 0, 0, 0),
  (46, .iconst 1, 1, 47, .int 1, 0, 0, 0),
  (47, .ireturn, 1, 48, .null, 0, 0, 0),
  (48, .iconst 3, 1, 49, .int 3, 0, 0, 0),
  (49, .ireturn, 1, 50, .null, 0, 0, 0),
  (50, .iconst 2, 1, 51, .int 2, 0, 0, 0),
  (51, .ireturn, 1, 52, .null, 0, 0, 0)]
set_option maxRecDepth 100000 in
theorem ek_M_costs : e_M_costs.all (eok 4 c_M_costs) = true := by decide +kernel
def F_M_costs_44 (w : A_W) : Option (Int32 × A_W) :=
  some (0, w)
def F_M_costs_46 (w : A_W) : Option (Int32 × A_W) :=
  some (1, w)
def F_M_costs_0 (t : Nat) (x1 : Int32) (w : A_W) : Option (Int32 × A_W) :=
  (ob w t 4).bind fun o2 =>
  (F_M_it t x1 0 w).bind fun p1 =>
  if p1.1 = 1 then
    F_M_costs_44 p1.2
  else if p1.1 = 2 then
    F_M_costs_46 p1.2
  else if p1.1 = 3 then
    F_M_costs_44 p1.2
  else if p1.1 = 4 then
    F_M_costs_44 p1.2
  else if p1.1 = 5 then
    F_M_costs_46 p1.2
  else if p1.1 = 6 then
    some (3, p1.2)
  else
    some (2, p1.2)
set_option maxHeartbeats 4000000 in
set_option maxRecDepth 100000 in
theorem s_M_costs_44 {G : Gx} {X : Cx} {res : Int32 × A_W} (K : Ok G X 4 c_M_costs 2 (some .int) rm_M_costs) (hQ : QQ G X (some (.int res.1)) res.2 0 0) (w : A_W) (h : F_M_costs_44 w = some res) : Sm G X w 0 0 [none, none] [] 44 := by
  unfold F_M_costs_44 at h
  refine Sm_run K ek_M_costs 5 1 rfl ?_
  cases h
  exact Sm_reti K hQ (eok_i (eo ek_M_costs (i := 6) rfl) rfl)
set_option maxHeartbeats 4000000 in
set_option maxRecDepth 100000 in
theorem s_M_costs_46 {G : Gx} {X : Cx} {res : Int32 × A_W} (K : Ok G X 4 c_M_costs 2 (some .int) rm_M_costs) (hQ : QQ G X (some (.int res.1)) res.2 0 0) (w : A_W) (h : F_M_costs_46 w = some res) : Sm G X w 0 0 [none, none] [] 46 := by
  unfold F_M_costs_46 at h
  refine Sm_run K ek_M_costs 7 1 rfl ?_
  cases h
  exact Sm_reti K hQ (eok_i (eo ek_M_costs (i := 8) rfl) rfl)
set_option maxHeartbeats 4000000 in
set_option maxRecDepth 100000 in
theorem s_M_costs_0 {G : Gx} {X : Cx} {res : Int32 × A_W} (K : Ok G X 4 c_M_costs 2 (some .int) rm_M_costs) (hQ : QQ G X (some (.int res.1)) res.2 0 0) (t : Nat) (x1 : Int32) (w : A_W) (h : F_M_costs_0 t x1 w = some res) : Sm G X w 0 0 [some (.ref t), some (.int x1)] [] 0 := by
  unfold F_M_costs_0 at h
  refine Sm_run K ek_M_costs 0 3 rfl ?_
  obtain ⟨o2, e_o2, h⟩ := Option.bind_eq_some_iff.mp h
  obtain ⟨p1, e_p1, h⟩ := Option.bind_eq_some_iff.mp h
  refine Sm_callV K (eok_i (eo ek_M_costs (i := 3) rfl) rfl) cy_M_it im_M_it se_M_it (lgm 871 (by decide +kernel) rfl) ⟨Nat.le_of_ble_eq_true rfl, Nat.le_of_ble_eq_true rfl⟩ (as := [.int x1, .int 0]) (b := t) (st := []) (ob_e e_o2) (by decide) rfl rfl rfl rfl (Nat.le_of_ble_eq_true rfl) ⟨Nat.le_of_ble_eq_true rfl, Nat.le_of_ble_eq_true rfl⟩ (cn_M_it e_p1) ?_
  refine Sm_eq (st1 := .int p1.1 :: []) (nc1 := 0) (ns1 := 0) rfl rfl rfl ?_
  refine Sm_tsw K (eok_d (eo ek_M_costs (i := 4) rfl)) [44, 46, 44, 44, 46, 48] 50 (by decide) (by decide) (by decide) (fun j hj hx => ?_) (fun hx => ?_)
  · have hj : j < 6 := hj
    rcases (show j = 0 ∨ j = 1 ∨ j = 2 ∨ j = 3 ∨ j = 4 ∨ j = 5 by omega) with rfl | rfl | rfl | rfl | rfl | rfl
    · have hc : p1.1 = 1 := Int32.toInt_inj.mp (hx.trans (by decide))
      rw [if_pos hc] at h
      refine Sm_pc (pc1 := 44) rfl ?_
      exact Sm_le (leR_n (leR_n leR_nil)) (s_M_costs_44 K hQ _ h)
    · have hc : p1.1 = 2 := Int32.toInt_inj.mp (hx.trans (by decide))
      rw [if_neg (by rw [hc]; decide), if_pos hc] at h
      refine Sm_pc (pc1 := 46) rfl ?_
      exact Sm_le (leR_n (leR_n leR_nil)) (s_M_costs_46 K hQ _ h)
    · have hc : p1.1 = 3 := Int32.toInt_inj.mp (hx.trans (by decide))
      rw [if_neg (by rw [hc]; decide), if_neg (by rw [hc]; decide), if_pos hc] at h
      refine Sm_pc (pc1 := 44) rfl ?_
      exact Sm_le (leR_n (leR_n leR_nil)) (s_M_costs_44 K hQ _ h)
    · have hc : p1.1 = 4 := Int32.toInt_inj.mp (hx.trans (by decide))
      rw [if_neg (by rw [hc]; decide), if_neg (by rw [hc]; decide), if_neg (by rw [hc]; decide), if_pos hc] at h
      refine Sm_pc (pc1 := 44) rfl ?_
      exact Sm_le (leR_n (leR_n leR_nil)) (s_M_costs_44 K hQ _ h)
    · have hc : p1.1 = 5 := Int32.toInt_inj.mp (hx.trans (by decide))
      rw [if_neg (by rw [hc]; decide), if_neg (by rw [hc]; decide), if_neg (by rw [hc]; decide), if_neg (by rw [hc]; decide), if_pos hc] at h
      refine Sm_pc (pc1 := 46) rfl ?_
      exact Sm_le (leR_n (leR_n leR_nil)) (s_M_costs_46 K hQ _ h)
    · have hc : p1.1 = 6 := Int32.toInt_inj.mp (hx.trans (by decide))
      rw [if_neg (by rw [hc]; decide), if_neg (by rw [hc]; decide), if_neg (by rw [hc]; decide), if_neg (by rw [hc]; decide), if_neg (by rw [hc]; decide), if_pos hc] at h
      refine Sm_pc (pc1 := 48) rfl ?_
      refine Sm_run K ek_M_costs 9 1 rfl ?_
      cases h
      exact Sm_reti K hQ (eok_i (eo ek_M_costs (i := 10) rfl) rfl)
  · rw [if_neg (fun hc => hx 0 (by decide) (by rw [hc]; decide)), if_neg (fun hc => hx 1 (by decide) (by rw [hc]; decide)), if_neg (fun hc => hx 2 (by decide) (by rw [hc]; decide)), if_neg (fun hc => hx 3 (by decide) (by rw [hc]; decide)), if_neg (fun hc => hx 4 (by decide) (by rw [hc]; decide)), if_neg (fun hc => hx 5 (by decide) (by rw [hc]; decide))] at h
    refine Sm_run K ek_M_costs 11 1 rfl ?_
    cases h
    exact Sm_reti K hQ (eok_i (eo ek_M_costs (i := 12) rfl) rfl)
def F_M_costs (t : Nat) (x1 : Int32) (w : A_W) : Option (Int32 × A_W) := F_M_costs_0 t x1 w
theorem cn_M_costs {G : Gx} {t : Nat} {x1 : Int32} {w : A_W} {res : Int32 × A_W} (h : F_M_costs t x1 w = some res) : Cn G y_M_costs c_M_costs 2 (some .int) rm_M_costs [.ref t, .int x1] w (some (.int res.1)) res.2 :=
  Cn_of (own := 4) cy_M_costs rfl rfl (Nat.le_of_ble_eq_true rfl) rfl (fun X K _ hQ => Sm_le (leR_s (leR_s leR_nil)) (s_M_costs_0 K hQ _ _ _ h))
/-! EveningCloakModel.stand(III)I -/
abbrev c_M_stand : ByteArray := prog_6_method_23_code
def y_M_stand : MethodName := ⟨"EveningCloakModel", "stand", "(III)I"⟩
def rm_M_stand : Room := { frames := 2, cells := 0, slots := 0, locals := 42 }
theorem cy_M_stand : Cy y_M_stand c_M_stand 4 (some .int) 3 := ⟨lgm 811 (by decide +kernel) rfl, lgm 73 (by decide +kernel) rfl, by decide +kernel, by decide +kernel⟩
theorem im_M_stand : Cond.instanceMethod y_M_stand ∈ lg := lgm 809 (by decide +kernel) rfl
theorem se_M_stand : Cond.selects y_M_stand.cls y_M_stand y_M_stand ∈ lg := lgm 810 (by decide +kernel) rfl
def e_M_stand : List Ent := [
  (0, .iload_n 1, 1, 1, .null, 0, 0, 0),
  (1, .invokestatic 65, 3, 4, .null, 0, 0, 0),
  (4, .ifCond .eq 35, 3, 39, .null, 0, 0, 0),
  (7, .iload_n 2, 1, 8, .null, 0, 0, 0),
  (8, .iconst 0, 1, 9, .int 0, 0, 0, 0),
  (9, .iconst 5, 1, 10, .int 5, 0, 0, 0),
  (10, .invokestatic 40, 3, 13, .null, 0, 0, 0),
  (13, .ifCond .eq 26, 3, 39, .null, 0, 0, 0),
  (16, .iload_n 3, 1, 17, .null, 0, 0, 0),
  (17, .invokestatic 68, 3, 20, .null, 0, 0, 0),
  (20, .ifCond .eq 19, 3, 39, .null, 0, 0, 0),
  (23, .aload_n 0, 1, 24, .null, 0, 0, 0),
  (24, .iconst 5, 1, 25, .int 5, 0, 0, 0),
  (25, .iload_n 1, 1, 26, .null, 0, 0, 0),
  (26, .iadd, 1, 27, .null, 0, 0, 0),
  (27, .bipush 100, 2, 29, .int 100, 0, 0, 0),
  (29, .iload_n 2, 1, 30, .null, 0, 0, 0),
  (30, .imul, 1, 31, .null, 0, 0, 0),
  (31, .iload_n 3, 1, 32, .null, 0, 0, 0),
  (32, .iadd, 1, 33, .null, 0, 0, 0),
  (33, .invokevirtual 71, 3, 36, .null, 0, 0, 0),
  (36, .goto 9, 3, 45, .null, 0, 0, 0),
  (39, .aload_n 0, 1, 40, .null, 0, 0, 0),
  (40, .ldc 34, 2, 42, .int (-1000001), 0, 0, 825),
  (42, .invokevirtual 36, 3, 45, .null, 0, 0, 0),
  (45, .ireturn, 1, 46, .null, 0, 0, 0)]
set_option maxRecDepth 100000 in
theorem ek_M_stand : e_M_stand.all (eok 4 c_M_stand) = true := by decide +kernel
def F_M_stand_45 (y0 : Int32) (w : A_W) : Option (Int32 × A_W) :=
  some (y0, w)
def F_M_stand_39 (t : Nat) (w : A_W) : Option (Int32 × A_W) :=
  (ob w t 4).bind fun o2 =>
  (F_M_finds t (-1000001) w).bind fun p1 =>
  F_M_stand_45 p1.1 p1.2
def F_M_stand_0 (t : Nat) (x1 : Int32) (x2 : Int32) (x3 : Int32) (w : A_W) : Option (Int32 × A_W) :=
  (F_M_isPlace x1 w).bind fun p1 =>
  if p1.1 = 0 then
    F_M_stand_39 t p1.2
  else
    (F_M_in x2 0 5 p1.2).bind fun p3 =>
    if p3.1 = 0 then
      F_M_stand_39 t p3.2
    else
      (F_M_isHanger x3 p3.2).bind fun p5 =>
      if p5.1 = 0 then
        F_M_stand_39 t p5.2
      else
        (ob p5.2 t 4).bind fun o8 =>
        (F_M_becomes t (5 + x1) ((100 * x2) + x3) p5.2).bind fun p7 =>
        F_M_stand_45 p7.1 p7.2
set_option maxHeartbeats 4000000 in
set_option maxRecDepth 100000 in
theorem s_M_stand_45 {G : Gx} {X : Cx} {res : Int32 × A_W} (K : Ok G X 4 c_M_stand 4 (some .int) rm_M_stand) (hQ : QQ G X (some (.int res.1)) res.2 0 0) (y0 : Int32) (w : A_W) (h : F_M_stand_45 y0 w = some res) : Sm G X w 0 0 [none, none, none, none] [.int y0] 45 := by
  unfold F_M_stand_45 at h
  cases h
  exact Sm_reti K hQ (eok_i (eo ek_M_stand (i := 25) rfl) rfl)
set_option maxHeartbeats 4000000 in
set_option maxRecDepth 100000 in
theorem s_M_stand_39 {G : Gx} {X : Cx} {res : Int32 × A_W} (K : Ok G X 4 c_M_stand 4 (some .int) rm_M_stand) (hQ : QQ G X (some (.int res.1)) res.2 0 0) (t : Nat) (w : A_W) (h : F_M_stand_39 t w = some res) : Sm G X w 0 0 [some (.ref t), none, none, none] [] 39 := by
  unfold F_M_stand_39 at h
  refine Sm_run K ek_M_stand 22 2 rfl ?_
  obtain ⟨o2, e_o2, h⟩ := Option.bind_eq_some_iff.mp h
  obtain ⟨p1, e_p1, h⟩ := Option.bind_eq_some_iff.mp h
  refine Sm_callV K (eok_i (eo ek_M_stand (i := 24) rfl) rfl) cy_M_finds im_M_finds se_M_finds (lgm 826 (by decide +kernel) rfl) ⟨Nat.le_of_ble_eq_true rfl, Nat.le_of_ble_eq_true rfl⟩ (as := [.int (-1000001)]) (b := t) (st := []) (ob_e e_o2) (by decide) rfl rfl rfl rfl (Nat.le_of_ble_eq_true rfl) ⟨Nat.le_of_ble_eq_true rfl, Nat.le_of_ble_eq_true rfl⟩ (cn_M_finds e_p1) ?_
  refine Sm_eq (st1 := .int p1.1 :: []) (nc1 := 0) (ns1 := 0) rfl rfl rfl ?_
  exact Sm_le (leR_n (leR_n (leR_n (leR_n leR_nil)))) (s_M_stand_45 K hQ _ _ h)
set_option maxHeartbeats 4000000 in
set_option maxRecDepth 100000 in
theorem s_M_stand_0 {G : Gx} {X : Cx} {res : Int32 × A_W} (K : Ok G X 4 c_M_stand 4 (some .int) rm_M_stand) (hQ : QQ G X (some (.int res.1)) res.2 0 0) (t : Nat) (x1 : Int32) (x2 : Int32) (x3 : Int32) (w : A_W) (h : F_M_stand_0 t x1 x2 x3 w = some res) : Sm G X w 0 0 [some (.ref t), some (.int x1), some (.int x2), some (.int x3)] [] 0 := by
  unfold F_M_stand_0 at h
  refine Sm_run K ek_M_stand 0 1 rfl ?_
  obtain ⟨p1, e_p1, h⟩ := Option.bind_eq_some_iff.mp h
  refine Sm_callS K (eok_i (eo ek_M_stand (i := 1) rfl) rfl) cy_M_isPlace st_M_isPlace (lgm 812 (by decide +kernel) rfl) ⟨Nat.le_of_ble_eq_true rfl, Nat.le_of_ble_eq_true rfl⟩ (as := [.int x1]) (st := []) rfl rfl rfl (Nat.le_of_ble_eq_true rfl) ⟨Nat.le_of_ble_eq_true rfl, Nat.le_of_ble_eq_true rfl⟩ (cn_M_isPlace e_p1) ?_
  refine Sm_eq (st1 := .int p1.1 :: []) (nc1 := 0) (ns1 := 0) rfl rfl rfl ?_
  refine Sm_if_eq K (eo ek_M_stand (i := 2) rfl) (fun c2 => ?_) (fun c2 => ?_)
  · rw [if_pos c2] at h
    exact Sm_le (leR_s (leR_n (leR_n (leR_n leR_nil)))) (s_M_stand_39 K hQ _ _ h)
  · rw [if_neg c2] at h
    refine Sm_run K ek_M_stand 3 3 rfl ?_
    obtain ⟨p3, e_p3, h⟩ := Option.bind_eq_some_iff.mp h
    refine Sm_callS K (eok_i (eo ek_M_stand (i := 6) rfl) rfl) cy_M_in st_M_in (lgm 815 (by decide +kernel) rfl) ⟨Nat.le_of_ble_eq_true rfl, Nat.le_of_ble_eq_true rfl⟩ (as := [.int x2, .int 0, .int 5]) (st := []) rfl rfl rfl (Nat.le_of_ble_eq_true rfl) ⟨Nat.le_of_ble_eq_true rfl, Nat.le_of_ble_eq_true rfl⟩ (cn_M_in e_p3) ?_
    refine Sm_eq (st1 := .int p3.1 :: []) (nc1 := 0) (ns1 := 0) rfl rfl rfl ?_
    refine Sm_if_eq K (eo ek_M_stand (i := 7) rfl) (fun c4 => ?_) (fun c4 => ?_)
    · rw [if_pos c4] at h
      exact Sm_le (leR_s (leR_n (leR_n (leR_n leR_nil)))) (s_M_stand_39 K hQ _ _ h)
    · rw [if_neg c4] at h
      refine Sm_run K ek_M_stand 8 1 rfl ?_
      obtain ⟨p5, e_p5, h⟩ := Option.bind_eq_some_iff.mp h
      refine Sm_callS K (eok_i (eo ek_M_stand (i := 9) rfl) rfl) cy_M_isHanger st_M_isHanger (lgm 818 (by decide +kernel) rfl) ⟨Nat.le_of_ble_eq_true rfl, Nat.le_of_ble_eq_true rfl⟩ (as := [.int x3]) (st := []) rfl rfl rfl (Nat.le_of_ble_eq_true rfl) ⟨Nat.le_of_ble_eq_true rfl, Nat.le_of_ble_eq_true rfl⟩ (cn_M_isHanger e_p5) ?_
      refine Sm_eq (st1 := .int p5.1 :: []) (nc1 := 0) (ns1 := 0) rfl rfl rfl ?_
      refine Sm_if_eq K (eo ek_M_stand (i := 10) rfl) (fun c6 => ?_) (fun c6 => ?_)
      · rw [if_pos c6] at h
        exact Sm_le (leR_s (leR_n (leR_n (leR_n leR_nil)))) (s_M_stand_39 K hQ _ _ h)
      · rw [if_neg c6] at h
        refine Sm_run K ek_M_stand 11 9 rfl ?_
        obtain ⟨o8, e_o8, h⟩ := Option.bind_eq_some_iff.mp h
        obtain ⟨p7, e_p7, h⟩ := Option.bind_eq_some_iff.mp h
        refine Sm_callV K (eok_i (eo ek_M_stand (i := 20) rfl) rfl) cy_M_becomes im_M_becomes se_M_becomes (lgm 821 (by decide +kernel) rfl) ⟨Nat.le_of_ble_eq_true rfl, Nat.le_of_ble_eq_true rfl⟩ (as := [.int (5 + x1), .int ((100 * x2) + x3)]) (b := t) (st := []) (ob_e e_o8) (by decide) rfl rfl rfl rfl (Nat.le_of_ble_eq_true rfl) ⟨Nat.le_of_ble_eq_true rfl, Nat.le_of_ble_eq_true rfl⟩ (cn_M_becomes e_p7) ?_
        refine Sm_eq (st1 := .int p7.1 :: []) (nc1 := 0) (ns1 := 0) rfl rfl rfl ?_
        refine Sm_run K ek_M_stand 21 1 rfl ?_
        exact Sm_le (leR_n (leR_n (leR_n (leR_n leR_nil)))) (s_M_stand_45 K hQ _ _ h)
def F_M_stand (t : Nat) (x1 : Int32) (x2 : Int32) (x3 : Int32) (w : A_W) : Option (Int32 × A_W) := F_M_stand_0 t x1 x2 x3 w
theorem cn_M_stand {G : Gx} {t : Nat} {x1 : Int32} {x2 : Int32} {x3 : Int32} {w : A_W} {res : Int32 × A_W} (h : F_M_stand t x1 x2 x3 w = some res) : Cn G y_M_stand c_M_stand 4 (some .int) rm_M_stand [.ref t, .int x1, .int x2, .int x3] w (some (.int res.1)) res.2 :=
  Cn_of (own := 4) cy_M_stand rfl rfl (Nat.le_of_ble_eq_true rfl) rfl (fun X K _ hQ => Sm_le (leR_s (leR_s (leR_s (leR_s leR_nil)))) (s_M_stand_0 K hQ _ _ _ _ _ h))
/-! EveningCloakModel.listed(I)I -/
abbrev c_M_listed : ByteArray := prog_6_method_24_code
def y_M_listed : MethodName := ⟨"EveningCloakModel", "listed", "(I)I"⟩
def rm_M_listed : Room := { frames := 2, cells := 0, slots := 0, locals := 42 }
theorem cy_M_listed : Cy y_M_listed c_M_listed 2 (some .int) 1 := ⟨lgm 833 (by decide +kernel) rfl, lgm 73 (by decide +kernel) rfl, by decide +kernel, by decide +kernel⟩
theorem im_M_listed : Cond.instanceMethod y_M_listed ∈ lg := lgm 831 (by decide +kernel) rfl
theorem se_M_listed : Cond.selects y_M_listed.cls y_M_listed y_M_listed ∈ lg := lgm 832 (by decide +kernel) rfl
def e_M_listed : List Ent := [
  (0, .iload_n 1, 1, 1, .null, 0, 0, 0),
  (1, .invokestatic 65, 3, 4, .null, 0, 0, 0),
  (4, .ifCond .eq 14, 3, 18, .null, 0, 0, 0),
  (7, .aload_n 0, 1, 8, .null, 0, 0, 0),
  (8, .getfield 9, 3, 11, .null, 4, 0, 762),
  (11, .iconst 5, 1, 12, .int 5, 0, 0, 0),
  (12, .iload_n 1, 1, 13, .null, 0, 0, 0),
  (13, .iadd, 1, 14, .null, 0, 0, 0),
  (14, .iaload, 1, 15, .null, 0, 0, 0),
  (15, .goto 9, 3, 24, .null, 0, 0, 0),
  (18, .aload_n 0, 1, 19, .null, 0, 0, 0),
  (19, .ldc 34, 2, 21, .int (-1000001), 0, 0, 825),
  (21, .invokevirtual 36, 3, 24, .null, 0, 0, 0),
  (24, .ireturn, 1, 25, .null, 0, 0, 0)]
set_option maxRecDepth 100000 in
theorem ek_M_listed : e_M_listed.all (eok 4 c_M_listed) = true := by decide +kernel
def F_M_listed_24 (y0 : Int32) (w : A_W) : Option (Int32 × A_W) :=
  some (y0, w)
def F_M_listed_0 (t : Nat) (x1 : Int32) (w : A_W) : Option (Int32 × A_W) :=
  (F_M_isPlace x1 w).bind fun p1 =>
  if p1.1 = 0 then
    (ob p1.2 t 4).bind fun o4 =>
    (F_M_finds t (-1000001) p1.2).bind fun p3 =>
    F_M_listed_24 p3.1 p3.2
  else
    (gr p1.2 t 4 0).bind fun a5 =>
    (rd p1.2 a5 (5 + x1)).bind fun v6 =>
    F_M_listed_24 v6 p1.2
set_option maxHeartbeats 4000000 in
set_option maxRecDepth 100000 in
theorem s_M_listed_24 {G : Gx} {X : Cx} {res : Int32 × A_W} (K : Ok G X 4 c_M_listed 2 (some .int) rm_M_listed) (hQ : QQ G X (some (.int res.1)) res.2 0 0) (y0 : Int32) (w : A_W) (h : F_M_listed_24 y0 w = some res) : Sm G X w 0 0 [none, none] [.int y0] 24 := by
  unfold F_M_listed_24 at h
  cases h
  exact Sm_reti K hQ (eok_i (eo ek_M_listed (i := 13) rfl) rfl)
set_option maxHeartbeats 4000000 in
set_option maxRecDepth 100000 in
theorem s_M_listed_0 {G : Gx} {X : Cx} {res : Int32 × A_W} (K : Ok G X 4 c_M_listed 2 (some .int) rm_M_listed) (hQ : QQ G X (some (.int res.1)) res.2 0 0) (t : Nat) (x1 : Int32) (w : A_W) (h : F_M_listed_0 t x1 w = some res) : Sm G X w 0 0 [some (.ref t), some (.int x1)] [] 0 := by
  unfold F_M_listed_0 at h
  refine Sm_run K ek_M_listed 0 1 rfl ?_
  obtain ⟨p1, e_p1, h⟩ := Option.bind_eq_some_iff.mp h
  refine Sm_callS K (eok_i (eo ek_M_listed (i := 1) rfl) rfl) cy_M_isPlace st_M_isPlace (lgm 812 (by decide +kernel) rfl) ⟨Nat.le_of_ble_eq_true rfl, Nat.le_of_ble_eq_true rfl⟩ (as := [.int x1]) (st := []) rfl rfl rfl (Nat.le_of_ble_eq_true rfl) ⟨Nat.le_of_ble_eq_true rfl, Nat.le_of_ble_eq_true rfl⟩ (cn_M_isPlace e_p1) ?_
  refine Sm_eq (st1 := .int p1.1 :: []) (nc1 := 0) (ns1 := 0) rfl rfl rfl ?_
  refine Sm_if_eq K (eo ek_M_listed (i := 2) rfl) (fun c2 => ?_) (fun c2 => ?_)
  · rw [if_pos c2] at h
    refine Sm_run K ek_M_listed 10 2 rfl ?_
    obtain ⟨o4, e_o4, h⟩ := Option.bind_eq_some_iff.mp h
    obtain ⟨p3, e_p3, h⟩ := Option.bind_eq_some_iff.mp h
    refine Sm_callV K (eok_i (eo ek_M_listed (i := 12) rfl) rfl) cy_M_finds im_M_finds se_M_finds (lgm 826 (by decide +kernel) rfl) ⟨Nat.le_of_ble_eq_true rfl, Nat.le_of_ble_eq_true rfl⟩ (as := [.int (-1000001)]) (b := t) (st := []) (ob_e e_o4) (by decide) rfl rfl rfl rfl (Nat.le_of_ble_eq_true rfl) ⟨Nat.le_of_ble_eq_true rfl, Nat.le_of_ble_eq_true rfl⟩ (cn_M_finds e_p3) ?_
    refine Sm_eq (st1 := .int p3.1 :: []) (nc1 := 0) (ns1 := 0) rfl rfl rfl ?_
    exact Sm_le (leR_n (leR_n leR_nil)) (s_M_listed_24 K hQ _ _ h)
  · rw [if_neg c2] at h
    refine Sm_run K ek_M_listed 3 1 rfl ?_
    obtain ⟨a5, e_a5, h⟩ := Option.bind_eq_some_iff.mp h
    refine Sm_gr K (eo ek_M_listed (i := 4) rfl) e_a5 ?_
    refine Sm_run K ek_M_listed 5 3 rfl ?_
    obtain ⟨v6, e_v6, h⟩ := Option.bind_eq_some_iff.mp h
    refine Sm_rd K (eok_i (eo ek_M_listed (i := 8) rfl) rfl) e_v6 ?_
    refine Sm_run K ek_M_listed 9 1 rfl ?_
    exact Sm_le (leR_n (leR_n leR_nil)) (s_M_listed_24 K hQ _ _ h)
def F_M_listed (t : Nat) (x1 : Int32) (w : A_W) : Option (Int32 × A_W) := F_M_listed_0 t x1 w
theorem cn_M_listed {G : Gx} {t : Nat} {x1 : Int32} {w : A_W} {res : Int32 × A_W} (h : F_M_listed t x1 w = some res) : Cn G y_M_listed c_M_listed 2 (some .int) rm_M_listed [.ref t, .int x1] w (some (.int res.1)) res.2 :=
  Cn_of (own := 4) cy_M_listed rfl rfl (Nat.le_of_ble_eq_true rfl) rfl (fun X K _ hQ => Sm_le (leR_s (leR_s leR_nil)) (s_M_listed_0 K hQ _ _ _ h))
end
section
/-! EveningCloakModel.comes(III)I -/
abbrev c_M_comes : ByteArray := prog_6_method_25_code
def y_M_comes : MethodName := ⟨"EveningCloakModel", "comes", "(III)I"⟩
def rm_M_comes : Room := { frames := 1, cells := 0, slots := 0, locals := 23 }
theorem cy_M_comes : Cy y_M_comes c_M_comes 5 (some .int) 3 := ⟨lgm 842 (by decide +kernel) rfl, lgm 73 (by decide +kernel) rfl, by decide +kernel, by decide +kernel⟩
theorem im_M_comes : Cond.instanceMethod y_M_comes ∈ lg := lgm 841 (by decide +kernel) rfl
theorem se_M_comes : Cond.selects y_M_comes.cls y_M_comes y_M_comes ∈ lg := lgm 20 (by decide +kernel) rfl
def e_M_comes : List Ent := [
  (0, .aload_n 0, 1, 1, .null, 0, 0, 0),
  (1, .getfield 9, 3, 4, .null, 4, 0, 762),
  (4, .iconst 3, 1, 5, .int 3, 0, 0, 0),
  (5, .iaload, 1, 6, .null, 0, 0, 0),
  (6, .istore 4, 2, 8, .null, 0, 0, 0),
  (8, .aload_n 0, 1, 9, .null, 0, 0, 0),
  (9, .getfield 9, 3, 12, .null, 4, 0, 762),
  (12, .iconst 3, 1, 13, .int 3, 0, 0, 0),
  (13, .dup2, 1, 14, .null, 0, 0, 0),
  (14, .iaload, 1, 15, .null, 0, 0, 0),
  (15, .iconst 1, 1, 16, .int 1, 0, 0, 0),
  (16, .iadd, 1, 17, .null, 0, 0, 0),
  (17, .iastore, 1, 18, .null, 0, 0, 0),
  (18, .aload_n 0, 1, 19, .null, 0, 0, 0),
  (19, .iload 4, 2, 21, .null, 0, 0, 0),
  (21, .iconst 0, 1, 22, .int 0, 0, 0, 0),
  (22, .iload_n 1, 1, 23, .null, 0, 0, 0),
  (23, .invokevirtual 74, 3, 26, .null, 0, 0, 0),
  (26, .aload_n 0, 1, 27, .null, 0, 0, 0),
  (27, .iload 4, 2, 29, .null, 0, 0, 0),
  (29, .iconst 1, 1, 30, .int 1, 0, 0, 0),
  (30, .iload_n 2, 1, 31, .null, 0, 0, 0),
  (31, .invokevirtual 74, 3, 34, .null, 0, 0, 0),
  (34, .aload_n 0, 1, 35, .null, 0, 0, 0),
  (35, .iload 4, 2, 37, .null, 0, 0, 0),
  (37, .iconst 2, 1, 38, .int 2, 0, 0, 0),
  (38, .iload_n 3, 1, 39, .null, 0, 0, 0),
  (39, .ifCond .ge 11, 3, 50, .null, 0, 0, 0),
  (42, .bipush 10, 2, 44, .int 10, 0, 0, 0),
  (44, .iload 4, 2, 46, .null, 0, 0, 0),
  (46, .imul, 1, 47, .null, 0, 0, 0),
  (47, .goto 4, 3, 51, .null, 0, 0, 0),
  (50, .iload_n 3, 1, 51, .null, 0, 0, 0),
  (51, .invokevirtual 74, 3, 54, .null, 0, 0, 0),
  (54, .aload_n 0, 1, 55, .null, 0, 0, 0),
  (55, .iload 4, 2, 57, .null, 0, 0, 0),
  (57, .iconst 3, 1, 58, .int 3, 0, 0, 0),
  (58, .iconst 0, 1, 59, .int 0, 0, 0, 0),
  (59, .invokevirtual 74, 3, 62, .null, 0, 0, 0),
  (62, .aload_n 0, 1, 63, .null, 0, 0, 0),
  (63, .iload 4, 2, 65, .null, 0, 0, 0),
  (65, .iconst 4, 1, 66, .int 4, 0, 0, 0),
  (66, .iconst 0, 1, 67, .int 0, 0, 0, 0),
  (67, .invokevirtual 74, 3, 70, .null, 0, 0, 0),
  (70, .aload_n 0, 1, 71, .null, 0, 0, 0),
  (71, .iload 4, 2, 73, .null, 0, 0, 0),
  (73, .iconst 5, 1, 74, .int 5, 0, 0, 0),
  (74, .iconst 0, 1, 75, .int 0, 0, 0, 0),
  (75, .invokevirtual 74, 3, 78, .null, 0, 0, 0),
  (78, .iload 4, 2, 80, .null, 0, 0, 0),
  (80, .ireturn, 1, 81, .null, 0, 0, 0)]
set_option maxRecDepth 100000 in
theorem ek_M_comes : e_M_comes.all (eok 4 c_M_comes) = true := by decide +kernel
def F_M_comes_51 (t : Nat) (x4 : Int32) (y0 : Nat) (y1 : Int32) (y2 : Int32) (y3 : Int32) (w : A_W) : Option (Int32 × A_W) :=
  (ob w y0 4).bind fun o2 =>
  (F_M_put y0 y1 y2 y3 w).bind fun p1 =>
  (ob p1 t 4).bind fun o4 =>
  (F_M_put t x4 3 0 p1).bind fun p3 =>
  (ob p3 t 4).bind fun o6 =>
  (F_M_put t x4 4 0 p3).bind fun p5 =>
  (ob p5 t 4).bind fun o8 =>
  (F_M_put t x4 5 0 p5).bind fun p7 =>
  some (x4, p7)
def F_M_comes_0 (t : Nat) (x1 : Int32) (x2 : Int32) (x3 : Int32) (w : A_W) : Option (Int32 × A_W) :=
  (gr w t 4 0).bind fun a1 =>
  (rd w a1 3).bind fun v2 =>
  (gr w t 4 0).bind fun a3 =>
  (rd w a3 3).bind fun v4 =>
  (wr w a3 3 (v4 + 1)).bind fun w5 =>
  (ob w5 t 4).bind fun o7 =>
  (F_M_put t v2 0 x1 w5).bind fun p6 =>
  (ob p6 t 4).bind fun o9 =>
  (F_M_put t v2 1 x2 p6).bind fun p8 =>
  if 0 ≤ x3 then
    F_M_comes_51 t v2 t v2 2 x3 p8
  else
    F_M_comes_51 t v2 t v2 2 (10 * v2) p8
set_option maxHeartbeats 4000000 in
set_option maxRecDepth 100000 in
theorem s_M_comes_51 {G : Gx} {X : Cx} {res : Int32 × A_W} (K : Ok G X 4 c_M_comes 5 (some .int) rm_M_comes) (hQ : QQ G X (some (.int res.1)) res.2 0 0) (t : Nat) (x4 : Int32) (y0 : Nat) (y1 : Int32) (y2 : Int32) (y3 : Int32) (w : A_W) (h : F_M_comes_51 t x4 y0 y1 y2 y3 w = some res) : Sm G X w 0 0 [some (.ref t), none, none, none, some (.int x4)] [.int y3, .int y2, .int y1, .ref y0] 51 := by
  unfold F_M_comes_51 at h
  obtain ⟨o2, e_o2, h⟩ := Option.bind_eq_some_iff.mp h
  obtain ⟨p1, e_p1, h⟩ := Option.bind_eq_some_iff.mp h
  refine Sm_callV K (eok_i (eo ek_M_comes (i := 33) rfl) rfl) cy_M_put im_M_put se_M_put (lgm 843 (by decide +kernel) rfl) ⟨Nat.le_of_ble_eq_true rfl, Nat.le_of_ble_eq_true rfl⟩ (as := [.int y1, .int y2, .int y3]) (b := y0) (st := []) (ob_e e_o2) (by decide) rfl rfl rfl rfl (Nat.le_of_ble_eq_true rfl) ⟨Nat.le_of_ble_eq_true rfl, Nat.le_of_ble_eq_true rfl⟩ (cn_M_put e_p1) ?_
  refine Sm_eq (st1 := []) (nc1 := 0) (ns1 := 0) rfl rfl rfl ?_
  refine Sm_run K ek_M_comes 34 4 rfl ?_
  obtain ⟨o4, e_o4, h⟩ := Option.bind_eq_some_iff.mp h
  obtain ⟨p3, e_p3, h⟩ := Option.bind_eq_some_iff.mp h
  refine Sm_callV K (eok_i (eo ek_M_comes (i := 38) rfl) rfl) cy_M_put im_M_put se_M_put (lgm 843 (by decide +kernel) rfl) ⟨Nat.le_of_ble_eq_true rfl, Nat.le_of_ble_eq_true rfl⟩ (as := [.int x4, .int 3, .int 0]) (b := t) (st := []) (ob_e e_o4) (by decide) rfl rfl rfl rfl (Nat.le_of_ble_eq_true rfl) ⟨Nat.le_of_ble_eq_true rfl, Nat.le_of_ble_eq_true rfl⟩ (cn_M_put e_p3) ?_
  refine Sm_eq (st1 := []) (nc1 := 0) (ns1 := 0) rfl rfl rfl ?_
  refine Sm_run K ek_M_comes 39 4 rfl ?_
  obtain ⟨o6, e_o6, h⟩ := Option.bind_eq_some_iff.mp h
  obtain ⟨p5, e_p5, h⟩ := Option.bind_eq_some_iff.mp h
  refine Sm_callV K (eok_i (eo ek_M_comes (i := 43) rfl) rfl) cy_M_put im_M_put se_M_put (lgm 843 (by decide +kernel) rfl) ⟨Nat.le_of_ble_eq_true rfl, Nat.le_of_ble_eq_true rfl⟩ (as := [.int x4, .int 4, .int 0]) (b := t) (st := []) (ob_e e_o6) (by decide) rfl rfl rfl rfl (Nat.le_of_ble_eq_true rfl) ⟨Nat.le_of_ble_eq_true rfl, Nat.le_of_ble_eq_true rfl⟩ (cn_M_put e_p5) ?_
  refine Sm_eq (st1 := []) (nc1 := 0) (ns1 := 0) rfl rfl rfl ?_
  refine Sm_run K ek_M_comes 44 4 rfl ?_
  obtain ⟨o8, e_o8, h⟩ := Option.bind_eq_some_iff.mp h
  obtain ⟨p7, e_p7, h⟩ := Option.bind_eq_some_iff.mp h
  refine Sm_callV K (eok_i (eo ek_M_comes (i := 48) rfl) rfl) cy_M_put im_M_put se_M_put (lgm 843 (by decide +kernel) rfl) ⟨Nat.le_of_ble_eq_true rfl, Nat.le_of_ble_eq_true rfl⟩ (as := [.int x4, .int 5, .int 0]) (b := t) (st := []) (ob_e e_o8) (by decide) rfl rfl rfl rfl (Nat.le_of_ble_eq_true rfl) ⟨Nat.le_of_ble_eq_true rfl, Nat.le_of_ble_eq_true rfl⟩ (cn_M_put e_p7) ?_
  refine Sm_eq (st1 := []) (nc1 := 0) (ns1 := 0) rfl rfl rfl ?_
  refine Sm_run K ek_M_comes 49 1 rfl ?_
  cases h
  exact Sm_reti K hQ (eok_i (eo ek_M_comes (i := 50) rfl) rfl)
set_option maxHeartbeats 4000000 in
set_option maxRecDepth 100000 in
theorem s_M_comes_0 {G : Gx} {X : Cx} {res : Int32 × A_W} (K : Ok G X 4 c_M_comes 5 (some .int) rm_M_comes) (hQ : QQ G X (some (.int res.1)) res.2 0 0) (t : Nat) (x1 : Int32) (x2 : Int32) (x3 : Int32) (w : A_W) (h : F_M_comes_0 t x1 x2 x3 w = some res) : Sm G X w 0 0 [some (.ref t), some (.int x1), some (.int x2), some (.int x3), none] [] 0 := by
  unfold F_M_comes_0 at h
  refine Sm_run K ek_M_comes 0 1 rfl ?_
  obtain ⟨a1, e_a1, h⟩ := Option.bind_eq_some_iff.mp h
  refine Sm_gr K (eo ek_M_comes (i := 1) rfl) e_a1 ?_
  refine Sm_run K ek_M_comes 2 1 rfl ?_
  obtain ⟨v2, e_v2, h⟩ := Option.bind_eq_some_iff.mp h
  refine Sm_rd K (eok_i (eo ek_M_comes (i := 3) rfl) rfl) e_v2 ?_
  refine Sm_run K ek_M_comes 4 2 rfl ?_
  obtain ⟨a3, e_a3, h⟩ := Option.bind_eq_some_iff.mp h
  refine Sm_gr K (eo ek_M_comes (i := 6) rfl) e_a3 ?_
  refine Sm_run K ek_M_comes 7 2 rfl ?_
  obtain ⟨v4, e_v4, h⟩ := Option.bind_eq_some_iff.mp h
  refine Sm_rd K (eok_i (eo ek_M_comes (i := 9) rfl) rfl) e_v4 ?_
  refine Sm_run K ek_M_comes 10 2 rfl ?_
  obtain ⟨w5, e_w5, h⟩ := Option.bind_eq_some_iff.mp h
  refine Sm_wr K (eok_i (eo ek_M_comes (i := 12) rfl) rfl) e_w5 ?_
  refine Sm_run K ek_M_comes 13 4 rfl ?_
  obtain ⟨o7, e_o7, h⟩ := Option.bind_eq_some_iff.mp h
  obtain ⟨p6, e_p6, h⟩ := Option.bind_eq_some_iff.mp h
  refine Sm_callV K (eok_i (eo ek_M_comes (i := 17) rfl) rfl) cy_M_put im_M_put se_M_put (lgm 843 (by decide +kernel) rfl) ⟨Nat.le_of_ble_eq_true rfl, Nat.le_of_ble_eq_true rfl⟩ (as := [.int v2, .int 0, .int x1]) (b := t) (st := []) (ob_e e_o7) (by decide) rfl rfl rfl rfl (Nat.le_of_ble_eq_true rfl) ⟨Nat.le_of_ble_eq_true rfl, Nat.le_of_ble_eq_true rfl⟩ (cn_M_put e_p6) ?_
  refine Sm_eq (st1 := []) (nc1 := 0) (ns1 := 0) rfl rfl rfl ?_
  refine Sm_run K ek_M_comes 18 4 rfl ?_
  obtain ⟨o9, e_o9, h⟩ := Option.bind_eq_some_iff.mp h
  obtain ⟨p8, e_p8, h⟩ := Option.bind_eq_some_iff.mp h
  refine Sm_callV K (eok_i (eo ek_M_comes (i := 22) rfl) rfl) cy_M_put im_M_put se_M_put (lgm 843 (by decide +kernel) rfl) ⟨Nat.le_of_ble_eq_true rfl, Nat.le_of_ble_eq_true rfl⟩ (as := [.int v2, .int 1, .int x2]) (b := t) (st := []) (ob_e e_o9) (by decide) rfl rfl rfl rfl (Nat.le_of_ble_eq_true rfl) ⟨Nat.le_of_ble_eq_true rfl, Nat.le_of_ble_eq_true rfl⟩ (cn_M_put e_p8) ?_
  refine Sm_eq (st1 := []) (nc1 := 0) (ns1 := 0) rfl rfl rfl ?_
  refine Sm_run K ek_M_comes 23 4 rfl ?_
  refine Sm_if_ge K (eo ek_M_comes (i := 27) rfl) (fun c10 => ?_) (fun c10 => ?_)
  · rw [if_pos c10] at h
    refine Sm_run K ek_M_comes 32 1 rfl ?_
    exact Sm_le (leR_s (leR_n (leR_n (leR_n (leR_s leR_nil))))) (s_M_comes_51 K hQ _ _ _ _ _ _ _ h)
  · rw [if_neg c10] at h
    refine Sm_run K ek_M_comes 28 4 rfl ?_
    exact Sm_le (leR_s (leR_n (leR_n (leR_n (leR_s leR_nil))))) (s_M_comes_51 K hQ _ _ _ _ _ _ _ h)
def F_M_comes (t : Nat) (x1 : Int32) (x2 : Int32) (x3 : Int32) (w : A_W) : Option (Int32 × A_W) := F_M_comes_0 t x1 x2 x3 w
theorem cn_M_comes {G : Gx} {t : Nat} {x1 : Int32} {x2 : Int32} {x3 : Int32} {w : A_W} {res : Int32 × A_W} (h : F_M_comes t x1 x2 x3 w = some res) : Cn G y_M_comes c_M_comes 5 (some .int) rm_M_comes [.ref t, .int x1, .int x2, .int x3] w (some (.int res.1)) res.2 :=
  Cn_of (own := 4) cy_M_comes rfl rfl (Nat.le_of_ble_eq_true rfl) rfl (fun X K _ hQ => Sm_le (leR_s (leR_s (leR_s (leR_s (leR_n leR_nil))))) (s_M_comes_0 K hQ _ _ _ _ _ h))
/-! EveningCloakModel.deposit(II)I -/
abbrev c_M_deposit : ByteArray := prog_6_method_26_code
def y_M_deposit : MethodName := ⟨"EveningCloakModel", "deposit", "(II)I"⟩
def rm_M_deposit : Room := { frames := 2, cells := 0, slots := 0, locals := 47 }
theorem cy_M_deposit : Cy y_M_deposit c_M_deposit 3 (some .int) 2 := ⟨lgm 837 (by decide +kernel) rfl, lgm 73 (by decide +kernel) rfl, by decide +kernel, by decide +kernel⟩
theorem im_M_deposit : Cond.instanceMethod y_M_deposit ∈ lg := lgm 835 (by decide +kernel) rfl
theorem se_M_deposit : Cond.selects y_M_deposit.cls y_M_deposit y_M_deposit ∈ lg := lgm 836 (by decide +kernel) rfl
def e_M_deposit : List Ent := [
  (0, .iload_n 1, 1, 1, .null, 0, 0, 0),
  (1, .iconst 0, 1, 2, .int 0, 0, 0, 0),
  (2, .bipush 6, 2, 4, .int 6, 0, 0, 0),
  (4, .invokestatic 40, 3, 7, .null, 0, 0, 0),
  (7, .ifCond .eq 10, 3, 17, .null, 0, 0, 0),
  (10, .iload_n 2, 1, 11, .null, 0, 0, 0),
  (11, .invokestatic 68, 3, 14, .null, 0, 0, 0),
  (14, .ifCond .ne 10, 3, 24, .null, 0, 0, 0),
  (17, .aload_n 0, 1, 18, .null, 0, 0, 0),
  (18, .ldc 34, 2, 20, .int (-1000001), 0, 0, 825),
  (20, .invokevirtual 36, 3, 23, .null, 0, 0, 0),
  (23, .ireturn, 1, 24, .null, 0, 0, 0),
  (24, .aload_n 0, 1, 25, .null, 0, 0, 0),
  (25, .getfield 9, 3, 28, .null, 4, 0, 762),
  (28, .iconst 3, 1, 29, .int 3, 0, 0, 0),
  (29, .iaload, 1, 30, .null, 0, 0, 0),
  (30, .bipush 8, 2, 32, .int 8, 0, 0, 0),
  (32, .if_icmp .ne 12, 3, 44, .null, 0, 0, 0),
  (35, .aload_n 0, 1, 36, .null, 0, 0, 0),
  (36, .ldc 78, 2, 38, .int (-1000002), 0, 0, 838),
  (38, .invokevirtual 36, 3, 41, .null, 0, 0, 0),
  (41, .goto 10, 3, 51, .null, 0, 0, 0),
  (44, .aload_n 0, 1, 45, .null, 0, 0, 0),
  (45, .iload_n 1, 1, 46, .null, 0, 0, 0),
  (46, .iload_n 2, 1, 47, .null, 0, 0, 0),
  (47, .iconst (-1), 1, 48, .int (-1), 0, 0, 0),
  (48, .invokevirtual 79, 3, 51, .null, 0, 0, 0),
  (51, .ireturn, 1, 52, .null, 0, 0, 0)]
set_option maxRecDepth 100000 in
theorem ek_M_deposit : e_M_deposit.all (eok 4 c_M_deposit) = true := by decide +kernel
def F_M_deposit_17 (t : Nat) (w : A_W) : Option (Int32 × A_W) :=
  (ob w t 4).bind fun o2 =>
  (F_M_finds t (-1000001) w).bind fun p1 =>
  some (p1.1, p1.2)
def F_M_deposit_51 (y0 : Int32) (w : A_W) : Option (Int32 × A_W) :=
  some (y0, w)
def F_M_deposit_0 (t : Nat) (x1 : Int32) (x2 : Int32) (w : A_W) : Option (Int32 × A_W) :=
  (F_M_in x1 0 6 w).bind fun p1 =>
  if p1.1 = 0 then
    F_M_deposit_17 t p1.2
  else
    (F_M_isHanger x2 p1.2).bind fun p3 =>
    if p3.1 = 0 then
      F_M_deposit_17 t p3.2
    else
      (gr p3.2 t 4 0).bind fun a5 =>
      (rd p3.2 a5 3).bind fun v6 =>
      if v6 = 8 then
        (ob p3.2 t 4).bind fun o11 =>
        (F_M_finds t (-1000002) p3.2).bind fun p10 =>
        F_M_deposit_51 p10.1 p10.2
      else
        (ob p3.2 t 4).bind fun o9 =>
        (F_M_comes t x1 x2 (-1) p3.2).bind fun p8 =>
        F_M_deposit_51 p8.1 p8.2
set_option maxHeartbeats 4000000 in
set_option maxRecDepth 100000 in
theorem s_M_deposit_17 {G : Gx} {X : Cx} {res : Int32 × A_W} (K : Ok G X 4 c_M_deposit 3 (some .int) rm_M_deposit) (hQ : QQ G X (some (.int res.1)) res.2 0 0) (t : Nat) (w : A_W) (h : F_M_deposit_17 t w = some res) : Sm G X w 0 0 [some (.ref t), none, none] [] 17 := by
  unfold F_M_deposit_17 at h
  refine Sm_run K ek_M_deposit 8 2 rfl ?_
  obtain ⟨o2, e_o2, h⟩ := Option.bind_eq_some_iff.mp h
  obtain ⟨p1, e_p1, h⟩ := Option.bind_eq_some_iff.mp h
  refine Sm_callV K (eok_i (eo ek_M_deposit (i := 10) rfl) rfl) cy_M_finds im_M_finds se_M_finds (lgm 826 (by decide +kernel) rfl) ⟨Nat.le_of_ble_eq_true rfl, Nat.le_of_ble_eq_true rfl⟩ (as := [.int (-1000001)]) (b := t) (st := []) (ob_e e_o2) (by decide) rfl rfl rfl rfl (Nat.le_of_ble_eq_true rfl) ⟨Nat.le_of_ble_eq_true rfl, Nat.le_of_ble_eq_true rfl⟩ (cn_M_finds e_p1) ?_
  refine Sm_eq (st1 := .int p1.1 :: []) (nc1 := 0) (ns1 := 0) rfl rfl rfl ?_
  cases h
  exact Sm_reti K hQ (eok_i (eo ek_M_deposit (i := 11) rfl) rfl)
set_option maxHeartbeats 4000000 in
set_option maxRecDepth 100000 in
theorem s_M_deposit_51 {G : Gx} {X : Cx} {res : Int32 × A_W} (K : Ok G X 4 c_M_deposit 3 (some .int) rm_M_deposit) (hQ : QQ G X (some (.int res.1)) res.2 0 0) (y0 : Int32) (w : A_W) (h : F_M_deposit_51 y0 w = some res) : Sm G X w 0 0 [none, none, none] [.int y0] 51 := by
  unfold F_M_deposit_51 at h
  cases h
  exact Sm_reti K hQ (eok_i (eo ek_M_deposit (i := 27) rfl) rfl)
set_option maxHeartbeats 4000000 in
set_option maxRecDepth 100000 in
theorem s_M_deposit_0 {G : Gx} {X : Cx} {res : Int32 × A_W} (K : Ok G X 4 c_M_deposit 3 (some .int) rm_M_deposit) (hQ : QQ G X (some (.int res.1)) res.2 0 0) (t : Nat) (x1 : Int32) (x2 : Int32) (w : A_W) (h : F_M_deposit_0 t x1 x2 w = some res) : Sm G X w 0 0 [some (.ref t), some (.int x1), some (.int x2)] [] 0 := by
  unfold F_M_deposit_0 at h
  refine Sm_run K ek_M_deposit 0 3 rfl ?_
  obtain ⟨p1, e_p1, h⟩ := Option.bind_eq_some_iff.mp h
  refine Sm_callS K (eok_i (eo ek_M_deposit (i := 3) rfl) rfl) cy_M_in st_M_in (lgm 815 (by decide +kernel) rfl) ⟨Nat.le_of_ble_eq_true rfl, Nat.le_of_ble_eq_true rfl⟩ (as := [.int x1, .int 0, .int 6]) (st := []) rfl rfl rfl (Nat.le_of_ble_eq_true rfl) ⟨Nat.le_of_ble_eq_true rfl, Nat.le_of_ble_eq_true rfl⟩ (cn_M_in e_p1) ?_
  refine Sm_eq (st1 := .int p1.1 :: []) (nc1 := 0) (ns1 := 0) rfl rfl rfl ?_
  refine Sm_if_eq K (eo ek_M_deposit (i := 4) rfl) (fun c2 => ?_) (fun c2 => ?_)
  · rw [if_pos c2] at h
    exact Sm_le (leR_s (leR_n (leR_n leR_nil))) (s_M_deposit_17 K hQ _ _ h)
  · rw [if_neg c2] at h
    refine Sm_run K ek_M_deposit 5 1 rfl ?_
    obtain ⟨p3, e_p3, h⟩ := Option.bind_eq_some_iff.mp h
    refine Sm_callS K (eok_i (eo ek_M_deposit (i := 6) rfl) rfl) cy_M_isHanger st_M_isHanger (lgm 818 (by decide +kernel) rfl) ⟨Nat.le_of_ble_eq_true rfl, Nat.le_of_ble_eq_true rfl⟩ (as := [.int x2]) (st := []) rfl rfl rfl (Nat.le_of_ble_eq_true rfl) ⟨Nat.le_of_ble_eq_true rfl, Nat.le_of_ble_eq_true rfl⟩ (cn_M_isHanger e_p3) ?_
    refine Sm_eq (st1 := .int p3.1 :: []) (nc1 := 0) (ns1 := 0) rfl rfl rfl ?_
    refine Sm_if_ne K (eo ek_M_deposit (i := 7) rfl) (fun c4 => ?_) (fun c4 => ?_)
    · rw [if_neg c4] at h
      refine Sm_run K ek_M_deposit 12 1 rfl ?_
      obtain ⟨a5, e_a5, h⟩ := Option.bind_eq_some_iff.mp h
      refine Sm_gr K (eo ek_M_deposit (i := 13) rfl) e_a5 ?_
      refine Sm_run K ek_M_deposit 14 1 rfl ?_
      obtain ⟨v6, e_v6, h⟩ := Option.bind_eq_some_iff.mp h
      refine Sm_rd K (eok_i (eo ek_M_deposit (i := 15) rfl) rfl) e_v6 ?_
      refine Sm_run K ek_M_deposit 16 1 rfl ?_
      refine Sm_ic_ne K (eo ek_M_deposit (i := 17) rfl) (fun c7 => ?_) (fun c7 => ?_)
      · rw [if_neg c7] at h
        refine Sm_run K ek_M_deposit 22 4 rfl ?_
        obtain ⟨o9, e_o9, h⟩ := Option.bind_eq_some_iff.mp h
        obtain ⟨p8, e_p8, h⟩ := Option.bind_eq_some_iff.mp h
        refine Sm_callV K (eok_i (eo ek_M_deposit (i := 26) rfl) rfl) cy_M_comes im_M_comes se_M_comes (lgm 839 (by decide +kernel) rfl) ⟨Nat.le_of_ble_eq_true rfl, Nat.le_of_ble_eq_true rfl⟩ (as := [.int x1, .int x2, .int (-1)]) (b := t) (st := []) (ob_e e_o9) (by decide) rfl rfl rfl rfl (Nat.le_of_ble_eq_true rfl) ⟨Nat.le_of_ble_eq_true rfl, Nat.le_of_ble_eq_true rfl⟩ (cn_M_comes e_p8) ?_
        refine Sm_eq (st1 := .int p8.1 :: []) (nc1 := 0) (ns1 := 0) rfl rfl rfl ?_
        exact Sm_le (leR_n (leR_n (leR_n leR_nil))) (s_M_deposit_51 K hQ _ _ h)
      · rw [if_pos c7] at h
        refine Sm_run K ek_M_deposit 18 2 rfl ?_
        obtain ⟨o11, e_o11, h⟩ := Option.bind_eq_some_iff.mp h
        obtain ⟨p10, e_p10, h⟩ := Option.bind_eq_some_iff.mp h
        refine Sm_callV K (eok_i (eo ek_M_deposit (i := 20) rfl) rfl) cy_M_finds im_M_finds se_M_finds (lgm 826 (by decide +kernel) rfl) ⟨Nat.le_of_ble_eq_true rfl, Nat.le_of_ble_eq_true rfl⟩ (as := [.int (-1000002)]) (b := t) (st := []) (ob_e e_o11) (by decide) rfl rfl rfl rfl (Nat.le_of_ble_eq_true rfl) ⟨Nat.le_of_ble_eq_true rfl, Nat.le_of_ble_eq_true rfl⟩ (cn_M_finds e_p10) ?_
        refine Sm_eq (st1 := .int p10.1 :: []) (nc1 := 0) (ns1 := 0) rfl rfl rfl ?_
        refine Sm_run K ek_M_deposit 21 1 rfl ?_
        exact Sm_le (leR_n (leR_n (leR_n leR_nil))) (s_M_deposit_51 K hQ _ _ h)
    · rw [if_pos c4] at h
      exact Sm_le (leR_s (leR_n (leR_n leR_nil))) (s_M_deposit_17 K hQ _ _ h)
def F_M_deposit (t : Nat) (x1 : Int32) (x2 : Int32) (w : A_W) : Option (Int32 × A_W) := F_M_deposit_0 t x1 x2 w
theorem cn_M_deposit {G : Gx} {t : Nat} {x1 : Int32} {x2 : Int32} {w : A_W} {res : Int32 × A_W} (h : F_M_deposit t x1 x2 w = some res) : Cn G y_M_deposit c_M_deposit 3 (some .int) rm_M_deposit [.ref t, .int x1, .int x2] w (some (.int res.1)) res.2 :=
  Cn_of (own := 4) cy_M_deposit rfl rfl (Nat.le_of_ble_eq_true rfl) rfl (fun X K _ hQ => Sm_le (leR_s (leR_s (leR_s leR_nil))) (s_M_deposit_0 K hQ _ _ _ _ h))
/-! EveningCloakModel.enters(I)I -/
abbrev c_M_enters : ByteArray := prog_6_method_27_code
def y_M_enters : MethodName := ⟨"EveningCloakModel", "enters", "(I)I"⟩
def rm_M_enters : Room := { frames := 1, cells := 0, slots := 0, locals := 23 }
theorem cy_M_enters : Cy y_M_enters c_M_enters 3 (some .int) 1 := ⟨lgm 854 (by decide +kernel) rfl, lgm 73 (by decide +kernel) rfl, by decide +kernel, by decide +kernel⟩
theorem im_M_enters : Cond.instanceMethod y_M_enters ∈ lg := lgm 853 (by decide +kernel) rfl
theorem se_M_enters : Cond.selects y_M_enters.cls y_M_enters y_M_enters ∈ lg := lgm 22 (by decide +kernel) rfl
def e_M_enters : List Ent := [
  (0, .aload_n 0, 1, 1, .null, 0, 0, 0),
  (1, .getfield 9, 3, 4, .null, 4, 0, 762),
  (4, .iconst 4, 1, 5, .int 4, 0, 0, 0),
  (5, .iaload, 1, 6, .null, 0, 0, 0),
  (6, .istore_n 2, 1, 7, .null, 0, 0, 0),
  (7, .aload_n 0, 1, 8, .null, 0, 0, 0),
  (8, .getfield 9, 3, 11, .null, 4, 0, 762),
  (11, .iconst 4, 1, 12, .int 4, 0, 0, 0),
  (12, .dup2, 1, 13, .null, 0, 0, 0),
  (13, .iaload, 1, 14, .null, 0, 0, 0),
  (14, .iconst 1, 1, 15, .int 1, 0, 0, 0),
  (15, .iadd, 1, 16, .null, 0, 0, 0),
  (16, .iastore, 1, 17, .null, 0, 0, 0),
  (17, .aload_n 0, 1, 18, .null, 0, 0, 0),
  (18, .iload_n 2, 1, 19, .null, 0, 0, 0),
  (19, .iconst 0, 1, 20, .int 0, 0, 0, 0),
  (20, .iconst 0, 1, 21, .int 0, 0, 0, 0),
  (21, .invokevirtual 82, 3, 24, .null, 0, 0, 0),
  (24, .aload_n 0, 1, 25, .null, 0, 0, 0),
  (25, .iload_n 2, 1, 26, .null, 0, 0, 0),
  (26, .iconst 1, 1, 27, .int 1, 0, 0, 0),
  (27, .iload_n 1, 1, 28, .null, 0, 0, 0),
  (28, .invokevirtual 82, 3, 31, .null, 0, 0, 0),
  (31, .aload_n 0, 1, 32, .null, 0, 0, 0),
  (32, .iload_n 2, 1, 33, .null, 0, 0, 0),
  (33, .iconst 2, 1, 34, .int 2, 0, 0, 0),
  (34, .iconst 0, 1, 35, .int 0, 0, 0, 0),
  (35, .invokevirtual 82, 3, 38, .null, 0, 0, 0),
  (38, .iload_n 2, 1, 39, .null, 0, 0, 0),
  (39, .ireturn, 1, 40, .null, 0, 0, 0)]
set_option maxRecDepth 100000 in
theorem ek_M_enters : e_M_enters.all (eok 4 c_M_enters) = true := by decide +kernel
def F_M_enters_0 (t : Nat) (x1 : Int32) (w : A_W) : Option (Int32 × A_W) :=
  (gr w t 4 0).bind fun a1 =>
  (rd w a1 4).bind fun v2 =>
  (gr w t 4 0).bind fun a3 =>
  (rd w a3 4).bind fun v4 =>
  (wr w a3 4 (v4 + 1)).bind fun w5 =>
  (ob w5 t 4).bind fun o7 =>
  (F_M_lets t v2 0 0 w5).bind fun p6 =>
  (ob p6 t 4).bind fun o9 =>
  (F_M_lets t v2 1 x1 p6).bind fun p8 =>
  (ob p8 t 4).bind fun o11 =>
  (F_M_lets t v2 2 0 p8).bind fun p10 =>
  some (v2, p10)
set_option maxHeartbeats 4000000 in
set_option maxRecDepth 100000 in
theorem s_M_enters_0 {G : Gx} {X : Cx} {res : Int32 × A_W} (K : Ok G X 4 c_M_enters 3 (some .int) rm_M_enters) (hQ : QQ G X (some (.int res.1)) res.2 0 0) (t : Nat) (x1 : Int32) (w : A_W) (h : F_M_enters_0 t x1 w = some res) : Sm G X w 0 0 [some (.ref t), some (.int x1), none] [] 0 := by
  unfold F_M_enters_0 at h
  refine Sm_run K ek_M_enters 0 1 rfl ?_
  obtain ⟨a1, e_a1, h⟩ := Option.bind_eq_some_iff.mp h
  refine Sm_gr K (eo ek_M_enters (i := 1) rfl) e_a1 ?_
  refine Sm_run K ek_M_enters 2 1 rfl ?_
  obtain ⟨v2, e_v2, h⟩ := Option.bind_eq_some_iff.mp h
  refine Sm_rd K (eok_i (eo ek_M_enters (i := 3) rfl) rfl) e_v2 ?_
  refine Sm_run K ek_M_enters 4 2 rfl ?_
  obtain ⟨a3, e_a3, h⟩ := Option.bind_eq_some_iff.mp h
  refine Sm_gr K (eo ek_M_enters (i := 6) rfl) e_a3 ?_
  refine Sm_run K ek_M_enters 7 2 rfl ?_
  obtain ⟨v4, e_v4, h⟩ := Option.bind_eq_some_iff.mp h
  refine Sm_rd K (eok_i (eo ek_M_enters (i := 9) rfl) rfl) e_v4 ?_
  refine Sm_run K ek_M_enters 10 2 rfl ?_
  obtain ⟨w5, e_w5, h⟩ := Option.bind_eq_some_iff.mp h
  refine Sm_wr K (eok_i (eo ek_M_enters (i := 12) rfl) rfl) e_w5 ?_
  refine Sm_run K ek_M_enters 13 4 rfl ?_
  obtain ⟨o7, e_o7, h⟩ := Option.bind_eq_some_iff.mp h
  obtain ⟨p6, e_p6, h⟩ := Option.bind_eq_some_iff.mp h
  refine Sm_callV K (eok_i (eo ek_M_enters (i := 17) rfl) rfl) cy_M_lets im_M_lets se_M_lets (lgm 855 (by decide +kernel) rfl) ⟨Nat.le_of_ble_eq_true rfl, Nat.le_of_ble_eq_true rfl⟩ (as := [.int v2, .int 0, .int 0]) (b := t) (st := []) (ob_e e_o7) (by decide) rfl rfl rfl rfl (Nat.le_of_ble_eq_true rfl) ⟨Nat.le_of_ble_eq_true rfl, Nat.le_of_ble_eq_true rfl⟩ (cn_M_lets e_p6) ?_
  refine Sm_eq (st1 := []) (nc1 := 0) (ns1 := 0) rfl rfl rfl ?_
  refine Sm_run K ek_M_enters 18 4 rfl ?_
  obtain ⟨o9, e_o9, h⟩ := Option.bind_eq_some_iff.mp h
  obtain ⟨p8, e_p8, h⟩ := Option.bind_eq_some_iff.mp h
  refine Sm_callV K (eok_i (eo ek_M_enters (i := 22) rfl) rfl) cy_M_lets im_M_lets se_M_lets (lgm 855 (by decide +kernel) rfl) ⟨Nat.le_of_ble_eq_true rfl, Nat.le_of_ble_eq_true rfl⟩ (as := [.int v2, .int 1, .int x1]) (b := t) (st := []) (ob_e e_o9) (by decide) rfl rfl rfl rfl (Nat.le_of_ble_eq_true rfl) ⟨Nat.le_of_ble_eq_true rfl, Nat.le_of_ble_eq_true rfl⟩ (cn_M_lets e_p8) ?_
  refine Sm_eq (st1 := []) (nc1 := 0) (ns1 := 0) rfl rfl rfl ?_
  refine Sm_run K ek_M_enters 23 4 rfl ?_
  obtain ⟨o11, e_o11, h⟩ := Option.bind_eq_some_iff.mp h
  obtain ⟨p10, e_p10, h⟩ := Option.bind_eq_some_iff.mp h
  refine Sm_callV K (eok_i (eo ek_M_enters (i := 27) rfl) rfl) cy_M_lets im_M_lets se_M_lets (lgm 855 (by decide +kernel) rfl) ⟨Nat.le_of_ble_eq_true rfl, Nat.le_of_ble_eq_true rfl⟩ (as := [.int v2, .int 2, .int 0]) (b := t) (st := []) (ob_e e_o11) (by decide) rfl rfl rfl rfl (Nat.le_of_ble_eq_true rfl) ⟨Nat.le_of_ble_eq_true rfl, Nat.le_of_ble_eq_true rfl⟩ (cn_M_lets e_p10) ?_
  refine Sm_eq (st1 := []) (nc1 := 0) (ns1 := 0) rfl rfl rfl ?_
  refine Sm_run K ek_M_enters 28 1 rfl ?_
  cases h
  exact Sm_reti K hQ (eok_i (eo ek_M_enters (i := 29) rfl) rfl)
def F_M_enters (t : Nat) (x1 : Int32) (w : A_W) : Option (Int32 × A_W) := F_M_enters_0 t x1 w
theorem cn_M_enters {G : Gx} {t : Nat} {x1 : Int32} {w : A_W} {res : Int32 × A_W} (h : F_M_enters t x1 w = some res) : Cn G y_M_enters c_M_enters 3 (some .int) rm_M_enters [.ref t, .int x1] w (some (.int res.1)) res.2 :=
  Cn_of (own := 4) cy_M_enters rfl rfl (Nat.le_of_ble_eq_true rfl) rfl (fun X K _ hQ => Sm_le (leR_s (leR_s (leR_n leR_nil))) (s_M_enters_0 K hQ _ _ _ h))
/-! EveningCloakModel.girl(I)I -/
abbrev c_M_girl : ByteArray := prog_6_method_28_code
def y_M_girl : MethodName := ⟨"EveningCloakModel", "girl", "(I)I"⟩
def rm_M_girl : Room := { frames := 2, cells := 0, slots := 0, locals := 45 }
theorem cy_M_girl : Cy y_M_girl c_M_girl 2 (some .int) 1 := ⟨lgm 850 (by decide +kernel) rfl, lgm 73 (by decide +kernel) rfl, by decide +kernel, by decide +kernel⟩
theorem im_M_girl : Cond.instanceMethod y_M_girl ∈ lg := lgm 848 (by decide +kernel) rfl
theorem se_M_girl : Cond.selects y_M_girl.cls y_M_girl y_M_girl ∈ lg := lgm 849 (by decide +kernel) rfl
def e_M_girl : List Ent := [
  (0, .iload_n 1, 1, 1, .null, 0, 0, 0),
  (1, .iconst 1, 1, 2, .int 1, 0, 0, 0),
  (2, .bipush 99, 2, 4, .int 99, 0, 0, 0),
  (4, .invokestatic 40, 3, 7, .null, 0, 0, 0),
  (7, .ifCond .ne 10, 3, 17, .null, 0, 0, 0),
  (10, .aload_n 0, 1, 11, .null, 0, 0, 0),
  (11, .ldc 34, 2, 13, .int (-1000001), 0, 0, 825),
  (13, .invokevirtual 36, 3, 16, .null, 0, 0, 0),
  (16, .ireturn, 1, 17, .null, 0, 0, 0),
  (17, .aload_n 0, 1, 18, .null, 0, 0, 0),
  (18, .getfield 9, 3, 21, .null, 4, 0, 762),
  (21, .iconst 4, 1, 22, .int 4, 0, 0, 0),
  (22, .iaload, 1, 23, .null, 0, 0, 0),
  (23, .bipush 6, 2, 25, .int 6, 0, 0, 0),
  (25, .if_icmp .ne 12, 3, 37, .null, 0, 0, 0),
  (28, .aload_n 0, 1, 29, .null, 0, 0, 0),
  (29, .ldc 78, 2, 31, .int (-1000002), 0, 0, 838),
  (31, .invokevirtual 36, 3, 34, .null, 0, 0, 0),
  (34, .goto 8, 3, 42, .null, 0, 0, 0),
  (37, .aload_n 0, 1, 38, .null, 0, 0, 0),
  (38, .iload_n 1, 1, 39, .null, 0, 0, 0),
  (39, .invokevirtual 85, 3, 42, .null, 0, 0, 0),
  (42, .ireturn, 1, 43, .null, 0, 0, 0)]
set_option maxRecDepth 100000 in
theorem ek_M_girl : e_M_girl.all (eok 4 c_M_girl) = true := by decide +kernel
def F_M_girl_42 (y0 : Int32) (w : A_W) : Option (Int32 × A_W) :=
  some (y0, w)
def F_M_girl_0 (t : Nat) (x1 : Int32) (w : A_W) : Option (Int32 × A_W) :=
  (F_M_in x1 1 99 w).bind fun p1 =>
  if p1.1 = 0 then
    (ob p1.2 t 4).bind fun o11 =>
    (F_M_finds t (-1000001) p1.2).bind fun p10 =>
    some (p10.1, p10.2)
  else
    (gr p1.2 t 4 0).bind fun a3 =>
    (rd p1.2 a3 4).bind fun v4 =>
    if v4 = 6 then
      (ob p1.2 t 4).bind fun o9 =>
      (F_M_finds t (-1000002) p1.2).bind fun p8 =>
      F_M_girl_42 p8.1 p8.2
    else
      (ob p1.2 t 4).bind fun o7 =>
      (F_M_enters t x1 p1.2).bind fun p6 =>
      F_M_girl_42 p6.1 p6.2
set_option maxHeartbeats 4000000 in
set_option maxRecDepth 100000 in
theorem s_M_girl_42 {G : Gx} {X : Cx} {res : Int32 × A_W} (K : Ok G X 4 c_M_girl 2 (some .int) rm_M_girl) (hQ : QQ G X (some (.int res.1)) res.2 0 0) (y0 : Int32) (w : A_W) (h : F_M_girl_42 y0 w = some res) : Sm G X w 0 0 [none, none] [.int y0] 42 := by
  unfold F_M_girl_42 at h
  cases h
  exact Sm_reti K hQ (eok_i (eo ek_M_girl (i := 22) rfl) rfl)
set_option maxHeartbeats 4000000 in
set_option maxRecDepth 100000 in
theorem s_M_girl_0 {G : Gx} {X : Cx} {res : Int32 × A_W} (K : Ok G X 4 c_M_girl 2 (some .int) rm_M_girl) (hQ : QQ G X (some (.int res.1)) res.2 0 0) (t : Nat) (x1 : Int32) (w : A_W) (h : F_M_girl_0 t x1 w = some res) : Sm G X w 0 0 [some (.ref t), some (.int x1)] [] 0 := by
  unfold F_M_girl_0 at h
  refine Sm_run K ek_M_girl 0 3 rfl ?_
  obtain ⟨p1, e_p1, h⟩ := Option.bind_eq_some_iff.mp h
  refine Sm_callS K (eok_i (eo ek_M_girl (i := 3) rfl) rfl) cy_M_in st_M_in (lgm 815 (by decide +kernel) rfl) ⟨Nat.le_of_ble_eq_true rfl, Nat.le_of_ble_eq_true rfl⟩ (as := [.int x1, .int 1, .int 99]) (st := []) rfl rfl rfl (Nat.le_of_ble_eq_true rfl) ⟨Nat.le_of_ble_eq_true rfl, Nat.le_of_ble_eq_true rfl⟩ (cn_M_in e_p1) ?_
  refine Sm_eq (st1 := .int p1.1 :: []) (nc1 := 0) (ns1 := 0) rfl rfl rfl ?_
  refine Sm_if_ne K (eo ek_M_girl (i := 4) rfl) (fun c2 => ?_) (fun c2 => ?_)
  · rw [if_neg c2] at h
    refine Sm_run K ek_M_girl 9 1 rfl ?_
    obtain ⟨a3, e_a3, h⟩ := Option.bind_eq_some_iff.mp h
    refine Sm_gr K (eo ek_M_girl (i := 10) rfl) e_a3 ?_
    refine Sm_run K ek_M_girl 11 1 rfl ?_
    obtain ⟨v4, e_v4, h⟩ := Option.bind_eq_some_iff.mp h
    refine Sm_rd K (eok_i (eo ek_M_girl (i := 12) rfl) rfl) e_v4 ?_
    refine Sm_run K ek_M_girl 13 1 rfl ?_
    refine Sm_ic_ne K (eo ek_M_girl (i := 14) rfl) (fun c5 => ?_) (fun c5 => ?_)
    · rw [if_neg c5] at h
      refine Sm_run K ek_M_girl 19 2 rfl ?_
      obtain ⟨o7, e_o7, h⟩ := Option.bind_eq_some_iff.mp h
      obtain ⟨p6, e_p6, h⟩ := Option.bind_eq_some_iff.mp h
      refine Sm_callV K (eok_i (eo ek_M_girl (i := 21) rfl) rfl) cy_M_enters im_M_enters se_M_enters (lgm 851 (by decide +kernel) rfl) ⟨Nat.le_of_ble_eq_true rfl, Nat.le_of_ble_eq_true rfl⟩ (as := [.int x1]) (b := t) (st := []) (ob_e e_o7) (by decide) rfl rfl rfl rfl (Nat.le_of_ble_eq_true rfl) ⟨Nat.le_of_ble_eq_true rfl, Nat.le_of_ble_eq_true rfl⟩ (cn_M_enters e_p6) ?_
      refine Sm_eq (st1 := .int p6.1 :: []) (nc1 := 0) (ns1 := 0) rfl rfl rfl ?_
      exact Sm_le (leR_n (leR_n leR_nil)) (s_M_girl_42 K hQ _ _ h)
    · rw [if_pos c5] at h
      refine Sm_run K ek_M_girl 15 2 rfl ?_
      obtain ⟨o9, e_o9, h⟩ := Option.bind_eq_some_iff.mp h
      obtain ⟨p8, e_p8, h⟩ := Option.bind_eq_some_iff.mp h
      refine Sm_callV K (eok_i (eo ek_M_girl (i := 17) rfl) rfl) cy_M_finds im_M_finds se_M_finds (lgm 826 (by decide +kernel) rfl) ⟨Nat.le_of_ble_eq_true rfl, Nat.le_of_ble_eq_true rfl⟩ (as := [.int (-1000002)]) (b := t) (st := []) (ob_e e_o9) (by decide) rfl rfl rfl rfl (Nat.le_of_ble_eq_true rfl) ⟨Nat.le_of_ble_eq_true rfl, Nat.le_of_ble_eq_true rfl⟩ (cn_M_finds e_p8) ?_
      refine Sm_eq (st1 := .int p8.1 :: []) (nc1 := 0) (ns1 := 0) rfl rfl rfl ?_
      refine Sm_run K ek_M_girl 18 1 rfl ?_
      exact Sm_le (leR_n (leR_n leR_nil)) (s_M_girl_42 K hQ _ _ h)
  · rw [if_pos c2] at h
    refine Sm_run K ek_M_girl 5 2 rfl ?_
    obtain ⟨o11, e_o11, h⟩ := Option.bind_eq_some_iff.mp h
    obtain ⟨p10, e_p10, h⟩ := Option.bind_eq_some_iff.mp h
    refine Sm_callV K (eok_i (eo ek_M_girl (i := 7) rfl) rfl) cy_M_finds im_M_finds se_M_finds (lgm 826 (by decide +kernel) rfl) ⟨Nat.le_of_ble_eq_true rfl, Nat.le_of_ble_eq_true rfl⟩ (as := [.int (-1000001)]) (b := t) (st := []) (ob_e e_o11) (by decide) rfl rfl rfl rfl (Nat.le_of_ble_eq_true rfl) ⟨Nat.le_of_ble_eq_true rfl, Nat.le_of_ble_eq_true rfl⟩ (cn_M_finds e_p10) ?_
    refine Sm_eq (st1 := .int p10.1 :: []) (nc1 := 0) (ns1 := 0) rfl rfl rfl ?_
    cases h
    exact Sm_reti K hQ (eok_i (eo ek_M_girl (i := 8) rfl) rfl)
def F_M_girl (t : Nat) (x1 : Int32) (w : A_W) : Option (Int32 × A_W) := F_M_girl_0 t x1 w
theorem cn_M_girl {G : Gx} {t : Nat} {x1 : Int32} {w : A_W} {res : Int32 × A_W} (h : F_M_girl t x1 w = some res) : Cn G y_M_girl c_M_girl 2 (some .int) rm_M_girl [.ref t, .int x1] w (some (.int res.1)) res.2 :=
  Cn_of (own := 4) cy_M_girl rfl rfl (Nat.le_of_ble_eq_true rfl) rfl (fun X K _ hQ => Sm_le (leR_s (leR_s leR_nil)) (s_M_girl_0 K hQ _ _ _ h))
/-! EveningCloakModel.of(II)I -/
abbrev c_M_of : ByteArray := prog_6_method_29_code
def y_M_of : MethodName := ⟨"EveningCloakModel", "of", "(II)I"⟩
def rm_M_of : Room := { frames := 4, cells := 0, slots := 0, locals := 91 }
theorem cy_M_of : Cy y_M_of c_M_of 3 (some .int) 2 := ⟨lgm 862 (by decide +kernel) rfl, lgm 73 (by decide +kernel) rfl, by decide +kernel, by decide +kernel⟩
theorem im_M_of : Cond.instanceMethod y_M_of ∈ lg := lgm 860 (by decide +kernel) rfl
theorem se_M_of : Cond.selects y_M_of.cls y_M_of y_M_of ∈ lg := lgm 861 (by decide +kernel) rfl
def e_M_of : List Ent := [
  (0, .aload_n 0, 1, 1, .null, 0, 0, 0),
  (1, .iload_n 1, 1, 2, .null, 0, 0, 0),
  (2, .invokevirtual 88, 3, 5, .null, 0, 0, 0),
  (5, .ifCond .eq 13, 3, 18, .null, 0, 0, 0),
  (8, .iload_n 2, 1, 9, .null, 0, 0, 0),
  (9, .iconst 0, 1, 10, .int 0, 0, 0, 0),
  (10, .bipush 9, 2, 12, .int 9, 0, 0, 0),
  (12, .invokestatic 40, 3, 15, .null, 0, 0, 0),
  (15, .ifCond .ne 10, 3, 25, .null, 0, 0, 0),
  (18, .aload_n 0, 1, 19, .null, 0, 0, 0),
  (19, .ldc 34, 2, 21, .int (-1000001), 0, 0, 825),
  (21, .invokevirtual 36, 3, 24, .null, 0, 0, 0),
  (24, .ireturn, 1, 25, .null, 0, 0, 0),
  (25, .iload_n 2, 1, 26, .null, 0, 0, 0),
  (26, .tableswitch 54 6 9 #[30, 36, 42, 48], 30, 56, .null, 0, 0, 0),
  (56, .aload_n 0, 1, 57, .null, 0, 0, 0),
  (57, .iload_n 1, 1, 58, .null, 0, 0, 0),
  (58, .invokevirtual 52, 3, 61, .null, 0, 0, 0),
  (61, .ireturn, 1, 62, .null, 0, 0, 0),
  (62, .aload_n 0, 1, 63, .null, 0, 0, 0),
  (63, .iload_n 1, 1, 64, .null, 0, 0, 0),
  (64, .invokevirtual 59, 3, 67, .null, 0, 0, 0),
  (67, .ireturn, 1, 68, .null, 0, 0, 0),
  (68, .aload_n 0, 1, 69, .null, 0, 0, 0),
  (69, .iload_n 1, 1, 70, .null, 0, 0, 0),
  (70, .invokevirtual 91, 3, 73, .null, 0, 0, 0),
  (73, .ireturn, 1, 74, .null, 0, 0, 0),
  (74, .aload_n 0, 1, 75, .null, 0, 0, 0),
  (75, .iload_n 1, 1, 76, .null, 0, 0, 0),
  (76, .invokevirtual 94, 3, 79, .null, 0, 0, 0),
  (79, .ireturn, 1, 80, .null, 0, 0, 0),
  (80, .aload_n 0, 1, 81, .null, 0, 0, 0),
  (81, .iload_n 1, 1, 82, .null, 0, 0, 0),
  (82, .iload_n 2, 1, 83, .null, 0, 0, 0),
  (83, .invokevirtual 44, 3, 86, .null, 0, 0, 0),
  (86, .ireturn, 1, 87, .null, 0, 0, 0)]
set_option maxRecDepth 100000 in
theorem ek_M_of : e_M_of.all (eok 4 c_M_of) = true := by decide +kernel
def F_M_of_18 (t : Nat) (w : A_W) : Option (Int32 × A_W) :=
  (ob w t 4).bind fun o2 =>
  (F_M_finds t (-1000001) w).bind fun p1 =>
  some (p1.1, p1.2)
def F_M_of_0 (t : Nat) (x1 : Int32) (x2 : Int32) (w : A_W) : Option (Int32 × A_W) :=
  (ob w t 4).bind fun o2 =>
  (F_M_isDeposit t x1 w).bind fun p1 =>
  if p1.1 = 0 then
    F_M_of_18 t p1.2
  else
    (F_M_in x2 0 9 p1.2).bind fun p4 =>
    if p4.1 = 0 then
      F_M_of_18 t p4.2
    else
      if x2 = 6 then
        (ob p4.2 t 4).bind fun o7 =>
        (F_M_shines t x1 p4.2).bind fun p6 =>
        some (p6.1, p6.2)
      else if x2 = 7 then
        (ob p4.2 t 4).bind fun o9 =>
        (F_M_reaches t x1 p4.2).bind fun p8 =>
        some (p8.1, p8.2)
      else if x2 = 8 then
        (ob p4.2 t 4).bind fun o11 =>
        (F_M_wears t x1 p4.2).bind fun p10 =>
        some (p10.1, p10.2)
      else if x2 = 9 then
        (ob p4.2 t 4).bind fun o13 =>
        (F_M_costs t x1 p4.2).bind fun p12 =>
        some (p12.1, p12.2)
      else
        (ob p4.2 t 4).bind fun o15 =>
        (F_M_it t x1 x2 p4.2).bind fun p14 =>
        some (p14.1, p14.2)
set_option maxHeartbeats 4000000 in
set_option maxRecDepth 100000 in
theorem s_M_of_18 {G : Gx} {X : Cx} {res : Int32 × A_W} (K : Ok G X 4 c_M_of 3 (some .int) rm_M_of) (hQ : QQ G X (some (.int res.1)) res.2 0 0) (t : Nat) (w : A_W) (h : F_M_of_18 t w = some res) : Sm G X w 0 0 [some (.ref t), none, none] [] 18 := by
  unfold F_M_of_18 at h
  refine Sm_run K ek_M_of 9 2 rfl ?_
  obtain ⟨o2, e_o2, h⟩ := Option.bind_eq_some_iff.mp h
  obtain ⟨p1, e_p1, h⟩ := Option.bind_eq_some_iff.mp h
  refine Sm_callV K (eok_i (eo ek_M_of (i := 11) rfl) rfl) cy_M_finds im_M_finds se_M_finds (lgm 826 (by decide +kernel) rfl) ⟨Nat.le_of_ble_eq_true rfl, Nat.le_of_ble_eq_true rfl⟩ (as := [.int (-1000001)]) (b := t) (st := []) (ob_e e_o2) (by decide) rfl rfl rfl rfl (Nat.le_of_ble_eq_true rfl) ⟨Nat.le_of_ble_eq_true rfl, Nat.le_of_ble_eq_true rfl⟩ (cn_M_finds e_p1) ?_
  refine Sm_eq (st1 := .int p1.1 :: []) (nc1 := 0) (ns1 := 0) rfl rfl rfl ?_
  cases h
  exact Sm_reti K hQ (eok_i (eo ek_M_of (i := 12) rfl) rfl)
set_option maxHeartbeats 4000000 in
set_option maxRecDepth 100000 in
theorem s_M_of_0 {G : Gx} {X : Cx} {res : Int32 × A_W} (K : Ok G X 4 c_M_of 3 (some .int) rm_M_of) (hQ : QQ G X (some (.int res.1)) res.2 0 0) (t : Nat) (x1 : Int32) (x2 : Int32) (w : A_W) (h : F_M_of_0 t x1 x2 w = some res) : Sm G X w 0 0 [some (.ref t), some (.int x1), some (.int x2)] [] 0 := by
  unfold F_M_of_0 at h
  refine Sm_run K ek_M_of 0 2 rfl ?_
  obtain ⟨o2, e_o2, h⟩ := Option.bind_eq_some_iff.mp h
  obtain ⟨p1, e_p1, h⟩ := Option.bind_eq_some_iff.mp h
  refine Sm_callV K (eok_i (eo ek_M_of (i := 2) rfl) rfl) cy_M_isDeposit im_M_isDeposit se_M_isDeposit (lgm 863 (by decide +kernel) rfl) ⟨Nat.le_of_ble_eq_true rfl, Nat.le_of_ble_eq_true rfl⟩ (as := [.int x1]) (b := t) (st := []) (ob_e e_o2) (by decide) rfl rfl rfl rfl (Nat.le_of_ble_eq_true rfl) ⟨Nat.le_of_ble_eq_true rfl, Nat.le_of_ble_eq_true rfl⟩ (cn_M_isDeposit e_p1) ?_
  refine Sm_eq (st1 := .int p1.1 :: []) (nc1 := 0) (ns1 := 0) rfl rfl rfl ?_
  refine Sm_if_eq K (eo ek_M_of (i := 3) rfl) (fun c3 => ?_) (fun c3 => ?_)
  · rw [if_pos c3] at h
    exact Sm_le (leR_s (leR_n (leR_n leR_nil))) (s_M_of_18 K hQ _ _ h)
  · rw [if_neg c3] at h
    refine Sm_run K ek_M_of 4 3 rfl ?_
    obtain ⟨p4, e_p4, h⟩ := Option.bind_eq_some_iff.mp h
    refine Sm_callS K (eok_i (eo ek_M_of (i := 7) rfl) rfl) cy_M_in st_M_in (lgm 815 (by decide +kernel) rfl) ⟨Nat.le_of_ble_eq_true rfl, Nat.le_of_ble_eq_true rfl⟩ (as := [.int x2, .int 0, .int 9]) (st := []) rfl rfl rfl (Nat.le_of_ble_eq_true rfl) ⟨Nat.le_of_ble_eq_true rfl, Nat.le_of_ble_eq_true rfl⟩ (cn_M_in e_p4) ?_
    refine Sm_eq (st1 := .int p4.1 :: []) (nc1 := 0) (ns1 := 0) rfl rfl rfl ?_
    refine Sm_if_ne K (eo ek_M_of (i := 8) rfl) (fun c5 => ?_) (fun c5 => ?_)
    · rw [if_neg c5] at h
      refine Sm_run K ek_M_of 13 1 rfl ?_
      refine Sm_tsw K (eok_d (eo ek_M_of (i := 14) rfl)) [56, 62, 68, 74] 80 (by decide) (by decide) (by decide) (fun j hj hx => ?_) (fun hx => ?_)
      · have hj : j < 4 := hj
        rcases (show j = 0 ∨ j = 1 ∨ j = 2 ∨ j = 3 by omega) with rfl | rfl | rfl | rfl
        · have hc : x2 = 6 := Int32.toInt_inj.mp (hx.trans (by decide))
          rw [if_pos hc] at h
          refine Sm_pc (pc1 := 56) rfl ?_
          refine Sm_run K ek_M_of 15 2 rfl ?_
          obtain ⟨o7, e_o7, h⟩ := Option.bind_eq_some_iff.mp h
          obtain ⟨p6, e_p6, h⟩ := Option.bind_eq_some_iff.mp h
          refine Sm_callV K (eok_i (eo ek_M_of (i := 17) rfl) rfl) cy_M_shines im_M_shines se_M_shines (lgm 867 (by decide +kernel) rfl) ⟨Nat.le_of_ble_eq_true rfl, Nat.le_of_ble_eq_true rfl⟩ (as := [.int x1]) (b := t) (st := []) (ob_e e_o7) (by decide) rfl rfl rfl rfl (Nat.le_of_ble_eq_true rfl) ⟨Nat.le_of_ble_eq_true rfl, Nat.le_of_ble_eq_true rfl⟩ (cn_M_shines e_p6) ?_
          refine Sm_eq (st1 := .int p6.1 :: []) (nc1 := 0) (ns1 := 0) rfl rfl rfl ?_
          cases h
          exact Sm_reti K hQ (eok_i (eo ek_M_of (i := 18) rfl) rfl)
        · have hc : x2 = 7 := Int32.toInt_inj.mp (hx.trans (by decide))
          rw [if_neg (by rw [hc]; decide), if_pos hc] at h
          refine Sm_pc (pc1 := 62) rfl ?_
          refine Sm_run K ek_M_of 19 2 rfl ?_
          obtain ⟨o9, e_o9, h⟩ := Option.bind_eq_some_iff.mp h
          obtain ⟨p8, e_p8, h⟩ := Option.bind_eq_some_iff.mp h
          refine Sm_callV K (eok_i (eo ek_M_of (i := 21) rfl) rfl) cy_M_reaches im_M_reaches se_M_reaches (lgm 878 (by decide +kernel) rfl) ⟨Nat.le_of_ble_eq_true rfl, Nat.le_of_ble_eq_true rfl⟩ (as := [.int x1]) (b := t) (st := []) (ob_e e_o9) (by decide) rfl rfl rfl rfl (Nat.le_of_ble_eq_true rfl) ⟨Nat.le_of_ble_eq_true rfl, Nat.le_of_ble_eq_true rfl⟩ (cn_M_reaches e_p8) ?_
          refine Sm_eq (st1 := .int p8.1 :: []) (nc1 := 0) (ns1 := 0) rfl rfl rfl ?_
          cases h
          exact Sm_reti K hQ (eok_i (eo ek_M_of (i := 22) rfl) rfl)
        · have hc : x2 = 8 := Int32.toInt_inj.mp (hx.trans (by decide))
          rw [if_neg (by rw [hc]; decide), if_neg (by rw [hc]; decide), if_pos hc] at h
          refine Sm_pc (pc1 := 68) rfl ?_
          refine Sm_run K ek_M_of 23 2 rfl ?_
          obtain ⟨o11, e_o11, h⟩ := Option.bind_eq_some_iff.mp h
          obtain ⟨p10, e_p10, h⟩ := Option.bind_eq_some_iff.mp h
          refine Sm_callV K (eok_i (eo ek_M_of (i := 25) rfl) rfl) cy_M_wears im_M_wears se_M_wears (lgm 882 (by decide +kernel) rfl) ⟨Nat.le_of_ble_eq_true rfl, Nat.le_of_ble_eq_true rfl⟩ (as := [.int x1]) (b := t) (st := []) (ob_e e_o11) (by decide) rfl rfl rfl rfl (Nat.le_of_ble_eq_true rfl) ⟨Nat.le_of_ble_eq_true rfl, Nat.le_of_ble_eq_true rfl⟩ (cn_M_wears e_p10) ?_
          refine Sm_eq (st1 := .int p10.1 :: []) (nc1 := 0) (ns1 := 0) rfl rfl rfl ?_
          cases h
          exact Sm_reti K hQ (eok_i (eo ek_M_of (i := 26) rfl) rfl)
        · have hc : x2 = 9 := Int32.toInt_inj.mp (hx.trans (by decide))
          rw [if_neg (by rw [hc]; decide), if_neg (by rw [hc]; decide), if_neg (by rw [hc]; decide), if_pos hc] at h
          refine Sm_pc (pc1 := 74) rfl ?_
          refine Sm_run K ek_M_of 27 2 rfl ?_
          obtain ⟨o13, e_o13, h⟩ := Option.bind_eq_some_iff.mp h
          obtain ⟨p12, e_p12, h⟩ := Option.bind_eq_some_iff.mp h
          refine Sm_callV K (eok_i (eo ek_M_of (i := 29) rfl) rfl) cy_M_costs im_M_costs se_M_costs (lgm 894 (by decide +kernel) rfl) ⟨Nat.le_of_ble_eq_true rfl, Nat.le_of_ble_eq_true rfl⟩ (as := [.int x1]) (b := t) (st := []) (ob_e e_o13) (by decide) rfl rfl rfl rfl (Nat.le_of_ble_eq_true rfl) ⟨Nat.le_of_ble_eq_true rfl, Nat.le_of_ble_eq_true rfl⟩ (cn_M_costs e_p12) ?_
          refine Sm_eq (st1 := .int p12.1 :: []) (nc1 := 0) (ns1 := 0) rfl rfl rfl ?_
          cases h
          exact Sm_reti K hQ (eok_i (eo ek_M_of (i := 30) rfl) rfl)
      · rw [if_neg (fun hc => hx 0 (by decide) (by rw [hc]; decide)), if_neg (fun hc => hx 1 (by decide) (by rw [hc]; decide)), if_neg (fun hc => hx 2 (by decide) (by rw [hc]; decide)), if_neg (fun hc => hx 3 (by decide) (by rw [hc]; decide))] at h
        refine Sm_run K ek_M_of 31 3 rfl ?_
        obtain ⟨o15, e_o15, h⟩ := Option.bind_eq_some_iff.mp h
        obtain ⟨p14, e_p14, h⟩ := Option.bind_eq_some_iff.mp h
        refine Sm_callV K (eok_i (eo ek_M_of (i := 34) rfl) rfl) cy_M_it im_M_it se_M_it (lgm 871 (by decide +kernel) rfl) ⟨Nat.le_of_ble_eq_true rfl, Nat.le_of_ble_eq_true rfl⟩ (as := [.int x1, .int x2]) (b := t) (st := []) (ob_e e_o15) (by decide) rfl rfl rfl rfl (Nat.le_of_ble_eq_true rfl) ⟨Nat.le_of_ble_eq_true rfl, Nat.le_of_ble_eq_true rfl⟩ (cn_M_it e_p14) ?_
        refine Sm_eq (st1 := .int p14.1 :: []) (nc1 := 0) (ns1 := 0) rfl rfl rfl ?_
        cases h
        exact Sm_reti K hQ (eok_i (eo ek_M_of (i := 35) rfl) rfl)
    · rw [if_pos c5] at h
      exact Sm_le (leR_s (leR_n (leR_n leR_nil))) (s_M_of_18 K hQ _ _ h)
def F_M_of (t : Nat) (x1 : Int32) (x2 : Int32) (w : A_W) : Option (Int32 × A_W) := F_M_of_0 t x1 x2 w
theorem cn_M_of {G : Gx} {t : Nat} {x1 : Int32} {x2 : Int32} {w : A_W} {res : Int32 × A_W} (h : F_M_of t x1 x2 w = some res) : Cn G y_M_of c_M_of 3 (some .int) rm_M_of [.ref t, .int x1, .int x2] w (some (.int res.1)) res.2 :=
  Cn_of (own := 4) cy_M_of rfl rfl (Nat.le_of_ble_eq_true rfl) rfl (fun X K _ hQ => Sm_le (leR_s (leR_s (leR_s leR_nil))) (s_M_of_0 K hQ _ _ _ _ h))
/-! EveningCloakModel.mostOf(I)I -/
abbrev c_M_mostOf : ByteArray := prog_6_method_30_code
def y_M_mostOf : MethodName := ⟨"EveningCloakModel", "mostOf", "(I)I"⟩
def rm_M_mostOf : Room := { frames := 0, cells := 0, slots := 0, locals := 0 }
theorem cy_M_mostOf : Cy y_M_mostOf c_M_mostOf 1 (some .int) 1 := ⟨lgm 904 (by decide +kernel) rfl, lgm 73 (by decide +kernel) rfl, by decide +kernel, by decide +kernel⟩
theorem st_M_mostOf : Cond.static y_M_mostOf ∈ lg := lgm 903 (by decide +kernel) rfl
def e_M_mostOf : List Ent := [
  (0, .iload_n 0, 1, 1, .null, 0, 0, 0),
  (1, .tableswitch 51 0 5 #[39, 42, 51, 45, 51, 49], 39, 40, .null, 0, 0, 0),
  (40, .bipush 6, 2, 42, .int 6, 0, 0, 0),
  (42, .ireturn, 1, 43, .null, 0, 0, 0),
  (43, .bipush 15, 2, 45, .int 15, 0, 0, 0),
  (45, .ireturn, 1, 46, .null, 0, 0, 0),
  (46, .sipush 9999, 3, 49, .int 9999, 0, 0, 0),
  (49, .ireturn, 1, 50, .null, 0, 0, 0),
  (50, .iconst 1, 1, 51, .int 1, 0, 0, 0),
  (51, .ireturn, 1, 52, .null, 0, 0, 0),
  (52, .bipush 99, 2, 54, .int 99, 0, 0, 0),
  (54, .ireturn, 1, 55, .null, 0, 0, 0)]
set_option maxRecDepth 100000 in
theorem ek_M_mostOf : e_M_mostOf.all (eok 4 c_M_mostOf) = true := by decide +kernel
def F_M_mostOf_52 (w : A_W) : Option (Int32 × A_W) :=
  some (99, w)
def F_M_mostOf_0 (x0 : Int32) (w : A_W) : Option (Int32 × A_W) :=
  if x0 = 0 then
    some (6, w)
  else if x0 = 1 then
    some (15, w)
  else if x0 = 2 then
    F_M_mostOf_52 w
  else if x0 = 3 then
    some (9999, w)
  else if x0 = 4 then
    F_M_mostOf_52 w
  else if x0 = 5 then
    some (1, w)
  else
    F_M_mostOf_52 w
set_option maxHeartbeats 4000000 in
set_option maxRecDepth 100000 in
theorem s_M_mostOf_52 {G : Gx} {X : Cx} {res : Int32 × A_W} (K : Ok G X 4 c_M_mostOf 1 (some .int) rm_M_mostOf) (hQ : QQ G X (some (.int res.1)) res.2 0 0) (w : A_W) (h : F_M_mostOf_52 w = some res) : Sm G X w 0 0 [none] [] 52 := by
  unfold F_M_mostOf_52 at h
  refine Sm_run K ek_M_mostOf 10 1 rfl ?_
  cases h
  exact Sm_reti K hQ (eok_i (eo ek_M_mostOf (i := 11) rfl) rfl)
set_option maxHeartbeats 4000000 in
set_option maxRecDepth 100000 in
theorem s_M_mostOf_0 {G : Gx} {X : Cx} {res : Int32 × A_W} (K : Ok G X 4 c_M_mostOf 1 (some .int) rm_M_mostOf) (hQ : QQ G X (some (.int res.1)) res.2 0 0) (x0 : Int32) (w : A_W) (h : F_M_mostOf_0 x0 w = some res) : Sm G X w 0 0 [some (.int x0)] [] 0 := by
  unfold F_M_mostOf_0 at h
  refine Sm_run K ek_M_mostOf 0 1 rfl ?_
  refine Sm_tsw K (eok_d (eo ek_M_mostOf (i := 1) rfl)) [40, 43, 52, 46, 52, 50] 52 (by decide) (by decide) (by decide) (fun j hj hx => ?_) (fun hx => ?_)
  · have hj : j < 6 := hj
    rcases (show j = 0 ∨ j = 1 ∨ j = 2 ∨ j = 3 ∨ j = 4 ∨ j = 5 by omega) with rfl | rfl | rfl | rfl | rfl | rfl
    · have hc : x0 = 0 := Int32.toInt_inj.mp (hx.trans (by decide))
      rw [if_pos hc] at h
      refine Sm_pc (pc1 := 40) rfl ?_
      refine Sm_run K ek_M_mostOf 2 1 rfl ?_
      cases h
      exact Sm_reti K hQ (eok_i (eo ek_M_mostOf (i := 3) rfl) rfl)
    · have hc : x0 = 1 := Int32.toInt_inj.mp (hx.trans (by decide))
      rw [if_neg (by rw [hc]; decide), if_pos hc] at h
      refine Sm_pc (pc1 := 43) rfl ?_
      refine Sm_run K ek_M_mostOf 4 1 rfl ?_
      cases h
      exact Sm_reti K hQ (eok_i (eo ek_M_mostOf (i := 5) rfl) rfl)
    · have hc : x0 = 2 := Int32.toInt_inj.mp (hx.trans (by decide))
      rw [if_neg (by rw [hc]; decide), if_neg (by rw [hc]; decide), if_pos hc] at h
      refine Sm_pc (pc1 := 52) rfl ?_
      exact Sm_le (leR_n leR_nil) (s_M_mostOf_52 K hQ _ h)
    · have hc : x0 = 3 := Int32.toInt_inj.mp (hx.trans (by decide))
      rw [if_neg (by rw [hc]; decide), if_neg (by rw [hc]; decide), if_neg (by rw [hc]; decide), if_pos hc] at h
      refine Sm_pc (pc1 := 46) rfl ?_
      refine Sm_run K ek_M_mostOf 6 1 rfl ?_
      cases h
      exact Sm_reti K hQ (eok_i (eo ek_M_mostOf (i := 7) rfl) rfl)
    · have hc : x0 = 4 := Int32.toInt_inj.mp (hx.trans (by decide))
      rw [if_neg (by rw [hc]; decide), if_neg (by rw [hc]; decide), if_neg (by rw [hc]; decide), if_neg (by rw [hc]; decide), if_pos hc] at h
      refine Sm_pc (pc1 := 52) rfl ?_
      exact Sm_le (leR_n leR_nil) (s_M_mostOf_52 K hQ _ h)
    · have hc : x0 = 5 := Int32.toInt_inj.mp (hx.trans (by decide))
      rw [if_neg (by rw [hc]; decide), if_neg (by rw [hc]; decide), if_neg (by rw [hc]; decide), if_neg (by rw [hc]; decide), if_neg (by rw [hc]; decide), if_pos hc] at h
      refine Sm_pc (pc1 := 50) rfl ?_
      refine Sm_run K ek_M_mostOf 8 1 rfl ?_
      cases h
      exact Sm_reti K hQ (eok_i (eo ek_M_mostOf (i := 9) rfl) rfl)
  · rw [if_neg (fun hc => hx 0 (by decide) (by rw [hc]; decide)), if_neg (fun hc => hx 1 (by decide) (by rw [hc]; decide)), if_neg (fun hc => hx 2 (by decide) (by rw [hc]; decide)), if_neg (fun hc => hx 3 (by decide) (by rw [hc]; decide)), if_neg (fun hc => hx 4 (by decide) (by rw [hc]; decide)), if_neg (fun hc => hx 5 (by decide) (by rw [hc]; decide))] at h
    exact Sm_le (leR_n leR_nil) (s_M_mostOf_52 K hQ _ h)
def F_M_mostOf (x0 : Int32) (w : A_W) : Option (Int32 × A_W) := F_M_mostOf_0 x0 w
theorem cn_M_mostOf {G : Gx} {x0 : Int32} {w : A_W} {res : Int32 × A_W} (h : F_M_mostOf x0 w = some res) : Cn G y_M_mostOf c_M_mostOf 1 (some .int) rm_M_mostOf [.int x0] w (some (.int res.1)) res.2 :=
  Cn_of (own := 4) cy_M_mostOf rfl rfl (Nat.le_of_ble_eq_true rfl) rfl (fun X K _ hQ => Sm_le (leR_s leR_nil) (s_M_mostOf_0 K hQ _ _ h))
/-! EveningCloakModel.change(III)I -/
abbrev c_M_change : ByteArray := prog_6_method_31_code
def y_M_change : MethodName := ⟨"EveningCloakModel", "change", "(III)I"⟩
def rm_M_change : Room := { frames := 2, cells := 0, slots := 0, locals := 43 }
theorem cy_M_change : Cy y_M_change c_M_change 4 (some .int) 3 := ⟨lgm 901 (by decide +kernel) rfl, lgm 73 (by decide +kernel) rfl, by decide +kernel, by decide +kernel⟩
theorem im_M_change : Cond.instanceMethod y_M_change ∈ lg := lgm 899 (by decide +kernel) rfl
theorem se_M_change : Cond.selects y_M_change.cls y_M_change y_M_change ∈ lg := lgm 900 (by decide +kernel) rfl
def e_M_change : List Ent := [
  (0, .aload_n 0, 1, 1, .null, 0, 0, 0),
  (1, .iload_n 1, 1, 2, .null, 0, 0, 0),
  (2, .invokevirtual 88, 3, 5, .null, 0, 0, 0),
  (5, .ifCond .eq 41, 3, 46, .null, 0, 0, 0),
  (8, .iload_n 2, 1, 9, .null, 0, 0, 0),
  (9, .iconst 0, 1, 10, .int 0, 0, 0, 0),
  (10, .iconst 5, 1, 11, .int 5, 0, 0, 0),
  (11, .invokestatic 40, 3, 14, .null, 0, 0, 0),
  (14, .ifCond .eq 32, 3, 46, .null, 0, 0, 0),
  (17, .iload_n 3, 1, 18, .null, 0, 0, 0),
  (18, .iconst 0, 1, 19, .int 0, 0, 0, 0),
  (19, .iload_n 2, 1, 20, .null, 0, 0, 0),
  (20, .invokestatic 97, 3, 23, .null, 0, 0, 0),
  (23, .invokestatic 40, 3, 26, .null, 0, 0, 0),
  (26, .ifCond .eq 20, 3, 46, .null, 0, 0, 0),
  (29, .aload_n 0, 1, 30, .null, 0, 0, 0),
  (30, .bipush 11, 2, 32, .int 11, 0, 0, 0),
  (32, .bipush 6, 2, 34, .int 6, 0, 0, 0),
  (34, .iload_n 1, 1, 35, .null, 0, 0, 0),
  (35, .imul, 1, 36, .null, 0, 0, 0),
  (36, .iadd, 1, 37, .null, 0, 0, 0),
  (37, .iload_n 2, 1, 38, .null, 0, 0, 0),
  (38, .iadd, 1, 39, .null, 0, 0, 0),
  (39, .iload_n 3, 1, 40, .null, 0, 0, 0),
  (40, .invokevirtual 71, 3, 43, .null, 0, 0, 0),
  (43, .goto 9, 3, 52, .null, 0, 0, 0),
  (46, .aload_n 0, 1, 47, .null, 0, 0, 0),
  (47, .ldc 34, 2, 49, .int (-1000001), 0, 0, 825),
  (49, .invokevirtual 36, 3, 52, .null, 0, 0, 0),
  (52, .ireturn, 1, 53, .null, 0, 0, 0)]
set_option maxRecDepth 100000 in
theorem ek_M_change : e_M_change.all (eok 4 c_M_change) = true := by decide +kernel
def F_M_change_52 (y0 : Int32) (w : A_W) : Option (Int32 × A_W) :=
  some (y0, w)
def F_M_change_46 (t : Nat) (w : A_W) : Option (Int32 × A_W) :=
  (ob w t 4).bind fun o2 =>
  (F_M_finds t (-1000001) w).bind fun p1 =>
  F_M_change_52 p1.1 p1.2
def F_M_change_0 (t : Nat) (x1 : Int32) (x2 : Int32) (x3 : Int32) (w : A_W) : Option (Int32 × A_W) :=
  (ob w t 4).bind fun o2 =>
  (F_M_isDeposit t x1 w).bind fun p1 =>
  if p1.1 = 0 then
    F_M_change_46 t p1.2
  else
    (F_M_in x2 0 5 p1.2).bind fun p4 =>
    if p4.1 = 0 then
      F_M_change_46 t p4.2
    else
      (F_M_mostOf x2 p4.2).bind fun p6 =>
      (F_M_in x3 0 p6.1 p6.2).bind fun p7 =>
      if p7.1 = 0 then
        F_M_change_46 t p7.2
      else
        (ob p7.2 t 4).bind fun o10 =>
        (F_M_becomes t ((11 + (6 * x1)) + x2) x3 p7.2).bind fun p9 =>
        F_M_change_52 p9.1 p9.2
set_option maxHeartbeats 4000000 in
set_option maxRecDepth 100000 in
theorem s_M_change_52 {G : Gx} {X : Cx} {res : Int32 × A_W} (K : Ok G X 4 c_M_change 4 (some .int) rm_M_change) (hQ : QQ G X (some (.int res.1)) res.2 0 0) (y0 : Int32) (w : A_W) (h : F_M_change_52 y0 w = some res) : Sm G X w 0 0 [none, none, none, none] [.int y0] 52 := by
  unfold F_M_change_52 at h
  cases h
  exact Sm_reti K hQ (eok_i (eo ek_M_change (i := 29) rfl) rfl)
set_option maxHeartbeats 4000000 in
set_option maxRecDepth 100000 in
theorem s_M_change_46 {G : Gx} {X : Cx} {res : Int32 × A_W} (K : Ok G X 4 c_M_change 4 (some .int) rm_M_change) (hQ : QQ G X (some (.int res.1)) res.2 0 0) (t : Nat) (w : A_W) (h : F_M_change_46 t w = some res) : Sm G X w 0 0 [some (.ref t), none, none, none] [] 46 := by
  unfold F_M_change_46 at h
  refine Sm_run K ek_M_change 26 2 rfl ?_
  obtain ⟨o2, e_o2, h⟩ := Option.bind_eq_some_iff.mp h
  obtain ⟨p1, e_p1, h⟩ := Option.bind_eq_some_iff.mp h
  refine Sm_callV K (eok_i (eo ek_M_change (i := 28) rfl) rfl) cy_M_finds im_M_finds se_M_finds (lgm 826 (by decide +kernel) rfl) ⟨Nat.le_of_ble_eq_true rfl, Nat.le_of_ble_eq_true rfl⟩ (as := [.int (-1000001)]) (b := t) (st := []) (ob_e e_o2) (by decide) rfl rfl rfl rfl (Nat.le_of_ble_eq_true rfl) ⟨Nat.le_of_ble_eq_true rfl, Nat.le_of_ble_eq_true rfl⟩ (cn_M_finds e_p1) ?_
  refine Sm_eq (st1 := .int p1.1 :: []) (nc1 := 0) (ns1 := 0) rfl rfl rfl ?_
  exact Sm_le (leR_n (leR_n (leR_n (leR_n leR_nil)))) (s_M_change_52 K hQ _ _ h)
set_option maxHeartbeats 4000000 in
set_option maxRecDepth 100000 in
theorem s_M_change_0 {G : Gx} {X : Cx} {res : Int32 × A_W} (K : Ok G X 4 c_M_change 4 (some .int) rm_M_change) (hQ : QQ G X (some (.int res.1)) res.2 0 0) (t : Nat) (x1 : Int32) (x2 : Int32) (x3 : Int32) (w : A_W) (h : F_M_change_0 t x1 x2 x3 w = some res) : Sm G X w 0 0 [some (.ref t), some (.int x1), some (.int x2), some (.int x3)] [] 0 := by
  unfold F_M_change_0 at h
  refine Sm_run K ek_M_change 0 2 rfl ?_
  obtain ⟨o2, e_o2, h⟩ := Option.bind_eq_some_iff.mp h
  obtain ⟨p1, e_p1, h⟩ := Option.bind_eq_some_iff.mp h
  refine Sm_callV K (eok_i (eo ek_M_change (i := 2) rfl) rfl) cy_M_isDeposit im_M_isDeposit se_M_isDeposit (lgm 863 (by decide +kernel) rfl) ⟨Nat.le_of_ble_eq_true rfl, Nat.le_of_ble_eq_true rfl⟩ (as := [.int x1]) (b := t) (st := []) (ob_e e_o2) (by decide) rfl rfl rfl rfl (Nat.le_of_ble_eq_true rfl) ⟨Nat.le_of_ble_eq_true rfl, Nat.le_of_ble_eq_true rfl⟩ (cn_M_isDeposit e_p1) ?_
  refine Sm_eq (st1 := .int p1.1 :: []) (nc1 := 0) (ns1 := 0) rfl rfl rfl ?_
  refine Sm_if_eq K (eo ek_M_change (i := 3) rfl) (fun c3 => ?_) (fun c3 => ?_)
  · rw [if_pos c3] at h
    exact Sm_le (leR_s (leR_n (leR_n (leR_n leR_nil)))) (s_M_change_46 K hQ _ _ h)
  · rw [if_neg c3] at h
    refine Sm_run K ek_M_change 4 3 rfl ?_
    obtain ⟨p4, e_p4, h⟩ := Option.bind_eq_some_iff.mp h
    refine Sm_callS K (eok_i (eo ek_M_change (i := 7) rfl) rfl) cy_M_in st_M_in (lgm 815 (by decide +kernel) rfl) ⟨Nat.le_of_ble_eq_true rfl, Nat.le_of_ble_eq_true rfl⟩ (as := [.int x2, .int 0, .int 5]) (st := []) rfl rfl rfl (Nat.le_of_ble_eq_true rfl) ⟨Nat.le_of_ble_eq_true rfl, Nat.le_of_ble_eq_true rfl⟩ (cn_M_in e_p4) ?_
    refine Sm_eq (st1 := .int p4.1 :: []) (nc1 := 0) (ns1 := 0) rfl rfl rfl ?_
    refine Sm_if_eq K (eo ek_M_change (i := 8) rfl) (fun c5 => ?_) (fun c5 => ?_)
    · rw [if_pos c5] at h
      exact Sm_le (leR_s (leR_n (leR_n (leR_n leR_nil)))) (s_M_change_46 K hQ _ _ h)
    · rw [if_neg c5] at h
      refine Sm_run K ek_M_change 9 3 rfl ?_
      obtain ⟨p6, e_p6, h⟩ := Option.bind_eq_some_iff.mp h
      refine Sm_callS K (eok_i (eo ek_M_change (i := 12) rfl) rfl) cy_M_mostOf st_M_mostOf (lgm 902 (by decide +kernel) rfl) ⟨Nat.le_of_ble_eq_true rfl, Nat.le_of_ble_eq_true rfl⟩ (as := [.int x2]) (st := [.int 0, .int x3]) rfl rfl rfl (Nat.le_of_ble_eq_true rfl) ⟨Nat.le_of_ble_eq_true rfl, Nat.le_of_ble_eq_true rfl⟩ (cn_M_mostOf e_p6) ?_
      refine Sm_eq (st1 := .int p6.1 :: [.int 0, .int x3]) (nc1 := 0) (ns1 := 0) rfl rfl rfl ?_
      obtain ⟨p7, e_p7, h⟩ := Option.bind_eq_some_iff.mp h
      refine Sm_callS K (eok_i (eo ek_M_change (i := 13) rfl) rfl) cy_M_in st_M_in (lgm 815 (by decide +kernel) rfl) ⟨Nat.le_of_ble_eq_true rfl, Nat.le_of_ble_eq_true rfl⟩ (as := [.int x3, .int 0, .int p6.1]) (st := []) rfl rfl rfl (Nat.le_of_ble_eq_true rfl) ⟨Nat.le_of_ble_eq_true rfl, Nat.le_of_ble_eq_true rfl⟩ (cn_M_in e_p7) ?_
      refine Sm_eq (st1 := .int p7.1 :: []) (nc1 := 0) (ns1 := 0) rfl rfl rfl ?_
      refine Sm_if_eq K (eo ek_M_change (i := 14) rfl) (fun c8 => ?_) (fun c8 => ?_)
      · rw [if_pos c8] at h
        exact Sm_le (leR_s (leR_n (leR_n (leR_n leR_nil)))) (s_M_change_46 K hQ _ _ h)
      · rw [if_neg c8] at h
        refine Sm_run K ek_M_change 15 9 rfl ?_
        obtain ⟨o10, e_o10, h⟩ := Option.bind_eq_some_iff.mp h
        obtain ⟨p9, e_p9, h⟩ := Option.bind_eq_some_iff.mp h
        refine Sm_callV K (eok_i (eo ek_M_change (i := 24) rfl) rfl) cy_M_becomes im_M_becomes se_M_becomes (lgm 821 (by decide +kernel) rfl) ⟨Nat.le_of_ble_eq_true rfl, Nat.le_of_ble_eq_true rfl⟩ (as := [.int ((11 + (6 * x1)) + x2), .int x3]) (b := t) (st := []) (ob_e e_o10) (by decide) rfl rfl rfl rfl (Nat.le_of_ble_eq_true rfl) ⟨Nat.le_of_ble_eq_true rfl, Nat.le_of_ble_eq_true rfl⟩ (cn_M_becomes e_p9) ?_
        refine Sm_eq (st1 := .int p9.1 :: []) (nc1 := 0) (ns1 := 0) rfl rfl rfl ?_
        refine Sm_run K ek_M_change 25 1 rfl ?_
        exact Sm_le (leR_n (leR_n (leR_n (leR_n leR_nil)))) (s_M_change_52 K hQ _ _ h)
def F_M_change (t : Nat) (x1 : Int32) (x2 : Int32) (x3 : Int32) (w : A_W) : Option (Int32 × A_W) := F_M_change_0 t x1 x2 x3 w
theorem cn_M_change {G : Gx} {t : Nat} {x1 : Int32} {x2 : Int32} {x3 : Int32} {w : A_W} {res : Int32 × A_W} (h : F_M_change t x1 x2 x3 w = some res) : Cn G y_M_change c_M_change 4 (some .int) rm_M_change [.ref t, .int x1, .int x2, .int x3] w (some (.int res.1)) res.2 :=
  Cn_of (own := 4) cy_M_change rfl rfl (Nat.le_of_ble_eq_true rfl) rfl (fun X K _ hQ => Sm_le (leR_s (leR_s (leR_s (leR_s leR_nil)))) (s_M_change_0 K hQ _ _ _ _ _ h))
/-! EveningCloakModel.ofGirl(II)I -/
abbrev c_M_ofGirl : ByteArray := prog_6_method_32_code
def y_M_ofGirl : MethodName := ⟨"EveningCloakModel", "ofGirl", "(II)I"⟩
def rm_M_ofGirl : Room := { frames := 2, cells := 0, slots := 0, locals := 43 }
theorem cy_M_ofGirl : Cy y_M_ofGirl c_M_ofGirl 3 (some .int) 2 := ⟨lgm 908 (by decide +kernel) rfl, lgm 73 (by decide +kernel) rfl, by decide +kernel, by decide +kernel⟩
theorem im_M_ofGirl : Cond.instanceMethod y_M_ofGirl ∈ lg := lgm 906 (by decide +kernel) rfl
theorem se_M_ofGirl : Cond.selects y_M_ofGirl.cls y_M_ofGirl y_M_ofGirl ∈ lg := lgm 907 (by decide +kernel) rfl
def e_M_ofGirl : List Ent := [
  (0, .aload_n 0, 1, 1, .null, 0, 0, 0),
  (1, .iload_n 1, 1, 2, .null, 0, 0, 0),
  (2, .invokevirtual 100, 3, 5, .null, 0, 0, 0),
  (5, .ifCond .eq 21, 3, 26, .null, 0, 0, 0),
  (8, .iload_n 2, 1, 9, .null, 0, 0, 0),
  (9, .iconst 0, 1, 10, .int 0, 0, 0, 0),
  (10, .iconst 2, 1, 11, .int 2, 0, 0, 0),
  (11, .invokestatic 40, 3, 14, .null, 0, 0, 0),
  (14, .ifCond .eq 12, 3, 26, .null, 0, 0, 0),
  (17, .aload_n 0, 1, 18, .null, 0, 0, 0),
  (18, .iload_n 1, 1, 19, .null, 0, 0, 0),
  (19, .iload_n 2, 1, 20, .null, 0, 0, 0),
  (20, .invokevirtual 103, 3, 23, .null, 0, 0, 0),
  (23, .goto 9, 3, 32, .null, 0, 0, 0),
  (26, .aload_n 0, 1, 27, .null, 0, 0, 0),
  (27, .ldc 34, 2, 29, .int (-1000001), 0, 0, 825),
  (29, .invokevirtual 36, 3, 32, .null, 0, 0, 0),
  (32, .ireturn, 1, 33, .null, 0, 0, 0)]
set_option maxRecDepth 100000 in
theorem ek_M_ofGirl : e_M_ofGirl.all (eok 4 c_M_ofGirl) = true := by decide +kernel
def F_M_ofGirl_32 (y0 : Int32) (w : A_W) : Option (Int32 × A_W) :=
  some (y0, w)
def F_M_ofGirl_26 (t : Nat) (w : A_W) : Option (Int32 × A_W) :=
  (ob w t 4).bind fun o2 =>
  (F_M_finds t (-1000001) w).bind fun p1 =>
  F_M_ofGirl_32 p1.1 p1.2
def F_M_ofGirl_0 (t : Nat) (x1 : Int32) (x2 : Int32) (w : A_W) : Option (Int32 × A_W) :=
  (ob w t 4).bind fun o2 =>
  (F_M_isGirl t x1 w).bind fun p1 =>
  if p1.1 = 0 then
    F_M_ofGirl_26 t p1.2
  else
    (F_M_in x2 0 2 p1.2).bind fun p4 =>
    if p4.1 = 0 then
      F_M_ofGirl_26 t p4.2
    else
      (ob p4.2 t 4).bind fun o7 =>
      (F_M_her t x1 x2 p4.2).bind fun p6 =>
      F_M_ofGirl_32 p6.1 p6.2
set_option maxHeartbeats 4000000 in
set_option maxRecDepth 100000 in
theorem s_M_ofGirl_32 {G : Gx} {X : Cx} {res : Int32 × A_W} (K : Ok G X 4 c_M_ofGirl 3 (some .int) rm_M_ofGirl) (hQ : QQ G X (some (.int res.1)) res.2 0 0) (y0 : Int32) (w : A_W) (h : F_M_ofGirl_32 y0 w = some res) : Sm G X w 0 0 [none, none, none] [.int y0] 32 := by
  unfold F_M_ofGirl_32 at h
  cases h
  exact Sm_reti K hQ (eok_i (eo ek_M_ofGirl (i := 17) rfl) rfl)
set_option maxHeartbeats 4000000 in
set_option maxRecDepth 100000 in
theorem s_M_ofGirl_26 {G : Gx} {X : Cx} {res : Int32 × A_W} (K : Ok G X 4 c_M_ofGirl 3 (some .int) rm_M_ofGirl) (hQ : QQ G X (some (.int res.1)) res.2 0 0) (t : Nat) (w : A_W) (h : F_M_ofGirl_26 t w = some res) : Sm G X w 0 0 [some (.ref t), none, none] [] 26 := by
  unfold F_M_ofGirl_26 at h
  refine Sm_run K ek_M_ofGirl 14 2 rfl ?_
  obtain ⟨o2, e_o2, h⟩ := Option.bind_eq_some_iff.mp h
  obtain ⟨p1, e_p1, h⟩ := Option.bind_eq_some_iff.mp h
  refine Sm_callV K (eok_i (eo ek_M_ofGirl (i := 16) rfl) rfl) cy_M_finds im_M_finds se_M_finds (lgm 826 (by decide +kernel) rfl) ⟨Nat.le_of_ble_eq_true rfl, Nat.le_of_ble_eq_true rfl⟩ (as := [.int (-1000001)]) (b := t) (st := []) (ob_e e_o2) (by decide) rfl rfl rfl rfl (Nat.le_of_ble_eq_true rfl) ⟨Nat.le_of_ble_eq_true rfl, Nat.le_of_ble_eq_true rfl⟩ (cn_M_finds e_p1) ?_
  refine Sm_eq (st1 := .int p1.1 :: []) (nc1 := 0) (ns1 := 0) rfl rfl rfl ?_
  exact Sm_le (leR_n (leR_n (leR_n leR_nil))) (s_M_ofGirl_32 K hQ _ _ h)
set_option maxHeartbeats 4000000 in
set_option maxRecDepth 100000 in
theorem s_M_ofGirl_0 {G : Gx} {X : Cx} {res : Int32 × A_W} (K : Ok G X 4 c_M_ofGirl 3 (some .int) rm_M_ofGirl) (hQ : QQ G X (some (.int res.1)) res.2 0 0) (t : Nat) (x1 : Int32) (x2 : Int32) (w : A_W) (h : F_M_ofGirl_0 t x1 x2 w = some res) : Sm G X w 0 0 [some (.ref t), some (.int x1), some (.int x2)] [] 0 := by
  unfold F_M_ofGirl_0 at h
  refine Sm_run K ek_M_ofGirl 0 2 rfl ?_
  obtain ⟨o2, e_o2, h⟩ := Option.bind_eq_some_iff.mp h
  obtain ⟨p1, e_p1, h⟩ := Option.bind_eq_some_iff.mp h
  refine Sm_callV K (eok_i (eo ek_M_ofGirl (i := 2) rfl) rfl) cy_M_isGirl im_M_isGirl se_M_isGirl (lgm 909 (by decide +kernel) rfl) ⟨Nat.le_of_ble_eq_true rfl, Nat.le_of_ble_eq_true rfl⟩ (as := [.int x1]) (b := t) (st := []) (ob_e e_o2) (by decide) rfl rfl rfl rfl (Nat.le_of_ble_eq_true rfl) ⟨Nat.le_of_ble_eq_true rfl, Nat.le_of_ble_eq_true rfl⟩ (cn_M_isGirl e_p1) ?_
  refine Sm_eq (st1 := .int p1.1 :: []) (nc1 := 0) (ns1 := 0) rfl rfl rfl ?_
  refine Sm_if_eq K (eo ek_M_ofGirl (i := 3) rfl) (fun c3 => ?_) (fun c3 => ?_)
  · rw [if_pos c3] at h
    exact Sm_le (leR_s (leR_n (leR_n leR_nil))) (s_M_ofGirl_26 K hQ _ _ h)
  · rw [if_neg c3] at h
    refine Sm_run K ek_M_ofGirl 4 3 rfl ?_
    obtain ⟨p4, e_p4, h⟩ := Option.bind_eq_some_iff.mp h
    refine Sm_callS K (eok_i (eo ek_M_ofGirl (i := 7) rfl) rfl) cy_M_in st_M_in (lgm 815 (by decide +kernel) rfl) ⟨Nat.le_of_ble_eq_true rfl, Nat.le_of_ble_eq_true rfl⟩ (as := [.int x2, .int 0, .int 2]) (st := []) rfl rfl rfl (Nat.le_of_ble_eq_true rfl) ⟨Nat.le_of_ble_eq_true rfl, Nat.le_of_ble_eq_true rfl⟩ (cn_M_in e_p4) ?_
    refine Sm_eq (st1 := .int p4.1 :: []) (nc1 := 0) (ns1 := 0) rfl rfl rfl ?_
    refine Sm_if_eq K (eo ek_M_ofGirl (i := 8) rfl) (fun c5 => ?_) (fun c5 => ?_)
    · rw [if_pos c5] at h
      exact Sm_le (leR_s (leR_n (leR_n leR_nil))) (s_M_ofGirl_26 K hQ _ _ h)
    · rw [if_neg c5] at h
      refine Sm_run K ek_M_ofGirl 9 3 rfl ?_
      obtain ⟨o7, e_o7, h⟩ := Option.bind_eq_some_iff.mp h
      obtain ⟨p6, e_p6, h⟩ := Option.bind_eq_some_iff.mp h
      refine Sm_callV K (eok_i (eo ek_M_ofGirl (i := 12) rfl) rfl) cy_M_her im_M_her se_M_her (lgm 913 (by decide +kernel) rfl) ⟨Nat.le_of_ble_eq_true rfl, Nat.le_of_ble_eq_true rfl⟩ (as := [.int x1, .int x2]) (b := t) (st := []) (ob_e e_o7) (by decide) rfl rfl rfl rfl (Nat.le_of_ble_eq_true rfl) ⟨Nat.le_of_ble_eq_true rfl, Nat.le_of_ble_eq_true rfl⟩ (cn_M_her e_p6) ?_
      refine Sm_eq (st1 := .int p6.1 :: []) (nc1 := 0) (ns1 := 0) rfl rfl rfl ?_
      refine Sm_run K ek_M_ofGirl 13 1 rfl ?_
      exact Sm_le (leR_n (leR_n (leR_n leR_nil))) (s_M_ofGirl_32 K hQ _ _ h)
def F_M_ofGirl (t : Nat) (x1 : Int32) (x2 : Int32) (w : A_W) : Option (Int32 × A_W) := F_M_ofGirl_0 t x1 x2 w
theorem cn_M_ofGirl {G : Gx} {t : Nat} {x1 : Int32} {x2 : Int32} {w : A_W} {res : Int32 × A_W} (h : F_M_ofGirl t x1 x2 w = some res) : Cn G y_M_ofGirl c_M_ofGirl 3 (some .int) rm_M_ofGirl [.ref t, .int x1, .int x2] w (some (.int res.1)) res.2 :=
  Cn_of (own := 4) cy_M_ofGirl rfl rfl (Nat.le_of_ble_eq_true rfl) rfl (fun X K _ hQ => Sm_le (leR_s (leR_s (leR_s leR_nil))) (s_M_ofGirl_0 K hQ _ _ _ _ h))
/-! EveningCloakModel.wake(III)I -/
abbrev c_M_wake : ByteArray := prog_6_method_33_code
def y_M_wake : MethodName := ⟨"EveningCloakModel", "wake", "(III)I"⟩
def rm_M_wake : Room := { frames := 2, cells := 0, slots := 0, locals := 43 }
theorem cy_M_wake : Cy y_M_wake c_M_wake 5 (some .int) 3 := ⟨lgm 920 (by decide +kernel) rfl, lgm 73 (by decide +kernel) rfl, by decide +kernel, by decide +kernel⟩
theorem im_M_wake : Cond.instanceMethod y_M_wake ∈ lg := lgm 918 (by decide +kernel) rfl
theorem se_M_wake : Cond.selects y_M_wake.cls y_M_wake y_M_wake ∈ lg := lgm 919 (by decide +kernel) rfl
def e_M_wake : List Ent := [
  (0, .aload_n 0, 1, 1, .null, 0, 0, 0),
  (1, .iload_n 1, 1, 2, .null, 0, 0, 0),
  (2, .invokevirtual 100, 3, 5, .null, 0, 0, 0),
  (5, .ifCond .eq 46, 3, 51, .null, 0, 0, 0),
  (8, .iload_n 2, 1, 9, .null, 0, 0, 0),
  (9, .iconst 0, 1, 10, .int 0, 0, 0, 0),
  (10, .iconst 2, 1, 11, .int 2, 0, 0, 0),
  (11, .invokestatic 40, 3, 14, .null, 0, 0, 0),
  (14, .ifCond .eq 37, 3, 51, .null, 0, 0, 0),
  (17, .iload_n 3, 1, 18, .null, 0, 0, 0),
  (18, .iload_n 2, 1, 19, .null, 0, 0, 0),
  (19, .iconst 1, 1, 20, .int 1, 0, 0, 0),
  (20, .if_icmp .ne 7, 3, 27, .null, 0, 0, 0),
  (23, .iconst 1, 1, 24, .int 1, 0, 0, 0),
  (24, .goto 4, 3, 28, .null, 0, 0, 0),
  (27, .iconst 0, 1, 28, .int 0, 0, 0, 0),
  (28, .iload_n 2, 1, 29, .null, 0, 0, 0),
  (29, .iconst 2, 1, 30, .int 2, 0, 0, 0),
  (30, .if_icmp .ne 9, 3, 39, .null, 0, 0, 0),
  (33, .sipush 9999, 3, 36, .int 9999, 0, 0, 0),
  (36, .goto 5, 3, 41, .null, 0, 0, 0),
  (39, .bipush 99, 2, 41, .int 99, 0, 0, 0),
  (41, .invokestatic 40, 3, 44, .null, 0, 0, 0),
  (44, .ifCond .eq 7, 3, 51, .null, 0, 0, 0),
  (47, .iconst 1, 1, 48, .int 1, 0, 0, 0),
  (48, .goto 4, 3, 52, .null, 0, 0, 0),
  (51, .iconst 0, 1, 52, .int 0, 0, 0, 0),
  (52, .istore 4, 2, 54, .null, 0, 0, 0),
  (54, .iload 4, 2, 56, .null, 0, 0, 0),
  (56, .ifCond .eq 19, 3, 75, .null, 0, 0, 0),
  (59, .aload_n 0, 1, 60, .null, 0, 0, 0),
  (60, .bipush 59, 2, 62, .int 59, 0, 0, 0),
  (62, .iconst 3, 1, 63, .int 3, 0, 0, 0),
  (63, .iload_n 1, 1, 64, .null, 0, 0, 0),
  (64, .imul, 1, 65, .null, 0, 0, 0),
  (65, .iadd, 1, 66, .null, 0, 0, 0),
  (66, .iload_n 2, 1, 67, .null, 0, 0, 0),
  (67, .iadd, 1, 68, .null, 0, 0, 0),
  (68, .iload_n 3, 1, 69, .null, 0, 0, 0),
  (69, .invokevirtual 71, 3, 72, .null, 0, 0, 0),
  (72, .goto 9, 3, 81, .null, 0, 0, 0),
  (75, .aload_n 0, 1, 76, .null, 0, 0, 0),
  (76, .ldc 34, 2, 78, .int (-1000001), 0, 0, 825),
  (78, .invokevirtual 36, 3, 81, .null, 0, 0, 0),
  (81, .ireturn, 1, 82, .null, 0, 0, 0)]
set_option maxRecDepth 100000 in
theorem ek_M_wake : e_M_wake.all (eok 4 c_M_wake) = true := by decide +kernel
def F_M_wake_81 (y0 : Int32) (w : A_W) : Option (Int32 × A_W) :=
  some (y0, w)
def F_M_wake_52 (t : Nat) (x1 : Int32) (x2 : Int32) (x3 : Int32) (y0 : Int32) (w : A_W) : Option (Int32 × A_W) :=
  if y0 = 0 then
    (ob w t 4).bind fun o3 =>
    (F_M_finds t (-1000001) w).bind fun p2 =>
    F_M_wake_81 p2.1 p2.2
  else
    (ob w t 4).bind fun o5 =>
    (F_M_becomes t ((59 + (3 * x1)) + x2) x3 w).bind fun p4 =>
    F_M_wake_81 p4.1 p4.2
def F_M_wake_51 (t : Nat) (x1 : Int32) (x2 : Int32) (x3 : Int32) (w : A_W) : Option (Int32 × A_W) :=
  F_M_wake_52 t x1 x2 x3 0 w
def F_M_wake_41 (t : Nat) (x1 : Int32) (x2 : Int32) (x3 : Int32) (y0 : Int32) (y1 : Int32) (y2 : Int32) (w : A_W) : Option (Int32 × A_W) :=
  (F_M_in y0 y1 y2 w).bind fun p1 =>
  if p1.1 = 0 then
    F_M_wake_51 t x1 x2 x3 p1.2
  else
    F_M_wake_52 t x1 x2 x3 1 p1.2
def F_M_wake_28 (t : Nat) (x1 : Int32) (x2 : Int32) (x3 : Int32) (y0 : Int32) (y1 : Int32) (w : A_W) : Option (Int32 × A_W) :=
  if x2 = 2 then
    F_M_wake_41 t x1 x2 x3 y0 y1 9999 w
  else
    F_M_wake_41 t x1 x2 x3 y0 y1 99 w
def F_M_wake_0 (t : Nat) (x1 : Int32) (x2 : Int32) (x3 : Int32) (w : A_W) : Option (Int32 × A_W) :=
  (ob w t 4).bind fun o2 =>
  (F_M_isGirl t x1 w).bind fun p1 =>
  if p1.1 = 0 then
    F_M_wake_51 t x1 x2 x3 p1.2
  else
    (F_M_in x2 0 2 p1.2).bind fun p4 =>
    if p4.1 = 0 then
      F_M_wake_51 t x1 x2 x3 p4.2
    else
      if x2 = 1 then
        F_M_wake_28 t x1 x2 x3 x3 1 p4.2
      else
        F_M_wake_28 t x1 x2 x3 x3 0 p4.2
set_option maxHeartbeats 4000000 in
set_option maxRecDepth 100000 in
theorem s_M_wake_81 {G : Gx} {X : Cx} {res : Int32 × A_W} (K : Ok G X 4 c_M_wake 5 (some .int) rm_M_wake) (hQ : QQ G X (some (.int res.1)) res.2 0 0) (y0 : Int32) (w : A_W) (h : F_M_wake_81 y0 w = some res) : Sm G X w 0 0 [none, none, none, none, none] [.int y0] 81 := by
  unfold F_M_wake_81 at h
  cases h
  exact Sm_reti K hQ (eok_i (eo ek_M_wake (i := 44) rfl) rfl)
set_option maxHeartbeats 4000000 in
set_option maxRecDepth 100000 in
theorem s_M_wake_52 {G : Gx} {X : Cx} {res : Int32 × A_W} (K : Ok G X 4 c_M_wake 5 (some .int) rm_M_wake) (hQ : QQ G X (some (.int res.1)) res.2 0 0) (t : Nat) (x1 : Int32) (x2 : Int32) (x3 : Int32) (y0 : Int32) (w : A_W) (h : F_M_wake_52 t x1 x2 x3 y0 w = some res) : Sm G X w 0 0 [some (.ref t), some (.int x1), some (.int x2), some (.int x3), none] [.int y0] 52 := by
  unfold F_M_wake_52 at h
  refine Sm_run K ek_M_wake 27 2 rfl ?_
  refine Sm_if_eq K (eo ek_M_wake (i := 29) rfl) (fun c1 => ?_) (fun c1 => ?_)
  · rw [if_pos c1] at h
    refine Sm_run K ek_M_wake 41 2 rfl ?_
    obtain ⟨o3, e_o3, h⟩ := Option.bind_eq_some_iff.mp h
    obtain ⟨p2, e_p2, h⟩ := Option.bind_eq_some_iff.mp h
    refine Sm_callV K (eok_i (eo ek_M_wake (i := 43) rfl) rfl) cy_M_finds im_M_finds se_M_finds (lgm 826 (by decide +kernel) rfl) ⟨Nat.le_of_ble_eq_true rfl, Nat.le_of_ble_eq_true rfl⟩ (as := [.int (-1000001)]) (b := t) (st := []) (ob_e e_o3) (by decide) rfl rfl rfl rfl (Nat.le_of_ble_eq_true rfl) ⟨Nat.le_of_ble_eq_true rfl, Nat.le_of_ble_eq_true rfl⟩ (cn_M_finds e_p2) ?_
    refine Sm_eq (st1 := .int p2.1 :: []) (nc1 := 0) (ns1 := 0) rfl rfl rfl ?_
    exact Sm_le (leR_n (leR_n (leR_n (leR_n (leR_n leR_nil))))) (s_M_wake_81 K hQ _ _ h)
  · rw [if_neg c1] at h
    refine Sm_run K ek_M_wake 30 9 rfl ?_
    obtain ⟨o5, e_o5, h⟩ := Option.bind_eq_some_iff.mp h
    obtain ⟨p4, e_p4, h⟩ := Option.bind_eq_some_iff.mp h
    refine Sm_callV K (eok_i (eo ek_M_wake (i := 39) rfl) rfl) cy_M_becomes im_M_becomes se_M_becomes (lgm 821 (by decide +kernel) rfl) ⟨Nat.le_of_ble_eq_true rfl, Nat.le_of_ble_eq_true rfl⟩ (as := [.int ((59 + (3 * x1)) + x2), .int x3]) (b := t) (st := []) (ob_e e_o5) (by decide) rfl rfl rfl rfl (Nat.le_of_ble_eq_true rfl) ⟨Nat.le_of_ble_eq_true rfl, Nat.le_of_ble_eq_true rfl⟩ (cn_M_becomes e_p4) ?_
    refine Sm_eq (st1 := .int p4.1 :: []) (nc1 := 0) (ns1 := 0) rfl rfl rfl ?_
    refine Sm_run K ek_M_wake 40 1 rfl ?_
    exact Sm_le (leR_n (leR_n (leR_n (leR_n (leR_n leR_nil))))) (s_M_wake_81 K hQ _ _ h)
set_option maxHeartbeats 4000000 in
set_option maxRecDepth 100000 in
theorem s_M_wake_51 {G : Gx} {X : Cx} {res : Int32 × A_W} (K : Ok G X 4 c_M_wake 5 (some .int) rm_M_wake) (hQ : QQ G X (some (.int res.1)) res.2 0 0) (t : Nat) (x1 : Int32) (x2 : Int32) (x3 : Int32) (w : A_W) (h : F_M_wake_51 t x1 x2 x3 w = some res) : Sm G X w 0 0 [some (.ref t), some (.int x1), some (.int x2), some (.int x3), none] [] 51 := by
  unfold F_M_wake_51 at h
  refine Sm_run K ek_M_wake 26 1 rfl ?_
  exact Sm_le (leR_s (leR_s (leR_s (leR_s (leR_n leR_nil))))) (s_M_wake_52 K hQ _ _ _ _ _ _ h)
set_option maxHeartbeats 4000000 in
set_option maxRecDepth 100000 in
theorem s_M_wake_41 {G : Gx} {X : Cx} {res : Int32 × A_W} (K : Ok G X 4 c_M_wake 5 (some .int) rm_M_wake) (hQ : QQ G X (some (.int res.1)) res.2 0 0) (t : Nat) (x1 : Int32) (x2 : Int32) (x3 : Int32) (y0 : Int32) (y1 : Int32) (y2 : Int32) (w : A_W) (h : F_M_wake_41 t x1 x2 x3 y0 y1 y2 w = some res) : Sm G X w 0 0 [some (.ref t), some (.int x1), some (.int x2), some (.int x3), none] [.int y2, .int y1, .int y0] 41 := by
  unfold F_M_wake_41 at h
  obtain ⟨p1, e_p1, h⟩ := Option.bind_eq_some_iff.mp h
  refine Sm_callS K (eok_i (eo ek_M_wake (i := 22) rfl) rfl) cy_M_in st_M_in (lgm 815 (by decide +kernel) rfl) ⟨Nat.le_of_ble_eq_true rfl, Nat.le_of_ble_eq_true rfl⟩ (as := [.int y0, .int y1, .int y2]) (st := []) rfl rfl rfl (Nat.le_of_ble_eq_true rfl) ⟨Nat.le_of_ble_eq_true rfl, Nat.le_of_ble_eq_true rfl⟩ (cn_M_in e_p1) ?_
  refine Sm_eq (st1 := .int p1.1 :: []) (nc1 := 0) (ns1 := 0) rfl rfl rfl ?_
  refine Sm_if_eq K (eo ek_M_wake (i := 23) rfl) (fun c2 => ?_) (fun c2 => ?_)
  · rw [if_pos c2] at h
    exact Sm_le (leR_s (leR_s (leR_s (leR_s (leR_n leR_nil))))) (s_M_wake_51 K hQ _ _ _ _ _ h)
  · rw [if_neg c2] at h
    refine Sm_run K ek_M_wake 24 2 rfl ?_
    exact Sm_le (leR_s (leR_s (leR_s (leR_s (leR_n leR_nil))))) (s_M_wake_52 K hQ _ _ _ _ _ _ h)
set_option maxHeartbeats 4000000 in
set_option maxRecDepth 100000 in
theorem s_M_wake_28 {G : Gx} {X : Cx} {res : Int32 × A_W} (K : Ok G X 4 c_M_wake 5 (some .int) rm_M_wake) (hQ : QQ G X (some (.int res.1)) res.2 0 0) (t : Nat) (x1 : Int32) (x2 : Int32) (x3 : Int32) (y0 : Int32) (y1 : Int32) (w : A_W) (h : F_M_wake_28 t x1 x2 x3 y0 y1 w = some res) : Sm G X w 0 0 [some (.ref t), some (.int x1), some (.int x2), some (.int x3), none] [.int y1, .int y0] 28 := by
  unfold F_M_wake_28 at h
  refine Sm_run K ek_M_wake 16 2 rfl ?_
  refine Sm_ic_ne K (eo ek_M_wake (i := 18) rfl) (fun c1 => ?_) (fun c1 => ?_)
  · rw [if_neg c1] at h
    refine Sm_run K ek_M_wake 21 1 rfl ?_
    exact Sm_le (leR_s (leR_s (leR_s (leR_s (leR_n leR_nil))))) (s_M_wake_41 K hQ _ _ _ _ _ _ _ _ h)
  · rw [if_pos c1] at h
    refine Sm_run K ek_M_wake 19 2 rfl ?_
    exact Sm_le (leR_s (leR_s (leR_s (leR_s (leR_n leR_nil))))) (s_M_wake_41 K hQ _ _ _ _ _ _ _ _ h)
set_option maxHeartbeats 4000000 in
set_option maxRecDepth 100000 in
theorem s_M_wake_0 {G : Gx} {X : Cx} {res : Int32 × A_W} (K : Ok G X 4 c_M_wake 5 (some .int) rm_M_wake) (hQ : QQ G X (some (.int res.1)) res.2 0 0) (t : Nat) (x1 : Int32) (x2 : Int32) (x3 : Int32) (w : A_W) (h : F_M_wake_0 t x1 x2 x3 w = some res) : Sm G X w 0 0 [some (.ref t), some (.int x1), some (.int x2), some (.int x3), none] [] 0 := by
  unfold F_M_wake_0 at h
  refine Sm_run K ek_M_wake 0 2 rfl ?_
  obtain ⟨o2, e_o2, h⟩ := Option.bind_eq_some_iff.mp h
  obtain ⟨p1, e_p1, h⟩ := Option.bind_eq_some_iff.mp h
  refine Sm_callV K (eok_i (eo ek_M_wake (i := 2) rfl) rfl) cy_M_isGirl im_M_isGirl se_M_isGirl (lgm 909 (by decide +kernel) rfl) ⟨Nat.le_of_ble_eq_true rfl, Nat.le_of_ble_eq_true rfl⟩ (as := [.int x1]) (b := t) (st := []) (ob_e e_o2) (by decide) rfl rfl rfl rfl (Nat.le_of_ble_eq_true rfl) ⟨Nat.le_of_ble_eq_true rfl, Nat.le_of_ble_eq_true rfl⟩ (cn_M_isGirl e_p1) ?_
  refine Sm_eq (st1 := .int p1.1 :: []) (nc1 := 0) (ns1 := 0) rfl rfl rfl ?_
  refine Sm_if_eq K (eo ek_M_wake (i := 3) rfl) (fun c3 => ?_) (fun c3 => ?_)
  · rw [if_pos c3] at h
    exact Sm_le (leR_s (leR_s (leR_s (leR_s (leR_n leR_nil))))) (s_M_wake_51 K hQ _ _ _ _ _ h)
  · rw [if_neg c3] at h
    refine Sm_run K ek_M_wake 4 3 rfl ?_
    obtain ⟨p4, e_p4, h⟩ := Option.bind_eq_some_iff.mp h
    refine Sm_callS K (eok_i (eo ek_M_wake (i := 7) rfl) rfl) cy_M_in st_M_in (lgm 815 (by decide +kernel) rfl) ⟨Nat.le_of_ble_eq_true rfl, Nat.le_of_ble_eq_true rfl⟩ (as := [.int x2, .int 0, .int 2]) (st := []) rfl rfl rfl (Nat.le_of_ble_eq_true rfl) ⟨Nat.le_of_ble_eq_true rfl, Nat.le_of_ble_eq_true rfl⟩ (cn_M_in e_p4) ?_
    refine Sm_eq (st1 := .int p4.1 :: []) (nc1 := 0) (ns1 := 0) rfl rfl rfl ?_
    refine Sm_if_eq K (eo ek_M_wake (i := 8) rfl) (fun c5 => ?_) (fun c5 => ?_)
    · rw [if_pos c5] at h
      exact Sm_le (leR_s (leR_s (leR_s (leR_s (leR_n leR_nil))))) (s_M_wake_51 K hQ _ _ _ _ _ h)
    · rw [if_neg c5] at h
      refine Sm_run K ek_M_wake 9 3 rfl ?_
      refine Sm_ic_ne K (eo ek_M_wake (i := 12) rfl) (fun c6 => ?_) (fun c6 => ?_)
      · rw [if_neg c6] at h
        refine Sm_run K ek_M_wake 15 1 rfl ?_
        exact Sm_le (leR_s (leR_s (leR_s (leR_s (leR_n leR_nil))))) (s_M_wake_28 K hQ _ _ _ _ _ _ _ h)
      · rw [if_pos c6] at h
        refine Sm_run K ek_M_wake 13 2 rfl ?_
        exact Sm_le (leR_s (leR_s (leR_s (leR_s (leR_n leR_nil))))) (s_M_wake_28 K hQ _ _ _ _ _ _ _ h)
def F_M_wake (t : Nat) (x1 : Int32) (x2 : Int32) (x3 : Int32) (w : A_W) : Option (Int32 × A_W) := F_M_wake_0 t x1 x2 x3 w
theorem cn_M_wake {G : Gx} {t : Nat} {x1 : Int32} {x2 : Int32} {x3 : Int32} {w : A_W} {res : Int32 × A_W} (h : F_M_wake t x1 x2 x3 w = some res) : Cn G y_M_wake c_M_wake 5 (some .int) rm_M_wake [.ref t, .int x1, .int x2, .int x3] w (some (.int res.1)) res.2 :=
  Cn_of (own := 4) cy_M_wake rfl rfl (Nat.le_of_ble_eq_true rfl) rfl (fun X K _ hQ => Sm_le (leR_s (leR_s (leR_s (leR_s (leR_n leR_nil))))) (s_M_wake_0 K hQ _ _ _ _ _ h))
/-! EveningCloakModel.light(I)I -/
abbrev c_M_light : ByteArray := prog_6_method_34_code
def y_M_light : MethodName := ⟨"EveningCloakModel", "light", "(I)I"⟩
def rm_M_light : Room := { frames := 3, cells := 0, slots := 0, locals := 69 }
theorem cy_M_light : Cy y_M_light c_M_light 2 (some .int) 1 := ⟨lgm 924 (by decide +kernel) rfl, lgm 73 (by decide +kernel) rfl, by decide +kernel, by decide +kernel⟩
theorem im_M_light : Cond.instanceMethod y_M_light ∈ lg := lgm 922 (by decide +kernel) rfl
theorem se_M_light : Cond.selects y_M_light.cls y_M_light y_M_light ∈ lg := lgm 923 (by decide +kernel) rfl
def e_M_light : List Ent := [
  (0, .iload_n 1, 1, 1, .null, 0, 0, 0),
  (1, .invokestatic 68, 3, 4, .null, 0, 0, 0),
  (4, .ifCond .eq 11, 3, 15, .null, 0, 0, 0),
  (7, .aload_n 0, 1, 8, .null, 0, 0, 0),
  (8, .iload_n 1, 1, 9, .null, 0, 0, 0),
  (9, .invokevirtual 62, 3, 12, .null, 0, 0, 0),
  (12, .goto 9, 3, 21, .null, 0, 0, 0),
  (15, .aload_n 0, 1, 16, .null, 0, 0, 0),
  (16, .ldc 34, 2, 18, .int (-1000001), 0, 0, 825),
  (18, .invokevirtual 36, 3, 21, .null, 0, 0, 0),
  (21, .ireturn, 1, 22, .null, 0, 0, 0)]
set_option maxRecDepth 100000 in
theorem ek_M_light : e_M_light.all (eok 4 c_M_light) = true := by decide +kernel
def F_M_light_21 (y0 : Int32) (w : A_W) : Option (Int32 × A_W) :=
  some (y0, w)
def F_M_light_0 (t : Nat) (x1 : Int32) (w : A_W) : Option (Int32 × A_W) :=
  (F_M_isHanger x1 w).bind fun p1 =>
  if p1.1 = 0 then
    (ob p1.2 t 4).bind fun o4 =>
    (F_M_finds t (-1000001) p1.2).bind fun p3 =>
    F_M_light_21 p3.1 p3.2
  else
    (ob p1.2 t 4).bind fun o6 =>
    (F_M_lightAt t x1 p1.2).bind fun p5 =>
    F_M_light_21 p5.1 p5.2
set_option maxHeartbeats 4000000 in
set_option maxRecDepth 100000 in
theorem s_M_light_21 {G : Gx} {X : Cx} {res : Int32 × A_W} (K : Ok G X 4 c_M_light 2 (some .int) rm_M_light) (hQ : QQ G X (some (.int res.1)) res.2 0 0) (y0 : Int32) (w : A_W) (h : F_M_light_21 y0 w = some res) : Sm G X w 0 0 [none, none] [.int y0] 21 := by
  unfold F_M_light_21 at h
  cases h
  exact Sm_reti K hQ (eok_i (eo ek_M_light (i := 10) rfl) rfl)
set_option maxHeartbeats 4000000 in
set_option maxRecDepth 100000 in
theorem s_M_light_0 {G : Gx} {X : Cx} {res : Int32 × A_W} (K : Ok G X 4 c_M_light 2 (some .int) rm_M_light) (hQ : QQ G X (some (.int res.1)) res.2 0 0) (t : Nat) (x1 : Int32) (w : A_W) (h : F_M_light_0 t x1 w = some res) : Sm G X w 0 0 [some (.ref t), some (.int x1)] [] 0 := by
  unfold F_M_light_0 at h
  refine Sm_run K ek_M_light 0 1 rfl ?_
  obtain ⟨p1, e_p1, h⟩ := Option.bind_eq_some_iff.mp h
  refine Sm_callS K (eok_i (eo ek_M_light (i := 1) rfl) rfl) cy_M_isHanger st_M_isHanger (lgm 818 (by decide +kernel) rfl) ⟨Nat.le_of_ble_eq_true rfl, Nat.le_of_ble_eq_true rfl⟩ (as := [.int x1]) (st := []) rfl rfl rfl (Nat.le_of_ble_eq_true rfl) ⟨Nat.le_of_ble_eq_true rfl, Nat.le_of_ble_eq_true rfl⟩ (cn_M_isHanger e_p1) ?_
  refine Sm_eq (st1 := .int p1.1 :: []) (nc1 := 0) (ns1 := 0) rfl rfl rfl ?_
  refine Sm_if_eq K (eo ek_M_light (i := 2) rfl) (fun c2 => ?_) (fun c2 => ?_)
  · rw [if_pos c2] at h
    refine Sm_run K ek_M_light 7 2 rfl ?_
    obtain ⟨o4, e_o4, h⟩ := Option.bind_eq_some_iff.mp h
    obtain ⟨p3, e_p3, h⟩ := Option.bind_eq_some_iff.mp h
    refine Sm_callV K (eok_i (eo ek_M_light (i := 9) rfl) rfl) cy_M_finds im_M_finds se_M_finds (lgm 826 (by decide +kernel) rfl) ⟨Nat.le_of_ble_eq_true rfl, Nat.le_of_ble_eq_true rfl⟩ (as := [.int (-1000001)]) (b := t) (st := []) (ob_e e_o4) (by decide) rfl rfl rfl rfl (Nat.le_of_ble_eq_true rfl) ⟨Nat.le_of_ble_eq_true rfl, Nat.le_of_ble_eq_true rfl⟩ (cn_M_finds e_p3) ?_
    refine Sm_eq (st1 := .int p3.1 :: []) (nc1 := 0) (ns1 := 0) rfl rfl rfl ?_
    exact Sm_le (leR_n (leR_n leR_nil)) (s_M_light_21 K hQ _ _ h)
  · rw [if_neg c2] at h
    refine Sm_run K ek_M_light 3 2 rfl ?_
    obtain ⟨o6, e_o6, h⟩ := Option.bind_eq_some_iff.mp h
    obtain ⟨p5, e_p5, h⟩ := Option.bind_eq_some_iff.mp h
    refine Sm_callV K (eok_i (eo ek_M_light (i := 5) rfl) rfl) cy_M_lightAt im_M_lightAt se_M_lightAt (lgm 886 (by decide +kernel) rfl) ⟨Nat.le_of_ble_eq_true rfl, Nat.le_of_ble_eq_true rfl⟩ (as := [.int x1]) (b := t) (st := []) (ob_e e_o6) (by decide) rfl rfl rfl rfl (Nat.le_of_ble_eq_true rfl) ⟨Nat.le_of_ble_eq_true rfl, Nat.le_of_ble_eq_true rfl⟩ (cn_M_lightAt e_p5) ?_
    refine Sm_eq (st1 := .int p5.1 :: []) (nc1 := 0) (ns1 := 0) rfl rfl rfl ?_
    refine Sm_run K ek_M_light 6 1 rfl ?_
    exact Sm_le (leR_n (leR_n leR_nil)) (s_M_light_21 K hQ _ _ h)
def F_M_light (t : Nat) (x1 : Int32) (w : A_W) : Option (Int32 × A_W) := F_M_light_0 t x1 w
theorem cn_M_light {G : Gx} {t : Nat} {x1 : Int32} {w : A_W} {res : Int32 × A_W} (h : F_M_light t x1 w = some res) : Cn G y_M_light c_M_light 2 (some .int) rm_M_light [.ref t, .int x1] w (some (.int res.1)) res.2 :=
  Cn_of (own := 4) cy_M_light rfl rfl (Nat.le_of_ble_eq_true rfl) rfl (fun X K _ hQ => Sm_le (leR_s (leR_s leR_nil)) (s_M_light_0 K hQ _ _ _ h))
/-! EveningCloakModel.call(I)I -/
abbrev c_M_call : ByteArray := prog_6_method_35_code
def y_M_call : MethodName := ⟨"EveningCloakModel", "call", "(I)I"⟩
def rm_M_call : Room := { frames := 2, cells := 0, slots := 0, locals := 43 }
theorem cy_M_call : Cy y_M_call c_M_call 4 (some .int) 1 := ⟨lgm 928 (by decide +kernel) rfl, lgm 73 (by decide +kernel) rfl, by decide +kernel, by decide +kernel⟩
theorem im_M_call : Cond.instanceMethod y_M_call ∈ lg := lgm 926 (by decide +kernel) rfl
theorem se_M_call : Cond.selects y_M_call.cls y_M_call y_M_call ∈ lg := lgm 927 (by decide +kernel) rfl
def e_M_call : List Ent := [
  (0, .iload_n 1, 1, 1, .null, 0, 0, 0),
  (1, .iconst 0, 1, 2, .int 0, 0, 0, 0),
  (2, .bipush 99, 2, 4, .int 99, 0, 0, 0),
  (4, .invokestatic 40, 3, 7, .null, 0, 0, 0),
  (7, .ifCond .ne 10, 3, 17, .null, 0, 0, 0),
  (10, .aload_n 0, 1, 11, .null, 0, 0, 0),
  (11, .ldc 34, 2, 13, .int (-1000001), 0, 0, 825),
  (13, .invokevirtual 36, 3, 16, .null, 0, 0, 0),
  (16, .ireturn, 1, 17, .null, 0, 0, 0),
  (17, .iconst (-1), 1, 18, .int (-1), 0, 0, 0),
  (18, .istore_n 2, 1, 19, .null, 0, 0, 0),
  (19, .aload_n 0, 1, 20, .null, 0, 0, 0),
  (20, .getfield 9, 3, 23, .null, 4, 0, 762),
  (23, .iconst 3, 1, 24, .int 3, 0, 0, 0),
  (24, .iaload, 1, 25, .null, 0, 0, 0),
  (25, .iconst 1, 1, 26, .int 1, 0, 0, 0),
  (26, .isub, 1, 27, .null, 0, 0, 0),
  (27, .istore_n 3, 1, 28, .null, 0, 0, 0),
  (28, .iload_n 3, 1, 29, .null, 0, 0, 0),
  (29, .ifCond .lt 33, 3, 62, .null, 0, 0, 0),
  (32, .aload_n 0, 1, 33, .null, 0, 0, 0),
  (33, .iload_n 3, 1, 34, .null, 0, 0, 0),
  (34, .invokevirtual 55, 3, 37, .null, 0, 0, 0),
  (37, .ifCond .eq 17, 3, 54, .null, 0, 0, 0),
  (40, .aload_n 0, 1, 41, .null, 0, 0, 0),
  (41, .iload_n 3, 1, 42, .null, 0, 0, 0),
  (42, .iconst 2, 1, 43, .int 2, 0, 0, 0),
  (43, .invokevirtual 44, 3, 46, .null, 0, 0, 0),
  (46, .iload_n 1, 1, 47, .null, 0, 0, 0),
  (47, .if_icmp .ne 7, 3, 54, .null, 0, 0, 0),
  (50, .iload_n 3, 1, 51, .null, 0, 0, 0),
  (51, .goto 4, 3, 55, .null, 0, 0, 0),
  (54, .iload_n 2, 1, 55, .null, 0, 0, 0),
  (55, .istore_n 2, 1, 56, .null, 0, 0, 0),
  (56, .iinc 3 (-1), 3, 59, .int (-1), 0, 0, 0),
  (59, .goto (-31), 3, 28, .null, 0, 0, 0),
  (62, .iload_n 2, 1, 63, .null, 0, 0, 0),
  (63, .ifCond .lt 10, 3, 73, .null, 0, 0, 0),
  (66, .aload_n 0, 1, 67, .null, 0, 0, 0),
  (67, .iload_n 2, 1, 68, .null, 0, 0, 0),
  (68, .iconst 5, 1, 69, .int 5, 0, 0, 0),
  (69, .iconst 1, 1, 70, .int 1, 0, 0, 0),
  (70, .invokevirtual 74, 3, 73, .null, 0, 0, 0),
  (73, .aload_n 0, 1, 74, .null, 0, 0, 0),
  (74, .iload_n 2, 1, 75, .null, 0, 0, 0),
  (75, .invokevirtual 106, 3, 78, .null, 0, 0, 0),
  (78, .ireturn, 1, 79, .null, 0, 0, 0)]
set_option maxRecDepth 100000 in
theorem ek_M_call : e_M_call.all (eok 4 c_M_call) = true := by decide +kernel
def F_M_call_55 (k28 : Nat → Int32 → Int32 → Int32 → A_W → Option (Int32 × A_W)) (t : Nat) (x1 : Int32) (x3 : Int32) (y0 : Int32) (w : A_W) : Option (Int32 × A_W) :=
  k28 t x1 y0 (x3 + (-1)) w
def F_M_call_54 (k28 : Nat → Int32 → Int32 → Int32 → A_W → Option (Int32 × A_W)) (t : Nat) (x1 : Int32) (x2 : Int32) (x3 : Int32) (w : A_W) : Option (Int32 × A_W) :=
  F_M_call_55 k28 t x1 x3 x2 w
def F_M_call_73 (t : Nat) (x2 : Int32) (w : A_W) : Option (Int32 × A_W) :=
  (ob w t 4).bind fun o2 =>
  (F_M_orNone t x2 w).bind fun p1 =>
  some (p1.1, p1.2)
def F_M_call_28 : Nat → Nat → Int32 → Int32 → Int32 → A_W → Option (Int32 × A_W)
  | 0, _, _, _, _, _ => none
  | n + 1, t, x1, x2, x3, w =>
    if x3 < 0 then
      if x2 < 0 then
        F_M_call_73 t x2 w
      else
        (ob w t 4).bind fun o4 =>
        (F_M_put t x2 5 1 w).bind fun p3 =>
        F_M_call_73 t x2 p3
    else
      (ob w t 4).bind fun o6 =>
      (F_M_isHere t x3 w).bind fun p5 =>
      if p5.1 = 0 then
        F_M_call_54 (F_M_call_28 n) t x1 x2 x3 p5.2
      else
        (ob p5.2 t 4).bind fun o9 =>
        (F_M_it t x3 2 p5.2).bind fun p8 =>
        if p8.1 = x1 then
          F_M_call_55 (F_M_call_28 n) t x1 x3 x3 p8.2
        else
          F_M_call_54 (F_M_call_28 n) t x1 x2 x3 p8.2
def F_M_call_0 (t : Nat) (x1 : Int32) (w : A_W) : Option (Int32 × A_W) :=
  (F_M_in x1 0 99 w).bind fun p1 =>
  if p1.1 = 0 then
    (ob p1.2 t 4).bind fun o6 =>
    (F_M_finds t (-1000001) p1.2).bind fun p5 =>
    some (p5.1, p5.2)
  else
    (gr p1.2 t 4 0).bind fun a3 =>
    (rd p1.2 a3 3).bind fun v4 =>
    F_M_call_28 FU t x1 (-1) (v4 - 1) p1.2
set_option maxHeartbeats 4000000 in
set_option maxRecDepth 100000 in
theorem s_M_call_55 {G : Gx} {X : Cx} {res : Int32 × A_W} (K : Ok G X 4 c_M_call 4 (some .int) rm_M_call) (hQ : QQ G X (some (.int res.1)) res.2 0 0) {k28 : Nat → Int32 → Int32 → Int32 → A_W → Option (Int32 × A_W)} (hk28 : ∀ (t : Nat) (x1 : Int32) (x2 : Int32) (x3 : Int32) (w : A_W), k28 t x1 x2 x3 w = some res → Sm G X w 0 0 [some (.ref t), some (.int x1), some (.int x2), some (.int x3)] [] 28) (t : Nat) (x1 : Int32) (x3 : Int32) (y0 : Int32) (w : A_W) (h : F_M_call_55 k28 t x1 x3 y0 w = some res) : Sm G X w 0 0 [some (.ref t), some (.int x1), none, some (.int x3)] [.int y0] 55 := by
  unfold F_M_call_55 at h
  refine Sm_run K ek_M_call 33 3 rfl ?_
  exact Sm_le (leR_s (leR_s (leR_s (leR_s leR_nil)))) (hk28 _ _ _ _ _ h)
set_option maxHeartbeats 4000000 in
set_option maxRecDepth 100000 in
theorem s_M_call_54 {G : Gx} {X : Cx} {res : Int32 × A_W} (K : Ok G X 4 c_M_call 4 (some .int) rm_M_call) (hQ : QQ G X (some (.int res.1)) res.2 0 0) {k28 : Nat → Int32 → Int32 → Int32 → A_W → Option (Int32 × A_W)} (hk28 : ∀ (t : Nat) (x1 : Int32) (x2 : Int32) (x3 : Int32) (w : A_W), k28 t x1 x2 x3 w = some res → Sm G X w 0 0 [some (.ref t), some (.int x1), some (.int x2), some (.int x3)] [] 28) (t : Nat) (x1 : Int32) (x2 : Int32) (x3 : Int32) (w : A_W) (h : F_M_call_54 k28 t x1 x2 x3 w = some res) : Sm G X w 0 0 [some (.ref t), some (.int x1), some (.int x2), some (.int x3)] [] 54 := by
  unfold F_M_call_54 at h
  refine Sm_run K ek_M_call 32 1 rfl ?_
  exact Sm_le (leR_s (leR_s (leR_n (leR_s leR_nil)))) (s_M_call_55 K hQ hk28 _ _ _ _ _ h)
set_option maxHeartbeats 4000000 in
set_option maxRecDepth 100000 in
theorem s_M_call_73 {G : Gx} {X : Cx} {res : Int32 × A_W} (K : Ok G X 4 c_M_call 4 (some .int) rm_M_call) (hQ : QQ G X (some (.int res.1)) res.2 0 0) (t : Nat) (x2 : Int32) (w : A_W) (h : F_M_call_73 t x2 w = some res) : Sm G X w 0 0 [some (.ref t), none, some (.int x2), none] [] 73 := by
  unfold F_M_call_73 at h
  refine Sm_run K ek_M_call 43 2 rfl ?_
  obtain ⟨o2, e_o2, h⟩ := Option.bind_eq_some_iff.mp h
  obtain ⟨p1, e_p1, h⟩ := Option.bind_eq_some_iff.mp h
  refine Sm_callV K (eok_i (eo ek_M_call (i := 45) rfl) rfl) cy_M_orNone im_M_orNone se_M_orNone (lgm 929 (by decide +kernel) rfl) ⟨Nat.le_of_ble_eq_true rfl, Nat.le_of_ble_eq_true rfl⟩ (as := [.int x2]) (b := t) (st := []) (ob_e e_o2) (by decide) rfl rfl rfl rfl (Nat.le_of_ble_eq_true rfl) ⟨Nat.le_of_ble_eq_true rfl, Nat.le_of_ble_eq_true rfl⟩ (cn_M_orNone e_p1) ?_
  refine Sm_eq (st1 := .int p1.1 :: []) (nc1 := 0) (ns1 := 0) rfl rfl rfl ?_
  cases h
  exact Sm_reti K hQ (eok_i (eo ek_M_call (i := 46) rfl) rfl)
set_option maxHeartbeats 4000000 in
set_option maxRecDepth 100000 in
theorem s_M_call_28 {G : Gx} {X : Cx} {res : Int32 × A_W} (K : Ok G X 4 c_M_call 4 (some .int) rm_M_call) (hQ : QQ G X (some (.int res.1)) res.2 0 0) : ∀ (n : Nat) (t : Nat) (x1 : Int32) (x2 : Int32) (x3 : Int32) (w : A_W), F_M_call_28 n t x1 x2 x3 w = some res → Sm G X w 0 0 [some (.ref t), some (.int x1), some (.int x2), some (.int x3)] [] 28 := by
  intro n
  induction n with
  | zero => intro t x1 x2 x3 w h; cases h
  | succ n ih =>
    intro t x1 x2 x3 w h
    rw [F_M_call_28] at h
    refine Sm_run K ek_M_call 18 1 rfl ?_
    refine Sm_if_lt K (eo ek_M_call (i := 19) rfl) (fun c1 => ?_) (fun c1 => ?_)
    · rw [if_pos c1] at h
      refine Sm_run K ek_M_call 36 1 rfl ?_
      refine Sm_if_lt K (eo ek_M_call (i := 37) rfl) (fun c2 => ?_) (fun c2 => ?_)
      · rw [if_pos c2] at h
        exact Sm_le (leR_s (leR_n (leR_s (leR_n leR_nil)))) (s_M_call_73 K hQ _ _ _ h)
      · rw [if_neg c2] at h
        refine Sm_run K ek_M_call 38 4 rfl ?_
        obtain ⟨o4, e_o4, h⟩ := Option.bind_eq_some_iff.mp h
        obtain ⟨p3, e_p3, h⟩ := Option.bind_eq_some_iff.mp h
        refine Sm_callV K (eok_i (eo ek_M_call (i := 42) rfl) rfl) cy_M_put im_M_put se_M_put (lgm 843 (by decide +kernel) rfl) ⟨Nat.le_of_ble_eq_true rfl, Nat.le_of_ble_eq_true rfl⟩ (as := [.int x2, .int 5, .int 1]) (b := t) (st := []) (ob_e e_o4) (by decide) rfl rfl rfl rfl (Nat.le_of_ble_eq_true rfl) ⟨Nat.le_of_ble_eq_true rfl, Nat.le_of_ble_eq_true rfl⟩ (cn_M_put e_p3) ?_
        refine Sm_eq (st1 := []) (nc1 := 0) (ns1 := 0) rfl rfl rfl ?_
        exact Sm_le (leR_s (leR_n (leR_s (leR_n leR_nil)))) (s_M_call_73 K hQ _ _ _ h)
    · rw [if_neg c1] at h
      refine Sm_run K ek_M_call 20 2 rfl ?_
      obtain ⟨o6, e_o6, h⟩ := Option.bind_eq_some_iff.mp h
      obtain ⟨p5, e_p5, h⟩ := Option.bind_eq_some_iff.mp h
      refine Sm_callV K (eok_i (eo ek_M_call (i := 22) rfl) rfl) cy_M_isHere im_M_isHere se_M_isHere (lgm 890 (by decide +kernel) rfl) ⟨Nat.le_of_ble_eq_true rfl, Nat.le_of_ble_eq_true rfl⟩ (as := [.int x3]) (b := t) (st := []) (ob_e e_o6) (by decide) rfl rfl rfl rfl (Nat.le_of_ble_eq_true rfl) ⟨Nat.le_of_ble_eq_true rfl, Nat.le_of_ble_eq_true rfl⟩ (cn_M_isHere e_p5) ?_
      refine Sm_eq (st1 := .int p5.1 :: []) (nc1 := 0) (ns1 := 0) rfl rfl rfl ?_
      refine Sm_if_eq K (eo ek_M_call (i := 23) rfl) (fun c7 => ?_) (fun c7 => ?_)
      · rw [if_pos c7] at h
        exact Sm_le (leR_s (leR_s (leR_s (leR_s leR_nil)))) (s_M_call_54 K hQ ih _ _ _ _ _ h)
      · rw [if_neg c7] at h
        refine Sm_run K ek_M_call 24 3 rfl ?_
        obtain ⟨o9, e_o9, h⟩ := Option.bind_eq_some_iff.mp h
        obtain ⟨p8, e_p8, h⟩ := Option.bind_eq_some_iff.mp h
        refine Sm_callV K (eok_i (eo ek_M_call (i := 27) rfl) rfl) cy_M_it im_M_it se_M_it (lgm 871 (by decide +kernel) rfl) ⟨Nat.le_of_ble_eq_true rfl, Nat.le_of_ble_eq_true rfl⟩ (as := [.int x3, .int 2]) (b := t) (st := []) (ob_e e_o9) (by decide) rfl rfl rfl rfl (Nat.le_of_ble_eq_true rfl) ⟨Nat.le_of_ble_eq_true rfl, Nat.le_of_ble_eq_true rfl⟩ (cn_M_it e_p8) ?_
        refine Sm_eq (st1 := .int p8.1 :: []) (nc1 := 0) (ns1 := 0) rfl rfl rfl ?_
        refine Sm_run K ek_M_call 28 1 rfl ?_
        refine Sm_ic_ne K (eo ek_M_call (i := 29) rfl) (fun c10 => ?_) (fun c10 => ?_)
        · rw [if_neg c10] at h
          exact Sm_le (leR_s (leR_s (leR_s (leR_s leR_nil)))) (s_M_call_54 K hQ ih _ _ _ _ _ h)
        · rw [if_pos c10] at h
          refine Sm_run K ek_M_call 30 2 rfl ?_
          exact Sm_le (leR_s (leR_s (leR_n (leR_s leR_nil)))) (s_M_call_55 K hQ ih _ _ _ _ _ h)
set_option maxHeartbeats 4000000 in
set_option maxRecDepth 100000 in
theorem s_M_call_0 {G : Gx} {X : Cx} {res : Int32 × A_W} (K : Ok G X 4 c_M_call 4 (some .int) rm_M_call) (hQ : QQ G X (some (.int res.1)) res.2 0 0) (t : Nat) (x1 : Int32) (w : A_W) (h : F_M_call_0 t x1 w = some res) : Sm G X w 0 0 [some (.ref t), some (.int x1), none, none] [] 0 := by
  unfold F_M_call_0 at h
  refine Sm_run K ek_M_call 0 3 rfl ?_
  obtain ⟨p1, e_p1, h⟩ := Option.bind_eq_some_iff.mp h
  refine Sm_callS K (eok_i (eo ek_M_call (i := 3) rfl) rfl) cy_M_in st_M_in (lgm 815 (by decide +kernel) rfl) ⟨Nat.le_of_ble_eq_true rfl, Nat.le_of_ble_eq_true rfl⟩ (as := [.int x1, .int 0, .int 99]) (st := []) rfl rfl rfl (Nat.le_of_ble_eq_true rfl) ⟨Nat.le_of_ble_eq_true rfl, Nat.le_of_ble_eq_true rfl⟩ (cn_M_in e_p1) ?_
  refine Sm_eq (st1 := .int p1.1 :: []) (nc1 := 0) (ns1 := 0) rfl rfl rfl ?_
  refine Sm_if_ne K (eo ek_M_call (i := 4) rfl) (fun c2 => ?_) (fun c2 => ?_)
  · rw [if_neg c2] at h
    refine Sm_run K ek_M_call 9 3 rfl ?_
    obtain ⟨a3, e_a3, h⟩ := Option.bind_eq_some_iff.mp h
    refine Sm_gr K (eo ek_M_call (i := 12) rfl) e_a3 ?_
    refine Sm_run K ek_M_call 13 1 rfl ?_
    obtain ⟨v4, e_v4, h⟩ := Option.bind_eq_some_iff.mp h
    refine Sm_rd K (eok_i (eo ek_M_call (i := 14) rfl) rfl) e_v4 ?_
    refine Sm_run K ek_M_call 15 3 rfl ?_
    exact Sm_le (leR_s (leR_s (leR_s (leR_s leR_nil)))) (s_M_call_28 K hQ FU _ _ _ _ _ h)
  · rw [if_pos c2] at h
    refine Sm_run K ek_M_call 5 2 rfl ?_
    obtain ⟨o6, e_o6, h⟩ := Option.bind_eq_some_iff.mp h
    obtain ⟨p5, e_p5, h⟩ := Option.bind_eq_some_iff.mp h
    refine Sm_callV K (eok_i (eo ek_M_call (i := 7) rfl) rfl) cy_M_finds im_M_finds se_M_finds (lgm 826 (by decide +kernel) rfl) ⟨Nat.le_of_ble_eq_true rfl, Nat.le_of_ble_eq_true rfl⟩ (as := [.int (-1000001)]) (b := t) (st := []) (ob_e e_o6) (by decide) rfl rfl rfl rfl (Nat.le_of_ble_eq_true rfl) ⟨Nat.le_of_ble_eq_true rfl, Nat.le_of_ble_eq_true rfl⟩ (cn_M_finds e_p5) ?_
    refine Sm_eq (st1 := .int p5.1 :: []) (nc1 := 0) (ns1 := 0) rfl rfl rfl ?_
    cases h
    exact Sm_reti K hQ (eok_i (eo ek_M_call (i := 8) rfl) rfl)
def F_M_call (t : Nat) (x1 : Int32) (w : A_W) : Option (Int32 × A_W) := F_M_call_0 t x1 w
theorem cn_M_call {G : Gx} {t : Nat} {x1 : Int32} {w : A_W} {res : Int32 × A_W} (h : F_M_call t x1 w = some res) : Cn G y_M_call c_M_call 4 (some .int) rm_M_call [.ref t, .int x1] w (some (.int res.1)) res.2 :=
  Cn_of (own := 4) cy_M_call rfl rfl (Nat.le_of_ble_eq_true rfl) rfl (fun X K _ hQ => Sm_le (leR_s (leR_s (leR_n (leR_n leR_nil)))) (s_M_call_0 K hQ _ _ _ h))
/-! EveningCloakModel.allCost()I -/
abbrev c_M_allCost : ByteArray := prog_6_method_36_code
def y_M_allCost : MethodName := ⟨"EveningCloakModel", "allCost", "()I"⟩
def rm_M_allCost : Room := { frames := 2, cells := 0, slots := 0, locals := 43 }
theorem cy_M_allCost : Cy y_M_allCost c_M_allCost 3 (some .int) 0 := ⟨lgm 955 (by decide +kernel) rfl, lgm 73 (by decide +kernel) rfl, by decide +kernel, by decide +kernel⟩
theorem im_M_allCost : Cond.instanceMethod y_M_allCost ∈ lg := lgm 954 (by decide +kernel) rfl
theorem se_M_allCost : Cond.selects y_M_allCost.cls y_M_allCost y_M_allCost ∈ lg := lgm 38 (by decide +kernel) rfl
def e_M_allCost : List Ent := [
  (0, .iconst 0, 1, 1, .int 0, 0, 0, 0),
  (1, .istore_n 1, 1, 2, .null, 0, 0, 0),
  (2, .iconst 0, 1, 3, .int 0, 0, 0, 0),
  (3, .istore_n 2, 1, 4, .null, 0, 0, 0),
  (4, .iload_n 2, 1, 5, .null, 0, 0, 0),
  (5, .aload_n 0, 1, 6, .null, 0, 0, 0),
  (6, .getfield 9, 3, 9, .null, 4, 0, 762),
  (9, .iconst 3, 1, 10, .int 3, 0, 0, 0),
  (10, .iaload, 1, 11, .null, 0, 0, 0),
  (11, .if_icmp .ge 29, 3, 40, .null, 0, 0, 0),
  (14, .iload_n 1, 1, 15, .null, 0, 0, 0),
  (15, .aload_n 0, 1, 16, .null, 0, 0, 0),
  (16, .iload_n 2, 1, 17, .null, 0, 0, 0),
  (17, .invokevirtual 55, 3, 20, .null, 0, 0, 0),
  (20, .ifCond .eq 11, 3, 31, .null, 0, 0, 0),
  (23, .aload_n 0, 1, 24, .null, 0, 0, 0),
  (24, .iload_n 2, 1, 25, .null, 0, 0, 0),
  (25, .invokevirtual 94, 3, 28, .null, 0, 0, 0),
  (28, .goto 4, 3, 32, .null, 0, 0, 0),
  (31, .iconst 0, 1, 32, .int 0, 0, 0, 0),
  (32, .iadd, 1, 33, .null, 0, 0, 0),
  (33, .istore_n 1, 1, 34, .null, 0, 0, 0),
  (34, .iinc 2 1, 3, 37, .int 1, 0, 0, 0),
  (37, .goto (-33), 3, 4, .null, 0, 0, 0),
  (40, .iload_n 1, 1, 41, .null, 0, 0, 0),
  (41, .ireturn, 1, 42, .null, 0, 0, 0)]
set_option maxRecDepth 100000 in
theorem ek_M_allCost : e_M_allCost.all (eok 4 c_M_allCost) = true := by decide +kernel
def F_M_allCost_32 (k4 : Nat → Int32 → Int32 → A_W → Option (Int32 × A_W)) (t : Nat) (x2 : Int32) (y0 : Int32) (y1 : Int32) (w : A_W) : Option (Int32 × A_W) :=
  k4 t (y0 + y1) (x2 + 1) w
def F_M_allCost_4 : Nat → Nat → Int32 → Int32 → A_W → Option (Int32 × A_W)
  | 0, _, _, _, _ => none
  | n + 1, t, x1, x2, w =>
    (gr w t 4 0).bind fun a1 =>
    (rd w a1 3).bind fun v2 =>
    if v2 ≤ x2 then
      some (x1, w)
    else
      (ob w t 4).bind fun o5 =>
      (F_M_isHere t x2 w).bind fun p4 =>
      if p4.1 = 0 then
        F_M_allCost_32 (F_M_allCost_4 n) t x2 x1 0 p4.2
      else
        (ob p4.2 t 4).bind fun o8 =>
        (F_M_costs t x2 p4.2).bind fun p7 =>
        F_M_allCost_32 (F_M_allCost_4 n) t x2 x1 p7.1 p7.2
def F_M_allCost_0 (t : Nat) (w : A_W) : Option (Int32 × A_W) :=
  F_M_allCost_4 FU t 0 0 w
set_option maxHeartbeats 4000000 in
set_option maxRecDepth 100000 in
theorem s_M_allCost_32 {G : Gx} {X : Cx} {res : Int32 × A_W} (K : Ok G X 4 c_M_allCost 3 (some .int) rm_M_allCost) (hQ : QQ G X (some (.int res.1)) res.2 0 0) {k4 : Nat → Int32 → Int32 → A_W → Option (Int32 × A_W)} (hk4 : ∀ (t : Nat) (x1 : Int32) (x2 : Int32) (w : A_W), k4 t x1 x2 w = some res → Sm G X w 0 0 [some (.ref t), some (.int x1), some (.int x2)] [] 4) (t : Nat) (x2 : Int32) (y0 : Int32) (y1 : Int32) (w : A_W) (h : F_M_allCost_32 k4 t x2 y0 y1 w = some res) : Sm G X w 0 0 [some (.ref t), none, some (.int x2)] [.int y1, .int y0] 32 := by
  unfold F_M_allCost_32 at h
  refine Sm_run K ek_M_allCost 20 4 rfl ?_
  exact Sm_le (leR_s (leR_s (leR_s leR_nil))) (hk4 _ _ _ _ h)
set_option maxHeartbeats 4000000 in
set_option maxRecDepth 100000 in
theorem s_M_allCost_4 {G : Gx} {X : Cx} {res : Int32 × A_W} (K : Ok G X 4 c_M_allCost 3 (some .int) rm_M_allCost) (hQ : QQ G X (some (.int res.1)) res.2 0 0) : ∀ (n : Nat) (t : Nat) (x1 : Int32) (x2 : Int32) (w : A_W), F_M_allCost_4 n t x1 x2 w = some res → Sm G X w 0 0 [some (.ref t), some (.int x1), some (.int x2)] [] 4 := by
  intro n
  induction n with
  | zero => intro t x1 x2 w h; cases h
  | succ n ih =>
    intro t x1 x2 w h
    rw [F_M_allCost_4] at h
    refine Sm_run K ek_M_allCost 4 2 rfl ?_
    obtain ⟨a1, e_a1, h⟩ := Option.bind_eq_some_iff.mp h
    refine Sm_gr K (eo ek_M_allCost (i := 6) rfl) e_a1 ?_
    refine Sm_run K ek_M_allCost 7 1 rfl ?_
    obtain ⟨v2, e_v2, h⟩ := Option.bind_eq_some_iff.mp h
    refine Sm_rd K (eok_i (eo ek_M_allCost (i := 8) rfl) rfl) e_v2 ?_
    refine Sm_ic_ge K (eo ek_M_allCost (i := 9) rfl) (fun c3 => ?_) (fun c3 => ?_)
    · rw [if_pos c3] at h
      refine Sm_run K ek_M_allCost 24 1 rfl ?_
      cases h
      exact Sm_reti K hQ (eok_i (eo ek_M_allCost (i := 25) rfl) rfl)
    · rw [if_neg c3] at h
      refine Sm_run K ek_M_allCost 10 3 rfl ?_
      obtain ⟨o5, e_o5, h⟩ := Option.bind_eq_some_iff.mp h
      obtain ⟨p4, e_p4, h⟩ := Option.bind_eq_some_iff.mp h
      refine Sm_callV K (eok_i (eo ek_M_allCost (i := 13) rfl) rfl) cy_M_isHere im_M_isHere se_M_isHere (lgm 890 (by decide +kernel) rfl) ⟨Nat.le_of_ble_eq_true rfl, Nat.le_of_ble_eq_true rfl⟩ (as := [.int x2]) (b := t) (st := [.int x1]) (ob_e e_o5) (by decide) rfl rfl rfl rfl (Nat.le_of_ble_eq_true rfl) ⟨Nat.le_of_ble_eq_true rfl, Nat.le_of_ble_eq_true rfl⟩ (cn_M_isHere e_p4) ?_
      refine Sm_eq (st1 := .int p4.1 :: [.int x1]) (nc1 := 0) (ns1 := 0) rfl rfl rfl ?_
      refine Sm_if_eq K (eo ek_M_allCost (i := 14) rfl) (fun c6 => ?_) (fun c6 => ?_)
      · rw [if_pos c6] at h
        refine Sm_run K ek_M_allCost 19 1 rfl ?_
        exact Sm_le (leR_s (leR_n (leR_s leR_nil))) (s_M_allCost_32 K hQ ih _ _ _ _ _ h)
      · rw [if_neg c6] at h
        refine Sm_run K ek_M_allCost 15 2 rfl ?_
        obtain ⟨o8, e_o8, h⟩ := Option.bind_eq_some_iff.mp h
        obtain ⟨p7, e_p7, h⟩ := Option.bind_eq_some_iff.mp h
        refine Sm_callV K (eok_i (eo ek_M_allCost (i := 17) rfl) rfl) cy_M_costs im_M_costs se_M_costs (lgm 894 (by decide +kernel) rfl) ⟨Nat.le_of_ble_eq_true rfl, Nat.le_of_ble_eq_true rfl⟩ (as := [.int x2]) (b := t) (st := [.int x1]) (ob_e e_o8) (by decide) rfl rfl rfl rfl (Nat.le_of_ble_eq_true rfl) ⟨Nat.le_of_ble_eq_true rfl, Nat.le_of_ble_eq_true rfl⟩ (cn_M_costs e_p7) ?_
        refine Sm_eq (st1 := .int p7.1 :: [.int x1]) (nc1 := 0) (ns1 := 0) rfl rfl rfl ?_
        refine Sm_run K ek_M_allCost 18 1 rfl ?_
        exact Sm_le (leR_s (leR_n (leR_s leR_nil))) (s_M_allCost_32 K hQ ih _ _ _ _ _ h)
set_option maxHeartbeats 4000000 in
set_option maxRecDepth 100000 in
theorem s_M_allCost_0 {G : Gx} {X : Cx} {res : Int32 × A_W} (K : Ok G X 4 c_M_allCost 3 (some .int) rm_M_allCost) (hQ : QQ G X (some (.int res.1)) res.2 0 0) (t : Nat) (w : A_W) (h : F_M_allCost_0 t w = some res) : Sm G X w 0 0 [some (.ref t), none, none] [] 0 := by
  unfold F_M_allCost_0 at h
  refine Sm_run K ek_M_allCost 0 4 rfl ?_
  exact Sm_le (leR_s (leR_s (leR_s leR_nil))) (s_M_allCost_4 K hQ FU _ _ _ _ h)
def F_M_allCost (t : Nat) (w : A_W) : Option (Int32 × A_W) := F_M_allCost_0 t w
theorem cn_M_allCost {G : Gx} {t : Nat} {w : A_W} {res : Int32 × A_W} (h : F_M_allCost t w = some res) : Cn G y_M_allCost c_M_allCost 3 (some .int) rm_M_allCost [.ref t] w (some (.int res.1)) res.2 :=
  Cn_of (own := 4) cy_M_allCost rfl rfl (Nat.le_of_ble_eq_true rfl) rfl (fun X K _ hQ => Sm_le (leR_s (leR_n (leR_n leR_nil))) (s_M_allCost_0 K hQ _ _ h))
/-! EveningCloakModel.stands(II)V -/
abbrev c_M_stands : ByteArray := prog_6_method_37_code
def y_M_stands : MethodName := ⟨"EveningCloakModel", "stands", "(II)V"⟩
def rm_M_stands : Room := { frames := 3, cells := 0, slots := 0, locals := 69 }
theorem cy_M_stands : Cy y_M_stands c_M_stands 5 (none) 2 := ⟨lgm 951 (by decide +kernel) rfl, lgm 73 (by decide +kernel) rfl, by decide +kernel, by decide +kernel⟩
theorem im_M_stands : Cond.instanceMethod y_M_stands ∈ lg := lgm 950 (by decide +kernel) rfl
theorem se_M_stands : Cond.selects y_M_stands.cls y_M_stands y_M_stands ∈ lg := lgm 37 (by decide +kernel) rfl
def e_M_stands : List Ent := [
  (0, .aload_n 0, 1, 1, .null, 0, 0, 0),
  (1, .iload_n 1, 1, 2, .null, 0, 0, 0),
  (2, .iconst 0, 1, 3, .int 0, 0, 0, 0),
  (3, .invokevirtual 103, 3, 6, .null, 0, 0, 0),
  (6, .aload_n 0, 1, 7, .null, 0, 0, 0),
  (7, .iload_n 2, 1, 8, .null, 0, 0, 0),
  (8, .invokevirtual 62, 3, 11, .null, 0, 0, 0),
  (11, .iadd, 1, 12, .null, 0, 0, 0),
  (12, .iconst 0, 1, 13, .int 0, 0, 0, 0),
  (13, .bipush 99, 2, 15, .int 99, 0, 0, 0),
  (15, .invokestatic 48, 3, 18, .null, 0, 0, 0),
  (18, .istore_n 3, 1, 19, .null, 0, 0, 0),
  (19, .iload_n 3, 1, 20, .null, 0, 0, 0),
  (20, .aload_n 0, 1, 21, .null, 0, 0, 0),
  (21, .iload_n 1, 1, 22, .null, 0, 0, 0),
  (22, .iconst 1, 1, 23, .int 1, 0, 0, 0),
  (23, .invokevirtual 103, 3, 26, .null, 0, 0, 0),
  (26, .if_icmp .lt 7, 3, 33, .null, 0, 0, 0),
  (29, .iconst 1, 1, 30, .int 1, 0, 0, 0),
  (30, .goto 4, 3, 34, .null, 0, 0, 0),
  (33, .iconst 0, 1, 34, .int 0, 0, 0, 0),
  (34, .istore 4, 2, 36, .null, 0, 0, 0),
  (36, .aload_n 0, 1, 37, .null, 0, 0, 0),
  (37, .iload_n 1, 1, 38, .null, 0, 0, 0),
  (38, .iconst 0, 1, 39, .int 0, 0, 0, 0),
  (39, .iload 4, 2, 41, .null, 0, 0, 0),
  (41, .ifCond .eq 7, 3, 48, .null, 0, 0, 0),
  (44, .iconst 0, 1, 45, .int 0, 0, 0, 0),
  (45, .goto 4, 3, 49, .null, 0, 0, 0),
  (48, .iload_n 3, 1, 49, .null, 0, 0, 0),
  (49, .invokevirtual 82, 3, 52, .null, 0, 0, 0),
  (52, .aload_n 0, 1, 53, .null, 0, 0, 0),
  (53, .iload_n 1, 1, 54, .null, 0, 0, 0),
  (54, .iconst 2, 1, 55, .int 2, 0, 0, 0),
  (55, .aload_n 0, 1, 56, .null, 0, 0, 0),
  (56, .iload_n 1, 1, 57, .null, 0, 0, 0),
  (57, .iconst 2, 1, 58, .int 2, 0, 0, 0),
  (58, .invokevirtual 103, 3, 61, .null, 0, 0, 0),
  (61, .iload 4, 2, 63, .null, 0, 0, 0),
  (63, .ifCond .eq 7, 3, 70, .null, 0, 0, 0),
  (66, .iconst 1, 1, 67, .int 1, 0, 0, 0),
  (67, .goto 4, 3, 71, .null, 0, 0, 0),
  (70, .iconst 0, 1, 71, .int 0, 0, 0, 0),
  (71, .iadd, 1, 72, .null, 0, 0, 0),
  (72, .iconst 0, 1, 73, .int 0, 0, 0, 0),
  (73, .sipush 9999, 3, 76, .int 9999, 0, 0, 0),
  (76, .invokestatic 48, 3, 79, .null, 0, 0, 0),
  (79, .invokevirtual 82, 3, 82, .null, 0, 0, 0),
  (82, .return_, 1, 83, .null, 0, 0, 0)]
set_option maxRecDepth 100000 in
theorem ek_M_stands : e_M_stands.all (eok 4 c_M_stands) = true := by decide +kernel
def F_M_stands_71 (y0 : Nat) (y1 : Int32) (y2 : Int32) (y3 : Int32) (y4 : Int32) (w : A_W) : Option (A_W) :=
  (F_M_held (y3 + y4) 0 9999 w).bind fun p1 =>
  (ob p1.2 y0 4).bind fun o3 =>
  (F_M_lets y0 y1 y2 p1.1 p1.2).bind fun p2 =>
  some p2
def F_M_stands_49 (t : Nat) (x1 : Int32) (x4 : Int32) (y0 : Nat) (y1 : Int32) (y2 : Int32) (y3 : Int32) (w : A_W) : Option (A_W) :=
  (ob w y0 4).bind fun o2 =>
  (F_M_lets y0 y1 y2 y3 w).bind fun p1 =>
  (ob p1 t 4).bind fun o4 =>
  (F_M_her t x1 2 p1).bind fun p3 =>
  if x4 = 0 then
    F_M_stands_71 t x1 2 p3.1 0 p3.2
  else
    F_M_stands_71 t x1 2 p3.1 1 p3.2
def F_M_stands_34 (t : Nat) (x1 : Int32) (x3 : Int32) (y0 : Int32) (w : A_W) : Option (A_W) :=
  if y0 = 0 then
    F_M_stands_49 t x1 y0 t x1 0 x3 w
  else
    F_M_stands_49 t x1 y0 t x1 0 0 w
def F_M_stands_0 (t : Nat) (x1 : Int32) (x2 : Int32) (w : A_W) : Option (A_W) :=
  (ob w t 4).bind fun o2 =>
  (F_M_her t x1 0 w).bind fun p1 =>
  (ob p1.2 t 4).bind fun o4 =>
  (F_M_lightAt t x2 p1.2).bind fun p3 =>
  (F_M_held (p1.1 + p3.1) 0 99 p3.2).bind fun p5 =>
  (ob p5.2 t 4).bind fun o7 =>
  (F_M_her t x1 1 p5.2).bind fun p6 =>
  if p5.1 < p6.1 then
    F_M_stands_34 t x1 p5.1 0 p6.2
  else
    F_M_stands_34 t x1 p5.1 1 p6.2
set_option maxHeartbeats 4000000 in
set_option maxRecDepth 100000 in
theorem s_M_stands_71 {G : Gx} {X : Cx} {res : A_W} (K : Ok G X 4 c_M_stands 5 (none) rm_M_stands) (hQ : QQ G X none res 0 0) (y0 : Nat) (y1 : Int32) (y2 : Int32) (y3 : Int32) (y4 : Int32) (w : A_W) (h : F_M_stands_71 y0 y1 y2 y3 y4 w = some res) : Sm G X w 0 0 [none, none, none, none, none] [.int y4, .int y3, .int y2, .int y1, .ref y0] 71 := by
  unfold F_M_stands_71 at h
  refine Sm_run K ek_M_stands 43 3 rfl ?_
  obtain ⟨p1, e_p1, h⟩ := Option.bind_eq_some_iff.mp h
  refine Sm_callS K (eok_i (eo ek_M_stands (i := 46) rfl) rfl) cy_M_held st_M_held (lgm 875 (by decide +kernel) rfl) ⟨Nat.le_of_ble_eq_true rfl, Nat.le_of_ble_eq_true rfl⟩ (as := [.int (y3 + y4), .int 0, .int 9999]) (st := [.int y2, .int y1, .ref y0]) rfl rfl rfl (Nat.le_of_ble_eq_true rfl) ⟨Nat.le_of_ble_eq_true rfl, Nat.le_of_ble_eq_true rfl⟩ (cn_M_held e_p1) ?_
  refine Sm_eq (st1 := .int p1.1 :: [.int y2, .int y1, .ref y0]) (nc1 := 0) (ns1 := 0) rfl rfl rfl ?_
  obtain ⟨o3, e_o3, h⟩ := Option.bind_eq_some_iff.mp h
  obtain ⟨p2, e_p2, h⟩ := Option.bind_eq_some_iff.mp h
  refine Sm_callV K (eok_i (eo ek_M_stands (i := 47) rfl) rfl) cy_M_lets im_M_lets se_M_lets (lgm 855 (by decide +kernel) rfl) ⟨Nat.le_of_ble_eq_true rfl, Nat.le_of_ble_eq_true rfl⟩ (as := [.int y1, .int y2, .int p1.1]) (b := y0) (st := []) (ob_e e_o3) (by decide) rfl rfl rfl rfl (Nat.le_of_ble_eq_true rfl) ⟨Nat.le_of_ble_eq_true rfl, Nat.le_of_ble_eq_true rfl⟩ (cn_M_lets e_p2) ?_
  refine Sm_eq (st1 := []) (nc1 := 0) (ns1 := 0) rfl rfl rfl ?_
  cases h
  exact Sm_retv K hQ (eok_i (eo ek_M_stands (i := 48) rfl) rfl)
set_option maxHeartbeats 4000000 in
set_option maxRecDepth 100000 in
theorem s_M_stands_49 {G : Gx} {X : Cx} {res : A_W} (K : Ok G X 4 c_M_stands 5 (none) rm_M_stands) (hQ : QQ G X none res 0 0) (t : Nat) (x1 : Int32) (x4 : Int32) (y0 : Nat) (y1 : Int32) (y2 : Int32) (y3 : Int32) (w : A_W) (h : F_M_stands_49 t x1 x4 y0 y1 y2 y3 w = some res) : Sm G X w 0 0 [some (.ref t), some (.int x1), none, none, some (.int x4)] [.int y3, .int y2, .int y1, .ref y0] 49 := by
  unfold F_M_stands_49 at h
  obtain ⟨o2, e_o2, h⟩ := Option.bind_eq_some_iff.mp h
  obtain ⟨p1, e_p1, h⟩ := Option.bind_eq_some_iff.mp h
  refine Sm_callV K (eok_i (eo ek_M_stands (i := 30) rfl) rfl) cy_M_lets im_M_lets se_M_lets (lgm 855 (by decide +kernel) rfl) ⟨Nat.le_of_ble_eq_true rfl, Nat.le_of_ble_eq_true rfl⟩ (as := [.int y1, .int y2, .int y3]) (b := y0) (st := []) (ob_e e_o2) (by decide) rfl rfl rfl rfl (Nat.le_of_ble_eq_true rfl) ⟨Nat.le_of_ble_eq_true rfl, Nat.le_of_ble_eq_true rfl⟩ (cn_M_lets e_p1) ?_
  refine Sm_eq (st1 := []) (nc1 := 0) (ns1 := 0) rfl rfl rfl ?_
  refine Sm_run K ek_M_stands 31 6 rfl ?_
  obtain ⟨o4, e_o4, h⟩ := Option.bind_eq_some_iff.mp h
  obtain ⟨p3, e_p3, h⟩ := Option.bind_eq_some_iff.mp h
  refine Sm_callV K (eok_i (eo ek_M_stands (i := 37) rfl) rfl) cy_M_her im_M_her se_M_her (lgm 913 (by decide +kernel) rfl) ⟨Nat.le_of_ble_eq_true rfl, Nat.le_of_ble_eq_true rfl⟩ (as := [.int x1, .int 2]) (b := t) (st := [.int 2, .int x1, .ref t]) (ob_e e_o4) (by decide) rfl rfl rfl rfl (Nat.le_of_ble_eq_true rfl) ⟨Nat.le_of_ble_eq_true rfl, Nat.le_of_ble_eq_true rfl⟩ (cn_M_her e_p3) ?_
  refine Sm_eq (st1 := .int p3.1 :: [.int 2, .int x1, .ref t]) (nc1 := 0) (ns1 := 0) rfl rfl rfl ?_
  refine Sm_run K ek_M_stands 38 1 rfl ?_
  refine Sm_if_eq K (eo ek_M_stands (i := 39) rfl) (fun c5 => ?_) (fun c5 => ?_)
  · rw [if_pos c5] at h
    refine Sm_run K ek_M_stands 42 1 rfl ?_
    exact Sm_le (leR_n (leR_n (leR_n (leR_n (leR_n leR_nil))))) (s_M_stands_71 K hQ _ _ _ _ _ _ h)
  · rw [if_neg c5] at h
    refine Sm_run K ek_M_stands 40 2 rfl ?_
    exact Sm_le (leR_n (leR_n (leR_n (leR_n (leR_n leR_nil))))) (s_M_stands_71 K hQ _ _ _ _ _ _ h)
set_option maxHeartbeats 4000000 in
set_option maxRecDepth 100000 in
theorem s_M_stands_34 {G : Gx} {X : Cx} {res : A_W} (K : Ok G X 4 c_M_stands 5 (none) rm_M_stands) (hQ : QQ G X none res 0 0) (t : Nat) (x1 : Int32) (x3 : Int32) (y0 : Int32) (w : A_W) (h : F_M_stands_34 t x1 x3 y0 w = some res) : Sm G X w 0 0 [some (.ref t), some (.int x1), none, some (.int x3), none] [.int y0] 34 := by
  unfold F_M_stands_34 at h
  refine Sm_run K ek_M_stands 21 5 rfl ?_
  refine Sm_if_eq K (eo ek_M_stands (i := 26) rfl) (fun c1 => ?_) (fun c1 => ?_)
  · rw [if_pos c1] at h
    refine Sm_run K ek_M_stands 29 1 rfl ?_
    exact Sm_le (leR_s (leR_s (leR_n (leR_n (leR_s leR_nil))))) (s_M_stands_49 K hQ _ _ _ _ _ _ _ _ h)
  · rw [if_neg c1] at h
    refine Sm_run K ek_M_stands 27 2 rfl ?_
    exact Sm_le (leR_s (leR_s (leR_n (leR_n (leR_s leR_nil))))) (s_M_stands_49 K hQ _ _ _ _ _ _ _ _ h)
set_option maxHeartbeats 4000000 in
set_option maxRecDepth 100000 in
theorem s_M_stands_0 {G : Gx} {X : Cx} {res : A_W} (K : Ok G X 4 c_M_stands 5 (none) rm_M_stands) (hQ : QQ G X none res 0 0) (t : Nat) (x1 : Int32) (x2 : Int32) (w : A_W) (h : F_M_stands_0 t x1 x2 w = some res) : Sm G X w 0 0 [some (.ref t), some (.int x1), some (.int x2), none, none] [] 0 := by
  unfold F_M_stands_0 at h
  refine Sm_run K ek_M_stands 0 3 rfl ?_
  obtain ⟨o2, e_o2, h⟩ := Option.bind_eq_some_iff.mp h
  obtain ⟨p1, e_p1, h⟩ := Option.bind_eq_some_iff.mp h
  refine Sm_callV K (eok_i (eo ek_M_stands (i := 3) rfl) rfl) cy_M_her im_M_her se_M_her (lgm 913 (by decide +kernel) rfl) ⟨Nat.le_of_ble_eq_true rfl, Nat.le_of_ble_eq_true rfl⟩ (as := [.int x1, .int 0]) (b := t) (st := []) (ob_e e_o2) (by decide) rfl rfl rfl rfl (Nat.le_of_ble_eq_true rfl) ⟨Nat.le_of_ble_eq_true rfl, Nat.le_of_ble_eq_true rfl⟩ (cn_M_her e_p1) ?_
  refine Sm_eq (st1 := .int p1.1 :: []) (nc1 := 0) (ns1 := 0) rfl rfl rfl ?_
  refine Sm_run K ek_M_stands 4 2 rfl ?_
  obtain ⟨o4, e_o4, h⟩ := Option.bind_eq_some_iff.mp h
  obtain ⟨p3, e_p3, h⟩ := Option.bind_eq_some_iff.mp h
  refine Sm_callV K (eok_i (eo ek_M_stands (i := 6) rfl) rfl) cy_M_lightAt im_M_lightAt se_M_lightAt (lgm 886 (by decide +kernel) rfl) ⟨Nat.le_of_ble_eq_true rfl, Nat.le_of_ble_eq_true rfl⟩ (as := [.int x2]) (b := t) (st := [.int p1.1]) (ob_e e_o4) (by decide) rfl rfl rfl rfl (Nat.le_of_ble_eq_true rfl) ⟨Nat.le_of_ble_eq_true rfl, Nat.le_of_ble_eq_true rfl⟩ (cn_M_lightAt e_p3) ?_
  refine Sm_eq (st1 := .int p3.1 :: [.int p1.1]) (nc1 := 0) (ns1 := 0) rfl rfl rfl ?_
  refine Sm_run K ek_M_stands 7 3 rfl ?_
  obtain ⟨p5, e_p5, h⟩ := Option.bind_eq_some_iff.mp h
  refine Sm_callS K (eok_i (eo ek_M_stands (i := 10) rfl) rfl) cy_M_held st_M_held (lgm 875 (by decide +kernel) rfl) ⟨Nat.le_of_ble_eq_true rfl, Nat.le_of_ble_eq_true rfl⟩ (as := [.int (p1.1 + p3.1), .int 0, .int 99]) (st := []) rfl rfl rfl (Nat.le_of_ble_eq_true rfl) ⟨Nat.le_of_ble_eq_true rfl, Nat.le_of_ble_eq_true rfl⟩ (cn_M_held e_p5) ?_
  refine Sm_eq (st1 := .int p5.1 :: []) (nc1 := 0) (ns1 := 0) rfl rfl rfl ?_
  refine Sm_run K ek_M_stands 11 5 rfl ?_
  obtain ⟨o7, e_o7, h⟩ := Option.bind_eq_some_iff.mp h
  obtain ⟨p6, e_p6, h⟩ := Option.bind_eq_some_iff.mp h
  refine Sm_callV K (eok_i (eo ek_M_stands (i := 16) rfl) rfl) cy_M_her im_M_her se_M_her (lgm 913 (by decide +kernel) rfl) ⟨Nat.le_of_ble_eq_true rfl, Nat.le_of_ble_eq_true rfl⟩ (as := [.int x1, .int 1]) (b := t) (st := [.int p5.1]) (ob_e e_o7) (by decide) rfl rfl rfl rfl (Nat.le_of_ble_eq_true rfl) ⟨Nat.le_of_ble_eq_true rfl, Nat.le_of_ble_eq_true rfl⟩ (cn_M_her e_p6) ?_
  refine Sm_eq (st1 := .int p6.1 :: [.int p5.1]) (nc1 := 0) (ns1 := 0) rfl rfl rfl ?_
  refine Sm_ic_lt K (eo ek_M_stands (i := 17) rfl) (fun c8 => ?_) (fun c8 => ?_)
  · rw [if_pos c8] at h
    refine Sm_run K ek_M_stands 20 1 rfl ?_
    exact Sm_le (leR_s (leR_s (leR_n (leR_s (leR_n leR_nil))))) (s_M_stands_34 K hQ _ _ _ _ _ h)
  · rw [if_neg c8] at h
    refine Sm_run K ek_M_stands 18 2 rfl ?_
    exact Sm_le (leR_s (leR_s (leR_n (leR_s (leR_n leR_nil))))) (s_M_stands_34 K hQ _ _ _ _ _ h)
def F_M_stands (t : Nat) (x1 : Int32) (x2 : Int32) (w : A_W) : Option (A_W) := F_M_stands_0 t x1 x2 w
theorem cn_M_stands {G : Gx} {t : Nat} {x1 : Int32} {x2 : Int32} {w : A_W} {res : A_W} (h : F_M_stands t x1 x2 w = some res) : Cn G y_M_stands c_M_stands 5 (none) rm_M_stands [.ref t, .int x1, .int x2] w none res :=
  Cn_of (own := 4) cy_M_stands rfl rfl (Nat.le_of_ble_eq_true rfl) rfl (fun X K _ hQ => Sm_le (leR_s (leR_s (leR_s (leR_n (leR_n leR_nil))))) (s_M_stands_0 K hQ _ _ _ _ h))
end
section
/-! EveningCloakModel.goes()V -/
abbrev c_M_goes : ByteArray := prog_6_method_38_code
def y_M_goes : MethodName := ⟨"EveningCloakModel", "goes", "()V"⟩
def rm_M_goes : Room := { frames := 4, cells := 0, slots := 0, locals := 93 }
theorem cy_M_goes : Cy y_M_goes c_M_goes 3 (none) 0 := ⟨lgm 947 (by decide +kernel) rfl, lgm 73 (by decide +kernel) rfl, by decide +kernel, by decide +kernel⟩
theorem im_M_goes : Cond.instanceMethod y_M_goes ∈ lg := lgm 946 (by decide +kernel) rfl
theorem se_M_goes : Cond.selects y_M_goes.cls y_M_goes y_M_goes ∈ lg := lgm 36 (by decide +kernel) rfl
def e_M_goes : List Ent := [
  (0, .aload_n 0, 1, 1, .null, 0, 0, 0),
  (1, .getfield 9, 3, 4, .null, 4, 0, 762),
  (4, .iconst 5, 1, 5, .int 5, 0, 0, 0),
  (5, .aload_n 0, 1, 6, .null, 0, 0, 0),
  (6, .getfield 9, 3, 9, .null, 4, 0, 762),
  (9, .iconst 0, 1, 10, .int 0, 0, 0, 0),
  (10, .iaload, 1, 11, .null, 0, 0, 0),
  (11, .bipush 6, 2, 13, .int 6, 0, 0, 0),
  (13, .irem, 1, 14, .null, 0, 0, 0),
  (14, .iadd, 1, 15, .null, 0, 0, 0),
  (15, .iaload, 1, 16, .null, 0, 0, 0),
  (16, .istore_n 1, 1, 17, .null, 0, 0, 0),
  (17, .aload_n 0, 1, 18, .null, 0, 0, 0),
  (18, .iload_n 1, 1, 19, .null, 0, 0, 0),
  (19, .bipush 100, 2, 21, .int 100, 0, 0, 0),
  (21, .idiv, 1, 22, .null, 0, 0, 0),
  (22, .invokevirtual 100, 3, 25, .null, 0, 0, 0),
  (25, .ifCond .eq 15, 3, 40, .null, 0, 0, 0),
  (28, .aload_n 0, 1, 29, .null, 0, 0, 0),
  (29, .iload_n 1, 1, 30, .null, 0, 0, 0),
  (30, .bipush 100, 2, 32, .int 100, 0, 0, 0),
  (32, .idiv, 1, 33, .null, 0, 0, 0),
  (33, .iload_n 1, 1, 34, .null, 0, 0, 0),
  (34, .bipush 100, 2, 36, .int 100, 0, 0, 0),
  (36, .irem, 1, 37, .null, 0, 0, 0),
  (37, .invokevirtual 109, 3, 40, .null, 0, 0, 0),
  (40, .aload_n 0, 1, 41, .null, 0, 0, 0),
  (41, .getfield 9, 3, 44, .null, 4, 0, 762),
  (44, .iconst 1, 1, 45, .int 1, 0, 0, 0),
  (45, .aload_n 0, 1, 46, .null, 0, 0, 0),
  (46, .getfield 9, 3, 49, .null, 4, 0, 762),
  (49, .iconst 1, 1, 50, .int 1, 0, 0, 0),
  (50, .iaload, 1, 51, .null, 0, 0, 0),
  (51, .aload_n 0, 1, 52, .null, 0, 0, 0),
  (52, .invokevirtual 113, 3, 55, .null, 0, 0, 0),
  (55, .iadd, 1, 56, .null, 0, 0, 0),
  (56, .iconst 0, 1, 57, .int 0, 0, 0, 0),
  (57, .ldc 117, 2, 59, .int 99999, 0, 0, 938),
  (59, .invokestatic 48, 3, 62, .null, 0, 0, 0),
  (62, .iastore, 1, 63, .null, 0, 0, 0),
  (63, .iconst 0, 1, 64, .int 0, 0, 0, 0),
  (64, .istore_n 2, 1, 65, .null, 0, 0, 0),
  (65, .iload_n 2, 1, 66, .null, 0, 0, 0),
  (66, .aload_n 0, 1, 67, .null, 0, 0, 0),
  (67, .getfield 9, 3, 70, .null, 4, 0, 762),
  (70, .iconst 3, 1, 71, .int 3, 0, 0, 0),
  (71, .iaload, 1, 72, .null, 0, 0, 0),
  (72, .if_icmp .ge 62, 3, 134, .null, 0, 0, 0),
  (75, .aload_n 0, 1, 76, .null, 0, 0, 0),
  (76, .iload_n 2, 1, 77, .null, 0, 0, 0),
  (77, .invokevirtual 55, 3, 80, .null, 0, 0, 0),
  (80, .ifCond .eq 48, 3, 128, .null, 0, 0, 0),
  (83, .aload_n 0, 1, 84, .null, 0, 0, 0),
  (84, .iload_n 2, 1, 85, .null, 0, 0, 0),
  (85, .iconst 4, 1, 86, .int 4, 0, 0, 0),
  (86, .aload_n 0, 1, 87, .null, 0, 0, 0),
  (87, .iload_n 2, 1, 88, .null, 0, 0, 0),
  (88, .iconst 4, 1, 89, .int 4, 0, 0, 0),
  (89, .invokevirtual 44, 3, 92, .null, 0, 0, 0),
  (92, .aload_n 0, 1, 93, .null, 0, 0, 0),
  (93, .iload_n 2, 1, 94, .null, 0, 0, 0),
  (94, .invokevirtual 91, 3, 97, .null, 0, 0, 0),
  (97, .iadd, 1, 98, .null, 0, 0, 0),
  (98, .iconst 0, 1, 99, .int 0, 0, 0, 0),
  (99, .bipush 99, 2, 101, .int 99, 0, 0, 0),
  (101, .invokestatic 48, 3, 104, .null, 0, 0, 0),
  (104, .invokevirtual 74, 3, 107, .null, 0, 0, 0),
  (107, .aload_n 0, 1, 108, .null, 0, 0, 0),
  (108, .iload_n 2, 1, 109, .null, 0, 0, 0),
  (109, .iconst 3, 1, 110, .int 3, 0, 0, 0),
  (110, .aload_n 0, 1, 111, .null, 0, 0, 0),
  (111, .iload_n 2, 1, 112, .null, 0, 0, 0),
  (112, .iconst 3, 1, 113, .int 3, 0, 0, 0),
  (113, .invokevirtual 44, 3, 116, .null, 0, 0, 0),
  (116, .iconst 1, 1, 117, .int 1, 0, 0, 0),
  (117, .iadd, 1, 118, .null, 0, 0, 0),
  (118, .iconst 0, 1, 119, .int 0, 0, 0, 0),
  (119, .sipush 9999, 3, 122, .int 9999, 0, 0, 0),
  (122, .invokestatic 48, 3, 125, .null, 0, 0, 0),
  (125, .invokevirtual 74, 3, 128, .null, 0, 0, 0),
  (128, .iinc 2 1, 3, 131, .int 1, 0, 0, 0),
  (131, .goto (-66), 3, 65, .null, 0, 0, 0),
  (134, .aload_n 0, 1, 135, .null, 0, 0, 0),
  (135, .getfield 9, 3, 138, .null, 4, 0, 762),
  (138, .iconst 0, 1, 139, .int 0, 0, 0, 0),
  (139, .aload_n 0, 1, 140, .null, 0, 0, 0),
  (140, .getfield 9, 3, 143, .null, 4, 0, 762),
  (143, .iconst 0, 1, 144, .int 0, 0, 0, 0),
  (144, .iaload, 1, 145, .null, 0, 0, 0),
  (145, .iconst 1, 1, 146, .int 1, 0, 0, 0),
  (146, .iadd, 1, 147, .null, 0, 0, 0),
  (147, .iconst 0, 1, 148, .int 0, 0, 0, 0),
  (148, .ldc 117, 2, 150, .int 99999, 0, 0, 938),
  (150, .invokestatic 48, 3, 153, .null, 0, 0, 0),
  (153, .iastore, 1, 154, .null, 0, 0, 0),
  (154, .return_, 1, 155, .null, 0, 0, 0)]
set_option maxRecDepth 100000 in
theorem ek_M_goes : e_M_goes.all (eok 4 c_M_goes) = true := by decide +kernel
def F_M_goes_128 (k65 : Nat → Int32 → A_W → Option (A_W)) (t : Nat) (x2 : Int32) (w : A_W) : Option (A_W) :=
  k65 t (x2 + 1) w
def F_M_goes_65 : Nat → Nat → Int32 → A_W → Option (A_W)
  | 0, _, _, _ => none
  | n + 1, t, x2, w =>
    (gr w t 4 0).bind fun a1 =>
    (rd w a1 3).bind fun v2 =>
    if v2 ≤ x2 then
      (gr w t 4 0).bind fun a4 =>
      (gr w t 4 0).bind fun a5 =>
      (rd w a5 0).bind fun v6 =>
      (F_M_held (v6 + 1) 0 99999 w).bind fun p7 =>
      (wr p7.2 a4 0 p7.1).bind fun w8 =>
      some w8
    else
      (ob w t 4).bind fun o10 =>
      (F_M_isHere t x2 w).bind fun p9 =>
      if p9.1 = 0 then
        F_M_goes_128 (F_M_goes_65 n) t x2 p9.2
      else
        (ob p9.2 t 4).bind fun o13 =>
        (F_M_it t x2 4 p9.2).bind fun p12 =>
        (ob p12.2 t 4).bind fun o15 =>
        (F_M_wears t x2 p12.2).bind fun p14 =>
        (F_M_held (p12.1 + p14.1) 0 99 p14.2).bind fun p16 =>
        (ob p16.2 t 4).bind fun o18 =>
        (F_M_put t x2 4 p16.1 p16.2).bind fun p17 =>
        (ob p17 t 4).bind fun o20 =>
        (F_M_it t x2 3 p17).bind fun p19 =>
        (F_M_held (p19.1 + 1) 0 9999 p19.2).bind fun p21 =>
        (ob p21.2 t 4).bind fun o23 =>
        (F_M_put t x2 3 p21.1 p21.2).bind fun p22 =>
        F_M_goes_128 (F_M_goes_65 n) t x2 p22
def F_M_goes_40 (t : Nat) (w : A_W) : Option (A_W) :=
  (gr w t 4 0).bind fun a1 =>
  (gr w t 4 0).bind fun a2 =>
  (rd w a2 1).bind fun v3 =>
  (ob w t 4).bind fun o5 =>
  (F_M_allCost t w).bind fun p4 =>
  (F_M_held (v3 + p4.1) 0 99999 p4.2).bind fun p6 =>
  (wr p6.2 a1 1 p6.1).bind fun w7 =>
  F_M_goes_65 FU t 0 w7
def F_M_goes_0 (t : Nat) (w : A_W) : Option (A_W) :=
  (gr w t 4 0).bind fun a1 =>
  (gr w t 4 0).bind fun a2 =>
  (rd w a2 0).bind fun v3 =>
  (rd w a1 (5 + (jrem v3 6))).bind fun v4 =>
  (ob w t 4).bind fun o6 =>
  (F_M_isGirl t (v4 / 100) w).bind fun p5 =>
  if p5.1 = 0 then
    F_M_goes_40 t p5.2
  else
    (ob p5.2 t 4).bind fun o9 =>
    (F_M_stands t (v4 / 100) (jrem v4 100) p5.2).bind fun p8 =>
    F_M_goes_40 t p8
set_option maxHeartbeats 4000000 in
set_option maxRecDepth 100000 in
theorem s_M_goes_128 {G : Gx} {X : Cx} {res : A_W} (K : Ok G X 4 c_M_goes 3 (none) rm_M_goes) (hQ : QQ G X none res 0 0) {k65 : Nat → Int32 → A_W → Option (A_W)} (hk65 : ∀ (t : Nat) (x2 : Int32) (w : A_W), k65 t x2 w = some res → Sm G X w 0 0 [some (.ref t), none, some (.int x2)] [] 65) (t : Nat) (x2 : Int32) (w : A_W) (h : F_M_goes_128 k65 t x2 w = some res) : Sm G X w 0 0 [some (.ref t), none, some (.int x2)] [] 128 := by
  unfold F_M_goes_128 at h
  refine Sm_run K ek_M_goes 80 2 rfl ?_
  exact Sm_le (leR_s (leR_n (leR_s leR_nil))) (hk65 _ _ _ h)
set_option maxHeartbeats 4000000 in
set_option maxRecDepth 100000 in
theorem s_M_goes_65 {G : Gx} {X : Cx} {res : A_W} (K : Ok G X 4 c_M_goes 3 (none) rm_M_goes) (hQ : QQ G X none res 0 0) : ∀ (n : Nat) (t : Nat) (x2 : Int32) (w : A_W), F_M_goes_65 n t x2 w = some res → Sm G X w 0 0 [some (.ref t), none, some (.int x2)] [] 65 := by
  intro n
  induction n with
  | zero => intro t x2 w h; cases h
  | succ n ih =>
    intro t x2 w h
    rw [F_M_goes_65] at h
    refine Sm_run K ek_M_goes 42 2 rfl ?_
    obtain ⟨a1, e_a1, h⟩ := Option.bind_eq_some_iff.mp h
    refine Sm_gr K (eo ek_M_goes (i := 44) rfl) e_a1 ?_
    refine Sm_run K ek_M_goes 45 1 rfl ?_
    obtain ⟨v2, e_v2, h⟩ := Option.bind_eq_some_iff.mp h
    refine Sm_rd K (eok_i (eo ek_M_goes (i := 46) rfl) rfl) e_v2 ?_
    refine Sm_ic_ge K (eo ek_M_goes (i := 47) rfl) (fun c3 => ?_) (fun c3 => ?_)
    · rw [if_pos c3] at h
      refine Sm_run K ek_M_goes 82 1 rfl ?_
      obtain ⟨a4, e_a4, h⟩ := Option.bind_eq_some_iff.mp h
      refine Sm_gr K (eo ek_M_goes (i := 83) rfl) e_a4 ?_
      refine Sm_run K ek_M_goes 84 2 rfl ?_
      obtain ⟨a5, e_a5, h⟩ := Option.bind_eq_some_iff.mp h
      refine Sm_gr K (eo ek_M_goes (i := 86) rfl) e_a5 ?_
      refine Sm_run K ek_M_goes 87 1 rfl ?_
      obtain ⟨v6, e_v6, h⟩ := Option.bind_eq_some_iff.mp h
      refine Sm_rd K (eok_i (eo ek_M_goes (i := 88) rfl) rfl) e_v6 ?_
      refine Sm_run K ek_M_goes 89 4 rfl ?_
      obtain ⟨p7, e_p7, h⟩ := Option.bind_eq_some_iff.mp h
      refine Sm_callS K (eok_i (eo ek_M_goes (i := 93) rfl) rfl) cy_M_held st_M_held (lgm 875 (by decide +kernel) rfl) ⟨Nat.le_of_ble_eq_true rfl, Nat.le_of_ble_eq_true rfl⟩ (as := [.int (v6 + 1), .int 0, .int 99999]) (st := [.int 0, .ref a4]) rfl rfl rfl (Nat.le_of_ble_eq_true rfl) ⟨Nat.le_of_ble_eq_true rfl, Nat.le_of_ble_eq_true rfl⟩ (cn_M_held e_p7) ?_
      refine Sm_eq (st1 := .int p7.1 :: [.int 0, .ref a4]) (nc1 := 0) (ns1 := 0) rfl rfl rfl ?_
      obtain ⟨w8, e_w8, h⟩ := Option.bind_eq_some_iff.mp h
      refine Sm_wr K (eok_i (eo ek_M_goes (i := 94) rfl) rfl) e_w8 ?_
      cases h
      exact Sm_retv K hQ (eok_i (eo ek_M_goes (i := 95) rfl) rfl)
    · rw [if_neg c3] at h
      refine Sm_run K ek_M_goes 48 2 rfl ?_
      obtain ⟨o10, e_o10, h⟩ := Option.bind_eq_some_iff.mp h
      obtain ⟨p9, e_p9, h⟩ := Option.bind_eq_some_iff.mp h
      refine Sm_callV K (eok_i (eo ek_M_goes (i := 50) rfl) rfl) cy_M_isHere im_M_isHere se_M_isHere (lgm 890 (by decide +kernel) rfl) ⟨Nat.le_of_ble_eq_true rfl, Nat.le_of_ble_eq_true rfl⟩ (as := [.int x2]) (b := t) (st := []) (ob_e e_o10) (by decide) rfl rfl rfl rfl (Nat.le_of_ble_eq_true rfl) ⟨Nat.le_of_ble_eq_true rfl, Nat.le_of_ble_eq_true rfl⟩ (cn_M_isHere e_p9) ?_
      refine Sm_eq (st1 := .int p9.1 :: []) (nc1 := 0) (ns1 := 0) rfl rfl rfl ?_
      refine Sm_if_eq K (eo ek_M_goes (i := 51) rfl) (fun c11 => ?_) (fun c11 => ?_)
      · rw [if_pos c11] at h
        exact Sm_le (leR_s (leR_n (leR_s leR_nil))) (s_M_goes_128 K hQ ih _ _ _ h)
      · rw [if_neg c11] at h
        refine Sm_run K ek_M_goes 52 6 rfl ?_
        obtain ⟨o13, e_o13, h⟩ := Option.bind_eq_some_iff.mp h
        obtain ⟨p12, e_p12, h⟩ := Option.bind_eq_some_iff.mp h
        refine Sm_callV K (eok_i (eo ek_M_goes (i := 58) rfl) rfl) cy_M_it im_M_it se_M_it (lgm 871 (by decide +kernel) rfl) ⟨Nat.le_of_ble_eq_true rfl, Nat.le_of_ble_eq_true rfl⟩ (as := [.int x2, .int 4]) (b := t) (st := [.int 4, .int x2, .ref t]) (ob_e e_o13) (by decide) rfl rfl rfl rfl (Nat.le_of_ble_eq_true rfl) ⟨Nat.le_of_ble_eq_true rfl, Nat.le_of_ble_eq_true rfl⟩ (cn_M_it e_p12) ?_
        refine Sm_eq (st1 := .int p12.1 :: [.int 4, .int x2, .ref t]) (nc1 := 0) (ns1 := 0) rfl rfl rfl ?_
        refine Sm_run K ek_M_goes 59 2 rfl ?_
        obtain ⟨o15, e_o15, h⟩ := Option.bind_eq_some_iff.mp h
        obtain ⟨p14, e_p14, h⟩ := Option.bind_eq_some_iff.mp h
        refine Sm_callV K (eok_i (eo ek_M_goes (i := 61) rfl) rfl) cy_M_wears im_M_wears se_M_wears (lgm 882 (by decide +kernel) rfl) ⟨Nat.le_of_ble_eq_true rfl, Nat.le_of_ble_eq_true rfl⟩ (as := [.int x2]) (b := t) (st := [.int p12.1, .int 4, .int x2, .ref t]) (ob_e e_o15) (by decide) rfl rfl rfl rfl (Nat.le_of_ble_eq_true rfl) ⟨Nat.le_of_ble_eq_true rfl, Nat.le_of_ble_eq_true rfl⟩ (cn_M_wears e_p14) ?_
        refine Sm_eq (st1 := .int p14.1 :: [.int p12.1, .int 4, .int x2, .ref t]) (nc1 := 0) (ns1 := 0) rfl rfl rfl ?_
        refine Sm_run K ek_M_goes 62 3 rfl ?_
        obtain ⟨p16, e_p16, h⟩ := Option.bind_eq_some_iff.mp h
        refine Sm_callS K (eok_i (eo ek_M_goes (i := 65) rfl) rfl) cy_M_held st_M_held (lgm 875 (by decide +kernel) rfl) ⟨Nat.le_of_ble_eq_true rfl, Nat.le_of_ble_eq_true rfl⟩ (as := [.int (p12.1 + p14.1), .int 0, .int 99]) (st := [.int 4, .int x2, .ref t]) rfl rfl rfl (Nat.le_of_ble_eq_true rfl) ⟨Nat.le_of_ble_eq_true rfl, Nat.le_of_ble_eq_true rfl⟩ (cn_M_held e_p16) ?_
        refine Sm_eq (st1 := .int p16.1 :: [.int 4, .int x2, .ref t]) (nc1 := 0) (ns1 := 0) rfl rfl rfl ?_
        obtain ⟨o18, e_o18, h⟩ := Option.bind_eq_some_iff.mp h
        obtain ⟨p17, e_p17, h⟩ := Option.bind_eq_some_iff.mp h
        refine Sm_callV K (eok_i (eo ek_M_goes (i := 66) rfl) rfl) cy_M_put im_M_put se_M_put (lgm 843 (by decide +kernel) rfl) ⟨Nat.le_of_ble_eq_true rfl, Nat.le_of_ble_eq_true rfl⟩ (as := [.int x2, .int 4, .int p16.1]) (b := t) (st := []) (ob_e e_o18) (by decide) rfl rfl rfl rfl (Nat.le_of_ble_eq_true rfl) ⟨Nat.le_of_ble_eq_true rfl, Nat.le_of_ble_eq_true rfl⟩ (cn_M_put e_p17) ?_
        refine Sm_eq (st1 := []) (nc1 := 0) (ns1 := 0) rfl rfl rfl ?_
        refine Sm_run K ek_M_goes 67 6 rfl ?_
        obtain ⟨o20, e_o20, h⟩ := Option.bind_eq_some_iff.mp h
        obtain ⟨p19, e_p19, h⟩ := Option.bind_eq_some_iff.mp h
        refine Sm_callV K (eok_i (eo ek_M_goes (i := 73) rfl) rfl) cy_M_it im_M_it se_M_it (lgm 871 (by decide +kernel) rfl) ⟨Nat.le_of_ble_eq_true rfl, Nat.le_of_ble_eq_true rfl⟩ (as := [.int x2, .int 3]) (b := t) (st := [.int 3, .int x2, .ref t]) (ob_e e_o20) (by decide) rfl rfl rfl rfl (Nat.le_of_ble_eq_true rfl) ⟨Nat.le_of_ble_eq_true rfl, Nat.le_of_ble_eq_true rfl⟩ (cn_M_it e_p19) ?_
        refine Sm_eq (st1 := .int p19.1 :: [.int 3, .int x2, .ref t]) (nc1 := 0) (ns1 := 0) rfl rfl rfl ?_
        refine Sm_run K ek_M_goes 74 4 rfl ?_
        obtain ⟨p21, e_p21, h⟩ := Option.bind_eq_some_iff.mp h
        refine Sm_callS K (eok_i (eo ek_M_goes (i := 78) rfl) rfl) cy_M_held st_M_held (lgm 875 (by decide +kernel) rfl) ⟨Nat.le_of_ble_eq_true rfl, Nat.le_of_ble_eq_true rfl⟩ (as := [.int (p19.1 + 1), .int 0, .int 9999]) (st := [.int 3, .int x2, .ref t]) rfl rfl rfl (Nat.le_of_ble_eq_true rfl) ⟨Nat.le_of_ble_eq_true rfl, Nat.le_of_ble_eq_true rfl⟩ (cn_M_held e_p21) ?_
        refine Sm_eq (st1 := .int p21.1 :: [.int 3, .int x2, .ref t]) (nc1 := 0) (ns1 := 0) rfl rfl rfl ?_
        obtain ⟨o23, e_o23, h⟩ := Option.bind_eq_some_iff.mp h
        obtain ⟨p22, e_p22, h⟩ := Option.bind_eq_some_iff.mp h
        refine Sm_callV K (eok_i (eo ek_M_goes (i := 79) rfl) rfl) cy_M_put im_M_put se_M_put (lgm 843 (by decide +kernel) rfl) ⟨Nat.le_of_ble_eq_true rfl, Nat.le_of_ble_eq_true rfl⟩ (as := [.int x2, .int 3, .int p21.1]) (b := t) (st := []) (ob_e e_o23) (by decide) rfl rfl rfl rfl (Nat.le_of_ble_eq_true rfl) ⟨Nat.le_of_ble_eq_true rfl, Nat.le_of_ble_eq_true rfl⟩ (cn_M_put e_p22) ?_
        refine Sm_eq (st1 := []) (nc1 := 0) (ns1 := 0) rfl rfl rfl ?_
        exact Sm_le (leR_s (leR_n (leR_s leR_nil))) (s_M_goes_128 K hQ ih _ _ _ h)
set_option maxHeartbeats 4000000 in
set_option maxRecDepth 100000 in
theorem s_M_goes_40 {G : Gx} {X : Cx} {res : A_W} (K : Ok G X 4 c_M_goes 3 (none) rm_M_goes) (hQ : QQ G X none res 0 0) (t : Nat) (w : A_W) (h : F_M_goes_40 t w = some res) : Sm G X w 0 0 [some (.ref t), none, none] [] 40 := by
  unfold F_M_goes_40 at h
  refine Sm_run K ek_M_goes 26 1 rfl ?_
  obtain ⟨a1, e_a1, h⟩ := Option.bind_eq_some_iff.mp h
  refine Sm_gr K (eo ek_M_goes (i := 27) rfl) e_a1 ?_
  refine Sm_run K ek_M_goes 28 2 rfl ?_
  obtain ⟨a2, e_a2, h⟩ := Option.bind_eq_some_iff.mp h
  refine Sm_gr K (eo ek_M_goes (i := 30) rfl) e_a2 ?_
  refine Sm_run K ek_M_goes 31 1 rfl ?_
  obtain ⟨v3, e_v3, h⟩ := Option.bind_eq_some_iff.mp h
  refine Sm_rd K (eok_i (eo ek_M_goes (i := 32) rfl) rfl) e_v3 ?_
  refine Sm_run K ek_M_goes 33 1 rfl ?_
  obtain ⟨o5, e_o5, h⟩ := Option.bind_eq_some_iff.mp h
  obtain ⟨p4, e_p4, h⟩ := Option.bind_eq_some_iff.mp h
  refine Sm_callV K (eok_i (eo ek_M_goes (i := 34) rfl) rfl) cy_M_allCost im_M_allCost se_M_allCost (lgm 952 (by decide +kernel) rfl) ⟨Nat.le_of_ble_eq_true rfl, Nat.le_of_ble_eq_true rfl⟩ (as := []) (b := t) (st := [.int v3, .int 1, .ref a1]) (ob_e e_o5) (by decide) rfl rfl rfl rfl (Nat.le_of_ble_eq_true rfl) ⟨Nat.le_of_ble_eq_true rfl, Nat.le_of_ble_eq_true rfl⟩ (cn_M_allCost e_p4) ?_
  refine Sm_eq (st1 := .int p4.1 :: [.int v3, .int 1, .ref a1]) (nc1 := 0) (ns1 := 0) rfl rfl rfl ?_
  refine Sm_run K ek_M_goes 35 3 rfl ?_
  obtain ⟨p6, e_p6, h⟩ := Option.bind_eq_some_iff.mp h
  refine Sm_callS K (eok_i (eo ek_M_goes (i := 38) rfl) rfl) cy_M_held st_M_held (lgm 875 (by decide +kernel) rfl) ⟨Nat.le_of_ble_eq_true rfl, Nat.le_of_ble_eq_true rfl⟩ (as := [.int (v3 + p4.1), .int 0, .int 99999]) (st := [.int 1, .ref a1]) rfl rfl rfl (Nat.le_of_ble_eq_true rfl) ⟨Nat.le_of_ble_eq_true rfl, Nat.le_of_ble_eq_true rfl⟩ (cn_M_held e_p6) ?_
  refine Sm_eq (st1 := .int p6.1 :: [.int 1, .ref a1]) (nc1 := 0) (ns1 := 0) rfl rfl rfl ?_
  obtain ⟨w7, e_w7, h⟩ := Option.bind_eq_some_iff.mp h
  refine Sm_wr K (eok_i (eo ek_M_goes (i := 39) rfl) rfl) e_w7 ?_
  refine Sm_run K ek_M_goes 40 2 rfl ?_
  exact Sm_le (leR_s (leR_n (leR_s leR_nil))) (s_M_goes_65 K hQ FU _ _ _ h)
set_option maxHeartbeats 4000000 in
set_option maxRecDepth 100000 in
theorem s_M_goes_0 {G : Gx} {X : Cx} {res : A_W} (K : Ok G X 4 c_M_goes 3 (none) rm_M_goes) (hQ : QQ G X none res 0 0) (t : Nat) (w : A_W) (h : F_M_goes_0 t w = some res) : Sm G X w 0 0 [some (.ref t), none, none] [] 0 := by
  unfold F_M_goes_0 at h
  refine Sm_run K ek_M_goes 0 1 rfl ?_
  obtain ⟨a1, e_a1, h⟩ := Option.bind_eq_some_iff.mp h
  refine Sm_gr K (eo ek_M_goes (i := 1) rfl) e_a1 ?_
  refine Sm_run K ek_M_goes 2 2 rfl ?_
  obtain ⟨a2, e_a2, h⟩ := Option.bind_eq_some_iff.mp h
  refine Sm_gr K (eo ek_M_goes (i := 4) rfl) e_a2 ?_
  refine Sm_run K ek_M_goes 5 1 rfl ?_
  obtain ⟨v3, e_v3, h⟩ := Option.bind_eq_some_iff.mp h
  refine Sm_rd K (eok_i (eo ek_M_goes (i := 6) rfl) rfl) e_v3 ?_
  refine Sm_run K ek_M_goes 7 1 rfl ?_
  refine Sm_irem K (eok_i (eo ek_M_goes (i := 8) rfl) rfl) (by decide) ?_
  refine Sm_run K ek_M_goes 9 1 rfl ?_
  obtain ⟨v4, e_v4, h⟩ := Option.bind_eq_some_iff.mp h
  refine Sm_rd K (eok_i (eo ek_M_goes (i := 10) rfl) rfl) e_v4 ?_
  refine Sm_run K ek_M_goes 11 4 rfl ?_
  refine Sm_idiv K (eok_i (eo ek_M_goes (i := 15) rfl) rfl) (by decide) ?_
  obtain ⟨o6, e_o6, h⟩ := Option.bind_eq_some_iff.mp h
  obtain ⟨p5, e_p5, h⟩ := Option.bind_eq_some_iff.mp h
  refine Sm_callV K (eok_i (eo ek_M_goes (i := 16) rfl) rfl) cy_M_isGirl im_M_isGirl se_M_isGirl (lgm 909 (by decide +kernel) rfl) ⟨Nat.le_of_ble_eq_true rfl, Nat.le_of_ble_eq_true rfl⟩ (as := [.int (v4 / 100)]) (b := t) (st := []) (ob_e e_o6) (by decide) rfl rfl rfl rfl (Nat.le_of_ble_eq_true rfl) ⟨Nat.le_of_ble_eq_true rfl, Nat.le_of_ble_eq_true rfl⟩ (cn_M_isGirl e_p5) ?_
  refine Sm_eq (st1 := .int p5.1 :: []) (nc1 := 0) (ns1 := 0) rfl rfl rfl ?_
  refine Sm_if_eq K (eo ek_M_goes (i := 17) rfl) (fun c7 => ?_) (fun c7 => ?_)
  · rw [if_pos c7] at h
    exact Sm_le (leR_s (leR_n (leR_n leR_nil))) (s_M_goes_40 K hQ _ _ h)
  · rw [if_neg c7] at h
    refine Sm_run K ek_M_goes 18 3 rfl ?_
    refine Sm_idiv K (eok_i (eo ek_M_goes (i := 21) rfl) rfl) (by decide) ?_
    refine Sm_run K ek_M_goes 22 2 rfl ?_
    refine Sm_irem K (eok_i (eo ek_M_goes (i := 24) rfl) rfl) (by decide) ?_
    obtain ⟨o9, e_o9, h⟩ := Option.bind_eq_some_iff.mp h
    obtain ⟨p8, e_p8, h⟩ := Option.bind_eq_some_iff.mp h
    refine Sm_callV K (eok_i (eo ek_M_goes (i := 25) rfl) rfl) cy_M_stands im_M_stands se_M_stands (lgm 948 (by decide +kernel) rfl) ⟨Nat.le_of_ble_eq_true rfl, Nat.le_of_ble_eq_true rfl⟩ (as := [.int (v4 / 100), .int (jrem v4 100)]) (b := t) (st := []) (ob_e e_o9) (by decide) rfl rfl rfl rfl (Nat.le_of_ble_eq_true rfl) ⟨Nat.le_of_ble_eq_true rfl, Nat.le_of_ble_eq_true rfl⟩ (cn_M_stands e_p8) ?_
    refine Sm_eq (st1 := []) (nc1 := 0) (ns1 := 0) rfl rfl rfl ?_
    exact Sm_le (leR_s (leR_n (leR_n leR_nil))) (s_M_goes_40 K hQ _ _ h)
def F_M_goes (t : Nat) (w : A_W) : Option (A_W) := F_M_goes_0 t w
theorem cn_M_goes {G : Gx} {t : Nat} {w : A_W} {res : A_W} (h : F_M_goes t w = some res) : Cn G y_M_goes c_M_goes 3 (none) rm_M_goes [.ref t] w none res :=
  Cn_of (own := 4) cy_M_goes rfl rfl (Nat.le_of_ble_eq_true rfl) rfl (fun X K _ hQ => Sm_le (leR_s (leR_n (leR_n leR_nil))) (s_M_goes_0 K hQ _ _ h))
/-! EveningCloakModel.goesFor(I)V -/
abbrev c_M_goesFor : ByteArray := prog_6_method_39_code
def y_M_goesFor : MethodName := ⟨"EveningCloakModel", "goesFor", "(I)V"⟩
def rm_M_goesFor : Room := { frames := 5, cells := 0, slots := 0, locals := 115 }
theorem cy_M_goesFor : Cy y_M_goesFor c_M_goesFor 3 (none) 1 := ⟨lgm 943 (by decide +kernel) rfl, lgm 73 (by decide +kernel) rfl, by decide +kernel, by decide +kernel⟩
theorem im_M_goesFor : Cond.instanceMethod y_M_goesFor ∈ lg := lgm 942 (by decide +kernel) rfl
theorem se_M_goesFor : Cond.selects y_M_goesFor.cls y_M_goesFor y_M_goesFor ∈ lg := lgm 35 (by decide +kernel) rfl
def e_M_goesFor : List Ent := [
  (0, .iconst 0, 1, 1, .int 0, 0, 0, 0),
  (1, .istore_n 2, 1, 2, .null, 0, 0, 0),
  (2, .iload_n 2, 1, 3, .null, 0, 0, 0),
  (3, .iload_n 1, 1, 4, .null, 0, 0, 0),
  (4, .if_icmp .ge 13, 3, 17, .null, 0, 0, 0),
  (7, .aload_n 0, 1, 8, .null, 0, 0, 0),
  (8, .invokevirtual 118, 3, 11, .null, 0, 0, 0),
  (11, .iinc 2 1, 3, 14, .int 1, 0, 0, 0),
  (14, .goto (-12), 3, 2, .null, 0, 0, 0),
  (17, .return_, 1, 18, .null, 0, 0, 0)]
set_option maxRecDepth 100000 in
theorem ek_M_goesFor : e_M_goesFor.all (eok 4 c_M_goesFor) = true := by decide +kernel
def F_M_goesFor_2 : Nat → Nat → Int32 → Int32 → A_W → Option (A_W)
  | 0, _, _, _, _ => none
  | n + 1, t, x1, x2, w =>
    if x1 ≤ x2 then
      some w
    else
      (ob w t 4).bind fun o3 =>
      (F_M_goes t w).bind fun p2 =>
      F_M_goesFor_2 n t x1 (x2 + 1) p2
def F_M_goesFor_0 (t : Nat) (x1 : Int32) (w : A_W) : Option (A_W) :=
  F_M_goesFor_2 FU t x1 0 w
set_option maxHeartbeats 4000000 in
set_option maxRecDepth 100000 in
theorem s_M_goesFor_2 {G : Gx} {X : Cx} {res : A_W} (K : Ok G X 4 c_M_goesFor 3 (none) rm_M_goesFor) (hQ : QQ G X none res 0 0) : ∀ (n : Nat) (t : Nat) (x1 : Int32) (x2 : Int32) (w : A_W), F_M_goesFor_2 n t x1 x2 w = some res → Sm G X w 0 0 [some (.ref t), some (.int x1), some (.int x2)] [] 2 := by
  intro n
  induction n with
  | zero => intro t x1 x2 w h; cases h
  | succ n ih =>
    intro t x1 x2 w h
    rw [F_M_goesFor_2] at h
    refine Sm_run K ek_M_goesFor 2 2 rfl ?_
    refine Sm_ic_ge K (eo ek_M_goesFor (i := 4) rfl) (fun c1 => ?_) (fun c1 => ?_)
    · rw [if_pos c1] at h
      cases h
      exact Sm_retv K hQ (eok_i (eo ek_M_goesFor (i := 9) rfl) rfl)
    · rw [if_neg c1] at h
      refine Sm_run K ek_M_goesFor 5 1 rfl ?_
      obtain ⟨o3, e_o3, h⟩ := Option.bind_eq_some_iff.mp h
      obtain ⟨p2, e_p2, h⟩ := Option.bind_eq_some_iff.mp h
      refine Sm_callV K (eok_i (eo ek_M_goesFor (i := 6) rfl) rfl) cy_M_goes im_M_goes se_M_goes (lgm 944 (by decide +kernel) rfl) ⟨Nat.le_of_ble_eq_true rfl, Nat.le_of_ble_eq_true rfl⟩ (as := []) (b := t) (st := []) (ob_e e_o3) (by decide) rfl rfl rfl rfl (Nat.le_of_ble_eq_true rfl) ⟨Nat.le_of_ble_eq_true rfl, Nat.le_of_ble_eq_true rfl⟩ (cn_M_goes e_p2) ?_
      refine Sm_eq (st1 := []) (nc1 := 0) (ns1 := 0) rfl rfl rfl ?_
      refine Sm_run K ek_M_goesFor 7 2 rfl ?_
      exact Sm_le (leR_s (leR_s (leR_s leR_nil))) (ih _ _ _ _ h)
set_option maxHeartbeats 4000000 in
set_option maxRecDepth 100000 in
theorem s_M_goesFor_0 {G : Gx} {X : Cx} {res : A_W} (K : Ok G X 4 c_M_goesFor 3 (none) rm_M_goesFor) (hQ : QQ G X none res 0 0) (t : Nat) (x1 : Int32) (w : A_W) (h : F_M_goesFor_0 t x1 w = some res) : Sm G X w 0 0 [some (.ref t), some (.int x1), none] [] 0 := by
  unfold F_M_goesFor_0 at h
  refine Sm_run K ek_M_goesFor 0 2 rfl ?_
  exact Sm_le (leR_s (leR_s (leR_s leR_nil))) (s_M_goesFor_2 K hQ FU _ _ _ _ h)
def F_M_goesFor (t : Nat) (x1 : Int32) (w : A_W) : Option (A_W) := F_M_goesFor_0 t x1 w
theorem cn_M_goesFor {G : Gx} {t : Nat} {x1 : Int32} {w : A_W} {res : A_W} (h : F_M_goesFor t x1 w = some res) : Cn G y_M_goesFor c_M_goesFor 3 (none) rm_M_goesFor [.ref t, .int x1] w none res :=
  Cn_of (own := 4) cy_M_goesFor rfl rfl (Nat.le_of_ble_eq_true rfl) rfl (fun X K _ hQ => Sm_le (leR_s (leR_s (leR_n leR_nil))) (s_M_goesFor_0 K hQ _ _ _ h))
/-! EveningCloakModel.go(I)I -/
abbrev c_M_go : ByteArray := prog_6_method_40_code
def y_M_go : MethodName := ⟨"EveningCloakModel", "go", "(I)I"⟩
def rm_M_go : Room := { frames := 6, cells := 0, slots := 0, locals := 137 }
theorem cy_M_go : Cy y_M_go c_M_go 2 (some .int) 1 := ⟨lgm 937 (by decide +kernel) rfl, lgm 73 (by decide +kernel) rfl, by decide +kernel, by decide +kernel⟩
theorem im_M_go : Cond.instanceMethod y_M_go ∈ lg := lgm 935 (by decide +kernel) rfl
theorem se_M_go : Cond.selects y_M_go.cls y_M_go y_M_go ∈ lg := lgm 936 (by decide +kernel) rfl
def e_M_go : List Ent := [
  (0, .iload_n 1, 1, 1, .null, 0, 0, 0),
  (1, .iconst 1, 1, 2, .int 1, 0, 0, 0),
  (2, .bipush 60, 2, 4, .int 60, 0, 0, 0),
  (4, .invokestatic 40, 3, 7, .null, 0, 0, 0),
  (7, .ifCond .ne 10, 3, 17, .null, 0, 0, 0),
  (10, .aload_n 0, 1, 11, .null, 0, 0, 0),
  (11, .ldc 34, 2, 13, .int (-1000001), 0, 0, 825),
  (13, .invokevirtual 36, 3, 16, .null, 0, 0, 0),
  (16, .ireturn, 1, 17, .null, 0, 0, 0),
  (17, .aload_n 0, 1, 18, .null, 0, 0, 0),
  (18, .getfield 9, 3, 21, .null, 4, 0, 762),
  (21, .iconst 0, 1, 22, .int 0, 0, 0, 0),
  (22, .iaload, 1, 23, .null, 0, 0, 0),
  (23, .iload_n 1, 1, 24, .null, 0, 0, 0),
  (24, .iadd, 1, 25, .null, 0, 0, 0),
  (25, .ldc 117, 2, 27, .int 99999, 0, 0, 938),
  (27, .if_icmp .le 10, 3, 37, .null, 0, 0, 0),
  (30, .aload_n 0, 1, 31, .null, 0, 0, 0),
  (31, .ldc 121, 2, 33, .int (-1000005), 0, 0, 939),
  (33, .invokevirtual 36, 3, 36, .null, 0, 0, 0),
  (36, .ireturn, 1, 37, .null, 0, 0, 0),
  (37, .aload_n 0, 1, 38, .null, 0, 0, 0),
  (38, .iload_n 1, 1, 39, .null, 0, 0, 0),
  (39, .invokevirtual 122, 3, 42, .null, 0, 0, 0),
  (42, .aload_n 0, 1, 43, .null, 0, 0, 0),
  (43, .getfield 9, 3, 46, .null, 4, 0, 762),
  (46, .iconst 1, 1, 47, .int 1, 0, 0, 0),
  (47, .iaload, 1, 48, .null, 0, 0, 0),
  (48, .ireturn, 1, 49, .null, 0, 0, 0)]
set_option maxRecDepth 100000 in
theorem ek_M_go : e_M_go.all (eok 4 c_M_go) = true := by decide +kernel
def F_M_go_0 (t : Nat) (x1 : Int32) (w : A_W) : Option (Int32 × A_W) :=
  (F_M_in x1 1 60 w).bind fun p1 =>
  if p1.1 = 0 then
    (ob p1.2 t 4).bind fun o13 =>
    (F_M_finds t (-1000001) p1.2).bind fun p12 =>
    some (p12.1, p12.2)
  else
    (gr p1.2 t 4 0).bind fun a3 =>
    (rd p1.2 a3 0).bind fun v4 =>
    if (v4 + x1) ≤ 99999 then
      (ob p1.2 t 4).bind fun o7 =>
      (F_M_goesFor t x1 p1.2).bind fun p6 =>
      (gr p6 t 4 0).bind fun a8 =>
      (rd p6 a8 1).bind fun v9 =>
      some (v9, p6)
    else
      (ob p1.2 t 4).bind fun o11 =>
      (F_M_finds t (-1000005) p1.2).bind fun p10 =>
      some (p10.1, p10.2)
set_option maxHeartbeats 4000000 in
set_option maxRecDepth 100000 in
theorem s_M_go_0 {G : Gx} {X : Cx} {res : Int32 × A_W} (K : Ok G X 4 c_M_go 2 (some .int) rm_M_go) (hQ : QQ G X (some (.int res.1)) res.2 0 0) (t : Nat) (x1 : Int32) (w : A_W) (h : F_M_go_0 t x1 w = some res) : Sm G X w 0 0 [some (.ref t), some (.int x1)] [] 0 := by
  unfold F_M_go_0 at h
  refine Sm_run K ek_M_go 0 3 rfl ?_
  obtain ⟨p1, e_p1, h⟩ := Option.bind_eq_some_iff.mp h
  refine Sm_callS K (eok_i (eo ek_M_go (i := 3) rfl) rfl) cy_M_in st_M_in (lgm 815 (by decide +kernel) rfl) ⟨Nat.le_of_ble_eq_true rfl, Nat.le_of_ble_eq_true rfl⟩ (as := [.int x1, .int 1, .int 60]) (st := []) rfl rfl rfl (Nat.le_of_ble_eq_true rfl) ⟨Nat.le_of_ble_eq_true rfl, Nat.le_of_ble_eq_true rfl⟩ (cn_M_in e_p1) ?_
  refine Sm_eq (st1 := .int p1.1 :: []) (nc1 := 0) (ns1 := 0) rfl rfl rfl ?_
  refine Sm_if_ne K (eo ek_M_go (i := 4) rfl) (fun c2 => ?_) (fun c2 => ?_)
  · rw [if_neg c2] at h
    refine Sm_run K ek_M_go 9 1 rfl ?_
    obtain ⟨a3, e_a3, h⟩ := Option.bind_eq_some_iff.mp h
    refine Sm_gr K (eo ek_M_go (i := 10) rfl) e_a3 ?_
    refine Sm_run K ek_M_go 11 1 rfl ?_
    obtain ⟨v4, e_v4, h⟩ := Option.bind_eq_some_iff.mp h
    refine Sm_rd K (eok_i (eo ek_M_go (i := 12) rfl) rfl) e_v4 ?_
    refine Sm_run K ek_M_go 13 3 rfl ?_
    refine Sm_ic_le K (eo ek_M_go (i := 16) rfl) (fun c5 => ?_) (fun c5 => ?_)
    · rw [if_pos c5] at h
      refine Sm_run K ek_M_go 21 2 rfl ?_
      obtain ⟨o7, e_o7, h⟩ := Option.bind_eq_some_iff.mp h
      obtain ⟨p6, e_p6, h⟩ := Option.bind_eq_some_iff.mp h
      refine Sm_callV K (eok_i (eo ek_M_go (i := 23) rfl) rfl) cy_M_goesFor im_M_goesFor se_M_goesFor (lgm 940 (by decide +kernel) rfl) ⟨Nat.le_of_ble_eq_true rfl, Nat.le_of_ble_eq_true rfl⟩ (as := [.int x1]) (b := t) (st := []) (ob_e e_o7) (by decide) rfl rfl rfl rfl (Nat.le_of_ble_eq_true rfl) ⟨Nat.le_of_ble_eq_true rfl, Nat.le_of_ble_eq_true rfl⟩ (cn_M_goesFor e_p6) ?_
      refine Sm_eq (st1 := []) (nc1 := 0) (ns1 := 0) rfl rfl rfl ?_
      refine Sm_run K ek_M_go 24 1 rfl ?_
      obtain ⟨a8, e_a8, h⟩ := Option.bind_eq_some_iff.mp h
      refine Sm_gr K (eo ek_M_go (i := 25) rfl) e_a8 ?_
      refine Sm_run K ek_M_go 26 1 rfl ?_
      obtain ⟨v9, e_v9, h⟩ := Option.bind_eq_some_iff.mp h
      refine Sm_rd K (eok_i (eo ek_M_go (i := 27) rfl) rfl) e_v9 ?_
      cases h
      exact Sm_reti K hQ (eok_i (eo ek_M_go (i := 28) rfl) rfl)
    · rw [if_neg c5] at h
      refine Sm_run K ek_M_go 17 2 rfl ?_
      obtain ⟨o11, e_o11, h⟩ := Option.bind_eq_some_iff.mp h
      obtain ⟨p10, e_p10, h⟩ := Option.bind_eq_some_iff.mp h
      refine Sm_callV K (eok_i (eo ek_M_go (i := 19) rfl) rfl) cy_M_finds im_M_finds se_M_finds (lgm 826 (by decide +kernel) rfl) ⟨Nat.le_of_ble_eq_true rfl, Nat.le_of_ble_eq_true rfl⟩ (as := [.int (-1000005)]) (b := t) (st := []) (ob_e e_o11) (by decide) rfl rfl rfl rfl (Nat.le_of_ble_eq_true rfl) ⟨Nat.le_of_ble_eq_true rfl, Nat.le_of_ble_eq_true rfl⟩ (cn_M_finds e_p10) ?_
      refine Sm_eq (st1 := .int p10.1 :: []) (nc1 := 0) (ns1 := 0) rfl rfl rfl ?_
      cases h
      exact Sm_reti K hQ (eok_i (eo ek_M_go (i := 20) rfl) rfl)
  · rw [if_pos c2] at h
    refine Sm_run K ek_M_go 5 2 rfl ?_
    obtain ⟨o13, e_o13, h⟩ := Option.bind_eq_some_iff.mp h
    obtain ⟨p12, e_p12, h⟩ := Option.bind_eq_some_iff.mp h
    refine Sm_callV K (eok_i (eo ek_M_go (i := 7) rfl) rfl) cy_M_finds im_M_finds se_M_finds (lgm 826 (by decide +kernel) rfl) ⟨Nat.le_of_ble_eq_true rfl, Nat.le_of_ble_eq_true rfl⟩ (as := [.int (-1000001)]) (b := t) (st := []) (ob_e e_o13) (by decide) rfl rfl rfl rfl (Nat.le_of_ble_eq_true rfl) ⟨Nat.le_of_ble_eq_true rfl, Nat.le_of_ble_eq_true rfl⟩ (cn_M_finds e_p12) ?_
    refine Sm_eq (st1 := .int p12.1 :: []) (nc1 := 0) (ns1 := 0) rfl rfl rfl ?_
    cases h
    exact Sm_reti K hQ (eok_i (eo ek_M_go (i := 8) rfl) rfl)
def F_M_go (t : Nat) (x1 : Int32) (w : A_W) : Option (Int32 × A_W) := F_M_go_0 t x1 w
theorem cn_M_go {G : Gx} {t : Nat} {x1 : Int32} {w : A_W} {res : Int32 × A_W} (h : F_M_go t x1 w = some res) : Cn G y_M_go c_M_go 2 (some .int) rm_M_go [.ref t, .int x1] w (some (.int res.1)) res.2 :=
  Cn_of (own := 4) cy_M_go rfl rfl (Nat.le_of_ble_eq_true rfl) rfl (fun X K _ hQ => Sm_le (leR_s (leR_s leR_nil)) (s_M_go_0 K hQ _ _ _ h))
/-! EveningCloakModel.sums(I)I -/
abbrev c_M_sums : ByteArray := prog_6_method_41_code
def y_M_sums : MethodName := ⟨"EveningCloakModel", "sums", "(I)I"⟩
def rm_M_sums : Room := { frames := 1, cells := 0, slots := 0, locals := 22 }
theorem cy_M_sums : Cy y_M_sums c_M_sums 4 (some .int) 1 := ⟨lgm 963 (by decide +kernel) rfl, lgm 73 (by decide +kernel) rfl, by decide +kernel, by decide +kernel⟩
theorem im_M_sums : Cond.instanceMethod y_M_sums ∈ lg := lgm 962 (by decide +kernel) rfl
theorem se_M_sums : Cond.selects y_M_sums.cls y_M_sums y_M_sums ∈ lg := lgm 39 (by decide +kernel) rfl
def e_M_sums : List Ent := [
  (0, .iconst 0, 1, 1, .int 0, 0, 0, 0),
  (1, .istore_n 2, 1, 2, .null, 0, 0, 0),
  (2, .iconst 0, 1, 3, .int 0, 0, 0, 0),
  (3, .istore_n 3, 1, 4, .null, 0, 0, 0),
  (4, .iload_n 3, 1, 5, .null, 0, 0, 0),
  (5, .aload_n 0, 1, 6, .null, 0, 0, 0),
  (6, .getfield 9, 3, 9, .null, 4, 0, 762),
  (9, .iconst 4, 1, 10, .int 4, 0, 0, 0),
  (10, .iaload, 1, 11, .null, 0, 0, 0),
  (11, .if_icmp .ge 18, 3, 29, .null, 0, 0, 0),
  (14, .iload_n 2, 1, 15, .null, 0, 0, 0),
  (15, .aload_n 0, 1, 16, .null, 0, 0, 0),
  (16, .iload_n 3, 1, 17, .null, 0, 0, 0),
  (17, .iload_n 1, 1, 18, .null, 0, 0, 0),
  (18, .invokevirtual 103, 3, 21, .null, 0, 0, 0),
  (21, .iadd, 1, 22, .null, 0, 0, 0),
  (22, .istore_n 2, 1, 23, .null, 0, 0, 0),
  (23, .iinc 3 1, 3, 26, .int 1, 0, 0, 0),
  (26, .goto (-22), 3, 4, .null, 0, 0, 0),
  (29, .iload_n 2, 1, 30, .null, 0, 0, 0),
  (30, .ireturn, 1, 31, .null, 0, 0, 0)]
set_option maxRecDepth 100000 in
theorem ek_M_sums : e_M_sums.all (eok 4 c_M_sums) = true := by decide +kernel
def F_M_sums_4 : Nat → Nat → Int32 → Int32 → Int32 → A_W → Option (Int32 × A_W)
  | 0, _, _, _, _, _ => none
  | n + 1, t, x1, x2, x3, w =>
    (gr w t 4 0).bind fun a1 =>
    (rd w a1 4).bind fun v2 =>
    if v2 ≤ x3 then
      some (x2, w)
    else
      (ob w t 4).bind fun o5 =>
      (F_M_her t x3 x1 w).bind fun p4 =>
      F_M_sums_4 n t x1 (x2 + p4.1) (x3 + 1) p4.2
def F_M_sums_0 (t : Nat) (x1 : Int32) (w : A_W) : Option (Int32 × A_W) :=
  F_M_sums_4 FU t x1 0 0 w
set_option maxHeartbeats 4000000 in
set_option maxRecDepth 100000 in
theorem s_M_sums_4 {G : Gx} {X : Cx} {res : Int32 × A_W} (K : Ok G X 4 c_M_sums 4 (some .int) rm_M_sums) (hQ : QQ G X (some (.int res.1)) res.2 0 0) : ∀ (n : Nat) (t : Nat) (x1 : Int32) (x2 : Int32) (x3 : Int32) (w : A_W), F_M_sums_4 n t x1 x2 x3 w = some res → Sm G X w 0 0 [some (.ref t), some (.int x1), some (.int x2), some (.int x3)] [] 4 := by
  intro n
  induction n with
  | zero => intro t x1 x2 x3 w h; cases h
  | succ n ih =>
    intro t x1 x2 x3 w h
    rw [F_M_sums_4] at h
    refine Sm_run K ek_M_sums 4 2 rfl ?_
    obtain ⟨a1, e_a1, h⟩ := Option.bind_eq_some_iff.mp h
    refine Sm_gr K (eo ek_M_sums (i := 6) rfl) e_a1 ?_
    refine Sm_run K ek_M_sums 7 1 rfl ?_
    obtain ⟨v2, e_v2, h⟩ := Option.bind_eq_some_iff.mp h
    refine Sm_rd K (eok_i (eo ek_M_sums (i := 8) rfl) rfl) e_v2 ?_
    refine Sm_ic_ge K (eo ek_M_sums (i := 9) rfl) (fun c3 => ?_) (fun c3 => ?_)
    · rw [if_pos c3] at h
      refine Sm_run K ek_M_sums 19 1 rfl ?_
      cases h
      exact Sm_reti K hQ (eok_i (eo ek_M_sums (i := 20) rfl) rfl)
    · rw [if_neg c3] at h
      refine Sm_run K ek_M_sums 10 4 rfl ?_
      obtain ⟨o5, e_o5, h⟩ := Option.bind_eq_some_iff.mp h
      obtain ⟨p4, e_p4, h⟩ := Option.bind_eq_some_iff.mp h
      refine Sm_callV K (eok_i (eo ek_M_sums (i := 14) rfl) rfl) cy_M_her im_M_her se_M_her (lgm 913 (by decide +kernel) rfl) ⟨Nat.le_of_ble_eq_true rfl, Nat.le_of_ble_eq_true rfl⟩ (as := [.int x3, .int x1]) (b := t) (st := [.int x2]) (ob_e e_o5) (by decide) rfl rfl rfl rfl (Nat.le_of_ble_eq_true rfl) ⟨Nat.le_of_ble_eq_true rfl, Nat.le_of_ble_eq_true rfl⟩ (cn_M_her e_p4) ?_
      refine Sm_eq (st1 := .int p4.1 :: [.int x2]) (nc1 := 0) (ns1 := 0) rfl rfl rfl ?_
      refine Sm_run K ek_M_sums 15 4 rfl ?_
      exact Sm_le (leR_s (leR_s (leR_s (leR_s leR_nil)))) (ih _ _ _ _ _ h)
set_option maxHeartbeats 4000000 in
set_option maxRecDepth 100000 in
theorem s_M_sums_0 {G : Gx} {X : Cx} {res : Int32 × A_W} (K : Ok G X 4 c_M_sums 4 (some .int) rm_M_sums) (hQ : QQ G X (some (.int res.1)) res.2 0 0) (t : Nat) (x1 : Int32) (w : A_W) (h : F_M_sums_0 t x1 w = some res) : Sm G X w 0 0 [some (.ref t), some (.int x1), none, none] [] 0 := by
  unfold F_M_sums_0 at h
  refine Sm_run K ek_M_sums 0 4 rfl ?_
  exact Sm_le (leR_s (leR_s (leR_s (leR_s leR_nil)))) (s_M_sums_4 K hQ FU _ _ _ _ _ h)
def F_M_sums (t : Nat) (x1 : Int32) (w : A_W) : Option (Int32 × A_W) := F_M_sums_0 t x1 w
theorem cn_M_sums {G : Gx} {t : Nat} {x1 : Int32} {w : A_W} {res : Int32 × A_W} (h : F_M_sums t x1 w = some res) : Cn G y_M_sums c_M_sums 4 (some .int) rm_M_sums [.ref t, .int x1] w (some (.int res.1)) res.2 :=
  Cn_of (own := 4) cy_M_sums rfl rfl (Nat.le_of_ble_eq_true rfl) rfl (fun X K _ hQ => Sm_le (leR_s (leR_s (leR_n (leR_n leR_nil)))) (s_M_sums_0 K hQ _ _ _ h))
/-! EveningCloakModel.darkOnes()I -/
abbrev c_M_darkOnes : ByteArray := prog_6_method_42_code
def y_M_darkOnes : MethodName := ⟨"EveningCloakModel", "darkOnes", "()I"⟩
def rm_M_darkOnes : Room := { frames := 3, cells := 0, slots := 0, locals := 69 }
theorem cy_M_darkOnes : Cy y_M_darkOnes c_M_darkOnes 3 (some .int) 0 := ⟨lgm 971 (by decide +kernel) rfl, lgm 73 (by decide +kernel) rfl, by decide +kernel, by decide +kernel⟩
theorem im_M_darkOnes : Cond.instanceMethod y_M_darkOnes ∈ lg := lgm 970 (by decide +kernel) rfl
theorem se_M_darkOnes : Cond.selects y_M_darkOnes.cls y_M_darkOnes y_M_darkOnes ∈ lg := lgm 41 (by decide +kernel) rfl
def e_M_darkOnes : List Ent := [
  (0, .iconst 0, 1, 1, .int 0, 0, 0, 0),
  (1, .istore_n 1, 1, 2, .null, 0, 0, 0),
  (2, .iconst 0, 1, 3, .int 0, 0, 0, 0),
  (3, .istore_n 2, 1, 4, .null, 0, 0, 0),
  (4, .iload_n 2, 1, 5, .null, 0, 0, 0),
  (5, .bipush 16, 2, 7, .int 16, 0, 0, 0),
  (7, .if_icmp .ge 27, 3, 34, .null, 0, 0, 0),
  (10, .iload_n 1, 1, 11, .null, 0, 0, 0),
  (11, .aload_n 0, 1, 12, .null, 0, 0, 0),
  (12, .iload_n 2, 1, 13, .null, 0, 0, 0),
  (13, .invokevirtual 62, 3, 16, .null, 0, 0, 0),
  (16, .ifCond .ne 9, 3, 25, .null, 0, 0, 0),
  (19, .iconst 1, 1, 20, .int 1, 0, 0, 0),
  (20, .iload_n 2, 1, 21, .null, 0, 0, 0),
  (21, .ishl, 1, 22, .null, 0, 0, 0),
  (22, .goto 4, 3, 26, .null, 0, 0, 0),
  (25, .iconst 0, 1, 26, .int 0, 0, 0, 0),
  (26, .ior, 1, 27, .null, 0, 0, 0),
  (27, .istore_n 1, 1, 28, .null, 0, 0, 0),
  (28, .iinc 2 1, 3, 31, .int 1, 0, 0, 0),
  (31, .goto (-27), 3, 4, .null, 0, 0, 0),
  (34, .iload_n 1, 1, 35, .null, 0, 0, 0),
  (35, .ireturn, 1, 36, .null, 0, 0, 0)]
set_option maxRecDepth 100000 in
theorem ek_M_darkOnes : e_M_darkOnes.all (eok 4 c_M_darkOnes) = true := by decide +kernel
def F_M_darkOnes_26 (k4 : Nat → Int32 → Int32 → A_W → Option (Int32 × A_W)) (t : Nat) (x2 : Int32) (y0 : Int32) (y1 : Int32) (w : A_W) : Option (Int32 × A_W) :=
  k4 t (y0 ||| y1) (x2 + 1) w
def F_M_darkOnes_4 : Nat → Nat → Int32 → Int32 → A_W → Option (Int32 × A_W)
  | 0, _, _, _, _ => none
  | n + 1, t, x1, x2, w =>
    if 16 ≤ x2 then
      some (x1, w)
    else
      (ob w t 4).bind fun o3 =>
      (F_M_lightAt t x2 w).bind fun p2 =>
      if p2.1 = 0 then
        F_M_darkOnes_26 (F_M_darkOnes_4 n) t x2 x1 (1 <<< (x2 &&& 31)) p2.2
      else
        F_M_darkOnes_26 (F_M_darkOnes_4 n) t x2 x1 0 p2.2
def F_M_darkOnes_0 (t : Nat) (w : A_W) : Option (Int32 × A_W) :=
  F_M_darkOnes_4 FU t 0 0 w
set_option maxHeartbeats 4000000 in
set_option maxRecDepth 100000 in
theorem s_M_darkOnes_26 {G : Gx} {X : Cx} {res : Int32 × A_W} (K : Ok G X 4 c_M_darkOnes 3 (some .int) rm_M_darkOnes) (hQ : QQ G X (some (.int res.1)) res.2 0 0) {k4 : Nat → Int32 → Int32 → A_W → Option (Int32 × A_W)} (hk4 : ∀ (t : Nat) (x1 : Int32) (x2 : Int32) (w : A_W), k4 t x1 x2 w = some res → Sm G X w 0 0 [some (.ref t), some (.int x1), some (.int x2)] [] 4) (t : Nat) (x2 : Int32) (y0 : Int32) (y1 : Int32) (w : A_W) (h : F_M_darkOnes_26 k4 t x2 y0 y1 w = some res) : Sm G X w 0 0 [some (.ref t), none, some (.int x2)] [.int y1, .int y0] 26 := by
  unfold F_M_darkOnes_26 at h
  refine Sm_run K ek_M_darkOnes 17 4 rfl ?_
  exact Sm_le (leR_s (leR_s (leR_s leR_nil))) (hk4 _ _ _ _ h)
set_option maxHeartbeats 4000000 in
set_option maxRecDepth 100000 in
theorem s_M_darkOnes_4 {G : Gx} {X : Cx} {res : Int32 × A_W} (K : Ok G X 4 c_M_darkOnes 3 (some .int) rm_M_darkOnes) (hQ : QQ G X (some (.int res.1)) res.2 0 0) : ∀ (n : Nat) (t : Nat) (x1 : Int32) (x2 : Int32) (w : A_W), F_M_darkOnes_4 n t x1 x2 w = some res → Sm G X w 0 0 [some (.ref t), some (.int x1), some (.int x2)] [] 4 := by
  intro n
  induction n with
  | zero => intro t x1 x2 w h; cases h
  | succ n ih =>
    intro t x1 x2 w h
    rw [F_M_darkOnes_4] at h
    refine Sm_run K ek_M_darkOnes 4 2 rfl ?_
    refine Sm_ic_ge K (eo ek_M_darkOnes (i := 6) rfl) (fun c1 => ?_) (fun c1 => ?_)
    · rw [if_pos c1] at h
      refine Sm_run K ek_M_darkOnes 21 1 rfl ?_
      cases h
      exact Sm_reti K hQ (eok_i (eo ek_M_darkOnes (i := 22) rfl) rfl)
    · rw [if_neg c1] at h
      refine Sm_run K ek_M_darkOnes 7 3 rfl ?_
      obtain ⟨o3, e_o3, h⟩ := Option.bind_eq_some_iff.mp h
      obtain ⟨p2, e_p2, h⟩ := Option.bind_eq_some_iff.mp h
      refine Sm_callV K (eok_i (eo ek_M_darkOnes (i := 10) rfl) rfl) cy_M_lightAt im_M_lightAt se_M_lightAt (lgm 886 (by decide +kernel) rfl) ⟨Nat.le_of_ble_eq_true rfl, Nat.le_of_ble_eq_true rfl⟩ (as := [.int x2]) (b := t) (st := [.int x1]) (ob_e e_o3) (by decide) rfl rfl rfl rfl (Nat.le_of_ble_eq_true rfl) ⟨Nat.le_of_ble_eq_true rfl, Nat.le_of_ble_eq_true rfl⟩ (cn_M_lightAt e_p2) ?_
      refine Sm_eq (st1 := .int p2.1 :: [.int x1]) (nc1 := 0) (ns1 := 0) rfl rfl rfl ?_
      refine Sm_if_ne K (eo ek_M_darkOnes (i := 11) rfl) (fun c4 => ?_) (fun c4 => ?_)
      · rw [if_neg c4] at h
        refine Sm_run K ek_M_darkOnes 16 1 rfl ?_
        exact Sm_le (leR_s (leR_n (leR_s leR_nil))) (s_M_darkOnes_26 K hQ ih _ _ _ _ _ h)
      · rw [if_pos c4] at h
        refine Sm_run K ek_M_darkOnes 12 4 rfl ?_
        exact Sm_le (leR_s (leR_n (leR_s leR_nil))) (s_M_darkOnes_26 K hQ ih _ _ _ _ _ h)
set_option maxHeartbeats 4000000 in
set_option maxRecDepth 100000 in
theorem s_M_darkOnes_0 {G : Gx} {X : Cx} {res : Int32 × A_W} (K : Ok G X 4 c_M_darkOnes 3 (some .int) rm_M_darkOnes) (hQ : QQ G X (some (.int res.1)) res.2 0 0) (t : Nat) (w : A_W) (h : F_M_darkOnes_0 t w = some res) : Sm G X w 0 0 [some (.ref t), none, none] [] 0 := by
  unfold F_M_darkOnes_0 at h
  refine Sm_run K ek_M_darkOnes 0 4 rfl ?_
  exact Sm_le (leR_s (leR_s (leR_s leR_nil))) (s_M_darkOnes_4 K hQ FU _ _ _ _ h)
def F_M_darkOnes (t : Nat) (w : A_W) : Option (Int32 × A_W) := F_M_darkOnes_0 t w
theorem cn_M_darkOnes {G : Gx} {t : Nat} {w : A_W} {res : Int32 × A_W} (h : F_M_darkOnes t w = some res) : Cn G y_M_darkOnes c_M_darkOnes 3 (some .int) rm_M_darkOnes [.ref t] w (some (.int res.1)) res.2 :=
  Cn_of (own := 4) cy_M_darkOnes rfl rfl (Nat.le_of_ble_eq_true rfl) rfl (fun X K _ hQ => Sm_le (leR_s (leR_n (leR_n leR_nil))) (s_M_darkOnes_0 K hQ _ _ h))
/-! EveningCloakModel.lightest()I -/
abbrev c_M_lightest : ByteArray := prog_6_method_43_code
def y_M_lightest : MethodName := ⟨"EveningCloakModel", "lightest", "()I"⟩
def rm_M_lightest : Room := { frames := 3, cells := 0, slots := 0, locals := 69 }
theorem cy_M_lightest : Cy y_M_lightest c_M_lightest 3 (some .int) 0 := ⟨lgm 975 (by decide +kernel) rfl, lgm 73 (by decide +kernel) rfl, by decide +kernel, by decide +kernel⟩
theorem im_M_lightest : Cond.instanceMethod y_M_lightest ∈ lg := lgm 974 (by decide +kernel) rfl
theorem se_M_lightest : Cond.selects y_M_lightest.cls y_M_lightest y_M_lightest ∈ lg := lgm 42 (by decide +kernel) rfl
def e_M_lightest : List Ent := [
  (0, .iconst 0, 1, 1, .int 0, 0, 0, 0),
  (1, .istore_n 1, 1, 2, .null, 0, 0, 0),
  (2, .iconst 1, 1, 3, .int 1, 0, 0, 0),
  (3, .istore_n 2, 1, 4, .null, 0, 0, 0),
  (4, .iload_n 2, 1, 5, .null, 0, 0, 0),
  (5, .bipush 16, 2, 7, .int 16, 0, 0, 0),
  (7, .if_icmp .ge 28, 3, 35, .null, 0, 0, 0),
  (10, .aload_n 0, 1, 11, .null, 0, 0, 0),
  (11, .iload_n 2, 1, 12, .null, 0, 0, 0),
  (12, .invokevirtual 62, 3, 15, .null, 0, 0, 0),
  (15, .aload_n 0, 1, 16, .null, 0, 0, 0),
  (16, .iload_n 1, 1, 17, .null, 0, 0, 0),
  (17, .invokevirtual 62, 3, 20, .null, 0, 0, 0),
  (20, .if_icmp .le 7, 3, 27, .null, 0, 0, 0),
  (23, .iload_n 2, 1, 24, .null, 0, 0, 0),
  (24, .goto 4, 3, 28, .null, 0, 0, 0),
  (27, .iload_n 1, 1, 28, .null, 0, 0, 0),
  (28, .istore_n 1, 1, 29, .null, 0, 0, 0),
  (29, .iinc 2 1, 3, 32, .int 1, 0, 0, 0),
  (32, .goto (-28), 3, 4, .null, 0, 0, 0),
  (35, .iload_n 1, 1, 36, .null, 0, 0, 0),
  (36, .ireturn, 1, 37, .null, 0, 0, 0)]
set_option maxRecDepth 100000 in
theorem ek_M_lightest : e_M_lightest.all (eok 4 c_M_lightest) = true := by decide +kernel
def F_M_lightest_28 (k4 : Nat → Int32 → Int32 → A_W → Option (Int32 × A_W)) (t : Nat) (x2 : Int32) (y0 : Int32) (w : A_W) : Option (Int32 × A_W) :=
  k4 t y0 (x2 + 1) w
def F_M_lightest_4 : Nat → Nat → Int32 → Int32 → A_W → Option (Int32 × A_W)
  | 0, _, _, _, _ => none
  | n + 1, t, x1, x2, w =>
    if 16 ≤ x2 then
      some (x1, w)
    else
      (ob w t 4).bind fun o3 =>
      (F_M_lightAt t x2 w).bind fun p2 =>
      (ob p2.2 t 4).bind fun o5 =>
      (F_M_lightAt t x1 p2.2).bind fun p4 =>
      if p2.1 ≤ p4.1 then
        F_M_lightest_28 (F_M_lightest_4 n) t x2 x1 p4.2
      else
        F_M_lightest_28 (F_M_lightest_4 n) t x2 x2 p4.2
def F_M_lightest_0 (t : Nat) (w : A_W) : Option (Int32 × A_W) :=
  F_M_lightest_4 FU t 0 1 w
set_option maxHeartbeats 4000000 in
set_option maxRecDepth 100000 in
theorem s_M_lightest_28 {G : Gx} {X : Cx} {res : Int32 × A_W} (K : Ok G X 4 c_M_lightest 3 (some .int) rm_M_lightest) (hQ : QQ G X (some (.int res.1)) res.2 0 0) {k4 : Nat → Int32 → Int32 → A_W → Option (Int32 × A_W)} (hk4 : ∀ (t : Nat) (x1 : Int32) (x2 : Int32) (w : A_W), k4 t x1 x2 w = some res → Sm G X w 0 0 [some (.ref t), some (.int x1), some (.int x2)] [] 4) (t : Nat) (x2 : Int32) (y0 : Int32) (w : A_W) (h : F_M_lightest_28 k4 t x2 y0 w = some res) : Sm G X w 0 0 [some (.ref t), none, some (.int x2)] [.int y0] 28 := by
  unfold F_M_lightest_28 at h
  refine Sm_run K ek_M_lightest 17 3 rfl ?_
  exact Sm_le (leR_s (leR_s (leR_s leR_nil))) (hk4 _ _ _ _ h)
set_option maxHeartbeats 4000000 in
set_option maxRecDepth 100000 in
theorem s_M_lightest_4 {G : Gx} {X : Cx} {res : Int32 × A_W} (K : Ok G X 4 c_M_lightest 3 (some .int) rm_M_lightest) (hQ : QQ G X (some (.int res.1)) res.2 0 0) : ∀ (n : Nat) (t : Nat) (x1 : Int32) (x2 : Int32) (w : A_W), F_M_lightest_4 n t x1 x2 w = some res → Sm G X w 0 0 [some (.ref t), some (.int x1), some (.int x2)] [] 4 := by
  intro n
  induction n with
  | zero => intro t x1 x2 w h; cases h
  | succ n ih =>
    intro t x1 x2 w h
    rw [F_M_lightest_4] at h
    refine Sm_run K ek_M_lightest 4 2 rfl ?_
    refine Sm_ic_ge K (eo ek_M_lightest (i := 6) rfl) (fun c1 => ?_) (fun c1 => ?_)
    · rw [if_pos c1] at h
      refine Sm_run K ek_M_lightest 20 1 rfl ?_
      cases h
      exact Sm_reti K hQ (eok_i (eo ek_M_lightest (i := 21) rfl) rfl)
    · rw [if_neg c1] at h
      refine Sm_run K ek_M_lightest 7 2 rfl ?_
      obtain ⟨o3, e_o3, h⟩ := Option.bind_eq_some_iff.mp h
      obtain ⟨p2, e_p2, h⟩ := Option.bind_eq_some_iff.mp h
      refine Sm_callV K (eok_i (eo ek_M_lightest (i := 9) rfl) rfl) cy_M_lightAt im_M_lightAt se_M_lightAt (lgm 886 (by decide +kernel) rfl) ⟨Nat.le_of_ble_eq_true rfl, Nat.le_of_ble_eq_true rfl⟩ (as := [.int x2]) (b := t) (st := []) (ob_e e_o3) (by decide) rfl rfl rfl rfl (Nat.le_of_ble_eq_true rfl) ⟨Nat.le_of_ble_eq_true rfl, Nat.le_of_ble_eq_true rfl⟩ (cn_M_lightAt e_p2) ?_
      refine Sm_eq (st1 := .int p2.1 :: []) (nc1 := 0) (ns1 := 0) rfl rfl rfl ?_
      refine Sm_run K ek_M_lightest 10 2 rfl ?_
      obtain ⟨o5, e_o5, h⟩ := Option.bind_eq_some_iff.mp h
      obtain ⟨p4, e_p4, h⟩ := Option.bind_eq_some_iff.mp h
      refine Sm_callV K (eok_i (eo ek_M_lightest (i := 12) rfl) rfl) cy_M_lightAt im_M_lightAt se_M_lightAt (lgm 886 (by decide +kernel) rfl) ⟨Nat.le_of_ble_eq_true rfl, Nat.le_of_ble_eq_true rfl⟩ (as := [.int x1]) (b := t) (st := [.int p2.1]) (ob_e e_o5) (by decide) rfl rfl rfl rfl (Nat.le_of_ble_eq_true rfl) ⟨Nat.le_of_ble_eq_true rfl, Nat.le_of_ble_eq_true rfl⟩ (cn_M_lightAt e_p4) ?_
      refine Sm_eq (st1 := .int p4.1 :: [.int p2.1]) (nc1 := 0) (ns1 := 0) rfl rfl rfl ?_
      refine Sm_ic_le K (eo ek_M_lightest (i := 13) rfl) (fun c6 => ?_) (fun c6 => ?_)
      · rw [if_pos c6] at h
        refine Sm_run K ek_M_lightest 16 1 rfl ?_
        exact Sm_le (leR_s (leR_n (leR_s leR_nil))) (s_M_lightest_28 K hQ ih _ _ _ _ h)
      · rw [if_neg c6] at h
        refine Sm_run K ek_M_lightest 14 2 rfl ?_
        exact Sm_le (leR_s (leR_n (leR_s leR_nil))) (s_M_lightest_28 K hQ ih _ _ _ _ h)
set_option maxHeartbeats 4000000 in
set_option maxRecDepth 100000 in
theorem s_M_lightest_0 {G : Gx} {X : Cx} {res : Int32 × A_W} (K : Ok G X 4 c_M_lightest 3 (some .int) rm_M_lightest) (hQ : QQ G X (some (.int res.1)) res.2 0 0) (t : Nat) (w : A_W) (h : F_M_lightest_0 t w = some res) : Sm G X w 0 0 [some (.ref t), none, none] [] 0 := by
  unfold F_M_lightest_0 at h
  refine Sm_run K ek_M_lightest 0 4 rfl ?_
  exact Sm_le (leR_s (leR_s (leR_s leR_nil))) (s_M_lightest_4 K hQ FU _ _ _ _ h)
def F_M_lightest (t : Nat) (w : A_W) : Option (Int32 × A_W) := F_M_lightest_0 t w
theorem cn_M_lightest {G : Gx} {t : Nat} {w : A_W} {res : Int32 × A_W} (h : F_M_lightest t w = some res) : Cn G y_M_lightest c_M_lightest 3 (some .int) rm_M_lightest [.ref t] w (some (.int res.1)) res.2 :=
  Cn_of (own := 4) cy_M_lightest rfl rfl (Nat.le_of_ble_eq_true rfl) rfl (fun X K _ hQ => Sm_le (leR_s (leR_n (leR_n leR_nil))) (s_M_lightest_0 K hQ _ _ h))
/-! EveningCloakModel.goneOnes()I -/
abbrev c_M_goneOnes : ByteArray := prog_6_method_44_code
def y_M_goneOnes : MethodName := ⟨"EveningCloakModel", "goneOnes", "()I"⟩
def rm_M_goneOnes : Room := { frames := 1, cells := 0, slots := 0, locals := 22 }
theorem cy_M_goneOnes : Cy y_M_goneOnes c_M_goneOnes 3 (some .int) 0 := ⟨lgm 967 (by decide +kernel) rfl, lgm 73 (by decide +kernel) rfl, by decide +kernel, by decide +kernel⟩
theorem im_M_goneOnes : Cond.instanceMethod y_M_goneOnes ∈ lg := lgm 966 (by decide +kernel) rfl
theorem se_M_goneOnes : Cond.selects y_M_goneOnes.cls y_M_goneOnes y_M_goneOnes ∈ lg := lgm 40 (by decide +kernel) rfl
def e_M_goneOnes : List Ent := [
  (0, .iconst 0, 1, 1, .int 0, 0, 0, 0),
  (1, .istore_n 1, 1, 2, .null, 0, 0, 0),
  (2, .iconst 0, 1, 3, .int 0, 0, 0, 0),
  (3, .istore_n 2, 1, 4, .null, 0, 0, 0),
  (4, .iload_n 2, 1, 5, .null, 0, 0, 0),
  (5, .aload_n 0, 1, 6, .null, 0, 0, 0),
  (6, .getfield 9, 3, 9, .null, 4, 0, 762),
  (9, .iconst 3, 1, 10, .int 3, 0, 0, 0),
  (10, .iaload, 1, 11, .null, 0, 0, 0),
  (11, .if_icmp .ge 20, 3, 31, .null, 0, 0, 0),
  (14, .iload_n 1, 1, 15, .null, 0, 0, 0),
  (15, .aload_n 0, 1, 16, .null, 0, 0, 0),
  (16, .iload_n 2, 1, 17, .null, 0, 0, 0),
  (17, .iconst 5, 1, 18, .int 5, 0, 0, 0),
  (18, .invokevirtual 44, 3, 21, .null, 0, 0, 0),
  (21, .iload_n 2, 1, 22, .null, 0, 0, 0),
  (22, .ishl, 1, 23, .null, 0, 0, 0),
  (23, .ior, 1, 24, .null, 0, 0, 0),
  (24, .istore_n 1, 1, 25, .null, 0, 0, 0),
  (25, .iinc 2 1, 3, 28, .int 1, 0, 0, 0),
  (28, .goto (-24), 3, 4, .null, 0, 0, 0),
  (31, .iload_n 1, 1, 32, .null, 0, 0, 0),
  (32, .ireturn, 1, 33, .null, 0, 0, 0)]
set_option maxRecDepth 100000 in
theorem ek_M_goneOnes : e_M_goneOnes.all (eok 4 c_M_goneOnes) = true := by decide +kernel
def F_M_goneOnes_4 : Nat → Nat → Int32 → Int32 → A_W → Option (Int32 × A_W)
  | 0, _, _, _, _ => none
  | n + 1, t, x1, x2, w =>
    (gr w t 4 0).bind fun a1 =>
    (rd w a1 3).bind fun v2 =>
    if v2 ≤ x2 then
      some (x1, w)
    else
      (ob w t 4).bind fun o5 =>
      (F_M_it t x2 5 w).bind fun p4 =>
      F_M_goneOnes_4 n t (x1 ||| (p4.1 <<< (x2 &&& 31))) (x2 + 1) p4.2
def F_M_goneOnes_0 (t : Nat) (w : A_W) : Option (Int32 × A_W) :=
  F_M_goneOnes_4 FU t 0 0 w
set_option maxHeartbeats 4000000 in
set_option maxRecDepth 100000 in
theorem s_M_goneOnes_4 {G : Gx} {X : Cx} {res : Int32 × A_W} (K : Ok G X 4 c_M_goneOnes 3 (some .int) rm_M_goneOnes) (hQ : QQ G X (some (.int res.1)) res.2 0 0) : ∀ (n : Nat) (t : Nat) (x1 : Int32) (x2 : Int32) (w : A_W), F_M_goneOnes_4 n t x1 x2 w = some res → Sm G X w 0 0 [some (.ref t), some (.int x1), some (.int x2)] [] 4 := by
  intro n
  induction n with
  | zero => intro t x1 x2 w h; cases h
  | succ n ih =>
    intro t x1 x2 w h
    rw [F_M_goneOnes_4] at h
    refine Sm_run K ek_M_goneOnes 4 2 rfl ?_
    obtain ⟨a1, e_a1, h⟩ := Option.bind_eq_some_iff.mp h
    refine Sm_gr K (eo ek_M_goneOnes (i := 6) rfl) e_a1 ?_
    refine Sm_run K ek_M_goneOnes 7 1 rfl ?_
    obtain ⟨v2, e_v2, h⟩ := Option.bind_eq_some_iff.mp h
    refine Sm_rd K (eok_i (eo ek_M_goneOnes (i := 8) rfl) rfl) e_v2 ?_
    refine Sm_ic_ge K (eo ek_M_goneOnes (i := 9) rfl) (fun c3 => ?_) (fun c3 => ?_)
    · rw [if_pos c3] at h
      refine Sm_run K ek_M_goneOnes 21 1 rfl ?_
      cases h
      exact Sm_reti K hQ (eok_i (eo ek_M_goneOnes (i := 22) rfl) rfl)
    · rw [if_neg c3] at h
      refine Sm_run K ek_M_goneOnes 10 4 rfl ?_
      obtain ⟨o5, e_o5, h⟩ := Option.bind_eq_some_iff.mp h
      obtain ⟨p4, e_p4, h⟩ := Option.bind_eq_some_iff.mp h
      refine Sm_callV K (eok_i (eo ek_M_goneOnes (i := 14) rfl) rfl) cy_M_it im_M_it se_M_it (lgm 871 (by decide +kernel) rfl) ⟨Nat.le_of_ble_eq_true rfl, Nat.le_of_ble_eq_true rfl⟩ (as := [.int x2, .int 5]) (b := t) (st := [.int x1]) (ob_e e_o5) (by decide) rfl rfl rfl rfl (Nat.le_of_ble_eq_true rfl) ⟨Nat.le_of_ble_eq_true rfl, Nat.le_of_ble_eq_true rfl⟩ (cn_M_it e_p4) ?_
      refine Sm_eq (st1 := .int p4.1 :: [.int x1]) (nc1 := 0) (ns1 := 0) rfl rfl rfl ?_
      refine Sm_run K ek_M_goneOnes 15 6 rfl ?_
      exact Sm_le (leR_s (leR_s (leR_s leR_nil))) (ih _ _ _ _ h)
set_option maxHeartbeats 4000000 in
set_option maxRecDepth 100000 in
theorem s_M_goneOnes_0 {G : Gx} {X : Cx} {res : Int32 × A_W} (K : Ok G X 4 c_M_goneOnes 3 (some .int) rm_M_goneOnes) (hQ : QQ G X (some (.int res.1)) res.2 0 0) (t : Nat) (w : A_W) (h : F_M_goneOnes_0 t w = some res) : Sm G X w 0 0 [some (.ref t), none, none] [] 0 := by
  unfold F_M_goneOnes_0 at h
  refine Sm_run K ek_M_goneOnes 0 4 rfl ?_
  exact Sm_le (leR_s (leR_s (leR_s leR_nil))) (s_M_goneOnes_4 K hQ FU _ _ _ _ h)
def F_M_goneOnes (t : Nat) (w : A_W) : Option (Int32 × A_W) := F_M_goneOnes_0 t w
theorem cn_M_goneOnes {G : Gx} {t : Nat} {w : A_W} {res : Int32 × A_W} (h : F_M_goneOnes t w = some res) : Cn G y_M_goneOnes c_M_goneOnes 3 (some .int) rm_M_goneOnes [.ref t] w (some (.int res.1)) res.2 :=
  Cn_of (own := 4) cy_M_goneOnes rfl rfl (Nat.le_of_ble_eq_true rfl) rfl (fun X K _ hQ => Sm_le (leR_s (leR_n (leR_n leR_nil))) (s_M_goneOnes_0 K hQ _ _ h))
/-! EveningCloakModel.now(I)I -/
abbrev c_M_now : ByteArray := prog_6_method_45_code
def y_M_now : MethodName := ⟨"EveningCloakModel", "now", "(I)I"⟩
def rm_M_now : Room := { frames := 4, cells := 0, slots := 0, locals := 91 }
theorem cy_M_now : Cy y_M_now c_M_now 2 (some .int) 1 := ⟨lgm 959 (by decide +kernel) rfl, lgm 73 (by decide +kernel) rfl, by decide +kernel, by decide +kernel⟩
theorem im_M_now : Cond.instanceMethod y_M_now ∈ lg := lgm 957 (by decide +kernel) rfl
theorem se_M_now : Cond.selects y_M_now.cls y_M_now y_M_now ∈ lg := lgm 958 (by decide +kernel) rfl
def e_M_now : List Ent := [
  (0, .iload_n 1, 1, 1, .null, 0, 0, 0),
  (1, .tableswitch 88 0 7 #[47, 47, 56, 62, 67, 72, 77, 82], 47, 48, .null, 0, 0, 0),
  (48, .aload_n 0, 1, 49, .null, 0, 0, 0),
  (49, .getfield 9, 3, 52, .null, 4, 0, 762),
  (52, .iconst 0, 1, 53, .int 0, 0, 0, 0),
  (53, .iload_n 1, 1, 54, .null, 0, 0, 0),
  (54, .iadd, 1, 55, .null, 0, 0, 0),
  (55, .iaload, 1, 56, .null, 0, 0, 0),
  (56, .ireturn, 1, 57, .null, 0, 0, 0),
  (57, .aload_n 0, 1, 58, .null, 0, 0, 0),
  (58, .iconst 2, 1, 59, .int 2, 0, 0, 0),
  (59, .invokevirtual 126, 3, 62, .null, 0, 0, 0),
  (62, .ireturn, 1, 63, .null, 0, 0, 0),
  (63, .aload_n 0, 1, 64, .null, 0, 0, 0),
  (64, .invokevirtual 129, 3, 67, .null, 0, 0, 0),
  (67, .ireturn, 1, 68, .null, 0, 0, 0),
  (68, .aload_n 0, 1, 69, .null, 0, 0, 0),
  (69, .invokevirtual 132, 3, 72, .null, 0, 0, 0),
  (72, .ireturn, 1, 73, .null, 0, 0, 0),
  (73, .aload_n 0, 1, 74, .null, 0, 0, 0),
  (74, .invokevirtual 135, 3, 77, .null, 0, 0, 0),
  (77, .ireturn, 1, 78, .null, 0, 0, 0),
  (78, .aload_n 0, 1, 79, .null, 0, 0, 0),
  (79, .invokevirtual 113, 3, 82, .null, 0, 0, 0),
  (82, .ireturn, 1, 83, .null, 0, 0, 0),
  (83, .aload_n 0, 1, 84, .null, 0, 0, 0),
  (84, .iconst 0, 1, 85, .int 0, 0, 0, 0),
  (85, .invokevirtual 126, 3, 88, .null, 0, 0, 0),
  (88, .ireturn, 1, 89, .null, 0, 0, 0),
  (89, .aload_n 0, 1, 90, .null, 0, 0, 0),
  (90, .ldc 34, 2, 92, .int (-1000001), 0, 0, 825),
  (92, .invokevirtual 36, 3, 95, .null, 0, 0, 0),
  (95, .ireturn, 1, 96, .null, 0, 0, 0)]
set_option maxRecDepth 100000 in
theorem ek_M_now : e_M_now.all (eok 4 c_M_now) = true := by decide +kernel
def F_M_now_48 (t : Nat) (x1 : Int32) (w : A_W) : Option (Int32 × A_W) :=
  (gr w t 4 0).bind fun a1 =>
  (rd w a1 (0 + x1)).bind fun v2 =>
  some (v2, w)
def F_M_now_0 (t : Nat) (x1 : Int32) (w : A_W) : Option (Int32 × A_W) :=
  if x1 = 0 then
    F_M_now_48 t x1 w
  else if x1 = 1 then
    F_M_now_48 t x1 w
  else if x1 = 2 then
    (ob w t 4).bind fun o2 =>
    (F_M_sums t 2 w).bind fun p1 =>
    some (p1.1, p1.2)
  else if x1 = 3 then
    (ob w t 4).bind fun o4 =>
    (F_M_goneOnes t w).bind fun p3 =>
    some (p3.1, p3.2)
  else if x1 = 4 then
    (ob w t 4).bind fun o6 =>
    (F_M_darkOnes t w).bind fun p5 =>
    some (p5.1, p5.2)
  else if x1 = 5 then
    (ob w t 4).bind fun o8 =>
    (F_M_lightest t w).bind fun p7 =>
    some (p7.1, p7.2)
  else if x1 = 6 then
    (ob w t 4).bind fun o10 =>
    (F_M_allCost t w).bind fun p9 =>
    some (p9.1, p9.2)
  else if x1 = 7 then
    (ob w t 4).bind fun o12 =>
    (F_M_sums t 0 w).bind fun p11 =>
    some (p11.1, p11.2)
  else
    (ob w t 4).bind fun o14 =>
    (F_M_finds t (-1000001) w).bind fun p13 =>
    some (p13.1, p13.2)
set_option maxHeartbeats 4000000 in
set_option maxRecDepth 100000 in
theorem s_M_now_48 {G : Gx} {X : Cx} {res : Int32 × A_W} (K : Ok G X 4 c_M_now 2 (some .int) rm_M_now) (hQ : QQ G X (some (.int res.1)) res.2 0 0) (t : Nat) (x1 : Int32) (w : A_W) (h : F_M_now_48 t x1 w = some res) : Sm G X w 0 0 [some (.ref t), some (.int x1)] [] 48 := by
  unfold F_M_now_48 at h
  refine Sm_run K ek_M_now 2 1 rfl ?_
  obtain ⟨a1, e_a1, h⟩ := Option.bind_eq_some_iff.mp h
  refine Sm_gr K (eo ek_M_now (i := 3) rfl) e_a1 ?_
  refine Sm_run K ek_M_now 4 3 rfl ?_
  obtain ⟨v2, e_v2, h⟩ := Option.bind_eq_some_iff.mp h
  refine Sm_rd K (eok_i (eo ek_M_now (i := 7) rfl) rfl) e_v2 ?_
  cases h
  exact Sm_reti K hQ (eok_i (eo ek_M_now (i := 8) rfl) rfl)
set_option maxHeartbeats 4000000 in
set_option maxRecDepth 100000 in
theorem s_M_now_0 {G : Gx} {X : Cx} {res : Int32 × A_W} (K : Ok G X 4 c_M_now 2 (some .int) rm_M_now) (hQ : QQ G X (some (.int res.1)) res.2 0 0) (t : Nat) (x1 : Int32) (w : A_W) (h : F_M_now_0 t x1 w = some res) : Sm G X w 0 0 [some (.ref t), some (.int x1)] [] 0 := by
  unfold F_M_now_0 at h
  refine Sm_run K ek_M_now 0 1 rfl ?_
  refine Sm_tsw K (eok_d (eo ek_M_now (i := 1) rfl)) [48, 48, 57, 63, 68, 73, 78, 83] 89 (by decide) (by decide) (by decide) (fun j hj hx => ?_) (fun hx => ?_)
  · have hj : j < 8 := hj
    rcases (show j = 0 ∨ j = 1 ∨ j = 2 ∨ j = 3 ∨ j = 4 ∨ j = 5 ∨ j = 6 ∨ j = 7 by omega) with rfl | rfl | rfl | rfl | rfl | rfl | rfl | rfl
    · have hc : x1 = 0 := Int32.toInt_inj.mp (hx.trans (by decide))
      rw [if_pos hc] at h
      refine Sm_pc (pc1 := 48) rfl ?_
      exact Sm_le (leR_s (leR_s leR_nil)) (s_M_now_48 K hQ _ _ _ h)
    · have hc : x1 = 1 := Int32.toInt_inj.mp (hx.trans (by decide))
      rw [if_neg (by rw [hc]; decide), if_pos hc] at h
      refine Sm_pc (pc1 := 48) rfl ?_
      exact Sm_le (leR_s (leR_s leR_nil)) (s_M_now_48 K hQ _ _ _ h)
    · have hc : x1 = 2 := Int32.toInt_inj.mp (hx.trans (by decide))
      rw [if_neg (by rw [hc]; decide), if_neg (by rw [hc]; decide), if_pos hc] at h
      refine Sm_pc (pc1 := 57) rfl ?_
      refine Sm_run K ek_M_now 9 2 rfl ?_
      obtain ⟨o2, e_o2, h⟩ := Option.bind_eq_some_iff.mp h
      obtain ⟨p1, e_p1, h⟩ := Option.bind_eq_some_iff.mp h
      refine Sm_callV K (eok_i (eo ek_M_now (i := 11) rfl) rfl) cy_M_sums im_M_sums se_M_sums (lgm 960 (by decide +kernel) rfl) ⟨Nat.le_of_ble_eq_true rfl, Nat.le_of_ble_eq_true rfl⟩ (as := [.int 2]) (b := t) (st := []) (ob_e e_o2) (by decide) rfl rfl rfl rfl (Nat.le_of_ble_eq_true rfl) ⟨Nat.le_of_ble_eq_true rfl, Nat.le_of_ble_eq_true rfl⟩ (cn_M_sums e_p1) ?_
      refine Sm_eq (st1 := .int p1.1 :: []) (nc1 := 0) (ns1 := 0) rfl rfl rfl ?_
      cases h
      exact Sm_reti K hQ (eok_i (eo ek_M_now (i := 12) rfl) rfl)
    · have hc : x1 = 3 := Int32.toInt_inj.mp (hx.trans (by decide))
      rw [if_neg (by rw [hc]; decide), if_neg (by rw [hc]; decide), if_neg (by rw [hc]; decide), if_pos hc] at h
      refine Sm_pc (pc1 := 63) rfl ?_
      refine Sm_run K ek_M_now 13 1 rfl ?_
      obtain ⟨o4, e_o4, h⟩ := Option.bind_eq_some_iff.mp h
      obtain ⟨p3, e_p3, h⟩ := Option.bind_eq_some_iff.mp h
      refine Sm_callV K (eok_i (eo ek_M_now (i := 14) rfl) rfl) cy_M_goneOnes im_M_goneOnes se_M_goneOnes (lgm 964 (by decide +kernel) rfl) ⟨Nat.le_of_ble_eq_true rfl, Nat.le_of_ble_eq_true rfl⟩ (as := []) (b := t) (st := []) (ob_e e_o4) (by decide) rfl rfl rfl rfl (Nat.le_of_ble_eq_true rfl) ⟨Nat.le_of_ble_eq_true rfl, Nat.le_of_ble_eq_true rfl⟩ (cn_M_goneOnes e_p3) ?_
      refine Sm_eq (st1 := .int p3.1 :: []) (nc1 := 0) (ns1 := 0) rfl rfl rfl ?_
      cases h
      exact Sm_reti K hQ (eok_i (eo ek_M_now (i := 15) rfl) rfl)
    · have hc : x1 = 4 := Int32.toInt_inj.mp (hx.trans (by decide))
      rw [if_neg (by rw [hc]; decide), if_neg (by rw [hc]; decide), if_neg (by rw [hc]; decide), if_neg (by rw [hc]; decide), if_pos hc] at h
      refine Sm_pc (pc1 := 68) rfl ?_
      refine Sm_run K ek_M_now 16 1 rfl ?_
      obtain ⟨o6, e_o6, h⟩ := Option.bind_eq_some_iff.mp h
      obtain ⟨p5, e_p5, h⟩ := Option.bind_eq_some_iff.mp h
      refine Sm_callV K (eok_i (eo ek_M_now (i := 17) rfl) rfl) cy_M_darkOnes im_M_darkOnes se_M_darkOnes (lgm 968 (by decide +kernel) rfl) ⟨Nat.le_of_ble_eq_true rfl, Nat.le_of_ble_eq_true rfl⟩ (as := []) (b := t) (st := []) (ob_e e_o6) (by decide) rfl rfl rfl rfl (Nat.le_of_ble_eq_true rfl) ⟨Nat.le_of_ble_eq_true rfl, Nat.le_of_ble_eq_true rfl⟩ (cn_M_darkOnes e_p5) ?_
      refine Sm_eq (st1 := .int p5.1 :: []) (nc1 := 0) (ns1 := 0) rfl rfl rfl ?_
      cases h
      exact Sm_reti K hQ (eok_i (eo ek_M_now (i := 18) rfl) rfl)
    · have hc : x1 = 5 := Int32.toInt_inj.mp (hx.trans (by decide))
      rw [if_neg (by rw [hc]; decide), if_neg (by rw [hc]; decide), if_neg (by rw [hc]; decide), if_neg (by rw [hc]; decide), if_neg (by rw [hc]; decide), if_pos hc] at h
      refine Sm_pc (pc1 := 73) rfl ?_
      refine Sm_run K ek_M_now 19 1 rfl ?_
      obtain ⟨o8, e_o8, h⟩ := Option.bind_eq_some_iff.mp h
      obtain ⟨p7, e_p7, h⟩ := Option.bind_eq_some_iff.mp h
      refine Sm_callV K (eok_i (eo ek_M_now (i := 20) rfl) rfl) cy_M_lightest im_M_lightest se_M_lightest (lgm 972 (by decide +kernel) rfl) ⟨Nat.le_of_ble_eq_true rfl, Nat.le_of_ble_eq_true rfl⟩ (as := []) (b := t) (st := []) (ob_e e_o8) (by decide) rfl rfl rfl rfl (Nat.le_of_ble_eq_true rfl) ⟨Nat.le_of_ble_eq_true rfl, Nat.le_of_ble_eq_true rfl⟩ (cn_M_lightest e_p7) ?_
      refine Sm_eq (st1 := .int p7.1 :: []) (nc1 := 0) (ns1 := 0) rfl rfl rfl ?_
      cases h
      exact Sm_reti K hQ (eok_i (eo ek_M_now (i := 21) rfl) rfl)
    · have hc : x1 = 6 := Int32.toInt_inj.mp (hx.trans (by decide))
      rw [if_neg (by rw [hc]; decide), if_neg (by rw [hc]; decide), if_neg (by rw [hc]; decide), if_neg (by rw [hc]; decide), if_neg (by rw [hc]; decide), if_neg (by rw [hc]; decide), if_pos hc] at h
      refine Sm_pc (pc1 := 78) rfl ?_
      refine Sm_run K ek_M_now 22 1 rfl ?_
      obtain ⟨o10, e_o10, h⟩ := Option.bind_eq_some_iff.mp h
      obtain ⟨p9, e_p9, h⟩ := Option.bind_eq_some_iff.mp h
      refine Sm_callV K (eok_i (eo ek_M_now (i := 23) rfl) rfl) cy_M_allCost im_M_allCost se_M_allCost (lgm 952 (by decide +kernel) rfl) ⟨Nat.le_of_ble_eq_true rfl, Nat.le_of_ble_eq_true rfl⟩ (as := []) (b := t) (st := []) (ob_e e_o10) (by decide) rfl rfl rfl rfl (Nat.le_of_ble_eq_true rfl) ⟨Nat.le_of_ble_eq_true rfl, Nat.le_of_ble_eq_true rfl⟩ (cn_M_allCost e_p9) ?_
      refine Sm_eq (st1 := .int p9.1 :: []) (nc1 := 0) (ns1 := 0) rfl rfl rfl ?_
      cases h
      exact Sm_reti K hQ (eok_i (eo ek_M_now (i := 24) rfl) rfl)
    · have hc : x1 = 7 := Int32.toInt_inj.mp (hx.trans (by decide))
      rw [if_neg (by rw [hc]; decide), if_neg (by rw [hc]; decide), if_neg (by rw [hc]; decide), if_neg (by rw [hc]; decide), if_neg (by rw [hc]; decide), if_neg (by rw [hc]; decide), if_neg (by rw [hc]; decide), if_pos hc] at h
      refine Sm_pc (pc1 := 83) rfl ?_
      refine Sm_run K ek_M_now 25 2 rfl ?_
      obtain ⟨o12, e_o12, h⟩ := Option.bind_eq_some_iff.mp h
      obtain ⟨p11, e_p11, h⟩ := Option.bind_eq_some_iff.mp h
      refine Sm_callV K (eok_i (eo ek_M_now (i := 27) rfl) rfl) cy_M_sums im_M_sums se_M_sums (lgm 960 (by decide +kernel) rfl) ⟨Nat.le_of_ble_eq_true rfl, Nat.le_of_ble_eq_true rfl⟩ (as := [.int 0]) (b := t) (st := []) (ob_e e_o12) (by decide) rfl rfl rfl rfl (Nat.le_of_ble_eq_true rfl) ⟨Nat.le_of_ble_eq_true rfl, Nat.le_of_ble_eq_true rfl⟩ (cn_M_sums e_p11) ?_
      refine Sm_eq (st1 := .int p11.1 :: []) (nc1 := 0) (ns1 := 0) rfl rfl rfl ?_
      cases h
      exact Sm_reti K hQ (eok_i (eo ek_M_now (i := 28) rfl) rfl)
  · rw [if_neg (fun hc => hx 0 (by decide) (by rw [hc]; decide)), if_neg (fun hc => hx 1 (by decide) (by rw [hc]; decide)), if_neg (fun hc => hx 2 (by decide) (by rw [hc]; decide)), if_neg (fun hc => hx 3 (by decide) (by rw [hc]; decide)), if_neg (fun hc => hx 4 (by decide) (by rw [hc]; decide)), if_neg (fun hc => hx 5 (by decide) (by rw [hc]; decide)), if_neg (fun hc => hx 6 (by decide) (by rw [hc]; decide)), if_neg (fun hc => hx 7 (by decide) (by rw [hc]; decide))] at h
    refine Sm_run K ek_M_now 29 2 rfl ?_
    obtain ⟨o14, e_o14, h⟩ := Option.bind_eq_some_iff.mp h
    obtain ⟨p13, e_p13, h⟩ := Option.bind_eq_some_iff.mp h
    refine Sm_callV K (eok_i (eo ek_M_now (i := 31) rfl) rfl) cy_M_finds im_M_finds se_M_finds (lgm 826 (by decide +kernel) rfl) ⟨Nat.le_of_ble_eq_true rfl, Nat.le_of_ble_eq_true rfl⟩ (as := [.int (-1000001)]) (b := t) (st := []) (ob_e e_o14) (by decide) rfl rfl rfl rfl (Nat.le_of_ble_eq_true rfl) ⟨Nat.le_of_ble_eq_true rfl, Nat.le_of_ble_eq_true rfl⟩ (cn_M_finds e_p13) ?_
    refine Sm_eq (st1 := .int p13.1 :: []) (nc1 := 0) (ns1 := 0) rfl rfl rfl ?_
    cases h
    exact Sm_reti K hQ (eok_i (eo ek_M_now (i := 32) rfl) rfl)
def F_M_now (t : Nat) (x1 : Int32) (w : A_W) : Option (Int32 × A_W) := F_M_now_0 t x1 w
theorem cn_M_now {G : Gx} {t : Nat} {x1 : Int32} {w : A_W} {res : Int32 × A_W} (h : F_M_now t x1 w = some res) : Cn G y_M_now c_M_now 2 (some .int) rm_M_now [.ref t, .int x1] w (some (.int res.1)) res.2 :=
  Cn_of (own := 4) cy_M_now rfl rfl (Nat.le_of_ble_eq_true rfl) rfl (fun X K _ hQ => Sm_le (leR_s (leR_s leR_nil)) (s_M_now_0 K hQ _ _ _ h))
/-! EveningCloakModel.thinks()V -/
abbrev c_M_thinks : ByteArray := prog_6_method_46_code
def y_M_thinks : MethodName := ⟨"EveningCloakModel", "thinks", "()V"⟩
def rm_M_thinks : Room := { frames := 1, cells := 0, slots := 0, locals := 22 }
theorem cy_M_thinks : Cy y_M_thinks c_M_thinks 1 (none) 0 := ⟨lgm 983 (by decide +kernel) rfl, lgm 73 (by decide +kernel) rfl, by decide +kernel, by decide +kernel⟩
theorem im_M_thinks : Cond.instanceMethod y_M_thinks ∈ lg := lgm 982 (by decide +kernel) rfl
theorem se_M_thinks : Cond.selects y_M_thinks.cls y_M_thinks y_M_thinks ∈ lg := lgm 43 (by decide +kernel) rfl
def e_M_thinks : List Ent := [
  (0, .aload_n 0, 1, 1, .null, 0, 0, 0),
  (1, .getfield 9, 3, 4, .null, 4, 0, 762),
  (4, .aload_n 0, 1, 5, .null, 0, 0, 0),
  (5, .getfield 16, 3, 8, .null, 4, 2, 764),
  (8, .invokestatic 138, 3, 11, .null, 0, 0, 0),
  (11, .return_, 1, 12, .null, 0, 0, 0)]
set_option maxRecDepth 100000 in
theorem ek_M_thinks : e_M_thinks.all (eok 4 c_M_thinks) = true := by decide +kernel
def F_M_thinks_0 (t : Nat) (w : A_W) : Option (A_W) :=
  (gr w t 4 0).bind fun a1 =>
  (gr w t 4 2).bind fun a2 =>
  (F_M_copyAll a1 a2 w).bind fun p3 =>
  some p3
set_option maxHeartbeats 4000000 in
set_option maxRecDepth 100000 in
theorem s_M_thinks_0 {G : Gx} {X : Cx} {res : A_W} (K : Ok G X 4 c_M_thinks 1 (none) rm_M_thinks) (hQ : QQ G X none res 0 0) (t : Nat) (w : A_W) (h : F_M_thinks_0 t w = some res) : Sm G X w 0 0 [some (.ref t)] [] 0 := by
  unfold F_M_thinks_0 at h
  refine Sm_run K ek_M_thinks 0 1 rfl ?_
  obtain ⟨a1, e_a1, h⟩ := Option.bind_eq_some_iff.mp h
  refine Sm_gr K (eo ek_M_thinks (i := 1) rfl) e_a1 ?_
  refine Sm_run K ek_M_thinks 2 1 rfl ?_
  obtain ⟨a2, e_a2, h⟩ := Option.bind_eq_some_iff.mp h
  refine Sm_gr K (eo ek_M_thinks (i := 3) rfl) e_a2 ?_
  obtain ⟨p3, e_p3, h⟩ := Option.bind_eq_some_iff.mp h
  refine Sm_callS K (eok_i (eo ek_M_thinks (i := 4) rfl) rfl) cy_M_copyAll st_M_copyAll (lgm 984 (by decide +kernel) rfl) ⟨Nat.le_of_ble_eq_true rfl, Nat.le_of_ble_eq_true rfl⟩ (as := [.ref a1, .ref a2]) (st := []) rfl rfl rfl (Nat.le_of_ble_eq_true rfl) ⟨Nat.le_of_ble_eq_true rfl, Nat.le_of_ble_eq_true rfl⟩ (cn_M_copyAll e_p3) ?_
  refine Sm_eq (st1 := []) (nc1 := 0) (ns1 := 0) rfl rfl rfl ?_
  cases h
  exact Sm_retv K hQ (eok_i (eo ek_M_thinks (i := 5) rfl) rfl)
def F_M_thinks (t : Nat) (w : A_W) : Option (A_W) := F_M_thinks_0 t w
theorem cn_M_thinks {G : Gx} {t : Nat} {w : A_W} {res : A_W} (h : F_M_thinks t w = some res) : Cn G y_M_thinks c_M_thinks 1 (none) rm_M_thinks [.ref t] w none res :=
  Cn_of (own := 4) cy_M_thinks rfl rfl (Nat.le_of_ble_eq_true rfl) rfl (fun X K _ hQ => Sm_le (leR_s leR_nil) (s_M_thinks_0 K hQ _ _ h))
/-! EveningCloakModel.putsBack()V -/
abbrev c_M_putsBack : ByteArray := prog_6_method_47_code
def y_M_putsBack : MethodName := ⟨"EveningCloakModel", "putsBack", "()V"⟩
def rm_M_putsBack : Room := { frames := 1, cells := 0, slots := 0, locals := 22 }
theorem cy_M_putsBack : Cy y_M_putsBack c_M_putsBack 1 (none) 0 := ⟨lgm 990 (by decide +kernel) rfl, lgm 73 (by decide +kernel) rfl, by decide +kernel, by decide +kernel⟩
theorem im_M_putsBack : Cond.instanceMethod y_M_putsBack ∈ lg := lgm 989 (by decide +kernel) rfl
theorem se_M_putsBack : Cond.selects y_M_putsBack.cls y_M_putsBack y_M_putsBack ∈ lg := lgm 44 (by decide +kernel) rfl
def e_M_putsBack : List Ent := [
  (0, .aload_n 0, 1, 1, .null, 0, 0, 0),
  (1, .getfield 16, 3, 4, .null, 4, 2, 764),
  (4, .aload_n 0, 1, 5, .null, 0, 0, 0),
  (5, .getfield 9, 3, 8, .null, 4, 0, 762),
  (8, .invokestatic 138, 3, 11, .null, 0, 0, 0),
  (11, .return_, 1, 12, .null, 0, 0, 0)]
set_option maxRecDepth 100000 in
theorem ek_M_putsBack : e_M_putsBack.all (eok 4 c_M_putsBack) = true := by decide +kernel
def F_M_putsBack_0 (t : Nat) (w : A_W) : Option (A_W) :=
  (gr w t 4 2).bind fun a1 =>
  (gr w t 4 0).bind fun a2 =>
  (F_M_copyAll a1 a2 w).bind fun p3 =>
  some p3
set_option maxHeartbeats 4000000 in
set_option maxRecDepth 100000 in
theorem s_M_putsBack_0 {G : Gx} {X : Cx} {res : A_W} (K : Ok G X 4 c_M_putsBack 1 (none) rm_M_putsBack) (hQ : QQ G X none res 0 0) (t : Nat) (w : A_W) (h : F_M_putsBack_0 t w = some res) : Sm G X w 0 0 [some (.ref t)] [] 0 := by
  unfold F_M_putsBack_0 at h
  refine Sm_run K ek_M_putsBack 0 1 rfl ?_
  obtain ⟨a1, e_a1, h⟩ := Option.bind_eq_some_iff.mp h
  refine Sm_gr K (eo ek_M_putsBack (i := 1) rfl) e_a1 ?_
  refine Sm_run K ek_M_putsBack 2 1 rfl ?_
  obtain ⟨a2, e_a2, h⟩ := Option.bind_eq_some_iff.mp h
  refine Sm_gr K (eo ek_M_putsBack (i := 3) rfl) e_a2 ?_
  obtain ⟨p3, e_p3, h⟩ := Option.bind_eq_some_iff.mp h
  refine Sm_callS K (eok_i (eo ek_M_putsBack (i := 4) rfl) rfl) cy_M_copyAll st_M_copyAll (lgm 984 (by decide +kernel) rfl) ⟨Nat.le_of_ble_eq_true rfl, Nat.le_of_ble_eq_true rfl⟩ (as := [.ref a1, .ref a2]) (st := []) rfl rfl rfl (Nat.le_of_ble_eq_true rfl) ⟨Nat.le_of_ble_eq_true rfl, Nat.le_of_ble_eq_true rfl⟩ (cn_M_copyAll e_p3) ?_
  refine Sm_eq (st1 := []) (nc1 := 0) (ns1 := 0) rfl rfl rfl ?_
  cases h
  exact Sm_retv K hQ (eok_i (eo ek_M_putsBack (i := 5) rfl) rfl)
def F_M_putsBack (t : Nat) (w : A_W) : Option (A_W) := F_M_putsBack_0 t w
theorem cn_M_putsBack {G : Gx} {t : Nat} {w : A_W} {res : A_W} (h : F_M_putsBack t w = some res) : Cn G y_M_putsBack c_M_putsBack 1 (none) rm_M_putsBack [.ref t] w none res :=
  Cn_of (own := 4) cy_M_putsBack rfl rfl (Nat.le_of_ble_eq_true rfl) rfl (fun X K _ hQ => Sm_le (leR_s leR_nil) (s_M_putsBack_0 K hQ _ _ h))
/-! EveningCloakModel.ahead(III)I -/
abbrev c_M_ahead : ByteArray := prog_6_method_48_code
def y_M_ahead : MethodName := ⟨"EveningCloakModel", "ahead", "(III)I"⟩
def rm_M_ahead : Room := { frames := 6, cells := 0, slots := 0, locals := 137 }
theorem cy_M_ahead : Cy y_M_ahead c_M_ahead 6 (some .int) 3 := ⟨lgm 979 (by decide +kernel) rfl, lgm 73 (by decide +kernel) rfl, by decide +kernel, by decide +kernel⟩
theorem im_M_ahead : Cond.instanceMethod y_M_ahead ∈ lg := lgm 977 (by decide +kernel) rfl
theorem se_M_ahead : Cond.selects y_M_ahead.cls y_M_ahead y_M_ahead ∈ lg := lgm 978 (by decide +kernel) rfl
def e_M_ahead : List Ent := [
  (0, .iload_n 2, 1, 1, .null, 0, 0, 0),
  (1, .iconst 3, 1, 2, .int 3, 0, 0, 0),
  (2, .if_icmp .eq 20, 3, 22, .null, 0, 0, 0),
  (5, .iload_n 2, 1, 6, .null, 0, 0, 0),
  (6, .iconst 4, 1, 7, .int 4, 0, 0, 0),
  (7, .if_icmp .eq 15, 3, 22, .null, 0, 0, 0),
  (10, .iload_n 2, 1, 11, .null, 0, 0, 0),
  (11, .bipush 6, 2, 13, .int 6, 0, 0, 0),
  (13, .if_icmp .eq 9, 3, 22, .null, 0, 0, 0),
  (16, .iload_n 2, 1, 17, .null, 0, 0, 0),
  (17, .bipush 7, 2, 19, .int 7, 0, 0, 0),
  (19, .if_icmp .ne 7, 3, 26, .null, 0, 0, 0),
  (22, .iconst 1, 1, 23, .int 1, 0, 0, 0),
  (23, .goto 4, 3, 27, .null, 0, 0, 0),
  (26, .iconst 0, 1, 27, .int 0, 0, 0, 0),
  (27, .istore 4, 2, 29, .null, 0, 0, 0),
  (29, .aload_n 0, 1, 30, .null, 0, 0, 0),
  (30, .iload_n 1, 1, 31, .null, 0, 0, 0),
  (31, .invokevirtual 88, 3, 34, .null, 0, 0, 0),
  (34, .ifCond .eq 18, 3, 52, .null, 0, 0, 0),
  (37, .iload 4, 2, 39, .null, 0, 0, 0),
  (39, .ifCond .eq 13, 3, 52, .null, 0, 0, 0),
  (42, .iload_n 3, 1, 43, .null, 0, 0, 0),
  (43, .iconst 0, 1, 44, .int 0, 0, 0, 0),
  (44, .bipush 100, 2, 46, .int 100, 0, 0, 0),
  (46, .invokestatic 40, 3, 49, .null, 0, 0, 0),
  (49, .ifCond .ne 10, 3, 59, .null, 0, 0, 0),
  (52, .aload_n 0, 1, 53, .null, 0, 0, 0),
  (53, .ldc 34, 2, 55, .int (-1000001), 0, 0, 825),
  (55, .invokevirtual 36, 3, 58, .null, 0, 0, 0),
  (58, .ireturn, 1, 59, .null, 0, 0, 0),
  (59, .aload_n 0, 1, 60, .null, 0, 0, 0),
  (60, .invokevirtual 142, 3, 63, .null, 0, 0, 0),
  (63, .aload_n 0, 1, 64, .null, 0, 0, 0),
  (64, .iload_n 3, 1, 65, .null, 0, 0, 0),
  (65, .invokevirtual 122, 3, 68, .null, 0, 0, 0),
  (68, .iload_n 2, 1, 69, .null, 0, 0, 0),
  (69, .bipush 6, 2, 71, .int 6, 0, 0, 0),
  (71, .if_icmp .ne 11, 3, 82, .null, 0, 0, 0),
  (74, .aload_n 0, 1, 75, .null, 0, 0, 0),
  (75, .iload_n 1, 1, 76, .null, 0, 0, 0),
  (76, .invokevirtual 52, 3, 79, .null, 0, 0, 0),
  (79, .goto 23, 3, 102, .null, 0, 0, 0),
  (82, .iload_n 2, 1, 83, .null, 0, 0, 0),
  (83, .bipush 7, 2, 85, .int 7, 0, 0, 0),
  (85, .if_icmp .ne 11, 3, 96, .null, 0, 0, 0),
  (88, .aload_n 0, 1, 89, .null, 0, 0, 0),
  (89, .iload_n 1, 1, 90, .null, 0, 0, 0),
  (90, .invokevirtual 59, 3, 93, .null, 0, 0, 0),
  (93, .goto 9, 3, 102, .null, 0, 0, 0),
  (96, .aload_n 0, 1, 97, .null, 0, 0, 0),
  (97, .iload_n 1, 1, 98, .null, 0, 0, 0),
  (98, .iload_n 2, 1, 99, .null, 0, 0, 0),
  (99, .invokevirtual 44, 3, 102, .null, 0, 0, 0),
  (102, .istore 5, 2, 104, .null, 0, 0, 0),
  (104, .aload_n 0, 1, 105, .null, 0, 0, 0),
  (105, .invokevirtual 145, 3, 108, .null, 0, 0, 0),
  (108, .iload 5, 2, 110, .null, 0, 0, 0),
  (110, .ireturn, 1, 111, .null, 0, 0, 0)]
set_option maxRecDepth 100000 in
theorem ek_M_ahead : e_M_ahead.all (eok 4 c_M_ahead) = true := by decide +kernel
def F_M_ahead_52 (t : Nat) (w : A_W) : Option (Int32 × A_W) :=
  (ob w t 4).bind fun o2 =>
  (F_M_finds t (-1000001) w).bind fun p1 =>
  some (p1.1, p1.2)
def F_M_ahead_102 (t : Nat) (y0 : Int32) (w : A_W) : Option (Int32 × A_W) :=
  (ob w t 4).bind fun o2 =>
  (F_M_putsBack t w).bind fun p1 =>
  some (y0, p1)
def F_M_ahead_27 (t : Nat) (x1 : Int32) (x2 : Int32) (x3 : Int32) (y0 : Int32) (w : A_W) : Option (Int32 × A_W) :=
  (ob w t 4).bind fun o2 =>
  (F_M_isDeposit t x1 w).bind fun p1 =>
  if p1.1 = 0 then
    F_M_ahead_52 t p1.2
  else
    if y0 = 0 then
      F_M_ahead_52 t p1.2
    else
      (F_M_in x3 0 100 p1.2).bind fun p5 =>
      if p5.1 = 0 then
        F_M_ahead_52 t p5.2
      else
        (ob p5.2 t 4).bind fun o8 =>
        (F_M_thinks t p5.2).bind fun p7 =>
        (ob p7 t 4).bind fun o10 =>
        (F_M_goesFor t x3 p7).bind fun p9 =>
        if x2 = 6 then
          (ob p9 t 4).bind fun o18 =>
          (F_M_shines t x1 p9).bind fun p17 =>
          F_M_ahead_102 t p17.1 p17.2
        else
          if x2 = 7 then
            (ob p9 t 4).bind fun o16 =>
            (F_M_reaches t x1 p9).bind fun p15 =>
            F_M_ahead_102 t p15.1 p15.2
          else
            (ob p9 t 4).bind fun o14 =>
            (F_M_it t x1 x2 p9).bind fun p13 =>
            F_M_ahead_102 t p13.1 p13.2
def F_M_ahead_22 (t : Nat) (x1 : Int32) (x2 : Int32) (x3 : Int32) (w : A_W) : Option (Int32 × A_W) :=
  F_M_ahead_27 t x1 x2 x3 1 w
def F_M_ahead_0 (t : Nat) (x1 : Int32) (x2 : Int32) (x3 : Int32) (w : A_W) : Option (Int32 × A_W) :=
  if x2 = 3 then
    F_M_ahead_22 t x1 x2 x3 w
  else
    if x2 = 4 then
      F_M_ahead_22 t x1 x2 x3 w
    else
      if x2 = 6 then
        F_M_ahead_22 t x1 x2 x3 w
      else
        if x2 = 7 then
          F_M_ahead_22 t x1 x2 x3 w
        else
          F_M_ahead_27 t x1 x2 x3 0 w
set_option maxHeartbeats 4000000 in
set_option maxRecDepth 100000 in
theorem s_M_ahead_52 {G : Gx} {X : Cx} {res : Int32 × A_W} (K : Ok G X 4 c_M_ahead 6 (some .int) rm_M_ahead) (hQ : QQ G X (some (.int res.1)) res.2 0 0) (t : Nat) (w : A_W) (h : F_M_ahead_52 t w = some res) : Sm G X w 0 0 [some (.ref t), none, none, none, none, none] [] 52 := by
  unfold F_M_ahead_52 at h
  refine Sm_run K ek_M_ahead 27 2 rfl ?_
  obtain ⟨o2, e_o2, h⟩ := Option.bind_eq_some_iff.mp h
  obtain ⟨p1, e_p1, h⟩ := Option.bind_eq_some_iff.mp h
  refine Sm_callV K (eok_i (eo ek_M_ahead (i := 29) rfl) rfl) cy_M_finds im_M_finds se_M_finds (lgm 826 (by decide +kernel) rfl) ⟨Nat.le_of_ble_eq_true rfl, Nat.le_of_ble_eq_true rfl⟩ (as := [.int (-1000001)]) (b := t) (st := []) (ob_e e_o2) (by decide) rfl rfl rfl rfl (Nat.le_of_ble_eq_true rfl) ⟨Nat.le_of_ble_eq_true rfl, Nat.le_of_ble_eq_true rfl⟩ (cn_M_finds e_p1) ?_
  refine Sm_eq (st1 := .int p1.1 :: []) (nc1 := 0) (ns1 := 0) rfl rfl rfl ?_
  cases h
  exact Sm_reti K hQ (eok_i (eo ek_M_ahead (i := 30) rfl) rfl)
set_option maxHeartbeats 4000000 in
set_option maxRecDepth 100000 in
theorem s_M_ahead_102 {G : Gx} {X : Cx} {res : Int32 × A_W} (K : Ok G X 4 c_M_ahead 6 (some .int) rm_M_ahead) (hQ : QQ G X (some (.int res.1)) res.2 0 0) (t : Nat) (y0 : Int32) (w : A_W) (h : F_M_ahead_102 t y0 w = some res) : Sm G X w 0 0 [some (.ref t), none, none, none, none, none] [.int y0] 102 := by
  unfold F_M_ahead_102 at h
  refine Sm_run K ek_M_ahead 54 2 rfl ?_
  obtain ⟨o2, e_o2, h⟩ := Option.bind_eq_some_iff.mp h
  obtain ⟨p1, e_p1, h⟩ := Option.bind_eq_some_iff.mp h
  refine Sm_callV K (eok_i (eo ek_M_ahead (i := 56) rfl) rfl) cy_M_putsBack im_M_putsBack se_M_putsBack (lgm 987 (by decide +kernel) rfl) ⟨Nat.le_of_ble_eq_true rfl, Nat.le_of_ble_eq_true rfl⟩ (as := []) (b := t) (st := []) (ob_e e_o2) (by decide) rfl rfl rfl rfl (Nat.le_of_ble_eq_true rfl) ⟨Nat.le_of_ble_eq_true rfl, Nat.le_of_ble_eq_true rfl⟩ (cn_M_putsBack e_p1) ?_
  refine Sm_eq (st1 := []) (nc1 := 0) (ns1 := 0) rfl rfl rfl ?_
  refine Sm_run K ek_M_ahead 57 1 rfl ?_
  cases h
  exact Sm_reti K hQ (eok_i (eo ek_M_ahead (i := 58) rfl) rfl)
set_option maxHeartbeats 4000000 in
set_option maxRecDepth 100000 in
theorem s_M_ahead_27 {G : Gx} {X : Cx} {res : Int32 × A_W} (K : Ok G X 4 c_M_ahead 6 (some .int) rm_M_ahead) (hQ : QQ G X (some (.int res.1)) res.2 0 0) (t : Nat) (x1 : Int32) (x2 : Int32) (x3 : Int32) (y0 : Int32) (w : A_W) (h : F_M_ahead_27 t x1 x2 x3 y0 w = some res) : Sm G X w 0 0 [some (.ref t), some (.int x1), some (.int x2), some (.int x3), none, none] [.int y0] 27 := by
  unfold F_M_ahead_27 at h
  refine Sm_run K ek_M_ahead 15 3 rfl ?_
  obtain ⟨o2, e_o2, h⟩ := Option.bind_eq_some_iff.mp h
  obtain ⟨p1, e_p1, h⟩ := Option.bind_eq_some_iff.mp h
  refine Sm_callV K (eok_i (eo ek_M_ahead (i := 18) rfl) rfl) cy_M_isDeposit im_M_isDeposit se_M_isDeposit (lgm 863 (by decide +kernel) rfl) ⟨Nat.le_of_ble_eq_true rfl, Nat.le_of_ble_eq_true rfl⟩ (as := [.int x1]) (b := t) (st := []) (ob_e e_o2) (by decide) rfl rfl rfl rfl (Nat.le_of_ble_eq_true rfl) ⟨Nat.le_of_ble_eq_true rfl, Nat.le_of_ble_eq_true rfl⟩ (cn_M_isDeposit e_p1) ?_
  refine Sm_eq (st1 := .int p1.1 :: []) (nc1 := 0) (ns1 := 0) rfl rfl rfl ?_
  refine Sm_if_eq K (eo ek_M_ahead (i := 19) rfl) (fun c3 => ?_) (fun c3 => ?_)
  · rw [if_pos c3] at h
    exact Sm_le (leR_s (leR_n (leR_n (leR_n (leR_n (leR_n leR_nil)))))) (s_M_ahead_52 K hQ _ _ h)
  · rw [if_neg c3] at h
    refine Sm_run K ek_M_ahead 20 1 rfl ?_
    refine Sm_if_eq K (eo ek_M_ahead (i := 21) rfl) (fun c4 => ?_) (fun c4 => ?_)
    · rw [if_pos c4] at h
      exact Sm_le (leR_s (leR_n (leR_n (leR_n (leR_n (leR_n leR_nil)))))) (s_M_ahead_52 K hQ _ _ h)
    · rw [if_neg c4] at h
      refine Sm_run K ek_M_ahead 22 3 rfl ?_
      obtain ⟨p5, e_p5, h⟩ := Option.bind_eq_some_iff.mp h
      refine Sm_callS K (eok_i (eo ek_M_ahead (i := 25) rfl) rfl) cy_M_in st_M_in (lgm 815 (by decide +kernel) rfl) ⟨Nat.le_of_ble_eq_true rfl, Nat.le_of_ble_eq_true rfl⟩ (as := [.int x3, .int 0, .int 100]) (st := []) rfl rfl rfl (Nat.le_of_ble_eq_true rfl) ⟨Nat.le_of_ble_eq_true rfl, Nat.le_of_ble_eq_true rfl⟩ (cn_M_in e_p5) ?_
      refine Sm_eq (st1 := .int p5.1 :: []) (nc1 := 0) (ns1 := 0) rfl rfl rfl ?_
      refine Sm_if_ne K (eo ek_M_ahead (i := 26) rfl) (fun c6 => ?_) (fun c6 => ?_)
      · rw [if_neg c6] at h
        refine Sm_run K ek_M_ahead 31 1 rfl ?_
        obtain ⟨o8, e_o8, h⟩ := Option.bind_eq_some_iff.mp h
        obtain ⟨p7, e_p7, h⟩ := Option.bind_eq_some_iff.mp h
        refine Sm_callV K (eok_i (eo ek_M_ahead (i := 32) rfl) rfl) cy_M_thinks im_M_thinks se_M_thinks (lgm 980 (by decide +kernel) rfl) ⟨Nat.le_of_ble_eq_true rfl, Nat.le_of_ble_eq_true rfl⟩ (as := []) (b := t) (st := []) (ob_e e_o8) (by decide) rfl rfl rfl rfl (Nat.le_of_ble_eq_true rfl) ⟨Nat.le_of_ble_eq_true rfl, Nat.le_of_ble_eq_true rfl⟩ (cn_M_thinks e_p7) ?_
        refine Sm_eq (st1 := []) (nc1 := 0) (ns1 := 0) rfl rfl rfl ?_
        refine Sm_run K ek_M_ahead 33 2 rfl ?_
        obtain ⟨o10, e_o10, h⟩ := Option.bind_eq_some_iff.mp h
        obtain ⟨p9, e_p9, h⟩ := Option.bind_eq_some_iff.mp h
        refine Sm_callV K (eok_i (eo ek_M_ahead (i := 35) rfl) rfl) cy_M_goesFor im_M_goesFor se_M_goesFor (lgm 940 (by decide +kernel) rfl) ⟨Nat.le_of_ble_eq_true rfl, Nat.le_of_ble_eq_true rfl⟩ (as := [.int x3]) (b := t) (st := []) (ob_e e_o10) (by decide) rfl rfl rfl rfl (Nat.le_of_ble_eq_true rfl) ⟨Nat.le_of_ble_eq_true rfl, Nat.le_of_ble_eq_true rfl⟩ (cn_M_goesFor e_p9) ?_
        refine Sm_eq (st1 := []) (nc1 := 0) (ns1 := 0) rfl rfl rfl ?_
        refine Sm_run K ek_M_ahead 36 2 rfl ?_
        refine Sm_ic_ne K (eo ek_M_ahead (i := 38) rfl) (fun c11 => ?_) (fun c11 => ?_)
        · rw [if_neg c11] at h
          refine Sm_run K ek_M_ahead 43 2 rfl ?_
          refine Sm_ic_ne K (eo ek_M_ahead (i := 45) rfl) (fun c12 => ?_) (fun c12 => ?_)
          · rw [if_neg c12] at h
            refine Sm_run K ek_M_ahead 50 3 rfl ?_
            obtain ⟨o14, e_o14, h⟩ := Option.bind_eq_some_iff.mp h
            obtain ⟨p13, e_p13, h⟩ := Option.bind_eq_some_iff.mp h
            refine Sm_callV K (eok_i (eo ek_M_ahead (i := 53) rfl) rfl) cy_M_it im_M_it se_M_it (lgm 871 (by decide +kernel) rfl) ⟨Nat.le_of_ble_eq_true rfl, Nat.le_of_ble_eq_true rfl⟩ (as := [.int x1, .int x2]) (b := t) (st := []) (ob_e e_o14) (by decide) rfl rfl rfl rfl (Nat.le_of_ble_eq_true rfl) ⟨Nat.le_of_ble_eq_true rfl, Nat.le_of_ble_eq_true rfl⟩ (cn_M_it e_p13) ?_
            refine Sm_eq (st1 := .int p13.1 :: []) (nc1 := 0) (ns1 := 0) rfl rfl rfl ?_
            exact Sm_le (leR_s (leR_n (leR_n (leR_n (leR_n (leR_n leR_nil)))))) (s_M_ahead_102 K hQ _ _ _ h)
          · rw [if_pos c12] at h
            refine Sm_run K ek_M_ahead 46 2 rfl ?_
            obtain ⟨o16, e_o16, h⟩ := Option.bind_eq_some_iff.mp h
            obtain ⟨p15, e_p15, h⟩ := Option.bind_eq_some_iff.mp h
            refine Sm_callV K (eok_i (eo ek_M_ahead (i := 48) rfl) rfl) cy_M_reaches im_M_reaches se_M_reaches (lgm 878 (by decide +kernel) rfl) ⟨Nat.le_of_ble_eq_true rfl, Nat.le_of_ble_eq_true rfl⟩ (as := [.int x1]) (b := t) (st := []) (ob_e e_o16) (by decide) rfl rfl rfl rfl (Nat.le_of_ble_eq_true rfl) ⟨Nat.le_of_ble_eq_true rfl, Nat.le_of_ble_eq_true rfl⟩ (cn_M_reaches e_p15) ?_
            refine Sm_eq (st1 := .int p15.1 :: []) (nc1 := 0) (ns1 := 0) rfl rfl rfl ?_
            refine Sm_run K ek_M_ahead 49 1 rfl ?_
            exact Sm_le (leR_s (leR_n (leR_n (leR_n (leR_n (leR_n leR_nil)))))) (s_M_ahead_102 K hQ _ _ _ h)
        · rw [if_pos c11] at h
          refine Sm_run K ek_M_ahead 39 2 rfl ?_
          obtain ⟨o18, e_o18, h⟩ := Option.bind_eq_some_iff.mp h
          obtain ⟨p17, e_p17, h⟩ := Option.bind_eq_some_iff.mp h
          refine Sm_callV K (eok_i (eo ek_M_ahead (i := 41) rfl) rfl) cy_M_shines im_M_shines se_M_shines (lgm 867 (by decide +kernel) rfl) ⟨Nat.le_of_ble_eq_true rfl, Nat.le_of_ble_eq_true rfl⟩ (as := [.int x1]) (b := t) (st := []) (ob_e e_o18) (by decide) rfl rfl rfl rfl (Nat.le_of_ble_eq_true rfl) ⟨Nat.le_of_ble_eq_true rfl, Nat.le_of_ble_eq_true rfl⟩ (cn_M_shines e_p17) ?_
          refine Sm_eq (st1 := .int p17.1 :: []) (nc1 := 0) (ns1 := 0) rfl rfl rfl ?_
          refine Sm_run K ek_M_ahead 42 1 rfl ?_
          exact Sm_le (leR_s (leR_n (leR_n (leR_n (leR_n (leR_n leR_nil)))))) (s_M_ahead_102 K hQ _ _ _ h)
      · rw [if_pos c6] at h
        exact Sm_le (leR_s (leR_n (leR_n (leR_n (leR_n (leR_n leR_nil)))))) (s_M_ahead_52 K hQ _ _ h)
set_option maxHeartbeats 4000000 in
set_option maxRecDepth 100000 in
theorem s_M_ahead_22 {G : Gx} {X : Cx} {res : Int32 × A_W} (K : Ok G X 4 c_M_ahead 6 (some .int) rm_M_ahead) (hQ : QQ G X (some (.int res.1)) res.2 0 0) (t : Nat) (x1 : Int32) (x2 : Int32) (x3 : Int32) (w : A_W) (h : F_M_ahead_22 t x1 x2 x3 w = some res) : Sm G X w 0 0 [some (.ref t), some (.int x1), some (.int x2), some (.int x3), none, none] [] 22 := by
  unfold F_M_ahead_22 at h
  refine Sm_run K ek_M_ahead 12 2 rfl ?_
  exact Sm_le (leR_s (leR_s (leR_s (leR_s (leR_n (leR_n leR_nil)))))) (s_M_ahead_27 K hQ _ _ _ _ _ _ h)
set_option maxHeartbeats 4000000 in
set_option maxRecDepth 100000 in
theorem s_M_ahead_0 {G : Gx} {X : Cx} {res : Int32 × A_W} (K : Ok G X 4 c_M_ahead 6 (some .int) rm_M_ahead) (hQ : QQ G X (some (.int res.1)) res.2 0 0) (t : Nat) (x1 : Int32) (x2 : Int32) (x3 : Int32) (w : A_W) (h : F_M_ahead_0 t x1 x2 x3 w = some res) : Sm G X w 0 0 [some (.ref t), some (.int x1), some (.int x2), some (.int x3), none, none] [] 0 := by
  unfold F_M_ahead_0 at h
  refine Sm_run K ek_M_ahead 0 2 rfl ?_
  refine Sm_ic_eq K (eo ek_M_ahead (i := 2) rfl) (fun c1 => ?_) (fun c1 => ?_)
  · rw [if_pos c1] at h
    exact Sm_le (leR_s (leR_s (leR_s (leR_s (leR_n (leR_n leR_nil)))))) (s_M_ahead_22 K hQ _ _ _ _ _ h)
  · rw [if_neg c1] at h
    refine Sm_run K ek_M_ahead 3 2 rfl ?_
    refine Sm_ic_eq K (eo ek_M_ahead (i := 5) rfl) (fun c2 => ?_) (fun c2 => ?_)
    · rw [if_pos c2] at h
      exact Sm_le (leR_s (leR_s (leR_s (leR_s (leR_n (leR_n leR_nil)))))) (s_M_ahead_22 K hQ _ _ _ _ _ h)
    · rw [if_neg c2] at h
      refine Sm_run K ek_M_ahead 6 2 rfl ?_
      refine Sm_ic_eq K (eo ek_M_ahead (i := 8) rfl) (fun c3 => ?_) (fun c3 => ?_)
      · rw [if_pos c3] at h
        exact Sm_le (leR_s (leR_s (leR_s (leR_s (leR_n (leR_n leR_nil)))))) (s_M_ahead_22 K hQ _ _ _ _ _ h)
      · rw [if_neg c3] at h
        refine Sm_run K ek_M_ahead 9 2 rfl ?_
        refine Sm_ic_ne K (eo ek_M_ahead (i := 11) rfl) (fun c4 => ?_) (fun c4 => ?_)
        · rw [if_neg c4] at h
          refine Sm_run K ek_M_ahead 14 1 rfl ?_
          exact Sm_le (leR_s (leR_s (leR_s (leR_s (leR_n (leR_n leR_nil)))))) (s_M_ahead_27 K hQ _ _ _ _ _ _ h)
        · rw [if_pos c4] at h
          exact Sm_le (leR_s (leR_s (leR_s (leR_s (leR_n (leR_n leR_nil)))))) (s_M_ahead_22 K hQ _ _ _ _ _ h)
def F_M_ahead (t : Nat) (x1 : Int32) (x2 : Int32) (x3 : Int32) (w : A_W) : Option (Int32 × A_W) := F_M_ahead_0 t x1 x2 x3 w
theorem cn_M_ahead {G : Gx} {t : Nat} {x1 : Int32} {x2 : Int32} {x3 : Int32} {w : A_W} {res : Int32 × A_W} (h : F_M_ahead t x1 x2 x3 w = some res) : Cn G y_M_ahead c_M_ahead 6 (some .int) rm_M_ahead [.ref t, .int x1, .int x2, .int x3] w (some (.int res.1)) res.2 :=
  Cn_of (own := 4) cy_M_ahead rfl rfl (Nat.le_of_ble_eq_true rfl) rfl (fun X K _ hQ => Sm_le (leR_s (leR_s (leR_s (leR_s (leR_n (leR_n leR_nil)))))) (s_M_ahead_0 K hQ _ _ _ _ _ h))
/-! EveningCloakModel.later(III)I -/
abbrev c_M_later : ByteArray := prog_6_method_49_code
def y_M_later : MethodName := ⟨"EveningCloakModel", "later", "(III)I"⟩
def rm_M_later : Room := { frames := 6, cells := 0, slots := 0, locals := 137 }
theorem cy_M_later : Cy y_M_later c_M_later 5 (some .int) 3 := ⟨lgm 994 (by decide +kernel) rfl, lgm 73 (by decide +kernel) rfl, by decide +kernel, by decide +kernel⟩
theorem im_M_later : Cond.instanceMethod y_M_later ∈ lg := lgm 992 (by decide +kernel) rfl
theorem se_M_later : Cond.selects y_M_later.cls y_M_later y_M_later ∈ lg := lgm 993 (by decide +kernel) rfl
def e_M_later : List Ent := [
  (0, .aload_n 0, 1, 1, .null, 0, 0, 0),
  (1, .iload_n 1, 1, 2, .null, 0, 0, 0),
  (2, .invokevirtual 100, 3, 5, .null, 0, 0, 0),
  (5, .ifCond .eq 22, 3, 27, .null, 0, 0, 0),
  (8, .iload_n 2, 1, 9, .null, 0, 0, 0),
  (9, .ifCond .eq 8, 3, 17, .null, 0, 0, 0),
  (12, .iload_n 2, 1, 13, .null, 0, 0, 0),
  (13, .iconst 2, 1, 14, .int 2, 0, 0, 0),
  (14, .if_icmp .ne 13, 3, 27, .null, 0, 0, 0),
  (17, .iload_n 3, 1, 18, .null, 0, 0, 0),
  (18, .iconst 0, 1, 19, .int 0, 0, 0, 0),
  (19, .bipush 100, 2, 21, .int 100, 0, 0, 0),
  (21, .invokestatic 40, 3, 24, .null, 0, 0, 0),
  (24, .ifCond .ne 10, 3, 34, .null, 0, 0, 0),
  (27, .aload_n 0, 1, 28, .null, 0, 0, 0),
  (28, .ldc 34, 2, 30, .int (-1000001), 0, 0, 825),
  (30, .invokevirtual 36, 3, 33, .null, 0, 0, 0),
  (33, .ireturn, 1, 34, .null, 0, 0, 0),
  (34, .aload_n 0, 1, 35, .null, 0, 0, 0),
  (35, .invokevirtual 142, 3, 38, .null, 0, 0, 0),
  (38, .aload_n 0, 1, 39, .null, 0, 0, 0),
  (39, .iload_n 3, 1, 40, .null, 0, 0, 0),
  (40, .invokevirtual 122, 3, 43, .null, 0, 0, 0),
  (43, .aload_n 0, 1, 44, .null, 0, 0, 0),
  (44, .iload_n 1, 1, 45, .null, 0, 0, 0),
  (45, .iload_n 2, 1, 46, .null, 0, 0, 0),
  (46, .invokevirtual 103, 3, 49, .null, 0, 0, 0),
  (49, .istore 4, 2, 51, .null, 0, 0, 0),
  (51, .aload_n 0, 1, 52, .null, 0, 0, 0),
  (52, .invokevirtual 145, 3, 55, .null, 0, 0, 0),
  (55, .iload 4, 2, 57, .null, 0, 0, 0),
  (57, .ireturn, 1, 58, .null, 0, 0, 0)]
set_option maxRecDepth 100000 in
theorem ek_M_later : e_M_later.all (eok 4 c_M_later) = true := by decide +kernel
def F_M_later_27 (t : Nat) (w : A_W) : Option (Int32 × A_W) :=
  (ob w t 4).bind fun o2 =>
  (F_M_finds t (-1000001) w).bind fun p1 =>
  some (p1.1, p1.2)
def F_M_later_17 (t : Nat) (x1 : Int32) (x2 : Int32) (x3 : Int32) (w : A_W) : Option (Int32 × A_W) :=
  (F_M_in x3 0 100 w).bind fun p1 =>
  if p1.1 = 0 then
    F_M_later_27 t p1.2
  else
    (ob p1.2 t 4).bind fun o4 =>
    (F_M_thinks t p1.2).bind fun p3 =>
    (ob p3 t 4).bind fun o6 =>
    (F_M_goesFor t x3 p3).bind fun p5 =>
    (ob p5 t 4).bind fun o8 =>
    (F_M_her t x1 x2 p5).bind fun p7 =>
    (ob p7.2 t 4).bind fun o10 =>
    (F_M_putsBack t p7.2).bind fun p9 =>
    some (p7.1, p9)
def F_M_later_0 (t : Nat) (x1 : Int32) (x2 : Int32) (x3 : Int32) (w : A_W) : Option (Int32 × A_W) :=
  (ob w t 4).bind fun o2 =>
  (F_M_isGirl t x1 w).bind fun p1 =>
  if p1.1 = 0 then
    F_M_later_27 t p1.2
  else
    if x2 = 0 then
      F_M_later_17 t x1 x2 x3 p1.2
    else
      if x2 = 2 then
        F_M_later_17 t x1 x2 x3 p1.2
      else
        F_M_later_27 t p1.2
set_option maxHeartbeats 4000000 in
set_option maxRecDepth 100000 in
theorem s_M_later_27 {G : Gx} {X : Cx} {res : Int32 × A_W} (K : Ok G X 4 c_M_later 5 (some .int) rm_M_later) (hQ : QQ G X (some (.int res.1)) res.2 0 0) (t : Nat) (w : A_W) (h : F_M_later_27 t w = some res) : Sm G X w 0 0 [some (.ref t), none, none, none, none] [] 27 := by
  unfold F_M_later_27 at h
  refine Sm_run K ek_M_later 14 2 rfl ?_
  obtain ⟨o2, e_o2, h⟩ := Option.bind_eq_some_iff.mp h
  obtain ⟨p1, e_p1, h⟩ := Option.bind_eq_some_iff.mp h
  refine Sm_callV K (eok_i (eo ek_M_later (i := 16) rfl) rfl) cy_M_finds im_M_finds se_M_finds (lgm 826 (by decide +kernel) rfl) ⟨Nat.le_of_ble_eq_true rfl, Nat.le_of_ble_eq_true rfl⟩ (as := [.int (-1000001)]) (b := t) (st := []) (ob_e e_o2) (by decide) rfl rfl rfl rfl (Nat.le_of_ble_eq_true rfl) ⟨Nat.le_of_ble_eq_true rfl, Nat.le_of_ble_eq_true rfl⟩ (cn_M_finds e_p1) ?_
  refine Sm_eq (st1 := .int p1.1 :: []) (nc1 := 0) (ns1 := 0) rfl rfl rfl ?_
  cases h
  exact Sm_reti K hQ (eok_i (eo ek_M_later (i := 17) rfl) rfl)
set_option maxHeartbeats 4000000 in
set_option maxRecDepth 100000 in
theorem s_M_later_17 {G : Gx} {X : Cx} {res : Int32 × A_W} (K : Ok G X 4 c_M_later 5 (some .int) rm_M_later) (hQ : QQ G X (some (.int res.1)) res.2 0 0) (t : Nat) (x1 : Int32) (x2 : Int32) (x3 : Int32) (w : A_W) (h : F_M_later_17 t x1 x2 x3 w = some res) : Sm G X w 0 0 [some (.ref t), some (.int x1), some (.int x2), some (.int x3), none] [] 17 := by
  unfold F_M_later_17 at h
  refine Sm_run K ek_M_later 9 3 rfl ?_
  obtain ⟨p1, e_p1, h⟩ := Option.bind_eq_some_iff.mp h
  refine Sm_callS K (eok_i (eo ek_M_later (i := 12) rfl) rfl) cy_M_in st_M_in (lgm 815 (by decide +kernel) rfl) ⟨Nat.le_of_ble_eq_true rfl, Nat.le_of_ble_eq_true rfl⟩ (as := [.int x3, .int 0, .int 100]) (st := []) rfl rfl rfl (Nat.le_of_ble_eq_true rfl) ⟨Nat.le_of_ble_eq_true rfl, Nat.le_of_ble_eq_true rfl⟩ (cn_M_in e_p1) ?_
  refine Sm_eq (st1 := .int p1.1 :: []) (nc1 := 0) (ns1 := 0) rfl rfl rfl ?_
  refine Sm_if_ne K (eo ek_M_later (i := 13) rfl) (fun c2 => ?_) (fun c2 => ?_)
  · rw [if_neg c2] at h
    refine Sm_run K ek_M_later 18 1 rfl ?_
    obtain ⟨o4, e_o4, h⟩ := Option.bind_eq_some_iff.mp h
    obtain ⟨p3, e_p3, h⟩ := Option.bind_eq_some_iff.mp h
    refine Sm_callV K (eok_i (eo ek_M_later (i := 19) rfl) rfl) cy_M_thinks im_M_thinks se_M_thinks (lgm 980 (by decide +kernel) rfl) ⟨Nat.le_of_ble_eq_true rfl, Nat.le_of_ble_eq_true rfl⟩ (as := []) (b := t) (st := []) (ob_e e_o4) (by decide) rfl rfl rfl rfl (Nat.le_of_ble_eq_true rfl) ⟨Nat.le_of_ble_eq_true rfl, Nat.le_of_ble_eq_true rfl⟩ (cn_M_thinks e_p3) ?_
    refine Sm_eq (st1 := []) (nc1 := 0) (ns1 := 0) rfl rfl rfl ?_
    refine Sm_run K ek_M_later 20 2 rfl ?_
    obtain ⟨o6, e_o6, h⟩ := Option.bind_eq_some_iff.mp h
    obtain ⟨p5, e_p5, h⟩ := Option.bind_eq_some_iff.mp h
    refine Sm_callV K (eok_i (eo ek_M_later (i := 22) rfl) rfl) cy_M_goesFor im_M_goesFor se_M_goesFor (lgm 940 (by decide +kernel) rfl) ⟨Nat.le_of_ble_eq_true rfl, Nat.le_of_ble_eq_true rfl⟩ (as := [.int x3]) (b := t) (st := []) (ob_e e_o6) (by decide) rfl rfl rfl rfl (Nat.le_of_ble_eq_true rfl) ⟨Nat.le_of_ble_eq_true rfl, Nat.le_of_ble_eq_true rfl⟩ (cn_M_goesFor e_p5) ?_
    refine Sm_eq (st1 := []) (nc1 := 0) (ns1 := 0) rfl rfl rfl ?_
    refine Sm_run K ek_M_later 23 3 rfl ?_
    obtain ⟨o8, e_o8, h⟩ := Option.bind_eq_some_iff.mp h
    obtain ⟨p7, e_p7, h⟩ := Option.bind_eq_some_iff.mp h
    refine Sm_callV K (eok_i (eo ek_M_later (i := 26) rfl) rfl) cy_M_her im_M_her se_M_her (lgm 913 (by decide +kernel) rfl) ⟨Nat.le_of_ble_eq_true rfl, Nat.le_of_ble_eq_true rfl⟩ (as := [.int x1, .int x2]) (b := t) (st := []) (ob_e e_o8) (by decide) rfl rfl rfl rfl (Nat.le_of_ble_eq_true rfl) ⟨Nat.le_of_ble_eq_true rfl, Nat.le_of_ble_eq_true rfl⟩ (cn_M_her e_p7) ?_
    refine Sm_eq (st1 := .int p7.1 :: []) (nc1 := 0) (ns1 := 0) rfl rfl rfl ?_
    refine Sm_run K ek_M_later 27 2 rfl ?_
    obtain ⟨o10, e_o10, h⟩ := Option.bind_eq_some_iff.mp h
    obtain ⟨p9, e_p9, h⟩ := Option.bind_eq_some_iff.mp h
    refine Sm_callV K (eok_i (eo ek_M_later (i := 29) rfl) rfl) cy_M_putsBack im_M_putsBack se_M_putsBack (lgm 987 (by decide +kernel) rfl) ⟨Nat.le_of_ble_eq_true rfl, Nat.le_of_ble_eq_true rfl⟩ (as := []) (b := t) (st := []) (ob_e e_o10) (by decide) rfl rfl rfl rfl (Nat.le_of_ble_eq_true rfl) ⟨Nat.le_of_ble_eq_true rfl, Nat.le_of_ble_eq_true rfl⟩ (cn_M_putsBack e_p9) ?_
    refine Sm_eq (st1 := []) (nc1 := 0) (ns1 := 0) rfl rfl rfl ?_
    refine Sm_run K ek_M_later 30 1 rfl ?_
    cases h
    exact Sm_reti K hQ (eok_i (eo ek_M_later (i := 31) rfl) rfl)
  · rw [if_pos c2] at h
    exact Sm_le (leR_s (leR_n (leR_n (leR_n (leR_n leR_nil))))) (s_M_later_27 K hQ _ _ h)
set_option maxHeartbeats 4000000 in
set_option maxRecDepth 100000 in
theorem s_M_later_0 {G : Gx} {X : Cx} {res : Int32 × A_W} (K : Ok G X 4 c_M_later 5 (some .int) rm_M_later) (hQ : QQ G X (some (.int res.1)) res.2 0 0) (t : Nat) (x1 : Int32) (x2 : Int32) (x3 : Int32) (w : A_W) (h : F_M_later_0 t x1 x2 x3 w = some res) : Sm G X w 0 0 [some (.ref t), some (.int x1), some (.int x2), some (.int x3), none] [] 0 := by
  unfold F_M_later_0 at h
  refine Sm_run K ek_M_later 0 2 rfl ?_
  obtain ⟨o2, e_o2, h⟩ := Option.bind_eq_some_iff.mp h
  obtain ⟨p1, e_p1, h⟩ := Option.bind_eq_some_iff.mp h
  refine Sm_callV K (eok_i (eo ek_M_later (i := 2) rfl) rfl) cy_M_isGirl im_M_isGirl se_M_isGirl (lgm 909 (by decide +kernel) rfl) ⟨Nat.le_of_ble_eq_true rfl, Nat.le_of_ble_eq_true rfl⟩ (as := [.int x1]) (b := t) (st := []) (ob_e e_o2) (by decide) rfl rfl rfl rfl (Nat.le_of_ble_eq_true rfl) ⟨Nat.le_of_ble_eq_true rfl, Nat.le_of_ble_eq_true rfl⟩ (cn_M_isGirl e_p1) ?_
  refine Sm_eq (st1 := .int p1.1 :: []) (nc1 := 0) (ns1 := 0) rfl rfl rfl ?_
  refine Sm_if_eq K (eo ek_M_later (i := 3) rfl) (fun c3 => ?_) (fun c3 => ?_)
  · rw [if_pos c3] at h
    exact Sm_le (leR_s (leR_n (leR_n (leR_n (leR_n leR_nil))))) (s_M_later_27 K hQ _ _ h)
  · rw [if_neg c3] at h
    refine Sm_run K ek_M_later 4 1 rfl ?_
    refine Sm_if_eq K (eo ek_M_later (i := 5) rfl) (fun c4 => ?_) (fun c4 => ?_)
    · rw [if_pos c4] at h
      exact Sm_le (leR_s (leR_s (leR_s (leR_s (leR_n leR_nil))))) (s_M_later_17 K hQ _ _ _ _ _ h)
    · rw [if_neg c4] at h
      refine Sm_run K ek_M_later 6 2 rfl ?_
      refine Sm_ic_ne K (eo ek_M_later (i := 8) rfl) (fun c5 => ?_) (fun c5 => ?_)
      · rw [if_neg c5] at h
        exact Sm_le (leR_s (leR_n (leR_n (leR_n (leR_n leR_nil))))) (s_M_later_27 K hQ _ _ h)
      · rw [if_pos c5] at h
        exact Sm_le (leR_s (leR_s (leR_s (leR_s (leR_n leR_nil))))) (s_M_later_17 K hQ _ _ _ _ _ h)
def F_M_later (t : Nat) (x1 : Int32) (x2 : Int32) (x3 : Int32) (w : A_W) : Option (Int32 × A_W) := F_M_later_0 t x1 x2 x3 w
theorem cn_M_later {G : Gx} {t : Nat} {x1 : Int32} {x2 : Int32} {x3 : Int32} {w : A_W} {res : Int32 × A_W} (h : F_M_later t x1 x2 x3 w = some res) : Cn G y_M_later c_M_later 5 (some .int) rm_M_later [.ref t, .int x1, .int x2, .int x3] w (some (.int res.1)) res.2 :=
  Cn_of (own := 4) cy_M_later rfl rfl (Nat.le_of_ble_eq_true rfl) rfl (fun X K _ hQ => Sm_le (leR_s (leR_s (leR_s (leR_s (leR_n leR_nil))))) (s_M_later_0 K hQ _ _ _ _ _ h))
/-! EveningCloakModel.dawn(II)I -/
abbrev c_M_dawn : ByteArray := prog_6_method_50_code
def y_M_dawn : MethodName := ⟨"EveningCloakModel", "dawn", "(II)I"⟩
def rm_M_dawn : Room := { frames := 6, cells := 0, slots := 0, locals := 137 }
theorem cy_M_dawn : Cy y_M_dawn c_M_dawn 4 (some .int) 2 := ⟨lgm 998 (by decide +kernel) rfl, lgm 73 (by decide +kernel) rfl, by decide +kernel, by decide +kernel⟩
theorem im_M_dawn : Cond.instanceMethod y_M_dawn ∈ lg := lgm 996 (by decide +kernel) rfl
theorem se_M_dawn : Cond.selects y_M_dawn.cls y_M_dawn y_M_dawn ∈ lg := lgm 997 (by decide +kernel) rfl
def e_M_dawn : List Ent := [
  (0, .iload_n 1, 1, 1, .null, 0, 0, 0),
  (1, .invokestatic 68, 3, 4, .null, 0, 0, 0),
  (4, .ifCond .eq 13, 3, 17, .null, 0, 0, 0),
  (7, .iload_n 2, 1, 8, .null, 0, 0, 0),
  (8, .iconst 0, 1, 9, .int 0, 0, 0, 0),
  (9, .bipush 100, 2, 11, .int 100, 0, 0, 0),
  (11, .invokestatic 40, 3, 14, .null, 0, 0, 0),
  (14, .ifCond .ne 10, 3, 24, .null, 0, 0, 0),
  (17, .aload_n 0, 1, 18, .null, 0, 0, 0),
  (18, .ldc 34, 2, 20, .int (-1000001), 0, 0, 825),
  (20, .invokevirtual 36, 3, 23, .null, 0, 0, 0),
  (23, .ireturn, 1, 24, .null, 0, 0, 0),
  (24, .aload_n 0, 1, 25, .null, 0, 0, 0),
  (25, .invokevirtual 142, 3, 28, .null, 0, 0, 0),
  (28, .aload_n 0, 1, 29, .null, 0, 0, 0),
  (29, .iload_n 2, 1, 30, .null, 0, 0, 0),
  (30, .invokevirtual 122, 3, 33, .null, 0, 0, 0),
  (33, .aload_n 0, 1, 34, .null, 0, 0, 0),
  (34, .iload_n 1, 1, 35, .null, 0, 0, 0),
  (35, .invokevirtual 62, 3, 38, .null, 0, 0, 0),
  (38, .istore_n 3, 1, 39, .null, 0, 0, 0),
  (39, .aload_n 0, 1, 40, .null, 0, 0, 0),
  (40, .invokevirtual 145, 3, 43, .null, 0, 0, 0),
  (43, .iload_n 3, 1, 44, .null, 0, 0, 0),
  (44, .ireturn, 1, 45, .null, 0, 0, 0)]
set_option maxRecDepth 100000 in
theorem ek_M_dawn : e_M_dawn.all (eok 4 c_M_dawn) = true := by decide +kernel
def F_M_dawn_17 (t : Nat) (w : A_W) : Option (Int32 × A_W) :=
  (ob w t 4).bind fun o2 =>
  (F_M_finds t (-1000001) w).bind fun p1 =>
  some (p1.1, p1.2)
def F_M_dawn_0 (t : Nat) (x1 : Int32) (x2 : Int32) (w : A_W) : Option (Int32 × A_W) :=
  (F_M_isHanger x1 w).bind fun p1 =>
  if p1.1 = 0 then
    F_M_dawn_17 t p1.2
  else
    (F_M_in x2 0 100 p1.2).bind fun p3 =>
    if p3.1 = 0 then
      F_M_dawn_17 t p3.2
    else
      (ob p3.2 t 4).bind fun o6 =>
      (F_M_thinks t p3.2).bind fun p5 =>
      (ob p5 t 4).bind fun o8 =>
      (F_M_goesFor t x2 p5).bind fun p7 =>
      (ob p7 t 4).bind fun o10 =>
      (F_M_lightAt t x1 p7).bind fun p9 =>
      (ob p9.2 t 4).bind fun o12 =>
      (F_M_putsBack t p9.2).bind fun p11 =>
      some (p9.1, p11)
set_option maxHeartbeats 4000000 in
set_option maxRecDepth 100000 in
theorem s_M_dawn_17 {G : Gx} {X : Cx} {res : Int32 × A_W} (K : Ok G X 4 c_M_dawn 4 (some .int) rm_M_dawn) (hQ : QQ G X (some (.int res.1)) res.2 0 0) (t : Nat) (w : A_W) (h : F_M_dawn_17 t w = some res) : Sm G X w 0 0 [some (.ref t), none, none, none] [] 17 := by
  unfold F_M_dawn_17 at h
  refine Sm_run K ek_M_dawn 8 2 rfl ?_
  obtain ⟨o2, e_o2, h⟩ := Option.bind_eq_some_iff.mp h
  obtain ⟨p1, e_p1, h⟩ := Option.bind_eq_some_iff.mp h
  refine Sm_callV K (eok_i (eo ek_M_dawn (i := 10) rfl) rfl) cy_M_finds im_M_finds se_M_finds (lgm 826 (by decide +kernel) rfl) ⟨Nat.le_of_ble_eq_true rfl, Nat.le_of_ble_eq_true rfl⟩ (as := [.int (-1000001)]) (b := t) (st := []) (ob_e e_o2) (by decide) rfl rfl rfl rfl (Nat.le_of_ble_eq_true rfl) ⟨Nat.le_of_ble_eq_true rfl, Nat.le_of_ble_eq_true rfl⟩ (cn_M_finds e_p1) ?_
  refine Sm_eq (st1 := .int p1.1 :: []) (nc1 := 0) (ns1 := 0) rfl rfl rfl ?_
  cases h
  exact Sm_reti K hQ (eok_i (eo ek_M_dawn (i := 11) rfl) rfl)
set_option maxHeartbeats 4000000 in
set_option maxRecDepth 100000 in
theorem s_M_dawn_0 {G : Gx} {X : Cx} {res : Int32 × A_W} (K : Ok G X 4 c_M_dawn 4 (some .int) rm_M_dawn) (hQ : QQ G X (some (.int res.1)) res.2 0 0) (t : Nat) (x1 : Int32) (x2 : Int32) (w : A_W) (h : F_M_dawn_0 t x1 x2 w = some res) : Sm G X w 0 0 [some (.ref t), some (.int x1), some (.int x2), none] [] 0 := by
  unfold F_M_dawn_0 at h
  refine Sm_run K ek_M_dawn 0 1 rfl ?_
  obtain ⟨p1, e_p1, h⟩ := Option.bind_eq_some_iff.mp h
  refine Sm_callS K (eok_i (eo ek_M_dawn (i := 1) rfl) rfl) cy_M_isHanger st_M_isHanger (lgm 818 (by decide +kernel) rfl) ⟨Nat.le_of_ble_eq_true rfl, Nat.le_of_ble_eq_true rfl⟩ (as := [.int x1]) (st := []) rfl rfl rfl (Nat.le_of_ble_eq_true rfl) ⟨Nat.le_of_ble_eq_true rfl, Nat.le_of_ble_eq_true rfl⟩ (cn_M_isHanger e_p1) ?_
  refine Sm_eq (st1 := .int p1.1 :: []) (nc1 := 0) (ns1 := 0) rfl rfl rfl ?_
  refine Sm_if_eq K (eo ek_M_dawn (i := 2) rfl) (fun c2 => ?_) (fun c2 => ?_)
  · rw [if_pos c2] at h
    exact Sm_le (leR_s (leR_n (leR_n (leR_n leR_nil)))) (s_M_dawn_17 K hQ _ _ h)
  · rw [if_neg c2] at h
    refine Sm_run K ek_M_dawn 3 3 rfl ?_
    obtain ⟨p3, e_p3, h⟩ := Option.bind_eq_some_iff.mp h
    refine Sm_callS K (eok_i (eo ek_M_dawn (i := 6) rfl) rfl) cy_M_in st_M_in (lgm 815 (by decide +kernel) rfl) ⟨Nat.le_of_ble_eq_true rfl, Nat.le_of_ble_eq_true rfl⟩ (as := [.int x2, .int 0, .int 100]) (st := []) rfl rfl rfl (Nat.le_of_ble_eq_true rfl) ⟨Nat.le_of_ble_eq_true rfl, Nat.le_of_ble_eq_true rfl⟩ (cn_M_in e_p3) ?_
    refine Sm_eq (st1 := .int p3.1 :: []) (nc1 := 0) (ns1 := 0) rfl rfl rfl ?_
    refine Sm_if_ne K (eo ek_M_dawn (i := 7) rfl) (fun c4 => ?_) (fun c4 => ?_)
    · rw [if_neg c4] at h
      refine Sm_run K ek_M_dawn 12 1 rfl ?_
      obtain ⟨o6, e_o6, h⟩ := Option.bind_eq_some_iff.mp h
      obtain ⟨p5, e_p5, h⟩ := Option.bind_eq_some_iff.mp h
      refine Sm_callV K (eok_i (eo ek_M_dawn (i := 13) rfl) rfl) cy_M_thinks im_M_thinks se_M_thinks (lgm 980 (by decide +kernel) rfl) ⟨Nat.le_of_ble_eq_true rfl, Nat.le_of_ble_eq_true rfl⟩ (as := []) (b := t) (st := []) (ob_e e_o6) (by decide) rfl rfl rfl rfl (Nat.le_of_ble_eq_true rfl) ⟨Nat.le_of_ble_eq_true rfl, Nat.le_of_ble_eq_true rfl⟩ (cn_M_thinks e_p5) ?_
      refine Sm_eq (st1 := []) (nc1 := 0) (ns1 := 0) rfl rfl rfl ?_
      refine Sm_run K ek_M_dawn 14 2 rfl ?_
      obtain ⟨o8, e_o8, h⟩ := Option.bind_eq_some_iff.mp h
      obtain ⟨p7, e_p7, h⟩ := Option.bind_eq_some_iff.mp h
      refine Sm_callV K (eok_i (eo ek_M_dawn (i := 16) rfl) rfl) cy_M_goesFor im_M_goesFor se_M_goesFor (lgm 940 (by decide +kernel) rfl) ⟨Nat.le_of_ble_eq_true rfl, Nat.le_of_ble_eq_true rfl⟩ (as := [.int x2]) (b := t) (st := []) (ob_e e_o8) (by decide) rfl rfl rfl rfl (Nat.le_of_ble_eq_true rfl) ⟨Nat.le_of_ble_eq_true rfl, Nat.le_of_ble_eq_true rfl⟩ (cn_M_goesFor e_p7) ?_
      refine Sm_eq (st1 := []) (nc1 := 0) (ns1 := 0) rfl rfl rfl ?_
      refine Sm_run K ek_M_dawn 17 2 rfl ?_
      obtain ⟨o10, e_o10, h⟩ := Option.bind_eq_some_iff.mp h
      obtain ⟨p9, e_p9, h⟩ := Option.bind_eq_some_iff.mp h
      refine Sm_callV K (eok_i (eo ek_M_dawn (i := 19) rfl) rfl) cy_M_lightAt im_M_lightAt se_M_lightAt (lgm 886 (by decide +kernel) rfl) ⟨Nat.le_of_ble_eq_true rfl, Nat.le_of_ble_eq_true rfl⟩ (as := [.int x1]) (b := t) (st := []) (ob_e e_o10) (by decide) rfl rfl rfl rfl (Nat.le_of_ble_eq_true rfl) ⟨Nat.le_of_ble_eq_true rfl, Nat.le_of_ble_eq_true rfl⟩ (cn_M_lightAt e_p9) ?_
      refine Sm_eq (st1 := .int p9.1 :: []) (nc1 := 0) (ns1 := 0) rfl rfl rfl ?_
      refine Sm_run K ek_M_dawn 20 2 rfl ?_
      obtain ⟨o12, e_o12, h⟩ := Option.bind_eq_some_iff.mp h
      obtain ⟨p11, e_p11, h⟩ := Option.bind_eq_some_iff.mp h
      refine Sm_callV K (eok_i (eo ek_M_dawn (i := 22) rfl) rfl) cy_M_putsBack im_M_putsBack se_M_putsBack (lgm 987 (by decide +kernel) rfl) ⟨Nat.le_of_ble_eq_true rfl, Nat.le_of_ble_eq_true rfl⟩ (as := []) (b := t) (st := []) (ob_e e_o12) (by decide) rfl rfl rfl rfl (Nat.le_of_ble_eq_true rfl) ⟨Nat.le_of_ble_eq_true rfl, Nat.le_of_ble_eq_true rfl⟩ (cn_M_putsBack e_p11) ?_
      refine Sm_eq (st1 := []) (nc1 := 0) (ns1 := 0) rfl rfl rfl ?_
      refine Sm_run K ek_M_dawn 23 1 rfl ?_
      cases h
      exact Sm_reti K hQ (eok_i (eo ek_M_dawn (i := 24) rfl) rfl)
    · rw [if_pos c4] at h
      exact Sm_le (leR_s (leR_n (leR_n (leR_n leR_nil)))) (s_M_dawn_17 K hQ _ _ h)
def F_M_dawn (t : Nat) (x1 : Int32) (x2 : Int32) (w : A_W) : Option (Int32 × A_W) := F_M_dawn_0 t x1 x2 w
theorem cn_M_dawn {G : Gx} {t : Nat} {x1 : Int32} {x2 : Int32} {w : A_W} {res : Int32 × A_W} (h : F_M_dawn t x1 x2 w = some res) : Cn G y_M_dawn c_M_dawn 4 (some .int) rm_M_dawn [.ref t, .int x1, .int x2] w (some (.int res.1)) res.2 :=
  Cn_of (own := 4) cy_M_dawn rfl rfl (Nat.le_of_ble_eq_true rfl) rfl (fun X K _ hQ => Sm_le (leR_s (leR_s (leR_s (leR_n leR_nil)))) (s_M_dawn_0 K hQ _ _ _ _ h))
/-! EveningCloakModel.muchIn(II)I -/
abbrev c_M_muchIn : ByteArray := prog_6_method_51_code
def y_M_muchIn : MethodName := ⟨"EveningCloakModel", "muchIn", "(II)I"⟩
def rm_M_muchIn : Room := { frames := 5, cells := 0, slots := 0, locals := 115 }
theorem cy_M_muchIn : Cy y_M_muchIn c_M_muchIn 4 (some .int) 2 := ⟨lgm 1006 (by decide +kernel) rfl, lgm 73 (by decide +kernel) rfl, by decide +kernel, by decide +kernel⟩
theorem im_M_muchIn : Cond.instanceMethod y_M_muchIn ∈ lg := lgm 1005 (by decide +kernel) rfl
theorem se_M_muchIn : Cond.selects y_M_muchIn.cls y_M_muchIn y_M_muchIn ∈ lg := lgm 45 (by decide +kernel) rfl
def e_M_muchIn : List Ent := [
  (0, .aload_n 0, 1, 1, .null, 0, 0, 0),
  (1, .invokevirtual 142, 3, 4, .null, 0, 0, 0),
  (4, .iconst 0, 1, 5, .int 0, 0, 0, 0),
  (5, .istore_n 3, 1, 6, .null, 0, 0, 0),
  (6, .iload_n 3, 1, 7, .null, 0, 0, 0),
  (7, .sipush 200, 3, 10, .int 200, 0, 0, 0),
  (10, .if_icmp .gt 23, 3, 33, .null, 0, 0, 0),
  (13, .aload_n 0, 1, 14, .null, 0, 0, 0),
  (14, .getfield 9, 3, 17, .null, 4, 0, 762),
  (17, .iload_n 1, 1, 18, .null, 0, 0, 0),
  (18, .iaload, 1, 19, .null, 0, 0, 0),
  (19, .iload_n 2, 1, 20, .null, 0, 0, 0),
  (20, .if_icmp .ge 13, 3, 33, .null, 0, 0, 0),
  (23, .aload_n 0, 1, 24, .null, 0, 0, 0),
  (24, .invokevirtual 118, 3, 27, .null, 0, 0, 0),
  (27, .iinc 3 1, 3, 30, .int 1, 0, 0, 0),
  (30, .goto (-24), 3, 6, .null, 0, 0, 0),
  (33, .aload_n 0, 1, 34, .null, 0, 0, 0),
  (34, .invokevirtual 145, 3, 37, .null, 0, 0, 0),
  (37, .iload_n 3, 1, 38, .null, 0, 0, 0),
  (38, .sipush 200, 3, 41, .int 200, 0, 0, 0),
  (41, .if_icmp .le 12, 3, 53, .null, 0, 0, 0),
  (44, .aload_n 0, 1, 45, .null, 0, 0, 0),
  (45, .ldc 35, 2, 47, .int (-1000004), 0, 0, 933),
  (47, .invokevirtual 36, 3, 50, .null, 0, 0, 0),
  (50, .goto 4, 3, 54, .null, 0, 0, 0),
  (53, .iload_n 3, 1, 54, .null, 0, 0, 0),
  (54, .ireturn, 1, 55, .null, 0, 0, 0)]
set_option maxRecDepth 100000 in
theorem ek_M_muchIn : e_M_muchIn.all (eok 4 c_M_muchIn) = true := by decide +kernel
def F_M_muchIn_54 (y0 : Int32) (w : A_W) : Option (Int32 × A_W) :=
  some (y0, w)
def F_M_muchIn_33 (t : Nat) (x3 : Int32) (w : A_W) : Option (Int32 × A_W) :=
  (ob w t 4).bind fun o2 =>
  (F_M_putsBack t w).bind fun p1 =>
  if x3 ≤ 200 then
    F_M_muchIn_54 x3 p1
  else
    (ob p1 t 4).bind fun o5 =>
    (F_M_finds t (-1000004) p1).bind fun p4 =>
    F_M_muchIn_54 p4.1 p4.2
def F_M_muchIn_6 : Nat → Nat → Int32 → Int32 → Int32 → A_W → Option (Int32 × A_W)
  | 0, _, _, _, _, _ => none
  | n + 1, t, x1, x2, x3, w =>
    if 200 < x3 then
      F_M_muchIn_33 t x3 w
    else
      (gr w t 4 0).bind fun a2 =>
      (rd w a2 x1).bind fun v3 =>
      if x2 ≤ v3 then
        F_M_muchIn_33 t x3 w
      else
        (ob w t 4).bind fun o6 =>
        (F_M_goes t w).bind fun p5 =>
        F_M_muchIn_6 n t x1 x2 (x3 + 1) p5
def F_M_muchIn_0 (t : Nat) (x1 : Int32) (x2 : Int32) (w : A_W) : Option (Int32 × A_W) :=
  (ob w t 4).bind fun o2 =>
  (F_M_thinks t w).bind fun p1 =>
  F_M_muchIn_6 FU t x1 x2 0 p1
set_option maxHeartbeats 4000000 in
set_option maxRecDepth 100000 in
theorem s_M_muchIn_54 {G : Gx} {X : Cx} {res : Int32 × A_W} (K : Ok G X 4 c_M_muchIn 4 (some .int) rm_M_muchIn) (hQ : QQ G X (some (.int res.1)) res.2 0 0) (y0 : Int32) (w : A_W) (h : F_M_muchIn_54 y0 w = some res) : Sm G X w 0 0 [none, none, none, none] [.int y0] 54 := by
  unfold F_M_muchIn_54 at h
  cases h
  exact Sm_reti K hQ (eok_i (eo ek_M_muchIn (i := 27) rfl) rfl)
set_option maxHeartbeats 4000000 in
set_option maxRecDepth 100000 in
theorem s_M_muchIn_33 {G : Gx} {X : Cx} {res : Int32 × A_W} (K : Ok G X 4 c_M_muchIn 4 (some .int) rm_M_muchIn) (hQ : QQ G X (some (.int res.1)) res.2 0 0) (t : Nat) (x3 : Int32) (w : A_W) (h : F_M_muchIn_33 t x3 w = some res) : Sm G X w 0 0 [some (.ref t), none, none, some (.int x3)] [] 33 := by
  unfold F_M_muchIn_33 at h
  refine Sm_run K ek_M_muchIn 17 1 rfl ?_
  obtain ⟨o2, e_o2, h⟩ := Option.bind_eq_some_iff.mp h
  obtain ⟨p1, e_p1, h⟩ := Option.bind_eq_some_iff.mp h
  refine Sm_callV K (eok_i (eo ek_M_muchIn (i := 18) rfl) rfl) cy_M_putsBack im_M_putsBack se_M_putsBack (lgm 987 (by decide +kernel) rfl) ⟨Nat.le_of_ble_eq_true rfl, Nat.le_of_ble_eq_true rfl⟩ (as := []) (b := t) (st := []) (ob_e e_o2) (by decide) rfl rfl rfl rfl (Nat.le_of_ble_eq_true rfl) ⟨Nat.le_of_ble_eq_true rfl, Nat.le_of_ble_eq_true rfl⟩ (cn_M_putsBack e_p1) ?_
  refine Sm_eq (st1 := []) (nc1 := 0) (ns1 := 0) rfl rfl rfl ?_
  refine Sm_run K ek_M_muchIn 19 2 rfl ?_
  refine Sm_ic_le K (eo ek_M_muchIn (i := 21) rfl) (fun c3 => ?_) (fun c3 => ?_)
  · rw [if_pos c3] at h
    refine Sm_run K ek_M_muchIn 26 1 rfl ?_
    exact Sm_le (leR_n (leR_n (leR_n (leR_n leR_nil)))) (s_M_muchIn_54 K hQ _ _ h)
  · rw [if_neg c3] at h
    refine Sm_run K ek_M_muchIn 22 2 rfl ?_
    obtain ⟨o5, e_o5, h⟩ := Option.bind_eq_some_iff.mp h
    obtain ⟨p4, e_p4, h⟩ := Option.bind_eq_some_iff.mp h
    refine Sm_callV K (eok_i (eo ek_M_muchIn (i := 24) rfl) rfl) cy_M_finds im_M_finds se_M_finds (lgm 826 (by decide +kernel) rfl) ⟨Nat.le_of_ble_eq_true rfl, Nat.le_of_ble_eq_true rfl⟩ (as := [.int (-1000004)]) (b := t) (st := []) (ob_e e_o5) (by decide) rfl rfl rfl rfl (Nat.le_of_ble_eq_true rfl) ⟨Nat.le_of_ble_eq_true rfl, Nat.le_of_ble_eq_true rfl⟩ (cn_M_finds e_p4) ?_
    refine Sm_eq (st1 := .int p4.1 :: []) (nc1 := 0) (ns1 := 0) rfl rfl rfl ?_
    refine Sm_run K ek_M_muchIn 25 1 rfl ?_
    exact Sm_le (leR_n (leR_n (leR_n (leR_n leR_nil)))) (s_M_muchIn_54 K hQ _ _ h)
set_option maxHeartbeats 4000000 in
set_option maxRecDepth 100000 in
theorem s_M_muchIn_6 {G : Gx} {X : Cx} {res : Int32 × A_W} (K : Ok G X 4 c_M_muchIn 4 (some .int) rm_M_muchIn) (hQ : QQ G X (some (.int res.1)) res.2 0 0) : ∀ (n : Nat) (t : Nat) (x1 : Int32) (x2 : Int32) (x3 : Int32) (w : A_W), F_M_muchIn_6 n t x1 x2 x3 w = some res → Sm G X w 0 0 [some (.ref t), some (.int x1), some (.int x2), some (.int x3)] [] 6 := by
  intro n
  induction n with
  | zero => intro t x1 x2 x3 w h; cases h
  | succ n ih =>
    intro t x1 x2 x3 w h
    rw [F_M_muchIn_6] at h
    refine Sm_run K ek_M_muchIn 4 2 rfl ?_
    refine Sm_ic_gt K (eo ek_M_muchIn (i := 6) rfl) (fun c1 => ?_) (fun c1 => ?_)
    · rw [if_pos c1] at h
      exact Sm_le (leR_s (leR_n (leR_n (leR_s leR_nil)))) (s_M_muchIn_33 K hQ _ _ _ h)
    · rw [if_neg c1] at h
      refine Sm_run K ek_M_muchIn 7 1 rfl ?_
      obtain ⟨a2, e_a2, h⟩ := Option.bind_eq_some_iff.mp h
      refine Sm_gr K (eo ek_M_muchIn (i := 8) rfl) e_a2 ?_
      refine Sm_run K ek_M_muchIn 9 1 rfl ?_
      obtain ⟨v3, e_v3, h⟩ := Option.bind_eq_some_iff.mp h
      refine Sm_rd K (eok_i (eo ek_M_muchIn (i := 10) rfl) rfl) e_v3 ?_
      refine Sm_run K ek_M_muchIn 11 1 rfl ?_
      refine Sm_ic_ge K (eo ek_M_muchIn (i := 12) rfl) (fun c4 => ?_) (fun c4 => ?_)
      · rw [if_pos c4] at h
        exact Sm_le (leR_s (leR_n (leR_n (leR_s leR_nil)))) (s_M_muchIn_33 K hQ _ _ _ h)
      · rw [if_neg c4] at h
        refine Sm_run K ek_M_muchIn 13 1 rfl ?_
        obtain ⟨o6, e_o6, h⟩ := Option.bind_eq_some_iff.mp h
        obtain ⟨p5, e_p5, h⟩ := Option.bind_eq_some_iff.mp h
        refine Sm_callV K (eok_i (eo ek_M_muchIn (i := 14) rfl) rfl) cy_M_goes im_M_goes se_M_goes (lgm 944 (by decide +kernel) rfl) ⟨Nat.le_of_ble_eq_true rfl, Nat.le_of_ble_eq_true rfl⟩ (as := []) (b := t) (st := []) (ob_e e_o6) (by decide) rfl rfl rfl rfl (Nat.le_of_ble_eq_true rfl) ⟨Nat.le_of_ble_eq_true rfl, Nat.le_of_ble_eq_true rfl⟩ (cn_M_goes e_p5) ?_
        refine Sm_eq (st1 := []) (nc1 := 0) (ns1 := 0) rfl rfl rfl ?_
        refine Sm_run K ek_M_muchIn 15 2 rfl ?_
        exact Sm_le (leR_s (leR_s (leR_s (leR_s leR_nil)))) (ih _ _ _ _ _ h)
set_option maxHeartbeats 4000000 in
set_option maxRecDepth 100000 in
theorem s_M_muchIn_0 {G : Gx} {X : Cx} {res : Int32 × A_W} (K : Ok G X 4 c_M_muchIn 4 (some .int) rm_M_muchIn) (hQ : QQ G X (some (.int res.1)) res.2 0 0) (t : Nat) (x1 : Int32) (x2 : Int32) (w : A_W) (h : F_M_muchIn_0 t x1 x2 w = some res) : Sm G X w 0 0 [some (.ref t), some (.int x1), some (.int x2), none] [] 0 := by
  unfold F_M_muchIn_0 at h
  refine Sm_run K ek_M_muchIn 0 1 rfl ?_
  obtain ⟨o2, e_o2, h⟩ := Option.bind_eq_some_iff.mp h
  obtain ⟨p1, e_p1, h⟩ := Option.bind_eq_some_iff.mp h
  refine Sm_callV K (eok_i (eo ek_M_muchIn (i := 1) rfl) rfl) cy_M_thinks im_M_thinks se_M_thinks (lgm 980 (by decide +kernel) rfl) ⟨Nat.le_of_ble_eq_true rfl, Nat.le_of_ble_eq_true rfl⟩ (as := []) (b := t) (st := []) (ob_e e_o2) (by decide) rfl rfl rfl rfl (Nat.le_of_ble_eq_true rfl) ⟨Nat.le_of_ble_eq_true rfl, Nat.le_of_ble_eq_true rfl⟩ (cn_M_thinks e_p1) ?_
  refine Sm_eq (st1 := []) (nc1 := 0) (ns1 := 0) rfl rfl rfl ?_
  refine Sm_run K ek_M_muchIn 2 2 rfl ?_
  exact Sm_le (leR_s (leR_s (leR_s (leR_s leR_nil)))) (s_M_muchIn_6 K hQ FU _ _ _ _ _ h)
def F_M_muchIn (t : Nat) (x1 : Int32) (x2 : Int32) (w : A_W) : Option (Int32 × A_W) := F_M_muchIn_0 t x1 x2 w
theorem cn_M_muchIn {G : Gx} {t : Nat} {x1 : Int32} {x2 : Int32} {w : A_W} {res : Int32 × A_W} (h : F_M_muchIn t x1 x2 w = some res) : Cn G y_M_muchIn c_M_muchIn 4 (some .int) rm_M_muchIn [.ref t, .int x1, .int x2] w (some (.int res.1)) res.2 :=
  Cn_of (own := 4) cy_M_muchIn rfl rfl (Nat.le_of_ble_eq_true rfl) rfl (fun X K _ hQ => Sm_le (leR_s (leR_s (leR_s (leR_n leR_nil)))) (s_M_muchIn_0 K hQ _ _ _ _ h))
end
section
/-! EveningCloakModel.meets(II)I -/
abbrev c_M_meets : ByteArray := prog_6_method_52_code
def y_M_meets : MethodName := ⟨"EveningCloakModel", "meets", "(II)I"⟩
def rm_M_meets : Room := { frames := 6, cells := 0, slots := 0, locals := 138 }
theorem cy_M_meets : Cy y_M_meets c_M_meets 3 (some .int) 2 := ⟨lgm 1002 (by decide +kernel) rfl, lgm 73 (by decide +kernel) rfl, by decide +kernel, by decide +kernel⟩
theorem im_M_meets : Cond.instanceMethod y_M_meets ∈ lg := lgm 1000 (by decide +kernel) rfl
theorem se_M_meets : Cond.selects y_M_meets.cls y_M_meets y_M_meets ∈ lg := lgm 1001 (by decide +kernel) rfl
def e_M_meets : List Ent := [
  (0, .aload_n 0, 1, 1, .null, 0, 0, 0),
  (1, .iload_n 1, 1, 2, .null, 0, 0, 0),
  (2, .invokevirtual 100, 3, 5, .null, 0, 0, 0),
  (5, .ifCond .eq 30, 3, 35, .null, 0, 0, 0),
  (8, .iload_n 2, 1, 9, .null, 0, 0, 0),
  (9, .iconst 0, 1, 10, .int 0, 0, 0, 0),
  (10, .sipush 9999, 3, 13, .int 9999, 0, 0, 0),
  (13, .invokestatic 40, 3, 16, .null, 0, 0, 0),
  (16, .ifCond .eq 19, 3, 35, .null, 0, 0, 0),
  (19, .aload_n 0, 1, 20, .null, 0, 0, 0),
  (20, .bipush 59, 2, 22, .int 59, 0, 0, 0),
  (22, .iconst 3, 1, 23, .int 3, 0, 0, 0),
  (23, .iload_n 1, 1, 24, .null, 0, 0, 0),
  (24, .imul, 1, 25, .null, 0, 0, 0),
  (25, .iadd, 1, 26, .null, 0, 0, 0),
  (26, .iconst 2, 1, 27, .int 2, 0, 0, 0),
  (27, .iadd, 1, 28, .null, 0, 0, 0),
  (28, .iload_n 2, 1, 29, .null, 0, 0, 0),
  (29, .invokevirtual 148, 3, 32, .null, 0, 0, 0),
  (32, .goto 9, 3, 41, .null, 0, 0, 0),
  (35, .aload_n 0, 1, 36, .null, 0, 0, 0),
  (36, .ldc 34, 2, 38, .int (-1000001), 0, 0, 825),
  (38, .invokevirtual 36, 3, 41, .null, 0, 0, 0),
  (41, .ireturn, 1, 42, .null, 0, 0, 0)]
set_option maxRecDepth 100000 in
theorem ek_M_meets : e_M_meets.all (eok 4 c_M_meets) = true := by decide +kernel
def F_M_meets_41 (y0 : Int32) (w : A_W) : Option (Int32 × A_W) :=
  some (y0, w)
def F_M_meets_35 (t : Nat) (w : A_W) : Option (Int32 × A_W) :=
  (ob w t 4).bind fun o2 =>
  (F_M_finds t (-1000001) w).bind fun p1 =>
  F_M_meets_41 p1.1 p1.2
def F_M_meets_0 (t : Nat) (x1 : Int32) (x2 : Int32) (w : A_W) : Option (Int32 × A_W) :=
  (ob w t 4).bind fun o2 =>
  (F_M_isGirl t x1 w).bind fun p1 =>
  if p1.1 = 0 then
    F_M_meets_35 t p1.2
  else
    (F_M_in x2 0 9999 p1.2).bind fun p4 =>
    if p4.1 = 0 then
      F_M_meets_35 t p4.2
    else
      (ob p4.2 t 4).bind fun o7 =>
      (F_M_muchIn t ((59 + (3 * x1)) + 2) x2 p4.2).bind fun p6 =>
      F_M_meets_41 p6.1 p6.2
set_option maxHeartbeats 4000000 in
set_option maxRecDepth 100000 in
theorem s_M_meets_41 {G : Gx} {X : Cx} {res : Int32 × A_W} (K : Ok G X 4 c_M_meets 3 (some .int) rm_M_meets) (hQ : QQ G X (some (.int res.1)) res.2 0 0) (y0 : Int32) (w : A_W) (h : F_M_meets_41 y0 w = some res) : Sm G X w 0 0 [none, none, none] [.int y0] 41 := by
  unfold F_M_meets_41 at h
  cases h
  exact Sm_reti K hQ (eok_i (eo ek_M_meets (i := 23) rfl) rfl)
set_option maxHeartbeats 4000000 in
set_option maxRecDepth 100000 in
theorem s_M_meets_35 {G : Gx} {X : Cx} {res : Int32 × A_W} (K : Ok G X 4 c_M_meets 3 (some .int) rm_M_meets) (hQ : QQ G X (some (.int res.1)) res.2 0 0) (t : Nat) (w : A_W) (h : F_M_meets_35 t w = some res) : Sm G X w 0 0 [some (.ref t), none, none] [] 35 := by
  unfold F_M_meets_35 at h
  refine Sm_run K ek_M_meets 20 2 rfl ?_
  obtain ⟨o2, e_o2, h⟩ := Option.bind_eq_some_iff.mp h
  obtain ⟨p1, e_p1, h⟩ := Option.bind_eq_some_iff.mp h
  refine Sm_callV K (eok_i (eo ek_M_meets (i := 22) rfl) rfl) cy_M_finds im_M_finds se_M_finds (lgm 826 (by decide +kernel) rfl) ⟨Nat.le_of_ble_eq_true rfl, Nat.le_of_ble_eq_true rfl⟩ (as := [.int (-1000001)]) (b := t) (st := []) (ob_e e_o2) (by decide) rfl rfl rfl rfl (Nat.le_of_ble_eq_true rfl) ⟨Nat.le_of_ble_eq_true rfl, Nat.le_of_ble_eq_true rfl⟩ (cn_M_finds e_p1) ?_
  refine Sm_eq (st1 := .int p1.1 :: []) (nc1 := 0) (ns1 := 0) rfl rfl rfl ?_
  exact Sm_le (leR_n (leR_n (leR_n leR_nil))) (s_M_meets_41 K hQ _ _ h)
set_option maxHeartbeats 4000000 in
set_option maxRecDepth 100000 in
theorem s_M_meets_0 {G : Gx} {X : Cx} {res : Int32 × A_W} (K : Ok G X 4 c_M_meets 3 (some .int) rm_M_meets) (hQ : QQ G X (some (.int res.1)) res.2 0 0) (t : Nat) (x1 : Int32) (x2 : Int32) (w : A_W) (h : F_M_meets_0 t x1 x2 w = some res) : Sm G X w 0 0 [some (.ref t), some (.int x1), some (.int x2)] [] 0 := by
  unfold F_M_meets_0 at h
  refine Sm_run K ek_M_meets 0 2 rfl ?_
  obtain ⟨o2, e_o2, h⟩ := Option.bind_eq_some_iff.mp h
  obtain ⟨p1, e_p1, h⟩ := Option.bind_eq_some_iff.mp h
  refine Sm_callV K (eok_i (eo ek_M_meets (i := 2) rfl) rfl) cy_M_isGirl im_M_isGirl se_M_isGirl (lgm 909 (by decide +kernel) rfl) ⟨Nat.le_of_ble_eq_true rfl, Nat.le_of_ble_eq_true rfl⟩ (as := [.int x1]) (b := t) (st := []) (ob_e e_o2) (by decide) rfl rfl rfl rfl (Nat.le_of_ble_eq_true rfl) ⟨Nat.le_of_ble_eq_true rfl, Nat.le_of_ble_eq_true rfl⟩ (cn_M_isGirl e_p1) ?_
  refine Sm_eq (st1 := .int p1.1 :: []) (nc1 := 0) (ns1 := 0) rfl rfl rfl ?_
  refine Sm_if_eq K (eo ek_M_meets (i := 3) rfl) (fun c3 => ?_) (fun c3 => ?_)
  · rw [if_pos c3] at h
    exact Sm_le (leR_s (leR_n (leR_n leR_nil))) (s_M_meets_35 K hQ _ _ h)
  · rw [if_neg c3] at h
    refine Sm_run K ek_M_meets 4 3 rfl ?_
    obtain ⟨p4, e_p4, h⟩ := Option.bind_eq_some_iff.mp h
    refine Sm_callS K (eok_i (eo ek_M_meets (i := 7) rfl) rfl) cy_M_in st_M_in (lgm 815 (by decide +kernel) rfl) ⟨Nat.le_of_ble_eq_true rfl, Nat.le_of_ble_eq_true rfl⟩ (as := [.int x2, .int 0, .int 9999]) (st := []) rfl rfl rfl (Nat.le_of_ble_eq_true rfl) ⟨Nat.le_of_ble_eq_true rfl, Nat.le_of_ble_eq_true rfl⟩ (cn_M_in e_p4) ?_
    refine Sm_eq (st1 := .int p4.1 :: []) (nc1 := 0) (ns1 := 0) rfl rfl rfl ?_
    refine Sm_if_eq K (eo ek_M_meets (i := 8) rfl) (fun c5 => ?_) (fun c5 => ?_)
    · rw [if_pos c5] at h
      exact Sm_le (leR_s (leR_n (leR_n leR_nil))) (s_M_meets_35 K hQ _ _ h)
    · rw [if_neg c5] at h
      refine Sm_run K ek_M_meets 9 9 rfl ?_
      obtain ⟨o7, e_o7, h⟩ := Option.bind_eq_some_iff.mp h
      obtain ⟨p6, e_p6, h⟩ := Option.bind_eq_some_iff.mp h
      refine Sm_callV K (eok_i (eo ek_M_meets (i := 18) rfl) rfl) cy_M_muchIn im_M_muchIn se_M_muchIn (lgm 1003 (by decide +kernel) rfl) ⟨Nat.le_of_ble_eq_true rfl, Nat.le_of_ble_eq_true rfl⟩ (as := [.int ((59 + (3 * x1)) + 2), .int x2]) (b := t) (st := []) (ob_e e_o7) (by decide) rfl rfl rfl rfl (Nat.le_of_ble_eq_true rfl) ⟨Nat.le_of_ble_eq_true rfl, Nat.le_of_ble_eq_true rfl⟩ (cn_M_muchIn e_p6) ?_
      refine Sm_eq (st1 := .int p6.1 :: []) (nc1 := 0) (ns1 := 0) rfl rfl rfl ?_
      refine Sm_run K ek_M_meets 19 1 rfl ?_
      exact Sm_le (leR_n (leR_n (leR_n leR_nil))) (s_M_meets_41 K hQ _ _ h)
def F_M_meets (t : Nat) (x1 : Int32) (x2 : Int32) (w : A_W) : Option (Int32 × A_W) := F_M_meets_0 t x1 x2 w
theorem cn_M_meets {G : Gx} {t : Nat} {x1 : Int32} {x2 : Int32} {w : A_W} {res : Int32 × A_W} (h : F_M_meets t x1 x2 w = some res) : Cn G y_M_meets c_M_meets 3 (some .int) rm_M_meets [.ref t, .int x1, .int x2] w (some (.int res.1)) res.2 :=
  Cn_of (own := 4) cy_M_meets rfl rfl (Nat.le_of_ble_eq_true rfl) rfl (fun X K _ hQ => Sm_le (leR_s (leR_s (leR_s leR_nil))) (s_M_meets_0 K hQ _ _ _ _ h))
/-! EveningCloakModel.threadbare(II)I -/
abbrev c_M_threadbare : ByteArray := prog_6_method_53_code
def y_M_threadbare : MethodName := ⟨"EveningCloakModel", "threadbare", "(II)I"⟩
def rm_M_threadbare : Room := { frames := 6, cells := 0, slots := 0, locals := 138 }
theorem cy_M_threadbare : Cy y_M_threadbare c_M_threadbare 3 (some .int) 2 := ⟨lgm 1010 (by decide +kernel) rfl, lgm 73 (by decide +kernel) rfl, by decide +kernel, by decide +kernel⟩
theorem im_M_threadbare : Cond.instanceMethod y_M_threadbare ∈ lg := lgm 1008 (by decide +kernel) rfl
theorem se_M_threadbare : Cond.selects y_M_threadbare.cls y_M_threadbare y_M_threadbare ∈ lg := lgm 1009 (by decide +kernel) rfl
def e_M_threadbare : List Ent := [
  (0, .aload_n 0, 1, 1, .null, 0, 0, 0),
  (1, .iload_n 1, 1, 2, .null, 0, 0, 0),
  (2, .invokevirtual 88, 3, 5, .null, 0, 0, 0),
  (5, .ifCond .eq 30, 3, 35, .null, 0, 0, 0),
  (8, .iload_n 2, 1, 9, .null, 0, 0, 0),
  (9, .iconst 0, 1, 10, .int 0, 0, 0, 0),
  (10, .bipush 99, 2, 12, .int 99, 0, 0, 0),
  (12, .invokestatic 40, 3, 15, .null, 0, 0, 0),
  (15, .ifCond .eq 20, 3, 35, .null, 0, 0, 0),
  (18, .aload_n 0, 1, 19, .null, 0, 0, 0),
  (19, .bipush 11, 2, 21, .int 11, 0, 0, 0),
  (21, .bipush 6, 2, 23, .int 6, 0, 0, 0),
  (23, .iload_n 1, 1, 24, .null, 0, 0, 0),
  (24, .imul, 1, 25, .null, 0, 0, 0),
  (25, .iadd, 1, 26, .null, 0, 0, 0),
  (26, .iconst 4, 1, 27, .int 4, 0, 0, 0),
  (27, .iadd, 1, 28, .null, 0, 0, 0),
  (28, .iload_n 2, 1, 29, .null, 0, 0, 0),
  (29, .invokevirtual 148, 3, 32, .null, 0, 0, 0),
  (32, .goto 9, 3, 41, .null, 0, 0, 0),
  (35, .aload_n 0, 1, 36, .null, 0, 0, 0),
  (36, .ldc 34, 2, 38, .int (-1000001), 0, 0, 825),
  (38, .invokevirtual 36, 3, 41, .null, 0, 0, 0),
  (41, .ireturn, 1, 42, .null, 0, 0, 0)]
set_option maxRecDepth 100000 in
theorem ek_M_threadbare : e_M_threadbare.all (eok 4 c_M_threadbare) = true := by decide +kernel
def F_M_threadbare_41 (y0 : Int32) (w : A_W) : Option (Int32 × A_W) :=
  some (y0, w)
def F_M_threadbare_35 (t : Nat) (w : A_W) : Option (Int32 × A_W) :=
  (ob w t 4).bind fun o2 =>
  (F_M_finds t (-1000001) w).bind fun p1 =>
  F_M_threadbare_41 p1.1 p1.2
def F_M_threadbare_0 (t : Nat) (x1 : Int32) (x2 : Int32) (w : A_W) : Option (Int32 × A_W) :=
  (ob w t 4).bind fun o2 =>
  (F_M_isDeposit t x1 w).bind fun p1 =>
  if p1.1 = 0 then
    F_M_threadbare_35 t p1.2
  else
    (F_M_in x2 0 99 p1.2).bind fun p4 =>
    if p4.1 = 0 then
      F_M_threadbare_35 t p4.2
    else
      (ob p4.2 t 4).bind fun o7 =>
      (F_M_muchIn t ((11 + (6 * x1)) + 4) x2 p4.2).bind fun p6 =>
      F_M_threadbare_41 p6.1 p6.2
set_option maxHeartbeats 4000000 in
set_option maxRecDepth 100000 in
theorem s_M_threadbare_41 {G : Gx} {X : Cx} {res : Int32 × A_W} (K : Ok G X 4 c_M_threadbare 3 (some .int) rm_M_threadbare) (hQ : QQ G X (some (.int res.1)) res.2 0 0) (y0 : Int32) (w : A_W) (h : F_M_threadbare_41 y0 w = some res) : Sm G X w 0 0 [none, none, none] [.int y0] 41 := by
  unfold F_M_threadbare_41 at h
  cases h
  exact Sm_reti K hQ (eok_i (eo ek_M_threadbare (i := 23) rfl) rfl)
set_option maxHeartbeats 4000000 in
set_option maxRecDepth 100000 in
theorem s_M_threadbare_35 {G : Gx} {X : Cx} {res : Int32 × A_W} (K : Ok G X 4 c_M_threadbare 3 (some .int) rm_M_threadbare) (hQ : QQ G X (some (.int res.1)) res.2 0 0) (t : Nat) (w : A_W) (h : F_M_threadbare_35 t w = some res) : Sm G X w 0 0 [some (.ref t), none, none] [] 35 := by
  unfold F_M_threadbare_35 at h
  refine Sm_run K ek_M_threadbare 20 2 rfl ?_
  obtain ⟨o2, e_o2, h⟩ := Option.bind_eq_some_iff.mp h
  obtain ⟨p1, e_p1, h⟩ := Option.bind_eq_some_iff.mp h
  refine Sm_callV K (eok_i (eo ek_M_threadbare (i := 22) rfl) rfl) cy_M_finds im_M_finds se_M_finds (lgm 826 (by decide +kernel) rfl) ⟨Nat.le_of_ble_eq_true rfl, Nat.le_of_ble_eq_true rfl⟩ (as := [.int (-1000001)]) (b := t) (st := []) (ob_e e_o2) (by decide) rfl rfl rfl rfl (Nat.le_of_ble_eq_true rfl) ⟨Nat.le_of_ble_eq_true rfl, Nat.le_of_ble_eq_true rfl⟩ (cn_M_finds e_p1) ?_
  refine Sm_eq (st1 := .int p1.1 :: []) (nc1 := 0) (ns1 := 0) rfl rfl rfl ?_
  exact Sm_le (leR_n (leR_n (leR_n leR_nil))) (s_M_threadbare_41 K hQ _ _ h)
set_option maxHeartbeats 4000000 in
set_option maxRecDepth 100000 in
theorem s_M_threadbare_0 {G : Gx} {X : Cx} {res : Int32 × A_W} (K : Ok G X 4 c_M_threadbare 3 (some .int) rm_M_threadbare) (hQ : QQ G X (some (.int res.1)) res.2 0 0) (t : Nat) (x1 : Int32) (x2 : Int32) (w : A_W) (h : F_M_threadbare_0 t x1 x2 w = some res) : Sm G X w 0 0 [some (.ref t), some (.int x1), some (.int x2)] [] 0 := by
  unfold F_M_threadbare_0 at h
  refine Sm_run K ek_M_threadbare 0 2 rfl ?_
  obtain ⟨o2, e_o2, h⟩ := Option.bind_eq_some_iff.mp h
  obtain ⟨p1, e_p1, h⟩ := Option.bind_eq_some_iff.mp h
  refine Sm_callV K (eok_i (eo ek_M_threadbare (i := 2) rfl) rfl) cy_M_isDeposit im_M_isDeposit se_M_isDeposit (lgm 863 (by decide +kernel) rfl) ⟨Nat.le_of_ble_eq_true rfl, Nat.le_of_ble_eq_true rfl⟩ (as := [.int x1]) (b := t) (st := []) (ob_e e_o2) (by decide) rfl rfl rfl rfl (Nat.le_of_ble_eq_true rfl) ⟨Nat.le_of_ble_eq_true rfl, Nat.le_of_ble_eq_true rfl⟩ (cn_M_isDeposit e_p1) ?_
  refine Sm_eq (st1 := .int p1.1 :: []) (nc1 := 0) (ns1 := 0) rfl rfl rfl ?_
  refine Sm_if_eq K (eo ek_M_threadbare (i := 3) rfl) (fun c3 => ?_) (fun c3 => ?_)
  · rw [if_pos c3] at h
    exact Sm_le (leR_s (leR_n (leR_n leR_nil))) (s_M_threadbare_35 K hQ _ _ h)
  · rw [if_neg c3] at h
    refine Sm_run K ek_M_threadbare 4 3 rfl ?_
    obtain ⟨p4, e_p4, h⟩ := Option.bind_eq_some_iff.mp h
    refine Sm_callS K (eok_i (eo ek_M_threadbare (i := 7) rfl) rfl) cy_M_in st_M_in (lgm 815 (by decide +kernel) rfl) ⟨Nat.le_of_ble_eq_true rfl, Nat.le_of_ble_eq_true rfl⟩ (as := [.int x2, .int 0, .int 99]) (st := []) rfl rfl rfl (Nat.le_of_ble_eq_true rfl) ⟨Nat.le_of_ble_eq_true rfl, Nat.le_of_ble_eq_true rfl⟩ (cn_M_in e_p4) ?_
    refine Sm_eq (st1 := .int p4.1 :: []) (nc1 := 0) (ns1 := 0) rfl rfl rfl ?_
    refine Sm_if_eq K (eo ek_M_threadbare (i := 8) rfl) (fun c5 => ?_) (fun c5 => ?_)
    · rw [if_pos c5] at h
      exact Sm_le (leR_s (leR_n (leR_n leR_nil))) (s_M_threadbare_35 K hQ _ _ h)
    · rw [if_neg c5] at h
      refine Sm_run K ek_M_threadbare 9 9 rfl ?_
      obtain ⟨o7, e_o7, h⟩ := Option.bind_eq_some_iff.mp h
      obtain ⟨p6, e_p6, h⟩ := Option.bind_eq_some_iff.mp h
      refine Sm_callV K (eok_i (eo ek_M_threadbare (i := 18) rfl) rfl) cy_M_muchIn im_M_muchIn se_M_muchIn (lgm 1003 (by decide +kernel) rfl) ⟨Nat.le_of_ble_eq_true rfl, Nat.le_of_ble_eq_true rfl⟩ (as := [.int ((11 + (6 * x1)) + 4), .int x2]) (b := t) (st := []) (ob_e e_o7) (by decide) rfl rfl rfl rfl (Nat.le_of_ble_eq_true rfl) ⟨Nat.le_of_ble_eq_true rfl, Nat.le_of_ble_eq_true rfl⟩ (cn_M_muchIn e_p6) ?_
      refine Sm_eq (st1 := .int p6.1 :: []) (nc1 := 0) (ns1 := 0) rfl rfl rfl ?_
      refine Sm_run K ek_M_threadbare 19 1 rfl ?_
      exact Sm_le (leR_n (leR_n (leR_n leR_nil))) (s_M_threadbare_41 K hQ _ _ h)
def F_M_threadbare (t : Nat) (x1 : Int32) (x2 : Int32) (w : A_W) : Option (Int32 × A_W) := F_M_threadbare_0 t x1 x2 w
theorem cn_M_threadbare {G : Gx} {t : Nat} {x1 : Int32} {x2 : Int32} {w : A_W} {res : Int32 × A_W} (h : F_M_threadbare t x1 x2 w = some res) : Cn G y_M_threadbare c_M_threadbare 3 (some .int) rm_M_threadbare [.ref t, .int x1, .int x2] w (some (.int res.1)) res.2 :=
  Cn_of (own := 4) cy_M_threadbare rfl rfl (Nat.le_of_ble_eq_true rfl) rfl (fun X K _ hQ => Sm_le (leR_s (leR_s (leR_s leR_nil))) (s_M_threadbare_0 K hQ _ _ _ _ h))
/-! EveningCloakModel.earns(I)I -/
abbrev c_M_earns : ByteArray := prog_6_method_54_code
def y_M_earns : MethodName := ⟨"EveningCloakModel", "earns", "(I)I"⟩
def rm_M_earns : Room := { frames := 6, cells := 0, slots := 0, locals := 138 }
theorem cy_M_earns : Cy y_M_earns c_M_earns 2 (some .int) 1 := ⟨lgm 1014 (by decide +kernel) rfl, lgm 73 (by decide +kernel) rfl, by decide +kernel, by decide +kernel⟩
theorem im_M_earns : Cond.instanceMethod y_M_earns ∈ lg := lgm 1012 (by decide +kernel) rfl
theorem se_M_earns : Cond.selects y_M_earns.cls y_M_earns y_M_earns ∈ lg := lgm 1013 (by decide +kernel) rfl
def e_M_earns : List Ent := [
  (0, .iload_n 1, 1, 1, .null, 0, 0, 0),
  (1, .iconst 0, 1, 2, .int 0, 0, 0, 0),
  (2, .ldc 117, 2, 4, .int 99999, 0, 0, 938),
  (4, .invokestatic 40, 3, 7, .null, 0, 0, 0),
  (7, .ifCond .eq 12, 3, 19, .null, 0, 0, 0),
  (10, .aload_n 0, 1, 11, .null, 0, 0, 0),
  (11, .iconst 1, 1, 12, .int 1, 0, 0, 0),
  (12, .iload_n 1, 1, 13, .null, 0, 0, 0),
  (13, .invokevirtual 148, 3, 16, .null, 0, 0, 0),
  (16, .goto 9, 3, 25, .null, 0, 0, 0),
  (19, .aload_n 0, 1, 20, .null, 0, 0, 0),
  (20, .ldc 34, 2, 22, .int (-1000001), 0, 0, 825),
  (22, .invokevirtual 36, 3, 25, .null, 0, 0, 0),
  (25, .ireturn, 1, 26, .null, 0, 0, 0)]
set_option maxRecDepth 100000 in
theorem ek_M_earns : e_M_earns.all (eok 4 c_M_earns) = true := by decide +kernel
def F_M_earns_25 (y0 : Int32) (w : A_W) : Option (Int32 × A_W) :=
  some (y0, w)
def F_M_earns_0 (t : Nat) (x1 : Int32) (w : A_W) : Option (Int32 × A_W) :=
  (F_M_in x1 0 99999 w).bind fun p1 =>
  if p1.1 = 0 then
    (ob p1.2 t 4).bind fun o4 =>
    (F_M_finds t (-1000001) p1.2).bind fun p3 =>
    F_M_earns_25 p3.1 p3.2
  else
    (ob p1.2 t 4).bind fun o6 =>
    (F_M_muchIn t 1 x1 p1.2).bind fun p5 =>
    F_M_earns_25 p5.1 p5.2
set_option maxHeartbeats 4000000 in
set_option maxRecDepth 100000 in
theorem s_M_earns_25 {G : Gx} {X : Cx} {res : Int32 × A_W} (K : Ok G X 4 c_M_earns 2 (some .int) rm_M_earns) (hQ : QQ G X (some (.int res.1)) res.2 0 0) (y0 : Int32) (w : A_W) (h : F_M_earns_25 y0 w = some res) : Sm G X w 0 0 [none, none] [.int y0] 25 := by
  unfold F_M_earns_25 at h
  cases h
  exact Sm_reti K hQ (eok_i (eo ek_M_earns (i := 13) rfl) rfl)
set_option maxHeartbeats 4000000 in
set_option maxRecDepth 100000 in
theorem s_M_earns_0 {G : Gx} {X : Cx} {res : Int32 × A_W} (K : Ok G X 4 c_M_earns 2 (some .int) rm_M_earns) (hQ : QQ G X (some (.int res.1)) res.2 0 0) (t : Nat) (x1 : Int32) (w : A_W) (h : F_M_earns_0 t x1 w = some res) : Sm G X w 0 0 [some (.ref t), some (.int x1)] [] 0 := by
  unfold F_M_earns_0 at h
  refine Sm_run K ek_M_earns 0 3 rfl ?_
  obtain ⟨p1, e_p1, h⟩ := Option.bind_eq_some_iff.mp h
  refine Sm_callS K (eok_i (eo ek_M_earns (i := 3) rfl) rfl) cy_M_in st_M_in (lgm 815 (by decide +kernel) rfl) ⟨Nat.le_of_ble_eq_true rfl, Nat.le_of_ble_eq_true rfl⟩ (as := [.int x1, .int 0, .int 99999]) (st := []) rfl rfl rfl (Nat.le_of_ble_eq_true rfl) ⟨Nat.le_of_ble_eq_true rfl, Nat.le_of_ble_eq_true rfl⟩ (cn_M_in e_p1) ?_
  refine Sm_eq (st1 := .int p1.1 :: []) (nc1 := 0) (ns1 := 0) rfl rfl rfl ?_
  refine Sm_if_eq K (eo ek_M_earns (i := 4) rfl) (fun c2 => ?_) (fun c2 => ?_)
  · rw [if_pos c2] at h
    refine Sm_run K ek_M_earns 10 2 rfl ?_
    obtain ⟨o4, e_o4, h⟩ := Option.bind_eq_some_iff.mp h
    obtain ⟨p3, e_p3, h⟩ := Option.bind_eq_some_iff.mp h
    refine Sm_callV K (eok_i (eo ek_M_earns (i := 12) rfl) rfl) cy_M_finds im_M_finds se_M_finds (lgm 826 (by decide +kernel) rfl) ⟨Nat.le_of_ble_eq_true rfl, Nat.le_of_ble_eq_true rfl⟩ (as := [.int (-1000001)]) (b := t) (st := []) (ob_e e_o4) (by decide) rfl rfl rfl rfl (Nat.le_of_ble_eq_true rfl) ⟨Nat.le_of_ble_eq_true rfl, Nat.le_of_ble_eq_true rfl⟩ (cn_M_finds e_p3) ?_
    refine Sm_eq (st1 := .int p3.1 :: []) (nc1 := 0) (ns1 := 0) rfl rfl rfl ?_
    exact Sm_le (leR_n (leR_n leR_nil)) (s_M_earns_25 K hQ _ _ h)
  · rw [if_neg c2] at h
    refine Sm_run K ek_M_earns 5 3 rfl ?_
    obtain ⟨o6, e_o6, h⟩ := Option.bind_eq_some_iff.mp h
    obtain ⟨p5, e_p5, h⟩ := Option.bind_eq_some_iff.mp h
    refine Sm_callV K (eok_i (eo ek_M_earns (i := 8) rfl) rfl) cy_M_muchIn im_M_muchIn se_M_muchIn (lgm 1003 (by decide +kernel) rfl) ⟨Nat.le_of_ble_eq_true rfl, Nat.le_of_ble_eq_true rfl⟩ (as := [.int 1, .int x1]) (b := t) (st := []) (ob_e e_o6) (by decide) rfl rfl rfl rfl (Nat.le_of_ble_eq_true rfl) ⟨Nat.le_of_ble_eq_true rfl, Nat.le_of_ble_eq_true rfl⟩ (cn_M_muchIn e_p5) ?_
    refine Sm_eq (st1 := .int p5.1 :: []) (nc1 := 0) (ns1 := 0) rfl rfl rfl ?_
    refine Sm_run K ek_M_earns 9 1 rfl ?_
    exact Sm_le (leR_n (leR_n leR_nil)) (s_M_earns_25 K hQ _ _ h)
def F_M_earns (t : Nat) (x1 : Int32) (w : A_W) : Option (Int32 × A_W) := F_M_earns_0 t x1 w
theorem cn_M_earns {G : Gx} {t : Nat} {x1 : Int32} {w : A_W} {res : Int32 × A_W} (h : F_M_earns t x1 w = some res) : Cn G y_M_earns c_M_earns 2 (some .int) rm_M_earns [.ref t, .int x1] w (some (.int res.1)) res.2 :=
  Cn_of (own := 4) cy_M_earns rfl rfl (Nat.le_of_ble_eq_true rfl) rfl (fun X K _ hQ => Sm_le (leR_s (leR_s leR_nil)) (s_M_earns_0 K hQ _ _ _ h))
/-! EveningCloakModel.metBehind(I)I -/
abbrev c_M_metBehind : ByteArray := prog_6_method_55_code
def y_M_metBehind : MethodName := ⟨"EveningCloakModel", "metBehind", "(I)I"⟩
def rm_M_metBehind : Room := { frames := 6, cells := 0, slots := 0, locals := 137 }
theorem cy_M_metBehind : Cy y_M_metBehind c_M_metBehind 3 (some .int) 1 := ⟨lgm 1026 (by decide +kernel) rfl, lgm 73 (by decide +kernel) rfl, by decide +kernel, by decide +kernel⟩
theorem im_M_metBehind : Cond.instanceMethod y_M_metBehind ∈ lg := lgm 1025 (by decide +kernel) rfl
theorem se_M_metBehind : Cond.selects y_M_metBehind.cls y_M_metBehind y_M_metBehind ∈ lg := lgm 47 (by decide +kernel) rfl
def e_M_metBehind : List Ent := [
  (0, .aload_n 0, 1, 1, .null, 0, 0, 0),
  (1, .iload_n 1, 1, 2, .null, 0, 0, 0),
  (2, .invokevirtual 122, 3, 5, .null, 0, 0, 0),
  (5, .aload_n 0, 1, 6, .null, 0, 0, 0),
  (6, .iconst 2, 1, 7, .int 2, 0, 0, 0),
  (7, .invokevirtual 126, 3, 10, .null, 0, 0, 0),
  (10, .istore_n 2, 1, 11, .null, 0, 0, 0),
  (11, .aload_n 0, 1, 12, .null, 0, 0, 0),
  (12, .invokevirtual 145, 3, 15, .null, 0, 0, 0),
  (15, .iload_n 2, 1, 16, .null, 0, 0, 0),
  (16, .ireturn, 1, 17, .null, 0, 0, 0)]
set_option maxRecDepth 100000 in
theorem ek_M_metBehind : e_M_metBehind.all (eok 4 c_M_metBehind) = true := by decide +kernel
def F_M_metBehind_0 (t : Nat) (x1 : Int32) (w : A_W) : Option (Int32 × A_W) :=
  (ob w t 4).bind fun o2 =>
  (F_M_goesFor t x1 w).bind fun p1 =>
  (ob p1 t 4).bind fun o4 =>
  (F_M_sums t 2 p1).bind fun p3 =>
  (ob p3.2 t 4).bind fun o6 =>
  (F_M_putsBack t p3.2).bind fun p5 =>
  some (p3.1, p5)
set_option maxHeartbeats 4000000 in
set_option maxRecDepth 100000 in
theorem s_M_metBehind_0 {G : Gx} {X : Cx} {res : Int32 × A_W} (K : Ok G X 4 c_M_metBehind 3 (some .int) rm_M_metBehind) (hQ : QQ G X (some (.int res.1)) res.2 0 0) (t : Nat) (x1 : Int32) (w : A_W) (h : F_M_metBehind_0 t x1 w = some res) : Sm G X w 0 0 [some (.ref t), some (.int x1), none] [] 0 := by
  unfold F_M_metBehind_0 at h
  refine Sm_run K ek_M_metBehind 0 2 rfl ?_
  obtain ⟨o2, e_o2, h⟩ := Option.bind_eq_some_iff.mp h
  obtain ⟨p1, e_p1, h⟩ := Option.bind_eq_some_iff.mp h
  refine Sm_callV K (eok_i (eo ek_M_metBehind (i := 2) rfl) rfl) cy_M_goesFor im_M_goesFor se_M_goesFor (lgm 940 (by decide +kernel) rfl) ⟨Nat.le_of_ble_eq_true rfl, Nat.le_of_ble_eq_true rfl⟩ (as := [.int x1]) (b := t) (st := []) (ob_e e_o2) (by decide) rfl rfl rfl rfl (Nat.le_of_ble_eq_true rfl) ⟨Nat.le_of_ble_eq_true rfl, Nat.le_of_ble_eq_true rfl⟩ (cn_M_goesFor e_p1) ?_
  refine Sm_eq (st1 := []) (nc1 := 0) (ns1 := 0) rfl rfl rfl ?_
  refine Sm_run K ek_M_metBehind 3 2 rfl ?_
  obtain ⟨o4, e_o4, h⟩ := Option.bind_eq_some_iff.mp h
  obtain ⟨p3, e_p3, h⟩ := Option.bind_eq_some_iff.mp h
  refine Sm_callV K (eok_i (eo ek_M_metBehind (i := 5) rfl) rfl) cy_M_sums im_M_sums se_M_sums (lgm 960 (by decide +kernel) rfl) ⟨Nat.le_of_ble_eq_true rfl, Nat.le_of_ble_eq_true rfl⟩ (as := [.int 2]) (b := t) (st := []) (ob_e e_o4) (by decide) rfl rfl rfl rfl (Nat.le_of_ble_eq_true rfl) ⟨Nat.le_of_ble_eq_true rfl, Nat.le_of_ble_eq_true rfl⟩ (cn_M_sums e_p3) ?_
  refine Sm_eq (st1 := .int p3.1 :: []) (nc1 := 0) (ns1 := 0) rfl rfl rfl ?_
  refine Sm_run K ek_M_metBehind 6 2 rfl ?_
  obtain ⟨o6, e_o6, h⟩ := Option.bind_eq_some_iff.mp h
  obtain ⟨p5, e_p5, h⟩ := Option.bind_eq_some_iff.mp h
  refine Sm_callV K (eok_i (eo ek_M_metBehind (i := 8) rfl) rfl) cy_M_putsBack im_M_putsBack se_M_putsBack (lgm 987 (by decide +kernel) rfl) ⟨Nat.le_of_ble_eq_true rfl, Nat.le_of_ble_eq_true rfl⟩ (as := []) (b := t) (st := []) (ob_e e_o6) (by decide) rfl rfl rfl rfl (Nat.le_of_ble_eq_true rfl) ⟨Nat.le_of_ble_eq_true rfl, Nat.le_of_ble_eq_true rfl⟩ (cn_M_putsBack e_p5) ?_
  refine Sm_eq (st1 := []) (nc1 := 0) (ns1 := 0) rfl rfl rfl ?_
  refine Sm_run K ek_M_metBehind 9 1 rfl ?_
  cases h
  exact Sm_reti K hQ (eok_i (eo ek_M_metBehind (i := 10) rfl) rfl)
def F_M_metBehind (t : Nat) (x1 : Int32) (w : A_W) : Option (Int32 × A_W) := F_M_metBehind_0 t x1 w
theorem cn_M_metBehind {G : Gx} {t : Nat} {x1 : Int32} {w : A_W} {res : Int32 × A_W} (h : F_M_metBehind t x1 w = some res) : Cn G y_M_metBehind c_M_metBehind 3 (some .int) rm_M_metBehind [.ref t, .int x1] w (some (.int res.1)) res.2 :=
  Cn_of (own := 4) cy_M_metBehind rfl rfl (Nat.le_of_ble_eq_true rfl) rfl (fun X K _ hQ => Sm_le (leR_s (leR_s (leR_n leR_nil))) (s_M_metBehind_0 K hQ _ _ _ h))
/-! EveningCloakModel.mostBy(IIII)I -/
abbrev c_M_mostBy : ByteArray := prog_6_method_56_code
def y_M_mostBy : MethodName := ⟨"EveningCloakModel", "mostBy", "(IIII)I"⟩
def rm_M_mostBy : Room := { frames := 7, cells := 0, slots := 0, locals := 159 }
theorem cy_M_mostBy : Cy y_M_mostBy c_M_mostBy 9 (some .int) 4 := ⟨lgm 1022 (by decide +kernel) rfl, lgm 73 (by decide +kernel) rfl, by decide +kernel, by decide +kernel⟩
theorem im_M_mostBy : Cond.instanceMethod y_M_mostBy ∈ lg := lgm 1021 (by decide +kernel) rfl
theorem se_M_mostBy : Cond.selects y_M_mostBy.cls y_M_mostBy y_M_mostBy ∈ lg := lgm 46 (by decide +kernel) rfl
def e_M_mostBy : List Ent := [
  (0, .aload_n 0, 1, 1, .null, 0, 0, 0),
  (1, .invokevirtual 142, 3, 4, .null, 0, 0, 0),
  (4, .iconst 0, 1, 5, .int 0, 0, 0, 0),
  (5, .istore 5, 2, 7, .null, 0, 0, 0),
  (7, .iconst (-1), 1, 8, .int (-1), 0, 0, 0),
  (8, .istore 6, 2, 10, .null, 0, 0, 0),
  (10, .iconst 0, 1, 11, .int 0, 0, 0, 0),
  (11, .istore 7, 2, 13, .null, 0, 0, 0),
  (13, .iload 7, 2, 15, .null, 0, 0, 0),
  (15, .iload_n 3, 1, 16, .null, 0, 0, 0),
  (16, .if_icmp .ge 59, 3, 75, .null, 0, 0, 0),
  (19, .aload_n 0, 1, 20, .null, 0, 0, 0),
  (20, .getfield 9, 3, 23, .null, 4, 0, 762),
  (23, .iload_n 1, 1, 24, .null, 0, 0, 0),
  (24, .iload_n 2, 1, 25, .null, 0, 0, 0),
  (25, .iload 7, 2, 27, .null, 0, 0, 0),
  (27, .iadd, 1, 28, .null, 0, 0, 0),
  (28, .iastore, 1, 29, .null, 0, 0, 0),
  (29, .aload_n 0, 1, 30, .null, 0, 0, 0),
  (30, .iload 4, 2, 32, .null, 0, 0, 0),
  (32, .invokevirtual 151, 3, 35, .null, 0, 0, 0),
  (35, .istore 8, 2, 37, .null, 0, 0, 0),
  (37, .iload 8, 2, 39, .null, 0, 0, 0),
  (39, .iload 6, 2, 41, .null, 0, 0, 0),
  (41, .if_icmp .le 8, 3, 49, .null, 0, 0, 0),
  (44, .iload 7, 2, 46, .null, 0, 0, 0),
  (46, .goto 5, 3, 51, .null, 0, 0, 0),
  (49, .iload 5, 2, 51, .null, 0, 0, 0),
  (51, .istore 5, 2, 53, .null, 0, 0, 0),
  (53, .iload 8, 2, 55, .null, 0, 0, 0),
  (55, .iload 6, 2, 57, .null, 0, 0, 0),
  (57, .if_icmp .le 8, 3, 65, .null, 0, 0, 0),
  (60, .iload 8, 2, 62, .null, 0, 0, 0),
  (62, .goto 5, 3, 67, .null, 0, 0, 0),
  (65, .iload 6, 2, 67, .null, 0, 0, 0),
  (67, .istore 6, 2, 69, .null, 0, 0, 0),
  (69, .iinc 7 1, 3, 72, .int 1, 0, 0, 0),
  (72, .goto (-59), 3, 13, .null, 0, 0, 0),
  (75, .iload 5, 2, 77, .null, 0, 0, 0),
  (77, .ireturn, 1, 78, .null, 0, 0, 0)]
set_option maxRecDepth 100000 in
theorem ek_M_mostBy : e_M_mostBy.all (eok 4 c_M_mostBy) = true := by decide +kernel
def F_M_mostBy_67 (k13 : Nat → Int32 → Int32 → Int32 → Int32 → Int32 → Int32 → Int32 → A_W → Option (Int32 × A_W)) (t : Nat) (x1 : Int32) (x2 : Int32) (x3 : Int32) (x4 : Int32) (x5 : Int32) (x7 : Int32) (y0 : Int32) (w : A_W) : Option (Int32 × A_W) :=
  k13 t x1 x2 x3 x4 x5 y0 (x7 + 1) w
def F_M_mostBy_51 (k13 : Nat → Int32 → Int32 → Int32 → Int32 → Int32 → Int32 → Int32 → A_W → Option (Int32 × A_W)) (t : Nat) (x1 : Int32) (x2 : Int32) (x3 : Int32) (x4 : Int32) (x6 : Int32) (x7 : Int32) (x8 : Int32) (y0 : Int32) (w : A_W) : Option (Int32 × A_W) :=
  if x8 ≤ x6 then
    F_M_mostBy_67 k13 t x1 x2 x3 x4 y0 x7 x6 w
  else
    F_M_mostBy_67 k13 t x1 x2 x3 x4 y0 x7 x8 w
def F_M_mostBy_13 : Nat → Nat → Int32 → Int32 → Int32 → Int32 → Int32 → Int32 → Int32 → A_W → Option (Int32 × A_W)
  | 0, _, _, _, _, _, _, _, _, _ => none
  | n + 1, t, x1, x2, x3, x4, x5, x6, x7, w =>
    if x3 ≤ x7 then
      some (x5, w)
    else
      (gr w t 4 0).bind fun a2 =>
      (wr w a2 x1 (x2 + x7)).bind fun w3 =>
      (ob w3 t 4).bind fun o5 =>
      (F_M_metBehind t x4 w3).bind fun p4 =>
      if p4.1 ≤ x6 then
        F_M_mostBy_51 (F_M_mostBy_13 n) t x1 x2 x3 x4 x6 x7 p4.1 x5 p4.2
      else
        F_M_mostBy_51 (F_M_mostBy_13 n) t x1 x2 x3 x4 x6 x7 p4.1 x7 p4.2
def F_M_mostBy_0 (t : Nat) (x1 : Int32) (x2 : Int32) (x3 : Int32) (x4 : Int32) (w : A_W) : Option (Int32 × A_W) :=
  (ob w t 4).bind fun o2 =>
  (F_M_thinks t w).bind fun p1 =>
  F_M_mostBy_13 FU t x1 x2 x3 x4 0 (-1) 0 p1
set_option maxHeartbeats 4000000 in
set_option maxRecDepth 100000 in
theorem s_M_mostBy_67 {G : Gx} {X : Cx} {res : Int32 × A_W} (K : Ok G X 4 c_M_mostBy 9 (some .int) rm_M_mostBy) (hQ : QQ G X (some (.int res.1)) res.2 0 0) {k13 : Nat → Int32 → Int32 → Int32 → Int32 → Int32 → Int32 → Int32 → A_W → Option (Int32 × A_W)} (hk13 : ∀ (t : Nat) (x1 : Int32) (x2 : Int32) (x3 : Int32) (x4 : Int32) (x5 : Int32) (x6 : Int32) (x7 : Int32) (w : A_W), k13 t x1 x2 x3 x4 x5 x6 x7 w = some res → Sm G X w 0 0 [some (.ref t), some (.int x1), some (.int x2), some (.int x3), some (.int x4), some (.int x5), some (.int x6), some (.int x7), none] [] 13) (t : Nat) (x1 : Int32) (x2 : Int32) (x3 : Int32) (x4 : Int32) (x5 : Int32) (x7 : Int32) (y0 : Int32) (w : A_W) (h : F_M_mostBy_67 k13 t x1 x2 x3 x4 x5 x7 y0 w = some res) : Sm G X w 0 0 [some (.ref t), some (.int x1), some (.int x2), some (.int x3), some (.int x4), some (.int x5), none, some (.int x7), none] [.int y0] 67 := by
  unfold F_M_mostBy_67 at h
  refine Sm_run K ek_M_mostBy 35 3 rfl ?_
  exact Sm_le (leR_s (leR_s (leR_s (leR_s (leR_s (leR_s (leR_s (leR_s (leR_n leR_nil))))))))) (hk13 _ _ _ _ _ _ _ _ _ h)
set_option maxHeartbeats 4000000 in
set_option maxRecDepth 100000 in
theorem s_M_mostBy_51 {G : Gx} {X : Cx} {res : Int32 × A_W} (K : Ok G X 4 c_M_mostBy 9 (some .int) rm_M_mostBy) (hQ : QQ G X (some (.int res.1)) res.2 0 0) {k13 : Nat → Int32 → Int32 → Int32 → Int32 → Int32 → Int32 → Int32 → A_W → Option (Int32 × A_W)} (hk13 : ∀ (t : Nat) (x1 : Int32) (x2 : Int32) (x3 : Int32) (x4 : Int32) (x5 : Int32) (x6 : Int32) (x7 : Int32) (w : A_W), k13 t x1 x2 x3 x4 x5 x6 x7 w = some res → Sm G X w 0 0 [some (.ref t), some (.int x1), some (.int x2), some (.int x3), some (.int x4), some (.int x5), some (.int x6), some (.int x7), none] [] 13) (t : Nat) (x1 : Int32) (x2 : Int32) (x3 : Int32) (x4 : Int32) (x6 : Int32) (x7 : Int32) (x8 : Int32) (y0 : Int32) (w : A_W) (h : F_M_mostBy_51 k13 t x1 x2 x3 x4 x6 x7 x8 y0 w = some res) : Sm G X w 0 0 [some (.ref t), some (.int x1), some (.int x2), some (.int x3), some (.int x4), none, some (.int x6), some (.int x7), some (.int x8)] [.int y0] 51 := by
  unfold F_M_mostBy_51 at h
  refine Sm_run K ek_M_mostBy 28 3 rfl ?_
  refine Sm_ic_le K (eo ek_M_mostBy (i := 31) rfl) (fun c1 => ?_) (fun c1 => ?_)
  · rw [if_pos c1] at h
    refine Sm_run K ek_M_mostBy 34 1 rfl ?_
    exact Sm_le (leR_s (leR_s (leR_s (leR_s (leR_s (leR_s (leR_n (leR_s (leR_n leR_nil))))))))) (s_M_mostBy_67 K hQ hk13 _ _ _ _ _ _ _ _ _ h)
  · rw [if_neg c1] at h
    refine Sm_run K ek_M_mostBy 32 2 rfl ?_
    exact Sm_le (leR_s (leR_s (leR_s (leR_s (leR_s (leR_s (leR_n (leR_s (leR_n leR_nil))))))))) (s_M_mostBy_67 K hQ hk13 _ _ _ _ _ _ _ _ _ h)
set_option maxHeartbeats 4000000 in
set_option maxRecDepth 100000 in
theorem s_M_mostBy_13 {G : Gx} {X : Cx} {res : Int32 × A_W} (K : Ok G X 4 c_M_mostBy 9 (some .int) rm_M_mostBy) (hQ : QQ G X (some (.int res.1)) res.2 0 0) : ∀ (n : Nat) (t : Nat) (x1 : Int32) (x2 : Int32) (x3 : Int32) (x4 : Int32) (x5 : Int32) (x6 : Int32) (x7 : Int32) (w : A_W), F_M_mostBy_13 n t x1 x2 x3 x4 x5 x6 x7 w = some res → Sm G X w 0 0 [some (.ref t), some (.int x1), some (.int x2), some (.int x3), some (.int x4), some (.int x5), some (.int x6), some (.int x7), none] [] 13 := by
  intro n
  induction n with
  | zero => intro t x1 x2 x3 x4 x5 x6 x7 w h; cases h
  | succ n ih =>
    intro t x1 x2 x3 x4 x5 x6 x7 w h
    rw [F_M_mostBy_13] at h
    refine Sm_run K ek_M_mostBy 8 2 rfl ?_
    refine Sm_ic_ge K (eo ek_M_mostBy (i := 10) rfl) (fun c1 => ?_) (fun c1 => ?_)
    · rw [if_pos c1] at h
      refine Sm_run K ek_M_mostBy 38 1 rfl ?_
      cases h
      exact Sm_reti K hQ (eok_i (eo ek_M_mostBy (i := 39) rfl) rfl)
    · rw [if_neg c1] at h
      refine Sm_run K ek_M_mostBy 11 1 rfl ?_
      obtain ⟨a2, e_a2, h⟩ := Option.bind_eq_some_iff.mp h
      refine Sm_gr K (eo ek_M_mostBy (i := 12) rfl) e_a2 ?_
      refine Sm_run K ek_M_mostBy 13 4 rfl ?_
      obtain ⟨w3, e_w3, h⟩ := Option.bind_eq_some_iff.mp h
      refine Sm_wr K (eok_i (eo ek_M_mostBy (i := 17) rfl) rfl) e_w3 ?_
      refine Sm_run K ek_M_mostBy 18 2 rfl ?_
      obtain ⟨o5, e_o5, h⟩ := Option.bind_eq_some_iff.mp h
      obtain ⟨p4, e_p4, h⟩ := Option.bind_eq_some_iff.mp h
      refine Sm_callV K (eok_i (eo ek_M_mostBy (i := 20) rfl) rfl) cy_M_metBehind im_M_metBehind se_M_metBehind (lgm 1023 (by decide +kernel) rfl) ⟨Nat.le_of_ble_eq_true rfl, Nat.le_of_ble_eq_true rfl⟩ (as := [.int x4]) (b := t) (st := []) (ob_e e_o5) (by decide) rfl rfl rfl rfl (Nat.le_of_ble_eq_true rfl) ⟨Nat.le_of_ble_eq_true rfl, Nat.le_of_ble_eq_true rfl⟩ (cn_M_metBehind e_p4) ?_
      refine Sm_eq (st1 := .int p4.1 :: []) (nc1 := 0) (ns1 := 0) rfl rfl rfl ?_
      refine Sm_run K ek_M_mostBy 21 3 rfl ?_
      refine Sm_ic_le K (eo ek_M_mostBy (i := 24) rfl) (fun c6 => ?_) (fun c6 => ?_)
      · rw [if_pos c6] at h
        refine Sm_run K ek_M_mostBy 27 1 rfl ?_
        exact Sm_le (leR_s (leR_s (leR_s (leR_s (leR_s (leR_n (leR_s (leR_s (leR_s leR_nil))))))))) (s_M_mostBy_51 K hQ ih _ _ _ _ _ _ _ _ _ _ h)
      · rw [if_neg c6] at h
        refine Sm_run K ek_M_mostBy 25 2 rfl ?_
        exact Sm_le (leR_s (leR_s (leR_s (leR_s (leR_s (leR_n (leR_s (leR_s (leR_s leR_nil))))))))) (s_M_mostBy_51 K hQ ih _ _ _ _ _ _ _ _ _ _ h)
set_option maxHeartbeats 4000000 in
set_option maxRecDepth 100000 in
theorem s_M_mostBy_0 {G : Gx} {X : Cx} {res : Int32 × A_W} (K : Ok G X 4 c_M_mostBy 9 (some .int) rm_M_mostBy) (hQ : QQ G X (some (.int res.1)) res.2 0 0) (t : Nat) (x1 : Int32) (x2 : Int32) (x3 : Int32) (x4 : Int32) (w : A_W) (h : F_M_mostBy_0 t x1 x2 x3 x4 w = some res) : Sm G X w 0 0 [some (.ref t), some (.int x1), some (.int x2), some (.int x3), some (.int x4), none, none, none, none] [] 0 := by
  unfold F_M_mostBy_0 at h
  refine Sm_run K ek_M_mostBy 0 1 rfl ?_
  obtain ⟨o2, e_o2, h⟩ := Option.bind_eq_some_iff.mp h
  obtain ⟨p1, e_p1, h⟩ := Option.bind_eq_some_iff.mp h
  refine Sm_callV K (eok_i (eo ek_M_mostBy (i := 1) rfl) rfl) cy_M_thinks im_M_thinks se_M_thinks (lgm 980 (by decide +kernel) rfl) ⟨Nat.le_of_ble_eq_true rfl, Nat.le_of_ble_eq_true rfl⟩ (as := []) (b := t) (st := []) (ob_e e_o2) (by decide) rfl rfl rfl rfl (Nat.le_of_ble_eq_true rfl) ⟨Nat.le_of_ble_eq_true rfl, Nat.le_of_ble_eq_true rfl⟩ (cn_M_thinks e_p1) ?_
  refine Sm_eq (st1 := []) (nc1 := 0) (ns1 := 0) rfl rfl rfl ?_
  refine Sm_run K ek_M_mostBy 2 6 rfl ?_
  exact Sm_le (leR_s (leR_s (leR_s (leR_s (leR_s (leR_s (leR_s (leR_s (leR_n leR_nil))))))))) (s_M_mostBy_13 K hQ FU _ _ _ _ _ _ _ _ _ h)
def F_M_mostBy (t : Nat) (x1 : Int32) (x2 : Int32) (x3 : Int32) (x4 : Int32) (w : A_W) : Option (Int32 × A_W) := F_M_mostBy_0 t x1 x2 x3 x4 w
theorem cn_M_mostBy {G : Gx} {t : Nat} {x1 : Int32} {x2 : Int32} {x3 : Int32} {x4 : Int32} {w : A_W} {res : Int32 × A_W} (h : F_M_mostBy t x1 x2 x3 x4 w = some res) : Cn G y_M_mostBy c_M_mostBy 9 (some .int) rm_M_mostBy [.ref t, .int x1, .int x2, .int x3, .int x4] w (some (.int res.1)) res.2 :=
  Cn_of (own := 4) cy_M_mostBy rfl rfl (Nat.le_of_ble_eq_true rfl) rfl (fun X K _ hQ => Sm_le (leR_s (leR_s (leR_s (leR_s (leR_s (leR_n (leR_n (leR_n (leR_n leR_nil))))))))) (s_M_mostBy_0 K hQ _ _ _ _ _ _ h))
/-! EveningCloakModel.hangFor(II)I -/
abbrev c_M_hangFor : ByteArray := prog_6_method_57_code
def y_M_hangFor : MethodName := ⟨"EveningCloakModel", "hangFor", "(II)I"⟩
def rm_M_hangFor : Room := { frames := 8, cells := 0, slots := 0, locals := 187 }
theorem cy_M_hangFor : Cy y_M_hangFor c_M_hangFor 3 (some .int) 2 := ⟨lgm 1018 (by decide +kernel) rfl, lgm 73 (by decide +kernel) rfl, by decide +kernel, by decide +kernel⟩
theorem im_M_hangFor : Cond.instanceMethod y_M_hangFor ∈ lg := lgm 1016 (by decide +kernel) rfl
theorem se_M_hangFor : Cond.selects y_M_hangFor.cls y_M_hangFor y_M_hangFor ∈ lg := lgm 1017 (by decide +kernel) rfl
def e_M_hangFor : List Ent := [
  (0, .aload_n 0, 1, 1, .null, 0, 0, 0),
  (1, .iload_n 1, 1, 2, .null, 0, 0, 0),
  (2, .invokevirtual 88, 3, 5, .null, 0, 0, 0),
  (5, .ifCond .eq 33, 3, 38, .null, 0, 0, 0),
  (8, .iload_n 2, 1, 9, .null, 0, 0, 0),
  (9, .iconst 0, 1, 10, .int 0, 0, 0, 0),
  (10, .bipush 40, 2, 12, .int 40, 0, 0, 0),
  (12, .invokestatic 40, 3, 15, .null, 0, 0, 0),
  (15, .ifCond .eq 23, 3, 38, .null, 0, 0, 0),
  (18, .aload_n 0, 1, 19, .null, 0, 0, 0),
  (19, .bipush 11, 2, 21, .int 11, 0, 0, 0),
  (21, .bipush 6, 2, 23, .int 6, 0, 0, 0),
  (23, .iload_n 1, 1, 24, .null, 0, 0, 0),
  (24, .imul, 1, 25, .null, 0, 0, 0),
  (25, .iadd, 1, 26, .null, 0, 0, 0),
  (26, .iconst 1, 1, 27, .int 1, 0, 0, 0),
  (27, .iadd, 1, 28, .null, 0, 0, 0),
  (28, .iconst 0, 1, 29, .int 0, 0, 0, 0),
  (29, .bipush 16, 2, 31, .int 16, 0, 0, 0),
  (31, .iload_n 2, 1, 32, .null, 0, 0, 0),
  (32, .invokevirtual 154, 3, 35, .null, 0, 0, 0),
  (35, .goto 9, 3, 44, .null, 0, 0, 0),
  (38, .aload_n 0, 1, 39, .null, 0, 0, 0),
  (39, .ldc 34, 2, 41, .int (-1000001), 0, 0, 825),
  (41, .invokevirtual 36, 3, 44, .null, 0, 0, 0),
  (44, .ireturn, 1, 45, .null, 0, 0, 0)]
set_option maxRecDepth 100000 in
theorem ek_M_hangFor : e_M_hangFor.all (eok 4 c_M_hangFor) = true := by decide +kernel
def F_M_hangFor_44 (y0 : Int32) (w : A_W) : Option (Int32 × A_W) :=
  some (y0, w)
def F_M_hangFor_38 (t : Nat) (w : A_W) : Option (Int32 × A_W) :=
  (ob w t 4).bind fun o2 =>
  (F_M_finds t (-1000001) w).bind fun p1 =>
  F_M_hangFor_44 p1.1 p1.2
def F_M_hangFor_0 (t : Nat) (x1 : Int32) (x2 : Int32) (w : A_W) : Option (Int32 × A_W) :=
  (ob w t 4).bind fun o2 =>
  (F_M_isDeposit t x1 w).bind fun p1 =>
  if p1.1 = 0 then
    F_M_hangFor_38 t p1.2
  else
    (F_M_in x2 0 40 p1.2).bind fun p4 =>
    if p4.1 = 0 then
      F_M_hangFor_38 t p4.2
    else
      (ob p4.2 t 4).bind fun o7 =>
      (F_M_mostBy t ((11 + (6 * x1)) + 1) 0 16 x2 p4.2).bind fun p6 =>
      F_M_hangFor_44 p6.1 p6.2
set_option maxHeartbeats 4000000 in
set_option maxRecDepth 100000 in
theorem s_M_hangFor_44 {G : Gx} {X : Cx} {res : Int32 × A_W} (K : Ok G X 4 c_M_hangFor 3 (some .int) rm_M_hangFor) (hQ : QQ G X (some (.int res.1)) res.2 0 0) (y0 : Int32) (w : A_W) (h : F_M_hangFor_44 y0 w = some res) : Sm G X w 0 0 [none, none, none] [.int y0] 44 := by
  unfold F_M_hangFor_44 at h
  cases h
  exact Sm_reti K hQ (eok_i (eo ek_M_hangFor (i := 25) rfl) rfl)
set_option maxHeartbeats 4000000 in
set_option maxRecDepth 100000 in
theorem s_M_hangFor_38 {G : Gx} {X : Cx} {res : Int32 × A_W} (K : Ok G X 4 c_M_hangFor 3 (some .int) rm_M_hangFor) (hQ : QQ G X (some (.int res.1)) res.2 0 0) (t : Nat) (w : A_W) (h : F_M_hangFor_38 t w = some res) : Sm G X w 0 0 [some (.ref t), none, none] [] 38 := by
  unfold F_M_hangFor_38 at h
  refine Sm_run K ek_M_hangFor 22 2 rfl ?_
  obtain ⟨o2, e_o2, h⟩ := Option.bind_eq_some_iff.mp h
  obtain ⟨p1, e_p1, h⟩ := Option.bind_eq_some_iff.mp h
  refine Sm_callV K (eok_i (eo ek_M_hangFor (i := 24) rfl) rfl) cy_M_finds im_M_finds se_M_finds (lgm 826 (by decide +kernel) rfl) ⟨Nat.le_of_ble_eq_true rfl, Nat.le_of_ble_eq_true rfl⟩ (as := [.int (-1000001)]) (b := t) (st := []) (ob_e e_o2) (by decide) rfl rfl rfl rfl (Nat.le_of_ble_eq_true rfl) ⟨Nat.le_of_ble_eq_true rfl, Nat.le_of_ble_eq_true rfl⟩ (cn_M_finds e_p1) ?_
  refine Sm_eq (st1 := .int p1.1 :: []) (nc1 := 0) (ns1 := 0) rfl rfl rfl ?_
  exact Sm_le (leR_n (leR_n (leR_n leR_nil))) (s_M_hangFor_44 K hQ _ _ h)
set_option maxHeartbeats 4000000 in
set_option maxRecDepth 100000 in
theorem s_M_hangFor_0 {G : Gx} {X : Cx} {res : Int32 × A_W} (K : Ok G X 4 c_M_hangFor 3 (some .int) rm_M_hangFor) (hQ : QQ G X (some (.int res.1)) res.2 0 0) (t : Nat) (x1 : Int32) (x2 : Int32) (w : A_W) (h : F_M_hangFor_0 t x1 x2 w = some res) : Sm G X w 0 0 [some (.ref t), some (.int x1), some (.int x2)] [] 0 := by
  unfold F_M_hangFor_0 at h
  refine Sm_run K ek_M_hangFor 0 2 rfl ?_
  obtain ⟨o2, e_o2, h⟩ := Option.bind_eq_some_iff.mp h
  obtain ⟨p1, e_p1, h⟩ := Option.bind_eq_some_iff.mp h
  refine Sm_callV K (eok_i (eo ek_M_hangFor (i := 2) rfl) rfl) cy_M_isDeposit im_M_isDeposit se_M_isDeposit (lgm 863 (by decide +kernel) rfl) ⟨Nat.le_of_ble_eq_true rfl, Nat.le_of_ble_eq_true rfl⟩ (as := [.int x1]) (b := t) (st := []) (ob_e e_o2) (by decide) rfl rfl rfl rfl (Nat.le_of_ble_eq_true rfl) ⟨Nat.le_of_ble_eq_true rfl, Nat.le_of_ble_eq_true rfl⟩ (cn_M_isDeposit e_p1) ?_
  refine Sm_eq (st1 := .int p1.1 :: []) (nc1 := 0) (ns1 := 0) rfl rfl rfl ?_
  refine Sm_if_eq K (eo ek_M_hangFor (i := 3) rfl) (fun c3 => ?_) (fun c3 => ?_)
  · rw [if_pos c3] at h
    exact Sm_le (leR_s (leR_n (leR_n leR_nil))) (s_M_hangFor_38 K hQ _ _ h)
  · rw [if_neg c3] at h
    refine Sm_run K ek_M_hangFor 4 3 rfl ?_
    obtain ⟨p4, e_p4, h⟩ := Option.bind_eq_some_iff.mp h
    refine Sm_callS K (eok_i (eo ek_M_hangFor (i := 7) rfl) rfl) cy_M_in st_M_in (lgm 815 (by decide +kernel) rfl) ⟨Nat.le_of_ble_eq_true rfl, Nat.le_of_ble_eq_true rfl⟩ (as := [.int x2, .int 0, .int 40]) (st := []) rfl rfl rfl (Nat.le_of_ble_eq_true rfl) ⟨Nat.le_of_ble_eq_true rfl, Nat.le_of_ble_eq_true rfl⟩ (cn_M_in e_p4) ?_
    refine Sm_eq (st1 := .int p4.1 :: []) (nc1 := 0) (ns1 := 0) rfl rfl rfl ?_
    refine Sm_if_eq K (eo ek_M_hangFor (i := 8) rfl) (fun c5 => ?_) (fun c5 => ?_)
    · rw [if_pos c5] at h
      exact Sm_le (leR_s (leR_n (leR_n leR_nil))) (s_M_hangFor_38 K hQ _ _ h)
    · rw [if_neg c5] at h
      refine Sm_run K ek_M_hangFor 9 11 rfl ?_
      obtain ⟨o7, e_o7, h⟩ := Option.bind_eq_some_iff.mp h
      obtain ⟨p6, e_p6, h⟩ := Option.bind_eq_some_iff.mp h
      refine Sm_callV K (eok_i (eo ek_M_hangFor (i := 20) rfl) rfl) cy_M_mostBy im_M_mostBy se_M_mostBy (lgm 1019 (by decide +kernel) rfl) ⟨Nat.le_of_ble_eq_true rfl, Nat.le_of_ble_eq_true rfl⟩ (as := [.int ((11 + (6 * x1)) + 1), .int 0, .int 16, .int x2]) (b := t) (st := []) (ob_e e_o7) (by decide) rfl rfl rfl rfl (Nat.le_of_ble_eq_true rfl) ⟨Nat.le_of_ble_eq_true rfl, Nat.le_of_ble_eq_true rfl⟩ (cn_M_mostBy e_p6) ?_
      refine Sm_eq (st1 := .int p6.1 :: []) (nc1 := 0) (ns1 := 0) rfl rfl rfl ?_
      refine Sm_run K ek_M_hangFor 21 1 rfl ?_
      exact Sm_le (leR_n (leR_n (leR_n leR_nil))) (s_M_hangFor_44 K hQ _ _ h)
def F_M_hangFor (t : Nat) (x1 : Int32) (x2 : Int32) (w : A_W) : Option (Int32 × A_W) := F_M_hangFor_0 t x1 x2 w
theorem cn_M_hangFor {G : Gx} {t : Nat} {x1 : Int32} {x2 : Int32} {w : A_W} {res : Int32 × A_W} (h : F_M_hangFor t x1 x2 w = some res) : Cn G y_M_hangFor c_M_hangFor 3 (some .int) rm_M_hangFor [.ref t, .int x1, .int x2] w (some (.int res.1)) res.2 :=
  Cn_of (own := 4) cy_M_hangFor rfl rfl (Nat.le_of_ble_eq_true rfl) rfl (fun X K _ hQ => Sm_le (leR_s (leR_s (leR_s leR_nil))) (s_M_hangFor_0 K hQ _ _ _ _ h))
/-! EveningCloakModel.standFor(II)I -/
abbrev c_M_standFor : ByteArray := prog_6_method_58_code
def y_M_standFor : MethodName := ⟨"EveningCloakModel", "standFor", "(II)I"⟩
def rm_M_standFor : Room := { frames := 8, cells := 0, slots := 0, locals := 187 }
theorem cy_M_standFor : Cy y_M_standFor c_M_standFor 3 (some .int) 2 := ⟨lgm 1030 (by decide +kernel) rfl, lgm 73 (by decide +kernel) rfl, by decide +kernel, by decide +kernel⟩
theorem im_M_standFor : Cond.instanceMethod y_M_standFor ∈ lg := lgm 1028 (by decide +kernel) rfl
theorem se_M_standFor : Cond.selects y_M_standFor.cls y_M_standFor y_M_standFor ∈ lg := lgm 1029 (by decide +kernel) rfl
def e_M_standFor : List Ent := [
  (0, .iload_n 1, 1, 1, .null, 0, 0, 0),
  (1, .invokestatic 65, 3, 4, .null, 0, 0, 0),
  (4, .ifCond .eq 40, 3, 44, .null, 0, 0, 0),
  (7, .iload_n 2, 1, 8, .null, 0, 0, 0),
  (8, .iconst 0, 1, 9, .int 0, 0, 0, 0),
  (9, .bipush 40, 2, 11, .int 40, 0, 0, 0),
  (11, .invokestatic 40, 3, 14, .null, 0, 0, 0),
  (14, .ifCond .eq 30, 3, 44, .null, 0, 0, 0),
  (17, .aload_n 0, 1, 18, .null, 0, 0, 0),
  (18, .iconst 5, 1, 19, .int 5, 0, 0, 0),
  (19, .iload_n 1, 1, 20, .null, 0, 0, 0),
  (20, .iadd, 1, 21, .null, 0, 0, 0),
  (21, .aload_n 0, 1, 22, .null, 0, 0, 0),
  (22, .getfield 9, 3, 25, .null, 4, 0, 762),
  (25, .iconst 5, 1, 26, .int 5, 0, 0, 0),
  (26, .iload_n 1, 1, 27, .null, 0, 0, 0),
  (27, .iadd, 1, 28, .null, 0, 0, 0),
  (28, .iaload, 1, 29, .null, 0, 0, 0),
  (29, .bipush 100, 2, 31, .int 100, 0, 0, 0),
  (31, .idiv, 1, 32, .null, 0, 0, 0),
  (32, .bipush 100, 2, 34, .int 100, 0, 0, 0),
  (34, .imul, 1, 35, .null, 0, 0, 0),
  (35, .bipush 16, 2, 37, .int 16, 0, 0, 0),
  (37, .iload_n 2, 1, 38, .null, 0, 0, 0),
  (38, .invokevirtual 154, 3, 41, .null, 0, 0, 0),
  (41, .goto 9, 3, 50, .null, 0, 0, 0),
  (44, .aload_n 0, 1, 45, .null, 0, 0, 0),
  (45, .ldc 34, 2, 47, .int (-1000001), 0, 0, 825),
  (47, .invokevirtual 36, 3, 50, .null, 0, 0, 0),
  (50, .ireturn, 1, 51, .null, 0, 0, 0)]
set_option maxRecDepth 100000 in
theorem ek_M_standFor : e_M_standFor.all (eok 4 c_M_standFor) = true := by decide +kernel
def F_M_standFor_50 (y0 : Int32) (w : A_W) : Option (Int32 × A_W) :=
  some (y0, w)
def F_M_standFor_44 (t : Nat) (w : A_W) : Option (Int32 × A_W) :=
  (ob w t 4).bind fun o2 =>
  (F_M_finds t (-1000001) w).bind fun p1 =>
  F_M_standFor_50 p1.1 p1.2
def F_M_standFor_0 (t : Nat) (x1 : Int32) (x2 : Int32) (w : A_W) : Option (Int32 × A_W) :=
  (F_M_isPlace x1 w).bind fun p1 =>
  if p1.1 = 0 then
    F_M_standFor_44 t p1.2
  else
    (F_M_in x2 0 40 p1.2).bind fun p3 =>
    if p3.1 = 0 then
      F_M_standFor_44 t p3.2
    else
      (gr p3.2 t 4 0).bind fun a5 =>
      (rd p3.2 a5 (5 + x1)).bind fun v6 =>
      (ob p3.2 t 4).bind fun o8 =>
      (F_M_mostBy t (5 + x1) ((v6 / 100) * 100) 16 x2 p3.2).bind fun p7 =>
      F_M_standFor_50 p7.1 p7.2
set_option maxHeartbeats 4000000 in
set_option maxRecDepth 100000 in
theorem s_M_standFor_50 {G : Gx} {X : Cx} {res : Int32 × A_W} (K : Ok G X 4 c_M_standFor 3 (some .int) rm_M_standFor) (hQ : QQ G X (some (.int res.1)) res.2 0 0) (y0 : Int32) (w : A_W) (h : F_M_standFor_50 y0 w = some res) : Sm G X w 0 0 [none, none, none] [.int y0] 50 := by
  unfold F_M_standFor_50 at h
  cases h
  exact Sm_reti K hQ (eok_i (eo ek_M_standFor (i := 29) rfl) rfl)
set_option maxHeartbeats 4000000 in
set_option maxRecDepth 100000 in
theorem s_M_standFor_44 {G : Gx} {X : Cx} {res : Int32 × A_W} (K : Ok G X 4 c_M_standFor 3 (some .int) rm_M_standFor) (hQ : QQ G X (some (.int res.1)) res.2 0 0) (t : Nat) (w : A_W) (h : F_M_standFor_44 t w = some res) : Sm G X w 0 0 [some (.ref t), none, none] [] 44 := by
  unfold F_M_standFor_44 at h
  refine Sm_run K ek_M_standFor 26 2 rfl ?_
  obtain ⟨o2, e_o2, h⟩ := Option.bind_eq_some_iff.mp h
  obtain ⟨p1, e_p1, h⟩ := Option.bind_eq_some_iff.mp h
  refine Sm_callV K (eok_i (eo ek_M_standFor (i := 28) rfl) rfl) cy_M_finds im_M_finds se_M_finds (lgm 826 (by decide +kernel) rfl) ⟨Nat.le_of_ble_eq_true rfl, Nat.le_of_ble_eq_true rfl⟩ (as := [.int (-1000001)]) (b := t) (st := []) (ob_e e_o2) (by decide) rfl rfl rfl rfl (Nat.le_of_ble_eq_true rfl) ⟨Nat.le_of_ble_eq_true rfl, Nat.le_of_ble_eq_true rfl⟩ (cn_M_finds e_p1) ?_
  refine Sm_eq (st1 := .int p1.1 :: []) (nc1 := 0) (ns1 := 0) rfl rfl rfl ?_
  exact Sm_le (leR_n (leR_n (leR_n leR_nil))) (s_M_standFor_50 K hQ _ _ h)
set_option maxHeartbeats 4000000 in
set_option maxRecDepth 100000 in
theorem s_M_standFor_0 {G : Gx} {X : Cx} {res : Int32 × A_W} (K : Ok G X 4 c_M_standFor 3 (some .int) rm_M_standFor) (hQ : QQ G X (some (.int res.1)) res.2 0 0) (t : Nat) (x1 : Int32) (x2 : Int32) (w : A_W) (h : F_M_standFor_0 t x1 x2 w = some res) : Sm G X w 0 0 [some (.ref t), some (.int x1), some (.int x2)] [] 0 := by
  unfold F_M_standFor_0 at h
  refine Sm_run K ek_M_standFor 0 1 rfl ?_
  obtain ⟨p1, e_p1, h⟩ := Option.bind_eq_some_iff.mp h
  refine Sm_callS K (eok_i (eo ek_M_standFor (i := 1) rfl) rfl) cy_M_isPlace st_M_isPlace (lgm 812 (by decide +kernel) rfl) ⟨Nat.le_of_ble_eq_true rfl, Nat.le_of_ble_eq_true rfl⟩ (as := [.int x1]) (st := []) rfl rfl rfl (Nat.le_of_ble_eq_true rfl) ⟨Nat.le_of_ble_eq_true rfl, Nat.le_of_ble_eq_true rfl⟩ (cn_M_isPlace e_p1) ?_
  refine Sm_eq (st1 := .int p1.1 :: []) (nc1 := 0) (ns1 := 0) rfl rfl rfl ?_
  refine Sm_if_eq K (eo ek_M_standFor (i := 2) rfl) (fun c2 => ?_) (fun c2 => ?_)
  · rw [if_pos c2] at h
    exact Sm_le (leR_s (leR_n (leR_n leR_nil))) (s_M_standFor_44 K hQ _ _ h)
  · rw [if_neg c2] at h
    refine Sm_run K ek_M_standFor 3 3 rfl ?_
    obtain ⟨p3, e_p3, h⟩ := Option.bind_eq_some_iff.mp h
    refine Sm_callS K (eok_i (eo ek_M_standFor (i := 6) rfl) rfl) cy_M_in st_M_in (lgm 815 (by decide +kernel) rfl) ⟨Nat.le_of_ble_eq_true rfl, Nat.le_of_ble_eq_true rfl⟩ (as := [.int x2, .int 0, .int 40]) (st := []) rfl rfl rfl (Nat.le_of_ble_eq_true rfl) ⟨Nat.le_of_ble_eq_true rfl, Nat.le_of_ble_eq_true rfl⟩ (cn_M_in e_p3) ?_
    refine Sm_eq (st1 := .int p3.1 :: []) (nc1 := 0) (ns1 := 0) rfl rfl rfl ?_
    refine Sm_if_eq K (eo ek_M_standFor (i := 7) rfl) (fun c4 => ?_) (fun c4 => ?_)
    · rw [if_pos c4] at h
      exact Sm_le (leR_s (leR_n (leR_n leR_nil))) (s_M_standFor_44 K hQ _ _ h)
    · rw [if_neg c4] at h
      refine Sm_run K ek_M_standFor 8 5 rfl ?_
      obtain ⟨a5, e_a5, h⟩ := Option.bind_eq_some_iff.mp h
      refine Sm_gr K (eo ek_M_standFor (i := 13) rfl) e_a5 ?_
      refine Sm_run K ek_M_standFor 14 3 rfl ?_
      obtain ⟨v6, e_v6, h⟩ := Option.bind_eq_some_iff.mp h
      refine Sm_rd K (eok_i (eo ek_M_standFor (i := 17) rfl) rfl) e_v6 ?_
      refine Sm_run K ek_M_standFor 18 1 rfl ?_
      refine Sm_idiv K (eok_i (eo ek_M_standFor (i := 19) rfl) rfl) (by decide) ?_
      refine Sm_run K ek_M_standFor 20 4 rfl ?_
      obtain ⟨o8, e_o8, h⟩ := Option.bind_eq_some_iff.mp h
      obtain ⟨p7, e_p7, h⟩ := Option.bind_eq_some_iff.mp h
      refine Sm_callV K (eok_i (eo ek_M_standFor (i := 24) rfl) rfl) cy_M_mostBy im_M_mostBy se_M_mostBy (lgm 1019 (by decide +kernel) rfl) ⟨Nat.le_of_ble_eq_true rfl, Nat.le_of_ble_eq_true rfl⟩ (as := [.int (5 + x1), .int ((v6 / 100) * 100), .int 16, .int x2]) (b := t) (st := []) (ob_e e_o8) (by decide) rfl rfl rfl rfl (Nat.le_of_ble_eq_true rfl) ⟨Nat.le_of_ble_eq_true rfl, Nat.le_of_ble_eq_true rfl⟩ (cn_M_mostBy e_p7) ?_
      refine Sm_eq (st1 := .int p7.1 :: []) (nc1 := 0) (ns1 := 0) rfl rfl rfl ?_
      refine Sm_run K ek_M_standFor 25 1 rfl ?_
      exact Sm_le (leR_n (leR_n (leR_n leR_nil))) (s_M_standFor_50 K hQ _ _ h)
def F_M_standFor (t : Nat) (x1 : Int32) (x2 : Int32) (w : A_W) : Option (Int32 × A_W) := F_M_standFor_0 t x1 x2 w
theorem cn_M_standFor {G : Gx} {t : Nat} {x1 : Int32} {x2 : Int32} {w : A_W} {res : Int32 × A_W} (h : F_M_standFor t x1 x2 w = some res) : Cn G y_M_standFor c_M_standFor 3 (some .int) rm_M_standFor [.ref t, .int x1, .int x2] w (some (.int res.1)) res.2 :=
  Cn_of (own := 4) cy_M_standFor rfl rfl (Nat.le_of_ble_eq_true rfl) rfl (fun X K _ hQ => Sm_le (leR_s (leR_s (leR_s leR_nil))) (s_M_standFor_0 K hQ _ _ _ _ h))
/-! EveningCloakModel.kindFor(II)I -/
abbrev c_M_kindFor : ByteArray := prog_6_method_59_code
def y_M_kindFor : MethodName := ⟨"EveningCloakModel", "kindFor", "(II)I"⟩
def rm_M_kindFor : Room := { frames := 8, cells := 0, slots := 0, locals := 187 }
theorem cy_M_kindFor : Cy y_M_kindFor c_M_kindFor 3 (some .int) 2 := ⟨lgm 1034 (by decide +kernel) rfl, lgm 73 (by decide +kernel) rfl, by decide +kernel, by decide +kernel⟩
theorem im_M_kindFor : Cond.instanceMethod y_M_kindFor ∈ lg := lgm 1032 (by decide +kernel) rfl
theorem se_M_kindFor : Cond.selects y_M_kindFor.cls y_M_kindFor y_M_kindFor ∈ lg := lgm 1033 (by decide +kernel) rfl
def e_M_kindFor : List Ent := [
  (0, .aload_n 0, 1, 1, .null, 0, 0, 0),
  (1, .iload_n 1, 1, 2, .null, 0, 0, 0),
  (2, .invokevirtual 88, 3, 5, .null, 0, 0, 0),
  (5, .ifCond .eq 31, 3, 36, .null, 0, 0, 0),
  (8, .iload_n 2, 1, 9, .null, 0, 0, 0),
  (9, .iconst 0, 1, 10, .int 0, 0, 0, 0),
  (10, .bipush 40, 2, 12, .int 40, 0, 0, 0),
  (12, .invokestatic 40, 3, 15, .null, 0, 0, 0),
  (15, .ifCond .eq 21, 3, 36, .null, 0, 0, 0),
  (18, .aload_n 0, 1, 19, .null, 0, 0, 0),
  (19, .bipush 11, 2, 21, .int 11, 0, 0, 0),
  (21, .bipush 6, 2, 23, .int 6, 0, 0, 0),
  (23, .iload_n 1, 1, 24, .null, 0, 0, 0),
  (24, .imul, 1, 25, .null, 0, 0, 0),
  (25, .iadd, 1, 26, .null, 0, 0, 0),
  (26, .iconst 0, 1, 27, .int 0, 0, 0, 0),
  (27, .bipush 7, 2, 29, .int 7, 0, 0, 0),
  (29, .iload_n 2, 1, 30, .null, 0, 0, 0),
  (30, .invokevirtual 154, 3, 33, .null, 0, 0, 0),
  (33, .goto 9, 3, 42, .null, 0, 0, 0),
  (36, .aload_n 0, 1, 37, .null, 0, 0, 0),
  (37, .ldc 34, 2, 39, .int (-1000001), 0, 0, 825),
  (39, .invokevirtual 36, 3, 42, .null, 0, 0, 0),
  (42, .ireturn, 1, 43, .null, 0, 0, 0)]
set_option maxRecDepth 100000 in
theorem ek_M_kindFor : e_M_kindFor.all (eok 4 c_M_kindFor) = true := by decide +kernel
def F_M_kindFor_42 (y0 : Int32) (w : A_W) : Option (Int32 × A_W) :=
  some (y0, w)
def F_M_kindFor_36 (t : Nat) (w : A_W) : Option (Int32 × A_W) :=
  (ob w t 4).bind fun o2 =>
  (F_M_finds t (-1000001) w).bind fun p1 =>
  F_M_kindFor_42 p1.1 p1.2
def F_M_kindFor_0 (t : Nat) (x1 : Int32) (x2 : Int32) (w : A_W) : Option (Int32 × A_W) :=
  (ob w t 4).bind fun o2 =>
  (F_M_isDeposit t x1 w).bind fun p1 =>
  if p1.1 = 0 then
    F_M_kindFor_36 t p1.2
  else
    (F_M_in x2 0 40 p1.2).bind fun p4 =>
    if p4.1 = 0 then
      F_M_kindFor_36 t p4.2
    else
      (ob p4.2 t 4).bind fun o7 =>
      (F_M_mostBy t (11 + (6 * x1)) 0 7 x2 p4.2).bind fun p6 =>
      F_M_kindFor_42 p6.1 p6.2
set_option maxHeartbeats 4000000 in
set_option maxRecDepth 100000 in
theorem s_M_kindFor_42 {G : Gx} {X : Cx} {res : Int32 × A_W} (K : Ok G X 4 c_M_kindFor 3 (some .int) rm_M_kindFor) (hQ : QQ G X (some (.int res.1)) res.2 0 0) (y0 : Int32) (w : A_W) (h : F_M_kindFor_42 y0 w = some res) : Sm G X w 0 0 [none, none, none] [.int y0] 42 := by
  unfold F_M_kindFor_42 at h
  cases h
  exact Sm_reti K hQ (eok_i (eo ek_M_kindFor (i := 23) rfl) rfl)
set_option maxHeartbeats 4000000 in
set_option maxRecDepth 100000 in
theorem s_M_kindFor_36 {G : Gx} {X : Cx} {res : Int32 × A_W} (K : Ok G X 4 c_M_kindFor 3 (some .int) rm_M_kindFor) (hQ : QQ G X (some (.int res.1)) res.2 0 0) (t : Nat) (w : A_W) (h : F_M_kindFor_36 t w = some res) : Sm G X w 0 0 [some (.ref t), none, none] [] 36 := by
  unfold F_M_kindFor_36 at h
  refine Sm_run K ek_M_kindFor 20 2 rfl ?_
  obtain ⟨o2, e_o2, h⟩ := Option.bind_eq_some_iff.mp h
  obtain ⟨p1, e_p1, h⟩ := Option.bind_eq_some_iff.mp h
  refine Sm_callV K (eok_i (eo ek_M_kindFor (i := 22) rfl) rfl) cy_M_finds im_M_finds se_M_finds (lgm 826 (by decide +kernel) rfl) ⟨Nat.le_of_ble_eq_true rfl, Nat.le_of_ble_eq_true rfl⟩ (as := [.int (-1000001)]) (b := t) (st := []) (ob_e e_o2) (by decide) rfl rfl rfl rfl (Nat.le_of_ble_eq_true rfl) ⟨Nat.le_of_ble_eq_true rfl, Nat.le_of_ble_eq_true rfl⟩ (cn_M_finds e_p1) ?_
  refine Sm_eq (st1 := .int p1.1 :: []) (nc1 := 0) (ns1 := 0) rfl rfl rfl ?_
  exact Sm_le (leR_n (leR_n (leR_n leR_nil))) (s_M_kindFor_42 K hQ _ _ h)
set_option maxHeartbeats 4000000 in
set_option maxRecDepth 100000 in
theorem s_M_kindFor_0 {G : Gx} {X : Cx} {res : Int32 × A_W} (K : Ok G X 4 c_M_kindFor 3 (some .int) rm_M_kindFor) (hQ : QQ G X (some (.int res.1)) res.2 0 0) (t : Nat) (x1 : Int32) (x2 : Int32) (w : A_W) (h : F_M_kindFor_0 t x1 x2 w = some res) : Sm G X w 0 0 [some (.ref t), some (.int x1), some (.int x2)] [] 0 := by
  unfold F_M_kindFor_0 at h
  refine Sm_run K ek_M_kindFor 0 2 rfl ?_
  obtain ⟨o2, e_o2, h⟩ := Option.bind_eq_some_iff.mp h
  obtain ⟨p1, e_p1, h⟩ := Option.bind_eq_some_iff.mp h
  refine Sm_callV K (eok_i (eo ek_M_kindFor (i := 2) rfl) rfl) cy_M_isDeposit im_M_isDeposit se_M_isDeposit (lgm 863 (by decide +kernel) rfl) ⟨Nat.le_of_ble_eq_true rfl, Nat.le_of_ble_eq_true rfl⟩ (as := [.int x1]) (b := t) (st := []) (ob_e e_o2) (by decide) rfl rfl rfl rfl (Nat.le_of_ble_eq_true rfl) ⟨Nat.le_of_ble_eq_true rfl, Nat.le_of_ble_eq_true rfl⟩ (cn_M_isDeposit e_p1) ?_
  refine Sm_eq (st1 := .int p1.1 :: []) (nc1 := 0) (ns1 := 0) rfl rfl rfl ?_
  refine Sm_if_eq K (eo ek_M_kindFor (i := 3) rfl) (fun c3 => ?_) (fun c3 => ?_)
  · rw [if_pos c3] at h
    exact Sm_le (leR_s (leR_n (leR_n leR_nil))) (s_M_kindFor_36 K hQ _ _ h)
  · rw [if_neg c3] at h
    refine Sm_run K ek_M_kindFor 4 3 rfl ?_
    obtain ⟨p4, e_p4, h⟩ := Option.bind_eq_some_iff.mp h
    refine Sm_callS K (eok_i (eo ek_M_kindFor (i := 7) rfl) rfl) cy_M_in st_M_in (lgm 815 (by decide +kernel) rfl) ⟨Nat.le_of_ble_eq_true rfl, Nat.le_of_ble_eq_true rfl⟩ (as := [.int x2, .int 0, .int 40]) (st := []) rfl rfl rfl (Nat.le_of_ble_eq_true rfl) ⟨Nat.le_of_ble_eq_true rfl, Nat.le_of_ble_eq_true rfl⟩ (cn_M_in e_p4) ?_
    refine Sm_eq (st1 := .int p4.1 :: []) (nc1 := 0) (ns1 := 0) rfl rfl rfl ?_
    refine Sm_if_eq K (eo ek_M_kindFor (i := 8) rfl) (fun c5 => ?_) (fun c5 => ?_)
    · rw [if_pos c5] at h
      exact Sm_le (leR_s (leR_n (leR_n leR_nil))) (s_M_kindFor_36 K hQ _ _ h)
    · rw [if_neg c5] at h
      refine Sm_run K ek_M_kindFor 9 9 rfl ?_
      obtain ⟨o7, e_o7, h⟩ := Option.bind_eq_some_iff.mp h
      obtain ⟨p6, e_p6, h⟩ := Option.bind_eq_some_iff.mp h
      refine Sm_callV K (eok_i (eo ek_M_kindFor (i := 18) rfl) rfl) cy_M_mostBy im_M_mostBy se_M_mostBy (lgm 1019 (by decide +kernel) rfl) ⟨Nat.le_of_ble_eq_true rfl, Nat.le_of_ble_eq_true rfl⟩ (as := [.int (11 + (6 * x1)), .int 0, .int 7, .int x2]) (b := t) (st := []) (ob_e e_o7) (by decide) rfl rfl rfl rfl (Nat.le_of_ble_eq_true rfl) ⟨Nat.le_of_ble_eq_true rfl, Nat.le_of_ble_eq_true rfl⟩ (cn_M_mostBy e_p6) ?_
      refine Sm_eq (st1 := .int p6.1 :: []) (nc1 := 0) (ns1 := 0) rfl rfl rfl ?_
      refine Sm_run K ek_M_kindFor 19 1 rfl ?_
      exact Sm_le (leR_n (leR_n (leR_n leR_nil))) (s_M_kindFor_42 K hQ _ _ h)
def F_M_kindFor (t : Nat) (x1 : Int32) (x2 : Int32) (w : A_W) : Option (Int32 × A_W) := F_M_kindFor_0 t x1 x2 w
theorem cn_M_kindFor {G : Gx} {t : Nat} {x1 : Int32} {x2 : Int32} {w : A_W} {res : Int32 × A_W} (h : F_M_kindFor t x1 x2 w = some res) : Cn G y_M_kindFor c_M_kindFor 3 (some .int) rm_M_kindFor [.ref t, .int x1, .int x2] w (some (.int res.1)) res.2 :=
  Cn_of (own := 4) cy_M_kindFor rfl rfl (Nat.le_of_ble_eq_true rfl) rfl (fun X K _ hQ => Sm_le (leR_s (leR_s (leR_s leR_nil))) (s_M_kindFor_0 K hQ _ _ _ _ h))
/-! EveningCloakModel.hopeFor(II)I -/
abbrev c_M_hopeFor : ByteArray := prog_6_method_60_code
def y_M_hopeFor : MethodName := ⟨"EveningCloakModel", "hopeFor", "(II)I"⟩
def rm_M_hopeFor : Room := { frames := 6, cells := 0, slots := 0, locals := 137 }
theorem cy_M_hopeFor : Cy y_M_hopeFor c_M_hopeFor 6 (some .int) 2 := ⟨lgm 1038 (by decide +kernel) rfl, lgm 73 (by decide +kernel) rfl, by decide +kernel, by decide +kernel⟩
theorem im_M_hopeFor : Cond.instanceMethod y_M_hopeFor ∈ lg := lgm 1036 (by decide +kernel) rfl
theorem se_M_hopeFor : Cond.selects y_M_hopeFor.cls y_M_hopeFor y_M_hopeFor ∈ lg := lgm 1037 (by decide +kernel) rfl
def e_M_hopeFor : List Ent := [
  (0, .aload_n 0, 1, 1, .null, 0, 0, 0),
  (1, .iload_n 1, 1, 2, .null, 0, 0, 0),
  (2, .invokevirtual 100, 3, 5, .null, 0, 0, 0),
  (5, .ifCond .eq 13, 3, 18, .null, 0, 0, 0),
  (8, .iload_n 2, 1, 9, .null, 0, 0, 0),
  (9, .iconst 0, 1, 10, .int 0, 0, 0, 0),
  (10, .bipush 40, 2, 12, .int 40, 0, 0, 0),
  (12, .invokestatic 40, 3, 15, .null, 0, 0, 0),
  (15, .ifCond .ne 10, 3, 25, .null, 0, 0, 0),
  (18, .aload_n 0, 1, 19, .null, 0, 0, 0),
  (19, .ldc 34, 2, 21, .int (-1000001), 0, 0, 825),
  (21, .invokevirtual 36, 3, 24, .null, 0, 0, 0),
  (24, .ireturn, 1, 25, .null, 0, 0, 0),
  (25, .aload_n 0, 1, 26, .null, 0, 0, 0),
  (26, .invokevirtual 142, 3, 29, .null, 0, 0, 0),
  (29, .aload_n 0, 1, 30, .null, 0, 0, 0),
  (30, .iload_n 1, 1, 31, .null, 0, 0, 0),
  (31, .iconst 2, 1, 32, .int 2, 0, 0, 0),
  (32, .invokevirtual 103, 3, 35, .null, 0, 0, 0),
  (35, .istore_n 3, 1, 36, .null, 0, 0, 0),
  (36, .iconst (-1), 1, 37, .int (-1), 0, 0, 0),
  (37, .istore 4, 2, 39, .null, 0, 0, 0),
  (39, .bipush 99, 2, 41, .int 99, 0, 0, 0),
  (41, .istore 5, 2, 43, .null, 0, 0, 0),
  (43, .iload 5, 2, 45, .null, 0, 0, 0),
  (45, .ifCond .le 49, 3, 94, .null, 0, 0, 0),
  (48, .iload 4, 2, 50, .null, 0, 0, 0),
  (50, .ifCond .ge 44, 3, 94, .null, 0, 0, 0),
  (53, .aload_n 0, 1, 54, .null, 0, 0, 0),
  (54, .iload_n 1, 1, 55, .null, 0, 0, 0),
  (55, .iconst 1, 1, 56, .int 1, 0, 0, 0),
  (56, .iload 5, 2, 58, .null, 0, 0, 0),
  (58, .invokevirtual 82, 3, 61, .null, 0, 0, 0),
  (61, .aload_n 0, 1, 62, .null, 0, 0, 0),
  (62, .iload_n 2, 1, 63, .null, 0, 0, 0),
  (63, .invokevirtual 122, 3, 66, .null, 0, 0, 0),
  (66, .aload_n 0, 1, 67, .null, 0, 0, 0),
  (67, .iload_n 1, 1, 68, .null, 0, 0, 0),
  (68, .iconst 2, 1, 69, .int 2, 0, 0, 0),
  (69, .invokevirtual 103, 3, 72, .null, 0, 0, 0),
  (72, .iload_n 3, 1, 73, .null, 0, 0, 0),
  (73, .if_icmp .le 8, 3, 81, .null, 0, 0, 0),
  (76, .iload 5, 2, 78, .null, 0, 0, 0),
  (78, .goto 4, 3, 82, .null, 0, 0, 0),
  (81, .iconst (-1), 1, 82, .int (-1), 0, 0, 0),
  (82, .istore 4, 2, 84, .null, 0, 0, 0),
  (84, .aload_n 0, 1, 85, .null, 0, 0, 0),
  (85, .invokevirtual 145, 3, 88, .null, 0, 0, 0),
  (88, .iinc 5 (-1), 3, 91, .int (-1), 0, 0, 0),
  (91, .goto (-48), 3, 43, .null, 0, 0, 0),
  (94, .aload_n 0, 1, 95, .null, 0, 0, 0),
  (95, .iload 4, 2, 97, .null, 0, 0, 0),
  (97, .invokevirtual 106, 3, 100, .null, 0, 0, 0),
  (100, .ireturn, 1, 101, .null, 0, 0, 0)]
set_option maxRecDepth 100000 in
theorem ek_M_hopeFor : e_M_hopeFor.all (eok 4 c_M_hopeFor) = true := by decide +kernel
def F_M_hopeFor_18 (t : Nat) (w : A_W) : Option (Int32 × A_W) :=
  (ob w t 4).bind fun o2 =>
  (F_M_finds t (-1000001) w).bind fun p1 =>
  some (p1.1, p1.2)
def F_M_hopeFor_82 (k43 : Nat → Int32 → Int32 → Int32 → Int32 → Int32 → A_W → Option (Int32 × A_W)) (t : Nat) (x1 : Int32) (x2 : Int32) (x3 : Int32) (x5 : Int32) (y0 : Int32) (w : A_W) : Option (Int32 × A_W) :=
  (ob w t 4).bind fun o2 =>
  (F_M_putsBack t w).bind fun p1 =>
  k43 t x1 x2 x3 y0 (x5 + (-1)) p1
def F_M_hopeFor_94 (t : Nat) (x4 : Int32) (w : A_W) : Option (Int32 × A_W) :=
  (ob w t 4).bind fun o2 =>
  (F_M_orNone t x4 w).bind fun p1 =>
  some (p1.1, p1.2)
def F_M_hopeFor_43 : Nat → Nat → Int32 → Int32 → Int32 → Int32 → Int32 → A_W → Option (Int32 × A_W)
  | 0, _, _, _, _, _, _, _ => none
  | n + 1, t, x1, x2, x3, x4, x5, w =>
    if x5 ≤ 0 then
      F_M_hopeFor_94 t x4 w
    else
      if 0 ≤ x4 then
        F_M_hopeFor_94 t x4 w
      else
        (ob w t 4).bind fun o4 =>
        (F_M_lets t x1 1 x5 w).bind fun p3 =>
        (ob p3 t 4).bind fun o6 =>
        (F_M_goesFor t x2 p3).bind fun p5 =>
        (ob p5 t 4).bind fun o8 =>
        (F_M_her t x1 2 p5).bind fun p7 =>
        if p7.1 ≤ x3 then
          F_M_hopeFor_82 (F_M_hopeFor_43 n) t x1 x2 x3 x5 (-1) p7.2
        else
          F_M_hopeFor_82 (F_M_hopeFor_43 n) t x1 x2 x3 x5 x5 p7.2
def F_M_hopeFor_0 (t : Nat) (x1 : Int32) (x2 : Int32) (w : A_W) : Option (Int32 × A_W) :=
  (ob w t 4).bind fun o2 =>
  (F_M_isGirl t x1 w).bind fun p1 =>
  if p1.1 = 0 then
    F_M_hopeFor_18 t p1.2
  else
    (F_M_in x2 0 40 p1.2).bind fun p4 =>
    if p4.1 = 0 then
      F_M_hopeFor_18 t p4.2
    else
      (ob p4.2 t 4).bind fun o7 =>
      (F_M_thinks t p4.2).bind fun p6 =>
      (ob p6 t 4).bind fun o9 =>
      (F_M_her t x1 2 p6).bind fun p8 =>
      F_M_hopeFor_43 FU t x1 x2 p8.1 (-1) 99 p8.2
set_option maxHeartbeats 4000000 in
set_option maxRecDepth 100000 in
theorem s_M_hopeFor_18 {G : Gx} {X : Cx} {res : Int32 × A_W} (K : Ok G X 4 c_M_hopeFor 6 (some .int) rm_M_hopeFor) (hQ : QQ G X (some (.int res.1)) res.2 0 0) (t : Nat) (w : A_W) (h : F_M_hopeFor_18 t w = some res) : Sm G X w 0 0 [some (.ref t), none, none, none, none, none] [] 18 := by
  unfold F_M_hopeFor_18 at h
  refine Sm_run K ek_M_hopeFor 9 2 rfl ?_
  obtain ⟨o2, e_o2, h⟩ := Option.bind_eq_some_iff.mp h
  obtain ⟨p1, e_p1, h⟩ := Option.bind_eq_some_iff.mp h
  refine Sm_callV K (eok_i (eo ek_M_hopeFor (i := 11) rfl) rfl) cy_M_finds im_M_finds se_M_finds (lgm 826 (by decide +kernel) rfl) ⟨Nat.le_of_ble_eq_true rfl, Nat.le_of_ble_eq_true rfl⟩ (as := [.int (-1000001)]) (b := t) (st := []) (ob_e e_o2) (by decide) rfl rfl rfl rfl (Nat.le_of_ble_eq_true rfl) ⟨Nat.le_of_ble_eq_true rfl, Nat.le_of_ble_eq_true rfl⟩ (cn_M_finds e_p1) ?_
  refine Sm_eq (st1 := .int p1.1 :: []) (nc1 := 0) (ns1 := 0) rfl rfl rfl ?_
  cases h
  exact Sm_reti K hQ (eok_i (eo ek_M_hopeFor (i := 12) rfl) rfl)
set_option maxHeartbeats 4000000 in
set_option maxRecDepth 100000 in
theorem s_M_hopeFor_82 {G : Gx} {X : Cx} {res : Int32 × A_W} (K : Ok G X 4 c_M_hopeFor 6 (some .int) rm_M_hopeFor) (hQ : QQ G X (some (.int res.1)) res.2 0 0) {k43 : Nat → Int32 → Int32 → Int32 → Int32 → Int32 → A_W → Option (Int32 × A_W)} (hk43 : ∀ (t : Nat) (x1 : Int32) (x2 : Int32) (x3 : Int32) (x4 : Int32) (x5 : Int32) (w : A_W), k43 t x1 x2 x3 x4 x5 w = some res → Sm G X w 0 0 [some (.ref t), some (.int x1), some (.int x2), some (.int x3), some (.int x4), some (.int x5)] [] 43) (t : Nat) (x1 : Int32) (x2 : Int32) (x3 : Int32) (x5 : Int32) (y0 : Int32) (w : A_W) (h : F_M_hopeFor_82 k43 t x1 x2 x3 x5 y0 w = some res) : Sm G X w 0 0 [some (.ref t), some (.int x1), some (.int x2), some (.int x3), none, some (.int x5)] [.int y0] 82 := by
  unfold F_M_hopeFor_82 at h
  refine Sm_run K ek_M_hopeFor 45 2 rfl ?_
  obtain ⟨o2, e_o2, h⟩ := Option.bind_eq_some_iff.mp h
  obtain ⟨p1, e_p1, h⟩ := Option.bind_eq_some_iff.mp h
  refine Sm_callV K (eok_i (eo ek_M_hopeFor (i := 47) rfl) rfl) cy_M_putsBack im_M_putsBack se_M_putsBack (lgm 987 (by decide +kernel) rfl) ⟨Nat.le_of_ble_eq_true rfl, Nat.le_of_ble_eq_true rfl⟩ (as := []) (b := t) (st := []) (ob_e e_o2) (by decide) rfl rfl rfl rfl (Nat.le_of_ble_eq_true rfl) ⟨Nat.le_of_ble_eq_true rfl, Nat.le_of_ble_eq_true rfl⟩ (cn_M_putsBack e_p1) ?_
  refine Sm_eq (st1 := []) (nc1 := 0) (ns1 := 0) rfl rfl rfl ?_
  refine Sm_run K ek_M_hopeFor 48 2 rfl ?_
  exact Sm_le (leR_s (leR_s (leR_s (leR_s (leR_s (leR_s leR_nil)))))) (hk43 _ _ _ _ _ _ _ h)
set_option maxHeartbeats 4000000 in
set_option maxRecDepth 100000 in
theorem s_M_hopeFor_94 {G : Gx} {X : Cx} {res : Int32 × A_W} (K : Ok G X 4 c_M_hopeFor 6 (some .int) rm_M_hopeFor) (hQ : QQ G X (some (.int res.1)) res.2 0 0) (t : Nat) (x4 : Int32) (w : A_W) (h : F_M_hopeFor_94 t x4 w = some res) : Sm G X w 0 0 [some (.ref t), none, none, none, some (.int x4), none] [] 94 := by
  unfold F_M_hopeFor_94 at h
  refine Sm_run K ek_M_hopeFor 50 2 rfl ?_
  obtain ⟨o2, e_o2, h⟩ := Option.bind_eq_some_iff.mp h
  obtain ⟨p1, e_p1, h⟩ := Option.bind_eq_some_iff.mp h
  refine Sm_callV K (eok_i (eo ek_M_hopeFor (i := 52) rfl) rfl) cy_M_orNone im_M_orNone se_M_orNone (lgm 929 (by decide +kernel) rfl) ⟨Nat.le_of_ble_eq_true rfl, Nat.le_of_ble_eq_true rfl⟩ (as := [.int x4]) (b := t) (st := []) (ob_e e_o2) (by decide) rfl rfl rfl rfl (Nat.le_of_ble_eq_true rfl) ⟨Nat.le_of_ble_eq_true rfl, Nat.le_of_ble_eq_true rfl⟩ (cn_M_orNone e_p1) ?_
  refine Sm_eq (st1 := .int p1.1 :: []) (nc1 := 0) (ns1 := 0) rfl rfl rfl ?_
  cases h
  exact Sm_reti K hQ (eok_i (eo ek_M_hopeFor (i := 53) rfl) rfl)
set_option maxHeartbeats 4000000 in
set_option maxRecDepth 100000 in
theorem s_M_hopeFor_43 {G : Gx} {X : Cx} {res : Int32 × A_W} (K : Ok G X 4 c_M_hopeFor 6 (some .int) rm_M_hopeFor) (hQ : QQ G X (some (.int res.1)) res.2 0 0) : ∀ (n : Nat) (t : Nat) (x1 : Int32) (x2 : Int32) (x3 : Int32) (x4 : Int32) (x5 : Int32) (w : A_W), F_M_hopeFor_43 n t x1 x2 x3 x4 x5 w = some res → Sm G X w 0 0 [some (.ref t), some (.int x1), some (.int x2), some (.int x3), some (.int x4), some (.int x5)] [] 43 := by
  intro n
  induction n with
  | zero => intro t x1 x2 x3 x4 x5 w h; cases h
  | succ n ih =>
    intro t x1 x2 x3 x4 x5 w h
    rw [F_M_hopeFor_43] at h
    refine Sm_run K ek_M_hopeFor 24 1 rfl ?_
    refine Sm_if_le K (eo ek_M_hopeFor (i := 25) rfl) (fun c1 => ?_) (fun c1 => ?_)
    · rw [if_pos c1] at h
      exact Sm_le (leR_s (leR_n (leR_n (leR_n (leR_s (leR_n leR_nil)))))) (s_M_hopeFor_94 K hQ _ _ _ h)
    · rw [if_neg c1] at h
      refine Sm_run K ek_M_hopeFor 26 1 rfl ?_
      refine Sm_if_ge K (eo ek_M_hopeFor (i := 27) rfl) (fun c2 => ?_) (fun c2 => ?_)
      · rw [if_pos c2] at h
        exact Sm_le (leR_s (leR_n (leR_n (leR_n (leR_s (leR_n leR_nil)))))) (s_M_hopeFor_94 K hQ _ _ _ h)
      · rw [if_neg c2] at h
        refine Sm_run K ek_M_hopeFor 28 4 rfl ?_
        obtain ⟨o4, e_o4, h⟩ := Option.bind_eq_some_iff.mp h
        obtain ⟨p3, e_p3, h⟩ := Option.bind_eq_some_iff.mp h
        refine Sm_callV K (eok_i (eo ek_M_hopeFor (i := 32) rfl) rfl) cy_M_lets im_M_lets se_M_lets (lgm 855 (by decide +kernel) rfl) ⟨Nat.le_of_ble_eq_true rfl, Nat.le_of_ble_eq_true rfl⟩ (as := [.int x1, .int 1, .int x5]) (b := t) (st := []) (ob_e e_o4) (by decide) rfl rfl rfl rfl (Nat.le_of_ble_eq_true rfl) ⟨Nat.le_of_ble_eq_true rfl, Nat.le_of_ble_eq_true rfl⟩ (cn_M_lets e_p3) ?_
        refine Sm_eq (st1 := []) (nc1 := 0) (ns1 := 0) rfl rfl rfl ?_
        refine Sm_run K ek_M_hopeFor 33 2 rfl ?_
        obtain ⟨o6, e_o6, h⟩ := Option.bind_eq_some_iff.mp h
        obtain ⟨p5, e_p5, h⟩ := Option.bind_eq_some_iff.mp h
        refine Sm_callV K (eok_i (eo ek_M_hopeFor (i := 35) rfl) rfl) cy_M_goesFor im_M_goesFor se_M_goesFor (lgm 940 (by decide +kernel) rfl) ⟨Nat.le_of_ble_eq_true rfl, Nat.le_of_ble_eq_true rfl⟩ (as := [.int x2]) (b := t) (st := []) (ob_e e_o6) (by decide) rfl rfl rfl rfl (Nat.le_of_ble_eq_true rfl) ⟨Nat.le_of_ble_eq_true rfl, Nat.le_of_ble_eq_true rfl⟩ (cn_M_goesFor e_p5) ?_
        refine Sm_eq (st1 := []) (nc1 := 0) (ns1 := 0) rfl rfl rfl ?_
        refine Sm_run K ek_M_hopeFor 36 3 rfl ?_
        obtain ⟨o8, e_o8, h⟩ := Option.bind_eq_some_iff.mp h
        obtain ⟨p7, e_p7, h⟩ := Option.bind_eq_some_iff.mp h
        refine Sm_callV K (eok_i (eo ek_M_hopeFor (i := 39) rfl) rfl) cy_M_her im_M_her se_M_her (lgm 913 (by decide +kernel) rfl) ⟨Nat.le_of_ble_eq_true rfl, Nat.le_of_ble_eq_true rfl⟩ (as := [.int x1, .int 2]) (b := t) (st := []) (ob_e e_o8) (by decide) rfl rfl rfl rfl (Nat.le_of_ble_eq_true rfl) ⟨Nat.le_of_ble_eq_true rfl, Nat.le_of_ble_eq_true rfl⟩ (cn_M_her e_p7) ?_
        refine Sm_eq (st1 := .int p7.1 :: []) (nc1 := 0) (ns1 := 0) rfl rfl rfl ?_
        refine Sm_run K ek_M_hopeFor 40 1 rfl ?_
        refine Sm_ic_le K (eo ek_M_hopeFor (i := 41) rfl) (fun c9 => ?_) (fun c9 => ?_)
        · rw [if_pos c9] at h
          refine Sm_run K ek_M_hopeFor 44 1 rfl ?_
          exact Sm_le (leR_s (leR_s (leR_s (leR_s (leR_n (leR_s leR_nil)))))) (s_M_hopeFor_82 K hQ ih _ _ _ _ _ _ _ h)
        · rw [if_neg c9] at h
          refine Sm_run K ek_M_hopeFor 42 2 rfl ?_
          exact Sm_le (leR_s (leR_s (leR_s (leR_s (leR_n (leR_s leR_nil)))))) (s_M_hopeFor_82 K hQ ih _ _ _ _ _ _ _ h)
set_option maxHeartbeats 4000000 in
set_option maxRecDepth 100000 in
theorem s_M_hopeFor_0 {G : Gx} {X : Cx} {res : Int32 × A_W} (K : Ok G X 4 c_M_hopeFor 6 (some .int) rm_M_hopeFor) (hQ : QQ G X (some (.int res.1)) res.2 0 0) (t : Nat) (x1 : Int32) (x2 : Int32) (w : A_W) (h : F_M_hopeFor_0 t x1 x2 w = some res) : Sm G X w 0 0 [some (.ref t), some (.int x1), some (.int x2), none, none, none] [] 0 := by
  unfold F_M_hopeFor_0 at h
  refine Sm_run K ek_M_hopeFor 0 2 rfl ?_
  obtain ⟨o2, e_o2, h⟩ := Option.bind_eq_some_iff.mp h
  obtain ⟨p1, e_p1, h⟩ := Option.bind_eq_some_iff.mp h
  refine Sm_callV K (eok_i (eo ek_M_hopeFor (i := 2) rfl) rfl) cy_M_isGirl im_M_isGirl se_M_isGirl (lgm 909 (by decide +kernel) rfl) ⟨Nat.le_of_ble_eq_true rfl, Nat.le_of_ble_eq_true rfl⟩ (as := [.int x1]) (b := t) (st := []) (ob_e e_o2) (by decide) rfl rfl rfl rfl (Nat.le_of_ble_eq_true rfl) ⟨Nat.le_of_ble_eq_true rfl, Nat.le_of_ble_eq_true rfl⟩ (cn_M_isGirl e_p1) ?_
  refine Sm_eq (st1 := .int p1.1 :: []) (nc1 := 0) (ns1 := 0) rfl rfl rfl ?_
  refine Sm_if_eq K (eo ek_M_hopeFor (i := 3) rfl) (fun c3 => ?_) (fun c3 => ?_)
  · rw [if_pos c3] at h
    exact Sm_le (leR_s (leR_n (leR_n (leR_n (leR_n (leR_n leR_nil)))))) (s_M_hopeFor_18 K hQ _ _ h)
  · rw [if_neg c3] at h
    refine Sm_run K ek_M_hopeFor 4 3 rfl ?_
    obtain ⟨p4, e_p4, h⟩ := Option.bind_eq_some_iff.mp h
    refine Sm_callS K (eok_i (eo ek_M_hopeFor (i := 7) rfl) rfl) cy_M_in st_M_in (lgm 815 (by decide +kernel) rfl) ⟨Nat.le_of_ble_eq_true rfl, Nat.le_of_ble_eq_true rfl⟩ (as := [.int x2, .int 0, .int 40]) (st := []) rfl rfl rfl (Nat.le_of_ble_eq_true rfl) ⟨Nat.le_of_ble_eq_true rfl, Nat.le_of_ble_eq_true rfl⟩ (cn_M_in e_p4) ?_
    refine Sm_eq (st1 := .int p4.1 :: []) (nc1 := 0) (ns1 := 0) rfl rfl rfl ?_
    refine Sm_if_ne K (eo ek_M_hopeFor (i := 8) rfl) (fun c5 => ?_) (fun c5 => ?_)
    · rw [if_neg c5] at h
      refine Sm_run K ek_M_hopeFor 13 1 rfl ?_
      obtain ⟨o7, e_o7, h⟩ := Option.bind_eq_some_iff.mp h
      obtain ⟨p6, e_p6, h⟩ := Option.bind_eq_some_iff.mp h
      refine Sm_callV K (eok_i (eo ek_M_hopeFor (i := 14) rfl) rfl) cy_M_thinks im_M_thinks se_M_thinks (lgm 980 (by decide +kernel) rfl) ⟨Nat.le_of_ble_eq_true rfl, Nat.le_of_ble_eq_true rfl⟩ (as := []) (b := t) (st := []) (ob_e e_o7) (by decide) rfl rfl rfl rfl (Nat.le_of_ble_eq_true rfl) ⟨Nat.le_of_ble_eq_true rfl, Nat.le_of_ble_eq_true rfl⟩ (cn_M_thinks e_p6) ?_
      refine Sm_eq (st1 := []) (nc1 := 0) (ns1 := 0) rfl rfl rfl ?_
      refine Sm_run K ek_M_hopeFor 15 3 rfl ?_
      obtain ⟨o9, e_o9, h⟩ := Option.bind_eq_some_iff.mp h
      obtain ⟨p8, e_p8, h⟩ := Option.bind_eq_some_iff.mp h
      refine Sm_callV K (eok_i (eo ek_M_hopeFor (i := 18) rfl) rfl) cy_M_her im_M_her se_M_her (lgm 913 (by decide +kernel) rfl) ⟨Nat.le_of_ble_eq_true rfl, Nat.le_of_ble_eq_true rfl⟩ (as := [.int x1, .int 2]) (b := t) (st := []) (ob_e e_o9) (by decide) rfl rfl rfl rfl (Nat.le_of_ble_eq_true rfl) ⟨Nat.le_of_ble_eq_true rfl, Nat.le_of_ble_eq_true rfl⟩ (cn_M_her e_p8) ?_
      refine Sm_eq (st1 := .int p8.1 :: []) (nc1 := 0) (ns1 := 0) rfl rfl rfl ?_
      refine Sm_run K ek_M_hopeFor 19 5 rfl ?_
      exact Sm_le (leR_s (leR_s (leR_s (leR_s (leR_s (leR_s leR_nil)))))) (s_M_hopeFor_43 K hQ FU _ _ _ _ _ _ _ h)
    · rw [if_pos c5] at h
      exact Sm_le (leR_s (leR_n (leR_n (leR_n (leR_n (leR_n leR_nil)))))) (s_M_hopeFor_18 K hQ _ _ h)
def F_M_hopeFor (t : Nat) (x1 : Int32) (x2 : Int32) (w : A_W) : Option (Int32 × A_W) := F_M_hopeFor_0 t x1 x2 w
theorem cn_M_hopeFor {G : Gx} {t : Nat} {x1 : Int32} {x2 : Int32} {w : A_W} {res : Int32 × A_W} (h : F_M_hopeFor t x1 x2 w = some res) : Cn G y_M_hopeFor c_M_hopeFor 6 (some .int) rm_M_hopeFor [.ref t, .int x1, .int x2] w (some (.int res.1)) res.2 :=
  Cn_of (own := 4) cy_M_hopeFor rfl rfl (Nat.le_of_ble_eq_true rfl) rfl (fun X K _ hQ => Sm_le (leR_s (leR_s (leR_s (leR_n (leR_n (leR_n leR_nil)))))) (s_M_hopeFor_0 K hQ _ _ _ _ h))
/-! EveningCloakModel.isAsNow(II)Z -/
abbrev c_M_isAsNow : ByteArray := prog_6_method_61_code
def y_M_isAsNow : MethodName := ⟨"EveningCloakModel", "isAsNow", "(II)Z"⟩
def rm_M_isAsNow : Room := { frames := 7, cells := 0, slots := 0, locals := 159 }
theorem cy_M_isAsNow : Cy y_M_isAsNow c_M_isAsNow 5 (some .boolean) 2 := ⟨lgm 1049 (by decide +kernel) rfl, lgm 73 (by decide +kernel) rfl, by decide +kernel, by decide +kernel⟩
theorem im_M_isAsNow : Cond.instanceMethod y_M_isAsNow ∈ lg := lgm 1048 (by decide +kernel) rfl
theorem se_M_isAsNow : Cond.selects y_M_isAsNow.cls y_M_isAsNow y_M_isAsNow ∈ lg := lgm 48 (by decide +kernel) rfl
def e_M_isAsNow : List Ent := [
  (0, .aload_n 0, 1, 1, .null, 0, 0, 0),
  (1, .iconst 2, 1, 2, .int 2, 0, 0, 0),
  (2, .invokevirtual 126, 3, 5, .null, 0, 0, 0),
  (5, .istore_n 3, 1, 6, .null, 0, 0, 0),
  (6, .iconst 0, 1, 7, .int 0, 0, 0, 0),
  (7, .istore 4, 2, 9, .null, 0, 0, 0),
  (9, .iload 4, 2, 11, .null, 0, 0, 0),
  (11, .aload_n 0, 1, 12, .null, 0, 0, 0),
  (12, .getfield 9, 3, 15, .null, 4, 0, 762),
  (15, .iconst 3, 1, 16, .int 3, 0, 0, 0),
  (16, .iaload, 1, 17, .null, 0, 0, 0),
  (17, .if_icmp .ge 30, 3, 47, .null, 0, 0, 0),
  (20, .aload_n 0, 1, 21, .null, 0, 0, 0),
  (21, .iload 4, 2, 23, .null, 0, 0, 0),
  (23, .iconst 5, 1, 24, .int 5, 0, 0, 0),
  (24, .aload_n 0, 1, 25, .null, 0, 0, 0),
  (25, .iload 4, 2, 27, .null, 0, 0, 0),
  (27, .iconst 5, 1, 28, .int 5, 0, 0, 0),
  (28, .invokevirtual 44, 3, 31, .null, 0, 0, 0),
  (31, .iload_n 1, 1, 32, .null, 0, 0, 0),
  (32, .iload 4, 2, 34, .null, 0, 0, 0),
  (34, .ishr, 1, 35, .null, 0, 0, 0),
  (35, .iconst 1, 1, 36, .int 1, 0, 0, 0),
  (36, .iand, 1, 37, .null, 0, 0, 0),
  (37, .ior, 1, 38, .null, 0, 0, 0),
  (38, .invokevirtual 74, 3, 41, .null, 0, 0, 0),
  (41, .iinc 4 1, 3, 44, .int 1, 0, 0, 0),
  (44, .goto (-35), 3, 9, .null, 0, 0, 0),
  (47, .aload_n 0, 1, 48, .null, 0, 0, 0),
  (48, .iload_n 2, 1, 49, .null, 0, 0, 0),
  (49, .invokevirtual 151, 3, 52, .null, 0, 0, 0),
  (52, .iload_n 3, 1, 53, .null, 0, 0, 0),
  (53, .if_icmp .ne 7, 3, 60, .null, 0, 0, 0),
  (56, .iconst 1, 1, 57, .int 1, 0, 0, 0),
  (57, .goto 4, 3, 61, .null, 0, 0, 0),
  (60, .iconst 0, 1, 61, .int 0, 0, 0, 0),
  (61, .ireturn, 1, 62, .null, 0, 0, 0)]
set_option maxRecDepth 100000 in
theorem ek_M_isAsNow : e_M_isAsNow.all (eok 4 c_M_isAsNow) = true := by decide +kernel
def F_M_isAsNow_61 (y0 : Int32) (w : A_W) : Option (Int32 × A_W) :=
  (bz y0).bind fun b1 =>
  some (b1, w)
def F_M_isAsNow_9 : Nat → Nat → Int32 → Int32 → Int32 → Int32 → A_W → Option (Int32 × A_W)
  | 0, _, _, _, _, _, _ => none
  | n + 1, t, x1, x2, x3, x4, w =>
    (gr w t 4 0).bind fun a1 =>
    (rd w a1 3).bind fun v2 =>
    if v2 ≤ x4 then
      (ob w t 4).bind fun o5 =>
      (F_M_metBehind t x2 w).bind fun p4 =>
      if p4.1 = x3 then
        F_M_isAsNow_61 1 p4.2
      else
        F_M_isAsNow_61 0 p4.2
    else
      (ob w t 4).bind fun o8 =>
      (F_M_it t x4 5 w).bind fun p7 =>
      (ob p7.2 t 4).bind fun o10 =>
      (F_M_put t x4 5 (p7.1 ||| ((x1 >>> (x4 &&& 31)) &&& 1)) p7.2).bind fun p9 =>
      F_M_isAsNow_9 n t x1 x2 x3 (x4 + 1) p9
def F_M_isAsNow_0 (t : Nat) (x1 : Int32) (x2 : Int32) (w : A_W) : Option (Int32 × A_W) :=
  (ob w t 4).bind fun o2 =>
  (F_M_sums t 2 w).bind fun p1 =>
  F_M_isAsNow_9 FU t x1 x2 p1.1 0 p1.2
set_option maxHeartbeats 4000000 in
set_option maxRecDepth 100000 in
theorem s_M_isAsNow_61 {G : Gx} {X : Cx} {res : Int32 × A_W} (K : Ok G X 4 c_M_isAsNow 5 (some .boolean) rm_M_isAsNow) (hQ : QQ G X (some (.int res.1)) res.2 0 0) (y0 : Int32) (w : A_W) (h : F_M_isAsNow_61 y0 w = some res) : Sm G X w 0 0 [none, none, none, none, none] [.int y0] 61 := by
  unfold F_M_isAsNow_61 at h
  obtain ⟨b1, e_b1, h⟩ := Option.bind_eq_some_iff.mp h
  cases h
  exact Sm_retz K e_b1 hQ (eok_i (eo ek_M_isAsNow (i := 36) rfl) rfl)
set_option maxHeartbeats 4000000 in
set_option maxRecDepth 100000 in
theorem s_M_isAsNow_9 {G : Gx} {X : Cx} {res : Int32 × A_W} (K : Ok G X 4 c_M_isAsNow 5 (some .boolean) rm_M_isAsNow) (hQ : QQ G X (some (.int res.1)) res.2 0 0) : ∀ (n : Nat) (t : Nat) (x1 : Int32) (x2 : Int32) (x3 : Int32) (x4 : Int32) (w : A_W), F_M_isAsNow_9 n t x1 x2 x3 x4 w = some res → Sm G X w 0 0 [some (.ref t), some (.int x1), some (.int x2), some (.int x3), some (.int x4)] [] 9 := by
  intro n
  induction n with
  | zero => intro t x1 x2 x3 x4 w h; cases h
  | succ n ih =>
    intro t x1 x2 x3 x4 w h
    rw [F_M_isAsNow_9] at h
    refine Sm_run K ek_M_isAsNow 6 2 rfl ?_
    obtain ⟨a1, e_a1, h⟩ := Option.bind_eq_some_iff.mp h
    refine Sm_gr K (eo ek_M_isAsNow (i := 8) rfl) e_a1 ?_
    refine Sm_run K ek_M_isAsNow 9 1 rfl ?_
    obtain ⟨v2, e_v2, h⟩ := Option.bind_eq_some_iff.mp h
    refine Sm_rd K (eok_i (eo ek_M_isAsNow (i := 10) rfl) rfl) e_v2 ?_
    refine Sm_ic_ge K (eo ek_M_isAsNow (i := 11) rfl) (fun c3 => ?_) (fun c3 => ?_)
    · rw [if_pos c3] at h
      refine Sm_run K ek_M_isAsNow 28 2 rfl ?_
      obtain ⟨o5, e_o5, h⟩ := Option.bind_eq_some_iff.mp h
      obtain ⟨p4, e_p4, h⟩ := Option.bind_eq_some_iff.mp h
      refine Sm_callV K (eok_i (eo ek_M_isAsNow (i := 30) rfl) rfl) cy_M_metBehind im_M_metBehind se_M_metBehind (lgm 1023 (by decide +kernel) rfl) ⟨Nat.le_of_ble_eq_true rfl, Nat.le_of_ble_eq_true rfl⟩ (as := [.int x2]) (b := t) (st := []) (ob_e e_o5) (by decide) rfl rfl rfl rfl (Nat.le_of_ble_eq_true rfl) ⟨Nat.le_of_ble_eq_true rfl, Nat.le_of_ble_eq_true rfl⟩ (cn_M_metBehind e_p4) ?_
      refine Sm_eq (st1 := .int p4.1 :: []) (nc1 := 0) (ns1 := 0) rfl rfl rfl ?_
      refine Sm_run K ek_M_isAsNow 31 1 rfl ?_
      refine Sm_ic_ne K (eo ek_M_isAsNow (i := 32) rfl) (fun c6 => ?_) (fun c6 => ?_)
      · rw [if_neg c6] at h
        refine Sm_run K ek_M_isAsNow 35 1 rfl ?_
        exact Sm_le (leR_n (leR_n (leR_n (leR_n (leR_n leR_nil))))) (s_M_isAsNow_61 K hQ _ _ h)
      · rw [if_pos c6] at h
        refine Sm_run K ek_M_isAsNow 33 2 rfl ?_
        exact Sm_le (leR_n (leR_n (leR_n (leR_n (leR_n leR_nil))))) (s_M_isAsNow_61 K hQ _ _ h)
    · rw [if_neg c3] at h
      refine Sm_run K ek_M_isAsNow 12 6 rfl ?_
      obtain ⟨o8, e_o8, h⟩ := Option.bind_eq_some_iff.mp h
      obtain ⟨p7, e_p7, h⟩ := Option.bind_eq_some_iff.mp h
      refine Sm_callV K (eok_i (eo ek_M_isAsNow (i := 18) rfl) rfl) cy_M_it im_M_it se_M_it (lgm 871 (by decide +kernel) rfl) ⟨Nat.le_of_ble_eq_true rfl, Nat.le_of_ble_eq_true rfl⟩ (as := [.int x4, .int 5]) (b := t) (st := [.int 5, .int x4, .ref t]) (ob_e e_o8) (by decide) rfl rfl rfl rfl (Nat.le_of_ble_eq_true rfl) ⟨Nat.le_of_ble_eq_true rfl, Nat.le_of_ble_eq_true rfl⟩ (cn_M_it e_p7) ?_
      refine Sm_eq (st1 := .int p7.1 :: [.int 5, .int x4, .ref t]) (nc1 := 0) (ns1 := 0) rfl rfl rfl ?_
      refine Sm_run K ek_M_isAsNow 19 6 rfl ?_
      obtain ⟨o10, e_o10, h⟩ := Option.bind_eq_some_iff.mp h
      obtain ⟨p9, e_p9, h⟩ := Option.bind_eq_some_iff.mp h
      refine Sm_callV K (eok_i (eo ek_M_isAsNow (i := 25) rfl) rfl) cy_M_put im_M_put se_M_put (lgm 843 (by decide +kernel) rfl) ⟨Nat.le_of_ble_eq_true rfl, Nat.le_of_ble_eq_true rfl⟩ (as := [.int x4, .int 5, .int (p7.1 ||| ((x1 >>> (x4 &&& 31)) &&& 1))]) (b := t) (st := []) (ob_e e_o10) (by decide) rfl rfl rfl rfl (Nat.le_of_ble_eq_true rfl) ⟨Nat.le_of_ble_eq_true rfl, Nat.le_of_ble_eq_true rfl⟩ (cn_M_put e_p9) ?_
      refine Sm_eq (st1 := []) (nc1 := 0) (ns1 := 0) rfl rfl rfl ?_
      refine Sm_run K ek_M_isAsNow 26 2 rfl ?_
      exact Sm_le (leR_s (leR_s (leR_s (leR_s (leR_s leR_nil))))) (ih _ _ _ _ _ _ h)
set_option maxHeartbeats 4000000 in
set_option maxRecDepth 100000 in
theorem s_M_isAsNow_0 {G : Gx} {X : Cx} {res : Int32 × A_W} (K : Ok G X 4 c_M_isAsNow 5 (some .boolean) rm_M_isAsNow) (hQ : QQ G X (some (.int res.1)) res.2 0 0) (t : Nat) (x1 : Int32) (x2 : Int32) (w : A_W) (h : F_M_isAsNow_0 t x1 x2 w = some res) : Sm G X w 0 0 [some (.ref t), some (.int x1), some (.int x2), none, none] [] 0 := by
  unfold F_M_isAsNow_0 at h
  refine Sm_run K ek_M_isAsNow 0 2 rfl ?_
  obtain ⟨o2, e_o2, h⟩ := Option.bind_eq_some_iff.mp h
  obtain ⟨p1, e_p1, h⟩ := Option.bind_eq_some_iff.mp h
  refine Sm_callV K (eok_i (eo ek_M_isAsNow (i := 2) rfl) rfl) cy_M_sums im_M_sums se_M_sums (lgm 960 (by decide +kernel) rfl) ⟨Nat.le_of_ble_eq_true rfl, Nat.le_of_ble_eq_true rfl⟩ (as := [.int 2]) (b := t) (st := []) (ob_e e_o2) (by decide) rfl rfl rfl rfl (Nat.le_of_ble_eq_true rfl) ⟨Nat.le_of_ble_eq_true rfl, Nat.le_of_ble_eq_true rfl⟩ (cn_M_sums e_p1) ?_
  refine Sm_eq (st1 := .int p1.1 :: []) (nc1 := 0) (ns1 := 0) rfl rfl rfl ?_
  refine Sm_run K ek_M_isAsNow 3 3 rfl ?_
  exact Sm_le (leR_s (leR_s (leR_s (leR_s (leR_s leR_nil))))) (s_M_isAsNow_9 K hQ FU _ _ _ _ _ _ h)
def F_M_isAsNow (t : Nat) (x1 : Int32) (x2 : Int32) (w : A_W) : Option (Int32 × A_W) := F_M_isAsNow_0 t x1 x2 w
theorem cn_M_isAsNow {G : Gx} {t : Nat} {x1 : Int32} {x2 : Int32} {w : A_W} {res : Int32 × A_W} (h : F_M_isAsNow t x1 x2 w = some res) : Cn G y_M_isAsNow c_M_isAsNow 5 (some .boolean) rm_M_isAsNow [.ref t, .int x1, .int x2] w (some (.int res.1)) res.2 :=
  Cn_of (own := 4) cy_M_isAsNow rfl rfl (Nat.le_of_ble_eq_true rfl) rfl (fun X K _ hQ => Sm_le (leR_s (leR_s (leR_s (leR_n (leR_n leR_nil))))) (s_M_isAsNow_0 K hQ _ _ _ _ h))
/-! EveningCloakModel.giveOut(I)I -/
abbrev c_M_giveOut : ByteArray := prog_6_method_62_code
def y_M_giveOut : MethodName := ⟨"EveningCloakModel", "giveOut", "(I)I"⟩
def rm_M_giveOut : Room := { frames := 8, cells := 0, slots := 0, locals := 183 }
theorem cy_M_giveOut : Cy y_M_giveOut c_M_giveOut 5 (some .int) 1 := ⟨lgm 1042 (by decide +kernel) rfl, lgm 73 (by decide +kernel) rfl, by decide +kernel, by decide +kernel⟩
theorem im_M_giveOut : Cond.instanceMethod y_M_giveOut ∈ lg := lgm 1040 (by decide +kernel) rfl
theorem se_M_giveOut : Cond.selects y_M_giveOut.cls y_M_giveOut y_M_giveOut ∈ lg := lgm 1041 (by decide +kernel) rfl
def e_M_giveOut : List Ent := [
  (0, .iload_n 1, 1, 1, .null, 0, 0, 0),
  (1, .iconst 0, 1, 2, .int 0, 0, 0, 0),
  (2, .bipush 20, 2, 4, .int 20, 0, 0, 0),
  (4, .invokestatic 40, 3, 7, .null, 0, 0, 0),
  (7, .ifCond .ne 10, 3, 17, .null, 0, 0, 0),
  (10, .aload_n 0, 1, 11, .null, 0, 0, 0),
  (11, .ldc 34, 2, 13, .int (-1000001), 0, 0, 825),
  (13, .invokevirtual 36, 3, 16, .null, 0, 0, 0),
  (16, .ireturn, 1, 17, .null, 0, 0, 0),
  (17, .aload_n 0, 1, 18, .null, 0, 0, 0),
  (18, .invokevirtual 142, 3, 21, .null, 0, 0, 0),
  (21, .iconst (-1), 1, 22, .int (-1), 0, 0, 0),
  (22, .istore_n 2, 1, 23, .null, 0, 0, 0),
  (23, .iconst 0, 1, 24, .int 0, 0, 0, 0),
  (24, .istore_n 3, 1, 25, .null, 0, 0, 0),
  (25, .iload_n 3, 1, 26, .null, 0, 0, 0),
  (26, .iconst 1, 1, 27, .int 1, 0, 0, 0),
  (27, .aload_n 0, 1, 28, .null, 0, 0, 0),
  (28, .getfield 9, 3, 31, .null, 4, 0, 762),
  (31, .iconst 3, 1, 32, .int 3, 0, 0, 0),
  (32, .iaload, 1, 33, .null, 0, 0, 0),
  (33, .ishl, 1, 34, .null, 0, 0, 0),
  (34, .if_icmp .ge 51, 3, 85, .null, 0, 0, 0),
  (37, .iload_n 2, 1, 38, .null, 0, 0, 0),
  (38, .ifCond .lt 14, 3, 52, .null, 0, 0, 0),
  (41, .iload_n 3, 1, 42, .null, 0, 0, 0),
  (42, .invokestatic 158, 3, 45, .null, 0, 0, 0),
  (45, .iload_n 2, 1, 46, .null, 0, 0, 0),
  (46, .invokestatic 158, 3, 49, .null, 0, 0, 0),
  (49, .if_icmp .ge 7, 3, 56, .null, 0, 0, 0),
  (52, .iconst 1, 1, 53, .int 1, 0, 0, 0),
  (53, .goto 4, 3, 57, .null, 0, 0, 0),
  (56, .iconst 0, 1, 57, .int 0, 0, 0, 0),
  (57, .istore 4, 2, 59, .null, 0, 0, 0),
  (59, .iload 4, 2, 61, .null, 0, 0, 0),
  (61, .ifCond .eq 16, 3, 77, .null, 0, 0, 0),
  (64, .aload_n 0, 1, 65, .null, 0, 0, 0),
  (65, .iload_n 3, 1, 66, .null, 0, 0, 0),
  (66, .iload_n 1, 1, 67, .null, 0, 0, 0),
  (67, .invokevirtual 161, 3, 70, .null, 0, 0, 0),
  (70, .ifCond .eq 7, 3, 77, .null, 0, 0, 0),
  (73, .iload_n 3, 1, 74, .null, 0, 0, 0),
  (74, .goto 4, 3, 78, .null, 0, 0, 0),
  (77, .iload_n 2, 1, 78, .null, 0, 0, 0),
  (78, .istore_n 2, 1, 79, .null, 0, 0, 0),
  (79, .iinc 3 1, 3, 82, .int 1, 0, 0, 0),
  (82, .goto (-57), 3, 25, .null, 0, 0, 0),
  (85, .aload_n 0, 1, 86, .null, 0, 0, 0),
  (86, .iload_n 2, 1, 87, .null, 0, 0, 0),
  (87, .invokevirtual 106, 3, 90, .null, 0, 0, 0),
  (90, .ireturn, 1, 91, .null, 0, 0, 0)]
set_option maxRecDepth 100000 in
theorem ek_M_giveOut : e_M_giveOut.all (eok 4 c_M_giveOut) = true := by decide +kernel
def F_M_giveOut_78 (k25 : Nat → Int32 → Int32 → Int32 → A_W → Option (Int32 × A_W)) (t : Nat) (x1 : Int32) (x3 : Int32) (y0 : Int32) (w : A_W) : Option (Int32 × A_W) :=
  k25 t x1 y0 (x3 + 1) w
def F_M_giveOut_77 (k25 : Nat → Int32 → Int32 → Int32 → A_W → Option (Int32 × A_W)) (t : Nat) (x1 : Int32) (x2 : Int32) (x3 : Int32) (w : A_W) : Option (Int32 × A_W) :=
  F_M_giveOut_78 k25 t x1 x3 x2 w
def F_M_giveOut_57 (k25 : Nat → Int32 → Int32 → Int32 → A_W → Option (Int32 × A_W)) (t : Nat) (x1 : Int32) (x2 : Int32) (x3 : Int32) (y0 : Int32) (w : A_W) : Option (Int32 × A_W) :=
  if y0 = 0 then
    F_M_giveOut_77 k25 t x1 x2 x3 w
  else
    (ob w t 4).bind fun o3 =>
    (F_M_isAsNow t x3 x1 w).bind fun p2 =>
    if p2.1 = 0 then
      F_M_giveOut_77 k25 t x1 x2 x3 p2.2
    else
      F_M_giveOut_78 k25 t x1 x3 x3 p2.2
def F_M_giveOut_52 (k25 : Nat → Int32 → Int32 → Int32 → A_W → Option (Int32 × A_W)) (t : Nat) (x1 : Int32) (x2 : Int32) (x3 : Int32) (w : A_W) : Option (Int32 × A_W) :=
  F_M_giveOut_57 k25 t x1 x2 x3 1 w
def F_M_giveOut_25 : Nat → Nat → Int32 → Int32 → Int32 → A_W → Option (Int32 × A_W)
  | 0, _, _, _, _, _ => none
  | n + 1, t, x1, x2, x3, w =>
    (gr w t 4 0).bind fun a1 =>
    (rd w a1 3).bind fun v2 =>
    if (1 <<< (v2 &&& 31)) ≤ x3 then
      (ob w t 4).bind fun o5 =>
      (F_M_orNone t x2 w).bind fun p4 =>
      some (p4.1, p4.2)
    else
      if x2 < 0 then
        F_M_giveOut_52 (F_M_giveOut_25 n) t x1 x2 x3 w
      else
        (F_M_bits x3 w).bind fun p7 =>
        (F_M_bits x2 p7.2).bind fun p8 =>
        if p8.1 ≤ p7.1 then
          F_M_giveOut_57 (F_M_giveOut_25 n) t x1 x2 x3 0 p8.2
        else
          F_M_giveOut_52 (F_M_giveOut_25 n) t x1 x2 x3 p8.2
def F_M_giveOut_0 (t : Nat) (x1 : Int32) (w : A_W) : Option (Int32 × A_W) :=
  (F_M_in x1 0 20 w).bind fun p1 =>
  if p1.1 = 0 then
    (ob p1.2 t 4).bind fun o6 =>
    (F_M_finds t (-1000001) p1.2).bind fun p5 =>
    some (p5.1, p5.2)
  else
    (ob p1.2 t 4).bind fun o4 =>
    (F_M_thinks t p1.2).bind fun p3 =>
    F_M_giveOut_25 FU t x1 (-1) 0 p3
set_option maxHeartbeats 4000000 in
set_option maxRecDepth 100000 in
theorem s_M_giveOut_78 {G : Gx} {X : Cx} {res : Int32 × A_W} (K : Ok G X 4 c_M_giveOut 5 (some .int) rm_M_giveOut) (hQ : QQ G X (some (.int res.1)) res.2 0 0) {k25 : Nat → Int32 → Int32 → Int32 → A_W → Option (Int32 × A_W)} (hk25 : ∀ (t : Nat) (x1 : Int32) (x2 : Int32) (x3 : Int32) (w : A_W), k25 t x1 x2 x3 w = some res → Sm G X w 0 0 [some (.ref t), some (.int x1), some (.int x2), some (.int x3), none] [] 25) (t : Nat) (x1 : Int32) (x3 : Int32) (y0 : Int32) (w : A_W) (h : F_M_giveOut_78 k25 t x1 x3 y0 w = some res) : Sm G X w 0 0 [some (.ref t), some (.int x1), none, some (.int x3), none] [.int y0] 78 := by
  unfold F_M_giveOut_78 at h
  refine Sm_run K ek_M_giveOut 44 3 rfl ?_
  exact Sm_le (leR_s (leR_s (leR_s (leR_s (leR_n leR_nil))))) (hk25 _ _ _ _ _ h)
set_option maxHeartbeats 4000000 in
set_option maxRecDepth 100000 in
theorem s_M_giveOut_77 {G : Gx} {X : Cx} {res : Int32 × A_W} (K : Ok G X 4 c_M_giveOut 5 (some .int) rm_M_giveOut) (hQ : QQ G X (some (.int res.1)) res.2 0 0) {k25 : Nat → Int32 → Int32 → Int32 → A_W → Option (Int32 × A_W)} (hk25 : ∀ (t : Nat) (x1 : Int32) (x2 : Int32) (x3 : Int32) (w : A_W), k25 t x1 x2 x3 w = some res → Sm G X w 0 0 [some (.ref t), some (.int x1), some (.int x2), some (.int x3), none] [] 25) (t : Nat) (x1 : Int32) (x2 : Int32) (x3 : Int32) (w : A_W) (h : F_M_giveOut_77 k25 t x1 x2 x3 w = some res) : Sm G X w 0 0 [some (.ref t), some (.int x1), some (.int x2), some (.int x3), none] [] 77 := by
  unfold F_M_giveOut_77 at h
  refine Sm_run K ek_M_giveOut 43 1 rfl ?_
  exact Sm_le (leR_s (leR_s (leR_n (leR_s (leR_n leR_nil))))) (s_M_giveOut_78 K hQ hk25 _ _ _ _ _ h)
set_option maxHeartbeats 4000000 in
set_option maxRecDepth 100000 in
theorem s_M_giveOut_57 {G : Gx} {X : Cx} {res : Int32 × A_W} (K : Ok G X 4 c_M_giveOut 5 (some .int) rm_M_giveOut) (hQ : QQ G X (some (.int res.1)) res.2 0 0) {k25 : Nat → Int32 → Int32 → Int32 → A_W → Option (Int32 × A_W)} (hk25 : ∀ (t : Nat) (x1 : Int32) (x2 : Int32) (x3 : Int32) (w : A_W), k25 t x1 x2 x3 w = some res → Sm G X w 0 0 [some (.ref t), some (.int x1), some (.int x2), some (.int x3), none] [] 25) (t : Nat) (x1 : Int32) (x2 : Int32) (x3 : Int32) (y0 : Int32) (w : A_W) (h : F_M_giveOut_57 k25 t x1 x2 x3 y0 w = some res) : Sm G X w 0 0 [some (.ref t), some (.int x1), some (.int x2), some (.int x3), none] [.int y0] 57 := by
  unfold F_M_giveOut_57 at h
  refine Sm_run K ek_M_giveOut 33 2 rfl ?_
  refine Sm_if_eq K (eo ek_M_giveOut (i := 35) rfl) (fun c1 => ?_) (fun c1 => ?_)
  · rw [if_pos c1] at h
    exact Sm_le (leR_s (leR_s (leR_s (leR_s (leR_n leR_nil))))) (s_M_giveOut_77 K hQ hk25 _ _ _ _ _ h)
  · rw [if_neg c1] at h
    refine Sm_run K ek_M_giveOut 36 3 rfl ?_
    obtain ⟨o3, e_o3, h⟩ := Option.bind_eq_some_iff.mp h
    obtain ⟨p2, e_p2, h⟩ := Option.bind_eq_some_iff.mp h
    refine Sm_callV K (eok_i (eo ek_M_giveOut (i := 39) rfl) rfl) cy_M_isAsNow im_M_isAsNow se_M_isAsNow (lgm 1046 (by decide +kernel) rfl) ⟨Nat.le_of_ble_eq_true rfl, Nat.le_of_ble_eq_true rfl⟩ (as := [.int x3, .int x1]) (b := t) (st := []) (ob_e e_o3) (by decide) rfl rfl rfl rfl (Nat.le_of_ble_eq_true rfl) ⟨Nat.le_of_ble_eq_true rfl, Nat.le_of_ble_eq_true rfl⟩ (cn_M_isAsNow e_p2) ?_
    refine Sm_eq (st1 := .int p2.1 :: []) (nc1 := 0) (ns1 := 0) rfl rfl rfl ?_
    refine Sm_if_eq K (eo ek_M_giveOut (i := 40) rfl) (fun c4 => ?_) (fun c4 => ?_)
    · rw [if_pos c4] at h
      exact Sm_le (leR_s (leR_s (leR_s (leR_s (leR_n leR_nil))))) (s_M_giveOut_77 K hQ hk25 _ _ _ _ _ h)
    · rw [if_neg c4] at h
      refine Sm_run K ek_M_giveOut 41 2 rfl ?_
      exact Sm_le (leR_s (leR_s (leR_n (leR_s (leR_n leR_nil))))) (s_M_giveOut_78 K hQ hk25 _ _ _ _ _ h)
set_option maxHeartbeats 4000000 in
set_option maxRecDepth 100000 in
theorem s_M_giveOut_52 {G : Gx} {X : Cx} {res : Int32 × A_W} (K : Ok G X 4 c_M_giveOut 5 (some .int) rm_M_giveOut) (hQ : QQ G X (some (.int res.1)) res.2 0 0) {k25 : Nat → Int32 → Int32 → Int32 → A_W → Option (Int32 × A_W)} (hk25 : ∀ (t : Nat) (x1 : Int32) (x2 : Int32) (x3 : Int32) (w : A_W), k25 t x1 x2 x3 w = some res → Sm G X w 0 0 [some (.ref t), some (.int x1), some (.int x2), some (.int x3), none] [] 25) (t : Nat) (x1 : Int32) (x2 : Int32) (x3 : Int32) (w : A_W) (h : F_M_giveOut_52 k25 t x1 x2 x3 w = some res) : Sm G X w 0 0 [some (.ref t), some (.int x1), some (.int x2), some (.int x3), none] [] 52 := by
  unfold F_M_giveOut_52 at h
  refine Sm_run K ek_M_giveOut 30 2 rfl ?_
  exact Sm_le (leR_s (leR_s (leR_s (leR_s (leR_n leR_nil))))) (s_M_giveOut_57 K hQ hk25 _ _ _ _ _ _ h)
set_option maxHeartbeats 4000000 in
set_option maxRecDepth 100000 in
theorem s_M_giveOut_25 {G : Gx} {X : Cx} {res : Int32 × A_W} (K : Ok G X 4 c_M_giveOut 5 (some .int) rm_M_giveOut) (hQ : QQ G X (some (.int res.1)) res.2 0 0) : ∀ (n : Nat) (t : Nat) (x1 : Int32) (x2 : Int32) (x3 : Int32) (w : A_W), F_M_giveOut_25 n t x1 x2 x3 w = some res → Sm G X w 0 0 [some (.ref t), some (.int x1), some (.int x2), some (.int x3), none] [] 25 := by
  intro n
  induction n with
  | zero => intro t x1 x2 x3 w h; cases h
  | succ n ih =>
    intro t x1 x2 x3 w h
    rw [F_M_giveOut_25] at h
    refine Sm_run K ek_M_giveOut 15 3 rfl ?_
    obtain ⟨a1, e_a1, h⟩ := Option.bind_eq_some_iff.mp h
    refine Sm_gr K (eo ek_M_giveOut (i := 18) rfl) e_a1 ?_
    refine Sm_run K ek_M_giveOut 19 1 rfl ?_
    obtain ⟨v2, e_v2, h⟩ := Option.bind_eq_some_iff.mp h
    refine Sm_rd K (eok_i (eo ek_M_giveOut (i := 20) rfl) rfl) e_v2 ?_
    refine Sm_run K ek_M_giveOut 21 1 rfl ?_
    refine Sm_ic_ge K (eo ek_M_giveOut (i := 22) rfl) (fun c3 => ?_) (fun c3 => ?_)
    · rw [if_pos c3] at h
      refine Sm_run K ek_M_giveOut 47 2 rfl ?_
      obtain ⟨o5, e_o5, h⟩ := Option.bind_eq_some_iff.mp h
      obtain ⟨p4, e_p4, h⟩ := Option.bind_eq_some_iff.mp h
      refine Sm_callV K (eok_i (eo ek_M_giveOut (i := 49) rfl) rfl) cy_M_orNone im_M_orNone se_M_orNone (lgm 929 (by decide +kernel) rfl) ⟨Nat.le_of_ble_eq_true rfl, Nat.le_of_ble_eq_true rfl⟩ (as := [.int x2]) (b := t) (st := []) (ob_e e_o5) (by decide) rfl rfl rfl rfl (Nat.le_of_ble_eq_true rfl) ⟨Nat.le_of_ble_eq_true rfl, Nat.le_of_ble_eq_true rfl⟩ (cn_M_orNone e_p4) ?_
      refine Sm_eq (st1 := .int p4.1 :: []) (nc1 := 0) (ns1 := 0) rfl rfl rfl ?_
      cases h
      exact Sm_reti K hQ (eok_i (eo ek_M_giveOut (i := 50) rfl) rfl)
    · rw [if_neg c3] at h
      refine Sm_run K ek_M_giveOut 23 1 rfl ?_
      refine Sm_if_lt K (eo ek_M_giveOut (i := 24) rfl) (fun c6 => ?_) (fun c6 => ?_)
      · rw [if_pos c6] at h
        exact Sm_le (leR_s (leR_s (leR_s (leR_s (leR_n leR_nil))))) (s_M_giveOut_52 K hQ ih _ _ _ _ _ h)
      · rw [if_neg c6] at h
        refine Sm_run K ek_M_giveOut 25 1 rfl ?_
        obtain ⟨p7, e_p7, h⟩ := Option.bind_eq_some_iff.mp h
        refine Sm_callS K (eok_i (eo ek_M_giveOut (i := 26) rfl) rfl) cy_M_bits st_M_bits (lgm 1043 (by decide +kernel) rfl) ⟨Nat.le_of_ble_eq_true rfl, Nat.le_of_ble_eq_true rfl⟩ (as := [.int x3]) (st := []) rfl rfl rfl (Nat.le_of_ble_eq_true rfl) ⟨Nat.le_of_ble_eq_true rfl, Nat.le_of_ble_eq_true rfl⟩ (cn_M_bits e_p7) ?_
        refine Sm_eq (st1 := .int p7.1 :: []) (nc1 := 0) (ns1 := 0) rfl rfl rfl ?_
        refine Sm_run K ek_M_giveOut 27 1 rfl ?_
        obtain ⟨p8, e_p8, h⟩ := Option.bind_eq_some_iff.mp h
        refine Sm_callS K (eok_i (eo ek_M_giveOut (i := 28) rfl) rfl) cy_M_bits st_M_bits (lgm 1043 (by decide +kernel) rfl) ⟨Nat.le_of_ble_eq_true rfl, Nat.le_of_ble_eq_true rfl⟩ (as := [.int x2]) (st := [.int p7.1]) rfl rfl rfl (Nat.le_of_ble_eq_true rfl) ⟨Nat.le_of_ble_eq_true rfl, Nat.le_of_ble_eq_true rfl⟩ (cn_M_bits e_p8) ?_
        refine Sm_eq (st1 := .int p8.1 :: [.int p7.1]) (nc1 := 0) (ns1 := 0) rfl rfl rfl ?_
        refine Sm_ic_ge K (eo ek_M_giveOut (i := 29) rfl) (fun c9 => ?_) (fun c9 => ?_)
        · rw [if_pos c9] at h
          refine Sm_run K ek_M_giveOut 32 1 rfl ?_
          exact Sm_le (leR_s (leR_s (leR_s (leR_s (leR_n leR_nil))))) (s_M_giveOut_57 K hQ ih _ _ _ _ _ _ h)
        · rw [if_neg c9] at h
          exact Sm_le (leR_s (leR_s (leR_s (leR_s (leR_n leR_nil))))) (s_M_giveOut_52 K hQ ih _ _ _ _ _ h)
set_option maxHeartbeats 4000000 in
set_option maxRecDepth 100000 in
theorem s_M_giveOut_0 {G : Gx} {X : Cx} {res : Int32 × A_W} (K : Ok G X 4 c_M_giveOut 5 (some .int) rm_M_giveOut) (hQ : QQ G X (some (.int res.1)) res.2 0 0) (t : Nat) (x1 : Int32) (w : A_W) (h : F_M_giveOut_0 t x1 w = some res) : Sm G X w 0 0 [some (.ref t), some (.int x1), none, none, none] [] 0 := by
  unfold F_M_giveOut_0 at h
  refine Sm_run K ek_M_giveOut 0 3 rfl ?_
  obtain ⟨p1, e_p1, h⟩ := Option.bind_eq_some_iff.mp h
  refine Sm_callS K (eok_i (eo ek_M_giveOut (i := 3) rfl) rfl) cy_M_in st_M_in (lgm 815 (by decide +kernel) rfl) ⟨Nat.le_of_ble_eq_true rfl, Nat.le_of_ble_eq_true rfl⟩ (as := [.int x1, .int 0, .int 20]) (st := []) rfl rfl rfl (Nat.le_of_ble_eq_true rfl) ⟨Nat.le_of_ble_eq_true rfl, Nat.le_of_ble_eq_true rfl⟩ (cn_M_in e_p1) ?_
  refine Sm_eq (st1 := .int p1.1 :: []) (nc1 := 0) (ns1 := 0) rfl rfl rfl ?_
  refine Sm_if_ne K (eo ek_M_giveOut (i := 4) rfl) (fun c2 => ?_) (fun c2 => ?_)
  · rw [if_neg c2] at h
    refine Sm_run K ek_M_giveOut 9 1 rfl ?_
    obtain ⟨o4, e_o4, h⟩ := Option.bind_eq_some_iff.mp h
    obtain ⟨p3, e_p3, h⟩ := Option.bind_eq_some_iff.mp h
    refine Sm_callV K (eok_i (eo ek_M_giveOut (i := 10) rfl) rfl) cy_M_thinks im_M_thinks se_M_thinks (lgm 980 (by decide +kernel) rfl) ⟨Nat.le_of_ble_eq_true rfl, Nat.le_of_ble_eq_true rfl⟩ (as := []) (b := t) (st := []) (ob_e e_o4) (by decide) rfl rfl rfl rfl (Nat.le_of_ble_eq_true rfl) ⟨Nat.le_of_ble_eq_true rfl, Nat.le_of_ble_eq_true rfl⟩ (cn_M_thinks e_p3) ?_
    refine Sm_eq (st1 := []) (nc1 := 0) (ns1 := 0) rfl rfl rfl ?_
    refine Sm_run K ek_M_giveOut 11 4 rfl ?_
    exact Sm_le (leR_s (leR_s (leR_s (leR_s (leR_n leR_nil))))) (s_M_giveOut_25 K hQ FU _ _ _ _ _ h)
  · rw [if_pos c2] at h
    refine Sm_run K ek_M_giveOut 5 2 rfl ?_
    obtain ⟨o6, e_o6, h⟩ := Option.bind_eq_some_iff.mp h
    obtain ⟨p5, e_p5, h⟩ := Option.bind_eq_some_iff.mp h
    refine Sm_callV K (eok_i (eo ek_M_giveOut (i := 7) rfl) rfl) cy_M_finds im_M_finds se_M_finds (lgm 826 (by decide +kernel) rfl) ⟨Nat.le_of_ble_eq_true rfl, Nat.le_of_ble_eq_true rfl⟩ (as := [.int (-1000001)]) (b := t) (st := []) (ob_e e_o6) (by decide) rfl rfl rfl rfl (Nat.le_of_ble_eq_true rfl) ⟨Nat.le_of_ble_eq_true rfl, Nat.le_of_ble_eq_true rfl⟩ (cn_M_finds e_p5) ?_
    refine Sm_eq (st1 := .int p5.1 :: []) (nc1 := 0) (ns1 := 0) rfl rfl rfl ?_
    cases h
    exact Sm_reti K hQ (eok_i (eo ek_M_giveOut (i := 8) rfl) rfl)
def F_M_giveOut (t : Nat) (x1 : Int32) (w : A_W) : Option (Int32 × A_W) := F_M_giveOut_0 t x1 w
theorem cn_M_giveOut {G : Gx} {t : Nat} {x1 : Int32} {w : A_W} {res : Int32 × A_W} (h : F_M_giveOut t x1 w = some res) : Cn G y_M_giveOut c_M_giveOut 5 (some .int) rm_M_giveOut [.ref t, .int x1] w (some (.int res.1)) res.2 :=
  Cn_of (own := 4) cy_M_giveOut rfl rfl (Nat.le_of_ble_eq_true rfl) rfl (fun X K _ hQ => Sm_le (leR_s (leR_s (leR_n (leR_n (leR_n leR_nil))))) (s_M_giveOut_0 K hQ _ _ _ h))
/-! EveningCloakModel.isSheet(I)Z -/
abbrev c_M_isSheet : ByteArray := prog_6_method_63_code
def y_M_isSheet : MethodName := ⟨"EveningCloakModel", "isSheet", "(I)Z"⟩
def rm_M_isSheet : Room := { frames := 1, cells := 0, slots := 0, locals := 22 }
theorem cy_M_isSheet : Cy y_M_isSheet c_M_isSheet 1 (some .boolean) 1 := ⟨lgm 1064 (by decide +kernel) rfl, lgm 73 (by decide +kernel) rfl, by decide +kernel, by decide +kernel⟩
theorem st_M_isSheet : Cond.static y_M_isSheet ∈ lg := lgm 1063 (by decide +kernel) rfl
def e_M_isSheet : List Ent := [
  (0, .iload_n 0, 1, 1, .null, 0, 0, 0),
  (1, .iconst 0, 1, 2, .int 0, 0, 0, 0),
  (2, .iconst 3, 1, 3, .int 3, 0, 0, 0),
  (3, .invokestatic 40, 3, 6, .null, 0, 0, 0),
  (6, .ireturn, 1, 7, .null, 0, 0, 0)]
set_option maxRecDepth 100000 in
theorem ek_M_isSheet : e_M_isSheet.all (eok 4 c_M_isSheet) = true := by decide +kernel
def F_M_isSheet_0 (x0 : Int32) (w : A_W) : Option (Int32 × A_W) :=
  (F_M_in x0 0 3 w).bind fun p1 =>
  (bz p1.1).bind fun b2 =>
  some (b2, p1.2)
set_option maxHeartbeats 4000000 in
set_option maxRecDepth 100000 in
theorem s_M_isSheet_0 {G : Gx} {X : Cx} {res : Int32 × A_W} (K : Ok G X 4 c_M_isSheet 1 (some .boolean) rm_M_isSheet) (hQ : QQ G X (some (.int res.1)) res.2 0 0) (x0 : Int32) (w : A_W) (h : F_M_isSheet_0 x0 w = some res) : Sm G X w 0 0 [some (.int x0)] [] 0 := by
  unfold F_M_isSheet_0 at h
  refine Sm_run K ek_M_isSheet 0 3 rfl ?_
  obtain ⟨p1, e_p1, h⟩ := Option.bind_eq_some_iff.mp h
  refine Sm_callS K (eok_i (eo ek_M_isSheet (i := 3) rfl) rfl) cy_M_in st_M_in (lgm 815 (by decide +kernel) rfl) ⟨Nat.le_of_ble_eq_true rfl, Nat.le_of_ble_eq_true rfl⟩ (as := [.int x0, .int 0, .int 3]) (st := []) rfl rfl rfl (Nat.le_of_ble_eq_true rfl) ⟨Nat.le_of_ble_eq_true rfl, Nat.le_of_ble_eq_true rfl⟩ (cn_M_in e_p1) ?_
  refine Sm_eq (st1 := .int p1.1 :: []) (nc1 := 0) (ns1 := 0) rfl rfl rfl ?_
  obtain ⟨b2, e_b2, h⟩ := Option.bind_eq_some_iff.mp h
  cases h
  exact Sm_retz K e_b2 hQ (eok_i (eo ek_M_isSheet (i := 4) rfl) rfl)
def F_M_isSheet (x0 : Int32) (w : A_W) : Option (Int32 × A_W) := F_M_isSheet_0 x0 w
theorem cn_M_isSheet {G : Gx} {x0 : Int32} {w : A_W} {res : Int32 × A_W} (h : F_M_isSheet x0 w = some res) : Cn G y_M_isSheet c_M_isSheet 1 (some .boolean) rm_M_isSheet [.int x0] w (some (.int res.1)) res.2 :=
  Cn_of (own := 4) cy_M_isSheet rfl rfl (Nat.le_of_ble_eq_true rfl) rfl (fun X K _ hQ => Sm_le (leR_s leR_nil) (s_M_isSheet_0 K hQ _ _ h))
/-! EveningCloakModel.notThere(I)I -/
abbrev c_M_notThere : ByteArray := prog_6_method_64_code
def y_M_notThere : MethodName := ⟨"EveningCloakModel", "notThere", "(I)I"⟩
def rm_M_notThere : Room := { frames := 2, cells := 0, slots := 0, locals := 42 }
theorem cy_M_notThere : Cy y_M_notThere c_M_notThere 2 (some .int) 1 := ⟨lgm 1061 (by decide +kernel) rfl, lgm 73 (by decide +kernel) rfl, by decide +kernel, by decide +kernel⟩
theorem im_M_notThere : Cond.instanceMethod y_M_notThere ∈ lg := lgm 1060 (by decide +kernel) rfl
theorem se_M_notThere : Cond.selects y_M_notThere.cls y_M_notThere y_M_notThere ∈ lg := lgm 50 (by decide +kernel) rfl
def e_M_notThere : List Ent := [
  (0, .iload_n 1, 1, 1, .null, 0, 0, 0),
  (1, .invokestatic 165, 3, 4, .null, 0, 0, 0),
  (4, .ifCond .ne 8, 3, 12, .null, 0, 0, 0),
  (7, .ldc 34, 2, 9, .int (-1000001), 0, 0, 825),
  (9, .goto 18, 3, 27, .null, 0, 0, 0),
  (12, .aload_n 0, 1, 13, .null, 0, 0, 0),
  (13, .getfield 22, 3, 16, .null, 4, 5, 767),
  (16, .iload_n 1, 1, 17, .null, 0, 0, 0),
  (17, .iaload, 1, 18, .null, 0, 0, 0),
  (18, .ifCond .ne 8, 3, 26, .null, 0, 0, 0),
  (21, .ldc 168, 2, 23, .int (-1000006), 0, 0, 1065),
  (23, .goto 4, 3, 27, .null, 0, 0, 0),
  (26, .iconst 0, 1, 27, .int 0, 0, 0, 0),
  (27, .ireturn, 1, 28, .null, 0, 0, 0)]
set_option maxRecDepth 100000 in
theorem ek_M_notThere : e_M_notThere.all (eok 4 c_M_notThere) = true := by decide +kernel
def F_M_notThere_27 (y0 : Int32) (w : A_W) : Option (Int32 × A_W) :=
  some (y0, w)
def F_M_notThere_0 (t : Nat) (x1 : Int32) (w : A_W) : Option (Int32 × A_W) :=
  (F_M_isSheet x1 w).bind fun p1 =>
  if p1.1 = 0 then
    F_M_notThere_27 (-1000001) p1.2
  else
    (gr p1.2 t 4 5).bind fun a3 =>
    (rd p1.2 a3 x1).bind fun v4 =>
    if v4 = 0 then
      F_M_notThere_27 (-1000006) p1.2
    else
      F_M_notThere_27 0 p1.2
set_option maxHeartbeats 4000000 in
set_option maxRecDepth 100000 in
theorem s_M_notThere_27 {G : Gx} {X : Cx} {res : Int32 × A_W} (K : Ok G X 4 c_M_notThere 2 (some .int) rm_M_notThere) (hQ : QQ G X (some (.int res.1)) res.2 0 0) (y0 : Int32) (w : A_W) (h : F_M_notThere_27 y0 w = some res) : Sm G X w 0 0 [none, none] [.int y0] 27 := by
  unfold F_M_notThere_27 at h
  cases h
  exact Sm_reti K hQ (eok_i (eo ek_M_notThere (i := 13) rfl) rfl)
set_option maxHeartbeats 4000000 in
set_option maxRecDepth 100000 in
theorem s_M_notThere_0 {G : Gx} {X : Cx} {res : Int32 × A_W} (K : Ok G X 4 c_M_notThere 2 (some .int) rm_M_notThere) (hQ : QQ G X (some (.int res.1)) res.2 0 0) (t : Nat) (x1 : Int32) (w : A_W) (h : F_M_notThere_0 t x1 w = some res) : Sm G X w 0 0 [some (.ref t), some (.int x1)] [] 0 := by
  unfold F_M_notThere_0 at h
  refine Sm_run K ek_M_notThere 0 1 rfl ?_
  obtain ⟨p1, e_p1, h⟩ := Option.bind_eq_some_iff.mp h
  refine Sm_callS K (eok_i (eo ek_M_notThere (i := 1) rfl) rfl) cy_M_isSheet st_M_isSheet (lgm 1062 (by decide +kernel) rfl) ⟨Nat.le_of_ble_eq_true rfl, Nat.le_of_ble_eq_true rfl⟩ (as := [.int x1]) (st := []) rfl rfl rfl (Nat.le_of_ble_eq_true rfl) ⟨Nat.le_of_ble_eq_true rfl, Nat.le_of_ble_eq_true rfl⟩ (cn_M_isSheet e_p1) ?_
  refine Sm_eq (st1 := .int p1.1 :: []) (nc1 := 0) (ns1 := 0) rfl rfl rfl ?_
  refine Sm_if_ne K (eo ek_M_notThere (i := 2) rfl) (fun c2 => ?_) (fun c2 => ?_)
  · rw [if_neg c2] at h
    refine Sm_run K ek_M_notThere 5 1 rfl ?_
    obtain ⟨a3, e_a3, h⟩ := Option.bind_eq_some_iff.mp h
    refine Sm_gr K (eo ek_M_notThere (i := 6) rfl) e_a3 ?_
    refine Sm_run K ek_M_notThere 7 1 rfl ?_
    obtain ⟨v4, e_v4, h⟩ := Option.bind_eq_some_iff.mp h
    refine Sm_rd K (eok_i (eo ek_M_notThere (i := 8) rfl) rfl) e_v4 ?_
    refine Sm_if_ne K (eo ek_M_notThere (i := 9) rfl) (fun c5 => ?_) (fun c5 => ?_)
    · rw [if_neg c5] at h
      refine Sm_run K ek_M_notThere 12 1 rfl ?_
      exact Sm_le (leR_n (leR_n leR_nil)) (s_M_notThere_27 K hQ _ _ h)
    · rw [if_pos c5] at h
      refine Sm_run K ek_M_notThere 10 2 rfl ?_
      exact Sm_le (leR_n (leR_n leR_nil)) (s_M_notThere_27 K hQ _ _ h)
  · rw [if_pos c2] at h
    refine Sm_run K ek_M_notThere 3 2 rfl ?_
    exact Sm_le (leR_n (leR_n leR_nil)) (s_M_notThere_27 K hQ _ _ h)
def F_M_notThere (t : Nat) (x1 : Int32) (w : A_W) : Option (Int32 × A_W) := F_M_notThere_0 t x1 w
theorem cn_M_notThere {G : Gx} {t : Nat} {x1 : Int32} {w : A_W} {res : Int32 × A_W} (h : F_M_notThere t x1 w = some res) : Cn G y_M_notThere c_M_notThere 2 (some .int) rm_M_notThere [.ref t, .int x1] w (some (.int res.1)) res.2 :=
  Cn_of (own := 4) cy_M_notThere rfl rfl (Nat.le_of_ble_eq_true rfl) rfl (fun X K _ hQ => Sm_le (leR_s (leR_s leR_nil)) (s_M_notThere_0 K hQ _ _ _ h))
/-! EveningCloakModel.notAsked(II)I -/
abbrev c_M_notAsked : ByteArray := prog_6_method_65_code
def y_M_notAsked : MethodName := ⟨"EveningCloakModel", "notAsked", "(II)I"⟩
def rm_M_notAsked : Room := { frames := 3, cells := 0, slots := 0, locals := 63 }
theorem cy_M_notAsked : Cy y_M_notAsked c_M_notAsked 4 (some .int) 2 := ⟨lgm 1057 (by decide +kernel) rfl, lgm 73 (by decide +kernel) rfl, by decide +kernel, by decide +kernel⟩
theorem im_M_notAsked : Cond.instanceMethod y_M_notAsked ∈ lg := lgm 1056 (by decide +kernel) rfl
theorem se_M_notAsked : Cond.selects y_M_notAsked.cls y_M_notAsked y_M_notAsked ∈ lg := lgm 49 (by decide +kernel) rfl
def e_M_notAsked : List Ent := [
  (0, .aload_n 0, 1, 1, .null, 0, 0, 0),
  (1, .iload_n 1, 1, 2, .null, 0, 0, 0),
  (2, .invokevirtual 169, 3, 5, .null, 0, 0, 0),
  (5, .istore_n 3, 1, 6, .null, 0, 0, 0),
  (6, .iload_n 3, 1, 7, .null, 0, 0, 0),
  (7, .ifCond .ne 16, 3, 23, .null, 0, 0, 0),
  (10, .aload_n 0, 1, 11, .null, 0, 0, 0),
  (11, .iload_n 2, 1, 12, .null, 0, 0, 0),
  (12, .invokevirtual 88, 3, 15, .null, 0, 0, 0),
  (15, .ifCond .ne 8, 3, 23, .null, 0, 0, 0),
  (18, .ldc 34, 2, 20, .int (-1000001), 0, 0, 825),
  (20, .goto 4, 3, 24, .null, 0, 0, 0),
  (23, .iload_n 3, 1, 24, .null, 0, 0, 0),
  (24, .ireturn, 1, 25, .null, 0, 0, 0)]
set_option maxRecDepth 100000 in
theorem ek_M_notAsked : e_M_notAsked.all (eok 4 c_M_notAsked) = true := by decide +kernel
def F_M_notAsked_24 (y0 : Int32) (w : A_W) : Option (Int32 × A_W) :=
  some (y0, w)
def F_M_notAsked_23 (x3 : Int32) (w : A_W) : Option (Int32 × A_W) :=
  F_M_notAsked_24 x3 w
def F_M_notAsked_0 (t : Nat) (x1 : Int32) (x2 : Int32) (w : A_W) : Option (Int32 × A_W) :=
  (ob w t 4).bind fun o2 =>
  (F_M_notThere t x1 w).bind fun p1 =>
  if p1.1 = 0 then
    (ob p1.2 t 4).bind fun o5 =>
    (F_M_isDeposit t x2 p1.2).bind fun p4 =>
    if p4.1 = 0 then
      F_M_notAsked_24 (-1000001) p4.2
    else
      F_M_notAsked_23 p1.1 p4.2
  else
    F_M_notAsked_23 p1.1 p1.2
set_option maxHeartbeats 4000000 in
set_option maxRecDepth 100000 in
theorem s_M_notAsked_24 {G : Gx} {X : Cx} {res : Int32 × A_W} (K : Ok G X 4 c_M_notAsked 4 (some .int) rm_M_notAsked) (hQ : QQ G X (some (.int res.1)) res.2 0 0) (y0 : Int32) (w : A_W) (h : F_M_notAsked_24 y0 w = some res) : Sm G X w 0 0 [none, none, none, none] [.int y0] 24 := by
  unfold F_M_notAsked_24 at h
  cases h
  exact Sm_reti K hQ (eok_i (eo ek_M_notAsked (i := 13) rfl) rfl)
set_option maxHeartbeats 4000000 in
set_option maxRecDepth 100000 in
theorem s_M_notAsked_23 {G : Gx} {X : Cx} {res : Int32 × A_W} (K : Ok G X 4 c_M_notAsked 4 (some .int) rm_M_notAsked) (hQ : QQ G X (some (.int res.1)) res.2 0 0) (x3 : Int32) (w : A_W) (h : F_M_notAsked_23 x3 w = some res) : Sm G X w 0 0 [none, none, none, some (.int x3)] [] 23 := by
  unfold F_M_notAsked_23 at h
  refine Sm_run K ek_M_notAsked 12 1 rfl ?_
  exact Sm_le (leR_n (leR_n (leR_n (leR_n leR_nil)))) (s_M_notAsked_24 K hQ _ _ h)
set_option maxHeartbeats 4000000 in
set_option maxRecDepth 100000 in
theorem s_M_notAsked_0 {G : Gx} {X : Cx} {res : Int32 × A_W} (K : Ok G X 4 c_M_notAsked 4 (some .int) rm_M_notAsked) (hQ : QQ G X (some (.int res.1)) res.2 0 0) (t : Nat) (x1 : Int32) (x2 : Int32) (w : A_W) (h : F_M_notAsked_0 t x1 x2 w = some res) : Sm G X w 0 0 [some (.ref t), some (.int x1), some (.int x2), none] [] 0 := by
  unfold F_M_notAsked_0 at h
  refine Sm_run K ek_M_notAsked 0 2 rfl ?_
  obtain ⟨o2, e_o2, h⟩ := Option.bind_eq_some_iff.mp h
  obtain ⟨p1, e_p1, h⟩ := Option.bind_eq_some_iff.mp h
  refine Sm_callV K (eok_i (eo ek_M_notAsked (i := 2) rfl) rfl) cy_M_notThere im_M_notThere se_M_notThere (lgm 1058 (by decide +kernel) rfl) ⟨Nat.le_of_ble_eq_true rfl, Nat.le_of_ble_eq_true rfl⟩ (as := [.int x1]) (b := t) (st := []) (ob_e e_o2) (by decide) rfl rfl rfl rfl (Nat.le_of_ble_eq_true rfl) ⟨Nat.le_of_ble_eq_true rfl, Nat.le_of_ble_eq_true rfl⟩ (cn_M_notThere e_p1) ?_
  refine Sm_eq (st1 := .int p1.1 :: []) (nc1 := 0) (ns1 := 0) rfl rfl rfl ?_
  refine Sm_run K ek_M_notAsked 3 2 rfl ?_
  refine Sm_if_ne K (eo ek_M_notAsked (i := 5) rfl) (fun c3 => ?_) (fun c3 => ?_)
  · rw [if_neg c3] at h
    exact Sm_le (leR_n (leR_n (leR_n (leR_s leR_nil)))) (s_M_notAsked_23 K hQ _ _ h)
  · rw [if_pos c3] at h
    refine Sm_run K ek_M_notAsked 6 2 rfl ?_
    obtain ⟨o5, e_o5, h⟩ := Option.bind_eq_some_iff.mp h
    obtain ⟨p4, e_p4, h⟩ := Option.bind_eq_some_iff.mp h
    refine Sm_callV K (eok_i (eo ek_M_notAsked (i := 8) rfl) rfl) cy_M_isDeposit im_M_isDeposit se_M_isDeposit (lgm 863 (by decide +kernel) rfl) ⟨Nat.le_of_ble_eq_true rfl, Nat.le_of_ble_eq_true rfl⟩ (as := [.int x2]) (b := t) (st := []) (ob_e e_o5) (by decide) rfl rfl rfl rfl (Nat.le_of_ble_eq_true rfl) ⟨Nat.le_of_ble_eq_true rfl, Nat.le_of_ble_eq_true rfl⟩ (cn_M_isDeposit e_p4) ?_
    refine Sm_eq (st1 := .int p4.1 :: []) (nc1 := 0) (ns1 := 0) rfl rfl rfl ?_
    refine Sm_if_ne K (eo ek_M_notAsked (i := 9) rfl) (fun c6 => ?_) (fun c6 => ?_)
    · rw [if_neg c6] at h
      exact Sm_le (leR_n (leR_n (leR_n (leR_s leR_nil)))) (s_M_notAsked_23 K hQ _ _ h)
    · rw [if_pos c6] at h
      refine Sm_run K ek_M_notAsked 10 2 rfl ?_
      exact Sm_le (leR_n (leR_n (leR_n (leR_n leR_nil)))) (s_M_notAsked_24 K hQ _ _ h)
def F_M_notAsked (t : Nat) (x1 : Int32) (x2 : Int32) (w : A_W) : Option (Int32 × A_W) := F_M_notAsked_0 t x1 x2 w
theorem cn_M_notAsked {G : Gx} {t : Nat} {x1 : Int32} {x2 : Int32} {w : A_W} {res : Int32 × A_W} (h : F_M_notAsked t x1 x2 w = some res) : Cn G y_M_notAsked c_M_notAsked 4 (some .int) rm_M_notAsked [.ref t, .int x1, .int x2] w (some (.int res.1)) res.2 :=
  Cn_of (own := 4) cy_M_notAsked rfl rfl (Nat.le_of_ble_eq_true rfl) rfl (fun X K _ hQ => Sm_le (leR_s (leR_s (leR_s (leR_n leR_nil)))) (s_M_notAsked_0 K hQ _ _ _ _ h))
/-! EveningCloakModel.isTold(I)Z -/
abbrev c_M_isTold : ByteArray := prog_6_method_66_code
def y_M_isTold : MethodName := ⟨"EveningCloakModel", "isTold", "(I)Z"⟩
def rm_M_isTold : Room := { frames := 5, cells := 0, slots := 0, locals := 115 }
theorem cy_M_isTold : Cy y_M_isTold c_M_isTold 5 (some .boolean) 1 := ⟨lgm 1073 (by decide +kernel) rfl, lgm 73 (by decide +kernel) rfl, by decide +kernel, by decide +kernel⟩
theorem im_M_isTold : Cond.instanceMethod y_M_isTold ∈ lg := lgm 1072 (by decide +kernel) rfl
theorem se_M_isTold : Cond.selects y_M_isTold.cls y_M_isTold y_M_isTold ∈ lg := lgm 52 (by decide +kernel) rfl
def e_M_isTold : List Ent := [
  (0, .iconst 1, 1, 1, .int 1, 0, 0, 0),
  (1, .istore_n 2, 1, 2, .null, 0, 0, 0),
  (2, .iconst 0, 1, 3, .int 0, 0, 0, 0),
  (3, .istore_n 3, 1, 4, .null, 0, 0, 0),
  (4, .iload_n 3, 1, 5, .null, 0, 0, 0),
  (5, .aload_n 0, 1, 6, .null, 0, 0, 0),
  (6, .getfield 25, 3, 9, .null, 4, 6, 768),
  (9, .iload_n 1, 1, 10, .null, 0, 0, 0),
  (10, .iaload, 1, 11, .null, 0, 0, 0),
  (11, .if_icmp .ge 58, 3, 69, .null, 0, 0, 0),
  (14, .iload_n 3, 1, 15, .null, 0, 0, 0),
  (15, .bipush 8, 2, 17, .int 8, 0, 0, 0),
  (17, .if_icmp .ge 52, 3, 69, .null, 0, 0, 0),
  (20, .iload_n 2, 1, 21, .null, 0, 0, 0),
  (21, .ifCond .eq 48, 3, 69, .null, 0, 0, 0),
  (24, .aload_n 0, 1, 25, .null, 0, 0, 0),
  (25, .getfield 28, 3, 28, .null, 4, 7, 769),
  (28, .bipush 40, 2, 30, .int 40, 0, 0, 0),
  (30, .iload_n 1, 1, 31, .null, 0, 0, 0),
  (31, .imul, 1, 32, .null, 0, 0, 0),
  (32, .iload_n 3, 1, 33, .null, 0, 0, 0),
  (33, .iadd, 1, 34, .null, 0, 0, 0),
  (34, .iaload, 1, 35, .null, 0, 0, 0),
  (35, .istore 4, 2, 37, .null, 0, 0, 0),
  (37, .iload 4, 2, 39, .null, 0, 0, 0),
  (39, .iconst (-1), 1, 40, .int (-1), 0, 0, 0),
  (40, .if_icmp .eq 13, 3, 53, .null, 0, 0, 0),
  (43, .iload 4, 2, 45, .null, 0, 0, 0),
  (45, .aload_n 0, 1, 46, .null, 0, 0, 0),
  (46, .iconst 0, 1, 47, .int 0, 0, 0, 0),
  (47, .invokevirtual 62, 3, 50, .null, 0, 0, 0),
  (50, .if_icmp .ne 7, 3, 57, .null, 0, 0, 0),
  (53, .iconst 1, 1, 54, .int 1, 0, 0, 0),
  (54, .goto 4, 3, 58, .null, 0, 0, 0),
  (57, .iconst 0, 1, 58, .int 0, 0, 0, 0),
  (58, .istore_n 2, 1, 59, .null, 0, 0, 0),
  (59, .aload_n 0, 1, 60, .null, 0, 0, 0),
  (60, .invokevirtual 118, 3, 63, .null, 0, 0, 0),
  (63, .iinc 3 1, 3, 66, .int 1, 0, 0, 0),
  (66, .goto (-62), 3, 4, .null, 0, 0, 0),
  (69, .aload_n 0, 1, 70, .null, 0, 0, 0),
  (70, .invokevirtual 145, 3, 73, .null, 0, 0, 0),
  (73, .iload_n 2, 1, 74, .null, 0, 0, 0),
  (74, .ireturn, 1, 75, .null, 0, 0, 0)]
set_option maxRecDepth 100000 in
theorem ek_M_isTold : e_M_isTold.all (eok 4 c_M_isTold) = true := by decide +kernel
def F_M_isTold_58 (k4 : Nat → Int32 → Int32 → Int32 → A_W → Option (Int32 × A_W)) (t : Nat) (x1 : Int32) (x3 : Int32) (y0 : Int32) (w : A_W) : Option (Int32 × A_W) :=
  (ob w t 4).bind fun o2 =>
  (F_M_goes t w).bind fun p1 =>
  k4 t x1 y0 (x3 + 1) p1
def F_M_isTold_53 (k4 : Nat → Int32 → Int32 → Int32 → A_W → Option (Int32 × A_W)) (t : Nat) (x1 : Int32) (x3 : Int32) (w : A_W) : Option (Int32 × A_W) :=
  F_M_isTold_58 k4 t x1 x3 1 w
def F_M_isTold_69 (t : Nat) (x2 : Int32) (w : A_W) : Option (Int32 × A_W) :=
  (ob w t 4).bind fun o2 =>
  (F_M_putsBack t w).bind fun p1 =>
  (bz x2).bind fun b3 =>
  some (b3, p1)
def F_M_isTold_4 : Nat → Nat → Int32 → Int32 → Int32 → A_W → Option (Int32 × A_W)
  | 0, _, _, _, _, _ => none
  | n + 1, t, x1, x2, x3, w =>
    (gr w t 4 6).bind fun a1 =>
    (rd w a1 x1).bind fun v2 =>
    if v2 ≤ x3 then
      F_M_isTold_69 t x2 w
    else
      if 8 ≤ x3 then
        F_M_isTold_69 t x2 w
      else
        if x2 = 0 then
          F_M_isTold_69 t x2 w
        else
          (gr w t 4 7).bind fun a6 =>
          (rd w a6 ((40 * x1) + x3)).bind fun v7 =>
          if v7 = (-1) then
            F_M_isTold_53 (F_M_isTold_4 n) t x1 x3 w
          else
            (ob w t 4).bind fun o10 =>
            (F_M_lightAt t 0 w).bind fun p9 =>
            if v7 = p9.1 then
              F_M_isTold_53 (F_M_isTold_4 n) t x1 x3 p9.2
            else
              F_M_isTold_58 (F_M_isTold_4 n) t x1 x3 0 p9.2
def F_M_isTold_0 (t : Nat) (x1 : Int32) (w : A_W) : Option (Int32 × A_W) :=
  F_M_isTold_4 FU t x1 1 0 w
set_option maxHeartbeats 4000000 in
set_option maxRecDepth 100000 in
theorem s_M_isTold_58 {G : Gx} {X : Cx} {res : Int32 × A_W} (K : Ok G X 4 c_M_isTold 5 (some .boolean) rm_M_isTold) (hQ : QQ G X (some (.int res.1)) res.2 0 0) {k4 : Nat → Int32 → Int32 → Int32 → A_W → Option (Int32 × A_W)} (hk4 : ∀ (t : Nat) (x1 : Int32) (x2 : Int32) (x3 : Int32) (w : A_W), k4 t x1 x2 x3 w = some res → Sm G X w 0 0 [some (.ref t), some (.int x1), some (.int x2), some (.int x3), none] [] 4) (t : Nat) (x1 : Int32) (x3 : Int32) (y0 : Int32) (w : A_W) (h : F_M_isTold_58 k4 t x1 x3 y0 w = some res) : Sm G X w 0 0 [some (.ref t), some (.int x1), none, some (.int x3), none] [.int y0] 58 := by
  unfold F_M_isTold_58 at h
  refine Sm_run K ek_M_isTold 35 2 rfl ?_
  obtain ⟨o2, e_o2, h⟩ := Option.bind_eq_some_iff.mp h
  obtain ⟨p1, e_p1, h⟩ := Option.bind_eq_some_iff.mp h
  refine Sm_callV K (eok_i (eo ek_M_isTold (i := 37) rfl) rfl) cy_M_goes im_M_goes se_M_goes (lgm 944 (by decide +kernel) rfl) ⟨Nat.le_of_ble_eq_true rfl, Nat.le_of_ble_eq_true rfl⟩ (as := []) (b := t) (st := []) (ob_e e_o2) (by decide) rfl rfl rfl rfl (Nat.le_of_ble_eq_true rfl) ⟨Nat.le_of_ble_eq_true rfl, Nat.le_of_ble_eq_true rfl⟩ (cn_M_goes e_p1) ?_
  refine Sm_eq (st1 := []) (nc1 := 0) (ns1 := 0) rfl rfl rfl ?_
  refine Sm_run K ek_M_isTold 38 2 rfl ?_
  exact Sm_le (leR_s (leR_s (leR_s (leR_s (leR_n leR_nil))))) (hk4 _ _ _ _ _ h)
set_option maxHeartbeats 4000000 in
set_option maxRecDepth 100000 in
theorem s_M_isTold_53 {G : Gx} {X : Cx} {res : Int32 × A_W} (K : Ok G X 4 c_M_isTold 5 (some .boolean) rm_M_isTold) (hQ : QQ G X (some (.int res.1)) res.2 0 0) {k4 : Nat → Int32 → Int32 → Int32 → A_W → Option (Int32 × A_W)} (hk4 : ∀ (t : Nat) (x1 : Int32) (x2 : Int32) (x3 : Int32) (w : A_W), k4 t x1 x2 x3 w = some res → Sm G X w 0 0 [some (.ref t), some (.int x1), some (.int x2), some (.int x3), none] [] 4) (t : Nat) (x1 : Int32) (x3 : Int32) (w : A_W) (h : F_M_isTold_53 k4 t x1 x3 w = some res) : Sm G X w 0 0 [some (.ref t), some (.int x1), none, some (.int x3), none] [] 53 := by
  unfold F_M_isTold_53 at h
  refine Sm_run K ek_M_isTold 32 2 rfl ?_
  exact Sm_le (leR_s (leR_s (leR_n (leR_s (leR_n leR_nil))))) (s_M_isTold_58 K hQ hk4 _ _ _ _ _ h)
set_option maxHeartbeats 4000000 in
set_option maxRecDepth 100000 in
theorem s_M_isTold_69 {G : Gx} {X : Cx} {res : Int32 × A_W} (K : Ok G X 4 c_M_isTold 5 (some .boolean) rm_M_isTold) (hQ : QQ G X (some (.int res.1)) res.2 0 0) (t : Nat) (x2 : Int32) (w : A_W) (h : F_M_isTold_69 t x2 w = some res) : Sm G X w 0 0 [some (.ref t), none, some (.int x2), none, none] [] 69 := by
  unfold F_M_isTold_69 at h
  refine Sm_run K ek_M_isTold 40 1 rfl ?_
  obtain ⟨o2, e_o2, h⟩ := Option.bind_eq_some_iff.mp h
  obtain ⟨p1, e_p1, h⟩ := Option.bind_eq_some_iff.mp h
  refine Sm_callV K (eok_i (eo ek_M_isTold (i := 41) rfl) rfl) cy_M_putsBack im_M_putsBack se_M_putsBack (lgm 987 (by decide +kernel) rfl) ⟨Nat.le_of_ble_eq_true rfl, Nat.le_of_ble_eq_true rfl⟩ (as := []) (b := t) (st := []) (ob_e e_o2) (by decide) rfl rfl rfl rfl (Nat.le_of_ble_eq_true rfl) ⟨Nat.le_of_ble_eq_true rfl, Nat.le_of_ble_eq_true rfl⟩ (cn_M_putsBack e_p1) ?_
  refine Sm_eq (st1 := []) (nc1 := 0) (ns1 := 0) rfl rfl rfl ?_
  refine Sm_run K ek_M_isTold 42 1 rfl ?_
  obtain ⟨b3, e_b3, h⟩ := Option.bind_eq_some_iff.mp h
  cases h
  exact Sm_retz K e_b3 hQ (eok_i (eo ek_M_isTold (i := 43) rfl) rfl)
set_option maxHeartbeats 4000000 in
set_option maxRecDepth 100000 in
theorem s_M_isTold_4 {G : Gx} {X : Cx} {res : Int32 × A_W} (K : Ok G X 4 c_M_isTold 5 (some .boolean) rm_M_isTold) (hQ : QQ G X (some (.int res.1)) res.2 0 0) : ∀ (n : Nat) (t : Nat) (x1 : Int32) (x2 : Int32) (x3 : Int32) (w : A_W), F_M_isTold_4 n t x1 x2 x3 w = some res → Sm G X w 0 0 [some (.ref t), some (.int x1), some (.int x2), some (.int x3), none] [] 4 := by
  intro n
  induction n with
  | zero => intro t x1 x2 x3 w h; cases h
  | succ n ih =>
    intro t x1 x2 x3 w h
    rw [F_M_isTold_4] at h
    refine Sm_run K ek_M_isTold 4 2 rfl ?_
    obtain ⟨a1, e_a1, h⟩ := Option.bind_eq_some_iff.mp h
    refine Sm_gr K (eo ek_M_isTold (i := 6) rfl) e_a1 ?_
    refine Sm_run K ek_M_isTold 7 1 rfl ?_
    obtain ⟨v2, e_v2, h⟩ := Option.bind_eq_some_iff.mp h
    refine Sm_rd K (eok_i (eo ek_M_isTold (i := 8) rfl) rfl) e_v2 ?_
    refine Sm_ic_ge K (eo ek_M_isTold (i := 9) rfl) (fun c3 => ?_) (fun c3 => ?_)
    · rw [if_pos c3] at h
      exact Sm_le (leR_s (leR_n (leR_s (leR_n (leR_n leR_nil))))) (s_M_isTold_69 K hQ _ _ _ h)
    · rw [if_neg c3] at h
      refine Sm_run K ek_M_isTold 10 2 rfl ?_
      refine Sm_ic_ge K (eo ek_M_isTold (i := 12) rfl) (fun c4 => ?_) (fun c4 => ?_)
      · rw [if_pos c4] at h
        exact Sm_le (leR_s (leR_n (leR_s (leR_n (leR_n leR_nil))))) (s_M_isTold_69 K hQ _ _ _ h)
      · rw [if_neg c4] at h
        refine Sm_run K ek_M_isTold 13 1 rfl ?_
        refine Sm_if_eq K (eo ek_M_isTold (i := 14) rfl) (fun c5 => ?_) (fun c5 => ?_)
        · rw [if_pos c5] at h
          exact Sm_le (leR_s (leR_n (leR_s (leR_n (leR_n leR_nil))))) (s_M_isTold_69 K hQ _ _ _ h)
        · rw [if_neg c5] at h
          refine Sm_run K ek_M_isTold 15 1 rfl ?_
          obtain ⟨a6, e_a6, h⟩ := Option.bind_eq_some_iff.mp h
          refine Sm_gr K (eo ek_M_isTold (i := 16) rfl) e_a6 ?_
          refine Sm_run K ek_M_isTold 17 5 rfl ?_
          obtain ⟨v7, e_v7, h⟩ := Option.bind_eq_some_iff.mp h
          refine Sm_rd K (eok_i (eo ek_M_isTold (i := 22) rfl) rfl) e_v7 ?_
          refine Sm_run K ek_M_isTold 23 3 rfl ?_
          refine Sm_ic_eq K (eo ek_M_isTold (i := 26) rfl) (fun c8 => ?_) (fun c8 => ?_)
          · rw [if_pos c8] at h
            exact Sm_le (leR_s (leR_s (leR_n (leR_s (leR_n leR_nil))))) (s_M_isTold_53 K hQ ih _ _ _ _ h)
          · rw [if_neg c8] at h
            refine Sm_run K ek_M_isTold 27 3 rfl ?_
            obtain ⟨o10, e_o10, h⟩ := Option.bind_eq_some_iff.mp h
            obtain ⟨p9, e_p9, h⟩ := Option.bind_eq_some_iff.mp h
            refine Sm_callV K (eok_i (eo ek_M_isTold (i := 30) rfl) rfl) cy_M_lightAt im_M_lightAt se_M_lightAt (lgm 886 (by decide +kernel) rfl) ⟨Nat.le_of_ble_eq_true rfl, Nat.le_of_ble_eq_true rfl⟩ (as := [.int 0]) (b := t) (st := [.int v7]) (ob_e e_o10) (by decide) rfl rfl rfl rfl (Nat.le_of_ble_eq_true rfl) ⟨Nat.le_of_ble_eq_true rfl, Nat.le_of_ble_eq_true rfl⟩ (cn_M_lightAt e_p9) ?_
            refine Sm_eq (st1 := .int p9.1 :: [.int v7]) (nc1 := 0) (ns1 := 0) rfl rfl rfl ?_
            refine Sm_ic_ne K (eo ek_M_isTold (i := 31) rfl) (fun c11 => ?_) (fun c11 => ?_)
            · rw [if_neg c11] at h
              refine Sm_run K ek_M_isTold 34 1 rfl ?_
              exact Sm_le (leR_s (leR_s (leR_n (leR_s (leR_n leR_nil))))) (s_M_isTold_58 K hQ ih _ _ _ _ _ h)
            · rw [if_pos c11] at h
              exact Sm_le (leR_s (leR_s (leR_n (leR_s (leR_n leR_nil))))) (s_M_isTold_53 K hQ ih _ _ _ _ h)
set_option maxHeartbeats 4000000 in
set_option maxRecDepth 100000 in
theorem s_M_isTold_0 {G : Gx} {X : Cx} {res : Int32 × A_W} (K : Ok G X 4 c_M_isTold 5 (some .boolean) rm_M_isTold) (hQ : QQ G X (some (.int res.1)) res.2 0 0) (t : Nat) (x1 : Int32) (w : A_W) (h : F_M_isTold_0 t x1 w = some res) : Sm G X w 0 0 [some (.ref t), some (.int x1), none, none, none] [] 0 := by
  unfold F_M_isTold_0 at h
  refine Sm_run K ek_M_isTold 0 4 rfl ?_
  exact Sm_le (leR_s (leR_s (leR_s (leR_s (leR_n leR_nil))))) (s_M_isTold_4 K hQ FU _ _ _ _ _ h)
def F_M_isTold (t : Nat) (x1 : Int32) (w : A_W) : Option (Int32 × A_W) := F_M_isTold_0 t x1 w
theorem cn_M_isTold {G : Gx} {t : Nat} {x1 : Int32} {w : A_W} {res : Int32 × A_W} (h : F_M_isTold t x1 w = some res) : Cn G y_M_isTold c_M_isTold 5 (some .boolean) rm_M_isTold [.ref t, .int x1] w (some (.int res.1)) res.2 :=
  Cn_of (own := 4) cy_M_isTold rfl rfl (Nat.le_of_ble_eq_true rfl) rfl (fun X K _ hQ => Sm_le (leR_s (leR_s (leR_n (leR_n (leR_n leR_nil))))) (s_M_isTold_0 K hQ _ _ _ h))
end
section
/-! EveningCloakModel.allowed(III)I -/
abbrev c_M_allowed : ByteArray := prog_6_method_67_code
def y_M_allowed : MethodName := ⟨"EveningCloakModel", "allowed", "(III)I"⟩
def rm_M_allowed : Room := { frames := 6, cells := 0, slots := 0, locals := 139 }
theorem cy_M_allowed : Cy y_M_allowed c_M_allowed 6 (some .int) 3 := ⟨lgm 1069 (by decide +kernel) rfl, lgm 73 (by decide +kernel) rfl, by decide +kernel, by decide +kernel⟩
theorem im_M_allowed : Cond.instanceMethod y_M_allowed ∈ lg := lgm 1068 (by decide +kernel) rfl
theorem se_M_allowed : Cond.selects y_M_allowed.cls y_M_allowed y_M_allowed ∈ lg := lgm 51 (by decide +kernel) rfl
def e_M_allowed : List Ent := [
  (0, .aload_n 0, 1, 1, .null, 0, 0, 0),
  (1, .invokevirtual 142, 3, 4, .null, 0, 0, 0),
  (4, .iconst 0, 1, 5, .int 0, 0, 0, 0),
  (5, .istore 4, 2, 7, .null, 0, 0, 0),
  (7, .iconst 0, 1, 8, .int 0, 0, 0, 0),
  (8, .istore 5, 2, 10, .null, 0, 0, 0),
  (10, .iload 5, 2, 12, .null, 0, 0, 0),
  (12, .iload_n 3, 1, 13, .null, 0, 0, 0),
  (13, .if_icmp .ge 38, 3, 51, .null, 0, 0, 0),
  (16, .aload_n 0, 1, 17, .null, 0, 0, 0),
  (17, .getfield 9, 3, 20, .null, 4, 0, 762),
  (20, .iload_n 2, 1, 21, .null, 0, 0, 0),
  (21, .iload 5, 2, 23, .null, 0, 0, 0),
  (23, .iastore, 1, 24, .null, 0, 0, 0),
  (24, .iload 4, 2, 26, .null, 0, 0, 0),
  (26, .aload_n 0, 1, 27, .null, 0, 0, 0),
  (27, .iload_n 1, 1, 28, .null, 0, 0, 0),
  (28, .invokevirtual 172, 3, 31, .null, 0, 0, 0),
  (31, .ifCond .eq 10, 3, 41, .null, 0, 0, 0),
  (34, .iconst 1, 1, 35, .int 1, 0, 0, 0),
  (35, .iload 5, 2, 37, .null, 0, 0, 0),
  (37, .ishl, 1, 38, .null, 0, 0, 0),
  (38, .goto 4, 3, 42, .null, 0, 0, 0),
  (41, .iconst 0, 1, 42, .int 0, 0, 0, 0),
  (42, .ior, 1, 43, .null, 0, 0, 0),
  (43, .istore 4, 2, 45, .null, 0, 0, 0),
  (45, .iinc 5 1, 3, 48, .int 1, 0, 0, 0),
  (48, .goto (-38), 3, 10, .null, 0, 0, 0),
  (51, .iload 4, 2, 53, .null, 0, 0, 0),
  (53, .ireturn, 1, 54, .null, 0, 0, 0)]
set_option maxRecDepth 100000 in
theorem ek_M_allowed : e_M_allowed.all (eok 4 c_M_allowed) = true := by decide +kernel
def F_M_allowed_42 (k10 : Nat → Int32 → Int32 → Int32 → Int32 → Int32 → A_W → Option (Int32 × A_W)) (t : Nat) (x1 : Int32) (x2 : Int32) (x3 : Int32) (x5 : Int32) (y0 : Int32) (y1 : Int32) (w : A_W) : Option (Int32 × A_W) :=
  k10 t x1 x2 x3 (y0 ||| y1) (x5 + 1) w
def F_M_allowed_10 : Nat → Nat → Int32 → Int32 → Int32 → Int32 → Int32 → A_W → Option (Int32 × A_W)
  | 0, _, _, _, _, _, _, _ => none
  | n + 1, t, x1, x2, x3, x4, x5, w =>
    if x3 ≤ x5 then
      some (x4, w)
    else
      (gr w t 4 0).bind fun a2 =>
      (wr w a2 x2 x5).bind fun w3 =>
      (ob w3 t 4).bind fun o5 =>
      (F_M_isTold t x1 w3).bind fun p4 =>
      if p4.1 = 0 then
        F_M_allowed_42 (F_M_allowed_10 n) t x1 x2 x3 x5 x4 0 p4.2
      else
        F_M_allowed_42 (F_M_allowed_10 n) t x1 x2 x3 x5 x4 (1 <<< (x5 &&& 31)) p4.2
def F_M_allowed_0 (t : Nat) (x1 : Int32) (x2 : Int32) (x3 : Int32) (w : A_W) : Option (Int32 × A_W) :=
  (ob w t 4).bind fun o2 =>
  (F_M_thinks t w).bind fun p1 =>
  F_M_allowed_10 FU t x1 x2 x3 0 0 p1
set_option maxHeartbeats 4000000 in
set_option maxRecDepth 100000 in
theorem s_M_allowed_42 {G : Gx} {X : Cx} {res : Int32 × A_W} (K : Ok G X 4 c_M_allowed 6 (some .int) rm_M_allowed) (hQ : QQ G X (some (.int res.1)) res.2 0 0) {k10 : Nat → Int32 → Int32 → Int32 → Int32 → Int32 → A_W → Option (Int32 × A_W)} (hk10 : ∀ (t : Nat) (x1 : Int32) (x2 : Int32) (x3 : Int32) (x4 : Int32) (x5 : Int32) (w : A_W), k10 t x1 x2 x3 x4 x5 w = some res → Sm G X w 0 0 [some (.ref t), some (.int x1), some (.int x2), some (.int x3), some (.int x4), some (.int x5)] [] 10) (t : Nat) (x1 : Int32) (x2 : Int32) (x3 : Int32) (x5 : Int32) (y0 : Int32) (y1 : Int32) (w : A_W) (h : F_M_allowed_42 k10 t x1 x2 x3 x5 y0 y1 w = some res) : Sm G X w 0 0 [some (.ref t), some (.int x1), some (.int x2), some (.int x3), none, some (.int x5)] [.int y1, .int y0] 42 := by
  unfold F_M_allowed_42 at h
  refine Sm_run K ek_M_allowed 24 4 rfl ?_
  exact Sm_le (leR_s (leR_s (leR_s (leR_s (leR_s (leR_s leR_nil)))))) (hk10 _ _ _ _ _ _ _ h)
set_option maxHeartbeats 4000000 in
set_option maxRecDepth 100000 in
theorem s_M_allowed_10 {G : Gx} {X : Cx} {res : Int32 × A_W} (K : Ok G X 4 c_M_allowed 6 (some .int) rm_M_allowed) (hQ : QQ G X (some (.int res.1)) res.2 0 0) : ∀ (n : Nat) (t : Nat) (x1 : Int32) (x2 : Int32) (x3 : Int32) (x4 : Int32) (x5 : Int32) (w : A_W), F_M_allowed_10 n t x1 x2 x3 x4 x5 w = some res → Sm G X w 0 0 [some (.ref t), some (.int x1), some (.int x2), some (.int x3), some (.int x4), some (.int x5)] [] 10 := by
  intro n
  induction n with
  | zero => intro t x1 x2 x3 x4 x5 w h; cases h
  | succ n ih =>
    intro t x1 x2 x3 x4 x5 w h
    rw [F_M_allowed_10] at h
    refine Sm_run K ek_M_allowed 6 2 rfl ?_
    refine Sm_ic_ge K (eo ek_M_allowed (i := 8) rfl) (fun c1 => ?_) (fun c1 => ?_)
    · rw [if_pos c1] at h
      refine Sm_run K ek_M_allowed 28 1 rfl ?_
      cases h
      exact Sm_reti K hQ (eok_i (eo ek_M_allowed (i := 29) rfl) rfl)
    · rw [if_neg c1] at h
      refine Sm_run K ek_M_allowed 9 1 rfl ?_
      obtain ⟨a2, e_a2, h⟩ := Option.bind_eq_some_iff.mp h
      refine Sm_gr K (eo ek_M_allowed (i := 10) rfl) e_a2 ?_
      refine Sm_run K ek_M_allowed 11 2 rfl ?_
      obtain ⟨w3, e_w3, h⟩ := Option.bind_eq_some_iff.mp h
      refine Sm_wr K (eok_i (eo ek_M_allowed (i := 13) rfl) rfl) e_w3 ?_
      refine Sm_run K ek_M_allowed 14 3 rfl ?_
      obtain ⟨o5, e_o5, h⟩ := Option.bind_eq_some_iff.mp h
      obtain ⟨p4, e_p4, h⟩ := Option.bind_eq_some_iff.mp h
      refine Sm_callV K (eok_i (eo ek_M_allowed (i := 17) rfl) rfl) cy_M_isTold im_M_isTold se_M_isTold (lgm 1070 (by decide +kernel) rfl) ⟨Nat.le_of_ble_eq_true rfl, Nat.le_of_ble_eq_true rfl⟩ (as := [.int x1]) (b := t) (st := [.int x4]) (ob_e e_o5) (by decide) rfl rfl rfl rfl (Nat.le_of_ble_eq_true rfl) ⟨Nat.le_of_ble_eq_true rfl, Nat.le_of_ble_eq_true rfl⟩ (cn_M_isTold e_p4) ?_
      refine Sm_eq (st1 := .int p4.1 :: [.int x4]) (nc1 := 0) (ns1 := 0) rfl rfl rfl ?_
      refine Sm_if_eq K (eo ek_M_allowed (i := 18) rfl) (fun c6 => ?_) (fun c6 => ?_)
      · rw [if_pos c6] at h
        refine Sm_run K ek_M_allowed 23 1 rfl ?_
        exact Sm_le (leR_s (leR_s (leR_s (leR_s (leR_n (leR_s leR_nil)))))) (s_M_allowed_42 K hQ ih _ _ _ _ _ _ _ _ h)
      · rw [if_neg c6] at h
        refine Sm_run K ek_M_allowed 19 4 rfl ?_
        exact Sm_le (leR_s (leR_s (leR_s (leR_s (leR_n (leR_s leR_nil)))))) (s_M_allowed_42 K hQ ih _ _ _ _ _ _ _ _ h)
set_option maxHeartbeats 4000000 in
set_option maxRecDepth 100000 in
theorem s_M_allowed_0 {G : Gx} {X : Cx} {res : Int32 × A_W} (K : Ok G X 4 c_M_allowed 6 (some .int) rm_M_allowed) (hQ : QQ G X (some (.int res.1)) res.2 0 0) (t : Nat) (x1 : Int32) (x2 : Int32) (x3 : Int32) (w : A_W) (h : F_M_allowed_0 t x1 x2 x3 w = some res) : Sm G X w 0 0 [some (.ref t), some (.int x1), some (.int x2), some (.int x3), none, none] [] 0 := by
  unfold F_M_allowed_0 at h
  refine Sm_run K ek_M_allowed 0 1 rfl ?_
  obtain ⟨o2, e_o2, h⟩ := Option.bind_eq_some_iff.mp h
  obtain ⟨p1, e_p1, h⟩ := Option.bind_eq_some_iff.mp h
  refine Sm_callV K (eok_i (eo ek_M_allowed (i := 1) rfl) rfl) cy_M_thinks im_M_thinks se_M_thinks (lgm 980 (by decide +kernel) rfl) ⟨Nat.le_of_ble_eq_true rfl, Nat.le_of_ble_eq_true rfl⟩ (as := []) (b := t) (st := []) (ob_e e_o2) (by decide) rfl rfl rfl rfl (Nat.le_of_ble_eq_true rfl) ⟨Nat.le_of_ble_eq_true rfl, Nat.le_of_ble_eq_true rfl⟩ (cn_M_thinks e_p1) ?_
  refine Sm_eq (st1 := []) (nc1 := 0) (ns1 := 0) rfl rfl rfl ?_
  refine Sm_run K ek_M_allowed 2 4 rfl ?_
  exact Sm_le (leR_s (leR_s (leR_s (leR_s (leR_s (leR_s leR_nil)))))) (s_M_allowed_10 K hQ FU _ _ _ _ _ _ _ h)
def F_M_allowed (t : Nat) (x1 : Int32) (x2 : Int32) (x3 : Int32) (w : A_W) : Option (Int32 × A_W) := F_M_allowed_0 t x1 x2 x3 w
theorem cn_M_allowed {G : Gx} {t : Nat} {x1 : Int32} {x2 : Int32} {x3 : Int32} {w : A_W} {res : Int32 × A_W} (h : F_M_allowed t x1 x2 x3 w = some res) : Cn G y_M_allowed c_M_allowed 6 (some .int) rm_M_allowed [.ref t, .int x1, .int x2, .int x3] w (some (.int res.1)) res.2 :=
  Cn_of (own := 4) cy_M_allowed rfl rfl (Nat.le_of_ble_eq_true rfl) rfl (fun X K _ hQ => Sm_le (leR_s (leR_s (leR_s (leR_s (leR_n (leR_n leR_nil)))))) (s_M_allowed_0 K hQ _ _ _ _ _ h))
/-! EveningCloakModel.fits(II)I -/
abbrev c_M_fits : ByteArray := prog_6_method_68_code
def y_M_fits : MethodName := ⟨"EveningCloakModel", "fits", "(II)I"⟩
def rm_M_fits : Room := { frames := 7, cells := 0, slots := 0, locals := 164 }
theorem cy_M_fits : Cy y_M_fits c_M_fits 4 (some .int) 2 := ⟨lgm 1053 (by decide +kernel) rfl, lgm 73 (by decide +kernel) rfl, by decide +kernel, by decide +kernel⟩
theorem im_M_fits : Cond.instanceMethod y_M_fits ∈ lg := lgm 1051 (by decide +kernel) rfl
theorem se_M_fits : Cond.selects y_M_fits.cls y_M_fits y_M_fits ∈ lg := lgm 1052 (by decide +kernel) rfl
def e_M_fits : List Ent := [
  (0, .aload_n 0, 1, 1, .null, 0, 0, 0),
  (1, .iload_n 1, 1, 2, .null, 0, 0, 0),
  (2, .iload_n 2, 1, 3, .null, 0, 0, 0),
  (3, .invokevirtual 175, 3, 6, .null, 0, 0, 0),
  (6, .istore_n 3, 1, 7, .null, 0, 0, 0),
  (7, .iload_n 3, 1, 8, .null, 0, 0, 0),
  (8, .ifCond .eq 11, 3, 19, .null, 0, 0, 0),
  (11, .aload_n 0, 1, 12, .null, 0, 0, 0),
  (12, .iload_n 3, 1, 13, .null, 0, 0, 0),
  (13, .invokevirtual 36, 3, 16, .null, 0, 0, 0),
  (16, .goto 19, 3, 35, .null, 0, 0, 0),
  (19, .aload_n 0, 1, 20, .null, 0, 0, 0),
  (20, .iload_n 1, 1, 21, .null, 0, 0, 0),
  (21, .bipush 11, 2, 23, .int 11, 0, 0, 0),
  (23, .bipush 6, 2, 25, .int 6, 0, 0, 0),
  (25, .iload_n 2, 1, 26, .null, 0, 0, 0),
  (26, .imul, 1, 27, .null, 0, 0, 0),
  (27, .iadd, 1, 28, .null, 0, 0, 0),
  (28, .iconst 1, 1, 29, .int 1, 0, 0, 0),
  (29, .iadd, 1, 30, .null, 0, 0, 0),
  (30, .bipush 16, 2, 32, .int 16, 0, 0, 0),
  (32, .invokevirtual 178, 3, 35, .null, 0, 0, 0),
  (35, .ireturn, 1, 36, .null, 0, 0, 0)]
set_option maxRecDepth 100000 in
theorem ek_M_fits : e_M_fits.all (eok 4 c_M_fits) = true := by decide +kernel
def F_M_fits_35 (y0 : Int32) (w : A_W) : Option (Int32 × A_W) :=
  some (y0, w)
def F_M_fits_0 (t : Nat) (x1 : Int32) (x2 : Int32) (w : A_W) : Option (Int32 × A_W) :=
  (ob w t 4).bind fun o2 =>
  (F_M_notAsked t x1 x2 w).bind fun p1 =>
  if p1.1 = 0 then
    (ob p1.2 t 4).bind fun o5 =>
    (F_M_allowed t x1 ((11 + (6 * x2)) + 1) 16 p1.2).bind fun p4 =>
    F_M_fits_35 p4.1 p4.2
  else
    (ob p1.2 t 4).bind fun o7 =>
    (F_M_finds t p1.1 p1.2).bind fun p6 =>
    F_M_fits_35 p6.1 p6.2
set_option maxHeartbeats 4000000 in
set_option maxRecDepth 100000 in
theorem s_M_fits_35 {G : Gx} {X : Cx} {res : Int32 × A_W} (K : Ok G X 4 c_M_fits 4 (some .int) rm_M_fits) (hQ : QQ G X (some (.int res.1)) res.2 0 0) (y0 : Int32) (w : A_W) (h : F_M_fits_35 y0 w = some res) : Sm G X w 0 0 [none, none, none, none] [.int y0] 35 := by
  unfold F_M_fits_35 at h
  cases h
  exact Sm_reti K hQ (eok_i (eo ek_M_fits (i := 22) rfl) rfl)
set_option maxHeartbeats 4000000 in
set_option maxRecDepth 100000 in
theorem s_M_fits_0 {G : Gx} {X : Cx} {res : Int32 × A_W} (K : Ok G X 4 c_M_fits 4 (some .int) rm_M_fits) (hQ : QQ G X (some (.int res.1)) res.2 0 0) (t : Nat) (x1 : Int32) (x2 : Int32) (w : A_W) (h : F_M_fits_0 t x1 x2 w = some res) : Sm G X w 0 0 [some (.ref t), some (.int x1), some (.int x2), none] [] 0 := by
  unfold F_M_fits_0 at h
  refine Sm_run K ek_M_fits 0 3 rfl ?_
  obtain ⟨o2, e_o2, h⟩ := Option.bind_eq_some_iff.mp h
  obtain ⟨p1, e_p1, h⟩ := Option.bind_eq_some_iff.mp h
  refine Sm_callV K (eok_i (eo ek_M_fits (i := 3) rfl) rfl) cy_M_notAsked im_M_notAsked se_M_notAsked (lgm 1054 (by decide +kernel) rfl) ⟨Nat.le_of_ble_eq_true rfl, Nat.le_of_ble_eq_true rfl⟩ (as := [.int x1, .int x2]) (b := t) (st := []) (ob_e e_o2) (by decide) rfl rfl rfl rfl (Nat.le_of_ble_eq_true rfl) ⟨Nat.le_of_ble_eq_true rfl, Nat.le_of_ble_eq_true rfl⟩ (cn_M_notAsked e_p1) ?_
  refine Sm_eq (st1 := .int p1.1 :: []) (nc1 := 0) (ns1 := 0) rfl rfl rfl ?_
  refine Sm_run K ek_M_fits 4 2 rfl ?_
  refine Sm_if_eq K (eo ek_M_fits (i := 6) rfl) (fun c3 => ?_) (fun c3 => ?_)
  · rw [if_pos c3] at h
    refine Sm_run K ek_M_fits 11 10 rfl ?_
    obtain ⟨o5, e_o5, h⟩ := Option.bind_eq_some_iff.mp h
    obtain ⟨p4, e_p4, h⟩ := Option.bind_eq_some_iff.mp h
    refine Sm_callV K (eok_i (eo ek_M_fits (i := 21) rfl) rfl) cy_M_allowed im_M_allowed se_M_allowed (lgm 1066 (by decide +kernel) rfl) ⟨Nat.le_of_ble_eq_true rfl, Nat.le_of_ble_eq_true rfl⟩ (as := [.int x1, .int ((11 + (6 * x2)) + 1), .int 16]) (b := t) (st := []) (ob_e e_o5) (by decide) rfl rfl rfl rfl (Nat.le_of_ble_eq_true rfl) ⟨Nat.le_of_ble_eq_true rfl, Nat.le_of_ble_eq_true rfl⟩ (cn_M_allowed e_p4) ?_
    refine Sm_eq (st1 := .int p4.1 :: []) (nc1 := 0) (ns1 := 0) rfl rfl rfl ?_
    exact Sm_le (leR_n (leR_n (leR_n (leR_n leR_nil)))) (s_M_fits_35 K hQ _ _ h)
  · rw [if_neg c3] at h
    refine Sm_run K ek_M_fits 7 2 rfl ?_
    obtain ⟨o7, e_o7, h⟩ := Option.bind_eq_some_iff.mp h
    obtain ⟨p6, e_p6, h⟩ := Option.bind_eq_some_iff.mp h
    refine Sm_callV K (eok_i (eo ek_M_fits (i := 9) rfl) rfl) cy_M_finds im_M_finds se_M_finds (lgm 826 (by decide +kernel) rfl) ⟨Nat.le_of_ble_eq_true rfl, Nat.le_of_ble_eq_true rfl⟩ (as := [.int p1.1]) (b := t) (st := []) (ob_e e_o7) (by decide) rfl rfl rfl rfl (Nat.le_of_ble_eq_true rfl) ⟨Nat.le_of_ble_eq_true rfl, Nat.le_of_ble_eq_true rfl⟩ (cn_M_finds e_p6) ?_
    refine Sm_eq (st1 := .int p6.1 :: []) (nc1 := 0) (ns1 := 0) rfl rfl rfl ?_
    refine Sm_run K ek_M_fits 10 1 rfl ?_
    exact Sm_le (leR_n (leR_n (leR_n (leR_n leR_nil)))) (s_M_fits_35 K hQ _ _ h)
def F_M_fits (t : Nat) (x1 : Int32) (x2 : Int32) (w : A_W) : Option (Int32 × A_W) := F_M_fits_0 t x1 x2 w
theorem cn_M_fits {G : Gx} {t : Nat} {x1 : Int32} {x2 : Int32} {w : A_W} {res : Int32 × A_W} (h : F_M_fits t x1 x2 w = some res) : Cn G y_M_fits c_M_fits 4 (some .int) rm_M_fits [.ref t, .int x1, .int x2] w (some (.int res.1)) res.2 :=
  Cn_of (own := 4) cy_M_fits rfl rfl (Nat.le_of_ble_eq_true rfl) rfl (fun X K _ hQ => Sm_le (leR_s (leR_s (leR_s (leR_n leR_nil)))) (s_M_fits_0 K hQ _ _ _ _ h))
/-! EveningCloakModel.kinds(II)I -/
abbrev c_M_kinds : ByteArray := prog_6_method_69_code
def y_M_kinds : MethodName := ⟨"EveningCloakModel", "kinds", "(II)I"⟩
def rm_M_kinds : Room := { frames := 7, cells := 0, slots := 0, locals := 164 }
theorem cy_M_kinds : Cy y_M_kinds c_M_kinds 4 (some .int) 2 := ⟨lgm 1077 (by decide +kernel) rfl, lgm 73 (by decide +kernel) rfl, by decide +kernel, by decide +kernel⟩
theorem im_M_kinds : Cond.instanceMethod y_M_kinds ∈ lg := lgm 1075 (by decide +kernel) rfl
theorem se_M_kinds : Cond.selects y_M_kinds.cls y_M_kinds y_M_kinds ∈ lg := lgm 1076 (by decide +kernel) rfl
def e_M_kinds : List Ent := [
  (0, .aload_n 0, 1, 1, .null, 0, 0, 0),
  (1, .iload_n 1, 1, 2, .null, 0, 0, 0),
  (2, .iload_n 2, 1, 3, .null, 0, 0, 0),
  (3, .invokevirtual 175, 3, 6, .null, 0, 0, 0),
  (6, .istore_n 3, 1, 7, .null, 0, 0, 0),
  (7, .iload_n 3, 1, 8, .null, 0, 0, 0),
  (8, .ifCond .eq 11, 3, 19, .null, 0, 0, 0),
  (11, .aload_n 0, 1, 12, .null, 0, 0, 0),
  (12, .iload_n 3, 1, 13, .null, 0, 0, 0),
  (13, .invokevirtual 36, 3, 16, .null, 0, 0, 0),
  (16, .goto 17, 3, 33, .null, 0, 0, 0),
  (19, .aload_n 0, 1, 20, .null, 0, 0, 0),
  (20, .iload_n 1, 1, 21, .null, 0, 0, 0),
  (21, .bipush 11, 2, 23, .int 11, 0, 0, 0),
  (23, .bipush 6, 2, 25, .int 6, 0, 0, 0),
  (25, .iload_n 2, 1, 26, .null, 0, 0, 0),
  (26, .imul, 1, 27, .null, 0, 0, 0),
  (27, .iadd, 1, 28, .null, 0, 0, 0),
  (28, .bipush 7, 2, 30, .int 7, 0, 0, 0),
  (30, .invokevirtual 178, 3, 33, .null, 0, 0, 0),
  (33, .ireturn, 1, 34, .null, 0, 0, 0)]
set_option maxRecDepth 100000 in
theorem ek_M_kinds : e_M_kinds.all (eok 4 c_M_kinds) = true := by decide +kernel
def F_M_kinds_33 (y0 : Int32) (w : A_W) : Option (Int32 × A_W) :=
  some (y0, w)
def F_M_kinds_0 (t : Nat) (x1 : Int32) (x2 : Int32) (w : A_W) : Option (Int32 × A_W) :=
  (ob w t 4).bind fun o2 =>
  (F_M_notAsked t x1 x2 w).bind fun p1 =>
  if p1.1 = 0 then
    (ob p1.2 t 4).bind fun o5 =>
    (F_M_allowed t x1 (11 + (6 * x2)) 7 p1.2).bind fun p4 =>
    F_M_kinds_33 p4.1 p4.2
  else
    (ob p1.2 t 4).bind fun o7 =>
    (F_M_finds t p1.1 p1.2).bind fun p6 =>
    F_M_kinds_33 p6.1 p6.2
set_option maxHeartbeats 4000000 in
set_option maxRecDepth 100000 in
theorem s_M_kinds_33 {G : Gx} {X : Cx} {res : Int32 × A_W} (K : Ok G X 4 c_M_kinds 4 (some .int) rm_M_kinds) (hQ : QQ G X (some (.int res.1)) res.2 0 0) (y0 : Int32) (w : A_W) (h : F_M_kinds_33 y0 w = some res) : Sm G X w 0 0 [none, none, none, none] [.int y0] 33 := by
  unfold F_M_kinds_33 at h
  cases h
  exact Sm_reti K hQ (eok_i (eo ek_M_kinds (i := 20) rfl) rfl)
set_option maxHeartbeats 4000000 in
set_option maxRecDepth 100000 in
theorem s_M_kinds_0 {G : Gx} {X : Cx} {res : Int32 × A_W} (K : Ok G X 4 c_M_kinds 4 (some .int) rm_M_kinds) (hQ : QQ G X (some (.int res.1)) res.2 0 0) (t : Nat) (x1 : Int32) (x2 : Int32) (w : A_W) (h : F_M_kinds_0 t x1 x2 w = some res) : Sm G X w 0 0 [some (.ref t), some (.int x1), some (.int x2), none] [] 0 := by
  unfold F_M_kinds_0 at h
  refine Sm_run K ek_M_kinds 0 3 rfl ?_
  obtain ⟨o2, e_o2, h⟩ := Option.bind_eq_some_iff.mp h
  obtain ⟨p1, e_p1, h⟩ := Option.bind_eq_some_iff.mp h
  refine Sm_callV K (eok_i (eo ek_M_kinds (i := 3) rfl) rfl) cy_M_notAsked im_M_notAsked se_M_notAsked (lgm 1054 (by decide +kernel) rfl) ⟨Nat.le_of_ble_eq_true rfl, Nat.le_of_ble_eq_true rfl⟩ (as := [.int x1, .int x2]) (b := t) (st := []) (ob_e e_o2) (by decide) rfl rfl rfl rfl (Nat.le_of_ble_eq_true rfl) ⟨Nat.le_of_ble_eq_true rfl, Nat.le_of_ble_eq_true rfl⟩ (cn_M_notAsked e_p1) ?_
  refine Sm_eq (st1 := .int p1.1 :: []) (nc1 := 0) (ns1 := 0) rfl rfl rfl ?_
  refine Sm_run K ek_M_kinds 4 2 rfl ?_
  refine Sm_if_eq K (eo ek_M_kinds (i := 6) rfl) (fun c3 => ?_) (fun c3 => ?_)
  · rw [if_pos c3] at h
    refine Sm_run K ek_M_kinds 11 8 rfl ?_
    obtain ⟨o5, e_o5, h⟩ := Option.bind_eq_some_iff.mp h
    obtain ⟨p4, e_p4, h⟩ := Option.bind_eq_some_iff.mp h
    refine Sm_callV K (eok_i (eo ek_M_kinds (i := 19) rfl) rfl) cy_M_allowed im_M_allowed se_M_allowed (lgm 1066 (by decide +kernel) rfl) ⟨Nat.le_of_ble_eq_true rfl, Nat.le_of_ble_eq_true rfl⟩ (as := [.int x1, .int (11 + (6 * x2)), .int 7]) (b := t) (st := []) (ob_e e_o5) (by decide) rfl rfl rfl rfl (Nat.le_of_ble_eq_true rfl) ⟨Nat.le_of_ble_eq_true rfl, Nat.le_of_ble_eq_true rfl⟩ (cn_M_allowed e_p4) ?_
    refine Sm_eq (st1 := .int p4.1 :: []) (nc1 := 0) (ns1 := 0) rfl rfl rfl ?_
    exact Sm_le (leR_n (leR_n (leR_n (leR_n leR_nil)))) (s_M_kinds_33 K hQ _ _ h)
  · rw [if_neg c3] at h
    refine Sm_run K ek_M_kinds 7 2 rfl ?_
    obtain ⟨o7, e_o7, h⟩ := Option.bind_eq_some_iff.mp h
    obtain ⟨p6, e_p6, h⟩ := Option.bind_eq_some_iff.mp h
    refine Sm_callV K (eok_i (eo ek_M_kinds (i := 9) rfl) rfl) cy_M_finds im_M_finds se_M_finds (lgm 826 (by decide +kernel) rfl) ⟨Nat.le_of_ble_eq_true rfl, Nat.le_of_ble_eq_true rfl⟩ (as := [.int p1.1]) (b := t) (st := []) (ob_e e_o7) (by decide) rfl rfl rfl rfl (Nat.le_of_ble_eq_true rfl) ⟨Nat.le_of_ble_eq_true rfl, Nat.le_of_ble_eq_true rfl⟩ (cn_M_finds e_p6) ?_
    refine Sm_eq (st1 := .int p6.1 :: []) (nc1 := 0) (ns1 := 0) rfl rfl rfl ?_
    refine Sm_run K ek_M_kinds 10 1 rfl ?_
    exact Sm_le (leR_n (leR_n (leR_n (leR_n leR_nil)))) (s_M_kinds_33 K hQ _ _ h)
def F_M_kinds (t : Nat) (x1 : Int32) (x2 : Int32) (w : A_W) : Option (Int32 × A_W) := F_M_kinds_0 t x1 x2 w
theorem cn_M_kinds {G : Gx} {t : Nat} {x1 : Int32} {x2 : Int32} {w : A_W} {res : Int32 × A_W} (h : F_M_kinds t x1 x2 w = some res) : Cn G y_M_kinds c_M_kinds 4 (some .int) rm_M_kinds [.ref t, .int x1, .int x2] w (some (.int res.1)) res.2 :=
  Cn_of (own := 4) cy_M_kinds rfl rfl (Nat.le_of_ble_eq_true rfl) rfl (fun X K _ hQ => Sm_le (leR_s (leR_s (leR_s (leR_n leR_nil)))) (s_M_kinds_0 K hQ _ _ _ _ h))
/-! EveningCloakModel.draw()I -/
abbrev c_M_draw : ByteArray := prog_6_method_70_code
def y_M_draw : MethodName := ⟨"EveningCloakModel", "draw", "()I"⟩
def rm_M_draw : Room := { frames := 0, cells := 0, slots := 0, locals := 0 }
theorem cy_M_draw : Cy y_M_draw c_M_draw 1 (some .int) 0 := ⟨lgm 1085 (by decide +kernel) rfl, lgm 73 (by decide +kernel) rfl, by decide +kernel, by decide +kernel⟩
theorem im_M_draw : Cond.instanceMethod y_M_draw ∈ lg := lgm 1084 (by decide +kernel) rfl
theorem se_M_draw : Cond.selects y_M_draw.cls y_M_draw y_M_draw ∈ lg := lgm 53 (by decide +kernel) rfl
def e_M_draw : List Ent := [
  (0, .aload_n 0, 1, 1, .null, 0, 0, 0),
  (1, .getfield 9, 3, 4, .null, 4, 0, 762),
  (4, .iconst 2, 1, 5, .int 2, 0, 0, 0),
  (5, .aload_n 0, 1, 6, .null, 0, 0, 0),
  (6, .getfield 9, 3, 9, .null, 4, 0, 762),
  (9, .iconst 2, 1, 10, .int 2, 0, 0, 0),
  (10, .iaload, 1, 11, .null, 0, 0, 0),
  (11, .ldc 181, 2, 13, .int 1103515245, 0, 0, 1086),
  (13, .imul, 1, 14, .null, 0, 0, 0),
  (14, .sipush 12345, 3, 17, .int 12345, 0, 0, 0),
  (17, .iadd, 1, 18, .null, 0, 0, 0),
  (18, .iastore, 1, 19, .null, 0, 0, 0),
  (19, .aload_n 0, 1, 20, .null, 0, 0, 0),
  (20, .getfield 9, 3, 23, .null, 4, 0, 762),
  (23, .iconst 2, 1, 24, .int 2, 0, 0, 0),
  (24, .iaload, 1, 25, .null, 0, 0, 0),
  (25, .bipush 8, 2, 27, .int 8, 0, 0, 0),
  (27, .iushr, 1, 28, .null, 0, 0, 0),
  (28, .ireturn, 1, 29, .null, 0, 0, 0)]
set_option maxRecDepth 100000 in
theorem ek_M_draw : e_M_draw.all (eok 4 c_M_draw) = true := by decide +kernel
def F_M_draw_0 (t : Nat) (w : A_W) : Option (Int32 × A_W) :=
  (gr w t 4 0).bind fun a1 =>
  (gr w t 4 0).bind fun a2 =>
  (rd w a2 2).bind fun v3 =>
  (wr w a1 2 ((v3 * 1103515245) + 12345)).bind fun w4 =>
  (gr w4 t 4 0).bind fun a5 =>
  (rd w4 a5 2).bind fun v6 =>
  some ((Int32.toUInt32 v6 >>> (Int32.toUInt32 8 &&& Int32.toUInt32 31)).toInt32, w4)
set_option maxHeartbeats 4000000 in
set_option maxRecDepth 100000 in
theorem s_M_draw_0 {G : Gx} {X : Cx} {res : Int32 × A_W} (K : Ok G X 4 c_M_draw 1 (some .int) rm_M_draw) (hQ : QQ G X (some (.int res.1)) res.2 0 0) (t : Nat) (w : A_W) (h : F_M_draw_0 t w = some res) : Sm G X w 0 0 [some (.ref t)] [] 0 := by
  unfold F_M_draw_0 at h
  refine Sm_run K ek_M_draw 0 1 rfl ?_
  obtain ⟨a1, e_a1, h⟩ := Option.bind_eq_some_iff.mp h
  refine Sm_gr K (eo ek_M_draw (i := 1) rfl) e_a1 ?_
  refine Sm_run K ek_M_draw 2 2 rfl ?_
  obtain ⟨a2, e_a2, h⟩ := Option.bind_eq_some_iff.mp h
  refine Sm_gr K (eo ek_M_draw (i := 4) rfl) e_a2 ?_
  refine Sm_run K ek_M_draw 5 1 rfl ?_
  obtain ⟨v3, e_v3, h⟩ := Option.bind_eq_some_iff.mp h
  refine Sm_rd K (eok_i (eo ek_M_draw (i := 6) rfl) rfl) e_v3 ?_
  refine Sm_run K ek_M_draw 7 4 rfl ?_
  obtain ⟨w4, e_w4, h⟩ := Option.bind_eq_some_iff.mp h
  refine Sm_wr K (eok_i (eo ek_M_draw (i := 11) rfl) rfl) e_w4 ?_
  refine Sm_run K ek_M_draw 12 1 rfl ?_
  obtain ⟨a5, e_a5, h⟩ := Option.bind_eq_some_iff.mp h
  refine Sm_gr K (eo ek_M_draw (i := 13) rfl) e_a5 ?_
  refine Sm_run K ek_M_draw 14 1 rfl ?_
  obtain ⟨v6, e_v6, h⟩ := Option.bind_eq_some_iff.mp h
  refine Sm_rd K (eok_i (eo ek_M_draw (i := 15) rfl) rfl) e_v6 ?_
  refine Sm_run K ek_M_draw 16 2 rfl ?_
  cases h
  exact Sm_reti K hQ (eok_i (eo ek_M_draw (i := 18) rfl) rfl)
def F_M_draw (t : Nat) (w : A_W) : Option (Int32 × A_W) := F_M_draw_0 t w
theorem cn_M_draw {G : Gx} {t : Nat} {w : A_W} {res : Int32 × A_W} (h : F_M_draw t w = some res) : Cn G y_M_draw c_M_draw 1 (some .int) rm_M_draw [.ref t] w (some (.int res.1)) res.2 :=
  Cn_of (own := 4) cy_M_draw rfl rfl (Nat.le_of_ble_eq_true rfl) rfl (fun X K _ hQ => Sm_le (leR_s leR_nil) (s_M_draw_0 K hQ _ _ h))
/-! EveningCloakModel.night(I)I -/
abbrev c_M_night : ByteArray := prog_6_method_71_code
def y_M_night : MethodName := ⟨"EveningCloakModel", "night", "(I)I"⟩
def rm_M_night : Room := { frames := 5, cells := 0, slots := 0, locals := 115 }
theorem cy_M_night : Cy y_M_night c_M_night 4 (some .int) 1 := ⟨lgm 1081 (by decide +kernel) rfl, lgm 73 (by decide +kernel) rfl, by decide +kernel, by decide +kernel⟩
theorem im_M_night : Cond.instanceMethod y_M_night ∈ lg := lgm 1079 (by decide +kernel) rfl
theorem se_M_night : Cond.selects y_M_night.cls y_M_night y_M_night ∈ lg := lgm 1080 (by decide +kernel) rfl
def e_M_night : List Ent := [
  (0, .iload_n 1, 1, 1, .null, 0, 0, 0),
  (1, .iconst 1, 1, 2, .int 1, 0, 0, 0),
  (2, .bipush 20, 2, 4, .int 20, 0, 0, 0),
  (4, .invokestatic 40, 3, 7, .null, 0, 0, 0),
  (7, .ifCond .ne 10, 3, 17, .null, 0, 0, 0),
  (10, .aload_n 0, 1, 11, .null, 0, 0, 0),
  (11, .ldc 34, 2, 13, .int (-1000001), 0, 0, 825),
  (13, .invokevirtual 36, 3, 16, .null, 0, 0, 0),
  (16, .ireturn, 1, 17, .null, 0, 0, 0),
  (17, .aload_n 0, 1, 18, .null, 0, 0, 0),
  (18, .getfield 9, 3, 21, .null, 4, 0, 762),
  (21, .iconst 0, 1, 22, .int 0, 0, 0, 0),
  (22, .iaload, 1, 23, .null, 0, 0, 0),
  (23, .iload_n 1, 1, 24, .null, 0, 0, 0),
  (24, .iadd, 1, 25, .null, 0, 0, 0),
  (25, .ldc 117, 2, 27, .int 99999, 0, 0, 938),
  (27, .if_icmp .le 10, 3, 37, .null, 0, 0, 0),
  (30, .aload_n 0, 1, 31, .null, 0, 0, 0),
  (31, .ldc 121, 2, 33, .int (-1000005), 0, 0, 939),
  (33, .invokevirtual 36, 3, 36, .null, 0, 0, 0),
  (36, .ireturn, 1, 37, .null, 0, 0, 0),
  (37, .iconst 0, 1, 38, .int 0, 0, 0, 0),
  (38, .istore_n 2, 1, 39, .null, 0, 0, 0),
  (39, .iload_n 2, 1, 40, .null, 0, 0, 0),
  (40, .iload_n 1, 1, 41, .null, 0, 0, 0),
  (41, .if_icmp .ge 49, 3, 90, .null, 0, 0, 0),
  (44, .aload_n 0, 1, 45, .null, 0, 0, 0),
  (45, .invokevirtual 182, 3, 48, .null, 0, 0, 0),
  (48, .bipush 6, 2, 50, .int 6, 0, 0, 0),
  (50, .irem, 1, 51, .null, 0, 0, 0),
  (51, .istore_n 3, 1, 52, .null, 0, 0, 0),
  (52, .aload_n 0, 1, 53, .null, 0, 0, 0),
  (53, .getfield 9, 3, 56, .null, 4, 0, 762),
  (56, .iconst 5, 1, 57, .int 5, 0, 0, 0),
  (57, .aload_n 0, 1, 58, .null, 0, 0, 0),
  (58, .getfield 9, 3, 61, .null, 4, 0, 762),
  (61, .iconst 0, 1, 62, .int 0, 0, 0, 0),
  (62, .iaload, 1, 63, .null, 0, 0, 0),
  (63, .bipush 6, 2, 65, .int 6, 0, 0, 0),
  (65, .irem, 1, 66, .null, 0, 0, 0),
  (66, .iadd, 1, 67, .null, 0, 0, 0),
  (67, .bipush 100, 2, 69, .int 100, 0, 0, 0),
  (69, .iload_n 3, 1, 70, .null, 0, 0, 0),
  (70, .imul, 1, 71, .null, 0, 0, 0),
  (71, .aload_n 0, 1, 72, .null, 0, 0, 0),
  (72, .invokevirtual 182, 3, 75, .null, 0, 0, 0),
  (75, .bipush 16, 2, 77, .int 16, 0, 0, 0),
  (77, .irem, 1, 78, .null, 0, 0, 0),
  (78, .iadd, 1, 79, .null, 0, 0, 0),
  (79, .iastore, 1, 80, .null, 0, 0, 0),
  (80, .aload_n 0, 1, 81, .null, 0, 0, 0),
  (81, .invokevirtual 118, 3, 84, .null, 0, 0, 0),
  (84, .iinc 2 1, 3, 87, .int 1, 0, 0, 0),
  (87, .goto (-48), 3, 39, .null, 0, 0, 0),
  (90, .aload_n 0, 1, 91, .null, 0, 0, 0),
  (91, .iconst 2, 1, 92, .int 2, 0, 0, 0),
  (92, .invokevirtual 126, 3, 95, .null, 0, 0, 0),
  (95, .ireturn, 1, 96, .null, 0, 0, 0)]
set_option maxRecDepth 100000 in
theorem ek_M_night : e_M_night.all (eok 4 c_M_night) = true := by decide +kernel
def F_M_night_39 : Nat → Nat → Int32 → Int32 → A_W → Option (Int32 × A_W)
  | 0, _, _, _, _ => none
  | n + 1, t, x1, x2, w =>
    if x1 ≤ x2 then
      (ob w t 4).bind fun o3 =>
      (F_M_sums t 2 w).bind fun p2 =>
      some (p2.1, p2.2)
    else
      (ob w t 4).bind fun o5 =>
      (F_M_draw t w).bind fun p4 =>
      (gr p4.2 t 4 0).bind fun a6 =>
      (gr p4.2 t 4 0).bind fun a7 =>
      (rd p4.2 a7 0).bind fun v8 =>
      (ob p4.2 t 4).bind fun o10 =>
      (F_M_draw t p4.2).bind fun p9 =>
      (wr p9.2 a6 (5 + (jrem v8 6)) ((100 * (jrem p4.1 6)) + (jrem p9.1 16))).bind fun w11 =>
      (ob w11 t 4).bind fun o13 =>
      (F_M_goes t w11).bind fun p12 =>
      F_M_night_39 n t x1 (x2 + 1) p12
def F_M_night_0 (t : Nat) (x1 : Int32) (w : A_W) : Option (Int32 × A_W) :=
  (F_M_in x1 1 20 w).bind fun p1 =>
  if p1.1 = 0 then
    (ob p1.2 t 4).bind fun o9 =>
    (F_M_finds t (-1000001) p1.2).bind fun p8 =>
    some (p8.1, p8.2)
  else
    (gr p1.2 t 4 0).bind fun a3 =>
    (rd p1.2 a3 0).bind fun v4 =>
    if (v4 + x1) ≤ 99999 then
      F_M_night_39 FU t x1 0 p1.2
    else
      (ob p1.2 t 4).bind fun o7 =>
      (F_M_finds t (-1000005) p1.2).bind fun p6 =>
      some (p6.1, p6.2)
set_option maxHeartbeats 4000000 in
set_option maxRecDepth 100000 in
theorem s_M_night_39 {G : Gx} {X : Cx} {res : Int32 × A_W} (K : Ok G X 4 c_M_night 4 (some .int) rm_M_night) (hQ : QQ G X (some (.int res.1)) res.2 0 0) : ∀ (n : Nat) (t : Nat) (x1 : Int32) (x2 : Int32) (w : A_W), F_M_night_39 n t x1 x2 w = some res → Sm G X w 0 0 [some (.ref t), some (.int x1), some (.int x2), none] [] 39 := by
  intro n
  induction n with
  | zero => intro t x1 x2 w h; cases h
  | succ n ih =>
    intro t x1 x2 w h
    rw [F_M_night_39] at h
    refine Sm_run K ek_M_night 23 2 rfl ?_
    refine Sm_ic_ge K (eo ek_M_night (i := 25) rfl) (fun c1 => ?_) (fun c1 => ?_)
    · rw [if_pos c1] at h
      refine Sm_run K ek_M_night 54 2 rfl ?_
      obtain ⟨o3, e_o3, h⟩ := Option.bind_eq_some_iff.mp h
      obtain ⟨p2, e_p2, h⟩ := Option.bind_eq_some_iff.mp h
      refine Sm_callV K (eok_i (eo ek_M_night (i := 56) rfl) rfl) cy_M_sums im_M_sums se_M_sums (lgm 960 (by decide +kernel) rfl) ⟨Nat.le_of_ble_eq_true rfl, Nat.le_of_ble_eq_true rfl⟩ (as := [.int 2]) (b := t) (st := []) (ob_e e_o3) (by decide) rfl rfl rfl rfl (Nat.le_of_ble_eq_true rfl) ⟨Nat.le_of_ble_eq_true rfl, Nat.le_of_ble_eq_true rfl⟩ (cn_M_sums e_p2) ?_
      refine Sm_eq (st1 := .int p2.1 :: []) (nc1 := 0) (ns1 := 0) rfl rfl rfl ?_
      cases h
      exact Sm_reti K hQ (eok_i (eo ek_M_night (i := 57) rfl) rfl)
    · rw [if_neg c1] at h
      refine Sm_run K ek_M_night 26 1 rfl ?_
      obtain ⟨o5, e_o5, h⟩ := Option.bind_eq_some_iff.mp h
      obtain ⟨p4, e_p4, h⟩ := Option.bind_eq_some_iff.mp h
      refine Sm_callV K (eok_i (eo ek_M_night (i := 27) rfl) rfl) cy_M_draw im_M_draw se_M_draw (lgm 1082 (by decide +kernel) rfl) ⟨Nat.le_of_ble_eq_true rfl, Nat.le_of_ble_eq_true rfl⟩ (as := []) (b := t) (st := []) (ob_e e_o5) (by decide) rfl rfl rfl rfl (Nat.le_of_ble_eq_true rfl) ⟨Nat.le_of_ble_eq_true rfl, Nat.le_of_ble_eq_true rfl⟩ (cn_M_draw e_p4) ?_
      refine Sm_eq (st1 := .int p4.1 :: []) (nc1 := 0) (ns1 := 0) rfl rfl rfl ?_
      refine Sm_run K ek_M_night 28 1 rfl ?_
      refine Sm_irem K (eok_i (eo ek_M_night (i := 29) rfl) rfl) (by decide) ?_
      refine Sm_run K ek_M_night 30 2 rfl ?_
      obtain ⟨a6, e_a6, h⟩ := Option.bind_eq_some_iff.mp h
      refine Sm_gr K (eo ek_M_night (i := 32) rfl) e_a6 ?_
      refine Sm_run K ek_M_night 33 2 rfl ?_
      obtain ⟨a7, e_a7, h⟩ := Option.bind_eq_some_iff.mp h
      refine Sm_gr K (eo ek_M_night (i := 35) rfl) e_a7 ?_
      refine Sm_run K ek_M_night 36 1 rfl ?_
      obtain ⟨v8, e_v8, h⟩ := Option.bind_eq_some_iff.mp h
      refine Sm_rd K (eok_i (eo ek_M_night (i := 37) rfl) rfl) e_v8 ?_
      refine Sm_run K ek_M_night 38 1 rfl ?_
      refine Sm_irem K (eok_i (eo ek_M_night (i := 39) rfl) rfl) (by decide) ?_
      refine Sm_run K ek_M_night 40 5 rfl ?_
      obtain ⟨o10, e_o10, h⟩ := Option.bind_eq_some_iff.mp h
      obtain ⟨p9, e_p9, h⟩ := Option.bind_eq_some_iff.mp h
      refine Sm_callV K (eok_i (eo ek_M_night (i := 45) rfl) rfl) cy_M_draw im_M_draw se_M_draw (lgm 1082 (by decide +kernel) rfl) ⟨Nat.le_of_ble_eq_true rfl, Nat.le_of_ble_eq_true rfl⟩ (as := []) (b := t) (st := [.int (100 * (jrem p4.1 6)), .int (5 + (jrem v8 6)), .ref a6]) (ob_e e_o10) (by decide) rfl rfl rfl rfl (Nat.le_of_ble_eq_true rfl) ⟨Nat.le_of_ble_eq_true rfl, Nat.le_of_ble_eq_true rfl⟩ (cn_M_draw e_p9) ?_
      refine Sm_eq (st1 := .int p9.1 :: [.int (100 * (jrem p4.1 6)), .int (5 + (jrem v8 6)), .ref a6]) (nc1 := 0) (ns1 := 0) rfl rfl rfl ?_
      refine Sm_run K ek_M_night 46 1 rfl ?_
      refine Sm_irem K (eok_i (eo ek_M_night (i := 47) rfl) rfl) (by decide) ?_
      refine Sm_run K ek_M_night 48 1 rfl ?_
      obtain ⟨w11, e_w11, h⟩ := Option.bind_eq_some_iff.mp h
      refine Sm_wr K (eok_i (eo ek_M_night (i := 49) rfl) rfl) e_w11 ?_
      refine Sm_run K ek_M_night 50 1 rfl ?_
      obtain ⟨o13, e_o13, h⟩ := Option.bind_eq_some_iff.mp h
      obtain ⟨p12, e_p12, h⟩ := Option.bind_eq_some_iff.mp h
      refine Sm_callV K (eok_i (eo ek_M_night (i := 51) rfl) rfl) cy_M_goes im_M_goes se_M_goes (lgm 944 (by decide +kernel) rfl) ⟨Nat.le_of_ble_eq_true rfl, Nat.le_of_ble_eq_true rfl⟩ (as := []) (b := t) (st := []) (ob_e e_o13) (by decide) rfl rfl rfl rfl (Nat.le_of_ble_eq_true rfl) ⟨Nat.le_of_ble_eq_true rfl, Nat.le_of_ble_eq_true rfl⟩ (cn_M_goes e_p12) ?_
      refine Sm_eq (st1 := []) (nc1 := 0) (ns1 := 0) rfl rfl rfl ?_
      refine Sm_run K ek_M_night 52 2 rfl ?_
      exact Sm_le (leR_s (leR_s (leR_s (leR_n leR_nil)))) (ih _ _ _ _ h)
set_option maxHeartbeats 4000000 in
set_option maxRecDepth 100000 in
theorem s_M_night_0 {G : Gx} {X : Cx} {res : Int32 × A_W} (K : Ok G X 4 c_M_night 4 (some .int) rm_M_night) (hQ : QQ G X (some (.int res.1)) res.2 0 0) (t : Nat) (x1 : Int32) (w : A_W) (h : F_M_night_0 t x1 w = some res) : Sm G X w 0 0 [some (.ref t), some (.int x1), none, none] [] 0 := by
  unfold F_M_night_0 at h
  refine Sm_run K ek_M_night 0 3 rfl ?_
  obtain ⟨p1, e_p1, h⟩ := Option.bind_eq_some_iff.mp h
  refine Sm_callS K (eok_i (eo ek_M_night (i := 3) rfl) rfl) cy_M_in st_M_in (lgm 815 (by decide +kernel) rfl) ⟨Nat.le_of_ble_eq_true rfl, Nat.le_of_ble_eq_true rfl⟩ (as := [.int x1, .int 1, .int 20]) (st := []) rfl rfl rfl (Nat.le_of_ble_eq_true rfl) ⟨Nat.le_of_ble_eq_true rfl, Nat.le_of_ble_eq_true rfl⟩ (cn_M_in e_p1) ?_
  refine Sm_eq (st1 := .int p1.1 :: []) (nc1 := 0) (ns1 := 0) rfl rfl rfl ?_
  refine Sm_if_ne K (eo ek_M_night (i := 4) rfl) (fun c2 => ?_) (fun c2 => ?_)
  · rw [if_neg c2] at h
    refine Sm_run K ek_M_night 9 1 rfl ?_
    obtain ⟨a3, e_a3, h⟩ := Option.bind_eq_some_iff.mp h
    refine Sm_gr K (eo ek_M_night (i := 10) rfl) e_a3 ?_
    refine Sm_run K ek_M_night 11 1 rfl ?_
    obtain ⟨v4, e_v4, h⟩ := Option.bind_eq_some_iff.mp h
    refine Sm_rd K (eok_i (eo ek_M_night (i := 12) rfl) rfl) e_v4 ?_
    refine Sm_run K ek_M_night 13 3 rfl ?_
    refine Sm_ic_le K (eo ek_M_night (i := 16) rfl) (fun c5 => ?_) (fun c5 => ?_)
    · rw [if_pos c5] at h
      refine Sm_run K ek_M_night 21 2 rfl ?_
      exact Sm_le (leR_s (leR_s (leR_s (leR_n leR_nil)))) (s_M_night_39 K hQ FU _ _ _ _ h)
    · rw [if_neg c5] at h
      refine Sm_run K ek_M_night 17 2 rfl ?_
      obtain ⟨o7, e_o7, h⟩ := Option.bind_eq_some_iff.mp h
      obtain ⟨p6, e_p6, h⟩ := Option.bind_eq_some_iff.mp h
      refine Sm_callV K (eok_i (eo ek_M_night (i := 19) rfl) rfl) cy_M_finds im_M_finds se_M_finds (lgm 826 (by decide +kernel) rfl) ⟨Nat.le_of_ble_eq_true rfl, Nat.le_of_ble_eq_true rfl⟩ (as := [.int (-1000005)]) (b := t) (st := []) (ob_e e_o7) (by decide) rfl rfl rfl rfl (Nat.le_of_ble_eq_true rfl) ⟨Nat.le_of_ble_eq_true rfl, Nat.le_of_ble_eq_true rfl⟩ (cn_M_finds e_p6) ?_
      refine Sm_eq (st1 := .int p6.1 :: []) (nc1 := 0) (ns1 := 0) rfl rfl rfl ?_
      cases h
      exact Sm_reti K hQ (eok_i (eo ek_M_night (i := 20) rfl) rfl)
  · rw [if_pos c2] at h
    refine Sm_run K ek_M_night 5 2 rfl ?_
    obtain ⟨o9, e_o9, h⟩ := Option.bind_eq_some_iff.mp h
    obtain ⟨p8, e_p8, h⟩ := Option.bind_eq_some_iff.mp h
    refine Sm_callV K (eok_i (eo ek_M_night (i := 7) rfl) rfl) cy_M_finds im_M_finds se_M_finds (lgm 826 (by decide +kernel) rfl) ⟨Nat.le_of_ble_eq_true rfl, Nat.le_of_ble_eq_true rfl⟩ (as := [.int (-1000001)]) (b := t) (st := []) (ob_e e_o9) (by decide) rfl rfl rfl rfl (Nat.le_of_ble_eq_true rfl) ⟨Nat.le_of_ble_eq_true rfl, Nat.le_of_ble_eq_true rfl⟩ (cn_M_finds e_p8) ?_
    refine Sm_eq (st1 := .int p8.1 :: []) (nc1 := 0) (ns1 := 0) rfl rfl rfl ?_
    cases h
    exact Sm_reti K hQ (eok_i (eo ek_M_night (i := 8) rfl) rfl)
def F_M_night (t : Nat) (x1 : Int32) (w : A_W) : Option (Int32 × A_W) := F_M_night_0 t x1 w
theorem cn_M_night {G : Gx} {t : Nat} {x1 : Int32} {w : A_W} {res : Int32 × A_W} (h : F_M_night t x1 w = some res) : Cn G y_M_night c_M_night 4 (some .int) rm_M_night [.ref t, .int x1] w (some (.int res.1)) res.2 :=
  Cn_of (own := 4) cy_M_night rfl rfl (Nat.le_of_ble_eq_true rfl) rfl (fun X K _ hQ => Sm_le (leR_s (leR_s (leR_n (leR_n leR_nil)))) (s_M_night_0 K hQ _ _ _ h))
/-! EveningCloakModel.odds(II)J -/
abbrev c_M_odds : ByteArray := prog_6_method_72_code
def y_M_odds : MethodName := ⟨"EveningCloakModel", "odds", "(II)J"⟩
def rm_M_odds : Room := { frames := 4, cells := 0, slots := 0, locals := 91 }
theorem cy_M_odds : Cy y_M_odds c_M_odds 10 (some .long) 2 := ⟨lgm 1090 (by decide +kernel) rfl, lgm 73 (by decide +kernel) rfl, by decide +kernel, by decide +kernel⟩
theorem im_M_odds : Cond.instanceMethod y_M_odds ∈ lg := lgm 1088 (by decide +kernel) rfl
theorem se_M_odds : Cond.selects y_M_odds.cls y_M_odds y_M_odds ∈ lg := lgm 1089 (by decide +kernel) rfl
def e_M_odds : List Ent := [
  (0, .iload_n 1, 1, 1, .null, 0, 0, 0),
  (1, .iconst 0, 1, 2, .int 0, 0, 0, 0),
  (2, .bipush 15, 2, 4, .int 15, 0, 0, 0),
  (4, .invokestatic 40, 3, 7, .null, 0, 0, 0),
  (7, .ifCond .eq 12, 3, 19, .null, 0, 0, 0),
  (10, .iload_n 2, 1, 11, .null, 0, 0, 0),
  (11, .iconst 0, 1, 12, .int 0, 0, 0, 0),
  (12, .iconst 1, 1, 13, .int 1, 0, 0, 0),
  (13, .invokestatic 40, 3, 16, .null, 0, 0, 0),
  (16, .ifCond .ne 11, 3, 27, .null, 0, 0, 0),
  (19, .aload_n 0, 1, 20, .null, 0, 0, 0),
  (20, .ldc 34, 2, 22, .int (-1000001), 0, 0, 825),
  (22, .invokevirtual 36, 3, 25, .null, 0, 0, 0),
  (25, .i2l, 1, 26, .null, 0, 0, 0),
  (26, .lreturn, 1, 27, .null, 0, 0, 0),
  (27, .bipush 16, 2, 29, .int 16, 0, 0, 0),
  (29, .aload_n 0, 1, 30, .null, 0, 0, 0),
  (30, .invokevirtual 132, 3, 33, .null, 0, 0, 0),
  (33, .invokestatic 158, 3, 36, .null, 0, 0, 0),
  (36, .isub, 1, 37, .null, 0, 0, 0),
  (37, .i2l, 1, 38, .null, 0, 0, 0),
  (38, .lstore_n 3, 1, 39, .null, 0, 0, 0),
  (39, .ldc2_w 185, 3, 42, .long 16, 0, 0, 1091),
  (42, .lstore 5, 2, 44, .null, 0, 0, 0),
  (44, .lload_n 3, 1, 45, .null, 0, 0, 0),
  (45, .ldc2_w 187, 3, 48, .long 2, 0, 0, 1092),
  (48, .lrem, 1, 49, .null, 0, 0, 0),
  (49, .lconst 0, 1, 50, .long 0, 0, 0, 0),
  (50, .lcmp, 1, 51, .null, 0, 0, 0),
  (51, .ifCond .ne 27, 3, 78, .null, 0, 0, 0),
  (54, .lload 5, 2, 56, .null, 0, 0, 0),
  (56, .lconst 1, 1, 57, .long 1, 0, 0, 0),
  (57, .lcmp, 1, 58, .null, 0, 0, 0),
  (58, .ifCond .le 20, 3, 78, .null, 0, 0, 0),
  (61, .lload_n 3, 1, 62, .null, 0, 0, 0),
  (62, .ldc2_w 187, 3, 65, .long 2, 0, 0, 1092),
  (65, .ldiv, 1, 66, .null, 0, 0, 0),
  (66, .lstore_n 3, 1, 67, .null, 0, 0, 0),
  (67, .lload 5, 2, 69, .null, 0, 0, 0),
  (69, .ldc2_w 187, 3, 72, .long 2, 0, 0, 1092),
  (72, .ldiv, 1, 73, .null, 0, 0, 0),
  (73, .lstore 5, 2, 75, .null, 0, 0, 0),
  (75, .goto (-31), 3, 44, .null, 0, 0, 0),
  (78, .lconst 1, 1, 79, .long 1, 0, 0, 0),
  (79, .lstore 7, 2, 81, .null, 0, 0, 0),
  (81, .iconst 0, 1, 82, .int 0, 0, 0, 0),
  (82, .istore 9, 2, 84, .null, 0, 0, 0),
  (84, .iload 9, 2, 86, .null, 0, 0, 0),
  (86, .iload_n 1, 1, 87, .null, 0, 0, 0),
  (87, .if_icmp .ge 24, 3, 111, .null, 0, 0, 0),
  (90, .lload 7, 2, 92, .null, 0, 0, 0),
  (92, .iload_n 2, 1, 93, .null, 0, 0, 0),
  (93, .ifCond .ne 7, 3, 100, .null, 0, 0, 0),
  (96, .lload_n 3, 1, 97, .null, 0, 0, 0),
  (97, .goto 5, 3, 102, .null, 0, 0, 0),
  (100, .lload 5, 2, 102, .null, 0, 0, 0),
  (102, .lmul, 1, 103, .null, 0, 0, 0),
  (103, .lstore 7, 2, 105, .null, 0, 0, 0),
  (105, .iinc 9 1, 3, 108, .int 1, 0, 0, 0),
  (108, .goto (-24), 3, 84, .null, 0, 0, 0),
  (111, .lload 7, 2, 113, .null, 0, 0, 0),
  (113, .lreturn, 1, 114, .null, 0, 0, 0)]
set_option maxRecDepth 100000 in
theorem ek_M_odds : e_M_odds.all (eok 4 c_M_odds) = true := by decide +kernel
def F_M_odds_19 (t : Nat) (w : A_W) : Option (Int64 × A_W) :=
  (ob w t 4).bind fun o2 =>
  (F_M_finds t (-1000001) w).bind fun p1 =>
  some ((Int32.toInt64 p1.1), p1.2)
def F_M_odds_102 (k84 : Int32 → Int32 → Int64 → Int64 → Int64 → Int32 → A_W → Option (Int64 × A_W)) (x1 : Int32) (x2 : Int32) (x3 : Int64) (x5 : Int64) (x9 : Int32) (y0 : Int64) (y1 : Int64) (w : A_W) : Option (Int64 × A_W) :=
  k84 x1 x2 x3 x5 (y0 * y1) (x9 + 1) w
def F_M_odds_84 : Nat → Int32 → Int32 → Int64 → Int64 → Int64 → Int32 → A_W → Option (Int64 × A_W)
  | 0, _, _, _, _, _, _, _ => none
  | n + 1, x1, x2, x3, x5, x7, x9, w =>
    if x1 ≤ x9 then
      some (x7, w)
    else
      if x2 = 0 then
        F_M_odds_102 (F_M_odds_84 n) x1 x2 x3 x5 x9 x7 x3 w
      else
        F_M_odds_102 (F_M_odds_84 n) x1 x2 x3 x5 x9 x7 x5 w
def F_M_odds_78 (x1 : Int32) (x2 : Int32) (x3 : Int64) (x5 : Int64) (w : A_W) : Option (Int64 × A_W) :=
  F_M_odds_84 FU x1 x2 x3 x5 1 0 w
def F_M_odds_44 : Nat → Int32 → Int32 → Int64 → Int64 → A_W → Option (Int64 × A_W)
  | 0, _, _, _, _, _ => none
  | n + 1, x1, x2, x3, x5, w =>
    if (lg_cmp (jreml x3 2) 0) = 0 then
      if (lg_cmp x5 1) ≤ 0 then
        F_M_odds_78 x1 x2 x3 x5 w
      else
        F_M_odds_44 n x1 x2 (x3 / 2) (x5 / 2) w
    else
      F_M_odds_78 x1 x2 x3 x5 w
def F_M_odds_0 (t : Nat) (x1 : Int32) (x2 : Int32) (w : A_W) : Option (Int64 × A_W) :=
  (F_M_in x1 0 15 w).bind fun p1 =>
  if p1.1 = 0 then
    F_M_odds_19 t p1.2
  else
    (F_M_in x2 0 1 p1.2).bind fun p3 =>
    if p3.1 = 0 then
      F_M_odds_19 t p3.2
    else
      (ob p3.2 t 4).bind fun o6 =>
      (F_M_darkOnes t p3.2).bind fun p5 =>
      (F_M_bits p5.1 p5.2).bind fun p7 =>
      F_M_odds_44 FU x1 x2 (Int32.toInt64 (16 - p7.1)) 16 p7.2
set_option maxHeartbeats 4000000 in
set_option maxRecDepth 100000 in
theorem s_M_odds_19 {G : Gx} {X : Cx} {res : Int64 × A_W} (K : Ok G X 4 c_M_odds 10 (some .long) rm_M_odds) (hQ : QQ G X (some (.long res.1)) res.2 0 0) (t : Nat) (w : A_W) (h : F_M_odds_19 t w = some res) : Sm G X w 0 0 [some (.ref t), none, none, none, none, none, none, none, none, none] [] 19 := by
  unfold F_M_odds_19 at h
  refine Sm_run K ek_M_odds 10 2 rfl ?_
  obtain ⟨o2, e_o2, h⟩ := Option.bind_eq_some_iff.mp h
  obtain ⟨p1, e_p1, h⟩ := Option.bind_eq_some_iff.mp h
  refine Sm_callV K (eok_i (eo ek_M_odds (i := 12) rfl) rfl) cy_M_finds im_M_finds se_M_finds (lgm 826 (by decide +kernel) rfl) ⟨Nat.le_of_ble_eq_true rfl, Nat.le_of_ble_eq_true rfl⟩ (as := [.int (-1000001)]) (b := t) (st := []) (ob_e e_o2) (by decide) rfl rfl rfl rfl (Nat.le_of_ble_eq_true rfl) ⟨Nat.le_of_ble_eq_true rfl, Nat.le_of_ble_eq_true rfl⟩ (cn_M_finds e_p1) ?_
  refine Sm_eq (st1 := .int p1.1 :: []) (nc1 := 0) (ns1 := 0) rfl rfl rfl ?_
  refine Sm_run K ek_M_odds 13 1 rfl ?_
  cases h
  exact Sm_retl K hQ (eok_i (eo ek_M_odds (i := 14) rfl) rfl)
set_option maxHeartbeats 4000000 in
set_option maxRecDepth 100000 in
theorem s_M_odds_102 {G : Gx} {X : Cx} {res : Int64 × A_W} (K : Ok G X 4 c_M_odds 10 (some .long) rm_M_odds) (hQ : QQ G X (some (.long res.1)) res.2 0 0) {k84 : Int32 → Int32 → Int64 → Int64 → Int64 → Int32 → A_W → Option (Int64 × A_W)} (hk84 : ∀ (x1 : Int32) (x2 : Int32) (x3 : Int64) (x5 : Int64) (x7 : Int64) (x9 : Int32) (w : A_W), k84 x1 x2 x3 x5 x7 x9 w = some res → Sm G X w 0 0 [none, some (.int x1), some (.int x2), some (.long x3), none, some (.long x5), none, some (.long x7), none, some (.int x9)] [] 84) (x1 : Int32) (x2 : Int32) (x3 : Int64) (x5 : Int64) (x9 : Int32) (y0 : Int64) (y1 : Int64) (w : A_W) (h : F_M_odds_102 k84 x1 x2 x3 x5 x9 y0 y1 w = some res) : Sm G X w 0 0 [none, some (.int x1), some (.int x2), some (.long x3), none, some (.long x5), none, none, none, some (.int x9)] [.long y1, .long y0] 102 := by
  unfold F_M_odds_102 at h
  refine Sm_run K ek_M_odds 56 4 rfl ?_
  exact Sm_le (leR_n (leR_s (leR_s (leR_s (leR_n (leR_s (leR_n (leR_s (leR_n (leR_s leR_nil)))))))))) (hk84 _ _ _ _ _ _ _ h)
set_option maxHeartbeats 4000000 in
set_option maxRecDepth 100000 in
theorem s_M_odds_84 {G : Gx} {X : Cx} {res : Int64 × A_W} (K : Ok G X 4 c_M_odds 10 (some .long) rm_M_odds) (hQ : QQ G X (some (.long res.1)) res.2 0 0) : ∀ (n : Nat) (x1 : Int32) (x2 : Int32) (x3 : Int64) (x5 : Int64) (x7 : Int64) (x9 : Int32) (w : A_W), F_M_odds_84 n x1 x2 x3 x5 x7 x9 w = some res → Sm G X w 0 0 [none, some (.int x1), some (.int x2), some (.long x3), none, some (.long x5), none, some (.long x7), none, some (.int x9)] [] 84 := by
  intro n
  induction n with
  | zero => intro x1 x2 x3 x5 x7 x9 w h; cases h
  | succ n ih =>
    intro x1 x2 x3 x5 x7 x9 w h
    rw [F_M_odds_84] at h
    refine Sm_run K ek_M_odds 47 2 rfl ?_
    refine Sm_ic_ge K (eo ek_M_odds (i := 49) rfl) (fun c1 => ?_) (fun c1 => ?_)
    · rw [if_pos c1] at h
      refine Sm_run K ek_M_odds 60 1 rfl ?_
      cases h
      exact Sm_retl K hQ (eok_i (eo ek_M_odds (i := 61) rfl) rfl)
    · rw [if_neg c1] at h
      refine Sm_run K ek_M_odds 50 2 rfl ?_
      refine Sm_if_ne K (eo ek_M_odds (i := 52) rfl) (fun c2 => ?_) (fun c2 => ?_)
      · rw [if_neg c2] at h
        refine Sm_run K ek_M_odds 55 1 rfl ?_
        exact Sm_le (leR_n (leR_s (leR_s (leR_s (leR_n (leR_s (leR_n (leR_n (leR_n (leR_s leR_nil)))))))))) (s_M_odds_102 K hQ ih _ _ _ _ _ _ _ _ h)
      · rw [if_pos c2] at h
        refine Sm_run K ek_M_odds 53 2 rfl ?_
        exact Sm_le (leR_n (leR_s (leR_s (leR_s (leR_n (leR_s (leR_n (leR_n (leR_n (leR_s leR_nil)))))))))) (s_M_odds_102 K hQ ih _ _ _ _ _ _ _ _ h)
set_option maxHeartbeats 4000000 in
set_option maxRecDepth 100000 in
theorem s_M_odds_78 {G : Gx} {X : Cx} {res : Int64 × A_W} (K : Ok G X 4 c_M_odds 10 (some .long) rm_M_odds) (hQ : QQ G X (some (.long res.1)) res.2 0 0) (x1 : Int32) (x2 : Int32) (x3 : Int64) (x5 : Int64) (w : A_W) (h : F_M_odds_78 x1 x2 x3 x5 w = some res) : Sm G X w 0 0 [none, some (.int x1), some (.int x2), some (.long x3), none, some (.long x5), none, none, none, none] [] 78 := by
  unfold F_M_odds_78 at h
  refine Sm_run K ek_M_odds 43 4 rfl ?_
  exact Sm_le (leR_n (leR_s (leR_s (leR_s (leR_n (leR_s (leR_n (leR_s (leR_n (leR_s leR_nil)))))))))) (s_M_odds_84 K hQ FU _ _ _ _ _ _ _ h)
set_option maxHeartbeats 4000000 in
set_option maxRecDepth 100000 in
theorem s_M_odds_44 {G : Gx} {X : Cx} {res : Int64 × A_W} (K : Ok G X 4 c_M_odds 10 (some .long) rm_M_odds) (hQ : QQ G X (some (.long res.1)) res.2 0 0) : ∀ (n : Nat) (x1 : Int32) (x2 : Int32) (x3 : Int64) (x5 : Int64) (w : A_W), F_M_odds_44 n x1 x2 x3 x5 w = some res → Sm G X w 0 0 [none, some (.int x1), some (.int x2), some (.long x3), none, some (.long x5), none, none, none, none] [] 44 := by
  intro n
  induction n with
  | zero => intro x1 x2 x3 x5 w h; cases h
  | succ n ih =>
    intro x1 x2 x3 x5 w h
    rw [F_M_odds_44] at h
    refine Sm_run K ek_M_odds 24 2 rfl ?_
    refine Sm_lrem K (eok_i (eo ek_M_odds (i := 26) rfl) rfl) (by decide) ?_
    refine Sm_run K ek_M_odds 27 1 rfl ?_
    refine Sm_lcmp K (eok_i (eo ek_M_odds (i := 28) rfl) rfl) ?_
    refine Sm_if_ne K (eo ek_M_odds (i := 29) rfl) (fun c1 => ?_) (fun c1 => ?_)
    · rw [if_neg c1] at h
      exact Sm_le (leR_n (leR_s (leR_s (leR_s (leR_n (leR_s (leR_n (leR_n (leR_n (leR_n leR_nil)))))))))) (s_M_odds_78 K hQ _ _ _ _ _ h)
    · rw [if_pos c1] at h
      refine Sm_run K ek_M_odds 30 2 rfl ?_
      refine Sm_lcmp K (eok_i (eo ek_M_odds (i := 32) rfl) rfl) ?_
      refine Sm_if_le K (eo ek_M_odds (i := 33) rfl) (fun c2 => ?_) (fun c2 => ?_)
      · rw [if_pos c2] at h
        exact Sm_le (leR_n (leR_s (leR_s (leR_s (leR_n (leR_s (leR_n (leR_n (leR_n (leR_n leR_nil)))))))))) (s_M_odds_78 K hQ _ _ _ _ _ h)
      · rw [if_neg c2] at h
        refine Sm_run K ek_M_odds 34 2 rfl ?_
        refine Sm_ldiv K (eok_i (eo ek_M_odds (i := 36) rfl) rfl) (by decide) ?_
        refine Sm_run K ek_M_odds 37 3 rfl ?_
        refine Sm_ldiv K (eok_i (eo ek_M_odds (i := 40) rfl) rfl) (by decide) ?_
        refine Sm_run K ek_M_odds 41 2 rfl ?_
        exact Sm_le (leR_n (leR_s (leR_s (leR_s (leR_n (leR_s (leR_n (leR_n (leR_n (leR_n leR_nil)))))))))) (ih _ _ _ _ _ h)
set_option maxHeartbeats 4000000 in
set_option maxRecDepth 100000 in
theorem s_M_odds_0 {G : Gx} {X : Cx} {res : Int64 × A_W} (K : Ok G X 4 c_M_odds 10 (some .long) rm_M_odds) (hQ : QQ G X (some (.long res.1)) res.2 0 0) (t : Nat) (x1 : Int32) (x2 : Int32) (w : A_W) (h : F_M_odds_0 t x1 x2 w = some res) : Sm G X w 0 0 [some (.ref t), some (.int x1), some (.int x2), none, none, none, none, none, none, none] [] 0 := by
  unfold F_M_odds_0 at h
  refine Sm_run K ek_M_odds 0 3 rfl ?_
  obtain ⟨p1, e_p1, h⟩ := Option.bind_eq_some_iff.mp h
  refine Sm_callS K (eok_i (eo ek_M_odds (i := 3) rfl) rfl) cy_M_in st_M_in (lgm 815 (by decide +kernel) rfl) ⟨Nat.le_of_ble_eq_true rfl, Nat.le_of_ble_eq_true rfl⟩ (as := [.int x1, .int 0, .int 15]) (st := []) rfl rfl rfl (Nat.le_of_ble_eq_true rfl) ⟨Nat.le_of_ble_eq_true rfl, Nat.le_of_ble_eq_true rfl⟩ (cn_M_in e_p1) ?_
  refine Sm_eq (st1 := .int p1.1 :: []) (nc1 := 0) (ns1 := 0) rfl rfl rfl ?_
  refine Sm_if_eq K (eo ek_M_odds (i := 4) rfl) (fun c2 => ?_) (fun c2 => ?_)
  · rw [if_pos c2] at h
    exact Sm_le (leR_s (leR_n (leR_n (leR_n (leR_n (leR_n (leR_n (leR_n (leR_n (leR_n leR_nil)))))))))) (s_M_odds_19 K hQ _ _ h)
  · rw [if_neg c2] at h
    refine Sm_run K ek_M_odds 5 3 rfl ?_
    obtain ⟨p3, e_p3, h⟩ := Option.bind_eq_some_iff.mp h
    refine Sm_callS K (eok_i (eo ek_M_odds (i := 8) rfl) rfl) cy_M_in st_M_in (lgm 815 (by decide +kernel) rfl) ⟨Nat.le_of_ble_eq_true rfl, Nat.le_of_ble_eq_true rfl⟩ (as := [.int x2, .int 0, .int 1]) (st := []) rfl rfl rfl (Nat.le_of_ble_eq_true rfl) ⟨Nat.le_of_ble_eq_true rfl, Nat.le_of_ble_eq_true rfl⟩ (cn_M_in e_p3) ?_
    refine Sm_eq (st1 := .int p3.1 :: []) (nc1 := 0) (ns1 := 0) rfl rfl rfl ?_
    refine Sm_if_ne K (eo ek_M_odds (i := 9) rfl) (fun c4 => ?_) (fun c4 => ?_)
    · rw [if_neg c4] at h
      refine Sm_run K ek_M_odds 15 2 rfl ?_
      obtain ⟨o6, e_o6, h⟩ := Option.bind_eq_some_iff.mp h
      obtain ⟨p5, e_p5, h⟩ := Option.bind_eq_some_iff.mp h
      refine Sm_callV K (eok_i (eo ek_M_odds (i := 17) rfl) rfl) cy_M_darkOnes im_M_darkOnes se_M_darkOnes (lgm 968 (by decide +kernel) rfl) ⟨Nat.le_of_ble_eq_true rfl, Nat.le_of_ble_eq_true rfl⟩ (as := []) (b := t) (st := [.int 16]) (ob_e e_o6) (by decide) rfl rfl rfl rfl (Nat.le_of_ble_eq_true rfl) ⟨Nat.le_of_ble_eq_true rfl, Nat.le_of_ble_eq_true rfl⟩ (cn_M_darkOnes e_p5) ?_
      refine Sm_eq (st1 := .int p5.1 :: [.int 16]) (nc1 := 0) (ns1 := 0) rfl rfl rfl ?_
      obtain ⟨p7, e_p7, h⟩ := Option.bind_eq_some_iff.mp h
      refine Sm_callS K (eok_i (eo ek_M_odds (i := 18) rfl) rfl) cy_M_bits st_M_bits (lgm 1043 (by decide +kernel) rfl) ⟨Nat.le_of_ble_eq_true rfl, Nat.le_of_ble_eq_true rfl⟩ (as := [.int p5.1]) (st := [.int 16]) rfl rfl rfl (Nat.le_of_ble_eq_true rfl) ⟨Nat.le_of_ble_eq_true rfl, Nat.le_of_ble_eq_true rfl⟩ (cn_M_bits e_p7) ?_
      refine Sm_eq (st1 := .int p7.1 :: [.int 16]) (nc1 := 0) (ns1 := 0) rfl rfl rfl ?_
      refine Sm_run K ek_M_odds 19 5 rfl ?_
      exact Sm_le (leR_n (leR_s (leR_s (leR_s (leR_n (leR_s (leR_n (leR_n (leR_n (leR_n leR_nil)))))))))) (s_M_odds_44 K hQ FU _ _ _ _ _ h)
    · rw [if_pos c4] at h
      exact Sm_le (leR_s (leR_n (leR_n (leR_n (leR_n (leR_n (leR_n (leR_n (leR_n (leR_n leR_nil)))))))))) (s_M_odds_19 K hQ _ _ h)
def F_M_odds (t : Nat) (x1 : Int32) (x2 : Int32) (w : A_W) : Option (Int64 × A_W) := F_M_odds_0 t x1 x2 w
theorem cn_M_odds {G : Gx} {t : Nat} {x1 : Int32} {x2 : Int32} {w : A_W} {res : Int64 × A_W} (h : F_M_odds t x1 x2 w = some res) : Cn G y_M_odds c_M_odds 10 (some .long) rm_M_odds [.ref t, .int x1, .int x2] w (some (.long res.1)) res.2 :=
  Cn_of (own := 4) cy_M_odds rfl rfl (Nat.le_of_ble_eq_true rfl) rfl (fun X K _ hQ => Sm_le (leR_s (leR_s (leR_s (leR_n (leR_n (leR_n (leR_n (leR_n (leR_n (leR_n leR_nil)))))))))) (s_M_odds_0 K hQ _ _ _ _ h))
/-! EveningCloakModel.seed(I)I -/
abbrev c_M_seed : ByteArray := prog_6_method_73_code
def y_M_seed : MethodName := ⟨"EveningCloakModel", "seed", "(I)I"⟩
def rm_M_seed : Room := { frames := 1, cells := 0, slots := 0, locals := 23 }
theorem cy_M_seed : Cy y_M_seed c_M_seed 2 (some .int) 1 := ⟨lgm 1096 (by decide +kernel) rfl, lgm 73 (by decide +kernel) rfl, by decide +kernel, by decide +kernel⟩
theorem im_M_seed : Cond.instanceMethod y_M_seed ∈ lg := lgm 1094 (by decide +kernel) rfl
theorem se_M_seed : Cond.selects y_M_seed.cls y_M_seed y_M_seed ∈ lg := lgm 1095 (by decide +kernel) rfl
def e_M_seed : List Ent := [
  (0, .aload_n 0, 1, 1, .null, 0, 0, 0),
  (1, .iconst 2, 1, 2, .int 2, 0, 0, 0),
  (2, .iload_n 1, 1, 3, .null, 0, 0, 0),
  (3, .invokevirtual 71, 3, 6, .null, 0, 0, 0),
  (6, .ireturn, 1, 7, .null, 0, 0, 0)]
set_option maxRecDepth 100000 in
theorem ek_M_seed : e_M_seed.all (eok 4 c_M_seed) = true := by decide +kernel
def F_M_seed_0 (t : Nat) (x1 : Int32) (w : A_W) : Option (Int32 × A_W) :=
  (ob w t 4).bind fun o2 =>
  (F_M_becomes t 2 x1 w).bind fun p1 =>
  some (p1.1, p1.2)
set_option maxHeartbeats 4000000 in
set_option maxRecDepth 100000 in
theorem s_M_seed_0 {G : Gx} {X : Cx} {res : Int32 × A_W} (K : Ok G X 4 c_M_seed 2 (some .int) rm_M_seed) (hQ : QQ G X (some (.int res.1)) res.2 0 0) (t : Nat) (x1 : Int32) (w : A_W) (h : F_M_seed_0 t x1 w = some res) : Sm G X w 0 0 [some (.ref t), some (.int x1)] [] 0 := by
  unfold F_M_seed_0 at h
  refine Sm_run K ek_M_seed 0 3 rfl ?_
  obtain ⟨o2, e_o2, h⟩ := Option.bind_eq_some_iff.mp h
  obtain ⟨p1, e_p1, h⟩ := Option.bind_eq_some_iff.mp h
  refine Sm_callV K (eok_i (eo ek_M_seed (i := 3) rfl) rfl) cy_M_becomes im_M_becomes se_M_becomes (lgm 821 (by decide +kernel) rfl) ⟨Nat.le_of_ble_eq_true rfl, Nat.le_of_ble_eq_true rfl⟩ (as := [.int 2, .int x1]) (b := t) (st := []) (ob_e e_o2) (by decide) rfl rfl rfl rfl (Nat.le_of_ble_eq_true rfl) ⟨Nat.le_of_ble_eq_true rfl, Nat.le_of_ble_eq_true rfl⟩ (cn_M_becomes e_p1) ?_
  refine Sm_eq (st1 := .int p1.1 :: []) (nc1 := 0) (ns1 := 0) rfl rfl rfl ?_
  cases h
  exact Sm_reti K hQ (eok_i (eo ek_M_seed (i := 4) rfl) rfl)
def F_M_seed (t : Nat) (x1 : Int32) (w : A_W) : Option (Int32 × A_W) := F_M_seed_0 t x1 w
theorem cn_M_seed {G : Gx} {t : Nat} {x1 : Int32} {w : A_W} {res : Int32 × A_W} (h : F_M_seed t x1 w = some res) : Cn G y_M_seed c_M_seed 2 (some .int) rm_M_seed [.ref t, .int x1] w (some (.int res.1)) res.2 :=
  Cn_of (own := 4) cy_M_seed rfl rfl (Nat.le_of_ble_eq_true rfl) rfl (fun X K _ hQ => Sm_le (leR_s (leR_s leR_nil)) (s_M_seed_0 K hQ _ _ _ h))
/-! EveningCloakModel.feed(II)I -/
abbrev c_M_feed : ByteArray := prog_6_method_74_code
def y_M_feed : MethodName := ⟨"EveningCloakModel", "feed", "(II)I"⟩
def rm_M_feed : Room := { frames := 1, cells := 0, slots := 0, locals := 22 }
theorem cy_M_feed : Cy y_M_feed c_M_feed 4 (some .int) 2 := ⟨lgm 1100 (by decide +kernel) rfl, lgm 73 (by decide +kernel) rfl, by decide +kernel, by decide +kernel⟩
theorem im_M_feed : Cond.instanceMethod y_M_feed ∈ lg := lgm 1098 (by decide +kernel) rfl
theorem se_M_feed : Cond.selects y_M_feed.cls y_M_feed y_M_feed ∈ lg := lgm 1099 (by decide +kernel) rfl
def e_M_feed : List Ent := [
  (0, .iload_n 2, 1, 1, .null, 0, 0, 0),
  (1, .iconst 1, 1, 2, .int 1, 0, 0, 0),
  (2, .iconst 4, 1, 3, .int 4, 0, 0, 0),
  (3, .invokestatic 40, 3, 6, .null, 0, 0, 0),
  (6, .ifCond .ne 10, 3, 16, .null, 0, 0, 0),
  (9, .aload_n 0, 1, 10, .null, 0, 0, 0),
  (10, .ldc 34, 2, 12, .int (-1000001), 0, 0, 825),
  (12, .invokevirtual 36, 3, 15, .null, 0, 0, 0),
  (15, .ireturn, 1, 16, .null, 0, 0, 0),
  (16, .aload_n 0, 1, 17, .null, 0, 0, 0),
  (17, .getfield 189, 3, 20, .null, 4, 9, 771),
  (20, .iload_n 2, 1, 21, .null, 0, 0, 0),
  (21, .iadd, 1, 22, .null, 0, 0, 0),
  (22, .bipush 120, 2, 24, .int 120, 0, 0, 0),
  (24, .if_icmp .le 10, 3, 34, .null, 0, 0, 0),
  (27, .aload_n 0, 1, 28, .null, 0, 0, 0),
  (28, .ldc 78, 2, 30, .int (-1000002), 0, 0, 838),
  (30, .invokevirtual 36, 3, 33, .null, 0, 0, 0),
  (33, .ireturn, 1, 34, .null, 0, 0, 0),
  (34, .iload_n 2, 1, 35, .null, 0, 0, 0),
  (35, .iconst 1, 1, 36, .int 1, 0, 0, 0),
  (36, .isub, 1, 37, .null, 0, 0, 0),
  (37, .istore_n 3, 1, 38, .null, 0, 0, 0),
  (38, .iload_n 3, 1, 39, .null, 0, 0, 0),
  (39, .ifCond .lt 38, 3, 77, .null, 0, 0, 0),
  (42, .aload_n 0, 1, 43, .null, 0, 0, 0),
  (43, .getfield 31, 3, 46, .null, 4, 8, 770),
  (46, .aload_n 0, 1, 47, .null, 0, 0, 0),
  (47, .getfield 189, 3, 50, .null, 4, 9, 771),
  (50, .iload_n 1, 1, 51, .null, 0, 0, 0),
  (51, .bipush 8, 2, 53, .int 8, 0, 0, 0),
  (53, .iload_n 3, 1, 54, .null, 0, 0, 0),
  (54, .imul, 1, 55, .null, 0, 0, 0),
  (55, .ishr, 1, 56, .null, 0, 0, 0),
  (56, .sipush 255, 3, 59, .int 255, 0, 0, 0),
  (59, .iand, 1, 60, .null, 0, 0, 0),
  (60, .iastore, 1, 61, .null, 0, 0, 0),
  (61, .aload_n 0, 1, 62, .null, 0, 0, 0),
  (62, .dup, 1, 63, .null, 0, 0, 0),
  (63, .getfield 189, 3, 66, .null, 4, 9, 771),
  (66, .iconst 1, 1, 67, .int 1, 0, 0, 0),
  (67, .iadd, 1, 68, .null, 0, 0, 0),
  (68, .putfield 189, 3, 71, .null, 4, 9, 771),
  (71, .iinc 3 (-1), 3, 74, .int (-1), 0, 0, 0),
  (74, .goto (-36), 3, 38, .null, 0, 0, 0),
  (77, .aload_n 0, 1, 78, .null, 0, 0, 0),
  (78, .getfield 189, 3, 81, .null, 4, 9, 771),
  (81, .ireturn, 1, 82, .null, 0, 0, 0)]
set_option maxRecDepth 100000 in
theorem ek_M_feed : e_M_feed.all (eok 4 c_M_feed) = true := by decide +kernel
def F_M_feed_38 : Nat → Nat → Int32 → Int32 → A_W → Option (Int32 × A_W)
  | 0, _, _, _, _ => none
  | n + 1, t, x1, x3, w =>
    if x3 < 0 then
      (gi w t 4 9).bind fun v2 =>
      some (v2, w)
    else
      (gr w t 4 8).bind fun a3 =>
      (gi w t 4 9).bind fun v4 =>
      (wr w a3 v4 ((x1 >>> ((8 * x3) &&& 31)) &&& 255)).bind fun w5 =>
      (gi w5 t 4 9).bind fun v6 =>
      (pf w5 t 4 9 (.int (v6 + 1))).bind fun w7 =>
      F_M_feed_38 n t x1 (x3 + (-1)) w7
def F_M_feed_0 (t : Nat) (x1 : Int32) (x2 : Int32) (w : A_W) : Option (Int32 × A_W) :=
  (F_M_in x2 1 4 w).bind fun p1 =>
  if p1.1 = 0 then
    (ob p1.2 t 4).bind fun o8 =>
    (F_M_finds t (-1000001) p1.2).bind fun p7 =>
    some (p7.1, p7.2)
  else
    (gi p1.2 t 4 9).bind fun v3 =>
    if (v3 + x2) ≤ 120 then
      F_M_feed_38 FU t x1 (x2 - 1) p1.2
    else
      (ob p1.2 t 4).bind fun o6 =>
      (F_M_finds t (-1000002) p1.2).bind fun p5 =>
      some (p5.1, p5.2)
set_option maxHeartbeats 4000000 in
set_option maxRecDepth 100000 in
theorem s_M_feed_38 {G : Gx} {X : Cx} {res : Int32 × A_W} (K : Ok G X 4 c_M_feed 4 (some .int) rm_M_feed) (hQ : QQ G X (some (.int res.1)) res.2 0 0) : ∀ (n : Nat) (t : Nat) (x1 : Int32) (x3 : Int32) (w : A_W), F_M_feed_38 n t x1 x3 w = some res → Sm G X w 0 0 [some (.ref t), some (.int x1), none, some (.int x3)] [] 38 := by
  intro n
  induction n with
  | zero => intro t x1 x3 w h; cases h
  | succ n ih =>
    intro t x1 x3 w h
    rw [F_M_feed_38] at h
    refine Sm_run K ek_M_feed 23 1 rfl ?_
    refine Sm_if_lt K (eo ek_M_feed (i := 24) rfl) (fun c1 => ?_) (fun c1 => ?_)
    · rw [if_pos c1] at h
      refine Sm_run K ek_M_feed 45 1 rfl ?_
      obtain ⟨v2, e_v2, h⟩ := Option.bind_eq_some_iff.mp h
      refine Sm_gi K (eo ek_M_feed (i := 46) rfl) e_v2 ?_
      cases h
      exact Sm_reti K hQ (eok_i (eo ek_M_feed (i := 47) rfl) rfl)
    · rw [if_neg c1] at h
      refine Sm_run K ek_M_feed 25 1 rfl ?_
      obtain ⟨a3, e_a3, h⟩ := Option.bind_eq_some_iff.mp h
      refine Sm_gr K (eo ek_M_feed (i := 26) rfl) e_a3 ?_
      refine Sm_run K ek_M_feed 27 1 rfl ?_
      obtain ⟨v4, e_v4, h⟩ := Option.bind_eq_some_iff.mp h
      refine Sm_gi K (eo ek_M_feed (i := 28) rfl) e_v4 ?_
      refine Sm_run K ek_M_feed 29 7 rfl ?_
      obtain ⟨w5, e_w5, h⟩ := Option.bind_eq_some_iff.mp h
      refine Sm_wr K (eok_i (eo ek_M_feed (i := 36) rfl) rfl) e_w5 ?_
      refine Sm_run K ek_M_feed 37 2 rfl ?_
      obtain ⟨v6, e_v6, h⟩ := Option.bind_eq_some_iff.mp h
      refine Sm_gi K (eo ek_M_feed (i := 39) rfl) e_v6 ?_
      refine Sm_run K ek_M_feed 40 2 rfl ?_
      obtain ⟨w7, e_w7, h⟩ := Option.bind_eq_some_iff.mp h
      refine Sm_pi K (eo ek_M_feed (i := 42) rfl) rfl rfl e_w7 ?_
      refine Sm_run K ek_M_feed 43 2 rfl ?_
      exact Sm_le (leR_s (leR_s (leR_n (leR_s leR_nil)))) (ih _ _ _ _ h)
set_option maxHeartbeats 4000000 in
set_option maxRecDepth 100000 in
theorem s_M_feed_0 {G : Gx} {X : Cx} {res : Int32 × A_W} (K : Ok G X 4 c_M_feed 4 (some .int) rm_M_feed) (hQ : QQ G X (some (.int res.1)) res.2 0 0) (t : Nat) (x1 : Int32) (x2 : Int32) (w : A_W) (h : F_M_feed_0 t x1 x2 w = some res) : Sm G X w 0 0 [some (.ref t), some (.int x1), some (.int x2), none] [] 0 := by
  unfold F_M_feed_0 at h
  refine Sm_run K ek_M_feed 0 3 rfl ?_
  obtain ⟨p1, e_p1, h⟩ := Option.bind_eq_some_iff.mp h
  refine Sm_callS K (eok_i (eo ek_M_feed (i := 3) rfl) rfl) cy_M_in st_M_in (lgm 815 (by decide +kernel) rfl) ⟨Nat.le_of_ble_eq_true rfl, Nat.le_of_ble_eq_true rfl⟩ (as := [.int x2, .int 1, .int 4]) (st := []) rfl rfl rfl (Nat.le_of_ble_eq_true rfl) ⟨Nat.le_of_ble_eq_true rfl, Nat.le_of_ble_eq_true rfl⟩ (cn_M_in e_p1) ?_
  refine Sm_eq (st1 := .int p1.1 :: []) (nc1 := 0) (ns1 := 0) rfl rfl rfl ?_
  refine Sm_if_ne K (eo ek_M_feed (i := 4) rfl) (fun c2 => ?_) (fun c2 => ?_)
  · rw [if_neg c2] at h
    refine Sm_run K ek_M_feed 9 1 rfl ?_
    obtain ⟨v3, e_v3, h⟩ := Option.bind_eq_some_iff.mp h
    refine Sm_gi K (eo ek_M_feed (i := 10) rfl) e_v3 ?_
    refine Sm_run K ek_M_feed 11 3 rfl ?_
    refine Sm_ic_le K (eo ek_M_feed (i := 14) rfl) (fun c4 => ?_) (fun c4 => ?_)
    · rw [if_pos c4] at h
      refine Sm_run K ek_M_feed 19 4 rfl ?_
      exact Sm_le (leR_s (leR_s (leR_n (leR_s leR_nil)))) (s_M_feed_38 K hQ FU _ _ _ _ h)
    · rw [if_neg c4] at h
      refine Sm_run K ek_M_feed 15 2 rfl ?_
      obtain ⟨o6, e_o6, h⟩ := Option.bind_eq_some_iff.mp h
      obtain ⟨p5, e_p5, h⟩ := Option.bind_eq_some_iff.mp h
      refine Sm_callV K (eok_i (eo ek_M_feed (i := 17) rfl) rfl) cy_M_finds im_M_finds se_M_finds (lgm 826 (by decide +kernel) rfl) ⟨Nat.le_of_ble_eq_true rfl, Nat.le_of_ble_eq_true rfl⟩ (as := [.int (-1000002)]) (b := t) (st := []) (ob_e e_o6) (by decide) rfl rfl rfl rfl (Nat.le_of_ble_eq_true rfl) ⟨Nat.le_of_ble_eq_true rfl, Nat.le_of_ble_eq_true rfl⟩ (cn_M_finds e_p5) ?_
      refine Sm_eq (st1 := .int p5.1 :: []) (nc1 := 0) (ns1 := 0) rfl rfl rfl ?_
      cases h
      exact Sm_reti K hQ (eok_i (eo ek_M_feed (i := 18) rfl) rfl)
  · rw [if_pos c2] at h
    refine Sm_run K ek_M_feed 5 2 rfl ?_
    obtain ⟨o8, e_o8, h⟩ := Option.bind_eq_some_iff.mp h
    obtain ⟨p7, e_p7, h⟩ := Option.bind_eq_some_iff.mp h
    refine Sm_callV K (eok_i (eo ek_M_feed (i := 7) rfl) rfl) cy_M_finds im_M_finds se_M_finds (lgm 826 (by decide +kernel) rfl) ⟨Nat.le_of_ble_eq_true rfl, Nat.le_of_ble_eq_true rfl⟩ (as := [.int (-1000001)]) (b := t) (st := []) (ob_e e_o8) (by decide) rfl rfl rfl rfl (Nat.le_of_ble_eq_true rfl) ⟨Nat.le_of_ble_eq_true rfl, Nat.le_of_ble_eq_true rfl⟩ (cn_M_finds e_p7) ?_
    refine Sm_eq (st1 := .int p7.1 :: []) (nc1 := 0) (ns1 := 0) rfl rfl rfl ?_
    cases h
    exact Sm_reti K hQ (eok_i (eo ek_M_feed (i := 8) rfl) rfl)
def F_M_feed (t : Nat) (x1 : Int32) (x2 : Int32) (w : A_W) : Option (Int32 × A_W) := F_M_feed_0 t x1 x2 w
theorem cn_M_feed {G : Gx} {t : Nat} {x1 : Int32} {x2 : Int32} {w : A_W} {res : Int32 × A_W} (h : F_M_feed t x1 x2 w = some res) : Cn G y_M_feed c_M_feed 4 (some .int) rm_M_feed [.ref t, .int x1, .int x2] w (some (.int res.1)) res.2 :=
  Cn_of (own := 4) cy_M_feed rfl rfl (Nat.le_of_ble_eq_true rfl) rfl (fun X K _ hQ => Sm_le (leR_s (leR_s (leR_s (leR_n leR_nil)))) (s_M_feed_0 K hQ _ _ _ _ h))
/-! EveningCloakModel.wipe()I -/
abbrev c_M_wipe : ByteArray := prog_6_method_75_code
def y_M_wipe : MethodName := ⟨"EveningCloakModel", "wipe", "()I"⟩
def rm_M_wipe : Room := { frames := 0, cells := 0, slots := 0, locals := 0 }
theorem cy_M_wipe : Cy y_M_wipe c_M_wipe 2 (some .int) 0 := ⟨lgm 1104 (by decide +kernel) rfl, lgm 73 (by decide +kernel) rfl, by decide +kernel, by decide +kernel⟩
theorem im_M_wipe : Cond.instanceMethod y_M_wipe ∈ lg := lgm 1102 (by decide +kernel) rfl
theorem se_M_wipe : Cond.selects y_M_wipe.cls y_M_wipe y_M_wipe ∈ lg := lgm 1103 (by decide +kernel) rfl
def e_M_wipe : List Ent := [
  (0, .aload_n 0, 1, 1, .null, 0, 0, 0),
  (1, .getfield 189, 3, 4, .null, 4, 9, 771),
  (4, .istore_n 1, 1, 5, .null, 0, 0, 0),
  (5, .aload_n 0, 1, 6, .null, 0, 0, 0),
  (6, .iconst 0, 1, 7, .int 0, 0, 0, 0),
  (7, .putfield 189, 3, 10, .null, 4, 9, 771),
  (10, .iload_n 1, 1, 11, .null, 0, 0, 0),
  (11, .ireturn, 1, 12, .null, 0, 0, 0)]
set_option maxRecDepth 100000 in
theorem ek_M_wipe : e_M_wipe.all (eok 4 c_M_wipe) = true := by decide +kernel
def F_M_wipe_0 (t : Nat) (w : A_W) : Option (Int32 × A_W) :=
  (gi w t 4 9).bind fun v1 =>
  (pf w t 4 9 (.int 0)).bind fun w2 =>
  some (v1, w2)
set_option maxHeartbeats 4000000 in
set_option maxRecDepth 100000 in
theorem s_M_wipe_0 {G : Gx} {X : Cx} {res : Int32 × A_W} (K : Ok G X 4 c_M_wipe 2 (some .int) rm_M_wipe) (hQ : QQ G X (some (.int res.1)) res.2 0 0) (t : Nat) (w : A_W) (h : F_M_wipe_0 t w = some res) : Sm G X w 0 0 [some (.ref t), none] [] 0 := by
  unfold F_M_wipe_0 at h
  refine Sm_run K ek_M_wipe 0 1 rfl ?_
  obtain ⟨v1, e_v1, h⟩ := Option.bind_eq_some_iff.mp h
  refine Sm_gi K (eo ek_M_wipe (i := 1) rfl) e_v1 ?_
  refine Sm_run K ek_M_wipe 2 3 rfl ?_
  obtain ⟨w2, e_w2, h⟩ := Option.bind_eq_some_iff.mp h
  refine Sm_pi K (eo ek_M_wipe (i := 5) rfl) rfl rfl e_w2 ?_
  refine Sm_run K ek_M_wipe 6 1 rfl ?_
  cases h
  exact Sm_reti K hQ (eok_i (eo ek_M_wipe (i := 7) rfl) rfl)
def F_M_wipe (t : Nat) (w : A_W) : Option (Int32 × A_W) := F_M_wipe_0 t w
theorem cn_M_wipe {G : Gx} {t : Nat} {w : A_W} {res : Int32 × A_W} (h : F_M_wipe t w = some res) : Cn G y_M_wipe c_M_wipe 2 (some .int) rm_M_wipe [.ref t] w (some (.int res.1)) res.2 :=
  Cn_of (own := 4) cy_M_wipe rfl rfl (Nat.le_of_ble_eq_true rfl) rfl (fun X K _ hQ => Sm_le (leR_s (leR_n leR_nil)) (s_M_wipe_0 K hQ _ _ h))
/-! EveningCloakModel.isByte(III)Z -/
abbrev c_M_isByte : ByteArray := prog_6_method_76_code
def y_M_isByte : MethodName := ⟨"EveningCloakModel", "isByte", "(III)Z"⟩
def rm_M_isByte : Room := { frames := 1, cells := 0, slots := 0, locals := 22 }
theorem cy_M_isByte : Cy y_M_isByte c_M_isByte 4 (some .boolean) 3 := ⟨lgm 1116 (by decide +kernel) rfl, lgm 73 (by decide +kernel) rfl, by decide +kernel, by decide +kernel⟩
theorem im_M_isByte : Cond.instanceMethod y_M_isByte ∈ lg := lgm 1115 (by decide +kernel) rfl
theorem se_M_isByte : Cond.selects y_M_isByte.cls y_M_isByte y_M_isByte ∈ lg := lgm 55 (by decide +kernel) rfl
def e_M_isByte : List Ent := [
  (0, .iload_n 1, 1, 1, .null, 0, 0, 0),
  (1, .aload_n 0, 1, 2, .null, 0, 0, 0),
  (2, .getfield 189, 3, 5, .null, 4, 9, 771),
  (5, .if_icmp .ge 21, 3, 26, .null, 0, 0, 0),
  (8, .aload_n 0, 1, 9, .null, 0, 0, 0),
  (9, .getfield 31, 3, 12, .null, 4, 8, 770),
  (12, .iload_n 1, 1, 13, .null, 0, 0, 0),
  (13, .iaload, 1, 14, .null, 0, 0, 0),
  (14, .iload_n 2, 1, 15, .null, 0, 0, 0),
  (15, .iload_n 3, 1, 16, .null, 0, 0, 0),
  (16, .invokestatic 40, 3, 19, .null, 0, 0, 0),
  (19, .ifCond .eq 7, 3, 26, .null, 0, 0, 0),
  (22, .iconst 1, 1, 23, .int 1, 0, 0, 0),
  (23, .goto 4, 3, 27, .null, 0, 0, 0),
  (26, .iconst 0, 1, 27, .int 0, 0, 0, 0),
  (27, .ireturn, 1, 28, .null, 0, 0, 0)]
set_option maxRecDepth 100000 in
theorem ek_M_isByte : e_M_isByte.all (eok 4 c_M_isByte) = true := by decide +kernel
def F_M_isByte_27 (y0 : Int32) (w : A_W) : Option (Int32 × A_W) :=
  (bz y0).bind fun b1 =>
  some (b1, w)
def F_M_isByte_26 (w : A_W) : Option (Int32 × A_W) :=
  F_M_isByte_27 0 w
def F_M_isByte_0 (t : Nat) (x1 : Int32) (x2 : Int32) (x3 : Int32) (w : A_W) : Option (Int32 × A_W) :=
  (gi w t 4 9).bind fun v1 =>
  if v1 ≤ x1 then
    F_M_isByte_26 w
  else
    (gr w t 4 8).bind fun a3 =>
    (rd w a3 x1).bind fun v4 =>
    (F_M_in v4 x2 x3 w).bind fun p5 =>
    if p5.1 = 0 then
      F_M_isByte_26 p5.2
    else
      F_M_isByte_27 1 p5.2
set_option maxHeartbeats 4000000 in
set_option maxRecDepth 100000 in
theorem s_M_isByte_27 {G : Gx} {X : Cx} {res : Int32 × A_W} (K : Ok G X 4 c_M_isByte 4 (some .boolean) rm_M_isByte) (hQ : QQ G X (some (.int res.1)) res.2 0 0) (y0 : Int32) (w : A_W) (h : F_M_isByte_27 y0 w = some res) : Sm G X w 0 0 [none, none, none, none] [.int y0] 27 := by
  unfold F_M_isByte_27 at h
  obtain ⟨b1, e_b1, h⟩ := Option.bind_eq_some_iff.mp h
  cases h
  exact Sm_retz K e_b1 hQ (eok_i (eo ek_M_isByte (i := 15) rfl) rfl)
set_option maxHeartbeats 4000000 in
set_option maxRecDepth 100000 in
theorem s_M_isByte_26 {G : Gx} {X : Cx} {res : Int32 × A_W} (K : Ok G X 4 c_M_isByte 4 (some .boolean) rm_M_isByte) (hQ : QQ G X (some (.int res.1)) res.2 0 0) (w : A_W) (h : F_M_isByte_26 w = some res) : Sm G X w 0 0 [none, none, none, none] [] 26 := by
  unfold F_M_isByte_26 at h
  refine Sm_run K ek_M_isByte 14 1 rfl ?_
  exact Sm_le (leR_n (leR_n (leR_n (leR_n leR_nil)))) (s_M_isByte_27 K hQ _ _ h)
set_option maxHeartbeats 4000000 in
set_option maxRecDepth 100000 in
theorem s_M_isByte_0 {G : Gx} {X : Cx} {res : Int32 × A_W} (K : Ok G X 4 c_M_isByte 4 (some .boolean) rm_M_isByte) (hQ : QQ G X (some (.int res.1)) res.2 0 0) (t : Nat) (x1 : Int32) (x2 : Int32) (x3 : Int32) (w : A_W) (h : F_M_isByte_0 t x1 x2 x3 w = some res) : Sm G X w 0 0 [some (.ref t), some (.int x1), some (.int x2), some (.int x3)] [] 0 := by
  unfold F_M_isByte_0 at h
  refine Sm_run K ek_M_isByte 0 2 rfl ?_
  obtain ⟨v1, e_v1, h⟩ := Option.bind_eq_some_iff.mp h
  refine Sm_gi K (eo ek_M_isByte (i := 2) rfl) e_v1 ?_
  refine Sm_ic_ge K (eo ek_M_isByte (i := 3) rfl) (fun c2 => ?_) (fun c2 => ?_)
  · rw [if_pos c2] at h
    exact Sm_le (leR_n (leR_n (leR_n (leR_n leR_nil)))) (s_M_isByte_26 K hQ _ h)
  · rw [if_neg c2] at h
    refine Sm_run K ek_M_isByte 4 1 rfl ?_
    obtain ⟨a3, e_a3, h⟩ := Option.bind_eq_some_iff.mp h
    refine Sm_gr K (eo ek_M_isByte (i := 5) rfl) e_a3 ?_
    refine Sm_run K ek_M_isByte 6 1 rfl ?_
    obtain ⟨v4, e_v4, h⟩ := Option.bind_eq_some_iff.mp h
    refine Sm_rd K (eok_i (eo ek_M_isByte (i := 7) rfl) rfl) e_v4 ?_
    refine Sm_run K ek_M_isByte 8 2 rfl ?_
    obtain ⟨p5, e_p5, h⟩ := Option.bind_eq_some_iff.mp h
    refine Sm_callS K (eok_i (eo ek_M_isByte (i := 10) rfl) rfl) cy_M_in st_M_in (lgm 815 (by decide +kernel) rfl) ⟨Nat.le_of_ble_eq_true rfl, Nat.le_of_ble_eq_true rfl⟩ (as := [.int v4, .int x2, .int x3]) (st := []) rfl rfl rfl (Nat.le_of_ble_eq_true rfl) ⟨Nat.le_of_ble_eq_true rfl, Nat.le_of_ble_eq_true rfl⟩ (cn_M_in e_p5) ?_
    refine Sm_eq (st1 := .int p5.1 :: []) (nc1 := 0) (ns1 := 0) rfl rfl rfl ?_
    refine Sm_if_eq K (eo ek_M_isByte (i := 11) rfl) (fun c6 => ?_) (fun c6 => ?_)
    · rw [if_pos c6] at h
      exact Sm_le (leR_n (leR_n (leR_n (leR_n leR_nil)))) (s_M_isByte_26 K hQ _ h)
    · rw [if_neg c6] at h
      refine Sm_run K ek_M_isByte 12 2 rfl ?_
      exact Sm_le (leR_n (leR_n (leR_n (leR_n leR_nil)))) (s_M_isByte_27 K hQ _ _ h)
def F_M_isByte (t : Nat) (x1 : Int32) (x2 : Int32) (x3 : Int32) (w : A_W) : Option (Int32 × A_W) := F_M_isByte_0 t x1 x2 x3 w
theorem cn_M_isByte {G : Gx} {t : Nat} {x1 : Int32} {x2 : Int32} {x3 : Int32} {w : A_W} {res : Int32 × A_W} (h : F_M_isByte t x1 x2 x3 w = some res) : Cn G y_M_isByte c_M_isByte 4 (some .boolean) rm_M_isByte [.ref t, .int x1, .int x2, .int x3] w (some (.int res.1)) res.2 :=
  Cn_of (own := 4) cy_M_isByte rfl rfl (Nat.le_of_ble_eq_true rfl) rfl (fun X K _ hQ => Sm_le (leR_s (leR_s (leR_s (leR_s leR_nil)))) (s_M_isByte_0 K hQ _ _ _ _ _ h))
/-! EveningCloakModel.isName(II)Z -/
abbrev c_M_isName : ByteArray := prog_6_method_77_code
def y_M_isName : MethodName := ⟨"EveningCloakModel", "isName", "(II)Z"⟩
def rm_M_isName : Room := { frames := 0, cells := 0, slots := 0, locals := 0 }
theorem cy_M_isName : Cy y_M_isName c_M_isName 5 (some .boolean) 2 := ⟨lgm 1124 (by decide +kernel) rfl, lgm 73 (by decide +kernel) rfl, by decide +kernel, by decide +kernel⟩
theorem im_M_isName : Cond.instanceMethod y_M_isName ∈ lg := lgm 1123 (by decide +kernel) rfl
theorem se_M_isName : Cond.selects y_M_isName.cls y_M_isName y_M_isName ∈ lg := lgm 57 (by decide +kernel) rfl
def e_M_isName : List Ent := [
  (0, .iload_n 2, 1, 1, .null, 0, 0, 0),
  (1, .bipush 8, 2, 3, .int 8, 0, 0, 0),
  (3, .if_icmp .gt 26, 3, 29, .null, 0, 0, 0),
  (6, .iload_n 2, 1, 7, .null, 0, 0, 0),
  (7, .bipush 8, 2, 9, .int 8, 0, 0, 0),
  (9, .if_icmp .eq 16, 3, 25, .null, 0, 0, 0),
  (12, .getstatic 193, 3, 15, .ref (aA 4), 0, 4, 1125),
  (15, .bipush 8, 2, 17, .int 8, 0, 0, 0),
  (17, .iload_n 1, 1, 18, .null, 0, 0, 0),
  (18, .imul, 1, 19, .null, 0, 0, 0),
  (19, .iload_n 2, 1, 20, .null, 0, 0, 0),
  (20, .iadd, 1, 21, .null, 0, 0, 0),
  (21, .iaload, 1, 22, .null, 0, 0, 0),
  (22, .ifCond .ne 7, 3, 29, .null, 0, 0, 0),
  (25, .iconst 1, 1, 26, .int 1, 0, 0, 0),
  (26, .goto 4, 3, 30, .null, 0, 0, 0),
  (29, .iconst 0, 1, 30, .int 0, 0, 0, 0),
  (30, .istore_n 3, 1, 31, .null, 0, 0, 0),
  (31, .iconst 0, 1, 32, .int 0, 0, 0, 0),
  (32, .istore 4, 2, 34, .null, 0, 0, 0),
  (34, .iload 4, 2, 36, .null, 0, 0, 0),
  (36, .iload_n 2, 1, 37, .null, 0, 0, 0),
  (37, .if_icmp .ge 45, 3, 82, .null, 0, 0, 0),
  (40, .iload_n 3, 1, 41, .null, 0, 0, 0),
  (41, .ifCond .eq 41, 3, 82, .null, 0, 0, 0),
  (44, .getstatic 193, 3, 47, .ref (aA 4), 0, 4, 1125),
  (47, .bipush 8, 2, 49, .int 8, 0, 0, 0),
  (49, .iload_n 1, 1, 50, .null, 0, 0, 0),
  (50, .imul, 1, 51, .null, 0, 0, 0),
  (51, .iload 4, 2, 53, .null, 0, 0, 0),
  (53, .iadd, 1, 54, .null, 0, 0, 0),
  (54, .iaload, 1, 55, .null, 0, 0, 0),
  (55, .aload_n 0, 1, 56, .null, 0, 0, 0),
  (56, .getfield 31, 3, 59, .null, 4, 8, 770),
  (59, .aload_n 0, 1, 60, .null, 0, 0, 0),
  (60, .getfield 196, 3, 63, .null, 4, 11, 773),
  (63, .iload 4, 2, 65, .null, 0, 0, 0),
  (65, .iadd, 1, 66, .null, 0, 0, 0),
  (66, .iaload, 1, 67, .null, 0, 0, 0),
  (67, .if_icmp .ne 7, 3, 74, .null, 0, 0, 0),
  (70, .iconst 1, 1, 71, .int 1, 0, 0, 0),
  (71, .goto 4, 3, 75, .null, 0, 0, 0),
  (74, .iconst 0, 1, 75, .int 0, 0, 0, 0),
  (75, .istore_n 3, 1, 76, .null, 0, 0, 0),
  (76, .iinc 4 1, 3, 79, .int 1, 0, 0, 0),
  (79, .goto (-45), 3, 34, .null, 0, 0, 0),
  (82, .iload_n 3, 1, 83, .null, 0, 0, 0),
  (83, .ireturn, 1, 84, .null, 0, 0, 0)]
set_option maxRecDepth 100000 in
theorem ek_M_isName : e_M_isName.all (eok 4 c_M_isName) = true := by decide +kernel
def F_M_isName_75 (k34 : Nat → Int32 → Int32 → Int32 → Int32 → A_W → Option (Int32 × A_W)) (t : Nat) (x1 : Int32) (x2 : Int32) (x4 : Int32) (y0 : Int32) (w : A_W) : Option (Int32 × A_W) :=
  k34 t x1 x2 y0 (x4 + 1) w
def F_M_isName_82 (x3 : Int32) (w : A_W) : Option (Int32 × A_W) :=
  (bz x3).bind fun b1 =>
  some (b1, w)
def F_M_isName_34 : Nat → Nat → Int32 → Int32 → Int32 → Int32 → A_W → Option (Int32 × A_W)
  | 0, _, _, _, _, _, _ => none
  | n + 1, t, x1, x2, x3, x4, w =>
    if x2 ≤ x4 then
      F_M_isName_82 x3 w
    else
      if x3 = 0 then
        F_M_isName_82 x3 w
      else
        (rs 4 ((8 * x1) + x4)).bind fun v3 =>
        (gr w t 4 8).bind fun a4 =>
        (gi w t 4 11).bind fun v5 =>
        (rd w a4 (v5 + x4)).bind fun v6 =>
        if v3 = v6 then
          F_M_isName_75 (F_M_isName_34 n) t x1 x2 x4 1 w
        else
          F_M_isName_75 (F_M_isName_34 n) t x1 x2 x4 0 w
def F_M_isName_30 (t : Nat) (x1 : Int32) (x2 : Int32) (y0 : Int32) (w : A_W) : Option (Int32 × A_W) :=
  F_M_isName_34 FU t x1 x2 y0 0 w
def F_M_isName_25 (t : Nat) (x1 : Int32) (x2 : Int32) (w : A_W) : Option (Int32 × A_W) :=
  F_M_isName_30 t x1 x2 1 w
def F_M_isName_29 (t : Nat) (x1 : Int32) (x2 : Int32) (w : A_W) : Option (Int32 × A_W) :=
  F_M_isName_30 t x1 x2 0 w
def F_M_isName_0 (t : Nat) (x1 : Int32) (x2 : Int32) (w : A_W) : Option (Int32 × A_W) :=
  if 8 < x2 then
    F_M_isName_29 t x1 x2 w
  else
    if x2 = 8 then
      F_M_isName_25 t x1 x2 w
    else
      (rs 4 ((8 * x1) + x2)).bind fun v3 =>
      if v3 = 0 then
        F_M_isName_25 t x1 x2 w
      else
        F_M_isName_29 t x1 x2 w
set_option maxHeartbeats 4000000 in
set_option maxRecDepth 100000 in
theorem s_M_isName_75 {G : Gx} {X : Cx} {res : Int32 × A_W} (K : Ok G X 4 c_M_isName 5 (some .boolean) rm_M_isName) (hQ : QQ G X (some (.int res.1)) res.2 0 0) {k34 : Nat → Int32 → Int32 → Int32 → Int32 → A_W → Option (Int32 × A_W)} (hk34 : ∀ (t : Nat) (x1 : Int32) (x2 : Int32) (x3 : Int32) (x4 : Int32) (w : A_W), k34 t x1 x2 x3 x4 w = some res → Sm G X w 0 0 [some (.ref t), some (.int x1), some (.int x2), some (.int x3), some (.int x4)] [] 34) (t : Nat) (x1 : Int32) (x2 : Int32) (x4 : Int32) (y0 : Int32) (w : A_W) (h : F_M_isName_75 k34 t x1 x2 x4 y0 w = some res) : Sm G X w 0 0 [some (.ref t), some (.int x1), some (.int x2), none, some (.int x4)] [.int y0] 75 := by
  unfold F_M_isName_75 at h
  refine Sm_run K ek_M_isName 43 3 rfl ?_
  exact Sm_le (leR_s (leR_s (leR_s (leR_s (leR_s leR_nil))))) (hk34 _ _ _ _ _ _ h)
set_option maxHeartbeats 4000000 in
set_option maxRecDepth 100000 in
theorem s_M_isName_82 {G : Gx} {X : Cx} {res : Int32 × A_W} (K : Ok G X 4 c_M_isName 5 (some .boolean) rm_M_isName) (hQ : QQ G X (some (.int res.1)) res.2 0 0) (x3 : Int32) (w : A_W) (h : F_M_isName_82 x3 w = some res) : Sm G X w 0 0 [none, none, none, some (.int x3), none] [] 82 := by
  unfold F_M_isName_82 at h
  refine Sm_run K ek_M_isName 46 1 rfl ?_
  obtain ⟨b1, e_b1, h⟩ := Option.bind_eq_some_iff.mp h
  cases h
  exact Sm_retz K e_b1 hQ (eok_i (eo ek_M_isName (i := 47) rfl) rfl)
set_option maxHeartbeats 4000000 in
set_option maxRecDepth 100000 in
theorem s_M_isName_34 {G : Gx} {X : Cx} {res : Int32 × A_W} (K : Ok G X 4 c_M_isName 5 (some .boolean) rm_M_isName) (hQ : QQ G X (some (.int res.1)) res.2 0 0) : ∀ (n : Nat) (t : Nat) (x1 : Int32) (x2 : Int32) (x3 : Int32) (x4 : Int32) (w : A_W), F_M_isName_34 n t x1 x2 x3 x4 w = some res → Sm G X w 0 0 [some (.ref t), some (.int x1), some (.int x2), some (.int x3), some (.int x4)] [] 34 := by
  intro n
  induction n with
  | zero => intro t x1 x2 x3 x4 w h; cases h
  | succ n ih =>
    intro t x1 x2 x3 x4 w h
    rw [F_M_isName_34] at h
    refine Sm_run K ek_M_isName 20 2 rfl ?_
    refine Sm_ic_ge K (eo ek_M_isName (i := 22) rfl) (fun c1 => ?_) (fun c1 => ?_)
    · rw [if_pos c1] at h
      exact Sm_le (leR_n (leR_n (leR_n (leR_s (leR_n leR_nil))))) (s_M_isName_82 K hQ _ _ h)
    · rw [if_neg c1] at h
      refine Sm_run K ek_M_isName 23 1 rfl ?_
      refine Sm_if_eq K (eo ek_M_isName (i := 24) rfl) (fun c2 => ?_) (fun c2 => ?_)
      · rw [if_pos c2] at h
        exact Sm_le (leR_n (leR_n (leR_n (leR_s (leR_n leR_nil))))) (s_M_isName_82 K hQ _ _ h)
      · rw [if_neg c2] at h
        refine Sm_run K ek_M_isName 25 6 rfl ?_
        obtain ⟨v3, e_v3, h⟩ := Option.bind_eq_some_iff.mp h
        refine Sm_rs K (eok_i (eo ek_M_isName (i := 31) rfl) rfl) e_v3 ?_
        refine Sm_run K ek_M_isName 32 1 rfl ?_
        obtain ⟨a4, e_a4, h⟩ := Option.bind_eq_some_iff.mp h
        refine Sm_gr K (eo ek_M_isName (i := 33) rfl) e_a4 ?_
        refine Sm_run K ek_M_isName 34 1 rfl ?_
        obtain ⟨v5, e_v5, h⟩ := Option.bind_eq_some_iff.mp h
        refine Sm_gi K (eo ek_M_isName (i := 35) rfl) e_v5 ?_
        refine Sm_run K ek_M_isName 36 2 rfl ?_
        obtain ⟨v6, e_v6, h⟩ := Option.bind_eq_some_iff.mp h
        refine Sm_rd K (eok_i (eo ek_M_isName (i := 38) rfl) rfl) e_v6 ?_
        refine Sm_ic_ne K (eo ek_M_isName (i := 39) rfl) (fun c7 => ?_) (fun c7 => ?_)
        · rw [if_neg c7] at h
          refine Sm_run K ek_M_isName 42 1 rfl ?_
          exact Sm_le (leR_s (leR_s (leR_s (leR_n (leR_s leR_nil))))) (s_M_isName_75 K hQ ih _ _ _ _ _ _ h)
        · rw [if_pos c7] at h
          refine Sm_run K ek_M_isName 40 2 rfl ?_
          exact Sm_le (leR_s (leR_s (leR_s (leR_n (leR_s leR_nil))))) (s_M_isName_75 K hQ ih _ _ _ _ _ _ h)
set_option maxHeartbeats 4000000 in
set_option maxRecDepth 100000 in
theorem s_M_isName_30 {G : Gx} {X : Cx} {res : Int32 × A_W} (K : Ok G X 4 c_M_isName 5 (some .boolean) rm_M_isName) (hQ : QQ G X (some (.int res.1)) res.2 0 0) (t : Nat) (x1 : Int32) (x2 : Int32) (y0 : Int32) (w : A_W) (h : F_M_isName_30 t x1 x2 y0 w = some res) : Sm G X w 0 0 [some (.ref t), some (.int x1), some (.int x2), none, none] [.int y0] 30 := by
  unfold F_M_isName_30 at h
  refine Sm_run K ek_M_isName 17 3 rfl ?_
  exact Sm_le (leR_s (leR_s (leR_s (leR_s (leR_s leR_nil))))) (s_M_isName_34 K hQ FU _ _ _ _ _ _ h)
set_option maxHeartbeats 4000000 in
set_option maxRecDepth 100000 in
theorem s_M_isName_25 {G : Gx} {X : Cx} {res : Int32 × A_W} (K : Ok G X 4 c_M_isName 5 (some .boolean) rm_M_isName) (hQ : QQ G X (some (.int res.1)) res.2 0 0) (t : Nat) (x1 : Int32) (x2 : Int32) (w : A_W) (h : F_M_isName_25 t x1 x2 w = some res) : Sm G X w 0 0 [some (.ref t), some (.int x1), some (.int x2), none, none] [] 25 := by
  unfold F_M_isName_25 at h
  refine Sm_run K ek_M_isName 14 2 rfl ?_
  exact Sm_le (leR_s (leR_s (leR_s (leR_n (leR_n leR_nil))))) (s_M_isName_30 K hQ _ _ _ _ _ h)
set_option maxHeartbeats 4000000 in
set_option maxRecDepth 100000 in
theorem s_M_isName_29 {G : Gx} {X : Cx} {res : Int32 × A_W} (K : Ok G X 4 c_M_isName 5 (some .boolean) rm_M_isName) (hQ : QQ G X (some (.int res.1)) res.2 0 0) (t : Nat) (x1 : Int32) (x2 : Int32) (w : A_W) (h : F_M_isName_29 t x1 x2 w = some res) : Sm G X w 0 0 [some (.ref t), some (.int x1), some (.int x2), none, none] [] 29 := by
  unfold F_M_isName_29 at h
  refine Sm_run K ek_M_isName 16 1 rfl ?_
  exact Sm_le (leR_s (leR_s (leR_s (leR_n (leR_n leR_nil))))) (s_M_isName_30 K hQ _ _ _ _ _ h)
set_option maxHeartbeats 4000000 in
set_option maxRecDepth 100000 in
theorem s_M_isName_0 {G : Gx} {X : Cx} {res : Int32 × A_W} (K : Ok G X 4 c_M_isName 5 (some .boolean) rm_M_isName) (hQ : QQ G X (some (.int res.1)) res.2 0 0) (t : Nat) (x1 : Int32) (x2 : Int32) (w : A_W) (h : F_M_isName_0 t x1 x2 w = some res) : Sm G X w 0 0 [some (.ref t), some (.int x1), some (.int x2), none, none] [] 0 := by
  unfold F_M_isName_0 at h
  refine Sm_run K ek_M_isName 0 2 rfl ?_
  refine Sm_ic_gt K (eo ek_M_isName (i := 2) rfl) (fun c1 => ?_) (fun c1 => ?_)
  · rw [if_pos c1] at h
    exact Sm_le (leR_s (leR_s (leR_s (leR_n (leR_n leR_nil))))) (s_M_isName_29 K hQ _ _ _ _ h)
  · rw [if_neg c1] at h
    refine Sm_run K ek_M_isName 3 2 rfl ?_
    refine Sm_ic_eq K (eo ek_M_isName (i := 5) rfl) (fun c2 => ?_) (fun c2 => ?_)
    · rw [if_pos c2] at h
      exact Sm_le (leR_s (leR_s (leR_s (leR_n (leR_n leR_nil))))) (s_M_isName_25 K hQ _ _ _ _ h)
    · rw [if_neg c2] at h
      refine Sm_run K ek_M_isName 6 6 rfl ?_
      obtain ⟨v3, e_v3, h⟩ := Option.bind_eq_some_iff.mp h
      refine Sm_rs K (eok_i (eo ek_M_isName (i := 12) rfl) rfl) e_v3 ?_
      refine Sm_if_ne K (eo ek_M_isName (i := 13) rfl) (fun c4 => ?_) (fun c4 => ?_)
      · rw [if_neg c4] at h
        exact Sm_le (leR_s (leR_s (leR_s (leR_n (leR_n leR_nil))))) (s_M_isName_29 K hQ _ _ _ _ h)
      · rw [if_pos c4] at h
        exact Sm_le (leR_s (leR_s (leR_s (leR_n (leR_n leR_nil))))) (s_M_isName_25 K hQ _ _ _ _ h)
def F_M_isName (t : Nat) (x1 : Int32) (x2 : Int32) (w : A_W) : Option (Int32 × A_W) := F_M_isName_0 t x1 x2 w
theorem cn_M_isName {G : Gx} {t : Nat} {x1 : Int32} {x2 : Int32} {w : A_W} {res : Int32 × A_W} (h : F_M_isName t x1 x2 w = some res) : Cn G y_M_isName c_M_isName 5 (some .boolean) rm_M_isName [.ref t, .int x1, .int x2] w (some (.int res.1)) res.2 :=
  Cn_of (own := 4) cy_M_isName rfl rfl (Nat.le_of_ble_eq_true rfl) rfl (fun X K _ hQ => Sm_le (leR_s (leR_s (leR_s (leR_n (leR_n leR_nil))))) (s_M_isName_0 K hQ _ _ _ _ h))
/-! EveningCloakModel.wordHere()I -/
abbrev c_M_wordHere : ByteArray := prog_6_method_78_code
def y_M_wordHere : MethodName := ⟨"EveningCloakModel", "wordHere", "()I"⟩
def rm_M_wordHere : Room := { frames := 1, cells := 0, slots := 0, locals := 24 }
theorem cy_M_wordHere : Cy y_M_wordHere c_M_wordHere 2 (some .int) 0 := ⟨lgm 1120 (by decide +kernel) rfl, lgm 73 (by decide +kernel) rfl, by decide +kernel, by decide +kernel⟩
theorem im_M_wordHere : Cond.instanceMethod y_M_wordHere ∈ lg := lgm 1119 (by decide +kernel) rfl
theorem se_M_wordHere : Cond.selects y_M_wordHere.cls y_M_wordHere y_M_wordHere ∈ lg := lgm 56 (by decide +kernel) rfl
def e_M_wordHere : List Ent := [
  (0, .iconst 0, 1, 1, .int 0, 0, 0, 0),
  (1, .istore_n 1, 1, 2, .null, 0, 0, 0),
  (2, .iload_n 1, 1, 3, .null, 0, 0, 0),
  (3, .bipush 15, 2, 5, .int 15, 0, 0, 0),
  (5, .if_icmp .ge 26, 3, 31, .null, 0, 0, 0),
  (8, .aload_n 0, 1, 9, .null, 0, 0, 0),
  (9, .iload_n 1, 1, 10, .null, 0, 0, 0),
  (10, .aload_n 0, 1, 11, .null, 0, 0, 0),
  (11, .getfield 199, 3, 14, .null, 4, 12, 774),
  (14, .aload_n 0, 1, 15, .null, 0, 0, 0),
  (15, .getfield 196, 3, 18, .null, 4, 11, 773),
  (18, .isub, 1, 19, .null, 0, 0, 0),
  (19, .invokevirtual 202, 3, 22, .null, 0, 0, 0),
  (22, .ifCond .ne 9, 3, 31, .null, 0, 0, 0),
  (25, .iinc 1 1, 3, 28, .int 1, 0, 0, 0),
  (28, .goto (-26), 3, 2, .null, 0, 0, 0),
  (31, .iload_n 1, 1, 32, .null, 0, 0, 0),
  (32, .bipush 15, 2, 34, .int 15, 0, 0, 0),
  (34, .if_icmp .ge 7, 3, 41, .null, 0, 0, 0),
  (37, .iload_n 1, 1, 38, .null, 0, 0, 0),
  (38, .goto 5, 3, 43, .null, 0, 0, 0),
  (41, .bipush 23, 2, 43, .int 23, 0, 0, 0),
  (43, .ireturn, 1, 44, .null, 0, 0, 0)]
set_option maxRecDepth 100000 in
theorem ek_M_wordHere : e_M_wordHere.all (eok 4 c_M_wordHere) = true := by decide +kernel
def F_M_wordHere_43 (y0 : Int32) (w : A_W) : Option (Int32 × A_W) :=
  some (y0, w)
def F_M_wordHere_31 (x1 : Int32) (w : A_W) : Option (Int32 × A_W) :=
  if 15 ≤ x1 then
    F_M_wordHere_43 23 w
  else
    F_M_wordHere_43 x1 w
def F_M_wordHere_2 : Nat → Nat → Int32 → A_W → Option (Int32 × A_W)
  | 0, _, _, _ => none
  | n + 1, t, x1, w =>
    if 15 ≤ x1 then
      F_M_wordHere_31 x1 w
    else
      (gi w t 4 12).bind fun v2 =>
      (gi w t 4 11).bind fun v3 =>
      (ob w t 4).bind fun o5 =>
      (F_M_isName t x1 (v2 - v3) w).bind fun p4 =>
      if p4.1 = 0 then
        F_M_wordHere_2 n t (x1 + 1) p4.2
      else
        F_M_wordHere_31 x1 p4.2
def F_M_wordHere_0 (t : Nat) (w : A_W) : Option (Int32 × A_W) :=
  F_M_wordHere_2 FU t 0 w
set_option maxHeartbeats 4000000 in
set_option maxRecDepth 100000 in
theorem s_M_wordHere_43 {G : Gx} {X : Cx} {res : Int32 × A_W} (K : Ok G X 4 c_M_wordHere 2 (some .int) rm_M_wordHere) (hQ : QQ G X (some (.int res.1)) res.2 0 0) (y0 : Int32) (w : A_W) (h : F_M_wordHere_43 y0 w = some res) : Sm G X w 0 0 [none, none] [.int y0] 43 := by
  unfold F_M_wordHere_43 at h
  cases h
  exact Sm_reti K hQ (eok_i (eo ek_M_wordHere (i := 22) rfl) rfl)
set_option maxHeartbeats 4000000 in
set_option maxRecDepth 100000 in
theorem s_M_wordHere_31 {G : Gx} {X : Cx} {res : Int32 × A_W} (K : Ok G X 4 c_M_wordHere 2 (some .int) rm_M_wordHere) (hQ : QQ G X (some (.int res.1)) res.2 0 0) (x1 : Int32) (w : A_W) (h : F_M_wordHere_31 x1 w = some res) : Sm G X w 0 0 [none, some (.int x1)] [] 31 := by
  unfold F_M_wordHere_31 at h
  refine Sm_run K ek_M_wordHere 16 2 rfl ?_
  refine Sm_ic_ge K (eo ek_M_wordHere (i := 18) rfl) (fun c1 => ?_) (fun c1 => ?_)
  · rw [if_pos c1] at h
    refine Sm_run K ek_M_wordHere 21 1 rfl ?_
    exact Sm_le (leR_n (leR_n leR_nil)) (s_M_wordHere_43 K hQ _ _ h)
  · rw [if_neg c1] at h
    refine Sm_run K ek_M_wordHere 19 2 rfl ?_
    exact Sm_le (leR_n (leR_n leR_nil)) (s_M_wordHere_43 K hQ _ _ h)
set_option maxHeartbeats 4000000 in
set_option maxRecDepth 100000 in
theorem s_M_wordHere_2 {G : Gx} {X : Cx} {res : Int32 × A_W} (K : Ok G X 4 c_M_wordHere 2 (some .int) rm_M_wordHere) (hQ : QQ G X (some (.int res.1)) res.2 0 0) : ∀ (n : Nat) (t : Nat) (x1 : Int32) (w : A_W), F_M_wordHere_2 n t x1 w = some res → Sm G X w 0 0 [some (.ref t), some (.int x1)] [] 2 := by
  intro n
  induction n with
  | zero => intro t x1 w h; cases h
  | succ n ih =>
    intro t x1 w h
    rw [F_M_wordHere_2] at h
    refine Sm_run K ek_M_wordHere 2 2 rfl ?_
    refine Sm_ic_ge K (eo ek_M_wordHere (i := 4) rfl) (fun c1 => ?_) (fun c1 => ?_)
    · rw [if_pos c1] at h
      exact Sm_le (leR_n (leR_s leR_nil)) (s_M_wordHere_31 K hQ _ _ h)
    · rw [if_neg c1] at h
      refine Sm_run K ek_M_wordHere 5 3 rfl ?_
      obtain ⟨v2, e_v2, h⟩ := Option.bind_eq_some_iff.mp h
      refine Sm_gi K (eo ek_M_wordHere (i := 8) rfl) e_v2 ?_
      refine Sm_run K ek_M_wordHere 9 1 rfl ?_
      obtain ⟨v3, e_v3, h⟩ := Option.bind_eq_some_iff.mp h
      refine Sm_gi K (eo ek_M_wordHere (i := 10) rfl) e_v3 ?_
      refine Sm_run K ek_M_wordHere 11 1 rfl ?_
      obtain ⟨o5, e_o5, h⟩ := Option.bind_eq_some_iff.mp h
      obtain ⟨p4, e_p4, h⟩ := Option.bind_eq_some_iff.mp h
      refine Sm_callV K (eok_i (eo ek_M_wordHere (i := 12) rfl) rfl) cy_M_isName im_M_isName se_M_isName (lgm 1121 (by decide +kernel) rfl) ⟨Nat.le_of_ble_eq_true rfl, Nat.le_of_ble_eq_true rfl⟩ (as := [.int x1, .int (v2 - v3)]) (b := t) (st := []) (ob_e e_o5) (by decide) rfl rfl rfl rfl (Nat.le_of_ble_eq_true rfl) ⟨Nat.le_of_ble_eq_true rfl, Nat.le_of_ble_eq_true rfl⟩ (cn_M_isName e_p4) ?_
      refine Sm_eq (st1 := .int p4.1 :: []) (nc1 := 0) (ns1 := 0) rfl rfl rfl ?_
      refine Sm_if_ne K (eo ek_M_wordHere (i := 13) rfl) (fun c6 => ?_) (fun c6 => ?_)
      · rw [if_neg c6] at h
        exact Sm_le (leR_n (leR_s leR_nil)) (s_M_wordHere_31 K hQ _ _ h)
      · rw [if_pos c6] at h
        refine Sm_run K ek_M_wordHere 14 2 rfl ?_
        exact Sm_le (leR_s (leR_s leR_nil)) (ih _ _ _ h)
set_option maxHeartbeats 4000000 in
set_option maxRecDepth 100000 in
theorem s_M_wordHere_0 {G : Gx} {X : Cx} {res : Int32 × A_W} (K : Ok G X 4 c_M_wordHere 2 (some .int) rm_M_wordHere) (hQ : QQ G X (some (.int res.1)) res.2 0 0) (t : Nat) (w : A_W) (h : F_M_wordHere_0 t w = some res) : Sm G X w 0 0 [some (.ref t), none] [] 0 := by
  unfold F_M_wordHere_0 at h
  refine Sm_run K ek_M_wordHere 0 2 rfl ?_
  exact Sm_le (leR_s (leR_s leR_nil)) (s_M_wordHere_2 K hQ FU _ _ _ h)
def F_M_wordHere (t : Nat) (w : A_W) : Option (Int32 × A_W) := F_M_wordHere_0 t w
theorem cn_M_wordHere {G : Gx} {t : Nat} {w : A_W} {res : Int32 × A_W} (h : F_M_wordHere t w = some res) : Cn G y_M_wordHere c_M_wordHere 2 (some .int) rm_M_wordHere [.ref t] w (some (.int res.1)) res.2 :=
  Cn_of (own := 4) cy_M_wordHere rfl rfl (Nat.le_of_ble_eq_true rfl) rfl (fun X K _ hQ => Sm_le (leR_s (leR_n leR_nil)) (s_M_wordHere_0 K hQ _ _ h))
end
section
/-! EveningCloakModel.reads()V -/
abbrev c_M_reads : ByteArray := prog_6_method_79_code
def y_M_reads : MethodName := ⟨"EveningCloakModel", "reads", "()V"⟩
def rm_M_reads : Room := { frames := 2, cells := 0, slots := 0, locals := 45 }
theorem cy_M_reads : Cy y_M_reads c_M_reads 1 (none) 0 := ⟨lgm 1112 (by decide +kernel) rfl, lgm 73 (by decide +kernel) rfl, by decide +kernel, by decide +kernel⟩
theorem im_M_reads : Cond.instanceMethod y_M_reads ∈ lg := lgm 1111 (by decide +kernel) rfl
theorem se_M_reads : Cond.selects y_M_reads.cls y_M_reads y_M_reads ∈ lg := lgm 54 (by decide +kernel) rfl
def e_M_reads : List Ent := [
  (0, .aload_n 0, 1, 1, .null, 0, 0, 0),
  (1, .aload_n 0, 1, 2, .null, 0, 0, 0),
  (2, .getfield 199, 3, 5, .null, 4, 12, 774),
  (5, .bipush 32, 2, 7, .int 32, 0, 0, 0),
  (7, .bipush 32, 2, 9, .int 32, 0, 0, 0),
  (9, .invokevirtual 205, 3, 12, .null, 0, 0, 0),
  (12, .ifCond .eq 16, 3, 28, .null, 0, 0, 0),
  (15, .aload_n 0, 1, 16, .null, 0, 0, 0),
  (16, .dup, 1, 17, .null, 0, 0, 0),
  (17, .getfield 199, 3, 20, .null, 4, 12, 774),
  (20, .iconst 1, 1, 21, .int 1, 0, 0, 0),
  (21, .iadd, 1, 22, .null, 0, 0, 0),
  (22, .putfield 199, 3, 25, .null, 4, 12, 774),
  (25, .goto (-25), 3, 0, .null, 0, 0, 0),
  (28, .aload_n 0, 1, 29, .null, 0, 0, 0),
  (29, .aload_n 0, 1, 30, .null, 0, 0, 0),
  (30, .getfield 199, 3, 33, .null, 4, 12, 774),
  (33, .putfield 196, 3, 36, .null, 4, 11, 773),
  (36, .aload_n 0, 1, 37, .null, 0, 0, 0),
  (37, .iconst 0, 1, 38, .int 0, 0, 0, 0),
  (38, .putfield 208, 3, 41, .null, 4, 13, 775),
  (41, .aload_n 0, 1, 42, .null, 0, 0, 0),
  (42, .getfield 199, 3, 45, .null, 4, 12, 774),
  (45, .aload_n 0, 1, 46, .null, 0, 0, 0),
  (46, .getfield 189, 3, 49, .null, 4, 9, 771),
  (49, .if_icmp .ne 12, 3, 61, .null, 0, 0, 0),
  (52, .aload_n 0, 1, 53, .null, 0, 0, 0),
  (53, .bipush 22, 2, 55, .int 22, 0, 0, 0),
  (55, .putfield 211, 3, 58, .null, 4, 10, 772),
  (58, .goto 186, 3, 244, .null, 0, 0, 0),
  (61, .aload_n 0, 1, 62, .null, 0, 0, 0),
  (62, .aload_n 0, 1, 63, .null, 0, 0, 0),
  (63, .getfield 199, 3, 66, .null, 4, 12, 774),
  (66, .bipush 97, 2, 68, .int 97, 0, 0, 0),
  (68, .bipush 122, 2, 70, .int 122, 0, 0, 0),
  (70, .invokevirtual 205, 3, 73, .null, 0, 0, 0),
  (73, .ifCond .eq 42, 3, 115, .null, 0, 0, 0),
  (76, .aload_n 0, 1, 77, .null, 0, 0, 0),
  (77, .aload_n 0, 1, 78, .null, 0, 0, 0),
  (78, .getfield 199, 3, 81, .null, 4, 12, 774),
  (81, .bipush 97, 2, 83, .int 97, 0, 0, 0),
  (83, .bipush 122, 2, 85, .int 122, 0, 0, 0),
  (85, .invokevirtual 205, 3, 88, .null, 0, 0, 0),
  (88, .ifCond .eq 16, 3, 104, .null, 0, 0, 0),
  (91, .aload_n 0, 1, 92, .null, 0, 0, 0),
  (92, .dup, 1, 93, .null, 0, 0, 0),
  (93, .getfield 199, 3, 96, .null, 4, 12, 774),
  (96, .iconst 1, 1, 97, .int 1, 0, 0, 0),
  (97, .iadd, 1, 98, .null, 0, 0, 0),
  (98, .putfield 199, 3, 101, .null, 4, 12, 774),
  (101, .goto (-25), 3, 76, .null, 0, 0, 0),
  (104, .aload_n 0, 1, 105, .null, 0, 0, 0),
  (105, .aload_n 0, 1, 106, .null, 0, 0, 0),
  (106, .invokevirtual 214, 3, 109, .null, 0, 0, 0),
  (109, .putfield 211, 3, 112, .null, 4, 10, 772),
  (112, .goto 132, 3, 244, .null, 0, 0, 0),
  (115, .aload_n 0, 1, 116, .null, 0, 0, 0),
  (116, .aload_n 0, 1, 117, .null, 0, 0, 0),
  (117, .getfield 199, 3, 120, .null, 4, 12, 774),
  (120, .bipush 48, 2, 122, .int 48, 0, 0, 0),
  (122, .bipush 57, 2, 124, .int 57, 0, 0, 0),
  (124, .invokevirtual 205, 3, 127, .null, 0, 0, 0),
  (127, .ifCond .eq 81, 3, 208, .null, 0, 0, 0),
  (130, .aload_n 0, 1, 131, .null, 0, 0, 0),
  (131, .aload_n 0, 1, 132, .null, 0, 0, 0),
  (132, .getfield 199, 3, 135, .null, 4, 12, 774),
  (135, .bipush 48, 2, 137, .int 48, 0, 0, 0),
  (137, .bipush 57, 2, 139, .int 57, 0, 0, 0),
  (139, .invokevirtual 205, 3, 142, .null, 0, 0, 0),
  (142, .ifCond .eq 57, 3, 199, .null, 0, 0, 0),
  (145, .aload_n 0, 1, 146, .null, 0, 0, 0),
  (146, .aload_n 0, 1, 147, .null, 0, 0, 0),
  (147, .getfield 208, 3, 150, .null, 4, 13, 775),
  (150, .sipush 9999, 3, 153, .int 9999, 0, 0, 0),
  (153, .if_icmp .le 10, 3, 163, .null, 0, 0, 0),
  (156, .aload_n 0, 1, 157, .null, 0, 0, 0),
  (157, .getfield 208, 3, 160, .null, 4, 13, 775),
  (160, .goto 23, 3, 183, .null, 0, 0, 0),
  (163, .bipush 10, 2, 165, .int 10, 0, 0, 0),
  (165, .aload_n 0, 1, 166, .null, 0, 0, 0),
  (166, .getfield 208, 3, 169, .null, 4, 13, 775),
  (169, .imul, 1, 170, .null, 0, 0, 0),
  (170, .aload_n 0, 1, 171, .null, 0, 0, 0),
  (171, .getfield 31, 3, 174, .null, 4, 8, 770),
  (174, .aload_n 0, 1, 175, .null, 0, 0, 0),
  (175, .getfield 199, 3, 178, .null, 4, 12, 774),
  (178, .iaload, 1, 179, .null, 0, 0, 0),
  (179, .iadd, 1, 180, .null, 0, 0, 0),
  (180, .bipush 48, 2, 182, .int 48, 0, 0, 0),
  (182, .isub, 1, 183, .null, 0, 0, 0),
  (183, .putfield 208, 3, 186, .null, 4, 13, 775),
  (186, .aload_n 0, 1, 187, .null, 0, 0, 0),
  (187, .dup, 1, 188, .null, 0, 0, 0),
  (188, .getfield 199, 3, 191, .null, 4, 12, 774),
  (191, .iconst 1, 1, 192, .int 1, 0, 0, 0),
  (192, .iadd, 1, 193, .null, 0, 0, 0),
  (193, .putfield 199, 3, 196, .null, 4, 12, 774),
  (196, .goto (-66), 3, 130, .null, 0, 0, 0),
  (199, .aload_n 0, 1, 200, .null, 0, 0, 0),
  (200, .bipush 20, 2, 202, .int 20, 0, 0, 0),
  (202, .putfield 211, 3, 205, .null, 4, 10, 772),
  (205, .goto 39, 3, 244, .null, 0, 0, 0),
  (208, .aload_n 0, 1, 209, .null, 0, 0, 0),
  (209, .aload_n 0, 1, 210, .null, 0, 0, 0),
  (210, .aload_n 0, 1, 211, .null, 0, 0, 0),
  (211, .getfield 199, 3, 214, .null, 4, 12, 774),
  (214, .bipush 59, 2, 216, .int 59, 0, 0, 0),
  (216, .bipush 59, 2, 218, .int 59, 0, 0, 0),
  (218, .invokevirtual 205, 3, 221, .null, 0, 0, 0),
  (221, .ifCond .eq 8, 3, 229, .null, 0, 0, 0),
  (224, .bipush 21, 2, 226, .int 21, 0, 0, 0),
  (226, .goto 5, 3, 231, .null, 0, 0, 0),
  (229, .bipush 23, 2, 231, .int 23, 0, 0, 0),
  (231, .putfield 211, 3, 234, .null, 4, 10, 772),
  (234, .aload_n 0, 1, 235, .null, 0, 0, 0),
  (235, .dup, 1, 236, .null, 0, 0, 0),
  (236, .getfield 199, 3, 239, .null, 4, 12, 774),
  (239, .iconst 1, 1, 240, .int 1, 0, 0, 0),
  (240, .iadd, 1, 241, .null, 0, 0, 0),
  (241, .putfield 199, 3, 244, .null, 4, 12, 774),
  (244, .return_, 1, 245, .null, 0, 0, 0)]
set_option maxRecDepth 100000 in
theorem ek_M_reads : e_M_reads.all (eok 4 c_M_reads) = true := by decide +kernel
def F_M_reads_244 (w : A_W) : Option (A_W) :=
  some w
def F_M_reads_76 : Nat → Nat → A_W → Option (A_W)
  | 0, _, _ => none
  | n + 1, t, w =>
    (gi w t 4 12).bind fun v1 =>
    (ob w t 4).bind fun o3 =>
    (F_M_isByte t v1 97 122 w).bind fun p2 =>
    if p2.1 = 0 then
      (ob p2.2 t 4).bind fun o6 =>
      (F_M_wordHere t p2.2).bind fun p5 =>
      (pf p5.2 t 4 10 (.int p5.1)).bind fun w7 =>
      F_M_reads_244 w7
    else
      (gi p2.2 t 4 12).bind fun v8 =>
      (pf p2.2 t 4 12 (.int (v8 + 1))).bind fun w9 =>
      F_M_reads_76 n t w9
def F_M_reads_183 (k130 : Nat → A_W → Option (A_W)) (t : Nat) (y0 : Nat) (y1 : Int32) (w : A_W) : Option (A_W) :=
  (pf w y0 4 13 (.int y1)).bind fun w1 =>
  (gi w1 t 4 12).bind fun v2 =>
  (pf w1 t 4 12 (.int (v2 + 1))).bind fun w3 =>
  k130 t w3
def F_M_reads_130 : Nat → Nat → A_W → Option (A_W)
  | 0, _, _ => none
  | n + 1, t, w =>
    (gi w t 4 12).bind fun v1 =>
    (ob w t 4).bind fun o3 =>
    (F_M_isByte t v1 48 57 w).bind fun p2 =>
    if p2.1 = 0 then
      (pf p2.2 t 4 10 (.int 20)).bind fun w5 =>
      F_M_reads_244 w5
    else
      (gi p2.2 t 4 13).bind fun v6 =>
      if v6 ≤ 9999 then
        (gi p2.2 t 4 13).bind fun v8 =>
        (gr p2.2 t 4 8).bind fun a9 =>
        (gi p2.2 t 4 12).bind fun v10 =>
        (rd p2.2 a9 v10).bind fun v11 =>
        F_M_reads_183 (F_M_reads_130 n) t t (((10 * v8) + v11) - 48) p2.2
      else
        (gi p2.2 t 4 13).bind fun v12 =>
        F_M_reads_183 (F_M_reads_130 n) t t v12 p2.2
def F_M_reads_231 (t : Nat) (y0 : Nat) (y1 : Int32) (w : A_W) : Option (A_W) :=
  (pf w y0 4 10 (.int y1)).bind fun w1 =>
  (gi w1 t 4 12).bind fun v2 =>
  (pf w1 t 4 12 (.int (v2 + 1))).bind fun w3 =>
  F_M_reads_244 w3
def F_M_reads_0 : Nat → Nat → A_W → Option (A_W)
  | 0, _, _ => none
  | n + 1, t, w =>
    (gi w t 4 12).bind fun v1 =>
    (ob w t 4).bind fun o3 =>
    (F_M_isByte t v1 32 32 w).bind fun p2 =>
    if p2.1 = 0 then
      (gi p2.2 t 4 12).bind fun v5 =>
      (pf p2.2 t 4 11 (.int v5)).bind fun w6 =>
      (pf w6 t 4 13 (.int 0)).bind fun w7 =>
      (gi w7 t 4 12).bind fun v8 =>
      (gi w7 t 4 9).bind fun v9 =>
      if v8 = v9 then
        (pf w7 t 4 10 (.int 22)).bind fun w23 =>
        F_M_reads_244 w23
      else
        (gi w7 t 4 12).bind fun v11 =>
        (ob w7 t 4).bind fun o13 =>
        (F_M_isByte t v11 97 122 w7).bind fun p12 =>
        if p12.1 = 0 then
          (gi p12.2 t 4 12).bind fun v15 =>
          (ob p12.2 t 4).bind fun o17 =>
          (F_M_isByte t v15 48 57 p12.2).bind fun p16 =>
          if p16.1 = 0 then
            (gi p16.2 t 4 12).bind fun v19 =>
            (ob p16.2 t 4).bind fun o21 =>
            (F_M_isByte t v19 59 59 p16.2).bind fun p20 =>
            if p20.1 = 0 then
              F_M_reads_231 t t 23 p20.2
            else
              F_M_reads_231 t t 21 p20.2
          else
            F_M_reads_130 FU t p16.2
        else
          F_M_reads_76 FU t p12.2
    else
      (gi p2.2 t 4 12).bind fun v24 =>
      (pf p2.2 t 4 12 (.int (v24 + 1))).bind fun w25 =>
      F_M_reads_0 n t w25
set_option maxHeartbeats 4000000 in
set_option maxRecDepth 100000 in
theorem s_M_reads_244 {G : Gx} {X : Cx} {res : A_W} (K : Ok G X 4 c_M_reads 1 (none) rm_M_reads) (hQ : QQ G X none res 0 0) (w : A_W) (h : F_M_reads_244 w = some res) : Sm G X w 0 0 [none] [] 244 := by
  unfold F_M_reads_244 at h
  obtain rfl := Option.some.inj h
  exact Sm_retv K hQ (eok_i (eo ek_M_reads (i := 120) rfl) rfl)
set_option maxHeartbeats 4000000 in
set_option maxRecDepth 100000 in
theorem s_M_reads_76 {G : Gx} {X : Cx} {res : A_W} (K : Ok G X 4 c_M_reads 1 (none) rm_M_reads) (hQ : QQ G X none res 0 0) : ∀ (n : Nat) (t : Nat) (w : A_W), F_M_reads_76 n t w = some res → Sm G X w 0 0 [some (.ref t)] [] 76 := by
  intro n
  induction n with
  | zero => intro t w h; cases h
  | succ n ih =>
    intro t w h
    rw [F_M_reads_76] at h
    refine Sm_run K ek_M_reads 37 2 rfl ?_
    obtain ⟨v1, e_v1, h⟩ := Option.bind_eq_some_iff.mp h
    refine Sm_gi K (eo ek_M_reads (i := 39) rfl) e_v1 ?_
    refine Sm_run K ek_M_reads 40 2 rfl ?_
    obtain ⟨o3, e_o3, h⟩ := Option.bind_eq_some_iff.mp h
    obtain ⟨p2, e_p2, h⟩ := Option.bind_eq_some_iff.mp h
    refine Sm_callV K (eok_i (eo ek_M_reads (i := 42) rfl) rfl) cy_M_isByte im_M_isByte se_M_isByte (lgm 1113 (by decide +kernel) rfl) ⟨Nat.le_of_ble_eq_true rfl, Nat.le_of_ble_eq_true rfl⟩ (as := [.int v1, .int 97, .int 122]) (b := t) (st := []) (ob_e e_o3) (by decide) rfl rfl rfl rfl (Nat.le_of_ble_eq_true rfl) ⟨Nat.le_of_ble_eq_true rfl, Nat.le_of_ble_eq_true rfl⟩ (cn_M_isByte e_p2) ?_
    refine Sm_eq (st1 := .int p2.1 :: []) (nc1 := 0) (ns1 := 0) rfl rfl rfl ?_
    refine Sm_if_eq K (eo ek_M_reads (i := 43) rfl) (fun c4 => ?_) (fun c4 => ?_)
    · rw [if_pos c4] at h
      refine Sm_run K ek_M_reads 51 2 rfl ?_
      obtain ⟨o6, e_o6, h⟩ := Option.bind_eq_some_iff.mp h
      obtain ⟨p5, e_p5, h⟩ := Option.bind_eq_some_iff.mp h
      refine Sm_callV K (eok_i (eo ek_M_reads (i := 53) rfl) rfl) cy_M_wordHere im_M_wordHere se_M_wordHere (lgm 1117 (by decide +kernel) rfl) ⟨Nat.le_of_ble_eq_true rfl, Nat.le_of_ble_eq_true rfl⟩ (as := []) (b := t) (st := [.ref t]) (ob_e e_o6) (by decide) rfl rfl rfl rfl (Nat.le_of_ble_eq_true rfl) ⟨Nat.le_of_ble_eq_true rfl, Nat.le_of_ble_eq_true rfl⟩ (cn_M_wordHere e_p5) ?_
      refine Sm_eq (st1 := .int p5.1 :: [.ref t]) (nc1 := 0) (ns1 := 0) rfl rfl rfl ?_
      obtain ⟨w7, e_w7, h⟩ := Option.bind_eq_some_iff.mp h
      refine Sm_pi K (eo ek_M_reads (i := 54) rfl) rfl rfl e_w7 ?_
      refine Sm_run K ek_M_reads 55 1 rfl ?_
      exact Sm_le (leR_n leR_nil) (s_M_reads_244 K hQ _ h)
    · rw [if_neg c4] at h
      refine Sm_run K ek_M_reads 44 2 rfl ?_
      obtain ⟨v8, e_v8, h⟩ := Option.bind_eq_some_iff.mp h
      refine Sm_gi K (eo ek_M_reads (i := 46) rfl) e_v8 ?_
      refine Sm_run K ek_M_reads 47 2 rfl ?_
      obtain ⟨w9, e_w9, h⟩ := Option.bind_eq_some_iff.mp h
      refine Sm_pi K (eo ek_M_reads (i := 49) rfl) rfl rfl e_w9 ?_
      refine Sm_run K ek_M_reads 50 1 rfl ?_
      exact Sm_le (leR_s leR_nil) (ih _ _ h)
set_option maxHeartbeats 4000000 in
set_option maxRecDepth 100000 in
theorem s_M_reads_183 {G : Gx} {X : Cx} {res : A_W} (K : Ok G X 4 c_M_reads 1 (none) rm_M_reads) (hQ : QQ G X none res 0 0) {k130 : Nat → A_W → Option (A_W)} (hk130 : ∀ (t : Nat) (w : A_W), k130 t w = some res → Sm G X w 0 0 [some (.ref t)] [] 130) (t : Nat) (y0 : Nat) (y1 : Int32) (w : A_W) (h : F_M_reads_183 k130 t y0 y1 w = some res) : Sm G X w 0 0 [some (.ref t)] [.int y1, .ref y0] 183 := by
  unfold F_M_reads_183 at h
  obtain ⟨w1, e_w1, h⟩ := Option.bind_eq_some_iff.mp h
  refine Sm_pi K (eo ek_M_reads (i := 90) rfl) rfl rfl e_w1 ?_
  refine Sm_run K ek_M_reads 91 2 rfl ?_
  obtain ⟨v2, e_v2, h⟩ := Option.bind_eq_some_iff.mp h
  refine Sm_gi K (eo ek_M_reads (i := 93) rfl) e_v2 ?_
  refine Sm_run K ek_M_reads 94 2 rfl ?_
  obtain ⟨w3, e_w3, h⟩ := Option.bind_eq_some_iff.mp h
  refine Sm_pi K (eo ek_M_reads (i := 96) rfl) rfl rfl e_w3 ?_
  refine Sm_run K ek_M_reads 97 1 rfl ?_
  exact Sm_le (leR_s leR_nil) (hk130 _ _ h)
set_option maxHeartbeats 4000000 in
set_option maxRecDepth 100000 in
theorem s_M_reads_130 {G : Gx} {X : Cx} {res : A_W} (K : Ok G X 4 c_M_reads 1 (none) rm_M_reads) (hQ : QQ G X none res 0 0) : ∀ (n : Nat) (t : Nat) (w : A_W), F_M_reads_130 n t w = some res → Sm G X w 0 0 [some (.ref t)] [] 130 := by
  intro n
  induction n with
  | zero => intro t w h; cases h
  | succ n ih =>
    intro t w h
    rw [F_M_reads_130] at h
    refine Sm_run K ek_M_reads 63 2 rfl ?_
    obtain ⟨v1, e_v1, h⟩ := Option.bind_eq_some_iff.mp h
    refine Sm_gi K (eo ek_M_reads (i := 65) rfl) e_v1 ?_
    refine Sm_run K ek_M_reads 66 2 rfl ?_
    obtain ⟨o3, e_o3, h⟩ := Option.bind_eq_some_iff.mp h
    obtain ⟨p2, e_p2, h⟩ := Option.bind_eq_some_iff.mp h
    refine Sm_callV K (eok_i (eo ek_M_reads (i := 68) rfl) rfl) cy_M_isByte im_M_isByte se_M_isByte (lgm 1113 (by decide +kernel) rfl) ⟨Nat.le_of_ble_eq_true rfl, Nat.le_of_ble_eq_true rfl⟩ (as := [.int v1, .int 48, .int 57]) (b := t) (st := []) (ob_e e_o3) (by decide) rfl rfl rfl rfl (Nat.le_of_ble_eq_true rfl) ⟨Nat.le_of_ble_eq_true rfl, Nat.le_of_ble_eq_true rfl⟩ (cn_M_isByte e_p2) ?_
    refine Sm_eq (st1 := .int p2.1 :: []) (nc1 := 0) (ns1 := 0) rfl rfl rfl ?_
    refine Sm_if_eq K (eo ek_M_reads (i := 69) rfl) (fun c4 => ?_) (fun c4 => ?_)
    · rw [if_pos c4] at h
      refine Sm_run K ek_M_reads 98 2 rfl ?_
      obtain ⟨w5, e_w5, h⟩ := Option.bind_eq_some_iff.mp h
      refine Sm_pi K (eo ek_M_reads (i := 100) rfl) rfl rfl e_w5 ?_
      refine Sm_run K ek_M_reads 101 1 rfl ?_
      exact Sm_le (leR_n leR_nil) (s_M_reads_244 K hQ _ h)
    · rw [if_neg c4] at h
      refine Sm_run K ek_M_reads 70 2 rfl ?_
      obtain ⟨v6, e_v6, h⟩ := Option.bind_eq_some_iff.mp h
      refine Sm_gi K (eo ek_M_reads (i := 72) rfl) e_v6 ?_
      refine Sm_run K ek_M_reads 73 1 rfl ?_
      refine Sm_ic_le K (eo ek_M_reads (i := 74) rfl) (fun c7 => ?_) (fun c7 => ?_)
      · rw [if_pos c7] at h
        refine Sm_run K ek_M_reads 78 2 rfl ?_
        obtain ⟨v8, e_v8, h⟩ := Option.bind_eq_some_iff.mp h
        refine Sm_gi K (eo ek_M_reads (i := 80) rfl) e_v8 ?_
        refine Sm_run K ek_M_reads 81 2 rfl ?_
        obtain ⟨a9, e_a9, h⟩ := Option.bind_eq_some_iff.mp h
        refine Sm_gr K (eo ek_M_reads (i := 83) rfl) e_a9 ?_
        refine Sm_run K ek_M_reads 84 1 rfl ?_
        obtain ⟨v10, e_v10, h⟩ := Option.bind_eq_some_iff.mp h
        refine Sm_gi K (eo ek_M_reads (i := 85) rfl) e_v10 ?_
        obtain ⟨v11, e_v11, h⟩ := Option.bind_eq_some_iff.mp h
        refine Sm_rd K (eok_i (eo ek_M_reads (i := 86) rfl) rfl) e_v11 ?_
        refine Sm_run K ek_M_reads 87 3 rfl ?_
        exact Sm_le (leR_s leR_nil) (s_M_reads_183 K hQ ih _ _ _ _ h)
      · rw [if_neg c7] at h
        refine Sm_run K ek_M_reads 75 1 rfl ?_
        obtain ⟨v12, e_v12, h⟩ := Option.bind_eq_some_iff.mp h
        refine Sm_gi K (eo ek_M_reads (i := 76) rfl) e_v12 ?_
        refine Sm_run K ek_M_reads 77 1 rfl ?_
        exact Sm_le (leR_s leR_nil) (s_M_reads_183 K hQ ih _ _ _ _ h)
set_option maxHeartbeats 4000000 in
set_option maxRecDepth 100000 in
theorem s_M_reads_231 {G : Gx} {X : Cx} {res : A_W} (K : Ok G X 4 c_M_reads 1 (none) rm_M_reads) (hQ : QQ G X none res 0 0) (t : Nat) (y0 : Nat) (y1 : Int32) (w : A_W) (h : F_M_reads_231 t y0 y1 w = some res) : Sm G X w 0 0 [some (.ref t)] [.int y1, .ref y0] 231 := by
  unfold F_M_reads_231 at h
  obtain ⟨w1, e_w1, h⟩ := Option.bind_eq_some_iff.mp h
  refine Sm_pi K (eo ek_M_reads (i := 113) rfl) rfl rfl e_w1 ?_
  refine Sm_run K ek_M_reads 114 2 rfl ?_
  obtain ⟨v2, e_v2, h⟩ := Option.bind_eq_some_iff.mp h
  refine Sm_gi K (eo ek_M_reads (i := 116) rfl) e_v2 ?_
  refine Sm_run K ek_M_reads 117 2 rfl ?_
  obtain ⟨w3, e_w3, h⟩ := Option.bind_eq_some_iff.mp h
  refine Sm_pi K (eo ek_M_reads (i := 119) rfl) rfl rfl e_w3 ?_
  exact Sm_le (leR_n leR_nil) (s_M_reads_244 K hQ _ h)
set_option maxHeartbeats 4000000 in
set_option maxRecDepth 100000 in
theorem s_M_reads_0 {G : Gx} {X : Cx} {res : A_W} (K : Ok G X 4 c_M_reads 1 (none) rm_M_reads) (hQ : QQ G X none res 0 0) : ∀ (n : Nat) (t : Nat) (w : A_W), F_M_reads_0 n t w = some res → Sm G X w 0 0 [some (.ref t)] [] 0 := by
  intro n
  induction n with
  | zero => intro t w h; cases h
  | succ n ih =>
    intro t w h
    rw [F_M_reads_0] at h
    refine Sm_run K ek_M_reads 0 2 rfl ?_
    obtain ⟨v1, e_v1, h⟩ := Option.bind_eq_some_iff.mp h
    refine Sm_gi K (eo ek_M_reads (i := 2) rfl) e_v1 ?_
    refine Sm_run K ek_M_reads 3 2 rfl ?_
    obtain ⟨o3, e_o3, h⟩ := Option.bind_eq_some_iff.mp h
    obtain ⟨p2, e_p2, h⟩ := Option.bind_eq_some_iff.mp h
    refine Sm_callV K (eok_i (eo ek_M_reads (i := 5) rfl) rfl) cy_M_isByte im_M_isByte se_M_isByte (lgm 1113 (by decide +kernel) rfl) ⟨Nat.le_of_ble_eq_true rfl, Nat.le_of_ble_eq_true rfl⟩ (as := [.int v1, .int 32, .int 32]) (b := t) (st := []) (ob_e e_o3) (by decide) rfl rfl rfl rfl (Nat.le_of_ble_eq_true rfl) ⟨Nat.le_of_ble_eq_true rfl, Nat.le_of_ble_eq_true rfl⟩ (cn_M_isByte e_p2) ?_
    refine Sm_eq (st1 := .int p2.1 :: []) (nc1 := 0) (ns1 := 0) rfl rfl rfl ?_
    refine Sm_if_eq K (eo ek_M_reads (i := 6) rfl) (fun c4 => ?_) (fun c4 => ?_)
    · rw [if_pos c4] at h
      refine Sm_run K ek_M_reads 14 2 rfl ?_
      obtain ⟨v5, e_v5, h⟩ := Option.bind_eq_some_iff.mp h
      refine Sm_gi K (eo ek_M_reads (i := 16) rfl) e_v5 ?_
      obtain ⟨w6, e_w6, h⟩ := Option.bind_eq_some_iff.mp h
      refine Sm_pi K (eo ek_M_reads (i := 17) rfl) rfl rfl e_w6 ?_
      refine Sm_run K ek_M_reads 18 2 rfl ?_
      obtain ⟨w7, e_w7, h⟩ := Option.bind_eq_some_iff.mp h
      refine Sm_pi K (eo ek_M_reads (i := 20) rfl) rfl rfl e_w7 ?_
      refine Sm_run K ek_M_reads 21 1 rfl ?_
      obtain ⟨v8, e_v8, h⟩ := Option.bind_eq_some_iff.mp h
      refine Sm_gi K (eo ek_M_reads (i := 22) rfl) e_v8 ?_
      refine Sm_run K ek_M_reads 23 1 rfl ?_
      obtain ⟨v9, e_v9, h⟩ := Option.bind_eq_some_iff.mp h
      refine Sm_gi K (eo ek_M_reads (i := 24) rfl) e_v9 ?_
      refine Sm_ic_ne K (eo ek_M_reads (i := 25) rfl) (fun c10 => ?_) (fun c10 => ?_)
      · rw [if_neg c10] at h
        refine Sm_run K ek_M_reads 30 2 rfl ?_
        obtain ⟨v11, e_v11, h⟩ := Option.bind_eq_some_iff.mp h
        refine Sm_gi K (eo ek_M_reads (i := 32) rfl) e_v11 ?_
        refine Sm_run K ek_M_reads 33 2 rfl ?_
        obtain ⟨o13, e_o13, h⟩ := Option.bind_eq_some_iff.mp h
        obtain ⟨p12, e_p12, h⟩ := Option.bind_eq_some_iff.mp h
        refine Sm_callV K (eok_i (eo ek_M_reads (i := 35) rfl) rfl) cy_M_isByte im_M_isByte se_M_isByte (lgm 1113 (by decide +kernel) rfl) ⟨Nat.le_of_ble_eq_true rfl, Nat.le_of_ble_eq_true rfl⟩ (as := [.int v11, .int 97, .int 122]) (b := t) (st := []) (ob_e e_o13) (by decide) rfl rfl rfl rfl (Nat.le_of_ble_eq_true rfl) ⟨Nat.le_of_ble_eq_true rfl, Nat.le_of_ble_eq_true rfl⟩ (cn_M_isByte e_p12) ?_
        refine Sm_eq (st1 := .int p12.1 :: []) (nc1 := 0) (ns1 := 0) rfl rfl rfl ?_
        refine Sm_if_eq K (eo ek_M_reads (i := 36) rfl) (fun c14 => ?_) (fun c14 => ?_)
        · rw [if_pos c14] at h
          refine Sm_run K ek_M_reads 56 2 rfl ?_
          obtain ⟨v15, e_v15, h⟩ := Option.bind_eq_some_iff.mp h
          refine Sm_gi K (eo ek_M_reads (i := 58) rfl) e_v15 ?_
          refine Sm_run K ek_M_reads 59 2 rfl ?_
          obtain ⟨o17, e_o17, h⟩ := Option.bind_eq_some_iff.mp h
          obtain ⟨p16, e_p16, h⟩ := Option.bind_eq_some_iff.mp h
          refine Sm_callV K (eok_i (eo ek_M_reads (i := 61) rfl) rfl) cy_M_isByte im_M_isByte se_M_isByte (lgm 1113 (by decide +kernel) rfl) ⟨Nat.le_of_ble_eq_true rfl, Nat.le_of_ble_eq_true rfl⟩ (as := [.int v15, .int 48, .int 57]) (b := t) (st := []) (ob_e e_o17) (by decide) rfl rfl rfl rfl (Nat.le_of_ble_eq_true rfl) ⟨Nat.le_of_ble_eq_true rfl, Nat.le_of_ble_eq_true rfl⟩ (cn_M_isByte e_p16) ?_
          refine Sm_eq (st1 := .int p16.1 :: []) (nc1 := 0) (ns1 := 0) rfl rfl rfl ?_
          refine Sm_if_eq K (eo ek_M_reads (i := 62) rfl) (fun c18 => ?_) (fun c18 => ?_)
          · rw [if_pos c18] at h
            refine Sm_run K ek_M_reads 102 3 rfl ?_
            obtain ⟨v19, e_v19, h⟩ := Option.bind_eq_some_iff.mp h
            refine Sm_gi K (eo ek_M_reads (i := 105) rfl) e_v19 ?_
            refine Sm_run K ek_M_reads 106 2 rfl ?_
            obtain ⟨o21, e_o21, h⟩ := Option.bind_eq_some_iff.mp h
            obtain ⟨p20, e_p20, h⟩ := Option.bind_eq_some_iff.mp h
            refine Sm_callV K (eok_i (eo ek_M_reads (i := 108) rfl) rfl) cy_M_isByte im_M_isByte se_M_isByte (lgm 1113 (by decide +kernel) rfl) ⟨Nat.le_of_ble_eq_true rfl, Nat.le_of_ble_eq_true rfl⟩ (as := [.int v19, .int 59, .int 59]) (b := t) (st := [.ref t]) (ob_e e_o21) (by decide) rfl rfl rfl rfl (Nat.le_of_ble_eq_true rfl) ⟨Nat.le_of_ble_eq_true rfl, Nat.le_of_ble_eq_true rfl⟩ (cn_M_isByte e_p20) ?_
            refine Sm_eq (st1 := .int p20.1 :: [.ref t]) (nc1 := 0) (ns1 := 0) rfl rfl rfl ?_
            refine Sm_if_eq K (eo ek_M_reads (i := 109) rfl) (fun c22 => ?_) (fun c22 => ?_)
            · rw [if_pos c22] at h
              refine Sm_run K ek_M_reads 112 1 rfl ?_
              exact Sm_le (leR_s leR_nil) (s_M_reads_231 K hQ _ _ _ _ h)
            · rw [if_neg c22] at h
              refine Sm_run K ek_M_reads 110 2 rfl ?_
              exact Sm_le (leR_s leR_nil) (s_M_reads_231 K hQ _ _ _ _ h)
          · rw [if_neg c18] at h
            exact Sm_le (leR_s leR_nil) (s_M_reads_130 K hQ FU _ _ h)
        · rw [if_neg c14] at h
          exact Sm_le (leR_s leR_nil) (s_M_reads_76 K hQ FU _ _ h)
      · rw [if_pos c10] at h
        refine Sm_run K ek_M_reads 26 2 rfl ?_
        obtain ⟨w23, e_w23, h⟩ := Option.bind_eq_some_iff.mp h
        refine Sm_pi K (eo ek_M_reads (i := 28) rfl) rfl rfl e_w23 ?_
        refine Sm_run K ek_M_reads 29 1 rfl ?_
        exact Sm_le (leR_n leR_nil) (s_M_reads_244 K hQ _ h)
    · rw [if_neg c4] at h
      refine Sm_run K ek_M_reads 7 2 rfl ?_
      obtain ⟨v24, e_v24, h⟩ := Option.bind_eq_some_iff.mp h
      refine Sm_gi K (eo ek_M_reads (i := 9) rfl) e_v24 ?_
      refine Sm_run K ek_M_reads 10 2 rfl ?_
      obtain ⟨w25, e_w25, h⟩ := Option.bind_eq_some_iff.mp h
      refine Sm_pi K (eo ek_M_reads (i := 12) rfl) rfl rfl e_w25 ?_
      refine Sm_run K ek_M_reads 13 1 rfl ?_
      exact Sm_le (leR_s leR_nil) (ih _ _ h)
def F_M_reads (t : Nat) (w : A_W) : Option (A_W) := F_M_reads_0 FU t w
theorem cn_M_reads {G : Gx} {t : Nat} {w : A_W} {res : A_W} (h : F_M_reads t w = some res) : Cn G y_M_reads c_M_reads 1 (none) rm_M_reads [.ref t] w none res :=
  Cn_of (own := 4) cy_M_reads rfl rfl (Nat.le_of_ble_eq_true rfl) rfl (fun X K _ hQ => Sm_le (leR_s leR_nil) (s_M_reads_0 K hQ FU _ _ h))
/-! EveningCloakModel.takes(I)Z -/
abbrev c_M_takes : ByteArray := prog_6_method_80_code
def y_M_takes : MethodName := ⟨"EveningCloakModel", "takes", "(I)Z"⟩
def rm_M_takes : Room := { frames := 3, cells := 0, slots := 0, locals := 65 }
theorem cy_M_takes : Cy y_M_takes c_M_takes 2 (some .boolean) 1 := ⟨lgm 1142 (by decide +kernel) rfl, lgm 73 (by decide +kernel) rfl, by decide +kernel, by decide +kernel⟩
theorem im_M_takes : Cond.instanceMethod y_M_takes ∈ lg := lgm 1141 (by decide +kernel) rfl
theorem se_M_takes : Cond.selects y_M_takes.cls y_M_takes y_M_takes ∈ lg := lgm 61 (by decide +kernel) rfl
def e_M_takes : List Ent := [
  (0, .aload_n 0, 1, 1, .null, 0, 0, 0),
  (1, .getfield 217, 3, 4, .null, 4, 14, 776),
  (4, .ifCond .ne 11, 3, 15, .null, 0, 0, 0),
  (7, .aload_n 0, 1, 8, .null, 0, 0, 0),
  (8, .getfield 211, 3, 11, .null, 4, 10, 772),
  (11, .iload_n 1, 1, 12, .null, 0, 0, 0),
  (12, .if_icmp .eq 5, 3, 17, .null, 0, 0, 0),
  (15, .iconst 0, 1, 16, .int 0, 0, 0, 0),
  (16, .ireturn, 1, 17, .null, 0, 0, 0),
  (17, .aload_n 0, 1, 18, .null, 0, 0, 0),
  (18, .invokevirtual 221, 3, 21, .null, 0, 0, 0),
  (21, .iconst 1, 1, 22, .int 1, 0, 0, 0),
  (22, .ireturn, 1, 23, .null, 0, 0, 0)]
set_option maxRecDepth 100000 in
theorem ek_M_takes : e_M_takes.all (eok 4 c_M_takes) = true := by decide +kernel
def F_M_takes_15 (w : A_W) : Option (Int32 × A_W) :=
  (bz 0).bind fun b1 =>
  some (b1, w)
def F_M_takes_0 (t : Nat) (x1 : Int32) (w : A_W) : Option (Int32 × A_W) :=
  (gi w t 4 14).bind fun v1 =>
  if v1 = 0 then
    (gi w t 4 10).bind fun v3 =>
    if v3 = x1 then
      (ob w t 4).bind fun o6 =>
      (F_M_reads t w).bind fun p5 =>
      (bz 1).bind fun b7 =>
      some (b7, p5)
    else
      F_M_takes_15 w
  else
    F_M_takes_15 w
set_option maxHeartbeats 4000000 in
set_option maxRecDepth 100000 in
theorem s_M_takes_15 {G : Gx} {X : Cx} {res : Int32 × A_W} (K : Ok G X 4 c_M_takes 2 (some .boolean) rm_M_takes) (hQ : QQ G X (some (.int res.1)) res.2 0 0) (w : A_W) (h : F_M_takes_15 w = some res) : Sm G X w 0 0 [none, none] [] 15 := by
  unfold F_M_takes_15 at h
  refine Sm_run K ek_M_takes 7 1 rfl ?_
  obtain ⟨b1, e_b1, h⟩ := Option.bind_eq_some_iff.mp h
  obtain rfl := Option.some.inj h
  exact Sm_retz K e_b1 hQ (eok_i (eo ek_M_takes (i := 8) rfl) rfl)
set_option maxHeartbeats 4000000 in
set_option maxRecDepth 100000 in
theorem s_M_takes_0 {G : Gx} {X : Cx} {res : Int32 × A_W} (K : Ok G X 4 c_M_takes 2 (some .boolean) rm_M_takes) (hQ : QQ G X (some (.int res.1)) res.2 0 0) (t : Nat) (x1 : Int32) (w : A_W) (h : F_M_takes_0 t x1 w = some res) : Sm G X w 0 0 [some (.ref t), some (.int x1)] [] 0 := by
  unfold F_M_takes_0 at h
  refine Sm_run K ek_M_takes 0 1 rfl ?_
  obtain ⟨v1, e_v1, h⟩ := Option.bind_eq_some_iff.mp h
  refine Sm_gi K (eo ek_M_takes (i := 1) rfl) e_v1 ?_
  refine Sm_if_ne K (eo ek_M_takes (i := 2) rfl) (fun c2 => ?_) (fun c2 => ?_)
  · rw [if_neg c2] at h
    exact Sm_le (leR_n (leR_n leR_nil)) (s_M_takes_15 K hQ _ h)
  · rw [if_pos c2] at h
    refine Sm_run K ek_M_takes 3 1 rfl ?_
    obtain ⟨v3, e_v3, h⟩ := Option.bind_eq_some_iff.mp h
    refine Sm_gi K (eo ek_M_takes (i := 4) rfl) e_v3 ?_
    refine Sm_run K ek_M_takes 5 1 rfl ?_
    refine Sm_ic_eq K (eo ek_M_takes (i := 6) rfl) (fun c4 => ?_) (fun c4 => ?_)
    · rw [if_pos c4] at h
      refine Sm_run K ek_M_takes 9 1 rfl ?_
      obtain ⟨o6, e_o6, h⟩ := Option.bind_eq_some_iff.mp h
      obtain ⟨p5, e_p5, h⟩ := Option.bind_eq_some_iff.mp h
      refine Sm_callV K (eok_i (eo ek_M_takes (i := 10) rfl) rfl) cy_M_reads im_M_reads se_M_reads (lgm 1109 (by decide +kernel) rfl) ⟨Nat.le_of_ble_eq_true rfl, Nat.le_of_ble_eq_true rfl⟩ (as := []) (b := t) (st := []) (ob_e e_o6) (by decide) rfl rfl rfl rfl (Nat.le_of_ble_eq_true rfl) ⟨Nat.le_of_ble_eq_true rfl, Nat.le_of_ble_eq_true rfl⟩ (cn_M_reads e_p5) ?_
      refine Sm_eq (st1 := []) (nc1 := 0) (ns1 := 0) rfl rfl rfl ?_
      refine Sm_run K ek_M_takes 11 1 rfl ?_
      obtain ⟨b7, e_b7, h⟩ := Option.bind_eq_some_iff.mp h
      obtain rfl := Option.some.inj h
      exact Sm_retz K e_b7 hQ (eok_i (eo ek_M_takes (i := 12) rfl) rfl)
    · rw [if_neg c4] at h
      exact Sm_le (leR_n (leR_n leR_nil)) (s_M_takes_15 K hQ _ h)
def F_M_takes (t : Nat) (x1 : Int32) (w : A_W) : Option (Int32 × A_W) := F_M_takes_0 t x1 w
theorem cn_M_takes {G : Gx} {t : Nat} {x1 : Int32} {w : A_W} {res : Int32 × A_W} (h : F_M_takes t x1 w = some res) : Cn G y_M_takes c_M_takes 2 (some .boolean) rm_M_takes [.ref t, .int x1] w (some (.int res.1)) res.2 :=
  Cn_of (own := 4) cy_M_takes rfl rfl (Nat.le_of_ble_eq_true rfl) rfl (fun X K _ hQ => Sm_le (leR_s (leR_s leR_nil)) (s_M_takes_0 K hQ _ _ _ h))
/-! EveningCloakModel.number(II)I -/
abbrev c_M_number : ByteArray := prog_6_method_81_code
def y_M_number : MethodName := ⟨"EveningCloakModel", "number", "(II)I"⟩
def rm_M_number : Room := { frames := 3, cells := 0, slots := 0, locals := 65 }
theorem cy_M_number : Cy y_M_number c_M_number 4 (some .int) 2 := ⟨lgm 1146 (by decide +kernel) rfl, lgm 73 (by decide +kernel) rfl, by decide +kernel, by decide +kernel⟩
theorem im_M_number : Cond.instanceMethod y_M_number ∈ lg := lgm 1145 (by decide +kernel) rfl
theorem se_M_number : Cond.selects y_M_number.cls y_M_number y_M_number ∈ lg := lgm 62 (by decide +kernel) rfl
def e_M_number : List Ent := [
  (0, .aload_n 0, 1, 1, .null, 0, 0, 0),
  (1, .getfield 208, 3, 4, .null, 4, 13, 775),
  (4, .istore_n 3, 1, 5, .null, 0, 0, 0),
  (5, .aload_n 0, 1, 6, .null, 0, 0, 0),
  (6, .aload_n 0, 1, 7, .null, 0, 0, 0),
  (7, .getfield 217, 3, 10, .null, 4, 14, 776),
  (10, .ifCond .ne 21, 3, 31, .null, 0, 0, 0),
  (13, .aload_n 0, 1, 14, .null, 0, 0, 0),
  (14, .getfield 211, 3, 17, .null, 4, 10, 772),
  (17, .bipush 20, 2, 19, .int 20, 0, 0, 0),
  (19, .if_icmp .ne 12, 3, 31, .null, 0, 0, 0),
  (22, .iload_n 3, 1, 23, .null, 0, 0, 0),
  (23, .iload_n 1, 1, 24, .null, 0, 0, 0),
  (24, .iload_n 2, 1, 25, .null, 0, 0, 0),
  (25, .invokestatic 40, 3, 28, .null, 0, 0, 0),
  (28, .ifCond .ne 7, 3, 35, .null, 0, 0, 0),
  (31, .iconst 1, 1, 32, .int 1, 0, 0, 0),
  (32, .goto 4, 3, 36, .null, 0, 0, 0),
  (35, .iconst 0, 1, 36, .int 0, 0, 0, 0),
  (36, .putfield 217, 3, 39, .null, 4, 14, 776),
  (39, .aload_n 0, 1, 40, .null, 0, 0, 0),
  (40, .getfield 217, 3, 43, .null, 4, 14, 776),
  (43, .ifCond .ne 7, 3, 50, .null, 0, 0, 0),
  (46, .aload_n 0, 1, 47, .null, 0, 0, 0),
  (47, .invokevirtual 221, 3, 50, .null, 0, 0, 0),
  (50, .iload_n 3, 1, 51, .null, 0, 0, 0),
  (51, .ireturn, 1, 52, .null, 0, 0, 0)]
set_option maxRecDepth 100000 in
theorem ek_M_number : e_M_number.all (eok 4 c_M_number) = true := by decide +kernel
def F_M_number_50 (x3 : Int32) (w : A_W) : Option (Int32 × A_W) :=
  some (x3, w)
def F_M_number_36 (t : Nat) (x3 : Int32) (y0 : Nat) (y1 : Int32) (w : A_W) : Option (Int32 × A_W) :=
  (bz y1).bind fun b2 =>
  (pf w y0 4 14 (.int b2)).bind fun w1 =>
  (gi w1 t 4 14).bind fun v3 =>
  if v3 = 0 then
    (ob w1 t 4).bind fun o6 =>
    (F_M_reads t w1).bind fun p5 =>
    F_M_number_50 x3 p5
  else
    F_M_number_50 x3 w1
def F_M_number_31 (t : Nat) (x3 : Int32) (y0 : Nat) (w : A_W) : Option (Int32 × A_W) :=
  F_M_number_36 t x3 y0 1 w
def F_M_number_0 (t : Nat) (x1 : Int32) (x2 : Int32) (w : A_W) : Option (Int32 × A_W) :=
  (gi w t 4 13).bind fun v1 =>
  (gi w t 4 14).bind fun v2 =>
  if v2 = 0 then
    (gi w t 4 10).bind fun v4 =>
    if v4 = 20 then
      (F_M_in v1 x1 x2 w).bind fun p6 =>
      if p6.1 = 0 then
        F_M_number_31 t v1 t p6.2
      else
        F_M_number_36 t v1 t 0 p6.2
    else
      F_M_number_31 t v1 t w
  else
    F_M_number_31 t v1 t w
set_option maxHeartbeats 4000000 in
set_option maxRecDepth 100000 in
theorem s_M_number_50 {G : Gx} {X : Cx} {res : Int32 × A_W} (K : Ok G X 4 c_M_number 4 (some .int) rm_M_number) (hQ : QQ G X (some (.int res.1)) res.2 0 0) (x3 : Int32) (w : A_W) (h : F_M_number_50 x3 w = some res) : Sm G X w 0 0 [none, none, none, some (.int x3)] [] 50 := by
  unfold F_M_number_50 at h
  refine Sm_run K ek_M_number 25 1 rfl ?_
  obtain rfl := Option.some.inj h
  exact Sm_reti K hQ (eok_i (eo ek_M_number (i := 26) rfl) rfl)
set_option maxHeartbeats 4000000 in
set_option maxRecDepth 100000 in
theorem s_M_number_36 {G : Gx} {X : Cx} {res : Int32 × A_W} (K : Ok G X 4 c_M_number 4 (some .int) rm_M_number) (hQ : QQ G X (some (.int res.1)) res.2 0 0) (t : Nat) (x3 : Int32) (y0 : Nat) (y1 : Int32) (w : A_W) (h : F_M_number_36 t x3 y0 y1 w = some res) : Sm G X w 0 0 [some (.ref t), none, none, some (.int x3)] [.int y1, .ref y0] 36 := by
  unfold F_M_number_36 at h
  obtain ⟨b2, e_b2, h⟩ := Option.bind_eq_some_iff.mp h
  obtain ⟨w1, e_w1, h⟩ := Option.bind_eq_some_iff.mp h
  refine Sm_pz K (eo ek_M_number (i := 19) rfl) rfl rfl e_b2 e_w1 ?_
  refine Sm_run K ek_M_number 20 1 rfl ?_
  obtain ⟨v3, e_v3, h⟩ := Option.bind_eq_some_iff.mp h
  refine Sm_gi K (eo ek_M_number (i := 21) rfl) e_v3 ?_
  refine Sm_if_ne K (eo ek_M_number (i := 22) rfl) (fun c4 => ?_) (fun c4 => ?_)
  · rw [if_neg c4] at h
    exact Sm_le (leR_n (leR_n (leR_n (leR_s leR_nil)))) (s_M_number_50 K hQ _ _ h)
  · rw [if_pos c4] at h
    refine Sm_run K ek_M_number 23 1 rfl ?_
    obtain ⟨o6, e_o6, h⟩ := Option.bind_eq_some_iff.mp h
    obtain ⟨p5, e_p5, h⟩ := Option.bind_eq_some_iff.mp h
    refine Sm_callV K (eok_i (eo ek_M_number (i := 24) rfl) rfl) cy_M_reads im_M_reads se_M_reads (lgm 1109 (by decide +kernel) rfl) ⟨Nat.le_of_ble_eq_true rfl, Nat.le_of_ble_eq_true rfl⟩ (as := []) (b := t) (st := []) (ob_e e_o6) (by decide) rfl rfl rfl rfl (Nat.le_of_ble_eq_true rfl) ⟨Nat.le_of_ble_eq_true rfl, Nat.le_of_ble_eq_true rfl⟩ (cn_M_reads e_p5) ?_
    refine Sm_eq (st1 := []) (nc1 := 0) (ns1 := 0) rfl rfl rfl ?_
    exact Sm_le (leR_n (leR_n (leR_n (leR_s leR_nil)))) (s_M_number_50 K hQ _ _ h)
set_option maxHeartbeats 4000000 in
set_option maxRecDepth 100000 in
theorem s_M_number_31 {G : Gx} {X : Cx} {res : Int32 × A_W} (K : Ok G X 4 c_M_number 4 (some .int) rm_M_number) (hQ : QQ G X (some (.int res.1)) res.2 0 0) (t : Nat) (x3 : Int32) (y0 : Nat) (w : A_W) (h : F_M_number_31 t x3 y0 w = some res) : Sm G X w 0 0 [some (.ref t), none, none, some (.int x3)] [.ref y0] 31 := by
  unfold F_M_number_31 at h
  refine Sm_run K ek_M_number 16 2 rfl ?_
  exact Sm_le (leR_s (leR_n (leR_n (leR_s leR_nil)))) (s_M_number_36 K hQ _ _ _ _ _ h)
set_option maxHeartbeats 4000000 in
set_option maxRecDepth 100000 in
theorem s_M_number_0 {G : Gx} {X : Cx} {res : Int32 × A_W} (K : Ok G X 4 c_M_number 4 (some .int) rm_M_number) (hQ : QQ G X (some (.int res.1)) res.2 0 0) (t : Nat) (x1 : Int32) (x2 : Int32) (w : A_W) (h : F_M_number_0 t x1 x2 w = some res) : Sm G X w 0 0 [some (.ref t), some (.int x1), some (.int x2), none] [] 0 := by
  unfold F_M_number_0 at h
  refine Sm_run K ek_M_number 0 1 rfl ?_
  obtain ⟨v1, e_v1, h⟩ := Option.bind_eq_some_iff.mp h
  refine Sm_gi K (eo ek_M_number (i := 1) rfl) e_v1 ?_
  refine Sm_run K ek_M_number 2 3 rfl ?_
  obtain ⟨v2, e_v2, h⟩ := Option.bind_eq_some_iff.mp h
  refine Sm_gi K (eo ek_M_number (i := 5) rfl) e_v2 ?_
  refine Sm_if_ne K (eo ek_M_number (i := 6) rfl) (fun c3 => ?_) (fun c3 => ?_)
  · rw [if_neg c3] at h
    exact Sm_le (leR_s (leR_n (leR_n (leR_s leR_nil)))) (s_M_number_31 K hQ _ _ _ _ h)
  · rw [if_pos c3] at h
    refine Sm_run K ek_M_number 7 1 rfl ?_
    obtain ⟨v4, e_v4, h⟩ := Option.bind_eq_some_iff.mp h
    refine Sm_gi K (eo ek_M_number (i := 8) rfl) e_v4 ?_
    refine Sm_run K ek_M_number 9 1 rfl ?_
    refine Sm_ic_ne K (eo ek_M_number (i := 10) rfl) (fun c5 => ?_) (fun c5 => ?_)
    · rw [if_neg c5] at h
      exact Sm_le (leR_s (leR_n (leR_n (leR_s leR_nil)))) (s_M_number_31 K hQ _ _ _ _ h)
    · rw [if_pos c5] at h
      refine Sm_run K ek_M_number 11 3 rfl ?_
      obtain ⟨p6, e_p6, h⟩ := Option.bind_eq_some_iff.mp h
      refine Sm_callS K (eok_i (eo ek_M_number (i := 14) rfl) rfl) cy_M_in st_M_in (lgm 815 (by decide +kernel) rfl) ⟨Nat.le_of_ble_eq_true rfl, Nat.le_of_ble_eq_true rfl⟩ (as := [.int v1, .int x1, .int x2]) (st := [.ref t]) rfl rfl rfl (Nat.le_of_ble_eq_true rfl) ⟨Nat.le_of_ble_eq_true rfl, Nat.le_of_ble_eq_true rfl⟩ (cn_M_in e_p6) ?_
      refine Sm_eq (st1 := .int p6.1 :: [.ref t]) (nc1 := 0) (ns1 := 0) rfl rfl rfl ?_
      refine Sm_if_ne K (eo ek_M_number (i := 15) rfl) (fun c7 => ?_) (fun c7 => ?_)
      · rw [if_neg c7] at h
        refine Sm_run K ek_M_number 18 1 rfl ?_
        exact Sm_le (leR_s (leR_n (leR_n (leR_s leR_nil)))) (s_M_number_36 K hQ _ _ _ _ _ h)
      · rw [if_pos c7] at h
        exact Sm_le (leR_s (leR_n (leR_n (leR_s leR_nil)))) (s_M_number_31 K hQ _ _ _ _ h)
def F_M_number (t : Nat) (x1 : Int32) (x2 : Int32) (w : A_W) : Option (Int32 × A_W) := F_M_number_0 t x1 x2 w
theorem cn_M_number {G : Gx} {t : Nat} {x1 : Int32} {x2 : Int32} {w : A_W} {res : Int32 × A_W} (h : F_M_number t x1 x2 w = some res) : Cn G y_M_number c_M_number 4 (some .int) rm_M_number [.ref t, .int x1, .int x2] w (some (.int res.1)) res.2 :=
  Cn_of (own := 4) cy_M_number rfl rfl (Nat.le_of_ble_eq_true rfl) rfl (fun X K _ hQ => Sm_le (leR_s (leR_s (leR_s (leR_n leR_nil)))) (s_M_number_0 K hQ _ _ _ _ h))
/-! EveningCloakModel.perhaps(IIII)I -/
abbrev c_M_perhaps : ByteArray := prog_6_method_82_code
def y_M_perhaps : MethodName := ⟨"EveningCloakModel", "perhaps", "(IIII)I"⟩
def rm_M_perhaps : Room := { frames := 4, cells := 0, slots := 0, locals := 88 }
theorem cy_M_perhaps : Cy y_M_perhaps c_M_perhaps 5 (some .int) 4 := ⟨lgm 1138 (by decide +kernel) rfl, lgm 73 (by decide +kernel) rfl, by decide +kernel, by decide +kernel⟩
theorem im_M_perhaps : Cond.instanceMethod y_M_perhaps ∈ lg := lgm 1137 (by decide +kernel) rfl
theorem se_M_perhaps : Cond.selects y_M_perhaps.cls y_M_perhaps y_M_perhaps ∈ lg := lgm 60 (by decide +kernel) rfl
def e_M_perhaps : List Ent := [
  (0, .aload_n 0, 1, 1, .null, 0, 0, 0),
  (1, .iload_n 1, 1, 2, .null, 0, 0, 0),
  (2, .invokevirtual 224, 3, 5, .null, 0, 0, 0),
  (5, .ifCond .eq 12, 3, 17, .null, 0, 0, 0),
  (8, .aload_n 0, 1, 9, .null, 0, 0, 0),
  (9, .iload_n 2, 1, 10, .null, 0, 0, 0),
  (10, .iload_n 3, 1, 11, .null, 0, 0, 0),
  (11, .invokevirtual 227, 3, 14, .null, 0, 0, 0),
  (14, .goto 5, 3, 19, .null, 0, 0, 0),
  (17, .iload 4, 2, 19, .null, 0, 0, 0),
  (19, .ireturn, 1, 20, .null, 0, 0, 0)]
set_option maxRecDepth 100000 in
theorem ek_M_perhaps : e_M_perhaps.all (eok 4 c_M_perhaps) = true := by decide +kernel
def F_M_perhaps_19 (y0 : Int32) (w : A_W) : Option (Int32 × A_W) :=
  some (y0, w)
def F_M_perhaps_0 (t : Nat) (x1 : Int32) (x2 : Int32) (x3 : Int32) (x4 : Int32) (w : A_W) : Option (Int32 × A_W) :=
  (ob w t 4).bind fun o2 =>
  (F_M_takes t x1 w).bind fun p1 =>
  if p1.1 = 0 then
    F_M_perhaps_19 x4 p1.2
  else
    (ob p1.2 t 4).bind fun o5 =>
    (F_M_number t x2 x3 p1.2).bind fun p4 =>
    F_M_perhaps_19 p4.1 p4.2
set_option maxHeartbeats 4000000 in
set_option maxRecDepth 100000 in
theorem s_M_perhaps_19 {G : Gx} {X : Cx} {res : Int32 × A_W} (K : Ok G X 4 c_M_perhaps 5 (some .int) rm_M_perhaps) (hQ : QQ G X (some (.int res.1)) res.2 0 0) (y0 : Int32) (w : A_W) (h : F_M_perhaps_19 y0 w = some res) : Sm G X w 0 0 [none, none, none, none, none] [.int y0] 19 := by
  unfold F_M_perhaps_19 at h
  obtain rfl := Option.some.inj h
  exact Sm_reti K hQ (eok_i (eo ek_M_perhaps (i := 10) rfl) rfl)
set_option maxHeartbeats 4000000 in
set_option maxRecDepth 100000 in
theorem s_M_perhaps_0 {G : Gx} {X : Cx} {res : Int32 × A_W} (K : Ok G X 4 c_M_perhaps 5 (some .int) rm_M_perhaps) (hQ : QQ G X (some (.int res.1)) res.2 0 0) (t : Nat) (x1 : Int32) (x2 : Int32) (x3 : Int32) (x4 : Int32) (w : A_W) (h : F_M_perhaps_0 t x1 x2 x3 x4 w = some res) : Sm G X w 0 0 [some (.ref t), some (.int x1), some (.int x2), some (.int x3), some (.int x4)] [] 0 := by
  unfold F_M_perhaps_0 at h
  refine Sm_run K ek_M_perhaps 0 2 rfl ?_
  obtain ⟨o2, e_o2, h⟩ := Option.bind_eq_some_iff.mp h
  obtain ⟨p1, e_p1, h⟩ := Option.bind_eq_some_iff.mp h
  refine Sm_callV K (eok_i (eo ek_M_perhaps (i := 2) rfl) rfl) cy_M_takes im_M_takes se_M_takes (lgm 1139 (by decide +kernel) rfl) ⟨Nat.le_of_ble_eq_true rfl, Nat.le_of_ble_eq_true rfl⟩ (as := [.int x1]) (b := t) (st := []) (ob_e e_o2) (by decide) rfl rfl rfl rfl (Nat.le_of_ble_eq_true rfl) ⟨Nat.le_of_ble_eq_true rfl, Nat.le_of_ble_eq_true rfl⟩ (cn_M_takes e_p1) ?_
  refine Sm_eq (st1 := .int p1.1 :: []) (nc1 := 0) (ns1 := 0) rfl rfl rfl ?_
  refine Sm_if_eq K (eo ek_M_perhaps (i := 3) rfl) (fun c3 => ?_) (fun c3 => ?_)
  · rw [if_pos c3] at h
    refine Sm_run K ek_M_perhaps 9 1 rfl ?_
    exact Sm_le (leR_n (leR_n (leR_n (leR_n (leR_n leR_nil))))) (s_M_perhaps_19 K hQ _ _ h)
  · rw [if_neg c3] at h
    refine Sm_run K ek_M_perhaps 4 3 rfl ?_
    obtain ⟨o5, e_o5, h⟩ := Option.bind_eq_some_iff.mp h
    obtain ⟨p4, e_p4, h⟩ := Option.bind_eq_some_iff.mp h
    refine Sm_callV K (eok_i (eo ek_M_perhaps (i := 7) rfl) rfl) cy_M_number im_M_number se_M_number (lgm 1143 (by decide +kernel) rfl) ⟨Nat.le_of_ble_eq_true rfl, Nat.le_of_ble_eq_true rfl⟩ (as := [.int x2, .int x3]) (b := t) (st := []) (ob_e e_o5) (by decide) rfl rfl rfl rfl (Nat.le_of_ble_eq_true rfl) ⟨Nat.le_of_ble_eq_true rfl, Nat.le_of_ble_eq_true rfl⟩ (cn_M_number e_p4) ?_
    refine Sm_eq (st1 := .int p4.1 :: []) (nc1 := 0) (ns1 := 0) rfl rfl rfl ?_
    refine Sm_run K ek_M_perhaps 8 1 rfl ?_
    exact Sm_le (leR_n (leR_n (leR_n (leR_n (leR_n leR_nil))))) (s_M_perhaps_19 K hQ _ _ h)
def F_M_perhaps (t : Nat) (x1 : Int32) (x2 : Int32) (x3 : Int32) (x4 : Int32) (w : A_W) : Option (Int32 × A_W) := F_M_perhaps_0 t x1 x2 x3 x4 w
theorem cn_M_perhaps {G : Gx} {t : Nat} {x1 : Int32} {x2 : Int32} {x3 : Int32} {x4 : Int32} {w : A_W} {res : Int32 × A_W} (h : F_M_perhaps t x1 x2 x3 x4 w = some res) : Cn G y_M_perhaps c_M_perhaps 5 (some .int) rm_M_perhaps [.ref t, .int x1, .int x2, .int x3, .int x4] w (some (.int res.1)) res.2 :=
  Cn_of (own := 4) cy_M_perhaps rfl rfl (Nat.le_of_ble_eq_true rfl) rfl (fun X K _ hQ => Sm_le (leR_s (leR_s (leR_s (leR_s (leR_s leR_nil))))) (s_M_perhaps_0 K hQ _ _ _ _ _ _ h))
/-! EveningCloakModel.depositItem()V -/
abbrev c_M_depositItem : ByteArray := prog_6_method_83_code
def y_M_depositItem : MethodName := ⟨"EveningCloakModel", "depositItem", "()V"⟩
def rm_M_depositItem : Room := { frames := 5, cells := 0, slots := 0, locals := 112 }
theorem cy_M_depositItem : Cy y_M_depositItem c_M_depositItem 8 (none) 0 := ⟨lgm 1134 (by decide +kernel) rfl, lgm 73 (by decide +kernel) rfl, by decide +kernel, by decide +kernel⟩
theorem im_M_depositItem : Cond.instanceMethod y_M_depositItem ∈ lg := lgm 1133 (by decide +kernel) rfl
theorem se_M_depositItem : Cond.selects y_M_depositItem.cls y_M_depositItem y_M_depositItem ∈ lg := lgm 59 (by decide +kernel) rfl
def e_M_depositItem : List Ent := [
  (0, .aload_n 0, 1, 1, .null, 0, 0, 0),
  (1, .getfield 211, 3, 4, .null, 4, 10, 772),
  (4, .istore_n 1, 1, 5, .null, 0, 0, 0),
  (5, .aload_n 0, 1, 6, .null, 0, 0, 0),
  (6, .aload_n 0, 1, 7, .null, 0, 0, 0),
  (7, .getfield 9, 3, 10, .null, 4, 0, 762),
  (10, .iconst 3, 1, 11, .int 3, 0, 0, 0),
  (11, .iaload, 1, 12, .null, 0, 0, 0),
  (12, .bipush 8, 2, 14, .int 8, 0, 0, 0),
  (14, .if_icmp .ne 7, 3, 21, .null, 0, 0, 0),
  (17, .iconst 1, 1, 18, .int 1, 0, 0, 0),
  (18, .goto 4, 3, 22, .null, 0, 0, 0),
  (21, .iconst 0, 1, 22, .int 0, 0, 0, 0),
  (22, .putfield 217, 3, 25, .null, 4, 14, 776),
  (25, .aload_n 0, 1, 26, .null, 0, 0, 0),
  (26, .getfield 217, 3, 29, .null, 4, 14, 776),
  (29, .ifCond .eq 4, 3, 33, .null, 0, 0, 0),
  (32, .return_, 1, 33, .null, 0, 0, 0),
  (33, .aload_n 0, 1, 34, .null, 0, 0, 0),
  (34, .invokevirtual 221, 3, 37, .null, 0, 0, 0),
  (37, .aload_n 0, 1, 38, .null, 0, 0, 0),
  (38, .bipush 7, 2, 40, .int 7, 0, 0, 0),
  (40, .iconst 0, 1, 41, .int 0, 0, 0, 0),
  (41, .bipush 15, 2, 43, .int 15, 0, 0, 0),
  (43, .iconst 0, 1, 44, .int 0, 0, 0, 0),
  (44, .invokevirtual 230, 3, 47, .null, 0, 0, 0),
  (47, .istore_n 2, 1, 48, .null, 0, 0, 0),
  (48, .aload_n 0, 1, 49, .null, 0, 0, 0),
  (49, .bipush 8, 2, 51, .int 8, 0, 0, 0),
  (51, .iconst 0, 1, 52, .int 0, 0, 0, 0),
  (52, .bipush 99, 2, 54, .int 99, 0, 0, 0),
  (54, .iconst (-1), 1, 55, .int (-1), 0, 0, 0),
  (55, .invokevirtual 230, 3, 58, .null, 0, 0, 0),
  (58, .istore_n 3, 1, 59, .null, 0, 0, 0),
  (59, .aload_n 0, 1, 60, .null, 0, 0, 0),
  (60, .bipush 9, 2, 62, .int 9, 0, 0, 0),
  (62, .iconst 0, 1, 63, .int 0, 0, 0, 0),
  (63, .sipush 9999, 3, 66, .int 9999, 0, 0, 0),
  (66, .iconst 0, 1, 67, .int 0, 0, 0, 0),
  (67, .invokevirtual 230, 3, 70, .null, 0, 0, 0),
  (70, .istore 4, 2, 72, .null, 0, 0, 0),
  (72, .aload_n 0, 1, 73, .null, 0, 0, 0),
  (73, .bipush 10, 2, 75, .int 10, 0, 0, 0),
  (75, .iconst 0, 1, 76, .int 0, 0, 0, 0),
  (76, .bipush 99, 2, 78, .int 99, 0, 0, 0),
  (78, .iconst 0, 1, 79, .int 0, 0, 0, 0),
  (79, .invokevirtual 230, 3, 82, .null, 0, 0, 0),
  (82, .istore 5, 2, 84, .null, 0, 0, 0),
  (84, .aload_n 0, 1, 85, .null, 0, 0, 0),
  (85, .bipush 11, 2, 87, .int 11, 0, 0, 0),
  (87, .invokevirtual 224, 3, 90, .null, 0, 0, 0),
  (90, .ifCond .eq 7, 3, 97, .null, 0, 0, 0),
  (93, .iconst 1, 1, 94, .int 1, 0, 0, 0),
  (94, .goto 4, 3, 98, .null, 0, 0, 0),
  (97, .iconst 0, 1, 98, .int 0, 0, 0, 0),
  (98, .istore 6, 2, 100, .null, 0, 0, 0),
  (100, .aload_n 0, 1, 101, .null, 0, 0, 0),
  (101, .getfield 217, 3, 104, .null, 4, 14, 776),
  (104, .ifCond .ne 39, 3, 143, .null, 0, 0, 0),
  (107, .aload_n 0, 1, 108, .null, 0, 0, 0),
  (108, .iload_n 1, 1, 109, .null, 0, 0, 0),
  (109, .iload_n 2, 1, 110, .null, 0, 0, 0),
  (110, .iload_n 3, 1, 111, .null, 0, 0, 0),
  (111, .invokevirtual 79, 3, 114, .null, 0, 0, 0),
  (114, .istore 7, 2, 116, .null, 0, 0, 0),
  (116, .aload_n 0, 1, 117, .null, 0, 0, 0),
  (117, .iload 7, 2, 119, .null, 0, 0, 0),
  (119, .iconst 3, 1, 120, .int 3, 0, 0, 0),
  (120, .iload 4, 2, 122, .null, 0, 0, 0),
  (122, .invokevirtual 74, 3, 125, .null, 0, 0, 0),
  (125, .aload_n 0, 1, 126, .null, 0, 0, 0),
  (126, .iload 7, 2, 128, .null, 0, 0, 0),
  (128, .iconst 4, 1, 129, .int 4, 0, 0, 0),
  (129, .iload 5, 2, 131, .null, 0, 0, 0),
  (131, .invokevirtual 74, 3, 134, .null, 0, 0, 0),
  (134, .aload_n 0, 1, 135, .null, 0, 0, 0),
  (135, .iload 7, 2, 137, .null, 0, 0, 0),
  (137, .iconst 5, 1, 138, .int 5, 0, 0, 0),
  (138, .iload 6, 2, 140, .null, 0, 0, 0),
  (140, .invokevirtual 74, 3, 143, .null, 0, 0, 0),
  (143, .return_, 1, 144, .null, 0, 0, 0)]
set_option maxRecDepth 100000 in
theorem ek_M_depositItem : e_M_depositItem.all (eok 4 c_M_depositItem) = true := by decide +kernel
def F_M_depositItem_143 (w : A_W) : Option (A_W) :=
  some w
def F_M_depositItem_98 (t : Nat) (x1 : Int32) (x2 : Int32) (x3 : Int32) (x4 : Int32) (x5 : Int32) (y0 : Int32) (w : A_W) : Option (A_W) :=
  (gi w t 4 14).bind fun v1 =>
  if v1 = 0 then
    (ob w t 4).bind fun o4 =>
    (F_M_comes t x1 x2 x3 w).bind fun p3 =>
    (ob p3.2 t 4).bind fun o6 =>
    (F_M_put t p3.1 3 x4 p3.2).bind fun p5 =>
    (ob p5 t 4).bind fun o8 =>
    (F_M_put t p3.1 4 x5 p5).bind fun p7 =>
    (ob p7 t 4).bind fun o10 =>
    (F_M_put t p3.1 5 y0 p7).bind fun p9 =>
    F_M_depositItem_143 p9
  else
    F_M_depositItem_143 w
def F_M_depositItem_22 (t : Nat) (x1 : Int32) (y0 : Nat) (y1 : Int32) (w : A_W) : Option (A_W) :=
  (bz y1).bind fun b2 =>
  (pf w y0 4 14 (.int b2)).bind fun w1 =>
  (gi w1 t 4 14).bind fun v3 =>
  if v3 = 0 then
    (ob w1 t 4).bind fun o6 =>
    (F_M_reads t w1).bind fun p5 =>
    (ob p5 t 4).bind fun o8 =>
    (F_M_perhaps t 7 0 15 0 p5).bind fun p7 =>
    (ob p7.2 t 4).bind fun o10 =>
    (F_M_perhaps t 8 0 99 (-1) p7.2).bind fun p9 =>
    (ob p9.2 t 4).bind fun o12 =>
    (F_M_perhaps t 9 0 9999 0 p9.2).bind fun p11 =>
    (ob p11.2 t 4).bind fun o14 =>
    (F_M_perhaps t 10 0 99 0 p11.2).bind fun p13 =>
    (ob p13.2 t 4).bind fun o16 =>
    (F_M_takes t 11 p13.2).bind fun p15 =>
    if p15.1 = 0 then
      F_M_depositItem_98 t x1 p7.1 p9.1 p11.1 p13.1 0 p15.2
    else
      F_M_depositItem_98 t x1 p7.1 p9.1 p11.1 p13.1 1 p15.2
  else
    some w1
def F_M_depositItem_0 (t : Nat) (w : A_W) : Option (A_W) :=
  (gi w t 4 10).bind fun v1 =>
  (gr w t 4 0).bind fun a2 =>
  (rd w a2 3).bind fun v3 =>
  if v3 = 8 then
    F_M_depositItem_22 t v1 t 1 w
  else
    F_M_depositItem_22 t v1 t 0 w
set_option maxHeartbeats 4000000 in
set_option maxRecDepth 100000 in
theorem s_M_depositItem_143 {G : Gx} {X : Cx} {res : A_W} (K : Ok G X 4 c_M_depositItem 8 (none) rm_M_depositItem) (hQ : QQ G X none res 0 0) (w : A_W) (h : F_M_depositItem_143 w = some res) : Sm G X w 0 0 [none, none, none, none, none, none, none, none] [] 143 := by
  unfold F_M_depositItem_143 at h
  obtain rfl := Option.some.inj h
  exact Sm_retv K hQ (eok_i (eo ek_M_depositItem (i := 80) rfl) rfl)
set_option maxHeartbeats 4000000 in
set_option maxRecDepth 100000 in
theorem s_M_depositItem_98 {G : Gx} {X : Cx} {res : A_W} (K : Ok G X 4 c_M_depositItem 8 (none) rm_M_depositItem) (hQ : QQ G X none res 0 0) (t : Nat) (x1 : Int32) (x2 : Int32) (x3 : Int32) (x4 : Int32) (x5 : Int32) (y0 : Int32) (w : A_W) (h : F_M_depositItem_98 t x1 x2 x3 x4 x5 y0 w = some res) : Sm G X w 0 0 [some (.ref t), some (.int x1), some (.int x2), some (.int x3), some (.int x4), some (.int x5), none, none] [.int y0] 98 := by
  unfold F_M_depositItem_98 at h
  refine Sm_run K ek_M_depositItem 55 2 rfl ?_
  obtain ⟨v1, e_v1, h⟩ := Option.bind_eq_some_iff.mp h
  refine Sm_gi K (eo ek_M_depositItem (i := 57) rfl) e_v1 ?_
  refine Sm_if_ne K (eo ek_M_depositItem (i := 58) rfl) (fun c2 => ?_) (fun c2 => ?_)
  · rw [if_neg c2] at h
    exact Sm_le (leR_n (leR_n (leR_n (leR_n (leR_n (leR_n (leR_n (leR_n leR_nil)))))))) (s_M_depositItem_143 K hQ _ h)
  · rw [if_pos c2] at h
    refine Sm_run K ek_M_depositItem 59 4 rfl ?_
    obtain ⟨o4, e_o4, h⟩ := Option.bind_eq_some_iff.mp h
    obtain ⟨p3, e_p3, h⟩ := Option.bind_eq_some_iff.mp h
    refine Sm_callV K (eok_i (eo ek_M_depositItem (i := 63) rfl) rfl) cy_M_comes im_M_comes se_M_comes (lgm 839 (by decide +kernel) rfl) ⟨Nat.le_of_ble_eq_true rfl, Nat.le_of_ble_eq_true rfl⟩ (as := [.int x1, .int x2, .int x3]) (b := t) (st := []) (ob_e e_o4) (by decide) rfl rfl rfl rfl (Nat.le_of_ble_eq_true rfl) ⟨Nat.le_of_ble_eq_true rfl, Nat.le_of_ble_eq_true rfl⟩ (cn_M_comes e_p3) ?_
    refine Sm_eq (st1 := .int p3.1 :: []) (nc1 := 0) (ns1 := 0) rfl rfl rfl ?_
    refine Sm_run K ek_M_depositItem 64 5 rfl ?_
    obtain ⟨o6, e_o6, h⟩ := Option.bind_eq_some_iff.mp h
    obtain ⟨p5, e_p5, h⟩ := Option.bind_eq_some_iff.mp h
    refine Sm_callV K (eok_i (eo ek_M_depositItem (i := 69) rfl) rfl) cy_M_put im_M_put se_M_put (lgm 843 (by decide +kernel) rfl) ⟨Nat.le_of_ble_eq_true rfl, Nat.le_of_ble_eq_true rfl⟩ (as := [.int p3.1, .int 3, .int x4]) (b := t) (st := []) (ob_e e_o6) (by decide) rfl rfl rfl rfl (Nat.le_of_ble_eq_true rfl) ⟨Nat.le_of_ble_eq_true rfl, Nat.le_of_ble_eq_true rfl⟩ (cn_M_put e_p5) ?_
    refine Sm_eq (st1 := []) (nc1 := 0) (ns1 := 0) rfl rfl rfl ?_
    refine Sm_run K ek_M_depositItem 70 4 rfl ?_
    obtain ⟨o8, e_o8, h⟩ := Option.bind_eq_some_iff.mp h
    obtain ⟨p7, e_p7, h⟩ := Option.bind_eq_some_iff.mp h
    refine Sm_callV K (eok_i (eo ek_M_depositItem (i := 74) rfl) rfl) cy_M_put im_M_put se_M_put (lgm 843 (by decide +kernel) rfl) ⟨Nat.le_of_ble_eq_true rfl, Nat.le_of_ble_eq_true rfl⟩ (as := [.int p3.1, .int 4, .int x5]) (b := t) (st := []) (ob_e e_o8) (by decide) rfl rfl rfl rfl (Nat.le_of_ble_eq_true rfl) ⟨Nat.le_of_ble_eq_true rfl, Nat.le_of_ble_eq_true rfl⟩ (cn_M_put e_p7) ?_
    refine Sm_eq (st1 := []) (nc1 := 0) (ns1 := 0) rfl rfl rfl ?_
    refine Sm_run K ek_M_depositItem 75 4 rfl ?_
    obtain ⟨o10, e_o10, h⟩ := Option.bind_eq_some_iff.mp h
    obtain ⟨p9, e_p9, h⟩ := Option.bind_eq_some_iff.mp h
    refine Sm_callV K (eok_i (eo ek_M_depositItem (i := 79) rfl) rfl) cy_M_put im_M_put se_M_put (lgm 843 (by decide +kernel) rfl) ⟨Nat.le_of_ble_eq_true rfl, Nat.le_of_ble_eq_true rfl⟩ (as := [.int p3.1, .int 5, .int y0]) (b := t) (st := []) (ob_e e_o10) (by decide) rfl rfl rfl rfl (Nat.le_of_ble_eq_true rfl) ⟨Nat.le_of_ble_eq_true rfl, Nat.le_of_ble_eq_true rfl⟩ (cn_M_put e_p9) ?_
    refine Sm_eq (st1 := []) (nc1 := 0) (ns1 := 0) rfl rfl rfl ?_
    exact Sm_le (leR_n (leR_n (leR_n (leR_n (leR_n (leR_n (leR_n (leR_n leR_nil)))))))) (s_M_depositItem_143 K hQ _ h)
set_option maxHeartbeats 4000000 in
set_option maxRecDepth 100000 in
theorem s_M_depositItem_22 {G : Gx} {X : Cx} {res : A_W} (K : Ok G X 4 c_M_depositItem 8 (none) rm_M_depositItem) (hQ : QQ G X none res 0 0) (t : Nat) (x1 : Int32) (y0 : Nat) (y1 : Int32) (w : A_W) (h : F_M_depositItem_22 t x1 y0 y1 w = some res) : Sm G X w 0 0 [some (.ref t), some (.int x1), none, none, none, none, none, none] [.int y1, .ref y0] 22 := by
  unfold F_M_depositItem_22 at h
  obtain ⟨b2, e_b2, h⟩ := Option.bind_eq_some_iff.mp h
  obtain ⟨w1, e_w1, h⟩ := Option.bind_eq_some_iff.mp h
  refine Sm_pz K (eo ek_M_depositItem (i := 13) rfl) rfl rfl e_b2 e_w1 ?_
  refine Sm_run K ek_M_depositItem 14 1 rfl ?_
  obtain ⟨v3, e_v3, h⟩ := Option.bind_eq_some_iff.mp h
  refine Sm_gi K (eo ek_M_depositItem (i := 15) rfl) e_v3 ?_
  refine Sm_if_eq K (eo ek_M_depositItem (i := 16) rfl) (fun c4 => ?_) (fun c4 => ?_)
  · rw [if_pos c4] at h
    refine Sm_run K ek_M_depositItem 18 1 rfl ?_
    obtain ⟨o6, e_o6, h⟩ := Option.bind_eq_some_iff.mp h
    obtain ⟨p5, e_p5, h⟩ := Option.bind_eq_some_iff.mp h
    refine Sm_callV K (eok_i (eo ek_M_depositItem (i := 19) rfl) rfl) cy_M_reads im_M_reads se_M_reads (lgm 1109 (by decide +kernel) rfl) ⟨Nat.le_of_ble_eq_true rfl, Nat.le_of_ble_eq_true rfl⟩ (as := []) (b := t) (st := []) (ob_e e_o6) (by decide) rfl rfl rfl rfl (Nat.le_of_ble_eq_true rfl) ⟨Nat.le_of_ble_eq_true rfl, Nat.le_of_ble_eq_true rfl⟩ (cn_M_reads e_p5) ?_
    refine Sm_eq (st1 := []) (nc1 := 0) (ns1 := 0) rfl rfl rfl ?_
    refine Sm_run K ek_M_depositItem 20 5 rfl ?_
    obtain ⟨o8, e_o8, h⟩ := Option.bind_eq_some_iff.mp h
    obtain ⟨p7, e_p7, h⟩ := Option.bind_eq_some_iff.mp h
    refine Sm_callV K (eok_i (eo ek_M_depositItem (i := 25) rfl) rfl) cy_M_perhaps im_M_perhaps se_M_perhaps (lgm 1135 (by decide +kernel) rfl) ⟨Nat.le_of_ble_eq_true rfl, Nat.le_of_ble_eq_true rfl⟩ (as := [.int 7, .int 0, .int 15, .int 0]) (b := t) (st := []) (ob_e e_o8) (by decide) rfl rfl rfl rfl (Nat.le_of_ble_eq_true rfl) ⟨Nat.le_of_ble_eq_true rfl, Nat.le_of_ble_eq_true rfl⟩ (cn_M_perhaps e_p7) ?_
    refine Sm_eq (st1 := .int p7.1 :: []) (nc1 := 0) (ns1 := 0) rfl rfl rfl ?_
    refine Sm_run K ek_M_depositItem 26 6 rfl ?_
    obtain ⟨o10, e_o10, h⟩ := Option.bind_eq_some_iff.mp h
    obtain ⟨p9, e_p9, h⟩ := Option.bind_eq_some_iff.mp h
    refine Sm_callV K (eok_i (eo ek_M_depositItem (i := 32) rfl) rfl) cy_M_perhaps im_M_perhaps se_M_perhaps (lgm 1135 (by decide +kernel) rfl) ⟨Nat.le_of_ble_eq_true rfl, Nat.le_of_ble_eq_true rfl⟩ (as := [.int 8, .int 0, .int 99, .int (-1)]) (b := t) (st := []) (ob_e e_o10) (by decide) rfl rfl rfl rfl (Nat.le_of_ble_eq_true rfl) ⟨Nat.le_of_ble_eq_true rfl, Nat.le_of_ble_eq_true rfl⟩ (cn_M_perhaps e_p9) ?_
    refine Sm_eq (st1 := .int p9.1 :: []) (nc1 := 0) (ns1 := 0) rfl rfl rfl ?_
    refine Sm_run K ek_M_depositItem 33 6 rfl ?_
    obtain ⟨o12, e_o12, h⟩ := Option.bind_eq_some_iff.mp h
    obtain ⟨p11, e_p11, h⟩ := Option.bind_eq_some_iff.mp h
    refine Sm_callV K (eok_i (eo ek_M_depositItem (i := 39) rfl) rfl) cy_M_perhaps im_M_perhaps se_M_perhaps (lgm 1135 (by decide +kernel) rfl) ⟨Nat.le_of_ble_eq_true rfl, Nat.le_of_ble_eq_true rfl⟩ (as := [.int 9, .int 0, .int 9999, .int 0]) (b := t) (st := []) (ob_e e_o12) (by decide) rfl rfl rfl rfl (Nat.le_of_ble_eq_true rfl) ⟨Nat.le_of_ble_eq_true rfl, Nat.le_of_ble_eq_true rfl⟩ (cn_M_perhaps e_p11) ?_
    refine Sm_eq (st1 := .int p11.1 :: []) (nc1 := 0) (ns1 := 0) rfl rfl rfl ?_
    refine Sm_run K ek_M_depositItem 40 6 rfl ?_
    obtain ⟨o14, e_o14, h⟩ := Option.bind_eq_some_iff.mp h
    obtain ⟨p13, e_p13, h⟩ := Option.bind_eq_some_iff.mp h
    refine Sm_callV K (eok_i (eo ek_M_depositItem (i := 46) rfl) rfl) cy_M_perhaps im_M_perhaps se_M_perhaps (lgm 1135 (by decide +kernel) rfl) ⟨Nat.le_of_ble_eq_true rfl, Nat.le_of_ble_eq_true rfl⟩ (as := [.int 10, .int 0, .int 99, .int 0]) (b := t) (st := []) (ob_e e_o14) (by decide) rfl rfl rfl rfl (Nat.le_of_ble_eq_true rfl) ⟨Nat.le_of_ble_eq_true rfl, Nat.le_of_ble_eq_true rfl⟩ (cn_M_perhaps e_p13) ?_
    refine Sm_eq (st1 := .int p13.1 :: []) (nc1 := 0) (ns1 := 0) rfl rfl rfl ?_
    refine Sm_run K ek_M_depositItem 47 3 rfl ?_
    obtain ⟨o16, e_o16, h⟩ := Option.bind_eq_some_iff.mp h
    obtain ⟨p15, e_p15, h⟩ := Option.bind_eq_some_iff.mp h
    refine Sm_callV K (eok_i (eo ek_M_depositItem (i := 50) rfl) rfl) cy_M_takes im_M_takes se_M_takes (lgm 1139 (by decide +kernel) rfl) ⟨Nat.le_of_ble_eq_true rfl, Nat.le_of_ble_eq_true rfl⟩ (as := [.int 11]) (b := t) (st := []) (ob_e e_o16) (by decide) rfl rfl rfl rfl (Nat.le_of_ble_eq_true rfl) ⟨Nat.le_of_ble_eq_true rfl, Nat.le_of_ble_eq_true rfl⟩ (cn_M_takes e_p15) ?_
    refine Sm_eq (st1 := .int p15.1 :: []) (nc1 := 0) (ns1 := 0) rfl rfl rfl ?_
    refine Sm_if_eq K (eo ek_M_depositItem (i := 51) rfl) (fun c17 => ?_) (fun c17 => ?_)
    · rw [if_pos c17] at h
      refine Sm_run K ek_M_depositItem 54 1 rfl ?_
      exact Sm_le (leR_s (leR_s (leR_s (leR_s (leR_s (leR_s (leR_n (leR_n leR_nil)))))))) (s_M_depositItem_98 K hQ _ _ _ _ _ _ _ _ h)
    · rw [if_neg c17] at h
      refine Sm_run K ek_M_depositItem 52 2 rfl ?_
      exact Sm_le (leR_s (leR_s (leR_s (leR_s (leR_s (leR_s (leR_n (leR_n leR_nil)))))))) (s_M_depositItem_98 K hQ _ _ _ _ _ _ _ _ h)
  · rw [if_neg c4] at h
    obtain rfl := Option.some.inj h
    exact Sm_retv K hQ (eok_i (eo ek_M_depositItem (i := 17) rfl) rfl)
set_option maxHeartbeats 4000000 in
set_option maxRecDepth 100000 in
theorem s_M_depositItem_0 {G : Gx} {X : Cx} {res : A_W} (K : Ok G X 4 c_M_depositItem 8 (none) rm_M_depositItem) (hQ : QQ G X none res 0 0) (t : Nat) (w : A_W) (h : F_M_depositItem_0 t w = some res) : Sm G X w 0 0 [some (.ref t), none, none, none, none, none, none, none] [] 0 := by
  unfold F_M_depositItem_0 at h
  refine Sm_run K ek_M_depositItem 0 1 rfl ?_
  obtain ⟨v1, e_v1, h⟩ := Option.bind_eq_some_iff.mp h
  refine Sm_gi K (eo ek_M_depositItem (i := 1) rfl) e_v1 ?_
  refine Sm_run K ek_M_depositItem 2 3 rfl ?_
  obtain ⟨a2, e_a2, h⟩ := Option.bind_eq_some_iff.mp h
  refine Sm_gr K (eo ek_M_depositItem (i := 5) rfl) e_a2 ?_
  refine Sm_run K ek_M_depositItem 6 1 rfl ?_
  obtain ⟨v3, e_v3, h⟩ := Option.bind_eq_some_iff.mp h
  refine Sm_rd K (eok_i (eo ek_M_depositItem (i := 7) rfl) rfl) e_v3 ?_
  refine Sm_run K ek_M_depositItem 8 1 rfl ?_
  refine Sm_ic_ne K (eo ek_M_depositItem (i := 9) rfl) (fun c4 => ?_) (fun c4 => ?_)
  · rw [if_neg c4] at h
    refine Sm_run K ek_M_depositItem 12 1 rfl ?_
    exact Sm_le (leR_s (leR_s (leR_n (leR_n (leR_n (leR_n (leR_n (leR_n leR_nil)))))))) (s_M_depositItem_22 K hQ _ _ _ _ _ h)
  · rw [if_pos c4] at h
    refine Sm_run K ek_M_depositItem 10 2 rfl ?_
    exact Sm_le (leR_s (leR_s (leR_n (leR_n (leR_n (leR_n (leR_n (leR_n leR_nil)))))))) (s_M_depositItem_22 K hQ _ _ _ _ _ h)
def F_M_depositItem (t : Nat) (w : A_W) : Option (A_W) := F_M_depositItem_0 t w
theorem cn_M_depositItem {G : Gx} {t : Nat} {w : A_W} {res : A_W} (h : F_M_depositItem t w = some res) : Cn G y_M_depositItem c_M_depositItem 8 (none) rm_M_depositItem [.ref t] w none res :=
  Cn_of (own := 4) cy_M_depositItem rfl rfl (Nat.le_of_ble_eq_true rfl) rfl (fun X K _ hQ => Sm_le (leR_s (leR_n (leR_n (leR_n (leR_n (leR_n (leR_n (leR_n leR_nil)))))))) (s_M_depositItem_0 K hQ _ _ h))
/-! EveningCloakModel.girlItem()V -/
abbrev c_M_girlItem : ByteArray := prog_6_method_84_code
def y_M_girlItem : MethodName := ⟨"EveningCloakModel", "girlItem", "()V"⟩
def rm_M_girlItem : Room := { frames := 5, cells := 0, slots := 0, locals := 112 }
theorem cy_M_girlItem : Cy y_M_girlItem c_M_girlItem 3 (none) 0 := ⟨lgm 1150 (by decide +kernel) rfl, lgm 73 (by decide +kernel) rfl, by decide +kernel, by decide +kernel⟩
theorem im_M_girlItem : Cond.instanceMethod y_M_girlItem ∈ lg := lgm 1149 (by decide +kernel) rfl
theorem se_M_girlItem : Cond.selects y_M_girlItem.cls y_M_girlItem y_M_girlItem ∈ lg := lgm 63 (by decide +kernel) rfl
def e_M_girlItem : List Ent := [
  (0, .aload_n 0, 1, 1, .null, 0, 0, 0),
  (1, .aload_n 0, 1, 2, .null, 0, 0, 0),
  (2, .getfield 9, 3, 5, .null, 4, 0, 762),
  (5, .iconst 4, 1, 6, .int 4, 0, 0, 0),
  (6, .iaload, 1, 7, .null, 0, 0, 0),
  (7, .bipush 6, 2, 9, .int 6, 0, 0, 0),
  (9, .if_icmp .ne 7, 3, 16, .null, 0, 0, 0),
  (12, .iconst 1, 1, 13, .int 1, 0, 0, 0),
  (13, .goto 4, 3, 17, .null, 0, 0, 0),
  (16, .iconst 0, 1, 17, .int 0, 0, 0, 0),
  (17, .putfield 217, 3, 20, .null, 4, 14, 776),
  (20, .aload_n 0, 1, 21, .null, 0, 0, 0),
  (21, .getfield 217, 3, 24, .null, 4, 14, 776),
  (24, .ifCond .eq 4, 3, 28, .null, 0, 0, 0),
  (27, .return_, 1, 28, .null, 0, 0, 0),
  (28, .aload_n 0, 1, 29, .null, 0, 0, 0),
  (29, .invokevirtual 221, 3, 32, .null, 0, 0, 0),
  (32, .aload_n 0, 1, 33, .null, 0, 0, 0),
  (33, .bipush 13, 2, 35, .int 13, 0, 0, 0),
  (35, .iconst 1, 1, 36, .int 1, 0, 0, 0),
  (36, .bipush 99, 2, 38, .int 99, 0, 0, 0),
  (38, .bipush 50, 2, 40, .int 50, 0, 0, 0),
  (40, .invokevirtual 230, 3, 43, .null, 0, 0, 0),
  (43, .istore_n 1, 1, 44, .null, 0, 0, 0),
  (44, .aload_n 0, 1, 45, .null, 0, 0, 0),
  (45, .getfield 217, 3, 48, .null, 4, 14, 776),
  (48, .ifCond .ne 9, 3, 57, .null, 0, 0, 0),
  (51, .aload_n 0, 1, 52, .null, 0, 0, 0),
  (52, .iload_n 1, 1, 53, .null, 0, 0, 0),
  (53, .invokevirtual 85, 3, 56, .null, 0, 0, 0),
  (56, .istore_n 2, 1, 57, .null, 0, 0, 0),
  (57, .return_, 1, 58, .null, 0, 0, 0)]
set_option maxRecDepth 100000 in
theorem ek_M_girlItem : e_M_girlItem.all (eok 4 c_M_girlItem) = true := by decide +kernel
def F_M_girlItem_57 (w : A_W) : Option (A_W) :=
  some w
def F_M_girlItem_17 (t : Nat) (y0 : Nat) (y1 : Int32) (w : A_W) : Option (A_W) :=
  (bz y1).bind fun b2 =>
  (pf w y0 4 14 (.int b2)).bind fun w1 =>
  (gi w1 t 4 14).bind fun v3 =>
  if v3 = 0 then
    (ob w1 t 4).bind fun o6 =>
    (F_M_reads t w1).bind fun p5 =>
    (ob p5 t 4).bind fun o8 =>
    (F_M_perhaps t 13 1 99 50 p5).bind fun p7 =>
    (gi p7.2 t 4 14).bind fun v9 =>
    if v9 = 0 then
      (ob p7.2 t 4).bind fun o12 =>
      (F_M_enters t p7.1 p7.2).bind fun p11 =>
      F_M_girlItem_57 p11.2
    else
      F_M_girlItem_57 p7.2
  else
    some w1
def F_M_girlItem_0 (t : Nat) (w : A_W) : Option (A_W) :=
  (gr w t 4 0).bind fun a1 =>
  (rd w a1 4).bind fun v2 =>
  if v2 = 6 then
    F_M_girlItem_17 t t 1 w
  else
    F_M_girlItem_17 t t 0 w
set_option maxHeartbeats 4000000 in
set_option maxRecDepth 100000 in
theorem s_M_girlItem_57 {G : Gx} {X : Cx} {res : A_W} (K : Ok G X 4 c_M_girlItem 3 (none) rm_M_girlItem) (hQ : QQ G X none res 0 0) (w : A_W) (h : F_M_girlItem_57 w = some res) : Sm G X w 0 0 [none, none, none] [] 57 := by
  unfold F_M_girlItem_57 at h
  obtain rfl := Option.some.inj h
  exact Sm_retv K hQ (eok_i (eo ek_M_girlItem (i := 31) rfl) rfl)
set_option maxHeartbeats 4000000 in
set_option maxRecDepth 100000 in
theorem s_M_girlItem_17 {G : Gx} {X : Cx} {res : A_W} (K : Ok G X 4 c_M_girlItem 3 (none) rm_M_girlItem) (hQ : QQ G X none res 0 0) (t : Nat) (y0 : Nat) (y1 : Int32) (w : A_W) (h : F_M_girlItem_17 t y0 y1 w = some res) : Sm G X w 0 0 [some (.ref t), none, none] [.int y1, .ref y0] 17 := by
  unfold F_M_girlItem_17 at h
  obtain ⟨b2, e_b2, h⟩ := Option.bind_eq_some_iff.mp h
  obtain ⟨w1, e_w1, h⟩ := Option.bind_eq_some_iff.mp h
  refine Sm_pz K (eo ek_M_girlItem (i := 10) rfl) rfl rfl e_b2 e_w1 ?_
  refine Sm_run K ek_M_girlItem 11 1 rfl ?_
  obtain ⟨v3, e_v3, h⟩ := Option.bind_eq_some_iff.mp h
  refine Sm_gi K (eo ek_M_girlItem (i := 12) rfl) e_v3 ?_
  refine Sm_if_eq K (eo ek_M_girlItem (i := 13) rfl) (fun c4 => ?_) (fun c4 => ?_)
  · rw [if_pos c4] at h
    refine Sm_run K ek_M_girlItem 15 1 rfl ?_
    obtain ⟨o6, e_o6, h⟩ := Option.bind_eq_some_iff.mp h
    obtain ⟨p5, e_p5, h⟩ := Option.bind_eq_some_iff.mp h
    refine Sm_callV K (eok_i (eo ek_M_girlItem (i := 16) rfl) rfl) cy_M_reads im_M_reads se_M_reads (lgm 1109 (by decide +kernel) rfl) ⟨Nat.le_of_ble_eq_true rfl, Nat.le_of_ble_eq_true rfl⟩ (as := []) (b := t) (st := []) (ob_e e_o6) (by decide) rfl rfl rfl rfl (Nat.le_of_ble_eq_true rfl) ⟨Nat.le_of_ble_eq_true rfl, Nat.le_of_ble_eq_true rfl⟩ (cn_M_reads e_p5) ?_
    refine Sm_eq (st1 := []) (nc1 := 0) (ns1 := 0) rfl rfl rfl ?_
    refine Sm_run K ek_M_girlItem 17 5 rfl ?_
    obtain ⟨o8, e_o8, h⟩ := Option.bind_eq_some_iff.mp h
    obtain ⟨p7, e_p7, h⟩ := Option.bind_eq_some_iff.mp h
    refine Sm_callV K (eok_i (eo ek_M_girlItem (i := 22) rfl) rfl) cy_M_perhaps im_M_perhaps se_M_perhaps (lgm 1135 (by decide +kernel) rfl) ⟨Nat.le_of_ble_eq_true rfl, Nat.le_of_ble_eq_true rfl⟩ (as := [.int 13, .int 1, .int 99, .int 50]) (b := t) (st := []) (ob_e e_o8) (by decide) rfl rfl rfl rfl (Nat.le_of_ble_eq_true rfl) ⟨Nat.le_of_ble_eq_true rfl, Nat.le_of_ble_eq_true rfl⟩ (cn_M_perhaps e_p7) ?_
    refine Sm_eq (st1 := .int p7.1 :: []) (nc1 := 0) (ns1 := 0) rfl rfl rfl ?_
    refine Sm_run K ek_M_girlItem 23 2 rfl ?_
    obtain ⟨v9, e_v9, h⟩ := Option.bind_eq_some_iff.mp h
    refine Sm_gi K (eo ek_M_girlItem (i := 25) rfl) e_v9 ?_
    refine Sm_if_ne K (eo ek_M_girlItem (i := 26) rfl) (fun c10 => ?_) (fun c10 => ?_)
    · rw [if_neg c10] at h
      exact Sm_le (leR_n (leR_n (leR_n leR_nil))) (s_M_girlItem_57 K hQ _ h)
    · rw [if_pos c10] at h
      refine Sm_run K ek_M_girlItem 27 2 rfl ?_
      obtain ⟨o12, e_o12, h⟩ := Option.bind_eq_some_iff.mp h
      obtain ⟨p11, e_p11, h⟩ := Option.bind_eq_some_iff.mp h
      refine Sm_callV K (eok_i (eo ek_M_girlItem (i := 29) rfl) rfl) cy_M_enters im_M_enters se_M_enters (lgm 851 (by decide +kernel) rfl) ⟨Nat.le_of_ble_eq_true rfl, Nat.le_of_ble_eq_true rfl⟩ (as := [.int p7.1]) (b := t) (st := []) (ob_e e_o12) (by decide) rfl rfl rfl rfl (Nat.le_of_ble_eq_true rfl) ⟨Nat.le_of_ble_eq_true rfl, Nat.le_of_ble_eq_true rfl⟩ (cn_M_enters e_p11) ?_
      refine Sm_eq (st1 := .int p11.1 :: []) (nc1 := 0) (ns1 := 0) rfl rfl rfl ?_
      refine Sm_run K ek_M_girlItem 30 1 rfl ?_
      exact Sm_le (leR_n (leR_n (leR_n leR_nil))) (s_M_girlItem_57 K hQ _ h)
  · rw [if_neg c4] at h
    obtain rfl := Option.some.inj h
    exact Sm_retv K hQ (eok_i (eo ek_M_girlItem (i := 14) rfl) rfl)
set_option maxHeartbeats 4000000 in
set_option maxRecDepth 100000 in
theorem s_M_girlItem_0 {G : Gx} {X : Cx} {res : A_W} (K : Ok G X 4 c_M_girlItem 3 (none) rm_M_girlItem) (hQ : QQ G X none res 0 0) (t : Nat) (w : A_W) (h : F_M_girlItem_0 t w = some res) : Sm G X w 0 0 [some (.ref t), none, none] [] 0 := by
  unfold F_M_girlItem_0 at h
  refine Sm_run K ek_M_girlItem 0 2 rfl ?_
  obtain ⟨a1, e_a1, h⟩ := Option.bind_eq_some_iff.mp h
  refine Sm_gr K (eo ek_M_girlItem (i := 2) rfl) e_a1 ?_
  refine Sm_run K ek_M_girlItem 3 1 rfl ?_
  obtain ⟨v2, e_v2, h⟩ := Option.bind_eq_some_iff.mp h
  refine Sm_rd K (eok_i (eo ek_M_girlItem (i := 4) rfl) rfl) e_v2 ?_
  refine Sm_run K ek_M_girlItem 5 1 rfl ?_
  refine Sm_ic_ne K (eo ek_M_girlItem (i := 6) rfl) (fun c3 => ?_) (fun c3 => ?_)
  · rw [if_neg c3] at h
    refine Sm_run K ek_M_girlItem 9 1 rfl ?_
    exact Sm_le (leR_s (leR_n (leR_n leR_nil))) (s_M_girlItem_17 K hQ _ _ _ _ h)
  · rw [if_pos c3] at h
    refine Sm_run K ek_M_girlItem 7 2 rfl ?_
    exact Sm_le (leR_s (leR_n (leR_n leR_nil))) (s_M_girlItem_17 K hQ _ _ _ _ h)
def F_M_girlItem (t : Nat) (w : A_W) : Option (A_W) := F_M_girlItem_0 t w
theorem cn_M_girlItem {G : Gx} {t : Nat} {w : A_W} {res : A_W} (h : F_M_girlItem t w = some res) : Cn G y_M_girlItem c_M_girlItem 3 (none) rm_M_girlItem [.ref t] w none res :=
  Cn_of (own := 4) cy_M_girlItem rfl rfl (Nat.le_of_ble_eq_true rfl) rfl (fun X K _ hQ => Sm_le (leR_s (leR_n (leR_n leR_nil))) (s_M_girlItem_0 K hQ _ _ h))
/-! EveningCloakModel.standItem()V -/
abbrev c_M_standItem : ByteArray := prog_6_method_85_code
def y_M_standItem : MethodName := ⟨"EveningCloakModel", "standItem", "()V"⟩
def rm_M_standItem : Room := { frames := 4, cells := 0, slots := 0, locals := 88 }
theorem cy_M_standItem : Cy y_M_standItem c_M_standItem 4 (none) 0 := ⟨lgm 1154 (by decide +kernel) rfl, lgm 73 (by decide +kernel) rfl, by decide +kernel, by decide +kernel⟩
theorem im_M_standItem : Cond.instanceMethod y_M_standItem ∈ lg := lgm 1153 (by decide +kernel) rfl
theorem se_M_standItem : Cond.selects y_M_standItem.cls y_M_standItem y_M_standItem ∈ lg := lgm 64 (by decide +kernel) rfl
def e_M_standItem : List Ent := [
  (0, .aload_n 0, 1, 1, .null, 0, 0, 0),
  (1, .iconst 0, 1, 2, .int 0, 0, 0, 0),
  (2, .iconst 5, 1, 3, .int 5, 0, 0, 0),
  (3, .invokevirtual 227, 3, 6, .null, 0, 0, 0),
  (6, .istore_n 1, 1, 7, .null, 0, 0, 0),
  (7, .aload_n 0, 1, 8, .null, 0, 0, 0),
  (8, .iconst 0, 1, 9, .int 0, 0, 0, 0),
  (9, .iconst 5, 1, 10, .int 5, 0, 0, 0),
  (10, .invokevirtual 227, 3, 13, .null, 0, 0, 0),
  (13, .istore_n 2, 1, 14, .null, 0, 0, 0),
  (14, .aload_n 0, 1, 15, .null, 0, 0, 0),
  (15, .iconst 0, 1, 16, .int 0, 0, 0, 0),
  (16, .bipush 15, 2, 18, .int 15, 0, 0, 0),
  (18, .invokevirtual 227, 3, 21, .null, 0, 0, 0),
  (21, .istore_n 3, 1, 22, .null, 0, 0, 0),
  (22, .aload_n 0, 1, 23, .null, 0, 0, 0),
  (23, .getfield 217, 3, 26, .null, 4, 14, 776),
  (26, .ifCond .ne 17, 3, 43, .null, 0, 0, 0),
  (29, .aload_n 0, 1, 30, .null, 0, 0, 0),
  (30, .getfield 9, 3, 33, .null, 4, 0, 762),
  (33, .iconst 5, 1, 34, .int 5, 0, 0, 0),
  (34, .iload_n 1, 1, 35, .null, 0, 0, 0),
  (35, .iadd, 1, 36, .null, 0, 0, 0),
  (36, .bipush 100, 2, 38, .int 100, 0, 0, 0),
  (38, .iload_n 2, 1, 39, .null, 0, 0, 0),
  (39, .imul, 1, 40, .null, 0, 0, 0),
  (40, .iload_n 3, 1, 41, .null, 0, 0, 0),
  (41, .iadd, 1, 42, .null, 0, 0, 0),
  (42, .iastore, 1, 43, .null, 0, 0, 0),
  (43, .return_, 1, 44, .null, 0, 0, 0)]
set_option maxRecDepth 100000 in
theorem ek_M_standItem : e_M_standItem.all (eok 4 c_M_standItem) = true := by decide +kernel
def F_M_standItem_43 (w : A_W) : Option (A_W) :=
  some w
def F_M_standItem_0 (t : Nat) (w : A_W) : Option (A_W) :=
  (ob w t 4).bind fun o2 =>
  (F_M_number t 0 5 w).bind fun p1 =>
  (ob p1.2 t 4).bind fun o4 =>
  (F_M_number t 0 5 p1.2).bind fun p3 =>
  (ob p3.2 t 4).bind fun o6 =>
  (F_M_number t 0 15 p3.2).bind fun p5 =>
  (gi p5.2 t 4 14).bind fun v7 =>
  if v7 = 0 then
    (gr p5.2 t 4 0).bind fun a9 =>
    (wr p5.2 a9 (5 + p1.1) ((100 * p3.1) + p5.1)).bind fun w10 =>
    F_M_standItem_43 w10
  else
    F_M_standItem_43 p5.2
set_option maxHeartbeats 4000000 in
set_option maxRecDepth 100000 in
theorem s_M_standItem_43 {G : Gx} {X : Cx} {res : A_W} (K : Ok G X 4 c_M_standItem 4 (none) rm_M_standItem) (hQ : QQ G X none res 0 0) (w : A_W) (h : F_M_standItem_43 w = some res) : Sm G X w 0 0 [none, none, none, none] [] 43 := by
  unfold F_M_standItem_43 at h
  obtain rfl := Option.some.inj h
  exact Sm_retv K hQ (eok_i (eo ek_M_standItem (i := 29) rfl) rfl)
set_option maxHeartbeats 4000000 in
set_option maxRecDepth 100000 in
theorem s_M_standItem_0 {G : Gx} {X : Cx} {res : A_W} (K : Ok G X 4 c_M_standItem 4 (none) rm_M_standItem) (hQ : QQ G X none res 0 0) (t : Nat) (w : A_W) (h : F_M_standItem_0 t w = some res) : Sm G X w 0 0 [some (.ref t), none, none, none] [] 0 := by
  unfold F_M_standItem_0 at h
  refine Sm_run K ek_M_standItem 0 3 rfl ?_
  obtain ⟨o2, e_o2, h⟩ := Option.bind_eq_some_iff.mp h
  obtain ⟨p1, e_p1, h⟩ := Option.bind_eq_some_iff.mp h
  refine Sm_callV K (eok_i (eo ek_M_standItem (i := 3) rfl) rfl) cy_M_number im_M_number se_M_number (lgm 1143 (by decide +kernel) rfl) ⟨Nat.le_of_ble_eq_true rfl, Nat.le_of_ble_eq_true rfl⟩ (as := [.int 0, .int 5]) (b := t) (st := []) (ob_e e_o2) (by decide) rfl rfl rfl rfl (Nat.le_of_ble_eq_true rfl) ⟨Nat.le_of_ble_eq_true rfl, Nat.le_of_ble_eq_true rfl⟩ (cn_M_number e_p1) ?_
  refine Sm_eq (st1 := .int p1.1 :: []) (nc1 := 0) (ns1 := 0) rfl rfl rfl ?_
  refine Sm_run K ek_M_standItem 4 4 rfl ?_
  obtain ⟨o4, e_o4, h⟩ := Option.bind_eq_some_iff.mp h
  obtain ⟨p3, e_p3, h⟩ := Option.bind_eq_some_iff.mp h
  refine Sm_callV K (eok_i (eo ek_M_standItem (i := 8) rfl) rfl) cy_M_number im_M_number se_M_number (lgm 1143 (by decide +kernel) rfl) ⟨Nat.le_of_ble_eq_true rfl, Nat.le_of_ble_eq_true rfl⟩ (as := [.int 0, .int 5]) (b := t) (st := []) (ob_e e_o4) (by decide) rfl rfl rfl rfl (Nat.le_of_ble_eq_true rfl) ⟨Nat.le_of_ble_eq_true rfl, Nat.le_of_ble_eq_true rfl⟩ (cn_M_number e_p3) ?_
  refine Sm_eq (st1 := .int p3.1 :: []) (nc1 := 0) (ns1 := 0) rfl rfl rfl ?_
  refine Sm_run K ek_M_standItem 9 4 rfl ?_
  obtain ⟨o6, e_o6, h⟩ := Option.bind_eq_some_iff.mp h
  obtain ⟨p5, e_p5, h⟩ := Option.bind_eq_some_iff.mp h
  refine Sm_callV K (eok_i (eo ek_M_standItem (i := 13) rfl) rfl) cy_M_number im_M_number se_M_number (lgm 1143 (by decide +kernel) rfl) ⟨Nat.le_of_ble_eq_true rfl, Nat.le_of_ble_eq_true rfl⟩ (as := [.int 0, .int 15]) (b := t) (st := []) (ob_e e_o6) (by decide) rfl rfl rfl rfl (Nat.le_of_ble_eq_true rfl) ⟨Nat.le_of_ble_eq_true rfl, Nat.le_of_ble_eq_true rfl⟩ (cn_M_number e_p5) ?_
  refine Sm_eq (st1 := .int p5.1 :: []) (nc1 := 0) (ns1 := 0) rfl rfl rfl ?_
  refine Sm_run K ek_M_standItem 14 2 rfl ?_
  obtain ⟨v7, e_v7, h⟩ := Option.bind_eq_some_iff.mp h
  refine Sm_gi K (eo ek_M_standItem (i := 16) rfl) e_v7 ?_
  refine Sm_if_ne K (eo ek_M_standItem (i := 17) rfl) (fun c8 => ?_) (fun c8 => ?_)
  · rw [if_neg c8] at h
    exact Sm_le (leR_n (leR_n (leR_n (leR_n leR_nil)))) (s_M_standItem_43 K hQ _ h)
  · rw [if_pos c8] at h
    refine Sm_run K ek_M_standItem 18 1 rfl ?_
    obtain ⟨a9, e_a9, h⟩ := Option.bind_eq_some_iff.mp h
    refine Sm_gr K (eo ek_M_standItem (i := 19) rfl) e_a9 ?_
    refine Sm_run K ek_M_standItem 20 8 rfl ?_
    obtain ⟨w10, e_w10, h⟩ := Option.bind_eq_some_iff.mp h
    refine Sm_wr K (eok_i (eo ek_M_standItem (i := 28) rfl) rfl) e_w10 ?_
    exact Sm_le (leR_n (leR_n (leR_n (leR_n leR_nil)))) (s_M_standItem_43 K hQ _ h)
def F_M_standItem (t : Nat) (w : A_W) : Option (A_W) := F_M_standItem_0 t w
theorem cn_M_standItem {G : Gx} {t : Nat} {w : A_W} {res : A_W} (h : F_M_standItem t w = some res) : Cn G y_M_standItem c_M_standItem 4 (none) rm_M_standItem [.ref t] w none res :=
  Cn_of (own := 4) cy_M_standItem rfl rfl (Nat.le_of_ble_eq_true rfl) rfl (fun X K _ hQ => Sm_le (leR_s (leR_n (leR_n (leR_n leR_nil)))) (s_M_standItem_0 K hQ _ _ h))
/-! EveningCloakModel.item()V -/
abbrev c_M_item : ByteArray := prog_6_method_86_code
def y_M_item : MethodName := ⟨"EveningCloakModel", "item", "()V"⟩
def rm_M_item : Room := { frames := 6, cells := 0, slots := 0, locals := 139 }
theorem cy_M_item : Cy y_M_item c_M_item 1 (none) 0 := ⟨lgm 1130 (by decide +kernel) rfl, lgm 73 (by decide +kernel) rfl, by decide +kernel, by decide +kernel⟩
theorem im_M_item : Cond.instanceMethod y_M_item ∈ lg := lgm 1129 (by decide +kernel) rfl
theorem se_M_item : Cond.selects y_M_item.cls y_M_item y_M_item ∈ lg := lgm 58 (by decide +kernel) rfl
def e_M_item : List Ent := [
  (0, .aload_n 0, 1, 1, .null, 0, 0, 0),
  (1, .getfield 211, 3, 4, .null, 4, 10, 772),
  (4, .bipush 6, 2, 6, .int 6, 0, 0, 0),
  (6, .if_icmp .gt 10, 3, 16, .null, 0, 0, 0),
  (9, .aload_n 0, 1, 10, .null, 0, 0, 0),
  (10, .invokevirtual 233, 3, 13, .null, 0, 0, 0),
  (13, .goto 40, 3, 53, .null, 0, 0, 0),
  (16, .aload_n 0, 1, 17, .null, 0, 0, 0),
  (17, .getfield 211, 3, 20, .null, 4, 10, 772),
  (20, .bipush 12, 2, 22, .int 12, 0, 0, 0),
  (22, .if_icmp .ne 10, 3, 32, .null, 0, 0, 0),
  (25, .aload_n 0, 1, 26, .null, 0, 0, 0),
  (26, .invokevirtual 236, 3, 29, .null, 0, 0, 0),
  (29, .goto 24, 3, 53, .null, 0, 0, 0),
  (32, .aload_n 0, 1, 33, .null, 0, 0, 0),
  (33, .bipush 14, 2, 35, .int 14, 0, 0, 0),
  (35, .invokevirtual 224, 3, 38, .null, 0, 0, 0),
  (38, .ifCond .eq 10, 3, 48, .null, 0, 0, 0),
  (41, .aload_n 0, 1, 42, .null, 0, 0, 0),
  (42, .invokevirtual 239, 3, 45, .null, 0, 0, 0),
  (45, .goto 8, 3, 53, .null, 0, 0, 0),
  (48, .aload_n 0, 1, 49, .null, 0, 0, 0),
  (49, .iconst 1, 1, 50, .int 1, 0, 0, 0),
  (50, .putfield 217, 3, 53, .null, 4, 14, 776),
  (53, .return_, 1, 54, .null, 0, 0, 0)]
set_option maxRecDepth 100000 in
theorem ek_M_item : e_M_item.all (eok 4 c_M_item) = true := by decide +kernel
def F_M_item_53 (w : A_W) : Option (A_W) :=
  some w
def F_M_item_0 (t : Nat) (w : A_W) : Option (A_W) :=
  (gi w t 4 10).bind fun v1 =>
  if 6 < v1 then
    (gi w t 4 10).bind fun v3 =>
    if v3 = 12 then
      (ob w t 4).bind fun o13 =>
      (F_M_girlItem t w).bind fun p12 =>
      F_M_item_53 p12
    else
      (ob w t 4).bind fun o6 =>
      (F_M_takes t 14 w).bind fun p5 =>
      if p5.1 = 0 then
        (bz 1).bind fun b9 =>
        (pf p5.2 t 4 14 (.int b9)).bind fun w8 =>
        F_M_item_53 w8
      else
        (ob p5.2 t 4).bind fun o11 =>
        (F_M_standItem t p5.2).bind fun p10 =>
        F_M_item_53 p10
  else
    (ob w t 4).bind fun o15 =>
    (F_M_depositItem t w).bind fun p14 =>
    F_M_item_53 p14
set_option maxHeartbeats 4000000 in
set_option maxRecDepth 100000 in
theorem s_M_item_53 {G : Gx} {X : Cx} {res : A_W} (K : Ok G X 4 c_M_item 1 (none) rm_M_item) (hQ : QQ G X none res 0 0) (w : A_W) (h : F_M_item_53 w = some res) : Sm G X w 0 0 [none] [] 53 := by
  unfold F_M_item_53 at h
  obtain rfl := Option.some.inj h
  exact Sm_retv K hQ (eok_i (eo ek_M_item (i := 24) rfl) rfl)
set_option maxHeartbeats 4000000 in
set_option maxRecDepth 100000 in
theorem s_M_item_0 {G : Gx} {X : Cx} {res : A_W} (K : Ok G X 4 c_M_item 1 (none) rm_M_item) (hQ : QQ G X none res 0 0) (t : Nat) (w : A_W) (h : F_M_item_0 t w = some res) : Sm G X w 0 0 [some (.ref t)] [] 0 := by
  unfold F_M_item_0 at h
  refine Sm_run K ek_M_item 0 1 rfl ?_
  obtain ⟨v1, e_v1, h⟩ := Option.bind_eq_some_iff.mp h
  refine Sm_gi K (eo ek_M_item (i := 1) rfl) e_v1 ?_
  refine Sm_run K ek_M_item 2 1 rfl ?_
  refine Sm_ic_gt K (eo ek_M_item (i := 3) rfl) (fun c2 => ?_) (fun c2 => ?_)
  · rw [if_pos c2] at h
    refine Sm_run K ek_M_item 7 1 rfl ?_
    obtain ⟨v3, e_v3, h⟩ := Option.bind_eq_some_iff.mp h
    refine Sm_gi K (eo ek_M_item (i := 8) rfl) e_v3 ?_
    refine Sm_run K ek_M_item 9 1 rfl ?_
    refine Sm_ic_ne K (eo ek_M_item (i := 10) rfl) (fun c4 => ?_) (fun c4 => ?_)
    · rw [if_neg c4] at h
      refine Sm_run K ek_M_item 14 2 rfl ?_
      obtain ⟨o6, e_o6, h⟩ := Option.bind_eq_some_iff.mp h
      obtain ⟨p5, e_p5, h⟩ := Option.bind_eq_some_iff.mp h
      refine Sm_callV K (eok_i (eo ek_M_item (i := 16) rfl) rfl) cy_M_takes im_M_takes se_M_takes (lgm 1139 (by decide +kernel) rfl) ⟨Nat.le_of_ble_eq_true rfl, Nat.le_of_ble_eq_true rfl⟩ (as := [.int 14]) (b := t) (st := []) (ob_e e_o6) (by decide) rfl rfl rfl rfl (Nat.le_of_ble_eq_true rfl) ⟨Nat.le_of_ble_eq_true rfl, Nat.le_of_ble_eq_true rfl⟩ (cn_M_takes e_p5) ?_
      refine Sm_eq (st1 := .int p5.1 :: []) (nc1 := 0) (ns1 := 0) rfl rfl rfl ?_
      refine Sm_if_eq K (eo ek_M_item (i := 17) rfl) (fun c7 => ?_) (fun c7 => ?_)
      · rw [if_pos c7] at h
        refine Sm_run K ek_M_item 21 2 rfl ?_
        obtain ⟨b9, e_b9, h⟩ := Option.bind_eq_some_iff.mp h
        obtain ⟨w8, e_w8, h⟩ := Option.bind_eq_some_iff.mp h
        refine Sm_pz K (eo ek_M_item (i := 23) rfl) rfl rfl e_b9 e_w8 ?_
        exact Sm_le (leR_n leR_nil) (s_M_item_53 K hQ _ h)
      · rw [if_neg c7] at h
        refine Sm_run K ek_M_item 18 1 rfl ?_
        obtain ⟨o11, e_o11, h⟩ := Option.bind_eq_some_iff.mp h
        obtain ⟨p10, e_p10, h⟩ := Option.bind_eq_some_iff.mp h
        refine Sm_callV K (eok_i (eo ek_M_item (i := 19) rfl) rfl) cy_M_standItem im_M_standItem se_M_standItem (lgm 1151 (by decide +kernel) rfl) ⟨Nat.le_of_ble_eq_true rfl, Nat.le_of_ble_eq_true rfl⟩ (as := []) (b := t) (st := []) (ob_e e_o11) (by decide) rfl rfl rfl rfl (Nat.le_of_ble_eq_true rfl) ⟨Nat.le_of_ble_eq_true rfl, Nat.le_of_ble_eq_true rfl⟩ (cn_M_standItem e_p10) ?_
        refine Sm_eq (st1 := []) (nc1 := 0) (ns1 := 0) rfl rfl rfl ?_
        refine Sm_run K ek_M_item 20 1 rfl ?_
        exact Sm_le (leR_n leR_nil) (s_M_item_53 K hQ _ h)
    · rw [if_pos c4] at h
      refine Sm_run K ek_M_item 11 1 rfl ?_
      obtain ⟨o13, e_o13, h⟩ := Option.bind_eq_some_iff.mp h
      obtain ⟨p12, e_p12, h⟩ := Option.bind_eq_some_iff.mp h
      refine Sm_callV K (eok_i (eo ek_M_item (i := 12) rfl) rfl) cy_M_girlItem im_M_girlItem se_M_girlItem (lgm 1147 (by decide +kernel) rfl) ⟨Nat.le_of_ble_eq_true rfl, Nat.le_of_ble_eq_true rfl⟩ (as := []) (b := t) (st := []) (ob_e e_o13) (by decide) rfl rfl rfl rfl (Nat.le_of_ble_eq_true rfl) ⟨Nat.le_of_ble_eq_true rfl, Nat.le_of_ble_eq_true rfl⟩ (cn_M_girlItem e_p12) ?_
      refine Sm_eq (st1 := []) (nc1 := 0) (ns1 := 0) rfl rfl rfl ?_
      refine Sm_run K ek_M_item 13 1 rfl ?_
      exact Sm_le (leR_n leR_nil) (s_M_item_53 K hQ _ h)
  · rw [if_neg c2] at h
    refine Sm_run K ek_M_item 4 1 rfl ?_
    obtain ⟨o15, e_o15, h⟩ := Option.bind_eq_some_iff.mp h
    obtain ⟨p14, e_p14, h⟩ := Option.bind_eq_some_iff.mp h
    refine Sm_callV K (eok_i (eo ek_M_item (i := 5) rfl) rfl) cy_M_depositItem im_M_depositItem se_M_depositItem (lgm 1131 (by decide +kernel) rfl) ⟨Nat.le_of_ble_eq_true rfl, Nat.le_of_ble_eq_true rfl⟩ (as := []) (b := t) (st := []) (ob_e e_o15) (by decide) rfl rfl rfl rfl (Nat.le_of_ble_eq_true rfl) ⟨Nat.le_of_ble_eq_true rfl, Nat.le_of_ble_eq_true rfl⟩ (cn_M_depositItem e_p14) ?_
    refine Sm_eq (st1 := []) (nc1 := 0) (ns1 := 0) rfl rfl rfl ?_
    refine Sm_run K ek_M_item 6 1 rfl ?_
    exact Sm_le (leR_n leR_nil) (s_M_item_53 K hQ _ h)
def F_M_item (t : Nat) (w : A_W) : Option (A_W) := F_M_item_0 t w
theorem cn_M_item {G : Gx} {t : Nat} {w : A_W} {res : A_W} (h : F_M_item t w = some res) : Cn G y_M_item c_M_item 1 (none) rm_M_item [.ref t] w none res :=
  Cn_of (own := 4) cy_M_item rfl rfl (Nat.le_of_ble_eq_true rfl) rfl (fun X K _ hQ => Sm_le (leR_s leR_nil) (s_M_item_0 K hQ _ _ h))
/-! EveningCloakModel.text()I -/
abbrev c_M_text : ByteArray := prog_6_method_87_code
def y_M_text : MethodName := ⟨"EveningCloakModel", "text", "()I"⟩
def rm_M_text : Room := { frames := 7, cells := 0, slots := 0, locals := 159 }
theorem cy_M_text : Cy y_M_text c_M_text 2 (some .int) 0 := ⟨lgm 1108 (by decide +kernel) rfl, lgm 73 (by decide +kernel) rfl, by decide +kernel, by decide +kernel⟩
theorem im_M_text : Cond.instanceMethod y_M_text ∈ lg := lgm 1106 (by decide +kernel) rfl
theorem se_M_text : Cond.selects y_M_text.cls y_M_text y_M_text ∈ lg := lgm 1107 (by decide +kernel) rfl
def e_M_text : List Ent := [
  (0, .aload_n 0, 1, 1, .null, 0, 0, 0),
  (1, .invokevirtual 142, 3, 4, .null, 0, 0, 0),
  (4, .aload_n 0, 1, 5, .null, 0, 0, 0),
  (5, .iconst 0, 1, 6, .int 0, 0, 0, 0),
  (6, .putfield 199, 3, 9, .null, 4, 12, 774),
  (9, .aload_n 0, 1, 10, .null, 0, 0, 0),
  (10, .iconst 0, 1, 11, .int 0, 0, 0, 0),
  (11, .putfield 217, 3, 14, .null, 4, 14, 776),
  (14, .aload_n 0, 1, 15, .null, 0, 0, 0),
  (15, .invokevirtual 221, 3, 18, .null, 0, 0, 0),
  (18, .aload_n 0, 1, 19, .null, 0, 0, 0),
  (19, .invokevirtual 242, 3, 22, .null, 0, 0, 0),
  (22, .iconst 1, 1, 23, .int 1, 0, 0, 0),
  (23, .istore_n 1, 1, 24, .null, 0, 0, 0),
  (24, .aload_n 0, 1, 25, .null, 0, 0, 0),
  (25, .bipush 21, 2, 27, .int 21, 0, 0, 0),
  (27, .invokevirtual 224, 3, 30, .null, 0, 0, 0),
  (30, .ifCond .eq 13, 3, 43, .null, 0, 0, 0),
  (33, .aload_n 0, 1, 34, .null, 0, 0, 0),
  (34, .invokevirtual 242, 3, 37, .null, 0, 0, 0),
  (37, .iinc 1 1, 3, 40, .int 1, 0, 0, 0),
  (40, .goto (-16), 3, 24, .null, 0, 0, 0),
  (43, .aload_n 0, 1, 44, .null, 0, 0, 0),
  (44, .aload_n 0, 1, 45, .null, 0, 0, 0),
  (45, .getfield 217, 3, 48, .null, 4, 14, 776),
  (48, .ifCond .ne 12, 3, 60, .null, 0, 0, 0),
  (51, .aload_n 0, 1, 52, .null, 0, 0, 0),
  (52, .getfield 211, 3, 55, .null, 4, 10, 772),
  (55, .bipush 22, 2, 57, .int 22, 0, 0, 0),
  (57, .if_icmp .eq 7, 3, 64, .null, 0, 0, 0),
  (60, .iconst 1, 1, 61, .int 1, 0, 0, 0),
  (61, .goto 4, 3, 65, .null, 0, 0, 0),
  (64, .iconst 0, 1, 65, .int 0, 0, 0, 0),
  (65, .putfield 217, 3, 68, .null, 4, 14, 776),
  (68, .aload_n 0, 1, 69, .null, 0, 0, 0),
  (69, .iconst 0, 1, 70, .int 0, 0, 0, 0),
  (70, .putfield 189, 3, 73, .null, 4, 9, 771),
  (73, .aload_n 0, 1, 74, .null, 0, 0, 0),
  (74, .getfield 217, 3, 77, .null, 4, 14, 776),
  (77, .ifCond .ne 5, 3, 82, .null, 0, 0, 0),
  (80, .iload_n 1, 1, 81, .null, 0, 0, 0),
  (81, .ireturn, 1, 82, .null, 0, 0, 0),
  (82, .aload_n 0, 1, 83, .null, 0, 0, 0),
  (83, .invokevirtual 145, 3, 86, .null, 0, 0, 0),
  (86, .iconst (-1), 1, 87, .int (-1), 0, 0, 0),
  (87, .aload_n 0, 1, 88, .null, 0, 0, 0),
  (88, .getfield 196, 3, 91, .null, 4, 11, 773),
  (91, .isub, 1, 92, .null, 0, 0, 0),
  (92, .ireturn, 1, 93, .null, 0, 0, 0)]
set_option maxRecDepth 100000 in
theorem ek_M_text : e_M_text.all (eok 4 c_M_text) = true := by decide +kernel
def F_M_text_65 (t : Nat) (x1 : Int32) (y0 : Nat) (y1 : Int32) (w : A_W) : Option (Int32 × A_W) :=
  (bz y1).bind fun b2 =>
  (pf w y0 4 14 (.int b2)).bind fun w1 =>
  (pf w1 t 4 9 (.int 0)).bind fun w3 =>
  (gi w3 t 4 14).bind fun v4 =>
  if v4 = 0 then
    some (x1, w3)
  else
    (ob w3 t 4).bind fun o7 =>
    (F_M_putsBack t w3).bind fun p6 =>
    (gi p6 t 4 11).bind fun v8 =>
    some (((-1) - v8), p6)
def F_M_text_60 (t : Nat) (x1 : Int32) (y0 : Nat) (w : A_W) : Option (Int32 × A_W) :=
  F_M_text_65 t x1 y0 1 w
def F_M_text_24 : Nat → Nat → Int32 → A_W → Option (Int32 × A_W)
  | 0, _, _, _ => none
  | n + 1, t, x1, w =>
    (ob w t 4).bind fun o2 =>
    (F_M_takes t 21 w).bind fun p1 =>
    if p1.1 = 0 then
      (gi p1.2 t 4 14).bind fun v4 =>
      if v4 = 0 then
        (gi p1.2 t 4 10).bind fun v6 =>
        if v6 = 22 then
          F_M_text_65 t x1 t 0 p1.2
        else
          F_M_text_60 t x1 t p1.2
      else
        F_M_text_60 t x1 t p1.2
    else
      (ob p1.2 t 4).bind fun o9 =>
      (F_M_item t p1.2).bind fun p8 =>
      F_M_text_24 n t (x1 + 1) p8
def F_M_text_0 (t : Nat) (w : A_W) : Option (Int32 × A_W) :=
  (ob w t 4).bind fun o2 =>
  (F_M_thinks t w).bind fun p1 =>
  (pf p1 t 4 12 (.int 0)).bind fun w3 =>
  (bz 0).bind fun b5 =>
  (pf w3 t 4 14 (.int b5)).bind fun w4 =>
  (ob w4 t 4).bind fun o7 =>
  (F_M_reads t w4).bind fun p6 =>
  (ob p6 t 4).bind fun o9 =>
  (F_M_item t p6).bind fun p8 =>
  F_M_text_24 FU t 1 p8
set_option maxHeartbeats 4000000 in
set_option maxRecDepth 100000 in
theorem s_M_text_65 {G : Gx} {X : Cx} {res : Int32 × A_W} (K : Ok G X 4 c_M_text 2 (some .int) rm_M_text) (hQ : QQ G X (some (.int res.1)) res.2 0 0) (t : Nat) (x1 : Int32) (y0 : Nat) (y1 : Int32) (w : A_W) (h : F_M_text_65 t x1 y0 y1 w = some res) : Sm G X w 0 0 [some (.ref t), some (.int x1)] [.int y1, .ref y0] 65 := by
  unfold F_M_text_65 at h
  obtain ⟨b2, e_b2, h⟩ := Option.bind_eq_some_iff.mp h
  obtain ⟨w1, e_w1, h⟩ := Option.bind_eq_some_iff.mp h
  refine Sm_pz K (eo ek_M_text (i := 33) rfl) rfl rfl e_b2 e_w1 ?_
  refine Sm_run K ek_M_text 34 2 rfl ?_
  obtain ⟨w3, e_w3, h⟩ := Option.bind_eq_some_iff.mp h
  refine Sm_pi K (eo ek_M_text (i := 36) rfl) rfl rfl e_w3 ?_
  refine Sm_run K ek_M_text 37 1 rfl ?_
  obtain ⟨v4, e_v4, h⟩ := Option.bind_eq_some_iff.mp h
  refine Sm_gi K (eo ek_M_text (i := 38) rfl) e_v4 ?_
  refine Sm_if_ne K (eo ek_M_text (i := 39) rfl) (fun c5 => ?_) (fun c5 => ?_)
  · rw [if_neg c5] at h
    refine Sm_run K ek_M_text 42 1 rfl ?_
    obtain ⟨o7, e_o7, h⟩ := Option.bind_eq_some_iff.mp h
    obtain ⟨p6, e_p6, h⟩ := Option.bind_eq_some_iff.mp h
    refine Sm_callV K (eok_i (eo ek_M_text (i := 43) rfl) rfl) cy_M_putsBack im_M_putsBack se_M_putsBack (lgm 987 (by decide +kernel) rfl) ⟨Nat.le_of_ble_eq_true rfl, Nat.le_of_ble_eq_true rfl⟩ (as := []) (b := t) (st := []) (ob_e e_o7) (by decide) rfl rfl rfl rfl (Nat.le_of_ble_eq_true rfl) ⟨Nat.le_of_ble_eq_true rfl, Nat.le_of_ble_eq_true rfl⟩ (cn_M_putsBack e_p6) ?_
    refine Sm_eq (st1 := []) (nc1 := 0) (ns1 := 0) rfl rfl rfl ?_
    refine Sm_run K ek_M_text 44 2 rfl ?_
    obtain ⟨v8, e_v8, h⟩ := Option.bind_eq_some_iff.mp h
    refine Sm_gi K (eo ek_M_text (i := 46) rfl) e_v8 ?_
    refine Sm_run K ek_M_text 47 1 rfl ?_
    obtain rfl := Option.some.inj h
    exact Sm_reti K hQ (eok_i (eo ek_M_text (i := 48) rfl) rfl)
  · rw [if_pos c5] at h
    refine Sm_run K ek_M_text 40 1 rfl ?_
    obtain rfl := Option.some.inj h
    exact Sm_reti K hQ (eok_i (eo ek_M_text (i := 41) rfl) rfl)
set_option maxHeartbeats 4000000 in
set_option maxRecDepth 100000 in
theorem s_M_text_60 {G : Gx} {X : Cx} {res : Int32 × A_W} (K : Ok G X 4 c_M_text 2 (some .int) rm_M_text) (hQ : QQ G X (some (.int res.1)) res.2 0 0) (t : Nat) (x1 : Int32) (y0 : Nat) (w : A_W) (h : F_M_text_60 t x1 y0 w = some res) : Sm G X w 0 0 [some (.ref t), some (.int x1)] [.ref y0] 60 := by
  unfold F_M_text_60 at h
  refine Sm_run K ek_M_text 30 2 rfl ?_
  exact Sm_le (leR_s (leR_s leR_nil)) (s_M_text_65 K hQ _ _ _ _ _ h)
set_option maxHeartbeats 4000000 in
set_option maxRecDepth 100000 in
theorem s_M_text_24 {G : Gx} {X : Cx} {res : Int32 × A_W} (K : Ok G X 4 c_M_text 2 (some .int) rm_M_text) (hQ : QQ G X (some (.int res.1)) res.2 0 0) : ∀ (n : Nat) (t : Nat) (x1 : Int32) (w : A_W), F_M_text_24 n t x1 w = some res → Sm G X w 0 0 [some (.ref t), some (.int x1)] [] 24 := by
  intro n
  induction n with
  | zero => intro t x1 w h; cases h
  | succ n ih =>
    intro t x1 w h
    rw [F_M_text_24] at h
    refine Sm_run K ek_M_text 14 2 rfl ?_
    obtain ⟨o2, e_o2, h⟩ := Option.bind_eq_some_iff.mp h
    obtain ⟨p1, e_p1, h⟩ := Option.bind_eq_some_iff.mp h
    refine Sm_callV K (eok_i (eo ek_M_text (i := 16) rfl) rfl) cy_M_takes im_M_takes se_M_takes (lgm 1139 (by decide +kernel) rfl) ⟨Nat.le_of_ble_eq_true rfl, Nat.le_of_ble_eq_true rfl⟩ (as := [.int 21]) (b := t) (st := []) (ob_e e_o2) (by decide) rfl rfl rfl rfl (Nat.le_of_ble_eq_true rfl) ⟨Nat.le_of_ble_eq_true rfl, Nat.le_of_ble_eq_true rfl⟩ (cn_M_takes e_p1) ?_
    refine Sm_eq (st1 := .int p1.1 :: []) (nc1 := 0) (ns1 := 0) rfl rfl rfl ?_
    refine Sm_if_eq K (eo ek_M_text (i := 17) rfl) (fun c3 => ?_) (fun c3 => ?_)
    · rw [if_pos c3] at h
      refine Sm_run K ek_M_text 22 2 rfl ?_
      obtain ⟨v4, e_v4, h⟩ := Option.bind_eq_some_iff.mp h
      refine Sm_gi K (eo ek_M_text (i := 24) rfl) e_v4 ?_
      refine Sm_if_ne K (eo ek_M_text (i := 25) rfl) (fun c5 => ?_) (fun c5 => ?_)
      · rw [if_neg c5] at h
        exact Sm_le (leR_s (leR_s leR_nil)) (s_M_text_60 K hQ _ _ _ _ h)
      · rw [if_pos c5] at h
        refine Sm_run K ek_M_text 26 1 rfl ?_
        obtain ⟨v6, e_v6, h⟩ := Option.bind_eq_some_iff.mp h
        refine Sm_gi K (eo ek_M_text (i := 27) rfl) e_v6 ?_
        refine Sm_run K ek_M_text 28 1 rfl ?_
        refine Sm_ic_eq K (eo ek_M_text (i := 29) rfl) (fun c7 => ?_) (fun c7 => ?_)
        · rw [if_pos c7] at h
          refine Sm_run K ek_M_text 32 1 rfl ?_
          exact Sm_le (leR_s (leR_s leR_nil)) (s_M_text_65 K hQ _ _ _ _ _ h)
        · rw [if_neg c7] at h
          exact Sm_le (leR_s (leR_s leR_nil)) (s_M_text_60 K hQ _ _ _ _ h)
    · rw [if_neg c3] at h
      refine Sm_run K ek_M_text 18 1 rfl ?_
      obtain ⟨o9, e_o9, h⟩ := Option.bind_eq_some_iff.mp h
      obtain ⟨p8, e_p8, h⟩ := Option.bind_eq_some_iff.mp h
      refine Sm_callV K (eok_i (eo ek_M_text (i := 19) rfl) rfl) cy_M_item im_M_item se_M_item (lgm 1127 (by decide +kernel) rfl) ⟨Nat.le_of_ble_eq_true rfl, Nat.le_of_ble_eq_true rfl⟩ (as := []) (b := t) (st := []) (ob_e e_o9) (by decide) rfl rfl rfl rfl (Nat.le_of_ble_eq_true rfl) ⟨Nat.le_of_ble_eq_true rfl, Nat.le_of_ble_eq_true rfl⟩ (cn_M_item e_p8) ?_
      refine Sm_eq (st1 := []) (nc1 := 0) (ns1 := 0) rfl rfl rfl ?_
      refine Sm_run K ek_M_text 20 2 rfl ?_
      exact Sm_le (leR_s (leR_s leR_nil)) (ih _ _ _ h)
set_option maxHeartbeats 4000000 in
set_option maxRecDepth 100000 in
theorem s_M_text_0 {G : Gx} {X : Cx} {res : Int32 × A_W} (K : Ok G X 4 c_M_text 2 (some .int) rm_M_text) (hQ : QQ G X (some (.int res.1)) res.2 0 0) (t : Nat) (w : A_W) (h : F_M_text_0 t w = some res) : Sm G X w 0 0 [some (.ref t), none] [] 0 := by
  unfold F_M_text_0 at h
  refine Sm_run K ek_M_text 0 1 rfl ?_
  obtain ⟨o2, e_o2, h⟩ := Option.bind_eq_some_iff.mp h
  obtain ⟨p1, e_p1, h⟩ := Option.bind_eq_some_iff.mp h
  refine Sm_callV K (eok_i (eo ek_M_text (i := 1) rfl) rfl) cy_M_thinks im_M_thinks se_M_thinks (lgm 980 (by decide +kernel) rfl) ⟨Nat.le_of_ble_eq_true rfl, Nat.le_of_ble_eq_true rfl⟩ (as := []) (b := t) (st := []) (ob_e e_o2) (by decide) rfl rfl rfl rfl (Nat.le_of_ble_eq_true rfl) ⟨Nat.le_of_ble_eq_true rfl, Nat.le_of_ble_eq_true rfl⟩ (cn_M_thinks e_p1) ?_
  refine Sm_eq (st1 := []) (nc1 := 0) (ns1 := 0) rfl rfl rfl ?_
  refine Sm_run K ek_M_text 2 2 rfl ?_
  obtain ⟨w3, e_w3, h⟩ := Option.bind_eq_some_iff.mp h
  refine Sm_pi K (eo ek_M_text (i := 4) rfl) rfl rfl e_w3 ?_
  refine Sm_run K ek_M_text 5 2 rfl ?_
  obtain ⟨b5, e_b5, h⟩ := Option.bind_eq_some_iff.mp h
  obtain ⟨w4, e_w4, h⟩ := Option.bind_eq_some_iff.mp h
  refine Sm_pz K (eo ek_M_text (i := 7) rfl) rfl rfl e_b5 e_w4 ?_
  refine Sm_run K ek_M_text 8 1 rfl ?_
  obtain ⟨o7, e_o7, h⟩ := Option.bind_eq_some_iff.mp h
  obtain ⟨p6, e_p6, h⟩ := Option.bind_eq_some_iff.mp h
  refine Sm_callV K (eok_i (eo ek_M_text (i := 9) rfl) rfl) cy_M_reads im_M_reads se_M_reads (lgm 1109 (by decide +kernel) rfl) ⟨Nat.le_of_ble_eq_true rfl, Nat.le_of_ble_eq_true rfl⟩ (as := []) (b := t) (st := []) (ob_e e_o7) (by decide) rfl rfl rfl rfl (Nat.le_of_ble_eq_true rfl) ⟨Nat.le_of_ble_eq_true rfl, Nat.le_of_ble_eq_true rfl⟩ (cn_M_reads e_p6) ?_
  refine Sm_eq (st1 := []) (nc1 := 0) (ns1 := 0) rfl rfl rfl ?_
  refine Sm_run K ek_M_text 10 1 rfl ?_
  obtain ⟨o9, e_o9, h⟩ := Option.bind_eq_some_iff.mp h
  obtain ⟨p8, e_p8, h⟩ := Option.bind_eq_some_iff.mp h
  refine Sm_callV K (eok_i (eo ek_M_text (i := 11) rfl) rfl) cy_M_item im_M_item se_M_item (lgm 1127 (by decide +kernel) rfl) ⟨Nat.le_of_ble_eq_true rfl, Nat.le_of_ble_eq_true rfl⟩ (as := []) (b := t) (st := []) (ob_e e_o9) (by decide) rfl rfl rfl rfl (Nat.le_of_ble_eq_true rfl) ⟨Nat.le_of_ble_eq_true rfl, Nat.le_of_ble_eq_true rfl⟩ (cn_M_item e_p8) ?_
  refine Sm_eq (st1 := []) (nc1 := 0) (ns1 := 0) rfl rfl rfl ?_
  refine Sm_run K ek_M_text 12 2 rfl ?_
  exact Sm_le (leR_s (leR_s leR_nil)) (s_M_text_24 K hQ FU _ _ _ h)
def F_M_text (t : Nat) (w : A_W) : Option (Int32 × A_W) := F_M_text_0 t w
theorem cn_M_text {G : Gx} {t : Nat} {w : A_W} {res : Int32 × A_W} (h : F_M_text t w = some res) : Cn G y_M_text c_M_text 2 (some .int) rm_M_text [.ref t] w (some (.int res.1)) res.2 :=
  Cn_of (own := 4) cy_M_text rfl rfl (Nat.le_of_ble_eq_true rfl) rfl (fun X K _ hQ => Sm_le (leR_s (leR_n leR_nil)) (s_M_text_0 K hQ _ _ h))
/-! EveningCloakModel.hold(II)I -/
abbrev c_M_hold : ByteArray := prog_6_method_88_code
def y_M_hold : MethodName := ⟨"EveningCloakModel", "hold", "(II)I"⟩
def rm_M_hold : Room := { frames := 2, cells := 0, slots := 0, locals := 43 }
theorem cy_M_hold : Cy y_M_hold c_M_hold 3 (some .int) 2 := ⟨lgm 1158 (by decide +kernel) rfl, lgm 73 (by decide +kernel) rfl, by decide +kernel, by decide +kernel⟩
theorem im_M_hold : Cond.instanceMethod y_M_hold ∈ lg := lgm 1156 (by decide +kernel) rfl
theorem se_M_hold : Cond.selects y_M_hold.cls y_M_hold y_M_hold ∈ lg := lgm 1157 (by decide +kernel) rfl
def e_M_hold : List Ent := [
  (0, .iload_n 1, 1, 1, .null, 0, 0, 0),
  (1, .iconst 0, 1, 2, .int 0, 0, 0, 0),
  (2, .bipush 9, 2, 4, .int 9, 0, 0, 0),
  (4, .invokestatic 40, 3, 7, .null, 0, 0, 0),
  (7, .ifCond .eq 16, 3, 23, .null, 0, 0, 0),
  (10, .iload_n 2, 1, 11, .null, 0, 0, 0),
  (11, .iconst (-1), 1, 12, .int (-1), 0, 0, 0),
  (12, .if_icmp .eq 18, 3, 30, .null, 0, 0, 0),
  (15, .aload_n 0, 1, 16, .null, 0, 0, 0),
  (16, .iload_n 2, 1, 17, .null, 0, 0, 0),
  (17, .invokevirtual 88, 3, 20, .null, 0, 0, 0),
  (20, .ifCond .ne 10, 3, 30, .null, 0, 0, 0),
  (23, .aload_n 0, 1, 24, .null, 0, 0, 0),
  (24, .ldc 34, 2, 26, .int (-1000001), 0, 0, 825),
  (26, .invokevirtual 36, 3, 29, .null, 0, 0, 0),
  (29, .ireturn, 1, 30, .null, 0, 0, 0),
  (30, .aload_n 0, 1, 31, .null, 0, 0, 0),
  (31, .getfield 9, 3, 34, .null, 4, 0, 762),
  (34, .bipush 77, 2, 36, .int 77, 0, 0, 0),
  (36, .iload_n 1, 1, 37, .null, 0, 0, 0),
  (37, .iadd, 1, 38, .null, 0, 0, 0),
  (38, .iload_n 2, 1, 39, .null, 0, 0, 0),
  (39, .iastore, 1, 40, .null, 0, 0, 0),
  (40, .iconst 1, 1, 41, .int 1, 0, 0, 0),
  (41, .ireturn, 1, 42, .null, 0, 0, 0)]
set_option maxRecDepth 100000 in
theorem ek_M_hold : e_M_hold.all (eok 4 c_M_hold) = true := by decide +kernel
def F_M_hold_23 (t : Nat) (w : A_W) : Option (Int32 × A_W) :=
  (ob w t 4).bind fun o2 =>
  (F_M_finds t (-1000001) w).bind fun p1 =>
  some (p1.1, p1.2)
def F_M_hold_30 (t : Nat) (x1 : Int32) (x2 : Int32) (w : A_W) : Option (Int32 × A_W) :=
  (gr w t 4 0).bind fun a1 =>
  (wr w a1 (77 + x1) x2).bind fun w2 =>
  some (1, w2)
def F_M_hold_0 (t : Nat) (x1 : Int32) (x2 : Int32) (w : A_W) : Option (Int32 × A_W) :=
  (F_M_in x1 0 9 w).bind fun p1 =>
  if p1.1 = 0 then
    F_M_hold_23 t p1.2
  else
    if x2 = (-1) then
      F_M_hold_30 t x1 x2 p1.2
    else
      (ob p1.2 t 4).bind fun o5 =>
      (F_M_isDeposit t x2 p1.2).bind fun p4 =>
      if p4.1 = 0 then
        F_M_hold_23 t p4.2
      else
        F_M_hold_30 t x1 x2 p4.2
set_option maxHeartbeats 4000000 in
set_option maxRecDepth 100000 in
theorem s_M_hold_23 {G : Gx} {X : Cx} {res : Int32 × A_W} (K : Ok G X 4 c_M_hold 3 (some .int) rm_M_hold) (hQ : QQ G X (some (.int res.1)) res.2 0 0) (t : Nat) (w : A_W) (h : F_M_hold_23 t w = some res) : Sm G X w 0 0 [some (.ref t), none, none] [] 23 := by
  unfold F_M_hold_23 at h
  refine Sm_run K ek_M_hold 12 2 rfl ?_
  obtain ⟨o2, e_o2, h⟩ := Option.bind_eq_some_iff.mp h
  obtain ⟨p1, e_p1, h⟩ := Option.bind_eq_some_iff.mp h
  refine Sm_callV K (eok_i (eo ek_M_hold (i := 14) rfl) rfl) cy_M_finds im_M_finds se_M_finds (lgm 826 (by decide +kernel) rfl) ⟨Nat.le_of_ble_eq_true rfl, Nat.le_of_ble_eq_true rfl⟩ (as := [.int (-1000001)]) (b := t) (st := []) (ob_e e_o2) (by decide) rfl rfl rfl rfl (Nat.le_of_ble_eq_true rfl) ⟨Nat.le_of_ble_eq_true rfl, Nat.le_of_ble_eq_true rfl⟩ (cn_M_finds e_p1) ?_
  refine Sm_eq (st1 := .int p1.1 :: []) (nc1 := 0) (ns1 := 0) rfl rfl rfl ?_
  obtain rfl := Option.some.inj h
  exact Sm_reti K hQ (eok_i (eo ek_M_hold (i := 15) rfl) rfl)
set_option maxHeartbeats 4000000 in
set_option maxRecDepth 100000 in
theorem s_M_hold_30 {G : Gx} {X : Cx} {res : Int32 × A_W} (K : Ok G X 4 c_M_hold 3 (some .int) rm_M_hold) (hQ : QQ G X (some (.int res.1)) res.2 0 0) (t : Nat) (x1 : Int32) (x2 : Int32) (w : A_W) (h : F_M_hold_30 t x1 x2 w = some res) : Sm G X w 0 0 [some (.ref t), some (.int x1), some (.int x2)] [] 30 := by
  unfold F_M_hold_30 at h
  refine Sm_run K ek_M_hold 16 1 rfl ?_
  obtain ⟨a1, e_a1, h⟩ := Option.bind_eq_some_iff.mp h
  refine Sm_gr K (eo ek_M_hold (i := 17) rfl) e_a1 ?_
  refine Sm_run K ek_M_hold 18 4 rfl ?_
  obtain ⟨w2, e_w2, h⟩ := Option.bind_eq_some_iff.mp h
  refine Sm_wr K (eok_i (eo ek_M_hold (i := 22) rfl) rfl) e_w2 ?_
  refine Sm_run K ek_M_hold 23 1 rfl ?_
  obtain rfl := Option.some.inj h
  exact Sm_reti K hQ (eok_i (eo ek_M_hold (i := 24) rfl) rfl)
set_option maxHeartbeats 4000000 in
set_option maxRecDepth 100000 in
theorem s_M_hold_0 {G : Gx} {X : Cx} {res : Int32 × A_W} (K : Ok G X 4 c_M_hold 3 (some .int) rm_M_hold) (hQ : QQ G X (some (.int res.1)) res.2 0 0) (t : Nat) (x1 : Int32) (x2 : Int32) (w : A_W) (h : F_M_hold_0 t x1 x2 w = some res) : Sm G X w 0 0 [some (.ref t), some (.int x1), some (.int x2)] [] 0 := by
  unfold F_M_hold_0 at h
  refine Sm_run K ek_M_hold 0 3 rfl ?_
  obtain ⟨p1, e_p1, h⟩ := Option.bind_eq_some_iff.mp h
  refine Sm_callS K (eok_i (eo ek_M_hold (i := 3) rfl) rfl) cy_M_in st_M_in (lgm 815 (by decide +kernel) rfl) ⟨Nat.le_of_ble_eq_true rfl, Nat.le_of_ble_eq_true rfl⟩ (as := [.int x1, .int 0, .int 9]) (st := []) rfl rfl rfl (Nat.le_of_ble_eq_true rfl) ⟨Nat.le_of_ble_eq_true rfl, Nat.le_of_ble_eq_true rfl⟩ (cn_M_in e_p1) ?_
  refine Sm_eq (st1 := .int p1.1 :: []) (nc1 := 0) (ns1 := 0) rfl rfl rfl ?_
  refine Sm_if_eq K (eo ek_M_hold (i := 4) rfl) (fun c2 => ?_) (fun c2 => ?_)
  · rw [if_pos c2] at h
    exact Sm_le (leR_s (leR_n (leR_n leR_nil))) (s_M_hold_23 K hQ _ _ h)
  · rw [if_neg c2] at h
    refine Sm_run K ek_M_hold 5 2 rfl ?_
    refine Sm_ic_eq K (eo ek_M_hold (i := 7) rfl) (fun c3 => ?_) (fun c3 => ?_)
    · rw [if_pos c3] at h
      exact Sm_le (leR_s (leR_s (leR_s leR_nil))) (s_M_hold_30 K hQ _ _ _ _ h)
    · rw [if_neg c3] at h
      refine Sm_run K ek_M_hold 8 2 rfl ?_
      obtain ⟨o5, e_o5, h⟩ := Option.bind_eq_some_iff.mp h
      obtain ⟨p4, e_p4, h⟩ := Option.bind_eq_some_iff.mp h
      refine Sm_callV K (eok_i (eo ek_M_hold (i := 10) rfl) rfl) cy_M_isDeposit im_M_isDeposit se_M_isDeposit (lgm 863 (by decide +kernel) rfl) ⟨Nat.le_of_ble_eq_true rfl, Nat.le_of_ble_eq_true rfl⟩ (as := [.int x2]) (b := t) (st := []) (ob_e e_o5) (by decide) rfl rfl rfl rfl (Nat.le_of_ble_eq_true rfl) ⟨Nat.le_of_ble_eq_true rfl, Nat.le_of_ble_eq_true rfl⟩ (cn_M_isDeposit e_p4) ?_
      refine Sm_eq (st1 := .int p4.1 :: []) (nc1 := 0) (ns1 := 0) rfl rfl rfl ?_
      refine Sm_if_ne K (eo ek_M_hold (i := 11) rfl) (fun c6 => ?_) (fun c6 => ?_)
      · rw [if_neg c6] at h
        exact Sm_le (leR_s (leR_s (leR_s leR_nil))) (s_M_hold_30 K hQ _ _ _ _ h)
      · rw [if_pos c6] at h
        exact Sm_le (leR_s (leR_n (leR_n leR_nil))) (s_M_hold_23 K hQ _ _ h)
def F_M_hold (t : Nat) (x1 : Int32) (x2 : Int32) (w : A_W) : Option (Int32 × A_W) := F_M_hold_0 t x1 x2 w
theorem cn_M_hold {G : Gx} {t : Nat} {x1 : Int32} {x2 : Int32} {w : A_W} {res : Int32 × A_W} (h : F_M_hold t x1 x2 w = some res) : Cn G y_M_hold c_M_hold 3 (some .int) rm_M_hold [.ref t, .int x1, .int x2] w (some (.int res.1)) res.2 :=
  Cn_of (own := 4) cy_M_hold rfl rfl (Nat.le_of_ble_eq_true rfl) rfl (fun X K _ hQ => Sm_le (leR_s (leR_s (leR_s leR_nil))) (s_M_hold_0 K hQ _ _ _ _ h))
end
section
/-! EveningCloakModel.isUnder(II)Z -/
abbrev c_M_isUnder : ByteArray := prog_6_method_89_code
def y_M_isUnder : MethodName := ⟨"EveningCloakModel", "isUnder", "(II)Z"⟩
def rm_M_isUnder : Room := { frames := 0, cells := 0, slots := 0, locals := 0 }
theorem cy_M_isUnder : Cy y_M_isUnder c_M_isUnder 3 (some .boolean) 2 := ⟨lgm 1165 (by decide +kernel) rfl, lgm 73 (by decide +kernel) rfl, by decide +kernel, by decide +kernel⟩
theorem st_M_isUnder : Cond.static y_M_isUnder ∈ lg := lgm 1164 (by decide +kernel) rfl
def e_M_isUnder : List Ent := [
  (0, .iload_n 0, 1, 1, .null, 0, 0, 0),
  (1, .iconst 3, 1, 2, .int 3, 0, 0, 0),
  (2, .if_icmp .eq 8, 3, 10, .null, 0, 0, 0),
  (5, .iload_n 0, 1, 6, .null, 0, 0, 0),
  (6, .iconst 4, 1, 7, .int 4, 0, 0, 0),
  (7, .if_icmp .ne 7, 3, 14, .null, 0, 0, 0),
  (10, .iconst 1, 1, 11, .int 1, 0, 0, 0),
  (11, .goto 4, 3, 15, .null, 0, 0, 0),
  (14, .iconst 0, 1, 15, .int 0, 0, 0, 0),
  (15, .istore_n 2, 1, 16, .null, 0, 0, 0),
  (16, .iload_n 1, 1, 17, .null, 0, 0, 0),
  (17, .ifCond .eq 38, 3, 55, .null, 0, 0, 0),
  (20, .iload_n 1, 1, 21, .null, 0, 0, 0),
  (21, .iload_n 0, 1, 22, .null, 0, 0, 0),
  (22, .if_icmp .eq 33, 3, 55, .null, 0, 0, 0),
  (25, .iload_n 1, 1, 26, .null, 0, 0, 0),
  (26, .iconst 1, 1, 27, .int 1, 0, 0, 0),
  (27, .if_icmp .ne 7, 3, 34, .null, 0, 0, 0),
  (30, .iload_n 2, 1, 31, .null, 0, 0, 0),
  (31, .ifCond .ne 24, 3, 55, .null, 0, 0, 0),
  (34, .iload_n 1, 1, 35, .null, 0, 0, 0),
  (35, .iconst 3, 1, 36, .int 3, 0, 0, 0),
  (36, .if_icmp .ne 8, 3, 44, .null, 0, 0, 0),
  (39, .iload_n 0, 1, 40, .null, 0, 0, 0),
  (40, .iconst 4, 1, 41, .int 4, 0, 0, 0),
  (41, .if_icmp .eq 14, 3, 55, .null, 0, 0, 0),
  (44, .iload_n 1, 1, 45, .null, 0, 0, 0),
  (45, .iconst 2, 1, 46, .int 2, 0, 0, 0),
  (46, .if_icmp .ne 13, 3, 59, .null, 0, 0, 0),
  (49, .iload_n 0, 1, 50, .null, 0, 0, 0),
  (50, .bipush 6, 2, 52, .int 6, 0, 0, 0),
  (52, .if_icmp .ne 7, 3, 59, .null, 0, 0, 0),
  (55, .iconst 1, 1, 56, .int 1, 0, 0, 0),
  (56, .goto 4, 3, 60, .null, 0, 0, 0),
  (59, .iconst 0, 1, 60, .int 0, 0, 0, 0),
  (60, .ireturn, 1, 61, .null, 0, 0, 0)]
set_option maxRecDepth 100000 in
theorem ek_M_isUnder : e_M_isUnder.all (eok 4 c_M_isUnder) = true := by decide +kernel
def F_M_isUnder_60 (y0 : Int32) (w : A_W) : Option (Int32 × A_W) :=
  (bz y0).bind fun b1 =>
  some (b1, w)
def F_M_isUnder_55 (w : A_W) : Option (Int32 × A_W) :=
  F_M_isUnder_60 1 w
def F_M_isUnder_59 (w : A_W) : Option (Int32 × A_W) :=
  F_M_isUnder_60 0 w
def F_M_isUnder_44 (x0 : Int32) (x1 : Int32) (w : A_W) : Option (Int32 × A_W) :=
  if x1 = 2 then
    if x0 = 6 then
      F_M_isUnder_55 w
    else
      F_M_isUnder_59 w
  else
    F_M_isUnder_59 w
def F_M_isUnder_34 (x0 : Int32) (x1 : Int32) (w : A_W) : Option (Int32 × A_W) :=
  if x1 = 3 then
    if x0 = 4 then
      F_M_isUnder_55 w
    else
      F_M_isUnder_44 x0 x1 w
  else
    F_M_isUnder_44 x0 x1 w
def F_M_isUnder_15 (x0 : Int32) (x1 : Int32) (y0 : Int32) (w : A_W) : Option (Int32 × A_W) :=
  if x1 = 0 then
    F_M_isUnder_55 w
  else
    if x1 = x0 then
      F_M_isUnder_55 w
    else
      if x1 = 1 then
        if y0 = 0 then
          F_M_isUnder_34 x0 x1 w
        else
          F_M_isUnder_55 w
      else
        F_M_isUnder_34 x0 x1 w
def F_M_isUnder_10 (x0 : Int32) (x1 : Int32) (w : A_W) : Option (Int32 × A_W) :=
  F_M_isUnder_15 x0 x1 1 w
def F_M_isUnder_0 (x0 : Int32) (x1 : Int32) (w : A_W) : Option (Int32 × A_W) :=
  if x0 = 3 then
    F_M_isUnder_10 x0 x1 w
  else
    if x0 = 4 then
      F_M_isUnder_10 x0 x1 w
    else
      F_M_isUnder_15 x0 x1 0 w
set_option maxHeartbeats 4000000 in
set_option maxRecDepth 100000 in
theorem s_M_isUnder_60 {G : Gx} {X : Cx} {res : Int32 × A_W} (K : Ok G X 4 c_M_isUnder 3 (some .boolean) rm_M_isUnder) (hQ : QQ G X (some (.int res.1)) res.2 0 0) (y0 : Int32) (w : A_W) (h : F_M_isUnder_60 y0 w = some res) : Sm G X w 0 0 [none, none, none] [.int y0] 60 := by
  unfold F_M_isUnder_60 at h
  obtain ⟨b1, e_b1, h⟩ := Option.bind_eq_some_iff.mp h
  obtain rfl := Option.some.inj h
  exact Sm_retz K e_b1 hQ (eok_i (eo ek_M_isUnder (i := 35) rfl) rfl)
set_option maxHeartbeats 4000000 in
set_option maxRecDepth 100000 in
theorem s_M_isUnder_55 {G : Gx} {X : Cx} {res : Int32 × A_W} (K : Ok G X 4 c_M_isUnder 3 (some .boolean) rm_M_isUnder) (hQ : QQ G X (some (.int res.1)) res.2 0 0) (w : A_W) (h : F_M_isUnder_55 w = some res) : Sm G X w 0 0 [none, none, none] [] 55 := by
  unfold F_M_isUnder_55 at h
  refine Sm_run K ek_M_isUnder 32 2 rfl ?_
  exact Sm_le (leR_n (leR_n (leR_n leR_nil))) (s_M_isUnder_60 K hQ _ _ h)
set_option maxHeartbeats 4000000 in
set_option maxRecDepth 100000 in
theorem s_M_isUnder_59 {G : Gx} {X : Cx} {res : Int32 × A_W} (K : Ok G X 4 c_M_isUnder 3 (some .boolean) rm_M_isUnder) (hQ : QQ G X (some (.int res.1)) res.2 0 0) (w : A_W) (h : F_M_isUnder_59 w = some res) : Sm G X w 0 0 [none, none, none] [] 59 := by
  unfold F_M_isUnder_59 at h
  refine Sm_run K ek_M_isUnder 34 1 rfl ?_
  exact Sm_le (leR_n (leR_n (leR_n leR_nil))) (s_M_isUnder_60 K hQ _ _ h)
set_option maxHeartbeats 4000000 in
set_option maxRecDepth 100000 in
theorem s_M_isUnder_44 {G : Gx} {X : Cx} {res : Int32 × A_W} (K : Ok G X 4 c_M_isUnder 3 (some .boolean) rm_M_isUnder) (hQ : QQ G X (some (.int res.1)) res.2 0 0) (x0 : Int32) (x1 : Int32) (w : A_W) (h : F_M_isUnder_44 x0 x1 w = some res) : Sm G X w 0 0 [some (.int x0), some (.int x1), none] [] 44 := by
  unfold F_M_isUnder_44 at h
  refine Sm_run K ek_M_isUnder 26 2 rfl ?_
  refine Sm_ic_ne K (eo ek_M_isUnder (i := 28) rfl) (fun c1 => ?_) (fun c1 => ?_)
  · rw [if_neg c1] at h
    exact Sm_le (leR_n (leR_n (leR_n leR_nil))) (s_M_isUnder_59 K hQ _ h)
  · rw [if_pos c1] at h
    refine Sm_run K ek_M_isUnder 29 2 rfl ?_
    refine Sm_ic_ne K (eo ek_M_isUnder (i := 31) rfl) (fun c2 => ?_) (fun c2 => ?_)
    · rw [if_neg c2] at h
      exact Sm_le (leR_n (leR_n (leR_n leR_nil))) (s_M_isUnder_59 K hQ _ h)
    · rw [if_pos c2] at h
      exact Sm_le (leR_n (leR_n (leR_n leR_nil))) (s_M_isUnder_55 K hQ _ h)
set_option maxHeartbeats 4000000 in
set_option maxRecDepth 100000 in
theorem s_M_isUnder_34 {G : Gx} {X : Cx} {res : Int32 × A_W} (K : Ok G X 4 c_M_isUnder 3 (some .boolean) rm_M_isUnder) (hQ : QQ G X (some (.int res.1)) res.2 0 0) (x0 : Int32) (x1 : Int32) (w : A_W) (h : F_M_isUnder_34 x0 x1 w = some res) : Sm G X w 0 0 [some (.int x0), some (.int x1), none] [] 34 := by
  unfold F_M_isUnder_34 at h
  refine Sm_run K ek_M_isUnder 20 2 rfl ?_
  refine Sm_ic_ne K (eo ek_M_isUnder (i := 22) rfl) (fun c1 => ?_) (fun c1 => ?_)
  · rw [if_neg c1] at h
    exact Sm_le (leR_s (leR_s (leR_n leR_nil))) (s_M_isUnder_44 K hQ _ _ _ h)
  · rw [if_pos c1] at h
    refine Sm_run K ek_M_isUnder 23 2 rfl ?_
    refine Sm_ic_eq K (eo ek_M_isUnder (i := 25) rfl) (fun c2 => ?_) (fun c2 => ?_)
    · rw [if_pos c2] at h
      exact Sm_le (leR_n (leR_n (leR_n leR_nil))) (s_M_isUnder_55 K hQ _ h)
    · rw [if_neg c2] at h
      exact Sm_le (leR_s (leR_s (leR_n leR_nil))) (s_M_isUnder_44 K hQ _ _ _ h)
set_option maxHeartbeats 4000000 in
set_option maxRecDepth 100000 in
theorem s_M_isUnder_15 {G : Gx} {X : Cx} {res : Int32 × A_W} (K : Ok G X 4 c_M_isUnder 3 (some .boolean) rm_M_isUnder) (hQ : QQ G X (some (.int res.1)) res.2 0 0) (x0 : Int32) (x1 : Int32) (y0 : Int32) (w : A_W) (h : F_M_isUnder_15 x0 x1 y0 w = some res) : Sm G X w 0 0 [some (.int x0), some (.int x1), none] [.int y0] 15 := by
  unfold F_M_isUnder_15 at h
  refine Sm_run K ek_M_isUnder 9 2 rfl ?_
  refine Sm_if_eq K (eo ek_M_isUnder (i := 11) rfl) (fun c1 => ?_) (fun c1 => ?_)
  · rw [if_pos c1] at h
    exact Sm_le (leR_n (leR_n (leR_n leR_nil))) (s_M_isUnder_55 K hQ _ h)
  · rw [if_neg c1] at h
    refine Sm_run K ek_M_isUnder 12 2 rfl ?_
    refine Sm_ic_eq K (eo ek_M_isUnder (i := 14) rfl) (fun c2 => ?_) (fun c2 => ?_)
    · rw [if_pos c2] at h
      exact Sm_le (leR_n (leR_n (leR_n leR_nil))) (s_M_isUnder_55 K hQ _ h)
    · rw [if_neg c2] at h
      refine Sm_run K ek_M_isUnder 15 2 rfl ?_
      refine Sm_ic_ne K (eo ek_M_isUnder (i := 17) rfl) (fun c3 => ?_) (fun c3 => ?_)
      · rw [if_neg c3] at h
        exact Sm_le (leR_s (leR_s (leR_n leR_nil))) (s_M_isUnder_34 K hQ _ _ _ h)
      · rw [if_pos c3] at h
        refine Sm_run K ek_M_isUnder 18 1 rfl ?_
        refine Sm_if_ne K (eo ek_M_isUnder (i := 19) rfl) (fun c4 => ?_) (fun c4 => ?_)
        · rw [if_neg c4] at h
          exact Sm_le (leR_n (leR_n (leR_n leR_nil))) (s_M_isUnder_55 K hQ _ h)
        · rw [if_pos c4] at h
          exact Sm_le (leR_s (leR_s (leR_n leR_nil))) (s_M_isUnder_34 K hQ _ _ _ h)
set_option maxHeartbeats 4000000 in
set_option maxRecDepth 100000 in
theorem s_M_isUnder_10 {G : Gx} {X : Cx} {res : Int32 × A_W} (K : Ok G X 4 c_M_isUnder 3 (some .boolean) rm_M_isUnder) (hQ : QQ G X (some (.int res.1)) res.2 0 0) (x0 : Int32) (x1 : Int32) (w : A_W) (h : F_M_isUnder_10 x0 x1 w = some res) : Sm G X w 0 0 [some (.int x0), some (.int x1), none] [] 10 := by
  unfold F_M_isUnder_10 at h
  refine Sm_run K ek_M_isUnder 6 2 rfl ?_
  exact Sm_le (leR_s (leR_s (leR_n leR_nil))) (s_M_isUnder_15 K hQ _ _ _ _ h)
set_option maxHeartbeats 4000000 in
set_option maxRecDepth 100000 in
theorem s_M_isUnder_0 {G : Gx} {X : Cx} {res : Int32 × A_W} (K : Ok G X 4 c_M_isUnder 3 (some .boolean) rm_M_isUnder) (hQ : QQ G X (some (.int res.1)) res.2 0 0) (x0 : Int32) (x1 : Int32) (w : A_W) (h : F_M_isUnder_0 x0 x1 w = some res) : Sm G X w 0 0 [some (.int x0), some (.int x1), none] [] 0 := by
  unfold F_M_isUnder_0 at h
  refine Sm_run K ek_M_isUnder 0 2 rfl ?_
  refine Sm_ic_eq K (eo ek_M_isUnder (i := 2) rfl) (fun c1 => ?_) (fun c1 => ?_)
  · rw [if_pos c1] at h
    exact Sm_le (leR_s (leR_s (leR_n leR_nil))) (s_M_isUnder_10 K hQ _ _ _ h)
  · rw [if_neg c1] at h
    refine Sm_run K ek_M_isUnder 3 2 rfl ?_
    refine Sm_ic_ne K (eo ek_M_isUnder (i := 5) rfl) (fun c2 => ?_) (fun c2 => ?_)
    · rw [if_neg c2] at h
      refine Sm_run K ek_M_isUnder 8 1 rfl ?_
      exact Sm_le (leR_s (leR_s (leR_n leR_nil))) (s_M_isUnder_15 K hQ _ _ _ _ h)
    · rw [if_pos c2] at h
      exact Sm_le (leR_s (leR_s (leR_n leR_nil))) (s_M_isUnder_10 K hQ _ _ _ h)
def F_M_isUnder (x0 : Int32) (x1 : Int32) (w : A_W) : Option (Int32 × A_W) := F_M_isUnder_0 x0 x1 w
theorem cn_M_isUnder {G : Gx} {x0 : Int32} {x1 : Int32} {w : A_W} {res : Int32 × A_W} (h : F_M_isUnder x0 x1 w = some res) : Cn G y_M_isUnder c_M_isUnder 3 (some .boolean) rm_M_isUnder [.int x0, .int x1] w (some (.int res.1)) res.2 :=
  Cn_of (own := 4) cy_M_isUnder rfl rfl (Nat.le_of_ble_eq_true rfl) rfl (fun X K _ hQ => Sm_le (leR_s (leR_s (leR_n leR_nil))) (s_M_isUnder_0 K hQ _ _ _ h))
/-! EveningCloakModel.as(II)I -/
abbrev c_M_as : ByteArray := prog_6_method_90_code
def y_M_as : MethodName := ⟨"EveningCloakModel", "as", "(II)I"⟩
def rm_M_as : Room := { frames := 1, cells := 0, slots := 0, locals := 22 }
theorem cy_M_as : Cy y_M_as c_M_as 4 (some .int) 2 := ⟨lgm 1162 (by decide +kernel) rfl, lgm 73 (by decide +kernel) rfl, by decide +kernel, by decide +kernel⟩
theorem im_M_as : Cond.instanceMethod y_M_as ∈ lg := lgm 1160 (by decide +kernel) rfl
theorem se_M_as : Cond.selects y_M_as.cls y_M_as y_M_as ∈ lg := lgm 1161 (by decide +kernel) rfl
def e_M_as : List Ent := [
  (0, .iload_n 1, 1, 1, .null, 0, 0, 0),
  (1, .iconst 0, 1, 2, .int 0, 0, 0, 0),
  (2, .bipush 9, 2, 4, .int 9, 0, 0, 0),
  (4, .invokestatic 40, 3, 7, .null, 0, 0, 0),
  (7, .ifCond .eq 13, 3, 20, .null, 0, 0, 0),
  (10, .iload_n 2, 1, 11, .null, 0, 0, 0),
  (11, .iconst 0, 1, 12, .int 0, 0, 0, 0),
  (12, .bipush 6, 2, 14, .int 6, 0, 0, 0),
  (14, .invokestatic 40, 3, 17, .null, 0, 0, 0),
  (17, .ifCond .ne 10, 3, 27, .null, 0, 0, 0),
  (20, .aload_n 0, 1, 21, .null, 0, 0, 0),
  (21, .ldc 34, 2, 23, .int (-1000001), 0, 0, 825),
  (23, .invokevirtual 36, 3, 26, .null, 0, 0, 0),
  (26, .ireturn, 1, 27, .null, 0, 0, 0),
  (27, .aload_n 0, 1, 28, .null, 0, 0, 0),
  (28, .getfield 9, 3, 31, .null, 4, 0, 762),
  (31, .bipush 77, 2, 33, .int 77, 0, 0, 0),
  (33, .iload_n 1, 1, 34, .null, 0, 0, 0),
  (34, .iadd, 1, 35, .null, 0, 0, 0),
  (35, .iaload, 1, 36, .null, 0, 0, 0),
  (36, .istore_n 3, 1, 37, .null, 0, 0, 0),
  (37, .iload_n 3, 1, 38, .null, 0, 0, 0),
  (38, .ifCond .ge 10, 3, 48, .null, 0, 0, 0),
  (41, .aload_n 0, 1, 42, .null, 0, 0, 0),
  (42, .ldc 168, 2, 44, .int (-1000006), 0, 0, 1065),
  (44, .invokevirtual 36, 3, 47, .null, 0, 0, 0),
  (47, .ireturn, 1, 48, .null, 0, 0, 0),
  (48, .aload_n 0, 1, 49, .null, 0, 0, 0),
  (49, .iload_n 3, 1, 50, .null, 0, 0, 0),
  (50, .iconst 0, 1, 51, .int 0, 0, 0, 0),
  (51, .invokevirtual 44, 3, 54, .null, 0, 0, 0),
  (54, .iload_n 2, 1, 55, .null, 0, 0, 0),
  (55, .invokestatic 245, 3, 58, .null, 0, 0, 0),
  (58, .ifCond .eq 7, 3, 65, .null, 0, 0, 0),
  (61, .iload_n 3, 1, 62, .null, 0, 0, 0),
  (62, .goto 9, 3, 71, .null, 0, 0, 0),
  (65, .aload_n 0, 1, 66, .null, 0, 0, 0),
  (66, .ldc 248, 2, 68, .int (-1000003), 0, 0, 1166),
  (68, .invokevirtual 36, 3, 71, .null, 0, 0, 0),
  (71, .ireturn, 1, 72, .null, 0, 0, 0)]
set_option maxRecDepth 100000 in
theorem ek_M_as : e_M_as.all (eok 4 c_M_as) = true := by decide +kernel
def F_M_as_20 (t : Nat) (w : A_W) : Option (Int32 × A_W) :=
  (ob w t 4).bind fun o2 =>
  (F_M_finds t (-1000001) w).bind fun p1 =>
  some (p1.1, p1.2)
def F_M_as_71 (y0 : Int32) (w : A_W) : Option (Int32 × A_W) :=
  some (y0, w)
def F_M_as_0 (t : Nat) (x1 : Int32) (x2 : Int32) (w : A_W) : Option (Int32 × A_W) :=
  (F_M_in x1 0 9 w).bind fun p1 =>
  if p1.1 = 0 then
    F_M_as_20 t p1.2
  else
    (F_M_in x2 0 6 p1.2).bind fun p3 =>
    if p3.1 = 0 then
      F_M_as_20 t p3.2
    else
      (gr p3.2 t 4 0).bind fun a5 =>
      (rd p3.2 a5 (77 + x1)).bind fun v6 =>
      if 0 ≤ v6 then
        (ob p3.2 t 4).bind fun o9 =>
        (F_M_it t v6 0 p3.2).bind fun p8 =>
        (F_M_isUnder p8.1 x2 p8.2).bind fun p10 =>
        if p10.1 = 0 then
          (ob p10.2 t 4).bind fun o13 =>
          (F_M_finds t (-1000003) p10.2).bind fun p12 =>
          F_M_as_71 p12.1 p12.2
        else
          F_M_as_71 v6 p10.2
      else
        (ob p3.2 t 4).bind fun o15 =>
        (F_M_finds t (-1000006) p3.2).bind fun p14 =>
        some (p14.1, p14.2)
set_option maxHeartbeats 4000000 in
set_option maxRecDepth 100000 in
theorem s_M_as_20 {G : Gx} {X : Cx} {res : Int32 × A_W} (K : Ok G X 4 c_M_as 4 (some .int) rm_M_as) (hQ : QQ G X (some (.int res.1)) res.2 0 0) (t : Nat) (w : A_W) (h : F_M_as_20 t w = some res) : Sm G X w 0 0 [some (.ref t), none, none, none] [] 20 := by
  unfold F_M_as_20 at h
  refine Sm_run K ek_M_as 10 2 rfl ?_
  obtain ⟨o2, e_o2, h⟩ := Option.bind_eq_some_iff.mp h
  obtain ⟨p1, e_p1, h⟩ := Option.bind_eq_some_iff.mp h
  refine Sm_callV K (eok_i (eo ek_M_as (i := 12) rfl) rfl) cy_M_finds im_M_finds se_M_finds (lgm 826 (by decide +kernel) rfl) ⟨Nat.le_of_ble_eq_true rfl, Nat.le_of_ble_eq_true rfl⟩ (as := [.int (-1000001)]) (b := t) (st := []) (ob_e e_o2) (by decide) rfl rfl rfl rfl (Nat.le_of_ble_eq_true rfl) ⟨Nat.le_of_ble_eq_true rfl, Nat.le_of_ble_eq_true rfl⟩ (cn_M_finds e_p1) ?_
  refine Sm_eq (st1 := .int p1.1 :: []) (nc1 := 0) (ns1 := 0) rfl rfl rfl ?_
  obtain rfl := Option.some.inj h
  exact Sm_reti K hQ (eok_i (eo ek_M_as (i := 13) rfl) rfl)
set_option maxHeartbeats 4000000 in
set_option maxRecDepth 100000 in
theorem s_M_as_71 {G : Gx} {X : Cx} {res : Int32 × A_W} (K : Ok G X 4 c_M_as 4 (some .int) rm_M_as) (hQ : QQ G X (some (.int res.1)) res.2 0 0) (y0 : Int32) (w : A_W) (h : F_M_as_71 y0 w = some res) : Sm G X w 0 0 [none, none, none, none] [.int y0] 71 := by
  unfold F_M_as_71 at h
  obtain rfl := Option.some.inj h
  exact Sm_reti K hQ (eok_i (eo ek_M_as (i := 39) rfl) rfl)
set_option maxHeartbeats 4000000 in
set_option maxRecDepth 100000 in
theorem s_M_as_0 {G : Gx} {X : Cx} {res : Int32 × A_W} (K : Ok G X 4 c_M_as 4 (some .int) rm_M_as) (hQ : QQ G X (some (.int res.1)) res.2 0 0) (t : Nat) (x1 : Int32) (x2 : Int32) (w : A_W) (h : F_M_as_0 t x1 x2 w = some res) : Sm G X w 0 0 [some (.ref t), some (.int x1), some (.int x2), none] [] 0 := by
  unfold F_M_as_0 at h
  refine Sm_run K ek_M_as 0 3 rfl ?_
  obtain ⟨p1, e_p1, h⟩ := Option.bind_eq_some_iff.mp h
  refine Sm_callS K (eok_i (eo ek_M_as (i := 3) rfl) rfl) cy_M_in st_M_in (lgm 815 (by decide +kernel) rfl) ⟨Nat.le_of_ble_eq_true rfl, Nat.le_of_ble_eq_true rfl⟩ (as := [.int x1, .int 0, .int 9]) (st := []) rfl rfl rfl (Nat.le_of_ble_eq_true rfl) ⟨Nat.le_of_ble_eq_true rfl, Nat.le_of_ble_eq_true rfl⟩ (cn_M_in e_p1) ?_
  refine Sm_eq (st1 := .int p1.1 :: []) (nc1 := 0) (ns1 := 0) rfl rfl rfl ?_
  refine Sm_if_eq K (eo ek_M_as (i := 4) rfl) (fun c2 => ?_) (fun c2 => ?_)
  · rw [if_pos c2] at h
    exact Sm_le (leR_s (leR_n (leR_n (leR_n leR_nil)))) (s_M_as_20 K hQ _ _ h)
  · rw [if_neg c2] at h
    refine Sm_run K ek_M_as 5 3 rfl ?_
    obtain ⟨p3, e_p3, h⟩ := Option.bind_eq_some_iff.mp h
    refine Sm_callS K (eok_i (eo ek_M_as (i := 8) rfl) rfl) cy_M_in st_M_in (lgm 815 (by decide +kernel) rfl) ⟨Nat.le_of_ble_eq_true rfl, Nat.le_of_ble_eq_true rfl⟩ (as := [.int x2, .int 0, .int 6]) (st := []) rfl rfl rfl (Nat.le_of_ble_eq_true rfl) ⟨Nat.le_of_ble_eq_true rfl, Nat.le_of_ble_eq_true rfl⟩ (cn_M_in e_p3) ?_
    refine Sm_eq (st1 := .int p3.1 :: []) (nc1 := 0) (ns1 := 0) rfl rfl rfl ?_
    refine Sm_if_ne K (eo ek_M_as (i := 9) rfl) (fun c4 => ?_) (fun c4 => ?_)
    · rw [if_neg c4] at h
      refine Sm_run K ek_M_as 14 1 rfl ?_
      obtain ⟨a5, e_a5, h⟩ := Option.bind_eq_some_iff.mp h
      refine Sm_gr K (eo ek_M_as (i := 15) rfl) e_a5 ?_
      refine Sm_run K ek_M_as 16 3 rfl ?_
      obtain ⟨v6, e_v6, h⟩ := Option.bind_eq_some_iff.mp h
      refine Sm_rd K (eok_i (eo ek_M_as (i := 19) rfl) rfl) e_v6 ?_
      refine Sm_run K ek_M_as 20 2 rfl ?_
      refine Sm_if_ge K (eo ek_M_as (i := 22) rfl) (fun c7 => ?_) (fun c7 => ?_)
      · rw [if_pos c7] at h
        refine Sm_run K ek_M_as 27 3 rfl ?_
        obtain ⟨o9, e_o9, h⟩ := Option.bind_eq_some_iff.mp h
        obtain ⟨p8, e_p8, h⟩ := Option.bind_eq_some_iff.mp h
        refine Sm_callV K (eok_i (eo ek_M_as (i := 30) rfl) rfl) cy_M_it im_M_it se_M_it (lgm 871 (by decide +kernel) rfl) ⟨Nat.le_of_ble_eq_true rfl, Nat.le_of_ble_eq_true rfl⟩ (as := [.int v6, .int 0]) (b := t) (st := []) (ob_e e_o9) (by decide) rfl rfl rfl rfl (Nat.le_of_ble_eq_true rfl) ⟨Nat.le_of_ble_eq_true rfl, Nat.le_of_ble_eq_true rfl⟩ (cn_M_it e_p8) ?_
        refine Sm_eq (st1 := .int p8.1 :: []) (nc1 := 0) (ns1 := 0) rfl rfl rfl ?_
        refine Sm_run K ek_M_as 31 1 rfl ?_
        obtain ⟨p10, e_p10, h⟩ := Option.bind_eq_some_iff.mp h
        refine Sm_callS K (eok_i (eo ek_M_as (i := 32) rfl) rfl) cy_M_isUnder st_M_isUnder (lgm 1163 (by decide +kernel) rfl) ⟨Nat.le_of_ble_eq_true rfl, Nat.le_of_ble_eq_true rfl⟩ (as := [.int p8.1, .int x2]) (st := []) rfl rfl rfl (Nat.le_of_ble_eq_true rfl) ⟨Nat.le_of_ble_eq_true rfl, Nat.le_of_ble_eq_true rfl⟩ (cn_M_isUnder e_p10) ?_
        refine Sm_eq (st1 := .int p10.1 :: []) (nc1 := 0) (ns1 := 0) rfl rfl rfl ?_
        refine Sm_if_eq K (eo ek_M_as (i := 33) rfl) (fun c11 => ?_) (fun c11 => ?_)
        · rw [if_pos c11] at h
          refine Sm_run K ek_M_as 36 2 rfl ?_
          obtain ⟨o13, e_o13, h⟩ := Option.bind_eq_some_iff.mp h
          obtain ⟨p12, e_p12, h⟩ := Option.bind_eq_some_iff.mp h
          refine Sm_callV K (eok_i (eo ek_M_as (i := 38) rfl) rfl) cy_M_finds im_M_finds se_M_finds (lgm 826 (by decide +kernel) rfl) ⟨Nat.le_of_ble_eq_true rfl, Nat.le_of_ble_eq_true rfl⟩ (as := [.int (-1000003)]) (b := t) (st := []) (ob_e e_o13) (by decide) rfl rfl rfl rfl (Nat.le_of_ble_eq_true rfl) ⟨Nat.le_of_ble_eq_true rfl, Nat.le_of_ble_eq_true rfl⟩ (cn_M_finds e_p12) ?_
          refine Sm_eq (st1 := .int p12.1 :: []) (nc1 := 0) (ns1 := 0) rfl rfl rfl ?_
          exact Sm_le (leR_n (leR_n (leR_n (leR_n leR_nil)))) (s_M_as_71 K hQ _ _ h)
        · rw [if_neg c11] at h
          refine Sm_run K ek_M_as 34 2 rfl ?_
          exact Sm_le (leR_n (leR_n (leR_n (leR_n leR_nil)))) (s_M_as_71 K hQ _ _ h)
      · rw [if_neg c7] at h
        refine Sm_run K ek_M_as 23 2 rfl ?_
        obtain ⟨o15, e_o15, h⟩ := Option.bind_eq_some_iff.mp h
        obtain ⟨p14, e_p14, h⟩ := Option.bind_eq_some_iff.mp h
        refine Sm_callV K (eok_i (eo ek_M_as (i := 25) rfl) rfl) cy_M_finds im_M_finds se_M_finds (lgm 826 (by decide +kernel) rfl) ⟨Nat.le_of_ble_eq_true rfl, Nat.le_of_ble_eq_true rfl⟩ (as := [.int (-1000006)]) (b := t) (st := []) (ob_e e_o15) (by decide) rfl rfl rfl rfl (Nat.le_of_ble_eq_true rfl) ⟨Nat.le_of_ble_eq_true rfl, Nat.le_of_ble_eq_true rfl⟩ (cn_M_finds e_p14) ?_
        refine Sm_eq (st1 := .int p14.1 :: []) (nc1 := 0) (ns1 := 0) rfl rfl rfl ?_
        obtain rfl := Option.some.inj h
        exact Sm_reti K hQ (eok_i (eo ek_M_as (i := 26) rfl) rfl)
    · rw [if_pos c4] at h
      exact Sm_le (leR_s (leR_n (leR_n (leR_n leR_nil)))) (s_M_as_20 K hQ _ _ h)
def F_M_as (t : Nat) (x1 : Int32) (x2 : Int32) (w : A_W) : Option (Int32 × A_W) := F_M_as_0 t x1 x2 w
theorem cn_M_as {G : Gx} {t : Nat} {x1 : Int32} {x2 : Int32} {w : A_W} {res : Int32 × A_W} (h : F_M_as t x1 x2 w = some res) : Cn G y_M_as c_M_as 4 (some .int) rm_M_as [.ref t, .int x1, .int x2] w (some (.int res.1)) res.2 :=
  Cn_of (own := 4) cy_M_as rfl rfl (Nat.le_of_ble_eq_true rfl) rfl (fun X K _ hQ => Sm_le (leR_s (leR_s (leR_s (leR_n leR_nil)))) (s_M_as_0 K hQ _ _ _ _ h))
/-! EveningCloakModel.sheet(III)I -/
abbrev c_M_sheet : ByteArray := prog_6_method_91_code
def y_M_sheet : MethodName := ⟨"EveningCloakModel", "sheet", "(III)I"⟩
def rm_M_sheet : Room := { frames := 2, cells := 0, slots := 0, locals := 42 }
theorem cy_M_sheet : Cy y_M_sheet c_M_sheet 5 (some .int) 3 := ⟨lgm 1170 (by decide +kernel) rfl, lgm 73 (by decide +kernel) rfl, by decide +kernel, by decide +kernel⟩
theorem im_M_sheet : Cond.instanceMethod y_M_sheet ∈ lg := lgm 1168 (by decide +kernel) rfl
theorem se_M_sheet : Cond.selects y_M_sheet.cls y_M_sheet y_M_sheet ∈ lg := lgm 1169 (by decide +kernel) rfl
def e_M_sheet : List Ent := [
  (0, .iload_n 1, 1, 1, .null, 0, 0, 0),
  (1, .invokestatic 165, 3, 4, .null, 0, 0, 0),
  (4, .ifCond .eq 25, 3, 29, .null, 0, 0, 0),
  (7, .iload_n 2, 1, 8, .null, 0, 0, 0),
  (8, .ifCond .eq 28, 3, 36, .null, 0, 0, 0),
  (11, .iload_n 2, 1, 12, .null, 0, 0, 0),
  (12, .bipush 8, 2, 14, .int 8, 0, 0, 0),
  (14, .if_icmp .eq 22, 3, 36, .null, 0, 0, 0),
  (17, .iload_n 2, 1, 18, .null, 0, 0, 0),
  (18, .bipush 16, 2, 20, .int 16, 0, 0, 0),
  (20, .if_icmp .eq 16, 3, 36, .null, 0, 0, 0),
  (23, .iload_n 2, 1, 24, .null, 0, 0, 0),
  (24, .bipush 32, 2, 26, .int 32, 0, 0, 0),
  (26, .if_icmp .eq 10, 3, 36, .null, 0, 0, 0),
  (29, .aload_n 0, 1, 30, .null, 0, 0, 0),
  (30, .ldc 34, 2, 32, .int (-1000001), 0, 0, 825),
  (32, .invokevirtual 36, 3, 35, .null, 0, 0, 0),
  (35, .ireturn, 1, 36, .null, 0, 0, 0),
  (36, .iload_n 3, 1, 37, .null, 0, 0, 0),
  (37, .ifCond .ge 10, 3, 47, .null, 0, 0, 0),
  (40, .aload_n 0, 1, 41, .null, 0, 0, 0),
  (41, .ldc 249, 2, 43, .int (-1000007), 0, 0, 1171),
  (43, .invokevirtual 36, 3, 46, .null, 0, 0, 0),
  (46, .ireturn, 1, 47, .null, 0, 0, 0),
  (47, .iload_n 3, 1, 48, .null, 0, 0, 0),
  (48, .bipush 40, 2, 50, .int 40, 0, 0, 0),
  (50, .if_icmp .le 10, 3, 60, .null, 0, 0, 0),
  (53, .aload_n 0, 1, 54, .null, 0, 0, 0),
  (54, .ldc 34, 2, 56, .int (-1000001), 0, 0, 825),
  (56, .invokevirtual 36, 3, 59, .null, 0, 0, 0),
  (59, .ireturn, 1, 60, .null, 0, 0, 0),
  (60, .aload_n 0, 1, 61, .null, 0, 0, 0),
  (61, .getfield 22, 3, 64, .null, 4, 5, 767),
  (64, .iload_n 1, 1, 65, .null, 0, 0, 0),
  (65, .iload_n 2, 1, 66, .null, 0, 0, 0),
  (66, .iastore, 1, 67, .null, 0, 0, 0),
  (67, .aload_n 0, 1, 68, .null, 0, 0, 0),
  (68, .getfield 25, 3, 71, .null, 4, 6, 768),
  (71, .iload_n 1, 1, 72, .null, 0, 0, 0),
  (72, .iload_n 2, 1, 73, .null, 0, 0, 0),
  (73, .ifCond .ne 7, 3, 80, .null, 0, 0, 0),
  (76, .iconst 0, 1, 77, .int 0, 0, 0, 0),
  (77, .goto 4, 3, 81, .null, 0, 0, 0),
  (80, .iload_n 3, 1, 81, .null, 0, 0, 0),
  (81, .iastore, 1, 82, .null, 0, 0, 0),
  (82, .iconst 0, 1, 83, .int 0, 0, 0, 0),
  (83, .istore 4, 2, 85, .null, 0, 0, 0),
  (85, .iload 4, 2, 87, .null, 0, 0, 0),
  (87, .bipush 40, 2, 89, .int 40, 0, 0, 0),
  (89, .if_icmp .ge 22, 3, 111, .null, 0, 0, 0),
  (92, .aload_n 0, 1, 93, .null, 0, 0, 0),
  (93, .getfield 28, 3, 96, .null, 4, 7, 769),
  (96, .bipush 40, 2, 98, .int 40, 0, 0, 0),
  (98, .iload_n 1, 1, 99, .null, 0, 0, 0),
  (99, .imul, 1, 100, .null, 0, 0, 0),
  (100, .iload 4, 2, 102, .null, 0, 0, 0),
  (102, .iadd, 1, 103, .null, 0, 0, 0),
  (103, .iconst 0, 1, 104, .int 0, 0, 0, 0),
  (104, .iastore, 1, 105, .null, 0, 0, 0),
  (105, .iinc 4 1, 3, 108, .int 1, 0, 0, 0),
  (108, .goto (-23), 3, 85, .null, 0, 0, 0),
  (111, .aload_n 0, 1, 112, .null, 0, 0, 0),
  (112, .getfield 25, 3, 115, .null, 4, 6, 768),
  (115, .iload_n 1, 1, 116, .null, 0, 0, 0),
  (116, .iaload, 1, 117, .null, 0, 0, 0),
  (117, .ireturn, 1, 118, .null, 0, 0, 0)]
set_option maxRecDepth 100000 in
theorem ek_M_sheet : e_M_sheet.all (eok 4 c_M_sheet) = true := by decide +kernel
def F_M_sheet_29 (t : Nat) (w : A_W) : Option (Int32 × A_W) :=
  (ob w t 4).bind fun o2 =>
  (F_M_finds t (-1000001) w).bind fun p1 =>
  some (p1.1, p1.2)
def F_M_sheet_85 : Nat → Nat → Int32 → Int32 → A_W → Option (Int32 × A_W)
  | 0, _, _, _, _ => none
  | n + 1, t, x1, x4, w =>
    if 40 ≤ x4 then
      (gr w t 4 6).bind fun a2 =>
      (rd w a2 x1).bind fun v3 =>
      some (v3, w)
    else
      (gr w t 4 7).bind fun a4 =>
      (wr w a4 ((40 * x1) + x4) 0).bind fun w5 =>
      F_M_sheet_85 n t x1 (x4 + 1) w5
def F_M_sheet_81 (t : Nat) (x1 : Int32) (y0 : Nat) (y1 : Int32) (y2 : Int32) (w : A_W) : Option (Int32 × A_W) :=
  (wr w y0 y1 y2).bind fun w1 =>
  F_M_sheet_85 FU t x1 0 w1
def F_M_sheet_36 (t : Nat) (x1 : Int32) (x2 : Int32) (x3 : Int32) (w : A_W) : Option (Int32 × A_W) :=
  if 0 ≤ x3 then
    if x3 ≤ 40 then
      (gr w t 4 5).bind fun a3 =>
      (wr w a3 x1 x2).bind fun w4 =>
      (gr w4 t 4 6).bind fun a5 =>
      if x2 = 0 then
        F_M_sheet_81 t x1 a5 x1 0 w4
      else
        F_M_sheet_81 t x1 a5 x1 x3 w4
    else
      (ob w t 4).bind fun o8 =>
      (F_M_finds t (-1000001) w).bind fun p7 =>
      some (p7.1, p7.2)
  else
    (ob w t 4).bind fun o10 =>
    (F_M_finds t (-1000007) w).bind fun p9 =>
    some (p9.1, p9.2)
def F_M_sheet_0 (t : Nat) (x1 : Int32) (x2 : Int32) (x3 : Int32) (w : A_W) : Option (Int32 × A_W) :=
  (F_M_isSheet x1 w).bind fun p1 =>
  if p1.1 = 0 then
    F_M_sheet_29 t p1.2
  else
    if x2 = 0 then
      F_M_sheet_36 t x1 x2 x3 p1.2
    else
      if x2 = 8 then
        F_M_sheet_36 t x1 x2 x3 p1.2
      else
        if x2 = 16 then
          F_M_sheet_36 t x1 x2 x3 p1.2
        else
          if x2 = 32 then
            F_M_sheet_36 t x1 x2 x3 p1.2
          else
            F_M_sheet_29 t p1.2
set_option maxHeartbeats 4000000 in
set_option maxRecDepth 100000 in
theorem s_M_sheet_29 {G : Gx} {X : Cx} {res : Int32 × A_W} (K : Ok G X 4 c_M_sheet 5 (some .int) rm_M_sheet) (hQ : QQ G X (some (.int res.1)) res.2 0 0) (t : Nat) (w : A_W) (h : F_M_sheet_29 t w = some res) : Sm G X w 0 0 [some (.ref t), none, none, none, none] [] 29 := by
  unfold F_M_sheet_29 at h
  refine Sm_run K ek_M_sheet 14 2 rfl ?_
  obtain ⟨o2, e_o2, h⟩ := Option.bind_eq_some_iff.mp h
  obtain ⟨p1, e_p1, h⟩ := Option.bind_eq_some_iff.mp h
  refine Sm_callV K (eok_i (eo ek_M_sheet (i := 16) rfl) rfl) cy_M_finds im_M_finds se_M_finds (lgm 826 (by decide +kernel) rfl) ⟨Nat.le_of_ble_eq_true rfl, Nat.le_of_ble_eq_true rfl⟩ (as := [.int (-1000001)]) (b := t) (st := []) (ob_e e_o2) (by decide) rfl rfl rfl rfl (Nat.le_of_ble_eq_true rfl) ⟨Nat.le_of_ble_eq_true rfl, Nat.le_of_ble_eq_true rfl⟩ (cn_M_finds e_p1) ?_
  refine Sm_eq (st1 := .int p1.1 :: []) (nc1 := 0) (ns1 := 0) rfl rfl rfl ?_
  obtain rfl := Option.some.inj h
  exact Sm_reti K hQ (eok_i (eo ek_M_sheet (i := 17) rfl) rfl)
set_option maxHeartbeats 4000000 in
set_option maxRecDepth 100000 in
theorem s_M_sheet_85 {G : Gx} {X : Cx} {res : Int32 × A_W} (K : Ok G X 4 c_M_sheet 5 (some .int) rm_M_sheet) (hQ : QQ G X (some (.int res.1)) res.2 0 0) : ∀ (n : Nat) (t : Nat) (x1 : Int32) (x4 : Int32) (w : A_W), F_M_sheet_85 n t x1 x4 w = some res → Sm G X w 0 0 [some (.ref t), some (.int x1), none, none, some (.int x4)] [] 85 := by
  intro n
  induction n with
  | zero => intro t x1 x4 w h; cases h
  | succ n ih =>
    intro t x1 x4 w h
    rw [F_M_sheet_85] at h
    refine Sm_run K ek_M_sheet 47 2 rfl ?_
    refine Sm_ic_ge K (eo ek_M_sheet (i := 49) rfl) (fun c1 => ?_) (fun c1 => ?_)
    · rw [if_pos c1] at h
      refine Sm_run K ek_M_sheet 61 1 rfl ?_
      obtain ⟨a2, e_a2, h⟩ := Option.bind_eq_some_iff.mp h
      refine Sm_gr K (eo ek_M_sheet (i := 62) rfl) e_a2 ?_
      refine Sm_run K ek_M_sheet 63 1 rfl ?_
      obtain ⟨v3, e_v3, h⟩ := Option.bind_eq_some_iff.mp h
      refine Sm_rd K (eok_i (eo ek_M_sheet (i := 64) rfl) rfl) e_v3 ?_
      obtain rfl := Option.some.inj h
      exact Sm_reti K hQ (eok_i (eo ek_M_sheet (i := 65) rfl) rfl)
    · rw [if_neg c1] at h
      refine Sm_run K ek_M_sheet 50 1 rfl ?_
      obtain ⟨a4, e_a4, h⟩ := Option.bind_eq_some_iff.mp h
      refine Sm_gr K (eo ek_M_sheet (i := 51) rfl) e_a4 ?_
      refine Sm_run K ek_M_sheet 52 6 rfl ?_
      obtain ⟨w5, e_w5, h⟩ := Option.bind_eq_some_iff.mp h
      refine Sm_wr K (eok_i (eo ek_M_sheet (i := 58) rfl) rfl) e_w5 ?_
      refine Sm_run K ek_M_sheet 59 2 rfl ?_
      exact Sm_le (leR_s (leR_s (leR_n (leR_n (leR_s leR_nil))))) (ih _ _ _ _ h)
set_option maxHeartbeats 4000000 in
set_option maxRecDepth 100000 in
theorem s_M_sheet_81 {G : Gx} {X : Cx} {res : Int32 × A_W} (K : Ok G X 4 c_M_sheet 5 (some .int) rm_M_sheet) (hQ : QQ G X (some (.int res.1)) res.2 0 0) (t : Nat) (x1 : Int32) (y0 : Nat) (y1 : Int32) (y2 : Int32) (w : A_W) (h : F_M_sheet_81 t x1 y0 y1 y2 w = some res) : Sm G X w 0 0 [some (.ref t), some (.int x1), none, none, none] [.int y2, .int y1, .ref y0] 81 := by
  unfold F_M_sheet_81 at h
  obtain ⟨w1, e_w1, h⟩ := Option.bind_eq_some_iff.mp h
  refine Sm_wr K (eok_i (eo ek_M_sheet (i := 44) rfl) rfl) e_w1 ?_
  refine Sm_run K ek_M_sheet 45 2 rfl ?_
  exact Sm_le (leR_s (leR_s (leR_n (leR_n (leR_s leR_nil))))) (s_M_sheet_85 K hQ FU _ _ _ _ h)
set_option maxHeartbeats 4000000 in
set_option maxRecDepth 100000 in
theorem s_M_sheet_36 {G : Gx} {X : Cx} {res : Int32 × A_W} (K : Ok G X 4 c_M_sheet 5 (some .int) rm_M_sheet) (hQ : QQ G X (some (.int res.1)) res.2 0 0) (t : Nat) (x1 : Int32) (x2 : Int32) (x3 : Int32) (w : A_W) (h : F_M_sheet_36 t x1 x2 x3 w = some res) : Sm G X w 0 0 [some (.ref t), some (.int x1), some (.int x2), some (.int x3), none] [] 36 := by
  unfold F_M_sheet_36 at h
  refine Sm_run K ek_M_sheet 18 1 rfl ?_
  refine Sm_if_ge K (eo ek_M_sheet (i := 19) rfl) (fun c1 => ?_) (fun c1 => ?_)
  · rw [if_pos c1] at h
    refine Sm_run K ek_M_sheet 24 2 rfl ?_
    refine Sm_ic_le K (eo ek_M_sheet (i := 26) rfl) (fun c2 => ?_) (fun c2 => ?_)
    · rw [if_pos c2] at h
      refine Sm_run K ek_M_sheet 31 1 rfl ?_
      obtain ⟨a3, e_a3, h⟩ := Option.bind_eq_some_iff.mp h
      refine Sm_gr K (eo ek_M_sheet (i := 32) rfl) e_a3 ?_
      refine Sm_run K ek_M_sheet 33 2 rfl ?_
      obtain ⟨w4, e_w4, h⟩ := Option.bind_eq_some_iff.mp h
      refine Sm_wr K (eok_i (eo ek_M_sheet (i := 35) rfl) rfl) e_w4 ?_
      refine Sm_run K ek_M_sheet 36 1 rfl ?_
      obtain ⟨a5, e_a5, h⟩ := Option.bind_eq_some_iff.mp h
      refine Sm_gr K (eo ek_M_sheet (i := 37) rfl) e_a5 ?_
      refine Sm_run K ek_M_sheet 38 2 rfl ?_
      refine Sm_if_ne K (eo ek_M_sheet (i := 40) rfl) (fun c6 => ?_) (fun c6 => ?_)
      · rw [if_neg c6] at h
        refine Sm_run K ek_M_sheet 43 1 rfl ?_
        exact Sm_le (leR_s (leR_s (leR_n (leR_n (leR_n leR_nil))))) (s_M_sheet_81 K hQ _ _ _ _ _ _ h)
      · rw [if_pos c6] at h
        refine Sm_run K ek_M_sheet 41 2 rfl ?_
        exact Sm_le (leR_s (leR_s (leR_n (leR_n (leR_n leR_nil))))) (s_M_sheet_81 K hQ _ _ _ _ _ _ h)
    · rw [if_neg c2] at h
      refine Sm_run K ek_M_sheet 27 2 rfl ?_
      obtain ⟨o8, e_o8, h⟩ := Option.bind_eq_some_iff.mp h
      obtain ⟨p7, e_p7, h⟩ := Option.bind_eq_some_iff.mp h
      refine Sm_callV K (eok_i (eo ek_M_sheet (i := 29) rfl) rfl) cy_M_finds im_M_finds se_M_finds (lgm 826 (by decide +kernel) rfl) ⟨Nat.le_of_ble_eq_true rfl, Nat.le_of_ble_eq_true rfl⟩ (as := [.int (-1000001)]) (b := t) (st := []) (ob_e e_o8) (by decide) rfl rfl rfl rfl (Nat.le_of_ble_eq_true rfl) ⟨Nat.le_of_ble_eq_true rfl, Nat.le_of_ble_eq_true rfl⟩ (cn_M_finds e_p7) ?_
      refine Sm_eq (st1 := .int p7.1 :: []) (nc1 := 0) (ns1 := 0) rfl rfl rfl ?_
      obtain rfl := Option.some.inj h
      exact Sm_reti K hQ (eok_i (eo ek_M_sheet (i := 30) rfl) rfl)
  · rw [if_neg c1] at h
    refine Sm_run K ek_M_sheet 20 2 rfl ?_
    obtain ⟨o10, e_o10, h⟩ := Option.bind_eq_some_iff.mp h
    obtain ⟨p9, e_p9, h⟩ := Option.bind_eq_some_iff.mp h
    refine Sm_callV K (eok_i (eo ek_M_sheet (i := 22) rfl) rfl) cy_M_finds im_M_finds se_M_finds (lgm 826 (by decide +kernel) rfl) ⟨Nat.le_of_ble_eq_true rfl, Nat.le_of_ble_eq_true rfl⟩ (as := [.int (-1000007)]) (b := t) (st := []) (ob_e e_o10) (by decide) rfl rfl rfl rfl (Nat.le_of_ble_eq_true rfl) ⟨Nat.le_of_ble_eq_true rfl, Nat.le_of_ble_eq_true rfl⟩ (cn_M_finds e_p9) ?_
    refine Sm_eq (st1 := .int p9.1 :: []) (nc1 := 0) (ns1 := 0) rfl rfl rfl ?_
    obtain rfl := Option.some.inj h
    exact Sm_reti K hQ (eok_i (eo ek_M_sheet (i := 23) rfl) rfl)
set_option maxHeartbeats 4000000 in
set_option maxRecDepth 100000 in
theorem s_M_sheet_0 {G : Gx} {X : Cx} {res : Int32 × A_W} (K : Ok G X 4 c_M_sheet 5 (some .int) rm_M_sheet) (hQ : QQ G X (some (.int res.1)) res.2 0 0) (t : Nat) (x1 : Int32) (x2 : Int32) (x3 : Int32) (w : A_W) (h : F_M_sheet_0 t x1 x2 x3 w = some res) : Sm G X w 0 0 [some (.ref t), some (.int x1), some (.int x2), some (.int x3), none] [] 0 := by
  unfold F_M_sheet_0 at h
  refine Sm_run K ek_M_sheet 0 1 rfl ?_
  obtain ⟨p1, e_p1, h⟩ := Option.bind_eq_some_iff.mp h
  refine Sm_callS K (eok_i (eo ek_M_sheet (i := 1) rfl) rfl) cy_M_isSheet st_M_isSheet (lgm 1062 (by decide +kernel) rfl) ⟨Nat.le_of_ble_eq_true rfl, Nat.le_of_ble_eq_true rfl⟩ (as := [.int x1]) (st := []) rfl rfl rfl (Nat.le_of_ble_eq_true rfl) ⟨Nat.le_of_ble_eq_true rfl, Nat.le_of_ble_eq_true rfl⟩ (cn_M_isSheet e_p1) ?_
  refine Sm_eq (st1 := .int p1.1 :: []) (nc1 := 0) (ns1 := 0) rfl rfl rfl ?_
  refine Sm_if_eq K (eo ek_M_sheet (i := 2) rfl) (fun c2 => ?_) (fun c2 => ?_)
  · rw [if_pos c2] at h
    exact Sm_le (leR_s (leR_n (leR_n (leR_n (leR_n leR_nil))))) (s_M_sheet_29 K hQ _ _ h)
  · rw [if_neg c2] at h
    refine Sm_run K ek_M_sheet 3 1 rfl ?_
    refine Sm_if_eq K (eo ek_M_sheet (i := 4) rfl) (fun c3 => ?_) (fun c3 => ?_)
    · rw [if_pos c3] at h
      exact Sm_le (leR_s (leR_s (leR_s (leR_s (leR_n leR_nil))))) (s_M_sheet_36 K hQ _ _ _ _ _ h)
    · rw [if_neg c3] at h
      refine Sm_run K ek_M_sheet 5 2 rfl ?_
      refine Sm_ic_eq K (eo ek_M_sheet (i := 7) rfl) (fun c4 => ?_) (fun c4 => ?_)
      · rw [if_pos c4] at h
        exact Sm_le (leR_s (leR_s (leR_s (leR_s (leR_n leR_nil))))) (s_M_sheet_36 K hQ _ _ _ _ _ h)
      · rw [if_neg c4] at h
        refine Sm_run K ek_M_sheet 8 2 rfl ?_
        refine Sm_ic_eq K (eo ek_M_sheet (i := 10) rfl) (fun c5 => ?_) (fun c5 => ?_)
        · rw [if_pos c5] at h
          exact Sm_le (leR_s (leR_s (leR_s (leR_s (leR_n leR_nil))))) (s_M_sheet_36 K hQ _ _ _ _ _ h)
        · rw [if_neg c5] at h
          refine Sm_run K ek_M_sheet 11 2 rfl ?_
          refine Sm_ic_eq K (eo ek_M_sheet (i := 13) rfl) (fun c6 => ?_) (fun c6 => ?_)
          · rw [if_pos c6] at h
            exact Sm_le (leR_s (leR_s (leR_s (leR_s (leR_n leR_nil))))) (s_M_sheet_36 K hQ _ _ _ _ _ h)
          · rw [if_neg c6] at h
            exact Sm_le (leR_s (leR_n (leR_n (leR_n (leR_n leR_nil))))) (s_M_sheet_29 K hQ _ _ h)
def F_M_sheet (t : Nat) (x1 : Int32) (x2 : Int32) (x3 : Int32) (w : A_W) : Option (Int32 × A_W) := F_M_sheet_0 t x1 x2 x3 w
theorem cn_M_sheet {G : Gx} {t : Nat} {x1 : Int32} {x2 : Int32} {x3 : Int32} {w : A_W} {res : Int32 × A_W} (h : F_M_sheet t x1 x2 x3 w = some res) : Cn G y_M_sheet c_M_sheet 5 (some .int) rm_M_sheet [.ref t, .int x1, .int x2, .int x3] w (some (.int res.1)) res.2 :=
  Cn_of (own := 4) cy_M_sheet rfl rfl (Nat.le_of_ble_eq_true rfl) rfl (fun X K _ hQ => Sm_le (leR_s (leR_s (leR_s (leR_s (leR_n leR_nil))))) (s_M_sheet_0 K hQ _ _ _ _ _ h))
/-! EveningCloakModel.write(III)I -/
abbrev c_M_write : ByteArray := prog_6_method_92_code
def y_M_write : MethodName := ⟨"EveningCloakModel", "write", "(III)I"⟩
def rm_M_write : Room := { frames := 3, cells := 0, slots := 0, locals := 63 }
theorem cy_M_write : Cy y_M_write c_M_write 5 (some .int) 3 := ⟨lgm 1175 (by decide +kernel) rfl, lgm 73 (by decide +kernel) rfl, by decide +kernel, by decide +kernel⟩
theorem im_M_write : Cond.instanceMethod y_M_write ∈ lg := lgm 1173 (by decide +kernel) rfl
theorem se_M_write : Cond.selects y_M_write.cls y_M_write y_M_write ∈ lg := lgm 1174 (by decide +kernel) rfl
def e_M_write : List Ent := [
  (0, .aload_n 0, 1, 1, .null, 0, 0, 0),
  (1, .iload_n 1, 1, 2, .null, 0, 0, 0),
  (2, .invokevirtual 169, 3, 5, .null, 0, 0, 0),
  (5, .istore 4, 2, 7, .null, 0, 0, 0),
  (7, .iload 4, 2, 9, .null, 0, 0, 0),
  (9, .ifCond .ne 24, 3, 33, .null, 0, 0, 0),
  (12, .iload_n 2, 1, 13, .null, 0, 0, 0),
  (13, .iconst 0, 1, 14, .int 0, 0, 0, 0),
  (14, .aload_n 0, 1, 15, .null, 0, 0, 0),
  (15, .getfield 25, 3, 18, .null, 4, 6, 768),
  (18, .iload_n 1, 1, 19, .null, 0, 0, 0),
  (19, .iaload, 1, 20, .null, 0, 0, 0),
  (20, .iconst 1, 1, 21, .int 1, 0, 0, 0),
  (21, .isub, 1, 22, .null, 0, 0, 0),
  (22, .invokestatic 40, 3, 25, .null, 0, 0, 0),
  (25, .ifCond .ne 8, 3, 33, .null, 0, 0, 0),
  (28, .ldc 34, 2, 30, .int (-1000001), 0, 0, 825),
  (30, .goto 5, 3, 35, .null, 0, 0, 0),
  (33, .iload 4, 2, 35, .null, 0, 0, 0),
  (35, .istore 4, 2, 37, .null, 0, 0, 0),
  (37, .iload 4, 2, 39, .null, 0, 0, 0),
  (39, .ifCond .eq 10, 3, 49, .null, 0, 0, 0),
  (42, .aload_n 0, 1, 43, .null, 0, 0, 0),
  (43, .iload 4, 2, 45, .null, 0, 0, 0),
  (45, .invokevirtual 36, 3, 48, .null, 0, 0, 0),
  (48, .ireturn, 1, 49, .null, 0, 0, 0),
  (49, .aload_n 0, 1, 50, .null, 0, 0, 0),
  (50, .getfield 28, 3, 53, .null, 4, 7, 769),
  (53, .bipush 40, 2, 55, .int 40, 0, 0, 0),
  (55, .iload_n 1, 1, 56, .null, 0, 0, 0),
  (56, .imul, 1, 57, .null, 0, 0, 0),
  (57, .iload_n 2, 1, 58, .null, 0, 0, 0),
  (58, .iadd, 1, 59, .null, 0, 0, 0),
  (59, .aload_n 0, 1, 60, .null, 0, 0, 0),
  (60, .getfield 22, 3, 63, .null, 4, 5, 767),
  (63, .iload_n 1, 1, 64, .null, 0, 0, 0),
  (64, .iaload, 1, 65, .null, 0, 0, 0),
  (65, .bipush 8, 2, 67, .int 8, 0, 0, 0),
  (67, .if_icmp .ne 8, 3, 75, .null, 0, 0, 0),
  (70, .iload_n 3, 1, 71, .null, 0, 0, 0),
  (71, .i2b, 1, 72, .null, 0, 0, 0),
  (72, .goto 20, 3, 92, .null, 0, 0, 0),
  (75, .aload_n 0, 1, 76, .null, 0, 0, 0),
  (76, .getfield 22, 3, 79, .null, 4, 5, 767),
  (79, .iload_n 1, 1, 80, .null, 0, 0, 0),
  (80, .iaload, 1, 81, .null, 0, 0, 0),
  (81, .bipush 16, 2, 83, .int 16, 0, 0, 0),
  (83, .if_icmp .ne 8, 3, 91, .null, 0, 0, 0),
  (86, .iload_n 3, 1, 87, .null, 0, 0, 0),
  (87, .i2s, 1, 88, .null, 0, 0, 0),
  (88, .goto 4, 3, 92, .null, 0, 0, 0),
  (91, .iload_n 3, 1, 92, .null, 0, 0, 0),
  (92, .iastore, 1, 93, .null, 0, 0, 0),
  (93, .iconst 1, 1, 94, .int 1, 0, 0, 0),
  (94, .ireturn, 1, 95, .null, 0, 0, 0)]
set_option maxRecDepth 100000 in
theorem ek_M_write : e_M_write.all (eok 4 c_M_write) = true := by decide +kernel
def F_M_write_92 (y0 : Nat) (y1 : Int32) (y2 : Int32) (w : A_W) : Option (Int32 × A_W) :=
  (wr w y0 y1 y2).bind fun w1 =>
  some (1, w1)
def F_M_write_35 (t : Nat) (x1 : Int32) (x2 : Int32) (x3 : Int32) (y0 : Int32) (w : A_W) : Option (Int32 × A_W) :=
  if y0 = 0 then
    (gr w t 4 7).bind fun a2 =>
    (gr w t 4 5).bind fun a3 =>
    (rd w a3 x1).bind fun v4 =>
    if v4 = 8 then
      F_M_write_92 a2 ((40 * x1) + x2) ((Int32.toInt8 x3).toInt32) w
    else
      (gr w t 4 5).bind fun a6 =>
      (rd w a6 x1).bind fun v7 =>
      if v7 = 16 then
        F_M_write_92 a2 ((40 * x1) + x2) ((Int32.toInt16 x3).toInt32) w
      else
        F_M_write_92 a2 ((40 * x1) + x2) x3 w
  else
    (ob w t 4).bind fun o10 =>
    (F_M_finds t y0 w).bind fun p9 =>
    some (p9.1, p9.2)
def F_M_write_33 (t : Nat) (x1 : Int32) (x2 : Int32) (x3 : Int32) (x4 : Int32) (w : A_W) : Option (Int32 × A_W) :=
  F_M_write_35 t x1 x2 x3 x4 w
def F_M_write_0 (t : Nat) (x1 : Int32) (x2 : Int32) (x3 : Int32) (w : A_W) : Option (Int32 × A_W) :=
  (ob w t 4).bind fun o2 =>
  (F_M_notThere t x1 w).bind fun p1 =>
  if p1.1 = 0 then
    (gr p1.2 t 4 6).bind fun a4 =>
    (rd p1.2 a4 x1).bind fun v5 =>
    (F_M_in x2 0 (v5 - 1) p1.2).bind fun p6 =>
    if p6.1 = 0 then
      F_M_write_35 t x1 x2 x3 (-1000001) p6.2
    else
      F_M_write_33 t x1 x2 x3 p1.1 p6.2
  else
    F_M_write_33 t x1 x2 x3 p1.1 p1.2
set_option maxHeartbeats 4000000 in
set_option maxRecDepth 100000 in
theorem s_M_write_92 {G : Gx} {X : Cx} {res : Int32 × A_W} (K : Ok G X 4 c_M_write 5 (some .int) rm_M_write) (hQ : QQ G X (some (.int res.1)) res.2 0 0) (y0 : Nat) (y1 : Int32) (y2 : Int32) (w : A_W) (h : F_M_write_92 y0 y1 y2 w = some res) : Sm G X w 0 0 [none, none, none, none, none] [.int y2, .int y1, .ref y0] 92 := by
  unfold F_M_write_92 at h
  obtain ⟨w1, e_w1, h⟩ := Option.bind_eq_some_iff.mp h
  refine Sm_wr K (eok_i (eo ek_M_write (i := 52) rfl) rfl) e_w1 ?_
  refine Sm_run K ek_M_write 53 1 rfl ?_
  obtain rfl := Option.some.inj h
  exact Sm_reti K hQ (eok_i (eo ek_M_write (i := 54) rfl) rfl)
set_option maxHeartbeats 4000000 in
set_option maxRecDepth 100000 in
theorem s_M_write_35 {G : Gx} {X : Cx} {res : Int32 × A_W} (K : Ok G X 4 c_M_write 5 (some .int) rm_M_write) (hQ : QQ G X (some (.int res.1)) res.2 0 0) (t : Nat) (x1 : Int32) (x2 : Int32) (x3 : Int32) (y0 : Int32) (w : A_W) (h : F_M_write_35 t x1 x2 x3 y0 w = some res) : Sm G X w 0 0 [some (.ref t), some (.int x1), some (.int x2), some (.int x3), none] [.int y0] 35 := by
  unfold F_M_write_35 at h
  refine Sm_run K ek_M_write 19 2 rfl ?_
  refine Sm_if_eq K (eo ek_M_write (i := 21) rfl) (fun c1 => ?_) (fun c1 => ?_)
  · rw [if_pos c1] at h
    refine Sm_run K ek_M_write 26 1 rfl ?_
    obtain ⟨a2, e_a2, h⟩ := Option.bind_eq_some_iff.mp h
    refine Sm_gr K (eo ek_M_write (i := 27) rfl) e_a2 ?_
    refine Sm_run K ek_M_write 28 6 rfl ?_
    obtain ⟨a3, e_a3, h⟩ := Option.bind_eq_some_iff.mp h
    refine Sm_gr K (eo ek_M_write (i := 34) rfl) e_a3 ?_
    refine Sm_run K ek_M_write 35 1 rfl ?_
    obtain ⟨v4, e_v4, h⟩ := Option.bind_eq_some_iff.mp h
    refine Sm_rd K (eok_i (eo ek_M_write (i := 36) rfl) rfl) e_v4 ?_
    refine Sm_run K ek_M_write 37 1 rfl ?_
    refine Sm_ic_ne K (eo ek_M_write (i := 38) rfl) (fun c5 => ?_) (fun c5 => ?_)
    · rw [if_neg c5] at h
      refine Sm_run K ek_M_write 42 1 rfl ?_
      obtain ⟨a6, e_a6, h⟩ := Option.bind_eq_some_iff.mp h
      refine Sm_gr K (eo ek_M_write (i := 43) rfl) e_a6 ?_
      refine Sm_run K ek_M_write 44 1 rfl ?_
      obtain ⟨v7, e_v7, h⟩ := Option.bind_eq_some_iff.mp h
      refine Sm_rd K (eok_i (eo ek_M_write (i := 45) rfl) rfl) e_v7 ?_
      refine Sm_run K ek_M_write 46 1 rfl ?_
      refine Sm_ic_ne K (eo ek_M_write (i := 47) rfl) (fun c8 => ?_) (fun c8 => ?_)
      · rw [if_neg c8] at h
        refine Sm_run K ek_M_write 51 1 rfl ?_
        exact Sm_le (leR_n (leR_n (leR_n (leR_n (leR_n leR_nil))))) (s_M_write_92 K hQ _ _ _ _ h)
      · rw [if_pos c8] at h
        refine Sm_run K ek_M_write 48 3 rfl ?_
        exact Sm_le (leR_n (leR_n (leR_n (leR_n (leR_n leR_nil))))) (s_M_write_92 K hQ _ _ _ _ h)
    · rw [if_pos c5] at h
      refine Sm_run K ek_M_write 39 3 rfl ?_
      exact Sm_le (leR_n (leR_n (leR_n (leR_n (leR_n leR_nil))))) (s_M_write_92 K hQ _ _ _ _ h)
  · rw [if_neg c1] at h
    refine Sm_run K ek_M_write 22 2 rfl ?_
    obtain ⟨o10, e_o10, h⟩ := Option.bind_eq_some_iff.mp h
    obtain ⟨p9, e_p9, h⟩ := Option.bind_eq_some_iff.mp h
    refine Sm_callV K (eok_i (eo ek_M_write (i := 24) rfl) rfl) cy_M_finds im_M_finds se_M_finds (lgm 826 (by decide +kernel) rfl) ⟨Nat.le_of_ble_eq_true rfl, Nat.le_of_ble_eq_true rfl⟩ (as := [.int y0]) (b := t) (st := []) (ob_e e_o10) (by decide) rfl rfl rfl rfl (Nat.le_of_ble_eq_true rfl) ⟨Nat.le_of_ble_eq_true rfl, Nat.le_of_ble_eq_true rfl⟩ (cn_M_finds e_p9) ?_
    refine Sm_eq (st1 := .int p9.1 :: []) (nc1 := 0) (ns1 := 0) rfl rfl rfl ?_
    obtain rfl := Option.some.inj h
    exact Sm_reti K hQ (eok_i (eo ek_M_write (i := 25) rfl) rfl)
set_option maxHeartbeats 4000000 in
set_option maxRecDepth 100000 in
theorem s_M_write_33 {G : Gx} {X : Cx} {res : Int32 × A_W} (K : Ok G X 4 c_M_write 5 (some .int) rm_M_write) (hQ : QQ G X (some (.int res.1)) res.2 0 0) (t : Nat) (x1 : Int32) (x2 : Int32) (x3 : Int32) (x4 : Int32) (w : A_W) (h : F_M_write_33 t x1 x2 x3 x4 w = some res) : Sm G X w 0 0 [some (.ref t), some (.int x1), some (.int x2), some (.int x3), some (.int x4)] [] 33 := by
  unfold F_M_write_33 at h
  refine Sm_run K ek_M_write 18 1 rfl ?_
  exact Sm_le (leR_s (leR_s (leR_s (leR_s (leR_n leR_nil))))) (s_M_write_35 K hQ _ _ _ _ _ _ h)
set_option maxHeartbeats 4000000 in
set_option maxRecDepth 100000 in
theorem s_M_write_0 {G : Gx} {X : Cx} {res : Int32 × A_W} (K : Ok G X 4 c_M_write 5 (some .int) rm_M_write) (hQ : QQ G X (some (.int res.1)) res.2 0 0) (t : Nat) (x1 : Int32) (x2 : Int32) (x3 : Int32) (w : A_W) (h : F_M_write_0 t x1 x2 x3 w = some res) : Sm G X w 0 0 [some (.ref t), some (.int x1), some (.int x2), some (.int x3), none] [] 0 := by
  unfold F_M_write_0 at h
  refine Sm_run K ek_M_write 0 2 rfl ?_
  obtain ⟨o2, e_o2, h⟩ := Option.bind_eq_some_iff.mp h
  obtain ⟨p1, e_p1, h⟩ := Option.bind_eq_some_iff.mp h
  refine Sm_callV K (eok_i (eo ek_M_write (i := 2) rfl) rfl) cy_M_notThere im_M_notThere se_M_notThere (lgm 1058 (by decide +kernel) rfl) ⟨Nat.le_of_ble_eq_true rfl, Nat.le_of_ble_eq_true rfl⟩ (as := [.int x1]) (b := t) (st := []) (ob_e e_o2) (by decide) rfl rfl rfl rfl (Nat.le_of_ble_eq_true rfl) ⟨Nat.le_of_ble_eq_true rfl, Nat.le_of_ble_eq_true rfl⟩ (cn_M_notThere e_p1) ?_
  refine Sm_eq (st1 := .int p1.1 :: []) (nc1 := 0) (ns1 := 0) rfl rfl rfl ?_
  refine Sm_run K ek_M_write 3 2 rfl ?_
  refine Sm_if_ne K (eo ek_M_write (i := 5) rfl) (fun c3 => ?_) (fun c3 => ?_)
  · rw [if_neg c3] at h
    exact Sm_le (leR_s (leR_s (leR_s (leR_s (leR_s leR_nil))))) (s_M_write_33 K hQ _ _ _ _ _ _ h)
  · rw [if_pos c3] at h
    refine Sm_run K ek_M_write 6 3 rfl ?_
    obtain ⟨a4, e_a4, h⟩ := Option.bind_eq_some_iff.mp h
    refine Sm_gr K (eo ek_M_write (i := 9) rfl) e_a4 ?_
    refine Sm_run K ek_M_write 10 1 rfl ?_
    obtain ⟨v5, e_v5, h⟩ := Option.bind_eq_some_iff.mp h
    refine Sm_rd K (eok_i (eo ek_M_write (i := 11) rfl) rfl) e_v5 ?_
    refine Sm_run K ek_M_write 12 2 rfl ?_
    obtain ⟨p6, e_p6, h⟩ := Option.bind_eq_some_iff.mp h
    refine Sm_callS K (eok_i (eo ek_M_write (i := 14) rfl) rfl) cy_M_in st_M_in (lgm 815 (by decide +kernel) rfl) ⟨Nat.le_of_ble_eq_true rfl, Nat.le_of_ble_eq_true rfl⟩ (as := [.int x2, .int 0, .int (v5 - 1)]) (st := []) rfl rfl rfl (Nat.le_of_ble_eq_true rfl) ⟨Nat.le_of_ble_eq_true rfl, Nat.le_of_ble_eq_true rfl⟩ (cn_M_in e_p6) ?_
    refine Sm_eq (st1 := .int p6.1 :: []) (nc1 := 0) (ns1 := 0) rfl rfl rfl ?_
    refine Sm_if_ne K (eo ek_M_write (i := 15) rfl) (fun c7 => ?_) (fun c7 => ?_)
    · rw [if_neg c7] at h
      exact Sm_le (leR_s (leR_s (leR_s (leR_s (leR_s leR_nil))))) (s_M_write_33 K hQ _ _ _ _ _ _ h)
    · rw [if_pos c7] at h
      refine Sm_run K ek_M_write 16 2 rfl ?_
      exact Sm_le (leR_s (leR_s (leR_s (leR_s (leR_n leR_nil))))) (s_M_write_35 K hQ _ _ _ _ _ _ h)
def F_M_write (t : Nat) (x1 : Int32) (x2 : Int32) (x3 : Int32) (w : A_W) : Option (Int32 × A_W) := F_M_write_0 t x1 x2 x3 w
theorem cn_M_write {G : Gx} {t : Nat} {x1 : Int32} {x2 : Int32} {x3 : Int32} {w : A_W} {res : Int32 × A_W} (h : F_M_write t x1 x2 x3 w = some res) : Cn G y_M_write c_M_write 5 (some .int) rm_M_write [.ref t, .int x1, .int x2, .int x3] w (some (.int res.1)) res.2 :=
  Cn_of (own := 4) cy_M_write rfl rfl (Nat.le_of_ble_eq_true rfl) rfl (fun X K _ hQ => Sm_le (leR_s (leR_s (leR_s (leR_s (leR_n leR_nil))))) (s_M_write_0 K hQ _ _ _ _ _ h))
/-! EveningCloakModel.notCopied(IIIII)I -/
abbrev c_M_notCopied : ByteArray := prog_6_method_93_code
def y_M_notCopied : MethodName := ⟨"EveningCloakModel", "notCopied", "(IIIII)I"⟩
def rm_M_notCopied : Room := { frames := 2, cells := 0, slots := 0, locals := 42 }
theorem cy_M_notCopied : Cy y_M_notCopied c_M_notCopied 7 (some .int) 5 := ⟨lgm 1183 (by decide +kernel) rfl, lgm 73 (by decide +kernel) rfl, by decide +kernel, by decide +kernel⟩
theorem im_M_notCopied : Cond.instanceMethod y_M_notCopied ∈ lg := lgm 1182 (by decide +kernel) rfl
theorem se_M_notCopied : Cond.selects y_M_notCopied.cls y_M_notCopied y_M_notCopied ∈ lg := lgm 65 (by decide +kernel) rfl
def e_M_notCopied : List Ent := [
  (0, .iload_n 1, 1, 1, .null, 0, 0, 0),
  (1, .invokestatic 165, 3, 4, .null, 0, 0, 0),
  (4, .ifCond .eq 10, 3, 14, .null, 0, 0, 0),
  (7, .iload_n 3, 1, 8, .null, 0, 0, 0),
  (8, .invokestatic 165, 3, 11, .null, 0, 0, 0),
  (11, .ifCond .ne 6, 3, 17, .null, 0, 0, 0),
  (14, .ldc 34, 2, 16, .int (-1000001), 0, 0, 825),
  (16, .ireturn, 1, 17, .null, 0, 0, 0),
  (17, .aload_n 0, 1, 18, .null, 0, 0, 0),
  (18, .getfield 22, 3, 21, .null, 4, 5, 767),
  (21, .iload_n 1, 1, 22, .null, 0, 0, 0),
  (22, .iaload, 1, 23, .null, 0, 0, 0),
  (23, .ifCond .eq 12, 3, 35, .null, 0, 0, 0),
  (26, .aload_n 0, 1, 27, .null, 0, 0, 0),
  (27, .getfield 22, 3, 30, .null, 4, 5, 767),
  (30, .iload_n 3, 1, 31, .null, 0, 0, 0),
  (31, .iaload, 1, 32, .null, 0, 0, 0),
  (32, .ifCond .ne 6, 3, 38, .null, 0, 0, 0),
  (35, .ldc 168, 2, 37, .int (-1000006), 0, 0, 1065),
  (37, .ireturn, 1, 38, .null, 0, 0, 0),
  (38, .aload_n 0, 1, 39, .null, 0, 0, 0),
  (39, .getfield 22, 3, 42, .null, 4, 5, 767),
  (42, .iload_n 1, 1, 43, .null, 0, 0, 0),
  (43, .iaload, 1, 44, .null, 0, 0, 0),
  (44, .aload_n 0, 1, 45, .null, 0, 0, 0),
  (45, .getfield 22, 3, 48, .null, 4, 5, 767),
  (48, .iload_n 3, 1, 49, .null, 0, 0, 0),
  (49, .iaload, 1, 50, .null, 0, 0, 0),
  (50, .if_icmp .eq 6, 3, 56, .null, 0, 0, 0),
  (53, .ldc 248, 2, 55, .int (-1000003), 0, 0, 1166),
  (55, .ireturn, 1, 56, .null, 0, 0, 0),
  (56, .iload 5, 2, 58, .null, 0, 0, 0),
  (58, .ifCond .lt 43, 3, 101, .null, 0, 0, 0),
  (61, .iload_n 2, 1, 62, .null, 0, 0, 0),
  (62, .ifCond .lt 39, 3, 101, .null, 0, 0, 0),
  (65, .iload 4, 2, 67, .null, 0, 0, 0),
  (67, .ifCond .lt 34, 3, 101, .null, 0, 0, 0),
  (70, .iload 5, 2, 72, .null, 0, 0, 0),
  (72, .aload_n 0, 1, 73, .null, 0, 0, 0),
  (73, .getfield 25, 3, 76, .null, 4, 6, 768),
  (76, .iload_n 1, 1, 77, .null, 0, 0, 0),
  (77, .iaload, 1, 78, .null, 0, 0, 0),
  (78, .iload_n 2, 1, 79, .null, 0, 0, 0),
  (79, .isub, 1, 80, .null, 0, 0, 0),
  (80, .if_icmp .gt 21, 3, 101, .null, 0, 0, 0),
  (83, .iload 5, 2, 85, .null, 0, 0, 0),
  (85, .aload_n 0, 1, 86, .null, 0, 0, 0),
  (86, .getfield 25, 3, 89, .null, 4, 6, 768),
  (89, .iload_n 3, 1, 90, .null, 0, 0, 0),
  (90, .iaload, 1, 91, .null, 0, 0, 0),
  (91, .iload 4, 2, 93, .null, 0, 0, 0),
  (93, .isub, 1, 94, .null, 0, 0, 0),
  (94, .if_icmp .gt 7, 3, 101, .null, 0, 0, 0),
  (97, .iconst 1, 1, 98, .int 1, 0, 0, 0),
  (98, .goto 4, 3, 102, .null, 0, 0, 0),
  (101, .iconst 0, 1, 102, .int 0, 0, 0, 0),
  (102, .istore 6, 2, 104, .null, 0, 0, 0),
  (104, .iload 6, 2, 106, .null, 0, 0, 0),
  (106, .ifCond .eq 7, 3, 113, .null, 0, 0, 0),
  (109, .iconst 0, 1, 110, .int 0, 0, 0, 0),
  (110, .goto 5, 3, 115, .null, 0, 0, 0),
  (113, .ldc 34, 2, 115, .int (-1000001), 0, 0, 825),
  (115, .ireturn, 1, 116, .null, 0, 0, 0)]
set_option maxRecDepth 100000 in
theorem ek_M_notCopied : e_M_notCopied.all (eok 4 c_M_notCopied) = true := by decide +kernel
def F_M_notCopied_14 (w : A_W) : Option (Int32 × A_W) :=
  some ((-1000001), w)
def F_M_notCopied_35 (w : A_W) : Option (Int32 × A_W) :=
  some ((-1000006), w)
def F_M_notCopied_115 (y0 : Int32) (w : A_W) : Option (Int32 × A_W) :=
  some (y0, w)
def F_M_notCopied_102 (y0 : Int32) (w : A_W) : Option (Int32 × A_W) :=
  if y0 = 0 then
    F_M_notCopied_115 (-1000001) w
  else
    F_M_notCopied_115 0 w
def F_M_notCopied_101 (w : A_W) : Option (Int32 × A_W) :=
  F_M_notCopied_102 0 w
def F_M_notCopied_0 (t : Nat) (x1 : Int32) (x2 : Int32) (x3 : Int32) (x4 : Int32) (x5 : Int32) (w : A_W) : Option (Int32 × A_W) :=
  (F_M_isSheet x1 w).bind fun p1 =>
  if p1.1 = 0 then
    F_M_notCopied_14 p1.2
  else
    (F_M_isSheet x3 p1.2).bind fun p3 =>
    if p3.1 = 0 then
      F_M_notCopied_14 p3.2
    else
      (gr p3.2 t 4 5).bind fun a5 =>
      (rd p3.2 a5 x1).bind fun v6 =>
      if v6 = 0 then
        F_M_notCopied_35 p3.2
      else
        (gr p3.2 t 4 5).bind fun a8 =>
        (rd p3.2 a8 x3).bind fun v9 =>
        if v9 = 0 then
          F_M_notCopied_35 p3.2
        else
          (gr p3.2 t 4 5).bind fun a11 =>
          (rd p3.2 a11 x1).bind fun v12 =>
          (gr p3.2 t 4 5).bind fun a13 =>
          (rd p3.2 a13 x3).bind fun v14 =>
          if v12 = v14 then
            if x5 < 0 then
              F_M_notCopied_101 p3.2
            else
              if x2 < 0 then
                F_M_notCopied_101 p3.2
              else
                if x4 < 0 then
                  F_M_notCopied_101 p3.2
                else
                  (gr p3.2 t 4 6).bind fun a19 =>
                  (rd p3.2 a19 x1).bind fun v20 =>
                  if (v20 - x2) < x5 then
                    F_M_notCopied_101 p3.2
                  else
                    (gr p3.2 t 4 6).bind fun a22 =>
                    (rd p3.2 a22 x3).bind fun v23 =>
                    if (v23 - x4) < x5 then
                      F_M_notCopied_101 p3.2
                    else
                      F_M_notCopied_102 1 p3.2
          else
            some ((-1000003), p3.2)
set_option maxHeartbeats 4000000 in
set_option maxRecDepth 100000 in
theorem s_M_notCopied_14 {G : Gx} {X : Cx} {res : Int32 × A_W} (K : Ok G X 4 c_M_notCopied 7 (some .int) rm_M_notCopied) (hQ : QQ G X (some (.int res.1)) res.2 0 0) (w : A_W) (h : F_M_notCopied_14 w = some res) : Sm G X w 0 0 [none, none, none, none, none, none, none] [] 14 := by
  unfold F_M_notCopied_14 at h
  refine Sm_run K ek_M_notCopied 6 1 rfl ?_
  obtain rfl := Option.some.inj h
  exact Sm_reti K hQ (eok_i (eo ek_M_notCopied (i := 7) rfl) rfl)
set_option maxHeartbeats 4000000 in
set_option maxRecDepth 100000 in
theorem s_M_notCopied_35 {G : Gx} {X : Cx} {res : Int32 × A_W} (K : Ok G X 4 c_M_notCopied 7 (some .int) rm_M_notCopied) (hQ : QQ G X (some (.int res.1)) res.2 0 0) (w : A_W) (h : F_M_notCopied_35 w = some res) : Sm G X w 0 0 [none, none, none, none, none, none, none] [] 35 := by
  unfold F_M_notCopied_35 at h
  refine Sm_run K ek_M_notCopied 18 1 rfl ?_
  obtain rfl := Option.some.inj h
  exact Sm_reti K hQ (eok_i (eo ek_M_notCopied (i := 19) rfl) rfl)
set_option maxHeartbeats 4000000 in
set_option maxRecDepth 100000 in
theorem s_M_notCopied_115 {G : Gx} {X : Cx} {res : Int32 × A_W} (K : Ok G X 4 c_M_notCopied 7 (some .int) rm_M_notCopied) (hQ : QQ G X (some (.int res.1)) res.2 0 0) (y0 : Int32) (w : A_W) (h : F_M_notCopied_115 y0 w = some res) : Sm G X w 0 0 [none, none, none, none, none, none, none] [.int y0] 115 := by
  unfold F_M_notCopied_115 at h
  obtain rfl := Option.some.inj h
  exact Sm_reti K hQ (eok_i (eo ek_M_notCopied (i := 62) rfl) rfl)
set_option maxHeartbeats 4000000 in
set_option maxRecDepth 100000 in
theorem s_M_notCopied_102 {G : Gx} {X : Cx} {res : Int32 × A_W} (K : Ok G X 4 c_M_notCopied 7 (some .int) rm_M_notCopied) (hQ : QQ G X (some (.int res.1)) res.2 0 0) (y0 : Int32) (w : A_W) (h : F_M_notCopied_102 y0 w = some res) : Sm G X w 0 0 [none, none, none, none, none, none, none] [.int y0] 102 := by
  unfold F_M_notCopied_102 at h
  refine Sm_run K ek_M_notCopied 56 2 rfl ?_
  refine Sm_if_eq K (eo ek_M_notCopied (i := 58) rfl) (fun c1 => ?_) (fun c1 => ?_)
  · rw [if_pos c1] at h
    refine Sm_run K ek_M_notCopied 61 1 rfl ?_
    exact Sm_le (leR_n (leR_n (leR_n (leR_n (leR_n (leR_n (leR_n leR_nil))))))) (s_M_notCopied_115 K hQ _ _ h)
  · rw [if_neg c1] at h
    refine Sm_run K ek_M_notCopied 59 2 rfl ?_
    exact Sm_le (leR_n (leR_n (leR_n (leR_n (leR_n (leR_n (leR_n leR_nil))))))) (s_M_notCopied_115 K hQ _ _ h)
set_option maxHeartbeats 4000000 in
set_option maxRecDepth 100000 in
theorem s_M_notCopied_101 {G : Gx} {X : Cx} {res : Int32 × A_W} (K : Ok G X 4 c_M_notCopied 7 (some .int) rm_M_notCopied) (hQ : QQ G X (some (.int res.1)) res.2 0 0) (w : A_W) (h : F_M_notCopied_101 w = some res) : Sm G X w 0 0 [none, none, none, none, none, none, none] [] 101 := by
  unfold F_M_notCopied_101 at h
  refine Sm_run K ek_M_notCopied 55 1 rfl ?_
  exact Sm_le (leR_n (leR_n (leR_n (leR_n (leR_n (leR_n (leR_n leR_nil))))))) (s_M_notCopied_102 K hQ _ _ h)
set_option maxHeartbeats 4000000 in
set_option maxRecDepth 100000 in
theorem s_M_notCopied_0 {G : Gx} {X : Cx} {res : Int32 × A_W} (K : Ok G X 4 c_M_notCopied 7 (some .int) rm_M_notCopied) (hQ : QQ G X (some (.int res.1)) res.2 0 0) (t : Nat) (x1 : Int32) (x2 : Int32) (x3 : Int32) (x4 : Int32) (x5 : Int32) (w : A_W) (h : F_M_notCopied_0 t x1 x2 x3 x4 x5 w = some res) : Sm G X w 0 0 [some (.ref t), some (.int x1), some (.int x2), some (.int x3), some (.int x4), some (.int x5), none] [] 0 := by
  unfold F_M_notCopied_0 at h
  refine Sm_run K ek_M_notCopied 0 1 rfl ?_
  obtain ⟨p1, e_p1, h⟩ := Option.bind_eq_some_iff.mp h
  refine Sm_callS K (eok_i (eo ek_M_notCopied (i := 1) rfl) rfl) cy_M_isSheet st_M_isSheet (lgm 1062 (by decide +kernel) rfl) ⟨Nat.le_of_ble_eq_true rfl, Nat.le_of_ble_eq_true rfl⟩ (as := [.int x1]) (st := []) rfl rfl rfl (Nat.le_of_ble_eq_true rfl) ⟨Nat.le_of_ble_eq_true rfl, Nat.le_of_ble_eq_true rfl⟩ (cn_M_isSheet e_p1) ?_
  refine Sm_eq (st1 := .int p1.1 :: []) (nc1 := 0) (ns1 := 0) rfl rfl rfl ?_
  refine Sm_if_eq K (eo ek_M_notCopied (i := 2) rfl) (fun c2 => ?_) (fun c2 => ?_)
  · rw [if_pos c2] at h
    exact Sm_le (leR_n (leR_n (leR_n (leR_n (leR_n (leR_n (leR_n leR_nil))))))) (s_M_notCopied_14 K hQ _ h)
  · rw [if_neg c2] at h
    refine Sm_run K ek_M_notCopied 3 1 rfl ?_
    obtain ⟨p3, e_p3, h⟩ := Option.bind_eq_some_iff.mp h
    refine Sm_callS K (eok_i (eo ek_M_notCopied (i := 4) rfl) rfl) cy_M_isSheet st_M_isSheet (lgm 1062 (by decide +kernel) rfl) ⟨Nat.le_of_ble_eq_true rfl, Nat.le_of_ble_eq_true rfl⟩ (as := [.int x3]) (st := []) rfl rfl rfl (Nat.le_of_ble_eq_true rfl) ⟨Nat.le_of_ble_eq_true rfl, Nat.le_of_ble_eq_true rfl⟩ (cn_M_isSheet e_p3) ?_
    refine Sm_eq (st1 := .int p3.1 :: []) (nc1 := 0) (ns1 := 0) rfl rfl rfl ?_
    refine Sm_if_ne K (eo ek_M_notCopied (i := 5) rfl) (fun c4 => ?_) (fun c4 => ?_)
    · rw [if_neg c4] at h
      refine Sm_run K ek_M_notCopied 8 1 rfl ?_
      obtain ⟨a5, e_a5, h⟩ := Option.bind_eq_some_iff.mp h
      refine Sm_gr K (eo ek_M_notCopied (i := 9) rfl) e_a5 ?_
      refine Sm_run K ek_M_notCopied 10 1 rfl ?_
      obtain ⟨v6, e_v6, h⟩ := Option.bind_eq_some_iff.mp h
      refine Sm_rd K (eok_i (eo ek_M_notCopied (i := 11) rfl) rfl) e_v6 ?_
      refine Sm_if_eq K (eo ek_M_notCopied (i := 12) rfl) (fun c7 => ?_) (fun c7 => ?_)
      · rw [if_pos c7] at h
        exact Sm_le (leR_n (leR_n (leR_n (leR_n (leR_n (leR_n (leR_n leR_nil))))))) (s_M_notCopied_35 K hQ _ h)
      · rw [if_neg c7] at h
        refine Sm_run K ek_M_notCopied 13 1 rfl ?_
        obtain ⟨a8, e_a8, h⟩ := Option.bind_eq_some_iff.mp h
        refine Sm_gr K (eo ek_M_notCopied (i := 14) rfl) e_a8 ?_
        refine Sm_run K ek_M_notCopied 15 1 rfl ?_
        obtain ⟨v9, e_v9, h⟩ := Option.bind_eq_some_iff.mp h
        refine Sm_rd K (eok_i (eo ek_M_notCopied (i := 16) rfl) rfl) e_v9 ?_
        refine Sm_if_ne K (eo ek_M_notCopied (i := 17) rfl) (fun c10 => ?_) (fun c10 => ?_)
        · rw [if_neg c10] at h
          refine Sm_run K ek_M_notCopied 20 1 rfl ?_
          obtain ⟨a11, e_a11, h⟩ := Option.bind_eq_some_iff.mp h
          refine Sm_gr K (eo ek_M_notCopied (i := 21) rfl) e_a11 ?_
          refine Sm_run K ek_M_notCopied 22 1 rfl ?_
          obtain ⟨v12, e_v12, h⟩ := Option.bind_eq_some_iff.mp h
          refine Sm_rd K (eok_i (eo ek_M_notCopied (i := 23) rfl) rfl) e_v12 ?_
          refine Sm_run K ek_M_notCopied 24 1 rfl ?_
          obtain ⟨a13, e_a13, h⟩ := Option.bind_eq_some_iff.mp h
          refine Sm_gr K (eo ek_M_notCopied (i := 25) rfl) e_a13 ?_
          refine Sm_run K ek_M_notCopied 26 1 rfl ?_
          obtain ⟨v14, e_v14, h⟩ := Option.bind_eq_some_iff.mp h
          refine Sm_rd K (eok_i (eo ek_M_notCopied (i := 27) rfl) rfl) e_v14 ?_
          refine Sm_ic_eq K (eo ek_M_notCopied (i := 28) rfl) (fun c15 => ?_) (fun c15 => ?_)
          · rw [if_pos c15] at h
            refine Sm_run K ek_M_notCopied 31 1 rfl ?_
            refine Sm_if_lt K (eo ek_M_notCopied (i := 32) rfl) (fun c16 => ?_) (fun c16 => ?_)
            · rw [if_pos c16] at h
              exact Sm_le (leR_n (leR_n (leR_n (leR_n (leR_n (leR_n (leR_n leR_nil))))))) (s_M_notCopied_101 K hQ _ h)
            · rw [if_neg c16] at h
              refine Sm_run K ek_M_notCopied 33 1 rfl ?_
              refine Sm_if_lt K (eo ek_M_notCopied (i := 34) rfl) (fun c17 => ?_) (fun c17 => ?_)
              · rw [if_pos c17] at h
                exact Sm_le (leR_n (leR_n (leR_n (leR_n (leR_n (leR_n (leR_n leR_nil))))))) (s_M_notCopied_101 K hQ _ h)
              · rw [if_neg c17] at h
                refine Sm_run K ek_M_notCopied 35 1 rfl ?_
                refine Sm_if_lt K (eo ek_M_notCopied (i := 36) rfl) (fun c18 => ?_) (fun c18 => ?_)
                · rw [if_pos c18] at h
                  exact Sm_le (leR_n (leR_n (leR_n (leR_n (leR_n (leR_n (leR_n leR_nil))))))) (s_M_notCopied_101 K hQ _ h)
                · rw [if_neg c18] at h
                  refine Sm_run K ek_M_notCopied 37 2 rfl ?_
                  obtain ⟨a19, e_a19, h⟩ := Option.bind_eq_some_iff.mp h
                  refine Sm_gr K (eo ek_M_notCopied (i := 39) rfl) e_a19 ?_
                  refine Sm_run K ek_M_notCopied 40 1 rfl ?_
                  obtain ⟨v20, e_v20, h⟩ := Option.bind_eq_some_iff.mp h
                  refine Sm_rd K (eok_i (eo ek_M_notCopied (i := 41) rfl) rfl) e_v20 ?_
                  refine Sm_run K ek_M_notCopied 42 2 rfl ?_
                  refine Sm_ic_gt K (eo ek_M_notCopied (i := 44) rfl) (fun c21 => ?_) (fun c21 => ?_)
                  · rw [if_pos c21] at h
                    exact Sm_le (leR_n (leR_n (leR_n (leR_n (leR_n (leR_n (leR_n leR_nil))))))) (s_M_notCopied_101 K hQ _ h)
                  · rw [if_neg c21] at h
                    refine Sm_run K ek_M_notCopied 45 2 rfl ?_
                    obtain ⟨a22, e_a22, h⟩ := Option.bind_eq_some_iff.mp h
                    refine Sm_gr K (eo ek_M_notCopied (i := 47) rfl) e_a22 ?_
                    refine Sm_run K ek_M_notCopied 48 1 rfl ?_
                    obtain ⟨v23, e_v23, h⟩ := Option.bind_eq_some_iff.mp h
                    refine Sm_rd K (eok_i (eo ek_M_notCopied (i := 49) rfl) rfl) e_v23 ?_
                    refine Sm_run K ek_M_notCopied 50 2 rfl ?_
                    refine Sm_ic_gt K (eo ek_M_notCopied (i := 52) rfl) (fun c24 => ?_) (fun c24 => ?_)
                    · rw [if_pos c24] at h
                      exact Sm_le (leR_n (leR_n (leR_n (leR_n (leR_n (leR_n (leR_n leR_nil))))))) (s_M_notCopied_101 K hQ _ h)
                    · rw [if_neg c24] at h
                      refine Sm_run K ek_M_notCopied 53 2 rfl ?_
                      exact Sm_le (leR_n (leR_n (leR_n (leR_n (leR_n (leR_n (leR_n leR_nil))))))) (s_M_notCopied_102 K hQ _ _ h)
          · rw [if_neg c15] at h
            refine Sm_run K ek_M_notCopied 29 1 rfl ?_
            obtain rfl := Option.some.inj h
            exact Sm_reti K hQ (eok_i (eo ek_M_notCopied (i := 30) rfl) rfl)
        · rw [if_pos c10] at h
          exact Sm_le (leR_n (leR_n (leR_n (leR_n (leR_n (leR_n (leR_n leR_nil))))))) (s_M_notCopied_35 K hQ _ h)
    · rw [if_pos c4] at h
      exact Sm_le (leR_n (leR_n (leR_n (leR_n (leR_n (leR_n (leR_n leR_nil))))))) (s_M_notCopied_14 K hQ _ h)
def F_M_notCopied (t : Nat) (x1 : Int32) (x2 : Int32) (x3 : Int32) (x4 : Int32) (x5 : Int32) (w : A_W) : Option (Int32 × A_W) := F_M_notCopied_0 t x1 x2 x3 x4 x5 w
theorem cn_M_notCopied {G : Gx} {t : Nat} {x1 : Int32} {x2 : Int32} {x3 : Int32} {x4 : Int32} {x5 : Int32} {w : A_W} {res : Int32 × A_W} (h : F_M_notCopied t x1 x2 x3 x4 x5 w = some res) : Cn G y_M_notCopied c_M_notCopied 7 (some .int) rm_M_notCopied [.ref t, .int x1, .int x2, .int x3, .int x4, .int x5] w (some (.int res.1)) res.2 :=
  Cn_of (own := 4) cy_M_notCopied rfl rfl (Nat.le_of_ble_eq_true rfl) rfl (fun X K _ hQ => Sm_le (leR_s (leR_s (leR_s (leR_s (leR_s (leR_s (leR_n leR_nil))))))) (s_M_notCopied_0 K hQ _ _ _ _ _ _ _ h))
/-! EveningCloakModel.copy(IIIII)I -/
abbrev c_M_copy : ByteArray := prog_6_method_94_code
def y_M_copy : MethodName := ⟨"EveningCloakModel", "copy", "(IIIII)I"⟩
def rm_M_copy : Room := { frames := 3, cells := 0, slots := 0, locals := 68 }
theorem cy_M_copy : Cy y_M_copy c_M_copy 9 (some .int) 5 := ⟨lgm 1179 (by decide +kernel) rfl, lgm 73 (by decide +kernel) rfl, by decide +kernel, by decide +kernel⟩
theorem im_M_copy : Cond.instanceMethod y_M_copy ∈ lg := lgm 1177 (by decide +kernel) rfl
theorem se_M_copy : Cond.selects y_M_copy.cls y_M_copy y_M_copy ∈ lg := lgm 1178 (by decide +kernel) rfl
def e_M_copy : List Ent := [
  (0, .aload_n 0, 1, 1, .null, 0, 0, 0),
  (1, .iload_n 1, 1, 2, .null, 0, 0, 0),
  (2, .iload_n 2, 1, 3, .null, 0, 0, 0),
  (3, .iload_n 3, 1, 4, .null, 0, 0, 0),
  (4, .iload 4, 2, 6, .null, 0, 0, 0),
  (6, .iload 5, 2, 8, .null, 0, 0, 0),
  (8, .invokevirtual 250, 3, 11, .null, 0, 0, 0),
  (11, .istore 6, 2, 13, .null, 0, 0, 0),
  (13, .iload 6, 2, 15, .null, 0, 0, 0),
  (15, .ifCond .eq 10, 3, 25, .null, 0, 0, 0),
  (18, .aload_n 0, 1, 19, .null, 0, 0, 0),
  (19, .iload 6, 2, 21, .null, 0, 0, 0),
  (21, .invokevirtual 36, 3, 24, .null, 0, 0, 0),
  (24, .ireturn, 1, 25, .null, 0, 0, 0),
  (25, .iconst 0, 1, 26, .int 0, 0, 0, 0),
  (26, .istore 7, 2, 28, .null, 0, 0, 0),
  (28, .iload 7, 2, 30, .null, 0, 0, 0),
  (30, .iload 5, 2, 32, .null, 0, 0, 0),
  (32, .if_icmp .ge 58, 3, 90, .null, 0, 0, 0),
  (35, .iload_n 2, 1, 36, .null, 0, 0, 0),
  (36, .iload 4, 2, 38, .null, 0, 0, 0),
  (38, .if_icmp .ge 13, 3, 51, .null, 0, 0, 0),
  (41, .iload 5, 2, 43, .null, 0, 0, 0),
  (43, .iconst 1, 1, 44, .int 1, 0, 0, 0),
  (44, .isub, 1, 45, .null, 0, 0, 0),
  (45, .iload 7, 2, 47, .null, 0, 0, 0),
  (47, .isub, 1, 48, .null, 0, 0, 0),
  (48, .goto 5, 3, 53, .null, 0, 0, 0),
  (51, .iload 7, 2, 53, .null, 0, 0, 0),
  (53, .istore 8, 2, 55, .null, 0, 0, 0),
  (55, .aload_n 0, 1, 56, .null, 0, 0, 0),
  (56, .getfield 28, 3, 59, .null, 4, 7, 769),
  (59, .bipush 40, 2, 61, .int 40, 0, 0, 0),
  (61, .iload_n 3, 1, 62, .null, 0, 0, 0),
  (62, .imul, 1, 63, .null, 0, 0, 0),
  (63, .iload 4, 2, 65, .null, 0, 0, 0),
  (65, .iadd, 1, 66, .null, 0, 0, 0),
  (66, .iload 8, 2, 68, .null, 0, 0, 0),
  (68, .iadd, 1, 69, .null, 0, 0, 0),
  (69, .aload_n 0, 1, 70, .null, 0, 0, 0),
  (70, .getfield 28, 3, 73, .null, 4, 7, 769),
  (73, .bipush 40, 2, 75, .int 40, 0, 0, 0),
  (75, .iload_n 1, 1, 76, .null, 0, 0, 0),
  (76, .imul, 1, 77, .null, 0, 0, 0),
  (77, .iload_n 2, 1, 78, .null, 0, 0, 0),
  (78, .iadd, 1, 79, .null, 0, 0, 0),
  (79, .iload 8, 2, 81, .null, 0, 0, 0),
  (81, .iadd, 1, 82, .null, 0, 0, 0),
  (82, .iaload, 1, 83, .null, 0, 0, 0),
  (83, .iastore, 1, 84, .null, 0, 0, 0),
  (84, .iinc 7 1, 3, 87, .int 1, 0, 0, 0),
  (87, .goto (-59), 3, 28, .null, 0, 0, 0),
  (90, .iload 5, 2, 92, .null, 0, 0, 0),
  (92, .ireturn, 1, 93, .null, 0, 0, 0)]
set_option maxRecDepth 100000 in
theorem ek_M_copy : e_M_copy.all (eok 4 c_M_copy) = true := by decide +kernel
def F_M_copy_53 (k28 : Nat → Int32 → Int32 → Int32 → Int32 → Int32 → Int32 → A_W → Option (Int32 × A_W)) (t : Nat) (x1 : Int32) (x2 : Int32) (x3 : Int32) (x4 : Int32) (x5 : Int32) (x7 : Int32) (y0 : Int32) (w : A_W) : Option (Int32 × A_W) :=
  (gr w t 4 7).bind fun a1 =>
  (gr w t 4 7).bind fun a2 =>
  (rd w a2 (((40 * x1) + x2) + y0)).bind fun v3 =>
  (wr w a1 (((40 * x3) + x4) + y0) v3).bind fun w4 =>
  k28 t x1 x2 x3 x4 x5 (x7 + 1) w4
def F_M_copy_28 : Nat → Nat → Int32 → Int32 → Int32 → Int32 → Int32 → Int32 → A_W → Option (Int32 × A_W)
  | 0, _, _, _, _, _, _, _, _ => none
  | n + 1, t, x1, x2, x3, x4, x5, x7, w =>
    if x5 ≤ x7 then
      some (x5, w)
    else
      if x4 ≤ x2 then
        F_M_copy_53 (F_M_copy_28 n) t x1 x2 x3 x4 x5 x7 x7 w
      else
        F_M_copy_53 (F_M_copy_28 n) t x1 x2 x3 x4 x5 x7 ((x5 - 1) - x7) w
def F_M_copy_0 (t : Nat) (x1 : Int32) (x2 : Int32) (x3 : Int32) (x4 : Int32) (x5 : Int32) (w : A_W) : Option (Int32 × A_W) :=
  (ob w t 4).bind fun o2 =>
  (F_M_notCopied t x1 x2 x3 x4 x5 w).bind fun p1 =>
  if p1.1 = 0 then
    F_M_copy_28 FU t x1 x2 x3 x4 x5 0 p1.2
  else
    (ob p1.2 t 4).bind fun o5 =>
    (F_M_finds t p1.1 p1.2).bind fun p4 =>
    some (p4.1, p4.2)
set_option maxHeartbeats 4000000 in
set_option maxRecDepth 100000 in
theorem s_M_copy_53 {G : Gx} {X : Cx} {res : Int32 × A_W} (K : Ok G X 4 c_M_copy 9 (some .int) rm_M_copy) (hQ : QQ G X (some (.int res.1)) res.2 0 0) {k28 : Nat → Int32 → Int32 → Int32 → Int32 → Int32 → Int32 → A_W → Option (Int32 × A_W)} (hk28 : ∀ (t : Nat) (x1 : Int32) (x2 : Int32) (x3 : Int32) (x4 : Int32) (x5 : Int32) (x7 : Int32) (w : A_W), k28 t x1 x2 x3 x4 x5 x7 w = some res → Sm G X w 0 0 [some (.ref t), some (.int x1), some (.int x2), some (.int x3), some (.int x4), some (.int x5), none, some (.int x7), none] [] 28) (t : Nat) (x1 : Int32) (x2 : Int32) (x3 : Int32) (x4 : Int32) (x5 : Int32) (x7 : Int32) (y0 : Int32) (w : A_W) (h : F_M_copy_53 k28 t x1 x2 x3 x4 x5 x7 y0 w = some res) : Sm G X w 0 0 [some (.ref t), some (.int x1), some (.int x2), some (.int x3), some (.int x4), some (.int x5), none, some (.int x7), none] [.int y0] 53 := by
  unfold F_M_copy_53 at h
  refine Sm_run K ek_M_copy 29 2 rfl ?_
  obtain ⟨a1, e_a1, h⟩ := Option.bind_eq_some_iff.mp h
  refine Sm_gr K (eo ek_M_copy (i := 31) rfl) e_a1 ?_
  refine Sm_run K ek_M_copy 32 8 rfl ?_
  obtain ⟨a2, e_a2, h⟩ := Option.bind_eq_some_iff.mp h
  refine Sm_gr K (eo ek_M_copy (i := 40) rfl) e_a2 ?_
  refine Sm_run K ek_M_copy 41 7 rfl ?_
  obtain ⟨v3, e_v3, h⟩ := Option.bind_eq_some_iff.mp h
  refine Sm_rd K (eok_i (eo ek_M_copy (i := 48) rfl) rfl) e_v3 ?_
  obtain ⟨w4, e_w4, h⟩ := Option.bind_eq_some_iff.mp h
  refine Sm_wr K (eok_i (eo ek_M_copy (i := 49) rfl) rfl) e_w4 ?_
  refine Sm_run K ek_M_copy 50 2 rfl ?_
  exact Sm_le (leR_s (leR_s (leR_s (leR_s (leR_s (leR_s (leR_n (leR_s (leR_n leR_nil))))))))) (hk28 _ _ _ _ _ _ _ _ h)
set_option maxHeartbeats 4000000 in
set_option maxRecDepth 100000 in
theorem s_M_copy_28 {G : Gx} {X : Cx} {res : Int32 × A_W} (K : Ok G X 4 c_M_copy 9 (some .int) rm_M_copy) (hQ : QQ G X (some (.int res.1)) res.2 0 0) : ∀ (n : Nat) (t : Nat) (x1 : Int32) (x2 : Int32) (x3 : Int32) (x4 : Int32) (x5 : Int32) (x7 : Int32) (w : A_W), F_M_copy_28 n t x1 x2 x3 x4 x5 x7 w = some res → Sm G X w 0 0 [some (.ref t), some (.int x1), some (.int x2), some (.int x3), some (.int x4), some (.int x5), none, some (.int x7), none] [] 28 := by
  intro n
  induction n with
  | zero => intro t x1 x2 x3 x4 x5 x7 w h; cases h
  | succ n ih =>
    intro t x1 x2 x3 x4 x5 x7 w h
    rw [F_M_copy_28] at h
    refine Sm_run K ek_M_copy 16 2 rfl ?_
    refine Sm_ic_ge K (eo ek_M_copy (i := 18) rfl) (fun c1 => ?_) (fun c1 => ?_)
    · rw [if_pos c1] at h
      refine Sm_run K ek_M_copy 52 1 rfl ?_
      obtain rfl := Option.some.inj h
      exact Sm_reti K hQ (eok_i (eo ek_M_copy (i := 53) rfl) rfl)
    · rw [if_neg c1] at h
      refine Sm_run K ek_M_copy 19 2 rfl ?_
      refine Sm_ic_ge K (eo ek_M_copy (i := 21) rfl) (fun c2 => ?_) (fun c2 => ?_)
      · rw [if_pos c2] at h
        refine Sm_run K ek_M_copy 28 1 rfl ?_
        exact Sm_le (leR_s (leR_s (leR_s (leR_s (leR_s (leR_s (leR_n (leR_s (leR_n leR_nil))))))))) (s_M_copy_53 K hQ ih _ _ _ _ _ _ _ _ _ h)
      · rw [if_neg c2] at h
        refine Sm_run K ek_M_copy 22 6 rfl ?_
        exact Sm_le (leR_s (leR_s (leR_s (leR_s (leR_s (leR_s (leR_n (leR_s (leR_n leR_nil))))))))) (s_M_copy_53 K hQ ih _ _ _ _ _ _ _ _ _ h)
set_option maxHeartbeats 4000000 in
set_option maxRecDepth 100000 in
theorem s_M_copy_0 {G : Gx} {X : Cx} {res : Int32 × A_W} (K : Ok G X 4 c_M_copy 9 (some .int) rm_M_copy) (hQ : QQ G X (some (.int res.1)) res.2 0 0) (t : Nat) (x1 : Int32) (x2 : Int32) (x3 : Int32) (x4 : Int32) (x5 : Int32) (w : A_W) (h : F_M_copy_0 t x1 x2 x3 x4 x5 w = some res) : Sm G X w 0 0 [some (.ref t), some (.int x1), some (.int x2), some (.int x3), some (.int x4), some (.int x5), none, none, none] [] 0 := by
  unfold F_M_copy_0 at h
  refine Sm_run K ek_M_copy 0 6 rfl ?_
  obtain ⟨o2, e_o2, h⟩ := Option.bind_eq_some_iff.mp h
  obtain ⟨p1, e_p1, h⟩ := Option.bind_eq_some_iff.mp h
  refine Sm_callV K (eok_i (eo ek_M_copy (i := 6) rfl) rfl) cy_M_notCopied im_M_notCopied se_M_notCopied (lgm 1180 (by decide +kernel) rfl) ⟨Nat.le_of_ble_eq_true rfl, Nat.le_of_ble_eq_true rfl⟩ (as := [.int x1, .int x2, .int x3, .int x4, .int x5]) (b := t) (st := []) (ob_e e_o2) (by decide) rfl rfl rfl rfl (Nat.le_of_ble_eq_true rfl) ⟨Nat.le_of_ble_eq_true rfl, Nat.le_of_ble_eq_true rfl⟩ (cn_M_notCopied e_p1) ?_
  refine Sm_eq (st1 := .int p1.1 :: []) (nc1 := 0) (ns1 := 0) rfl rfl rfl ?_
  refine Sm_run K ek_M_copy 7 2 rfl ?_
  refine Sm_if_eq K (eo ek_M_copy (i := 9) rfl) (fun c3 => ?_) (fun c3 => ?_)
  · rw [if_pos c3] at h
    refine Sm_run K ek_M_copy 14 2 rfl ?_
    exact Sm_le (leR_s (leR_s (leR_s (leR_s (leR_s (leR_s (leR_n (leR_s (leR_n leR_nil))))))))) (s_M_copy_28 K hQ FU _ _ _ _ _ _ _ _ h)
  · rw [if_neg c3] at h
    refine Sm_run K ek_M_copy 10 2 rfl ?_
    obtain ⟨o5, e_o5, h⟩ := Option.bind_eq_some_iff.mp h
    obtain ⟨p4, e_p4, h⟩ := Option.bind_eq_some_iff.mp h
    refine Sm_callV K (eok_i (eo ek_M_copy (i := 12) rfl) rfl) cy_M_finds im_M_finds se_M_finds (lgm 826 (by decide +kernel) rfl) ⟨Nat.le_of_ble_eq_true rfl, Nat.le_of_ble_eq_true rfl⟩ (as := [.int p1.1]) (b := t) (st := []) (ob_e e_o5) (by decide) rfl rfl rfl rfl (Nat.le_of_ble_eq_true rfl) ⟨Nat.le_of_ble_eq_true rfl, Nat.le_of_ble_eq_true rfl⟩ (cn_M_finds e_p4) ?_
    refine Sm_eq (st1 := .int p4.1 :: []) (nc1 := 0) (ns1 := 0) rfl rfl rfl ?_
    obtain rfl := Option.some.inj h
    exact Sm_reti K hQ (eok_i (eo ek_M_copy (i := 13) rfl) rfl)
def F_M_copy (t : Nat) (x1 : Int32) (x2 : Int32) (x3 : Int32) (x4 : Int32) (x5 : Int32) (w : A_W) : Option (Int32 × A_W) := F_M_copy_0 t x1 x2 x3 x4 x5 w
theorem cn_M_copy {G : Gx} {t : Nat} {x1 : Int32} {x2 : Int32} {x3 : Int32} {x4 : Int32} {x5 : Int32} {w : A_W} {res : Int32 × A_W} (h : F_M_copy t x1 x2 x3 x4 x5 w = some res) : Cn G y_M_copy c_M_copy 9 (some .int) rm_M_copy [.ref t, .int x1, .int x2, .int x3, .int x4, .int x5] w (some (.int res.1)) res.2 :=
  Cn_of (own := 4) cy_M_copy rfl rfl (Nat.le_of_ble_eq_true rfl) rfl (fun X K _ hQ => Sm_le (leR_s (leR_s (leR_s (leR_s (leR_s (leR_s (leR_n (leR_n (leR_n leR_nil))))))))) (s_M_copy_0 K hQ _ _ _ _ _ _ _ h))
/-! EveningCloakModel.load(I)I -/
abbrev c_M_load : ByteArray := prog_6_method_95_code
def y_M_load : MethodName := ⟨"EveningCloakModel", "load", "(I)I"⟩
def rm_M_load : Room := { frames := 3, cells := 0, slots := 0, locals := 63 }
theorem cy_M_load : Cy y_M_load c_M_load 4 (some .int) 1 := ⟨lgm 1187 (by decide +kernel) rfl, lgm 73 (by decide +kernel) rfl, by decide +kernel, by decide +kernel⟩
theorem im_M_load : Cond.instanceMethod y_M_load ∈ lg := lgm 1185 (by decide +kernel) rfl
theorem se_M_load : Cond.selects y_M_load.cls y_M_load y_M_load ∈ lg := lgm 1186 (by decide +kernel) rfl
def e_M_load : List Ent := [
  (0, .aload_n 0, 1, 1, .null, 0, 0, 0),
  (1, .iload_n 1, 1, 2, .null, 0, 0, 0),
  (2, .invokevirtual 169, 3, 5, .null, 0, 0, 0),
  (5, .istore_n 2, 1, 6, .null, 0, 0, 0),
  (6, .iload_n 2, 1, 7, .null, 0, 0, 0),
  (7, .ifCond .eq 9, 3, 16, .null, 0, 0, 0),
  (10, .aload_n 0, 1, 11, .null, 0, 0, 0),
  (11, .iload_n 2, 1, 12, .null, 0, 0, 0),
  (12, .invokevirtual 36, 3, 15, .null, 0, 0, 0),
  (15, .ireturn, 1, 16, .null, 0, 0, 0),
  (16, .iconst 0, 1, 17, .int 0, 0, 0, 0),
  (17, .istore_n 3, 1, 18, .null, 0, 0, 0),
  (18, .iload_n 3, 1, 19, .null, 0, 0, 0),
  (19, .aload_n 0, 1, 20, .null, 0, 0, 0),
  (20, .getfield 25, 3, 23, .null, 4, 6, 768),
  (23, .iload_n 1, 1, 24, .null, 0, 0, 0),
  (24, .iaload, 1, 25, .null, 0, 0, 0),
  (25, .if_icmp .ge 56, 3, 81, .null, 0, 0, 0),
  (28, .iload_n 3, 1, 29, .null, 0, 0, 0),
  (29, .aload_n 0, 1, 30, .null, 0, 0, 0),
  (30, .getfield 9, 3, 33, .null, 4, 0, 762),
  (33, .iconst 3, 1, 34, .int 3, 0, 0, 0),
  (34, .iaload, 1, 35, .null, 0, 0, 0),
  (35, .if_icmp .ge 46, 3, 81, .null, 0, 0, 0),
  (38, .aload_n 0, 1, 39, .null, 0, 0, 0),
  (39, .getfield 28, 3, 42, .null, 4, 7, 769),
  (42, .bipush 40, 2, 44, .int 40, 0, 0, 0),
  (44, .iload_n 1, 1, 45, .null, 0, 0, 0),
  (45, .imul, 1, 46, .null, 0, 0, 0),
  (46, .iload_n 3, 1, 47, .null, 0, 0, 0),
  (47, .iadd, 1, 48, .null, 0, 0, 0),
  (48, .iaload, 1, 49, .null, 0, 0, 0),
  (49, .iconst 0, 1, 50, .int 0, 0, 0, 0),
  (50, .bipush 99, 2, 52, .int 99, 0, 0, 0),
  (52, .invokestatic 40, 3, 55, .null, 0, 0, 0),
  (55, .ifCond .eq 26, 3, 81, .null, 0, 0, 0),
  (58, .aload_n 0, 1, 59, .null, 0, 0, 0),
  (59, .iload_n 3, 1, 60, .null, 0, 0, 0),
  (60, .iconst 2, 1, 61, .int 2, 0, 0, 0),
  (61, .aload_n 0, 1, 62, .null, 0, 0, 0),
  (62, .getfield 28, 3, 65, .null, 4, 7, 769),
  (65, .bipush 40, 2, 67, .int 40, 0, 0, 0),
  (67, .iload_n 1, 1, 68, .null, 0, 0, 0),
  (68, .imul, 1, 69, .null, 0, 0, 0),
  (69, .iload_n 3, 1, 70, .null, 0, 0, 0),
  (70, .iadd, 1, 71, .null, 0, 0, 0),
  (71, .iaload, 1, 72, .null, 0, 0, 0),
  (72, .invokevirtual 74, 3, 75, .null, 0, 0, 0),
  (75, .iinc 3 1, 3, 78, .int 1, 0, 0, 0),
  (78, .goto (-60), 3, 18, .null, 0, 0, 0),
  (81, .iload_n 3, 1, 82, .null, 0, 0, 0),
  (82, .ireturn, 1, 83, .null, 0, 0, 0)]
set_option maxRecDepth 100000 in
theorem ek_M_load : e_M_load.all (eok 4 c_M_load) = true := by decide +kernel
def F_M_load_81 (x3 : Int32) (w : A_W) : Option (Int32 × A_W) :=
  some (x3, w)
def F_M_load_18 : Nat → Nat → Int32 → Int32 → A_W → Option (Int32 × A_W)
  | 0, _, _, _, _ => none
  | n + 1, t, x1, x3, w =>
    (gr w t 4 6).bind fun a1 =>
    (rd w a1 x1).bind fun v2 =>
    if v2 ≤ x3 then
      F_M_load_81 x3 w
    else
      (gr w t 4 0).bind fun a4 =>
      (rd w a4 3).bind fun v5 =>
      if v5 ≤ x3 then
        F_M_load_81 x3 w
      else
        (gr w t 4 7).bind fun a7 =>
        (rd w a7 ((40 * x1) + x3)).bind fun v8 =>
        (F_M_in v8 0 99 w).bind fun p9 =>
        if p9.1 = 0 then
          F_M_load_81 x3 p9.2
        else
          (gr p9.2 t 4 7).bind fun a11 =>
          (rd p9.2 a11 ((40 * x1) + x3)).bind fun v12 =>
          (ob p9.2 t 4).bind fun o14 =>
          (F_M_put t x3 2 v12 p9.2).bind fun p13 =>
          F_M_load_18 n t x1 (x3 + 1) p13
def F_M_load_0 (t : Nat) (x1 : Int32) (w : A_W) : Option (Int32 × A_W) :=
  (ob w t 4).bind fun o2 =>
  (F_M_notThere t x1 w).bind fun p1 =>
  if p1.1 = 0 then
    F_M_load_18 FU t x1 0 p1.2
  else
    (ob p1.2 t 4).bind fun o5 =>
    (F_M_finds t p1.1 p1.2).bind fun p4 =>
    some (p4.1, p4.2)
set_option maxHeartbeats 4000000 in
set_option maxRecDepth 100000 in
theorem s_M_load_81 {G : Gx} {X : Cx} {res : Int32 × A_W} (K : Ok G X 4 c_M_load 4 (some .int) rm_M_load) (hQ : QQ G X (some (.int res.1)) res.2 0 0) (x3 : Int32) (w : A_W) (h : F_M_load_81 x3 w = some res) : Sm G X w 0 0 [none, none, none, some (.int x3)] [] 81 := by
  unfold F_M_load_81 at h
  refine Sm_run K ek_M_load 50 1 rfl ?_
  obtain rfl := Option.some.inj h
  exact Sm_reti K hQ (eok_i (eo ek_M_load (i := 51) rfl) rfl)
set_option maxHeartbeats 4000000 in
set_option maxRecDepth 100000 in
theorem s_M_load_18 {G : Gx} {X : Cx} {res : Int32 × A_W} (K : Ok G X 4 c_M_load 4 (some .int) rm_M_load) (hQ : QQ G X (some (.int res.1)) res.2 0 0) : ∀ (n : Nat) (t : Nat) (x1 : Int32) (x3 : Int32) (w : A_W), F_M_load_18 n t x1 x3 w = some res → Sm G X w 0 0 [some (.ref t), some (.int x1), none, some (.int x3)] [] 18 := by
  intro n
  induction n with
  | zero => intro t x1 x3 w h; cases h
  | succ n ih =>
    intro t x1 x3 w h
    rw [F_M_load_18] at h
    refine Sm_run K ek_M_load 12 2 rfl ?_
    obtain ⟨a1, e_a1, h⟩ := Option.bind_eq_some_iff.mp h
    refine Sm_gr K (eo ek_M_load (i := 14) rfl) e_a1 ?_
    refine Sm_run K ek_M_load 15 1 rfl ?_
    obtain ⟨v2, e_v2, h⟩ := Option.bind_eq_some_iff.mp h
    refine Sm_rd K (eok_i (eo ek_M_load (i := 16) rfl) rfl) e_v2 ?_
    refine Sm_ic_ge K (eo ek_M_load (i := 17) rfl) (fun c3 => ?_) (fun c3 => ?_)
    · rw [if_pos c3] at h
      exact Sm_le (leR_n (leR_n (leR_n (leR_s leR_nil)))) (s_M_load_81 K hQ _ _ h)
    · rw [if_neg c3] at h
      refine Sm_run K ek_M_load 18 2 rfl ?_
      obtain ⟨a4, e_a4, h⟩ := Option.bind_eq_some_iff.mp h
      refine Sm_gr K (eo ek_M_load (i := 20) rfl) e_a4 ?_
      refine Sm_run K ek_M_load 21 1 rfl ?_
      obtain ⟨v5, e_v5, h⟩ := Option.bind_eq_some_iff.mp h
      refine Sm_rd K (eok_i (eo ek_M_load (i := 22) rfl) rfl) e_v5 ?_
      refine Sm_ic_ge K (eo ek_M_load (i := 23) rfl) (fun c6 => ?_) (fun c6 => ?_)
      · rw [if_pos c6] at h
        exact Sm_le (leR_n (leR_n (leR_n (leR_s leR_nil)))) (s_M_load_81 K hQ _ _ h)
      · rw [if_neg c6] at h
        refine Sm_run K ek_M_load 24 1 rfl ?_
        obtain ⟨a7, e_a7, h⟩ := Option.bind_eq_some_iff.mp h
        refine Sm_gr K (eo ek_M_load (i := 25) rfl) e_a7 ?_
        refine Sm_run K ek_M_load 26 5 rfl ?_
        obtain ⟨v8, e_v8, h⟩ := Option.bind_eq_some_iff.mp h
        refine Sm_rd K (eok_i (eo ek_M_load (i := 31) rfl) rfl) e_v8 ?_
        refine Sm_run K ek_M_load 32 2 rfl ?_
        obtain ⟨p9, e_p9, h⟩ := Option.bind_eq_some_iff.mp h
        refine Sm_callS K (eok_i (eo ek_M_load (i := 34) rfl) rfl) cy_M_in st_M_in (lgm 815 (by decide +kernel) rfl) ⟨Nat.le_of_ble_eq_true rfl, Nat.le_of_ble_eq_true rfl⟩ (as := [.int v8, .int 0, .int 99]) (st := []) rfl rfl rfl (Nat.le_of_ble_eq_true rfl) ⟨Nat.le_of_ble_eq_true rfl, Nat.le_of_ble_eq_true rfl⟩ (cn_M_in e_p9) ?_
        refine Sm_eq (st1 := .int p9.1 :: []) (nc1 := 0) (ns1 := 0) rfl rfl rfl ?_
        refine Sm_if_eq K (eo ek_M_load (i := 35) rfl) (fun c10 => ?_) (fun c10 => ?_)
        · rw [if_pos c10] at h
          exact Sm_le (leR_n (leR_n (leR_n (leR_s leR_nil)))) (s_M_load_81 K hQ _ _ h)
        · rw [if_neg c10] at h
          refine Sm_run K ek_M_load 36 4 rfl ?_
          obtain ⟨a11, e_a11, h⟩ := Option.bind_eq_some_iff.mp h
          refine Sm_gr K (eo ek_M_load (i := 40) rfl) e_a11 ?_
          refine Sm_run K ek_M_load 41 5 rfl ?_
          obtain ⟨v12, e_v12, h⟩ := Option.bind_eq_some_iff.mp h
          refine Sm_rd K (eok_i (eo ek_M_load (i := 46) rfl) rfl) e_v12 ?_
          obtain ⟨o14, e_o14, h⟩ := Option.bind_eq_some_iff.mp h
          obtain ⟨p13, e_p13, h⟩ := Option.bind_eq_some_iff.mp h
          refine Sm_callV K (eok_i (eo ek_M_load (i := 47) rfl) rfl) cy_M_put im_M_put se_M_put (lgm 843 (by decide +kernel) rfl) ⟨Nat.le_of_ble_eq_true rfl, Nat.le_of_ble_eq_true rfl⟩ (as := [.int x3, .int 2, .int v12]) (b := t) (st := []) (ob_e e_o14) (by decide) rfl rfl rfl rfl (Nat.le_of_ble_eq_true rfl) ⟨Nat.le_of_ble_eq_true rfl, Nat.le_of_ble_eq_true rfl⟩ (cn_M_put e_p13) ?_
          refine Sm_eq (st1 := []) (nc1 := 0) (ns1 := 0) rfl rfl rfl ?_
          refine Sm_run K ek_M_load 48 2 rfl ?_
          exact Sm_le (leR_s (leR_s (leR_n (leR_s leR_nil)))) (ih _ _ _ _ h)
set_option maxHeartbeats 4000000 in
set_option maxRecDepth 100000 in
theorem s_M_load_0 {G : Gx} {X : Cx} {res : Int32 × A_W} (K : Ok G X 4 c_M_load 4 (some .int) rm_M_load) (hQ : QQ G X (some (.int res.1)) res.2 0 0) (t : Nat) (x1 : Int32) (w : A_W) (h : F_M_load_0 t x1 w = some res) : Sm G X w 0 0 [some (.ref t), some (.int x1), none, none] [] 0 := by
  unfold F_M_load_0 at h
  refine Sm_run K ek_M_load 0 2 rfl ?_
  obtain ⟨o2, e_o2, h⟩ := Option.bind_eq_some_iff.mp h
  obtain ⟨p1, e_p1, h⟩ := Option.bind_eq_some_iff.mp h
  refine Sm_callV K (eok_i (eo ek_M_load (i := 2) rfl) rfl) cy_M_notThere im_M_notThere se_M_notThere (lgm 1058 (by decide +kernel) rfl) ⟨Nat.le_of_ble_eq_true rfl, Nat.le_of_ble_eq_true rfl⟩ (as := [.int x1]) (b := t) (st := []) (ob_e e_o2) (by decide) rfl rfl rfl rfl (Nat.le_of_ble_eq_true rfl) ⟨Nat.le_of_ble_eq_true rfl, Nat.le_of_ble_eq_true rfl⟩ (cn_M_notThere e_p1) ?_
  refine Sm_eq (st1 := .int p1.1 :: []) (nc1 := 0) (ns1 := 0) rfl rfl rfl ?_
  refine Sm_run K ek_M_load 3 2 rfl ?_
  refine Sm_if_eq K (eo ek_M_load (i := 5) rfl) (fun c3 => ?_) (fun c3 => ?_)
  · rw [if_pos c3] at h
    refine Sm_run K ek_M_load 10 2 rfl ?_
    exact Sm_le (leR_s (leR_s (leR_n (leR_s leR_nil)))) (s_M_load_18 K hQ FU _ _ _ _ h)
  · rw [if_neg c3] at h
    refine Sm_run K ek_M_load 6 2 rfl ?_
    obtain ⟨o5, e_o5, h⟩ := Option.bind_eq_some_iff.mp h
    obtain ⟨p4, e_p4, h⟩ := Option.bind_eq_some_iff.mp h
    refine Sm_callV K (eok_i (eo ek_M_load (i := 8) rfl) rfl) cy_M_finds im_M_finds se_M_finds (lgm 826 (by decide +kernel) rfl) ⟨Nat.le_of_ble_eq_true rfl, Nat.le_of_ble_eq_true rfl⟩ (as := [.int p1.1]) (b := t) (st := []) (ob_e e_o5) (by decide) rfl rfl rfl rfl (Nat.le_of_ble_eq_true rfl) ⟨Nat.le_of_ble_eq_true rfl, Nat.le_of_ble_eq_true rfl⟩ (cn_M_finds e_p4) ?_
    refine Sm_eq (st1 := .int p4.1 :: []) (nc1 := 0) (ns1 := 0) rfl rfl rfl ?_
    obtain rfl := Option.some.inj h
    exact Sm_reti K hQ (eok_i (eo ek_M_load (i := 9) rfl) rfl)
def F_M_load (t : Nat) (x1 : Int32) (w : A_W) : Option (Int32 × A_W) := F_M_load_0 t x1 w
theorem cn_M_load {G : Gx} {t : Nat} {x1 : Int32} {w : A_W} {res : Int32 × A_W} (h : F_M_load t x1 w = some res) : Cn G y_M_load c_M_load 4 (some .int) rm_M_load [.ref t, .int x1] w (some (.int res.1)) res.2 :=
  Cn_of (own := 4) cy_M_load rfl rfl (Nat.le_of_ble_eq_true rfl) rfl (fun X K _ hQ => Sm_le (leR_s (leR_s (leR_n (leR_n leR_nil)))) (s_M_load_0 K hQ _ _ _ h))
/-! EveningCloakModel.judge(I)I -/
abbrev c_M_judge : ByteArray := prog_6_method_96_code
def y_M_judge : MethodName := ⟨"EveningCloakModel", "judge", "(I)I"⟩
def rm_M_judge : Room := { frames := 3, cells := 0, slots := 0, locals := 63 }
theorem cy_M_judge : Cy y_M_judge c_M_judge 4 (some .int) 1 := ⟨lgm 1191 (by decide +kernel) rfl, lgm 73 (by decide +kernel) rfl, by decide +kernel, by decide +kernel⟩
theorem im_M_judge : Cond.instanceMethod y_M_judge ∈ lg := lgm 1189 (by decide +kernel) rfl
theorem se_M_judge : Cond.selects y_M_judge.cls y_M_judge y_M_judge ∈ lg := lgm 1190 (by decide +kernel) rfl
def e_M_judge : List Ent := [
  (0, .aload_n 0, 1, 1, .null, 0, 0, 0),
  (1, .iload_n 1, 1, 2, .null, 0, 0, 0),
  (2, .invokevirtual 169, 3, 5, .null, 0, 0, 0),
  (5, .istore_n 2, 1, 6, .null, 0, 0, 0),
  (6, .iload_n 2, 1, 7, .null, 0, 0, 0),
  (7, .ifCond .eq 9, 3, 16, .null, 0, 0, 0),
  (10, .aload_n 0, 1, 11, .null, 0, 0, 0),
  (11, .iload_n 2, 1, 12, .null, 0, 0, 0),
  (12, .invokevirtual 36, 3, 15, .null, 0, 0, 0),
  (15, .ireturn, 1, 16, .null, 0, 0, 0),
  (16, .iconst 0, 1, 17, .int 0, 0, 0, 0),
  (17, .istore_n 3, 1, 18, .null, 0, 0, 0),
  (18, .iload_n 3, 1, 19, .null, 0, 0, 0),
  (19, .aload_n 0, 1, 20, .null, 0, 0, 0),
  (20, .getfield 25, 3, 23, .null, 4, 6, 768),
  (23, .iload_n 1, 1, 24, .null, 0, 0, 0),
  (24, .iaload, 1, 25, .null, 0, 0, 0),
  (25, .if_icmp .ge 41, 3, 66, .null, 0, 0, 0),
  (28, .aload_n 0, 1, 29, .null, 0, 0, 0),
  (29, .iload_n 3, 1, 30, .null, 0, 0, 0),
  (30, .invokevirtual 88, 3, 33, .null, 0, 0, 0),
  (33, .ifCond .eq 23, 3, 56, .null, 0, 0, 0),
  (36, .aload_n 0, 1, 37, .null, 0, 0, 0),
  (37, .getfield 28, 3, 40, .null, 4, 7, 769),
  (40, .bipush 40, 2, 42, .int 40, 0, 0, 0),
  (42, .iload_n 1, 1, 43, .null, 0, 0, 0),
  (43, .imul, 1, 44, .null, 0, 0, 0),
  (44, .iload_n 3, 1, 45, .null, 0, 0, 0),
  (45, .iadd, 1, 46, .null, 0, 0, 0),
  (46, .iaload, 1, 47, .null, 0, 0, 0),
  (47, .aload_n 0, 1, 48, .null, 0, 0, 0),
  (48, .iload_n 3, 1, 49, .null, 0, 0, 0),
  (49, .iconst 4, 1, 50, .int 4, 0, 0, 0),
  (50, .invokevirtual 44, 3, 53, .null, 0, 0, 0),
  (53, .if_icmp .eq 7, 3, 60, .null, 0, 0, 0),
  (56, .iconst 1, 1, 57, .int 1, 0, 0, 0),
  (57, .iload_n 3, 1, 58, .null, 0, 0, 0),
  (58, .iadd, 1, 59, .null, 0, 0, 0),
  (59, .ireturn, 1, 60, .null, 0, 0, 0),
  (60, .iinc 3 1, 3, 63, .int 1, 0, 0, 0),
  (63, .goto (-45), 3, 18, .null, 0, 0, 0),
  (66, .iconst 0, 1, 67, .int 0, 0, 0, 0),
  (67, .ireturn, 1, 68, .null, 0, 0, 0)]
set_option maxRecDepth 100000 in
theorem ek_M_judge : e_M_judge.all (eok 4 c_M_judge) = true := by decide +kernel
def F_M_judge_56 (x3 : Int32) (w : A_W) : Option (Int32 × A_W) :=
  some ((1 + x3), w)
def F_M_judge_18 : Nat → Nat → Int32 → Int32 → A_W → Option (Int32 × A_W)
  | 0, _, _, _, _ => none
  | n + 1, t, x1, x3, w =>
    (gr w t 4 6).bind fun a1 =>
    (rd w a1 x1).bind fun v2 =>
    if v2 ≤ x3 then
      some (0, w)
    else
      (ob w t 4).bind fun o5 =>
      (F_M_isDeposit t x3 w).bind fun p4 =>
      if p4.1 = 0 then
        F_M_judge_56 x3 p4.2
      else
        (gr p4.2 t 4 7).bind fun a7 =>
        (rd p4.2 a7 ((40 * x1) + x3)).bind fun v8 =>
        (ob p4.2 t 4).bind fun o10 =>
        (F_M_it t x3 4 p4.2).bind fun p9 =>
        if v8 = p9.1 then
          F_M_judge_18 n t x1 (x3 + 1) p9.2
        else
          F_M_judge_56 x3 p9.2
def F_M_judge_0 (t : Nat) (x1 : Int32) (w : A_W) : Option (Int32 × A_W) :=
  (ob w t 4).bind fun o2 =>
  (F_M_notThere t x1 w).bind fun p1 =>
  if p1.1 = 0 then
    F_M_judge_18 FU t x1 0 p1.2
  else
    (ob p1.2 t 4).bind fun o5 =>
    (F_M_finds t p1.1 p1.2).bind fun p4 =>
    some (p4.1, p4.2)
set_option maxHeartbeats 4000000 in
set_option maxRecDepth 100000 in
theorem s_M_judge_56 {G : Gx} {X : Cx} {res : Int32 × A_W} (K : Ok G X 4 c_M_judge 4 (some .int) rm_M_judge) (hQ : QQ G X (some (.int res.1)) res.2 0 0) (x3 : Int32) (w : A_W) (h : F_M_judge_56 x3 w = some res) : Sm G X w 0 0 [none, none, none, some (.int x3)] [] 56 := by
  unfold F_M_judge_56 at h
  refine Sm_run K ek_M_judge 35 3 rfl ?_
  obtain rfl := Option.some.inj h
  exact Sm_reti K hQ (eok_i (eo ek_M_judge (i := 38) rfl) rfl)
set_option maxHeartbeats 4000000 in
set_option maxRecDepth 100000 in
theorem s_M_judge_18 {G : Gx} {X : Cx} {res : Int32 × A_W} (K : Ok G X 4 c_M_judge 4 (some .int) rm_M_judge) (hQ : QQ G X (some (.int res.1)) res.2 0 0) : ∀ (n : Nat) (t : Nat) (x1 : Int32) (x3 : Int32) (w : A_W), F_M_judge_18 n t x1 x3 w = some res → Sm G X w 0 0 [some (.ref t), some (.int x1), none, some (.int x3)] [] 18 := by
  intro n
  induction n with
  | zero => intro t x1 x3 w h; cases h
  | succ n ih =>
    intro t x1 x3 w h
    rw [F_M_judge_18] at h
    refine Sm_run K ek_M_judge 12 2 rfl ?_
    obtain ⟨a1, e_a1, h⟩ := Option.bind_eq_some_iff.mp h
    refine Sm_gr K (eo ek_M_judge (i := 14) rfl) e_a1 ?_
    refine Sm_run K ek_M_judge 15 1 rfl ?_
    obtain ⟨v2, e_v2, h⟩ := Option.bind_eq_some_iff.mp h
    refine Sm_rd K (eok_i (eo ek_M_judge (i := 16) rfl) rfl) e_v2 ?_
    refine Sm_ic_ge K (eo ek_M_judge (i := 17) rfl) (fun c3 => ?_) (fun c3 => ?_)
    · rw [if_pos c3] at h
      refine Sm_run K ek_M_judge 41 1 rfl ?_
      obtain rfl := Option.some.inj h
      exact Sm_reti K hQ (eok_i (eo ek_M_judge (i := 42) rfl) rfl)
    · rw [if_neg c3] at h
      refine Sm_run K ek_M_judge 18 2 rfl ?_
      obtain ⟨o5, e_o5, h⟩ := Option.bind_eq_some_iff.mp h
      obtain ⟨p4, e_p4, h⟩ := Option.bind_eq_some_iff.mp h
      refine Sm_callV K (eok_i (eo ek_M_judge (i := 20) rfl) rfl) cy_M_isDeposit im_M_isDeposit se_M_isDeposit (lgm 863 (by decide +kernel) rfl) ⟨Nat.le_of_ble_eq_true rfl, Nat.le_of_ble_eq_true rfl⟩ (as := [.int x3]) (b := t) (st := []) (ob_e e_o5) (by decide) rfl rfl rfl rfl (Nat.le_of_ble_eq_true rfl) ⟨Nat.le_of_ble_eq_true rfl, Nat.le_of_ble_eq_true rfl⟩ (cn_M_isDeposit e_p4) ?_
      refine Sm_eq (st1 := .int p4.1 :: []) (nc1 := 0) (ns1 := 0) rfl rfl rfl ?_
      refine Sm_if_eq K (eo ek_M_judge (i := 21) rfl) (fun c6 => ?_) (fun c6 => ?_)
      · rw [if_pos c6] at h
        exact Sm_le (leR_n (leR_n (leR_n (leR_s leR_nil)))) (s_M_judge_56 K hQ _ _ h)
      · rw [if_neg c6] at h
        refine Sm_run K ek_M_judge 22 1 rfl ?_
        obtain ⟨a7, e_a7, h⟩ := Option.bind_eq_some_iff.mp h
        refine Sm_gr K (eo ek_M_judge (i := 23) rfl) e_a7 ?_
        refine Sm_run K ek_M_judge 24 5 rfl ?_
        obtain ⟨v8, e_v8, h⟩ := Option.bind_eq_some_iff.mp h
        refine Sm_rd K (eok_i (eo ek_M_judge (i := 29) rfl) rfl) e_v8 ?_
        refine Sm_run K ek_M_judge 30 3 rfl ?_
        obtain ⟨o10, e_o10, h⟩ := Option.bind_eq_some_iff.mp h
        obtain ⟨p9, e_p9, h⟩ := Option.bind_eq_some_iff.mp h
        refine Sm_callV K (eok_i (eo ek_M_judge (i := 33) rfl) rfl) cy_M_it im_M_it se_M_it (lgm 871 (by decide +kernel) rfl) ⟨Nat.le_of_ble_eq_true rfl, Nat.le_of_ble_eq_true rfl⟩ (as := [.int x3, .int 4]) (b := t) (st := [.int v8]) (ob_e e_o10) (by decide) rfl rfl rfl rfl (Nat.le_of_ble_eq_true rfl) ⟨Nat.le_of_ble_eq_true rfl, Nat.le_of_ble_eq_true rfl⟩ (cn_M_it e_p9) ?_
        refine Sm_eq (st1 := .int p9.1 :: [.int v8]) (nc1 := 0) (ns1 := 0) rfl rfl rfl ?_
        refine Sm_ic_eq K (eo ek_M_judge (i := 34) rfl) (fun c11 => ?_) (fun c11 => ?_)
        · rw [if_pos c11] at h
          refine Sm_run K ek_M_judge 39 2 rfl ?_
          exact Sm_le (leR_s (leR_s (leR_n (leR_s leR_nil)))) (ih _ _ _ _ h)
        · rw [if_neg c11] at h
          exact Sm_le (leR_n (leR_n (leR_n (leR_s leR_nil)))) (s_M_judge_56 K hQ _ _ h)
set_option maxHeartbeats 4000000 in
set_option maxRecDepth 100000 in
theorem s_M_judge_0 {G : Gx} {X : Cx} {res : Int32 × A_W} (K : Ok G X 4 c_M_judge 4 (some .int) rm_M_judge) (hQ : QQ G X (some (.int res.1)) res.2 0 0) (t : Nat) (x1 : Int32) (w : A_W) (h : F_M_judge_0 t x1 w = some res) : Sm G X w 0 0 [some (.ref t), some (.int x1), none, none] [] 0 := by
  unfold F_M_judge_0 at h
  refine Sm_run K ek_M_judge 0 2 rfl ?_
  obtain ⟨o2, e_o2, h⟩ := Option.bind_eq_some_iff.mp h
  obtain ⟨p1, e_p1, h⟩ := Option.bind_eq_some_iff.mp h
  refine Sm_callV K (eok_i (eo ek_M_judge (i := 2) rfl) rfl) cy_M_notThere im_M_notThere se_M_notThere (lgm 1058 (by decide +kernel) rfl) ⟨Nat.le_of_ble_eq_true rfl, Nat.le_of_ble_eq_true rfl⟩ (as := [.int x1]) (b := t) (st := []) (ob_e e_o2) (by decide) rfl rfl rfl rfl (Nat.le_of_ble_eq_true rfl) ⟨Nat.le_of_ble_eq_true rfl, Nat.le_of_ble_eq_true rfl⟩ (cn_M_notThere e_p1) ?_
  refine Sm_eq (st1 := .int p1.1 :: []) (nc1 := 0) (ns1 := 0) rfl rfl rfl ?_
  refine Sm_run K ek_M_judge 3 2 rfl ?_
  refine Sm_if_eq K (eo ek_M_judge (i := 5) rfl) (fun c3 => ?_) (fun c3 => ?_)
  · rw [if_pos c3] at h
    refine Sm_run K ek_M_judge 10 2 rfl ?_
    exact Sm_le (leR_s (leR_s (leR_n (leR_s leR_nil)))) (s_M_judge_18 K hQ FU _ _ _ _ h)
  · rw [if_neg c3] at h
    refine Sm_run K ek_M_judge 6 2 rfl ?_
    obtain ⟨o5, e_o5, h⟩ := Option.bind_eq_some_iff.mp h
    obtain ⟨p4, e_p4, h⟩ := Option.bind_eq_some_iff.mp h
    refine Sm_callV K (eok_i (eo ek_M_judge (i := 8) rfl) rfl) cy_M_finds im_M_finds se_M_finds (lgm 826 (by decide +kernel) rfl) ⟨Nat.le_of_ble_eq_true rfl, Nat.le_of_ble_eq_true rfl⟩ (as := [.int p1.1]) (b := t) (st := []) (ob_e e_o5) (by decide) rfl rfl rfl rfl (Nat.le_of_ble_eq_true rfl) ⟨Nat.le_of_ble_eq_true rfl, Nat.le_of_ble_eq_true rfl⟩ (cn_M_finds e_p4) ?_
    refine Sm_eq (st1 := .int p4.1 :: []) (nc1 := 0) (ns1 := 0) rfl rfl rfl ?_
    obtain rfl := Option.some.inj h
    exact Sm_reti K hQ (eok_i (eo ek_M_judge (i := 9) rfl) rfl)
def F_M_judge (t : Nat) (x1 : Int32) (w : A_W) : Option (Int32 × A_W) := F_M_judge_0 t x1 w
theorem cn_M_judge {G : Gx} {t : Nat} {x1 : Int32} {w : A_W} {res : Int32 × A_W} (h : F_M_judge t x1 w = some res) : Cn G y_M_judge c_M_judge 4 (some .int) rm_M_judge [.ref t, .int x1] w (some (.int res.1)) res.2 :=
  Cn_of (own := 4) cy_M_judge rfl rfl (Nat.le_of_ble_eq_true rfl) rfl (fun X K _ hQ => Sm_le (leR_s (leR_s (leR_n (leR_n leR_nil)))) (s_M_judge_0 K hQ _ _ _ h))
/-! EveningCloakModel.image()I -/
abbrev c_M_image : ByteArray := prog_6_method_97_code
def y_M_image : MethodName := ⟨"EveningCloakModel", "image", "()I"⟩
def rm_M_image : Room := { frames := 1, cells := 0, slots := 0, locals := 22 }
theorem cy_M_image : Cy y_M_image c_M_image 1 (some .int) 0 := ⟨lgm 1195 (by decide +kernel) rfl, lgm 73 (by decide +kernel) rfl, by decide +kernel, by decide +kernel⟩
theorem im_M_image : Cond.instanceMethod y_M_image ∈ lg := lgm 1193 (by decide +kernel) rfl
theorem se_M_image : Cond.selects y_M_image.cls y_M_image y_M_image ∈ lg := lgm 1194 (by decide +kernel) rfl
def e_M_image : List Ent := [
  (0, .aload_n 0, 1, 1, .null, 0, 0, 0),
  (1, .getfield 9, 3, 4, .null, 4, 0, 762),
  (4, .aload_n 0, 1, 5, .null, 0, 0, 0),
  (5, .getfield 13, 3, 8, .null, 4, 1, 763),
  (8, .invokestatic 138, 3, 11, .null, 0, 0, 0),
  (11, .aload_n 0, 1, 12, .null, 0, 0, 0),
  (12, .iconst 1, 1, 13, .int 1, 0, 0, 0),
  (13, .putfield 254, 3, 16, .null, 4, 3, 765),
  (16, .iconst 1, 1, 17, .int 1, 0, 0, 0),
  (17, .ireturn, 1, 18, .null, 0, 0, 0)]
set_option maxRecDepth 100000 in
theorem ek_M_image : e_M_image.all (eok 4 c_M_image) = true := by decide +kernel
def F_M_image_0 (t : Nat) (w : A_W) : Option (Int32 × A_W) :=
  (gr w t 4 0).bind fun a1 =>
  (gr w t 4 1).bind fun a2 =>
  (F_M_copyAll a1 a2 w).bind fun p3 =>
  (bz 1).bind fun b5 =>
  (pf p3 t 4 3 (.int b5)).bind fun w4 =>
  some (1, w4)
set_option maxHeartbeats 4000000 in
set_option maxRecDepth 100000 in
theorem s_M_image_0 {G : Gx} {X : Cx} {res : Int32 × A_W} (K : Ok G X 4 c_M_image 1 (some .int) rm_M_image) (hQ : QQ G X (some (.int res.1)) res.2 0 0) (t : Nat) (w : A_W) (h : F_M_image_0 t w = some res) : Sm G X w 0 0 [some (.ref t)] [] 0 := by
  unfold F_M_image_0 at h
  refine Sm_run K ek_M_image 0 1 rfl ?_
  obtain ⟨a1, e_a1, h⟩ := Option.bind_eq_some_iff.mp h
  refine Sm_gr K (eo ek_M_image (i := 1) rfl) e_a1 ?_
  refine Sm_run K ek_M_image 2 1 rfl ?_
  obtain ⟨a2, e_a2, h⟩ := Option.bind_eq_some_iff.mp h
  refine Sm_gr K (eo ek_M_image (i := 3) rfl) e_a2 ?_
  obtain ⟨p3, e_p3, h⟩ := Option.bind_eq_some_iff.mp h
  refine Sm_callS K (eok_i (eo ek_M_image (i := 4) rfl) rfl) cy_M_copyAll st_M_copyAll (lgm 984 (by decide +kernel) rfl) ⟨Nat.le_of_ble_eq_true rfl, Nat.le_of_ble_eq_true rfl⟩ (as := [.ref a1, .ref a2]) (st := []) rfl rfl rfl (Nat.le_of_ble_eq_true rfl) ⟨Nat.le_of_ble_eq_true rfl, Nat.le_of_ble_eq_true rfl⟩ (cn_M_copyAll e_p3) ?_
  refine Sm_eq (st1 := []) (nc1 := 0) (ns1 := 0) rfl rfl rfl ?_
  refine Sm_run K ek_M_image 5 2 rfl ?_
  obtain ⟨b5, e_b5, h⟩ := Option.bind_eq_some_iff.mp h
  obtain ⟨w4, e_w4, h⟩ := Option.bind_eq_some_iff.mp h
  refine Sm_pz K (eo ek_M_image (i := 7) rfl) rfl rfl e_b5 e_w4 ?_
  refine Sm_run K ek_M_image 8 1 rfl ?_
  obtain rfl := Option.some.inj h
  exact Sm_reti K hQ (eok_i (eo ek_M_image (i := 9) rfl) rfl)
def F_M_image (t : Nat) (w : A_W) : Option (Int32 × A_W) := F_M_image_0 t w
theorem cn_M_image {G : Gx} {t : Nat} {w : A_W} {res : Int32 × A_W} (h : F_M_image t w = some res) : Cn G y_M_image c_M_image 1 (some .int) rm_M_image [.ref t] w (some (.int res.1)) res.2 :=
  Cn_of (own := 4) cy_M_image rfl rfl (Nat.le_of_ble_eq_true rfl) rfl (fun X K _ hQ => Sm_le (leR_s leR_nil) (s_M_image_0 K hQ _ _ h))
end
section
/-! EveningCloakModel.undo()I -/
abbrev c_M_undo : ByteArray := prog_6_method_98_code
def y_M_undo : MethodName := ⟨"EveningCloakModel", "undo", "()I"⟩
def rm_M_undo : Room := { frames := 1, cells := 0, slots := 0, locals := 22 }
theorem cy_M_undo : Cy y_M_undo c_M_undo 1 (some .int) 0 := ⟨lgm 1199 (by decide +kernel) rfl, lgm 73 (by decide +kernel) rfl, by decide +kernel, by decide +kernel⟩
theorem im_M_undo : Cond.instanceMethod y_M_undo ∈ lg := lgm 1197 (by decide +kernel) rfl
theorem se_M_undo : Cond.selects y_M_undo.cls y_M_undo y_M_undo ∈ lg := lgm 1198 (by decide +kernel) rfl
def e_M_undo : List Ent := [
  (0, .aload_n 0, 1, 1, .null, 0, 0, 0),
  (1, .getfield 254, 3, 4, .null, 4, 3, 765),
  (4, .ifCond .ne 10, 3, 14, .null, 0, 0, 0),
  (7, .aload_n 0, 1, 8, .null, 0, 0, 0),
  (8, .ldc 35, 2, 10, .int (-1000004), 0, 0, 933),
  (10, .invokevirtual 36, 3, 13, .null, 0, 0, 0),
  (13, .ireturn, 1, 14, .null, 0, 0, 0),
  (14, .aload_n 0, 1, 15, .null, 0, 0, 0),
  (15, .getfield 13, 3, 18, .null, 4, 1, 763),
  (18, .aload_n 0, 1, 19, .null, 0, 0, 0),
  (19, .getfield 9, 3, 22, .null, 4, 0, 762),
  (22, .invokestatic 138, 3, 25, .null, 0, 0, 0),
  (25, .aload_n 0, 1, 26, .null, 0, 0, 0),
  (26, .getfield 9, 3, 29, .null, 4, 0, 762),
  (29, .iconst 0, 1, 30, .int 0, 0, 0, 0),
  (30, .iaload, 1, 31, .null, 0, 0, 0),
  (31, .ireturn, 1, 32, .null, 0, 0, 0)]
set_option maxRecDepth 100000 in
theorem ek_M_undo : e_M_undo.all (eok 4 c_M_undo) = true := by decide +kernel
def F_M_undo_0 (t : Nat) (w : A_W) : Option (Int32 × A_W) :=
  (gi w t 4 3).bind fun v1 =>
  if v1 = 0 then
    (ob w t 4).bind fun o9 =>
    (F_M_finds t (-1000004) w).bind fun p8 =>
    some (p8.1, p8.2)
  else
    (gr w t 4 1).bind fun a3 =>
    (gr w t 4 0).bind fun a4 =>
    (F_M_copyAll a3 a4 w).bind fun p5 =>
    (gr p5 t 4 0).bind fun a6 =>
    (rd p5 a6 0).bind fun v7 =>
    some (v7, p5)
set_option maxHeartbeats 4000000 in
set_option maxRecDepth 100000 in
theorem s_M_undo_0 {G : Gx} {X : Cx} {res : Int32 × A_W} (K : Ok G X 4 c_M_undo 1 (some .int) rm_M_undo) (hQ : QQ G X (some (.int res.1)) res.2 0 0) (t : Nat) (w : A_W) (h : F_M_undo_0 t w = some res) : Sm G X w 0 0 [some (.ref t)] [] 0 := by
  unfold F_M_undo_0 at h
  refine Sm_run K ek_M_undo 0 1 rfl ?_
  obtain ⟨v1, e_v1, h⟩ := Option.bind_eq_some_iff.mp h
  refine Sm_gi K (eo ek_M_undo (i := 1) rfl) e_v1 ?_
  refine Sm_if_ne K (eo ek_M_undo (i := 2) rfl) (fun c2 => ?_) (fun c2 => ?_)
  · rw [if_neg c2] at h
    refine Sm_run K ek_M_undo 7 1 rfl ?_
    obtain ⟨a3, e_a3, h⟩ := Option.bind_eq_some_iff.mp h
    refine Sm_gr K (eo ek_M_undo (i := 8) rfl) e_a3 ?_
    refine Sm_run K ek_M_undo 9 1 rfl ?_
    obtain ⟨a4, e_a4, h⟩ := Option.bind_eq_some_iff.mp h
    refine Sm_gr K (eo ek_M_undo (i := 10) rfl) e_a4 ?_
    obtain ⟨p5, e_p5, h⟩ := Option.bind_eq_some_iff.mp h
    refine Sm_callS K (eok_i (eo ek_M_undo (i := 11) rfl) rfl) cy_M_copyAll st_M_copyAll (lgm 984 (by decide +kernel) rfl) ⟨Nat.le_of_ble_eq_true rfl, Nat.le_of_ble_eq_true rfl⟩ (as := [.ref a3, .ref a4]) (st := []) rfl rfl rfl (Nat.le_of_ble_eq_true rfl) ⟨Nat.le_of_ble_eq_true rfl, Nat.le_of_ble_eq_true rfl⟩ (cn_M_copyAll e_p5) ?_
    refine Sm_eq (st1 := []) (nc1 := 0) (ns1 := 0) rfl rfl rfl ?_
    refine Sm_run K ek_M_undo 12 1 rfl ?_
    obtain ⟨a6, e_a6, h⟩ := Option.bind_eq_some_iff.mp h
    refine Sm_gr K (eo ek_M_undo (i := 13) rfl) e_a6 ?_
    refine Sm_run K ek_M_undo 14 1 rfl ?_
    obtain ⟨v7, e_v7, h⟩ := Option.bind_eq_some_iff.mp h
    refine Sm_rd K (eok_i (eo ek_M_undo (i := 15) rfl) rfl) e_v7 ?_
    obtain rfl := Option.some.inj h
    exact Sm_reti K hQ (eok_i (eo ek_M_undo (i := 16) rfl) rfl)
  · rw [if_pos c2] at h
    refine Sm_run K ek_M_undo 3 2 rfl ?_
    obtain ⟨o9, e_o9, h⟩ := Option.bind_eq_some_iff.mp h
    obtain ⟨p8, e_p8, h⟩ := Option.bind_eq_some_iff.mp h
    refine Sm_callV K (eok_i (eo ek_M_undo (i := 5) rfl) rfl) cy_M_finds im_M_finds se_M_finds (lgm 826 (by decide +kernel) rfl) ⟨Nat.le_of_ble_eq_true rfl, Nat.le_of_ble_eq_true rfl⟩ (as := [.int (-1000004)]) (b := t) (st := []) (ob_e e_o9) (by decide) rfl rfl rfl rfl (Nat.le_of_ble_eq_true rfl) ⟨Nat.le_of_ble_eq_true rfl, Nat.le_of_ble_eq_true rfl⟩ (cn_M_finds e_p8) ?_
    refine Sm_eq (st1 := .int p8.1 :: []) (nc1 := 0) (ns1 := 0) rfl rfl rfl ?_
    obtain rfl := Option.some.inj h
    exact Sm_reti K hQ (eok_i (eo ek_M_undo (i := 6) rfl) rfl)
def F_M_undo (t : Nat) (w : A_W) : Option (Int32 × A_W) := F_M_undo_0 t w
theorem cn_M_undo {G : Gx} {t : Nat} {w : A_W} {res : Int32 × A_W} (h : F_M_undo t w = some res) : Cn G y_M_undo c_M_undo 1 (some .int) rm_M_undo [.ref t] w (some (.int res.1)) res.2 :=
  Cn_of (own := 4) cy_M_undo rfl rfl (Nat.le_of_ble_eq_true rfl) rfl (fun X K _ hQ => Sm_le (leR_s leR_nil) (s_M_undo_0 K hQ _ _ h))
/-! EveningCloakModel.tear()I -/
abbrev c_M_tear : ByteArray := prog_6_method_99_code
def y_M_tear : MethodName := ⟨"EveningCloakModel", "tear", "()I"⟩
def rm_M_tear : Room := { frames := 0, cells := 0, slots := 0, locals := 0 }
theorem cy_M_tear : Cy y_M_tear c_M_tear 2 (some .int) 0 := ⟨lgm 1203 (by decide +kernel) rfl, lgm 73 (by decide +kernel) rfl, by decide +kernel, by decide +kernel⟩
theorem im_M_tear : Cond.instanceMethod y_M_tear ∈ lg := lgm 1201 (by decide +kernel) rfl
theorem se_M_tear : Cond.selects y_M_tear.cls y_M_tear y_M_tear ∈ lg := lgm 1202 (by decide +kernel) rfl
def e_M_tear : List Ent := [
  (0, .aload_n 0, 1, 1, .null, 0, 0, 0),
  (1, .getfield 254, 3, 4, .null, 4, 3, 765),
  (4, .ifCond .eq 7, 3, 11, .null, 0, 0, 0),
  (7, .iconst 1, 1, 8, .int 1, 0, 0, 0),
  (8, .goto 4, 3, 12, .null, 0, 0, 0),
  (11, .iconst 0, 1, 12, .int 0, 0, 0, 0),
  (12, .istore_n 1, 1, 13, .null, 0, 0, 0),
  (13, .aload_n 0, 1, 14, .null, 0, 0, 0),
  (14, .iconst 0, 1, 15, .int 0, 0, 0, 0),
  (15, .putfield 254, 3, 18, .null, 4, 3, 765),
  (18, .iload_n 1, 1, 19, .null, 0, 0, 0),
  (19, .ireturn, 1, 20, .null, 0, 0, 0)]
set_option maxRecDepth 100000 in
theorem ek_M_tear : e_M_tear.all (eok 4 c_M_tear) = true := by decide +kernel
def F_M_tear_12 (t : Nat) (y0 : Int32) (w : A_W) : Option (Int32 × A_W) :=
  (bz 0).bind fun b2 =>
  (pf w t 4 3 (.int b2)).bind fun w1 =>
  some (y0, w1)
def F_M_tear_0 (t : Nat) (w : A_W) : Option (Int32 × A_W) :=
  (gi w t 4 3).bind fun v1 =>
  if v1 = 0 then
    F_M_tear_12 t 0 w
  else
    F_M_tear_12 t 1 w
set_option maxHeartbeats 4000000 in
set_option maxRecDepth 100000 in
theorem s_M_tear_12 {G : Gx} {X : Cx} {res : Int32 × A_W} (K : Ok G X 4 c_M_tear 2 (some .int) rm_M_tear) (hQ : QQ G X (some (.int res.1)) res.2 0 0) (t : Nat) (y0 : Int32) (w : A_W) (h : F_M_tear_12 t y0 w = some res) : Sm G X w 0 0 [some (.ref t), none] [.int y0] 12 := by
  unfold F_M_tear_12 at h
  refine Sm_run K ek_M_tear 6 3 rfl ?_
  obtain ⟨b2, e_b2, h⟩ := Option.bind_eq_some_iff.mp h
  obtain ⟨w1, e_w1, h⟩ := Option.bind_eq_some_iff.mp h
  refine Sm_pz K (eo ek_M_tear (i := 9) rfl) rfl rfl e_b2 e_w1 ?_
  refine Sm_run K ek_M_tear 10 1 rfl ?_
  obtain rfl := Option.some.inj h
  exact Sm_reti K hQ (eok_i (eo ek_M_tear (i := 11) rfl) rfl)
set_option maxHeartbeats 4000000 in
set_option maxRecDepth 100000 in
theorem s_M_tear_0 {G : Gx} {X : Cx} {res : Int32 × A_W} (K : Ok G X 4 c_M_tear 2 (some .int) rm_M_tear) (hQ : QQ G X (some (.int res.1)) res.2 0 0) (t : Nat) (w : A_W) (h : F_M_tear_0 t w = some res) : Sm G X w 0 0 [some (.ref t), none] [] 0 := by
  unfold F_M_tear_0 at h
  refine Sm_run K ek_M_tear 0 1 rfl ?_
  obtain ⟨v1, e_v1, h⟩ := Option.bind_eq_some_iff.mp h
  refine Sm_gi K (eo ek_M_tear (i := 1) rfl) e_v1 ?_
  refine Sm_if_eq K (eo ek_M_tear (i := 2) rfl) (fun c2 => ?_) (fun c2 => ?_)
  · rw [if_pos c2] at h
    refine Sm_run K ek_M_tear 5 1 rfl ?_
    exact Sm_le (leR_s (leR_n leR_nil)) (s_M_tear_12 K hQ _ _ _ h)
  · rw [if_neg c2] at h
    refine Sm_run K ek_M_tear 3 2 rfl ?_
    exact Sm_le (leR_s (leR_n leR_nil)) (s_M_tear_12 K hQ _ _ _ h)
def F_M_tear (t : Nat) (w : A_W) : Option (Int32 × A_W) := F_M_tear_0 t w
theorem cn_M_tear {G : Gx} {t : Nat} {w : A_W} {res : Int32 × A_W} (h : F_M_tear t w = some res) : Cn G y_M_tear c_M_tear 2 (some .int) rm_M_tear [.ref t] w (some (.int res.1)) res.2 :=
  Cn_of (own := 4) cy_M_tear rfl rfl (Nat.le_of_ble_eq_true rfl) rfl (fun X K _ hQ => Sm_le (leR_s (leR_n leR_nil)) (s_M_tear_0 K hQ _ _ h))
/-! EveningCloakModel.manyHeld()I -/
abbrev c_M_manyHeld : ByteArray := prog_6_method_100_code
def y_M_manyHeld : MethodName := ⟨"EveningCloakModel", "manyHeld", "()I"⟩
def rm_M_manyHeld : Room := { frames := 0, cells := 0, slots := 0, locals := 0 }
theorem cy_M_manyHeld : Cy y_M_manyHeld c_M_manyHeld 3 (some .int) 0 := ⟨lgm 1211 (by decide +kernel) rfl, lgm 73 (by decide +kernel) rfl, by decide +kernel, by decide +kernel⟩
theorem im_M_manyHeld : Cond.instanceMethod y_M_manyHeld ∈ lg := lgm 1210 (by decide +kernel) rfl
theorem se_M_manyHeld : Cond.selects y_M_manyHeld.cls y_M_manyHeld y_M_manyHeld ∈ lg := lgm 66 (by decide +kernel) rfl
def e_M_manyHeld : List Ent := [
  (0, .iconst 0, 1, 1, .int 0, 0, 0, 0),
  (1, .istore_n 1, 1, 2, .null, 0, 0, 0),
  (2, .bipush 77, 2, 4, .int 77, 0, 0, 0),
  (4, .istore_n 2, 1, 5, .null, 0, 0, 0),
  (5, .iload_n 2, 1, 6, .null, 0, 0, 0),
  (6, .bipush 87, 2, 8, .int 87, 0, 0, 0),
  (8, .if_icmp .ge 26, 3, 34, .null, 0, 0, 0),
  (11, .iload_n 1, 1, 12, .null, 0, 0, 0),
  (12, .aload_n 0, 1, 13, .null, 0, 0, 0),
  (13, .getfield 9, 3, 16, .null, 4, 0, 762),
  (16, .iload_n 2, 1, 17, .null, 0, 0, 0),
  (17, .iaload, 1, 18, .null, 0, 0, 0),
  (18, .ifCond .lt 7, 3, 25, .null, 0, 0, 0),
  (21, .iconst 1, 1, 22, .int 1, 0, 0, 0),
  (22, .goto 4, 3, 26, .null, 0, 0, 0),
  (25, .iconst 0, 1, 26, .int 0, 0, 0, 0),
  (26, .iadd, 1, 27, .null, 0, 0, 0),
  (27, .istore_n 1, 1, 28, .null, 0, 0, 0),
  (28, .iinc 2 1, 3, 31, .int 1, 0, 0, 0),
  (31, .goto (-26), 3, 5, .null, 0, 0, 0),
  (34, .iload_n 1, 1, 35, .null, 0, 0, 0),
  (35, .ireturn, 1, 36, .null, 0, 0, 0)]
set_option maxRecDepth 100000 in
theorem ek_M_manyHeld : e_M_manyHeld.all (eok 4 c_M_manyHeld) = true := by decide +kernel
def F_M_manyHeld_26 (k5 : Nat → Int32 → Int32 → A_W → Option (Int32 × A_W)) (t : Nat) (x2 : Int32) (y0 : Int32) (y1 : Int32) (w : A_W) : Option (Int32 × A_W) :=
  k5 t (y0 + y1) (x2 + 1) w
def F_M_manyHeld_5 : Nat → Nat → Int32 → Int32 → A_W → Option (Int32 × A_W)
  | 0, _, _, _, _ => none
  | n + 1, t, x1, x2, w =>
    if 87 ≤ x2 then
      some (x1, w)
    else
      (gr w t 4 0).bind fun a2 =>
      (rd w a2 x2).bind fun v3 =>
      if v3 < 0 then
        F_M_manyHeld_26 (F_M_manyHeld_5 n) t x2 x1 0 w
      else
        F_M_manyHeld_26 (F_M_manyHeld_5 n) t x2 x1 1 w
def F_M_manyHeld_0 (t : Nat) (w : A_W) : Option (Int32 × A_W) :=
  F_M_manyHeld_5 FU t 0 77 w
set_option maxHeartbeats 4000000 in
set_option maxRecDepth 100000 in
theorem s_M_manyHeld_26 {G : Gx} {X : Cx} {res : Int32 × A_W} (K : Ok G X 4 c_M_manyHeld 3 (some .int) rm_M_manyHeld) (hQ : QQ G X (some (.int res.1)) res.2 0 0) {k5 : Nat → Int32 → Int32 → A_W → Option (Int32 × A_W)} (hk5 : ∀ (t : Nat) (x1 : Int32) (x2 : Int32) (w : A_W), k5 t x1 x2 w = some res → Sm G X w 0 0 [some (.ref t), some (.int x1), some (.int x2)] [] 5) (t : Nat) (x2 : Int32) (y0 : Int32) (y1 : Int32) (w : A_W) (h : F_M_manyHeld_26 k5 t x2 y0 y1 w = some res) : Sm G X w 0 0 [some (.ref t), none, some (.int x2)] [.int y1, .int y0] 26 := by
  unfold F_M_manyHeld_26 at h
  refine Sm_run K ek_M_manyHeld 16 4 rfl ?_
  exact Sm_le (leR_s (leR_s (leR_s leR_nil))) (hk5 _ _ _ _ h)
set_option maxHeartbeats 4000000 in
set_option maxRecDepth 100000 in
theorem s_M_manyHeld_5 {G : Gx} {X : Cx} {res : Int32 × A_W} (K : Ok G X 4 c_M_manyHeld 3 (some .int) rm_M_manyHeld) (hQ : QQ G X (some (.int res.1)) res.2 0 0) : ∀ (n : Nat) (t : Nat) (x1 : Int32) (x2 : Int32) (w : A_W), F_M_manyHeld_5 n t x1 x2 w = some res → Sm G X w 0 0 [some (.ref t), some (.int x1), some (.int x2)] [] 5 := by
  intro n
  induction n with
  | zero => intro t x1 x2 w h; cases h
  | succ n ih =>
    intro t x1 x2 w h
    rw [F_M_manyHeld_5] at h
    refine Sm_run K ek_M_manyHeld 4 2 rfl ?_
    refine Sm_ic_ge K (eo ek_M_manyHeld (i := 6) rfl) (fun c1 => ?_) (fun c1 => ?_)
    · rw [if_pos c1] at h
      refine Sm_run K ek_M_manyHeld 20 1 rfl ?_
      obtain rfl := Option.some.inj h
      exact Sm_reti K hQ (eok_i (eo ek_M_manyHeld (i := 21) rfl) rfl)
    · rw [if_neg c1] at h
      refine Sm_run K ek_M_manyHeld 7 2 rfl ?_
      obtain ⟨a2, e_a2, h⟩ := Option.bind_eq_some_iff.mp h
      refine Sm_gr K (eo ek_M_manyHeld (i := 9) rfl) e_a2 ?_
      refine Sm_run K ek_M_manyHeld 10 1 rfl ?_
      obtain ⟨v3, e_v3, h⟩ := Option.bind_eq_some_iff.mp h
      refine Sm_rd K (eok_i (eo ek_M_manyHeld (i := 11) rfl) rfl) e_v3 ?_
      refine Sm_if_lt K (eo ek_M_manyHeld (i := 12) rfl) (fun c4 => ?_) (fun c4 => ?_)
      · rw [if_pos c4] at h
        refine Sm_run K ek_M_manyHeld 15 1 rfl ?_
        exact Sm_le (leR_s (leR_n (leR_s leR_nil))) (s_M_manyHeld_26 K hQ ih _ _ _ _ _ h)
      · rw [if_neg c4] at h
        refine Sm_run K ek_M_manyHeld 13 2 rfl ?_
        exact Sm_le (leR_s (leR_n (leR_s leR_nil))) (s_M_manyHeld_26 K hQ ih _ _ _ _ _ h)
set_option maxHeartbeats 4000000 in
set_option maxRecDepth 100000 in
theorem s_M_manyHeld_0 {G : Gx} {X : Cx} {res : Int32 × A_W} (K : Ok G X 4 c_M_manyHeld 3 (some .int) rm_M_manyHeld) (hQ : QQ G X (some (.int res.1)) res.2 0 0) (t : Nat) (w : A_W) (h : F_M_manyHeld_0 t w = some res) : Sm G X w 0 0 [some (.ref t), none, none] [] 0 := by
  unfold F_M_manyHeld_0 at h
  refine Sm_run K ek_M_manyHeld 0 4 rfl ?_
  exact Sm_le (leR_s (leR_s (leR_s leR_nil))) (s_M_manyHeld_5 K hQ FU _ _ _ _ h)
def F_M_manyHeld (t : Nat) (w : A_W) : Option (Int32 × A_W) := F_M_manyHeld_0 t w
theorem cn_M_manyHeld {G : Gx} {t : Nat} {w : A_W} {res : Int32 × A_W} (h : F_M_manyHeld t w = some res) : Cn G y_M_manyHeld c_M_manyHeld 3 (some .int) rm_M_manyHeld [.ref t] w (some (.int res.1)) res.2 :=
  Cn_of (own := 4) cy_M_manyHeld rfl rfl (Nat.le_of_ble_eq_true rfl) rfl (fun X K _ hQ => Sm_le (leR_s (leR_n (leR_n leR_nil))) (s_M_manyHeld_0 K hQ _ _ h))
/-! EveningCloakModel.count(I)I -/
abbrev c_M_count : ByteArray := prog_6_method_101_code
def y_M_count : MethodName := ⟨"EveningCloakModel", "count", "(I)I"⟩
def rm_M_count : Room := { frames := 2, cells := 0, slots := 0, locals := 45 }
theorem cy_M_count : Cy y_M_count c_M_count 2 (some .int) 1 := ⟨lgm 1207 (by decide +kernel) rfl, lgm 73 (by decide +kernel) rfl, by decide +kernel, by decide +kernel⟩
theorem im_M_count : Cond.instanceMethod y_M_count ∈ lg := lgm 1205 (by decide +kernel) rfl
theorem se_M_count : Cond.selects y_M_count.cls y_M_count y_M_count ∈ lg := lgm 1206 (by decide +kernel) rfl
def e_M_count : List Ent := [
  (0, .iload_n 1, 1, 1, .null, 0, 0, 0),
  (1, .tableswitch 98 0 7 #[47, 54, 61, 68, 75, 81, 86, 93], 47, 48, .null, 0, 0, 0),
  (48, .aload_n 0, 1, 49, .null, 0, 0, 0),
  (49, .getfield 9, 3, 52, .null, 4, 0, 762),
  (52, .iconst 0, 1, 53, .int 0, 0, 0, 0),
  (53, .iaload, 1, 54, .null, 0, 0, 0),
  (54, .ireturn, 1, 55, .null, 0, 0, 0),
  (55, .aload_n 0, 1, 56, .null, 0, 0, 0),
  (56, .getfield 9, 3, 59, .null, 4, 0, 762),
  (59, .iconst 3, 1, 60, .int 3, 0, 0, 0),
  (60, .iaload, 1, 61, .null, 0, 0, 0),
  (61, .ireturn, 1, 62, .null, 0, 0, 0),
  (62, .aload_n 0, 1, 63, .null, 0, 0, 0),
  (63, .getfield 9, 3, 66, .null, 4, 0, 762),
  (66, .iconst 4, 1, 67, .int 4, 0, 0, 0),
  (67, .iaload, 1, 68, .null, 0, 0, 0),
  (68, .ireturn, 1, 69, .null, 0, 0, 0),
  (69, .aload_n 0, 1, 70, .null, 0, 0, 0),
  (70, .getfield 9, 3, 73, .null, 4, 0, 762),
  (73, .iconst 1, 1, 74, .int 1, 0, 0, 0),
  (74, .iaload, 1, 75, .null, 0, 0, 0),
  (75, .ireturn, 1, 76, .null, 0, 0, 0),
  (76, .aload_n 0, 1, 77, .null, 0, 0, 0),
  (77, .iconst 2, 1, 78, .int 2, 0, 0, 0),
  (78, .invokevirtual 126, 3, 81, .null, 0, 0, 0),
  (81, .ireturn, 1, 82, .null, 0, 0, 0),
  (82, .aload_n 0, 1, 83, .null, 0, 0, 0),
  (83, .getfield 189, 3, 86, .null, 4, 9, 771),
  (86, .ireturn, 1, 87, .null, 0, 0, 0),
  (87, .aload_n 0, 1, 88, .null, 0, 0, 0),
  (88, .getfield 9, 3, 91, .null, 4, 0, 762),
  (91, .iconst 2, 1, 92, .int 2, 0, 0, 0),
  (92, .iaload, 1, 93, .null, 0, 0, 0),
  (93, .ireturn, 1, 94, .null, 0, 0, 0),
  (94, .aload_n 0, 1, 95, .null, 0, 0, 0),
  (95, .invokevirtual 257, 3, 98, .null, 0, 0, 0),
  (98, .ireturn, 1, 99, .null, 0, 0, 0),
  (99, .aload_n 0, 1, 100, .null, 0, 0, 0),
  (100, .ldc 34, 2, 102, .int (-1000001), 0, 0, 825),
  (102, .invokevirtual 36, 3, 105, .null, 0, 0, 0),
  (105, .ireturn, 1, 106, .null, 0, 0, 0)]
set_option maxRecDepth 100000 in
theorem ek_M_count : e_M_count.all (eok 4 c_M_count) = true := by decide +kernel
def F_M_count_0 (t : Nat) (x1 : Int32) (w : A_W) : Option (Int32 × A_W) :=
  if x1 = 0 then
    (gr w t 4 0).bind fun a1 =>
    (rd w a1 0).bind fun v2 =>
    some (v2, w)
  else if x1 = 1 then
    (gr w t 4 0).bind fun a3 =>
    (rd w a3 3).bind fun v4 =>
    some (v4, w)
  else if x1 = 2 then
    (gr w t 4 0).bind fun a5 =>
    (rd w a5 4).bind fun v6 =>
    some (v6, w)
  else if x1 = 3 then
    (gr w t 4 0).bind fun a7 =>
    (rd w a7 1).bind fun v8 =>
    some (v8, w)
  else if x1 = 4 then
    (ob w t 4).bind fun o10 =>
    (F_M_sums t 2 w).bind fun p9 =>
    some (p9.1, p9.2)
  else if x1 = 5 then
    (gi w t 4 9).bind fun v11 =>
    some (v11, w)
  else if x1 = 6 then
    (gr w t 4 0).bind fun a12 =>
    (rd w a12 2).bind fun v13 =>
    some (v13, w)
  else if x1 = 7 then
    (ob w t 4).bind fun o15 =>
    (F_M_manyHeld t w).bind fun p14 =>
    some (p14.1, p14.2)
  else
    (ob w t 4).bind fun o17 =>
    (F_M_finds t (-1000001) w).bind fun p16 =>
    some (p16.1, p16.2)
set_option maxHeartbeats 4000000 in
set_option maxRecDepth 100000 in
theorem s_M_count_0 {G : Gx} {X : Cx} {res : Int32 × A_W} (K : Ok G X 4 c_M_count 2 (some .int) rm_M_count) (hQ : QQ G X (some (.int res.1)) res.2 0 0) (t : Nat) (x1 : Int32) (w : A_W) (h : F_M_count_0 t x1 w = some res) : Sm G X w 0 0 [some (.ref t), some (.int x1)] [] 0 := by
  unfold F_M_count_0 at h
  refine Sm_run K ek_M_count 0 1 rfl ?_
  refine Sm_tsw K (eok_d (eo ek_M_count (i := 1) rfl)) [48, 55, 62, 69, 76, 82, 87, 94] 99 (by decide) (by decide) (by decide) (fun j hj hx => ?_) (fun hx => ?_)
  · have hj : j < 8 := hj
    rcases (show j = 0 ∨ j = 1 ∨ j = 2 ∨ j = 3 ∨ j = 4 ∨ j = 5 ∨ j = 6 ∨ j = 7 by omega) with rfl | rfl | rfl | rfl | rfl | rfl | rfl | rfl
    · have hc : x1 = 0 := Int32.toInt_inj.mp (hx.trans (by decide))
      rw [if_pos hc] at h
      refine Sm_pc (pc1 := 48) rfl ?_
      refine Sm_run K ek_M_count 2 1 rfl ?_
      obtain ⟨a1, e_a1, h⟩ := Option.bind_eq_some_iff.mp h
      refine Sm_gr K (eo ek_M_count (i := 3) rfl) e_a1 ?_
      refine Sm_run K ek_M_count 4 1 rfl ?_
      obtain ⟨v2, e_v2, h⟩ := Option.bind_eq_some_iff.mp h
      refine Sm_rd K (eok_i (eo ek_M_count (i := 5) rfl) rfl) e_v2 ?_
      obtain rfl := Option.some.inj h
      exact Sm_reti K hQ (eok_i (eo ek_M_count (i := 6) rfl) rfl)
    · have hc : x1 = 1 := Int32.toInt_inj.mp (hx.trans (by decide))
      rw [if_neg (by rw [hc]; decide), if_pos hc] at h
      refine Sm_pc (pc1 := 55) rfl ?_
      refine Sm_run K ek_M_count 7 1 rfl ?_
      obtain ⟨a3, e_a3, h⟩ := Option.bind_eq_some_iff.mp h
      refine Sm_gr K (eo ek_M_count (i := 8) rfl) e_a3 ?_
      refine Sm_run K ek_M_count 9 1 rfl ?_
      obtain ⟨v4, e_v4, h⟩ := Option.bind_eq_some_iff.mp h
      refine Sm_rd K (eok_i (eo ek_M_count (i := 10) rfl) rfl) e_v4 ?_
      obtain rfl := Option.some.inj h
      exact Sm_reti K hQ (eok_i (eo ek_M_count (i := 11) rfl) rfl)
    · have hc : x1 = 2 := Int32.toInt_inj.mp (hx.trans (by decide))
      rw [if_neg (by rw [hc]; decide), if_neg (by rw [hc]; decide), if_pos hc] at h
      refine Sm_pc (pc1 := 62) rfl ?_
      refine Sm_run K ek_M_count 12 1 rfl ?_
      obtain ⟨a5, e_a5, h⟩ := Option.bind_eq_some_iff.mp h
      refine Sm_gr K (eo ek_M_count (i := 13) rfl) e_a5 ?_
      refine Sm_run K ek_M_count 14 1 rfl ?_
      obtain ⟨v6, e_v6, h⟩ := Option.bind_eq_some_iff.mp h
      refine Sm_rd K (eok_i (eo ek_M_count (i := 15) rfl) rfl) e_v6 ?_
      obtain rfl := Option.some.inj h
      exact Sm_reti K hQ (eok_i (eo ek_M_count (i := 16) rfl) rfl)
    · have hc : x1 = 3 := Int32.toInt_inj.mp (hx.trans (by decide))
      rw [if_neg (by rw [hc]; decide), if_neg (by rw [hc]; decide), if_neg (by rw [hc]; decide), if_pos hc] at h
      refine Sm_pc (pc1 := 69) rfl ?_
      refine Sm_run K ek_M_count 17 1 rfl ?_
      obtain ⟨a7, e_a7, h⟩ := Option.bind_eq_some_iff.mp h
      refine Sm_gr K (eo ek_M_count (i := 18) rfl) e_a7 ?_
      refine Sm_run K ek_M_count 19 1 rfl ?_
      obtain ⟨v8, e_v8, h⟩ := Option.bind_eq_some_iff.mp h
      refine Sm_rd K (eok_i (eo ek_M_count (i := 20) rfl) rfl) e_v8 ?_
      obtain rfl := Option.some.inj h
      exact Sm_reti K hQ (eok_i (eo ek_M_count (i := 21) rfl) rfl)
    · have hc : x1 = 4 := Int32.toInt_inj.mp (hx.trans (by decide))
      rw [if_neg (by rw [hc]; decide), if_neg (by rw [hc]; decide), if_neg (by rw [hc]; decide), if_neg (by rw [hc]; decide), if_pos hc] at h
      refine Sm_pc (pc1 := 76) rfl ?_
      refine Sm_run K ek_M_count 22 2 rfl ?_
      obtain ⟨o10, e_o10, h⟩ := Option.bind_eq_some_iff.mp h
      obtain ⟨p9, e_p9, h⟩ := Option.bind_eq_some_iff.mp h
      refine Sm_callV K (eok_i (eo ek_M_count (i := 24) rfl) rfl) cy_M_sums im_M_sums se_M_sums (lgm 960 (by decide +kernel) rfl) ⟨Nat.le_of_ble_eq_true rfl, Nat.le_of_ble_eq_true rfl⟩ (as := [.int 2]) (b := t) (st := []) (ob_e e_o10) (by decide) rfl rfl rfl rfl (Nat.le_of_ble_eq_true rfl) ⟨Nat.le_of_ble_eq_true rfl, Nat.le_of_ble_eq_true rfl⟩ (cn_M_sums e_p9) ?_
      refine Sm_eq (st1 := .int p9.1 :: []) (nc1 := 0) (ns1 := 0) rfl rfl rfl ?_
      obtain rfl := Option.some.inj h
      exact Sm_reti K hQ (eok_i (eo ek_M_count (i := 25) rfl) rfl)
    · have hc : x1 = 5 := Int32.toInt_inj.mp (hx.trans (by decide))
      rw [if_neg (by rw [hc]; decide), if_neg (by rw [hc]; decide), if_neg (by rw [hc]; decide), if_neg (by rw [hc]; decide), if_neg (by rw [hc]; decide), if_pos hc] at h
      refine Sm_pc (pc1 := 82) rfl ?_
      refine Sm_run K ek_M_count 26 1 rfl ?_
      obtain ⟨v11, e_v11, h⟩ := Option.bind_eq_some_iff.mp h
      refine Sm_gi K (eo ek_M_count (i := 27) rfl) e_v11 ?_
      obtain rfl := Option.some.inj h
      exact Sm_reti K hQ (eok_i (eo ek_M_count (i := 28) rfl) rfl)
    · have hc : x1 = 6 := Int32.toInt_inj.mp (hx.trans (by decide))
      rw [if_neg (by rw [hc]; decide), if_neg (by rw [hc]; decide), if_neg (by rw [hc]; decide), if_neg (by rw [hc]; decide), if_neg (by rw [hc]; decide), if_neg (by rw [hc]; decide), if_pos hc] at h
      refine Sm_pc (pc1 := 87) rfl ?_
      refine Sm_run K ek_M_count 29 1 rfl ?_
      obtain ⟨a12, e_a12, h⟩ := Option.bind_eq_some_iff.mp h
      refine Sm_gr K (eo ek_M_count (i := 30) rfl) e_a12 ?_
      refine Sm_run K ek_M_count 31 1 rfl ?_
      obtain ⟨v13, e_v13, h⟩ := Option.bind_eq_some_iff.mp h
      refine Sm_rd K (eok_i (eo ek_M_count (i := 32) rfl) rfl) e_v13 ?_
      obtain rfl := Option.some.inj h
      exact Sm_reti K hQ (eok_i (eo ek_M_count (i := 33) rfl) rfl)
    · have hc : x1 = 7 := Int32.toInt_inj.mp (hx.trans (by decide))
      rw [if_neg (by rw [hc]; decide), if_neg (by rw [hc]; decide), if_neg (by rw [hc]; decide), if_neg (by rw [hc]; decide), if_neg (by rw [hc]; decide), if_neg (by rw [hc]; decide), if_neg (by rw [hc]; decide), if_pos hc] at h
      refine Sm_pc (pc1 := 94) rfl ?_
      refine Sm_run K ek_M_count 34 1 rfl ?_
      obtain ⟨o15, e_o15, h⟩ := Option.bind_eq_some_iff.mp h
      obtain ⟨p14, e_p14, h⟩ := Option.bind_eq_some_iff.mp h
      refine Sm_callV K (eok_i (eo ek_M_count (i := 35) rfl) rfl) cy_M_manyHeld im_M_manyHeld se_M_manyHeld (lgm 1208 (by decide +kernel) rfl) ⟨Nat.le_of_ble_eq_true rfl, Nat.le_of_ble_eq_true rfl⟩ (as := []) (b := t) (st := []) (ob_e e_o15) (by decide) rfl rfl rfl rfl (Nat.le_of_ble_eq_true rfl) ⟨Nat.le_of_ble_eq_true rfl, Nat.le_of_ble_eq_true rfl⟩ (cn_M_manyHeld e_p14) ?_
      refine Sm_eq (st1 := .int p14.1 :: []) (nc1 := 0) (ns1 := 0) rfl rfl rfl ?_
      obtain rfl := Option.some.inj h
      exact Sm_reti K hQ (eok_i (eo ek_M_count (i := 36) rfl) rfl)
  · rw [if_neg (fun hc => hx 0 (by decide) (by rw [hc]; decide)), if_neg (fun hc => hx 1 (by decide) (by rw [hc]; decide)), if_neg (fun hc => hx 2 (by decide) (by rw [hc]; decide)), if_neg (fun hc => hx 3 (by decide) (by rw [hc]; decide)), if_neg (fun hc => hx 4 (by decide) (by rw [hc]; decide)), if_neg (fun hc => hx 5 (by decide) (by rw [hc]; decide)), if_neg (fun hc => hx 6 (by decide) (by rw [hc]; decide)), if_neg (fun hc => hx 7 (by decide) (by rw [hc]; decide))] at h
    refine Sm_run K ek_M_count 37 2 rfl ?_
    obtain ⟨o17, e_o17, h⟩ := Option.bind_eq_some_iff.mp h
    obtain ⟨p16, e_p16, h⟩ := Option.bind_eq_some_iff.mp h
    refine Sm_callV K (eok_i (eo ek_M_count (i := 39) rfl) rfl) cy_M_finds im_M_finds se_M_finds (lgm 826 (by decide +kernel) rfl) ⟨Nat.le_of_ble_eq_true rfl, Nat.le_of_ble_eq_true rfl⟩ (as := [.int (-1000001)]) (b := t) (st := []) (ob_e e_o17) (by decide) rfl rfl rfl rfl (Nat.le_of_ble_eq_true rfl) ⟨Nat.le_of_ble_eq_true rfl, Nat.le_of_ble_eq_true rfl⟩ (cn_M_finds e_p16) ?_
    refine Sm_eq (st1 := .int p16.1 :: []) (nc1 := 0) (ns1 := 0) rfl rfl rfl ?_
    obtain rfl := Option.some.inj h
    exact Sm_reti K hQ (eok_i (eo ek_M_count (i := 40) rfl) rfl)
def F_M_count (t : Nat) (x1 : Int32) (w : A_W) : Option (Int32 × A_W) := F_M_count_0 t x1 w
theorem cn_M_count {G : Gx} {t : Nat} {x1 : Int32} {w : A_W} {res : Int32 × A_W} (h : F_M_count t x1 w = some res) : Cn G y_M_count c_M_count 2 (some .int) rm_M_count [.ref t, .int x1] w (some (.int res.1)) res.2 :=
  Cn_of (own := 4) cy_M_count rfl rfl (Nat.le_of_ble_eq_true rfl) rfl (fun X K _ hQ => Sm_le (leR_s (leR_s leR_nil)) (s_M_count_0 K hQ _ _ _ h))
/-! EveningCloakModel.status(I)I -/
abbrev c_M_status : ByteArray := prog_6_method_102_code
def y_M_status : MethodName := ⟨"EveningCloakModel", "status", "(I)I"⟩
def rm_M_status : Room := { frames := 1, cells := 0, slots := 0, locals := 22 }
theorem cy_M_status : Cy y_M_status c_M_status 4 (some .int) 1 := ⟨lgm 1215 (by decide +kernel) rfl, lgm 73 (by decide +kernel) rfl, by decide +kernel, by decide +kernel⟩
theorem im_M_status : Cond.instanceMethod y_M_status ∈ lg := lgm 1213 (by decide +kernel) rfl
theorem se_M_status : Cond.selects y_M_status.cls y_M_status y_M_status ∈ lg := lgm 1214 (by decide +kernel) rfl
def e_M_status : List Ent := [
  (0, .iload_n 1, 1, 1, .null, 0, 0, 0),
  (1, .iconst (-1), 1, 2, .int (-1), 0, 0, 0),
  (2, .bipush 6, 2, 4, .int 6, 0, 0, 0),
  (4, .invokestatic 40, 3, 7, .null, 0, 0, 0),
  (7, .ifCond .ne 10, 3, 17, .null, 0, 0, 0),
  (10, .aload_n 0, 1, 11, .null, 0, 0, 0),
  (11, .ldc 34, 2, 13, .int (-1000001), 0, 0, 825),
  (13, .invokevirtual 36, 3, 16, .null, 0, 0, 0),
  (16, .ireturn, 1, 17, .null, 0, 0, 0),
  (17, .iconst 0, 1, 18, .int 0, 0, 0, 0),
  (18, .istore_n 2, 1, 19, .null, 0, 0, 0),
  (19, .iconst 0, 1, 20, .int 0, 0, 0, 0),
  (20, .istore_n 3, 1, 21, .null, 0, 0, 0),
  (21, .iload_n 3, 1, 22, .null, 0, 0, 0),
  (22, .bipush 7, 2, 24, .int 7, 0, 0, 0),
  (24, .if_icmp .ge 31, 3, 55, .null, 0, 0, 0),
  (27, .iload_n 2, 1, 28, .null, 0, 0, 0),
  (28, .iload_n 1, 1, 29, .null, 0, 0, 0),
  (29, .ifCond .lt 8, 3, 37, .null, 0, 0, 0),
  (32, .iload_n 1, 1, 33, .null, 0, 0, 0),
  (33, .iload_n 3, 1, 34, .null, 0, 0, 0),
  (34, .if_icmp .ne 12, 3, 46, .null, 0, 0, 0),
  (37, .aload_n 0, 1, 38, .null, 0, 0, 0),
  (38, .getfield 19, 3, 41, .null, 4, 4, 766),
  (41, .iload_n 3, 1, 42, .null, 0, 0, 0),
  (42, .iaload, 1, 43, .null, 0, 0, 0),
  (43, .goto 4, 3, 47, .null, 0, 0, 0),
  (46, .iconst 0, 1, 47, .int 0, 0, 0, 0),
  (47, .iadd, 1, 48, .null, 0, 0, 0),
  (48, .istore_n 2, 1, 49, .null, 0, 0, 0),
  (49, .iinc 3 1, 3, 52, .int 1, 0, 0, 0),
  (52, .goto (-31), 3, 21, .null, 0, 0, 0),
  (55, .iload_n 2, 1, 56, .null, 0, 0, 0),
  (56, .ireturn, 1, 57, .null, 0, 0, 0)]
set_option maxRecDepth 100000 in
theorem ek_M_status : e_M_status.all (eok 4 c_M_status) = true := by decide +kernel
def F_M_status_47 (k21 : Nat → Int32 → Int32 → Int32 → A_W → Option (Int32 × A_W)) (t : Nat) (x1 : Int32) (x3 : Int32) (y0 : Int32) (y1 : Int32) (w : A_W) : Option (Int32 × A_W) :=
  k21 t x1 (y0 + y1) (x3 + 1) w
def F_M_status_37 (k21 : Nat → Int32 → Int32 → Int32 → A_W → Option (Int32 × A_W)) (t : Nat) (x1 : Int32) (x3 : Int32) (y0 : Int32) (w : A_W) : Option (Int32 × A_W) :=
  (gr w t 4 4).bind fun a1 =>
  (rd w a1 x3).bind fun v2 =>
  F_M_status_47 k21 t x1 x3 y0 v2 w
def F_M_status_21 : Nat → Nat → Int32 → Int32 → Int32 → A_W → Option (Int32 × A_W)
  | 0, _, _, _, _, _ => none
  | n + 1, t, x1, x2, x3, w =>
    if 7 ≤ x3 then
      some (x2, w)
    else
      if x1 < 0 then
        F_M_status_37 (F_M_status_21 n) t x1 x3 x2 w
      else
        if x1 = x3 then
          F_M_status_37 (F_M_status_21 n) t x1 x3 x2 w
        else
          F_M_status_47 (F_M_status_21 n) t x1 x3 x2 0 w
def F_M_status_0 (t : Nat) (x1 : Int32) (w : A_W) : Option (Int32 × A_W) :=
  (F_M_in x1 (-1) 6 w).bind fun p1 =>
  if p1.1 = 0 then
    (ob p1.2 t 4).bind fun o4 =>
    (F_M_finds t (-1000001) p1.2).bind fun p3 =>
    some (p3.1, p3.2)
  else
    F_M_status_21 FU t x1 0 0 p1.2
set_option maxHeartbeats 4000000 in
set_option maxRecDepth 100000 in
theorem s_M_status_47 {G : Gx} {X : Cx} {res : Int32 × A_W} (K : Ok G X 4 c_M_status 4 (some .int) rm_M_status) (hQ : QQ G X (some (.int res.1)) res.2 0 0) {k21 : Nat → Int32 → Int32 → Int32 → A_W → Option (Int32 × A_W)} (hk21 : ∀ (t : Nat) (x1 : Int32) (x2 : Int32) (x3 : Int32) (w : A_W), k21 t x1 x2 x3 w = some res → Sm G X w 0 0 [some (.ref t), some (.int x1), some (.int x2), some (.int x3)] [] 21) (t : Nat) (x1 : Int32) (x3 : Int32) (y0 : Int32) (y1 : Int32) (w : A_W) (h : F_M_status_47 k21 t x1 x3 y0 y1 w = some res) : Sm G X w 0 0 [some (.ref t), some (.int x1), none, some (.int x3)] [.int y1, .int y0] 47 := by
  unfold F_M_status_47 at h
  refine Sm_run K ek_M_status 28 4 rfl ?_
  exact Sm_le (leR_s (leR_s (leR_s (leR_s leR_nil)))) (hk21 _ _ _ _ _ h)
set_option maxHeartbeats 4000000 in
set_option maxRecDepth 100000 in
theorem s_M_status_37 {G : Gx} {X : Cx} {res : Int32 × A_W} (K : Ok G X 4 c_M_status 4 (some .int) rm_M_status) (hQ : QQ G X (some (.int res.1)) res.2 0 0) {k21 : Nat → Int32 → Int32 → Int32 → A_W → Option (Int32 × A_W)} (hk21 : ∀ (t : Nat) (x1 : Int32) (x2 : Int32) (x3 : Int32) (w : A_W), k21 t x1 x2 x3 w = some res → Sm G X w 0 0 [some (.ref t), some (.int x1), some (.int x2), some (.int x3)] [] 21) (t : Nat) (x1 : Int32) (x3 : Int32) (y0 : Int32) (w : A_W) (h : F_M_status_37 k21 t x1 x3 y0 w = some res) : Sm G X w 0 0 [some (.ref t), some (.int x1), none, some (.int x3)] [.int y0] 37 := by
  unfold F_M_status_37 at h
  refine Sm_run K ek_M_status 22 1 rfl ?_
  obtain ⟨a1, e_a1, h⟩ := Option.bind_eq_some_iff.mp h
  refine Sm_gr K (eo ek_M_status (i := 23) rfl) e_a1 ?_
  refine Sm_run K ek_M_status 24 1 rfl ?_
  obtain ⟨v2, e_v2, h⟩ := Option.bind_eq_some_iff.mp h
  refine Sm_rd K (eok_i (eo ek_M_status (i := 25) rfl) rfl) e_v2 ?_
  refine Sm_run K ek_M_status 26 1 rfl ?_
  exact Sm_le (leR_s (leR_s (leR_n (leR_s leR_nil)))) (s_M_status_47 K hQ hk21 _ _ _ _ _ _ h)
set_option maxHeartbeats 4000000 in
set_option maxRecDepth 100000 in
theorem s_M_status_21 {G : Gx} {X : Cx} {res : Int32 × A_W} (K : Ok G X 4 c_M_status 4 (some .int) rm_M_status) (hQ : QQ G X (some (.int res.1)) res.2 0 0) : ∀ (n : Nat) (t : Nat) (x1 : Int32) (x2 : Int32) (x3 : Int32) (w : A_W), F_M_status_21 n t x1 x2 x3 w = some res → Sm G X w 0 0 [some (.ref t), some (.int x1), some (.int x2), some (.int x3)] [] 21 := by
  intro n
  induction n with
  | zero => intro t x1 x2 x3 w h; cases h
  | succ n ih =>
    intro t x1 x2 x3 w h
    rw [F_M_status_21] at h
    refine Sm_run K ek_M_status 13 2 rfl ?_
    refine Sm_ic_ge K (eo ek_M_status (i := 15) rfl) (fun c1 => ?_) (fun c1 => ?_)
    · rw [if_pos c1] at h
      refine Sm_run K ek_M_status 32 1 rfl ?_
      obtain rfl := Option.some.inj h
      exact Sm_reti K hQ (eok_i (eo ek_M_status (i := 33) rfl) rfl)
    · rw [if_neg c1] at h
      refine Sm_run K ek_M_status 16 2 rfl ?_
      refine Sm_if_lt K (eo ek_M_status (i := 18) rfl) (fun c2 => ?_) (fun c2 => ?_)
      · rw [if_pos c2] at h
        exact Sm_le (leR_s (leR_s (leR_n (leR_s leR_nil)))) (s_M_status_37 K hQ ih _ _ _ _ _ h)
      · rw [if_neg c2] at h
        refine Sm_run K ek_M_status 19 2 rfl ?_
        refine Sm_ic_ne K (eo ek_M_status (i := 21) rfl) (fun c3 => ?_) (fun c3 => ?_)
        · rw [if_neg c3] at h
          refine Sm_run K ek_M_status 27 1 rfl ?_
          exact Sm_le (leR_s (leR_s (leR_n (leR_s leR_nil)))) (s_M_status_47 K hQ ih _ _ _ _ _ _ h)
        · rw [if_pos c3] at h
          exact Sm_le (leR_s (leR_s (leR_n (leR_s leR_nil)))) (s_M_status_37 K hQ ih _ _ _ _ _ h)
set_option maxHeartbeats 4000000 in
set_option maxRecDepth 100000 in
theorem s_M_status_0 {G : Gx} {X : Cx} {res : Int32 × A_W} (K : Ok G X 4 c_M_status 4 (some .int) rm_M_status) (hQ : QQ G X (some (.int res.1)) res.2 0 0) (t : Nat) (x1 : Int32) (w : A_W) (h : F_M_status_0 t x1 w = some res) : Sm G X w 0 0 [some (.ref t), some (.int x1), none, none] [] 0 := by
  unfold F_M_status_0 at h
  refine Sm_run K ek_M_status 0 3 rfl ?_
  obtain ⟨p1, e_p1, h⟩ := Option.bind_eq_some_iff.mp h
  refine Sm_callS K (eok_i (eo ek_M_status (i := 3) rfl) rfl) cy_M_in st_M_in (lgm 815 (by decide +kernel) rfl) ⟨Nat.le_of_ble_eq_true rfl, Nat.le_of_ble_eq_true rfl⟩ (as := [.int x1, .int (-1), .int 6]) (st := []) rfl rfl rfl (Nat.le_of_ble_eq_true rfl) ⟨Nat.le_of_ble_eq_true rfl, Nat.le_of_ble_eq_true rfl⟩ (cn_M_in e_p1) ?_
  refine Sm_eq (st1 := .int p1.1 :: []) (nc1 := 0) (ns1 := 0) rfl rfl rfl ?_
  refine Sm_if_ne K (eo ek_M_status (i := 4) rfl) (fun c2 => ?_) (fun c2 => ?_)
  · rw [if_neg c2] at h
    refine Sm_run K ek_M_status 9 4 rfl ?_
    exact Sm_le (leR_s (leR_s (leR_s (leR_s leR_nil)))) (s_M_status_21 K hQ FU _ _ _ _ _ h)
  · rw [if_pos c2] at h
    refine Sm_run K ek_M_status 5 2 rfl ?_
    obtain ⟨o4, e_o4, h⟩ := Option.bind_eq_some_iff.mp h
    obtain ⟨p3, e_p3, h⟩ := Option.bind_eq_some_iff.mp h
    refine Sm_callV K (eok_i (eo ek_M_status (i := 7) rfl) rfl) cy_M_finds im_M_finds se_M_finds (lgm 826 (by decide +kernel) rfl) ⟨Nat.le_of_ble_eq_true rfl, Nat.le_of_ble_eq_true rfl⟩ (as := [.int (-1000001)]) (b := t) (st := []) (ob_e e_o4) (by decide) rfl rfl rfl rfl (Nat.le_of_ble_eq_true rfl) ⟨Nat.le_of_ble_eq_true rfl, Nat.le_of_ble_eq_true rfl⟩ (cn_M_finds e_p3) ?_
    refine Sm_eq (st1 := .int p3.1 :: []) (nc1 := 0) (ns1 := 0) rfl rfl rfl ?_
    obtain rfl := Option.some.inj h
    exact Sm_reti K hQ (eok_i (eo ek_M_status (i := 8) rfl) rfl)
def F_M_status (t : Nat) (x1 : Int32) (w : A_W) : Option (Int32 × A_W) := F_M_status_0 t x1 w
theorem cn_M_status {G : Gx} {t : Nat} {x1 : Int32} {w : A_W} {res : Int32 × A_W} (h : F_M_status t x1 w = some res) : Cn G y_M_status c_M_status 4 (some .int) rm_M_status [.ref t, .int x1] w (some (.int res.1)) res.2 :=
  Cn_of (own := 4) cy_M_status rfl rfl (Nat.le_of_ble_eq_true rfl) rfl (fun X K _ hQ => Sm_le (leR_s (leR_s (leR_n (leR_n leR_nil)))) (s_M_status_0 K hQ _ _ _ h))
end
