/-- a private method of a class that the tables say can be made, by its rows of tables_1 -/
def lw_okq (q : MethodName × Nat) : Prop := (q.1.cls ≠ "java/lang/invoke/MethodHandle" ∧ q.1.cls ≠ "java/lang/invoke/VarHandle") ∧ Cond.instantiable q.1.cls q.2 ∈ tables_1 ∧ Cond.privateMethod q.1 ∈ tables_1 ∧ Cond.instanceMethod q.1 ∈ tables_1
theorem lw_p0 : lw_okq (⟨"PatrolDesk", "record", "()V"⟩, 7) := ⟨⟨by decide +kernel, by decide +kernel⟩, List.mem_of_getElem? (i := 15) (by decide +kernel), List.mem_of_getElem? (i := 357) (by decide +kernel), List.mem_of_getElem? (i := 358) (by decide +kernel)⟩
theorem lw_p1 : lw_okq (⟨"PatrolDesk$State", "repairedBefore", "(I)I"⟩, 13) := ⟨⟨by decide +kernel, by decide +kernel⟩, List.mem_of_getElem? (i := 23) (by decide +kernel), List.mem_of_getElem? (i := 468) (by decide +kernel), List.mem_of_getElem? (i := 469) (by decide +kernel)⟩
theorem lw_p2 : lw_okq (⟨"PatrolDesk$State", "promiseOf", "(I)I"⟩, 13) := ⟨⟨by decide +kernel, by decide +kernel⟩, List.mem_of_getElem? (i := 23) (by decide +kernel), List.mem_of_getElem? (i := 472) (by decide +kernel), List.mem_of_getElem? (i := 473) (by decide +kernel)⟩
theorem lw_p3 : lw_okq (⟨"PatrolDesk$CallText", "signAt", "(I)I"⟩, 4) := ⟨⟨by decide +kernel, by decide +kernel⟩, List.mem_of_getElem? (i := 302) (by decide +kernel), List.mem_of_getElem? (i := 645) (by decide +kernel), List.mem_of_getElem? (i := 646) (by decide +kernel)⟩
theorem lw_p4 : lw_okq (⟨"PatrolDesk$CallText", "digitsAt", "(I)I"⟩, 4) := ⟨⟨by decide +kernel, by decide +kernel⟩, List.mem_of_getElem? (i := 302) (by decide +kernel), List.mem_of_getElem? (i := 651) (by decide +kernel), List.mem_of_getElem? (i := 652) (by decide +kernel)⟩
theorem lw_p5 : lw_okq (⟨"PatrolDesk$CallText", "addNumber", "(II)V"⟩, 4) := ⟨⟨by decide +kernel, by decide +kernel⟩, List.mem_of_getElem? (i := 302) (by decide +kernel), List.mem_of_getElem? (i := 658) (by decide +kernel), List.mem_of_getElem? (i := 659) (by decide +kernel)⟩
theorem lw_p6 : lw_okq (⟨"PatrolDesk", "takeAll", "(LPatrolDesk$State;)I"⟩, 7) := ⟨⟨by decide +kernel, by decide +kernel⟩, List.mem_of_getElem? (i := 15) (by decide +kernel), List.mem_of_getElem? (i := 662) (by decide +kernel), List.mem_of_getElem? (i := 663) (by decide +kernel)⟩
theorem lw_p7 : lw_okq (⟨"PatrolDeskModel", "laysWays", "()V"⟩, 15) := ⟨⟨by decide +kernel, by decide +kernel⟩, List.mem_of_getElem? (i := 760) (by decide +kernel), List.mem_of_getElem? (i := 766) (by decide +kernel), List.mem_of_getElem? (i := 767) (by decide +kernel)⟩
theorem lw_p8 : lw_okq (⟨"PatrolDeskModel", "records", "()V"⟩, 15) := ⟨⟨by decide +kernel, by decide +kernel⟩, List.mem_of_getElem? (i := 760) (by decide +kernel), List.mem_of_getElem? (i := 827) (by decide +kernel), List.mem_of_getElem? (i := 828) (by decide +kernel)⟩
theorem lw_p9 : lw_okq (⟨"PatrolDeskModel", "laysPatrol", "(III)V"⟩, 15) := ⟨⟨by decide +kernel, by decide +kernel⟩, List.mem_of_getElem? (i := 760) (by decide +kernel), List.mem_of_getElem? (i := 842) (by decide +kernel), List.mem_of_getElem? (i := 843) (by decide +kernel)⟩
theorem lw_p10 : lw_okq (⟨"PatrolDeskModel", "frees", "(I)V"⟩, 15) := ⟨⟨by decide +kernel, by decide +kernel⟩, List.mem_of_getElem? (i := 760) (by decide +kernel), List.mem_of_getElem? (i := 846) (by decide +kernel), List.mem_of_getElem? (i := 847) (by decide +kernel)⟩
theorem lw_p11 : lw_okq (⟨"PatrolDeskModel", "against", "(III)I"⟩, 15) := ⟨⟨by decide +kernel, by decide +kernel⟩, List.mem_of_getElem? (i := 760) (by decide +kernel), List.mem_of_getElem? (i := 866) (by decide +kernel), List.mem_of_getElem? (i := 867) (by decide +kernel)⟩
theorem lw_p12 : lw_okq (⟨"PatrolDeskModel", "isMember", "(I)Z"⟩, 15) := ⟨⟨by decide +kernel, by decide +kernel⟩, List.mem_of_getElem? (i := 760) (by decide +kernel), List.mem_of_getElem? (i := 870) (by decide +kernel), List.mem_of_getElem? (i := 871) (by decide +kernel)⟩
theorem lw_p13 : lw_okq (⟨"PatrolDeskModel", "openOf", "(I)I"⟩, 15) := ⟨⟨by decide +kernel, by decide +kernel⟩, List.mem_of_getElem? (i := 760) (by decide +kernel), List.mem_of_getElem? (i := 874) (by decide +kernel), List.mem_of_getElem? (i := 875) (by decide +kernel)⟩
theorem lw_p14 : lw_okq (⟨"PatrolDeskModel", "ofCall", "(II)I"⟩, 15) := ⟨⟨by decide +kernel, by decide +kernel⟩, List.mem_of_getElem? (i := 760) (by decide +kernel), List.mem_of_getElem? (i := 878) (by decide +kernel), List.mem_of_getElem? (i := 879) (by decide +kernel)⟩
theorem lw_p15 : lw_okq (⟨"PatrolDeskModel", "comes", "(III)V"⟩, 15) := ⟨⟨by decide +kernel, by decide +kernel⟩, List.mem_of_getElem? (i := 760) (by decide +kernel), List.mem_of_getElem? (i := 882) (by decide +kernel), List.mem_of_getElem? (i := 883) (by decide +kernel)⟩
def lw_privs_1 : List (MethodName × Nat) := [(⟨"PatrolDesk", "record", "()V"⟩, 7), (⟨"PatrolDesk$State", "repairedBefore", "(I)I"⟩, 13), (⟨"PatrolDesk$State", "promiseOf", "(I)I"⟩, 13), (⟨"PatrolDesk$CallText", "signAt", "(I)I"⟩, 4), (⟨"PatrolDesk$CallText", "digitsAt", "(I)I"⟩, 4), (⟨"PatrolDesk$CallText", "addNumber", "(II)V"⟩, 4), (⟨"PatrolDesk", "takeAll", "(LPatrolDesk$State;)I"⟩, 7), (⟨"PatrolDeskModel", "laysWays", "()V"⟩, 15), (⟨"PatrolDeskModel", "records", "()V"⟩, 15), (⟨"PatrolDeskModel", "laysPatrol", "(III)V"⟩, 15), (⟨"PatrolDeskModel", "frees", "(I)V"⟩, 15), (⟨"PatrolDeskModel", "against", "(III)I"⟩, 15), (⟨"PatrolDeskModel", "isMember", "(I)Z"⟩, 15), (⟨"PatrolDeskModel", "openOf", "(I)I"⟩, 15), (⟨"PatrolDeskModel", "ofCall", "(II)I"⟩, 15), (⟨"PatrolDeskModel", "comes", "(III)V"⟩, 15)]
theorem lw_r1 : ∀ q ∈ lw_privs_1, lw_okq q := List.forall_mem_cons.mpr ⟨lw_p0, List.forall_mem_cons.mpr ⟨lw_p1, List.forall_mem_cons.mpr ⟨lw_p2, List.forall_mem_cons.mpr ⟨lw_p3, List.forall_mem_cons.mpr ⟨lw_p4, List.forall_mem_cons.mpr ⟨lw_p5, List.forall_mem_cons.mpr ⟨lw_p6, List.forall_mem_cons.mpr ⟨lw_p7, List.forall_mem_cons.mpr ⟨lw_p8, List.forall_mem_cons.mpr ⟨lw_p9, List.forall_mem_cons.mpr ⟨lw_p10, List.forall_mem_cons.mpr ⟨lw_p11, List.forall_mem_cons.mpr ⟨lw_p12, List.forall_mem_cons.mpr ⟨lw_p13, List.forall_mem_cons.mpr ⟨lw_p14, List.forall_mem_cons.mpr ⟨lw_p15, fun _ h => absurd h List.not_mem_nil⟩⟩⟩⟩⟩⟩⟩⟩⟩⟩⟩⟩⟩⟩⟩⟩
theorem lw_p16 : lw_okq (⟨"PatrolDeskModel", "laysCall", "(III)V"⟩, 15) := ⟨⟨by decide +kernel, by decide +kernel⟩, List.mem_of_getElem? (i := 760) (by decide +kernel), List.mem_of_getElem? (i := 886) (by decide +kernel), List.mem_of_getElem? (i := 887) (by decide +kernel)⟩
theorem lw_p17 : lw_okq (⟨"PatrolDeskModel", "ofMember", "(II)I"⟩, 15) := ⟨⟨by decide +kernel, by decide +kernel⟩, List.mem_of_getElem? (i := 760) (by decide +kernel), List.mem_of_getElem? (i := 890) (by decide +kernel), List.mem_of_getElem? (i := 891) (by decide +kernel)⟩
theorem lw_p18 : lw_okq (⟨"PatrolDeskModel", "ofPatrol", "(II)I"⟩, 15) := ⟨⟨by decide +kernel, by decide +kernel⟩, List.mem_of_getElem? (i := 760) (by decide +kernel), List.mem_of_getElem? (i := 894) (by decide +kernel), List.mem_of_getElem? (i := 895) (by decide +kernel)⟩
theorem lw_p19 : lw_okq (⟨"PatrolDeskModel", "addsMember", "(III)V"⟩, 15) := ⟨⟨by decide +kernel, by decide +kernel⟩, List.mem_of_getElem? (i := 760) (by decide +kernel), List.mem_of_getElem? (i := 898) (by decide +kernel), List.mem_of_getElem? (i := 899) (by decide +kernel)⟩
theorem lw_p20 : lw_okq (⟨"PatrolDeskModel", "isCall", "(I)Z"⟩, 15) := ⟨⟨by decide +kernel, by decide +kernel⟩, List.mem_of_getElem? (i := 760) (by decide +kernel), List.mem_of_getElem? (i := 906) (by decide +kernel), List.mem_of_getElem? (i := 907) (by decide +kernel)⟩
theorem lw_p21 : lw_okq (⟨"PatrolDeskModel", "waitedOf", "(I)I"⟩, 15) := ⟨⟨by decide +kernel, by decide +kernel⟩, List.mem_of_getElem? (i := 760) (by decide +kernel), List.mem_of_getElem? (i := 910) (by decide +kernel), List.mem_of_getElem? (i := 911) (by decide +kernel)⟩
theorem lw_p22 : lw_okq (⟨"PatrolDeskModel", "isPatrol", "(I)Z"⟩, 15) := ⟨⟨by decide +kernel, by decide +kernel⟩, List.mem_of_getElem? (i := 760) (by decide +kernel), List.mem_of_getElem? (i := 918) (by decide +kernel), List.mem_of_getElem? (i := 919) (by decide +kernel)⟩
theorem lw_p23 : lw_okq (⟨"PatrolDeskModel", "onDuty", "()I"⟩, 15) := ⟨⟨by decide +kernel, by decide +kernel⟩, List.mem_of_getElem? (i := 760) (by decide +kernel), List.mem_of_getElem? (i := 922) (by decide +kernel), List.mem_of_getElem? (i := 923) (by decide +kernel)⟩
theorem lw_p24 : lw_okq (⟨"PatrolDeskModel", "way", "(II)I"⟩, 15) := ⟨⟨by decide +kernel, by decide +kernel⟩, List.mem_of_getElem? (i := 760) (by decide +kernel), List.mem_of_getElem? (i := 930) (by decide +kernel), List.mem_of_getElem? (i := 931) (by decide +kernel)⟩
theorem lw_p25 : lw_okq (⟨"PatrolDeskModel", "isGarage", "(I)Z"⟩, 15) := ⟨⟨by decide +kernel, by decide +kernel⟩, List.mem_of_getElem? (i := 760) (by decide +kernel), List.mem_of_getElem? (i := 938) (by decide +kernel), List.mem_of_getElem? (i := 939) (by decide +kernel)⟩
theorem lw_p26 : lw_okq (⟨"PatrolDeskModel", "ofGarage", "(II)I"⟩, 15) := ⟨⟨by decide +kernel, by decide +kernel⟩, List.mem_of_getElem? (i := 760) (by decide +kernel), List.mem_of_getElem? (i := 942) (by decide +kernel), List.mem_of_getElem? (i := 943) (by decide +kernel)⟩
theorem lw_p27 : lw_okq (⟨"PatrolDeskModel", "manyIn", "(I)I"⟩, 15) := ⟨⟨by decide +kernel, by decide +kernel⟩, List.mem_of_getElem? (i := 760) (by decide +kernel), List.mem_of_getElem? (i := 950) (by decide +kernel), List.mem_of_getElem? (i := 951) (by decide +kernel)⟩
theorem lw_p28 : lw_okq (⟨"PatrolDeskModel", "passes", "()V"⟩, 15) := ⟨⟨by decide +kernel, by decide +kernel⟩, List.mem_of_getElem? (i := 760) (by decide +kernel), List.mem_of_getElem? (i := 954) (by decide +kernel), List.mem_of_getElem? (i := 955) (by decide +kernel)⟩
theorem lw_p29 : lw_okq (⟨"PatrolDeskModel", "gets", "(I)V"⟩, 15) := ⟨⟨by decide +kernel, by decide +kernel⟩, List.mem_of_getElem? (i := 760) (by decide +kernel), List.mem_of_getElem? (i := 958) (by decide +kernel), List.mem_of_getElem? (i := 959) (by decide +kernel)⟩
theorem lw_p30 : lw_okq (⟨"PatrolDeskModel", "tows", "(I)V"⟩, 15) := ⟨⟨by decide +kernel, by decide +kernel⟩, List.mem_of_getElem? (i := 760) (by decide +kernel), List.mem_of_getElem? (i := 962) (by decide +kernel), List.mem_of_getElem? (i := 963) (by decide +kernel)⟩
theorem lw_p31 : lw_okq (⟨"PatrolDeskModel", "garageFor", "(I)I"⟩, 15) := ⟨⟨by decide +kernel, by decide +kernel⟩, List.mem_of_getElem? (i := 760) (by decide +kernel), List.mem_of_getElem? (i := 966) (by decide +kernel), List.mem_of_getElem? (i := 967) (by decide +kernel)⟩
def lw_privs_2 : List (MethodName × Nat) := [(⟨"PatrolDeskModel", "laysCall", "(III)V"⟩, 15), (⟨"PatrolDeskModel", "ofMember", "(II)I"⟩, 15), (⟨"PatrolDeskModel", "ofPatrol", "(II)I"⟩, 15), (⟨"PatrolDeskModel", "addsMember", "(III)V"⟩, 15), (⟨"PatrolDeskModel", "isCall", "(I)Z"⟩, 15), (⟨"PatrolDeskModel", "waitedOf", "(I)I"⟩, 15), (⟨"PatrolDeskModel", "isPatrol", "(I)Z"⟩, 15), (⟨"PatrolDeskModel", "onDuty", "()I"⟩, 15), (⟨"PatrolDeskModel", "way", "(II)I"⟩, 15), (⟨"PatrolDeskModel", "isGarage", "(I)Z"⟩, 15), (⟨"PatrolDeskModel", "ofGarage", "(II)I"⟩, 15), (⟨"PatrolDeskModel", "manyIn", "(I)I"⟩, 15), (⟨"PatrolDeskModel", "passes", "()V"⟩, 15), (⟨"PatrolDeskModel", "gets", "(I)V"⟩, 15), (⟨"PatrolDeskModel", "tows", "(I)V"⟩, 15), (⟨"PatrolDeskModel", "garageFor", "(I)I"⟩, 15)]
theorem lw_r2 : ∀ q ∈ lw_privs_2, lw_okq q := List.forall_mem_cons.mpr ⟨lw_p16, List.forall_mem_cons.mpr ⟨lw_p17, List.forall_mem_cons.mpr ⟨lw_p18, List.forall_mem_cons.mpr ⟨lw_p19, List.forall_mem_cons.mpr ⟨lw_p20, List.forall_mem_cons.mpr ⟨lw_p21, List.forall_mem_cons.mpr ⟨lw_p22, List.forall_mem_cons.mpr ⟨lw_p23, List.forall_mem_cons.mpr ⟨lw_p24, List.forall_mem_cons.mpr ⟨lw_p25, List.forall_mem_cons.mpr ⟨lw_p26, List.forall_mem_cons.mpr ⟨lw_p27, List.forall_mem_cons.mpr ⟨lw_p28, List.forall_mem_cons.mpr ⟨lw_p29, List.forall_mem_cons.mpr ⟨lw_p30, List.forall_mem_cons.mpr ⟨lw_p31, fun _ h => absurd h List.not_mem_nil⟩⟩⟩⟩⟩⟩⟩⟩⟩⟩⟩⟩⟩⟩⟩⟩
theorem lw_p32 : lw_okq (⟨"PatrolDeskModel", "underWay", "(I)I"⟩, 15) := ⟨⟨by decide +kernel, by decide +kernel⟩, List.mem_of_getElem? (i := 760) (by decide +kernel), List.mem_of_getElem? (i := 970) (by decide +kernel), List.mem_of_getElem? (i := 971) (by decide +kernel)⟩
theorem lw_p33 : lw_okq (⟨"PatrolDeskModel", "leaves", "(I)V"⟩, 15) := ⟨⟨by decide +kernel, by decide +kernel⟩, List.mem_of_getElem? (i := 760) (by decide +kernel), List.mem_of_getElem? (i := 974) (by decide +kernel), List.mem_of_getElem? (i := 975) (by decide +kernel)⟩
theorem lw_p34 : lw_okq (⟨"PatrolDeskModel", "nextOn", "(II)I"⟩, 15) := ⟨⟨by decide +kernel, by decide +kernel⟩, List.mem_of_getElem? (i := 760) (by decide +kernel), List.mem_of_getElem? (i := 981) (by decide +kernel), List.mem_of_getElem? (i := 982) (by decide +kernel)⟩
theorem lw_p35 : lw_okq (⟨"PatrolDeskModel", "repaired", "(I)V"⟩, 15) := ⟨⟨by decide +kernel, by decide +kernel⟩, List.mem_of_getElem? (i := 760) (by decide +kernel), List.mem_of_getElem? (i := 985) (by decide +kernel), List.mem_of_getElem? (i := 986) (by decide +kernel)⟩
theorem lw_p36 : lw_okq (⟨"PatrolDeskModel", "towed", "(I)V"⟩, 15) := ⟨⟨by decide +kernel, by decide +kernel⟩, List.mem_of_getElem? (i := 760) (by decide +kernel), List.mem_of_getElem? (i := 989) (by decide +kernel), List.mem_of_getElem? (i := 990) (by decide +kernel)⟩
theorem lw_p37 : lw_okq (⟨"PatrolDeskModel", "sends", "()V"⟩, 15) := ⟨⟨by decide +kernel, by decide +kernel⟩, List.mem_of_getElem? (i := 760) (by decide +kernel), List.mem_of_getElem? (i := 993) (by decide +kernel), List.mem_of_getElem? (i := 994) (by decide +kernel)⟩
theorem lw_p38 : lw_okq (⟨"PatrolDeskModel", "laysRow", "()V"⟩, 15) := ⟨⟨by decide +kernel, by decide +kernel⟩, List.mem_of_getElem? (i := 760) (by decide +kernel), List.mem_of_getElem? (i := 997) (by decide +kernel), List.mem_of_getElem? (i := 998) (by decide +kernel)⟩
theorem lw_p39 : lw_okq (⟨"PatrolDeskModel", "waits", "(I)Z"⟩, 15) := ⟨⟨by decide +kernel, by decide +kernel⟩, List.mem_of_getElem? (i := 760) (by decide +kernel), List.mem_of_getElem? (i := 1001) (by decide +kernel), List.mem_of_getElem? (i := 1002) (by decide +kernel)⟩
theorem lw_p40 : lw_okq (⟨"PatrolDeskModel", "isAhead", "(II)Z"⟩, 15) := ⟨⟨by decide +kernel, by decide +kernel⟩, List.mem_of_getElem? (i := 760) (by decide +kernel), List.mem_of_getElem? (i := 1005) (by decide +kernel), List.mem_of_getElem? (i := 1006) (by decide +kernel)⟩
theorem lw_p41 : lw_okq (⟨"PatrolDeskModel", "rest", "(I)I"⟩, 15) := ⟨⟨by decide +kernel, by decide +kernel⟩, List.mem_of_getElem? (i := 760) (by decide +kernel), List.mem_of_getElem? (i := 1009) (by decide +kernel), List.mem_of_getElem? (i := 1010) (by decide +kernel)⟩
theorem lw_p42 : lw_okq (⟨"PatrolDeskModel", "nearestOf", "(I)I"⟩, 15) := ⟨⟨by decide +kernel, by decide +kernel⟩, List.mem_of_getElem? (i := 760) (by decide +kernel), List.mem_of_getElem? (i := 1013) (by decide +kernel), List.mem_of_getElem? (i := 1014) (by decide +kernel)⟩
theorem lw_p43 : lw_okq (⟨"PatrolDeskModel", "mayTake", "(II)Z"⟩, 15) := ⟨⟨by decide +kernel, by decide +kernel⟩, List.mem_of_getElem? (i := 760) (by decide +kernel), List.mem_of_getElem? (i := 1017) (by decide +kernel), List.mem_of_getElem? (i := 1018) (by decide +kernel)⟩
theorem lw_p44 : lw_okq (⟨"PatrolDeskModel", "faultOf", "()I"⟩, 15) := ⟨⟨by decide +kernel, by decide +kernel⟩, List.mem_of_getElem? (i := 760) (by decide +kernel), List.mem_of_getElem? (i := 1033) (by decide +kernel), List.mem_of_getElem? (i := 1034) (by decide +kernel)⟩
theorem lw_p45 : lw_okq (⟨"PatrolDeskModel", "reads", "(II)Z"⟩, 15) := ⟨⟨by decide +kernel, by decide +kernel⟩, List.mem_of_getElem? (i := 760) (by decide +kernel), List.mem_of_getElem? (i := 1037) (by decide +kernel), List.mem_of_getElem? (i := 1038) (by decide +kernel)⟩
theorem lw_p46 : lw_okq (⟨"PatrolDeskModel", "signAt", "(I)I"⟩, 15) := ⟨⟨by decide +kernel, by decide +kernel⟩, List.mem_of_getElem? (i := 760) (by decide +kernel), List.mem_of_getElem? (i := 1041) (by decide +kernel), List.mem_of_getElem? (i := 1042) (by decide +kernel)⟩
def lw_privs_3 : List (MethodName × Nat) := [(⟨"PatrolDeskModel", "underWay", "(I)I"⟩, 15), (⟨"PatrolDeskModel", "leaves", "(I)V"⟩, 15), (⟨"PatrolDeskModel", "nextOn", "(II)I"⟩, 15), (⟨"PatrolDeskModel", "repaired", "(I)V"⟩, 15), (⟨"PatrolDeskModel", "towed", "(I)V"⟩, 15), (⟨"PatrolDeskModel", "sends", "()V"⟩, 15), (⟨"PatrolDeskModel", "laysRow", "()V"⟩, 15), (⟨"PatrolDeskModel", "waits", "(I)Z"⟩, 15), (⟨"PatrolDeskModel", "isAhead", "(II)Z"⟩, 15), (⟨"PatrolDeskModel", "rest", "(I)I"⟩, 15), (⟨"PatrolDeskModel", "nearestOf", "(I)I"⟩, 15), (⟨"PatrolDeskModel", "mayTake", "(II)Z"⟩, 15), (⟨"PatrolDeskModel", "faultOf", "()I"⟩, 15), (⟨"PatrolDeskModel", "reads", "(II)Z"⟩, 15), (⟨"PatrolDeskModel", "signAt", "(I)I"⟩, 15)]
theorem lw_r3 : ∀ q ∈ lw_privs_3, lw_okq q := List.forall_mem_cons.mpr ⟨lw_p32, List.forall_mem_cons.mpr ⟨lw_p33, List.forall_mem_cons.mpr ⟨lw_p34, List.forall_mem_cons.mpr ⟨lw_p35, List.forall_mem_cons.mpr ⟨lw_p36, List.forall_mem_cons.mpr ⟨lw_p37, List.forall_mem_cons.mpr ⟨lw_p38, List.forall_mem_cons.mpr ⟨lw_p39, List.forall_mem_cons.mpr ⟨lw_p40, List.forall_mem_cons.mpr ⟨lw_p41, List.forall_mem_cons.mpr ⟨lw_p42, List.forall_mem_cons.mpr ⟨lw_p43, List.forall_mem_cons.mpr ⟨lw_p44, List.forall_mem_cons.mpr ⟨lw_p45, List.forall_mem_cons.mpr ⟨lw_p46, fun _ h => absurd h List.not_mem_nil⟩⟩⟩⟩⟩⟩⟩⟩⟩⟩⟩⟩⟩⟩⟩
def lw_privs : List (MethodName × Nat) := lw_privs_1 ++ (lw_privs_2 ++ (lw_privs_3))
def lw_tbl : List Cond := k2_sels lw_privs ++ tables_1
theorem lw_privs_ok : ∀ q ∈ lw_privs, lw_okq q := by
  show ∀ q ∈ lw_privs_1 ++ (lw_privs_2 ++ (lw_privs_3)), lw_okq q
  exact List.forall_mem_append.mpr ⟨lw_r1, List.forall_mem_append.mpr ⟨lw_r2, lw_r3⟩⟩
def RX0 : String := "PatrolDesk$Books"
def TX0 : u_T := fun k => match k with
  | _ => ("", "", "", false)
def tyX0 : Nat → FieldType := fun k => match k with
  | _ => .int
abbrev wsX00 : List Cond := u_ws RX0 TX0 0
theorem nmX0 : ∀ a, a < 0 → ∀ b, b < 0 → a ≠ b → (TX0 a).2.1 ≠ (TX0 b).2.1 := by decide +kernel
theorem tyX0_ok : ∀ k, k < 0 → parseFieldDescriptor (TX0 k).2.2.1 = some (tyX0 k) := by decide +kernel
abbrev cX0_ofAll : ByteArray := prog_2_method_2_code
def yX0_ofAll : MethodName := ⟨RX0, "ofAll", "(LPatrolDesk$State;I)I"⟩
abbrev cX0_ofMember : ByteArray := prog_2_method_3_code
def yX0_ofMember : MethodName := ⟨RX0, "ofMember", "(LPatrolDesk$State;II)I"⟩
abbrev cX0_amount : ByteArray := prog_2_method_4_code
def yX0_amount : MethodName := ⟨RX0, "amount", "(LPatrolDesk$State;ILPatrolDesk$Breakdown;)I"⟩
abbrev cX0_cost : ByteArray := prog_2_method_5_code
def yX0_cost : MethodName := ⟨RX0, "cost", "(LPatrolDesk$State;LPatrolDesk$Breakdown;)I"⟩
def RX1 : String := "PatrolDesk$Breakdown"
def TX1 : u_T := fun k => match k with
  | 0 => ("PatrolDesk$Breakdown", "member", "I", false)
  | 1 => ("PatrolDesk$Breakdown", "area", "I", false)
  | 2 => ("PatrolDesk$Breakdown", "trouble", "I", false)
  | 3 => ("PatrolDesk$Breakdown", "bound", "I", false)
  | 4 => ("PatrolDesk$Breakdown", "came", "I", false)
  | 5 => ("PatrolDesk$Breakdown", "state", "I", false)
  | 6 => ("PatrolDesk$Breakdown", "first", "I", false)
  | 7 => ("PatrolDesk$Breakdown", "reached", "I", false)
  | 8 => ("PatrolDesk$Breakdown", "ended", "I", false)
  | 9 => ("PatrolDesk$Breakdown", "garage", "I", false)
  | _ => ("PatrolDesk$Breakdown", "callback", "Z", false)
def tyX1 : Nat → FieldType := fun k => match k with
  | 0 => .int
  | 1 => .int
  | 2 => .int
  | 3 => .int
  | 4 => .int
  | 5 => .int
  | 6 => .int
  | 7 => .int
  | 8 => .int
  | 9 => .int
  | _ => .boolean
abbrev wsX10 : List Cond := u_ws RX1 TX1 11
theorem nmX1 : ∀ a, a < 11 → ∀ b, b < 11 → a ≠ b → (TX1 a).2.1 ≠ (TX1 b).2.1 := by decide +kernel
theorem tyX1_ok : ∀ k, k < 11 → parseFieldDescriptor (TX1 k).2.2.1 = some (tyX1 k) := by decide +kernel
abbrev cX1_init : ByteArray := prog_3_method_1_code
def yX1_init : MethodName := ⟨RX1, "<init>", "()V"⟩
abbrev cX1_begin : ByteArray := prog_3_method_2_code
def yX1_begin : MethodName := ⟨RX1, "begin", "(IIIII)V"⟩
abbrev cX1_copyFrom : ByteArray := prog_3_method_3_code
def yX1_copyFrom : MethodName := ⟨RX1, "copyFrom", "(LPatrolDesk$Breakdown;)V"⟩
abbrev cX1_end : ByteArray := prog_3_method_4_code
def yX1_end : MethodName := ⟨RX1, "end", "(II)V"⟩
abbrev cX1_isUnattended : ByteArray := prog_3_method_5_code
def yX1_isUnattended : MethodName := ⟨RX1, "isUnattended", "()Z"⟩
abbrev cX1_isOpen : ByteArray := prog_3_method_6_code
def yX1_isOpen : MethodName := ⟨RX1, "isOpen", "()Z"⟩
abbrev cX1_isLate : ByteArray := prog_3_method_7_code
def yX1_isLate : MethodName := ⟨RX1, "isLate", "()Z"⟩
abbrev cX1_due : ByteArray := prog_3_method_8_code
def yX1_due : MethodName := ⟨RX1, "due", "()I"⟩
abbrev cX1_waited : ByteArray := prog_3_method_9_code
def yX1_waited : MethodName := ⟨RX1, "waited", "(I)I"⟩
def RX2 : String := "PatrolDesk$CallText"
def TX2 : u_T := fun k => match k with
  | 0 => ("PatrolDesk$CallText", "signs", "[C", true)
  | 1 => ("PatrolDesk$CallText", "length", "I", false)
  | 2 => ("PatrolDesk$CallText", "numbers", "[I", true)
  | _ => ("PatrolDesk$CallText", "numberCount", "I", false)
def tyX2 : Nat → FieldType := fun k => match k with
  | 0 => .array .char
  | 1 => .int
  | 2 => .array .int
  | _ => .int
abbrev wsX20 : List Cond := u_ws RX2 TX2 4
theorem nmX2 : ∀ a, a < 4 → ∀ b, b < 4 → a ≠ b → (TX2 a).2.1 ≠ (TX2 b).2.1 := by decide +kernel
theorem tyX2_ok : ∀ k, k < 4 → parseFieldDescriptor (TX2 k).2.2.1 = some (tyX2 k) := by decide +kernel
abbrev cX2_init : ByteArray := prog_4_method_1_code
def yX2_init : MethodName := ⟨RX2, "<init>", "()V"⟩
abbrev cX2_append : ByteArray := prog_4_method_2_code
def yX2_append : MethodName := ⟨RX2, "append", "(C)Z"⟩
abbrev cX2_read : ByteArray := prog_4_method_3_code
def yX2_read : MethodName := ⟨RX2, "read", "()I"⟩
abbrev cX2_signAt : ByteArray := prog_4_method_4_code
def yX2_signAt : MethodName := ⟨RX2, "signAt", "(I)I"⟩
abbrev cX2_isDigit : ByteArray := prog_4_method_5_code
def yX2_isDigit : MethodName := ⟨RX2, "isDigit", "(I)Z"⟩
abbrev cX2_digitsAt : ByteArray := prog_4_method_6_code
def yX2_digitsAt : MethodName := ⟨RX2, "digitsAt", "(I)I"⟩
abbrev cX2_addNumber : ByteArray := prog_4_method_7_code
def yX2_addNumber : MethodName := ⟨RX2, "addNumber", "(II)V"⟩
abbrev cX2_calls : ByteArray := prog_4_method_8_code
def yX2_calls : MethodName := ⟨RX2, "calls", "()I"⟩
abbrev cX2_number : ByteArray := prog_4_method_9_code
def yX2_number : MethodName := ⟨RX2, "number", "(II)I"⟩
def RX3 : String := "PatrolDesk$Garage"
def TX3 : u_T := fun k => match k with
  | 0 => ("PatrolDesk$Garage", "area", "I", false)
  | 1 => ("PatrolDesk$Garage", "places", "I", false)
  | 2 => ("PatrolDesk$Garage", "cars", "I", false)
  | 3 => ("PatrolDesk$Garage", "underWay", "I", false)
  | _ => ("PatrolDesk$Garage", "towedSoFar", "I", false)
def tyX3 : Nat → FieldType := fun k => match k with
  | 0 => .int
  | 1 => .int
  | 2 => .int
  | 3 => .int
  | _ => .int
abbrev wsX30 : List Cond := u_ws RX3 TX3 5
theorem nmX3 : ∀ a, a < 5 → ∀ b, b < 5 → a ≠ b → (TX3 a).2.1 ≠ (TX3 b).2.1 := by decide +kernel
theorem tyX3_ok : ∀ k, k < 5 → parseFieldDescriptor (TX3 k).2.2.1 = some (tyX3 k) := by decide +kernel
abbrev cX3_init : ByteArray := prog_5_method_1_code
def yX3_init : MethodName := ⟨RX3, "<init>", "()V"⟩
abbrev cX3_begin : ByteArray := prog_5_method_2_code
def yX3_begin : MethodName := ⟨RX3, "begin", "(II)V"⟩
abbrev cX3_copyFrom : ByteArray := prog_5_method_3_code
def yX3_copyFrom : MethodName := ⟨RX3, "copyFrom", "(LPatrolDesk$Garage;)V"⟩
abbrev cX3_hasRoom : ByteArray := prog_5_method_4_code
def yX3_hasRoom : MethodName := ⟨RX3, "hasRoom", "()Z"⟩
def RX4 : String := "PatrolDesk$Patrol"
def TX4 : u_T := fun k => match k with
  | 0 => ("PatrolDesk$Patrol", "home", "I", false)
  | 1 => ("PatrolDesk$Patrol", "skill", "I", false)
  | 2 => ("PatrolDesk$Patrol", "canTow", "Z", false)
  | 3 => ("PatrolDesk$Patrol", "doing", "I", false)
  | 4 => ("PatrolDesk$Patrol", "area", "I", false)
  | 5 => ("PatrolDesk$Patrol", "call", "I", false)
  | 6 => ("PatrolDesk$Patrol", "left", "I", false)
  | 7 => ("PatrolDesk$Patrol", "target", "I", false)
  | 8 => ("PatrolDesk$Patrol", "garage", "I", false)
  | 9 => ("PatrolDesk$Patrol", "repairs", "I", false)
  | 10 => ("PatrolDesk$Patrol", "towsDone", "I", false)
  | 11 => ("PatrolDesk$Patrol", "callbacks", "I", false)
  | 12 => ("PatrolDesk$Patrol", "waitedForIt", "I", false)
  | _ => ("PatrolDesk$Patrol", "busyMinutes", "I", false)
def tyX4 : Nat → FieldType := fun k => match k with
  | 0 => .int
  | 1 => .int
  | 2 => .boolean
  | 3 => .int
  | 4 => .int
  | 5 => .int
  | 6 => .int
  | 7 => .int
  | 8 => .int
  | 9 => .int
  | 10 => .int
  | 11 => .int
  | 12 => .int
  | _ => .int
abbrev wsX40 : List Cond := u_ws RX4 TX4 14
theorem nmX4 : ∀ a, a < 14 → ∀ b, b < 14 → a ≠ b → (TX4 a).2.1 ≠ (TX4 b).2.1 := by decide +kernel
theorem tyX4_ok : ∀ k, k < 14 → parseFieldDescriptor (TX4 k).2.2.1 = some (tyX4 k) := by decide +kernel
abbrev cX4_init : ByteArray := prog_6_method_1_code
def yX4_init : MethodName := ⟨RX4, "<init>", "()V"⟩
abbrev cX4_begin : ByteArray := prog_6_method_2_code
def yX4_begin : MethodName := ⟨RX4, "begin", "(IIZ)V"⟩
abbrev cX4_copyFrom : ByteArray := prog_6_method_3_code
def yX4_copyFrom : MethodName := ⟨RX4, "copyFrom", "(LPatrolDesk$Patrol;)V"⟩
abbrev cX4_becomeFree : ByteArray := prog_6_method_4_code
def yX4_becomeFree : MethodName := ⟨RX4, "becomeFree", "()V"⟩
abbrev cX4_leaveFor : ByteArray := prog_6_method_5_code
def yX4_leaveFor : MethodName := ⟨RX4, "leaveFor", "(II)V"⟩
abbrev cX4_isBusy : ByteArray := prog_6_method_6_code
def yX4_isBusy : MethodName := ⟨RX4, "isBusy", "()Z"⟩
def RX5 : String := "PatrolDesk$RoadMap"
def TX5 : u_T := fun k => match k with
  | 0 => ("PatrolDesk$RoadMap", "roads", "I", false)
  | 1 => ("PatrolDesk$RoadMap", "roadMinutes", "[I", true)
  | _ => ("PatrolDesk$RoadMap", "distances", "[I", true)
def tyX5 : Nat → FieldType := fun k => match k with
  | 0 => .int
  | 1 => .array .int
  | _ => .array .int
abbrev wsX50 : List Cond := u_ws RX5 TX5 3
theorem nmX5 : ∀ a, a < 3 → ∀ b, b < 3 → a ≠ b → (TX5 a).2.1 ≠ (TX5 b).2.1 := by decide +kernel
theorem tyX5_ok : ∀ k, k < 3 → parseFieldDescriptor (TX5 k).2.2.1 = some (tyX5 k) := by decide +kernel
abbrev cX5_init : ByteArray := prog_7_method_1_code
def yX5_init : MethodName := ⟨RX5, "<init>", "()V"⟩
abbrev cX5_copyFrom : ByteArray := prog_7_method_2_code
def yX5_copyFrom : MethodName := ⟨RX5, "copyFrom", "(LPatrolDesk$RoadMap;)V"⟩
abbrev cX5_road : ByteArray := prog_7_method_3_code
def yX5_road : MethodName := ⟨RX5, "road", "(II)I"⟩
abbrev cX5_between : ByteArray := prog_7_method_4_code
def yX5_between : MethodName := ⟨RX5, "between", "(II)I"⟩
abbrev cX5_build : ByteArray := prog_7_method_5_code
def yX5_build : MethodName := ⟨RX5, "build", "(III)I"⟩
abbrev cX5_nextOnWay : ByteArray := prog_7_method_6_code
def yX5_nextOnWay : MethodName := ⟨RX5, "nextOnWay", "(II)I"⟩
def RX6 : String := "PatrolDesk$Sending"
def TX6 : u_T := fun k => match k with
  | _ => ("", "", "", false)
def tyX6 : Nat → FieldType := fun k => match k with
  | _ => .int
abbrev wsX60 : List Cond := u_ws RX6 TX6 0
theorem nmX6 : ∀ a, a < 0 → ∀ b, b < 0 → a ≠ b → (TX6 a).2.1 ≠ (TX6 b).2.1 := by decide +kernel
theorem tyX6_ok : ∀ k, k < 0 → parseFieldDescriptor (TX6 k).2.2.1 = some (tyX6 k) := by decide +kernel
abbrev cX6_waits : ByteArray := prog_8_method_2_code
def yX6_waits : MethodName := ⟨RX6, "waits", "(LPatrolDesk$State;I)Z"⟩
abbrev cX6_putInOrder : ByteArray := prog_8_method_3_code
def yX6_putInOrder : MethodName := ⟨RX6, "putInOrder", "(LPatrolDesk$State;)I"⟩
abbrev cX6_isAheadOf : ByteArray := prog_8_method_4_code
def yX6_isAheadOf : MethodName := ⟨RX6, "isAheadOf", "(LPatrolDesk$State;II)Z"⟩
abbrev cX6_nearestPatrol : ByteArray := prog_8_method_5_code
def yX6_nearestPatrol : MethodName := ⟨RX6, "nearestPatrol", "(LPatrolDesk$State;LPatrolDesk$Breakdown;)I"⟩
abbrev cX6_mayTake : ByteArray := prog_8_method_6_code
def yX6_mayTake : MethodName := ⟨RX6, "mayTake", "(LPatrolDesk$Patrol;LPatrolDesk$Breakdown;)Z"⟩
def RX7 : String := "PatrolDesk$State"
def TX7 : u_T := fun k => match k with
  | 0 => ("PatrolDesk$State", "map", "LPatrolDesk$RoadMap;", true)
  | 1 => ("PatrolDesk$State", "tiers", "[I", true)
  | 2 => ("PatrolDesk$State", "members", "I", false)
  | 3 => ("PatrolDesk$State", "patrols", "[LPatrolDesk$Patrol;", true)
  | 4 => ("PatrolDesk$State", "patrolCount", "I", false)
  | 5 => ("PatrolDesk$State", "garages", "[LPatrolDesk$Garage;", true)
  | 6 => ("PatrolDesk$State", "garageCount", "I", false)
  | 7 => ("PatrolDesk$State", "calls", "[LPatrolDesk$Breakdown;", true)
  | 8 => ("PatrolDesk$State", "callCount", "I", false)
  | 9 => ("PatrolDesk$State", "promises", "[I", true)
  | 10 => ("PatrolDesk$State", "weather", "I", false)
  | 11 => ("PatrolDesk$State", "minute", "I", false)
  | _ => ("PatrolDesk$State", "order", "[I", true)
def tyX7 : Nat → FieldType := fun k => match k with
  | 0 => .object "PatrolDesk$RoadMap"
  | 1 => .array .int
  | 2 => .int
  | 3 => .array (.object "PatrolDesk$Patrol")
  | 4 => .int
  | 5 => .array (.object "PatrolDesk$Garage")
  | 6 => .int
  | 7 => .array (.object "PatrolDesk$Breakdown")
  | 8 => .int
  | 9 => .array .int
  | 10 => .int
  | 11 => .int
  | _ => .array .int
abbrev wsX70 : List Cond := u_ws RX7 TX7 13
theorem nmX7 : ∀ a, a < 13 → ∀ b, b < 13 → a ≠ b → (TX7 a).2.1 ≠ (TX7 b).2.1 := by decide +kernel
theorem tyX7_ok : ∀ k, k < 13 → parseFieldDescriptor (TX7 k).2.2.1 = some (tyX7 k) := by decide +kernel
abbrev cX7_init : ByteArray := prog_9_method_1_code
def yX7_init : MethodName := ⟨RX7, "<init>", "()V"⟩
abbrev cX7_copyFrom : ByteArray := prog_9_method_2_code
def yX7_copyFrom : MethodName := ⟨RX7, "copyFrom", "(LPatrolDesk$State;)V"⟩
abbrev cX7_isMember : ByteArray := prog_9_method_3_code
def yX7_isMember : MethodName := ⟨RX7, "isMember", "(I)Z"⟩
abbrev cX7_isPatrol : ByteArray := prog_9_method_4_code
def yX7_isPatrol : MethodName := ⟨RX7, "isPatrol", "(I)Z"⟩
abbrev cX7_isGarage : ByteArray := prog_9_method_5_code
def yX7_isGarage : MethodName := ⟨RX7, "isGarage", "(I)Z"⟩
abbrev cX7_isCall : ByteArray := prog_9_method_6_code
def yX7_isCall : MethodName := ⟨RX7, "isCall", "(I)Z"⟩
abbrev cX7_enrol : ByteArray := prog_9_method_7_code
def yX7_enrol : MethodName := ⟨RX7, "enrol", "(I)I"⟩
abbrev cX7_hire : ByteArray := prog_9_method_8_code
def yX7_hire : MethodName := ⟨RX7, "hire", "(IIZ)I"⟩
abbrev cX7_open : ByteArray := prog_9_method_9_code
def yX7_open : MethodName := ⟨RX7, "open", "(II)I"⟩
abbrev cX7_refusal : ByteArray := prog_9_method_10_code
def yX7_refusal : MethodName := ⟨RX7, "refusal", "(III)I"⟩
abbrev cX7_take : ByteArray := prog_9_method_11_code
def yX7_take : MethodName := ⟨RX7, "take", "(III)I"⟩
abbrev cX7_repairedBefore : ByteArray := prog_9_method_12_code
def yX7_repairedBefore : MethodName := ⟨RX7, "repairedBefore", "(I)I"⟩
abbrev cX7_promiseOf : ByteArray := prog_9_method_13_code
def yX7_promiseOf : MethodName := ⟨RX7, "promiseOf", "(I)I"⟩
abbrev cX7_tierOf : ByteArray := prog_9_method_14_code
def yX7_tierOf : MethodName := ⟨RX7, "tierOf", "(I)I"⟩
abbrev cX7_openCallOf : ByteArray := prog_9_method_15_code
def yX7_openCallOf : MethodName := ⟨RX7, "openCallOf", "(I)I"⟩
abbrev cX7_callsIn : ByteArray := prog_9_method_16_code
def yX7_callsIn : MethodName := ⟨RX7, "callsIn", "(I)I"⟩
abbrev cX7_patrolOf : ByteArray := prog_9_method_17_code
def yX7_patrolOf : MethodName := ⟨RX7, "patrolOf", "(I)I"⟩
abbrev cX7_patrolsOnDuty : ByteArray := prog_9_method_18_code
def yX7_patrolsOnDuty : MethodName := ⟨RX7, "patrolsOnDuty", "()I"⟩
def RX8 : String := "PatrolDesk$Work"
def TX8 : u_T := fun k => match k with
  | _ => ("", "", "", false)
def tyX8 : Nat → FieldType := fun k => match k with
  | _ => .int
abbrev wsX80 : List Cond := u_ws RX8 TX8 0
theorem nmX8 : ∀ a, a < 0 → ∀ b, b < 0 → a ≠ b → (TX8 a).2.1 ≠ (TX8 b).2.1 := by decide +kernel
theorem tyX8_ok : ∀ k, k < 0 → parseFieldDescriptor (TX8 k).2.2.1 = some (tyX8 k) := by decide +kernel
abbrev cX8_passMinute : ByteArray := prog_10_method_2_code
def yX8_passMinute : MethodName := ⟨RX8, "passMinute", "(LPatrolDesk$State;)I"⟩
abbrev cX8_goOn : ByteArray := prog_10_method_3_code
def yX8_goOn : MethodName := ⟨RX8, "goOn", "(LPatrolDesk$State;I)I"⟩
abbrev cX8_sendPatrols : ByteArray := prog_10_method_4_code
def yX8_sendPatrols : MethodName := ⟨RX8, "sendPatrols", "(LPatrolDesk$State;)V"⟩
abbrev cX8_arrive : ByteArray := prog_10_method_5_code
def yX8_arrive : MethodName := ⟨RX8, "arrive", "(LPatrolDesk$State;ILPatrolDesk$Breakdown;)V"⟩
abbrev cX8_startTow : ByteArray := prog_10_method_6_code
def yX8_startTow : MethodName := ⟨RX8, "startTow", "(LPatrolDesk$State;LPatrolDesk$Patrol;LPatrolDesk$Breakdown;)V"⟩
abbrev cX8_nearestGarage : ByteArray := prog_10_method_7_code
def yX8_nearestGarage : MethodName := ⟨RX8, "nearestGarage", "(LPatrolDesk$State;I)I"⟩
abbrev cX8_endOfTow : ByteArray := prog_10_method_8_code
def yX8_endOfTow : MethodName := ⟨RX8, "endOfTow", "(LPatrolDesk$RoadMap;II)I"⟩
abbrev cX8_endTow : ByteArray := prog_10_method_9_code
def yX8_endTow : MethodName := ⟨RX8, "endTow", "(LPatrolDesk$State;LPatrolDesk$Patrol;LPatrolDesk$Breakdown;)I"⟩
def RX9 : String := "PatrolDesk"
def TX9 : u_T := fun k => match k with
  | 0 => ("PatrolDesk", "now", "LPatrolDesk$State;", true)
  | 1 => ("PatrolDesk", "kept", "LPatrolDesk$State;", true)
  | 2 => ("PatrolDesk", "trial", "LPatrolDesk$State;", true)
  | 3 => ("PatrolDesk", "history", "[LPatrolDesk$State;", true)
  | 4 => ("PatrolDesk", "recorded", "I", false)
  | 5 => ("PatrolDesk", "hasKept", "Z", false)
  | _ => ("PatrolDesk", "text", "LPatrolDesk$CallText;", true)
def tyX9 : Nat → FieldType := fun k => match k with
  | 0 => .object "PatrolDesk$State"
  | 1 => .object "PatrolDesk$State"
  | 2 => .object "PatrolDesk$State"
  | 3 => .array (.object "PatrolDesk$State")
  | 4 => .int
  | 5 => .boolean
  | _ => .object "PatrolDesk$CallText"
abbrev wsX90 : List Cond := u_ws RX9 TX9 7
theorem nmX9 : ∀ a, a < 7 → ∀ b, b < 7 → a ≠ b → (TX9 a).2.1 ≠ (TX9 b).2.1 := by decide +kernel
theorem tyX9_ok : ∀ k, k < 7 → parseFieldDescriptor (TX9 k).2.2.1 = some (tyX9 k) := by decide +kernel
abbrev cX9_init : ByteArray := prog_1_method_1_code
def yX9_init : MethodName := ⟨RX9, "<init>", "()V"⟩
abbrev cX9_addRoad : ByteArray := prog_1_method_2_code
def yX9_addRoad : MethodName := ⟨RX9, "addRoad", "(III)I"⟩
abbrev cX9_addMember : ByteArray := prog_1_method_3_code
def yX9_addMember : MethodName := ⟨RX9, "addMember", "(I)I"⟩
abbrev cX9_addPatrol : ByteArray := prog_1_method_4_code
def yX9_addPatrol : MethodName := ⟨RX9, "addPatrol", "(IIZ)I"⟩
abbrev cX9_addGarage : ByteArray := prog_1_method_5_code
def yX9_addGarage : MethodName := ⟨RX9, "addGarage", "(II)I"⟩
abbrev cX9_setPromise : ByteArray := prog_1_method_6_code
def yX9_setPromise : MethodName := ⟨RX9, "setPromise", "(II)I"⟩
abbrev cX9_setWeather : ByteArray := prog_1_method_7_code
def yX9_setWeather : MethodName := ⟨RX9, "setWeather", "(I)I"⟩
abbrev cX9_call : ByteArray := prog_1_method_8_code
def yX9_call : MethodName := ⟨RX9, "call", "(III)I"⟩
abbrev cX9_cancel : ByteArray := prog_1_method_9_code
def yX9_cancel : MethodName := ⟨RX9, "cancel", "(I)I"⟩
abbrev cX9_duty : ByteArray := prog_1_method_10_code
def yX9_duty : MethodName := ⟨RX9, "duty", "(IZ)I"⟩
abbrev cX9_goHome : ByteArray := prog_1_method_11_code
def yX9_goHome : MethodName := ⟨RX9, "goHome", "(I)I"⟩
abbrev cX9_fetch : ByteArray := prog_1_method_12_code
def yX9_fetch : MethodName := ⟨RX9, "fetch", "(II)I"⟩
abbrev cX9_pass : ByteArray := prog_1_method_13_code
def yX9_pass : MethodName := ⟨RX9, "pass", "(I)I"⟩
abbrev cX9_type : ByteArray := prog_1_method_14_code
def yX9_type : MethodName := ⟨RX9, "type", "(C)I"⟩
abbrev cX9_clearText : ByteArray := prog_1_method_15_code
def yX9_clearText : MethodName := ⟨RX9, "clearText", "()I"⟩
abbrev cX9_readCalls : ByteArray := prog_1_method_16_code
def yX9_readCalls : MethodName := ⟨RX9, "readCalls", "()I"⟩
abbrev cX9_takeAll : ByteArray := prog_1_method_17_code
def yX9_takeAll : MethodName := ⟨RX9, "takeAll", "(LPatrolDesk$State;)I"⟩
abbrev cX9_undo : ByteArray := prog_1_method_18_code
def yX9_undo : MethodName := ⟨RX9, "undo", "()I"⟩
abbrev cX9_keep : ByteArray := prog_1_method_19_code
def yX9_keep : MethodName := ⟨RX9, "keep", "()I"⟩
abbrev cX9_restore : ByteArray := prog_1_method_20_code
def yX9_restore : MethodName := ⟨RX9, "restore", "()I"⟩
abbrev cX9_record : ByteArray := prog_1_method_21_code
def yX9_record : MethodName := ⟨RX9, "record", "()V"⟩
abbrev cX9_distance : ByteArray := prog_1_method_22_code
def yX9_distance : MethodName := ⟨RX9, "distance", "(II)I"⟩
abbrev cX9_wayAt : ByteArray := prog_1_method_23_code
def yX9_wayAt : MethodName := ⟨RX9, "wayAt", "(III)I"⟩
abbrev cX9_member : ByteArray := prog_1_method_24_code
def yX9_member : MethodName := ⟨RX9, "member", "(II)I"⟩
abbrev cX9_patrol : ByteArray := prog_1_method_25_code
def yX9_patrol : MethodName := ⟨RX9, "patrol", "(II)I"⟩
abbrev cX9_garage : ByteArray := prog_1_method_26_code
def yX9_garage : MethodName := ⟨RX9, "garage", "(II)I"⟩
abbrev cX9_callOf : ByteArray := prog_1_method_27_code
def yX9_callOf : MethodName := ⟨RX9, "callOf", "(II)I"⟩
abbrev cX9_waiting : ByteArray := prog_1_method_28_code
def yX9_waiting : MethodName := ⟨RX9, "waiting", "(I)I"⟩
abbrev cX9_nearest : ByteArray := prog_1_method_29_code
def yX9_nearest : MethodName := ⟨RX9, "nearest", "(I)I"⟩
abbrev cX9_waitFor : ByteArray := prog_1_method_30_code
def yX9_waitFor : MethodName := ⟨RX9, "waitFor", "(I)I"⟩
abbrev cX9_count : ByteArray := prog_1_method_31_code
def yX9_count : MethodName := ⟨RX9, "count", "(I)I"⟩
abbrev cX9_isArea : ByteArray := prog_1_method_32_code
def yX9_isArea : MethodName := ⟨RX9, "isArea", "(I)Z"⟩
abbrev cX9_isTier : ByteArray := prog_1_method_33_code
def yX9_isTier : MethodName := ⟨RX9, "isTier", "(I)Z"⟩
abbrev cX9_regionOf : ByteArray := prog_1_method_34_code
def yX9_regionOf : MethodName := ⟨RX9, "regionOf", "(I)I"⟩
def RX10 : String := "PatrolDeskModel"
def TX10 : u_T := fun k => match k with
  | 0 => ("PatrolDeskModel", "now", "[I", true)
  | 1 => ("PatrolDeskModel", "past", "[I", true)
  | 2 => ("PatrolDeskModel", "pasts", "I", false)
  | 3 => ("PatrolDeskModel", "kept", "[I", true)
  | 4 => ("PatrolDeskModel", "isKept", "Z", false)
  | 5 => ("PatrolDeskModel", "trial", "[I", true)
  | 6 => ("PatrolDeskModel", "text", "[I", true)
  | 7 => ("PatrolDeskModel", "typed", "I", false)
  | 8 => ("PatrolDeskModel", "roads", "[I", true)
  | 9 => ("PatrolDeskModel", "ways", "[I", true)
  | 10 => ("PatrolDeskModel", "row", "[I", true)
  | 11 => ("PatrolDeskModel", "rowMany", "I", false)
  | 12 => ("PatrolDeskModel", "numbers", "[I", true)
  | 13 => ("PatrolDeskModel", "readMany", "I", false)
  | _ => ("PatrolDeskModel", "at", "I", false)
def tyX10 : Nat → FieldType := fun k => match k with
  | 0 => .array .int
  | 1 => .array .int
  | 2 => .int
  | 3 => .array .int
  | 4 => .boolean
  | 5 => .array .int
  | 6 => .array .int
  | 7 => .int
  | 8 => .array .int
  | 9 => .array .int
  | 10 => .array .int
  | 11 => .int
  | 12 => .array .int
  | 13 => .int
  | _ => .int
abbrev wsX100 : List Cond := u_ws RX10 TX10 15
theorem nmX10 : ∀ a, a < 15 → ∀ b, b < 15 → a ≠ b → (TX10 a).2.1 ≠ (TX10 b).2.1 := by decide +kernel
theorem tyX10_ok : ∀ k, k < 15 → parseFieldDescriptor (TX10 k).2.2.1 = some (tyX10 k) := by decide +kernel
abbrev cX10_init : ByteArray := prog_12_method_1_code
def yX10_init : MethodName := ⟨RX10, "<init>", "()V"⟩
abbrev cX10_in : ByteArray := prog_12_method_2_code
def yX10_in : MethodName := ⟨RX10, "in", "(III)Z"⟩
abbrev cX10_copies : ByteArray := prog_12_method_3_code
def yX10_copies : MethodName := ⟨RX10, "copies", "([II[II)V"⟩
abbrev cX10_records : ByteArray := prog_12_method_4_code
def yX10_records : MethodName := ⟨RX10, "records", "()V"⟩
abbrev cX10_isArea : ByteArray := prog_12_method_5_code
def yX10_isArea : MethodName := ⟨RX10, "isArea", "(I)Z"⟩
abbrev cX10_region : ByteArray := prog_12_method_6_code
def yX10_region : MethodName := ⟨RX10, "region", "(I)I"⟩
abbrev cX10_isMember : ByteArray := prog_12_method_7_code
def yX10_isMember : MethodName := ⟨RX10, "isMember", "(I)Z"⟩
abbrev cX10_isPatrol : ByteArray := prog_12_method_8_code
def yX10_isPatrol : MethodName := ⟨RX10, "isPatrol", "(I)Z"⟩
abbrev cX10_isGarage : ByteArray := prog_12_method_9_code
def yX10_isGarage : MethodName := ⟨RX10, "isGarage", "(I)Z"⟩
abbrev cX10_isCall : ByteArray := prog_12_method_10_code
def yX10_isCall : MethodName := ⟨RX10, "isCall", "(I)Z"⟩
abbrev cX10_ofMember : ByteArray := prog_12_method_11_code
def yX10_ofMember : MethodName := ⟨RX10, "ofMember", "(II)I"⟩
abbrev cX10_addsMember : ByteArray := prog_12_method_12_code
def yX10_addsMember : MethodName := ⟨RX10, "addsMember", "(III)V"⟩
abbrev cX10_ofPatrol : ByteArray := prog_12_method_13_code
def yX10_ofPatrol : MethodName := ⟨RX10, "ofPatrol", "(II)I"⟩
abbrev cX10_laysPatrol : ByteArray := prog_12_method_14_code
def yX10_laysPatrol : MethodName := ⟨RX10, "laysPatrol", "(III)V"⟩
abbrev cX10_ofGarage : ByteArray := prog_12_method_15_code
def yX10_ofGarage : MethodName := ⟨RX10, "ofGarage", "(II)I"⟩
abbrev cX10_ofCall : ByteArray := prog_12_method_16_code
def yX10_ofCall : MethodName := ⟨RX10, "ofCall", "(II)I"⟩
abbrev cX10_laysCall : ByteArray := prog_12_method_17_code
def yX10_laysCall : MethodName := ⟨RX10, "laysCall", "(III)V"⟩
abbrev cX10_laysWays : ByteArray := prog_12_method_18_code
def yX10_laysWays : MethodName := ⟨RX10, "laysWays", "()V"⟩
abbrev cX10_way : ByteArray := prog_12_method_19_code
def yX10_way : MethodName := ⟨RX10, "way", "(II)I"⟩
abbrev cX10_nextOn : ByteArray := prog_12_method_20_code
def yX10_nextOn : MethodName := ⟨RX10, "nextOn", "(II)I"⟩
abbrev cX10_addRoad : ByteArray := prog_12_method_21_code
def yX10_addRoad : MethodName := ⟨RX10, "addRoad", "(III)I"⟩
abbrev cX10_addMember : ByteArray := prog_12_method_22_code
def yX10_addMember : MethodName := ⟨RX10, "addMember", "(I)I"⟩
abbrev cX10_addPatrol : ByteArray := prog_12_method_23_code
def yX10_addPatrol : MethodName := ⟨RX10, "addPatrol", "(IIZ)I"⟩
abbrev cX10_addGarage : ByteArray := prog_12_method_24_code
def yX10_addGarage : MethodName := ⟨RX10, "addGarage", "(II)I"⟩
abbrev cX10_setPromise : ByteArray := prog_12_method_25_code
def yX10_setPromise : MethodName := ⟨RX10, "setPromise", "(II)I"⟩
abbrev cX10_setWeather : ByteArray := prog_12_method_26_code
def yX10_setWeather : MethodName := ⟨RX10, "setWeather", "(I)I"⟩
abbrev cX10_openOf : ByteArray := prog_12_method_27_code
def yX10_openOf : MethodName := ⟨RX10, "openOf", "(I)I"⟩
abbrev cX10_against : ByteArray := prog_12_method_28_code
def yX10_against : MethodName := ⟨RX10, "against", "(III)I"⟩
abbrev cX10_comes : ByteArray := prog_12_method_29_code
def yX10_comes : MethodName := ⟨RX10, "comes", "(III)V"⟩
abbrev cX10_call : ByteArray := prog_12_method_30_code
def yX10_call : MethodName := ⟨RX10, "call", "(III)I"⟩
abbrev cX10_waitedOf : ByteArray := prog_12_method_31_code
def yX10_waitedOf : MethodName := ⟨RX10, "waitedOf", "(I)I"⟩
abbrev cX10_frees : ByteArray := prog_12_method_32_code
def yX10_frees : MethodName := ⟨RX10, "frees", "(I)V"⟩
abbrev cX10_cancel : ByteArray := prog_12_method_33_code
def yX10_cancel : MethodName := ⟨RX10, "cancel", "(I)I"⟩
abbrev cX10_onDuty : ByteArray := prog_12_method_34_code
def yX10_onDuty : MethodName := ⟨RX10, "onDuty", "()I"⟩
abbrev cX10_duty : ByteArray := prog_12_method_35_code
def yX10_duty : MethodName := ⟨RX10, "duty", "(IZ)I"⟩
abbrev cX10_goHome : ByteArray := prog_12_method_36_code
def yX10_goHome : MethodName := ⟨RX10, "goHome", "(I)I"⟩
abbrev cX10_fetch : ByteArray := prog_12_method_37_code
def yX10_fetch : MethodName := ⟨RX10, "fetch", "(II)I"⟩
abbrev cX10_underWay : ByteArray := prog_12_method_38_code
def yX10_underWay : MethodName := ⟨RX10, "underWay", "(I)I"⟩
abbrev cX10_garageFor : ByteArray := prog_12_method_39_code
def yX10_garageFor : MethodName := ⟨RX10, "garageFor", "(I)I"⟩
abbrev cX10_leaves : ByteArray := prog_12_method_40_code
def yX10_leaves : MethodName := ⟨RX10, "leaves", "(I)V"⟩
abbrev cX10_tows : ByteArray := prog_12_method_41_code
def yX10_tows : MethodName := ⟨RX10, "tows", "(I)V"⟩
abbrev cX10_gets : ByteArray := prog_12_method_42_code
def yX10_gets : MethodName := ⟨RX10, "gets", "(I)V"⟩
abbrev cX10_repaired : ByteArray := prog_12_method_43_code
def yX10_repaired : MethodName := ⟨RX10, "repaired", "(I)V"⟩
abbrev cX10_towed : ByteArray := prog_12_method_44_code
def yX10_towed : MethodName := ⟨RX10, "towed", "(I)V"⟩
abbrev cX10_waits : ByteArray := prog_12_method_45_code
def yX10_waits : MethodName := ⟨RX10, "waits", "(I)Z"⟩
abbrev cX10_rest : ByteArray := prog_12_method_46_code
def yX10_rest : MethodName := ⟨RX10, "rest", "(I)I"⟩
abbrev cX10_isAhead : ByteArray := prog_12_method_47_code
def yX10_isAhead : MethodName := ⟨RX10, "isAhead", "(II)Z"⟩
abbrev cX10_laysRow : ByteArray := prog_12_method_48_code
def yX10_laysRow : MethodName := ⟨RX10, "laysRow", "()V"⟩
abbrev cX10_mayTake : ByteArray := prog_12_method_49_code
def yX10_mayTake : MethodName := ⟨RX10, "mayTake", "(II)Z"⟩
abbrev cX10_nearestOf : ByteArray := prog_12_method_50_code
def yX10_nearestOf : MethodName := ⟨RX10, "nearestOf", "(I)I"⟩
abbrev cX10_sends : ByteArray := prog_12_method_51_code
def yX10_sends : MethodName := ⟨RX10, "sends", "()V"⟩
abbrev cX10_passes : ByteArray := prog_12_method_52_code
def yX10_passes : MethodName := ⟨RX10, "passes", "()V"⟩
abbrev cX10_manyIn : ByteArray := prog_12_method_53_code
def yX10_manyIn : MethodName := ⟨RX10, "manyIn", "(I)I"⟩
abbrev cX10_pass : ByteArray := prog_12_method_54_code
def yX10_pass : MethodName := ⟨RX10, "pass", "(I)I"⟩
abbrev cX10_type : ByteArray := prog_12_method_55_code
def yX10_type : MethodName := ⟨RX10, "type", "(C)I"⟩
abbrev cX10_clearText : ByteArray := prog_12_method_56_code
def yX10_clearText : MethodName := ⟨RX10, "clearText", "()I"⟩
abbrev cX10_signAt : ByteArray := prog_12_method_57_code
def yX10_signAt : MethodName := ⟨RX10, "signAt", "(I)I"⟩
abbrev cX10_reads : ByteArray := prog_12_method_58_code
def yX10_reads : MethodName := ⟨RX10, "reads", "(II)Z"⟩
abbrev cX10_faultOf : ByteArray := prog_12_method_59_code
def yX10_faultOf : MethodName := ⟨RX10, "faultOf", "()I"⟩
abbrev cX10_readCalls : ByteArray := prog_12_method_60_code
def yX10_readCalls : MethodName := ⟨RX10, "readCalls", "()I"⟩
abbrev cX10_undo : ByteArray := prog_12_method_61_code
def yX10_undo : MethodName := ⟨RX10, "undo", "()I"⟩
abbrev cX10_keep : ByteArray := prog_12_method_62_code
def yX10_keep : MethodName := ⟨RX10, "keep", "()I"⟩
abbrev cX10_restore : ByteArray := prog_12_method_63_code
def yX10_restore : MethodName := ⟨RX10, "restore", "()I"⟩
abbrev cX10_distance : ByteArray := prog_12_method_64_code
def yX10_distance : MethodName := ⟨RX10, "distance", "(II)I"⟩
abbrev cX10_wayAt : ByteArray := prog_12_method_65_code
def yX10_wayAt : MethodName := ⟨RX10, "wayAt", "(III)I"⟩
abbrev cX10_member : ByteArray := prog_12_method_66_code
def yX10_member : MethodName := ⟨RX10, "member", "(II)I"⟩
abbrev cX10_patrol : ByteArray := prog_12_method_67_code
def yX10_patrol : MethodName := ⟨RX10, "patrol", "(II)I"⟩
abbrev cX10_garage : ByteArray := prog_12_method_68_code
def yX10_garage : MethodName := ⟨RX10, "garage", "(II)I"⟩
abbrev cX10_callOf : ByteArray := prog_12_method_69_code
def yX10_callOf : MethodName := ⟨RX10, "callOf", "(II)I"⟩
abbrev cX10_waiting : ByteArray := prog_12_method_70_code
def yX10_waiting : MethodName := ⟨RX10, "waiting", "(I)I"⟩
abbrev cX10_nearest : ByteArray := prog_12_method_71_code
def yX10_nearest : MethodName := ⟨RX10, "nearest", "(I)I"⟩
abbrev cX10_waitFor : ByteArray := prog_12_method_72_code
def yX10_waitFor : MethodName := ⟨RX10, "waitFor", "(I)I"⟩
abbrev cX10_count : ByteArray := prog_12_method_73_code
def yX10_count : MethodName := ⟨RX10, "count", "(I)I"⟩
def RL : String := "PatrolDeskLaw"
abbrev cL_law : ByteArray := code
def yL_law : MethodName := ⟨RL, "law", "([I)Z"⟩
theorem inX0 : ∀ w ∈ wsX00, w ∈ lw_tbl := by decide +kernel
theorem inX1 : ∀ w ∈ wsX10, w ∈ lw_tbl := by decide +kernel
theorem inX2 : ∀ w ∈ wsX20, w ∈ lw_tbl := by decide +kernel
theorem inX3 : ∀ w ∈ wsX30, w ∈ lw_tbl := by decide +kernel
theorem inX4 : ∀ w ∈ wsX40, w ∈ lw_tbl := by decide +kernel
theorem inX5 : ∀ w ∈ wsX50, w ∈ lw_tbl := by decide +kernel
theorem inX6 : ∀ w ∈ wsX60, w ∈ lw_tbl := by decide +kernel
theorem inX7 : ∀ w ∈ wsX70, w ∈ lw_tbl := by decide +kernel
theorem inX8 : ∀ w ∈ wsX80, w ∈ lw_tbl := by decide +kernel
theorem inX9 : ∀ w ∈ wsX90, w ∈ lw_tbl := by decide +kernel
theorem inX10 : ∀ w ∈ wsX100, w ∈ lw_tbl := by decide +kernel
abbrev vwCl : List vw_C := [(RX1, TX1, 11), (RX2, TX2, 4), (RX3, TX3, 5), (RX4, TX4, 14), (RX5, TX5, 3), (RX7, TX7, 13), (RX9, TX9, 7), (RX10, TX10, 15)]
