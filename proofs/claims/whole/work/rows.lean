section
/-- a private method of a class that the tables say can be made, by its rows of tables_1 -/
def lw_okq (q : MethodName × Nat) : Prop := (q.1.cls ≠ "java/lang/invoke/MethodHandle" ∧ q.1.cls ≠ "java/lang/invoke/VarHandle") ∧ Cond.instantiable q.1.cls q.2 ∈ tables_1 ∧ Cond.privateMethod q.1 ∈ tables_1 ∧ Cond.instanceMethod q.1 ∈ tables_1
theorem lw_p0 : lw_okq (⟨"PatrolDesk", "record", "()V"⟩, 7) := ⟨⟨by decide +kernel, by decide +kernel⟩, List.mem_of_getElem? (i := 15) (by decide +kernel), List.mem_of_getElem? (i := 357) (by decide +kernel), List.mem_of_getElem? (i := 358) (by decide +kernel)⟩
theorem lw_p1 : lw_okq (⟨"PatrolDesk$State", "repairedBefore", "(I)I"⟩, 13) := ⟨⟨by decide +kernel, by decide +kernel⟩, List.mem_of_getElem? (i := 23) (by decide +kernel), List.mem_of_getElem? (i := 468) (by decide +kernel), List.mem_of_getElem? (i := 469) (by decide +kernel)⟩
theorem lw_p2 : lw_okq (⟨"PatrolDesk$State", "promiseOf", "(I)I"⟩, 13) := ⟨⟨by decide +kernel, by decide +kernel⟩, List.mem_of_getElem? (i := 23) (by decide +kernel), List.mem_of_getElem? (i := 472) (by decide +kernel), List.mem_of_getElem? (i := 473) (by decide +kernel)⟩
theorem lw_p3 : lw_okq (⟨"PatrolDesk$CallText", "signAt", "(I)I"⟩, 4) := ⟨⟨by decide +kernel, by decide +kernel⟩, List.mem_of_getElem? (i := 302) (by decide +kernel), List.mem_of_getElem? (i := 645) (by decide +kernel), List.mem_of_getElem? (i := 646) (by decide +kernel)⟩
theorem lw_p4 : lw_okq (⟨"PatrolDesk$CallText", "digitsAt", "(I)I"⟩, 4) := ⟨⟨by decide +kernel, by decide +kernel⟩, List.mem_of_getElem? (i := 302) (by decide +kernel), List.mem_of_getElem? (i := 651) (by decide +kernel), List.mem_of_getElem? (i := 652) (by decide +kernel)⟩
theorem lw_p5 : lw_okq (⟨"PatrolDesk$CallText", "addNumber", "(II)V"⟩, 4) := ⟨⟨by decide +kernel, by decide +kernel⟩, List.mem_of_getElem? (i := 302) (by decide +kernel), List.mem_of_getElem? (i := 658) (by decide +kernel), List.mem_of_getElem? (i := 659) (by decide +kernel)⟩
theorem lw_p6 : lw_okq (⟨"PatrolDesk", "takeAll", "(LPatrolDesk$State;)I"⟩, 7) := ⟨⟨by decide +kernel, by decide +kernel⟩, List.mem_of_getElem? (i := 15) (by decide +kernel), List.mem_of_getElem? (i := 662) (by decide +kernel), List.mem_of_getElem? (i := 663) (by decide +kernel)⟩
theorem lw_p7 : lw_okq (⟨"PatrolDeskModel", "laysWays", "()V"⟩, 15) := ⟨⟨by decide +kernel, by decide +kernel⟩, List.mem_of_getElem? (i := 760) (by decide +kernel), List.mem_of_getElem? (i := 766) (by decide +kernel), List.mem_of_getElem? (i := 767) (by decide +kernel)⟩
theorem lw_p8 : lw_okq (⟨"PatrolDeskModel", "records", "()V"⟩, 15) := ⟨⟨by decide +kernel, by decide +kernel⟩, List.mem_of_getElem? (i := 760) (by decide +kernel), List.mem_of_getElem? (i := 827) (by decide +kernel), List.mem_of_getElem? (i := 828) (by decide +kernel)⟩
theorem lw_p9 : lw_okq (⟨"PatrolDeskModel", "laysPatrol", "(III)V"⟩, 15) := ⟨⟨by decide +kernel, by decide +kernel⟩, List.mem_of_getElem? (i := 760) (by decide +kernel), List.mem_of_getElem? (i := 842) (by decide +kernel), List.mem_of_getElem? (i := 843) (by decide +kernel)⟩
theorem lw_p10 : lw_okq (⟨"PatrolDeskModel", "frees", "(I)V"⟩, 15) := ⟨⟨by decide +kernel, by decide +kernel⟩, List.mem_of_getElem? (i := 760) (by decide +kernel), List.mem_of_getElem? (i := 846) (by decide +kernel), List.mem_of_getElem? (i := 847) (by decide +kernel)⟩
theorem lw_p11 : lw_okq (⟨"PatrolDeskModel", "against", "(III)I"⟩, 15) := ⟨⟨by decide +kernel, by decide +kernel⟩, List.mem_of_getElem? (i := 760) (by decide +kernel), List.mem_of_getElem? (i := 866) (by decide +kernel), List.mem_of_getElem? (i := 867) (by decide +kernel)⟩
theorem lw_p12 : lw_okq (⟨"PatrolDeskModel", "isMember", "(I)Z"⟩, 15) := ⟨⟨by decide +kernel, by decide +kernel⟩, List.mem_of_getElem? (i := 760) (by decide +kernel), List.mem_of_getElem? (i := 870) (by decide +kernel), List.mem_of_getElem? (i := 871) (by decide +kernel)⟩
theorem lw_p13 : lw_okq (⟨"PatrolDeskModel", "openOf", "(I)I"⟩, 15) := ⟨⟨by decide +kernel, by decide +kernel⟩, List.mem_of_getElem? (i := 760) (by decide +kernel), List.mem_of_getElem? (i := 874) (by decide +kernel), List.mem_of_getElem? (i := 875) (by decide +kernel)⟩
theorem lw_p14 : lw_okq (⟨"PatrolDeskModel", "ofCall", "(II)I"⟩, 15) := ⟨⟨by decide +kernel, by decide +kernel⟩, List.mem_of_getElem? (i := 760) (by decide +kernel), List.mem_of_getElem? (i := 878) (by decide +kernel), List.mem_of_getElem? (i := 879) (by decide +kernel)⟩
theorem lw_p15 : lw_okq (⟨"PatrolDeskModel", "comes", "(III)V"⟩, 15) := ⟨⟨by decide +kernel, by decide +kernel⟩, List.mem_of_getElem? (i := 760) (by decide +kernel), List.mem_of_getElem? (i := 882) (by decide +kernel), List.mem_of_getElem? (i := 883) (by decide +kernel)⟩
def lw_privs_1 : List (MethodName × Nat) := [(⟨"PatrolDesk", "record", "()V"⟩, 7), (⟨"PatrolDesk$State", "repairedBefore", "(I)I"⟩, 13), (⟨"PatrolDesk$State", "promiseOf", "(I)I"⟩, 13), (⟨"PatrolDesk$CallText", "signAt", "(I)I"⟩, 4), (⟨"PatrolDesk$CallText", "digitsAt", "(I)I"⟩, 4), (⟨"PatrolDesk$CallText", "addNumber", "(II)V"⟩, 4), (⟨"PatrolDesk", "takeAll", "(LPatrolDesk$State;)I"⟩, 7), (⟨"PatrolDeskModel", "laysWays", "()V"⟩, 15), (⟨"PatrolDeskModel", "records", "()V"⟩, 15), (⟨"PatrolDeskModel", "laysPatrol", "(III)V"⟩, 15), (⟨"PatrolDeskModel", "frees", "(I)V"⟩, 15), (⟨"PatrolDeskModel", "against", "(III)I"⟩, 15), (⟨"PatrolDeskModel", "isMember", "(I)Z"⟩, 15), (⟨"PatrolDeskModel", "openOf", "(I)I"⟩, 15), (⟨"PatrolDeskModel", "ofCall", "(II)I"⟩, 15), (⟨"PatrolDeskModel", "comes", "(III)V"⟩, 15)]
theorem lw_r1 : ∀ q ∈ lw_privs_1, lw_okq q := List.forall_mem_cons.mpr ⟨lw_p0, List.forall_mem_cons.mpr ⟨lw_p1, List.forall_mem_cons.mpr ⟨lw_p2, List.forall_mem_cons.mpr ⟨lw_p3, List.forall_mem_cons.mpr ⟨lw_p4, List.forall_mem_cons.mpr ⟨lw_p5, List.forall_mem_cons.mpr ⟨lw_p6, List.forall_mem_cons.mpr ⟨lw_p7, List.forall_mem_cons.mpr ⟨lw_p8, List.forall_mem_cons.mpr ⟨lw_p9, List.forall_mem_cons.mpr ⟨lw_p10, List.forall_mem_cons.mpr ⟨lw_p11, List.forall_mem_cons.mpr ⟨lw_p12, List.forall_mem_cons.mpr ⟨lw_p13, List.forall_mem_cons.mpr ⟨lw_p14, List.forall_mem_cons.mpr ⟨lw_p15, fun _ h => absurd h List.not_mem_nil⟩⟩⟩⟩⟩⟩⟩⟩⟩⟩⟩⟩⟩⟩⟩⟩
theorem lw_p16 : lw_okq (⟨"PatrolDeskModel", "laysCall", "(III)V"⟩, 15) := ⟨⟨by decide +kernel, by decide +kernel⟩, List.mem_of_getElem? (i := 760) (by decide +kernel), List.mem_of_getElem? (i := 886) (by decide +kernel), List.mem_of_getElem? (i := 887) (by decide +kernel)⟩
theorem lw_p17 : lw_okq (⟨"PatrolDeskModel", "ofMember", "(II)I"⟩, 15) := ⟨⟨by decide +kernel, by decide +kernel⟩, List.mem_of_getElem? (i := 760) (by decide +kernel), List.mem_of_getElem? (i := 890) (by decide +kernel), List.mem_of_getElem? (i := 891) (by decide +kernel)⟩
theorem lw_p18 : lw_okq (⟨"PatrolDeskModel", "ofPatrol", "(II)I"⟩, 15) := ⟨⟨by decide +kernel, by decide +kernel⟩, List.mem_of_getElem? (i := 760) (by decide +kernel), List.mem_of_getElem? (i := 894) (by decide +kernel), List.mem_of_getElem? (i := 895) (by decide +kernel)⟩
theorem lw_p19 : lw_okq (⟨"PatrolDeskModel", "addsMember", "(III)V"⟩, 15) := ⟨⟨by decide +kernel, by decide +kernel⟩, List.mem_of_getElem? (i := 760) (by decide +kernel), List.mem_of_getElem? (i := 898) (by decide +kernel), List.mem_of_getElem? (i := 899) (by decide +kernel)⟩
theorem lw_p20 : lw_okq (⟨"PatrolDeskModel", "isCall", "(I)Z"⟩, 15) := ⟨⟨by decide +kernel, by decide +kernel⟩, List.mem_of_getElem? (i := 760) (by decide +kernel), List.mem_of_getElem? (i := 906) (by decide +kernel), List.mem_of_getElem? (i := 907) (by decide +kernel)⟩
theorem lw_p21 : lw_okq (⟨"PatrolDeskModel", "waitedOf", "(I)I"⟩, 15) := ⟨⟨by decide +kernel, by decide +kernel⟩, List.mem_of_getElem? (i := 760) (by decide +kernel), List.mem_of_getElem? (i := 910) (by decide +kernel), List.mem_of_getElem? (i := 911) (by decide +kernel)⟩
theorem lw_p22 : lw_okq (⟨"PatrolDeskModel", "isPatrol", "(I)Z"⟩, 15) := ⟨⟨by decide +kernel, by decide +kernel⟩, List.mem_of_getElem? (i := 760) (by decide +kernel), List.mem_of_getElem? (i := 918) (by decide +kernel), List.mem_of_getElem? (i := 919) (by decide +kernel)⟩
theorem lw_p23 : lw_okq (⟨"PatrolDeskModel", "onDuty", "()I"⟩, 15) := ⟨⟨by decide +kernel, by decide +kernel⟩, List.mem_of_getElem? (i := 760) (by decide +kernel), List.mem_of_getElem? (i := 922) (by decide +kernel), List.mem_of_getElem? (i := 923) (by decide +kernel)⟩
theorem lw_p24 : lw_okq (⟨"PatrolDeskModel", "way", "(II)I"⟩, 15) := ⟨⟨by decide +kernel, by decide +kernel⟩, List.mem_of_getElem? (i := 760) (by decide +kernel), List.mem_of_getElem? (i := 930) (by decide +kernel), List.mem_of_getElem? (i := 931) (by decide +kernel)⟩
theorem lw_p25 : lw_okq (⟨"PatrolDeskModel", "isGarage", "(I)Z"⟩, 15) := ⟨⟨by decide +kernel, by decide +kernel⟩, List.mem_of_getElem? (i := 760) (by decide +kernel), List.mem_of_getElem? (i := 938) (by decide +kernel), List.mem_of_getElem? (i := 939) (by decide +kernel)⟩
theorem lw_p26 : lw_okq (⟨"PatrolDeskModel", "ofGarage", "(II)I"⟩, 15) := ⟨⟨by decide +kernel, by decide +kernel⟩, List.mem_of_getElem? (i := 760) (by decide +kernel), List.mem_of_getElem? (i := 942) (by decide +kernel), List.mem_of_getElem? (i := 943) (by decide +kernel)⟩
theorem lw_p27 : lw_okq (⟨"PatrolDeskModel", "manyIn", "(I)I"⟩, 15) := ⟨⟨by decide +kernel, by decide +kernel⟩, List.mem_of_getElem? (i := 760) (by decide +kernel), List.mem_of_getElem? (i := 950) (by decide +kernel), List.mem_of_getElem? (i := 951) (by decide +kernel)⟩
theorem lw_p28 : lw_okq (⟨"PatrolDeskModel", "passes", "()V"⟩, 15) := ⟨⟨by decide +kernel, by decide +kernel⟩, List.mem_of_getElem? (i := 760) (by decide +kernel), List.mem_of_getElem? (i := 954) (by decide +kernel), List.mem_of_getElem? (i := 955) (by decide +kernel)⟩
theorem lw_p29 : lw_okq (⟨"PatrolDeskModel", "gets", "(I)V"⟩, 15) := ⟨⟨by decide +kernel, by decide +kernel⟩, List.mem_of_getElem? (i := 760) (by decide +kernel), List.mem_of_getElem? (i := 958) (by decide +kernel), List.mem_of_getElem? (i := 959) (by decide +kernel)⟩
theorem lw_p30 : lw_okq (⟨"PatrolDeskModel", "tows", "(I)V"⟩, 15) := ⟨⟨by decide +kernel, by decide +kernel⟩, List.mem_of_getElem? (i := 760) (by decide +kernel), List.mem_of_getElem? (i := 962) (by decide +kernel), List.mem_of_getElem? (i := 963) (by decide +kernel)⟩
theorem lw_p31 : lw_okq (⟨"PatrolDeskModel", "garageFor", "(I)I"⟩, 15) := ⟨⟨by decide +kernel, by decide +kernel⟩, List.mem_of_getElem? (i := 760) (by decide +kernel), List.mem_of_getElem? (i := 966) (by decide +kernel), List.mem_of_getElem? (i := 967) (by decide +kernel)⟩
def lw_privs_2 : List (MethodName × Nat) := [(⟨"PatrolDeskModel", "laysCall", "(III)V"⟩, 15), (⟨"PatrolDeskModel", "ofMember", "(II)I"⟩, 15), (⟨"PatrolDeskModel", "ofPatrol", "(II)I"⟩, 15), (⟨"PatrolDeskModel", "addsMember", "(III)V"⟩, 15), (⟨"PatrolDeskModel", "isCall", "(I)Z"⟩, 15), (⟨"PatrolDeskModel", "waitedOf", "(I)I"⟩, 15), (⟨"PatrolDeskModel", "isPatrol", "(I)Z"⟩, 15), (⟨"PatrolDeskModel", "onDuty", "()I"⟩, 15), (⟨"PatrolDeskModel", "way", "(II)I"⟩, 15), (⟨"PatrolDeskModel", "isGarage", "(I)Z"⟩, 15), (⟨"PatrolDeskModel", "ofGarage", "(II)I"⟩, 15), (⟨"PatrolDeskModel", "manyIn", "(I)I"⟩, 15), (⟨"PatrolDeskModel", "passes", "()V"⟩, 15), (⟨"PatrolDeskModel", "gets", "(I)V"⟩, 15), (⟨"PatrolDeskModel", "tows", "(I)V"⟩, 15), (⟨"PatrolDeskModel", "garageFor", "(I)I"⟩, 15)]
theorem lw_r2 : ∀ q ∈ lw_privs_2, lw_okq q := List.forall_mem_cons.mpr ⟨lw_p16, List.forall_mem_cons.mpr ⟨lw_p17, List.forall_mem_cons.mpr ⟨lw_p18, List.forall_mem_cons.mpr ⟨lw_p19, List.forall_mem_cons.mpr ⟨lw_p20, List.forall_mem_cons.mpr ⟨lw_p21, List.forall_mem_cons.mpr ⟨lw_p22, List.forall_mem_cons.mpr ⟨lw_p23, List.forall_mem_cons.mpr ⟨lw_p24, List.forall_mem_cons.mpr ⟨lw_p25, List.forall_mem_cons.mpr ⟨lw_p26, List.forall_mem_cons.mpr ⟨lw_p27, List.forall_mem_cons.mpr ⟨lw_p28, List.forall_mem_cons.mpr ⟨lw_p29, List.forall_mem_cons.mpr ⟨lw_p30, List.forall_mem_cons.mpr ⟨lw_p31, fun _ h => absurd h List.not_mem_nil⟩⟩⟩⟩⟩⟩⟩⟩⟩⟩⟩⟩⟩⟩⟩⟩
theorem lw_p32 : lw_okq (⟨"PatrolDeskModel", "underWay", "(I)I"⟩, 15) := ⟨⟨by decide +kernel, by decide +kernel⟩, List.mem_of_getElem? (i := 760) (by decide +kernel), List.mem_of_getElem? (i := 970) (by decide +kernel), List.mem_of_getElem? (i := 971) (by decide +kernel)⟩
theorem lw_p33 : lw_okq (⟨"PatrolDeskModel", "leaves", "(I)V"⟩, 15) := ⟨⟨by decide +kernel, by decide +kernel⟩, List.mem_of_getElem? (i := 760) (by decide +kernel), List.mem_of_getElem? (i := 974) (by decide +kernel), List.mem_of_getElem? (i := 975) (by decide +kernel)⟩
theorem lw_p34 : lw_okq (⟨"PatrolDeskModel", "nextOn", "(II)I"⟩, 15) := ⟨⟨by decide +kernel, by decide +kernel⟩, List.mem_of_getElem? (i := 760) (by decide +kernel), List.mem_of_getElem? (i := 981) (by decide +kernel), List.mem_of_getElem? (i := 982) (by decide +kernel)⟩
theorem lw_p35 : lw_okq (⟨"PatrolDeskModel", "repaired", "(I)V"⟩, 15) := ⟨⟨by decide +kernel, by decide +kernel⟩, List.mem_of_getElem? (i := 760) (by decide +kernel), List.mem_of_getElem? (i := 985) (by decide +kernel), List.mem_of_getElem? (i := 986) (by decide +kernel)⟩
theorem lw_p36 : lw_okq (⟨"PatrolDeskModel", "towed", "(I)V"⟩, 15) := ⟨⟨by decide +kernel, by decide +kernel⟩, List.mem_of_getElem? (i := 760) (by decide +kernel), List.mem_of_getElem? (i := 989) (by decide +kernel), List.mem_of_getElem? (i := 990) (by decide +kernel)⟩
theorem lw_p37 : lw_okq (⟨"PatrolDeskModel", "sends", "()V"⟩, 15) := ⟨⟨by decide +kernel, by decide +kernel⟩, List.mem_of_getElem? (i := 760) (by decide +kernel), List.mem_of_getElem? (i := 993) (by decide +kernel), List.mem_of_getElem? (i := 994) (by decide +kernel)⟩
theorem lw_p38 : lw_okq (⟨"PatrolDeskModel", "laysRow", "()V"⟩, 15) := ⟨⟨by decide +kernel, by decide +kernel⟩, List.mem_of_getElem? (i := 760) (by decide +kernel), List.mem_of_getElem? (i := 997) (by decide +kernel), List.mem_of_getElem? (i := 998) (by decide +kernel)⟩
theorem lw_p39 : lw_okq (⟨"PatrolDeskModel", "waits", "(I)Z"⟩, 15) := ⟨⟨by decide +kernel, by decide +kernel⟩, List.mem_of_getElem? (i := 760) (by decide +kernel), List.mem_of_getElem? (i := 1001) (by decide +kernel), List.mem_of_getElem? (i := 1002) (by decide +kernel)⟩
theorem lw_p40 : lw_okq (⟨"PatrolDeskModel", "isAhead", "(II)Z"⟩, 15) := ⟨⟨by decide +kernel, by decide +kernel⟩, List.mem_of_getElem? (i := 760) (by decide +kernel), List.mem_of_getElem? (i := 1005) (by decide +kernel), List.mem_of_getElem? (i := 1006) (by decide +kernel)⟩
theorem lw_p41 : lw_okq (⟨"PatrolDeskModel", "rest", "(I)I"⟩, 15) := ⟨⟨by decide +kernel, by decide +kernel⟩, List.mem_of_getElem? (i := 760) (by decide +kernel), List.mem_of_getElem? (i := 1009) (by decide +kernel), List.mem_of_getElem? (i := 1010) (by decide +kernel)⟩
theorem lw_p42 : lw_okq (⟨"PatrolDeskModel", "nearestOf", "(I)I"⟩, 15) := ⟨⟨by decide +kernel, by decide +kernel⟩, List.mem_of_getElem? (i := 760) (by decide +kernel), List.mem_of_getElem? (i := 1013) (by decide +kernel), List.mem_of_getElem? (i := 1014) (by decide +kernel)⟩
theorem lw_p43 : lw_okq (⟨"PatrolDeskModel", "mayTake", "(II)Z"⟩, 15) := ⟨⟨by decide +kernel, by decide +kernel⟩, List.mem_of_getElem? (i := 760) (by decide +kernel), List.mem_of_getElem? (i := 1017) (by decide +kernel), List.mem_of_getElem? (i := 1018) (by decide +kernel)⟩
theorem lw_p44 : lw_okq (⟨"PatrolDeskModel", "faultOf", "()I"⟩, 15) := ⟨⟨by decide +kernel, by decide +kernel⟩, List.mem_of_getElem? (i := 760) (by decide +kernel), List.mem_of_getElem? (i := 1033) (by decide +kernel), List.mem_of_getElem? (i := 1034) (by decide +kernel)⟩
theorem lw_p45 : lw_okq (⟨"PatrolDeskModel", "reads", "(II)Z"⟩, 15) := ⟨⟨by decide +kernel, by decide +kernel⟩, List.mem_of_getElem? (i := 760) (by decide +kernel), List.mem_of_getElem? (i := 1037) (by decide +kernel), List.mem_of_getElem? (i := 1038) (by decide +kernel)⟩
theorem lw_p46 : lw_okq (⟨"PatrolDeskModel", "signAt", "(I)I"⟩, 15) := ⟨⟨by decide +kernel, by decide +kernel⟩, List.mem_of_getElem? (i := 760) (by decide +kernel), List.mem_of_getElem? (i := 1041) (by decide +kernel), List.mem_of_getElem? (i := 1042) (by decide +kernel)⟩
def lw_privs_3 : List (MethodName × Nat) := [(⟨"PatrolDeskModel", "underWay", "(I)I"⟩, 15), (⟨"PatrolDeskModel", "leaves", "(I)V"⟩, 15), (⟨"PatrolDeskModel", "nextOn", "(II)I"⟩, 15), (⟨"PatrolDeskModel", "repaired", "(I)V"⟩, 15), (⟨"PatrolDeskModel", "towed", "(I)V"⟩, 15), (⟨"PatrolDeskModel", "sends", "()V"⟩, 15), (⟨"PatrolDeskModel", "laysRow", "()V"⟩, 15), (⟨"PatrolDeskModel", "waits", "(I)Z"⟩, 15), (⟨"PatrolDeskModel", "isAhead", "(II)Z"⟩, 15), (⟨"PatrolDeskModel", "rest", "(I)I"⟩, 15), (⟨"PatrolDeskModel", "nearestOf", "(I)I"⟩, 15), (⟨"PatrolDeskModel", "mayTake", "(II)Z"⟩, 15), (⟨"PatrolDeskModel", "faultOf", "()I"⟩, 15), (⟨"PatrolDeskModel", "reads", "(II)Z"⟩, 15), (⟨"PatrolDeskModel", "signAt", "(I)I"⟩, 15)]
theorem lw_r3 : ∀ q ∈ lw_privs_3, lw_okq q := List.forall_mem_cons.mpr ⟨lw_p32, List.forall_mem_cons.mpr ⟨lw_p33, List.forall_mem_cons.mpr ⟨lw_p34, List.forall_mem_cons.mpr ⟨lw_p35, List.forall_mem_cons.mpr ⟨lw_p36, List.forall_mem_cons.mpr ⟨lw_p37, List.forall_mem_cons.mpr ⟨lw_p38, List.forall_mem_cons.mpr ⟨lw_p39, List.forall_mem_cons.mpr ⟨lw_p40, List.forall_mem_cons.mpr ⟨lw_p41, List.forall_mem_cons.mpr ⟨lw_p42, List.forall_mem_cons.mpr ⟨lw_p43, List.forall_mem_cons.mpr ⟨lw_p44, List.forall_mem_cons.mpr ⟨lw_p45, List.forall_mem_cons.mpr ⟨lw_p46, fun _ h => absurd h List.not_mem_nil⟩⟩⟩⟩⟩⟩⟩⟩⟩⟩⟩⟩⟩⟩⟩
def lw_privs : List (MethodName × Nat) := lw_privs_1 ++ (lw_privs_2 ++ (lw_privs_3))
def lw_tbl : List Cond := k2_sels lw_privs ++ tables_1
theorem lw_privs_ok : ∀ q ∈ lw_privs, lw_okq q := by
  show ∀ q ∈ lw_privs_1 ++ (lw_privs_2 ++ (lw_privs_3)), lw_okq q
  exact List.forall_mem_append.mpr ⟨lw_r1, List.forall_mem_append.mpr ⟨lw_r2, lw_r3⟩⟩
def RX0 : String := "PatrolDesk$Books"
def TX0 : u_T := fun k => match k with
  | _ => ("", "", "", false)
def tyX0 : Nat → FieldType := fun k => match k with
  | _ => .int
abbrev wsX00 : List Cond := u_ws RX0 TX0 0
theorem nmX0 : ∀ a, a < 0 → ∀ b, b < 0 → a ≠ b → (TX0 a).2.1 ≠ (TX0 b).2.1 := by decide +kernel
theorem tyX0_ok : ∀ k, k < 0 → parseFieldDescriptor (TX0 k).2.2.1 = some (tyX0 k) := by decide +kernel
abbrev cX0_ofAll : ByteArray := prog_2_method_2_code
def yX0_ofAll : MethodName := ⟨RX0, "ofAll", "(LPatrolDesk$State;I)I"⟩
abbrev cX0_ofMember : ByteArray := prog_2_method_3_code
def yX0_ofMember : MethodName := ⟨RX0, "ofMember", "(LPatrolDesk$State;II)I"⟩
abbrev cX0_amount : ByteArray := prog_2_method_4_code
def yX0_amount : MethodName := ⟨RX0, "amount", "(LPatrolDesk$State;ILPatrolDesk$Breakdown;)I"⟩
abbrev cX0_cost : ByteArray := prog_2_method_5_code
def yX0_cost : MethodName := ⟨RX0, "cost", "(LPatrolDesk$State;LPatrolDesk$Breakdown;)I"⟩
def RX1 : String := "PatrolDesk$Breakdown"
def TX1 : u_T := fun k => match k with
  | 0 => ("PatrolDesk$Breakdown", "member", "I", false)
  | 1 => ("PatrolDesk$Breakdown", "area", "I", false)
  | 2 => ("PatrolDesk$Breakdown", "trouble", "I", false)
  | 3 => ("PatrolDesk$Breakdown", "bound", "I", false)
  | 4 => ("PatrolDesk$Breakdown", "came", "I", false)
  | 5 => ("PatrolDesk$Breakdown", "state", "I", false)
  | 6 => ("PatrolDesk$Breakdown", "first", "I", false)
  | 7 => ("PatrolDesk$Breakdown", "reached", "I", false)
  | 8 => ("PatrolDesk$Breakdown", "ended", "I", false)
  | 9 => ("PatrolDesk$Breakdown", "garage", "I", false)
  | _ => ("PatrolDesk$Breakdown", "callback", "Z", false)
def tyX1 : Nat → FieldType := fun k => match k with
  | 0 => .int
  | 1 => .int
  | 2 => .int
  | 3 => .int
  | 4 => .int
  | 5 => .int
  | 6 => .int
  | 7 => .int
  | 8 => .int
  | 9 => .int
  | _ => .boolean
abbrev wsX10 : List Cond := u_ws RX1 TX1 11
theorem nmX1 : ∀ a, a < 11 → ∀ b, b < 11 → a ≠ b → (TX1 a).2.1 ≠ (TX1 b).2.1 := by decide +kernel
theorem tyX1_ok : ∀ k, k < 11 → parseFieldDescriptor (TX1 k).2.2.1 = some (tyX1 k) := by decide +kernel
abbrev cX1_init : ByteArray := prog_3_method_1_code
def yX1_init : MethodName := ⟨RX1, "<init>", "()V"⟩
abbrev cX1_begin : ByteArray := prog_3_method_2_code
def yX1_begin : MethodName := ⟨RX1, "begin", "(IIIII)V"⟩
abbrev cX1_copyFrom : ByteArray := prog_3_method_3_code
def yX1_copyFrom : MethodName := ⟨RX1, "copyFrom", "(LPatrolDesk$Breakdown;)V"⟩
abbrev cX1_end : ByteArray := prog_3_method_4_code
def yX1_end : MethodName := ⟨RX1, "end", "(II)V"⟩
abbrev cX1_isUnattended : ByteArray := prog_3_method_5_code
def yX1_isUnattended : MethodName := ⟨RX1, "isUnattended", "()Z"⟩
abbrev cX1_isOpen : ByteArray := prog_3_method_6_code
def yX1_isOpen : MethodName := ⟨RX1, "isOpen", "()Z"⟩
abbrev cX1_isLate : ByteArray := prog_3_method_7_code
def yX1_isLate : MethodName := ⟨RX1, "isLate", "()Z"⟩
abbrev cX1_due : ByteArray := prog_3_method_8_code
def yX1_due : MethodName := ⟨RX1, "due", "()I"⟩
abbrev cX1_waited : ByteArray := prog_3_method_9_code
def yX1_waited : MethodName := ⟨RX1, "waited", "(I)I"⟩
def RX2 : String := "PatrolDesk$CallText"
def TX2 : u_T := fun k => match k with
  | 0 => ("PatrolDesk$CallText", "signs", "[C", true)
  | 1 => ("PatrolDesk$CallText", "length", "I", false)
  | 2 => ("PatrolDesk$CallText", "numbers", "[I", true)
  | _ => ("PatrolDesk$CallText", "numberCount", "I", false)
def tyX2 : Nat → FieldType := fun k => match k with
  | 0 => .array .char
  | 1 => .int
  | 2 => .array .int
  | _ => .int
abbrev wsX20 : List Cond := u_ws RX2 TX2 4
theorem nmX2 : ∀ a, a < 4 → ∀ b, b < 4 → a ≠ b → (TX2 a).2.1 ≠ (TX2 b).2.1 := by decide +kernel
theorem tyX2_ok : ∀ k, k < 4 → parseFieldDescriptor (TX2 k).2.2.1 = some (tyX2 k) := by decide +kernel
abbrev cX2_init : ByteArray := prog_4_method_1_code
def yX2_init : MethodName := ⟨RX2, "<init>", "()V"⟩
abbrev cX2_append : ByteArray := prog_4_method_2_code
def yX2_append : MethodName := ⟨RX2, "append", "(C)Z"⟩
abbrev cX2_read : ByteArray := prog_4_method_3_code
def yX2_read : MethodName := ⟨RX2, "read", "()I"⟩
abbrev cX2_signAt : ByteArray := prog_4_method_4_code
def yX2_signAt : MethodName := ⟨RX2, "signAt", "(I)I"⟩
abbrev cX2_isDigit : ByteArray := prog_4_method_5_code
def yX2_isDigit : MethodName := ⟨RX2, "isDigit", "(I)Z"⟩
abbrev cX2_digitsAt : ByteArray := prog_4_method_6_code
def yX2_digitsAt : MethodName := ⟨RX2, "digitsAt", "(I)I"⟩
abbrev cX2_addNumber : ByteArray := prog_4_method_7_code
def yX2_addNumber : MethodName := ⟨RX2, "addNumber", "(II)V"⟩
abbrev cX2_calls : ByteArray := prog_4_method_8_code
def yX2_calls : MethodName := ⟨RX2, "calls", "()I"⟩
abbrev cX2_number : ByteArray := prog_4_method_9_code
def yX2_number : MethodName := ⟨RX2, "number", "(II)I"⟩
def RX3 : String := "PatrolDesk$Garage"
def TX3 : u_T := fun k => match k with
  | 0 => ("PatrolDesk$Garage", "area", "I", false)
  | 1 => ("PatrolDesk$Garage", "places", "I", false)
  | 2 => ("PatrolDesk$Garage", "cars", "I", false)
  | 3 => ("PatrolDesk$Garage", "underWay", "I", false)
  | _ => ("PatrolDesk$Garage", "towedSoFar", "I", false)
def tyX3 : Nat → FieldType := fun k => match k with
  | 0 => .int
  | 1 => .int
  | 2 => .int
  | 3 => .int
  | _ => .int
abbrev wsX30 : List Cond := u_ws RX3 TX3 5
theorem nmX3 : ∀ a, a < 5 → ∀ b, b < 5 → a ≠ b → (TX3 a).2.1 ≠ (TX3 b).2.1 := by decide +kernel
theorem tyX3_ok : ∀ k, k < 5 → parseFieldDescriptor (TX3 k).2.2.1 = some (tyX3 k) := by decide +kernel
abbrev cX3_init : ByteArray := prog_5_method_1_code
def yX3_init : MethodName := ⟨RX3, "<init>", "()V"⟩
abbrev cX3_begin : ByteArray := prog_5_method_2_code
def yX3_begin : MethodName := ⟨RX3, "begin", "(II)V"⟩
abbrev cX3_copyFrom : ByteArray := prog_5_method_3_code
def yX3_copyFrom : MethodName := ⟨RX3, "copyFrom", "(LPatrolDesk$Garage;)V"⟩
abbrev cX3_hasRoom : ByteArray := prog_5_method_4_code
def yX3_hasRoom : MethodName := ⟨RX3, "hasRoom", "()Z"⟩
def RX4 : String := "PatrolDesk$Patrol"
def TX4 : u_T := fun k => match k with
  | 0 => ("PatrolDesk$Patrol", "home", "I", false)
  | 1 => ("PatrolDesk$Patrol", "skill", "I", false)
  | 2 => ("PatrolDesk$Patrol", "canTow", "Z", false)
  | 3 => ("PatrolDesk$Patrol", "doing", "I", false)
  | 4 => ("PatrolDesk$Patrol", "area", "I", false)
  | 5 => ("PatrolDesk$Patrol", "call", "I", false)
  | 6 => ("PatrolDesk$Patrol", "left", "I", false)
  | 7 => ("PatrolDesk$Patrol", "target", "I", false)
  | 8 => ("PatrolDesk$Patrol", "garage", "I", false)
  | 9 => ("PatrolDesk$Patrol", "repairs", "I", false)
  | 10 => ("PatrolDesk$Patrol", "towsDone", "I", false)
  | 11 => ("PatrolDesk$Patrol", "callbacks", "I", false)
  | 12 => ("PatrolDesk$Patrol", "waitedForIt", "I", false)
  | _ => ("PatrolDesk$Patrol", "busyMinutes", "I", false)
def tyX4 : Nat → FieldType := fun k => match k with
  | 0 => .int
  | 1 => .int
  | 2 => .boolean
  | 3 => .int
  | 4 => .int
  | 5 => .int
  | 6 => .int
  | 7 => .int
  | 8 => .int
  | 9 => .int
  | 10 => .int
  | 11 => .int
  | 12 => .int
  | _ => .int
abbrev wsX40 : List Cond := u_ws RX4 TX4 14
theorem nmX4 : ∀ a, a < 14 → ∀ b, b < 14 → a ≠ b → (TX4 a).2.1 ≠ (TX4 b).2.1 := by decide +kernel
theorem tyX4_ok : ∀ k, k < 14 → parseFieldDescriptor (TX4 k).2.2.1 = some (tyX4 k) := by decide +kernel
abbrev cX4_init : ByteArray := prog_6_method_1_code
def yX4_init : MethodName := ⟨RX4, "<init>", "()V"⟩
abbrev cX4_begin : ByteArray := prog_6_method_2_code
def yX4_begin : MethodName := ⟨RX4, "begin", "(IIZ)V"⟩
abbrev cX4_copyFrom : ByteArray := prog_6_method_3_code
def yX4_copyFrom : MethodName := ⟨RX4, "copyFrom", "(LPatrolDesk$Patrol;)V"⟩
abbrev cX4_becomeFree : ByteArray := prog_6_method_4_code
def yX4_becomeFree : MethodName := ⟨RX4, "becomeFree", "()V"⟩
abbrev cX4_leaveFor : ByteArray := prog_6_method_5_code
def yX4_leaveFor : MethodName := ⟨RX4, "leaveFor", "(II)V"⟩
abbrev cX4_isBusy : ByteArray := prog_6_method_6_code
def yX4_isBusy : MethodName := ⟨RX4, "isBusy", "()Z"⟩
def RX5 : String := "PatrolDesk$RoadMap"
def TX5 : u_T := fun k => match k with
  | 0 => ("PatrolDesk$RoadMap", "roads", "I", false)
  | 1 => ("PatrolDesk$RoadMap", "roadMinutes", "[I", true)
  | _ => ("PatrolDesk$RoadMap", "distances", "[I", true)
def tyX5 : Nat → FieldType := fun k => match k with
  | 0 => .int
  | 1 => .array .int
  | _ => .array .int
abbrev wsX50 : List Cond := u_ws RX5 TX5 3
theorem nmX5 : ∀ a, a < 3 → ∀ b, b < 3 → a ≠ b → (TX5 a).2.1 ≠ (TX5 b).2.1 := by decide +kernel
theorem tyX5_ok : ∀ k, k < 3 → parseFieldDescriptor (TX5 k).2.2.1 = some (tyX5 k) := by decide +kernel
abbrev cX5_init : ByteArray := prog_7_method_1_code
def yX5_init : MethodName := ⟨RX5, "<init>", "()V"⟩
abbrev cX5_copyFrom : ByteArray := prog_7_method_2_code
def yX5_copyFrom : MethodName := ⟨RX5, "copyFrom", "(LPatrolDesk$RoadMap;)V"⟩
abbrev cX5_road : ByteArray := prog_7_method_3_code
def yX5_road : MethodName := ⟨RX5, "road", "(II)I"⟩
abbrev cX5_between : ByteArray := prog_7_method_4_code
def yX5_between : MethodName := ⟨RX5, "between", "(II)I"⟩
abbrev cX5_build : ByteArray := prog_7_method_5_code
def yX5_build : MethodName := ⟨RX5, "build", "(III)I"⟩
abbrev cX5_nextOnWay : ByteArray := prog_7_method_6_code
def yX5_nextOnWay : MethodName := ⟨RX5, "nextOnWay", "(II)I"⟩
def RX6 : String := "PatrolDesk$Sending"
def TX6 : u_T := fun k => match k with
  | _ => ("", "", "", false)
def tyX6 : Nat → FieldType := fun k => match k with
  | _ => .int
abbrev wsX60 : List Cond := u_ws RX6 TX6 0
theorem nmX6 : ∀ a, a < 0 → ∀ b, b < 0 → a ≠ b → (TX6 a).2.1 ≠ (TX6 b).2.1 := by decide +kernel
theorem tyX6_ok : ∀ k, k < 0 → parseFieldDescriptor (TX6 k).2.2.1 = some (tyX6 k) := by decide +kernel
abbrev cX6_waits : ByteArray := prog_8_method_2_code
def yX6_waits : MethodName := ⟨RX6, "waits", "(LPatrolDesk$State;I)Z"⟩
abbrev cX6_putInOrder : ByteArray := prog_8_method_3_code
def yX6_putInOrder : MethodName := ⟨RX6, "putInOrder", "(LPatrolDesk$State;)I"⟩
abbrev cX6_isAheadOf : ByteArray := prog_8_method_4_code
def yX6_isAheadOf : MethodName := ⟨RX6, "isAheadOf", "(LPatrolDesk$State;II)Z"⟩
abbrev cX6_nearestPatrol : ByteArray := prog_8_method_5_code
def yX6_nearestPatrol : MethodName := ⟨RX6, "nearestPatrol", "(LPatrolDesk$State;LPatrolDesk$Breakdown;)I"⟩
abbrev cX6_mayTake : ByteArray := prog_8_method_6_code
def yX6_mayTake : MethodName := ⟨RX6, "mayTake", "(LPatrolDesk$Patrol;LPatrolDesk$Breakdown;)Z"⟩
def RX7 : String := "PatrolDesk$State"
def TX7 : u_T := fun k => match k with
  | 0 => ("PatrolDesk$State", "map", "LPatrolDesk$RoadMap;", true)
  | 1 => ("PatrolDesk$State", "tiers", "[I", true)
  | 2 => ("PatrolDesk$State", "members", "I", false)
  | 3 => ("PatrolDesk$State", "patrols", "[LPatrolDesk$Patrol;", true)
  | 4 => ("PatrolDesk$State", "patrolCount", "I", false)
  | 5 => ("PatrolDesk$State", "garages", "[LPatrolDesk$Garage;", true)
  | 6 => ("PatrolDesk$State", "garageCount", "I", false)
  | 7 => ("PatrolDesk$State", "calls", "[LPatrolDesk$Breakdown;", true)
  | 8 => ("PatrolDesk$State", "callCount", "I", false)
  | 9 => ("PatrolDesk$State", "promises", "[I", true)
  | 10 => ("PatrolDesk$State", "weather", "I", false)
  | 11 => ("PatrolDesk$State", "minute", "I", false)
  | _ => ("PatrolDesk$State", "order", "[I", true)
def tyX7 : Nat → FieldType := fun k => match k with
  | 0 => .object "PatrolDesk$RoadMap"
  | 1 => .array .int
  | 2 => .int
  | 3 => .array (.object "PatrolDesk$Patrol")
  | 4 => .int
  | 5 => .array (.object "PatrolDesk$Garage")
  | 6 => .int
  | 7 => .array (.object "PatrolDesk$Breakdown")
  | 8 => .int
  | 9 => .array .int
  | 10 => .int
  | 11 => .int
  | _ => .array .int
abbrev wsX70 : List Cond := u_ws RX7 TX7 13
theorem nmX7 : ∀ a, a < 13 → ∀ b, b < 13 → a ≠ b → (TX7 a).2.1 ≠ (TX7 b).2.1 := by decide +kernel
theorem tyX7_ok : ∀ k, k < 13 → parseFieldDescriptor (TX7 k).2.2.1 = some (tyX7 k) := by decide +kernel
abbrev cX7_init : ByteArray := prog_9_method_1_code
def yX7_init : MethodName := ⟨RX7, "<init>", "()V"⟩
abbrev cX7_copyFrom : ByteArray := prog_9_method_2_code
def yX7_copyFrom : MethodName := ⟨RX7, "copyFrom", "(LPatrolDesk$State;)V"⟩
abbrev cX7_isMember : ByteArray := prog_9_method_3_code
def yX7_isMember : MethodName := ⟨RX7, "isMember", "(I)Z"⟩
abbrev cX7_isPatrol : ByteArray := prog_9_method_4_code
def yX7_isPatrol : MethodName := ⟨RX7, "isPatrol", "(I)Z"⟩
abbrev cX7_isGarage : ByteArray := prog_9_method_5_code
def yX7_isGarage : MethodName := ⟨RX7, "isGarage", "(I)Z"⟩
abbrev cX7_isCall : ByteArray := prog_9_method_6_code
def yX7_isCall : MethodName := ⟨RX7, "isCall", "(I)Z"⟩
abbrev cX7_enrol : ByteArray := prog_9_method_7_code
def yX7_enrol : MethodName := ⟨RX7, "enrol", "(I)I"⟩
abbrev cX7_hire : ByteArray := prog_9_method_8_code
def yX7_hire : MethodName := ⟨RX7, "hire", "(IIZ)I"⟩
abbrev cX7_open : ByteArray := prog_9_method_9_code
def yX7_open : MethodName := ⟨RX7, "open", "(II)I"⟩
abbrev cX7_refusal : ByteArray := prog_9_method_10_code
def yX7_refusal : MethodName := ⟨RX7, "refusal", "(III)I"⟩
abbrev cX7_take : ByteArray := prog_9_method_11_code
def yX7_take : MethodName := ⟨RX7, "take", "(III)I"⟩
abbrev cX7_repairedBefore : ByteArray := prog_9_method_12_code
def yX7_repairedBefore : MethodName := ⟨RX7, "repairedBefore", "(I)I"⟩
abbrev cX7_promiseOf : ByteArray := prog_9_method_13_code
def yX7_promiseOf : MethodName := ⟨RX7, "promiseOf", "(I)I"⟩
abbrev cX7_tierOf : ByteArray := prog_9_method_14_code
def yX7_tierOf : MethodName := ⟨RX7, "tierOf", "(I)I"⟩
abbrev cX7_openCallOf : ByteArray := prog_9_method_15_code
def yX7_openCallOf : MethodName := ⟨RX7, "openCallOf", "(I)I"⟩
abbrev cX7_callsIn : ByteArray := prog_9_method_16_code
def yX7_callsIn : MethodName := ⟨RX7, "callsIn", "(I)I"⟩
abbrev cX7_patrolOf : ByteArray := prog_9_method_17_code
def yX7_patrolOf : MethodName := ⟨RX7, "patrolOf", "(I)I"⟩
abbrev cX7_patrolsOnDuty : ByteArray := prog_9_method_18_code
def yX7_patrolsOnDuty : MethodName := ⟨RX7, "patrolsOnDuty", "()I"⟩
def RX8 : String := "PatrolDesk$Work"
def TX8 : u_T := fun k => match k with
  | _ => ("", "", "", false)
def tyX8 : Nat → FieldType := fun k => match k with
  | _ => .int
abbrev wsX80 : List Cond := u_ws RX8 TX8 0
theorem nmX8 : ∀ a, a < 0 → ∀ b, b < 0 → a ≠ b → (TX8 a).2.1 ≠ (TX8 b).2.1 := by decide +kernel
theorem tyX8_ok : ∀ k, k < 0 → parseFieldDescriptor (TX8 k).2.2.1 = some (tyX8 k) := by decide +kernel
abbrev cX8_passMinute : ByteArray := prog_10_method_2_code
def yX8_passMinute : MethodName := ⟨RX8, "passMinute", "(LPatrolDesk$State;)I"⟩
abbrev cX8_goOn : ByteArray := prog_10_method_3_code
def yX8_goOn : MethodName := ⟨RX8, "goOn", "(LPatrolDesk$State;I)I"⟩
abbrev cX8_sendPatrols : ByteArray := prog_10_method_4_code
def yX8_sendPatrols : MethodName := ⟨RX8, "sendPatrols", "(LPatrolDesk$State;)V"⟩
abbrev cX8_arrive : ByteArray := prog_10_method_5_code
def yX8_arrive : MethodName := ⟨RX8, "arrive", "(LPatrolDesk$State;ILPatrolDesk$Breakdown;)V"⟩
abbrev cX8_startTow : ByteArray := prog_10_method_6_code
def yX8_startTow : MethodName := ⟨RX8, "startTow", "(LPatrolDesk$State;LPatrolDesk$Patrol;LPatrolDesk$Breakdown;)V"⟩
abbrev cX8_nearestGarage : ByteArray := prog_10_method_7_code
def yX8_nearestGarage : MethodName := ⟨RX8, "nearestGarage", "(LPatrolDesk$State;I)I"⟩
abbrev cX8_endOfTow : ByteArray := prog_10_method_8_code
def yX8_endOfTow : MethodName := ⟨RX8, "endOfTow", "(LPatrolDesk$RoadMap;II)I"⟩
abbrev cX8_endTow : ByteArray := prog_10_method_9_code
def yX8_endTow : MethodName := ⟨RX8, "endTow", "(LPatrolDesk$State;LPatrolDesk$Patrol;LPatrolDesk$Breakdown;)I"⟩
def RX9 : String := "PatrolDesk"
def TX9 : u_T := fun k => match k with
  | 0 => ("PatrolDesk", "now", "LPatrolDesk$State;", true)
  | 1 => ("PatrolDesk", "kept", "LPatrolDesk$State;", true)
  | 2 => ("PatrolDesk", "trial", "LPatrolDesk$State;", true)
  | 3 => ("PatrolDesk", "history", "[LPatrolDesk$State;", true)
  | 4 => ("PatrolDesk", "recorded", "I", false)
  | 5 => ("PatrolDesk", "hasKept", "Z", false)
  | _ => ("PatrolDesk", "text", "LPatrolDesk$CallText;", true)
def tyX9 : Nat → FieldType := fun k => match k with
  | 0 => .object "PatrolDesk$State"
  | 1 => .object "PatrolDesk$State"
  | 2 => .object "PatrolDesk$State"
  | 3 => .array (.object "PatrolDesk$State")
  | 4 => .int
  | 5 => .boolean
  | _ => .object "PatrolDesk$CallText"
abbrev wsX90 : List Cond := u_ws RX9 TX9 7
theorem nmX9 : ∀ a, a < 7 → ∀ b, b < 7 → a ≠ b → (TX9 a).2.1 ≠ (TX9 b).2.1 := by decide +kernel
theorem tyX9_ok : ∀ k, k < 7 → parseFieldDescriptor (TX9 k).2.2.1 = some (tyX9 k) := by decide +kernel
abbrev cX9_init : ByteArray := prog_1_method_1_code
def yX9_init : MethodName := ⟨RX9, "<init>", "()V"⟩
abbrev cX9_addRoad : ByteArray := prog_1_method_2_code
def yX9_addRoad : MethodName := ⟨RX9, "addRoad", "(III)I"⟩
abbrev cX9_addMember : ByteArray := prog_1_method_3_code
def yX9_addMember : MethodName := ⟨RX9, "addMember", "(I)I"⟩
abbrev cX9_addPatrol : ByteArray := prog_1_method_4_code
def yX9_addPatrol : MethodName := ⟨RX9, "addPatrol", "(IIZ)I"⟩
abbrev cX9_addGarage : ByteArray := prog_1_method_5_code
def yX9_addGarage : MethodName := ⟨RX9, "addGarage", "(II)I"⟩
abbrev cX9_setPromise : ByteArray := prog_1_method_6_code
def yX9_setPromise : MethodName := ⟨RX9, "setPromise", "(II)I"⟩
abbrev cX9_setWeather : ByteArray := prog_1_method_7_code
def yX9_setWeather : MethodName := ⟨RX9, "setWeather", "(I)I"⟩
abbrev cX9_call : ByteArray := prog_1_method_8_code
def yX9_call : MethodName := ⟨RX9, "call", "(III)I"⟩
abbrev cX9_cancel : ByteArray := prog_1_method_9_code
def yX9_cancel : MethodName := ⟨RX9, "cancel", "(I)I"⟩
abbrev cX9_duty : ByteArray := prog_1_method_10_code
def yX9_duty : MethodName := ⟨RX9, "duty", "(IZ)I"⟩
abbrev cX9_goHome : ByteArray := prog_1_method_11_code
def yX9_goHome : MethodName := ⟨RX9, "goHome", "(I)I"⟩
abbrev cX9_fetch : ByteArray := prog_1_method_12_code
def yX9_fetch : MethodName := ⟨RX9, "fetch", "(II)I"⟩
abbrev cX9_pass : ByteArray := prog_1_method_13_code
def yX9_pass : MethodName := ⟨RX9, "pass", "(I)I"⟩
abbrev cX9_type : ByteArray := prog_1_method_14_code
def yX9_type : MethodName := ⟨RX9, "type", "(C)I"⟩
abbrev cX9_clearText : ByteArray := prog_1_method_15_code
def yX9_clearText : MethodName := ⟨RX9, "clearText", "()I"⟩
abbrev cX9_readCalls : ByteArray := prog_1_method_16_code
def yX9_readCalls : MethodName := ⟨RX9, "readCalls", "()I"⟩
abbrev cX9_takeAll : ByteArray := prog_1_method_17_code
def yX9_takeAll : MethodName := ⟨RX9, "takeAll", "(LPatrolDesk$State;)I"⟩
abbrev cX9_undo : ByteArray := prog_1_method_18_code
def yX9_undo : MethodName := ⟨RX9, "undo", "()I"⟩
abbrev cX9_keep : ByteArray := prog_1_method_19_code
def yX9_keep : MethodName := ⟨RX9, "keep", "()I"⟩
abbrev cX9_restore : ByteArray := prog_1_method_20_code
def yX9_restore : MethodName := ⟨RX9, "restore", "()I"⟩
abbrev cX9_record : ByteArray := prog_1_method_21_code
def yX9_record : MethodName := ⟨RX9, "record", "()V"⟩
abbrev cX9_distance : ByteArray := prog_1_method_22_code
def yX9_distance : MethodName := ⟨RX9, "distance", "(II)I"⟩
abbrev cX9_wayAt : ByteArray := prog_1_method_23_code
def yX9_wayAt : MethodName := ⟨RX9, "wayAt", "(III)I"⟩
abbrev cX9_member : ByteArray := prog_1_method_24_code
def yX9_member : MethodName := ⟨RX9, "member", "(II)I"⟩
abbrev cX9_patrol : ByteArray := prog_1_method_25_code
def yX9_patrol : MethodName := ⟨RX9, "patrol", "(II)I"⟩
abbrev cX9_garage : ByteArray := prog_1_method_26_code
def yX9_garage : MethodName := ⟨RX9, "garage", "(II)I"⟩
abbrev cX9_callOf : ByteArray := prog_1_method_27_code
def yX9_callOf : MethodName := ⟨RX9, "callOf", "(II)I"⟩
abbrev cX9_waiting : ByteArray := prog_1_method_28_code
def yX9_waiting : MethodName := ⟨RX9, "waiting", "(I)I"⟩
abbrev cX9_nearest : ByteArray := prog_1_method_29_code
def yX9_nearest : MethodName := ⟨RX9, "nearest", "(I)I"⟩
abbrev cX9_waitFor : ByteArray := prog_1_method_30_code
def yX9_waitFor : MethodName := ⟨RX9, "waitFor", "(I)I"⟩
abbrev cX9_count : ByteArray := prog_1_method_31_code
def yX9_count : MethodName := ⟨RX9, "count", "(I)I"⟩
abbrev cX9_isArea : ByteArray := prog_1_method_32_code
def yX9_isArea : MethodName := ⟨RX9, "isArea", "(I)Z"⟩
abbrev cX9_isTier : ByteArray := prog_1_method_33_code
def yX9_isTier : MethodName := ⟨RX9, "isTier", "(I)Z"⟩
abbrev cX9_regionOf : ByteArray := prog_1_method_34_code
def yX9_regionOf : MethodName := ⟨RX9, "regionOf", "(I)I"⟩
def RX10 : String := "PatrolDeskModel"
def TX10 : u_T := fun k => match k with
  | 0 => ("PatrolDeskModel", "now", "[I", true)
  | 1 => ("PatrolDeskModel", "past", "[I", true)
  | 2 => ("PatrolDeskModel", "pasts", "I", false)
  | 3 => ("PatrolDeskModel", "kept", "[I", true)
  | 4 => ("PatrolDeskModel", "isKept", "Z", false)
  | 5 => ("PatrolDeskModel", "trial", "[I", true)
  | 6 => ("PatrolDeskModel", "text", "[I", true)
  | 7 => ("PatrolDeskModel", "typed", "I", false)
  | 8 => ("PatrolDeskModel", "roads", "[I", true)
  | 9 => ("PatrolDeskModel", "ways", "[I", true)
  | 10 => ("PatrolDeskModel", "row", "[I", true)
  | 11 => ("PatrolDeskModel", "rowMany", "I", false)
  | 12 => ("PatrolDeskModel", "numbers", "[I", true)
  | 13 => ("PatrolDeskModel", "readMany", "I", false)
  | _ => ("PatrolDeskModel", "at", "I", false)
def tyX10 : Nat → FieldType := fun k => match k with
  | 0 => .array .int
  | 1 => .array .int
  | 2 => .int
  | 3 => .array .int
  | 4 => .boolean
  | 5 => .array .int
  | 6 => .array .int
  | 7 => .int
  | 8 => .array .int
  | 9 => .array .int
  | 10 => .array .int
  | 11 => .int
  | 12 => .array .int
  | 13 => .int
  | _ => .int
abbrev wsX100 : List Cond := u_ws RX10 TX10 15
theorem nmX10 : ∀ a, a < 15 → ∀ b, b < 15 → a ≠ b → (TX10 a).2.1 ≠ (TX10 b).2.1 := by decide +kernel
theorem tyX10_ok : ∀ k, k < 15 → parseFieldDescriptor (TX10 k).2.2.1 = some (tyX10 k) := by decide +kernel
abbrev cX10_init : ByteArray := prog_12_method_1_code
def yX10_init : MethodName := ⟨RX10, "<init>", "()V"⟩
abbrev cX10_in : ByteArray := prog_12_method_2_code
def yX10_in : MethodName := ⟨RX10, "in", "(III)Z"⟩
abbrev cX10_copies : ByteArray := prog_12_method_3_code
def yX10_copies : MethodName := ⟨RX10, "copies", "([II[II)V"⟩
abbrev cX10_records : ByteArray := prog_12_method_4_code
def yX10_records : MethodName := ⟨RX10, "records", "()V"⟩
abbrev cX10_isArea : ByteArray := prog_12_method_5_code
def yX10_isArea : MethodName := ⟨RX10, "isArea", "(I)Z"⟩
abbrev cX10_region : ByteArray := prog_12_method_6_code
def yX10_region : MethodName := ⟨RX10, "region", "(I)I"⟩
abbrev cX10_isMember : ByteArray := prog_12_method_7_code
def yX10_isMember : MethodName := ⟨RX10, "isMember", "(I)Z"⟩
abbrev cX10_isPatrol : ByteArray := prog_12_method_8_code
def yX10_isPatrol : MethodName := ⟨RX10, "isPatrol", "(I)Z"⟩
abbrev cX10_isGarage : ByteArray := prog_12_method_9_code
def yX10_isGarage : MethodName := ⟨RX10, "isGarage", "(I)Z"⟩
abbrev cX10_isCall : ByteArray := prog_12_method_10_code
def yX10_isCall : MethodName := ⟨RX10, "isCall", "(I)Z"⟩
abbrev cX10_ofMember : ByteArray := prog_12_method_11_code
def yX10_ofMember : MethodName := ⟨RX10, "ofMember", "(II)I"⟩
abbrev cX10_addsMember : ByteArray := prog_12_method_12_code
def yX10_addsMember : MethodName := ⟨RX10, "addsMember", "(III)V"⟩
abbrev cX10_ofPatrol : ByteArray := prog_12_method_13_code
def yX10_ofPatrol : MethodName := ⟨RX10, "ofPatrol", "(II)I"⟩
abbrev cX10_laysPatrol : ByteArray := prog_12_method_14_code
def yX10_laysPatrol : MethodName := ⟨RX10, "laysPatrol", "(III)V"⟩
abbrev cX10_ofGarage : ByteArray := prog_12_method_15_code
def yX10_ofGarage : MethodName := ⟨RX10, "ofGarage", "(II)I"⟩
abbrev cX10_ofCall : ByteArray := prog_12_method_16_code
def yX10_ofCall : MethodName := ⟨RX10, "ofCall", "(II)I"⟩
abbrev cX10_laysCall : ByteArray := prog_12_method_17_code
def yX10_laysCall : MethodName := ⟨RX10, "laysCall", "(III)V"⟩
abbrev cX10_laysWays : ByteArray := prog_12_method_18_code
def yX10_laysWays : MethodName := ⟨RX10, "laysWays", "()V"⟩
abbrev cX10_way : ByteArray := prog_12_method_19_code
def yX10_way : MethodName := ⟨RX10, "way", "(II)I"⟩
abbrev cX10_nextOn : ByteArray := prog_12_method_20_code
def yX10_nextOn : MethodName := ⟨RX10, "nextOn", "(II)I"⟩
abbrev cX10_addRoad : ByteArray := prog_12_method_21_code
def yX10_addRoad : MethodName := ⟨RX10, "addRoad", "(III)I"⟩
abbrev cX10_addMember : ByteArray := prog_12_method_22_code
def yX10_addMember : MethodName := ⟨RX10, "addMember", "(I)I"⟩
abbrev cX10_addPatrol : ByteArray := prog_12_method_23_code
def yX10_addPatrol : MethodName := ⟨RX10, "addPatrol", "(IIZ)I"⟩
abbrev cX10_addGarage : ByteArray := prog_12_method_24_code
def yX10_addGarage : MethodName := ⟨RX10, "addGarage", "(II)I"⟩
abbrev cX10_setPromise : ByteArray := prog_12_method_25_code
def yX10_setPromise : MethodName := ⟨RX10, "setPromise", "(II)I"⟩
abbrev cX10_setWeather : ByteArray := prog_12_method_26_code
def yX10_setWeather : MethodName := ⟨RX10, "setWeather", "(I)I"⟩
abbrev cX10_openOf : ByteArray := prog_12_method_27_code
def yX10_openOf : MethodName := ⟨RX10, "openOf", "(I)I"⟩
abbrev cX10_against : ByteArray := prog_12_method_28_code
def yX10_against : MethodName := ⟨RX10, "against", "(III)I"⟩
abbrev cX10_comes : ByteArray := prog_12_method_29_code
def yX10_comes : MethodName := ⟨RX10, "comes", "(III)V"⟩
abbrev cX10_call : ByteArray := prog_12_method_30_code
def yX10_call : MethodName := ⟨RX10, "call", "(III)I"⟩
abbrev cX10_waitedOf : ByteArray := prog_12_method_31_code
def yX10_waitedOf : MethodName := ⟨RX10, "waitedOf", "(I)I"⟩
abbrev cX10_frees : ByteArray := prog_12_method_32_code
def yX10_frees : MethodName := ⟨RX10, "frees", "(I)V"⟩
abbrev cX10_cancel : ByteArray := prog_12_method_33_code
def yX10_cancel : MethodName := ⟨RX10, "cancel", "(I)I"⟩
abbrev cX10_onDuty : ByteArray := prog_12_method_34_code
def yX10_onDuty : MethodName := ⟨RX10, "onDuty", "()I"⟩
abbrev cX10_duty : ByteArray := prog_12_method_35_code
def yX10_duty : MethodName := ⟨RX10, "duty", "(IZ)I"⟩
abbrev cX10_goHome : ByteArray := prog_12_method_36_code
def yX10_goHome : MethodName := ⟨RX10, "goHome", "(I)I"⟩
abbrev cX10_fetch : ByteArray := prog_12_method_37_code
def yX10_fetch : MethodName := ⟨RX10, "fetch", "(II)I"⟩
abbrev cX10_underWay : ByteArray := prog_12_method_38_code
def yX10_underWay : MethodName := ⟨RX10, "underWay", "(I)I"⟩
abbrev cX10_garageFor : ByteArray := prog_12_method_39_code
def yX10_garageFor : MethodName := ⟨RX10, "garageFor", "(I)I"⟩
abbrev cX10_leaves : ByteArray := prog_12_method_40_code
def yX10_leaves : MethodName := ⟨RX10, "leaves", "(I)V"⟩
abbrev cX10_tows : ByteArray := prog_12_method_41_code
def yX10_tows : MethodName := ⟨RX10, "tows", "(I)V"⟩
abbrev cX10_gets : ByteArray := prog_12_method_42_code
def yX10_gets : MethodName := ⟨RX10, "gets", "(I)V"⟩
abbrev cX10_repaired : ByteArray := prog_12_method_43_code
def yX10_repaired : MethodName := ⟨RX10, "repaired", "(I)V"⟩
abbrev cX10_towed : ByteArray := prog_12_method_44_code
def yX10_towed : MethodName := ⟨RX10, "towed", "(I)V"⟩
abbrev cX10_waits : ByteArray := prog_12_method_45_code
def yX10_waits : MethodName := ⟨RX10, "waits", "(I)Z"⟩
abbrev cX10_rest : ByteArray := prog_12_method_46_code
def yX10_rest : MethodName := ⟨RX10, "rest", "(I)I"⟩
abbrev cX10_isAhead : ByteArray := prog_12_method_47_code
def yX10_isAhead : MethodName := ⟨RX10, "isAhead", "(II)Z"⟩
abbrev cX10_laysRow : ByteArray := prog_12_method_48_code
def yX10_laysRow : MethodName := ⟨RX10, "laysRow", "()V"⟩
abbrev cX10_mayTake : ByteArray := prog_12_method_49_code
def yX10_mayTake : MethodName := ⟨RX10, "mayTake", "(II)Z"⟩
abbrev cX10_nearestOf : ByteArray := prog_12_method_50_code
def yX10_nearestOf : MethodName := ⟨RX10, "nearestOf", "(I)I"⟩
abbrev cX10_sends : ByteArray := prog_12_method_51_code
def yX10_sends : MethodName := ⟨RX10, "sends", "()V"⟩
abbrev cX10_passes : ByteArray := prog_12_method_52_code
def yX10_passes : MethodName := ⟨RX10, "passes", "()V"⟩
abbrev cX10_manyIn : ByteArray := prog_12_method_53_code
def yX10_manyIn : MethodName := ⟨RX10, "manyIn", "(I)I"⟩
abbrev cX10_pass : ByteArray := prog_12_method_54_code
def yX10_pass : MethodName := ⟨RX10, "pass", "(I)I"⟩
abbrev cX10_type : ByteArray := prog_12_method_55_code
def yX10_type : MethodName := ⟨RX10, "type", "(C)I"⟩
abbrev cX10_clearText : ByteArray := prog_12_method_56_code
def yX10_clearText : MethodName := ⟨RX10, "clearText", "()I"⟩
abbrev cX10_signAt : ByteArray := prog_12_method_57_code
def yX10_signAt : MethodName := ⟨RX10, "signAt", "(I)I"⟩
abbrev cX10_reads : ByteArray := prog_12_method_58_code
def yX10_reads : MethodName := ⟨RX10, "reads", "(II)Z"⟩
abbrev cX10_faultOf : ByteArray := prog_12_method_59_code
def yX10_faultOf : MethodName := ⟨RX10, "faultOf", "()I"⟩
abbrev cX10_readCalls : ByteArray := prog_12_method_60_code
def yX10_readCalls : MethodName := ⟨RX10, "readCalls", "()I"⟩
abbrev cX10_undo : ByteArray := prog_12_method_61_code
def yX10_undo : MethodName := ⟨RX10, "undo", "()I"⟩
abbrev cX10_keep : ByteArray := prog_12_method_62_code
def yX10_keep : MethodName := ⟨RX10, "keep", "()I"⟩
abbrev cX10_restore : ByteArray := prog_12_method_63_code
def yX10_restore : MethodName := ⟨RX10, "restore", "()I"⟩
abbrev cX10_distance : ByteArray := prog_12_method_64_code
def yX10_distance : MethodName := ⟨RX10, "distance", "(II)I"⟩
abbrev cX10_wayAt : ByteArray := prog_12_method_65_code
def yX10_wayAt : MethodName := ⟨RX10, "wayAt", "(III)I"⟩
abbrev cX10_member : ByteArray := prog_12_method_66_code
def yX10_member : MethodName := ⟨RX10, "member", "(II)I"⟩
abbrev cX10_patrol : ByteArray := prog_12_method_67_code
def yX10_patrol : MethodName := ⟨RX10, "patrol", "(II)I"⟩
abbrev cX10_garage : ByteArray := prog_12_method_68_code
def yX10_garage : MethodName := ⟨RX10, "garage", "(II)I"⟩
abbrev cX10_callOf : ByteArray := prog_12_method_69_code
def yX10_callOf : MethodName := ⟨RX10, "callOf", "(II)I"⟩
abbrev cX10_waiting : ByteArray := prog_12_method_70_code
def yX10_waiting : MethodName := ⟨RX10, "waiting", "(I)I"⟩
abbrev cX10_nearest : ByteArray := prog_12_method_71_code
def yX10_nearest : MethodName := ⟨RX10, "nearest", "(I)I"⟩
abbrev cX10_waitFor : ByteArray := prog_12_method_72_code
def yX10_waitFor : MethodName := ⟨RX10, "waitFor", "(I)I"⟩
abbrev cX10_count : ByteArray := prog_12_method_73_code
def yX10_count : MethodName := ⟨RX10, "count", "(I)I"⟩
def RL : String := "PatrolDeskLaw"
abbrev cL_law : ByteArray := code
def yL_law : MethodName := ⟨RL, "law", "([I)Z"⟩
theorem inX0 : ∀ w ∈ wsX00, w ∈ lw_tbl := by decide +kernel
theorem inX1 : ∀ w ∈ wsX10, w ∈ lw_tbl := by decide +kernel
theorem inX2 : ∀ w ∈ wsX20, w ∈ lw_tbl := by decide +kernel
theorem inX3 : ∀ w ∈ wsX30, w ∈ lw_tbl := by decide +kernel
theorem inX4 : ∀ w ∈ wsX40, w ∈ lw_tbl := by decide +kernel
theorem inX5 : ∀ w ∈ wsX50, w ∈ lw_tbl := by decide +kernel
theorem inX6 : ∀ w ∈ wsX60, w ∈ lw_tbl := by decide +kernel
theorem inX7 : ∀ w ∈ wsX70, w ∈ lw_tbl := by decide +kernel
theorem inX8 : ∀ w ∈ wsX80, w ∈ lw_tbl := by decide +kernel
theorem inX9 : ∀ w ∈ wsX90, w ∈ lw_tbl := by decide +kernel
theorem inX10 : ∀ w ∈ wsX100, w ∈ lw_tbl := by decide +kernel
abbrev vwCl : List vw_C := [(RX1, TX1, 11), (RX2, TX2, 4), (RX3, TX3, 5), (RX4, TX4, 14), (RX5, TX5, 3), (RX7, TX7, 13), (RX9, TX9, 7), (RX10, TX10, 15)]
end
section
theorem dX0_ofAll_0 : decode cX0_ofAll 0 = .ok (.iconst 0, 1) := by decide +kernel
theorem dX0_ofAll_1 : decode cX0_ofAll 1 = .ok (.istore_n 2, 1) := by decide +kernel
theorem dX0_ofAll_2 : decode cX0_ofAll 2 = .ok (.iconst 0, 1) := by decide +kernel
theorem dX0_ofAll_3 : decode cX0_ofAll 3 = .ok (.istore_n 3, 1) := by decide +kernel
theorem dX0_ofAll_4 : decode cX0_ofAll 4 = .ok (.iload_n 3, 1) := by decide +kernel
theorem dX0_ofAll_5 : decode cX0_ofAll 5 = .ok (.aload_n 0, 1) := by decide +kernel
theorem dX0_ofAll_6 : decode cX0_ofAll 6 = .ok (.getfield 9, 3) := by decide +kernel
theorem dX0_ofAll_9 : decode cX0_ofAll 9 = .ok (.if_icmp .ge 29, 3) := by decide +kernel
theorem dX0_ofAll_12 : decode cX0_ofAll 12 = .ok (.iload_n 3, 1) := by decide +kernel
theorem dX0_ofAll_13 : decode cX0_ofAll 13 = .ok (.bipush 40, 2) := by decide +kernel
theorem dX0_ofAll_15 : decode cX0_ofAll 15 = .ok (.if_icmp .ge 23, 3) := by decide +kernel
theorem dX0_ofAll_18 : decode cX0_ofAll 18 = .ok (.iload_n 2, 1) := by decide +kernel
theorem dX0_ofAll_19 : decode cX0_ofAll 19 = .ok (.aload_n 0, 1) := by decide +kernel
theorem dX0_ofAll_20 : decode cX0_ofAll 20 = .ok (.iload_n 1, 1) := by decide +kernel
theorem dX0_ofAll_21 : decode cX0_ofAll 21 = .ok (.aload_n 0, 1) := by decide +kernel
theorem dX0_ofAll_22 : decode cX0_ofAll 22 = .ok (.getfield 15, 3) := by decide +kernel
theorem dX0_ofAll_25 : decode cX0_ofAll 25 = .ok (.iload_n 3, 1) := by decide +kernel
theorem dX0_ofAll_26 : decode cX0_ofAll 26 = .ok (.aaload, 1) := by decide +kernel
theorem dX0_ofAll_27 : decode cX0_ofAll 27 = .ok (.invokestatic 19, 3) := by decide +kernel
theorem dX0_ofAll_30 : decode cX0_ofAll 30 = .ok (.iadd, 1) := by decide +kernel
theorem dX0_ofAll_31 : decode cX0_ofAll 31 = .ok (.istore_n 2, 1) := by decide +kernel
theorem dX0_ofAll_32 : decode cX0_ofAll 32 = .ok (.iinc 3 1, 3) := by decide +kernel
theorem dX0_ofAll_35 : decode cX0_ofAll 35 = .ok (.goto (-31), 3) := by decide +kernel
theorem dX0_ofAll_38 : decode cX0_ofAll 38 = .ok (.iload_n 2, 1) := by decide +kernel
theorem dX0_ofAll_39 : decode cX0_ofAll 39 = .ok (.ireturn, 1) := by decide +kernel
theorem dX0_ofMember_0 : decode cX0_ofMember 0 = .ok (.iconst 0, 1) := by decide +kernel
theorem dX0_ofMember_1 : decode cX0_ofMember 1 = .ok (.istore_n 3, 1) := by decide +kernel
theorem dX0_ofMember_2 : decode cX0_ofMember 2 = .ok (.iconst 0, 1) := by decide +kernel
theorem dX0_ofMember_3 : decode cX0_ofMember 3 = .ok (.istore 4, 2) := by decide +kernel
theorem dX0_ofMember_5 : decode cX0_ofMember 5 = .ok (.iload 4, 2) := by decide +kernel
theorem dX0_ofMember_7 : decode cX0_ofMember 7 = .ok (.aload_n 0, 1) := by decide +kernel
theorem dX0_ofMember_8 : decode cX0_ofMember 8 = .ok (.getfield 9, 3) := by decide +kernel
theorem dX0_ofMember_11 : decode cX0_ofMember 11 = .ok (.if_icmp .ge 45, 3) := by decide +kernel
theorem dX0_ofMember_14 : decode cX0_ofMember 14 = .ok (.iload 4, 2) := by decide +kernel
theorem dX0_ofMember_16 : decode cX0_ofMember 16 = .ok (.bipush 40, 2) := by decide +kernel
theorem dX0_ofMember_18 : decode cX0_ofMember 18 = .ok (.if_icmp .ge 38, 3) := by decide +kernel
theorem dX0_ofMember_21 : decode cX0_ofMember 21 = .ok (.aload_n 0, 1) := by decide +kernel
theorem dX0_ofMember_22 : decode cX0_ofMember 22 = .ok (.getfield 15, 3) := by decide +kernel
theorem dX0_ofMember_25 : decode cX0_ofMember 25 = .ok (.iload 4, 2) := by decide +kernel
theorem dX0_ofMember_27 : decode cX0_ofMember 27 = .ok (.aaload, 1) := by decide +kernel
theorem dX0_ofMember_28 : decode cX0_ofMember 28 = .ok (.getfield 25, 3) := by decide +kernel
theorem dX0_ofMember_31 : decode cX0_ofMember 31 = .ok (.iload_n 2, 1) := by decide +kernel
theorem dX0_ofMember_32 : decode cX0_ofMember 32 = .ok (.if_icmp .ne 18, 3) := by decide +kernel
theorem dX0_ofMember_35 : decode cX0_ofMember 35 = .ok (.iload_n 3, 1) := by decide +kernel
theorem dX0_ofMember_36 : decode cX0_ofMember 36 = .ok (.aload_n 0, 1) := by decide +kernel
theorem dX0_ofMember_37 : decode cX0_ofMember 37 = .ok (.iload_n 1, 1) := by decide +kernel
theorem dX0_ofMember_38 : decode cX0_ofMember 38 = .ok (.aload_n 0, 1) := by decide +kernel
theorem dX0_ofMember_39 : decode cX0_ofMember 39 = .ok (.getfield 15, 3) := by decide +kernel
theorem dX0_ofMember_42 : decode cX0_ofMember 42 = .ok (.iload 4, 2) := by decide +kernel
theorem dX0_ofMember_44 : decode cX0_ofMember 44 = .ok (.aaload, 1) := by decide +kernel
theorem dX0_ofMember_45 : decode cX0_ofMember 45 = .ok (.invokestatic 19, 3) := by decide +kernel
theorem dX0_ofMember_48 : decode cX0_ofMember 48 = .ok (.iadd, 1) := by decide +kernel
theorem dX0_ofMember_49 : decode cX0_ofMember 49 = .ok (.istore_n 3, 1) := by decide +kernel
theorem dX0_ofMember_50 : decode cX0_ofMember 50 = .ok (.iinc 4 1, 3) := by decide +kernel
theorem dX0_ofMember_53 : decode cX0_ofMember 53 = .ok (.goto (-48), 3) := by decide +kernel
theorem dX0_ofMember_56 : decode cX0_ofMember 56 = .ok (.iload_n 3, 1) := by decide +kernel
theorem dX0_ofMember_57 : decode cX0_ofMember 57 = .ok (.ireturn, 1) := by decide +kernel
theorem dX0_amount_0 : decode cX0_amount 0 = .ok (.iload_n 1, 1) := by decide +kernel
theorem dX0_amount_1 : decode cX0_amount 1 = .ok (.tableswitch 108 0 5 #[39, 41, 50, 68, 82, 95], 39) := by decide +kernel
theorem dX0_amount_40 : decode cX0_amount 40 = .ok (.iconst 1, 1) := by decide +kernel
theorem dX0_amount_41 : decode cX0_amount 41 = .ok (.ireturn, 1) := by decide +kernel
theorem dX0_amount_42 : decode cX0_amount 42 = .ok (.aload_n 2, 1) := by decide +kernel
theorem dX0_amount_43 : decode cX0_amount 43 = .ok (.aload_n 0, 1) := by decide +kernel
theorem dX0_amount_44 : decode cX0_amount 44 = .ok (.getfield 30, 3) := by decide +kernel
theorem dX0_amount_47 : decode cX0_amount 47 = .ok (.invokevirtual 33, 3) := by decide +kernel
theorem dX0_amount_50 : decode cX0_amount 50 = .ok (.ireturn, 1) := by decide +kernel
theorem dX0_amount_51 : decode cX0_amount 51 = .ok (.aload_n 2, 1) := by decide +kernel
theorem dX0_amount_52 : decode cX0_amount 52 = .ok (.getfield 37, 3) := by decide +kernel
theorem dX0_amount_55 : decode cX0_amount 55 = .ok (.iconst 5, 1) := by decide +kernel
theorem dX0_amount_56 : decode cX0_amount 56 = .ok (.if_icmp .ne 11, 3) := by decide +kernel
theorem dX0_amount_59 : decode cX0_amount 59 = .ok (.aload_n 0, 1) := by decide +kernel
theorem dX0_amount_60 : decode cX0_amount 60 = .ok (.aload_n 2, 1) := by decide +kernel
theorem dX0_amount_61 : decode cX0_amount 61 = .ok (.invokestatic 40, 3) := by decide +kernel
theorem dX0_amount_64 : decode cX0_amount 64 = .ok (.goto 4, 3) := by decide +kernel
theorem dX0_amount_67 : decode cX0_amount 67 = .ok (.iconst 0, 1) := by decide +kernel
theorem dX0_amount_68 : decode cX0_amount 68 = .ok (.ireturn, 1) := by decide +kernel
theorem dX0_amount_69 : decode cX0_amount 69 = .ok (.aload_n 2, 1) := by decide +kernel
theorem dX0_amount_70 : decode cX0_amount 70 = .ok (.invokevirtual 44, 3) := by decide +kernel
theorem dX0_amount_73 : decode cX0_amount 73 = .ok (.ifCond .eq 8, 3) := by decide +kernel
theorem dX0_amount_76 : decode cX0_amount 76 = .ok (.bipush 15, 2) := by decide +kernel
theorem dX0_amount_78 : decode cX0_amount 78 = .ok (.goto 4, 3) := by decide +kernel
theorem dX0_amount_81 : decode cX0_amount 81 = .ok (.iconst 0, 1) := by decide +kernel
theorem dX0_amount_82 : decode cX0_amount 82 = .ok (.ireturn, 1) := by decide +kernel
theorem dX0_amount_83 : decode cX0_amount 83 = .ok (.aload_n 2, 1) := by decide +kernel
theorem dX0_amount_84 : decode cX0_amount 84 = .ok (.getfield 48, 3) := by decide +kernel
theorem dX0_amount_87 : decode cX0_amount 87 = .ok (.ifCond .eq 7, 3) := by decide +kernel
theorem dX0_amount_90 : decode cX0_amount 90 = .ok (.iconst 1, 1) := by decide +kernel
theorem dX0_amount_91 : decode cX0_amount 91 = .ok (.goto 4, 3) := by decide +kernel
theorem dX0_amount_94 : decode cX0_amount 94 = .ok (.iconst 0, 1) := by decide +kernel
theorem dX0_amount_95 : decode cX0_amount 95 = .ok (.ireturn, 1) := by decide +kernel
theorem dX0_amount_96 : decode cX0_amount 96 = .ok (.aload_n 2, 1) := by decide +kernel
theorem dX0_amount_97 : decode cX0_amount 97 = .ok (.invokevirtual 44, 3) := by decide +kernel
theorem dX0_amount_100 : decode cX0_amount 100 = .ok (.ifCond .eq 7, 3) := by decide +kernel
theorem dX0_amount_103 : decode cX0_amount 103 = .ok (.iconst 1, 1) := by decide +kernel
theorem dX0_amount_104 : decode cX0_amount 104 = .ok (.goto 4, 3) := by decide +kernel
theorem dX0_amount_107 : decode cX0_amount 107 = .ok (.iconst 0, 1) := by decide +kernel
theorem dX0_amount_108 : decode cX0_amount 108 = .ok (.ireturn, 1) := by decide +kernel
theorem dX0_amount_109 : decode cX0_amount 109 = .ok (.iconst 0, 1) := by decide +kernel
theorem dX0_amount_110 : decode cX0_amount 110 = .ok (.ireturn, 1) := by decide +kernel
theorem dX0_cost_0 : decode cX0_cost 0 = .ok (.aload_n 0, 1) := by decide +kernel
theorem dX0_cost_1 : decode cX0_cost 1 = .ok (.aload_n 1, 1) := by decide +kernel
theorem dX0_cost_2 : decode cX0_cost 2 = .ok (.getfield 25, 3) := by decide +kernel
theorem dX0_cost_5 : decode cX0_cost 5 = .ok (.invokevirtual 52, 3) := by decide +kernel
theorem dX0_cost_8 : decode cX0_cost 8 = .ok (.istore_n 2, 1) := by decide +kernel
theorem dX0_cost_9 : decode cX0_cost 9 = .ok (.iload_n 2, 1) := by decide +kernel
theorem dX0_cost_10 : decode cX0_cost 10 = .ok (.invokestatic 55, 3) := by decide +kernel
theorem dX0_cost_13 : decode cX0_cost 13 = .ok (.ifCond .ne 5, 3) := by decide +kernel
theorem dX0_cost_16 : decode cX0_cost 16 = .ok (.iconst 0, 1) := by decide +kernel
theorem dX0_cost_17 : decode cX0_cost 17 = .ok (.ireturn, 1) := by decide +kernel
theorem dX0_cost_18 : decode cX0_cost 18 = .ok (.iconst 0, 1) := by decide +kernel
theorem dX0_cost_19 : decode cX0_cost 19 = .ok (.getstatic 59, 3) := by decide +kernel
theorem dX0_cost_22 : decode cX0_cost 22 = .ok (.iload_n 2, 1) := by decide +kernel
theorem dX0_cost_23 : decode cX0_cost 23 = .ok (.iaload, 1) := by decide +kernel
theorem dX0_cost_24 : decode cX0_cost 24 = .ok (.aload_n 1, 1) := by decide +kernel
theorem dX0_cost_25 : decode cX0_cost 25 = .ok (.getfield 48, 3) := by decide +kernel
theorem dX0_cost_28 : decode cX0_cost 28 = .ok (.ifCond .eq 7, 3) := by decide +kernel
theorem dX0_cost_31 : decode cX0_cost 31 = .ok (.iconst 5, 1) := by decide +kernel
theorem dX0_cost_32 : decode cX0_cost 32 = .ok (.goto 4, 3) := by decide +kernel
theorem dX0_cost_35 : decode cX0_cost 35 = .ok (.iconst 0, 1) := by decide +kernel
theorem dX0_cost_36 : decode cX0_cost 36 = .ok (.isub, 1) := by decide +kernel
theorem dX0_cost_37 : decode cX0_cost 37 = .ok (.invokestatic 63, 3) := by decide +kernel
theorem dX0_cost_40 : decode cX0_cost 40 = .ok (.ireturn, 1) := by decide +kernel
theorem dX1_init_0 : decode cX1_init 0 = .ok (.aload_n 0, 1) := by decide +kernel
theorem dX1_init_1 : decode cX1_init 1 = .ok (.invokespecial 3, 3) := by decide +kernel
theorem dX1_init_4 : decode cX1_init 4 = .ok (.return_, 1) := by decide +kernel
theorem dX1_begin_0 : decode cX1_begin 0 = .ok (.aload_n 0, 1) := by decide +kernel
theorem dX1_begin_1 : decode cX1_begin 1 = .ok (.iload_n 1, 1) := by decide +kernel
theorem dX1_begin_2 : decode cX1_begin 2 = .ok (.putfield 9, 3) := by decide +kernel
theorem dX1_begin_5 : decode cX1_begin 5 = .ok (.aload_n 0, 1) := by decide +kernel
theorem dX1_begin_6 : decode cX1_begin 6 = .ok (.iload_n 2, 1) := by decide +kernel
theorem dX1_begin_7 : decode cX1_begin 7 = .ok (.putfield 15, 3) := by decide +kernel
theorem dX1_begin_10 : decode cX1_begin 10 = .ok (.aload_n 0, 1) := by decide +kernel
theorem dX1_begin_11 : decode cX1_begin 11 = .ok (.iload_n 3, 1) := by decide +kernel
theorem dX1_begin_12 : decode cX1_begin 12 = .ok (.putfield 18, 3) := by decide +kernel
theorem dX1_begin_15 : decode cX1_begin 15 = .ok (.aload_n 0, 1) := by decide +kernel
theorem dX1_begin_16 : decode cX1_begin 16 = .ok (.iload 4, 2) := by decide +kernel
theorem dX1_begin_18 : decode cX1_begin 18 = .ok (.putfield 21, 3) := by decide +kernel
theorem dX1_begin_21 : decode cX1_begin 21 = .ok (.aload_n 0, 1) := by decide +kernel
theorem dX1_begin_22 : decode cX1_begin 22 = .ok (.iload 5, 2) := by decide +kernel
theorem dX1_begin_24 : decode cX1_begin 24 = .ok (.putfield 24, 3) := by decide +kernel
theorem dX1_begin_27 : decode cX1_begin 27 = .ok (.aload_n 0, 1) := by decide +kernel
theorem dX1_begin_28 : decode cX1_begin 28 = .ok (.iconst 0, 1) := by decide +kernel
theorem dX1_begin_29 : decode cX1_begin 29 = .ok (.putfield 27, 3) := by decide +kernel
theorem dX1_begin_32 : decode cX1_begin 32 = .ok (.aload_n 0, 1) := by decide +kernel
theorem dX1_begin_33 : decode cX1_begin 33 = .ok (.bipush (-5), 2) := by decide +kernel
theorem dX1_begin_35 : decode cX1_begin 35 = .ok (.putfield 30, 3) := by decide +kernel
theorem dX1_begin_38 : decode cX1_begin 38 = .ok (.aload_n 0, 1) := by decide +kernel
theorem dX1_begin_39 : decode cX1_begin 39 = .ok (.bipush (-5), 2) := by decide +kernel
theorem dX1_begin_41 : decode cX1_begin 41 = .ok (.putfield 33, 3) := by decide +kernel
theorem dX1_begin_44 : decode cX1_begin 44 = .ok (.aload_n 0, 1) := by decide +kernel
theorem dX1_begin_45 : decode cX1_begin 45 = .ok (.bipush (-5), 2) := by decide +kernel
theorem dX1_begin_47 : decode cX1_begin 47 = .ok (.putfield 36, 3) := by decide +kernel
theorem dX1_begin_50 : decode cX1_begin 50 = .ok (.aload_n 0, 1) := by decide +kernel
theorem dX1_begin_51 : decode cX1_begin 51 = .ok (.bipush (-5), 2) := by decide +kernel
theorem dX1_begin_53 : decode cX1_begin 53 = .ok (.putfield 39, 3) := by decide +kernel
theorem dX1_begin_56 : decode cX1_begin 56 = .ok (.aload_n 0, 1) := by decide +kernel
theorem dX1_begin_57 : decode cX1_begin 57 = .ok (.iconst 0, 1) := by decide +kernel
theorem dX1_begin_58 : decode cX1_begin 58 = .ok (.putfield 42, 3) := by decide +kernel
theorem dX1_begin_61 : decode cX1_begin 61 = .ok (.return_, 1) := by decide +kernel
theorem dX1_copyFrom_0 : decode cX1_copyFrom 0 = .ok (.aload_n 0, 1) := by decide +kernel
theorem dX1_copyFrom_1 : decode cX1_copyFrom 1 = .ok (.aload_n 1, 1) := by decide +kernel
theorem dX1_copyFrom_2 : decode cX1_copyFrom 2 = .ok (.getfield 9, 3) := by decide +kernel
theorem dX1_copyFrom_5 : decode cX1_copyFrom 5 = .ok (.putfield 9, 3) := by decide +kernel
theorem dX1_copyFrom_8 : decode cX1_copyFrom 8 = .ok (.aload_n 0, 1) := by decide +kernel
theorem dX1_copyFrom_9 : decode cX1_copyFrom 9 = .ok (.aload_n 1, 1) := by decide +kernel
theorem dX1_copyFrom_10 : decode cX1_copyFrom 10 = .ok (.getfield 15, 3) := by decide +kernel
theorem dX1_copyFrom_13 : decode cX1_copyFrom 13 = .ok (.putfield 15, 3) := by decide +kernel
theorem dX1_copyFrom_16 : decode cX1_copyFrom 16 = .ok (.aload_n 0, 1) := by decide +kernel
theorem dX1_copyFrom_17 : decode cX1_copyFrom 17 = .ok (.aload_n 1, 1) := by decide +kernel
theorem dX1_copyFrom_18 : decode cX1_copyFrom 18 = .ok (.getfield 18, 3) := by decide +kernel
theorem dX1_copyFrom_21 : decode cX1_copyFrom 21 = .ok (.putfield 18, 3) := by decide +kernel
theorem dX1_copyFrom_24 : decode cX1_copyFrom 24 = .ok (.aload_n 0, 1) := by decide +kernel
theorem dX1_copyFrom_25 : decode cX1_copyFrom 25 = .ok (.aload_n 1, 1) := by decide +kernel
theorem dX1_copyFrom_26 : decode cX1_copyFrom 26 = .ok (.getfield 21, 3) := by decide +kernel
theorem dX1_copyFrom_29 : decode cX1_copyFrom 29 = .ok (.putfield 21, 3) := by decide +kernel
theorem dX1_copyFrom_32 : decode cX1_copyFrom 32 = .ok (.aload_n 0, 1) := by decide +kernel
theorem dX1_copyFrom_33 : decode cX1_copyFrom 33 = .ok (.aload_n 1, 1) := by decide +kernel
theorem dX1_copyFrom_34 : decode cX1_copyFrom 34 = .ok (.getfield 24, 3) := by decide +kernel
theorem dX1_copyFrom_37 : decode cX1_copyFrom 37 = .ok (.putfield 24, 3) := by decide +kernel
theorem dX1_copyFrom_40 : decode cX1_copyFrom 40 = .ok (.aload_n 0, 1) := by decide +kernel
theorem dX1_copyFrom_41 : decode cX1_copyFrom 41 = .ok (.aload_n 1, 1) := by decide +kernel
theorem dX1_copyFrom_42 : decode cX1_copyFrom 42 = .ok (.getfield 27, 3) := by decide +kernel
theorem dX1_copyFrom_45 : decode cX1_copyFrom 45 = .ok (.putfield 27, 3) := by decide +kernel
theorem dX1_copyFrom_48 : decode cX1_copyFrom 48 = .ok (.aload_n 0, 1) := by decide +kernel
theorem dX1_copyFrom_49 : decode cX1_copyFrom 49 = .ok (.aload_n 1, 1) := by decide +kernel
theorem dX1_copyFrom_50 : decode cX1_copyFrom 50 = .ok (.getfield 30, 3) := by decide +kernel
theorem dX1_copyFrom_53 : decode cX1_copyFrom 53 = .ok (.putfield 30, 3) := by decide +kernel
theorem dX1_copyFrom_56 : decode cX1_copyFrom 56 = .ok (.aload_n 0, 1) := by decide +kernel
theorem dX1_copyFrom_57 : decode cX1_copyFrom 57 = .ok (.aload_n 1, 1) := by decide +kernel
theorem dX1_copyFrom_58 : decode cX1_copyFrom 58 = .ok (.getfield 33, 3) := by decide +kernel
theorem dX1_copyFrom_61 : decode cX1_copyFrom 61 = .ok (.putfield 33, 3) := by decide +kernel
theorem dX1_copyFrom_64 : decode cX1_copyFrom 64 = .ok (.aload_n 0, 1) := by decide +kernel
theorem dX1_copyFrom_65 : decode cX1_copyFrom 65 = .ok (.aload_n 1, 1) := by decide +kernel
theorem dX1_copyFrom_66 : decode cX1_copyFrom 66 = .ok (.getfield 36, 3) := by decide +kernel
theorem dX1_copyFrom_69 : decode cX1_copyFrom 69 = .ok (.putfield 36, 3) := by decide +kernel
theorem dX1_copyFrom_72 : decode cX1_copyFrom 72 = .ok (.aload_n 0, 1) := by decide +kernel
theorem dX1_copyFrom_73 : decode cX1_copyFrom 73 = .ok (.aload_n 1, 1) := by decide +kernel
theorem dX1_copyFrom_74 : decode cX1_copyFrom 74 = .ok (.getfield 39, 3) := by decide +kernel
theorem dX1_copyFrom_77 : decode cX1_copyFrom 77 = .ok (.putfield 39, 3) := by decide +kernel
theorem dX1_copyFrom_80 : decode cX1_copyFrom 80 = .ok (.aload_n 0, 1) := by decide +kernel
theorem dX1_copyFrom_81 : decode cX1_copyFrom 81 = .ok (.aload_n 1, 1) := by decide +kernel
theorem dX1_copyFrom_82 : decode cX1_copyFrom 82 = .ok (.getfield 42, 3) := by decide +kernel
theorem dX1_copyFrom_85 : decode cX1_copyFrom 85 = .ok (.putfield 42, 3) := by decide +kernel
theorem dX1_copyFrom_88 : decode cX1_copyFrom 88 = .ok (.return_, 1) := by decide +kernel
theorem dX1_end_0 : decode cX1_end 0 = .ok (.aload_n 0, 1) := by decide +kernel
theorem dX1_end_1 : decode cX1_end 1 = .ok (.iload_n 1, 1) := by decide +kernel
theorem dX1_end_2 : decode cX1_end 2 = .ok (.putfield 27, 3) := by decide +kernel
theorem dX1_end_5 : decode cX1_end 5 = .ok (.aload_n 0, 1) := by decide +kernel
theorem dX1_end_6 : decode cX1_end 6 = .ok (.iload_n 2, 1) := by decide +kernel
theorem dX1_end_7 : decode cX1_end 7 = .ok (.putfield 36, 3) := by decide +kernel
theorem dX1_end_10 : decode cX1_end 10 = .ok (.return_, 1) := by decide +kernel
theorem dX1_isUnattended_0 : decode cX1_isUnattended 0 = .ok (.aload_n 0, 1) := by decide +kernel
theorem dX1_isUnattended_1 : decode cX1_isUnattended 1 = .ok (.getfield 27, 3) := by decide +kernel
theorem dX1_isUnattended_4 : decode cX1_isUnattended 4 = .ok (.ifCond .eq 11, 3) := by decide +kernel
theorem dX1_isUnattended_7 : decode cX1_isUnattended 7 = .ok (.aload_n 0, 1) := by decide +kernel
theorem dX1_isUnattended_8 : decode cX1_isUnattended 8 = .ok (.getfield 27, 3) := by decide +kernel
theorem dX1_isUnattended_11 : decode cX1_isUnattended 11 = .ok (.iconst 1, 1) := by decide +kernel
theorem dX1_isUnattended_12 : decode cX1_isUnattended 12 = .ok (.if_icmp .ne 7, 3) := by decide +kernel
theorem dX1_isUnattended_15 : decode cX1_isUnattended 15 = .ok (.iconst 1, 1) := by decide +kernel
theorem dX1_isUnattended_16 : decode cX1_isUnattended 16 = .ok (.goto 4, 3) := by decide +kernel
theorem dX1_isUnattended_19 : decode cX1_isUnattended 19 = .ok (.iconst 0, 1) := by decide +kernel
theorem dX1_isUnattended_20 : decode cX1_isUnattended 20 = .ok (.ireturn, 1) := by decide +kernel
theorem dX1_isOpen_0 : decode cX1_isOpen 0 = .ok (.aload_n 0, 1) := by decide +kernel
theorem dX1_isOpen_1 : decode cX1_isOpen 1 = .ok (.getfield 27, 3) := by decide +kernel
theorem dX1_isOpen_4 : decode cX1_isOpen 4 = .ok (.iconst 4, 1) := by decide +kernel
theorem dX1_isOpen_5 : decode cX1_isOpen 5 = .ok (.if_icmp .gt 7, 3) := by decide +kernel
theorem dX1_isOpen_8 : decode cX1_isOpen 8 = .ok (.iconst 1, 1) := by decide +kernel
theorem dX1_isOpen_9 : decode cX1_isOpen 9 = .ok (.goto 4, 3) := by decide +kernel
theorem dX1_isOpen_12 : decode cX1_isOpen 12 = .ok (.iconst 0, 1) := by decide +kernel
theorem dX1_isOpen_13 : decode cX1_isOpen 13 = .ok (.ireturn, 1) := by decide +kernel
theorem dX1_isLate_0 : decode cX1_isLate 0 = .ok (.aload_n 0, 1) := by decide +kernel
theorem dX1_isLate_1 : decode cX1_isLate 1 = .ok (.getfield 33, 3) := by decide +kernel
theorem dX1_isLate_4 : decode cX1_isLate 4 = .ok (.bipush (-5), 2) := by decide +kernel
theorem dX1_isLate_6 : decode cX1_isLate 6 = .ok (.if_icmp .eq 18, 3) := by decide +kernel
theorem dX1_isLate_9 : decode cX1_isLate 9 = .ok (.aload_n 0, 1) := by decide +kernel
theorem dX1_isLate_10 : decode cX1_isLate 10 = .ok (.getfield 33, 3) := by decide +kernel
theorem dX1_isLate_13 : decode cX1_isLate 13 = .ok (.aload_n 0, 1) := by decide +kernel
theorem dX1_isLate_14 : decode cX1_isLate 14 = .ok (.invokevirtual 46, 3) := by decide +kernel
theorem dX1_isLate_17 : decode cX1_isLate 17 = .ok (.if_icmp .le 7, 3) := by decide +kernel
theorem dX1_isLate_20 : decode cX1_isLate 20 = .ok (.iconst 1, 1) := by decide +kernel
theorem dX1_isLate_21 : decode cX1_isLate 21 = .ok (.goto 4, 3) := by decide +kernel
theorem dX1_isLate_24 : decode cX1_isLate 24 = .ok (.iconst 0, 1) := by decide +kernel
theorem dX1_isLate_25 : decode cX1_isLate 25 = .ok (.ireturn, 1) := by decide +kernel
theorem dX1_due_0 : decode cX1_due 0 = .ok (.aload_n 0, 1) := by decide +kernel
theorem dX1_due_1 : decode cX1_due 1 = .ok (.getfield 24, 3) := by decide +kernel
theorem dX1_due_4 : decode cX1_due 4 = .ok (.aload_n 0, 1) := by decide +kernel
theorem dX1_due_5 : decode cX1_due 5 = .ok (.getfield 21, 3) := by decide +kernel
theorem dX1_due_8 : decode cX1_due 8 = .ok (.iadd, 1) := by decide +kernel
theorem dX1_due_9 : decode cX1_due 9 = .ok (.ireturn, 1) := by decide +kernel
theorem dX1_waited_0 : decode cX1_waited 0 = .ok (.aload_n 0, 1) := by decide +kernel
theorem dX1_waited_1 : decode cX1_waited 1 = .ok (.getfield 33, 3) := by decide +kernel
theorem dX1_waited_4 : decode cX1_waited 4 = .ok (.bipush (-5), 2) := by decide +kernel
theorem dX1_waited_6 : decode cX1_waited 6 = .ok (.if_icmp .eq 13, 3) := by decide +kernel
theorem dX1_waited_9 : decode cX1_waited 9 = .ok (.aload_n 0, 1) := by decide +kernel
theorem dX1_waited_10 : decode cX1_waited 10 = .ok (.getfield 33, 3) := by decide +kernel
theorem dX1_waited_13 : decode cX1_waited 13 = .ok (.aload_n 0, 1) := by decide +kernel
theorem dX1_waited_14 : decode cX1_waited 14 = .ok (.getfield 24, 3) := by decide +kernel
theorem dX1_waited_17 : decode cX1_waited 17 = .ok (.isub, 1) := by decide +kernel
theorem dX1_waited_18 : decode cX1_waited 18 = .ok (.ireturn, 1) := by decide +kernel
theorem dX1_waited_19 : decode cX1_waited 19 = .ok (.aload_n 0, 1) := by decide +kernel
theorem dX1_waited_20 : decode cX1_waited 20 = .ok (.getfield 36, 3) := by decide +kernel
theorem dX1_waited_23 : decode cX1_waited 23 = .ok (.bipush (-5), 2) := by decide +kernel
theorem dX1_waited_25 : decode cX1_waited 25 = .ok (.if_icmp .eq 10, 3) := by decide +kernel
theorem dX1_waited_28 : decode cX1_waited 28 = .ok (.aload_n 0, 1) := by decide +kernel
theorem dX1_waited_29 : decode cX1_waited 29 = .ok (.getfield 36, 3) := by decide +kernel
theorem dX1_waited_32 : decode cX1_waited 32 = .ok (.goto 4, 3) := by decide +kernel
theorem dX1_waited_35 : decode cX1_waited 35 = .ok (.iload_n 1, 1) := by decide +kernel
theorem dX1_waited_36 : decode cX1_waited 36 = .ok (.aload_n 0, 1) := by decide +kernel
theorem dX1_waited_37 : decode cX1_waited 37 = .ok (.getfield 24, 3) := by decide +kernel
theorem dX1_waited_40 : decode cX1_waited 40 = .ok (.isub, 1) := by decide +kernel
theorem dX1_waited_41 : decode cX1_waited 41 = .ok (.ireturn, 1) := by decide +kernel
theorem dX2_init_0 : decode cX2_init 0 = .ok (.aload_n 0, 1) := by decide +kernel
theorem dX2_init_1 : decode cX2_init 1 = .ok (.invokespecial 3, 3) := by decide +kernel
theorem dX2_init_4 : decode cX2_init 4 = .ok (.aload_n 0, 1) := by decide +kernel
theorem dX2_init_5 : decode cX2_init 5 = .ok (.bipush 60, 2) := by decide +kernel
theorem dX2_init_7 : decode cX2_init 7 = .ok (.newarray .char, 2) := by decide +kernel
theorem dX2_init_9 : decode cX2_init 9 = .ok (.putfield 9, 3) := by decide +kernel
theorem dX2_init_12 : decode cX2_init 12 = .ok (.aload_n 0, 1) := by decide +kernel
theorem dX2_init_13 : decode cX2_init 13 = .ok (.bipush 30, 2) := by decide +kernel
theorem dX2_init_15 : decode cX2_init 15 = .ok (.newarray .int, 2) := by decide +kernel
theorem dX2_init_17 : decode cX2_init 17 = .ok (.putfield 15, 3) := by decide +kernel
theorem dX2_init_20 : decode cX2_init 20 = .ok (.return_, 1) := by decide +kernel
theorem dX2_append_0 : decode cX2_append 0 = .ok (.aload_n 0, 1) := by decide +kernel
theorem dX2_append_1 : decode cX2_append 1 = .ok (.getfield 19, 3) := by decide +kernel
theorem dX2_append_4 : decode cX2_append 4 = .ok (.bipush 60, 2) := by decide +kernel
theorem dX2_append_6 : decode cX2_append 6 = .ok (.if_icmp .lt 5, 3) := by decide +kernel
theorem dX2_append_9 : decode cX2_append 9 = .ok (.iconst 0, 1) := by decide +kernel
theorem dX2_append_10 : decode cX2_append 10 = .ok (.ireturn, 1) := by decide +kernel
theorem dX2_append_11 : decode cX2_append 11 = .ok (.aload_n 0, 1) := by decide +kernel
theorem dX2_append_12 : decode cX2_append 12 = .ok (.getfield 9, 3) := by decide +kernel
theorem dX2_append_15 : decode cX2_append 15 = .ok (.aload_n 0, 1) := by decide +kernel
theorem dX2_append_16 : decode cX2_append 16 = .ok (.getfield 19, 3) := by decide +kernel
theorem dX2_append_19 : decode cX2_append 19 = .ok (.iload_n 1, 1) := by decide +kernel
theorem dX2_append_20 : decode cX2_append 20 = .ok (.castore, 1) := by decide +kernel
theorem dX2_append_21 : decode cX2_append 21 = .ok (.aload_n 0, 1) := by decide +kernel
theorem dX2_append_22 : decode cX2_append 22 = .ok (.dup, 1) := by decide +kernel
theorem dX2_append_23 : decode cX2_append 23 = .ok (.getfield 19, 3) := by decide +kernel
theorem dX2_append_26 : decode cX2_append 26 = .ok (.iconst 1, 1) := by decide +kernel
theorem dX2_append_27 : decode cX2_append 27 = .ok (.iadd, 1) := by decide +kernel
theorem dX2_append_28 : decode cX2_append 28 = .ok (.putfield 19, 3) := by decide +kernel
theorem dX2_append_31 : decode cX2_append 31 = .ok (.iconst 1, 1) := by decide +kernel
theorem dX2_append_32 : decode cX2_append 32 = .ok (.ireturn, 1) := by decide +kernel
theorem dX2_read_0 : decode cX2_read 0 = .ok (.aload_n 0, 1) := by decide +kernel
theorem dX2_read_1 : decode cX2_read 1 = .ok (.iconst 0, 1) := by decide +kernel
theorem dX2_read_2 : decode cX2_read 2 = .ok (.putfield 23, 3) := by decide +kernel
theorem dX2_read_5 : decode cX2_read 5 = .ok (.iconst 0, 1) := by decide +kernel
theorem dX2_read_6 : decode cX2_read 6 = .ok (.istore_n 1, 1) := by decide +kernel
theorem dX2_read_7 : decode cX2_read 7 = .ok (.iload_n 1, 1) := by decide +kernel
theorem dX2_read_8 : decode cX2_read 8 = .ok (.bipush 60, 2) := by decide +kernel
theorem dX2_read_10 : decode cX2_read 10 = .ok (.if_icmp .ge 85, 3) := by decide +kernel
theorem dX2_read_13 : decode cX2_read 13 = .ok (.iconst 0, 1) := by decide +kernel
theorem dX2_read_14 : decode cX2_read 14 = .ok (.istore_n 2, 1) := by decide +kernel
theorem dX2_read_15 : decode cX2_read 15 = .ok (.iload_n 2, 1) := by decide +kernel
theorem dX2_read_16 : decode cX2_read 16 = .ok (.iconst 3, 1) := by decide +kernel
theorem dX2_read_17 : decode cX2_read 17 = .ok (.if_icmp .ge 49, 3) := by decide +kernel
theorem dX2_read_20 : decode cX2_read 20 = .ok (.aload_n 0, 1) := by decide +kernel
theorem dX2_read_21 : decode cX2_read 21 = .ok (.iload_n 1, 1) := by decide +kernel
theorem dX2_read_22 : decode cX2_read 22 = .ok (.invokevirtual 26, 3) := by decide +kernel
theorem dX2_read_25 : decode cX2_read 25 = .ok (.getstatic 30, 3) := by decide +kernel
theorem dX2_read_28 : decode cX2_read 28 = .ok (.iload_n 2, 1) := by decide +kernel
theorem dX2_read_29 : decode cX2_read 29 = .ok (.caload, 1) := by decide +kernel
theorem dX2_read_30 : decode cX2_read 30 = .ok (.if_icmp .eq 5, 3) := by decide +kernel
theorem dX2_read_33 : decode cX2_read 33 = .ok (.iload_n 1, 1) := by decide +kernel
theorem dX2_read_34 : decode cX2_read 34 = .ok (.ireturn, 1) := by decide +kernel
theorem dX2_read_35 : decode cX2_read 35 = .ok (.iinc 1 1, 3) := by decide +kernel
theorem dX2_read_38 : decode cX2_read 38 = .ok (.aload_n 0, 1) := by decide +kernel
theorem dX2_read_39 : decode cX2_read 39 = .ok (.iload_n 1, 1) := by decide +kernel
theorem dX2_read_40 : decode cX2_read 40 = .ok (.invokevirtual 33, 3) := by decide +kernel
theorem dX2_read_43 : decode cX2_read 43 = .ok (.istore_n 3, 1) := by decide +kernel
theorem dX2_read_44 : decode cX2_read 44 = .ok (.iload_n 3, 1) := by decide +kernel
theorem dX2_read_45 : decode cX2_read 45 = .ok (.ifCond .ne 5, 3) := by decide +kernel
theorem dX2_read_48 : decode cX2_read 48 = .ok (.iload_n 1, 1) := by decide +kernel
theorem dX2_read_49 : decode cX2_read 49 = .ok (.ireturn, 1) := by decide +kernel
theorem dX2_read_50 : decode cX2_read 50 = .ok (.aload_n 0, 1) := by decide +kernel
theorem dX2_read_51 : decode cX2_read 51 = .ok (.iload_n 1, 1) := by decide +kernel
theorem dX2_read_52 : decode cX2_read 52 = .ok (.iload_n 3, 1) := by decide +kernel
theorem dX2_read_53 : decode cX2_read 53 = .ok (.invokevirtual 36, 3) := by decide +kernel
theorem dX2_read_56 : decode cX2_read 56 = .ok (.iload_n 1, 1) := by decide +kernel
theorem dX2_read_57 : decode cX2_read 57 = .ok (.iload_n 3, 1) := by decide +kernel
theorem dX2_read_58 : decode cX2_read 58 = .ok (.iadd, 1) := by decide +kernel
theorem dX2_read_59 : decode cX2_read 59 = .ok (.istore_n 1, 1) := by decide +kernel
theorem dX2_read_60 : decode cX2_read 60 = .ok (.iinc 2 1, 3) := by decide +kernel
theorem dX2_read_63 : decode cX2_read 63 = .ok (.goto (-48), 3) := by decide +kernel
theorem dX2_read_66 : decode cX2_read 66 = .ok (.aload_n 0, 1) := by decide +kernel
theorem dX2_read_67 : decode cX2_read 67 = .ok (.iload_n 1, 1) := by decide +kernel
theorem dX2_read_68 : decode cX2_read 68 = .ok (.invokevirtual 26, 3) := by decide +kernel
theorem dX2_read_71 : decode cX2_read 71 = .ok (.iconst (-1), 1) := by decide +kernel
theorem dX2_read_72 : decode cX2_read 72 = .ok (.if_icmp .ne 5, 3) := by decide +kernel
theorem dX2_read_75 : decode cX2_read 75 = .ok (.iconst (-1), 1) := by decide +kernel
theorem dX2_read_76 : decode cX2_read 76 = .ok (.ireturn, 1) := by decide +kernel
theorem dX2_read_77 : decode cX2_read 77 = .ok (.aload_n 0, 1) := by decide +kernel
theorem dX2_read_78 : decode cX2_read 78 = .ok (.iload_n 1, 1) := by decide +kernel
theorem dX2_read_79 : decode cX2_read 79 = .ok (.invokevirtual 26, 3) := by decide +kernel
theorem dX2_read_82 : decode cX2_read 82 = .ok (.bipush 59, 2) := by decide +kernel
theorem dX2_read_84 : decode cX2_read 84 = .ok (.if_icmp .eq 5, 3) := by decide +kernel
theorem dX2_read_87 : decode cX2_read 87 = .ok (.iload_n 1, 1) := by decide +kernel
theorem dX2_read_88 : decode cX2_read 88 = .ok (.ireturn, 1) := by decide +kernel
theorem dX2_read_89 : decode cX2_read 89 = .ok (.iinc 1 1, 3) := by decide +kernel
theorem dX2_read_92 : decode cX2_read 92 = .ok (.goto (-85), 3) := by decide +kernel
theorem dX2_read_95 : decode cX2_read 95 = .ok (.iload_n 1, 1) := by decide +kernel
theorem dX2_read_96 : decode cX2_read 96 = .ok (.ireturn, 1) := by decide +kernel
theorem dX2_signAt_0 : decode cX2_signAt 0 = .ok (.iload_n 1, 1) := by decide +kernel
theorem dX2_signAt_1 : decode cX2_signAt 1 = .ok (.ifCond .lt 26, 3) := by decide +kernel
theorem dX2_signAt_4 : decode cX2_signAt 4 = .ok (.iload_n 1, 1) := by decide +kernel
theorem dX2_signAt_5 : decode cX2_signAt 5 = .ok (.aload_n 0, 1) := by decide +kernel
theorem dX2_signAt_6 : decode cX2_signAt 6 = .ok (.getfield 19, 3) := by decide +kernel
theorem dX2_signAt_9 : decode cX2_signAt 9 = .ok (.if_icmp .ge 18, 3) := by decide +kernel
theorem dX2_signAt_12 : decode cX2_signAt 12 = .ok (.iload_n 1, 1) := by decide +kernel
theorem dX2_signAt_13 : decode cX2_signAt 13 = .ok (.bipush 60, 2) := by decide +kernel
theorem dX2_signAt_15 : decode cX2_signAt 15 = .ok (.if_icmp .ge 12, 3) := by decide +kernel
theorem dX2_signAt_18 : decode cX2_signAt 18 = .ok (.aload_n 0, 1) := by decide +kernel
theorem dX2_signAt_19 : decode cX2_signAt 19 = .ok (.getfield 9, 3) := by decide +kernel
theorem dX2_signAt_22 : decode cX2_signAt 22 = .ok (.iload_n 1, 1) := by decide +kernel
theorem dX2_signAt_23 : decode cX2_signAt 23 = .ok (.caload, 1) := by decide +kernel
theorem dX2_signAt_24 : decode cX2_signAt 24 = .ok (.goto 4, 3) := by decide +kernel
theorem dX2_signAt_27 : decode cX2_signAt 27 = .ok (.iconst (-1), 1) := by decide +kernel
theorem dX2_signAt_28 : decode cX2_signAt 28 = .ok (.ireturn, 1) := by decide +kernel
theorem dX2_isDigit_0 : decode cX2_isDigit 0 = .ok (.iload_n 0, 1) := by decide +kernel
theorem dX2_isDigit_1 : decode cX2_isDigit 1 = .ok (.bipush 48, 2) := by decide +kernel
theorem dX2_isDigit_3 : decode cX2_isDigit 3 = .ok (.if_icmp .lt 13, 3) := by decide +kernel
theorem dX2_isDigit_6 : decode cX2_isDigit 6 = .ok (.iload_n 0, 1) := by decide +kernel
theorem dX2_isDigit_7 : decode cX2_isDigit 7 = .ok (.bipush 57, 2) := by decide +kernel
theorem dX2_isDigit_9 : decode cX2_isDigit 9 = .ok (.if_icmp .gt 7, 3) := by decide +kernel
theorem dX2_isDigit_12 : decode cX2_isDigit 12 = .ok (.iconst 1, 1) := by decide +kernel
theorem dX2_isDigit_13 : decode cX2_isDigit 13 = .ok (.goto 4, 3) := by decide +kernel
theorem dX2_isDigit_16 : decode cX2_isDigit 16 = .ok (.iconst 0, 1) := by decide +kernel
theorem dX2_isDigit_17 : decode cX2_isDigit 17 = .ok (.ireturn, 1) := by decide +kernel
theorem dX2_digitsAt_0 : decode cX2_digitsAt 0 = .ok (.aload_n 0, 1) := by decide +kernel
theorem dX2_digitsAt_1 : decode cX2_digitsAt 1 = .ok (.iload_n 1, 1) := by decide +kernel
theorem dX2_digitsAt_2 : decode cX2_digitsAt 2 = .ok (.invokevirtual 26, 3) := by decide +kernel
theorem dX2_digitsAt_5 : decode cX2_digitsAt 5 = .ok (.invokestatic 40, 3) := by decide +kernel
theorem dX2_digitsAt_8 : decode cX2_digitsAt 8 = .ok (.ifCond .ne 5, 3) := by decide +kernel
theorem dX2_digitsAt_11 : decode cX2_digitsAt 11 = .ok (.iconst 0, 1) := by decide +kernel
theorem dX2_digitsAt_12 : decode cX2_digitsAt 12 = .ok (.ireturn, 1) := by decide +kernel
theorem dX2_digitsAt_13 : decode cX2_digitsAt 13 = .ok (.aload_n 0, 1) := by decide +kernel
theorem dX2_digitsAt_14 : decode cX2_digitsAt 14 = .ok (.iload_n 1, 1) := by decide +kernel
theorem dX2_digitsAt_15 : decode cX2_digitsAt 15 = .ok (.invokevirtual 26, 3) := by decide +kernel
theorem dX2_digitsAt_18 : decode cX2_digitsAt 18 = .ok (.bipush 48, 2) := by decide +kernel
theorem dX2_digitsAt_20 : decode cX2_digitsAt 20 = .ok (.if_icmp .eq 20, 3) := by decide +kernel
theorem dX2_digitsAt_23 : decode cX2_digitsAt 23 = .ok (.aload_n 0, 1) := by decide +kernel
theorem dX2_digitsAt_24 : decode cX2_digitsAt 24 = .ok (.iload_n 1, 1) := by decide +kernel
theorem dX2_digitsAt_25 : decode cX2_digitsAt 25 = .ok (.iconst 1, 1) := by decide +kernel
theorem dX2_digitsAt_26 : decode cX2_digitsAt 26 = .ok (.iadd, 1) := by decide +kernel
theorem dX2_digitsAt_27 : decode cX2_digitsAt 27 = .ok (.invokevirtual 26, 3) := by decide +kernel
theorem dX2_digitsAt_30 : decode cX2_digitsAt 30 = .ok (.invokestatic 40, 3) := by decide +kernel
theorem dX2_digitsAt_33 : decode cX2_digitsAt 33 = .ok (.ifCond .eq 7, 3) := by decide +kernel
theorem dX2_digitsAt_36 : decode cX2_digitsAt 36 = .ok (.iconst 2, 1) := by decide +kernel
theorem dX2_digitsAt_37 : decode cX2_digitsAt 37 = .ok (.goto 4, 3) := by decide +kernel
theorem dX2_digitsAt_40 : decode cX2_digitsAt 40 = .ok (.iconst 1, 1) := by decide +kernel
theorem dX2_digitsAt_41 : decode cX2_digitsAt 41 = .ok (.ireturn, 1) := by decide +kernel
theorem dX2_addNumber_0 : decode cX2_addNumber 0 = .ok (.iconst 0, 1) := by decide +kernel
theorem dX2_addNumber_1 : decode cX2_addNumber 1 = .ok (.istore_n 3, 1) := by decide +kernel
theorem dX2_addNumber_2 : decode cX2_addNumber 2 = .ok (.iconst 0, 1) := by decide +kernel
theorem dX2_addNumber_3 : decode cX2_addNumber 3 = .ok (.istore 4, 2) := by decide +kernel
theorem dX2_addNumber_5 : decode cX2_addNumber 5 = .ok (.iload 4, 2) := by decide +kernel
theorem dX2_addNumber_7 : decode cX2_addNumber 7 = .ok (.iload_n 2, 1) := by decide +kernel
theorem dX2_addNumber_8 : decode cX2_addNumber 8 = .ok (.if_icmp .ge 26, 3) := by decide +kernel
theorem dX2_addNumber_11 : decode cX2_addNumber 11 = .ok (.iload_n 3, 1) := by decide +kernel
theorem dX2_addNumber_12 : decode cX2_addNumber 12 = .ok (.bipush 10, 2) := by decide +kernel
theorem dX2_addNumber_14 : decode cX2_addNumber 14 = .ok (.imul, 1) := by decide +kernel
theorem dX2_addNumber_15 : decode cX2_addNumber 15 = .ok (.aload_n 0, 1) := by decide +kernel
theorem dX2_addNumber_16 : decode cX2_addNumber 16 = .ok (.iload_n 1, 1) := by decide +kernel
theorem dX2_addNumber_17 : decode cX2_addNumber 17 = .ok (.iload 4, 2) := by decide +kernel
theorem dX2_addNumber_19 : decode cX2_addNumber 19 = .ok (.iadd, 1) := by decide +kernel
theorem dX2_addNumber_20 : decode cX2_addNumber 20 = .ok (.invokevirtual 26, 3) := by decide +kernel
theorem dX2_addNumber_23 : decode cX2_addNumber 23 = .ok (.iadd, 1) := by decide +kernel
theorem dX2_addNumber_24 : decode cX2_addNumber 24 = .ok (.bipush 48, 2) := by decide +kernel
theorem dX2_addNumber_26 : decode cX2_addNumber 26 = .ok (.isub, 1) := by decide +kernel
theorem dX2_addNumber_27 : decode cX2_addNumber 27 = .ok (.istore_n 3, 1) := by decide +kernel
theorem dX2_addNumber_28 : decode cX2_addNumber 28 = .ok (.iinc 4 1, 3) := by decide +kernel
theorem dX2_addNumber_31 : decode cX2_addNumber 31 = .ok (.goto (-26), 3) := by decide +kernel
theorem dX2_addNumber_34 : decode cX2_addNumber 34 = .ok (.aload_n 0, 1) := by decide +kernel
theorem dX2_addNumber_35 : decode cX2_addNumber 35 = .ok (.getfield 23, 3) := by decide +kernel
theorem dX2_addNumber_38 : decode cX2_addNumber 38 = .ok (.bipush 30, 2) := by decide +kernel
theorem dX2_addNumber_40 : decode cX2_addNumber 40 = .ok (.if_icmp .ge 23, 3) := by decide +kernel
theorem dX2_addNumber_43 : decode cX2_addNumber 43 = .ok (.aload_n 0, 1) := by decide +kernel
theorem dX2_addNumber_44 : decode cX2_addNumber 44 = .ok (.getfield 15, 3) := by decide +kernel
theorem dX2_addNumber_47 : decode cX2_addNumber 47 = .ok (.aload_n 0, 1) := by decide +kernel
theorem dX2_addNumber_48 : decode cX2_addNumber 48 = .ok (.getfield 23, 3) := by decide +kernel
theorem dX2_addNumber_51 : decode cX2_addNumber 51 = .ok (.iload_n 3, 1) := by decide +kernel
theorem dX2_addNumber_52 : decode cX2_addNumber 52 = .ok (.iastore, 1) := by decide +kernel
theorem dX2_addNumber_53 : decode cX2_addNumber 53 = .ok (.aload_n 0, 1) := by decide +kernel
theorem dX2_addNumber_54 : decode cX2_addNumber 54 = .ok (.dup, 1) := by decide +kernel
theorem dX2_addNumber_55 : decode cX2_addNumber 55 = .ok (.getfield 23, 3) := by decide +kernel
theorem dX2_addNumber_58 : decode cX2_addNumber 58 = .ok (.iconst 1, 1) := by decide +kernel
theorem dX2_addNumber_59 : decode cX2_addNumber 59 = .ok (.iadd, 1) := by decide +kernel
theorem dX2_addNumber_60 : decode cX2_addNumber 60 = .ok (.putfield 23, 3) := by decide +kernel
theorem dX2_addNumber_63 : decode cX2_addNumber 63 = .ok (.return_, 1) := by decide +kernel
theorem dX2_calls_0 : decode cX2_calls 0 = .ok (.aload_n 0, 1) := by decide +kernel
theorem dX2_calls_1 : decode cX2_calls 1 = .ok (.getfield 23, 3) := by decide +kernel
theorem dX2_calls_4 : decode cX2_calls 4 = .ok (.iconst 3, 1) := by decide +kernel
theorem dX2_calls_5 : decode cX2_calls 5 = .ok (.idiv, 1) := by decide +kernel
theorem dX2_calls_6 : decode cX2_calls 6 = .ok (.ireturn, 1) := by decide +kernel
theorem dX2_number_0 : decode cX2_number 0 = .ok (.iload_n 1, 1) := by decide +kernel
theorem dX2_number_1 : decode cX2_number 1 = .ok (.iconst 3, 1) := by decide +kernel
theorem dX2_number_2 : decode cX2_number 2 = .ok (.imul, 1) := by decide +kernel
theorem dX2_number_3 : decode cX2_number 3 = .ok (.iload_n 2, 1) := by decide +kernel
theorem dX2_number_4 : decode cX2_number 4 = .ok (.iadd, 1) := by decide +kernel
theorem dX2_number_5 : decode cX2_number 5 = .ok (.istore_n 3, 1) := by decide +kernel
theorem dX2_number_6 : decode cX2_number 6 = .ok (.iload_n 3, 1) := by decide +kernel
theorem dX2_number_7 : decode cX2_number 7 = .ok (.ifCond .lt 26, 3) := by decide +kernel
theorem dX2_number_10 : decode cX2_number 10 = .ok (.iload_n 3, 1) := by decide +kernel
theorem dX2_number_11 : decode cX2_number 11 = .ok (.aload_n 0, 1) := by decide +kernel
theorem dX2_number_12 : decode cX2_number 12 = .ok (.getfield 23, 3) := by decide +kernel
theorem dX2_number_15 : decode cX2_number 15 = .ok (.if_icmp .ge 18, 3) := by decide +kernel
theorem dX2_number_18 : decode cX2_number 18 = .ok (.iload_n 3, 1) := by decide +kernel
theorem dX2_number_19 : decode cX2_number 19 = .ok (.bipush 30, 2) := by decide +kernel
theorem dX2_number_21 : decode cX2_number 21 = .ok (.if_icmp .ge 12, 3) := by decide +kernel
theorem dX2_number_24 : decode cX2_number 24 = .ok (.aload_n 0, 1) := by decide +kernel
theorem dX2_number_25 : decode cX2_number 25 = .ok (.getfield 15, 3) := by decide +kernel
theorem dX2_number_28 : decode cX2_number 28 = .ok (.iload_n 3, 1) := by decide +kernel
theorem dX2_number_29 : decode cX2_number 29 = .ok (.iaload, 1) := by decide +kernel
theorem dX2_number_30 : decode cX2_number 30 = .ok (.goto 5, 3) := by decide +kernel
theorem dX2_number_33 : decode cX2_number 33 = .ok (.bipush (-5), 2) := by decide +kernel
theorem dX2_number_35 : decode cX2_number 35 = .ok (.ireturn, 1) := by decide +kernel
theorem dX3_init_0 : decode cX3_init 0 = .ok (.aload_n 0, 1) := by decide +kernel
theorem dX3_init_1 : decode cX3_init 1 = .ok (.invokespecial 1, 3) := by decide +kernel
theorem dX3_init_4 : decode cX3_init 4 = .ok (.return_, 1) := by decide +kernel
theorem dX3_begin_0 : decode cX3_begin 0 = .ok (.aload_n 0, 1) := by decide +kernel
theorem dX3_begin_1 : decode cX3_begin 1 = .ok (.iload_n 1, 1) := by decide +kernel
theorem dX3_begin_2 : decode cX3_begin 2 = .ok (.putfield 7, 3) := by decide +kernel
theorem dX3_begin_5 : decode cX3_begin 5 = .ok (.aload_n 0, 1) := by decide +kernel
theorem dX3_begin_6 : decode cX3_begin 6 = .ok (.iload_n 2, 1) := by decide +kernel
theorem dX3_begin_7 : decode cX3_begin 7 = .ok (.putfield 13, 3) := by decide +kernel
theorem dX3_begin_10 : decode cX3_begin 10 = .ok (.aload_n 0, 1) := by decide +kernel
theorem dX3_begin_11 : decode cX3_begin 11 = .ok (.iconst 0, 1) := by decide +kernel
theorem dX3_begin_12 : decode cX3_begin 12 = .ok (.putfield 16, 3) := by decide +kernel
theorem dX3_begin_15 : decode cX3_begin 15 = .ok (.aload_n 0, 1) := by decide +kernel
theorem dX3_begin_16 : decode cX3_begin 16 = .ok (.iconst 0, 1) := by decide +kernel
theorem dX3_begin_17 : decode cX3_begin 17 = .ok (.putfield 19, 3) := by decide +kernel
theorem dX3_begin_20 : decode cX3_begin 20 = .ok (.aload_n 0, 1) := by decide +kernel
theorem dX3_begin_21 : decode cX3_begin 21 = .ok (.iconst 0, 1) := by decide +kernel
theorem dX3_begin_22 : decode cX3_begin 22 = .ok (.putfield 22, 3) := by decide +kernel
theorem dX3_begin_25 : decode cX3_begin 25 = .ok (.return_, 1) := by decide +kernel
theorem dX3_copyFrom_0 : decode cX3_copyFrom 0 = .ok (.aload_n 0, 1) := by decide +kernel
theorem dX3_copyFrom_1 : decode cX3_copyFrom 1 = .ok (.aload_n 1, 1) := by decide +kernel
theorem dX3_copyFrom_2 : decode cX3_copyFrom 2 = .ok (.getfield 7, 3) := by decide +kernel
theorem dX3_copyFrom_5 : decode cX3_copyFrom 5 = .ok (.putfield 7, 3) := by decide +kernel
theorem dX3_copyFrom_8 : decode cX3_copyFrom 8 = .ok (.aload_n 0, 1) := by decide +kernel
theorem dX3_copyFrom_9 : decode cX3_copyFrom 9 = .ok (.aload_n 1, 1) := by decide +kernel
theorem dX3_copyFrom_10 : decode cX3_copyFrom 10 = .ok (.getfield 13, 3) := by decide +kernel
theorem dX3_copyFrom_13 : decode cX3_copyFrom 13 = .ok (.putfield 13, 3) := by decide +kernel
theorem dX3_copyFrom_16 : decode cX3_copyFrom 16 = .ok (.aload_n 0, 1) := by decide +kernel
theorem dX3_copyFrom_17 : decode cX3_copyFrom 17 = .ok (.aload_n 1, 1) := by decide +kernel
theorem dX3_copyFrom_18 : decode cX3_copyFrom 18 = .ok (.getfield 16, 3) := by decide +kernel
theorem dX3_copyFrom_21 : decode cX3_copyFrom 21 = .ok (.putfield 16, 3) := by decide +kernel
theorem dX3_copyFrom_24 : decode cX3_copyFrom 24 = .ok (.aload_n 0, 1) := by decide +kernel
theorem dX3_copyFrom_25 : decode cX3_copyFrom 25 = .ok (.aload_n 1, 1) := by decide +kernel
theorem dX3_copyFrom_26 : decode cX3_copyFrom 26 = .ok (.getfield 19, 3) := by decide +kernel
theorem dX3_copyFrom_29 : decode cX3_copyFrom 29 = .ok (.putfield 19, 3) := by decide +kernel
theorem dX3_copyFrom_32 : decode cX3_copyFrom 32 = .ok (.aload_n 0, 1) := by decide +kernel
theorem dX3_copyFrom_33 : decode cX3_copyFrom 33 = .ok (.aload_n 1, 1) := by decide +kernel
theorem dX3_copyFrom_34 : decode cX3_copyFrom 34 = .ok (.getfield 22, 3) := by decide +kernel
theorem dX3_copyFrom_37 : decode cX3_copyFrom 37 = .ok (.putfield 22, 3) := by decide +kernel
theorem dX3_copyFrom_40 : decode cX3_copyFrom 40 = .ok (.return_, 1) := by decide +kernel
theorem dX3_hasRoom_0 : decode cX3_hasRoom 0 = .ok (.aload_n 0, 1) := by decide +kernel
theorem dX3_hasRoom_1 : decode cX3_hasRoom 1 = .ok (.getfield 16, 3) := by decide +kernel
theorem dX3_hasRoom_4 : decode cX3_hasRoom 4 = .ok (.aload_n 0, 1) := by decide +kernel
theorem dX3_hasRoom_5 : decode cX3_hasRoom 5 = .ok (.getfield 19, 3) := by decide +kernel
theorem dX3_hasRoom_8 : decode cX3_hasRoom 8 = .ok (.iadd, 1) := by decide +kernel
theorem dX3_hasRoom_9 : decode cX3_hasRoom 9 = .ok (.aload_n 0, 1) := by decide +kernel
theorem dX3_hasRoom_10 : decode cX3_hasRoom 10 = .ok (.getfield 13, 3) := by decide +kernel
theorem dX3_hasRoom_13 : decode cX3_hasRoom 13 = .ok (.if_icmp .ge 7, 3) := by decide +kernel
theorem dX3_hasRoom_16 : decode cX3_hasRoom 16 = .ok (.iconst 1, 1) := by decide +kernel
theorem dX3_hasRoom_17 : decode cX3_hasRoom 17 = .ok (.goto 4, 3) := by decide +kernel
theorem dX3_hasRoom_20 : decode cX3_hasRoom 20 = .ok (.iconst 0, 1) := by decide +kernel
theorem dX3_hasRoom_21 : decode cX3_hasRoom 21 = .ok (.ireturn, 1) := by decide +kernel
theorem dX4_init_0 : decode cX4_init 0 = .ok (.aload_n 0, 1) := by decide +kernel
theorem dX4_init_1 : decode cX4_init 1 = .ok (.invokespecial 3, 3) := by decide +kernel
theorem dX4_init_4 : decode cX4_init 4 = .ok (.return_, 1) := by decide +kernel
theorem dX4_begin_0 : decode cX4_begin 0 = .ok (.aload_n 0, 1) := by decide +kernel
theorem dX4_begin_1 : decode cX4_begin 1 = .ok (.iload_n 1, 1) := by decide +kernel
theorem dX4_begin_2 : decode cX4_begin 2 = .ok (.putfield 9, 3) := by decide +kernel
theorem dX4_begin_5 : decode cX4_begin 5 = .ok (.aload_n 0, 1) := by decide +kernel
theorem dX4_begin_6 : decode cX4_begin 6 = .ok (.iload_n 2, 1) := by decide +kernel
theorem dX4_begin_7 : decode cX4_begin 7 = .ok (.putfield 15, 3) := by decide +kernel
theorem dX4_begin_10 : decode cX4_begin 10 = .ok (.aload_n 0, 1) := by decide +kernel
theorem dX4_begin_11 : decode cX4_begin 11 = .ok (.iload_n 3, 1) := by decide +kernel
theorem dX4_begin_12 : decode cX4_begin 12 = .ok (.putfield 18, 3) := by decide +kernel
theorem dX4_begin_15 : decode cX4_begin 15 = .ok (.aload_n 0, 1) := by decide +kernel
theorem dX4_begin_16 : decode cX4_begin 16 = .ok (.iload_n 1, 1) := by decide +kernel
theorem dX4_begin_17 : decode cX4_begin 17 = .ok (.putfield 22, 3) := by decide +kernel
theorem dX4_begin_20 : decode cX4_begin 20 = .ok (.aload_n 0, 1) := by decide +kernel
theorem dX4_begin_21 : decode cX4_begin 21 = .ok (.iconst 0, 1) := by decide +kernel
theorem dX4_begin_22 : decode cX4_begin 22 = .ok (.putfield 25, 3) := by decide +kernel
theorem dX4_begin_25 : decode cX4_begin 25 = .ok (.aload_n 0, 1) := by decide +kernel
theorem dX4_begin_26 : decode cX4_begin 26 = .ok (.iconst 0, 1) := by decide +kernel
theorem dX4_begin_27 : decode cX4_begin 27 = .ok (.putfield 28, 3) := by decide +kernel
theorem dX4_begin_30 : decode cX4_begin 30 = .ok (.aload_n 0, 1) := by decide +kernel
theorem dX4_begin_31 : decode cX4_begin 31 = .ok (.iconst 0, 1) := by decide +kernel
theorem dX4_begin_32 : decode cX4_begin 32 = .ok (.putfield 31, 3) := by decide +kernel
theorem dX4_begin_35 : decode cX4_begin 35 = .ok (.aload_n 0, 1) := by decide +kernel
theorem dX4_begin_36 : decode cX4_begin 36 = .ok (.iconst 0, 1) := by decide +kernel
theorem dX4_begin_37 : decode cX4_begin 37 = .ok (.putfield 34, 3) := by decide +kernel
theorem dX4_begin_40 : decode cX4_begin 40 = .ok (.aload_n 0, 1) := by decide +kernel
theorem dX4_begin_41 : decode cX4_begin 41 = .ok (.iconst 0, 1) := by decide +kernel
theorem dX4_begin_42 : decode cX4_begin 42 = .ok (.putfield 37, 3) := by decide +kernel
theorem dX4_begin_45 : decode cX4_begin 45 = .ok (.aload_n 0, 1) := by decide +kernel
theorem dX4_begin_46 : decode cX4_begin 46 = .ok (.invokevirtual 40, 3) := by decide +kernel
theorem dX4_begin_49 : decode cX4_begin 49 = .ok (.return_, 1) := by decide +kernel
theorem dX4_copyFrom_0 : decode cX4_copyFrom 0 = .ok (.aload_n 0, 1) := by decide +kernel
theorem dX4_copyFrom_1 : decode cX4_copyFrom 1 = .ok (.aload_n 1, 1) := by decide +kernel
theorem dX4_copyFrom_2 : decode cX4_copyFrom 2 = .ok (.getfield 9, 3) := by decide +kernel
theorem dX4_copyFrom_5 : decode cX4_copyFrom 5 = .ok (.putfield 9, 3) := by decide +kernel
theorem dX4_copyFrom_8 : decode cX4_copyFrom 8 = .ok (.aload_n 0, 1) := by decide +kernel
theorem dX4_copyFrom_9 : decode cX4_copyFrom 9 = .ok (.aload_n 1, 1) := by decide +kernel
theorem dX4_copyFrom_10 : decode cX4_copyFrom 10 = .ok (.getfield 15, 3) := by decide +kernel
theorem dX4_copyFrom_13 : decode cX4_copyFrom 13 = .ok (.putfield 15, 3) := by decide +kernel
theorem dX4_copyFrom_16 : decode cX4_copyFrom 16 = .ok (.aload_n 0, 1) := by decide +kernel
theorem dX4_copyFrom_17 : decode cX4_copyFrom 17 = .ok (.aload_n 1, 1) := by decide +kernel
theorem dX4_copyFrom_18 : decode cX4_copyFrom 18 = .ok (.getfield 18, 3) := by decide +kernel
theorem dX4_copyFrom_21 : decode cX4_copyFrom 21 = .ok (.putfield 18, 3) := by decide +kernel
theorem dX4_copyFrom_24 : decode cX4_copyFrom 24 = .ok (.aload_n 0, 1) := by decide +kernel
theorem dX4_copyFrom_25 : decode cX4_copyFrom 25 = .ok (.aload_n 1, 1) := by decide +kernel
theorem dX4_copyFrom_26 : decode cX4_copyFrom 26 = .ok (.getfield 43, 3) := by decide +kernel
theorem dX4_copyFrom_29 : decode cX4_copyFrom 29 = .ok (.putfield 43, 3) := by decide +kernel
theorem dX4_copyFrom_32 : decode cX4_copyFrom 32 = .ok (.aload_n 0, 1) := by decide +kernel
theorem dX4_copyFrom_33 : decode cX4_copyFrom 33 = .ok (.aload_n 1, 1) := by decide +kernel
theorem dX4_copyFrom_34 : decode cX4_copyFrom 34 = .ok (.getfield 22, 3) := by decide +kernel
theorem dX4_copyFrom_37 : decode cX4_copyFrom 37 = .ok (.putfield 22, 3) := by decide +kernel
theorem dX4_copyFrom_40 : decode cX4_copyFrom 40 = .ok (.aload_n 0, 1) := by decide +kernel
theorem dX4_copyFrom_41 : decode cX4_copyFrom 41 = .ok (.aload_n 1, 1) := by decide +kernel
theorem dX4_copyFrom_42 : decode cX4_copyFrom 42 = .ok (.getfield 46, 3) := by decide +kernel
theorem dX4_copyFrom_45 : decode cX4_copyFrom 45 = .ok (.putfield 46, 3) := by decide +kernel
theorem dX4_copyFrom_48 : decode cX4_copyFrom 48 = .ok (.aload_n 0, 1) := by decide +kernel
theorem dX4_copyFrom_49 : decode cX4_copyFrom 49 = .ok (.aload_n 1, 1) := by decide +kernel
theorem dX4_copyFrom_50 : decode cX4_copyFrom 50 = .ok (.getfield 49, 3) := by decide +kernel
theorem dX4_copyFrom_53 : decode cX4_copyFrom 53 = .ok (.putfield 49, 3) := by decide +kernel
theorem dX4_copyFrom_56 : decode cX4_copyFrom 56 = .ok (.aload_n 0, 1) := by decide +kernel
theorem dX4_copyFrom_57 : decode cX4_copyFrom 57 = .ok (.aload_n 1, 1) := by decide +kernel
theorem dX4_copyFrom_58 : decode cX4_copyFrom 58 = .ok (.getfield 52, 3) := by decide +kernel
theorem dX4_copyFrom_61 : decode cX4_copyFrom 61 = .ok (.putfield 52, 3) := by decide +kernel
theorem dX4_copyFrom_64 : decode cX4_copyFrom 64 = .ok (.aload_n 0, 1) := by decide +kernel
theorem dX4_copyFrom_65 : decode cX4_copyFrom 65 = .ok (.aload_n 1, 1) := by decide +kernel
theorem dX4_copyFrom_66 : decode cX4_copyFrom 66 = .ok (.getfield 55, 3) := by decide +kernel
theorem dX4_copyFrom_69 : decode cX4_copyFrom 69 = .ok (.putfield 55, 3) := by decide +kernel
theorem dX4_copyFrom_72 : decode cX4_copyFrom 72 = .ok (.aload_n 0, 1) := by decide +kernel
theorem dX4_copyFrom_73 : decode cX4_copyFrom 73 = .ok (.aload_n 1, 1) := by decide +kernel
theorem dX4_copyFrom_74 : decode cX4_copyFrom 74 = .ok (.getfield 25, 3) := by decide +kernel
theorem dX4_copyFrom_77 : decode cX4_copyFrom 77 = .ok (.putfield 25, 3) := by decide +kernel
theorem dX4_copyFrom_80 : decode cX4_copyFrom 80 = .ok (.aload_n 0, 1) := by decide +kernel
theorem dX4_copyFrom_81 : decode cX4_copyFrom 81 = .ok (.aload_n 1, 1) := by decide +kernel
theorem dX4_copyFrom_82 : decode cX4_copyFrom 82 = .ok (.getfield 28, 3) := by decide +kernel
theorem dX4_copyFrom_85 : decode cX4_copyFrom 85 = .ok (.putfield 28, 3) := by decide +kernel
theorem dX4_copyFrom_88 : decode cX4_copyFrom 88 = .ok (.aload_n 0, 1) := by decide +kernel
theorem dX4_copyFrom_89 : decode cX4_copyFrom 89 = .ok (.aload_n 1, 1) := by decide +kernel
theorem dX4_copyFrom_90 : decode cX4_copyFrom 90 = .ok (.getfield 31, 3) := by decide +kernel
theorem dX4_copyFrom_93 : decode cX4_copyFrom 93 = .ok (.putfield 31, 3) := by decide +kernel
theorem dX4_copyFrom_96 : decode cX4_copyFrom 96 = .ok (.aload_n 0, 1) := by decide +kernel
theorem dX4_copyFrom_97 : decode cX4_copyFrom 97 = .ok (.aload_n 1, 1) := by decide +kernel
theorem dX4_copyFrom_98 : decode cX4_copyFrom 98 = .ok (.getfield 34, 3) := by decide +kernel
theorem dX4_copyFrom_101 : decode cX4_copyFrom 101 = .ok (.putfield 34, 3) := by decide +kernel
theorem dX4_copyFrom_104 : decode cX4_copyFrom 104 = .ok (.aload_n 0, 1) := by decide +kernel
theorem dX4_copyFrom_105 : decode cX4_copyFrom 105 = .ok (.aload_n 1, 1) := by decide +kernel
theorem dX4_copyFrom_106 : decode cX4_copyFrom 106 = .ok (.getfield 37, 3) := by decide +kernel
theorem dX4_copyFrom_109 : decode cX4_copyFrom 109 = .ok (.putfield 37, 3) := by decide +kernel
theorem dX4_copyFrom_112 : decode cX4_copyFrom 112 = .ok (.return_, 1) := by decide +kernel
theorem dX4_becomeFree_0 : decode cX4_becomeFree 0 = .ok (.aload_n 0, 1) := by decide +kernel
theorem dX4_becomeFree_1 : decode cX4_becomeFree 1 = .ok (.iconst 0, 1) := by decide +kernel
theorem dX4_becomeFree_2 : decode cX4_becomeFree 2 = .ok (.putfield 43, 3) := by decide +kernel
theorem dX4_becomeFree_5 : decode cX4_becomeFree 5 = .ok (.aload_n 0, 1) := by decide +kernel
theorem dX4_becomeFree_6 : decode cX4_becomeFree 6 = .ok (.bipush (-5), 2) := by decide +kernel
theorem dX4_becomeFree_8 : decode cX4_becomeFree 8 = .ok (.putfield 46, 3) := by decide +kernel
theorem dX4_becomeFree_11 : decode cX4_becomeFree 11 = .ok (.aload_n 0, 1) := by decide +kernel
theorem dX4_becomeFree_12 : decode cX4_becomeFree 12 = .ok (.bipush (-5), 2) := by decide +kernel
theorem dX4_becomeFree_14 : decode cX4_becomeFree 14 = .ok (.putfield 49, 3) := by decide +kernel
theorem dX4_becomeFree_17 : decode cX4_becomeFree 17 = .ok (.aload_n 0, 1) := by decide +kernel
theorem dX4_becomeFree_18 : decode cX4_becomeFree 18 = .ok (.bipush (-5), 2) := by decide +kernel
theorem dX4_becomeFree_20 : decode cX4_becomeFree 20 = .ok (.putfield 52, 3) := by decide +kernel
theorem dX4_becomeFree_23 : decode cX4_becomeFree 23 = .ok (.aload_n 0, 1) := by decide +kernel
theorem dX4_becomeFree_24 : decode cX4_becomeFree 24 = .ok (.bipush (-5), 2) := by decide +kernel
theorem dX4_becomeFree_26 : decode cX4_becomeFree 26 = .ok (.putfield 55, 3) := by decide +kernel
theorem dX4_becomeFree_29 : decode cX4_becomeFree 29 = .ok (.return_, 1) := by decide +kernel
theorem dX4_leaveFor_0 : decode cX4_leaveFor 0 = .ok (.aload_n 0, 1) := by decide +kernel
theorem dX4_leaveFor_1 : decode cX4_leaveFor 1 = .ok (.iconst 1, 1) := by decide +kernel
theorem dX4_leaveFor_2 : decode cX4_leaveFor 2 = .ok (.putfield 43, 3) := by decide +kernel
theorem dX4_leaveFor_5 : decode cX4_leaveFor 5 = .ok (.aload_n 0, 1) := by decide +kernel
theorem dX4_leaveFor_6 : decode cX4_leaveFor 6 = .ok (.iload_n 1, 1) := by decide +kernel
theorem dX4_leaveFor_7 : decode cX4_leaveFor 7 = .ok (.putfield 46, 3) := by decide +kernel
theorem dX4_leaveFor_10 : decode cX4_leaveFor 10 = .ok (.aload_n 0, 1) := by decide +kernel
theorem dX4_leaveFor_11 : decode cX4_leaveFor 11 = .ok (.iload_n 2, 1) := by decide +kernel
theorem dX4_leaveFor_12 : decode cX4_leaveFor 12 = .ok (.putfield 49, 3) := by decide +kernel
theorem dX4_leaveFor_15 : decode cX4_leaveFor 15 = .ok (.return_, 1) := by decide +kernel
theorem dX4_isBusy_0 : decode cX4_isBusy 0 = .ok (.aload_n 0, 1) := by decide +kernel
theorem dX4_isBusy_1 : decode cX4_isBusy 1 = .ok (.getfield 43, 3) := by decide +kernel
theorem dX4_isBusy_4 : decode cX4_isBusy 4 = .ok (.iconst 1, 1) := by decide +kernel
theorem dX4_isBusy_5 : decode cX4_isBusy 5 = .ok (.if_icmp .eq 19, 3) := by decide +kernel
theorem dX4_isBusy_8 : decode cX4_isBusy 8 = .ok (.aload_n 0, 1) := by decide +kernel
theorem dX4_isBusy_9 : decode cX4_isBusy 9 = .ok (.getfield 43, 3) := by decide +kernel
theorem dX4_isBusy_12 : decode cX4_isBusy 12 = .ok (.iconst 2, 1) := by decide +kernel
theorem dX4_isBusy_13 : decode cX4_isBusy 13 = .ok (.if_icmp .eq 11, 3) := by decide +kernel
theorem dX4_isBusy_16 : decode cX4_isBusy 16 = .ok (.aload_n 0, 1) := by decide +kernel
theorem dX4_isBusy_17 : decode cX4_isBusy 17 = .ok (.getfield 43, 3) := by decide +kernel
theorem dX4_isBusy_20 : decode cX4_isBusy 20 = .ok (.iconst 3, 1) := by decide +kernel
theorem dX4_isBusy_21 : decode cX4_isBusy 21 = .ok (.if_icmp .ne 7, 3) := by decide +kernel
theorem dX4_isBusy_24 : decode cX4_isBusy 24 = .ok (.iconst 1, 1) := by decide +kernel
theorem dX4_isBusy_25 : decode cX4_isBusy 25 = .ok (.goto 4, 3) := by decide +kernel
theorem dX4_isBusy_28 : decode cX4_isBusy 28 = .ok (.iconst 0, 1) := by decide +kernel
theorem dX4_isBusy_29 : decode cX4_isBusy 29 = .ok (.ireturn, 1) := by decide +kernel
theorem dX5_init_0 : decode cX5_init 0 = .ok (.aload_n 0, 1) := by decide +kernel
theorem dX5_init_1 : decode cX5_init 1 = .ok (.invokespecial 3, 3) := by decide +kernel
theorem dX5_init_4 : decode cX5_init 4 = .ok (.aload_n 0, 1) := by decide +kernel
theorem dX5_init_5 : decode cX5_init 5 = .ok (.sipush 144, 3) := by decide +kernel
theorem dX5_init_8 : decode cX5_init 8 = .ok (.newarray .int, 2) := by decide +kernel
theorem dX5_init_10 : decode cX5_init 10 = .ok (.putfield 9, 3) := by decide +kernel
theorem dX5_init_13 : decode cX5_init 13 = .ok (.aload_n 0, 1) := by decide +kernel
theorem dX5_init_14 : decode cX5_init 14 = .ok (.sipush 144, 3) := by decide +kernel
theorem dX5_init_17 : decode cX5_init 17 = .ok (.newarray .int, 2) := by decide +kernel
theorem dX5_init_19 : decode cX5_init 19 = .ok (.putfield 15, 3) := by decide +kernel
theorem dX5_init_22 : decode cX5_init 22 = .ok (.iconst 0, 1) := by decide +kernel
theorem dX5_init_23 : decode cX5_init 23 = .ok (.istore_n 1, 1) := by decide +kernel
theorem dX5_init_24 : decode cX5_init 24 = .ok (.iload_n 1, 1) := by decide +kernel
theorem dX5_init_25 : decode cX5_init 25 = .ok (.sipush 144, 3) := by decide +kernel
theorem dX5_init_28 : decode cX5_init 28 = .ok (.if_icmp .ge 17, 3) := by decide +kernel
theorem dX5_init_31 : decode cX5_init 31 = .ok (.aload_n 0, 1) := by decide +kernel
theorem dX5_init_32 : decode cX5_init 32 = .ok (.getfield 15, 3) := by decide +kernel
theorem dX5_init_35 : decode cX5_init 35 = .ok (.iload_n 1, 1) := by decide +kernel
theorem dX5_init_36 : decode cX5_init 36 = .ok (.ldc 18, 2) := by decide +kernel
theorem dX5_init_38 : decode cX5_init 38 = .ok (.iastore, 1) := by decide +kernel
theorem dX5_init_39 : decode cX5_init 39 = .ok (.iinc 1 1, 3) := by decide +kernel
theorem dX5_init_42 : decode cX5_init 42 = .ok (.goto (-18), 3) := by decide +kernel
theorem dX5_init_45 : decode cX5_init 45 = .ok (.iconst 0, 1) := by decide +kernel
theorem dX5_init_46 : decode cX5_init 46 = .ok (.istore_n 1, 1) := by decide +kernel
theorem dX5_init_47 : decode cX5_init 47 = .ok (.iload_n 1, 1) := by decide +kernel
theorem dX5_init_48 : decode cX5_init 48 = .ok (.bipush 12, 2) := by decide +kernel
theorem dX5_init_50 : decode cX5_init 50 = .ok (.if_icmp .ge 21, 3) := by decide +kernel
theorem dX5_init_53 : decode cX5_init 53 = .ok (.aload_n 0, 1) := by decide +kernel
theorem dX5_init_54 : decode cX5_init 54 = .ok (.getfield 15, 3) := by decide +kernel
theorem dX5_init_57 : decode cX5_init 57 = .ok (.iload_n 1, 1) := by decide +kernel
theorem dX5_init_58 : decode cX5_init 58 = .ok (.bipush 12, 2) := by decide +kernel
theorem dX5_init_60 : decode cX5_init 60 = .ok (.imul, 1) := by decide +kernel
theorem dX5_init_61 : decode cX5_init 61 = .ok (.iload_n 1, 1) := by decide +kernel
theorem dX5_init_62 : decode cX5_init 62 = .ok (.iadd, 1) := by decide +kernel
theorem dX5_init_63 : decode cX5_init 63 = .ok (.iconst 0, 1) := by decide +kernel
theorem dX5_init_64 : decode cX5_init 64 = .ok (.iastore, 1) := by decide +kernel
theorem dX5_init_65 : decode cX5_init 65 = .ok (.iinc 1 1, 3) := by decide +kernel
theorem dX5_init_68 : decode cX5_init 68 = .ok (.goto (-21), 3) := by decide +kernel
theorem dX5_init_71 : decode cX5_init 71 = .ok (.return_, 1) := by decide +kernel
theorem dX5_copyFrom_0 : decode cX5_copyFrom 0 = .ok (.aload_n 0, 1) := by decide +kernel
theorem dX5_copyFrom_1 : decode cX5_copyFrom 1 = .ok (.aload_n 1, 1) := by decide +kernel
theorem dX5_copyFrom_2 : decode cX5_copyFrom 2 = .ok (.getfield 19, 3) := by decide +kernel
theorem dX5_copyFrom_5 : decode cX5_copyFrom 5 = .ok (.putfield 19, 3) := by decide +kernel
theorem dX5_copyFrom_8 : decode cX5_copyFrom 8 = .ok (.aload_n 1, 1) := by decide +kernel
theorem dX5_copyFrom_9 : decode cX5_copyFrom 9 = .ok (.getfield 9, 3) := by decide +kernel
theorem dX5_copyFrom_12 : decode cX5_copyFrom 12 = .ok (.iconst 0, 1) := by decide +kernel
theorem dX5_copyFrom_13 : decode cX5_copyFrom 13 = .ok (.aload_n 0, 1) := by decide +kernel
theorem dX5_copyFrom_14 : decode cX5_copyFrom 14 = .ok (.getfield 9, 3) := by decide +kernel
theorem dX5_copyFrom_17 : decode cX5_copyFrom 17 = .ok (.iconst 0, 1) := by decide +kernel
theorem dX5_copyFrom_18 : decode cX5_copyFrom 18 = .ok (.sipush 144, 3) := by decide +kernel
theorem dX5_copyFrom_21 : decode cX5_copyFrom 21 = .ok (.invokestatic 23, 3) := by decide +kernel
theorem dX5_copyFrom_24 : decode cX5_copyFrom 24 = .ok (.aload_n 1, 1) := by decide +kernel
theorem dX5_copyFrom_25 : decode cX5_copyFrom 25 = .ok (.getfield 15, 3) := by decide +kernel
theorem dX5_copyFrom_28 : decode cX5_copyFrom 28 = .ok (.iconst 0, 1) := by decide +kernel
theorem dX5_copyFrom_29 : decode cX5_copyFrom 29 = .ok (.aload_n 0, 1) := by decide +kernel
theorem dX5_copyFrom_30 : decode cX5_copyFrom 30 = .ok (.getfield 15, 3) := by decide +kernel
theorem dX5_copyFrom_33 : decode cX5_copyFrom 33 = .ok (.iconst 0, 1) := by decide +kernel
theorem dX5_copyFrom_34 : decode cX5_copyFrom 34 = .ok (.sipush 144, 3) := by decide +kernel
theorem dX5_copyFrom_37 : decode cX5_copyFrom 37 = .ok (.invokestatic 23, 3) := by decide +kernel
theorem dX5_copyFrom_40 : decode cX5_copyFrom 40 = .ok (.return_, 1) := by decide +kernel
theorem dX5_road_0 : decode cX5_road 0 = .ok (.iload_n 1, 1) := by decide +kernel
theorem dX5_road_1 : decode cX5_road 1 = .ok (.invokestatic 29, 3) := by decide +kernel
theorem dX5_road_4 : decode cX5_road 4 = .ok (.ifCond .eq 24, 3) := by decide +kernel
theorem dX5_road_7 : decode cX5_road 7 = .ok (.iload_n 2, 1) := by decide +kernel
theorem dX5_road_8 : decode cX5_road 8 = .ok (.invokestatic 29, 3) := by decide +kernel
theorem dX5_road_11 : decode cX5_road 11 = .ok (.ifCond .eq 17, 3) := by decide +kernel
theorem dX5_road_14 : decode cX5_road 14 = .ok (.aload_n 0, 1) := by decide +kernel
theorem dX5_road_15 : decode cX5_road 15 = .ok (.getfield 9, 3) := by decide +kernel
theorem dX5_road_18 : decode cX5_road 18 = .ok (.iload_n 1, 1) := by decide +kernel
theorem dX5_road_19 : decode cX5_road 19 = .ok (.bipush 12, 2) := by decide +kernel
theorem dX5_road_21 : decode cX5_road 21 = .ok (.imul, 1) := by decide +kernel
theorem dX5_road_22 : decode cX5_road 22 = .ok (.iload_n 2, 1) := by decide +kernel
theorem dX5_road_23 : decode cX5_road 23 = .ok (.iadd, 1) := by decide +kernel
theorem dX5_road_24 : decode cX5_road 24 = .ok (.iaload, 1) := by decide +kernel
theorem dX5_road_25 : decode cX5_road 25 = .ok (.goto 4, 3) := by decide +kernel
theorem dX5_road_28 : decode cX5_road 28 = .ok (.iconst 0, 1) := by decide +kernel
theorem dX5_road_29 : decode cX5_road 29 = .ok (.ireturn, 1) := by decide +kernel
theorem dX5_between_0 : decode cX5_between 0 = .ok (.iload_n 1, 1) := by decide +kernel
theorem dX5_between_1 : decode cX5_between 1 = .ok (.ifCond .lt 19, 3) := by decide +kernel
theorem dX5_between_4 : decode cX5_between 4 = .ok (.iload_n 1, 1) := by decide +kernel
theorem dX5_between_5 : decode cX5_between 5 = .ok (.bipush 12, 2) := by decide +kernel
theorem dX5_between_7 : decode cX5_between 7 = .ok (.if_icmp .ge 13, 3) := by decide +kernel
theorem dX5_between_10 : decode cX5_between 10 = .ok (.iload_n 2, 1) := by decide +kernel
theorem dX5_between_11 : decode cX5_between 11 = .ok (.ifCond .lt 9, 3) := by decide +kernel
theorem dX5_between_14 : decode cX5_between 14 = .ok (.iload_n 2, 1) := by decide +kernel
theorem dX5_between_15 : decode cX5_between 15 = .ok (.bipush 12, 2) := by decide +kernel
theorem dX5_between_17 : decode cX5_between 17 = .ok (.if_icmp .lt 6, 3) := by decide +kernel
theorem dX5_between_20 : decode cX5_between 20 = .ok (.ldc 18, 2) := by decide +kernel
theorem dX5_between_22 : decode cX5_between 22 = .ok (.ireturn, 1) := by decide +kernel
theorem dX5_between_23 : decode cX5_between 23 = .ok (.aload_n 0, 1) := by decide +kernel
theorem dX5_between_24 : decode cX5_between 24 = .ok (.getfield 15, 3) := by decide +kernel
theorem dX5_between_27 : decode cX5_between 27 = .ok (.iload_n 1, 1) := by decide +kernel
theorem dX5_between_28 : decode cX5_between 28 = .ok (.bipush 12, 2) := by decide +kernel
theorem dX5_between_30 : decode cX5_between 30 = .ok (.imul, 1) := by decide +kernel
theorem dX5_between_31 : decode cX5_between 31 = .ok (.iload_n 2, 1) := by decide +kernel
theorem dX5_between_32 : decode cX5_between 32 = .ok (.iadd, 1) := by decide +kernel
theorem dX5_between_33 : decode cX5_between 33 = .ok (.iaload, 1) := by decide +kernel
theorem dX5_between_34 : decode cX5_between 34 = .ok (.ireturn, 1) := by decide +kernel
theorem dX5_build_0 : decode cX5_build 0 = .ok (.iload_n 1, 1) := by decide +kernel
theorem dX5_build_1 : decode cX5_build 1 = .ok (.invokestatic 29, 3) := by decide +kernel
theorem dX5_build_4 : decode cX5_build 4 = .ok (.ifCond .eq 10, 3) := by decide +kernel
theorem dX5_build_7 : decode cX5_build 7 = .ok (.iload_n 2, 1) := by decide +kernel
theorem dX5_build_8 : decode cX5_build 8 = .ok (.invokestatic 29, 3) := by decide +kernel
theorem dX5_build_11 : decode cX5_build 11 = .ok (.ifCond .ne 5, 3) := by decide +kernel
theorem dX5_build_14 : decode cX5_build 14 = .ok (.iconst (-1), 1) := by decide +kernel
theorem dX5_build_15 : decode cX5_build 15 = .ok (.ireturn, 1) := by decide +kernel
theorem dX5_build_16 : decode cX5_build 16 = .ok (.aload_n 0, 1) := by decide +kernel
theorem dX5_build_17 : decode cX5_build 17 = .ok (.getfield 9, 3) := by decide +kernel
theorem dX5_build_20 : decode cX5_build 20 = .ok (.iload_n 1, 1) := by decide +kernel
theorem dX5_build_21 : decode cX5_build 21 = .ok (.bipush 12, 2) := by decide +kernel
theorem dX5_build_23 : decode cX5_build 23 = .ok (.imul, 1) := by decide +kernel
theorem dX5_build_24 : decode cX5_build 24 = .ok (.iload_n 2, 1) := by decide +kernel
theorem dX5_build_25 : decode cX5_build 25 = .ok (.iadd, 1) := by decide +kernel
theorem dX5_build_26 : decode cX5_build 26 = .ok (.iload_n 3, 1) := by decide +kernel
theorem dX5_build_27 : decode cX5_build 27 = .ok (.iastore, 1) := by decide +kernel
theorem dX5_build_28 : decode cX5_build 28 = .ok (.aload_n 0, 1) := by decide +kernel
theorem dX5_build_29 : decode cX5_build 29 = .ok (.getfield 9, 3) := by decide +kernel
theorem dX5_build_32 : decode cX5_build 32 = .ok (.iload_n 2, 1) := by decide +kernel
theorem dX5_build_33 : decode cX5_build 33 = .ok (.bipush 12, 2) := by decide +kernel
theorem dX5_build_35 : decode cX5_build 35 = .ok (.imul, 1) := by decide +kernel
theorem dX5_build_36 : decode cX5_build 36 = .ok (.iload_n 1, 1) := by decide +kernel
theorem dX5_build_37 : decode cX5_build 37 = .ok (.iadd, 1) := by decide +kernel
theorem dX5_build_38 : decode cX5_build 38 = .ok (.iload_n 3, 1) := by decide +kernel
theorem dX5_build_39 : decode cX5_build 39 = .ok (.iastore, 1) := by decide +kernel
theorem dX5_build_40 : decode cX5_build 40 = .ok (.iconst 0, 1) := by decide +kernel
theorem dX5_build_41 : decode cX5_build 41 = .ok (.istore 4, 2) := by decide +kernel
theorem dX5_build_43 : decode cX5_build 43 = .ok (.iload 4, 2) := by decide +kernel
theorem dX5_build_45 : decode cX5_build 45 = .ok (.bipush 12, 2) := by decide +kernel
theorem dX5_build_47 : decode cX5_build 47 = .ok (.if_icmp .ge 98, 3) := by decide +kernel
theorem dX5_build_50 : decode cX5_build 50 = .ok (.iconst 0, 1) := by decide +kernel
theorem dX5_build_51 : decode cX5_build 51 = .ok (.istore 5, 2) := by decide +kernel
theorem dX5_build_53 : decode cX5_build 53 = .ok (.iload 5, 2) := by decide +kernel
theorem dX5_build_55 : decode cX5_build 55 = .ok (.bipush 12, 2) := by decide +kernel
theorem dX5_build_57 : decode cX5_build 57 = .ok (.if_icmp .ge 82, 3) := by decide +kernel
theorem dX5_build_60 : decode cX5_build 60 = .ok (.aload_n 0, 1) := by decide +kernel
theorem dX5_build_61 : decode cX5_build 61 = .ok (.iload 4, 2) := by decide +kernel
theorem dX5_build_63 : decode cX5_build 63 = .ok (.iload_n 1, 1) := by decide +kernel
theorem dX5_build_64 : decode cX5_build 64 = .ok (.invokevirtual 33, 3) := by decide +kernel
theorem dX5_build_67 : decode cX5_build 67 = .ok (.iload_n 3, 1) := by decide +kernel
theorem dX5_build_68 : decode cX5_build 68 = .ok (.iadd, 1) := by decide +kernel
theorem dX5_build_69 : decode cX5_build 69 = .ok (.aload_n 0, 1) := by decide +kernel
theorem dX5_build_70 : decode cX5_build 70 = .ok (.iload_n 2, 1) := by decide +kernel
theorem dX5_build_71 : decode cX5_build 71 = .ok (.iload 5, 2) := by decide +kernel
theorem dX5_build_73 : decode cX5_build 73 = .ok (.invokevirtual 33, 3) := by decide +kernel
theorem dX5_build_76 : decode cX5_build 76 = .ok (.iadd, 1) := by decide +kernel
theorem dX5_build_77 : decode cX5_build 77 = .ok (.istore 6, 2) := by decide +kernel
theorem dX5_build_79 : decode cX5_build 79 = .ok (.aload_n 0, 1) := by decide +kernel
theorem dX5_build_80 : decode cX5_build 80 = .ok (.iload 4, 2) := by decide +kernel
theorem dX5_build_82 : decode cX5_build 82 = .ok (.iload_n 2, 1) := by decide +kernel
theorem dX5_build_83 : decode cX5_build 83 = .ok (.invokevirtual 33, 3) := by decide +kernel
theorem dX5_build_86 : decode cX5_build 86 = .ok (.iload_n 3, 1) := by decide +kernel
theorem dX5_build_87 : decode cX5_build 87 = .ok (.iadd, 1) := by decide +kernel
theorem dX5_build_88 : decode cX5_build 88 = .ok (.aload_n 0, 1) := by decide +kernel
theorem dX5_build_89 : decode cX5_build 89 = .ok (.iload_n 1, 1) := by decide +kernel
theorem dX5_build_90 : decode cX5_build 90 = .ok (.iload 5, 2) := by decide +kernel
theorem dX5_build_92 : decode cX5_build 92 = .ok (.invokevirtual 33, 3) := by decide +kernel
theorem dX5_build_95 : decode cX5_build 95 = .ok (.iadd, 1) := by decide +kernel
theorem dX5_build_96 : decode cX5_build 96 = .ok (.istore 7, 2) := by decide +kernel
theorem dX5_build_98 : decode cX5_build 98 = .ok (.aload_n 0, 1) := by decide +kernel
theorem dX5_build_99 : decode cX5_build 99 = .ok (.iload 4, 2) := by decide +kernel
theorem dX5_build_101 : decode cX5_build 101 = .ok (.iload 5, 2) := by decide +kernel
theorem dX5_build_103 : decode cX5_build 103 = .ok (.invokevirtual 33, 3) := by decide +kernel
theorem dX5_build_106 : decode cX5_build 106 = .ok (.iload 6, 2) := by decide +kernel
theorem dX5_build_108 : decode cX5_build 108 = .ok (.iload 7, 2) := by decide +kernel
theorem dX5_build_110 : decode cX5_build 110 = .ok (.invokestatic 37, 3) := by decide +kernel
theorem dX5_build_113 : decode cX5_build 113 = .ok (.invokestatic 37, 3) := by decide +kernel
theorem dX5_build_116 : decode cX5_build 116 = .ok (.istore 8, 2) := by decide +kernel
theorem dX5_build_118 : decode cX5_build 118 = .ok (.aload_n 0, 1) := by decide +kernel
theorem dX5_build_119 : decode cX5_build 119 = .ok (.getfield 15, 3) := by decide +kernel
theorem dX5_build_122 : decode cX5_build 122 = .ok (.iload 4, 2) := by decide +kernel
theorem dX5_build_124 : decode cX5_build 124 = .ok (.bipush 12, 2) := by decide +kernel
theorem dX5_build_126 : decode cX5_build 126 = .ok (.imul, 1) := by decide +kernel
theorem dX5_build_127 : decode cX5_build 127 = .ok (.iload 5, 2) := by decide +kernel
theorem dX5_build_129 : decode cX5_build 129 = .ok (.iadd, 1) := by decide +kernel
theorem dX5_build_130 : decode cX5_build 130 = .ok (.iload 8, 2) := by decide +kernel
theorem dX5_build_132 : decode cX5_build 132 = .ok (.iastore, 1) := by decide +kernel
theorem dX5_build_133 : decode cX5_build 133 = .ok (.iinc 5 1, 3) := by decide +kernel
theorem dX5_build_136 : decode cX5_build 136 = .ok (.goto (-83), 3) := by decide +kernel
theorem dX5_build_139 : decode cX5_build 139 = .ok (.iinc 4 1, 3) := by decide +kernel
theorem dX5_build_142 : decode cX5_build 142 = .ok (.goto (-99), 3) := by decide +kernel
theorem dX5_build_145 : decode cX5_build 145 = .ok (.aload_n 0, 1) := by decide +kernel
theorem dX5_build_146 : decode cX5_build 146 = .ok (.dup, 1) := by decide +kernel
theorem dX5_build_147 : decode cX5_build 147 = .ok (.getfield 19, 3) := by decide +kernel
theorem dX5_build_150 : decode cX5_build 150 = .ok (.iconst 1, 1) := by decide +kernel
theorem dX5_build_151 : decode cX5_build 151 = .ok (.iadd, 1) := by decide +kernel
theorem dX5_build_152 : decode cX5_build 152 = .ok (.putfield 19, 3) := by decide +kernel
theorem dX5_build_155 : decode cX5_build 155 = .ok (.aload_n 0, 1) := by decide +kernel
theorem dX5_build_156 : decode cX5_build 156 = .ok (.getfield 19, 3) := by decide +kernel
theorem dX5_build_159 : decode cX5_build 159 = .ok (.iconst 1, 1) := by decide +kernel
theorem dX5_build_160 : decode cX5_build 160 = .ok (.isub, 1) := by decide +kernel
theorem dX5_build_161 : decode cX5_build 161 = .ok (.ireturn, 1) := by decide +kernel
theorem dX5_nextOnWay_0 : decode cX5_nextOnWay 0 = .ok (.iload_n 1, 1) := by decide +kernel
theorem dX5_nextOnWay_1 : decode cX5_nextOnWay 1 = .ok (.ifCond .lt 19, 3) := by decide +kernel
theorem dX5_nextOnWay_4 : decode cX5_nextOnWay 4 = .ok (.iload_n 1, 1) := by decide +kernel
theorem dX5_nextOnWay_5 : decode cX5_nextOnWay 5 = .ok (.bipush 12, 2) := by decide +kernel
theorem dX5_nextOnWay_7 : decode cX5_nextOnWay 7 = .ok (.if_icmp .ge 13, 3) := by decide +kernel
theorem dX5_nextOnWay_10 : decode cX5_nextOnWay 10 = .ok (.iload_n 2, 1) := by decide +kernel
theorem dX5_nextOnWay_11 : decode cX5_nextOnWay 11 = .ok (.ifCond .lt 9, 3) := by decide +kernel
theorem dX5_nextOnWay_14 : decode cX5_nextOnWay 14 = .ok (.iload_n 2, 1) := by decide +kernel
theorem dX5_nextOnWay_15 : decode cX5_nextOnWay 15 = .ok (.bipush 12, 2) := by decide +kernel
theorem dX5_nextOnWay_17 : decode cX5_nextOnWay 17 = .ok (.if_icmp .lt 6, 3) := by decide +kernel
theorem dX5_nextOnWay_20 : decode cX5_nextOnWay 20 = .ok (.bipush (-5), 2) := by decide +kernel
theorem dX5_nextOnWay_22 : decode cX5_nextOnWay 22 = .ok (.ireturn, 1) := by decide +kernel
theorem dX5_nextOnWay_23 : decode cX5_nextOnWay 23 = .ok (.aload_n 0, 1) := by decide +kernel
theorem dX5_nextOnWay_24 : decode cX5_nextOnWay 24 = .ok (.getfield 15, 3) := by decide +kernel
theorem dX5_nextOnWay_27 : decode cX5_nextOnWay 27 = .ok (.iload_n 1, 1) := by decide +kernel
theorem dX5_nextOnWay_28 : decode cX5_nextOnWay 28 = .ok (.bipush 12, 2) := by decide +kernel
theorem dX5_nextOnWay_30 : decode cX5_nextOnWay 30 = .ok (.imul, 1) := by decide +kernel
theorem dX5_nextOnWay_31 : decode cX5_nextOnWay 31 = .ok (.iload_n 2, 1) := by decide +kernel
theorem dX5_nextOnWay_32 : decode cX5_nextOnWay 32 = .ok (.iadd, 1) := by decide +kernel
theorem dX5_nextOnWay_33 : decode cX5_nextOnWay 33 = .ok (.iaload, 1) := by decide +kernel
theorem dX5_nextOnWay_34 : decode cX5_nextOnWay 34 = .ok (.istore_n 3, 1) := by decide +kernel
theorem dX5_nextOnWay_35 : decode cX5_nextOnWay 35 = .ok (.iconst 0, 1) := by decide +kernel
theorem dX5_nextOnWay_36 : decode cX5_nextOnWay 36 = .ok (.istore 4, 2) := by decide +kernel
theorem dX5_nextOnWay_38 : decode cX5_nextOnWay 38 = .ok (.iload 4, 2) := by decide +kernel
theorem dX5_nextOnWay_40 : decode cX5_nextOnWay 40 = .ok (.bipush 12, 2) := by decide +kernel
theorem dX5_nextOnWay_42 : decode cX5_nextOnWay 42 = .ok (.if_icmp .ge 56, 3) := by decide +kernel
theorem dX5_nextOnWay_45 : decode cX5_nextOnWay 45 = .ok (.iload_n 3, 1) := by decide +kernel
theorem dX5_nextOnWay_46 : decode cX5_nextOnWay 46 = .ok (.ldc 18, 2) := by decide +kernel
theorem dX5_nextOnWay_48 : decode cX5_nextOnWay 48 = .ok (.if_icmp .ge 50, 3) := by decide +kernel
theorem dX5_nextOnWay_51 : decode cX5_nextOnWay 51 = .ok (.aload_n 0, 1) := by decide +kernel
theorem dX5_nextOnWay_52 : decode cX5_nextOnWay 52 = .ok (.getfield 9, 3) := by decide +kernel
theorem dX5_nextOnWay_55 : decode cX5_nextOnWay 55 = .ok (.iload_n 1, 1) := by decide +kernel
theorem dX5_nextOnWay_56 : decode cX5_nextOnWay 56 = .ok (.bipush 12, 2) := by decide +kernel
theorem dX5_nextOnWay_58 : decode cX5_nextOnWay 58 = .ok (.imul, 1) := by decide +kernel
theorem dX5_nextOnWay_59 : decode cX5_nextOnWay 59 = .ok (.iload 4, 2) := by decide +kernel
theorem dX5_nextOnWay_61 : decode cX5_nextOnWay 61 = .ok (.iadd, 1) := by decide +kernel
theorem dX5_nextOnWay_62 : decode cX5_nextOnWay 62 = .ok (.iaload, 1) := by decide +kernel
theorem dX5_nextOnWay_63 : decode cX5_nextOnWay 63 = .ok (.istore 5, 2) := by decide +kernel
theorem dX5_nextOnWay_65 : decode cX5_nextOnWay 65 = .ok (.iload 5, 2) := by decide +kernel
theorem dX5_nextOnWay_67 : decode cX5_nextOnWay 67 = .ok (.ifCond .le 25, 3) := by decide +kernel
theorem dX5_nextOnWay_70 : decode cX5_nextOnWay 70 = .ok (.iload 5, 2) := by decide +kernel
theorem dX5_nextOnWay_72 : decode cX5_nextOnWay 72 = .ok (.aload_n 0, 1) := by decide +kernel
theorem dX5_nextOnWay_73 : decode cX5_nextOnWay 73 = .ok (.getfield 15, 3) := by decide +kernel
theorem dX5_nextOnWay_76 : decode cX5_nextOnWay 76 = .ok (.iload 4, 2) := by decide +kernel
theorem dX5_nextOnWay_78 : decode cX5_nextOnWay 78 = .ok (.bipush 12, 2) := by decide +kernel
theorem dX5_nextOnWay_80 : decode cX5_nextOnWay 80 = .ok (.imul, 1) := by decide +kernel
theorem dX5_nextOnWay_81 : decode cX5_nextOnWay 81 = .ok (.iload_n 2, 1) := by decide +kernel
theorem dX5_nextOnWay_82 : decode cX5_nextOnWay 82 = .ok (.iadd, 1) := by decide +kernel
theorem dX5_nextOnWay_83 : decode cX5_nextOnWay 83 = .ok (.iaload, 1) := by decide +kernel
theorem dX5_nextOnWay_84 : decode cX5_nextOnWay 84 = .ok (.iadd, 1) := by decide +kernel
theorem dX5_nextOnWay_85 : decode cX5_nextOnWay 85 = .ok (.iload_n 3, 1) := by decide +kernel
theorem dX5_nextOnWay_86 : decode cX5_nextOnWay 86 = .ok (.if_icmp .ne 6, 3) := by decide +kernel
theorem dX5_nextOnWay_89 : decode cX5_nextOnWay 89 = .ok (.iload 4, 2) := by decide +kernel
theorem dX5_nextOnWay_91 : decode cX5_nextOnWay 91 = .ok (.ireturn, 1) := by decide +kernel
theorem dX5_nextOnWay_92 : decode cX5_nextOnWay 92 = .ok (.iinc 4 1, 3) := by decide +kernel
theorem dX5_nextOnWay_95 : decode cX5_nextOnWay 95 = .ok (.goto (-57), 3) := by decide +kernel
theorem dX5_nextOnWay_98 : decode cX5_nextOnWay 98 = .ok (.bipush (-5), 2) := by decide +kernel
theorem dX5_nextOnWay_100 : decode cX5_nextOnWay 100 = .ok (.ireturn, 1) := by decide +kernel
theorem dX6_waits_0 : decode cX6_waits 0 = .ok (.aload_n 0, 1) := by decide +kernel
theorem dX6_waits_1 : decode cX6_waits 1 = .ok (.iload_n 1, 1) := by decide +kernel
theorem dX6_waits_2 : decode cX6_waits 2 = .ok (.invokevirtual 9, 3) := by decide +kernel
theorem dX6_waits_5 : decode cX6_waits 5 = .ok (.ifCond .ne 5, 3) := by decide +kernel
theorem dX6_waits_8 : decode cX6_waits 8 = .ok (.iconst 0, 1) := by decide +kernel
theorem dX6_waits_9 : decode cX6_waits 9 = .ok (.ireturn, 1) := by decide +kernel
theorem dX6_waits_10 : decode cX6_waits 10 = .ok (.aload_n 0, 1) := by decide +kernel
theorem dX6_waits_11 : decode cX6_waits 11 = .ok (.getfield 15, 3) := by decide +kernel
theorem dX6_waits_14 : decode cX6_waits 14 = .ok (.iload_n 1, 1) := by decide +kernel
theorem dX6_waits_15 : decode cX6_waits 15 = .ok (.aaload, 1) := by decide +kernel
theorem dX6_waits_16 : decode cX6_waits 16 = .ok (.getfield 19, 3) := by decide +kernel
theorem dX6_waits_19 : decode cX6_waits 19 = .ok (.istore_n 2, 1) := by decide +kernel
theorem dX6_waits_20 : decode cX6_waits 20 = .ok (.iload_n 2, 1) := by decide +kernel
theorem dX6_waits_21 : decode cX6_waits 21 = .ok (.ifCond .eq 18, 3) := by decide +kernel
theorem dX6_waits_24 : decode cX6_waits 24 = .ok (.iload_n 2, 1) := by decide +kernel
theorem dX6_waits_25 : decode cX6_waits 25 = .ok (.iconst 3, 1) := by decide +kernel
theorem dX6_waits_26 : decode cX6_waits 26 = .ok (.if_icmp .ne 17, 3) := by decide +kernel
theorem dX6_waits_29 : decode cX6_waits 29 = .ok (.aload_n 0, 1) := by decide +kernel
theorem dX6_waits_30 : decode cX6_waits 30 = .ok (.iload_n 1, 1) := by decide +kernel
theorem dX6_waits_31 : decode cX6_waits 31 = .ok (.invokevirtual 25, 3) := by decide +kernel
theorem dX6_waits_34 : decode cX6_waits 34 = .ok (.bipush (-5), 2) := by decide +kernel
theorem dX6_waits_36 : decode cX6_waits 36 = .ok (.if_icmp .ne 7, 3) := by decide +kernel
theorem dX6_waits_39 : decode cX6_waits 39 = .ok (.iconst 1, 1) := by decide +kernel
theorem dX6_waits_40 : decode cX6_waits 40 = .ok (.goto 4, 3) := by decide +kernel
theorem dX6_waits_43 : decode cX6_waits 43 = .ok (.iconst 0, 1) := by decide +kernel
theorem dX6_waits_44 : decode cX6_waits 44 = .ok (.ireturn, 1) := by decide +kernel
theorem dX6_putInOrder_0 : decode cX6_putInOrder 0 = .ok (.iconst 0, 1) := by decide +kernel
theorem dX6_putInOrder_1 : decode cX6_putInOrder 1 = .ok (.istore_n 1, 1) := by decide +kernel
theorem dX6_putInOrder_2 : decode cX6_putInOrder 2 = .ok (.iconst 0, 1) := by decide +kernel
theorem dX6_putInOrder_3 : decode cX6_putInOrder 3 = .ok (.istore_n 2, 1) := by decide +kernel
theorem dX6_putInOrder_4 : decode cX6_putInOrder 4 = .ok (.iload_n 2, 1) := by decide +kernel
theorem dX6_putInOrder_5 : decode cX6_putInOrder 5 = .ok (.aload_n 0, 1) := by decide +kernel
theorem dX6_putInOrder_6 : decode cX6_putInOrder 6 = .ok (.getfield 29, 3) := by decide +kernel
theorem dX6_putInOrder_9 : decode cX6_putInOrder 9 = .ok (.if_icmp .ge 75, 3) := by decide +kernel
theorem dX6_putInOrder_12 : decode cX6_putInOrder 12 = .ok (.iload_n 1, 1) := by decide +kernel
theorem dX6_putInOrder_13 : decode cX6_putInOrder 13 = .ok (.bipush 40, 2) := by decide +kernel
theorem dX6_putInOrder_15 : decode cX6_putInOrder 15 = .ok (.if_icmp .ge 69, 3) := by decide +kernel
theorem dX6_putInOrder_18 : decode cX6_putInOrder 18 = .ok (.aload_n 0, 1) := by decide +kernel
theorem dX6_putInOrder_19 : decode cX6_putInOrder 19 = .ok (.iload_n 2, 1) := by decide +kernel
theorem dX6_putInOrder_20 : decode cX6_putInOrder 20 = .ok (.invokestatic 32, 3) := by decide +kernel
theorem dX6_putInOrder_23 : decode cX6_putInOrder 23 = .ok (.ifCond .eq 55, 3) := by decide +kernel
theorem dX6_putInOrder_26 : decode cX6_putInOrder 26 = .ok (.iload_n 1, 1) := by decide +kernel
theorem dX6_putInOrder_27 : decode cX6_putInOrder 27 = .ok (.istore_n 3, 1) := by decide +kernel
theorem dX6_putInOrder_28 : decode cX6_putInOrder 28 = .ok (.iload_n 3, 1) := by decide +kernel
theorem dX6_putInOrder_29 : decode cX6_putInOrder 29 = .ok (.ifCond .le 39, 3) := by decide +kernel
theorem dX6_putInOrder_32 : decode cX6_putInOrder 32 = .ok (.aload_n 0, 1) := by decide +kernel
theorem dX6_putInOrder_33 : decode cX6_putInOrder 33 = .ok (.iload_n 2, 1) := by decide +kernel
theorem dX6_putInOrder_34 : decode cX6_putInOrder 34 = .ok (.aload_n 0, 1) := by decide +kernel
theorem dX6_putInOrder_35 : decode cX6_putInOrder 35 = .ok (.getfield 38, 3) := by decide +kernel
theorem dX6_putInOrder_38 : decode cX6_putInOrder 38 = .ok (.iload_n 3, 1) := by decide +kernel
theorem dX6_putInOrder_39 : decode cX6_putInOrder 39 = .ok (.iconst 1, 1) := by decide +kernel
theorem dX6_putInOrder_40 : decode cX6_putInOrder 40 = .ok (.isub, 1) := by decide +kernel
theorem dX6_putInOrder_41 : decode cX6_putInOrder 41 = .ok (.iaload, 1) := by decide +kernel
theorem dX6_putInOrder_42 : decode cX6_putInOrder 42 = .ok (.invokestatic 42, 3) := by decide +kernel
theorem dX6_putInOrder_45 : decode cX6_putInOrder 45 = .ok (.ifCond .eq 23, 3) := by decide +kernel
theorem dX6_putInOrder_48 : decode cX6_putInOrder 48 = .ok (.aload_n 0, 1) := by decide +kernel
theorem dX6_putInOrder_49 : decode cX6_putInOrder 49 = .ok (.getfield 38, 3) := by decide +kernel
theorem dX6_putInOrder_52 : decode cX6_putInOrder 52 = .ok (.iload_n 3, 1) := by decide +kernel
theorem dX6_putInOrder_53 : decode cX6_putInOrder 53 = .ok (.aload_n 0, 1) := by decide +kernel
theorem dX6_putInOrder_54 : decode cX6_putInOrder 54 = .ok (.getfield 38, 3) := by decide +kernel
theorem dX6_putInOrder_57 : decode cX6_putInOrder 57 = .ok (.iload_n 3, 1) := by decide +kernel
theorem dX6_putInOrder_58 : decode cX6_putInOrder 58 = .ok (.iconst 1, 1) := by decide +kernel
theorem dX6_putInOrder_59 : decode cX6_putInOrder 59 = .ok (.isub, 1) := by decide +kernel
theorem dX6_putInOrder_60 : decode cX6_putInOrder 60 = .ok (.iaload, 1) := by decide +kernel
theorem dX6_putInOrder_61 : decode cX6_putInOrder 61 = .ok (.iastore, 1) := by decide +kernel
theorem dX6_putInOrder_62 : decode cX6_putInOrder 62 = .ok (.iinc 3 (-1), 3) := by decide +kernel
theorem dX6_putInOrder_65 : decode cX6_putInOrder 65 = .ok (.goto (-37), 3) := by decide +kernel
theorem dX6_putInOrder_68 : decode cX6_putInOrder 68 = .ok (.aload_n 0, 1) := by decide +kernel
theorem dX6_putInOrder_69 : decode cX6_putInOrder 69 = .ok (.getfield 38, 3) := by decide +kernel
theorem dX6_putInOrder_72 : decode cX6_putInOrder 72 = .ok (.iload_n 3, 1) := by decide +kernel
theorem dX6_putInOrder_73 : decode cX6_putInOrder 73 = .ok (.iload_n 2, 1) := by decide +kernel
theorem dX6_putInOrder_74 : decode cX6_putInOrder 74 = .ok (.iastore, 1) := by decide +kernel
theorem dX6_putInOrder_75 : decode cX6_putInOrder 75 = .ok (.iinc 1 1, 3) := by decide +kernel
theorem dX6_putInOrder_78 : decode cX6_putInOrder 78 = .ok (.iinc 2 1, 3) := by decide +kernel
theorem dX6_putInOrder_81 : decode cX6_putInOrder 81 = .ok (.goto (-77), 3) := by decide +kernel
theorem dX6_putInOrder_84 : decode cX6_putInOrder 84 = .ok (.iload_n 1, 1) := by decide +kernel
theorem dX6_putInOrder_85 : decode cX6_putInOrder 85 = .ok (.ireturn, 1) := by decide +kernel
theorem dX6_isAheadOf_0 : decode cX6_isAheadOf 0 = .ok (.aload_n 0, 1) := by decide +kernel
theorem dX6_isAheadOf_1 : decode cX6_isAheadOf 1 = .ok (.iload_n 1, 1) := by decide +kernel
theorem dX6_isAheadOf_2 : decode cX6_isAheadOf 2 = .ok (.invokevirtual 9, 3) := by decide +kernel
theorem dX6_isAheadOf_5 : decode cX6_isAheadOf 5 = .ok (.ifCond .eq 11, 3) := by decide +kernel
theorem dX6_isAheadOf_8 : decode cX6_isAheadOf 8 = .ok (.aload_n 0, 1) := by decide +kernel
theorem dX6_isAheadOf_9 : decode cX6_isAheadOf 9 = .ok (.iload_n 2, 1) := by decide +kernel
theorem dX6_isAheadOf_10 : decode cX6_isAheadOf 10 = .ok (.invokevirtual 9, 3) := by decide +kernel
theorem dX6_isAheadOf_13 : decode cX6_isAheadOf 13 = .ok (.ifCond .ne 5, 3) := by decide +kernel
theorem dX6_isAheadOf_16 : decode cX6_isAheadOf 16 = .ok (.iconst 0, 1) := by decide +kernel
theorem dX6_isAheadOf_17 : decode cX6_isAheadOf 17 = .ok (.ireturn, 1) := by decide +kernel
theorem dX6_isAheadOf_18 : decode cX6_isAheadOf 18 = .ok (.aload_n 0, 1) := by decide +kernel
theorem dX6_isAheadOf_19 : decode cX6_isAheadOf 19 = .ok (.getfield 15, 3) := by decide +kernel
theorem dX6_isAheadOf_22 : decode cX6_isAheadOf 22 = .ok (.iload_n 1, 1) := by decide +kernel
theorem dX6_isAheadOf_23 : decode cX6_isAheadOf 23 = .ok (.aaload, 1) := by decide +kernel
theorem dX6_isAheadOf_24 : decode cX6_isAheadOf 24 = .ok (.astore_n 3, 1) := by decide +kernel
theorem dX6_isAheadOf_25 : decode cX6_isAheadOf 25 = .ok (.aload_n 0, 1) := by decide +kernel
theorem dX6_isAheadOf_26 : decode cX6_isAheadOf 26 = .ok (.getfield 15, 3) := by decide +kernel
theorem dX6_isAheadOf_29 : decode cX6_isAheadOf 29 = .ok (.iload_n 2, 1) := by decide +kernel
theorem dX6_isAheadOf_30 : decode cX6_isAheadOf 30 = .ok (.aaload, 1) := by decide +kernel
theorem dX6_isAheadOf_31 : decode cX6_isAheadOf 31 = .ok (.astore 4, 2) := by decide +kernel
theorem dX6_isAheadOf_33 : decode cX6_isAheadOf 33 = .ok (.aload_n 3, 1) := by decide +kernel
theorem dX6_isAheadOf_34 : decode cX6_isAheadOf 34 = .ok (.invokevirtual 46, 3) := by decide +kernel
theorem dX6_isAheadOf_37 : decode cX6_isAheadOf 37 = .ok (.aload 4, 2) := by decide +kernel
theorem dX6_isAheadOf_39 : decode cX6_isAheadOf 39 = .ok (.invokevirtual 46, 3) := by decide +kernel
theorem dX6_isAheadOf_42 : decode cX6_isAheadOf 42 = .ok (.if_icmp .eq 21, 3) := by decide +kernel
theorem dX6_isAheadOf_45 : decode cX6_isAheadOf 45 = .ok (.aload_n 3, 1) := by decide +kernel
theorem dX6_isAheadOf_46 : decode cX6_isAheadOf 46 = .ok (.invokevirtual 46, 3) := by decide +kernel
theorem dX6_isAheadOf_49 : decode cX6_isAheadOf 49 = .ok (.aload 4, 2) := by decide +kernel
theorem dX6_isAheadOf_51 : decode cX6_isAheadOf 51 = .ok (.invokevirtual 46, 3) := by decide +kernel
theorem dX6_isAheadOf_54 : decode cX6_isAheadOf 54 = .ok (.if_icmp .ge 7, 3) := by decide +kernel
theorem dX6_isAheadOf_57 : decode cX6_isAheadOf 57 = .ok (.iconst 1, 1) := by decide +kernel
theorem dX6_isAheadOf_58 : decode cX6_isAheadOf 58 = .ok (.goto 4, 3) := by decide +kernel
theorem dX6_isAheadOf_61 : decode cX6_isAheadOf 61 = .ok (.iconst 0, 1) := by decide +kernel
theorem dX6_isAheadOf_62 : decode cX6_isAheadOf 62 = .ok (.ireturn, 1) := by decide +kernel
theorem dX6_isAheadOf_63 : decode cX6_isAheadOf 63 = .ok (.aload_n 0, 1) := by decide +kernel
theorem dX6_isAheadOf_64 : decode cX6_isAheadOf 64 = .ok (.aload_n 3, 1) := by decide +kernel
theorem dX6_isAheadOf_65 : decode cX6_isAheadOf 65 = .ok (.getfield 50, 3) := by decide +kernel
theorem dX6_isAheadOf_68 : decode cX6_isAheadOf 68 = .ok (.invokevirtual 53, 3) := by decide +kernel
theorem dX6_isAheadOf_71 : decode cX6_isAheadOf 71 = .ok (.aload_n 0, 1) := by decide +kernel
theorem dX6_isAheadOf_72 : decode cX6_isAheadOf 72 = .ok (.aload 4, 2) := by decide +kernel
theorem dX6_isAheadOf_74 : decode cX6_isAheadOf 74 = .ok (.getfield 50, 3) := by decide +kernel
theorem dX6_isAheadOf_77 : decode cX6_isAheadOf 77 = .ok (.invokevirtual 53, 3) := by decide +kernel
theorem dX6_isAheadOf_80 : decode cX6_isAheadOf 80 = .ok (.if_icmp .le 7, 3) := by decide +kernel
theorem dX6_isAheadOf_83 : decode cX6_isAheadOf 83 = .ok (.iconst 1, 1) := by decide +kernel
theorem dX6_isAheadOf_84 : decode cX6_isAheadOf 84 = .ok (.goto 4, 3) := by decide +kernel
theorem dX6_isAheadOf_87 : decode cX6_isAheadOf 87 = .ok (.iconst 0, 1) := by decide +kernel
theorem dX6_isAheadOf_88 : decode cX6_isAheadOf 88 = .ok (.ireturn, 1) := by decide +kernel
theorem dX6_nearestPatrol_0 : decode cX6_nearestPatrol 0 = .ok (.bipush (-5), 2) := by decide +kernel
theorem dX6_nearestPatrol_2 : decode cX6_nearestPatrol 2 = .ok (.istore_n 2, 1) := by decide +kernel
theorem dX6_nearestPatrol_3 : decode cX6_nearestPatrol 3 = .ok (.iconst 0, 1) := by decide +kernel
theorem dX6_nearestPatrol_4 : decode cX6_nearestPatrol 4 = .ok (.istore_n 3, 1) := by decide +kernel
theorem dX6_nearestPatrol_5 : decode cX6_nearestPatrol 5 = .ok (.ldc 56, 2) := by decide +kernel
theorem dX6_nearestPatrol_7 : decode cX6_nearestPatrol 7 = .ok (.istore 4, 2) := by decide +kernel
theorem dX6_nearestPatrol_9 : decode cX6_nearestPatrol 9 = .ok (.iconst 0, 1) := by decide +kernel
theorem dX6_nearestPatrol_10 : decode cX6_nearestPatrol 10 = .ok (.istore 5, 2) := by decide +kernel
theorem dX6_nearestPatrol_12 : decode cX6_nearestPatrol 12 = .ok (.iload 5, 2) := by decide +kernel
theorem dX6_nearestPatrol_14 : decode cX6_nearestPatrol 14 = .ok (.aload_n 0, 1) := by decide +kernel
theorem dX6_nearestPatrol_15 : decode cX6_nearestPatrol 15 = .ok (.getfield 57, 3) := by decide +kernel
theorem dX6_nearestPatrol_18 : decode cX6_nearestPatrol 18 = .ok (.if_icmp .ge 115, 3) := by decide +kernel
theorem dX6_nearestPatrol_21 : decode cX6_nearestPatrol 21 = .ok (.iload 5, 2) := by decide +kernel
theorem dX6_nearestPatrol_23 : decode cX6_nearestPatrol 23 = .ok (.bipush 6, 2) := by decide +kernel
theorem dX6_nearestPatrol_25 : decode cX6_nearestPatrol 25 = .ok (.if_icmp .ge 108, 3) := by decide +kernel
theorem dX6_nearestPatrol_28 : decode cX6_nearestPatrol 28 = .ok (.aload_n 0, 1) := by decide +kernel
theorem dX6_nearestPatrol_29 : decode cX6_nearestPatrol 29 = .ok (.getfield 60, 3) := by decide +kernel
theorem dX6_nearestPatrol_32 : decode cX6_nearestPatrol 32 = .ok (.iload 5, 2) := by decide +kernel
theorem dX6_nearestPatrol_34 : decode cX6_nearestPatrol 34 = .ok (.aaload, 1) := by decide +kernel
theorem dX6_nearestPatrol_35 : decode cX6_nearestPatrol 35 = .ok (.astore 6, 2) := by decide +kernel
theorem dX6_nearestPatrol_37 : decode cX6_nearestPatrol 37 = .ok (.aload_n 0, 1) := by decide +kernel
theorem dX6_nearestPatrol_38 : decode cX6_nearestPatrol 38 = .ok (.getfield 64, 3) := by decide +kernel
theorem dX6_nearestPatrol_41 : decode cX6_nearestPatrol 41 = .ok (.aload 6, 2) := by decide +kernel
theorem dX6_nearestPatrol_43 : decode cX6_nearestPatrol 43 = .ok (.getfield 68, 3) := by decide +kernel
theorem dX6_nearestPatrol_46 : decode cX6_nearestPatrol 46 = .ok (.aload_n 1, 1) := by decide +kernel
theorem dX6_nearestPatrol_47 : decode cX6_nearestPatrol 47 = .ok (.getfield 73, 3) := by decide +kernel
theorem dX6_nearestPatrol_50 : decode cX6_nearestPatrol 50 = .ok (.invokevirtual 74, 3) := by decide +kernel
theorem dX6_nearestPatrol_53 : decode cX6_nearestPatrol 53 = .ok (.istore 7, 2) := by decide +kernel
theorem dX6_nearestPatrol_55 : decode cX6_nearestPatrol 55 = .ok (.iload 7, 2) := by decide +kernel
theorem dX6_nearestPatrol_57 : decode cX6_nearestPatrol 57 = .ok (.iload 4, 2) := by decide +kernel
theorem dX6_nearestPatrol_59 : decode cX6_nearestPatrol 59 = .ok (.if_icmp .lt 19, 3) := by decide +kernel
theorem dX6_nearestPatrol_62 : decode cX6_nearestPatrol 62 = .ok (.iload 7, 2) := by decide +kernel
theorem dX6_nearestPatrol_64 : decode cX6_nearestPatrol 64 = .ok (.iload 4, 2) := by decide +kernel
theorem dX6_nearestPatrol_66 : decode cX6_nearestPatrol 66 = .ok (.if_icmp .ne 16, 3) := by decide +kernel
theorem dX6_nearestPatrol_69 : decode cX6_nearestPatrol 69 = .ok (.aload 6, 2) := by decide +kernel
theorem dX6_nearestPatrol_71 : decode cX6_nearestPatrol 71 = .ok (.getfield 80, 3) := by decide +kernel
theorem dX6_nearestPatrol_74 : decode cX6_nearestPatrol 74 = .ok (.iload_n 3, 1) := by decide +kernel
theorem dX6_nearestPatrol_75 : decode cX6_nearestPatrol 75 = .ok (.if_icmp .le 7, 3) := by decide +kernel
theorem dX6_nearestPatrol_78 : decode cX6_nearestPatrol 78 = .ok (.iconst 1, 1) := by decide +kernel
theorem dX6_nearestPatrol_79 : decode cX6_nearestPatrol 79 = .ok (.goto 4, 3) := by decide +kernel
theorem dX6_nearestPatrol_82 : decode cX6_nearestPatrol 82 = .ok (.iconst 0, 1) := by decide +kernel
theorem dX6_nearestPatrol_83 : decode cX6_nearestPatrol 83 = .ok (.istore 8, 2) := by decide +kernel
theorem dX6_nearestPatrol_85 : decode cX6_nearestPatrol 85 = .ok (.aload 6, 2) := by decide +kernel
theorem dX6_nearestPatrol_87 : decode cX6_nearestPatrol 87 = .ok (.getfield 83, 3) := by decide +kernel
theorem dX6_nearestPatrol_90 : decode cX6_nearestPatrol 90 = .ok (.ifCond .ne 37, 3) := by decide +kernel
theorem dX6_nearestPatrol_93 : decode cX6_nearestPatrol 93 = .ok (.iload 7, 2) := by decide +kernel
theorem dX6_nearestPatrol_95 : decode cX6_nearestPatrol 95 = .ok (.ldc 56, 2) := by decide +kernel
theorem dX6_nearestPatrol_97 : decode cX6_nearestPatrol 97 = .ok (.if_icmp .ge 30, 3) := by decide +kernel
theorem dX6_nearestPatrol_100 : decode cX6_nearestPatrol 100 = .ok (.iload 8, 2) := by decide +kernel
theorem dX6_nearestPatrol_102 : decode cX6_nearestPatrol 102 = .ok (.ifCond .eq 25, 3) := by decide +kernel
theorem dX6_nearestPatrol_105 : decode cX6_nearestPatrol 105 = .ok (.aload 6, 2) := by decide +kernel
theorem dX6_nearestPatrol_107 : decode cX6_nearestPatrol 107 = .ok (.aload_n 1, 1) := by decide +kernel
theorem dX6_nearestPatrol_108 : decode cX6_nearestPatrol 108 = .ok (.invokestatic 86, 3) := by decide +kernel
theorem dX6_nearestPatrol_111 : decode cX6_nearestPatrol 111 = .ok (.ifCond .eq 16, 3) := by decide +kernel
theorem dX6_nearestPatrol_114 : decode cX6_nearestPatrol 114 = .ok (.iload 5, 2) := by decide +kernel
theorem dX6_nearestPatrol_116 : decode cX6_nearestPatrol 116 = .ok (.istore_n 2, 1) := by decide +kernel
theorem dX6_nearestPatrol_117 : decode cX6_nearestPatrol 117 = .ok (.aload 6, 2) := by decide +kernel
theorem dX6_nearestPatrol_119 : decode cX6_nearestPatrol 119 = .ok (.getfield 80, 3) := by decide +kernel
theorem dX6_nearestPatrol_122 : decode cX6_nearestPatrol 122 = .ok (.istore_n 3, 1) := by decide +kernel
theorem dX6_nearestPatrol_123 : decode cX6_nearestPatrol 123 = .ok (.iload 7, 2) := by decide +kernel
theorem dX6_nearestPatrol_125 : decode cX6_nearestPatrol 125 = .ok (.istore 4, 2) := by decide +kernel
theorem dX6_nearestPatrol_127 : decode cX6_nearestPatrol 127 = .ok (.iinc 5 1, 3) := by decide +kernel
theorem dX6_nearestPatrol_130 : decode cX6_nearestPatrol 130 = .ok (.goto (-118), 3) := by decide +kernel
theorem dX6_nearestPatrol_133 : decode cX6_nearestPatrol 133 = .ok (.iload_n 2, 1) := by decide +kernel
theorem dX6_nearestPatrol_134 : decode cX6_nearestPatrol 134 = .ok (.ireturn, 1) := by decide +kernel
theorem dX6_mayTake_0 : decode cX6_mayTake 0 = .ok (.aload_n 0, 1) := by decide +kernel
theorem dX6_mayTake_1 : decode cX6_mayTake 1 = .ok (.getfield 90, 3) := by decide +kernel
theorem dX6_mayTake_4 : decode cX6_mayTake 4 = .ok (.invokestatic 93, 3) := by decide +kernel
theorem dX6_mayTake_7 : decode cX6_mayTake 7 = .ok (.aload_n 1, 1) := by decide +kernel
theorem dX6_mayTake_8 : decode cX6_mayTake 8 = .ok (.getfield 73, 3) := by decide +kernel
theorem dX6_mayTake_11 : decode cX6_mayTake 11 = .ok (.invokestatic 93, 3) := by decide +kernel
theorem dX6_mayTake_14 : decode cX6_mayTake 14 = .ok (.isub, 1) := by decide +kernel
theorem dX6_mayTake_15 : decode cX6_mayTake 15 = .ok (.invokestatic 96, 3) := by decide +kernel
theorem dX6_mayTake_18 : decode cX6_mayTake 18 = .ok (.istore_n 2, 1) := by decide +kernel
theorem dX6_mayTake_19 : decode cX6_mayTake 19 = .ok (.aload_n 1, 1) := by decide +kernel
theorem dX6_mayTake_20 : decode cX6_mayTake 20 = .ok (.getfield 19, 3) := by decide +kernel
theorem dX6_mayTake_23 : decode cX6_mayTake 23 = .ok (.iconst 3, 1) := by decide +kernel
theorem dX6_mayTake_24 : decode cX6_mayTake 24 = .ok (.if_icmp .ne 20, 3) := by decide +kernel
theorem dX6_mayTake_27 : decode cX6_mayTake 27 = .ok (.aload_n 0, 1) := by decide +kernel
theorem dX6_mayTake_28 : decode cX6_mayTake 28 = .ok (.getfield 101, 3) := by decide +kernel
theorem dX6_mayTake_31 : decode cX6_mayTake 31 = .ok (.ifCond .eq 11, 3) := by decide +kernel
theorem dX6_mayTake_34 : decode cX6_mayTake 34 = .ok (.iload_n 2, 1) := by decide +kernel
theorem dX6_mayTake_35 : decode cX6_mayTake 35 = .ok (.ifCond .ne 7, 3) := by decide +kernel
theorem dX6_mayTake_38 : decode cX6_mayTake 38 = .ok (.iconst 1, 1) := by decide +kernel
theorem dX6_mayTake_39 : decode cX6_mayTake 39 = .ok (.goto 4, 3) := by decide +kernel
theorem dX6_mayTake_42 : decode cX6_mayTake 42 = .ok (.iconst 0, 1) := by decide +kernel
theorem dX6_mayTake_43 : decode cX6_mayTake 43 = .ok (.ireturn, 1) := by decide +kernel
theorem dX6_mayTake_44 : decode cX6_mayTake 44 = .ok (.iload_n 2, 1) := by decide +kernel
theorem dX6_mayTake_45 : decode cX6_mayTake 45 = .ok (.iconst 1, 1) := by decide +kernel
theorem dX6_mayTake_46 : decode cX6_mayTake 46 = .ok (.if_icmp .gt 7, 3) := by decide +kernel
theorem dX6_mayTake_49 : decode cX6_mayTake 49 = .ok (.iconst 1, 1) := by decide +kernel
theorem dX6_mayTake_50 : decode cX6_mayTake 50 = .ok (.goto 4, 3) := by decide +kernel
theorem dX6_mayTake_53 : decode cX6_mayTake 53 = .ok (.iconst 0, 1) := by decide +kernel
theorem dX6_mayTake_54 : decode cX6_mayTake 54 = .ok (.ireturn, 1) := by decide +kernel
theorem dX7_init_0 : decode cX7_init 0 = .ok (.aload_n 0, 1) := by decide +kernel
theorem dX7_init_1 : decode cX7_init 1 = .ok (.invokespecial 3, 3) := by decide +kernel
theorem dX7_init_4 : decode cX7_init 4 = .ok (.aload_n 0, 1) := by decide +kernel
theorem dX7_init_5 : decode cX7_init 5 = .ok (.new 9, 3) := by decide +kernel
theorem dX7_init_8 : decode cX7_init 8 = .ok (.dup, 1) := by decide +kernel
theorem dX7_init_9 : decode cX7_init 9 = .ok (.invokespecial 11, 3) := by decide +kernel
theorem dX7_init_12 : decode cX7_init 12 = .ok (.putfield 12, 3) := by decide +kernel
theorem dX7_init_15 : decode cX7_init 15 = .ok (.aload_n 0, 1) := by decide +kernel
theorem dX7_init_16 : decode cX7_init 16 = .ok (.bipush 20, 2) := by decide +kernel
theorem dX7_init_18 : decode cX7_init 18 = .ok (.newarray .int, 2) := by decide +kernel
theorem dX7_init_20 : decode cX7_init 20 = .ok (.putfield 18, 3) := by decide +kernel
theorem dX7_init_23 : decode cX7_init 23 = .ok (.aload_n 0, 1) := by decide +kernel
theorem dX7_init_24 : decode cX7_init 24 = .ok (.bipush 6, 2) := by decide +kernel
theorem dX7_init_26 : decode cX7_init 26 = .ok (.anewarray 22, 3) := by decide +kernel
theorem dX7_init_29 : decode cX7_init 29 = .ok (.putfield 24, 3) := by decide +kernel
theorem dX7_init_32 : decode cX7_init 32 = .ok (.aload_n 0, 1) := by decide +kernel
theorem dX7_init_33 : decode cX7_init 33 = .ok (.iconst 5, 1) := by decide +kernel
theorem dX7_init_34 : decode cX7_init 34 = .ok (.anewarray 28, 3) := by decide +kernel
theorem dX7_init_37 : decode cX7_init 37 = .ok (.putfield 30, 3) := by decide +kernel
theorem dX7_init_40 : decode cX7_init 40 = .ok (.aload_n 0, 1) := by decide +kernel
theorem dX7_init_41 : decode cX7_init 41 = .ok (.bipush 40, 2) := by decide +kernel
theorem dX7_init_43 : decode cX7_init 43 = .ok (.anewarray 34, 3) := by decide +kernel
theorem dX7_init_46 : decode cX7_init 46 = .ok (.putfield 36, 3) := by decide +kernel
theorem dX7_init_49 : decode cX7_init 49 = .ok (.aload_n 0, 1) := by decide +kernel
theorem dX7_init_50 : decode cX7_init 50 = .ok (.iconst 3, 1) := by decide +kernel
theorem dX7_init_51 : decode cX7_init 51 = .ok (.newarray .int, 2) := by decide +kernel
theorem dX7_init_53 : decode cX7_init 53 = .ok (.dup, 1) := by decide +kernel
theorem dX7_init_54 : decode cX7_init 54 = .ok (.iconst 0, 1) := by decide +kernel
theorem dX7_init_55 : decode cX7_init 55 = .ok (.bipush 90, 2) := by decide +kernel
theorem dX7_init_57 : decode cX7_init 57 = .ok (.iastore, 1) := by decide +kernel
theorem dX7_init_58 : decode cX7_init 58 = .ok (.dup, 1) := by decide +kernel
theorem dX7_init_59 : decode cX7_init 59 = .ok (.iconst 1, 1) := by decide +kernel
theorem dX7_init_60 : decode cX7_init 60 = .ok (.bipush 60, 2) := by decide +kernel
theorem dX7_init_62 : decode cX7_init 62 = .ok (.iastore, 1) := by decide +kernel
theorem dX7_init_63 : decode cX7_init 63 = .ok (.dup, 1) := by decide +kernel
theorem dX7_init_64 : decode cX7_init 64 = .ok (.iconst 2, 1) := by decide +kernel
theorem dX7_init_65 : decode cX7_init 65 = .ok (.bipush 40, 2) := by decide +kernel
theorem dX7_init_67 : decode cX7_init 67 = .ok (.iastore, 1) := by decide +kernel
theorem dX7_init_68 : decode cX7_init 68 = .ok (.putfield 40, 3) := by decide +kernel
theorem dX7_init_71 : decode cX7_init 71 = .ok (.aload_n 0, 1) := by decide +kernel
theorem dX7_init_72 : decode cX7_init 72 = .ok (.bipush 40, 2) := by decide +kernel
theorem dX7_init_74 : decode cX7_init 74 = .ok (.newarray .int, 2) := by decide +kernel
theorem dX7_init_76 : decode cX7_init 76 = .ok (.putfield 43, 3) := by decide +kernel
theorem dX7_init_79 : decode cX7_init 79 = .ok (.iconst 0, 1) := by decide +kernel
theorem dX7_init_80 : decode cX7_init 80 = .ok (.istore_n 1, 1) := by decide +kernel
theorem dX7_init_81 : decode cX7_init 81 = .ok (.iload_n 1, 1) := by decide +kernel
theorem dX7_init_82 : decode cX7_init 82 = .ok (.bipush 6, 2) := by decide +kernel
theorem dX7_init_84 : decode cX7_init 84 = .ok (.if_icmp .ge 22, 3) := by decide +kernel
theorem dX7_init_87 : decode cX7_init 87 = .ok (.aload_n 0, 1) := by decide +kernel
theorem dX7_init_88 : decode cX7_init 88 = .ok (.getfield 24, 3) := by decide +kernel
theorem dX7_init_91 : decode cX7_init 91 = .ok (.iload_n 1, 1) := by decide +kernel
theorem dX7_init_92 : decode cX7_init 92 = .ok (.new 22, 3) := by decide +kernel
theorem dX7_init_95 : decode cX7_init 95 = .ok (.dup, 1) := by decide +kernel
theorem dX7_init_96 : decode cX7_init 96 = .ok (.invokespecial 46, 3) := by decide +kernel
theorem dX7_init_99 : decode cX7_init 99 = .ok (.aastore, 1) := by decide +kernel
theorem dX7_init_100 : decode cX7_init 100 = .ok (.iinc 1 1, 3) := by decide +kernel
theorem dX7_init_103 : decode cX7_init 103 = .ok (.goto (-22), 3) := by decide +kernel
theorem dX7_init_106 : decode cX7_init 106 = .ok (.iconst 0, 1) := by decide +kernel
theorem dX7_init_107 : decode cX7_init 107 = .ok (.istore_n 1, 1) := by decide +kernel
theorem dX7_init_108 : decode cX7_init 108 = .ok (.iload_n 1, 1) := by decide +kernel
theorem dX7_init_109 : decode cX7_init 109 = .ok (.iconst 5, 1) := by decide +kernel
theorem dX7_init_110 : decode cX7_init 110 = .ok (.if_icmp .ge 22, 3) := by decide +kernel
theorem dX7_init_113 : decode cX7_init 113 = .ok (.aload_n 0, 1) := by decide +kernel
theorem dX7_init_114 : decode cX7_init 114 = .ok (.getfield 30, 3) := by decide +kernel
theorem dX7_init_117 : decode cX7_init 117 = .ok (.iload_n 1, 1) := by decide +kernel
theorem dX7_init_118 : decode cX7_init 118 = .ok (.new 28, 3) := by decide +kernel
theorem dX7_init_121 : decode cX7_init 121 = .ok (.dup, 1) := by decide +kernel
theorem dX7_init_122 : decode cX7_init 122 = .ok (.invokespecial 47, 3) := by decide +kernel
theorem dX7_init_125 : decode cX7_init 125 = .ok (.aastore, 1) := by decide +kernel
theorem dX7_init_126 : decode cX7_init 126 = .ok (.iinc 1 1, 3) := by decide +kernel
theorem dX7_init_129 : decode cX7_init 129 = .ok (.goto (-21), 3) := by decide +kernel
theorem dX7_init_132 : decode cX7_init 132 = .ok (.iconst 0, 1) := by decide +kernel
theorem dX7_init_133 : decode cX7_init 133 = .ok (.istore_n 1, 1) := by decide +kernel
theorem dX7_init_134 : decode cX7_init 134 = .ok (.iload_n 1, 1) := by decide +kernel
theorem dX7_init_135 : decode cX7_init 135 = .ok (.bipush 40, 2) := by decide +kernel
theorem dX7_init_137 : decode cX7_init 137 = .ok (.if_icmp .ge 22, 3) := by decide +kernel
theorem dX7_init_140 : decode cX7_init 140 = .ok (.aload_n 0, 1) := by decide +kernel
theorem dX7_init_141 : decode cX7_init 141 = .ok (.getfield 36, 3) := by decide +kernel
theorem dX7_init_144 : decode cX7_init 144 = .ok (.iload_n 1, 1) := by decide +kernel
theorem dX7_init_145 : decode cX7_init 145 = .ok (.new 34, 3) := by decide +kernel
theorem dX7_init_148 : decode cX7_init 148 = .ok (.dup, 1) := by decide +kernel
theorem dX7_init_149 : decode cX7_init 149 = .ok (.invokespecial 48, 3) := by decide +kernel
theorem dX7_init_152 : decode cX7_init 152 = .ok (.aastore, 1) := by decide +kernel
theorem dX7_init_153 : decode cX7_init 153 = .ok (.iinc 1 1, 3) := by decide +kernel
theorem dX7_init_156 : decode cX7_init 156 = .ok (.goto (-22), 3) := by decide +kernel
theorem dX7_init_159 : decode cX7_init 159 = .ok (.return_, 1) := by decide +kernel
theorem dX7_copyFrom_0 : decode cX7_copyFrom 0 = .ok (.aload_n 0, 1) := by decide +kernel
theorem dX7_copyFrom_1 : decode cX7_copyFrom 1 = .ok (.getfield 12, 3) := by decide +kernel
theorem dX7_copyFrom_4 : decode cX7_copyFrom 4 = .ok (.aload_n 1, 1) := by decide +kernel
theorem dX7_copyFrom_5 : decode cX7_copyFrom 5 = .ok (.getfield 12, 3) := by decide +kernel
theorem dX7_copyFrom_8 : decode cX7_copyFrom 8 = .ok (.invokevirtual 49, 3) := by decide +kernel
theorem dX7_copyFrom_11 : decode cX7_copyFrom 11 = .ok (.aload_n 1, 1) := by decide +kernel
theorem dX7_copyFrom_12 : decode cX7_copyFrom 12 = .ok (.getfield 18, 3) := by decide +kernel
theorem dX7_copyFrom_15 : decode cX7_copyFrom 15 = .ok (.iconst 0, 1) := by decide +kernel
theorem dX7_copyFrom_16 : decode cX7_copyFrom 16 = .ok (.aload_n 0, 1) := by decide +kernel
theorem dX7_copyFrom_17 : decode cX7_copyFrom 17 = .ok (.getfield 18, 3) := by decide +kernel
theorem dX7_copyFrom_20 : decode cX7_copyFrom 20 = .ok (.iconst 0, 1) := by decide +kernel
theorem dX7_copyFrom_21 : decode cX7_copyFrom 21 = .ok (.bipush 20, 2) := by decide +kernel
theorem dX7_copyFrom_23 : decode cX7_copyFrom 23 = .ok (.invokestatic 53, 3) := by decide +kernel
theorem dX7_copyFrom_26 : decode cX7_copyFrom 26 = .ok (.aload_n 1, 1) := by decide +kernel
theorem dX7_copyFrom_27 : decode cX7_copyFrom 27 = .ok (.getfield 40, 3) := by decide +kernel
theorem dX7_copyFrom_30 : decode cX7_copyFrom 30 = .ok (.iconst 0, 1) := by decide +kernel
theorem dX7_copyFrom_31 : decode cX7_copyFrom 31 = .ok (.aload_n 0, 1) := by decide +kernel
theorem dX7_copyFrom_32 : decode cX7_copyFrom 32 = .ok (.getfield 40, 3) := by decide +kernel
theorem dX7_copyFrom_35 : decode cX7_copyFrom 35 = .ok (.iconst 0, 1) := by decide +kernel
theorem dX7_copyFrom_36 : decode cX7_copyFrom 36 = .ok (.iconst 3, 1) := by decide +kernel
theorem dX7_copyFrom_37 : decode cX7_copyFrom 37 = .ok (.invokestatic 53, 3) := by decide +kernel
theorem dX7_copyFrom_40 : decode cX7_copyFrom 40 = .ok (.iconst 0, 1) := by decide +kernel
theorem dX7_copyFrom_41 : decode cX7_copyFrom 41 = .ok (.istore_n 2, 1) := by decide +kernel
theorem dX7_copyFrom_42 : decode cX7_copyFrom 42 = .ok (.iload_n 2, 1) := by decide +kernel
theorem dX7_copyFrom_43 : decode cX7_copyFrom 43 = .ok (.aload_n 1, 1) := by decide +kernel
theorem dX7_copyFrom_44 : decode cX7_copyFrom 44 = .ok (.getfield 59, 3) := by decide +kernel
theorem dX7_copyFrom_47 : decode cX7_copyFrom 47 = .ok (.if_icmp .ge 30, 3) := by decide +kernel
theorem dX7_copyFrom_50 : decode cX7_copyFrom 50 = .ok (.iload_n 2, 1) := by decide +kernel
theorem dX7_copyFrom_51 : decode cX7_copyFrom 51 = .ok (.bipush 6, 2) := by decide +kernel
theorem dX7_copyFrom_53 : decode cX7_copyFrom 53 = .ok (.if_icmp .ge 24, 3) := by decide +kernel
theorem dX7_copyFrom_56 : decode cX7_copyFrom 56 = .ok (.aload_n 0, 1) := by decide +kernel
theorem dX7_copyFrom_57 : decode cX7_copyFrom 57 = .ok (.getfield 24, 3) := by decide +kernel
theorem dX7_copyFrom_60 : decode cX7_copyFrom 60 = .ok (.iload_n 2, 1) := by decide +kernel
theorem dX7_copyFrom_61 : decode cX7_copyFrom 61 = .ok (.aaload, 1) := by decide +kernel
theorem dX7_copyFrom_62 : decode cX7_copyFrom 62 = .ok (.aload_n 1, 1) := by decide +kernel
theorem dX7_copyFrom_63 : decode cX7_copyFrom 63 = .ok (.getfield 24, 3) := by decide +kernel
theorem dX7_copyFrom_66 : decode cX7_copyFrom 66 = .ok (.iload_n 2, 1) := by decide +kernel
theorem dX7_copyFrom_67 : decode cX7_copyFrom 67 = .ok (.aaload, 1) := by decide +kernel
theorem dX7_copyFrom_68 : decode cX7_copyFrom 68 = .ok (.invokevirtual 63, 3) := by decide +kernel
theorem dX7_copyFrom_71 : decode cX7_copyFrom 71 = .ok (.iinc 2 1, 3) := by decide +kernel
theorem dX7_copyFrom_74 : decode cX7_copyFrom 74 = .ok (.goto (-32), 3) := by decide +kernel
theorem dX7_copyFrom_77 : decode cX7_copyFrom 77 = .ok (.iconst 0, 1) := by decide +kernel
theorem dX7_copyFrom_78 : decode cX7_copyFrom 78 = .ok (.istore_n 2, 1) := by decide +kernel
theorem dX7_copyFrom_79 : decode cX7_copyFrom 79 = .ok (.iload_n 2, 1) := by decide +kernel
theorem dX7_copyFrom_80 : decode cX7_copyFrom 80 = .ok (.aload_n 1, 1) := by decide +kernel
theorem dX7_copyFrom_81 : decode cX7_copyFrom 81 = .ok (.getfield 66, 3) := by decide +kernel
theorem dX7_copyFrom_84 : decode cX7_copyFrom 84 = .ok (.if_icmp .ge 29, 3) := by decide +kernel
theorem dX7_copyFrom_87 : decode cX7_copyFrom 87 = .ok (.iload_n 2, 1) := by decide +kernel
theorem dX7_copyFrom_88 : decode cX7_copyFrom 88 = .ok (.iconst 5, 1) := by decide +kernel
theorem dX7_copyFrom_89 : decode cX7_copyFrom 89 = .ok (.if_icmp .ge 24, 3) := by decide +kernel
theorem dX7_copyFrom_92 : decode cX7_copyFrom 92 = .ok (.aload_n 0, 1) := by decide +kernel
theorem dX7_copyFrom_93 : decode cX7_copyFrom 93 = .ok (.getfield 30, 3) := by decide +kernel
theorem dX7_copyFrom_96 : decode cX7_copyFrom 96 = .ok (.iload_n 2, 1) := by decide +kernel
theorem dX7_copyFrom_97 : decode cX7_copyFrom 97 = .ok (.aaload, 1) := by decide +kernel
theorem dX7_copyFrom_98 : decode cX7_copyFrom 98 = .ok (.aload_n 1, 1) := by decide +kernel
theorem dX7_copyFrom_99 : decode cX7_copyFrom 99 = .ok (.getfield 30, 3) := by decide +kernel
theorem dX7_copyFrom_102 : decode cX7_copyFrom 102 = .ok (.iload_n 2, 1) := by decide +kernel
theorem dX7_copyFrom_103 : decode cX7_copyFrom 103 = .ok (.aaload, 1) := by decide +kernel
theorem dX7_copyFrom_104 : decode cX7_copyFrom 104 = .ok (.invokevirtual 69, 3) := by decide +kernel
theorem dX7_copyFrom_107 : decode cX7_copyFrom 107 = .ok (.iinc 2 1, 3) := by decide +kernel
theorem dX7_copyFrom_110 : decode cX7_copyFrom 110 = .ok (.goto (-31), 3) := by decide +kernel
theorem dX7_copyFrom_113 : decode cX7_copyFrom 113 = .ok (.iconst 0, 1) := by decide +kernel
theorem dX7_copyFrom_114 : decode cX7_copyFrom 114 = .ok (.istore_n 2, 1) := by decide +kernel
theorem dX7_copyFrom_115 : decode cX7_copyFrom 115 = .ok (.iload_n 2, 1) := by decide +kernel
theorem dX7_copyFrom_116 : decode cX7_copyFrom 116 = .ok (.aload_n 1, 1) := by decide +kernel
theorem dX7_copyFrom_117 : decode cX7_copyFrom 117 = .ok (.getfield 72, 3) := by decide +kernel
theorem dX7_copyFrom_120 : decode cX7_copyFrom 120 = .ok (.if_icmp .ge 30, 3) := by decide +kernel
theorem dX7_copyFrom_123 : decode cX7_copyFrom 123 = .ok (.iload_n 2, 1) := by decide +kernel
theorem dX7_copyFrom_124 : decode cX7_copyFrom 124 = .ok (.bipush 40, 2) := by decide +kernel
theorem dX7_copyFrom_126 : decode cX7_copyFrom 126 = .ok (.if_icmp .ge 24, 3) := by decide +kernel
theorem dX7_copyFrom_129 : decode cX7_copyFrom 129 = .ok (.aload_n 0, 1) := by decide +kernel
theorem dX7_copyFrom_130 : decode cX7_copyFrom 130 = .ok (.getfield 36, 3) := by decide +kernel
theorem dX7_copyFrom_133 : decode cX7_copyFrom 133 = .ok (.iload_n 2, 1) := by decide +kernel
theorem dX7_copyFrom_134 : decode cX7_copyFrom 134 = .ok (.aaload, 1) := by decide +kernel
theorem dX7_copyFrom_135 : decode cX7_copyFrom 135 = .ok (.aload_n 1, 1) := by decide +kernel
theorem dX7_copyFrom_136 : decode cX7_copyFrom 136 = .ok (.getfield 36, 3) := by decide +kernel
theorem dX7_copyFrom_139 : decode cX7_copyFrom 139 = .ok (.iload_n 2, 1) := by decide +kernel
theorem dX7_copyFrom_140 : decode cX7_copyFrom 140 = .ok (.aaload, 1) := by decide +kernel
theorem dX7_copyFrom_141 : decode cX7_copyFrom 141 = .ok (.invokevirtual 75, 3) := by decide +kernel
theorem dX7_copyFrom_144 : decode cX7_copyFrom 144 = .ok (.iinc 2 1, 3) := by decide +kernel
theorem dX7_copyFrom_147 : decode cX7_copyFrom 147 = .ok (.goto (-32), 3) := by decide +kernel
theorem dX7_copyFrom_150 : decode cX7_copyFrom 150 = .ok (.aload_n 0, 1) := by decide +kernel
theorem dX7_copyFrom_151 : decode cX7_copyFrom 151 = .ok (.aload_n 1, 1) := by decide +kernel
theorem dX7_copyFrom_152 : decode cX7_copyFrom 152 = .ok (.getfield 78, 3) := by decide +kernel
theorem dX7_copyFrom_155 : decode cX7_copyFrom 155 = .ok (.putfield 78, 3) := by decide +kernel
theorem dX7_copyFrom_158 : decode cX7_copyFrom 158 = .ok (.aload_n 0, 1) := by decide +kernel
theorem dX7_copyFrom_159 : decode cX7_copyFrom 159 = .ok (.aload_n 1, 1) := by decide +kernel
theorem dX7_copyFrom_160 : decode cX7_copyFrom 160 = .ok (.getfield 59, 3) := by decide +kernel
theorem dX7_copyFrom_163 : decode cX7_copyFrom 163 = .ok (.putfield 59, 3) := by decide +kernel
theorem dX7_copyFrom_166 : decode cX7_copyFrom 166 = .ok (.aload_n 0, 1) := by decide +kernel
theorem dX7_copyFrom_167 : decode cX7_copyFrom 167 = .ok (.aload_n 1, 1) := by decide +kernel
theorem dX7_copyFrom_168 : decode cX7_copyFrom 168 = .ok (.getfield 66, 3) := by decide +kernel
theorem dX7_copyFrom_171 : decode cX7_copyFrom 171 = .ok (.putfield 66, 3) := by decide +kernel
theorem dX7_copyFrom_174 : decode cX7_copyFrom 174 = .ok (.aload_n 0, 1) := by decide +kernel
theorem dX7_copyFrom_175 : decode cX7_copyFrom 175 = .ok (.aload_n 1, 1) := by decide +kernel
theorem dX7_copyFrom_176 : decode cX7_copyFrom 176 = .ok (.getfield 72, 3) := by decide +kernel
theorem dX7_copyFrom_179 : decode cX7_copyFrom 179 = .ok (.putfield 72, 3) := by decide +kernel
theorem dX7_copyFrom_182 : decode cX7_copyFrom 182 = .ok (.aload_n 0, 1) := by decide +kernel
theorem dX7_copyFrom_183 : decode cX7_copyFrom 183 = .ok (.aload_n 1, 1) := by decide +kernel
theorem dX7_copyFrom_184 : decode cX7_copyFrom 184 = .ok (.getfield 81, 3) := by decide +kernel
theorem dX7_copyFrom_187 : decode cX7_copyFrom 187 = .ok (.putfield 81, 3) := by decide +kernel
theorem dX7_copyFrom_190 : decode cX7_copyFrom 190 = .ok (.aload_n 0, 1) := by decide +kernel
theorem dX7_copyFrom_191 : decode cX7_copyFrom 191 = .ok (.aload_n 1, 1) := by decide +kernel
theorem dX7_copyFrom_192 : decode cX7_copyFrom 192 = .ok (.getfield 84, 3) := by decide +kernel
theorem dX7_copyFrom_195 : decode cX7_copyFrom 195 = .ok (.putfield 84, 3) := by decide +kernel
theorem dX7_copyFrom_198 : decode cX7_copyFrom 198 = .ok (.return_, 1) := by decide +kernel
theorem dX7_isMember_0 : decode cX7_isMember 0 = .ok (.iload_n 1, 1) := by decide +kernel
theorem dX7_isMember_1 : decode cX7_isMember 1 = .ok (.ifCond .lt 21, 3) := by decide +kernel
theorem dX7_isMember_4 : decode cX7_isMember 4 = .ok (.iload_n 1, 1) := by decide +kernel
theorem dX7_isMember_5 : decode cX7_isMember 5 = .ok (.aload_n 0, 1) := by decide +kernel
theorem dX7_isMember_6 : decode cX7_isMember 6 = .ok (.getfield 78, 3) := by decide +kernel
theorem dX7_isMember_9 : decode cX7_isMember 9 = .ok (.if_icmp .ge 13, 3) := by decide +kernel
theorem dX7_isMember_12 : decode cX7_isMember 12 = .ok (.iload_n 1, 1) := by decide +kernel
theorem dX7_isMember_13 : decode cX7_isMember 13 = .ok (.bipush 20, 2) := by decide +kernel
theorem dX7_isMember_15 : decode cX7_isMember 15 = .ok (.if_icmp .ge 7, 3) := by decide +kernel
theorem dX7_isMember_18 : decode cX7_isMember 18 = .ok (.iconst 1, 1) := by decide +kernel
theorem dX7_isMember_19 : decode cX7_isMember 19 = .ok (.goto 4, 3) := by decide +kernel
theorem dX7_isMember_22 : decode cX7_isMember 22 = .ok (.iconst 0, 1) := by decide +kernel
theorem dX7_isMember_23 : decode cX7_isMember 23 = .ok (.ireturn, 1) := by decide +kernel
theorem dX7_isPatrol_0 : decode cX7_isPatrol 0 = .ok (.iload_n 1, 1) := by decide +kernel
theorem dX7_isPatrol_1 : decode cX7_isPatrol 1 = .ok (.ifCond .lt 21, 3) := by decide +kernel
theorem dX7_isPatrol_4 : decode cX7_isPatrol 4 = .ok (.iload_n 1, 1) := by decide +kernel
theorem dX7_isPatrol_5 : decode cX7_isPatrol 5 = .ok (.aload_n 0, 1) := by decide +kernel
theorem dX7_isPatrol_6 : decode cX7_isPatrol 6 = .ok (.getfield 59, 3) := by decide +kernel
theorem dX7_isPatrol_9 : decode cX7_isPatrol 9 = .ok (.if_icmp .ge 13, 3) := by decide +kernel
theorem dX7_isPatrol_12 : decode cX7_isPatrol 12 = .ok (.iload_n 1, 1) := by decide +kernel
theorem dX7_isPatrol_13 : decode cX7_isPatrol 13 = .ok (.bipush 6, 2) := by decide +kernel
theorem dX7_isPatrol_15 : decode cX7_isPatrol 15 = .ok (.if_icmp .ge 7, 3) := by decide +kernel
theorem dX7_isPatrol_18 : decode cX7_isPatrol 18 = .ok (.iconst 1, 1) := by decide +kernel
theorem dX7_isPatrol_19 : decode cX7_isPatrol 19 = .ok (.goto 4, 3) := by decide +kernel
theorem dX7_isPatrol_22 : decode cX7_isPatrol 22 = .ok (.iconst 0, 1) := by decide +kernel
theorem dX7_isPatrol_23 : decode cX7_isPatrol 23 = .ok (.ireturn, 1) := by decide +kernel
theorem dX7_isGarage_0 : decode cX7_isGarage 0 = .ok (.iload_n 1, 1) := by decide +kernel
theorem dX7_isGarage_1 : decode cX7_isGarage 1 = .ok (.ifCond .lt 20, 3) := by decide +kernel
theorem dX7_isGarage_4 : decode cX7_isGarage 4 = .ok (.iload_n 1, 1) := by decide +kernel
theorem dX7_isGarage_5 : decode cX7_isGarage 5 = .ok (.aload_n 0, 1) := by decide +kernel
theorem dX7_isGarage_6 : decode cX7_isGarage 6 = .ok (.getfield 66, 3) := by decide +kernel
theorem dX7_isGarage_9 : decode cX7_isGarage 9 = .ok (.if_icmp .ge 12, 3) := by decide +kernel
theorem dX7_isGarage_12 : decode cX7_isGarage 12 = .ok (.iload_n 1, 1) := by decide +kernel
theorem dX7_isGarage_13 : decode cX7_isGarage 13 = .ok (.iconst 5, 1) := by decide +kernel
theorem dX7_isGarage_14 : decode cX7_isGarage 14 = .ok (.if_icmp .ge 7, 3) := by decide +kernel
theorem dX7_isGarage_17 : decode cX7_isGarage 17 = .ok (.iconst 1, 1) := by decide +kernel
theorem dX7_isGarage_18 : decode cX7_isGarage 18 = .ok (.goto 4, 3) := by decide +kernel
theorem dX7_isGarage_21 : decode cX7_isGarage 21 = .ok (.iconst 0, 1) := by decide +kernel
theorem dX7_isGarage_22 : decode cX7_isGarage 22 = .ok (.ireturn, 1) := by decide +kernel
theorem dX7_isCall_0 : decode cX7_isCall 0 = .ok (.iload_n 1, 1) := by decide +kernel
theorem dX7_isCall_1 : decode cX7_isCall 1 = .ok (.ifCond .lt 21, 3) := by decide +kernel
theorem dX7_isCall_4 : decode cX7_isCall 4 = .ok (.iload_n 1, 1) := by decide +kernel
theorem dX7_isCall_5 : decode cX7_isCall 5 = .ok (.aload_n 0, 1) := by decide +kernel
theorem dX7_isCall_6 : decode cX7_isCall 6 = .ok (.getfield 72, 3) := by decide +kernel
theorem dX7_isCall_9 : decode cX7_isCall 9 = .ok (.if_icmp .ge 13, 3) := by decide +kernel
theorem dX7_isCall_12 : decode cX7_isCall 12 = .ok (.iload_n 1, 1) := by decide +kernel
theorem dX7_isCall_13 : decode cX7_isCall 13 = .ok (.bipush 40, 2) := by decide +kernel
theorem dX7_isCall_15 : decode cX7_isCall 15 = .ok (.if_icmp .ge 7, 3) := by decide +kernel
theorem dX7_isCall_18 : decode cX7_isCall 18 = .ok (.iconst 1, 1) := by decide +kernel
theorem dX7_isCall_19 : decode cX7_isCall 19 = .ok (.goto 4, 3) := by decide +kernel
theorem dX7_isCall_22 : decode cX7_isCall 22 = .ok (.iconst 0, 1) := by decide +kernel
theorem dX7_isCall_23 : decode cX7_isCall 23 = .ok (.ireturn, 1) := by decide +kernel
theorem dX7_enrol_0 : decode cX7_enrol 0 = .ok (.aload_n 0, 1) := by decide +kernel
theorem dX7_enrol_1 : decode cX7_enrol 1 = .ok (.getfield 78, 3) := by decide +kernel
theorem dX7_enrol_4 : decode cX7_enrol 4 = .ok (.bipush 20, 2) := by decide +kernel
theorem dX7_enrol_6 : decode cX7_enrol 6 = .ok (.if_icmp .lt 6, 3) := by decide +kernel
theorem dX7_enrol_9 : decode cX7_enrol 9 = .ok (.bipush (-3), 2) := by decide +kernel
theorem dX7_enrol_11 : decode cX7_enrol 11 = .ok (.ireturn, 1) := by decide +kernel
theorem dX7_enrol_12 : decode cX7_enrol 12 = .ok (.aload_n 0, 1) := by decide +kernel
theorem dX7_enrol_13 : decode cX7_enrol 13 = .ok (.getfield 18, 3) := by decide +kernel
theorem dX7_enrol_16 : decode cX7_enrol 16 = .ok (.aload_n 0, 1) := by decide +kernel
theorem dX7_enrol_17 : decode cX7_enrol 17 = .ok (.getfield 78, 3) := by decide +kernel
theorem dX7_enrol_20 : decode cX7_enrol 20 = .ok (.iload_n 1, 1) := by decide +kernel
theorem dX7_enrol_21 : decode cX7_enrol 21 = .ok (.iastore, 1) := by decide +kernel
theorem dX7_enrol_22 : decode cX7_enrol 22 = .ok (.aload_n 0, 1) := by decide +kernel
theorem dX7_enrol_23 : decode cX7_enrol 23 = .ok (.dup, 1) := by decide +kernel
theorem dX7_enrol_24 : decode cX7_enrol 24 = .ok (.getfield 78, 3) := by decide +kernel
theorem dX7_enrol_27 : decode cX7_enrol 27 = .ok (.iconst 1, 1) := by decide +kernel
theorem dX7_enrol_28 : decode cX7_enrol 28 = .ok (.iadd, 1) := by decide +kernel
theorem dX7_enrol_29 : decode cX7_enrol 29 = .ok (.putfield 78, 3) := by decide +kernel
theorem dX7_enrol_32 : decode cX7_enrol 32 = .ok (.aload_n 0, 1) := by decide +kernel
theorem dX7_enrol_33 : decode cX7_enrol 33 = .ok (.getfield 78, 3) := by decide +kernel
theorem dX7_enrol_36 : decode cX7_enrol 36 = .ok (.iconst 1, 1) := by decide +kernel
theorem dX7_enrol_37 : decode cX7_enrol 37 = .ok (.isub, 1) := by decide +kernel
theorem dX7_enrol_38 : decode cX7_enrol 38 = .ok (.ireturn, 1) := by decide +kernel
theorem dX7_hire_0 : decode cX7_hire 0 = .ok (.aload_n 0, 1) := by decide +kernel
theorem dX7_hire_1 : decode cX7_hire 1 = .ok (.getfield 59, 3) := by decide +kernel
theorem dX7_hire_4 : decode cX7_hire 4 = .ok (.bipush 6, 2) := by decide +kernel
theorem dX7_hire_6 : decode cX7_hire 6 = .ok (.if_icmp .lt 6, 3) := by decide +kernel
theorem dX7_hire_9 : decode cX7_hire 9 = .ok (.bipush (-3), 2) := by decide +kernel
theorem dX7_hire_11 : decode cX7_hire 11 = .ok (.ireturn, 1) := by decide +kernel
theorem dX7_hire_12 : decode cX7_hire 12 = .ok (.aload_n 0, 1) := by decide +kernel
theorem dX7_hire_13 : decode cX7_hire 13 = .ok (.getfield 24, 3) := by decide +kernel
theorem dX7_hire_16 : decode cX7_hire 16 = .ok (.aload_n 0, 1) := by decide +kernel
theorem dX7_hire_17 : decode cX7_hire 17 = .ok (.getfield 59, 3) := by decide +kernel
theorem dX7_hire_20 : decode cX7_hire 20 = .ok (.aaload, 1) := by decide +kernel
theorem dX7_hire_21 : decode cX7_hire 21 = .ok (.iload_n 1, 1) := by decide +kernel
theorem dX7_hire_22 : decode cX7_hire 22 = .ok (.iload_n 2, 1) := by decide +kernel
theorem dX7_hire_23 : decode cX7_hire 23 = .ok (.iload_n 3, 1) := by decide +kernel
theorem dX7_hire_24 : decode cX7_hire 24 = .ok (.invokevirtual 87, 3) := by decide +kernel
theorem dX7_hire_27 : decode cX7_hire 27 = .ok (.aload_n 0, 1) := by decide +kernel
theorem dX7_hire_28 : decode cX7_hire 28 = .ok (.dup, 1) := by decide +kernel
theorem dX7_hire_29 : decode cX7_hire 29 = .ok (.getfield 59, 3) := by decide +kernel
theorem dX7_hire_32 : decode cX7_hire 32 = .ok (.iconst 1, 1) := by decide +kernel
theorem dX7_hire_33 : decode cX7_hire 33 = .ok (.iadd, 1) := by decide +kernel
theorem dX7_hire_34 : decode cX7_hire 34 = .ok (.putfield 59, 3) := by decide +kernel
theorem dX7_hire_37 : decode cX7_hire 37 = .ok (.aload_n 0, 1) := by decide +kernel
theorem dX7_hire_38 : decode cX7_hire 38 = .ok (.getfield 59, 3) := by decide +kernel
theorem dX7_hire_41 : decode cX7_hire 41 = .ok (.iconst 1, 1) := by decide +kernel
theorem dX7_hire_42 : decode cX7_hire 42 = .ok (.isub, 1) := by decide +kernel
theorem dX7_hire_43 : decode cX7_hire 43 = .ok (.ireturn, 1) := by decide +kernel
theorem dX7_open_0 : decode cX7_open 0 = .ok (.aload_n 0, 1) := by decide +kernel
theorem dX7_open_1 : decode cX7_open 1 = .ok (.getfield 66, 3) := by decide +kernel
theorem dX7_open_4 : decode cX7_open 4 = .ok (.iconst 5, 1) := by decide +kernel
theorem dX7_open_5 : decode cX7_open 5 = .ok (.if_icmp .lt 6, 3) := by decide +kernel
theorem dX7_open_8 : decode cX7_open 8 = .ok (.bipush (-3), 2) := by decide +kernel
theorem dX7_open_10 : decode cX7_open 10 = .ok (.ireturn, 1) := by decide +kernel
theorem dX7_open_11 : decode cX7_open 11 = .ok (.aload_n 0, 1) := by decide +kernel
theorem dX7_open_12 : decode cX7_open 12 = .ok (.getfield 30, 3) := by decide +kernel
theorem dX7_open_15 : decode cX7_open 15 = .ok (.aload_n 0, 1) := by decide +kernel
theorem dX7_open_16 : decode cX7_open 16 = .ok (.getfield 66, 3) := by decide +kernel
theorem dX7_open_19 : decode cX7_open 19 = .ok (.aaload, 1) := by decide +kernel
theorem dX7_open_20 : decode cX7_open 20 = .ok (.iload_n 1, 1) := by decide +kernel
theorem dX7_open_21 : decode cX7_open 21 = .ok (.iload_n 2, 1) := by decide +kernel
theorem dX7_open_22 : decode cX7_open 22 = .ok (.invokevirtual 91, 3) := by decide +kernel
theorem dX7_open_25 : decode cX7_open 25 = .ok (.aload_n 0, 1) := by decide +kernel
theorem dX7_open_26 : decode cX7_open 26 = .ok (.dup, 1) := by decide +kernel
theorem dX7_open_27 : decode cX7_open 27 = .ok (.getfield 66, 3) := by decide +kernel
theorem dX7_open_30 : decode cX7_open 30 = .ok (.iconst 1, 1) := by decide +kernel
theorem dX7_open_31 : decode cX7_open 31 = .ok (.iadd, 1) := by decide +kernel
theorem dX7_open_32 : decode cX7_open 32 = .ok (.putfield 66, 3) := by decide +kernel
theorem dX7_open_35 : decode cX7_open 35 = .ok (.aload_n 0, 1) := by decide +kernel
theorem dX7_open_36 : decode cX7_open 36 = .ok (.getfield 66, 3) := by decide +kernel
theorem dX7_open_39 : decode cX7_open 39 = .ok (.iconst 1, 1) := by decide +kernel
theorem dX7_open_40 : decode cX7_open 40 = .ok (.isub, 1) := by decide +kernel
theorem dX7_open_41 : decode cX7_open 41 = .ok (.ireturn, 1) := by decide +kernel
theorem dX7_refusal_0 : decode cX7_refusal 0 = .ok (.aload_n 0, 1) := by decide +kernel
theorem dX7_refusal_1 : decode cX7_refusal 1 = .ok (.iload_n 1, 1) := by decide +kernel
theorem dX7_refusal_2 : decode cX7_refusal 2 = .ok (.invokevirtual 94, 3) := by decide +kernel
theorem dX7_refusal_5 : decode cX7_refusal 5 = .ok (.ifCond .eq 10, 3) := by decide +kernel
theorem dX7_refusal_8 : decode cX7_refusal 8 = .ok (.iload_n 2, 1) := by decide +kernel
theorem dX7_refusal_9 : decode cX7_refusal 9 = .ok (.invokestatic 98, 3) := by decide +kernel
theorem dX7_refusal_12 : decode cX7_refusal 12 = .ok (.ifCond .ne 5, 3) := by decide +kernel
theorem dX7_refusal_15 : decode cX7_refusal 15 = .ok (.iconst (-1), 1) := by decide +kernel
theorem dX7_refusal_16 : decode cX7_refusal 16 = .ok (.ireturn, 1) := by decide +kernel
theorem dX7_refusal_17 : decode cX7_refusal 17 = .ok (.iload_n 3, 1) := by decide +kernel
theorem dX7_refusal_18 : decode cX7_refusal 18 = .ok (.iconst 1, 1) := by decide +kernel
theorem dX7_refusal_19 : decode cX7_refusal 19 = .ok (.if_icmp .lt 9, 3) := by decide +kernel
theorem dX7_refusal_22 : decode cX7_refusal 22 = .ok (.iload_n 3, 1) := by decide +kernel
theorem dX7_refusal_23 : decode cX7_refusal 23 = .ok (.bipush 12, 2) := by decide +kernel
theorem dX7_refusal_25 : decode cX7_refusal 25 = .ok (.if_icmp .le 6, 3) := by decide +kernel
theorem dX7_refusal_28 : decode cX7_refusal 28 = .ok (.bipush (-2), 2) := by decide +kernel
theorem dX7_refusal_30 : decode cX7_refusal 30 = .ok (.ireturn, 1) := by decide +kernel
theorem dX7_refusal_31 : decode cX7_refusal 31 = .ok (.aload_n 0, 1) := by decide +kernel
theorem dX7_refusal_32 : decode cX7_refusal 32 = .ok (.iload_n 1, 1) := by decide +kernel
theorem dX7_refusal_33 : decode cX7_refusal 33 = .ok (.invokevirtual 101, 3) := by decide +kernel
theorem dX7_refusal_36 : decode cX7_refusal 36 = .ok (.bipush (-5), 2) := by decide +kernel
theorem dX7_refusal_38 : decode cX7_refusal 38 = .ok (.if_icmp .eq 6, 3) := by decide +kernel
theorem dX7_refusal_41 : decode cX7_refusal 41 = .ok (.bipush (-4), 2) := by decide +kernel
theorem dX7_refusal_43 : decode cX7_refusal 43 = .ok (.ireturn, 1) := by decide +kernel
theorem dX7_refusal_44 : decode cX7_refusal 44 = .ok (.aload_n 0, 1) := by decide +kernel
theorem dX7_refusal_45 : decode cX7_refusal 45 = .ok (.getfield 72, 3) := by decide +kernel
theorem dX7_refusal_48 : decode cX7_refusal 48 = .ok (.bipush 40, 2) := by decide +kernel
theorem dX7_refusal_50 : decode cX7_refusal 50 = .ok (.if_icmp .lt 8, 3) := by decide +kernel
theorem dX7_refusal_53 : decode cX7_refusal 53 = .ok (.bipush (-3), 2) := by decide +kernel
theorem dX7_refusal_55 : decode cX7_refusal 55 = .ok (.goto 4, 3) := by decide +kernel
theorem dX7_refusal_58 : decode cX7_refusal 58 = .ok (.iconst 0, 1) := by decide +kernel
theorem dX7_refusal_59 : decode cX7_refusal 59 = .ok (.ireturn, 1) := by decide +kernel
theorem dX7_take_0 : decode cX7_take 0 = .ok (.aload_n 0, 1) := by decide +kernel
theorem dX7_take_1 : decode cX7_take 1 = .ok (.iload_n 1, 1) := by decide +kernel
theorem dX7_take_2 : decode cX7_take 2 = .ok (.invokevirtual 94, 3) := by decide +kernel
theorem dX7_take_5 : decode cX7_take 5 = .ok (.ifCond .eq 12, 3) := by decide +kernel
theorem dX7_take_8 : decode cX7_take 8 = .ok (.aload_n 0, 1) := by decide +kernel
theorem dX7_take_9 : decode cX7_take 9 = .ok (.getfield 72, 3) := by decide +kernel
theorem dX7_take_12 : decode cX7_take 12 = .ok (.bipush 40, 2) := by decide +kernel
theorem dX7_take_14 : decode cX7_take 14 = .ok (.if_icmp .lt 6, 3) := by decide +kernel
theorem dX7_take_17 : decode cX7_take 17 = .ok (.bipush (-3), 2) := by decide +kernel
theorem dX7_take_19 : decode cX7_take 19 = .ok (.ireturn, 1) := by decide +kernel
theorem dX7_take_20 : decode cX7_take 20 = .ok (.aload_n 0, 1) := by decide +kernel
theorem dX7_take_21 : decode cX7_take 21 = .ok (.iload_n 1, 1) := by decide +kernel
theorem dX7_take_22 : decode cX7_take 22 = .ok (.invokevirtual 105, 3) := by decide +kernel
theorem dX7_take_25 : decode cX7_take 25 = .ok (.istore 4, 2) := by decide +kernel
theorem dX7_take_27 : decode cX7_take 27 = .ok (.aload_n 0, 1) := by decide +kernel
theorem dX7_take_28 : decode cX7_take 28 = .ok (.iload_n 1, 1) := by decide +kernel
theorem dX7_take_29 : decode cX7_take 29 = .ok (.invokevirtual 108, 3) := by decide +kernel
theorem dX7_take_32 : decode cX7_take 32 = .ok (.bipush 10, 2) := by decide +kernel
theorem dX7_take_34 : decode cX7_take 34 = .ok (.aload_n 0, 1) := by decide +kernel
theorem dX7_take_35 : decode cX7_take 35 = .ok (.getfield 81, 3) := by decide +kernel
theorem dX7_take_38 : decode cX7_take 38 = .ok (.imul, 1) := by decide +kernel
theorem dX7_take_39 : decode cX7_take 39 = .ok (.iadd, 1) := by decide +kernel
theorem dX7_take_40 : decode cX7_take 40 = .ok (.istore 5, 2) := by decide +kernel
theorem dX7_take_42 : decode cX7_take 42 = .ok (.aload_n 0, 1) := by decide +kernel
theorem dX7_take_43 : decode cX7_take 43 = .ok (.getfield 36, 3) := by decide +kernel
theorem dX7_take_46 : decode cX7_take 46 = .ok (.aload_n 0, 1) := by decide +kernel
theorem dX7_take_47 : decode cX7_take 47 = .ok (.getfield 72, 3) := by decide +kernel
theorem dX7_take_50 : decode cX7_take 50 = .ok (.aaload, 1) := by decide +kernel
theorem dX7_take_51 : decode cX7_take 51 = .ok (.astore 6, 2) := by decide +kernel
theorem dX7_take_53 : decode cX7_take 53 = .ok (.aload 6, 2) := by decide +kernel
theorem dX7_take_55 : decode cX7_take 55 = .ok (.iload_n 1, 1) := by decide +kernel
theorem dX7_take_56 : decode cX7_take 56 = .ok (.iload_n 2, 1) := by decide +kernel
theorem dX7_take_57 : decode cX7_take 57 = .ok (.iload_n 3, 1) := by decide +kernel
theorem dX7_take_58 : decode cX7_take 58 = .ok (.iload 5, 2) := by decide +kernel
theorem dX7_take_60 : decode cX7_take 60 = .ok (.aload_n 0, 1) := by decide +kernel
theorem dX7_take_61 : decode cX7_take 61 = .ok (.getfield 84, 3) := by decide +kernel
theorem dX7_take_64 : decode cX7_take 64 = .ok (.invokevirtual 111, 3) := by decide +kernel
theorem dX7_take_67 : decode cX7_take 67 = .ok (.aload_n 0, 1) := by decide +kernel
theorem dX7_take_68 : decode cX7_take 68 = .ok (.iload 4, 2) := by decide +kernel
theorem dX7_take_70 : decode cX7_take 70 = .ok (.invokevirtual 114, 3) := by decide +kernel
theorem dX7_take_73 : decode cX7_take 73 = .ok (.ifCond .eq 46, 3) := by decide +kernel
theorem dX7_take_76 : decode cX7_take 76 = .ok (.aload 6, 2) := by decide +kernel
theorem dX7_take_78 : decode cX7_take 78 = .ok (.iconst 1, 1) := by decide +kernel
theorem dX7_take_79 : decode cX7_take 79 = .ok (.putfield 117, 3) := by decide +kernel
theorem dX7_take_82 : decode cX7_take 82 = .ok (.aload_n 0, 1) := by decide +kernel
theorem dX7_take_83 : decode cX7_take 83 = .ok (.getfield 36, 3) := by decide +kernel
theorem dX7_take_86 : decode cX7_take 86 = .ok (.iload 4, 2) := by decide +kernel
theorem dX7_take_88 : decode cX7_take 88 = .ok (.aaload, 1) := by decide +kernel
theorem dX7_take_89 : decode cX7_take 89 = .ok (.getfield 121, 3) := by decide +kernel
theorem dX7_take_92 : decode cX7_take 92 = .ok (.istore 7, 2) := by decide +kernel
theorem dX7_take_94 : decode cX7_take 94 = .ok (.aload_n 0, 1) := by decide +kernel
theorem dX7_take_95 : decode cX7_take 95 = .ok (.iload 7, 2) := by decide +kernel
theorem dX7_take_97 : decode cX7_take 97 = .ok (.invokevirtual 124, 3) := by decide +kernel
theorem dX7_take_100 : decode cX7_take 100 = .ok (.ifCond .eq 19, 3) := by decide +kernel
theorem dX7_take_103 : decode cX7_take 103 = .ok (.aload_n 0, 1) := by decide +kernel
theorem dX7_take_104 : decode cX7_take 104 = .ok (.getfield 24, 3) := by decide +kernel
theorem dX7_take_107 : decode cX7_take 107 = .ok (.iload 7, 2) := by decide +kernel
theorem dX7_take_109 : decode cX7_take 109 = .ok (.aaload, 1) := by decide +kernel
theorem dX7_take_110 : decode cX7_take 110 = .ok (.dup, 1) := by decide +kernel
theorem dX7_take_111 : decode cX7_take 111 = .ok (.getfield 127, 3) := by decide +kernel
theorem dX7_take_114 : decode cX7_take 114 = .ok (.iconst 1, 1) := by decide +kernel
theorem dX7_take_115 : decode cX7_take 115 = .ok (.iadd, 1) := by decide +kernel
theorem dX7_take_116 : decode cX7_take 116 = .ok (.putfield 127, 3) := by decide +kernel
theorem dX7_take_119 : decode cX7_take 119 = .ok (.aload_n 0, 1) := by decide +kernel
theorem dX7_take_120 : decode cX7_take 120 = .ok (.dup, 1) := by decide +kernel
theorem dX7_take_121 : decode cX7_take 121 = .ok (.getfield 72, 3) := by decide +kernel
theorem dX7_take_124 : decode cX7_take 124 = .ok (.iconst 1, 1) := by decide +kernel
theorem dX7_take_125 : decode cX7_take 125 = .ok (.iadd, 1) := by decide +kernel
theorem dX7_take_126 : decode cX7_take 126 = .ok (.putfield 72, 3) := by decide +kernel
theorem dX7_take_129 : decode cX7_take 129 = .ok (.aload_n 0, 1) := by decide +kernel
theorem dX7_take_130 : decode cX7_take 130 = .ok (.getfield 72, 3) := by decide +kernel
theorem dX7_take_133 : decode cX7_take 133 = .ok (.iconst 1, 1) := by decide +kernel
theorem dX7_take_134 : decode cX7_take 134 = .ok (.isub, 1) := by decide +kernel
theorem dX7_take_135 : decode cX7_take 135 = .ok (.ireturn, 1) := by decide +kernel
theorem dX7_repairedBefore_0 : decode cX7_repairedBefore 0 = .ok (.aload_n 0, 1) := by decide +kernel
theorem dX7_repairedBefore_1 : decode cX7_repairedBefore 1 = .ok (.getfield 72, 3) := by decide +kernel
theorem dX7_repairedBefore_4 : decode cX7_repairedBefore 4 = .ok (.iconst 1, 1) := by decide +kernel
theorem dX7_repairedBefore_5 : decode cX7_repairedBefore 5 = .ok (.isub, 1) := by decide +kernel
theorem dX7_repairedBefore_6 : decode cX7_repairedBefore 6 = .ok (.istore_n 2, 1) := by decide +kernel
theorem dX7_repairedBefore_7 : decode cX7_repairedBefore 7 = .ok (.iload_n 2, 1) := by decide +kernel
theorem dX7_repairedBefore_8 : decode cX7_repairedBefore 8 = .ok (.ifCond .lt 67, 3) := by decide +kernel
theorem dX7_repairedBefore_11 : decode cX7_repairedBefore 11 = .ok (.iload_n 2, 1) := by decide +kernel
theorem dX7_repairedBefore_12 : decode cX7_repairedBefore 12 = .ok (.bipush 40, 2) := by decide +kernel
theorem dX7_repairedBefore_14 : decode cX7_repairedBefore 14 = .ok (.if_icmp .ge 61, 3) := by decide +kernel
theorem dX7_repairedBefore_17 : decode cX7_repairedBefore 17 = .ok (.aload_n 0, 1) := by decide +kernel
theorem dX7_repairedBefore_18 : decode cX7_repairedBefore 18 = .ok (.getfield 36, 3) := by decide +kernel
theorem dX7_repairedBefore_21 : decode cX7_repairedBefore 21 = .ok (.iload_n 2, 1) := by decide +kernel
theorem dX7_repairedBefore_22 : decode cX7_repairedBefore 22 = .ok (.aaload, 1) := by decide +kernel
theorem dX7_repairedBefore_23 : decode cX7_repairedBefore 23 = .ok (.getfield 130, 3) := by decide +kernel
theorem dX7_repairedBefore_26 : decode cX7_repairedBefore 26 = .ok (.iload_n 1, 1) := by decide +kernel
theorem dX7_repairedBefore_27 : decode cX7_repairedBefore 27 = .ok (.if_icmp .ne 42, 3) := by decide +kernel
theorem dX7_repairedBefore_30 : decode cX7_repairedBefore 30 = .ok (.aload_n 0, 1) := by decide +kernel
theorem dX7_repairedBefore_31 : decode cX7_repairedBefore 31 = .ok (.getfield 36, 3) := by decide +kernel
theorem dX7_repairedBefore_34 : decode cX7_repairedBefore 34 = .ok (.iload_n 2, 1) := by decide +kernel
theorem dX7_repairedBefore_35 : decode cX7_repairedBefore 35 = .ok (.aaload, 1) := by decide +kernel
theorem dX7_repairedBefore_36 : decode cX7_repairedBefore 36 = .ok (.getfield 133, 3) := by decide +kernel
theorem dX7_repairedBefore_39 : decode cX7_repairedBefore 39 = .ok (.iconst 5, 1) := by decide +kernel
theorem dX7_repairedBefore_40 : decode cX7_repairedBefore 40 = .ok (.if_icmp .ne 29, 3) := by decide +kernel
theorem dX7_repairedBefore_43 : decode cX7_repairedBefore 43 = .ok (.aload_n 0, 1) := by decide +kernel
theorem dX7_repairedBefore_44 : decode cX7_repairedBefore 44 = .ok (.getfield 84, 3) := by decide +kernel
theorem dX7_repairedBefore_47 : decode cX7_repairedBefore 47 = .ok (.aload_n 0, 1) := by decide +kernel
theorem dX7_repairedBefore_48 : decode cX7_repairedBefore 48 = .ok (.getfield 36, 3) := by decide +kernel
theorem dX7_repairedBefore_51 : decode cX7_repairedBefore 51 = .ok (.iload_n 2, 1) := by decide +kernel
theorem dX7_repairedBefore_52 : decode cX7_repairedBefore 52 = .ok (.aaload, 1) := by decide +kernel
theorem dX7_repairedBefore_53 : decode cX7_repairedBefore 53 = .ok (.getfield 136, 3) := by decide +kernel
theorem dX7_repairedBefore_56 : decode cX7_repairedBefore 56 = .ok (.isub, 1) := by decide +kernel
theorem dX7_repairedBefore_57 : decode cX7_repairedBefore 57 = .ok (.bipush 120, 2) := by decide +kernel
theorem dX7_repairedBefore_59 : decode cX7_repairedBefore 59 = .ok (.if_icmp .gt 7, 3) := by decide +kernel
theorem dX7_repairedBefore_62 : decode cX7_repairedBefore 62 = .ok (.iload_n 2, 1) := by decide +kernel
theorem dX7_repairedBefore_63 : decode cX7_repairedBefore 63 = .ok (.goto 5, 3) := by decide +kernel
theorem dX7_repairedBefore_66 : decode cX7_repairedBefore 66 = .ok (.bipush (-5), 2) := by decide +kernel
theorem dX7_repairedBefore_68 : decode cX7_repairedBefore 68 = .ok (.ireturn, 1) := by decide +kernel
theorem dX7_repairedBefore_69 : decode cX7_repairedBefore 69 = .ok (.iinc 2 (-1), 3) := by decide +kernel
theorem dX7_repairedBefore_72 : decode cX7_repairedBefore 72 = .ok (.goto (-65), 3) := by decide +kernel
theorem dX7_repairedBefore_75 : decode cX7_repairedBefore 75 = .ok (.bipush (-5), 2) := by decide +kernel
theorem dX7_repairedBefore_77 : decode cX7_repairedBefore 77 = .ok (.ireturn, 1) := by decide +kernel
theorem dX7_promiseOf_0 : decode cX7_promiseOf 0 = .ok (.aload_n 0, 1) := by decide +kernel
theorem dX7_promiseOf_1 : decode cX7_promiseOf 1 = .ok (.iload_n 1, 1) := by decide +kernel
theorem dX7_promiseOf_2 : decode cX7_promiseOf 2 = .ok (.invokevirtual 139, 3) := by decide +kernel
theorem dX7_promiseOf_5 : decode cX7_promiseOf 5 = .ok (.istore_n 2, 1) := by decide +kernel
theorem dX7_promiseOf_6 : decode cX7_promiseOf 6 = .ok (.iload_n 2, 1) := by decide +kernel
theorem dX7_promiseOf_7 : decode cX7_promiseOf 7 = .ok (.invokestatic 142, 3) := by decide +kernel
theorem dX7_promiseOf_10 : decode cX7_promiseOf 10 = .ok (.ifCond .eq 12, 3) := by decide +kernel
theorem dX7_promiseOf_13 : decode cX7_promiseOf 13 = .ok (.aload_n 0, 1) := by decide +kernel
theorem dX7_promiseOf_14 : decode cX7_promiseOf 14 = .ok (.getfield 40, 3) := by decide +kernel
theorem dX7_promiseOf_17 : decode cX7_promiseOf 17 = .ok (.iload_n 2, 1) := by decide +kernel
theorem dX7_promiseOf_18 : decode cX7_promiseOf 18 = .ok (.iaload, 1) := by decide +kernel
theorem dX7_promiseOf_19 : decode cX7_promiseOf 19 = .ok (.goto 4, 3) := by decide +kernel
theorem dX7_promiseOf_22 : decode cX7_promiseOf 22 = .ok (.iconst 0, 1) := by decide +kernel
theorem dX7_promiseOf_23 : decode cX7_promiseOf 23 = .ok (.ireturn, 1) := by decide +kernel
theorem dX7_tierOf_0 : decode cX7_tierOf 0 = .ok (.aload_n 0, 1) := by decide +kernel
theorem dX7_tierOf_1 : decode cX7_tierOf 1 = .ok (.iload_n 1, 1) := by decide +kernel
theorem dX7_tierOf_2 : decode cX7_tierOf 2 = .ok (.invokevirtual 94, 3) := by decide +kernel
theorem dX7_tierOf_5 : decode cX7_tierOf 5 = .ok (.ifCond .eq 12, 3) := by decide +kernel
theorem dX7_tierOf_8 : decode cX7_tierOf 8 = .ok (.aload_n 0, 1) := by decide +kernel
theorem dX7_tierOf_9 : decode cX7_tierOf 9 = .ok (.getfield 18, 3) := by decide +kernel
theorem dX7_tierOf_12 : decode cX7_tierOf 12 = .ok (.iload_n 1, 1) := by decide +kernel
theorem dX7_tierOf_13 : decode cX7_tierOf 13 = .ok (.iaload, 1) := by decide +kernel
theorem dX7_tierOf_14 : decode cX7_tierOf 14 = .ok (.goto 5, 3) := by decide +kernel
theorem dX7_tierOf_17 : decode cX7_tierOf 17 = .ok (.bipush (-5), 2) := by decide +kernel
theorem dX7_tierOf_19 : decode cX7_tierOf 19 = .ok (.ireturn, 1) := by decide +kernel
theorem dX7_openCallOf_0 : decode cX7_openCallOf 0 = .ok (.iconst 0, 1) := by decide +kernel
theorem dX7_openCallOf_1 : decode cX7_openCallOf 1 = .ok (.istore_n 2, 1) := by decide +kernel
theorem dX7_openCallOf_2 : decode cX7_openCallOf 2 = .ok (.iload_n 2, 1) := by decide +kernel
theorem dX7_openCallOf_3 : decode cX7_openCallOf 3 = .ok (.aload_n 0, 1) := by decide +kernel
theorem dX7_openCallOf_4 : decode cX7_openCallOf 4 = .ok (.getfield 72, 3) := by decide +kernel
theorem dX7_openCallOf_7 : decode cX7_openCallOf 7 = .ok (.if_icmp .ge 42, 3) := by decide +kernel
theorem dX7_openCallOf_10 : decode cX7_openCallOf 10 = .ok (.iload_n 2, 1) := by decide +kernel
theorem dX7_openCallOf_11 : decode cX7_openCallOf 11 = .ok (.bipush 40, 2) := by decide +kernel
theorem dX7_openCallOf_13 : decode cX7_openCallOf 13 = .ok (.if_icmp .ge 36, 3) := by decide +kernel
theorem dX7_openCallOf_16 : decode cX7_openCallOf 16 = .ok (.aload_n 0, 1) := by decide +kernel
theorem dX7_openCallOf_17 : decode cX7_openCallOf 17 = .ok (.getfield 36, 3) := by decide +kernel
theorem dX7_openCallOf_20 : decode cX7_openCallOf 20 = .ok (.iload_n 2, 1) := by decide +kernel
theorem dX7_openCallOf_21 : decode cX7_openCallOf 21 = .ok (.aaload, 1) := by decide +kernel
theorem dX7_openCallOf_22 : decode cX7_openCallOf 22 = .ok (.getfield 130, 3) := by decide +kernel
theorem dX7_openCallOf_25 : decode cX7_openCallOf 25 = .ok (.iload_n 1, 1) := by decide +kernel
theorem dX7_openCallOf_26 : decode cX7_openCallOf 26 = .ok (.if_icmp .ne 17, 3) := by decide +kernel
theorem dX7_openCallOf_29 : decode cX7_openCallOf 29 = .ok (.aload_n 0, 1) := by decide +kernel
theorem dX7_openCallOf_30 : decode cX7_openCallOf 30 = .ok (.getfield 36, 3) := by decide +kernel
theorem dX7_openCallOf_33 : decode cX7_openCallOf 33 = .ok (.iload_n 2, 1) := by decide +kernel
theorem dX7_openCallOf_34 : decode cX7_openCallOf 34 = .ok (.aaload, 1) := by decide +kernel
theorem dX7_openCallOf_35 : decode cX7_openCallOf 35 = .ok (.invokevirtual 145, 3) := by decide +kernel
theorem dX7_openCallOf_38 : decode cX7_openCallOf 38 = .ok (.ifCond .eq 5, 3) := by decide +kernel
theorem dX7_openCallOf_41 : decode cX7_openCallOf 41 = .ok (.iload_n 2, 1) := by decide +kernel
theorem dX7_openCallOf_42 : decode cX7_openCallOf 42 = .ok (.ireturn, 1) := by decide +kernel
theorem dX7_openCallOf_43 : decode cX7_openCallOf 43 = .ok (.iinc 2 1, 3) := by decide +kernel
theorem dX7_openCallOf_46 : decode cX7_openCallOf 46 = .ok (.goto (-44), 3) := by decide +kernel
theorem dX7_openCallOf_49 : decode cX7_openCallOf 49 = .ok (.bipush (-5), 2) := by decide +kernel
theorem dX7_openCallOf_51 : decode cX7_openCallOf 51 = .ok (.ireturn, 1) := by decide +kernel
theorem dX7_callsIn_0 : decode cX7_callsIn 0 = .ok (.iconst 0, 1) := by decide +kernel
theorem dX7_callsIn_1 : decode cX7_callsIn 1 = .ok (.istore_n 2, 1) := by decide +kernel
theorem dX7_callsIn_2 : decode cX7_callsIn 2 = .ok (.iconst 0, 1) := by decide +kernel
theorem dX7_callsIn_3 : decode cX7_callsIn 3 = .ok (.istore_n 3, 1) := by decide +kernel
theorem dX7_callsIn_4 : decode cX7_callsIn 4 = .ok (.iload_n 3, 1) := by decide +kernel
theorem dX7_callsIn_5 : decode cX7_callsIn 5 = .ok (.aload_n 0, 1) := by decide +kernel
theorem dX7_callsIn_6 : decode cX7_callsIn 6 = .ok (.getfield 72, 3) := by decide +kernel
theorem dX7_callsIn_9 : decode cX7_callsIn 9 = .ok (.if_icmp .ge 31, 3) := by decide +kernel
theorem dX7_callsIn_12 : decode cX7_callsIn 12 = .ok (.iload_n 3, 1) := by decide +kernel
theorem dX7_callsIn_13 : decode cX7_callsIn 13 = .ok (.bipush 40, 2) := by decide +kernel
theorem dX7_callsIn_15 : decode cX7_callsIn 15 = .ok (.if_icmp .ge 25, 3) := by decide +kernel
theorem dX7_callsIn_18 : decode cX7_callsIn 18 = .ok (.aload_n 0, 1) := by decide +kernel
theorem dX7_callsIn_19 : decode cX7_callsIn 19 = .ok (.getfield 36, 3) := by decide +kernel
theorem dX7_callsIn_22 : decode cX7_callsIn 22 = .ok (.iload_n 3, 1) := by decide +kernel
theorem dX7_callsIn_23 : decode cX7_callsIn 23 = .ok (.aaload, 1) := by decide +kernel
theorem dX7_callsIn_24 : decode cX7_callsIn 24 = .ok (.getfield 133, 3) := by decide +kernel
theorem dX7_callsIn_27 : decode cX7_callsIn 27 = .ok (.iload_n 1, 1) := by decide +kernel
theorem dX7_callsIn_28 : decode cX7_callsIn 28 = .ok (.if_icmp .ne 6, 3) := by decide +kernel
theorem dX7_callsIn_31 : decode cX7_callsIn 31 = .ok (.iinc 2 1, 3) := by decide +kernel
theorem dX7_callsIn_34 : decode cX7_callsIn 34 = .ok (.iinc 3 1, 3) := by decide +kernel
theorem dX7_callsIn_37 : decode cX7_callsIn 37 = .ok (.goto (-33), 3) := by decide +kernel
theorem dX7_callsIn_40 : decode cX7_callsIn 40 = .ok (.iload_n 2, 1) := by decide +kernel
theorem dX7_callsIn_41 : decode cX7_callsIn 41 = .ok (.ireturn, 1) := by decide +kernel
theorem dX7_patrolOf_0 : decode cX7_patrolOf 0 = .ok (.iconst 0, 1) := by decide +kernel
theorem dX7_patrolOf_1 : decode cX7_patrolOf 1 = .ok (.istore_n 2, 1) := by decide +kernel
theorem dX7_patrolOf_2 : decode cX7_patrolOf 2 = .ok (.iload_n 2, 1) := by decide +kernel
theorem dX7_patrolOf_3 : decode cX7_patrolOf 3 = .ok (.aload_n 0, 1) := by decide +kernel
theorem dX7_patrolOf_4 : decode cX7_patrolOf 4 = .ok (.getfield 59, 3) := by decide +kernel
theorem dX7_patrolOf_7 : decode cX7_patrolOf 7 = .ok (.if_icmp .ge 30, 3) := by decide +kernel
theorem dX7_patrolOf_10 : decode cX7_patrolOf 10 = .ok (.iload_n 2, 1) := by decide +kernel
theorem dX7_patrolOf_11 : decode cX7_patrolOf 11 = .ok (.bipush 6, 2) := by decide +kernel
theorem dX7_patrolOf_13 : decode cX7_patrolOf 13 = .ok (.if_icmp .ge 24, 3) := by decide +kernel
theorem dX7_patrolOf_16 : decode cX7_patrolOf 16 = .ok (.aload_n 0, 1) := by decide +kernel
theorem dX7_patrolOf_17 : decode cX7_patrolOf 17 = .ok (.getfield 24, 3) := by decide +kernel
theorem dX7_patrolOf_20 : decode cX7_patrolOf 20 = .ok (.iload_n 2, 1) := by decide +kernel
theorem dX7_patrolOf_21 : decode cX7_patrolOf 21 = .ok (.aaload, 1) := by decide +kernel
theorem dX7_patrolOf_22 : decode cX7_patrolOf 22 = .ok (.getfield 149, 3) := by decide +kernel
theorem dX7_patrolOf_25 : decode cX7_patrolOf 25 = .ok (.iload_n 1, 1) := by decide +kernel
theorem dX7_patrolOf_26 : decode cX7_patrolOf 26 = .ok (.if_icmp .ne 5, 3) := by decide +kernel
theorem dX7_patrolOf_29 : decode cX7_patrolOf 29 = .ok (.iload_n 2, 1) := by decide +kernel
theorem dX7_patrolOf_30 : decode cX7_patrolOf 30 = .ok (.ireturn, 1) := by decide +kernel
theorem dX7_patrolOf_31 : decode cX7_patrolOf 31 = .ok (.iinc 2 1, 3) := by decide +kernel
theorem dX7_patrolOf_34 : decode cX7_patrolOf 34 = .ok (.goto (-32), 3) := by decide +kernel
theorem dX7_patrolOf_37 : decode cX7_patrolOf 37 = .ok (.bipush (-5), 2) := by decide +kernel
theorem dX7_patrolOf_39 : decode cX7_patrolOf 39 = .ok (.ireturn, 1) := by decide +kernel
theorem dX7_patrolsOnDuty_0 : decode cX7_patrolsOnDuty 0 = .ok (.iconst 0, 1) := by decide +kernel
theorem dX7_patrolsOnDuty_1 : decode cX7_patrolsOnDuty 1 = .ok (.istore_n 1, 1) := by decide +kernel
theorem dX7_patrolsOnDuty_2 : decode cX7_patrolsOnDuty 2 = .ok (.iconst 0, 1) := by decide +kernel
theorem dX7_patrolsOnDuty_3 : decode cX7_patrolsOnDuty 3 = .ok (.istore_n 2, 1) := by decide +kernel
theorem dX7_patrolsOnDuty_4 : decode cX7_patrolsOnDuty 4 = .ok (.iload_n 2, 1) := by decide +kernel
theorem dX7_patrolsOnDuty_5 : decode cX7_patrolsOnDuty 5 = .ok (.aload_n 0, 1) := by decide +kernel
theorem dX7_patrolsOnDuty_6 : decode cX7_patrolsOnDuty 6 = .ok (.getfield 59, 3) := by decide +kernel
theorem dX7_patrolsOnDuty_9 : decode cX7_patrolsOnDuty 9 = .ok (.if_icmp .ge 31, 3) := by decide +kernel
theorem dX7_patrolsOnDuty_12 : decode cX7_patrolsOnDuty 12 = .ok (.iload_n 2, 1) := by decide +kernel
theorem dX7_patrolsOnDuty_13 : decode cX7_patrolsOnDuty 13 = .ok (.bipush 6, 2) := by decide +kernel
theorem dX7_patrolsOnDuty_15 : decode cX7_patrolsOnDuty 15 = .ok (.if_icmp .ge 25, 3) := by decide +kernel
theorem dX7_patrolsOnDuty_18 : decode cX7_patrolsOnDuty 18 = .ok (.aload_n 0, 1) := by decide +kernel
theorem dX7_patrolsOnDuty_19 : decode cX7_patrolsOnDuty 19 = .ok (.getfield 24, 3) := by decide +kernel
theorem dX7_patrolsOnDuty_22 : decode cX7_patrolsOnDuty 22 = .ok (.iload_n 2, 1) := by decide +kernel
theorem dX7_patrolsOnDuty_23 : decode cX7_patrolsOnDuty 23 = .ok (.aaload, 1) := by decide +kernel
theorem dX7_patrolsOnDuty_24 : decode cX7_patrolsOnDuty 24 = .ok (.getfield 152, 3) := by decide +kernel
theorem dX7_patrolsOnDuty_27 : decode cX7_patrolsOnDuty 27 = .ok (.iconst 4, 1) := by decide +kernel
theorem dX7_patrolsOnDuty_28 : decode cX7_patrolsOnDuty 28 = .ok (.if_icmp .eq 6, 3) := by decide +kernel
theorem dX7_patrolsOnDuty_31 : decode cX7_patrolsOnDuty 31 = .ok (.iinc 1 1, 3) := by decide +kernel
theorem dX7_patrolsOnDuty_34 : decode cX7_patrolsOnDuty 34 = .ok (.iinc 2 1, 3) := by decide +kernel
theorem dX7_patrolsOnDuty_37 : decode cX7_patrolsOnDuty 37 = .ok (.goto (-33), 3) := by decide +kernel
theorem dX7_patrolsOnDuty_40 : decode cX7_patrolsOnDuty 40 = .ok (.iload_n 1, 1) := by decide +kernel
theorem dX7_patrolsOnDuty_41 : decode cX7_patrolsOnDuty 41 = .ok (.ireturn, 1) := by decide +kernel
theorem dX8_passMinute_0 : decode cX8_passMinute 0 = .ok (.iconst 0, 1) := by decide +kernel
theorem dX8_passMinute_1 : decode cX8_passMinute 1 = .ok (.istore_n 1, 1) := by decide +kernel
theorem dX8_passMinute_2 : decode cX8_passMinute 2 = .ok (.iconst 0, 1) := by decide +kernel
theorem dX8_passMinute_3 : decode cX8_passMinute 3 = .ok (.istore_n 2, 1) := by decide +kernel
theorem dX8_passMinute_4 : decode cX8_passMinute 4 = .ok (.iload_n 2, 1) := by decide +kernel
theorem dX8_passMinute_5 : decode cX8_passMinute 5 = .ok (.aload_n 0, 1) := by decide +kernel
theorem dX8_passMinute_6 : decode cX8_passMinute 6 = .ok (.getfield 9, 3) := by decide +kernel
theorem dX8_passMinute_9 : decode cX8_passMinute 9 = .ok (.if_icmp .ge 35, 3) := by decide +kernel
theorem dX8_passMinute_12 : decode cX8_passMinute 12 = .ok (.iload_n 2, 1) := by decide +kernel
theorem dX8_passMinute_13 : decode cX8_passMinute 13 = .ok (.bipush 6, 2) := by decide +kernel
theorem dX8_passMinute_15 : decode cX8_passMinute 15 = .ok (.if_icmp .ge 29, 3) := by decide +kernel
theorem dX8_passMinute_18 : decode cX8_passMinute 18 = .ok (.aload_n 0, 1) := by decide +kernel
theorem dX8_passMinute_19 : decode cX8_passMinute 19 = .ok (.getfield 15, 3) := by decide +kernel
theorem dX8_passMinute_22 : decode cX8_passMinute 22 = .ok (.iload_n 2, 1) := by decide +kernel
theorem dX8_passMinute_23 : decode cX8_passMinute 23 = .ok (.aaload, 1) := by decide +kernel
theorem dX8_passMinute_24 : decode cX8_passMinute 24 = .ok (.invokevirtual 19, 3) := by decide +kernel
theorem dX8_passMinute_27 : decode cX8_passMinute 27 = .ok (.ifCond .eq 11, 3) := by decide +kernel
theorem dX8_passMinute_30 : decode cX8_passMinute 30 = .ok (.iload_n 1, 1) := by decide +kernel
theorem dX8_passMinute_31 : decode cX8_passMinute 31 = .ok (.aload_n 0, 1) := by decide +kernel
theorem dX8_passMinute_32 : decode cX8_passMinute 32 = .ok (.iload_n 2, 1) := by decide +kernel
theorem dX8_passMinute_33 : decode cX8_passMinute 33 = .ok (.invokestatic 25, 3) := by decide +kernel
theorem dX8_passMinute_36 : decode cX8_passMinute 36 = .ok (.iadd, 1) := by decide +kernel
theorem dX8_passMinute_37 : decode cX8_passMinute 37 = .ok (.istore_n 1, 1) := by decide +kernel
theorem dX8_passMinute_38 : decode cX8_passMinute 38 = .ok (.iinc 2 1, 3) := by decide +kernel
theorem dX8_passMinute_41 : decode cX8_passMinute 41 = .ok (.goto (-37), 3) := by decide +kernel
theorem dX8_passMinute_44 : decode cX8_passMinute 44 = .ok (.aload_n 0, 1) := by decide +kernel
theorem dX8_passMinute_45 : decode cX8_passMinute 45 = .ok (.invokestatic 31, 3) := by decide +kernel
theorem dX8_passMinute_48 : decode cX8_passMinute 48 = .ok (.aload_n 0, 1) := by decide +kernel
theorem dX8_passMinute_49 : decode cX8_passMinute 49 = .ok (.dup, 1) := by decide +kernel
theorem dX8_passMinute_50 : decode cX8_passMinute 50 = .ok (.getfield 35, 3) := by decide +kernel
theorem dX8_passMinute_53 : decode cX8_passMinute 53 = .ok (.iconst 1, 1) := by decide +kernel
theorem dX8_passMinute_54 : decode cX8_passMinute 54 = .ok (.iadd, 1) := by decide +kernel
theorem dX8_passMinute_55 : decode cX8_passMinute 55 = .ok (.putfield 35, 3) := by decide +kernel
theorem dX8_passMinute_58 : decode cX8_passMinute 58 = .ok (.iload_n 1, 1) := by decide +kernel
theorem dX8_passMinute_59 : decode cX8_passMinute 59 = .ok (.ireturn, 1) := by decide +kernel
theorem dX8_goOn_0 : decode cX8_goOn 0 = .ok (.aload_n 0, 1) := by decide +kernel
theorem dX8_goOn_1 : decode cX8_goOn 1 = .ok (.getfield 15, 3) := by decide +kernel
theorem dX8_goOn_4 : decode cX8_goOn 4 = .ok (.iload_n 1, 1) := by decide +kernel
theorem dX8_goOn_5 : decode cX8_goOn 5 = .ok (.aaload, 1) := by decide +kernel
theorem dX8_goOn_6 : decode cX8_goOn 6 = .ok (.astore_n 2, 1) := by decide +kernel
theorem dX8_goOn_7 : decode cX8_goOn 7 = .ok (.aload_n 2, 1) := by decide +kernel
theorem dX8_goOn_8 : decode cX8_goOn 8 = .ok (.dup, 1) := by decide +kernel
theorem dX8_goOn_9 : decode cX8_goOn 9 = .ok (.getfield 38, 3) := by decide +kernel
theorem dX8_goOn_12 : decode cX8_goOn 12 = .ok (.iconst 1, 1) := by decide +kernel
theorem dX8_goOn_13 : decode cX8_goOn 13 = .ok (.iadd, 1) := by decide +kernel
theorem dX8_goOn_14 : decode cX8_goOn 14 = .ok (.putfield 38, 3) := by decide +kernel
theorem dX8_goOn_17 : decode cX8_goOn 17 = .ok (.aload_n 2, 1) := by decide +kernel
theorem dX8_goOn_18 : decode cX8_goOn 18 = .ok (.dup, 1) := by decide +kernel
theorem dX8_goOn_19 : decode cX8_goOn 19 = .ok (.getfield 41, 3) := by decide +kernel
theorem dX8_goOn_22 : decode cX8_goOn 22 = .ok (.iconst 1, 1) := by decide +kernel
theorem dX8_goOn_23 : decode cX8_goOn 23 = .ok (.isub, 1) := by decide +kernel
theorem dX8_goOn_24 : decode cX8_goOn 24 = .ok (.putfield 41, 3) := by decide +kernel
theorem dX8_goOn_27 : decode cX8_goOn 27 = .ok (.aload_n 2, 1) := by decide +kernel
theorem dX8_goOn_28 : decode cX8_goOn 28 = .ok (.getfield 41, 3) := by decide +kernel
theorem dX8_goOn_31 : decode cX8_goOn 31 = .ok (.ifCond .gt 14, 3) := by decide +kernel
theorem dX8_goOn_34 : decode cX8_goOn 34 = .ok (.aload_n 0, 1) := by decide +kernel
theorem dX8_goOn_35 : decode cX8_goOn 35 = .ok (.aload_n 2, 1) := by decide +kernel
theorem dX8_goOn_36 : decode cX8_goOn 36 = .ok (.getfield 44, 3) := by decide +kernel
theorem dX8_goOn_39 : decode cX8_goOn 39 = .ok (.invokevirtual 47, 3) := by decide +kernel
theorem dX8_goOn_42 : decode cX8_goOn 42 = .ok (.ifCond .ne 5, 3) := by decide +kernel
theorem dX8_goOn_45 : decode cX8_goOn 45 = .ok (.iconst 0, 1) := by decide +kernel
theorem dX8_goOn_46 : decode cX8_goOn 46 = .ok (.ireturn, 1) := by decide +kernel
theorem dX8_goOn_47 : decode cX8_goOn 47 = .ok (.aload_n 0, 1) := by decide +kernel
theorem dX8_goOn_48 : decode cX8_goOn 48 = .ok (.getfield 51, 3) := by decide +kernel
theorem dX8_goOn_51 : decode cX8_goOn 51 = .ok (.aload_n 2, 1) := by decide +kernel
theorem dX8_goOn_52 : decode cX8_goOn 52 = .ok (.getfield 44, 3) := by decide +kernel
theorem dX8_goOn_55 : decode cX8_goOn 55 = .ok (.aaload, 1) := by decide +kernel
theorem dX8_goOn_56 : decode cX8_goOn 56 = .ok (.astore_n 3, 1) := by decide +kernel
theorem dX8_goOn_57 : decode cX8_goOn 57 = .ok (.aload_n 2, 1) := by decide +kernel
theorem dX8_goOn_58 : decode cX8_goOn 58 = .ok (.getfield 55, 3) := by decide +kernel
theorem dX8_goOn_61 : decode cX8_goOn 61 = .ok (.iconst 1, 1) := by decide +kernel
theorem dX8_goOn_62 : decode cX8_goOn 62 = .ok (.if_icmp .ne 11, 3) := by decide +kernel
theorem dX8_goOn_65 : decode cX8_goOn 65 = .ok (.aload_n 0, 1) := by decide +kernel
theorem dX8_goOn_66 : decode cX8_goOn 66 = .ok (.iload_n 1, 1) := by decide +kernel
theorem dX8_goOn_67 : decode cX8_goOn 67 = .ok (.aload_n 3, 1) := by decide +kernel
theorem dX8_goOn_68 : decode cX8_goOn 68 = .ok (.invokestatic 58, 3) := by decide +kernel
theorem dX8_goOn_71 : decode cX8_goOn 71 = .ok (.iconst 0, 1) := by decide +kernel
theorem dX8_goOn_72 : decode cX8_goOn 72 = .ok (.ireturn, 1) := by decide +kernel
theorem dX8_goOn_73 : decode cX8_goOn 73 = .ok (.aload_n 2, 1) := by decide +kernel
theorem dX8_goOn_74 : decode cX8_goOn 74 = .ok (.getfield 55, 3) := by decide +kernel
theorem dX8_goOn_77 : decode cX8_goOn 77 = .ok (.iconst 3, 1) := by decide +kernel
theorem dX8_goOn_78 : decode cX8_goOn 78 = .ok (.if_icmp .ne 10, 3) := by decide +kernel
theorem dX8_goOn_81 : decode cX8_goOn 81 = .ok (.aload_n 0, 1) := by decide +kernel
theorem dX8_goOn_82 : decode cX8_goOn 82 = .ok (.aload_n 2, 1) := by decide +kernel
theorem dX8_goOn_83 : decode cX8_goOn 83 = .ok (.aload_n 3, 1) := by decide +kernel
theorem dX8_goOn_84 : decode cX8_goOn 84 = .ok (.invokestatic 62, 3) := by decide +kernel
theorem dX8_goOn_87 : decode cX8_goOn 87 = .ok (.ireturn, 1) := by decide +kernel
theorem dX8_goOn_88 : decode cX8_goOn 88 = .ok (.aload_n 3, 1) := by decide +kernel
theorem dX8_goOn_89 : decode cX8_goOn 89 = .ok (.iconst 5, 1) := by decide +kernel
theorem dX8_goOn_90 : decode cX8_goOn 90 = .ok (.aload_n 0, 1) := by decide +kernel
theorem dX8_goOn_91 : decode cX8_goOn 91 = .ok (.getfield 35, 3) := by decide +kernel
theorem dX8_goOn_94 : decode cX8_goOn 94 = .ok (.invokevirtual 66, 3) := by decide +kernel
theorem dX8_goOn_97 : decode cX8_goOn 97 = .ok (.aload_n 2, 1) := by decide +kernel
theorem dX8_goOn_98 : decode cX8_goOn 98 = .ok (.dup, 1) := by decide +kernel
theorem dX8_goOn_99 : decode cX8_goOn 99 = .ok (.getfield 72, 3) := by decide +kernel
theorem dX8_goOn_102 : decode cX8_goOn 102 = .ok (.iconst 1, 1) := by decide +kernel
theorem dX8_goOn_103 : decode cX8_goOn 103 = .ok (.iadd, 1) := by decide +kernel
theorem dX8_goOn_104 : decode cX8_goOn 104 = .ok (.putfield 72, 3) := by decide +kernel
theorem dX8_goOn_107 : decode cX8_goOn 107 = .ok (.aload_n 2, 1) := by decide +kernel
theorem dX8_goOn_108 : decode cX8_goOn 108 = .ok (.invokevirtual 75, 3) := by decide +kernel
theorem dX8_goOn_111 : decode cX8_goOn 111 = .ok (.iconst 1, 1) := by decide +kernel
theorem dX8_goOn_112 : decode cX8_goOn 112 = .ok (.ireturn, 1) := by decide +kernel
theorem dX8_sendPatrols_0 : decode cX8_sendPatrols 0 = .ok (.aload_n 0, 1) := by decide +kernel
theorem dX8_sendPatrols_1 : decode cX8_sendPatrols 1 = .ok (.invokestatic 78, 3) := by decide +kernel
theorem dX8_sendPatrols_4 : decode cX8_sendPatrols 4 = .ok (.istore_n 1, 1) := by decide +kernel
theorem dX8_sendPatrols_5 : decode cX8_sendPatrols 5 = .ok (.iconst 0, 1) := by decide +kernel
theorem dX8_sendPatrols_6 : decode cX8_sendPatrols 6 = .ok (.istore_n 2, 1) := by decide +kernel
theorem dX8_sendPatrols_7 : decode cX8_sendPatrols 7 = .ok (.iload_n 2, 1) := by decide +kernel
theorem dX8_sendPatrols_8 : decode cX8_sendPatrols 8 = .ok (.iload_n 1, 1) := by decide +kernel
theorem dX8_sendPatrols_9 : decode cX8_sendPatrols 9 = .ok (.if_icmp .ge 131, 3) := by decide +kernel
theorem dX8_sendPatrols_12 : decode cX8_sendPatrols 12 = .ok (.iload_n 2, 1) := by decide +kernel
theorem dX8_sendPatrols_13 : decode cX8_sendPatrols 13 = .ok (.bipush 40, 2) := by decide +kernel
theorem dX8_sendPatrols_15 : decode cX8_sendPatrols 15 = .ok (.if_icmp .ge 125, 3) := by decide +kernel
theorem dX8_sendPatrols_18 : decode cX8_sendPatrols 18 = .ok (.aload_n 0, 1) := by decide +kernel
theorem dX8_sendPatrols_19 : decode cX8_sendPatrols 19 = .ok (.getfield 84, 3) := by decide +kernel
theorem dX8_sendPatrols_22 : decode cX8_sendPatrols 22 = .ok (.iload_n 2, 1) := by decide +kernel
theorem dX8_sendPatrols_23 : decode cX8_sendPatrols 23 = .ok (.iaload, 1) := by decide +kernel
theorem dX8_sendPatrols_24 : decode cX8_sendPatrols 24 = .ok (.istore_n 3, 1) := by decide +kernel
theorem dX8_sendPatrols_25 : decode cX8_sendPatrols 25 = .ok (.aload_n 0, 1) := by decide +kernel
theorem dX8_sendPatrols_26 : decode cX8_sendPatrols 26 = .ok (.iload_n 3, 1) := by decide +kernel
theorem dX8_sendPatrols_27 : decode cX8_sendPatrols 27 = .ok (.invokevirtual 47, 3) := by decide +kernel
theorem dX8_sendPatrols_30 : decode cX8_sendPatrols 30 = .ok (.ifCond .ne 6, 3) := by decide +kernel
theorem dX8_sendPatrols_33 : decode cX8_sendPatrols 33 = .ok (.goto 101, 3) := by decide +kernel
theorem dX8_sendPatrols_36 : decode cX8_sendPatrols 36 = .ok (.aload_n 0, 1) := by decide +kernel
theorem dX8_sendPatrols_37 : decode cX8_sendPatrols 37 = .ok (.getfield 51, 3) := by decide +kernel
theorem dX8_sendPatrols_40 : decode cX8_sendPatrols 40 = .ok (.iload_n 3, 1) := by decide +kernel
theorem dX8_sendPatrols_41 : decode cX8_sendPatrols 41 = .ok (.aaload, 1) := by decide +kernel
theorem dX8_sendPatrols_42 : decode cX8_sendPatrols 42 = .ok (.astore 4, 2) := by decide +kernel
theorem dX8_sendPatrols_44 : decode cX8_sendPatrols 44 = .ok (.aload_n 0, 1) := by decide +kernel
theorem dX8_sendPatrols_45 : decode cX8_sendPatrols 45 = .ok (.aload 4, 2) := by decide +kernel
theorem dX8_sendPatrols_47 : decode cX8_sendPatrols 47 = .ok (.invokestatic 88, 3) := by decide +kernel
theorem dX8_sendPatrols_50 : decode cX8_sendPatrols 50 = .ok (.istore 5, 2) := by decide +kernel
theorem dX8_sendPatrols_52 : decode cX8_sendPatrols 52 = .ok (.aload_n 0, 1) := by decide +kernel
theorem dX8_sendPatrols_53 : decode cX8_sendPatrols 53 = .ok (.iload 5, 2) := by decide +kernel
theorem dX8_sendPatrols_55 : decode cX8_sendPatrols 55 = .ok (.invokevirtual 92, 3) := by decide +kernel
theorem dX8_sendPatrols_58 : decode cX8_sendPatrols 58 = .ok (.ifCond .ne 6, 3) := by decide +kernel
theorem dX8_sendPatrols_61 : decode cX8_sendPatrols 61 = .ok (.goto 73, 3) := by decide +kernel
theorem dX8_sendPatrols_64 : decode cX8_sendPatrols 64 = .ok (.aload_n 0, 1) := by decide +kernel
theorem dX8_sendPatrols_65 : decode cX8_sendPatrols 65 = .ok (.getfield 15, 3) := by decide +kernel
theorem dX8_sendPatrols_68 : decode cX8_sendPatrols 68 = .ok (.iload 5, 2) := by decide +kernel
theorem dX8_sendPatrols_70 : decode cX8_sendPatrols 70 = .ok (.aaload, 1) := by decide +kernel
theorem dX8_sendPatrols_71 : decode cX8_sendPatrols 71 = .ok (.astore 6, 2) := by decide +kernel
theorem dX8_sendPatrols_73 : decode cX8_sendPatrols 73 = .ok (.aload 6, 2) := by decide +kernel
theorem dX8_sendPatrols_75 : decode cX8_sendPatrols 75 = .ok (.iload_n 3, 1) := by decide +kernel
theorem dX8_sendPatrols_76 : decode cX8_sendPatrols 76 = .ok (.aload_n 0, 1) := by decide +kernel
theorem dX8_sendPatrols_77 : decode cX8_sendPatrols 77 = .ok (.getfield 95, 3) := by decide +kernel
theorem dX8_sendPatrols_80 : decode cX8_sendPatrols 80 = .ok (.aload 6, 2) := by decide +kernel
theorem dX8_sendPatrols_82 : decode cX8_sendPatrols 82 = .ok (.getfield 99, 3) := by decide +kernel
theorem dX8_sendPatrols_85 : decode cX8_sendPatrols 85 = .ok (.aload 4, 2) := by decide +kernel
theorem dX8_sendPatrols_87 : decode cX8_sendPatrols 87 = .ok (.getfield 102, 3) := by decide +kernel
theorem dX8_sendPatrols_90 : decode cX8_sendPatrols 90 = .ok (.invokevirtual 103, 3) := by decide +kernel
theorem dX8_sendPatrols_93 : decode cX8_sendPatrols 93 = .ok (.invokevirtual 109, 3) := by decide +kernel
theorem dX8_sendPatrols_96 : decode cX8_sendPatrols 96 = .ok (.aload 4, 2) := by decide +kernel
theorem dX8_sendPatrols_98 : decode cX8_sendPatrols 98 = .ok (.aload 4, 2) := by decide +kernel
theorem dX8_sendPatrols_100 : decode cX8_sendPatrols 100 = .ok (.getfield 112, 3) := by decide +kernel
theorem dX8_sendPatrols_103 : decode cX8_sendPatrols 103 = .ok (.ifCond .ne 7, 3) := by decide +kernel
theorem dX8_sendPatrols_106 : decode cX8_sendPatrols 106 = .ok (.iconst 1, 1) := by decide +kernel
theorem dX8_sendPatrols_107 : decode cX8_sendPatrols 107 = .ok (.goto 8, 3) := by decide +kernel
theorem dX8_sendPatrols_110 : decode cX8_sendPatrols 110 = .ok (.aload 4, 2) := by decide +kernel
theorem dX8_sendPatrols_112 : decode cX8_sendPatrols 112 = .ok (.getfield 112, 3) := by decide +kernel
theorem dX8_sendPatrols_115 : decode cX8_sendPatrols 115 = .ok (.putfield 112, 3) := by decide +kernel
theorem dX8_sendPatrols_118 : decode cX8_sendPatrols 118 = .ok (.aload 6, 2) := by decide +kernel
theorem dX8_sendPatrols_120 : decode cX8_sendPatrols 120 = .ok (.getfield 41, 3) := by decide +kernel
theorem dX8_sendPatrols_123 : decode cX8_sendPatrols 123 = .ok (.ifCond .ne 11, 3) := by decide +kernel
theorem dX8_sendPatrols_126 : decode cX8_sendPatrols 126 = .ok (.aload_n 0, 1) := by decide +kernel
theorem dX8_sendPatrols_127 : decode cX8_sendPatrols 127 = .ok (.iload 5, 2) := by decide +kernel
theorem dX8_sendPatrols_129 : decode cX8_sendPatrols 129 = .ok (.aload 4, 2) := by decide +kernel
theorem dX8_sendPatrols_131 : decode cX8_sendPatrols 131 = .ok (.invokestatic 58, 3) := by decide +kernel
theorem dX8_sendPatrols_134 : decode cX8_sendPatrols 134 = .ok (.iinc 2 1, 3) := by decide +kernel
theorem dX8_sendPatrols_137 : decode cX8_sendPatrols 137 = .ok (.goto (-130), 3) := by decide +kernel
theorem dX8_sendPatrols_140 : decode cX8_sendPatrols 140 = .ok (.return_, 1) := by decide +kernel
theorem dX8_arrive_0 : decode cX8_arrive 0 = .ok (.aload_n 0, 1) := by decide +kernel
theorem dX8_arrive_1 : decode cX8_arrive 1 = .ok (.getfield 15, 3) := by decide +kernel
theorem dX8_arrive_4 : decode cX8_arrive 4 = .ok (.iload_n 1, 1) := by decide +kernel
theorem dX8_arrive_5 : decode cX8_arrive 5 = .ok (.aaload, 1) := by decide +kernel
theorem dX8_arrive_6 : decode cX8_arrive 6 = .ok (.astore_n 3, 1) := by decide +kernel
theorem dX8_arrive_7 : decode cX8_arrive 7 = .ok (.aload_n 3, 1) := by decide +kernel
theorem dX8_arrive_8 : decode cX8_arrive 8 = .ok (.aload_n 2, 1) := by decide +kernel
theorem dX8_arrive_9 : decode cX8_arrive 9 = .ok (.getfield 102, 3) := by decide +kernel
theorem dX8_arrive_12 : decode cX8_arrive 12 = .ok (.putfield 99, 3) := by decide +kernel
theorem dX8_arrive_15 : decode cX8_arrive 15 = .ok (.aload_n 2, 1) := by decide +kernel
theorem dX8_arrive_16 : decode cX8_arrive 16 = .ok (.getfield 112, 3) := by decide +kernel
theorem dX8_arrive_19 : decode cX8_arrive 19 = .ok (.iconst 3, 1) := by decide +kernel
theorem dX8_arrive_20 : decode cX8_arrive 20 = .ok (.if_icmp .ne 10, 3) := by decide +kernel
theorem dX8_arrive_23 : decode cX8_arrive 23 = .ok (.aload_n 0, 1) := by decide +kernel
theorem dX8_arrive_24 : decode cX8_arrive 24 = .ok (.aload_n 3, 1) := by decide +kernel
theorem dX8_arrive_25 : decode cX8_arrive 25 = .ok (.aload_n 2, 1) := by decide +kernel
theorem dX8_arrive_26 : decode cX8_arrive 26 = .ok (.invokestatic 115, 3) := by decide +kernel
theorem dX8_arrive_29 : decode cX8_arrive 29 = .ok (.return_, 1) := by decide +kernel
theorem dX8_arrive_30 : decode cX8_arrive 30 = .ok (.aload_n 2, 1) := by decide +kernel
theorem dX8_arrive_31 : decode cX8_arrive 31 = .ok (.iload_n 1, 1) := by decide +kernel
theorem dX8_arrive_32 : decode cX8_arrive 32 = .ok (.putfield 119, 3) := by decide +kernel
theorem dX8_arrive_35 : decode cX8_arrive 35 = .ok (.aload_n 2, 1) := by decide +kernel
theorem dX8_arrive_36 : decode cX8_arrive 36 = .ok (.aload_n 0, 1) := by decide +kernel
theorem dX8_arrive_37 : decode cX8_arrive 37 = .ok (.getfield 35, 3) := by decide +kernel
theorem dX8_arrive_40 : decode cX8_arrive 40 = .ok (.putfield 122, 3) := by decide +kernel
theorem dX8_arrive_43 : decode cX8_arrive 43 = .ok (.aload_n 3, 1) := by decide +kernel
theorem dX8_arrive_44 : decode cX8_arrive 44 = .ok (.dup, 1) := by decide +kernel
theorem dX8_arrive_45 : decode cX8_arrive 45 = .ok (.getfield 125, 3) := by decide +kernel
theorem dX8_arrive_48 : decode cX8_arrive 48 = .ok (.aload_n 2, 1) := by decide +kernel
theorem dX8_arrive_49 : decode cX8_arrive 49 = .ok (.aload_n 0, 1) := by decide +kernel
theorem dX8_arrive_50 : decode cX8_arrive 50 = .ok (.getfield 35, 3) := by decide +kernel
theorem dX8_arrive_53 : decode cX8_arrive 53 = .ok (.invokevirtual 128, 3) := by decide +kernel
theorem dX8_arrive_56 : decode cX8_arrive 56 = .ok (.iadd, 1) := by decide +kernel
theorem dX8_arrive_57 : decode cX8_arrive 57 = .ok (.putfield 125, 3) := by decide +kernel
theorem dX8_arrive_60 : decode cX8_arrive 60 = .ok (.aload_n 3, 1) := by decide +kernel
theorem dX8_arrive_61 : decode cX8_arrive 61 = .ok (.getfield 132, 3) := by decide +kernel
theorem dX8_arrive_64 : decode cX8_arrive 64 = .ok (.aload_n 2, 1) := by decide +kernel
theorem dX8_arrive_65 : decode cX8_arrive 65 = .ok (.getfield 135, 3) := by decide +kernel
theorem dX8_arrive_68 : decode cX8_arrive 68 = .ok (.iconst 3, 1) := by decide +kernel
theorem dX8_arrive_69 : decode cX8_arrive 69 = .ok (.isub, 1) := by decide +kernel
theorem dX8_arrive_70 : decode cX8_arrive 70 = .ok (.if_icmp .lt 26, 3) := by decide +kernel
theorem dX8_arrive_73 : decode cX8_arrive 73 = .ok (.aload_n 3, 1) := by decide +kernel
theorem dX8_arrive_74 : decode cX8_arrive 74 = .ok (.iconst 2, 1) := by decide +kernel
theorem dX8_arrive_75 : decode cX8_arrive 75 = .ok (.putfield 55, 3) := by decide +kernel
theorem dX8_arrive_78 : decode cX8_arrive 78 = .ok (.aload_n 3, 1) := by decide +kernel
theorem dX8_arrive_79 : decode cX8_arrive 79 = .ok (.iconst 5, 1) := by decide +kernel
theorem dX8_arrive_80 : decode cX8_arrive 80 = .ok (.aload_n 2, 1) := by decide +kernel
theorem dX8_arrive_81 : decode cX8_arrive 81 = .ok (.getfield 135, 3) := by decide +kernel
theorem dX8_arrive_84 : decode cX8_arrive 84 = .ok (.imul, 1) := by decide +kernel
theorem dX8_arrive_85 : decode cX8_arrive 85 = .ok (.putfield 41, 3) := by decide +kernel
theorem dX8_arrive_88 : decode cX8_arrive 88 = .ok (.aload_n 2, 1) := by decide +kernel
theorem dX8_arrive_89 : decode cX8_arrive 89 = .ok (.iconst 2, 1) := by decide +kernel
theorem dX8_arrive_90 : decode cX8_arrive 90 = .ok (.putfield 112, 3) := by decide +kernel
theorem dX8_arrive_93 : decode cX8_arrive 93 = .ok (.goto 45, 3) := by decide +kernel
theorem dX8_arrive_96 : decode cX8_arrive 96 = .ok (.aload_n 3, 1) := by decide +kernel
theorem dX8_arrive_97 : decode cX8_arrive 97 = .ok (.getfield 138, 3) := by decide +kernel
theorem dX8_arrive_100 : decode cX8_arrive 100 = .ok (.ifCond .eq 29, 3) := by decide +kernel
theorem dX8_arrive_103 : decode cX8_arrive 103 = .ok (.aload_n 3, 1) := by decide +kernel
theorem dX8_arrive_104 : decode cX8_arrive 104 = .ok (.getfield 142, 3) := by decide +kernel
theorem dX8_arrive_107 : decode cX8_arrive 107 = .ok (.invokestatic 145, 3) := by decide +kernel
theorem dX8_arrive_110 : decode cX8_arrive 110 = .ok (.aload_n 2, 1) := by decide +kernel
theorem dX8_arrive_111 : decode cX8_arrive 111 = .ok (.getfield 102, 3) := by decide +kernel
theorem dX8_arrive_114 : decode cX8_arrive 114 = .ok (.invokestatic 145, 3) := by decide +kernel
theorem dX8_arrive_117 : decode cX8_arrive 117 = .ok (.if_icmp .ne 12, 3) := by decide +kernel
theorem dX8_arrive_120 : decode cX8_arrive 120 = .ok (.aload_n 0, 1) := by decide +kernel
theorem dX8_arrive_121 : decode cX8_arrive 121 = .ok (.aload_n 3, 1) := by decide +kernel
theorem dX8_arrive_122 : decode cX8_arrive 122 = .ok (.aload_n 2, 1) := by decide +kernel
theorem dX8_arrive_123 : decode cX8_arrive 123 = .ok (.invokestatic 115, 3) := by decide +kernel
theorem dX8_arrive_126 : decode cX8_arrive 126 = .ok (.goto 12, 3) := by decide +kernel
theorem dX8_arrive_129 : decode cX8_arrive 129 = .ok (.aload_n 2, 1) := by decide +kernel
theorem dX8_arrive_130 : decode cX8_arrive 130 = .ok (.iconst 3, 1) := by decide +kernel
theorem dX8_arrive_131 : decode cX8_arrive 131 = .ok (.putfield 112, 3) := by decide +kernel
theorem dX8_arrive_134 : decode cX8_arrive 134 = .ok (.aload_n 3, 1) := by decide +kernel
theorem dX8_arrive_135 : decode cX8_arrive 135 = .ok (.invokevirtual 75, 3) := by decide +kernel
theorem dX8_arrive_138 : decode cX8_arrive 138 = .ok (.return_, 1) := by decide +kernel
theorem dX8_startTow_0 : decode cX8_startTow 0 = .ok (.aload_n 0, 1) := by decide +kernel
theorem dX8_startTow_1 : decode cX8_startTow 1 = .ok (.aload_n 2, 1) := by decide +kernel
theorem dX8_startTow_2 : decode cX8_startTow 2 = .ok (.getfield 102, 3) := by decide +kernel
theorem dX8_startTow_5 : decode cX8_startTow 5 = .ok (.invokestatic 148, 3) := by decide +kernel
theorem dX8_startTow_8 : decode cX8_startTow 8 = .ok (.istore_n 3, 1) := by decide +kernel
theorem dX8_startTow_9 : decode cX8_startTow 9 = .ok (.aload_n 0, 1) := by decide +kernel
theorem dX8_startTow_10 : decode cX8_startTow 10 = .ok (.iload_n 3, 1) := by decide +kernel
theorem dX8_startTow_11 : decode cX8_startTow 11 = .ok (.invokevirtual 151, 3) := by decide +kernel
theorem dX8_startTow_14 : decode cX8_startTow 14 = .ok (.ifCond .ne 13, 3) := by decide +kernel
theorem dX8_startTow_17 : decode cX8_startTow 17 = .ok (.aload_n 2, 1) := by decide +kernel
theorem dX8_startTow_18 : decode cX8_startTow 18 = .ok (.iconst 3, 1) := by decide +kernel
theorem dX8_startTow_19 : decode cX8_startTow 19 = .ok (.putfield 112, 3) := by decide +kernel
theorem dX8_startTow_22 : decode cX8_startTow 22 = .ok (.aload_n 1, 1) := by decide +kernel
theorem dX8_startTow_23 : decode cX8_startTow 23 = .ok (.invokevirtual 75, 3) := by decide +kernel
theorem dX8_startTow_26 : decode cX8_startTow 26 = .ok (.return_, 1) := by decide +kernel
theorem dX8_startTow_27 : decode cX8_startTow 27 = .ok (.aload_n 0, 1) := by decide +kernel
theorem dX8_startTow_28 : decode cX8_startTow 28 = .ok (.getfield 154, 3) := by decide +kernel
theorem dX8_startTow_31 : decode cX8_startTow 31 = .ok (.iload_n 3, 1) := by decide +kernel
theorem dX8_startTow_32 : decode cX8_startTow 32 = .ok (.aaload, 1) := by decide +kernel
theorem dX8_startTow_33 : decode cX8_startTow 33 = .ok (.astore 4, 2) := by decide +kernel
theorem dX8_startTow_35 : decode cX8_startTow 35 = .ok (.aload 4, 2) := by decide +kernel
theorem dX8_startTow_37 : decode cX8_startTow 37 = .ok (.dup, 1) := by decide +kernel
theorem dX8_startTow_38 : decode cX8_startTow 38 = .ok (.getfield 158, 3) := by decide +kernel
theorem dX8_startTow_41 : decode cX8_startTow 41 = .ok (.iconst 1, 1) := by decide +kernel
theorem dX8_startTow_42 : decode cX8_startTow 42 = .ok (.iadd, 1) := by decide +kernel
theorem dX8_startTow_43 : decode cX8_startTow 43 = .ok (.putfield 158, 3) := by decide +kernel
theorem dX8_startTow_46 : decode cX8_startTow 46 = .ok (.aload_n 2, 1) := by decide +kernel
theorem dX8_startTow_47 : decode cX8_startTow 47 = .ok (.iconst 4, 1) := by decide +kernel
theorem dX8_startTow_48 : decode cX8_startTow 48 = .ok (.putfield 112, 3) := by decide +kernel
theorem dX8_startTow_51 : decode cX8_startTow 51 = .ok (.aload_n 1, 1) := by decide +kernel
theorem dX8_startTow_52 : decode cX8_startTow 52 = .ok (.iconst 3, 1) := by decide +kernel
theorem dX8_startTow_53 : decode cX8_startTow 53 = .ok (.putfield 55, 3) := by decide +kernel
theorem dX8_startTow_56 : decode cX8_startTow 56 = .ok (.aload_n 1, 1) := by decide +kernel
theorem dX8_startTow_57 : decode cX8_startTow 57 = .ok (.iload_n 3, 1) := by decide +kernel
theorem dX8_startTow_58 : decode cX8_startTow 58 = .ok (.putfield 163, 3) := by decide +kernel
theorem dX8_startTow_61 : decode cX8_startTow 61 = .ok (.aload_n 1, 1) := by decide +kernel
theorem dX8_startTow_62 : decode cX8_startTow 62 = .ok (.aload_n 0, 1) := by decide +kernel
theorem dX8_startTow_63 : decode cX8_startTow 63 = .ok (.getfield 95, 3) := by decide +kernel
theorem dX8_startTow_66 : decode cX8_startTow 66 = .ok (.aload_n 2, 1) := by decide +kernel
theorem dX8_startTow_67 : decode cX8_startTow 67 = .ok (.getfield 102, 3) := by decide +kernel
theorem dX8_startTow_70 : decode cX8_startTow 70 = .ok (.aload 4, 2) := by decide +kernel
theorem dX8_startTow_72 : decode cX8_startTow 72 = .ok (.getfield 166, 3) := by decide +kernel
theorem dX8_startTow_75 : decode cX8_startTow 75 = .ok (.invokestatic 167, 3) := by decide +kernel
theorem dX8_startTow_78 : decode cX8_startTow 78 = .ok (.putfield 171, 3) := by decide +kernel
theorem dX8_startTow_81 : decode cX8_startTow 81 = .ok (.aload_n 1, 1) := by decide +kernel
theorem dX8_startTow_82 : decode cX8_startTow 82 = .ok (.iconst 1, 1) := by decide +kernel
theorem dX8_startTow_83 : decode cX8_startTow 83 = .ok (.iconst 2, 1) := by decide +kernel
theorem dX8_startTow_84 : decode cX8_startTow 84 = .ok (.aload_n 0, 1) := by decide +kernel
theorem dX8_startTow_85 : decode cX8_startTow 85 = .ok (.getfield 95, 3) := by decide +kernel
theorem dX8_startTow_88 : decode cX8_startTow 88 = .ok (.aload_n 2, 1) := by decide +kernel
theorem dX8_startTow_89 : decode cX8_startTow 89 = .ok (.getfield 102, 3) := by decide +kernel
theorem dX8_startTow_92 : decode cX8_startTow 92 = .ok (.aload_n 1, 1) := by decide +kernel
theorem dX8_startTow_93 : decode cX8_startTow 93 = .ok (.getfield 171, 3) := by decide +kernel
theorem dX8_startTow_96 : decode cX8_startTow 96 = .ok (.invokevirtual 103, 3) := by decide +kernel
theorem dX8_startTow_99 : decode cX8_startTow 99 = .ok (.imul, 1) := by decide +kernel
theorem dX8_startTow_100 : decode cX8_startTow 100 = .ok (.invokestatic 174, 3) := by decide +kernel
theorem dX8_startTow_103 : decode cX8_startTow 103 = .ok (.putfield 41, 3) := by decide +kernel
theorem dX8_startTow_106 : decode cX8_startTow 106 = .ok (.return_, 1) := by decide +kernel
theorem dX8_nearestGarage_0 : decode cX8_nearestGarage 0 = .ok (.bipush (-5), 2) := by decide +kernel
theorem dX8_nearestGarage_2 : decode cX8_nearestGarage 2 = .ok (.istore_n 2, 1) := by decide +kernel
theorem dX8_nearestGarage_3 : decode cX8_nearestGarage 3 = .ok (.ldc 179, 2) := by decide +kernel
theorem dX8_nearestGarage_5 : decode cX8_nearestGarage 5 = .ok (.istore_n 3, 1) := by decide +kernel
theorem dX8_nearestGarage_6 : decode cX8_nearestGarage 6 = .ok (.iconst 0, 1) := by decide +kernel
theorem dX8_nearestGarage_7 : decode cX8_nearestGarage 7 = .ok (.istore 4, 2) := by decide +kernel
theorem dX8_nearestGarage_9 : decode cX8_nearestGarage 9 = .ok (.iload 4, 2) := by decide +kernel
theorem dX8_nearestGarage_11 : decode cX8_nearestGarage 11 = .ok (.aload_n 0, 1) := by decide +kernel
theorem dX8_nearestGarage_12 : decode cX8_nearestGarage 12 = .ok (.getfield 180, 3) := by decide +kernel
theorem dX8_nearestGarage_15 : decode cX8_nearestGarage 15 = .ok (.if_icmp .ge 60, 3) := by decide +kernel
theorem dX8_nearestGarage_18 : decode cX8_nearestGarage 18 = .ok (.iload 4, 2) := by decide +kernel
theorem dX8_nearestGarage_20 : decode cX8_nearestGarage 20 = .ok (.iconst 5, 1) := by decide +kernel
theorem dX8_nearestGarage_21 : decode cX8_nearestGarage 21 = .ok (.if_icmp .ge 54, 3) := by decide +kernel
theorem dX8_nearestGarage_24 : decode cX8_nearestGarage 24 = .ok (.aload_n 0, 1) := by decide +kernel
theorem dX8_nearestGarage_25 : decode cX8_nearestGarage 25 = .ok (.getfield 95, 3) := by decide +kernel
theorem dX8_nearestGarage_28 : decode cX8_nearestGarage 28 = .ok (.iload_n 1, 1) := by decide +kernel
theorem dX8_nearestGarage_29 : decode cX8_nearestGarage 29 = .ok (.aload_n 0, 1) := by decide +kernel
theorem dX8_nearestGarage_30 : decode cX8_nearestGarage 30 = .ok (.getfield 154, 3) := by decide +kernel
theorem dX8_nearestGarage_33 : decode cX8_nearestGarage 33 = .ok (.iload 4, 2) := by decide +kernel
theorem dX8_nearestGarage_35 : decode cX8_nearestGarage 35 = .ok (.aaload, 1) := by decide +kernel
theorem dX8_nearestGarage_36 : decode cX8_nearestGarage 36 = .ok (.getfield 166, 3) := by decide +kernel
theorem dX8_nearestGarage_39 : decode cX8_nearestGarage 39 = .ok (.invokevirtual 103, 3) := by decide +kernel
theorem dX8_nearestGarage_42 : decode cX8_nearestGarage 42 = .ok (.istore 5, 2) := by decide +kernel
theorem dX8_nearestGarage_44 : decode cX8_nearestGarage 44 = .ok (.aload_n 0, 1) := by decide +kernel
theorem dX8_nearestGarage_45 : decode cX8_nearestGarage 45 = .ok (.getfield 154, 3) := by decide +kernel
theorem dX8_nearestGarage_48 : decode cX8_nearestGarage 48 = .ok (.iload 4, 2) := by decide +kernel
theorem dX8_nearestGarage_50 : decode cX8_nearestGarage 50 = .ok (.aaload, 1) := by decide +kernel
theorem dX8_nearestGarage_51 : decode cX8_nearestGarage 51 = .ok (.invokevirtual 183, 3) := by decide +kernel
theorem dX8_nearestGarage_54 : decode cX8_nearestGarage 54 = .ok (.ifCond .eq 15, 3) := by decide +kernel
theorem dX8_nearestGarage_57 : decode cX8_nearestGarage 57 = .ok (.iload 5, 2) := by decide +kernel
theorem dX8_nearestGarage_59 : decode cX8_nearestGarage 59 = .ok (.iload_n 3, 1) := by decide +kernel
theorem dX8_nearestGarage_60 : decode cX8_nearestGarage 60 = .ok (.if_icmp .ge 9, 3) := by decide +kernel
theorem dX8_nearestGarage_63 : decode cX8_nearestGarage 63 = .ok (.iload 4, 2) := by decide +kernel
theorem dX8_nearestGarage_65 : decode cX8_nearestGarage 65 = .ok (.istore_n 2, 1) := by decide +kernel
theorem dX8_nearestGarage_66 : decode cX8_nearestGarage 66 = .ok (.iload 5, 2) := by decide +kernel
theorem dX8_nearestGarage_68 : decode cX8_nearestGarage 68 = .ok (.istore_n 3, 1) := by decide +kernel
theorem dX8_nearestGarage_69 : decode cX8_nearestGarage 69 = .ok (.iinc 4 1, 3) := by decide +kernel
theorem dX8_nearestGarage_72 : decode cX8_nearestGarage 72 = .ok (.goto (-63), 3) := by decide +kernel
theorem dX8_nearestGarage_75 : decode cX8_nearestGarage 75 = .ok (.iload_n 2, 1) := by decide +kernel
theorem dX8_nearestGarage_76 : decode cX8_nearestGarage 76 = .ok (.ireturn, 1) := by decide +kernel
theorem dX8_endOfTow_0 : decode cX8_endOfTow 0 = .ok (.iload_n 1, 1) := by decide +kernel
theorem dX8_endOfTow_1 : decode cX8_endOfTow 1 = .ok (.istore_n 3, 1) := by decide +kernel
theorem dX8_endOfTow_2 : decode cX8_endOfTow 2 = .ok (.aload_n 0, 1) := by decide +kernel
theorem dX8_endOfTow_3 : decode cX8_endOfTow 3 = .ok (.iload_n 1, 1) := by decide +kernel
theorem dX8_endOfTow_4 : decode cX8_endOfTow 4 = .ok (.iload_n 2, 1) := by decide +kernel
theorem dX8_endOfTow_5 : decode cX8_endOfTow 5 = .ok (.invokevirtual 186, 3) := by decide +kernel
theorem dX8_endOfTow_8 : decode cX8_endOfTow 8 = .ok (.istore 4, 2) := by decide +kernel
theorem dX8_endOfTow_10 : decode cX8_endOfTow 10 = .ok (.iconst 0, 1) := by decide +kernel
theorem dX8_endOfTow_11 : decode cX8_endOfTow 11 = .ok (.istore 5, 2) := by decide +kernel
theorem dX8_endOfTow_13 : decode cX8_endOfTow 13 = .ok (.iload 5, 2) := by decide +kernel
theorem dX8_endOfTow_15 : decode cX8_endOfTow 15 = .ok (.bipush 12, 2) := by decide +kernel
theorem dX8_endOfTow_17 : decode cX8_endOfTow 17 = .ok (.if_icmp .ge 51, 3) := by decide +kernel
theorem dX8_endOfTow_20 : decode cX8_endOfTow 20 = .ok (.iload 4, 2) := by decide +kernel
theorem dX8_endOfTow_22 : decode cX8_endOfTow 22 = .ok (.bipush (-5), 2) := by decide +kernel
theorem dX8_endOfTow_24 : decode cX8_endOfTow 24 = .ok (.if_icmp .eq 44, 3) := by decide +kernel
theorem dX8_endOfTow_27 : decode cX8_endOfTow 27 = .ok (.iload 4, 2) := by decide +kernel
theorem dX8_endOfTow_29 : decode cX8_endOfTow 29 = .ok (.invokestatic 145, 3) := by decide +kernel
theorem dX8_endOfTow_32 : decode cX8_endOfTow 32 = .ok (.iload_n 1, 1) := by decide +kernel
theorem dX8_endOfTow_33 : decode cX8_endOfTow 33 = .ok (.invokestatic 145, 3) := by decide +kernel
theorem dX8_endOfTow_36 : decode cX8_endOfTow 36 = .ok (.if_icmp .eq 15, 3) := by decide +kernel
theorem dX8_endOfTow_39 : decode cX8_endOfTow 39 = .ok (.iload_n 3, 1) := by decide +kernel
theorem dX8_endOfTow_40 : decode cX8_endOfTow 40 = .ok (.iload_n 1, 1) := by decide +kernel
theorem dX8_endOfTow_41 : decode cX8_endOfTow 41 = .ok (.if_icmp .ne 8, 3) := by decide +kernel
theorem dX8_endOfTow_44 : decode cX8_endOfTow 44 = .ok (.iload 4, 2) := by decide +kernel
theorem dX8_endOfTow_46 : decode cX8_endOfTow 46 = .ok (.goto 4, 3) := by decide +kernel
theorem dX8_endOfTow_49 : decode cX8_endOfTow 49 = .ok (.iload_n 3, 1) := by decide +kernel
theorem dX8_endOfTow_50 : decode cX8_endOfTow 50 = .ok (.ireturn, 1) := by decide +kernel
theorem dX8_endOfTow_51 : decode cX8_endOfTow 51 = .ok (.iload 4, 2) := by decide +kernel
theorem dX8_endOfTow_53 : decode cX8_endOfTow 53 = .ok (.istore_n 3, 1) := by decide +kernel
theorem dX8_endOfTow_54 : decode cX8_endOfTow 54 = .ok (.aload_n 0, 1) := by decide +kernel
theorem dX8_endOfTow_55 : decode cX8_endOfTow 55 = .ok (.iload_n 3, 1) := by decide +kernel
theorem dX8_endOfTow_56 : decode cX8_endOfTow 56 = .ok (.iload_n 2, 1) := by decide +kernel
theorem dX8_endOfTow_57 : decode cX8_endOfTow 57 = .ok (.invokevirtual 186, 3) := by decide +kernel
theorem dX8_endOfTow_60 : decode cX8_endOfTow 60 = .ok (.istore 4, 2) := by decide +kernel
theorem dX8_endOfTow_62 : decode cX8_endOfTow 62 = .ok (.iinc 5 1, 3) := by decide +kernel
theorem dX8_endOfTow_65 : decode cX8_endOfTow 65 = .ok (.goto (-52), 3) := by decide +kernel
theorem dX8_endOfTow_68 : decode cX8_endOfTow 68 = .ok (.iload_n 3, 1) := by decide +kernel
theorem dX8_endOfTow_69 : decode cX8_endOfTow 69 = .ok (.ireturn, 1) := by decide +kernel
theorem dX8_endTow_0 : decode cX8_endTow 0 = .ok (.aload_n 1, 1) := by decide +kernel
theorem dX8_endTow_1 : decode cX8_endTow 1 = .ok (.getfield 171, 3) := by decide +kernel
theorem dX8_endTow_4 : decode cX8_endTow 4 = .ok (.istore_n 3, 1) := by decide +kernel
theorem dX8_endTow_5 : decode cX8_endTow 5 = .ok (.aload_n 1, 1) := by decide +kernel
theorem dX8_endTow_6 : decode cX8_endTow 6 = .ok (.getfield 163, 3) := by decide +kernel
theorem dX8_endTow_9 : decode cX8_endTow 9 = .ok (.istore 4, 2) := by decide +kernel
theorem dX8_endTow_11 : decode cX8_endTow 11 = .ok (.aload_n 1, 1) := by decide +kernel
theorem dX8_endTow_12 : decode cX8_endTow 12 = .ok (.iload_n 3, 1) := by decide +kernel
theorem dX8_endTow_13 : decode cX8_endTow 13 = .ok (.putfield 99, 3) := by decide +kernel
theorem dX8_endTow_16 : decode cX8_endTow 16 = .ok (.aload_n 1, 1) := by decide +kernel
theorem dX8_endTow_17 : decode cX8_endTow 17 = .ok (.dup, 1) := by decide +kernel
theorem dX8_endTow_18 : decode cX8_endTow 18 = .ok (.getfield 189, 3) := by decide +kernel
theorem dX8_endTow_21 : decode cX8_endTow 21 = .ok (.iconst 1, 1) := by decide +kernel
theorem dX8_endTow_22 : decode cX8_endTow 22 = .ok (.iadd, 1) := by decide +kernel
theorem dX8_endTow_23 : decode cX8_endTow 23 = .ok (.putfield 189, 3) := by decide +kernel
theorem dX8_endTow_26 : decode cX8_endTow 26 = .ok (.aload_n 1, 1) := by decide +kernel
theorem dX8_endTow_27 : decode cX8_endTow 27 = .ok (.invokevirtual 75, 3) := by decide +kernel
theorem dX8_endTow_30 : decode cX8_endTow 30 = .ok (.aload_n 2, 1) := by decide +kernel
theorem dX8_endTow_31 : decode cX8_endTow 31 = .ok (.iload_n 3, 1) := by decide +kernel
theorem dX8_endTow_32 : decode cX8_endTow 32 = .ok (.putfield 102, 3) := by decide +kernel
theorem dX8_endTow_35 : decode cX8_endTow 35 = .ok (.aload_n 2, 1) := by decide +kernel
theorem dX8_endTow_36 : decode cX8_endTow 36 = .ok (.iconst 3, 1) := by decide +kernel
theorem dX8_endTow_37 : decode cX8_endTow 37 = .ok (.putfield 112, 3) := by decide +kernel
theorem dX8_endTow_40 : decode cX8_endTow 40 = .ok (.aload_n 0, 1) := by decide +kernel
theorem dX8_endTow_41 : decode cX8_endTow 41 = .ok (.iload 4, 2) := by decide +kernel
theorem dX8_endTow_43 : decode cX8_endTow 43 = .ok (.invokevirtual 151, 3) := by decide +kernel
theorem dX8_endTow_46 : decode cX8_endTow 46 = .ok (.ifCond .ne 5, 3) := by decide +kernel
theorem dX8_endTow_49 : decode cX8_endTow 49 = .ok (.iconst 0, 1) := by decide +kernel
theorem dX8_endTow_50 : decode cX8_endTow 50 = .ok (.ireturn, 1) := by decide +kernel
theorem dX8_endTow_51 : decode cX8_endTow 51 = .ok (.aload_n 0, 1) := by decide +kernel
theorem dX8_endTow_52 : decode cX8_endTow 52 = .ok (.getfield 154, 3) := by decide +kernel
theorem dX8_endTow_55 : decode cX8_endTow 55 = .ok (.iload 4, 2) := by decide +kernel
theorem dX8_endTow_57 : decode cX8_endTow 57 = .ok (.aaload, 1) := by decide +kernel
theorem dX8_endTow_58 : decode cX8_endTow 58 = .ok (.astore 5, 2) := by decide +kernel
theorem dX8_endTow_60 : decode cX8_endTow 60 = .ok (.aload 5, 2) := by decide +kernel
theorem dX8_endTow_62 : decode cX8_endTow 62 = .ok (.dup, 1) := by decide +kernel
theorem dX8_endTow_63 : decode cX8_endTow 63 = .ok (.getfield 158, 3) := by decide +kernel
theorem dX8_endTow_66 : decode cX8_endTow 66 = .ok (.iconst 1, 1) := by decide +kernel
theorem dX8_endTow_67 : decode cX8_endTow 67 = .ok (.isub, 1) := by decide +kernel
theorem dX8_endTow_68 : decode cX8_endTow 68 = .ok (.putfield 158, 3) := by decide +kernel
theorem dX8_endTow_71 : decode cX8_endTow 71 = .ok (.aload 5, 2) := by decide +kernel
theorem dX8_endTow_73 : decode cX8_endTow 73 = .ok (.getfield 166, 3) := by decide +kernel
theorem dX8_endTow_76 : decode cX8_endTow 76 = .ok (.iload_n 3, 1) := by decide +kernel
theorem dX8_endTow_77 : decode cX8_endTow 77 = .ok (.if_icmp .eq 5, 3) := by decide +kernel
theorem dX8_endTow_80 : decode cX8_endTow 80 = .ok (.iconst 0, 1) := by decide +kernel
theorem dX8_endTow_81 : decode cX8_endTow 81 = .ok (.ireturn, 1) := by decide +kernel
theorem dX8_endTow_82 : decode cX8_endTow 82 = .ok (.aload 5, 2) := by decide +kernel
theorem dX8_endTow_84 : decode cX8_endTow 84 = .ok (.dup, 1) := by decide +kernel
theorem dX8_endTow_85 : decode cX8_endTow 85 = .ok (.getfield 192, 3) := by decide +kernel
theorem dX8_endTow_88 : decode cX8_endTow 88 = .ok (.iconst 1, 1) := by decide +kernel
theorem dX8_endTow_89 : decode cX8_endTow 89 = .ok (.iadd, 1) := by decide +kernel
theorem dX8_endTow_90 : decode cX8_endTow 90 = .ok (.putfield 192, 3) := by decide +kernel
theorem dX8_endTow_93 : decode cX8_endTow 93 = .ok (.aload 5, 2) := by decide +kernel
theorem dX8_endTow_95 : decode cX8_endTow 95 = .ok (.dup, 1) := by decide +kernel
theorem dX8_endTow_96 : decode cX8_endTow 96 = .ok (.getfield 195, 3) := by decide +kernel
theorem dX8_endTow_99 : decode cX8_endTow 99 = .ok (.iconst 1, 1) := by decide +kernel
theorem dX8_endTow_100 : decode cX8_endTow 100 = .ok (.iadd, 1) := by decide +kernel
theorem dX8_endTow_101 : decode cX8_endTow 101 = .ok (.putfield 195, 3) := by decide +kernel
theorem dX8_endTow_104 : decode cX8_endTow 104 = .ok (.aload_n 2, 1) := by decide +kernel
theorem dX8_endTow_105 : decode cX8_endTow 105 = .ok (.iload 4, 2) := by decide +kernel
theorem dX8_endTow_107 : decode cX8_endTow 107 = .ok (.putfield 198, 3) := by decide +kernel
theorem dX8_endTow_110 : decode cX8_endTow 110 = .ok (.aload_n 2, 1) := by decide +kernel
theorem dX8_endTow_111 : decode cX8_endTow 111 = .ok (.bipush 6, 2) := by decide +kernel
theorem dX8_endTow_113 : decode cX8_endTow 113 = .ok (.aload_n 0, 1) := by decide +kernel
theorem dX8_endTow_114 : decode cX8_endTow 114 = .ok (.getfield 35, 3) := by decide +kernel
theorem dX8_endTow_117 : decode cX8_endTow 117 = .ok (.invokevirtual 66, 3) := by decide +kernel
theorem dX8_endTow_120 : decode cX8_endTow 120 = .ok (.iconst 1, 1) := by decide +kernel
theorem dX8_endTow_121 : decode cX8_endTow 121 = .ok (.ireturn, 1) := by decide +kernel
theorem dX9_init_0 : decode cX9_init 0 = .ok (.aload_n 0, 1) := by decide +kernel
theorem dX9_init_1 : decode cX9_init 1 = .ok (.invokespecial 1, 3) := by decide +kernel
theorem dX9_init_4 : decode cX9_init 4 = .ok (.aload_n 0, 1) := by decide +kernel
theorem dX9_init_5 : decode cX9_init 5 = .ok (.new 7, 3) := by decide +kernel
theorem dX9_init_8 : decode cX9_init 8 = .ok (.dup, 1) := by decide +kernel
theorem dX9_init_9 : decode cX9_init 9 = .ok (.invokespecial 9, 3) := by decide +kernel
theorem dX9_init_12 : decode cX9_init 12 = .ok (.putfield 10, 3) := by decide +kernel
theorem dX9_init_15 : decode cX9_init 15 = .ok (.aload_n 0, 1) := by decide +kernel
theorem dX9_init_16 : decode cX9_init 16 = .ok (.new 7, 3) := by decide +kernel
theorem dX9_init_19 : decode cX9_init 19 = .ok (.dup, 1) := by decide +kernel
theorem dX9_init_20 : decode cX9_init 20 = .ok (.invokespecial 9, 3) := by decide +kernel
theorem dX9_init_23 : decode cX9_init 23 = .ok (.putfield 16, 3) := by decide +kernel
theorem dX9_init_26 : decode cX9_init 26 = .ok (.aload_n 0, 1) := by decide +kernel
theorem dX9_init_27 : decode cX9_init 27 = .ok (.new 7, 3) := by decide +kernel
theorem dX9_init_30 : decode cX9_init 30 = .ok (.dup, 1) := by decide +kernel
theorem dX9_init_31 : decode cX9_init 31 = .ok (.invokespecial 9, 3) := by decide +kernel
theorem dX9_init_34 : decode cX9_init 34 = .ok (.putfield 19, 3) := by decide +kernel
theorem dX9_init_37 : decode cX9_init 37 = .ok (.aload_n 0, 1) := by decide +kernel
theorem dX9_init_38 : decode cX9_init 38 = .ok (.iconst 4, 1) := by decide +kernel
theorem dX9_init_39 : decode cX9_init 39 = .ok (.anewarray 7, 3) := by decide +kernel
theorem dX9_init_42 : decode cX9_init 42 = .ok (.putfield 22, 3) := by decide +kernel
theorem dX9_init_45 : decode cX9_init 45 = .ok (.aload_n 0, 1) := by decide +kernel
theorem dX9_init_46 : decode cX9_init 46 = .ok (.new 26, 3) := by decide +kernel
theorem dX9_init_49 : decode cX9_init 49 = .ok (.dup, 1) := by decide +kernel
theorem dX9_init_50 : decode cX9_init 50 = .ok (.invokespecial 28, 3) := by decide +kernel
theorem dX9_init_53 : decode cX9_init 53 = .ok (.putfield 29, 3) := by decide +kernel
theorem dX9_init_56 : decode cX9_init 56 = .ok (.iconst 0, 1) := by decide +kernel
theorem dX9_init_57 : decode cX9_init 57 = .ok (.istore_n 1, 1) := by decide +kernel
theorem dX9_init_58 : decode cX9_init 58 = .ok (.iload_n 1, 1) := by decide +kernel
theorem dX9_init_59 : decode cX9_init 59 = .ok (.iconst 4, 1) := by decide +kernel
theorem dX9_init_60 : decode cX9_init 60 = .ok (.if_icmp .ge 22, 3) := by decide +kernel
theorem dX9_init_63 : decode cX9_init 63 = .ok (.aload_n 0, 1) := by decide +kernel
theorem dX9_init_64 : decode cX9_init 64 = .ok (.getfield 22, 3) := by decide +kernel
theorem dX9_init_67 : decode cX9_init 67 = .ok (.iload_n 1, 1) := by decide +kernel
theorem dX9_init_68 : decode cX9_init 68 = .ok (.new 7, 3) := by decide +kernel
theorem dX9_init_71 : decode cX9_init 71 = .ok (.dup, 1) := by decide +kernel
theorem dX9_init_72 : decode cX9_init 72 = .ok (.invokespecial 9, 3) := by decide +kernel
theorem dX9_init_75 : decode cX9_init 75 = .ok (.aastore, 1) := by decide +kernel
theorem dX9_init_76 : decode cX9_init 76 = .ok (.iinc 1 1, 3) := by decide +kernel
theorem dX9_init_79 : decode cX9_init 79 = .ok (.goto (-21), 3) := by decide +kernel
theorem dX9_init_82 : decode cX9_init 82 = .ok (.return_, 1) := by decide +kernel
theorem dX9_addRoad_0 : decode cX9_addRoad 0 = .ok (.iload_n 1, 1) := by decide +kernel
theorem dX9_addRoad_1 : decode cX9_addRoad 1 = .ok (.invokestatic 33, 3) := by decide +kernel
theorem dX9_addRoad_4 : decode cX9_addRoad 4 = .ok (.ifCond .eq 10, 3) := by decide +kernel
theorem dX9_addRoad_7 : decode cX9_addRoad 7 = .ok (.iload_n 2, 1) := by decide +kernel
theorem dX9_addRoad_8 : decode cX9_addRoad 8 = .ok (.invokestatic 33, 3) := by decide +kernel
theorem dX9_addRoad_11 : decode cX9_addRoad 11 = .ok (.ifCond .ne 5, 3) := by decide +kernel
theorem dX9_addRoad_14 : decode cX9_addRoad 14 = .ok (.iconst (-1), 1) := by decide +kernel
theorem dX9_addRoad_15 : decode cX9_addRoad 15 = .ok (.ireturn, 1) := by decide +kernel
theorem dX9_addRoad_16 : decode cX9_addRoad 16 = .ok (.iload_n 3, 1) := by decide +kernel
theorem dX9_addRoad_17 : decode cX9_addRoad 17 = .ok (.iconst 1, 1) := by decide +kernel
theorem dX9_addRoad_18 : decode cX9_addRoad 18 = .ok (.if_icmp .lt 14, 3) := by decide +kernel
theorem dX9_addRoad_21 : decode cX9_addRoad 21 = .ok (.iload_n 3, 1) := by decide +kernel
theorem dX9_addRoad_22 : decode cX9_addRoad 22 = .ok (.bipush 60, 2) := by decide +kernel
theorem dX9_addRoad_24 : decode cX9_addRoad 24 = .ok (.if_icmp .gt 8, 3) := by decide +kernel
theorem dX9_addRoad_27 : decode cX9_addRoad 27 = .ok (.iload_n 1, 1) := by decide +kernel
theorem dX9_addRoad_28 : decode cX9_addRoad 28 = .ok (.iload_n 2, 1) := by decide +kernel
theorem dX9_addRoad_29 : decode cX9_addRoad 29 = .ok (.if_icmp .ne 6, 3) := by decide +kernel
theorem dX9_addRoad_32 : decode cX9_addRoad 32 = .ok (.bipush (-2), 2) := by decide +kernel
theorem dX9_addRoad_34 : decode cX9_addRoad 34 = .ok (.ireturn, 1) := by decide +kernel
theorem dX9_addRoad_35 : decode cX9_addRoad 35 = .ok (.aload_n 0, 1) := by decide +kernel
theorem dX9_addRoad_36 : decode cX9_addRoad 36 = .ok (.getfield 10, 3) := by decide +kernel
theorem dX9_addRoad_39 : decode cX9_addRoad 39 = .ok (.getfield 37, 3) := by decide +kernel
theorem dX9_addRoad_42 : decode cX9_addRoad 42 = .ok (.iload_n 1, 1) := by decide +kernel
theorem dX9_addRoad_43 : decode cX9_addRoad 43 = .ok (.iload_n 2, 1) := by decide +kernel
theorem dX9_addRoad_44 : decode cX9_addRoad 44 = .ok (.invokevirtual 41, 3) := by decide +kernel
theorem dX9_addRoad_47 : decode cX9_addRoad 47 = .ok (.ifCond .le 6, 3) := by decide +kernel
theorem dX9_addRoad_50 : decode cX9_addRoad 50 = .ok (.bipush (-4), 2) := by decide +kernel
theorem dX9_addRoad_52 : decode cX9_addRoad 52 = .ok (.ireturn, 1) := by decide +kernel
theorem dX9_addRoad_53 : decode cX9_addRoad 53 = .ok (.aload_n 0, 1) := by decide +kernel
theorem dX9_addRoad_54 : decode cX9_addRoad 54 = .ok (.getfield 10, 3) := by decide +kernel
theorem dX9_addRoad_57 : decode cX9_addRoad 57 = .ok (.getfield 37, 3) := by decide +kernel
theorem dX9_addRoad_60 : decode cX9_addRoad 60 = .ok (.getfield 47, 3) := by decide +kernel
theorem dX9_addRoad_63 : decode cX9_addRoad 63 = .ok (.bipush 30, 2) := by decide +kernel
theorem dX9_addRoad_65 : decode cX9_addRoad 65 = .ok (.if_icmp .lt 6, 3) := by decide +kernel
theorem dX9_addRoad_68 : decode cX9_addRoad 68 = .ok (.bipush (-3), 2) := by decide +kernel
theorem dX9_addRoad_70 : decode cX9_addRoad 70 = .ok (.ireturn, 1) := by decide +kernel
theorem dX9_addRoad_71 : decode cX9_addRoad 71 = .ok (.aload_n 0, 1) := by decide +kernel
theorem dX9_addRoad_72 : decode cX9_addRoad 72 = .ok (.invokevirtual 51, 3) := by decide +kernel
theorem dX9_addRoad_75 : decode cX9_addRoad 75 = .ok (.aload_n 0, 1) := by decide +kernel
theorem dX9_addRoad_76 : decode cX9_addRoad 76 = .ok (.getfield 10, 3) := by decide +kernel
theorem dX9_addRoad_79 : decode cX9_addRoad 79 = .ok (.getfield 37, 3) := by decide +kernel
theorem dX9_addRoad_82 : decode cX9_addRoad 82 = .ok (.iload_n 1, 1) := by decide +kernel
theorem dX9_addRoad_83 : decode cX9_addRoad 83 = .ok (.iload_n 2, 1) := by decide +kernel
theorem dX9_addRoad_84 : decode cX9_addRoad 84 = .ok (.iload_n 3, 1) := by decide +kernel
theorem dX9_addRoad_85 : decode cX9_addRoad 85 = .ok (.invokevirtual 54, 3) := by decide +kernel
theorem dX9_addRoad_88 : decode cX9_addRoad 88 = .ok (.ireturn, 1) := by decide +kernel
theorem dX9_addMember_0 : decode cX9_addMember 0 = .ok (.iload_n 1, 1) := by decide +kernel
theorem dX9_addMember_1 : decode cX9_addMember 1 = .ok (.invokestatic 58, 3) := by decide +kernel
theorem dX9_addMember_4 : decode cX9_addMember 4 = .ok (.ifCond .ne 6, 3) := by decide +kernel
theorem dX9_addMember_7 : decode cX9_addMember 7 = .ok (.bipush (-2), 2) := by decide +kernel
theorem dX9_addMember_9 : decode cX9_addMember 9 = .ok (.ireturn, 1) := by decide +kernel
theorem dX9_addMember_10 : decode cX9_addMember 10 = .ok (.aload_n 0, 1) := by decide +kernel
theorem dX9_addMember_11 : decode cX9_addMember 11 = .ok (.getfield 10, 3) := by decide +kernel
theorem dX9_addMember_14 : decode cX9_addMember 14 = .ok (.getfield 61, 3) := by decide +kernel
theorem dX9_addMember_17 : decode cX9_addMember 17 = .ok (.bipush 20, 2) := by decide +kernel
theorem dX9_addMember_19 : decode cX9_addMember 19 = .ok (.if_icmp .lt 6, 3) := by decide +kernel
theorem dX9_addMember_22 : decode cX9_addMember 22 = .ok (.bipush (-3), 2) := by decide +kernel
theorem dX9_addMember_24 : decode cX9_addMember 24 = .ok (.ireturn, 1) := by decide +kernel
theorem dX9_addMember_25 : decode cX9_addMember 25 = .ok (.aload_n 0, 1) := by decide +kernel
theorem dX9_addMember_26 : decode cX9_addMember 26 = .ok (.invokevirtual 51, 3) := by decide +kernel
theorem dX9_addMember_29 : decode cX9_addMember 29 = .ok (.aload_n 0, 1) := by decide +kernel
theorem dX9_addMember_30 : decode cX9_addMember 30 = .ok (.getfield 10, 3) := by decide +kernel
theorem dX9_addMember_33 : decode cX9_addMember 33 = .ok (.iload_n 1, 1) := by decide +kernel
theorem dX9_addMember_34 : decode cX9_addMember 34 = .ok (.invokevirtual 64, 3) := by decide +kernel
theorem dX9_addMember_37 : decode cX9_addMember 37 = .ok (.ireturn, 1) := by decide +kernel
theorem dX9_addPatrol_0 : decode cX9_addPatrol 0 = .ok (.iload_n 1, 1) := by decide +kernel
theorem dX9_addPatrol_1 : decode cX9_addPatrol 1 = .ok (.invokestatic 33, 3) := by decide +kernel
theorem dX9_addPatrol_4 : decode cX9_addPatrol 4 = .ok (.ifCond .ne 5, 3) := by decide +kernel
theorem dX9_addPatrol_7 : decode cX9_addPatrol 7 = .ok (.iconst (-1), 1) := by decide +kernel
theorem dX9_addPatrol_8 : decode cX9_addPatrol 8 = .ok (.ireturn, 1) := by decide +kernel
theorem dX9_addPatrol_9 : decode cX9_addPatrol 9 = .ok (.iload_n 2, 1) := by decide +kernel
theorem dX9_addPatrol_10 : decode cX9_addPatrol 10 = .ok (.iconst 1, 1) := by decide +kernel
theorem dX9_addPatrol_11 : decode cX9_addPatrol 11 = .ok (.if_icmp .lt 9, 3) := by decide +kernel
theorem dX9_addPatrol_14 : decode cX9_addPatrol 14 = .ok (.iload_n 2, 1) := by decide +kernel
theorem dX9_addPatrol_15 : decode cX9_addPatrol 15 = .ok (.bipush 9, 2) := by decide +kernel
theorem dX9_addPatrol_17 : decode cX9_addPatrol 17 = .ok (.if_icmp .le 6, 3) := by decide +kernel
theorem dX9_addPatrol_20 : decode cX9_addPatrol 20 = .ok (.bipush (-2), 2) := by decide +kernel
theorem dX9_addPatrol_22 : decode cX9_addPatrol 22 = .ok (.ireturn, 1) := by decide +kernel
theorem dX9_addPatrol_23 : decode cX9_addPatrol 23 = .ok (.aload_n 0, 1) := by decide +kernel
theorem dX9_addPatrol_24 : decode cX9_addPatrol 24 = .ok (.getfield 10, 3) := by decide +kernel
theorem dX9_addPatrol_27 : decode cX9_addPatrol 27 = .ok (.getfield 68, 3) := by decide +kernel
theorem dX9_addPatrol_30 : decode cX9_addPatrol 30 = .ok (.bipush 6, 2) := by decide +kernel
theorem dX9_addPatrol_32 : decode cX9_addPatrol 32 = .ok (.if_icmp .lt 6, 3) := by decide +kernel
theorem dX9_addPatrol_35 : decode cX9_addPatrol 35 = .ok (.bipush (-3), 2) := by decide +kernel
theorem dX9_addPatrol_37 : decode cX9_addPatrol 37 = .ok (.ireturn, 1) := by decide +kernel
theorem dX9_addPatrol_38 : decode cX9_addPatrol 38 = .ok (.aload_n 0, 1) := by decide +kernel
theorem dX9_addPatrol_39 : decode cX9_addPatrol 39 = .ok (.invokevirtual 51, 3) := by decide +kernel
theorem dX9_addPatrol_42 : decode cX9_addPatrol 42 = .ok (.aload_n 0, 1) := by decide +kernel
theorem dX9_addPatrol_43 : decode cX9_addPatrol 43 = .ok (.getfield 10, 3) := by decide +kernel
theorem dX9_addPatrol_46 : decode cX9_addPatrol 46 = .ok (.iload_n 1, 1) := by decide +kernel
theorem dX9_addPatrol_47 : decode cX9_addPatrol 47 = .ok (.iload_n 2, 1) := by decide +kernel
theorem dX9_addPatrol_48 : decode cX9_addPatrol 48 = .ok (.iload_n 3, 1) := by decide +kernel
theorem dX9_addPatrol_49 : decode cX9_addPatrol 49 = .ok (.invokevirtual 71, 3) := by decide +kernel
theorem dX9_addPatrol_52 : decode cX9_addPatrol 52 = .ok (.ireturn, 1) := by decide +kernel
theorem dX9_addGarage_0 : decode cX9_addGarage 0 = .ok (.iload_n 1, 1) := by decide +kernel
theorem dX9_addGarage_1 : decode cX9_addGarage 1 = .ok (.invokestatic 33, 3) := by decide +kernel
theorem dX9_addGarage_4 : decode cX9_addGarage 4 = .ok (.ifCond .ne 5, 3) := by decide +kernel
theorem dX9_addGarage_7 : decode cX9_addGarage 7 = .ok (.iconst (-1), 1) := by decide +kernel
theorem dX9_addGarage_8 : decode cX9_addGarage 8 = .ok (.ireturn, 1) := by decide +kernel
theorem dX9_addGarage_9 : decode cX9_addGarage 9 = .ok (.iload_n 2, 1) := by decide +kernel
theorem dX9_addGarage_10 : decode cX9_addGarage 10 = .ok (.iconst 1, 1) := by decide +kernel
theorem dX9_addGarage_11 : decode cX9_addGarage 11 = .ok (.if_icmp .lt 9, 3) := by decide +kernel
theorem dX9_addGarage_14 : decode cX9_addGarage 14 = .ok (.iload_n 2, 1) := by decide +kernel
theorem dX9_addGarage_15 : decode cX9_addGarage 15 = .ok (.bipush 9, 2) := by decide +kernel
theorem dX9_addGarage_17 : decode cX9_addGarage 17 = .ok (.if_icmp .le 6, 3) := by decide +kernel
theorem dX9_addGarage_20 : decode cX9_addGarage 20 = .ok (.bipush (-2), 2) := by decide +kernel
theorem dX9_addGarage_22 : decode cX9_addGarage 22 = .ok (.ireturn, 1) := by decide +kernel
theorem dX9_addGarage_23 : decode cX9_addGarage 23 = .ok (.aload_n 0, 1) := by decide +kernel
theorem dX9_addGarage_24 : decode cX9_addGarage 24 = .ok (.getfield 10, 3) := by decide +kernel
theorem dX9_addGarage_27 : decode cX9_addGarage 27 = .ok (.getfield 75, 3) := by decide +kernel
theorem dX9_addGarage_30 : decode cX9_addGarage 30 = .ok (.iconst 5, 1) := by decide +kernel
theorem dX9_addGarage_31 : decode cX9_addGarage 31 = .ok (.if_icmp .lt 6, 3) := by decide +kernel
theorem dX9_addGarage_34 : decode cX9_addGarage 34 = .ok (.bipush (-3), 2) := by decide +kernel
theorem dX9_addGarage_36 : decode cX9_addGarage 36 = .ok (.ireturn, 1) := by decide +kernel
theorem dX9_addGarage_37 : decode cX9_addGarage 37 = .ok (.aload_n 0, 1) := by decide +kernel
theorem dX9_addGarage_38 : decode cX9_addGarage 38 = .ok (.invokevirtual 51, 3) := by decide +kernel
theorem dX9_addGarage_41 : decode cX9_addGarage 41 = .ok (.aload_n 0, 1) := by decide +kernel
theorem dX9_addGarage_42 : decode cX9_addGarage 42 = .ok (.getfield 10, 3) := by decide +kernel
theorem dX9_addGarage_45 : decode cX9_addGarage 45 = .ok (.iload_n 1, 1) := by decide +kernel
theorem dX9_addGarage_46 : decode cX9_addGarage 46 = .ok (.iload_n 2, 1) := by decide +kernel
theorem dX9_addGarage_47 : decode cX9_addGarage 47 = .ok (.invokevirtual 78, 3) := by decide +kernel
theorem dX9_addGarage_50 : decode cX9_addGarage 50 = .ok (.ireturn, 1) := by decide +kernel
theorem dX9_setPromise_0 : decode cX9_setPromise 0 = .ok (.iload_n 1, 1) := by decide +kernel
theorem dX9_setPromise_1 : decode cX9_setPromise 1 = .ok (.invokestatic 58, 3) := by decide +kernel
theorem dX9_setPromise_4 : decode cX9_setPromise 4 = .ok (.ifCond .eq 16, 3) := by decide +kernel
theorem dX9_setPromise_7 : decode cX9_setPromise 7 = .ok (.iload_n 2, 1) := by decide +kernel
theorem dX9_setPromise_8 : decode cX9_setPromise 8 = .ok (.bipush 10, 2) := by decide +kernel
theorem dX9_setPromise_10 : decode cX9_setPromise 10 = .ok (.if_icmp .lt 10, 3) := by decide +kernel
theorem dX9_setPromise_13 : decode cX9_setPromise 13 = .ok (.iload_n 2, 1) := by decide +kernel
theorem dX9_setPromise_14 : decode cX9_setPromise 14 = .ok (.sipush 240, 3) := by decide +kernel
theorem dX9_setPromise_17 : decode cX9_setPromise 17 = .ok (.if_icmp .le 6, 3) := by decide +kernel
theorem dX9_setPromise_20 : decode cX9_setPromise 20 = .ok (.bipush (-2), 2) := by decide +kernel
theorem dX9_setPromise_22 : decode cX9_setPromise 22 = .ok (.ireturn, 1) := by decide +kernel
theorem dX9_setPromise_23 : decode cX9_setPromise 23 = .ok (.aload_n 0, 1) := by decide +kernel
theorem dX9_setPromise_24 : decode cX9_setPromise 24 = .ok (.getfield 10, 3) := by decide +kernel
theorem dX9_setPromise_27 : decode cX9_setPromise 27 = .ok (.getfield 81, 3) := by decide +kernel
theorem dX9_setPromise_30 : decode cX9_setPromise 30 = .ok (.iload_n 1, 1) := by decide +kernel
theorem dX9_setPromise_31 : decode cX9_setPromise 31 = .ok (.iaload, 1) := by decide +kernel
theorem dX9_setPromise_32 : decode cX9_setPromise 32 = .ok (.istore_n 3, 1) := by decide +kernel
theorem dX9_setPromise_33 : decode cX9_setPromise 33 = .ok (.iload_n 3, 1) := by decide +kernel
theorem dX9_setPromise_34 : decode cX9_setPromise 34 = .ok (.iload_n 2, 1) := by decide +kernel
theorem dX9_setPromise_35 : decode cX9_setPromise 35 = .ok (.if_icmp .ne 6, 3) := by decide +kernel
theorem dX9_setPromise_38 : decode cX9_setPromise 38 = .ok (.bipush (-5), 2) := by decide +kernel
theorem dX9_setPromise_40 : decode cX9_setPromise 40 = .ok (.ireturn, 1) := by decide +kernel
theorem dX9_setPromise_41 : decode cX9_setPromise 41 = .ok (.aload_n 0, 1) := by decide +kernel
theorem dX9_setPromise_42 : decode cX9_setPromise 42 = .ok (.invokevirtual 51, 3) := by decide +kernel
theorem dX9_setPromise_45 : decode cX9_setPromise 45 = .ok (.aload_n 0, 1) := by decide +kernel
theorem dX9_setPromise_46 : decode cX9_setPromise 46 = .ok (.getfield 10, 3) := by decide +kernel
theorem dX9_setPromise_49 : decode cX9_setPromise 49 = .ok (.getfield 81, 3) := by decide +kernel
theorem dX9_setPromise_52 : decode cX9_setPromise 52 = .ok (.iload_n 1, 1) := by decide +kernel
theorem dX9_setPromise_53 : decode cX9_setPromise 53 = .ok (.iload_n 2, 1) := by decide +kernel
theorem dX9_setPromise_54 : decode cX9_setPromise 54 = .ok (.iastore, 1) := by decide +kernel
theorem dX9_setPromise_55 : decode cX9_setPromise 55 = .ok (.iload_n 3, 1) := by decide +kernel
theorem dX9_setPromise_56 : decode cX9_setPromise 56 = .ok (.ireturn, 1) := by decide +kernel
theorem dX9_setWeather_0 : decode cX9_setWeather 0 = .ok (.iload_n 1, 1) := by decide +kernel
theorem dX9_setWeather_1 : decode cX9_setWeather 1 = .ok (.ifCond .lt 8, 3) := by decide +kernel
theorem dX9_setWeather_4 : decode cX9_setWeather 4 = .ok (.iload_n 1, 1) := by decide +kernel
theorem dX9_setWeather_5 : decode cX9_setWeather 5 = .ok (.iconst 5, 1) := by decide +kernel
theorem dX9_setWeather_6 : decode cX9_setWeather 6 = .ok (.if_icmp .le 6, 3) := by decide +kernel
theorem dX9_setWeather_9 : decode cX9_setWeather 9 = .ok (.bipush (-2), 2) := by decide +kernel
theorem dX9_setWeather_11 : decode cX9_setWeather 11 = .ok (.ireturn, 1) := by decide +kernel
theorem dX9_setWeather_12 : decode cX9_setWeather 12 = .ok (.aload_n 0, 1) := by decide +kernel
theorem dX9_setWeather_13 : decode cX9_setWeather 13 = .ok (.getfield 10, 3) := by decide +kernel
theorem dX9_setWeather_16 : decode cX9_setWeather 16 = .ok (.getfield 85, 3) := by decide +kernel
theorem dX9_setWeather_19 : decode cX9_setWeather 19 = .ok (.istore_n 2, 1) := by decide +kernel
theorem dX9_setWeather_20 : decode cX9_setWeather 20 = .ok (.iload_n 2, 1) := by decide +kernel
theorem dX9_setWeather_21 : decode cX9_setWeather 21 = .ok (.iload_n 1, 1) := by decide +kernel
theorem dX9_setWeather_22 : decode cX9_setWeather 22 = .ok (.if_icmp .ne 6, 3) := by decide +kernel
theorem dX9_setWeather_25 : decode cX9_setWeather 25 = .ok (.bipush (-5), 2) := by decide +kernel
theorem dX9_setWeather_27 : decode cX9_setWeather 27 = .ok (.ireturn, 1) := by decide +kernel
theorem dX9_setWeather_28 : decode cX9_setWeather 28 = .ok (.aload_n 0, 1) := by decide +kernel
theorem dX9_setWeather_29 : decode cX9_setWeather 29 = .ok (.invokevirtual 51, 3) := by decide +kernel
theorem dX9_setWeather_32 : decode cX9_setWeather 32 = .ok (.aload_n 0, 1) := by decide +kernel
theorem dX9_setWeather_33 : decode cX9_setWeather 33 = .ok (.getfield 10, 3) := by decide +kernel
theorem dX9_setWeather_36 : decode cX9_setWeather 36 = .ok (.iload_n 1, 1) := by decide +kernel
theorem dX9_setWeather_37 : decode cX9_setWeather 37 = .ok (.putfield 85, 3) := by decide +kernel
theorem dX9_setWeather_40 : decode cX9_setWeather 40 = .ok (.iload_n 2, 1) := by decide +kernel
theorem dX9_setWeather_41 : decode cX9_setWeather 41 = .ok (.ireturn, 1) := by decide +kernel
theorem dX9_call_0 : decode cX9_call 0 = .ok (.aload_n 0, 1) := by decide +kernel
theorem dX9_call_1 : decode cX9_call 1 = .ok (.getfield 10, 3) := by decide +kernel
theorem dX9_call_4 : decode cX9_call 4 = .ok (.iload_n 1, 1) := by decide +kernel
theorem dX9_call_5 : decode cX9_call 5 = .ok (.iload_n 2, 1) := by decide +kernel
theorem dX9_call_6 : decode cX9_call 6 = .ok (.iload_n 3, 1) := by decide +kernel
theorem dX9_call_7 : decode cX9_call 7 = .ok (.invokevirtual 88, 3) := by decide +kernel
theorem dX9_call_10 : decode cX9_call 10 = .ok (.istore 4, 2) := by decide +kernel
theorem dX9_call_12 : decode cX9_call 12 = .ok (.iload 4, 2) := by decide +kernel
theorem dX9_call_14 : decode cX9_call 14 = .ok (.ifCond .eq 6, 3) := by decide +kernel
theorem dX9_call_17 : decode cX9_call 17 = .ok (.iload 4, 2) := by decide +kernel
theorem dX9_call_19 : decode cX9_call 19 = .ok (.ireturn, 1) := by decide +kernel
theorem dX9_call_20 : decode cX9_call 20 = .ok (.aload_n 0, 1) := by decide +kernel
theorem dX9_call_21 : decode cX9_call 21 = .ok (.invokevirtual 51, 3) := by decide +kernel
theorem dX9_call_24 : decode cX9_call 24 = .ok (.aload_n 0, 1) := by decide +kernel
theorem dX9_call_25 : decode cX9_call 25 = .ok (.getfield 10, 3) := by decide +kernel
theorem dX9_call_28 : decode cX9_call 28 = .ok (.iload_n 1, 1) := by decide +kernel
theorem dX9_call_29 : decode cX9_call 29 = .ok (.iload_n 2, 1) := by decide +kernel
theorem dX9_call_30 : decode cX9_call 30 = .ok (.iload_n 3, 1) := by decide +kernel
theorem dX9_call_31 : decode cX9_call 31 = .ok (.invokevirtual 91, 3) := by decide +kernel
theorem dX9_call_34 : decode cX9_call 34 = .ok (.ireturn, 1) := by decide +kernel
theorem dX9_cancel_0 : decode cX9_cancel 0 = .ok (.aload_n 0, 1) := by decide +kernel
theorem dX9_cancel_1 : decode cX9_cancel 1 = .ok (.getfield 10, 3) := by decide +kernel
theorem dX9_cancel_4 : decode cX9_cancel 4 = .ok (.iload_n 1, 1) := by decide +kernel
theorem dX9_cancel_5 : decode cX9_cancel 5 = .ok (.invokevirtual 94, 3) := by decide +kernel
theorem dX9_cancel_8 : decode cX9_cancel 8 = .ok (.ifCond .ne 5, 3) := by decide +kernel
theorem dX9_cancel_11 : decode cX9_cancel 11 = .ok (.iconst (-1), 1) := by decide +kernel
theorem dX9_cancel_12 : decode cX9_cancel 12 = .ok (.ireturn, 1) := by decide +kernel
theorem dX9_cancel_13 : decode cX9_cancel 13 = .ok (.aload_n 0, 1) := by decide +kernel
theorem dX9_cancel_14 : decode cX9_cancel 14 = .ok (.getfield 10, 3) := by decide +kernel
theorem dX9_cancel_17 : decode cX9_cancel 17 = .ok (.getfield 97, 3) := by decide +kernel
theorem dX9_cancel_20 : decode cX9_cancel 20 = .ok (.iload_n 1, 1) := by decide +kernel
theorem dX9_cancel_21 : decode cX9_cancel 21 = .ok (.aaload, 1) := by decide +kernel
theorem dX9_cancel_22 : decode cX9_cancel 22 = .ok (.astore_n 2, 1) := by decide +kernel
theorem dX9_cancel_23 : decode cX9_cancel 23 = .ok (.aload_n 2, 1) := by decide +kernel
theorem dX9_cancel_24 : decode cX9_cancel 24 = .ok (.invokevirtual 101, 3) := by decide +kernel
theorem dX9_cancel_27 : decode cX9_cancel 27 = .ok (.ifCond .ne 6, 3) := by decide +kernel
theorem dX9_cancel_30 : decode cX9_cancel 30 = .ok (.bipush (-4), 2) := by decide +kernel
theorem dX9_cancel_32 : decode cX9_cancel 32 = .ok (.ireturn, 1) := by decide +kernel
theorem dX9_cancel_33 : decode cX9_cancel 33 = .ok (.aload_n 0, 1) := by decide +kernel
theorem dX9_cancel_34 : decode cX9_cancel 34 = .ok (.invokevirtual 51, 3) := by decide +kernel
theorem dX9_cancel_37 : decode cX9_cancel 37 = .ok (.aload_n 0, 1) := by decide +kernel
theorem dX9_cancel_38 : decode cX9_cancel 38 = .ok (.getfield 10, 3) := by decide +kernel
theorem dX9_cancel_41 : decode cX9_cancel 41 = .ok (.iload_n 1, 1) := by decide +kernel
theorem dX9_cancel_42 : decode cX9_cancel 42 = .ok (.invokevirtual 107, 3) := by decide +kernel
theorem dX9_cancel_45 : decode cX9_cancel 45 = .ok (.istore_n 3, 1) := by decide +kernel
theorem dX9_cancel_46 : decode cX9_cancel 46 = .ok (.aload_n 0, 1) := by decide +kernel
theorem dX9_cancel_47 : decode cX9_cancel 47 = .ok (.getfield 10, 3) := by decide +kernel
theorem dX9_cancel_50 : decode cX9_cancel 50 = .ok (.iload_n 3, 1) := by decide +kernel
theorem dX9_cancel_51 : decode cX9_cancel 51 = .ok (.invokevirtual 110, 3) := by decide +kernel
theorem dX9_cancel_54 : decode cX9_cancel 54 = .ok (.ifCond .eq 15, 3) := by decide +kernel
theorem dX9_cancel_57 : decode cX9_cancel 57 = .ok (.aload_n 0, 1) := by decide +kernel
theorem dX9_cancel_58 : decode cX9_cancel 58 = .ok (.getfield 10, 3) := by decide +kernel
theorem dX9_cancel_61 : decode cX9_cancel 61 = .ok (.getfield 113, 3) := by decide +kernel
theorem dX9_cancel_64 : decode cX9_cancel 64 = .ok (.iload_n 3, 1) := by decide +kernel
theorem dX9_cancel_65 : decode cX9_cancel 65 = .ok (.aaload, 1) := by decide +kernel
theorem dX9_cancel_66 : decode cX9_cancel 66 = .ok (.invokevirtual 117, 3) := by decide +kernel
theorem dX9_cancel_69 : decode cX9_cancel 69 = .ok (.aload_n 2, 1) := by decide +kernel
theorem dX9_cancel_70 : decode cX9_cancel 70 = .ok (.bipush 7, 2) := by decide +kernel
theorem dX9_cancel_72 : decode cX9_cancel 72 = .ok (.aload_n 0, 1) := by decide +kernel
theorem dX9_cancel_73 : decode cX9_cancel 73 = .ok (.getfield 10, 3) := by decide +kernel
theorem dX9_cancel_76 : decode cX9_cancel 76 = .ok (.getfield 122, 3) := by decide +kernel
theorem dX9_cancel_79 : decode cX9_cancel 79 = .ok (.invokevirtual 125, 3) := by decide +kernel
theorem dX9_cancel_82 : decode cX9_cancel 82 = .ok (.aload_n 2, 1) := by decide +kernel
theorem dX9_cancel_83 : decode cX9_cancel 83 = .ok (.aload_n 0, 1) := by decide +kernel
theorem dX9_cancel_84 : decode cX9_cancel 84 = .ok (.getfield 10, 3) := by decide +kernel
theorem dX9_cancel_87 : decode cX9_cancel 87 = .ok (.getfield 122, 3) := by decide +kernel
theorem dX9_cancel_90 : decode cX9_cancel 90 = .ok (.invokevirtual 129, 3) := by decide +kernel
theorem dX9_cancel_93 : decode cX9_cancel 93 = .ok (.ireturn, 1) := by decide +kernel
theorem dX9_duty_0 : decode cX9_duty 0 = .ok (.aload_n 0, 1) := by decide +kernel
theorem dX9_duty_1 : decode cX9_duty 1 = .ok (.getfield 10, 3) := by decide +kernel
theorem dX9_duty_4 : decode cX9_duty 4 = .ok (.iload_n 1, 1) := by decide +kernel
theorem dX9_duty_5 : decode cX9_duty 5 = .ok (.invokevirtual 110, 3) := by decide +kernel
theorem dX9_duty_8 : decode cX9_duty 8 = .ok (.ifCond .ne 5, 3) := by decide +kernel
theorem dX9_duty_11 : decode cX9_duty 11 = .ok (.iconst (-1), 1) := by decide +kernel
theorem dX9_duty_12 : decode cX9_duty 12 = .ok (.ireturn, 1) := by decide +kernel
theorem dX9_duty_13 : decode cX9_duty 13 = .ok (.aload_n 0, 1) := by decide +kernel
theorem dX9_duty_14 : decode cX9_duty 14 = .ok (.getfield 10, 3) := by decide +kernel
theorem dX9_duty_17 : decode cX9_duty 17 = .ok (.getfield 113, 3) := by decide +kernel
theorem dX9_duty_20 : decode cX9_duty 20 = .ok (.iload_n 1, 1) := by decide +kernel
theorem dX9_duty_21 : decode cX9_duty 21 = .ok (.aaload, 1) := by decide +kernel
theorem dX9_duty_22 : decode cX9_duty 22 = .ok (.astore_n 3, 1) := by decide +kernel
theorem dX9_duty_23 : decode cX9_duty 23 = .ok (.iload_n 2, 1) := by decide +kernel
theorem dX9_duty_24 : decode cX9_duty 24 = .ok (.ifCond .ne 13, 3) := by decide +kernel
theorem dX9_duty_27 : decode cX9_duty 27 = .ok (.aload_n 3, 1) := by decide +kernel
theorem dX9_duty_28 : decode cX9_duty 28 = .ok (.invokevirtual 132, 3) := by decide +kernel
theorem dX9_duty_31 : decode cX9_duty 31 = .ok (.ifCond .eq 6, 3) := by decide +kernel
theorem dX9_duty_34 : decode cX9_duty 34 = .ok (.bipush (-4), 2) := by decide +kernel
theorem dX9_duty_36 : decode cX9_duty 36 = .ok (.ireturn, 1) := by decide +kernel
theorem dX9_duty_37 : decode cX9_duty 37 = .ok (.iload_n 2, 1) := by decide +kernel
theorem dX9_duty_38 : decode cX9_duty 38 = .ok (.aload_n 3, 1) := by decide +kernel
theorem dX9_duty_39 : decode cX9_duty 39 = .ok (.getfield 135, 3) := by decide +kernel
theorem dX9_duty_42 : decode cX9_duty 42 = .ok (.iconst 4, 1) := by decide +kernel
theorem dX9_duty_43 : decode cX9_duty 43 = .ok (.if_icmp .eq 7, 3) := by decide +kernel
theorem dX9_duty_46 : decode cX9_duty 46 = .ok (.iconst 1, 1) := by decide +kernel
theorem dX9_duty_47 : decode cX9_duty 47 = .ok (.goto 4, 3) := by decide +kernel
theorem dX9_duty_50 : decode cX9_duty 50 = .ok (.iconst 0, 1) := by decide +kernel
theorem dX9_duty_51 : decode cX9_duty 51 = .ok (.if_icmp .ne 6, 3) := by decide +kernel
theorem dX9_duty_54 : decode cX9_duty 54 = .ok (.bipush (-5), 2) := by decide +kernel
theorem dX9_duty_56 : decode cX9_duty 56 = .ok (.ireturn, 1) := by decide +kernel
theorem dX9_duty_57 : decode cX9_duty 57 = .ok (.aload_n 0, 1) := by decide +kernel
theorem dX9_duty_58 : decode cX9_duty 58 = .ok (.invokevirtual 51, 3) := by decide +kernel
theorem dX9_duty_61 : decode cX9_duty 61 = .ok (.aload_n 3, 1) := by decide +kernel
theorem dX9_duty_62 : decode cX9_duty 62 = .ok (.iload_n 2, 1) := by decide +kernel
theorem dX9_duty_63 : decode cX9_duty 63 = .ok (.ifCond .eq 7, 3) := by decide +kernel
theorem dX9_duty_66 : decode cX9_duty 66 = .ok (.iconst 0, 1) := by decide +kernel
theorem dX9_duty_67 : decode cX9_duty 67 = .ok (.goto 4, 3) := by decide +kernel
theorem dX9_duty_70 : decode cX9_duty 70 = .ok (.iconst 4, 1) := by decide +kernel
theorem dX9_duty_71 : decode cX9_duty 71 = .ok (.putfield 135, 3) := by decide +kernel
theorem dX9_duty_74 : decode cX9_duty 74 = .ok (.aload_n 0, 1) := by decide +kernel
theorem dX9_duty_75 : decode cX9_duty 75 = .ok (.getfield 10, 3) := by decide +kernel
theorem dX9_duty_78 : decode cX9_duty 78 = .ok (.invokevirtual 138, 3) := by decide +kernel
theorem dX9_duty_81 : decode cX9_duty 81 = .ok (.ireturn, 1) := by decide +kernel
theorem dX9_goHome_0 : decode cX9_goHome 0 = .ok (.aload_n 0, 1) := by decide +kernel
theorem dX9_goHome_1 : decode cX9_goHome 1 = .ok (.getfield 10, 3) := by decide +kernel
theorem dX9_goHome_4 : decode cX9_goHome 4 = .ok (.iload_n 1, 1) := by decide +kernel
theorem dX9_goHome_5 : decode cX9_goHome 5 = .ok (.invokevirtual 110, 3) := by decide +kernel
theorem dX9_goHome_8 : decode cX9_goHome 8 = .ok (.ifCond .ne 5, 3) := by decide +kernel
theorem dX9_goHome_11 : decode cX9_goHome 11 = .ok (.iconst (-1), 1) := by decide +kernel
theorem dX9_goHome_12 : decode cX9_goHome 12 = .ok (.ireturn, 1) := by decide +kernel
theorem dX9_goHome_13 : decode cX9_goHome 13 = .ok (.aload_n 0, 1) := by decide +kernel
theorem dX9_goHome_14 : decode cX9_goHome 14 = .ok (.getfield 10, 3) := by decide +kernel
theorem dX9_goHome_17 : decode cX9_goHome 17 = .ok (.getfield 113, 3) := by decide +kernel
theorem dX9_goHome_20 : decode cX9_goHome 20 = .ok (.iload_n 1, 1) := by decide +kernel
theorem dX9_goHome_21 : decode cX9_goHome 21 = .ok (.aaload, 1) := by decide +kernel
theorem dX9_goHome_22 : decode cX9_goHome 22 = .ok (.astore_n 2, 1) := by decide +kernel
theorem dX9_goHome_23 : decode cX9_goHome 23 = .ok (.aload_n 0, 1) := by decide +kernel
theorem dX9_goHome_24 : decode cX9_goHome 24 = .ok (.getfield 10, 3) := by decide +kernel
theorem dX9_goHome_27 : decode cX9_goHome 27 = .ok (.getfield 37, 3) := by decide +kernel
theorem dX9_goHome_30 : decode cX9_goHome 30 = .ok (.aload_n 2, 1) := by decide +kernel
theorem dX9_goHome_31 : decode cX9_goHome 31 = .ok (.getfield 142, 3) := by decide +kernel
theorem dX9_goHome_34 : decode cX9_goHome 34 = .ok (.aload_n 2, 1) := by decide +kernel
theorem dX9_goHome_35 : decode cX9_goHome 35 = .ok (.getfield 145, 3) := by decide +kernel
theorem dX9_goHome_38 : decode cX9_goHome 38 = .ok (.invokevirtual 148, 3) := by decide +kernel
theorem dX9_goHome_41 : decode cX9_goHome 41 = .ok (.istore_n 3, 1) := by decide +kernel
theorem dX9_goHome_42 : decode cX9_goHome 42 = .ok (.aload_n 2, 1) := by decide +kernel
theorem dX9_goHome_43 : decode cX9_goHome 43 = .ok (.getfield 135, 3) := by decide +kernel
theorem dX9_goHome_46 : decode cX9_goHome 46 = .ok (.ifCond .ne 9, 3) := by decide +kernel
theorem dX9_goHome_49 : decode cX9_goHome 49 = .ok (.iload_n 3, 1) := by decide +kernel
theorem dX9_goHome_50 : decode cX9_goHome 50 = .ok (.ldc 151, 2) := by decide +kernel
theorem dX9_goHome_52 : decode cX9_goHome 52 = .ok (.if_icmp .lt 6, 3) := by decide +kernel
theorem dX9_goHome_55 : decode cX9_goHome 55 = .ok (.bipush (-4), 2) := by decide +kernel
theorem dX9_goHome_57 : decode cX9_goHome 57 = .ok (.ireturn, 1) := by decide +kernel
theorem dX9_goHome_58 : decode cX9_goHome 58 = .ok (.aload_n 2, 1) := by decide +kernel
theorem dX9_goHome_59 : decode cX9_goHome 59 = .ok (.getfield 142, 3) := by decide +kernel
theorem dX9_goHome_62 : decode cX9_goHome 62 = .ok (.aload_n 2, 1) := by decide +kernel
theorem dX9_goHome_63 : decode cX9_goHome 63 = .ok (.getfield 145, 3) := by decide +kernel
theorem dX9_goHome_66 : decode cX9_goHome 66 = .ok (.if_icmp .ne 6, 3) := by decide +kernel
theorem dX9_goHome_69 : decode cX9_goHome 69 = .ok (.bipush (-5), 2) := by decide +kernel
theorem dX9_goHome_71 : decode cX9_goHome 71 = .ok (.ireturn, 1) := by decide +kernel
theorem dX9_goHome_72 : decode cX9_goHome 72 = .ok (.aload_n 0, 1) := by decide +kernel
theorem dX9_goHome_73 : decode cX9_goHome 73 = .ok (.invokevirtual 51, 3) := by decide +kernel
theorem dX9_goHome_76 : decode cX9_goHome 76 = .ok (.aload_n 2, 1) := by decide +kernel
theorem dX9_goHome_77 : decode cX9_goHome 77 = .ok (.aload_n 2, 1) := by decide +kernel
theorem dX9_goHome_78 : decode cX9_goHome 78 = .ok (.getfield 145, 3) := by decide +kernel
theorem dX9_goHome_81 : decode cX9_goHome 81 = .ok (.putfield 142, 3) := by decide +kernel
theorem dX9_goHome_84 : decode cX9_goHome 84 = .ok (.iload_n 3, 1) := by decide +kernel
theorem dX9_goHome_85 : decode cX9_goHome 85 = .ok (.ireturn, 1) := by decide +kernel
theorem dX9_fetch_0 : decode cX9_fetch 0 = .ok (.aload_n 0, 1) := by decide +kernel
theorem dX9_fetch_1 : decode cX9_fetch 1 = .ok (.getfield 10, 3) := by decide +kernel
theorem dX9_fetch_4 : decode cX9_fetch 4 = .ok (.iload_n 1, 1) := by decide +kernel
theorem dX9_fetch_5 : decode cX9_fetch 5 = .ok (.invokevirtual 152, 3) := by decide +kernel
theorem dX9_fetch_8 : decode cX9_fetch 8 = .ok (.ifCond .ne 5, 3) := by decide +kernel
theorem dX9_fetch_11 : decode cX9_fetch 11 = .ok (.iconst (-1), 1) := by decide +kernel
theorem dX9_fetch_12 : decode cX9_fetch 12 = .ok (.ireturn, 1) := by decide +kernel
theorem dX9_fetch_13 : decode cX9_fetch 13 = .ok (.iload_n 2, 1) := by decide +kernel
theorem dX9_fetch_14 : decode cX9_fetch 14 = .ok (.iconst 1, 1) := by decide +kernel
theorem dX9_fetch_15 : decode cX9_fetch 15 = .ok (.if_icmp .lt 9, 3) := by decide +kernel
theorem dX9_fetch_18 : decode cX9_fetch 18 = .ok (.iload_n 2, 1) := by decide +kernel
theorem dX9_fetch_19 : decode cX9_fetch 19 = .ok (.bipush 9, 2) := by decide +kernel
theorem dX9_fetch_21 : decode cX9_fetch 21 = .ok (.if_icmp .le 6, 3) := by decide +kernel
theorem dX9_fetch_24 : decode cX9_fetch 24 = .ok (.bipush (-2), 2) := by decide +kernel
theorem dX9_fetch_26 : decode cX9_fetch 26 = .ok (.ireturn, 1) := by decide +kernel
theorem dX9_fetch_27 : decode cX9_fetch 27 = .ok (.aload_n 0, 1) := by decide +kernel
theorem dX9_fetch_28 : decode cX9_fetch 28 = .ok (.getfield 10, 3) := by decide +kernel
theorem dX9_fetch_31 : decode cX9_fetch 31 = .ok (.getfield 155, 3) := by decide +kernel
theorem dX9_fetch_34 : decode cX9_fetch 34 = .ok (.iload_n 1, 1) := by decide +kernel
theorem dX9_fetch_35 : decode cX9_fetch 35 = .ok (.aaload, 1) := by decide +kernel
theorem dX9_fetch_36 : decode cX9_fetch 36 = .ok (.astore_n 3, 1) := by decide +kernel
theorem dX9_fetch_37 : decode cX9_fetch 37 = .ok (.iload_n 2, 1) := by decide +kernel
theorem dX9_fetch_38 : decode cX9_fetch 38 = .ok (.aload_n 3, 1) := by decide +kernel
theorem dX9_fetch_39 : decode cX9_fetch 39 = .ok (.getfield 159, 3) := by decide +kernel
theorem dX9_fetch_42 : decode cX9_fetch 42 = .ok (.if_icmp .le 6, 3) := by decide +kernel
theorem dX9_fetch_45 : decode cX9_fetch 45 = .ok (.bipush (-4), 2) := by decide +kernel
theorem dX9_fetch_47 : decode cX9_fetch 47 = .ok (.ireturn, 1) := by decide +kernel
theorem dX9_fetch_48 : decode cX9_fetch 48 = .ok (.aload_n 0, 1) := by decide +kernel
theorem dX9_fetch_49 : decode cX9_fetch 49 = .ok (.invokevirtual 51, 3) := by decide +kernel
theorem dX9_fetch_52 : decode cX9_fetch 52 = .ok (.aload_n 3, 1) := by decide +kernel
theorem dX9_fetch_53 : decode cX9_fetch 53 = .ok (.dup, 1) := by decide +kernel
theorem dX9_fetch_54 : decode cX9_fetch 54 = .ok (.getfield 159, 3) := by decide +kernel
theorem dX9_fetch_57 : decode cX9_fetch 57 = .ok (.iload_n 2, 1) := by decide +kernel
theorem dX9_fetch_58 : decode cX9_fetch 58 = .ok (.isub, 1) := by decide +kernel
theorem dX9_fetch_59 : decode cX9_fetch 59 = .ok (.putfield 159, 3) := by decide +kernel
theorem dX9_fetch_62 : decode cX9_fetch 62 = .ok (.aload_n 3, 1) := by decide +kernel
theorem dX9_fetch_63 : decode cX9_fetch 63 = .ok (.getfield 159, 3) := by decide +kernel
theorem dX9_fetch_66 : decode cX9_fetch 66 = .ok (.ireturn, 1) := by decide +kernel
theorem dX9_pass_0 : decode cX9_pass 0 = .ok (.iload_n 1, 1) := by decide +kernel
theorem dX9_pass_1 : decode cX9_pass 1 = .ok (.iconst 1, 1) := by decide +kernel
theorem dX9_pass_2 : decode cX9_pass 2 = .ok (.if_icmp .lt 9, 3) := by decide +kernel
theorem dX9_pass_5 : decode cX9_pass 5 = .ok (.iload_n 1, 1) := by decide +kernel
theorem dX9_pass_6 : decode cX9_pass 6 = .ok (.bipush 120, 2) := by decide +kernel
theorem dX9_pass_8 : decode cX9_pass 8 = .ok (.if_icmp .le 6, 3) := by decide +kernel
theorem dX9_pass_11 : decode cX9_pass 11 = .ok (.bipush (-2), 2) := by decide +kernel
theorem dX9_pass_13 : decode cX9_pass 13 = .ok (.ireturn, 1) := by decide +kernel
theorem dX9_pass_14 : decode cX9_pass 14 = .ok (.aload_n 0, 1) := by decide +kernel
theorem dX9_pass_15 : decode cX9_pass 15 = .ok (.getfield 10, 3) := by decide +kernel
theorem dX9_pass_18 : decode cX9_pass 18 = .ok (.getfield 122, 3) := by decide +kernel
theorem dX9_pass_21 : decode cX9_pass 21 = .ok (.iload_n 1, 1) := by decide +kernel
theorem dX9_pass_22 : decode cX9_pass 22 = .ok (.iadd, 1) := by decide +kernel
theorem dX9_pass_23 : decode cX9_pass 23 = .ok (.sipush 2880, 3) := by decide +kernel
theorem dX9_pass_26 : decode cX9_pass 26 = .ok (.if_icmp .le 6, 3) := by decide +kernel
theorem dX9_pass_29 : decode cX9_pass 29 = .ok (.bipush (-4), 2) := by decide +kernel
theorem dX9_pass_31 : decode cX9_pass 31 = .ok (.ireturn, 1) := by decide +kernel
theorem dX9_pass_32 : decode cX9_pass 32 = .ok (.aload_n 0, 1) := by decide +kernel
theorem dX9_pass_33 : decode cX9_pass 33 = .ok (.invokevirtual 51, 3) := by decide +kernel
theorem dX9_pass_36 : decode cX9_pass 36 = .ok (.iconst 0, 1) := by decide +kernel
theorem dX9_pass_37 : decode cX9_pass 37 = .ok (.istore_n 2, 1) := by decide +kernel
theorem dX9_pass_38 : decode cX9_pass 38 = .ok (.iconst 0, 1) := by decide +kernel
theorem dX9_pass_39 : decode cX9_pass 39 = .ok (.istore_n 3, 1) := by decide +kernel
theorem dX9_pass_40 : decode cX9_pass 40 = .ok (.iload_n 3, 1) := by decide +kernel
theorem dX9_pass_41 : decode cX9_pass 41 = .ok (.iload_n 1, 1) := by decide +kernel
theorem dX9_pass_42 : decode cX9_pass 42 = .ok (.if_icmp .ge 19, 3) := by decide +kernel
theorem dX9_pass_45 : decode cX9_pass 45 = .ok (.iload_n 2, 1) := by decide +kernel
theorem dX9_pass_46 : decode cX9_pass 46 = .ok (.aload_n 0, 1) := by decide +kernel
theorem dX9_pass_47 : decode cX9_pass 47 = .ok (.getfield 10, 3) := by decide +kernel
theorem dX9_pass_50 : decode cX9_pass 50 = .ok (.invokestatic 164, 3) := by decide +kernel
theorem dX9_pass_53 : decode cX9_pass 53 = .ok (.iadd, 1) := by decide +kernel
theorem dX9_pass_54 : decode cX9_pass 54 = .ok (.istore_n 2, 1) := by decide +kernel
theorem dX9_pass_55 : decode cX9_pass 55 = .ok (.iinc 3 1, 3) := by decide +kernel
theorem dX9_pass_58 : decode cX9_pass 58 = .ok (.goto (-18), 3) := by decide +kernel
theorem dX9_pass_61 : decode cX9_pass 61 = .ok (.iload_n 2, 1) := by decide +kernel
theorem dX9_pass_62 : decode cX9_pass 62 = .ok (.ireturn, 1) := by decide +kernel
theorem dX9_type_0 : decode cX9_type 0 = .ok (.aload_n 0, 1) := by decide +kernel
theorem dX9_type_1 : decode cX9_type 1 = .ok (.getfield 29, 3) := by decide +kernel
theorem dX9_type_4 : decode cX9_type 4 = .ok (.iload_n 1, 1) := by decide +kernel
theorem dX9_type_5 : decode cX9_type 5 = .ok (.invokevirtual 170, 3) := by decide +kernel
theorem dX9_type_8 : decode cX9_type 8 = .ok (.ifCond .eq 13, 3) := by decide +kernel
theorem dX9_type_11 : decode cX9_type 11 = .ok (.aload_n 0, 1) := by decide +kernel
theorem dX9_type_12 : decode cX9_type 12 = .ok (.getfield 29, 3) := by decide +kernel
theorem dX9_type_15 : decode cX9_type 15 = .ok (.getfield 174, 3) := by decide +kernel
theorem dX9_type_18 : decode cX9_type 18 = .ok (.goto 5, 3) := by decide +kernel
theorem dX9_type_21 : decode cX9_type 21 = .ok (.bipush (-3), 2) := by decide +kernel
theorem dX9_type_23 : decode cX9_type 23 = .ok (.ireturn, 1) := by decide +kernel
theorem dX9_clearText_0 : decode cX9_clearText 0 = .ok (.aload_n 0, 1) := by decide +kernel
theorem dX9_clearText_1 : decode cX9_clearText 1 = .ok (.getfield 29, 3) := by decide +kernel
theorem dX9_clearText_4 : decode cX9_clearText 4 = .ok (.getfield 174, 3) := by decide +kernel
theorem dX9_clearText_7 : decode cX9_clearText 7 = .ok (.istore_n 1, 1) := by decide +kernel
theorem dX9_clearText_8 : decode cX9_clearText 8 = .ok (.aload_n 0, 1) := by decide +kernel
theorem dX9_clearText_9 : decode cX9_clearText 9 = .ok (.getfield 29, 3) := by decide +kernel
theorem dX9_clearText_12 : decode cX9_clearText 12 = .ok (.iconst 0, 1) := by decide +kernel
theorem dX9_clearText_13 : decode cX9_clearText 13 = .ok (.putfield 174, 3) := by decide +kernel
theorem dX9_clearText_16 : decode cX9_clearText 16 = .ok (.iload_n 1, 1) := by decide +kernel
theorem dX9_clearText_17 : decode cX9_clearText 17 = .ok (.ireturn, 1) := by decide +kernel
theorem dX9_readCalls_0 : decode cX9_readCalls 0 = .ok (.aload_n 0, 1) := by decide +kernel
theorem dX9_readCalls_1 : decode cX9_readCalls 1 = .ok (.getfield 29, 3) := by decide +kernel
theorem dX9_readCalls_4 : decode cX9_readCalls 4 = .ok (.invokevirtual 177, 3) := by decide +kernel
theorem dX9_readCalls_7 : decode cX9_readCalls 7 = .ok (.istore_n 1, 1) := by decide +kernel
theorem dX9_readCalls_8 : decode cX9_readCalls 8 = .ok (.iload_n 1, 1) := by decide +kernel
theorem dX9_readCalls_9 : decode cX9_readCalls 9 = .ok (.iconst (-1), 1) := by decide +kernel
theorem dX9_readCalls_10 : decode cX9_readCalls 10 = .ok (.if_icmp .eq 8, 3) := by decide +kernel
theorem dX9_readCalls_13 : decode cX9_readCalls 13 = .ok (.bipush (-100), 2) := by decide +kernel
theorem dX9_readCalls_15 : decode cX9_readCalls 15 = .ok (.iload_n 1, 1) := by decide +kernel
theorem dX9_readCalls_16 : decode cX9_readCalls 16 = .ok (.isub, 1) := by decide +kernel
theorem dX9_readCalls_17 : decode cX9_readCalls 17 = .ok (.ireturn, 1) := by decide +kernel
theorem dX9_readCalls_18 : decode cX9_readCalls 18 = .ok (.aload_n 0, 1) := by decide +kernel
theorem dX9_readCalls_19 : decode cX9_readCalls 19 = .ok (.getfield 19, 3) := by decide +kernel
theorem dX9_readCalls_22 : decode cX9_readCalls 22 = .ok (.aload_n 0, 1) := by decide +kernel
theorem dX9_readCalls_23 : decode cX9_readCalls 23 = .ok (.getfield 10, 3) := by decide +kernel
theorem dX9_readCalls_26 : decode cX9_readCalls 26 = .ok (.invokevirtual 180, 3) := by decide +kernel
theorem dX9_readCalls_29 : decode cX9_readCalls 29 = .ok (.aload_n 0, 1) := by decide +kernel
theorem dX9_readCalls_30 : decode cX9_readCalls 30 = .ok (.aload_n 0, 1) := by decide +kernel
theorem dX9_readCalls_31 : decode cX9_readCalls 31 = .ok (.getfield 19, 3) := by decide +kernel
theorem dX9_readCalls_34 : decode cX9_readCalls 34 = .ok (.invokevirtual 184, 3) := by decide +kernel
theorem dX9_readCalls_37 : decode cX9_readCalls 37 = .ok (.istore_n 2, 1) := by decide +kernel
theorem dX9_readCalls_38 : decode cX9_readCalls 38 = .ok (.iload_n 2, 1) := by decide +kernel
theorem dX9_readCalls_39 : decode cX9_readCalls 39 = .ok (.ifCond .eq 5, 3) := by decide +kernel
theorem dX9_readCalls_42 : decode cX9_readCalls 42 = .ok (.iload_n 2, 1) := by decide +kernel
theorem dX9_readCalls_43 : decode cX9_readCalls 43 = .ok (.ireturn, 1) := by decide +kernel
theorem dX9_readCalls_44 : decode cX9_readCalls 44 = .ok (.aload_n 0, 1) := by decide +kernel
theorem dX9_readCalls_45 : decode cX9_readCalls 45 = .ok (.invokevirtual 51, 3) := by decide +kernel
theorem dX9_readCalls_48 : decode cX9_readCalls 48 = .ok (.aload_n 0, 1) := by decide +kernel
theorem dX9_readCalls_49 : decode cX9_readCalls 49 = .ok (.getfield 10, 3) := by decide +kernel
theorem dX9_readCalls_52 : decode cX9_readCalls 52 = .ok (.aload_n 0, 1) := by decide +kernel
theorem dX9_readCalls_53 : decode cX9_readCalls 53 = .ok (.getfield 19, 3) := by decide +kernel
theorem dX9_readCalls_56 : decode cX9_readCalls 56 = .ok (.invokevirtual 180, 3) := by decide +kernel
theorem dX9_readCalls_59 : decode cX9_readCalls 59 = .ok (.aload_n 0, 1) := by decide +kernel
theorem dX9_readCalls_60 : decode cX9_readCalls 60 = .ok (.getfield 29, 3) := by decide +kernel
theorem dX9_readCalls_63 : decode cX9_readCalls 63 = .ok (.invokevirtual 187, 3) := by decide +kernel
theorem dX9_readCalls_66 : decode cX9_readCalls 66 = .ok (.ireturn, 1) := by decide +kernel
theorem dX9_takeAll_0 : decode cX9_takeAll 0 = .ok (.iconst 0, 1) := by decide +kernel
theorem dX9_takeAll_1 : decode cX9_takeAll 1 = .ok (.istore_n 2, 1) := by decide +kernel
theorem dX9_takeAll_2 : decode cX9_takeAll 2 = .ok (.iload_n 2, 1) := by decide +kernel
theorem dX9_takeAll_3 : decode cX9_takeAll 3 = .ok (.aload_n 0, 1) := by decide +kernel
theorem dX9_takeAll_4 : decode cX9_takeAll 4 = .ok (.getfield 29, 3) := by decide +kernel
theorem dX9_takeAll_7 : decode cX9_takeAll 7 = .ok (.invokevirtual 187, 3) := by decide +kernel
theorem dX9_takeAll_10 : decode cX9_takeAll 10 = .ok (.if_icmp .ge 70, 3) := by decide +kernel
theorem dX9_takeAll_13 : decode cX9_takeAll 13 = .ok (.aload_n 0, 1) := by decide +kernel
theorem dX9_takeAll_14 : decode cX9_takeAll 14 = .ok (.getfield 29, 3) := by decide +kernel
theorem dX9_takeAll_17 : decode cX9_takeAll 17 = .ok (.iload_n 2, 1) := by decide +kernel
theorem dX9_takeAll_18 : decode cX9_takeAll 18 = .ok (.iconst 0, 1) := by decide +kernel
theorem dX9_takeAll_19 : decode cX9_takeAll 19 = .ok (.invokevirtual 189, 3) := by decide +kernel
theorem dX9_takeAll_22 : decode cX9_takeAll 22 = .ok (.istore_n 3, 1) := by decide +kernel
theorem dX9_takeAll_23 : decode cX9_takeAll 23 = .ok (.aload_n 0, 1) := by decide +kernel
theorem dX9_takeAll_24 : decode cX9_takeAll 24 = .ok (.getfield 29, 3) := by decide +kernel
theorem dX9_takeAll_27 : decode cX9_takeAll 27 = .ok (.iload_n 2, 1) := by decide +kernel
theorem dX9_takeAll_28 : decode cX9_takeAll 28 = .ok (.iconst 1, 1) := by decide +kernel
theorem dX9_takeAll_29 : decode cX9_takeAll 29 = .ok (.invokevirtual 189, 3) := by decide +kernel
theorem dX9_takeAll_32 : decode cX9_takeAll 32 = .ok (.istore 4, 2) := by decide +kernel
theorem dX9_takeAll_34 : decode cX9_takeAll 34 = .ok (.aload_n 0, 1) := by decide +kernel
theorem dX9_takeAll_35 : decode cX9_takeAll 35 = .ok (.getfield 29, 3) := by decide +kernel
theorem dX9_takeAll_38 : decode cX9_takeAll 38 = .ok (.iload_n 2, 1) := by decide +kernel
theorem dX9_takeAll_39 : decode cX9_takeAll 39 = .ok (.iconst 2, 1) := by decide +kernel
theorem dX9_takeAll_40 : decode cX9_takeAll 40 = .ok (.invokevirtual 189, 3) := by decide +kernel
theorem dX9_takeAll_43 : decode cX9_takeAll 43 = .ok (.istore 5, 2) := by decide +kernel
theorem dX9_takeAll_45 : decode cX9_takeAll 45 = .ok (.aload_n 1, 1) := by decide +kernel
theorem dX9_takeAll_46 : decode cX9_takeAll 46 = .ok (.iload_n 3, 1) := by decide +kernel
theorem dX9_takeAll_47 : decode cX9_takeAll 47 = .ok (.iload 4, 2) := by decide +kernel
theorem dX9_takeAll_49 : decode cX9_takeAll 49 = .ok (.iload 5, 2) := by decide +kernel
theorem dX9_takeAll_51 : decode cX9_takeAll 51 = .ok (.invokevirtual 88, 3) := by decide +kernel
theorem dX9_takeAll_54 : decode cX9_takeAll 54 = .ok (.istore 6, 2) := by decide +kernel
theorem dX9_takeAll_56 : decode cX9_takeAll 56 = .ok (.iload 6, 2) := by decide +kernel
theorem dX9_takeAll_58 : decode cX9_takeAll 58 = .ok (.ifCond .eq 6, 3) := by decide +kernel
theorem dX9_takeAll_61 : decode cX9_takeAll 61 = .ok (.iload 6, 2) := by decide +kernel
theorem dX9_takeAll_63 : decode cX9_takeAll 63 = .ok (.ireturn, 1) := by decide +kernel
theorem dX9_takeAll_64 : decode cX9_takeAll 64 = .ok (.aload_n 1, 1) := by decide +kernel
theorem dX9_takeAll_65 : decode cX9_takeAll 65 = .ok (.iload_n 3, 1) := by decide +kernel
theorem dX9_takeAll_66 : decode cX9_takeAll 66 = .ok (.iload 4, 2) := by decide +kernel
theorem dX9_takeAll_68 : decode cX9_takeAll 68 = .ok (.iload 5, 2) := by decide +kernel
theorem dX9_takeAll_70 : decode cX9_takeAll 70 = .ok (.invokevirtual 91, 3) := by decide +kernel
theorem dX9_takeAll_73 : decode cX9_takeAll 73 = .ok (.pop, 1) := by decide +kernel
theorem dX9_takeAll_74 : decode cX9_takeAll 74 = .ok (.iinc 2 1, 3) := by decide +kernel
theorem dX9_takeAll_77 : decode cX9_takeAll 77 = .ok (.goto (-75), 3) := by decide +kernel
theorem dX9_takeAll_80 : decode cX9_takeAll 80 = .ok (.iconst 0, 1) := by decide +kernel
theorem dX9_takeAll_81 : decode cX9_takeAll 81 = .ok (.ireturn, 1) := by decide +kernel
theorem dX9_undo_0 : decode cX9_undo 0 = .ok (.aload_n 0, 1) := by decide +kernel
theorem dX9_undo_1 : decode cX9_undo 1 = .ok (.getfield 192, 3) := by decide +kernel
theorem dX9_undo_4 : decode cX9_undo 4 = .ok (.iconst 1, 1) := by decide +kernel
theorem dX9_undo_5 : decode cX9_undo 5 = .ok (.if_icmp .lt 11, 3) := by decide +kernel
theorem dX9_undo_8 : decode cX9_undo 8 = .ok (.aload_n 0, 1) := by decide +kernel
theorem dX9_undo_9 : decode cX9_undo 9 = .ok (.getfield 192, 3) := by decide +kernel
theorem dX9_undo_12 : decode cX9_undo 12 = .ok (.iconst 4, 1) := by decide +kernel
theorem dX9_undo_13 : decode cX9_undo 13 = .ok (.if_icmp .le 6, 3) := by decide +kernel
theorem dX9_undo_16 : decode cX9_undo 16 = .ok (.bipush (-5), 2) := by decide +kernel
theorem dX9_undo_18 : decode cX9_undo 18 = .ok (.ireturn, 1) := by decide +kernel
theorem dX9_undo_19 : decode cX9_undo 19 = .ok (.aload_n 0, 1) := by decide +kernel
theorem dX9_undo_20 : decode cX9_undo 20 = .ok (.dup, 1) := by decide +kernel
theorem dX9_undo_21 : decode cX9_undo 21 = .ok (.getfield 192, 3) := by decide +kernel
theorem dX9_undo_24 : decode cX9_undo 24 = .ok (.iconst 1, 1) := by decide +kernel
theorem dX9_undo_25 : decode cX9_undo 25 = .ok (.isub, 1) := by decide +kernel
theorem dX9_undo_26 : decode cX9_undo 26 = .ok (.putfield 192, 3) := by decide +kernel
theorem dX9_undo_29 : decode cX9_undo 29 = .ok (.aload_n 0, 1) := by decide +kernel
theorem dX9_undo_30 : decode cX9_undo 30 = .ok (.getfield 10, 3) := by decide +kernel
theorem dX9_undo_33 : decode cX9_undo 33 = .ok (.aload_n 0, 1) := by decide +kernel
theorem dX9_undo_34 : decode cX9_undo 34 = .ok (.getfield 22, 3) := by decide +kernel
theorem dX9_undo_37 : decode cX9_undo 37 = .ok (.aload_n 0, 1) := by decide +kernel
theorem dX9_undo_38 : decode cX9_undo 38 = .ok (.getfield 192, 3) := by decide +kernel
theorem dX9_undo_41 : decode cX9_undo 41 = .ok (.aaload, 1) := by decide +kernel
theorem dX9_undo_42 : decode cX9_undo 42 = .ok (.invokevirtual 180, 3) := by decide +kernel
theorem dX9_undo_45 : decode cX9_undo 45 = .ok (.aload_n 0, 1) := by decide +kernel
theorem dX9_undo_46 : decode cX9_undo 46 = .ok (.getfield 192, 3) := by decide +kernel
theorem dX9_undo_49 : decode cX9_undo 49 = .ok (.ireturn, 1) := by decide +kernel
theorem dX9_keep_0 : decode cX9_keep 0 = .ok (.aload_n 0, 1) := by decide +kernel
theorem dX9_keep_1 : decode cX9_keep 1 = .ok (.getfield 16, 3) := by decide +kernel
theorem dX9_keep_4 : decode cX9_keep 4 = .ok (.aload_n 0, 1) := by decide +kernel
theorem dX9_keep_5 : decode cX9_keep 5 = .ok (.getfield 10, 3) := by decide +kernel
theorem dX9_keep_8 : decode cX9_keep 8 = .ok (.invokevirtual 180, 3) := by decide +kernel
theorem dX9_keep_11 : decode cX9_keep 11 = .ok (.aload_n 0, 1) := by decide +kernel
theorem dX9_keep_12 : decode cX9_keep 12 = .ok (.iconst 1, 1) := by decide +kernel
theorem dX9_keep_13 : decode cX9_keep 13 = .ok (.putfield 195, 3) := by decide +kernel
theorem dX9_keep_16 : decode cX9_keep 16 = .ok (.aload_n 0, 1) := by decide +kernel
theorem dX9_keep_17 : decode cX9_keep 17 = .ok (.getfield 10, 3) := by decide +kernel
theorem dX9_keep_20 : decode cX9_keep 20 = .ok (.getfield 122, 3) := by decide +kernel
theorem dX9_keep_23 : decode cX9_keep 23 = .ok (.ireturn, 1) := by decide +kernel
theorem dX9_restore_0 : decode cX9_restore 0 = .ok (.aload_n 0, 1) := by decide +kernel
theorem dX9_restore_1 : decode cX9_restore 1 = .ok (.getfield 195, 3) := by decide +kernel
theorem dX9_restore_4 : decode cX9_restore 4 = .ok (.ifCond .ne 6, 3) := by decide +kernel
theorem dX9_restore_7 : decode cX9_restore 7 = .ok (.bipush (-5), 2) := by decide +kernel
theorem dX9_restore_9 : decode cX9_restore 9 = .ok (.ireturn, 1) := by decide +kernel
theorem dX9_restore_10 : decode cX9_restore 10 = .ok (.aload_n 0, 1) := by decide +kernel
theorem dX9_restore_11 : decode cX9_restore 11 = .ok (.invokevirtual 51, 3) := by decide +kernel
theorem dX9_restore_14 : decode cX9_restore 14 = .ok (.aload_n 0, 1) := by decide +kernel
theorem dX9_restore_15 : decode cX9_restore 15 = .ok (.getfield 10, 3) := by decide +kernel
theorem dX9_restore_18 : decode cX9_restore 18 = .ok (.aload_n 0, 1) := by decide +kernel
theorem dX9_restore_19 : decode cX9_restore 19 = .ok (.getfield 16, 3) := by decide +kernel
theorem dX9_restore_22 : decode cX9_restore 22 = .ok (.invokevirtual 180, 3) := by decide +kernel
theorem dX9_restore_25 : decode cX9_restore 25 = .ok (.aload_n 0, 1) := by decide +kernel
theorem dX9_restore_26 : decode cX9_restore 26 = .ok (.getfield 10, 3) := by decide +kernel
theorem dX9_restore_29 : decode cX9_restore 29 = .ok (.getfield 122, 3) := by decide +kernel
theorem dX9_restore_32 : decode cX9_restore 32 = .ok (.ireturn, 1) := by decide +kernel
theorem dX9_record_0 : decode cX9_record 0 = .ok (.aload_n 0, 1) := by decide +kernel
theorem dX9_record_1 : decode cX9_record 1 = .ok (.getfield 192, 3) := by decide +kernel
theorem dX9_record_4 : decode cX9_record 4 = .ok (.iconst 4, 1) := by decide +kernel
theorem dX9_record_5 : decode cX9_record 5 = .ok (.if_icmp .lt 49, 3) := by decide +kernel
theorem dX9_record_8 : decode cX9_record 8 = .ok (.aload_n 0, 1) := by decide +kernel
theorem dX9_record_9 : decode cX9_record 9 = .ok (.getfield 22, 3) := by decide +kernel
theorem dX9_record_12 : decode cX9_record 12 = .ok (.iconst 0, 1) := by decide +kernel
theorem dX9_record_13 : decode cX9_record 13 = .ok (.aaload, 1) := by decide +kernel
theorem dX9_record_14 : decode cX9_record 14 = .ok (.astore_n 1, 1) := by decide +kernel
theorem dX9_record_15 : decode cX9_record 15 = .ok (.iconst 1, 1) := by decide +kernel
theorem dX9_record_16 : decode cX9_record 16 = .ok (.istore_n 2, 1) := by decide +kernel
theorem dX9_record_17 : decode cX9_record 17 = .ok (.iload_n 2, 1) := by decide +kernel
theorem dX9_record_18 : decode cX9_record 18 = .ok (.iconst 4, 1) := by decide +kernel
theorem dX9_record_19 : decode cX9_record 19 = .ok (.if_icmp .ge 23, 3) := by decide +kernel
theorem dX9_record_22 : decode cX9_record 22 = .ok (.aload_n 0, 1) := by decide +kernel
theorem dX9_record_23 : decode cX9_record 23 = .ok (.getfield 22, 3) := by decide +kernel
theorem dX9_record_26 : decode cX9_record 26 = .ok (.iload_n 2, 1) := by decide +kernel
theorem dX9_record_27 : decode cX9_record 27 = .ok (.iconst 1, 1) := by decide +kernel
theorem dX9_record_28 : decode cX9_record 28 = .ok (.isub, 1) := by decide +kernel
theorem dX9_record_29 : decode cX9_record 29 = .ok (.aload_n 0, 1) := by decide +kernel
theorem dX9_record_30 : decode cX9_record 30 = .ok (.getfield 22, 3) := by decide +kernel
theorem dX9_record_33 : decode cX9_record 33 = .ok (.iload_n 2, 1) := by decide +kernel
theorem dX9_record_34 : decode cX9_record 34 = .ok (.aaload, 1) := by decide +kernel
theorem dX9_record_35 : decode cX9_record 35 = .ok (.aastore, 1) := by decide +kernel
theorem dX9_record_36 : decode cX9_record 36 = .ok (.iinc 2 1, 3) := by decide +kernel
theorem dX9_record_39 : decode cX9_record 39 = .ok (.goto (-22), 3) := by decide +kernel
theorem dX9_record_42 : decode cX9_record 42 = .ok (.aload_n 0, 1) := by decide +kernel
theorem dX9_record_43 : decode cX9_record 43 = .ok (.getfield 22, 3) := by decide +kernel
theorem dX9_record_46 : decode cX9_record 46 = .ok (.iconst 3, 1) := by decide +kernel
theorem dX9_record_47 : decode cX9_record 47 = .ok (.aload_n 1, 1) := by decide +kernel
theorem dX9_record_48 : decode cX9_record 48 = .ok (.aastore, 1) := by decide +kernel
theorem dX9_record_49 : decode cX9_record 49 = .ok (.aload_n 0, 1) := by decide +kernel
theorem dX9_record_50 : decode cX9_record 50 = .ok (.iconst 3, 1) := by decide +kernel
theorem dX9_record_51 : decode cX9_record 51 = .ok (.putfield 192, 3) := by decide +kernel
theorem dX9_record_54 : decode cX9_record 54 = .ok (.aload_n 0, 1) := by decide +kernel
theorem dX9_record_55 : decode cX9_record 55 = .ok (.getfield 22, 3) := by decide +kernel
theorem dX9_record_58 : decode cX9_record 58 = .ok (.aload_n 0, 1) := by decide +kernel
theorem dX9_record_59 : decode cX9_record 59 = .ok (.getfield 192, 3) := by decide +kernel
theorem dX9_record_62 : decode cX9_record 62 = .ok (.aaload, 1) := by decide +kernel
theorem dX9_record_63 : decode cX9_record 63 = .ok (.aload_n 0, 1) := by decide +kernel
theorem dX9_record_64 : decode cX9_record 64 = .ok (.getfield 10, 3) := by decide +kernel
theorem dX9_record_67 : decode cX9_record 67 = .ok (.invokevirtual 180, 3) := by decide +kernel
theorem dX9_record_70 : decode cX9_record 70 = .ok (.aload_n 0, 1) := by decide +kernel
theorem dX9_record_71 : decode cX9_record 71 = .ok (.dup, 1) := by decide +kernel
theorem dX9_record_72 : decode cX9_record 72 = .ok (.getfield 192, 3) := by decide +kernel
theorem dX9_record_75 : decode cX9_record 75 = .ok (.iconst 1, 1) := by decide +kernel
theorem dX9_record_76 : decode cX9_record 76 = .ok (.iadd, 1) := by decide +kernel
theorem dX9_record_77 : decode cX9_record 77 = .ok (.putfield 192, 3) := by decide +kernel
theorem dX9_record_80 : decode cX9_record 80 = .ok (.return_, 1) := by decide +kernel
theorem dX9_distance_0 : decode cX9_distance 0 = .ok (.iload_n 1, 1) := by decide +kernel
theorem dX9_distance_1 : decode cX9_distance 1 = .ok (.invokestatic 33, 3) := by decide +kernel
theorem dX9_distance_4 : decode cX9_distance 4 = .ok (.ifCond .eq 10, 3) := by decide +kernel
theorem dX9_distance_7 : decode cX9_distance 7 = .ok (.iload_n 2, 1) := by decide +kernel
theorem dX9_distance_8 : decode cX9_distance 8 = .ok (.invokestatic 33, 3) := by decide +kernel
theorem dX9_distance_11 : decode cX9_distance 11 = .ok (.ifCond .ne 5, 3) := by decide +kernel
theorem dX9_distance_14 : decode cX9_distance 14 = .ok (.iconst (-1), 1) := by decide +kernel
theorem dX9_distance_15 : decode cX9_distance 15 = .ok (.ireturn, 1) := by decide +kernel
theorem dX9_distance_16 : decode cX9_distance 16 = .ok (.aload_n 0, 1) := by decide +kernel
theorem dX9_distance_17 : decode cX9_distance 17 = .ok (.getfield 10, 3) := by decide +kernel
theorem dX9_distance_20 : decode cX9_distance 20 = .ok (.getfield 37, 3) := by decide +kernel
theorem dX9_distance_23 : decode cX9_distance 23 = .ok (.iload_n 1, 1) := by decide +kernel
theorem dX9_distance_24 : decode cX9_distance 24 = .ok (.iload_n 2, 1) := by decide +kernel
theorem dX9_distance_25 : decode cX9_distance 25 = .ok (.invokevirtual 148, 3) := by decide +kernel
theorem dX9_distance_28 : decode cX9_distance 28 = .ok (.istore_n 3, 1) := by decide +kernel
theorem dX9_distance_29 : decode cX9_distance 29 = .ok (.iload_n 3, 1) := by decide +kernel
theorem dX9_distance_30 : decode cX9_distance 30 = .ok (.ldc 151, 2) := by decide +kernel
theorem dX9_distance_32 : decode cX9_distance 32 = .ok (.if_icmp .ge 7, 3) := by decide +kernel
theorem dX9_distance_35 : decode cX9_distance 35 = .ok (.iload_n 3, 1) := by decide +kernel
theorem dX9_distance_36 : decode cX9_distance 36 = .ok (.goto 5, 3) := by decide +kernel
theorem dX9_distance_39 : decode cX9_distance 39 = .ok (.bipush (-5), 2) := by decide +kernel
theorem dX9_distance_41 : decode cX9_distance 41 = .ok (.ireturn, 1) := by decide +kernel
theorem dX9_wayAt_0 : decode cX9_wayAt 0 = .ok (.iload_n 1, 1) := by decide +kernel
theorem dX9_wayAt_1 : decode cX9_wayAt 1 = .ok (.invokestatic 33, 3) := by decide +kernel
theorem dX9_wayAt_4 : decode cX9_wayAt 4 = .ok (.ifCond .eq 10, 3) := by decide +kernel
theorem dX9_wayAt_7 : decode cX9_wayAt 7 = .ok (.iload_n 2, 1) := by decide +kernel
theorem dX9_wayAt_8 : decode cX9_wayAt 8 = .ok (.invokestatic 33, 3) := by decide +kernel
theorem dX9_wayAt_11 : decode cX9_wayAt 11 = .ok (.ifCond .ne 5, 3) := by decide +kernel
theorem dX9_wayAt_14 : decode cX9_wayAt 14 = .ok (.iconst (-1), 1) := by decide +kernel
theorem dX9_wayAt_15 : decode cX9_wayAt 15 = .ok (.ireturn, 1) := by decide +kernel
theorem dX9_wayAt_16 : decode cX9_wayAt 16 = .ok (.iload_n 3, 1) := by decide +kernel
theorem dX9_wayAt_17 : decode cX9_wayAt 17 = .ok (.ifCond .ge 6, 3) := by decide +kernel
theorem dX9_wayAt_20 : decode cX9_wayAt 20 = .ok (.bipush (-2), 2) := by decide +kernel
theorem dX9_wayAt_22 : decode cX9_wayAt 22 = .ok (.ireturn, 1) := by decide +kernel
theorem dX9_wayAt_23 : decode cX9_wayAt 23 = .ok (.iload_n 3, 1) := by decide +kernel
theorem dX9_wayAt_24 : decode cX9_wayAt 24 = .ok (.bipush 12, 2) := by decide +kernel
theorem dX9_wayAt_26 : decode cX9_wayAt 26 = .ok (.if_icmp .ge 20, 3) := by decide +kernel
theorem dX9_wayAt_29 : decode cX9_wayAt 29 = .ok (.aload_n 0, 1) := by decide +kernel
theorem dX9_wayAt_30 : decode cX9_wayAt 30 = .ok (.getfield 10, 3) := by decide +kernel
theorem dX9_wayAt_33 : decode cX9_wayAt 33 = .ok (.getfield 37, 3) := by decide +kernel
theorem dX9_wayAt_36 : decode cX9_wayAt 36 = .ok (.iload_n 1, 1) := by decide +kernel
theorem dX9_wayAt_37 : decode cX9_wayAt 37 = .ok (.iload_n 2, 1) := by decide +kernel
theorem dX9_wayAt_38 : decode cX9_wayAt 38 = .ok (.invokevirtual 148, 3) := by decide +kernel
theorem dX9_wayAt_41 : decode cX9_wayAt 41 = .ok (.ldc 151, 2) := by decide +kernel
theorem dX9_wayAt_43 : decode cX9_wayAt 43 = .ok (.if_icmp .lt 6, 3) := by decide +kernel
theorem dX9_wayAt_46 : decode cX9_wayAt 46 = .ok (.bipush (-5), 2) := by decide +kernel
theorem dX9_wayAt_48 : decode cX9_wayAt 48 = .ok (.ireturn, 1) := by decide +kernel
theorem dX9_wayAt_49 : decode cX9_wayAt 49 = .ok (.iload_n 1, 1) := by decide +kernel
theorem dX9_wayAt_50 : decode cX9_wayAt 50 = .ok (.istore 4, 2) := by decide +kernel
theorem dX9_wayAt_52 : decode cX9_wayAt 52 = .ok (.iconst 0, 1) := by decide +kernel
theorem dX9_wayAt_53 : decode cX9_wayAt 53 = .ok (.istore 5, 2) := by decide +kernel
theorem dX9_wayAt_55 : decode cX9_wayAt 55 = .ok (.iload 5, 2) := by decide +kernel
theorem dX9_wayAt_57 : decode cX9_wayAt 57 = .ok (.iload_n 3, 1) := by decide +kernel
theorem dX9_wayAt_58 : decode cX9_wayAt 58 = .ok (.if_icmp .ge 31, 3) := by decide +kernel
theorem dX9_wayAt_61 : decode cX9_wayAt 61 = .ok (.iload 4, 2) := by decide +kernel
theorem dX9_wayAt_63 : decode cX9_wayAt 63 = .ok (.bipush (-5), 2) := by decide +kernel
theorem dX9_wayAt_65 : decode cX9_wayAt 65 = .ok (.if_icmp .eq 24, 3) := by decide +kernel
theorem dX9_wayAt_68 : decode cX9_wayAt 68 = .ok (.aload_n 0, 1) := by decide +kernel
theorem dX9_wayAt_69 : decode cX9_wayAt 69 = .ok (.getfield 10, 3) := by decide +kernel
theorem dX9_wayAt_72 : decode cX9_wayAt 72 = .ok (.getfield 37, 3) := by decide +kernel
theorem dX9_wayAt_75 : decode cX9_wayAt 75 = .ok (.iload 4, 2) := by decide +kernel
theorem dX9_wayAt_77 : decode cX9_wayAt 77 = .ok (.iload_n 2, 1) := by decide +kernel
theorem dX9_wayAt_78 : decode cX9_wayAt 78 = .ok (.invokevirtual 199, 3) := by decide +kernel
theorem dX9_wayAt_81 : decode cX9_wayAt 81 = .ok (.istore 4, 2) := by decide +kernel
theorem dX9_wayAt_83 : decode cX9_wayAt 83 = .ok (.iinc 5 1, 3) := by decide +kernel
theorem dX9_wayAt_86 : decode cX9_wayAt 86 = .ok (.goto (-31), 3) := by decide +kernel
theorem dX9_wayAt_89 : decode cX9_wayAt 89 = .ok (.iload 4, 2) := by decide +kernel
theorem dX9_wayAt_91 : decode cX9_wayAt 91 = .ok (.ireturn, 1) := by decide +kernel
theorem dX9_member_0 : decode cX9_member 0 = .ok (.aload_n 0, 1) := by decide +kernel
theorem dX9_member_1 : decode cX9_member 1 = .ok (.getfield 10, 3) := by decide +kernel
theorem dX9_member_4 : decode cX9_member 4 = .ok (.iload_n 1, 1) := by decide +kernel
theorem dX9_member_5 : decode cX9_member 5 = .ok (.invokevirtual 202, 3) := by decide +kernel
theorem dX9_member_8 : decode cX9_member 8 = .ok (.ifCond .ne 5, 3) := by decide +kernel
theorem dX9_member_11 : decode cX9_member 11 = .ok (.iconst (-1), 1) := by decide +kernel
theorem dX9_member_12 : decode cX9_member 12 = .ok (.ireturn, 1) := by decide +kernel
theorem dX9_member_13 : decode cX9_member 13 = .ok (.iload_n 2, 1) := by decide +kernel
theorem dX9_member_14 : decode cX9_member 14 = .ok (.tableswitch 125 0 6 #[42, 52, 62, 71, 81, 105, 115], 42) := by decide +kernel
theorem dX9_member_56 : decode cX9_member 56 = .ok (.aload_n 0, 1) := by decide +kernel
theorem dX9_member_57 : decode cX9_member 57 = .ok (.getfield 10, 3) := by decide +kernel
theorem dX9_member_60 : decode cX9_member 60 = .ok (.getfield 205, 3) := by decide +kernel
theorem dX9_member_63 : decode cX9_member 63 = .ok (.iload_n 1, 1) := by decide +kernel
theorem dX9_member_64 : decode cX9_member 64 = .ok (.iaload, 1) := by decide +kernel
theorem dX9_member_65 : decode cX9_member 65 = .ok (.ireturn, 1) := by decide +kernel
theorem dX9_member_66 : decode cX9_member 66 = .ok (.aload_n 0, 1) := by decide +kernel
theorem dX9_member_67 : decode cX9_member 67 = .ok (.getfield 10, 3) := by decide +kernel
theorem dX9_member_70 : decode cX9_member 70 = .ok (.iconst 0, 1) := by decide +kernel
theorem dX9_member_71 : decode cX9_member 71 = .ok (.iload_n 1, 1) := by decide +kernel
theorem dX9_member_72 : decode cX9_member 72 = .ok (.invokestatic 208, 3) := by decide +kernel
theorem dX9_member_75 : decode cX9_member 75 = .ok (.ireturn, 1) := by decide +kernel
theorem dX9_member_76 : decode cX9_member 76 = .ok (.aload_n 0, 1) := by decide +kernel
theorem dX9_member_77 : decode cX9_member 77 = .ok (.getfield 10, 3) := by decide +kernel
theorem dX9_member_80 : decode cX9_member 80 = .ok (.iload_n 1, 1) := by decide +kernel
theorem dX9_member_81 : decode cX9_member 81 = .ok (.invokevirtual 214, 3) := by decide +kernel
theorem dX9_member_84 : decode cX9_member 84 = .ok (.ireturn, 1) := by decide +kernel
theorem dX9_member_85 : decode cX9_member 85 = .ok (.aload_n 0, 1) := by decide +kernel
theorem dX9_member_86 : decode cX9_member 86 = .ok (.getfield 10, 3) := by decide +kernel
theorem dX9_member_89 : decode cX9_member 89 = .ok (.iconst 1, 1) := by decide +kernel
theorem dX9_member_90 : decode cX9_member 90 = .ok (.iload_n 1, 1) := by decide +kernel
theorem dX9_member_91 : decode cX9_member 91 = .ok (.invokestatic 208, 3) := by decide +kernel
theorem dX9_member_94 : decode cX9_member 94 = .ok (.ireturn, 1) := by decide +kernel
theorem dX9_member_95 : decode cX9_member 95 = .ok (.sipush 1000, 3) := by decide +kernel
theorem dX9_member_98 : decode cX9_member 98 = .ok (.aload_n 0, 1) := by decide +kernel
theorem dX9_member_99 : decode cX9_member 99 = .ok (.getfield 10, 3) := by decide +kernel
theorem dX9_member_102 : decode cX9_member 102 = .ok (.iconst 2, 1) := by decide +kernel
theorem dX9_member_103 : decode cX9_member 103 = .ok (.iload_n 1, 1) := by decide +kernel
theorem dX9_member_104 : decode cX9_member 104 = .ok (.invokestatic 208, 3) := by decide +kernel
theorem dX9_member_107 : decode cX9_member 107 = .ok (.iadd, 1) := by decide +kernel
theorem dX9_member_108 : decode cX9_member 108 = .ok (.aload_n 0, 1) := by decide +kernel
theorem dX9_member_109 : decode cX9_member 109 = .ok (.getfield 10, 3) := by decide +kernel
theorem dX9_member_112 : decode cX9_member 112 = .ok (.iconst 3, 1) := by decide +kernel
theorem dX9_member_113 : decode cX9_member 113 = .ok (.iload_n 1, 1) := by decide +kernel
theorem dX9_member_114 : decode cX9_member 114 = .ok (.invokestatic 208, 3) := by decide +kernel
theorem dX9_member_117 : decode cX9_member 117 = .ok (.isub, 1) := by decide +kernel
theorem dX9_member_118 : decode cX9_member 118 = .ok (.ireturn, 1) := by decide +kernel
theorem dX9_member_119 : decode cX9_member 119 = .ok (.aload_n 0, 1) := by decide +kernel
theorem dX9_member_120 : decode cX9_member 120 = .ok (.getfield 10, 3) := by decide +kernel
theorem dX9_member_123 : decode cX9_member 123 = .ok (.iconst 4, 1) := by decide +kernel
theorem dX9_member_124 : decode cX9_member 124 = .ok (.iload_n 1, 1) := by decide +kernel
theorem dX9_member_125 : decode cX9_member 125 = .ok (.invokestatic 208, 3) := by decide +kernel
theorem dX9_member_128 : decode cX9_member 128 = .ok (.ireturn, 1) := by decide +kernel
theorem dX9_member_129 : decode cX9_member 129 = .ok (.aload_n 0, 1) := by decide +kernel
theorem dX9_member_130 : decode cX9_member 130 = .ok (.getfield 10, 3) := by decide +kernel
theorem dX9_member_133 : decode cX9_member 133 = .ok (.iconst 5, 1) := by decide +kernel
theorem dX9_member_134 : decode cX9_member 134 = .ok (.iload_n 1, 1) := by decide +kernel
theorem dX9_member_135 : decode cX9_member 135 = .ok (.invokestatic 208, 3) := by decide +kernel
theorem dX9_member_138 : decode cX9_member 138 = .ok (.ireturn, 1) := by decide +kernel
theorem dX9_member_139 : decode cX9_member 139 = .ok (.bipush (-2), 2) := by decide +kernel
theorem dX9_member_141 : decode cX9_member 141 = .ok (.ireturn, 1) := by decide +kernel
theorem dX9_patrol_0 : decode cX9_patrol 0 = .ok (.aload_n 0, 1) := by decide +kernel
theorem dX9_patrol_1 : decode cX9_patrol 1 = .ok (.getfield 10, 3) := by decide +kernel
theorem dX9_patrol_4 : decode cX9_patrol 4 = .ok (.iload_n 1, 1) := by decide +kernel
theorem dX9_patrol_5 : decode cX9_patrol 5 = .ok (.invokevirtual 110, 3) := by decide +kernel
theorem dX9_patrol_8 : decode cX9_patrol 8 = .ok (.ifCond .ne 5, 3) := by decide +kernel
theorem dX9_patrol_11 : decode cX9_patrol 11 = .ok (.iconst (-1), 1) := by decide +kernel
theorem dX9_patrol_12 : decode cX9_patrol 12 = .ok (.ireturn, 1) := by decide +kernel
theorem dX9_patrol_13 : decode cX9_patrol 13 = .ok (.aload_n 0, 1) := by decide +kernel
theorem dX9_patrol_14 : decode cX9_patrol 14 = .ok (.getfield 10, 3) := by decide +kernel
theorem dX9_patrol_17 : decode cX9_patrol 17 = .ok (.getfield 113, 3) := by decide +kernel
theorem dX9_patrol_20 : decode cX9_patrol 20 = .ok (.iload_n 1, 1) := by decide +kernel
theorem dX9_patrol_21 : decode cX9_patrol 21 = .ok (.aaload, 1) := by decide +kernel
theorem dX9_patrol_22 : decode cX9_patrol 22 = .ok (.astore_n 3, 1) := by decide +kernel
theorem dX9_patrol_23 : decode cX9_patrol 23 = .ok (.iload_n 2, 1) := by decide +kernel
theorem dX9_patrol_24 : decode cX9_patrol 24 = .ok (.tableswitch 132 0 11 #[64, 69, 74, 87, 92, 97, 102, 107, 112, 117, 122, 127], 64) := by decide +kernel
theorem dX9_patrol_88 : decode cX9_patrol 88 = .ok (.aload_n 3, 1) := by decide +kernel
theorem dX9_patrol_89 : decode cX9_patrol 89 = .ok (.getfield 145, 3) := by decide +kernel
theorem dX9_patrol_92 : decode cX9_patrol 92 = .ok (.ireturn, 1) := by decide +kernel
theorem dX9_patrol_93 : decode cX9_patrol 93 = .ok (.aload_n 3, 1) := by decide +kernel
theorem dX9_patrol_94 : decode cX9_patrol 94 = .ok (.getfield 217, 3) := by decide +kernel
theorem dX9_patrol_97 : decode cX9_patrol 97 = .ok (.ireturn, 1) := by decide +kernel
theorem dX9_patrol_98 : decode cX9_patrol 98 = .ok (.aload_n 3, 1) := by decide +kernel
theorem dX9_patrol_99 : decode cX9_patrol 99 = .ok (.getfield 220, 3) := by decide +kernel
theorem dX9_patrol_102 : decode cX9_patrol 102 = .ok (.ifCond .eq 7, 3) := by decide +kernel
theorem dX9_patrol_105 : decode cX9_patrol 105 = .ok (.iconst 1, 1) := by decide +kernel
theorem dX9_patrol_106 : decode cX9_patrol 106 = .ok (.goto 4, 3) := by decide +kernel
theorem dX9_patrol_109 : decode cX9_patrol 109 = .ok (.iconst 0, 1) := by decide +kernel
theorem dX9_patrol_110 : decode cX9_patrol 110 = .ok (.ireturn, 1) := by decide +kernel
theorem dX9_patrol_111 : decode cX9_patrol 111 = .ok (.aload_n 3, 1) := by decide +kernel
theorem dX9_patrol_112 : decode cX9_patrol 112 = .ok (.getfield 135, 3) := by decide +kernel
theorem dX9_patrol_115 : decode cX9_patrol 115 = .ok (.ireturn, 1) := by decide +kernel
theorem dX9_patrol_116 : decode cX9_patrol 116 = .ok (.aload_n 3, 1) := by decide +kernel
theorem dX9_patrol_117 : decode cX9_patrol 117 = .ok (.getfield 142, 3) := by decide +kernel
theorem dX9_patrol_120 : decode cX9_patrol 120 = .ok (.ireturn, 1) := by decide +kernel
theorem dX9_patrol_121 : decode cX9_patrol 121 = .ok (.aload_n 3, 1) := by decide +kernel
theorem dX9_patrol_122 : decode cX9_patrol 122 = .ok (.getfield 223, 3) := by decide +kernel
theorem dX9_patrol_125 : decode cX9_patrol 125 = .ok (.ireturn, 1) := by decide +kernel
theorem dX9_patrol_126 : decode cX9_patrol 126 = .ok (.aload_n 3, 1) := by decide +kernel
theorem dX9_patrol_127 : decode cX9_patrol 127 = .ok (.getfield 226, 3) := by decide +kernel
theorem dX9_patrol_130 : decode cX9_patrol 130 = .ok (.ireturn, 1) := by decide +kernel
theorem dX9_patrol_131 : decode cX9_patrol 131 = .ok (.aload_n 3, 1) := by decide +kernel
theorem dX9_patrol_132 : decode cX9_patrol 132 = .ok (.getfield 229, 3) := by decide +kernel
theorem dX9_patrol_135 : decode cX9_patrol 135 = .ok (.ireturn, 1) := by decide +kernel
theorem dX9_patrol_136 : decode cX9_patrol 136 = .ok (.aload_n 3, 1) := by decide +kernel
theorem dX9_patrol_137 : decode cX9_patrol 137 = .ok (.getfield 232, 3) := by decide +kernel
theorem dX9_patrol_140 : decode cX9_patrol 140 = .ok (.ireturn, 1) := by decide +kernel
theorem dX9_patrol_141 : decode cX9_patrol 141 = .ok (.aload_n 3, 1) := by decide +kernel
theorem dX9_patrol_142 : decode cX9_patrol 142 = .ok (.getfield 235, 3) := by decide +kernel
theorem dX9_patrol_145 : decode cX9_patrol 145 = .ok (.ireturn, 1) := by decide +kernel
theorem dX9_patrol_146 : decode cX9_patrol 146 = .ok (.aload_n 3, 1) := by decide +kernel
theorem dX9_patrol_147 : decode cX9_patrol 147 = .ok (.getfield 238, 3) := by decide +kernel
theorem dX9_patrol_150 : decode cX9_patrol 150 = .ok (.ireturn, 1) := by decide +kernel
theorem dX9_patrol_151 : decode cX9_patrol 151 = .ok (.aload_n 3, 1) := by decide +kernel
theorem dX9_patrol_152 : decode cX9_patrol 152 = .ok (.getfield 241, 3) := by decide +kernel
theorem dX9_patrol_155 : decode cX9_patrol 155 = .ok (.ireturn, 1) := by decide +kernel
theorem dX9_patrol_156 : decode cX9_patrol 156 = .ok (.bipush (-2), 2) := by decide +kernel
theorem dX9_patrol_158 : decode cX9_patrol 158 = .ok (.ireturn, 1) := by decide +kernel
theorem dX9_garage_0 : decode cX9_garage 0 = .ok (.aload_n 0, 1) := by decide +kernel
theorem dX9_garage_1 : decode cX9_garage 1 = .ok (.getfield 10, 3) := by decide +kernel
theorem dX9_garage_4 : decode cX9_garage 4 = .ok (.iload_n 1, 1) := by decide +kernel
theorem dX9_garage_5 : decode cX9_garage 5 = .ok (.invokevirtual 152, 3) := by decide +kernel
theorem dX9_garage_8 : decode cX9_garage 8 = .ok (.ifCond .ne 5, 3) := by decide +kernel
theorem dX9_garage_11 : decode cX9_garage 11 = .ok (.iconst (-1), 1) := by decide +kernel
theorem dX9_garage_12 : decode cX9_garage 12 = .ok (.ireturn, 1) := by decide +kernel
theorem dX9_garage_13 : decode cX9_garage 13 = .ok (.aload_n 0, 1) := by decide +kernel
theorem dX9_garage_14 : decode cX9_garage 14 = .ok (.getfield 10, 3) := by decide +kernel
theorem dX9_garage_17 : decode cX9_garage 17 = .ok (.getfield 155, 3) := by decide +kernel
theorem dX9_garage_20 : decode cX9_garage 20 = .ok (.iload_n 1, 1) := by decide +kernel
theorem dX9_garage_21 : decode cX9_garage 21 = .ok (.aaload, 1) := by decide +kernel
theorem dX9_garage_22 : decode cX9_garage 22 = .ok (.astore_n 3, 1) := by decide +kernel
theorem dX9_garage_23 : decode cX9_garage 23 = .ok (.iload_n 2, 1) := by decide +kernel
theorem dX9_garage_24 : decode cX9_garage 24 = .ok (.tableswitch 61 0 4 #[36, 41, 46, 51, 56], 36) := by decide +kernel
theorem dX9_garage_60 : decode cX9_garage 60 = .ok (.aload_n 3, 1) := by decide +kernel
theorem dX9_garage_61 : decode cX9_garage 61 = .ok (.getfield 244, 3) := by decide +kernel
theorem dX9_garage_64 : decode cX9_garage 64 = .ok (.ireturn, 1) := by decide +kernel
theorem dX9_garage_65 : decode cX9_garage 65 = .ok (.aload_n 3, 1) := by decide +kernel
theorem dX9_garage_66 : decode cX9_garage 66 = .ok (.getfield 245, 3) := by decide +kernel
theorem dX9_garage_69 : decode cX9_garage 69 = .ok (.ireturn, 1) := by decide +kernel
theorem dX9_garage_70 : decode cX9_garage 70 = .ok (.aload_n 3, 1) := by decide +kernel
theorem dX9_garage_71 : decode cX9_garage 71 = .ok (.getfield 159, 3) := by decide +kernel
theorem dX9_garage_74 : decode cX9_garage 74 = .ok (.ireturn, 1) := by decide +kernel
theorem dX9_garage_75 : decode cX9_garage 75 = .ok (.aload_n 3, 1) := by decide +kernel
theorem dX9_garage_76 : decode cX9_garage 76 = .ok (.getfield 248, 3) := by decide +kernel
theorem dX9_garage_79 : decode cX9_garage 79 = .ok (.ireturn, 1) := by decide +kernel
theorem dX9_garage_80 : decode cX9_garage 80 = .ok (.aload_n 3, 1) := by decide +kernel
theorem dX9_garage_81 : decode cX9_garage 81 = .ok (.getfield 251, 3) := by decide +kernel
theorem dX9_garage_84 : decode cX9_garage 84 = .ok (.ireturn, 1) := by decide +kernel
theorem dX9_garage_85 : decode cX9_garage 85 = .ok (.bipush (-2), 2) := by decide +kernel
theorem dX9_garage_87 : decode cX9_garage 87 = .ok (.ireturn, 1) := by decide +kernel
theorem dX9_callOf_0 : decode cX9_callOf 0 = .ok (.aload_n 0, 1) := by decide +kernel
theorem dX9_callOf_1 : decode cX9_callOf 1 = .ok (.getfield 10, 3) := by decide +kernel
theorem dX9_callOf_4 : decode cX9_callOf 4 = .ok (.iload_n 1, 1) := by decide +kernel
theorem dX9_callOf_5 : decode cX9_callOf 5 = .ok (.invokevirtual 94, 3) := by decide +kernel
theorem dX9_callOf_8 : decode cX9_callOf 8 = .ok (.ifCond .ne 5, 3) := by decide +kernel
theorem dX9_callOf_11 : decode cX9_callOf 11 = .ok (.iconst (-1), 1) := by decide +kernel
theorem dX9_callOf_12 : decode cX9_callOf 12 = .ok (.ireturn, 1) := by decide +kernel
theorem dX9_callOf_13 : decode cX9_callOf 13 = .ok (.aload_n 0, 1) := by decide +kernel
theorem dX9_callOf_14 : decode cX9_callOf 14 = .ok (.getfield 10, 3) := by decide +kernel
theorem dX9_callOf_17 : decode cX9_callOf 17 = .ok (.getfield 97, 3) := by decide +kernel
theorem dX9_callOf_20 : decode cX9_callOf 20 = .ok (.iload_n 1, 1) := by decide +kernel
theorem dX9_callOf_21 : decode cX9_callOf 21 = .ok (.aaload, 1) := by decide +kernel
theorem dX9_callOf_22 : decode cX9_callOf 22 = .ok (.astore_n 3, 1) := by decide +kernel
theorem dX9_callOf_23 : decode cX9_callOf 23 = .ok (.iload_n 2, 1) := by decide +kernel
theorem dX9_callOf_24 : decode cX9_callOf 24 = .ok (.tableswitch 176 0 12 #[68, 73, 78, 83, 88, 93, 98, 107, 119, 124, 129, 142, 171], 68) := by decide +kernel
theorem dX9_callOf_92 : decode cX9_callOf 92 = .ok (.aload_n 3, 1) := by decide +kernel
theorem dX9_callOf_93 : decode cX9_callOf 93 = .ok (.getfield 254, 3) := by decide +kernel
theorem dX9_callOf_96 : decode cX9_callOf 96 = .ok (.ireturn, 1) := by decide +kernel
theorem dX9_callOf_97 : decode cX9_callOf 97 = .ok (.aload_n 3, 1) := by decide +kernel
theorem dX9_callOf_98 : decode cX9_callOf 98 = .ok (.getfield 257, 3) := by decide +kernel
theorem dX9_callOf_101 : decode cX9_callOf 101 = .ok (.ireturn, 1) := by decide +kernel
theorem dX9_callOf_102 : decode cX9_callOf 102 = .ok (.aload_n 3, 1) := by decide +kernel
theorem dX9_callOf_103 : decode cX9_callOf 103 = .ok (.getfield 258, 3) := by decide +kernel
theorem dX9_callOf_106 : decode cX9_callOf 106 = .ok (.ireturn, 1) := by decide +kernel
theorem dX9_callOf_107 : decode cX9_callOf 107 = .ok (.aload_n 3, 1) := by decide +kernel
theorem dX9_callOf_108 : decode cX9_callOf 108 = .ok (.getfield 261, 3) := by decide +kernel
theorem dX9_callOf_111 : decode cX9_callOf 111 = .ok (.ireturn, 1) := by decide +kernel
theorem dX9_callOf_112 : decode cX9_callOf 112 = .ok (.aload_n 3, 1) := by decide +kernel
theorem dX9_callOf_113 : decode cX9_callOf 113 = .ok (.getfield 264, 3) := by decide +kernel
theorem dX9_callOf_116 : decode cX9_callOf 116 = .ok (.ireturn, 1) := by decide +kernel
theorem dX9_callOf_117 : decode cX9_callOf 117 = .ok (.aload_n 3, 1) := by decide +kernel
theorem dX9_callOf_118 : decode cX9_callOf 118 = .ok (.getfield 267, 3) := by decide +kernel
theorem dX9_callOf_121 : decode cX9_callOf 121 = .ok (.ireturn, 1) := by decide +kernel
theorem dX9_callOf_122 : decode cX9_callOf 122 = .ok (.aload_n 0, 1) := by decide +kernel
theorem dX9_callOf_123 : decode cX9_callOf 123 = .ok (.getfield 10, 3) := by decide +kernel
theorem dX9_callOf_126 : decode cX9_callOf 126 = .ok (.iload_n 1, 1) := by decide +kernel
theorem dX9_callOf_127 : decode cX9_callOf 127 = .ok (.invokevirtual 107, 3) := by decide +kernel
theorem dX9_callOf_130 : decode cX9_callOf 130 = .ok (.ireturn, 1) := by decide +kernel
theorem dX9_callOf_131 : decode cX9_callOf 131 = .ok (.aload_n 3, 1) := by decide +kernel
theorem dX9_callOf_132 : decode cX9_callOf 132 = .ok (.aload_n 0, 1) := by decide +kernel
theorem dX9_callOf_133 : decode cX9_callOf 133 = .ok (.getfield 10, 3) := by decide +kernel
theorem dX9_callOf_136 : decode cX9_callOf 136 = .ok (.getfield 122, 3) := by decide +kernel
theorem dX9_callOf_139 : decode cX9_callOf 139 = .ok (.invokevirtual 129, 3) := by decide +kernel
theorem dX9_callOf_142 : decode cX9_callOf 142 = .ok (.ireturn, 1) := by decide +kernel
theorem dX9_callOf_143 : decode cX9_callOf 143 = .ok (.aload_n 3, 1) := by decide +kernel
theorem dX9_callOf_144 : decode cX9_callOf 144 = .ok (.getfield 270, 3) := by decide +kernel
theorem dX9_callOf_147 : decode cX9_callOf 147 = .ok (.ireturn, 1) := by decide +kernel
theorem dX9_callOf_148 : decode cX9_callOf 148 = .ok (.aload_n 3, 1) := by decide +kernel
theorem dX9_callOf_149 : decode cX9_callOf 149 = .ok (.getfield 273, 3) := by decide +kernel
theorem dX9_callOf_152 : decode cX9_callOf 152 = .ok (.ireturn, 1) := by decide +kernel
theorem dX9_callOf_153 : decode cX9_callOf 153 = .ok (.aload_n 3, 1) := by decide +kernel
theorem dX9_callOf_154 : decode cX9_callOf 154 = .ok (.getfield 276, 3) := by decide +kernel
theorem dX9_callOf_157 : decode cX9_callOf 157 = .ok (.ifCond .eq 7, 3) := by decide +kernel
theorem dX9_callOf_160 : decode cX9_callOf 160 = .ok (.iconst 1, 1) := by decide +kernel
theorem dX9_callOf_161 : decode cX9_callOf 161 = .ok (.goto 4, 3) := by decide +kernel
theorem dX9_callOf_164 : decode cX9_callOf 164 = .ok (.iconst 0, 1) := by decide +kernel
theorem dX9_callOf_165 : decode cX9_callOf 165 = .ok (.ireturn, 1) := by decide +kernel
theorem dX9_callOf_166 : decode cX9_callOf 166 = .ok (.aload_n 3, 1) := by decide +kernel
theorem dX9_callOf_167 : decode cX9_callOf 167 = .ok (.invokevirtual 101, 3) := by decide +kernel
theorem dX9_callOf_170 : decode cX9_callOf 170 = .ok (.ifCond .eq 22, 3) := by decide +kernel
theorem dX9_callOf_173 : decode cX9_callOf 173 = .ok (.aload_n 3, 1) := by decide +kernel
theorem dX9_callOf_174 : decode cX9_callOf 174 = .ok (.invokevirtual 279, 3) := by decide +kernel
theorem dX9_callOf_177 : decode cX9_callOf 177 = .ok (.aload_n 0, 1) := by decide +kernel
theorem dX9_callOf_178 : decode cX9_callOf 178 = .ok (.getfield 10, 3) := by decide +kernel
theorem dX9_callOf_181 : decode cX9_callOf 181 = .ok (.getfield 122, 3) := by decide +kernel
theorem dX9_callOf_184 : decode cX9_callOf 184 = .ok (.isub, 1) := by decide +kernel
theorem dX9_callOf_185 : decode cX9_callOf 185 = .ok (.sipush 10000, 3) := by decide +kernel
theorem dX9_callOf_188 : decode cX9_callOf 188 = .ok (.iadd, 1) := by decide +kernel
theorem dX9_callOf_189 : decode cX9_callOf 189 = .ok (.goto 5, 3) := by decide +kernel
theorem dX9_callOf_192 : decode cX9_callOf 192 = .ok (.bipush (-5), 2) := by decide +kernel
theorem dX9_callOf_194 : decode cX9_callOf 194 = .ok (.ireturn, 1) := by decide +kernel
theorem dX9_callOf_195 : decode cX9_callOf 195 = .ok (.aload_n 3, 1) := by decide +kernel
theorem dX9_callOf_196 : decode cX9_callOf 196 = .ok (.getfield 282, 3) := by decide +kernel
theorem dX9_callOf_199 : decode cX9_callOf 199 = .ok (.ireturn, 1) := by decide +kernel
theorem dX9_callOf_200 : decode cX9_callOf 200 = .ok (.bipush (-2), 2) := by decide +kernel
theorem dX9_callOf_202 : decode cX9_callOf 202 = .ok (.ireturn, 1) := by decide +kernel
theorem dX9_waiting_0 : decode cX9_waiting 0 = .ok (.iload_n 1, 1) := by decide +kernel
theorem dX9_waiting_1 : decode cX9_waiting 1 = .ok (.ifCond .ge 6, 3) := by decide +kernel
theorem dX9_waiting_4 : decode cX9_waiting 4 = .ok (.bipush (-2), 2) := by decide +kernel
theorem dX9_waiting_6 : decode cX9_waiting 6 = .ok (.ireturn, 1) := by decide +kernel
theorem dX9_waiting_7 : decode cX9_waiting 7 = .ok (.iload_n 1, 1) := by decide +kernel
theorem dX9_waiting_8 : decode cX9_waiting 8 = .ok (.aload_n 0, 1) := by decide +kernel
theorem dX9_waiting_9 : decode cX9_waiting 9 = .ok (.getfield 10, 3) := by decide +kernel
theorem dX9_waiting_12 : decode cX9_waiting 12 = .ok (.invokestatic 285, 3) := by decide +kernel
theorem dX9_waiting_15 : decode cX9_waiting 15 = .ok (.if_icmp .ge 21, 3) := by decide +kernel
theorem dX9_waiting_18 : decode cX9_waiting 18 = .ok (.iload_n 1, 1) := by decide +kernel
theorem dX9_waiting_19 : decode cX9_waiting 19 = .ok (.bipush 40, 2) := by decide +kernel
theorem dX9_waiting_21 : decode cX9_waiting 21 = .ok (.if_icmp .ge 15, 3) := by decide +kernel
theorem dX9_waiting_24 : decode cX9_waiting 24 = .ok (.aload_n 0, 1) := by decide +kernel
theorem dX9_waiting_25 : decode cX9_waiting 25 = .ok (.getfield 10, 3) := by decide +kernel
theorem dX9_waiting_28 : decode cX9_waiting 28 = .ok (.getfield 290, 3) := by decide +kernel
theorem dX9_waiting_31 : decode cX9_waiting 31 = .ok (.iload_n 1, 1) := by decide +kernel
theorem dX9_waiting_32 : decode cX9_waiting 32 = .ok (.iaload, 1) := by decide +kernel
theorem dX9_waiting_33 : decode cX9_waiting 33 = .ok (.goto 5, 3) := by decide +kernel
theorem dX9_waiting_36 : decode cX9_waiting 36 = .ok (.bipush (-5), 2) := by decide +kernel
theorem dX9_waiting_38 : decode cX9_waiting 38 = .ok (.ireturn, 1) := by decide +kernel
theorem dX9_nearest_0 : decode cX9_nearest 0 = .ok (.aload_n 0, 1) := by decide +kernel
theorem dX9_nearest_1 : decode cX9_nearest 1 = .ok (.getfield 10, 3) := by decide +kernel
theorem dX9_nearest_4 : decode cX9_nearest 4 = .ok (.iload_n 1, 1) := by decide +kernel
theorem dX9_nearest_5 : decode cX9_nearest 5 = .ok (.invokevirtual 94, 3) := by decide +kernel
theorem dX9_nearest_8 : decode cX9_nearest 8 = .ok (.ifCond .ne 5, 3) := by decide +kernel
theorem dX9_nearest_11 : decode cX9_nearest 11 = .ok (.iconst (-1), 1) := by decide +kernel
theorem dX9_nearest_12 : decode cX9_nearest 12 = .ok (.ireturn, 1) := by decide +kernel
theorem dX9_nearest_13 : decode cX9_nearest 13 = .ok (.aload_n 0, 1) := by decide +kernel
theorem dX9_nearest_14 : decode cX9_nearest 14 = .ok (.getfield 10, 3) := by decide +kernel
theorem dX9_nearest_17 : decode cX9_nearest 17 = .ok (.iload_n 1, 1) := by decide +kernel
theorem dX9_nearest_18 : decode cX9_nearest 18 = .ok (.invokestatic 293, 3) := by decide +kernel
theorem dX9_nearest_21 : decode cX9_nearest 21 = .ok (.ifCond .ne 6, 3) := by decide +kernel
theorem dX9_nearest_24 : decode cX9_nearest 24 = .ok (.bipush (-4), 2) := by decide +kernel
theorem dX9_nearest_26 : decode cX9_nearest 26 = .ok (.ireturn, 1) := by decide +kernel
theorem dX9_nearest_27 : decode cX9_nearest 27 = .ok (.aload_n 0, 1) := by decide +kernel
theorem dX9_nearest_28 : decode cX9_nearest 28 = .ok (.getfield 10, 3) := by decide +kernel
theorem dX9_nearest_31 : decode cX9_nearest 31 = .ok (.aload_n 0, 1) := by decide +kernel
theorem dX9_nearest_32 : decode cX9_nearest 32 = .ok (.getfield 10, 3) := by decide +kernel
theorem dX9_nearest_35 : decode cX9_nearest 35 = .ok (.getfield 97, 3) := by decide +kernel
theorem dX9_nearest_38 : decode cX9_nearest 38 = .ok (.iload_n 1, 1) := by decide +kernel
theorem dX9_nearest_39 : decode cX9_nearest 39 = .ok (.aaload, 1) := by decide +kernel
theorem dX9_nearest_40 : decode cX9_nearest 40 = .ok (.invokestatic 297, 3) := by decide +kernel
theorem dX9_nearest_43 : decode cX9_nearest 43 = .ok (.ireturn, 1) := by decide +kernel
theorem dX9_waitFor_0 : decode cX9_waitFor 0 = .ok (.aload_n 0, 1) := by decide +kernel
theorem dX9_waitFor_1 : decode cX9_waitFor 1 = .ok (.getfield 10, 3) := by decide +kernel
theorem dX9_waitFor_4 : decode cX9_waitFor 4 = .ok (.iload_n 1, 1) := by decide +kernel
theorem dX9_waitFor_5 : decode cX9_waitFor 5 = .ok (.invokevirtual 94, 3) := by decide +kernel
theorem dX9_waitFor_8 : decode cX9_waitFor 8 = .ok (.ifCond .ne 5, 3) := by decide +kernel
theorem dX9_waitFor_11 : decode cX9_waitFor 11 = .ok (.iconst (-1), 1) := by decide +kernel
theorem dX9_waitFor_12 : decode cX9_waitFor 12 = .ok (.ireturn, 1) := by decide +kernel
theorem dX9_waitFor_13 : decode cX9_waitFor 13 = .ok (.aload_n 0, 1) := by decide +kernel
theorem dX9_waitFor_14 : decode cX9_waitFor 14 = .ok (.getfield 10, 3) := by decide +kernel
theorem dX9_waitFor_17 : decode cX9_waitFor 17 = .ok (.getfield 97, 3) := by decide +kernel
theorem dX9_waitFor_20 : decode cX9_waitFor 20 = .ok (.iload_n 1, 1) := by decide +kernel
theorem dX9_waitFor_21 : decode cX9_waitFor 21 = .ok (.aaload, 1) := by decide +kernel
theorem dX9_waitFor_22 : decode cX9_waitFor 22 = .ok (.invokevirtual 101, 3) := by decide +kernel
theorem dX9_waitFor_25 : decode cX9_waitFor 25 = .ok (.ifCond .ne 6, 3) := by decide +kernel
theorem dX9_waitFor_28 : decode cX9_waitFor 28 = .ok (.bipush (-4), 2) := by decide +kernel
theorem dX9_waitFor_30 : decode cX9_waitFor 30 = .ok (.ireturn, 1) := by decide +kernel
theorem dX9_waitFor_31 : decode cX9_waitFor 31 = .ok (.aload_n 0, 1) := by decide +kernel
theorem dX9_waitFor_32 : decode cX9_waitFor 32 = .ok (.getfield 19, 3) := by decide +kernel
theorem dX9_waitFor_35 : decode cX9_waitFor 35 = .ok (.aload_n 0, 1) := by decide +kernel
theorem dX9_waitFor_36 : decode cX9_waitFor 36 = .ok (.getfield 10, 3) := by decide +kernel
theorem dX9_waitFor_39 : decode cX9_waitFor 39 = .ok (.invokevirtual 180, 3) := by decide +kernel
theorem dX9_waitFor_42 : decode cX9_waitFor 42 = .ok (.aload_n 0, 1) := by decide +kernel
theorem dX9_waitFor_43 : decode cX9_waitFor 43 = .ok (.getfield 19, 3) := by decide +kernel
theorem dX9_waitFor_46 : decode cX9_waitFor 46 = .ok (.getfield 97, 3) := by decide +kernel
theorem dX9_waitFor_49 : decode cX9_waitFor 49 = .ok (.iload_n 1, 1) := by decide +kernel
theorem dX9_waitFor_50 : decode cX9_waitFor 50 = .ok (.aaload, 1) := by decide +kernel
theorem dX9_waitFor_51 : decode cX9_waitFor 51 = .ok (.astore_n 2, 1) := by decide +kernel
theorem dX9_waitFor_52 : decode cX9_waitFor 52 = .ok (.iconst 0, 1) := by decide +kernel
theorem dX9_waitFor_53 : decode cX9_waitFor 53 = .ok (.istore_n 3, 1) := by decide +kernel
theorem dX9_waitFor_54 : decode cX9_waitFor 54 = .ok (.iload_n 3, 1) := by decide +kernel
theorem dX9_waitFor_55 : decode cX9_waitFor 55 = .ok (.sipush 240, 3) := by decide +kernel
theorem dX9_waitFor_58 : decode cX9_waitFor 58 = .ok (.if_icmp .ge 51, 3) := by decide +kernel
theorem dX9_waitFor_61 : decode cX9_waitFor 61 = .ok (.aload_n 0, 1) := by decide +kernel
theorem dX9_waitFor_62 : decode cX9_waitFor 62 = .ok (.getfield 19, 3) := by decide +kernel
theorem dX9_waitFor_65 : decode cX9_waitFor 65 = .ok (.getfield 122, 3) := by decide +kernel
theorem dX9_waitFor_68 : decode cX9_waitFor 68 = .ok (.sipush 2880, 3) := by decide +kernel
theorem dX9_waitFor_71 : decode cX9_waitFor 71 = .ok (.if_icmp .ge 38, 3) := by decide +kernel
theorem dX9_waitFor_74 : decode cX9_waitFor 74 = .ok (.aload_n 0, 1) := by decide +kernel
theorem dX9_waitFor_75 : decode cX9_waitFor 75 = .ok (.getfield 19, 3) := by decide +kernel
theorem dX9_waitFor_78 : decode cX9_waitFor 78 = .ok (.invokestatic 164, 3) := by decide +kernel
theorem dX9_waitFor_81 : decode cX9_waitFor 81 = .ok (.pop, 1) := by decide +kernel
theorem dX9_waitFor_82 : decode cX9_waitFor 82 = .ok (.aload_n 2, 1) := by decide +kernel
theorem dX9_waitFor_83 : decode cX9_waitFor 83 = .ok (.getfield 270, 3) := by decide +kernel
theorem dX9_waitFor_86 : decode cX9_waitFor 86 = .ok (.bipush (-5), 2) := by decide +kernel
theorem dX9_waitFor_88 : decode cX9_waitFor 88 = .ok (.if_icmp .eq 15, 3) := by decide +kernel
theorem dX9_waitFor_91 : decode cX9_waitFor 91 = .ok (.aload_n 2, 1) := by decide +kernel
theorem dX9_waitFor_92 : decode cX9_waitFor 92 = .ok (.aload_n 0, 1) := by decide +kernel
theorem dX9_waitFor_93 : decode cX9_waitFor 93 = .ok (.getfield 19, 3) := by decide +kernel
theorem dX9_waitFor_96 : decode cX9_waitFor 96 = .ok (.getfield 122, 3) := by decide +kernel
theorem dX9_waitFor_99 : decode cX9_waitFor 99 = .ok (.invokevirtual 129, 3) := by decide +kernel
theorem dX9_waitFor_102 : decode cX9_waitFor 102 = .ok (.ireturn, 1) := by decide +kernel
theorem dX9_waitFor_103 : decode cX9_waitFor 103 = .ok (.iinc 3 1, 3) := by decide +kernel
theorem dX9_waitFor_106 : decode cX9_waitFor 106 = .ok (.goto (-52), 3) := by decide +kernel
theorem dX9_waitFor_109 : decode cX9_waitFor 109 = .ok (.bipush (-5), 2) := by decide +kernel
theorem dX9_waitFor_111 : decode cX9_waitFor 111 = .ok (.ireturn, 1) := by decide +kernel
theorem dX9_count_0 : decode cX9_count 0 = .ok (.iload_n 1, 1) := by decide +kernel
theorem dX9_count_1 : decode cX9_count 1 = .ok (.bipush 7, 2) := by decide +kernel
theorem dX9_count_3 : decode cX9_count 3 = .ok (.if_icmp .lt 21, 3) := by decide +kernel
theorem dX9_count_6 : decode cX9_count 6 = .ok (.iload_n 1, 1) := by decide +kernel
theorem dX9_count_7 : decode cX9_count 7 = .ok (.bipush 15, 2) := by decide +kernel
theorem dX9_count_9 : decode cX9_count 9 = .ok (.if_icmp .ge 15, 3) := by decide +kernel
theorem dX9_count_12 : decode cX9_count 12 = .ok (.aload_n 0, 1) := by decide +kernel
theorem dX9_count_13 : decode cX9_count 13 = .ok (.getfield 10, 3) := by decide +kernel
theorem dX9_count_16 : decode cX9_count 16 = .ok (.iload_n 1, 1) := by decide +kernel
theorem dX9_count_17 : decode cX9_count 17 = .ok (.bipush 7, 2) := by decide +kernel
theorem dX9_count_19 : decode cX9_count 19 = .ok (.isub, 1) := by decide +kernel
theorem dX9_count_20 : decode cX9_count 20 = .ok (.invokevirtual 301, 3) := by decide +kernel
theorem dX9_count_23 : decode cX9_count 23 = .ok (.ireturn, 1) := by decide +kernel
theorem dX9_count_24 : decode cX9_count 24 = .ok (.iload_n 1, 1) := by decide +kernel
theorem dX9_count_25 : decode cX9_count 25 = .ok (.tableswitch 244 0 24 #[115, 123, 131, 142, 150, 158, 166, 244, 244, 244, 244, 244, 244, 244, 244, 174, 183, 192, 201, 210, 210, 210, 223, 231, 236], 115) := by decide +kernel
theorem dX9_count_140 : decode cX9_count 140 = .ok (.aload_n 0, 1) := by decide +kernel
theorem dX9_count_141 : decode cX9_count 141 = .ok (.getfield 10, 3) := by decide +kernel
theorem dX9_count_144 : decode cX9_count 144 = .ok (.getfield 122, 3) := by decide +kernel
theorem dX9_count_147 : decode cX9_count 147 = .ok (.ireturn, 1) := by decide +kernel
theorem dX9_count_148 : decode cX9_count 148 = .ok (.aload_n 0, 1) := by decide +kernel
theorem dX9_count_149 : decode cX9_count 149 = .ok (.getfield 10, 3) := by decide +kernel
theorem dX9_count_152 : decode cX9_count 152 = .ok (.getfield 85, 3) := by decide +kernel
theorem dX9_count_155 : decode cX9_count 155 = .ok (.ireturn, 1) := by decide +kernel
theorem dX9_count_156 : decode cX9_count 156 = .ok (.aload_n 0, 1) := by decide +kernel
theorem dX9_count_157 : decode cX9_count 157 = .ok (.getfield 10, 3) := by decide +kernel
theorem dX9_count_160 : decode cX9_count 160 = .ok (.getfield 37, 3) := by decide +kernel
theorem dX9_count_163 : decode cX9_count 163 = .ok (.getfield 47, 3) := by decide +kernel
theorem dX9_count_166 : decode cX9_count 166 = .ok (.ireturn, 1) := by decide +kernel
theorem dX9_count_167 : decode cX9_count 167 = .ok (.aload_n 0, 1) := by decide +kernel
theorem dX9_count_168 : decode cX9_count 168 = .ok (.getfield 10, 3) := by decide +kernel
theorem dX9_count_171 : decode cX9_count 171 = .ok (.getfield 61, 3) := by decide +kernel
theorem dX9_count_174 : decode cX9_count 174 = .ok (.ireturn, 1) := by decide +kernel
theorem dX9_count_175 : decode cX9_count 175 = .ok (.aload_n 0, 1) := by decide +kernel
theorem dX9_count_176 : decode cX9_count 176 = .ok (.getfield 10, 3) := by decide +kernel
theorem dX9_count_179 : decode cX9_count 179 = .ok (.getfield 68, 3) := by decide +kernel
theorem dX9_count_182 : decode cX9_count 182 = .ok (.ireturn, 1) := by decide +kernel
theorem dX9_count_183 : decode cX9_count 183 = .ok (.aload_n 0, 1) := by decide +kernel
theorem dX9_count_184 : decode cX9_count 184 = .ok (.getfield 10, 3) := by decide +kernel
theorem dX9_count_187 : decode cX9_count 187 = .ok (.getfield 75, 3) := by decide +kernel
theorem dX9_count_190 : decode cX9_count 190 = .ok (.ireturn, 1) := by decide +kernel
theorem dX9_count_191 : decode cX9_count 191 = .ok (.aload_n 0, 1) := by decide +kernel
theorem dX9_count_192 : decode cX9_count 192 = .ok (.getfield 10, 3) := by decide +kernel
theorem dX9_count_195 : decode cX9_count 195 = .ok (.getfield 304, 3) := by decide +kernel
theorem dX9_count_198 : decode cX9_count 198 = .ok (.ireturn, 1) := by decide +kernel
theorem dX9_count_199 : decode cX9_count 199 = .ok (.aload_n 0, 1) := by decide +kernel
theorem dX9_count_200 : decode cX9_count 200 = .ok (.getfield 10, 3) := by decide +kernel
theorem dX9_count_203 : decode cX9_count 203 = .ok (.iconst 1, 1) := by decide +kernel
theorem dX9_count_204 : decode cX9_count 204 = .ok (.invokestatic 307, 3) := by decide +kernel
theorem dX9_count_207 : decode cX9_count 207 = .ok (.ireturn, 1) := by decide +kernel
theorem dX9_count_208 : decode cX9_count 208 = .ok (.aload_n 0, 1) := by decide +kernel
theorem dX9_count_209 : decode cX9_count 209 = .ok (.getfield 10, 3) := by decide +kernel
theorem dX9_count_212 : decode cX9_count 212 = .ok (.iconst 2, 1) := by decide +kernel
theorem dX9_count_213 : decode cX9_count 213 = .ok (.invokestatic 307, 3) := by decide +kernel
theorem dX9_count_216 : decode cX9_count 216 = .ok (.ireturn, 1) := by decide +kernel
theorem dX9_count_217 : decode cX9_count 217 = .ok (.aload_n 0, 1) := by decide +kernel
theorem dX9_count_218 : decode cX9_count 218 = .ok (.getfield 10, 3) := by decide +kernel
theorem dX9_count_221 : decode cX9_count 221 = .ok (.iconst 3, 1) := by decide +kernel
theorem dX9_count_222 : decode cX9_count 222 = .ok (.invokestatic 307, 3) := by decide +kernel
theorem dX9_count_225 : decode cX9_count 225 = .ok (.ireturn, 1) := by decide +kernel
theorem dX9_count_226 : decode cX9_count 226 = .ok (.aload_n 0, 1) := by decide +kernel
theorem dX9_count_227 : decode cX9_count 227 = .ok (.getfield 10, 3) := by decide +kernel
theorem dX9_count_230 : decode cX9_count 230 = .ok (.iconst 4, 1) := by decide +kernel
theorem dX9_count_231 : decode cX9_count 231 = .ok (.invokestatic 307, 3) := by decide +kernel
theorem dX9_count_234 : decode cX9_count 234 = .ok (.ireturn, 1) := by decide +kernel
theorem dX9_count_235 : decode cX9_count 235 = .ok (.aload_n 0, 1) := by decide +kernel
theorem dX9_count_236 : decode cX9_count 236 = .ok (.getfield 10, 3) := by decide +kernel
theorem dX9_count_239 : decode cX9_count 239 = .ok (.getfield 81, 3) := by decide +kernel
theorem dX9_count_242 : decode cX9_count 242 = .ok (.iload_n 1, 1) := by decide +kernel
theorem dX9_count_243 : decode cX9_count 243 = .ok (.bipush 19, 2) := by decide +kernel
theorem dX9_count_245 : decode cX9_count 245 = .ok (.isub, 1) := by decide +kernel
theorem dX9_count_246 : decode cX9_count 246 = .ok (.iaload, 1) := by decide +kernel
theorem dX9_count_247 : decode cX9_count 247 = .ok (.ireturn, 1) := by decide +kernel
theorem dX9_count_248 : decode cX9_count 248 = .ok (.aload_n 0, 1) := by decide +kernel
theorem dX9_count_249 : decode cX9_count 249 = .ok (.getfield 10, 3) := by decide +kernel
theorem dX9_count_252 : decode cX9_count 252 = .ok (.invokevirtual 138, 3) := by decide +kernel
theorem dX9_count_255 : decode cX9_count 255 = .ok (.ireturn, 1) := by decide +kernel
theorem dX9_count_256 : decode cX9_count 256 = .ok (.aload_n 0, 1) := by decide +kernel
theorem dX9_count_257 : decode cX9_count 257 = .ok (.getfield 192, 3) := by decide +kernel
theorem dX9_count_260 : decode cX9_count 260 = .ok (.ireturn, 1) := by decide +kernel
theorem dX9_count_261 : decode cX9_count 261 = .ok (.aload_n 0, 1) := by decide +kernel
theorem dX9_count_262 : decode cX9_count 262 = .ok (.getfield 29, 3) := by decide +kernel
theorem dX9_count_265 : decode cX9_count 265 = .ok (.getfield 174, 3) := by decide +kernel
theorem dX9_count_268 : decode cX9_count 268 = .ok (.ireturn, 1) := by decide +kernel
theorem dX9_count_269 : decode cX9_count 269 = .ok (.bipush (-2), 2) := by decide +kernel
theorem dX9_count_271 : decode cX9_count 271 = .ok (.ireturn, 1) := by decide +kernel
theorem dX9_isArea_0 : decode cX9_isArea 0 = .ok (.iload_n 0, 1) := by decide +kernel
theorem dX9_isArea_1 : decode cX9_isArea 1 = .ok (.ifCond .lt 13, 3) := by decide +kernel
theorem dX9_isArea_4 : decode cX9_isArea 4 = .ok (.iload_n 0, 1) := by decide +kernel
theorem dX9_isArea_5 : decode cX9_isArea 5 = .ok (.bipush 12, 2) := by decide +kernel
theorem dX9_isArea_7 : decode cX9_isArea 7 = .ok (.if_icmp .ge 7, 3) := by decide +kernel
theorem dX9_isArea_10 : decode cX9_isArea 10 = .ok (.iconst 1, 1) := by decide +kernel
theorem dX9_isArea_11 : decode cX9_isArea 11 = .ok (.goto 4, 3) := by decide +kernel
theorem dX9_isArea_14 : decode cX9_isArea 14 = .ok (.iconst 0, 1) := by decide +kernel
theorem dX9_isArea_15 : decode cX9_isArea 15 = .ok (.ireturn, 1) := by decide +kernel
theorem dX9_isTier_0 : decode cX9_isTier 0 = .ok (.iload_n 0, 1) := by decide +kernel
theorem dX9_isTier_1 : decode cX9_isTier 1 = .ok (.ifCond .lt 12, 3) := by decide +kernel
theorem dX9_isTier_4 : decode cX9_isTier 4 = .ok (.iload_n 0, 1) := by decide +kernel
theorem dX9_isTier_5 : decode cX9_isTier 5 = .ok (.iconst 3, 1) := by decide +kernel
theorem dX9_isTier_6 : decode cX9_isTier 6 = .ok (.if_icmp .ge 7, 3) := by decide +kernel
theorem dX9_isTier_9 : decode cX9_isTier 9 = .ok (.iconst 1, 1) := by decide +kernel
theorem dX9_isTier_10 : decode cX9_isTier 10 = .ok (.goto 4, 3) := by decide +kernel
theorem dX9_isTier_13 : decode cX9_isTier 13 = .ok (.iconst 0, 1) := by decide +kernel
theorem dX9_isTier_14 : decode cX9_isTier 14 = .ok (.ireturn, 1) := by decide +kernel
theorem dX9_regionOf_0 : decode cX9_regionOf 0 = .ok (.iload_n 0, 1) := by decide +kernel
theorem dX9_regionOf_1 : decode cX9_regionOf 1 = .ok (.iconst 4, 1) := by decide +kernel
theorem dX9_regionOf_2 : decode cX9_regionOf 2 = .ok (.idiv, 1) := by decide +kernel
theorem dX9_regionOf_3 : decode cX9_regionOf 3 = .ok (.ireturn, 1) := by decide +kernel
theorem dX10_init_0 : decode cX10_init 0 = .ok (.aload_n 0, 1) := by decide +kernel
theorem dX10_init_1 : decode cX10_init 1 = .ok (.invokespecial 1, 3) := by decide +kernel
theorem dX10_init_4 : decode cX10_init 4 = .ok (.aload_n 0, 1) := by decide +kernel
theorem dX10_init_5 : decode cX10_init 5 = .ok (.sipush 810, 3) := by decide +kernel
theorem dX10_init_8 : decode cX10_init 8 = .ok (.newarray .int, 2) := by decide +kernel
theorem dX10_init_10 : decode cX10_init 10 = .ok (.putfield 7, 3) := by decide +kernel
theorem dX10_init_13 : decode cX10_init 13 = .ok (.aload_n 0, 1) := by decide +kernel
theorem dX10_init_14 : decode cX10_init 14 = .ok (.sipush 3240, 3) := by decide +kernel
theorem dX10_init_17 : decode cX10_init 17 = .ok (.newarray .int, 2) := by decide +kernel
theorem dX10_init_19 : decode cX10_init 19 = .ok (.putfield 13, 3) := by decide +kernel
theorem dX10_init_22 : decode cX10_init 22 = .ok (.aload_n 0, 1) := by decide +kernel
theorem dX10_init_23 : decode cX10_init 23 = .ok (.sipush 810, 3) := by decide +kernel
theorem dX10_init_26 : decode cX10_init 26 = .ok (.newarray .int, 2) := by decide +kernel
theorem dX10_init_28 : decode cX10_init 28 = .ok (.putfield 16, 3) := by decide +kernel
theorem dX10_init_31 : decode cX10_init 31 = .ok (.aload_n 0, 1) := by decide +kernel
theorem dX10_init_32 : decode cX10_init 32 = .ok (.sipush 810, 3) := by decide +kernel
theorem dX10_init_35 : decode cX10_init 35 = .ok (.newarray .int, 2) := by decide +kernel
theorem dX10_init_37 : decode cX10_init 37 = .ok (.putfield 19, 3) := by decide +kernel
theorem dX10_init_40 : decode cX10_init 40 = .ok (.aload_n 0, 1) := by decide +kernel
theorem dX10_init_41 : decode cX10_init 41 = .ok (.bipush 60, 2) := by decide +kernel
theorem dX10_init_43 : decode cX10_init 43 = .ok (.newarray .int, 2) := by decide +kernel
theorem dX10_init_45 : decode cX10_init 45 = .ok (.putfield 22, 3) := by decide +kernel
theorem dX10_init_48 : decode cX10_init 48 = .ok (.aload_n 0, 1) := by decide +kernel
theorem dX10_init_49 : decode cX10_init 49 = .ok (.sipush 144, 3) := by decide +kernel
theorem dX10_init_52 : decode cX10_init 52 = .ok (.newarray .int, 2) := by decide +kernel
theorem dX10_init_54 : decode cX10_init 54 = .ok (.putfield 25, 3) := by decide +kernel
theorem dX10_init_57 : decode cX10_init 57 = .ok (.aload_n 0, 1) := by decide +kernel
theorem dX10_init_58 : decode cX10_init 58 = .ok (.sipush 144, 3) := by decide +kernel
theorem dX10_init_61 : decode cX10_init 61 = .ok (.newarray .int, 2) := by decide +kernel
theorem dX10_init_63 : decode cX10_init 63 = .ok (.putfield 28, 3) := by decide +kernel
theorem dX10_init_66 : decode cX10_init 66 = .ok (.aload_n 0, 1) := by decide +kernel
theorem dX10_init_67 : decode cX10_init 67 = .ok (.bipush 40, 2) := by decide +kernel
theorem dX10_init_69 : decode cX10_init 69 = .ok (.newarray .int, 2) := by decide +kernel
theorem dX10_init_71 : decode cX10_init 71 = .ok (.putfield 31, 3) := by decide +kernel
theorem dX10_init_74 : decode cX10_init 74 = .ok (.aload_n 0, 1) := by decide +kernel
theorem dX10_init_75 : decode cX10_init 75 = .ok (.bipush 60, 2) := by decide +kernel
theorem dX10_init_77 : decode cX10_init 77 = .ok (.newarray .int, 2) := by decide +kernel
theorem dX10_init_79 : decode cX10_init 79 = .ok (.putfield 34, 3) := by decide +kernel
theorem dX10_init_82 : decode cX10_init 82 = .ok (.aload_n 0, 1) := by decide +kernel
theorem dX10_init_83 : decode cX10_init 83 = .ok (.getfield 7, 3) := by decide +kernel
theorem dX10_init_86 : decode cX10_init 86 = .ok (.iconst 2, 1) := by decide +kernel
theorem dX10_init_87 : decode cX10_init 87 = .ok (.bipush 90, 2) := by decide +kernel
theorem dX10_init_89 : decode cX10_init 89 = .ok (.iastore, 1) := by decide +kernel
theorem dX10_init_90 : decode cX10_init 90 = .ok (.aload_n 0, 1) := by decide +kernel
theorem dX10_init_91 : decode cX10_init 91 = .ok (.getfield 7, 3) := by decide +kernel
theorem dX10_init_94 : decode cX10_init 94 = .ok (.iconst 3, 1) := by decide +kernel
theorem dX10_init_95 : decode cX10_init 95 = .ok (.bipush 60, 2) := by decide +kernel
theorem dX10_init_97 : decode cX10_init 97 = .ok (.iastore, 1) := by decide +kernel
theorem dX10_init_98 : decode cX10_init 98 = .ok (.aload_n 0, 1) := by decide +kernel
theorem dX10_init_99 : decode cX10_init 99 = .ok (.getfield 7, 3) := by decide +kernel
theorem dX10_init_102 : decode cX10_init 102 = .ok (.iconst 4, 1) := by decide +kernel
theorem dX10_init_103 : decode cX10_init 103 = .ok (.bipush 40, 2) := by decide +kernel
theorem dX10_init_105 : decode cX10_init 105 = .ok (.iastore, 1) := by decide +kernel
theorem dX10_init_106 : decode cX10_init 106 = .ok (.aload_n 0, 1) := by decide +kernel
theorem dX10_init_107 : decode cX10_init 107 = .ok (.invokevirtual 37, 3) := by decide +kernel
theorem dX10_init_110 : decode cX10_init 110 = .ok (.return_, 1) := by decide +kernel
theorem dX10_in_0 : decode cX10_in 0 = .ok (.iload_n 0, 1) := by decide +kernel
theorem dX10_in_1 : decode cX10_in 1 = .ok (.iload_n 1, 1) := by decide +kernel
theorem dX10_in_2 : decode cX10_in 2 = .ok (.if_icmp .lt 12, 3) := by decide +kernel
theorem dX10_in_5 : decode cX10_in 5 = .ok (.iload_n 0, 1) := by decide +kernel
theorem dX10_in_6 : decode cX10_in 6 = .ok (.iload_n 2, 1) := by decide +kernel
theorem dX10_in_7 : decode cX10_in 7 = .ok (.if_icmp .gt 7, 3) := by decide +kernel
theorem dX10_in_10 : decode cX10_in 10 = .ok (.iconst 1, 1) := by decide +kernel
theorem dX10_in_11 : decode cX10_in 11 = .ok (.goto 4, 3) := by decide +kernel
theorem dX10_in_14 : decode cX10_in 14 = .ok (.iconst 0, 1) := by decide +kernel
theorem dX10_in_15 : decode cX10_in 15 = .ok (.ireturn, 1) := by decide +kernel
theorem dX10_copies_0 : decode cX10_copies 0 = .ok (.iconst 0, 1) := by decide +kernel
theorem dX10_copies_1 : decode cX10_copies 1 = .ok (.istore 4, 2) := by decide +kernel
theorem dX10_copies_3 : decode cX10_copies 3 = .ok (.iload 4, 2) := by decide +kernel
theorem dX10_copies_5 : decode cX10_copies 5 = .ok (.sipush 810, 3) := by decide +kernel
theorem dX10_copies_8 : decode cX10_copies 8 = .ok (.if_icmp .ge 21, 3) := by decide +kernel
theorem dX10_copies_11 : decode cX10_copies 11 = .ok (.aload_n 2, 1) := by decide +kernel
theorem dX10_copies_12 : decode cX10_copies 12 = .ok (.iload_n 3, 1) := by decide +kernel
theorem dX10_copies_13 : decode cX10_copies 13 = .ok (.iload 4, 2) := by decide +kernel
theorem dX10_copies_15 : decode cX10_copies 15 = .ok (.iadd, 1) := by decide +kernel
theorem dX10_copies_16 : decode cX10_copies 16 = .ok (.aload_n 0, 1) := by decide +kernel
theorem dX10_copies_17 : decode cX10_copies 17 = .ok (.iload_n 1, 1) := by decide +kernel
theorem dX10_copies_18 : decode cX10_copies 18 = .ok (.iload 4, 2) := by decide +kernel
theorem dX10_copies_20 : decode cX10_copies 20 = .ok (.iadd, 1) := by decide +kernel
theorem dX10_copies_21 : decode cX10_copies 21 = .ok (.iaload, 1) := by decide +kernel
theorem dX10_copies_22 : decode cX10_copies 22 = .ok (.iastore, 1) := by decide +kernel
theorem dX10_copies_23 : decode cX10_copies 23 = .ok (.iinc 4 1, 3) := by decide +kernel
theorem dX10_copies_26 : decode cX10_copies 26 = .ok (.goto (-23), 3) := by decide +kernel
theorem dX10_copies_29 : decode cX10_copies 29 = .ok (.return_, 1) := by decide +kernel
theorem dX10_records_0 : decode cX10_records 0 = .ok (.aload_n 0, 1) := by decide +kernel
theorem dX10_records_1 : decode cX10_records 1 = .ok (.getfield 40, 3) := by decide +kernel
theorem dX10_records_4 : decode cX10_records 4 = .ok (.iconst 4, 1) := by decide +kernel
theorem dX10_records_5 : decode cX10_records 5 = .ok (.if_icmp .ne 39, 3) := by decide +kernel
theorem dX10_records_8 : decode cX10_records 8 = .ok (.iconst 0, 1) := by decide +kernel
theorem dX10_records_9 : decode cX10_records 9 = .ok (.istore_n 1, 1) := by decide +kernel
theorem dX10_records_10 : decode cX10_records 10 = .ok (.iload_n 1, 1) := by decide +kernel
theorem dX10_records_11 : decode cX10_records 11 = .ok (.sipush 2430, 3) := by decide +kernel
theorem dX10_records_14 : decode cX10_records 14 = .ok (.if_icmp .ge 25, 3) := by decide +kernel
theorem dX10_records_17 : decode cX10_records 17 = .ok (.aload_n 0, 1) := by decide +kernel
theorem dX10_records_18 : decode cX10_records 18 = .ok (.getfield 13, 3) := by decide +kernel
theorem dX10_records_21 : decode cX10_records 21 = .ok (.iload_n 1, 1) := by decide +kernel
theorem dX10_records_22 : decode cX10_records 22 = .ok (.aload_n 0, 1) := by decide +kernel
theorem dX10_records_23 : decode cX10_records 23 = .ok (.getfield 13, 3) := by decide +kernel
theorem dX10_records_26 : decode cX10_records 26 = .ok (.iload_n 1, 1) := by decide +kernel
theorem dX10_records_27 : decode cX10_records 27 = .ok (.sipush 810, 3) := by decide +kernel
theorem dX10_records_30 : decode cX10_records 30 = .ok (.iadd, 1) := by decide +kernel
theorem dX10_records_31 : decode cX10_records 31 = .ok (.iaload, 1) := by decide +kernel
theorem dX10_records_32 : decode cX10_records 32 = .ok (.iastore, 1) := by decide +kernel
theorem dX10_records_33 : decode cX10_records 33 = .ok (.iinc 1 1, 3) := by decide +kernel
theorem dX10_records_36 : decode cX10_records 36 = .ok (.goto (-26), 3) := by decide +kernel
theorem dX10_records_39 : decode cX10_records 39 = .ok (.aload_n 0, 1) := by decide +kernel
theorem dX10_records_40 : decode cX10_records 40 = .ok (.iconst 3, 1) := by decide +kernel
theorem dX10_records_41 : decode cX10_records 41 = .ok (.putfield 40, 3) := by decide +kernel
theorem dX10_records_44 : decode cX10_records 44 = .ok (.aload_n 0, 1) := by decide +kernel
theorem dX10_records_45 : decode cX10_records 45 = .ok (.getfield 7, 3) := by decide +kernel
theorem dX10_records_48 : decode cX10_records 48 = .ok (.iconst 0, 1) := by decide +kernel
theorem dX10_records_49 : decode cX10_records 49 = .ok (.aload_n 0, 1) := by decide +kernel
theorem dX10_records_50 : decode cX10_records 50 = .ok (.getfield 13, 3) := by decide +kernel
theorem dX10_records_53 : decode cX10_records 53 = .ok (.aload_n 0, 1) := by decide +kernel
theorem dX10_records_54 : decode cX10_records 54 = .ok (.getfield 40, 3) := by decide +kernel
theorem dX10_records_57 : decode cX10_records 57 = .ok (.sipush 810, 3) := by decide +kernel
theorem dX10_records_60 : decode cX10_records 60 = .ok (.imul, 1) := by decide +kernel
theorem dX10_records_61 : decode cX10_records 61 = .ok (.invokestatic 44, 3) := by decide +kernel
theorem dX10_records_64 : decode cX10_records 64 = .ok (.aload_n 0, 1) := by decide +kernel
theorem dX10_records_65 : decode cX10_records 65 = .ok (.dup, 1) := by decide +kernel
theorem dX10_records_66 : decode cX10_records 66 = .ok (.getfield 40, 3) := by decide +kernel
theorem dX10_records_69 : decode cX10_records 69 = .ok (.iconst 1, 1) := by decide +kernel
theorem dX10_records_70 : decode cX10_records 70 = .ok (.iadd, 1) := by decide +kernel
theorem dX10_records_71 : decode cX10_records 71 = .ok (.putfield 40, 3) := by decide +kernel
theorem dX10_records_74 : decode cX10_records 74 = .ok (.return_, 1) := by decide +kernel
theorem dX10_isArea_0 : decode cX10_isArea 0 = .ok (.iload_n 0, 1) := by decide +kernel
theorem dX10_isArea_1 : decode cX10_isArea 1 = .ok (.iconst 0, 1) := by decide +kernel
theorem dX10_isArea_2 : decode cX10_isArea 2 = .ok (.bipush 11, 2) := by decide +kernel
theorem dX10_isArea_4 : decode cX10_isArea 4 = .ok (.invokestatic 48, 3) := by decide +kernel
theorem dX10_isArea_7 : decode cX10_isArea 7 = .ok (.ireturn, 1) := by decide +kernel
theorem dX10_region_0 : decode cX10_region 0 = .ok (.iload_n 0, 1) := by decide +kernel
theorem dX10_region_1 : decode cX10_region 1 = .ok (.iconst 4, 1) := by decide +kernel
theorem dX10_region_2 : decode cX10_region 2 = .ok (.idiv, 1) := by decide +kernel
theorem dX10_region_3 : decode cX10_region 3 = .ok (.ireturn, 1) := by decide +kernel
theorem dX10_isMember_0 : decode cX10_isMember 0 = .ok (.iload_n 1, 1) := by decide +kernel
theorem dX10_isMember_1 : decode cX10_isMember 1 = .ok (.iconst 0, 1) := by decide +kernel
theorem dX10_isMember_2 : decode cX10_isMember 2 = .ok (.aload_n 0, 1) := by decide +kernel
theorem dX10_isMember_3 : decode cX10_isMember 3 = .ok (.getfield 7, 3) := by decide +kernel
theorem dX10_isMember_6 : decode cX10_isMember 6 = .ok (.bipush 6, 2) := by decide +kernel
theorem dX10_isMember_8 : decode cX10_isMember 8 = .ok (.iaload, 1) := by decide +kernel
theorem dX10_isMember_9 : decode cX10_isMember 9 = .ok (.iconst 1, 1) := by decide +kernel
theorem dX10_isMember_10 : decode cX10_isMember 10 = .ok (.isub, 1) := by decide +kernel
theorem dX10_isMember_11 : decode cX10_isMember 11 = .ok (.invokestatic 48, 3) := by decide +kernel
theorem dX10_isMember_14 : decode cX10_isMember 14 = .ok (.ireturn, 1) := by decide +kernel
theorem dX10_isPatrol_0 : decode cX10_isPatrol 0 = .ok (.iload_n 1, 1) := by decide +kernel
theorem dX10_isPatrol_1 : decode cX10_isPatrol 1 = .ok (.iconst 0, 1) := by decide +kernel
theorem dX10_isPatrol_2 : decode cX10_isPatrol 2 = .ok (.aload_n 0, 1) := by decide +kernel
theorem dX10_isPatrol_3 : decode cX10_isPatrol 3 = .ok (.getfield 7, 3) := by decide +kernel
theorem dX10_isPatrol_6 : decode cX10_isPatrol 6 = .ok (.bipush 7, 2) := by decide +kernel
theorem dX10_isPatrol_8 : decode cX10_isPatrol 8 = .ok (.iaload, 1) := by decide +kernel
theorem dX10_isPatrol_9 : decode cX10_isPatrol 9 = .ok (.iconst 1, 1) := by decide +kernel
theorem dX10_isPatrol_10 : decode cX10_isPatrol 10 = .ok (.isub, 1) := by decide +kernel
theorem dX10_isPatrol_11 : decode cX10_isPatrol 11 = .ok (.invokestatic 48, 3) := by decide +kernel
theorem dX10_isPatrol_14 : decode cX10_isPatrol 14 = .ok (.ireturn, 1) := by decide +kernel
theorem dX10_isGarage_0 : decode cX10_isGarage 0 = .ok (.iload_n 1, 1) := by decide +kernel
theorem dX10_isGarage_1 : decode cX10_isGarage 1 = .ok (.iconst 0, 1) := by decide +kernel
theorem dX10_isGarage_2 : decode cX10_isGarage 2 = .ok (.aload_n 0, 1) := by decide +kernel
theorem dX10_isGarage_3 : decode cX10_isGarage 3 = .ok (.getfield 7, 3) := by decide +kernel
theorem dX10_isGarage_6 : decode cX10_isGarage 6 = .ok (.bipush 8, 2) := by decide +kernel
theorem dX10_isGarage_8 : decode cX10_isGarage 8 = .ok (.iaload, 1) := by decide +kernel
theorem dX10_isGarage_9 : decode cX10_isGarage 9 = .ok (.iconst 1, 1) := by decide +kernel
theorem dX10_isGarage_10 : decode cX10_isGarage 10 = .ok (.isub, 1) := by decide +kernel
theorem dX10_isGarage_11 : decode cX10_isGarage 11 = .ok (.invokestatic 48, 3) := by decide +kernel
theorem dX10_isGarage_14 : decode cX10_isGarage 14 = .ok (.ireturn, 1) := by decide +kernel
theorem dX10_isCall_0 : decode cX10_isCall 0 = .ok (.iload_n 1, 1) := by decide +kernel
theorem dX10_isCall_1 : decode cX10_isCall 1 = .ok (.iconst 0, 1) := by decide +kernel
theorem dX10_isCall_2 : decode cX10_isCall 2 = .ok (.aload_n 0, 1) := by decide +kernel
theorem dX10_isCall_3 : decode cX10_isCall 3 = .ok (.getfield 7, 3) := by decide +kernel
theorem dX10_isCall_6 : decode cX10_isCall 6 = .ok (.bipush 9, 2) := by decide +kernel
theorem dX10_isCall_8 : decode cX10_isCall 8 = .ok (.iaload, 1) := by decide +kernel
theorem dX10_isCall_9 : decode cX10_isCall 9 = .ok (.iconst 1, 1) := by decide +kernel
theorem dX10_isCall_10 : decode cX10_isCall 10 = .ok (.isub, 1) := by decide +kernel
theorem dX10_isCall_11 : decode cX10_isCall 11 = .ok (.invokestatic 48, 3) := by decide +kernel
theorem dX10_isCall_14 : decode cX10_isCall 14 = .ok (.ireturn, 1) := by decide +kernel
theorem dX10_ofMember_0 : decode cX10_ofMember 0 = .ok (.aload_n 0, 1) := by decide +kernel
theorem dX10_ofMember_1 : decode cX10_ofMember 1 = .ok (.getfield 7, 3) := by decide +kernel
theorem dX10_ofMember_4 : decode cX10_ofMember 4 = .ok (.bipush 106, 2) := by decide +kernel
theorem dX10_ofMember_6 : decode cX10_ofMember 6 = .ok (.iconst 4, 1) := by decide +kernel
theorem dX10_ofMember_7 : decode cX10_ofMember 7 = .ok (.iload_n 1, 1) := by decide +kernel
theorem dX10_ofMember_8 : decode cX10_ofMember 8 = .ok (.imul, 1) := by decide +kernel
theorem dX10_ofMember_9 : decode cX10_ofMember 9 = .ok (.iadd, 1) := by decide +kernel
theorem dX10_ofMember_10 : decode cX10_ofMember 10 = .ok (.iload_n 2, 1) := by decide +kernel
theorem dX10_ofMember_11 : decode cX10_ofMember 11 = .ok (.iadd, 1) := by decide +kernel
theorem dX10_ofMember_12 : decode cX10_ofMember 12 = .ok (.iaload, 1) := by decide +kernel
theorem dX10_ofMember_13 : decode cX10_ofMember 13 = .ok (.ireturn, 1) := by decide +kernel
theorem dX10_addsMember_0 : decode cX10_addsMember 0 = .ok (.aload_n 0, 1) := by decide +kernel
theorem dX10_addsMember_1 : decode cX10_addsMember 1 = .ok (.getfield 7, 3) := by decide +kernel
theorem dX10_addsMember_4 : decode cX10_addsMember 4 = .ok (.bipush 106, 2) := by decide +kernel
theorem dX10_addsMember_6 : decode cX10_addsMember 6 = .ok (.iconst 4, 1) := by decide +kernel
theorem dX10_addsMember_7 : decode cX10_addsMember 7 = .ok (.iload_n 1, 1) := by decide +kernel
theorem dX10_addsMember_8 : decode cX10_addsMember 8 = .ok (.imul, 1) := by decide +kernel
theorem dX10_addsMember_9 : decode cX10_addsMember 9 = .ok (.iadd, 1) := by decide +kernel
theorem dX10_addsMember_10 : decode cX10_addsMember 10 = .ok (.iload_n 2, 1) := by decide +kernel
theorem dX10_addsMember_11 : decode cX10_addsMember 11 = .ok (.iadd, 1) := by decide +kernel
theorem dX10_addsMember_12 : decode cX10_addsMember 12 = .ok (.dup2, 1) := by decide +kernel
theorem dX10_addsMember_13 : decode cX10_addsMember 13 = .ok (.iaload, 1) := by decide +kernel
theorem dX10_addsMember_14 : decode cX10_addsMember 14 = .ok (.iload_n 3, 1) := by decide +kernel
theorem dX10_addsMember_15 : decode cX10_addsMember 15 = .ok (.iadd, 1) := by decide +kernel
theorem dX10_addsMember_16 : decode cX10_addsMember 16 = .ok (.iastore, 1) := by decide +kernel
theorem dX10_addsMember_17 : decode cX10_addsMember 17 = .ok (.return_, 1) := by decide +kernel
theorem dX10_ofPatrol_0 : decode cX10_ofPatrol 0 = .ok (.aload_n 0, 1) := by decide +kernel
theorem dX10_ofPatrol_1 : decode cX10_ofPatrol 1 = .ok (.getfield 7, 3) := by decide +kernel
theorem dX10_ofPatrol_4 : decode cX10_ofPatrol 4 = .ok (.sipush 186, 3) := by decide +kernel
theorem dX10_ofPatrol_7 : decode cX10_ofPatrol 7 = .ok (.bipush 14, 2) := by decide +kernel
theorem dX10_ofPatrol_9 : decode cX10_ofPatrol 9 = .ok (.iload_n 1, 1) := by decide +kernel
theorem dX10_ofPatrol_10 : decode cX10_ofPatrol 10 = .ok (.imul, 1) := by decide +kernel
theorem dX10_ofPatrol_11 : decode cX10_ofPatrol 11 = .ok (.iadd, 1) := by decide +kernel
theorem dX10_ofPatrol_12 : decode cX10_ofPatrol 12 = .ok (.iload_n 2, 1) := by decide +kernel
theorem dX10_ofPatrol_13 : decode cX10_ofPatrol 13 = .ok (.iadd, 1) := by decide +kernel
theorem dX10_ofPatrol_14 : decode cX10_ofPatrol 14 = .ok (.iaload, 1) := by decide +kernel
theorem dX10_ofPatrol_15 : decode cX10_ofPatrol 15 = .ok (.ireturn, 1) := by decide +kernel
theorem dX10_laysPatrol_0 : decode cX10_laysPatrol 0 = .ok (.aload_n 0, 1) := by decide +kernel
theorem dX10_laysPatrol_1 : decode cX10_laysPatrol 1 = .ok (.getfield 7, 3) := by decide +kernel
theorem dX10_laysPatrol_4 : decode cX10_laysPatrol 4 = .ok (.sipush 186, 3) := by decide +kernel
theorem dX10_laysPatrol_7 : decode cX10_laysPatrol 7 = .ok (.bipush 14, 2) := by decide +kernel
theorem dX10_laysPatrol_9 : decode cX10_laysPatrol 9 = .ok (.iload_n 1, 1) := by decide +kernel
theorem dX10_laysPatrol_10 : decode cX10_laysPatrol 10 = .ok (.imul, 1) := by decide +kernel
theorem dX10_laysPatrol_11 : decode cX10_laysPatrol 11 = .ok (.iadd, 1) := by decide +kernel
theorem dX10_laysPatrol_12 : decode cX10_laysPatrol 12 = .ok (.iload_n 2, 1) := by decide +kernel
theorem dX10_laysPatrol_13 : decode cX10_laysPatrol 13 = .ok (.iadd, 1) := by decide +kernel
theorem dX10_laysPatrol_14 : decode cX10_laysPatrol 14 = .ok (.iload_n 3, 1) := by decide +kernel
theorem dX10_laysPatrol_15 : decode cX10_laysPatrol 15 = .ok (.iastore, 1) := by decide +kernel
theorem dX10_laysPatrol_16 : decode cX10_laysPatrol 16 = .ok (.return_, 1) := by decide +kernel
theorem dX10_ofGarage_0 : decode cX10_ofGarage 0 = .ok (.aload_n 0, 1) := by decide +kernel
theorem dX10_ofGarage_1 : decode cX10_ofGarage 1 = .ok (.getfield 7, 3) := by decide +kernel
theorem dX10_ofGarage_4 : decode cX10_ofGarage 4 = .ok (.sipush 270, 3) := by decide +kernel
theorem dX10_ofGarage_7 : decode cX10_ofGarage 7 = .ok (.iconst 4, 1) := by decide +kernel
theorem dX10_ofGarage_8 : decode cX10_ofGarage 8 = .ok (.iload_n 1, 1) := by decide +kernel
theorem dX10_ofGarage_9 : decode cX10_ofGarage 9 = .ok (.imul, 1) := by decide +kernel
theorem dX10_ofGarage_10 : decode cX10_ofGarage 10 = .ok (.iadd, 1) := by decide +kernel
theorem dX10_ofGarage_11 : decode cX10_ofGarage 11 = .ok (.iload_n 2, 1) := by decide +kernel
theorem dX10_ofGarage_12 : decode cX10_ofGarage 12 = .ok (.iadd, 1) := by decide +kernel
theorem dX10_ofGarage_13 : decode cX10_ofGarage 13 = .ok (.iaload, 1) := by decide +kernel
theorem dX10_ofGarage_14 : decode cX10_ofGarage 14 = .ok (.ireturn, 1) := by decide +kernel
theorem dX10_ofCall_0 : decode cX10_ofCall 0 = .ok (.aload_n 0, 1) := by decide +kernel
theorem dX10_ofCall_1 : decode cX10_ofCall 1 = .ok (.getfield 7, 3) := by decide +kernel
theorem dX10_ofCall_4 : decode cX10_ofCall 4 = .ok (.sipush 290, 3) := by decide +kernel
theorem dX10_ofCall_7 : decode cX10_ofCall 7 = .ok (.bipush 13, 2) := by decide +kernel
theorem dX10_ofCall_9 : decode cX10_ofCall 9 = .ok (.iload_n 1, 1) := by decide +kernel
theorem dX10_ofCall_10 : decode cX10_ofCall 10 = .ok (.imul, 1) := by decide +kernel
theorem dX10_ofCall_11 : decode cX10_ofCall 11 = .ok (.iadd, 1) := by decide +kernel
theorem dX10_ofCall_12 : decode cX10_ofCall 12 = .ok (.iload_n 2, 1) := by decide +kernel
theorem dX10_ofCall_13 : decode cX10_ofCall 13 = .ok (.iadd, 1) := by decide +kernel
theorem dX10_ofCall_14 : decode cX10_ofCall 14 = .ok (.iaload, 1) := by decide +kernel
theorem dX10_ofCall_15 : decode cX10_ofCall 15 = .ok (.ireturn, 1) := by decide +kernel
theorem dX10_laysCall_0 : decode cX10_laysCall 0 = .ok (.aload_n 0, 1) := by decide +kernel
theorem dX10_laysCall_1 : decode cX10_laysCall 1 = .ok (.getfield 7, 3) := by decide +kernel
theorem dX10_laysCall_4 : decode cX10_laysCall 4 = .ok (.sipush 290, 3) := by decide +kernel
theorem dX10_laysCall_7 : decode cX10_laysCall 7 = .ok (.bipush 13, 2) := by decide +kernel
theorem dX10_laysCall_9 : decode cX10_laysCall 9 = .ok (.iload_n 1, 1) := by decide +kernel
theorem dX10_laysCall_10 : decode cX10_laysCall 10 = .ok (.imul, 1) := by decide +kernel
theorem dX10_laysCall_11 : decode cX10_laysCall 11 = .ok (.iadd, 1) := by decide +kernel
theorem dX10_laysCall_12 : decode cX10_laysCall 12 = .ok (.iload_n 2, 1) := by decide +kernel
theorem dX10_laysCall_13 : decode cX10_laysCall 13 = .ok (.iadd, 1) := by decide +kernel
theorem dX10_laysCall_14 : decode cX10_laysCall 14 = .ok (.iload_n 3, 1) := by decide +kernel
theorem dX10_laysCall_15 : decode cX10_laysCall 15 = .ok (.iastore, 1) := by decide +kernel
theorem dX10_laysCall_16 : decode cX10_laysCall 16 = .ok (.return_, 1) := by decide +kernel
theorem dX10_laysWays_0 : decode cX10_laysWays 0 = .ok (.iconst 0, 1) := by decide +kernel
theorem dX10_laysWays_1 : decode cX10_laysWays 1 = .ok (.istore_n 1, 1) := by decide +kernel
theorem dX10_laysWays_2 : decode cX10_laysWays 2 = .ok (.iload_n 1, 1) := by decide +kernel
theorem dX10_laysWays_3 : decode cX10_laysWays 3 = .ok (.sipush 144, 3) := by decide +kernel
theorem dX10_laysWays_6 : decode cX10_laysWays 6 = .ok (.if_icmp .ge 40, 3) := by decide +kernel
theorem dX10_laysWays_9 : decode cX10_laysWays 9 = .ok (.aload_n 0, 1) := by decide +kernel
theorem dX10_laysWays_10 : decode cX10_laysWays 10 = .ok (.getfield 25, 3) := by decide +kernel
theorem dX10_laysWays_13 : decode cX10_laysWays 13 = .ok (.iload_n 1, 1) := by decide +kernel
theorem dX10_laysWays_14 : decode cX10_laysWays 14 = .ok (.ldc 52, 2) := by decide +kernel
theorem dX10_laysWays_16 : decode cX10_laysWays 16 = .ok (.iastore, 1) := by decide +kernel
theorem dX10_laysWays_17 : decode cX10_laysWays 17 = .ok (.aload_n 0, 1) := by decide +kernel
theorem dX10_laysWays_18 : decode cX10_laysWays 18 = .ok (.getfield 28, 3) := by decide +kernel
theorem dX10_laysWays_21 : decode cX10_laysWays 21 = .ok (.iload_n 1, 1) := by decide +kernel
theorem dX10_laysWays_22 : decode cX10_laysWays 22 = .ok (.iload_n 1, 1) := by decide +kernel
theorem dX10_laysWays_23 : decode cX10_laysWays 23 = .ok (.bipush 12, 2) := by decide +kernel
theorem dX10_laysWays_25 : decode cX10_laysWays 25 = .ok (.idiv, 1) := by decide +kernel
theorem dX10_laysWays_26 : decode cX10_laysWays 26 = .ok (.iload_n 1, 1) := by decide +kernel
theorem dX10_laysWays_27 : decode cX10_laysWays 27 = .ok (.bipush 12, 2) := by decide +kernel
theorem dX10_laysWays_29 : decode cX10_laysWays 29 = .ok (.irem, 1) := by decide +kernel
theorem dX10_laysWays_30 : decode cX10_laysWays 30 = .ok (.if_icmp .ne 7, 3) := by decide +kernel
theorem dX10_laysWays_33 : decode cX10_laysWays 33 = .ok (.iconst 0, 1) := by decide +kernel
theorem dX10_laysWays_34 : decode cX10_laysWays 34 = .ok (.goto 5, 3) := by decide +kernel
theorem dX10_laysWays_37 : decode cX10_laysWays 37 = .ok (.ldc 52, 2) := by decide +kernel
theorem dX10_laysWays_39 : decode cX10_laysWays 39 = .ok (.iastore, 1) := by decide +kernel
theorem dX10_laysWays_40 : decode cX10_laysWays 40 = .ok (.iinc 1 1, 3) := by decide +kernel
theorem dX10_laysWays_43 : decode cX10_laysWays 43 = .ok (.goto (-41), 3) := by decide +kernel
theorem dX10_laysWays_46 : decode cX10_laysWays 46 = .ok (.iconst 0, 1) := by decide +kernel
theorem dX10_laysWays_47 : decode cX10_laysWays 47 = .ok (.istore_n 1, 1) := by decide +kernel
theorem dX10_laysWays_48 : decode cX10_laysWays 48 = .ok (.iload_n 1, 1) := by decide +kernel
theorem dX10_laysWays_49 : decode cX10_laysWays 49 = .ok (.aload_n 0, 1) := by decide +kernel
theorem dX10_laysWays_50 : decode cX10_laysWays 50 = .ok (.getfield 7, 3) := by decide +kernel
theorem dX10_laysWays_53 : decode cX10_laysWays 53 = .ok (.iconst 5, 1) := by decide +kernel
theorem dX10_laysWays_54 : decode cX10_laysWays 54 = .ok (.iaload, 1) := by decide +kernel
theorem dX10_laysWays_55 : decode cX10_laysWays 55 = .ok (.if_icmp .ge 131, 3) := by decide +kernel
theorem dX10_laysWays_58 : decode cX10_laysWays 58 = .ok (.aload_n 0, 1) := by decide +kernel
theorem dX10_laysWays_59 : decode cX10_laysWays 59 = .ok (.getfield 7, 3) := by decide +kernel
theorem dX10_laysWays_62 : decode cX10_laysWays 62 = .ok (.bipush 16, 2) := by decide +kernel
theorem dX10_laysWays_64 : decode cX10_laysWays 64 = .ok (.iconst 3, 1) := by decide +kernel
theorem dX10_laysWays_65 : decode cX10_laysWays 65 = .ok (.iload_n 1, 1) := by decide +kernel
theorem dX10_laysWays_66 : decode cX10_laysWays 66 = .ok (.imul, 1) := by decide +kernel
theorem dX10_laysWays_67 : decode cX10_laysWays 67 = .ok (.iadd, 1) := by decide +kernel
theorem dX10_laysWays_68 : decode cX10_laysWays 68 = .ok (.iaload, 1) := by decide +kernel
theorem dX10_laysWays_69 : decode cX10_laysWays 69 = .ok (.istore_n 2, 1) := by decide +kernel
theorem dX10_laysWays_70 : decode cX10_laysWays 70 = .ok (.aload_n 0, 1) := by decide +kernel
theorem dX10_laysWays_71 : decode cX10_laysWays 71 = .ok (.getfield 7, 3) := by decide +kernel
theorem dX10_laysWays_74 : decode cX10_laysWays 74 = .ok (.bipush 16, 2) := by decide +kernel
theorem dX10_laysWays_76 : decode cX10_laysWays 76 = .ok (.iconst 3, 1) := by decide +kernel
theorem dX10_laysWays_77 : decode cX10_laysWays 77 = .ok (.iload_n 1, 1) := by decide +kernel
theorem dX10_laysWays_78 : decode cX10_laysWays 78 = .ok (.imul, 1) := by decide +kernel
theorem dX10_laysWays_79 : decode cX10_laysWays 79 = .ok (.iadd, 1) := by decide +kernel
theorem dX10_laysWays_80 : decode cX10_laysWays 80 = .ok (.iconst 1, 1) := by decide +kernel
theorem dX10_laysWays_81 : decode cX10_laysWays 81 = .ok (.iadd, 1) := by decide +kernel
theorem dX10_laysWays_82 : decode cX10_laysWays 82 = .ok (.iaload, 1) := by decide +kernel
theorem dX10_laysWays_83 : decode cX10_laysWays 83 = .ok (.istore_n 3, 1) := by decide +kernel
theorem dX10_laysWays_84 : decode cX10_laysWays 84 = .ok (.aload_n 0, 1) := by decide +kernel
theorem dX10_laysWays_85 : decode cX10_laysWays 85 = .ok (.getfield 25, 3) := by decide +kernel
theorem dX10_laysWays_88 : decode cX10_laysWays 88 = .ok (.bipush 12, 2) := by decide +kernel
theorem dX10_laysWays_90 : decode cX10_laysWays 90 = .ok (.iload_n 2, 1) := by decide +kernel
theorem dX10_laysWays_91 : decode cX10_laysWays 91 = .ok (.imul, 1) := by decide +kernel
theorem dX10_laysWays_92 : decode cX10_laysWays 92 = .ok (.iload_n 3, 1) := by decide +kernel
theorem dX10_laysWays_93 : decode cX10_laysWays 93 = .ok (.iadd, 1) := by decide +kernel
theorem dX10_laysWays_94 : decode cX10_laysWays 94 = .ok (.aload_n 0, 1) := by decide +kernel
theorem dX10_laysWays_95 : decode cX10_laysWays 95 = .ok (.getfield 7, 3) := by decide +kernel
theorem dX10_laysWays_98 : decode cX10_laysWays 98 = .ok (.bipush 16, 2) := by decide +kernel
theorem dX10_laysWays_100 : decode cX10_laysWays 100 = .ok (.iconst 3, 1) := by decide +kernel
theorem dX10_laysWays_101 : decode cX10_laysWays 101 = .ok (.iload_n 1, 1) := by decide +kernel
theorem dX10_laysWays_102 : decode cX10_laysWays 102 = .ok (.imul, 1) := by decide +kernel
theorem dX10_laysWays_103 : decode cX10_laysWays 103 = .ok (.iadd, 1) := by decide +kernel
theorem dX10_laysWays_104 : decode cX10_laysWays 104 = .ok (.iconst 2, 1) := by decide +kernel
theorem dX10_laysWays_105 : decode cX10_laysWays 105 = .ok (.iadd, 1) := by decide +kernel
theorem dX10_laysWays_106 : decode cX10_laysWays 106 = .ok (.iaload, 1) := by decide +kernel
theorem dX10_laysWays_107 : decode cX10_laysWays 107 = .ok (.iastore, 1) := by decide +kernel
theorem dX10_laysWays_108 : decode cX10_laysWays 108 = .ok (.aload_n 0, 1) := by decide +kernel
theorem dX10_laysWays_109 : decode cX10_laysWays 109 = .ok (.getfield 25, 3) := by decide +kernel
theorem dX10_laysWays_112 : decode cX10_laysWays 112 = .ok (.bipush 12, 2) := by decide +kernel
theorem dX10_laysWays_114 : decode cX10_laysWays 114 = .ok (.iload_n 3, 1) := by decide +kernel
theorem dX10_laysWays_115 : decode cX10_laysWays 115 = .ok (.imul, 1) := by decide +kernel
theorem dX10_laysWays_116 : decode cX10_laysWays 116 = .ok (.iload_n 2, 1) := by decide +kernel
theorem dX10_laysWays_117 : decode cX10_laysWays 117 = .ok (.iadd, 1) := by decide +kernel
theorem dX10_laysWays_118 : decode cX10_laysWays 118 = .ok (.aload_n 0, 1) := by decide +kernel
theorem dX10_laysWays_119 : decode cX10_laysWays 119 = .ok (.getfield 7, 3) := by decide +kernel
theorem dX10_laysWays_122 : decode cX10_laysWays 122 = .ok (.bipush 16, 2) := by decide +kernel
theorem dX10_laysWays_124 : decode cX10_laysWays 124 = .ok (.iconst 3, 1) := by decide +kernel
theorem dX10_laysWays_125 : decode cX10_laysWays 125 = .ok (.iload_n 1, 1) := by decide +kernel
theorem dX10_laysWays_126 : decode cX10_laysWays 126 = .ok (.imul, 1) := by decide +kernel
theorem dX10_laysWays_127 : decode cX10_laysWays 127 = .ok (.iadd, 1) := by decide +kernel
theorem dX10_laysWays_128 : decode cX10_laysWays 128 = .ok (.iconst 2, 1) := by decide +kernel
theorem dX10_laysWays_129 : decode cX10_laysWays 129 = .ok (.iadd, 1) := by decide +kernel
theorem dX10_laysWays_130 : decode cX10_laysWays 130 = .ok (.iaload, 1) := by decide +kernel
theorem dX10_laysWays_131 : decode cX10_laysWays 131 = .ok (.iastore, 1) := by decide +kernel
theorem dX10_laysWays_132 : decode cX10_laysWays 132 = .ok (.aload_n 0, 1) := by decide +kernel
theorem dX10_laysWays_133 : decode cX10_laysWays 133 = .ok (.getfield 28, 3) := by decide +kernel
theorem dX10_laysWays_136 : decode cX10_laysWays 136 = .ok (.bipush 12, 2) := by decide +kernel
theorem dX10_laysWays_138 : decode cX10_laysWays 138 = .ok (.iload_n 2, 1) := by decide +kernel
theorem dX10_laysWays_139 : decode cX10_laysWays 139 = .ok (.imul, 1) := by decide +kernel
theorem dX10_laysWays_140 : decode cX10_laysWays 140 = .ok (.iload_n 3, 1) := by decide +kernel
theorem dX10_laysWays_141 : decode cX10_laysWays 141 = .ok (.iadd, 1) := by decide +kernel
theorem dX10_laysWays_142 : decode cX10_laysWays 142 = .ok (.aload_n 0, 1) := by decide +kernel
theorem dX10_laysWays_143 : decode cX10_laysWays 143 = .ok (.getfield 7, 3) := by decide +kernel
theorem dX10_laysWays_146 : decode cX10_laysWays 146 = .ok (.bipush 16, 2) := by decide +kernel
theorem dX10_laysWays_148 : decode cX10_laysWays 148 = .ok (.iconst 3, 1) := by decide +kernel
theorem dX10_laysWays_149 : decode cX10_laysWays 149 = .ok (.iload_n 1, 1) := by decide +kernel
theorem dX10_laysWays_150 : decode cX10_laysWays 150 = .ok (.imul, 1) := by decide +kernel
theorem dX10_laysWays_151 : decode cX10_laysWays 151 = .ok (.iadd, 1) := by decide +kernel
theorem dX10_laysWays_152 : decode cX10_laysWays 152 = .ok (.iconst 2, 1) := by decide +kernel
theorem dX10_laysWays_153 : decode cX10_laysWays 153 = .ok (.iadd, 1) := by decide +kernel
theorem dX10_laysWays_154 : decode cX10_laysWays 154 = .ok (.iaload, 1) := by decide +kernel
theorem dX10_laysWays_155 : decode cX10_laysWays 155 = .ok (.iastore, 1) := by decide +kernel
theorem dX10_laysWays_156 : decode cX10_laysWays 156 = .ok (.aload_n 0, 1) := by decide +kernel
theorem dX10_laysWays_157 : decode cX10_laysWays 157 = .ok (.getfield 28, 3) := by decide +kernel
theorem dX10_laysWays_160 : decode cX10_laysWays 160 = .ok (.bipush 12, 2) := by decide +kernel
theorem dX10_laysWays_162 : decode cX10_laysWays 162 = .ok (.iload_n 3, 1) := by decide +kernel
theorem dX10_laysWays_163 : decode cX10_laysWays 163 = .ok (.imul, 1) := by decide +kernel
theorem dX10_laysWays_164 : decode cX10_laysWays 164 = .ok (.iload_n 2, 1) := by decide +kernel
theorem dX10_laysWays_165 : decode cX10_laysWays 165 = .ok (.iadd, 1) := by decide +kernel
theorem dX10_laysWays_166 : decode cX10_laysWays 166 = .ok (.aload_n 0, 1) := by decide +kernel
theorem dX10_laysWays_167 : decode cX10_laysWays 167 = .ok (.getfield 7, 3) := by decide +kernel
theorem dX10_laysWays_170 : decode cX10_laysWays 170 = .ok (.bipush 16, 2) := by decide +kernel
theorem dX10_laysWays_172 : decode cX10_laysWays 172 = .ok (.iconst 3, 1) := by decide +kernel
theorem dX10_laysWays_173 : decode cX10_laysWays 173 = .ok (.iload_n 1, 1) := by decide +kernel
theorem dX10_laysWays_174 : decode cX10_laysWays 174 = .ok (.imul, 1) := by decide +kernel
theorem dX10_laysWays_175 : decode cX10_laysWays 175 = .ok (.iadd, 1) := by decide +kernel
theorem dX10_laysWays_176 : decode cX10_laysWays 176 = .ok (.iconst 2, 1) := by decide +kernel
theorem dX10_laysWays_177 : decode cX10_laysWays 177 = .ok (.iadd, 1) := by decide +kernel
theorem dX10_laysWays_178 : decode cX10_laysWays 178 = .ok (.iaload, 1) := by decide +kernel
theorem dX10_laysWays_179 : decode cX10_laysWays 179 = .ok (.iastore, 1) := by decide +kernel
theorem dX10_laysWays_180 : decode cX10_laysWays 180 = .ok (.iinc 1 1, 3) := by decide +kernel
theorem dX10_laysWays_183 : decode cX10_laysWays 183 = .ok (.goto (-135), 3) := by decide +kernel
theorem dX10_laysWays_186 : decode cX10_laysWays 186 = .ok (.iconst 0, 1) := by decide +kernel
theorem dX10_laysWays_187 : decode cX10_laysWays 187 = .ok (.istore_n 1, 1) := by decide +kernel
theorem dX10_laysWays_188 : decode cX10_laysWays 188 = .ok (.iload_n 1, 1) := by decide +kernel
theorem dX10_laysWays_189 : decode cX10_laysWays 189 = .ok (.bipush 12, 2) := by decide +kernel
theorem dX10_laysWays_191 : decode cX10_laysWays 191 = .ok (.if_icmp .ge 80, 3) := by decide +kernel
theorem dX10_laysWays_194 : decode cX10_laysWays 194 = .ok (.iconst 0, 1) := by decide +kernel
theorem dX10_laysWays_195 : decode cX10_laysWays 195 = .ok (.istore_n 2, 1) := by decide +kernel
theorem dX10_laysWays_196 : decode cX10_laysWays 196 = .ok (.iload_n 2, 1) := by decide +kernel
theorem dX10_laysWays_197 : decode cX10_laysWays 197 = .ok (.sipush 144, 3) := by decide +kernel
theorem dX10_laysWays_200 : decode cX10_laysWays 200 = .ok (.if_icmp .ge 65, 3) := by decide +kernel
theorem dX10_laysWays_203 : decode cX10_laysWays 203 = .ok (.aload_n 0, 1) := by decide +kernel
theorem dX10_laysWays_204 : decode cX10_laysWays 204 = .ok (.getfield 28, 3) := by decide +kernel
theorem dX10_laysWays_207 : decode cX10_laysWays 207 = .ok (.iload_n 2, 1) := by decide +kernel
theorem dX10_laysWays_208 : decode cX10_laysWays 208 = .ok (.bipush 12, 2) := by decide +kernel
theorem dX10_laysWays_210 : decode cX10_laysWays 210 = .ok (.idiv, 1) := by decide +kernel
theorem dX10_laysWays_211 : decode cX10_laysWays 211 = .ok (.bipush 12, 2) := by decide +kernel
theorem dX10_laysWays_213 : decode cX10_laysWays 213 = .ok (.imul, 1) := by decide +kernel
theorem dX10_laysWays_214 : decode cX10_laysWays 214 = .ok (.iload_n 1, 1) := by decide +kernel
theorem dX10_laysWays_215 : decode cX10_laysWays 215 = .ok (.iadd, 1) := by decide +kernel
theorem dX10_laysWays_216 : decode cX10_laysWays 216 = .ok (.iaload, 1) := by decide +kernel
theorem dX10_laysWays_217 : decode cX10_laysWays 217 = .ok (.aload_n 0, 1) := by decide +kernel
theorem dX10_laysWays_218 : decode cX10_laysWays 218 = .ok (.getfield 28, 3) := by decide +kernel
theorem dX10_laysWays_221 : decode cX10_laysWays 221 = .ok (.bipush 12, 2) := by decide +kernel
theorem dX10_laysWays_223 : decode cX10_laysWays 223 = .ok (.iload_n 1, 1) := by decide +kernel
theorem dX10_laysWays_224 : decode cX10_laysWays 224 = .ok (.imul, 1) := by decide +kernel
theorem dX10_laysWays_225 : decode cX10_laysWays 225 = .ok (.iload_n 2, 1) := by decide +kernel
theorem dX10_laysWays_226 : decode cX10_laysWays 226 = .ok (.bipush 12, 2) := by decide +kernel
theorem dX10_laysWays_228 : decode cX10_laysWays 228 = .ok (.irem, 1) := by decide +kernel
theorem dX10_laysWays_229 : decode cX10_laysWays 229 = .ok (.iadd, 1) := by decide +kernel
theorem dX10_laysWays_230 : decode cX10_laysWays 230 = .ok (.iaload, 1) := by decide +kernel
theorem dX10_laysWays_231 : decode cX10_laysWays 231 = .ok (.iadd, 1) := by decide +kernel
theorem dX10_laysWays_232 : decode cX10_laysWays 232 = .ok (.istore_n 3, 1) := by decide +kernel
theorem dX10_laysWays_233 : decode cX10_laysWays 233 = .ok (.aload_n 0, 1) := by decide +kernel
theorem dX10_laysWays_234 : decode cX10_laysWays 234 = .ok (.getfield 28, 3) := by decide +kernel
theorem dX10_laysWays_237 : decode cX10_laysWays 237 = .ok (.iload_n 2, 1) := by decide +kernel
theorem dX10_laysWays_238 : decode cX10_laysWays 238 = .ok (.iload_n 3, 1) := by decide +kernel
theorem dX10_laysWays_239 : decode cX10_laysWays 239 = .ok (.aload_n 0, 1) := by decide +kernel
theorem dX10_laysWays_240 : decode cX10_laysWays 240 = .ok (.getfield 28, 3) := by decide +kernel
theorem dX10_laysWays_243 : decode cX10_laysWays 243 = .ok (.iload_n 2, 1) := by decide +kernel
theorem dX10_laysWays_244 : decode cX10_laysWays 244 = .ok (.iaload, 1) := by decide +kernel
theorem dX10_laysWays_245 : decode cX10_laysWays 245 = .ok (.if_icmp .ge 7, 3) := by decide +kernel
theorem dX10_laysWays_248 : decode cX10_laysWays 248 = .ok (.iload_n 3, 1) := by decide +kernel
theorem dX10_laysWays_249 : decode cX10_laysWays 249 = .ok (.goto 9, 3) := by decide +kernel
theorem dX10_laysWays_252 : decode cX10_laysWays 252 = .ok (.aload_n 0, 1) := by decide +kernel
theorem dX10_laysWays_253 : decode cX10_laysWays 253 = .ok (.getfield 28, 3) := by decide +kernel
theorem dX10_laysWays_256 : decode cX10_laysWays 256 = .ok (.iload_n 2, 1) := by decide +kernel
theorem dX10_laysWays_257 : decode cX10_laysWays 257 = .ok (.iaload, 1) := by decide +kernel
theorem dX10_laysWays_258 : decode cX10_laysWays 258 = .ok (.iastore, 1) := by decide +kernel
theorem dX10_laysWays_259 : decode cX10_laysWays 259 = .ok (.iinc 2 1, 3) := by decide +kernel
theorem dX10_laysWays_262 : decode cX10_laysWays 262 = .ok (.goto (-66), 3) := by decide +kernel
theorem dX10_laysWays_265 : decode cX10_laysWays 265 = .ok (.iinc 1 1, 3) := by decide +kernel
theorem dX10_laysWays_268 : decode cX10_laysWays 268 = .ok (.goto (-80), 3) := by decide +kernel
theorem dX10_laysWays_271 : decode cX10_laysWays 271 = .ok (.return_, 1) := by decide +kernel
theorem dX10_way_0 : decode cX10_way 0 = .ok (.aload_n 0, 1) := by decide +kernel
theorem dX10_way_1 : decode cX10_way 1 = .ok (.getfield 28, 3) := by decide +kernel
theorem dX10_way_4 : decode cX10_way 4 = .ok (.bipush 12, 2) := by decide +kernel
theorem dX10_way_6 : decode cX10_way 6 = .ok (.iload_n 1, 1) := by decide +kernel
theorem dX10_way_7 : decode cX10_way 7 = .ok (.imul, 1) := by decide +kernel
theorem dX10_way_8 : decode cX10_way 8 = .ok (.iload_n 2, 1) := by decide +kernel
theorem dX10_way_9 : decode cX10_way 9 = .ok (.iadd, 1) := by decide +kernel
theorem dX10_way_10 : decode cX10_way 10 = .ok (.iaload, 1) := by decide +kernel
theorem dX10_way_11 : decode cX10_way 11 = .ok (.ireturn, 1) := by decide +kernel
theorem dX10_nextOn_0 : decode cX10_nextOn 0 = .ok (.iconst 0, 1) := by decide +kernel
theorem dX10_nextOn_1 : decode cX10_nextOn 1 = .ok (.istore_n 3, 1) := by decide +kernel
theorem dX10_nextOn_2 : decode cX10_nextOn 2 = .ok (.iload_n 3, 1) := by decide +kernel
theorem dX10_nextOn_3 : decode cX10_nextOn 3 = .ok (.bipush 12, 2) := by decide +kernel
theorem dX10_nextOn_5 : decode cX10_nextOn 5 = .ok (.if_icmp .ge 54, 3) := by decide +kernel
theorem dX10_nextOn_8 : decode cX10_nextOn 8 = .ok (.aload_n 0, 1) := by decide +kernel
theorem dX10_nextOn_9 : decode cX10_nextOn 9 = .ok (.getfield 25, 3) := by decide +kernel
theorem dX10_nextOn_12 : decode cX10_nextOn 12 = .ok (.bipush 12, 2) := by decide +kernel
theorem dX10_nextOn_14 : decode cX10_nextOn 14 = .ok (.iload_n 1, 1) := by decide +kernel
theorem dX10_nextOn_15 : decode cX10_nextOn 15 = .ok (.imul, 1) := by decide +kernel
theorem dX10_nextOn_16 : decode cX10_nextOn 16 = .ok (.iload_n 3, 1) := by decide +kernel
theorem dX10_nextOn_17 : decode cX10_nextOn 17 = .ok (.iadd, 1) := by decide +kernel
theorem dX10_nextOn_18 : decode cX10_nextOn 18 = .ok (.iaload, 1) := by decide +kernel
theorem dX10_nextOn_19 : decode cX10_nextOn 19 = .ok (.ldc 52, 2) := by decide +kernel
theorem dX10_nextOn_21 : decode cX10_nextOn 21 = .ok (.if_icmp .ge 32, 3) := by decide +kernel
theorem dX10_nextOn_24 : decode cX10_nextOn 24 = .ok (.aload_n 0, 1) := by decide +kernel
theorem dX10_nextOn_25 : decode cX10_nextOn 25 = .ok (.getfield 25, 3) := by decide +kernel
theorem dX10_nextOn_28 : decode cX10_nextOn 28 = .ok (.bipush 12, 2) := by decide +kernel
theorem dX10_nextOn_30 : decode cX10_nextOn 30 = .ok (.iload_n 1, 1) := by decide +kernel
theorem dX10_nextOn_31 : decode cX10_nextOn 31 = .ok (.imul, 1) := by decide +kernel
theorem dX10_nextOn_32 : decode cX10_nextOn 32 = .ok (.iload_n 3, 1) := by decide +kernel
theorem dX10_nextOn_33 : decode cX10_nextOn 33 = .ok (.iadd, 1) := by decide +kernel
theorem dX10_nextOn_34 : decode cX10_nextOn 34 = .ok (.iaload, 1) := by decide +kernel
theorem dX10_nextOn_35 : decode cX10_nextOn 35 = .ok (.aload_n 0, 1) := by decide +kernel
theorem dX10_nextOn_36 : decode cX10_nextOn 36 = .ok (.iload_n 3, 1) := by decide +kernel
theorem dX10_nextOn_37 : decode cX10_nextOn 37 = .ok (.iload_n 2, 1) := by decide +kernel
theorem dX10_nextOn_38 : decode cX10_nextOn 38 = .ok (.invokevirtual 53, 3) := by decide +kernel
theorem dX10_nextOn_41 : decode cX10_nextOn 41 = .ok (.iadd, 1) := by decide +kernel
theorem dX10_nextOn_42 : decode cX10_nextOn 42 = .ok (.aload_n 0, 1) := by decide +kernel
theorem dX10_nextOn_43 : decode cX10_nextOn 43 = .ok (.iload_n 1, 1) := by decide +kernel
theorem dX10_nextOn_44 : decode cX10_nextOn 44 = .ok (.iload_n 2, 1) := by decide +kernel
theorem dX10_nextOn_45 : decode cX10_nextOn 45 = .ok (.invokevirtual 53, 3) := by decide +kernel
theorem dX10_nextOn_48 : decode cX10_nextOn 48 = .ok (.if_icmp .ne 5, 3) := by decide +kernel
theorem dX10_nextOn_51 : decode cX10_nextOn 51 = .ok (.iload_n 3, 1) := by decide +kernel
theorem dX10_nextOn_52 : decode cX10_nextOn 52 = .ok (.ireturn, 1) := by decide +kernel
theorem dX10_nextOn_53 : decode cX10_nextOn 53 = .ok (.iinc 3 1, 3) := by decide +kernel
theorem dX10_nextOn_56 : decode cX10_nextOn 56 = .ok (.goto (-54), 3) := by decide +kernel
theorem dX10_nextOn_59 : decode cX10_nextOn 59 = .ok (.iload_n 2, 1) := by decide +kernel
theorem dX10_nextOn_60 : decode cX10_nextOn 60 = .ok (.ireturn, 1) := by decide +kernel
theorem dX10_addRoad_0 : decode cX10_addRoad 0 = .ok (.iload_n 1, 1) := by decide +kernel
theorem dX10_addRoad_1 : decode cX10_addRoad 1 = .ok (.invokestatic 57, 3) := by decide +kernel
theorem dX10_addRoad_4 : decode cX10_addRoad 4 = .ok (.ifCond .eq 10, 3) := by decide +kernel
theorem dX10_addRoad_7 : decode cX10_addRoad 7 = .ok (.iload_n 2, 1) := by decide +kernel
theorem dX10_addRoad_8 : decode cX10_addRoad 8 = .ok (.invokestatic 57, 3) := by decide +kernel
theorem dX10_addRoad_11 : decode cX10_addRoad 11 = .ok (.ifCond .ne 5, 3) := by decide +kernel
theorem dX10_addRoad_14 : decode cX10_addRoad 14 = .ok (.iconst (-1), 1) := by decide +kernel
theorem dX10_addRoad_15 : decode cX10_addRoad 15 = .ok (.ireturn, 1) := by decide +kernel
theorem dX10_addRoad_16 : decode cX10_addRoad 16 = .ok (.iload_n 3, 1) := by decide +kernel
theorem dX10_addRoad_17 : decode cX10_addRoad 17 = .ok (.iconst 1, 1) := by decide +kernel
theorem dX10_addRoad_18 : decode cX10_addRoad 18 = .ok (.bipush 60, 2) := by decide +kernel
theorem dX10_addRoad_20 : decode cX10_addRoad 20 = .ok (.invokestatic 48, 3) := by decide +kernel
theorem dX10_addRoad_23 : decode cX10_addRoad 23 = .ok (.ifCond .eq 8, 3) := by decide +kernel
theorem dX10_addRoad_26 : decode cX10_addRoad 26 = .ok (.iload_n 1, 1) := by decide +kernel
theorem dX10_addRoad_27 : decode cX10_addRoad 27 = .ok (.iload_n 2, 1) := by decide +kernel
theorem dX10_addRoad_28 : decode cX10_addRoad 28 = .ok (.if_icmp .ne 6, 3) := by decide +kernel
theorem dX10_addRoad_31 : decode cX10_addRoad 31 = .ok (.bipush (-2), 2) := by decide +kernel
theorem dX10_addRoad_33 : decode cX10_addRoad 33 = .ok (.ireturn, 1) := by decide +kernel
theorem dX10_addRoad_34 : decode cX10_addRoad 34 = .ok (.aload_n 0, 1) := by decide +kernel
theorem dX10_addRoad_35 : decode cX10_addRoad 35 = .ok (.getfield 25, 3) := by decide +kernel
theorem dX10_addRoad_38 : decode cX10_addRoad 38 = .ok (.bipush 12, 2) := by decide +kernel
theorem dX10_addRoad_40 : decode cX10_addRoad 40 = .ok (.iload_n 1, 1) := by decide +kernel
theorem dX10_addRoad_41 : decode cX10_addRoad 41 = .ok (.imul, 1) := by decide +kernel
theorem dX10_addRoad_42 : decode cX10_addRoad 42 = .ok (.iload_n 2, 1) := by decide +kernel
theorem dX10_addRoad_43 : decode cX10_addRoad 43 = .ok (.iadd, 1) := by decide +kernel
theorem dX10_addRoad_44 : decode cX10_addRoad 44 = .ok (.iaload, 1) := by decide +kernel
theorem dX10_addRoad_45 : decode cX10_addRoad 45 = .ok (.ldc 52, 2) := by decide +kernel
theorem dX10_addRoad_47 : decode cX10_addRoad 47 = .ok (.if_icmp .ge 6, 3) := by decide +kernel
theorem dX10_addRoad_50 : decode cX10_addRoad 50 = .ok (.bipush (-4), 2) := by decide +kernel
theorem dX10_addRoad_52 : decode cX10_addRoad 52 = .ok (.ireturn, 1) := by decide +kernel
theorem dX10_addRoad_53 : decode cX10_addRoad 53 = .ok (.aload_n 0, 1) := by decide +kernel
theorem dX10_addRoad_54 : decode cX10_addRoad 54 = .ok (.getfield 7, 3) := by decide +kernel
theorem dX10_addRoad_57 : decode cX10_addRoad 57 = .ok (.iconst 5, 1) := by decide +kernel
theorem dX10_addRoad_58 : decode cX10_addRoad 58 = .ok (.iaload, 1) := by decide +kernel
theorem dX10_addRoad_59 : decode cX10_addRoad 59 = .ok (.bipush 30, 2) := by decide +kernel
theorem dX10_addRoad_61 : decode cX10_addRoad 61 = .ok (.if_icmp .ne 6, 3) := by decide +kernel
theorem dX10_addRoad_64 : decode cX10_addRoad 64 = .ok (.bipush (-3), 2) := by decide +kernel
theorem dX10_addRoad_66 : decode cX10_addRoad 66 = .ok (.ireturn, 1) := by decide +kernel
theorem dX10_addRoad_67 : decode cX10_addRoad 67 = .ok (.aload_n 0, 1) := by decide +kernel
theorem dX10_addRoad_68 : decode cX10_addRoad 68 = .ok (.invokevirtual 61, 3) := by decide +kernel
theorem dX10_addRoad_71 : decode cX10_addRoad 71 = .ok (.aload_n 0, 1) := by decide +kernel
theorem dX10_addRoad_72 : decode cX10_addRoad 72 = .ok (.getfield 7, 3) := by decide +kernel
theorem dX10_addRoad_75 : decode cX10_addRoad 75 = .ok (.iconst 5, 1) := by decide +kernel
theorem dX10_addRoad_76 : decode cX10_addRoad 76 = .ok (.iaload, 1) := by decide +kernel
theorem dX10_addRoad_77 : decode cX10_addRoad 77 = .ok (.istore 4, 2) := by decide +kernel
theorem dX10_addRoad_79 : decode cX10_addRoad 79 = .ok (.aload_n 0, 1) := by decide +kernel
theorem dX10_addRoad_80 : decode cX10_addRoad 80 = .ok (.getfield 7, 3) := by decide +kernel
theorem dX10_addRoad_83 : decode cX10_addRoad 83 = .ok (.bipush 16, 2) := by decide +kernel
theorem dX10_addRoad_85 : decode cX10_addRoad 85 = .ok (.iconst 3, 1) := by decide +kernel
theorem dX10_addRoad_86 : decode cX10_addRoad 86 = .ok (.iload 4, 2) := by decide +kernel
theorem dX10_addRoad_88 : decode cX10_addRoad 88 = .ok (.imul, 1) := by decide +kernel
theorem dX10_addRoad_89 : decode cX10_addRoad 89 = .ok (.iadd, 1) := by decide +kernel
theorem dX10_addRoad_90 : decode cX10_addRoad 90 = .ok (.iload_n 1, 1) := by decide +kernel
theorem dX10_addRoad_91 : decode cX10_addRoad 91 = .ok (.iastore, 1) := by decide +kernel
theorem dX10_addRoad_92 : decode cX10_addRoad 92 = .ok (.aload_n 0, 1) := by decide +kernel
theorem dX10_addRoad_93 : decode cX10_addRoad 93 = .ok (.getfield 7, 3) := by decide +kernel
theorem dX10_addRoad_96 : decode cX10_addRoad 96 = .ok (.bipush 16, 2) := by decide +kernel
theorem dX10_addRoad_98 : decode cX10_addRoad 98 = .ok (.iconst 3, 1) := by decide +kernel
theorem dX10_addRoad_99 : decode cX10_addRoad 99 = .ok (.iload 4, 2) := by decide +kernel
theorem dX10_addRoad_101 : decode cX10_addRoad 101 = .ok (.imul, 1) := by decide +kernel
theorem dX10_addRoad_102 : decode cX10_addRoad 102 = .ok (.iadd, 1) := by decide +kernel
theorem dX10_addRoad_103 : decode cX10_addRoad 103 = .ok (.iconst 1, 1) := by decide +kernel
theorem dX10_addRoad_104 : decode cX10_addRoad 104 = .ok (.iadd, 1) := by decide +kernel
theorem dX10_addRoad_105 : decode cX10_addRoad 105 = .ok (.iload_n 2, 1) := by decide +kernel
theorem dX10_addRoad_106 : decode cX10_addRoad 106 = .ok (.iastore, 1) := by decide +kernel
theorem dX10_addRoad_107 : decode cX10_addRoad 107 = .ok (.aload_n 0, 1) := by decide +kernel
theorem dX10_addRoad_108 : decode cX10_addRoad 108 = .ok (.getfield 7, 3) := by decide +kernel
theorem dX10_addRoad_111 : decode cX10_addRoad 111 = .ok (.bipush 16, 2) := by decide +kernel
theorem dX10_addRoad_113 : decode cX10_addRoad 113 = .ok (.iconst 3, 1) := by decide +kernel
theorem dX10_addRoad_114 : decode cX10_addRoad 114 = .ok (.iload 4, 2) := by decide +kernel
theorem dX10_addRoad_116 : decode cX10_addRoad 116 = .ok (.imul, 1) := by decide +kernel
theorem dX10_addRoad_117 : decode cX10_addRoad 117 = .ok (.iadd, 1) := by decide +kernel
theorem dX10_addRoad_118 : decode cX10_addRoad 118 = .ok (.iconst 2, 1) := by decide +kernel
theorem dX10_addRoad_119 : decode cX10_addRoad 119 = .ok (.iadd, 1) := by decide +kernel
theorem dX10_addRoad_120 : decode cX10_addRoad 120 = .ok (.iload_n 3, 1) := by decide +kernel
theorem dX10_addRoad_121 : decode cX10_addRoad 121 = .ok (.iastore, 1) := by decide +kernel
theorem dX10_addRoad_122 : decode cX10_addRoad 122 = .ok (.aload_n 0, 1) := by decide +kernel
theorem dX10_addRoad_123 : decode cX10_addRoad 123 = .ok (.getfield 7, 3) := by decide +kernel
theorem dX10_addRoad_126 : decode cX10_addRoad 126 = .ok (.iconst 5, 1) := by decide +kernel
theorem dX10_addRoad_127 : decode cX10_addRoad 127 = .ok (.dup2, 1) := by decide +kernel
theorem dX10_addRoad_128 : decode cX10_addRoad 128 = .ok (.iaload, 1) := by decide +kernel
theorem dX10_addRoad_129 : decode cX10_addRoad 129 = .ok (.iconst 1, 1) := by decide +kernel
theorem dX10_addRoad_130 : decode cX10_addRoad 130 = .ok (.iadd, 1) := by decide +kernel
theorem dX10_addRoad_131 : decode cX10_addRoad 131 = .ok (.iastore, 1) := by decide +kernel
theorem dX10_addRoad_132 : decode cX10_addRoad 132 = .ok (.aload_n 0, 1) := by decide +kernel
theorem dX10_addRoad_133 : decode cX10_addRoad 133 = .ok (.invokevirtual 37, 3) := by decide +kernel
theorem dX10_addRoad_136 : decode cX10_addRoad 136 = .ok (.iload 4, 2) := by decide +kernel
theorem dX10_addRoad_138 : decode cX10_addRoad 138 = .ok (.ireturn, 1) := by decide +kernel
theorem dX10_addMember_0 : decode cX10_addMember 0 = .ok (.iload_n 1, 1) := by decide +kernel
theorem dX10_addMember_1 : decode cX10_addMember 1 = .ok (.iconst 0, 1) := by decide +kernel
theorem dX10_addMember_2 : decode cX10_addMember 2 = .ok (.iconst 2, 1) := by decide +kernel
theorem dX10_addMember_3 : decode cX10_addMember 3 = .ok (.invokestatic 48, 3) := by decide +kernel
theorem dX10_addMember_6 : decode cX10_addMember 6 = .ok (.ifCond .ne 6, 3) := by decide +kernel
theorem dX10_addMember_9 : decode cX10_addMember 9 = .ok (.bipush (-2), 2) := by decide +kernel
theorem dX10_addMember_11 : decode cX10_addMember 11 = .ok (.ireturn, 1) := by decide +kernel
theorem dX10_addMember_12 : decode cX10_addMember 12 = .ok (.aload_n 0, 1) := by decide +kernel
theorem dX10_addMember_13 : decode cX10_addMember 13 = .ok (.getfield 7, 3) := by decide +kernel
theorem dX10_addMember_16 : decode cX10_addMember 16 = .ok (.bipush 6, 2) := by decide +kernel
theorem dX10_addMember_18 : decode cX10_addMember 18 = .ok (.iaload, 1) := by decide +kernel
theorem dX10_addMember_19 : decode cX10_addMember 19 = .ok (.bipush 20, 2) := by decide +kernel
theorem dX10_addMember_21 : decode cX10_addMember 21 = .ok (.if_icmp .ne 6, 3) := by decide +kernel
theorem dX10_addMember_24 : decode cX10_addMember 24 = .ok (.bipush (-3), 2) := by decide +kernel
theorem dX10_addMember_26 : decode cX10_addMember 26 = .ok (.ireturn, 1) := by decide +kernel
theorem dX10_addMember_27 : decode cX10_addMember 27 = .ok (.aload_n 0, 1) := by decide +kernel
theorem dX10_addMember_28 : decode cX10_addMember 28 = .ok (.invokevirtual 61, 3) := by decide +kernel
theorem dX10_addMember_31 : decode cX10_addMember 31 = .ok (.aload_n 0, 1) := by decide +kernel
theorem dX10_addMember_32 : decode cX10_addMember 32 = .ok (.getfield 7, 3) := by decide +kernel
theorem dX10_addMember_35 : decode cX10_addMember 35 = .ok (.bipush 106, 2) := by decide +kernel
theorem dX10_addMember_37 : decode cX10_addMember 37 = .ok (.iconst 4, 1) := by decide +kernel
theorem dX10_addMember_38 : decode cX10_addMember 38 = .ok (.aload_n 0, 1) := by decide +kernel
theorem dX10_addMember_39 : decode cX10_addMember 39 = .ok (.getfield 7, 3) := by decide +kernel
theorem dX10_addMember_42 : decode cX10_addMember 42 = .ok (.bipush 6, 2) := by decide +kernel
theorem dX10_addMember_44 : decode cX10_addMember 44 = .ok (.iaload, 1) := by decide +kernel
theorem dX10_addMember_45 : decode cX10_addMember 45 = .ok (.imul, 1) := by decide +kernel
theorem dX10_addMember_46 : decode cX10_addMember 46 = .ok (.iadd, 1) := by decide +kernel
theorem dX10_addMember_47 : decode cX10_addMember 47 = .ok (.iload_n 1, 1) := by decide +kernel
theorem dX10_addMember_48 : decode cX10_addMember 48 = .ok (.iastore, 1) := by decide +kernel
theorem dX10_addMember_49 : decode cX10_addMember 49 = .ok (.aload_n 0, 1) := by decide +kernel
theorem dX10_addMember_50 : decode cX10_addMember 50 = .ok (.getfield 7, 3) := by decide +kernel
theorem dX10_addMember_53 : decode cX10_addMember 53 = .ok (.bipush 6, 2) := by decide +kernel
theorem dX10_addMember_55 : decode cX10_addMember 55 = .ok (.dup2, 1) := by decide +kernel
theorem dX10_addMember_56 : decode cX10_addMember 56 = .ok (.iaload, 1) := by decide +kernel
theorem dX10_addMember_57 : decode cX10_addMember 57 = .ok (.iconst 1, 1) := by decide +kernel
theorem dX10_addMember_58 : decode cX10_addMember 58 = .ok (.iadd, 1) := by decide +kernel
theorem dX10_addMember_59 : decode cX10_addMember 59 = .ok (.iastore, 1) := by decide +kernel
theorem dX10_addMember_60 : decode cX10_addMember 60 = .ok (.aload_n 0, 1) := by decide +kernel
theorem dX10_addMember_61 : decode cX10_addMember 61 = .ok (.getfield 7, 3) := by decide +kernel
theorem dX10_addMember_64 : decode cX10_addMember 64 = .ok (.bipush 6, 2) := by decide +kernel
theorem dX10_addMember_66 : decode cX10_addMember 66 = .ok (.iaload, 1) := by decide +kernel
theorem dX10_addMember_67 : decode cX10_addMember 67 = .ok (.iconst 1, 1) := by decide +kernel
theorem dX10_addMember_68 : decode cX10_addMember 68 = .ok (.isub, 1) := by decide +kernel
theorem dX10_addMember_69 : decode cX10_addMember 69 = .ok (.ireturn, 1) := by decide +kernel
theorem dX10_addPatrol_0 : decode cX10_addPatrol 0 = .ok (.iload_n 1, 1) := by decide +kernel
theorem dX10_addPatrol_1 : decode cX10_addPatrol 1 = .ok (.invokestatic 57, 3) := by decide +kernel
theorem dX10_addPatrol_4 : decode cX10_addPatrol 4 = .ok (.ifCond .ne 5, 3) := by decide +kernel
theorem dX10_addPatrol_7 : decode cX10_addPatrol 7 = .ok (.iconst (-1), 1) := by decide +kernel
theorem dX10_addPatrol_8 : decode cX10_addPatrol 8 = .ok (.ireturn, 1) := by decide +kernel
theorem dX10_addPatrol_9 : decode cX10_addPatrol 9 = .ok (.iload_n 2, 1) := by decide +kernel
theorem dX10_addPatrol_10 : decode cX10_addPatrol 10 = .ok (.iconst 1, 1) := by decide +kernel
theorem dX10_addPatrol_11 : decode cX10_addPatrol 11 = .ok (.bipush 9, 2) := by decide +kernel
theorem dX10_addPatrol_13 : decode cX10_addPatrol 13 = .ok (.invokestatic 48, 3) := by decide +kernel
theorem dX10_addPatrol_16 : decode cX10_addPatrol 16 = .ok (.ifCond .ne 6, 3) := by decide +kernel
theorem dX10_addPatrol_19 : decode cX10_addPatrol 19 = .ok (.bipush (-2), 2) := by decide +kernel
theorem dX10_addPatrol_21 : decode cX10_addPatrol 21 = .ok (.ireturn, 1) := by decide +kernel
theorem dX10_addPatrol_22 : decode cX10_addPatrol 22 = .ok (.aload_n 0, 1) := by decide +kernel
theorem dX10_addPatrol_23 : decode cX10_addPatrol 23 = .ok (.getfield 7, 3) := by decide +kernel
theorem dX10_addPatrol_26 : decode cX10_addPatrol 26 = .ok (.bipush 7, 2) := by decide +kernel
theorem dX10_addPatrol_28 : decode cX10_addPatrol 28 = .ok (.iaload, 1) := by decide +kernel
theorem dX10_addPatrol_29 : decode cX10_addPatrol 29 = .ok (.bipush 6, 2) := by decide +kernel
theorem dX10_addPatrol_31 : decode cX10_addPatrol 31 = .ok (.if_icmp .ne 6, 3) := by decide +kernel
theorem dX10_addPatrol_34 : decode cX10_addPatrol 34 = .ok (.bipush (-3), 2) := by decide +kernel
theorem dX10_addPatrol_36 : decode cX10_addPatrol 36 = .ok (.ireturn, 1) := by decide +kernel
theorem dX10_addPatrol_37 : decode cX10_addPatrol 37 = .ok (.aload_n 0, 1) := by decide +kernel
theorem dX10_addPatrol_38 : decode cX10_addPatrol 38 = .ok (.invokevirtual 61, 3) := by decide +kernel
theorem dX10_addPatrol_41 : decode cX10_addPatrol 41 = .ok (.aload_n 0, 1) := by decide +kernel
theorem dX10_addPatrol_42 : decode cX10_addPatrol 42 = .ok (.getfield 7, 3) := by decide +kernel
theorem dX10_addPatrol_45 : decode cX10_addPatrol 45 = .ok (.bipush 7, 2) := by decide +kernel
theorem dX10_addPatrol_47 : decode cX10_addPatrol 47 = .ok (.iaload, 1) := by decide +kernel
theorem dX10_addPatrol_48 : decode cX10_addPatrol 48 = .ok (.istore 4, 2) := by decide +kernel
theorem dX10_addPatrol_50 : decode cX10_addPatrol 50 = .ok (.aload_n 0, 1) := by decide +kernel
theorem dX10_addPatrol_51 : decode cX10_addPatrol 51 = .ok (.iload 4, 2) := by decide +kernel
theorem dX10_addPatrol_53 : decode cX10_addPatrol 53 = .ok (.iconst 0, 1) := by decide +kernel
theorem dX10_addPatrol_54 : decode cX10_addPatrol 54 = .ok (.iload_n 1, 1) := by decide +kernel
theorem dX10_addPatrol_55 : decode cX10_addPatrol 55 = .ok (.invokevirtual 64, 3) := by decide +kernel
theorem dX10_addPatrol_58 : decode cX10_addPatrol 58 = .ok (.aload_n 0, 1) := by decide +kernel
theorem dX10_addPatrol_59 : decode cX10_addPatrol 59 = .ok (.iload 4, 2) := by decide +kernel
theorem dX10_addPatrol_61 : decode cX10_addPatrol 61 = .ok (.iconst 1, 1) := by decide +kernel
theorem dX10_addPatrol_62 : decode cX10_addPatrol 62 = .ok (.iload_n 2, 1) := by decide +kernel
theorem dX10_addPatrol_63 : decode cX10_addPatrol 63 = .ok (.invokevirtual 64, 3) := by decide +kernel
theorem dX10_addPatrol_66 : decode cX10_addPatrol 66 = .ok (.aload_n 0, 1) := by decide +kernel
theorem dX10_addPatrol_67 : decode cX10_addPatrol 67 = .ok (.iload 4, 2) := by decide +kernel
theorem dX10_addPatrol_69 : decode cX10_addPatrol 69 = .ok (.iconst 2, 1) := by decide +kernel
theorem dX10_addPatrol_70 : decode cX10_addPatrol 70 = .ok (.iload_n 3, 1) := by decide +kernel
theorem dX10_addPatrol_71 : decode cX10_addPatrol 71 = .ok (.ifCond .eq 7, 3) := by decide +kernel
theorem dX10_addPatrol_74 : decode cX10_addPatrol 74 = .ok (.iconst 1, 1) := by decide +kernel
theorem dX10_addPatrol_75 : decode cX10_addPatrol 75 = .ok (.goto 4, 3) := by decide +kernel
theorem dX10_addPatrol_78 : decode cX10_addPatrol 78 = .ok (.iconst 0, 1) := by decide +kernel
theorem dX10_addPatrol_79 : decode cX10_addPatrol 79 = .ok (.invokevirtual 64, 3) := by decide +kernel
theorem dX10_addPatrol_82 : decode cX10_addPatrol 82 = .ok (.aload_n 0, 1) := by decide +kernel
theorem dX10_addPatrol_83 : decode cX10_addPatrol 83 = .ok (.iload 4, 2) := by decide +kernel
theorem dX10_addPatrol_85 : decode cX10_addPatrol 85 = .ok (.iconst 4, 1) := by decide +kernel
theorem dX10_addPatrol_86 : decode cX10_addPatrol 86 = .ok (.iload_n 1, 1) := by decide +kernel
theorem dX10_addPatrol_87 : decode cX10_addPatrol 87 = .ok (.invokevirtual 64, 3) := by decide +kernel
theorem dX10_addPatrol_90 : decode cX10_addPatrol 90 = .ok (.aload_n 0, 1) := by decide +kernel
theorem dX10_addPatrol_91 : decode cX10_addPatrol 91 = .ok (.iload 4, 2) := by decide +kernel
theorem dX10_addPatrol_93 : decode cX10_addPatrol 93 = .ok (.invokevirtual 68, 3) := by decide +kernel
theorem dX10_addPatrol_96 : decode cX10_addPatrol 96 = .ok (.aload_n 0, 1) := by decide +kernel
theorem dX10_addPatrol_97 : decode cX10_addPatrol 97 = .ok (.getfield 7, 3) := by decide +kernel
theorem dX10_addPatrol_100 : decode cX10_addPatrol 100 = .ok (.bipush 7, 2) := by decide +kernel
theorem dX10_addPatrol_102 : decode cX10_addPatrol 102 = .ok (.dup2, 1) := by decide +kernel
theorem dX10_addPatrol_103 : decode cX10_addPatrol 103 = .ok (.iaload, 1) := by decide +kernel
theorem dX10_addPatrol_104 : decode cX10_addPatrol 104 = .ok (.iconst 1, 1) := by decide +kernel
theorem dX10_addPatrol_105 : decode cX10_addPatrol 105 = .ok (.iadd, 1) := by decide +kernel
theorem dX10_addPatrol_106 : decode cX10_addPatrol 106 = .ok (.iastore, 1) := by decide +kernel
theorem dX10_addPatrol_107 : decode cX10_addPatrol 107 = .ok (.iload 4, 2) := by decide +kernel
theorem dX10_addPatrol_109 : decode cX10_addPatrol 109 = .ok (.ireturn, 1) := by decide +kernel
theorem dX10_addGarage_0 : decode cX10_addGarage 0 = .ok (.iload_n 1, 1) := by decide +kernel
theorem dX10_addGarage_1 : decode cX10_addGarage 1 = .ok (.invokestatic 57, 3) := by decide +kernel
theorem dX10_addGarage_4 : decode cX10_addGarage 4 = .ok (.ifCond .ne 5, 3) := by decide +kernel
theorem dX10_addGarage_7 : decode cX10_addGarage 7 = .ok (.iconst (-1), 1) := by decide +kernel
theorem dX10_addGarage_8 : decode cX10_addGarage 8 = .ok (.ireturn, 1) := by decide +kernel
theorem dX10_addGarage_9 : decode cX10_addGarage 9 = .ok (.iload_n 2, 1) := by decide +kernel
theorem dX10_addGarage_10 : decode cX10_addGarage 10 = .ok (.iconst 1, 1) := by decide +kernel
theorem dX10_addGarage_11 : decode cX10_addGarage 11 = .ok (.bipush 9, 2) := by decide +kernel
theorem dX10_addGarage_13 : decode cX10_addGarage 13 = .ok (.invokestatic 48, 3) := by decide +kernel
theorem dX10_addGarage_16 : decode cX10_addGarage 16 = .ok (.ifCond .ne 6, 3) := by decide +kernel
theorem dX10_addGarage_19 : decode cX10_addGarage 19 = .ok (.bipush (-2), 2) := by decide +kernel
theorem dX10_addGarage_21 : decode cX10_addGarage 21 = .ok (.ireturn, 1) := by decide +kernel
theorem dX10_addGarage_22 : decode cX10_addGarage 22 = .ok (.aload_n 0, 1) := by decide +kernel
theorem dX10_addGarage_23 : decode cX10_addGarage 23 = .ok (.getfield 7, 3) := by decide +kernel
theorem dX10_addGarage_26 : decode cX10_addGarage 26 = .ok (.bipush 8, 2) := by decide +kernel
theorem dX10_addGarage_28 : decode cX10_addGarage 28 = .ok (.iaload, 1) := by decide +kernel
theorem dX10_addGarage_29 : decode cX10_addGarage 29 = .ok (.iconst 5, 1) := by decide +kernel
theorem dX10_addGarage_30 : decode cX10_addGarage 30 = .ok (.if_icmp .ne 6, 3) := by decide +kernel
theorem dX10_addGarage_33 : decode cX10_addGarage 33 = .ok (.bipush (-3), 2) := by decide +kernel
theorem dX10_addGarage_35 : decode cX10_addGarage 35 = .ok (.ireturn, 1) := by decide +kernel
theorem dX10_addGarage_36 : decode cX10_addGarage 36 = .ok (.aload_n 0, 1) := by decide +kernel
theorem dX10_addGarage_37 : decode cX10_addGarage 37 = .ok (.invokevirtual 61, 3) := by decide +kernel
theorem dX10_addGarage_40 : decode cX10_addGarage 40 = .ok (.sipush 270, 3) := by decide +kernel
theorem dX10_addGarage_43 : decode cX10_addGarage 43 = .ok (.iconst 4, 1) := by decide +kernel
theorem dX10_addGarage_44 : decode cX10_addGarage 44 = .ok (.aload_n 0, 1) := by decide +kernel
theorem dX10_addGarage_45 : decode cX10_addGarage 45 = .ok (.getfield 7, 3) := by decide +kernel
theorem dX10_addGarage_48 : decode cX10_addGarage 48 = .ok (.bipush 8, 2) := by decide +kernel
theorem dX10_addGarage_50 : decode cX10_addGarage 50 = .ok (.iaload, 1) := by decide +kernel
theorem dX10_addGarage_51 : decode cX10_addGarage 51 = .ok (.imul, 1) := by decide +kernel
theorem dX10_addGarage_52 : decode cX10_addGarage 52 = .ok (.iadd, 1) := by decide +kernel
theorem dX10_addGarage_53 : decode cX10_addGarage 53 = .ok (.istore_n 3, 1) := by decide +kernel
theorem dX10_addGarage_54 : decode cX10_addGarage 54 = .ok (.aload_n 0, 1) := by decide +kernel
theorem dX10_addGarage_55 : decode cX10_addGarage 55 = .ok (.getfield 7, 3) := by decide +kernel
theorem dX10_addGarage_58 : decode cX10_addGarage 58 = .ok (.iload_n 3, 1) := by decide +kernel
theorem dX10_addGarage_59 : decode cX10_addGarage 59 = .ok (.iload_n 1, 1) := by decide +kernel
theorem dX10_addGarage_60 : decode cX10_addGarage 60 = .ok (.iastore, 1) := by decide +kernel
theorem dX10_addGarage_61 : decode cX10_addGarage 61 = .ok (.aload_n 0, 1) := by decide +kernel
theorem dX10_addGarage_62 : decode cX10_addGarage 62 = .ok (.getfield 7, 3) := by decide +kernel
theorem dX10_addGarage_65 : decode cX10_addGarage 65 = .ok (.iload_n 3, 1) := by decide +kernel
theorem dX10_addGarage_66 : decode cX10_addGarage 66 = .ok (.iconst 1, 1) := by decide +kernel
theorem dX10_addGarage_67 : decode cX10_addGarage 67 = .ok (.iadd, 1) := by decide +kernel
theorem dX10_addGarage_68 : decode cX10_addGarage 68 = .ok (.iload_n 2, 1) := by decide +kernel
theorem dX10_addGarage_69 : decode cX10_addGarage 69 = .ok (.iastore, 1) := by decide +kernel
theorem dX10_addGarage_70 : decode cX10_addGarage 70 = .ok (.aload_n 0, 1) := by decide +kernel
theorem dX10_addGarage_71 : decode cX10_addGarage 71 = .ok (.getfield 7, 3) := by decide +kernel
theorem dX10_addGarage_74 : decode cX10_addGarage 74 = .ok (.bipush 8, 2) := by decide +kernel
theorem dX10_addGarage_76 : decode cX10_addGarage 76 = .ok (.dup2, 1) := by decide +kernel
theorem dX10_addGarage_77 : decode cX10_addGarage 77 = .ok (.iaload, 1) := by decide +kernel
theorem dX10_addGarage_78 : decode cX10_addGarage 78 = .ok (.iconst 1, 1) := by decide +kernel
theorem dX10_addGarage_79 : decode cX10_addGarage 79 = .ok (.iadd, 1) := by decide +kernel
theorem dX10_addGarage_80 : decode cX10_addGarage 80 = .ok (.iastore, 1) := by decide +kernel
theorem dX10_addGarage_81 : decode cX10_addGarage 81 = .ok (.aload_n 0, 1) := by decide +kernel
theorem dX10_addGarage_82 : decode cX10_addGarage 82 = .ok (.getfield 7, 3) := by decide +kernel
theorem dX10_addGarage_85 : decode cX10_addGarage 85 = .ok (.bipush 8, 2) := by decide +kernel
theorem dX10_addGarage_87 : decode cX10_addGarage 87 = .ok (.iaload, 1) := by decide +kernel
theorem dX10_addGarage_88 : decode cX10_addGarage 88 = .ok (.iconst 1, 1) := by decide +kernel
theorem dX10_addGarage_89 : decode cX10_addGarage 89 = .ok (.isub, 1) := by decide +kernel
theorem dX10_addGarage_90 : decode cX10_addGarage 90 = .ok (.ireturn, 1) := by decide +kernel
theorem dX10_setPromise_0 : decode cX10_setPromise 0 = .ok (.iload_n 1, 1) := by decide +kernel
theorem dX10_setPromise_1 : decode cX10_setPromise 1 = .ok (.iconst 0, 1) := by decide +kernel
theorem dX10_setPromise_2 : decode cX10_setPromise 2 = .ok (.iconst 2, 1) := by decide +kernel
theorem dX10_setPromise_3 : decode cX10_setPromise 3 = .ok (.invokestatic 48, 3) := by decide +kernel
theorem dX10_setPromise_6 : decode cX10_setPromise 6 = .ok (.ifCond .eq 15, 3) := by decide +kernel
theorem dX10_setPromise_9 : decode cX10_setPromise 9 = .ok (.iload_n 2, 1) := by decide +kernel
theorem dX10_setPromise_10 : decode cX10_setPromise 10 = .ok (.bipush 10, 2) := by decide +kernel
theorem dX10_setPromise_12 : decode cX10_setPromise 12 = .ok (.sipush 240, 3) := by decide +kernel
theorem dX10_setPromise_15 : decode cX10_setPromise 15 = .ok (.invokestatic 48, 3) := by decide +kernel
theorem dX10_setPromise_18 : decode cX10_setPromise 18 = .ok (.ifCond .ne 6, 3) := by decide +kernel
theorem dX10_setPromise_21 : decode cX10_setPromise 21 = .ok (.bipush (-2), 2) := by decide +kernel
theorem dX10_setPromise_23 : decode cX10_setPromise 23 = .ok (.ireturn, 1) := by decide +kernel
theorem dX10_setPromise_24 : decode cX10_setPromise 24 = .ok (.aload_n 0, 1) := by decide +kernel
theorem dX10_setPromise_25 : decode cX10_setPromise 25 = .ok (.getfield 7, 3) := by decide +kernel
theorem dX10_setPromise_28 : decode cX10_setPromise 28 = .ok (.iconst 2, 1) := by decide +kernel
theorem dX10_setPromise_29 : decode cX10_setPromise 29 = .ok (.iload_n 1, 1) := by decide +kernel
theorem dX10_setPromise_30 : decode cX10_setPromise 30 = .ok (.iadd, 1) := by decide +kernel
theorem dX10_setPromise_31 : decode cX10_setPromise 31 = .ok (.iaload, 1) := by decide +kernel
theorem dX10_setPromise_32 : decode cX10_setPromise 32 = .ok (.istore_n 3, 1) := by decide +kernel
theorem dX10_setPromise_33 : decode cX10_setPromise 33 = .ok (.iload_n 3, 1) := by decide +kernel
theorem dX10_setPromise_34 : decode cX10_setPromise 34 = .ok (.iload_n 2, 1) := by decide +kernel
theorem dX10_setPromise_35 : decode cX10_setPromise 35 = .ok (.if_icmp .ne 6, 3) := by decide +kernel
theorem dX10_setPromise_38 : decode cX10_setPromise 38 = .ok (.bipush (-5), 2) := by decide +kernel
theorem dX10_setPromise_40 : decode cX10_setPromise 40 = .ok (.ireturn, 1) := by decide +kernel
theorem dX10_setPromise_41 : decode cX10_setPromise 41 = .ok (.aload_n 0, 1) := by decide +kernel
theorem dX10_setPromise_42 : decode cX10_setPromise 42 = .ok (.invokevirtual 61, 3) := by decide +kernel
theorem dX10_setPromise_45 : decode cX10_setPromise 45 = .ok (.aload_n 0, 1) := by decide +kernel
theorem dX10_setPromise_46 : decode cX10_setPromise 46 = .ok (.getfield 7, 3) := by decide +kernel
theorem dX10_setPromise_49 : decode cX10_setPromise 49 = .ok (.iconst 2, 1) := by decide +kernel
theorem dX10_setPromise_50 : decode cX10_setPromise 50 = .ok (.iload_n 1, 1) := by decide +kernel
theorem dX10_setPromise_51 : decode cX10_setPromise 51 = .ok (.iadd, 1) := by decide +kernel
theorem dX10_setPromise_52 : decode cX10_setPromise 52 = .ok (.iload_n 2, 1) := by decide +kernel
theorem dX10_setPromise_53 : decode cX10_setPromise 53 = .ok (.iastore, 1) := by decide +kernel
theorem dX10_setPromise_54 : decode cX10_setPromise 54 = .ok (.iload_n 3, 1) := by decide +kernel
theorem dX10_setPromise_55 : decode cX10_setPromise 55 = .ok (.ireturn, 1) := by decide +kernel
theorem dX10_setWeather_0 : decode cX10_setWeather 0 = .ok (.iload_n 1, 1) := by decide +kernel
theorem dX10_setWeather_1 : decode cX10_setWeather 1 = .ok (.iconst 0, 1) := by decide +kernel
theorem dX10_setWeather_2 : decode cX10_setWeather 2 = .ok (.iconst 5, 1) := by decide +kernel
theorem dX10_setWeather_3 : decode cX10_setWeather 3 = .ok (.invokestatic 48, 3) := by decide +kernel
theorem dX10_setWeather_6 : decode cX10_setWeather 6 = .ok (.ifCond .ne 6, 3) := by decide +kernel
theorem dX10_setWeather_9 : decode cX10_setWeather 9 = .ok (.bipush (-2), 2) := by decide +kernel
theorem dX10_setWeather_11 : decode cX10_setWeather 11 = .ok (.ireturn, 1) := by decide +kernel
theorem dX10_setWeather_12 : decode cX10_setWeather 12 = .ok (.aload_n 0, 1) := by decide +kernel
theorem dX10_setWeather_13 : decode cX10_setWeather 13 = .ok (.getfield 7, 3) := by decide +kernel
theorem dX10_setWeather_16 : decode cX10_setWeather 16 = .ok (.iconst 1, 1) := by decide +kernel
theorem dX10_setWeather_17 : decode cX10_setWeather 17 = .ok (.iaload, 1) := by decide +kernel
theorem dX10_setWeather_18 : decode cX10_setWeather 18 = .ok (.istore_n 2, 1) := by decide +kernel
theorem dX10_setWeather_19 : decode cX10_setWeather 19 = .ok (.iload_n 2, 1) := by decide +kernel
theorem dX10_setWeather_20 : decode cX10_setWeather 20 = .ok (.iload_n 1, 1) := by decide +kernel
theorem dX10_setWeather_21 : decode cX10_setWeather 21 = .ok (.if_icmp .ne 6, 3) := by decide +kernel
theorem dX10_setWeather_24 : decode cX10_setWeather 24 = .ok (.bipush (-5), 2) := by decide +kernel
theorem dX10_setWeather_26 : decode cX10_setWeather 26 = .ok (.ireturn, 1) := by decide +kernel
theorem dX10_setWeather_27 : decode cX10_setWeather 27 = .ok (.aload_n 0, 1) := by decide +kernel
theorem dX10_setWeather_28 : decode cX10_setWeather 28 = .ok (.invokevirtual 61, 3) := by decide +kernel
theorem dX10_setWeather_31 : decode cX10_setWeather 31 = .ok (.aload_n 0, 1) := by decide +kernel
theorem dX10_setWeather_32 : decode cX10_setWeather 32 = .ok (.getfield 7, 3) := by decide +kernel
theorem dX10_setWeather_35 : decode cX10_setWeather 35 = .ok (.iconst 1, 1) := by decide +kernel
theorem dX10_setWeather_36 : decode cX10_setWeather 36 = .ok (.iload_n 1, 1) := by decide +kernel
theorem dX10_setWeather_37 : decode cX10_setWeather 37 = .ok (.iastore, 1) := by decide +kernel
theorem dX10_setWeather_38 : decode cX10_setWeather 38 = .ok (.iload_n 2, 1) := by decide +kernel
theorem dX10_setWeather_39 : decode cX10_setWeather 39 = .ok (.ireturn, 1) := by decide +kernel
theorem dX10_openOf_0 : decode cX10_openOf 0 = .ok (.iconst 0, 1) := by decide +kernel
theorem dX10_openOf_1 : decode cX10_openOf 1 = .ok (.istore_n 2, 1) := by decide +kernel
theorem dX10_openOf_2 : decode cX10_openOf 2 = .ok (.iload_n 2, 1) := by decide +kernel
theorem dX10_openOf_3 : decode cX10_openOf 3 = .ok (.aload_n 0, 1) := by decide +kernel
theorem dX10_openOf_4 : decode cX10_openOf 4 = .ok (.getfield 7, 3) := by decide +kernel
theorem dX10_openOf_7 : decode cX10_openOf 7 = .ok (.bipush 9, 2) := by decide +kernel
theorem dX10_openOf_9 : decode cX10_openOf 9 = .ok (.iaload, 1) := by decide +kernel
theorem dX10_openOf_10 : decode cX10_openOf 10 = .ok (.if_icmp .ge 31, 3) := by decide +kernel
theorem dX10_openOf_13 : decode cX10_openOf 13 = .ok (.aload_n 0, 1) := by decide +kernel
theorem dX10_openOf_14 : decode cX10_openOf 14 = .ok (.iload_n 2, 1) := by decide +kernel
theorem dX10_openOf_15 : decode cX10_openOf 15 = .ok (.iconst 0, 1) := by decide +kernel
theorem dX10_openOf_16 : decode cX10_openOf 16 = .ok (.invokevirtual 72, 3) := by decide +kernel
theorem dX10_openOf_19 : decode cX10_openOf 19 = .ok (.iload_n 1, 1) := by decide +kernel
theorem dX10_openOf_20 : decode cX10_openOf 20 = .ok (.if_icmp .ne 15, 3) := by decide +kernel
theorem dX10_openOf_23 : decode cX10_openOf 23 = .ok (.aload_n 0, 1) := by decide +kernel
theorem dX10_openOf_24 : decode cX10_openOf 24 = .ok (.iload_n 2, 1) := by decide +kernel
theorem dX10_openOf_25 : decode cX10_openOf 25 = .ok (.iconst 5, 1) := by decide +kernel
theorem dX10_openOf_26 : decode cX10_openOf 26 = .ok (.invokevirtual 72, 3) := by decide +kernel
theorem dX10_openOf_29 : decode cX10_openOf 29 = .ok (.iconst 5, 1) := by decide +kernel
theorem dX10_openOf_30 : decode cX10_openOf 30 = .ok (.if_icmp .ge 5, 3) := by decide +kernel
theorem dX10_openOf_33 : decode cX10_openOf 33 = .ok (.iload_n 2, 1) := by decide +kernel
theorem dX10_openOf_34 : decode cX10_openOf 34 = .ok (.ireturn, 1) := by decide +kernel
theorem dX10_openOf_35 : decode cX10_openOf 35 = .ok (.iinc 2 1, 3) := by decide +kernel
theorem dX10_openOf_38 : decode cX10_openOf 38 = .ok (.goto (-36), 3) := by decide +kernel
theorem dX10_openOf_41 : decode cX10_openOf 41 = .ok (.bipush (-5), 2) := by decide +kernel
theorem dX10_openOf_43 : decode cX10_openOf 43 = .ok (.ireturn, 1) := by decide +kernel
theorem dX10_against_0 : decode cX10_against 0 = .ok (.aload_n 0, 1) := by decide +kernel
theorem dX10_against_1 : decode cX10_against 1 = .ok (.iload_n 1, 1) := by decide +kernel
theorem dX10_against_2 : decode cX10_against 2 = .ok (.invokevirtual 75, 3) := by decide +kernel
theorem dX10_against_5 : decode cX10_against 5 = .ok (.ifCond .eq 10, 3) := by decide +kernel
theorem dX10_against_8 : decode cX10_against 8 = .ok (.iload_n 2, 1) := by decide +kernel
theorem dX10_against_9 : decode cX10_against 9 = .ok (.invokestatic 57, 3) := by decide +kernel
theorem dX10_against_12 : decode cX10_against 12 = .ok (.ifCond .ne 5, 3) := by decide +kernel
theorem dX10_against_15 : decode cX10_against 15 = .ok (.iconst (-1), 1) := by decide +kernel
theorem dX10_against_16 : decode cX10_against 16 = .ok (.ireturn, 1) := by decide +kernel
theorem dX10_against_17 : decode cX10_against 17 = .ok (.iload_n 3, 1) := by decide +kernel
theorem dX10_against_18 : decode cX10_against 18 = .ok (.iconst 1, 1) := by decide +kernel
theorem dX10_against_19 : decode cX10_against 19 = .ok (.bipush 12, 2) := by decide +kernel
theorem dX10_against_21 : decode cX10_against 21 = .ok (.invokestatic 48, 3) := by decide +kernel
theorem dX10_against_24 : decode cX10_against 24 = .ok (.ifCond .ne 6, 3) := by decide +kernel
theorem dX10_against_27 : decode cX10_against 27 = .ok (.bipush (-2), 2) := by decide +kernel
theorem dX10_against_29 : decode cX10_against 29 = .ok (.ireturn, 1) := by decide +kernel
theorem dX10_against_30 : decode cX10_against 30 = .ok (.aload_n 0, 1) := by decide +kernel
theorem dX10_against_31 : decode cX10_against 31 = .ok (.iload_n 1, 1) := by decide +kernel
theorem dX10_against_32 : decode cX10_against 32 = .ok (.invokevirtual 78, 3) := by decide +kernel
theorem dX10_against_35 : decode cX10_against 35 = .ok (.bipush (-5), 2) := by decide +kernel
theorem dX10_against_37 : decode cX10_against 37 = .ok (.if_icmp .eq 6, 3) := by decide +kernel
theorem dX10_against_40 : decode cX10_against 40 = .ok (.bipush (-4), 2) := by decide +kernel
theorem dX10_against_42 : decode cX10_against 42 = .ok (.ireturn, 1) := by decide +kernel
theorem dX10_against_43 : decode cX10_against 43 = .ok (.aload_n 0, 1) := by decide +kernel
theorem dX10_against_44 : decode cX10_against 44 = .ok (.getfield 7, 3) := by decide +kernel
theorem dX10_against_47 : decode cX10_against 47 = .ok (.bipush 9, 2) := by decide +kernel
theorem dX10_against_49 : decode cX10_against 49 = .ok (.iaload, 1) := by decide +kernel
theorem dX10_against_50 : decode cX10_against 50 = .ok (.bipush 40, 2) := by decide +kernel
theorem dX10_against_52 : decode cX10_against 52 = .ok (.if_icmp .ne 8, 3) := by decide +kernel
theorem dX10_against_55 : decode cX10_against 55 = .ok (.bipush (-3), 2) := by decide +kernel
theorem dX10_against_57 : decode cX10_against 57 = .ok (.goto 4, 3) := by decide +kernel
theorem dX10_against_60 : decode cX10_against 60 = .ok (.iconst 0, 1) := by decide +kernel
theorem dX10_against_61 : decode cX10_against 61 = .ok (.ireturn, 1) := by decide +kernel
theorem dX10_comes_0 : decode cX10_comes 0 = .ok (.aload_n 0, 1) := by decide +kernel
theorem dX10_comes_1 : decode cX10_comes 1 = .ok (.getfield 7, 3) := by decide +kernel
theorem dX10_comes_4 : decode cX10_comes 4 = .ok (.bipush 9, 2) := by decide +kernel
theorem dX10_comes_6 : decode cX10_comes 6 = .ok (.iaload, 1) := by decide +kernel
theorem dX10_comes_7 : decode cX10_comes 7 = .ok (.istore 4, 2) := by decide +kernel
theorem dX10_comes_9 : decode cX10_comes 9 = .ok (.bipush (-5), 2) := by decide +kernel
theorem dX10_comes_11 : decode cX10_comes 11 = .ok (.istore 5, 2) := by decide +kernel
theorem dX10_comes_13 : decode cX10_comes 13 = .ok (.iconst 0, 1) := by decide +kernel
theorem dX10_comes_14 : decode cX10_comes 14 = .ok (.istore 6, 2) := by decide +kernel
theorem dX10_comes_16 : decode cX10_comes 16 = .ok (.iload 6, 2) := by decide +kernel
theorem dX10_comes_18 : decode cX10_comes 18 = .ok (.iload 4, 2) := by decide +kernel
theorem dX10_comes_20 : decode cX10_comes 20 = .ok (.if_icmp .ge 40, 3) := by decide +kernel
theorem dX10_comes_23 : decode cX10_comes 23 = .ok (.aload_n 0, 1) := by decide +kernel
theorem dX10_comes_24 : decode cX10_comes 24 = .ok (.iload 6, 2) := by decide +kernel
theorem dX10_comes_26 : decode cX10_comes 26 = .ok (.iconst 0, 1) := by decide +kernel
theorem dX10_comes_27 : decode cX10_comes 27 = .ok (.invokevirtual 72, 3) := by decide +kernel
theorem dX10_comes_30 : decode cX10_comes 30 = .ok (.iload_n 1, 1) := by decide +kernel
theorem dX10_comes_31 : decode cX10_comes 31 = .ok (.if_icmp .ne 19, 3) := by decide +kernel
theorem dX10_comes_34 : decode cX10_comes 34 = .ok (.aload_n 0, 1) := by decide +kernel
theorem dX10_comes_35 : decode cX10_comes 35 = .ok (.iload 6, 2) := by decide +kernel
theorem dX10_comes_37 : decode cX10_comes 37 = .ok (.iconst 5, 1) := by decide +kernel
theorem dX10_comes_38 : decode cX10_comes 38 = .ok (.invokevirtual 72, 3) := by decide +kernel
theorem dX10_comes_41 : decode cX10_comes 41 = .ok (.iconst 5, 1) := by decide +kernel
theorem dX10_comes_42 : decode cX10_comes 42 = .ok (.if_icmp .ne 8, 3) := by decide +kernel
theorem dX10_comes_45 : decode cX10_comes 45 = .ok (.iload 6, 2) := by decide +kernel
theorem dX10_comes_47 : decode cX10_comes 47 = .ok (.goto 5, 3) := by decide +kernel
theorem dX10_comes_50 : decode cX10_comes 50 = .ok (.iload 5, 2) := by decide +kernel
theorem dX10_comes_52 : decode cX10_comes 52 = .ok (.istore 5, 2) := by decide +kernel
theorem dX10_comes_54 : decode cX10_comes 54 = .ok (.iinc 6 1, 3) := by decide +kernel
theorem dX10_comes_57 : decode cX10_comes 57 = .ok (.goto (-41), 3) := by decide +kernel
theorem dX10_comes_60 : decode cX10_comes 60 = .ok (.aload_n 0, 1) := by decide +kernel
theorem dX10_comes_61 : decode cX10_comes 61 = .ok (.iload 4, 2) := by decide +kernel
theorem dX10_comes_63 : decode cX10_comes 63 = .ok (.iconst 0, 1) := by decide +kernel
theorem dX10_comes_64 : decode cX10_comes 64 = .ok (.iload_n 1, 1) := by decide +kernel
theorem dX10_comes_65 : decode cX10_comes 65 = .ok (.invokevirtual 82, 3) := by decide +kernel
theorem dX10_comes_68 : decode cX10_comes 68 = .ok (.aload_n 0, 1) := by decide +kernel
theorem dX10_comes_69 : decode cX10_comes 69 = .ok (.iload 4, 2) := by decide +kernel
theorem dX10_comes_71 : decode cX10_comes 71 = .ok (.iconst 1, 1) := by decide +kernel
theorem dX10_comes_72 : decode cX10_comes 72 = .ok (.iload_n 2, 1) := by decide +kernel
theorem dX10_comes_73 : decode cX10_comes 73 = .ok (.invokevirtual 82, 3) := by decide +kernel
theorem dX10_comes_76 : decode cX10_comes 76 = .ok (.aload_n 0, 1) := by decide +kernel
theorem dX10_comes_77 : decode cX10_comes 77 = .ok (.iload 4, 2) := by decide +kernel
theorem dX10_comes_79 : decode cX10_comes 79 = .ok (.iconst 2, 1) := by decide +kernel
theorem dX10_comes_80 : decode cX10_comes 80 = .ok (.iload_n 3, 1) := by decide +kernel
theorem dX10_comes_81 : decode cX10_comes 81 = .ok (.invokevirtual 82, 3) := by decide +kernel
theorem dX10_comes_84 : decode cX10_comes 84 = .ok (.aload_n 0, 1) := by decide +kernel
theorem dX10_comes_85 : decode cX10_comes 85 = .ok (.iload 4, 2) := by decide +kernel
theorem dX10_comes_87 : decode cX10_comes 87 = .ok (.iconst 3, 1) := by decide +kernel
theorem dX10_comes_88 : decode cX10_comes 88 = .ok (.aload_n 0, 1) := by decide +kernel
theorem dX10_comes_89 : decode cX10_comes 89 = .ok (.getfield 7, 3) := by decide +kernel
theorem dX10_comes_92 : decode cX10_comes 92 = .ok (.iconst 2, 1) := by decide +kernel
theorem dX10_comes_93 : decode cX10_comes 93 = .ok (.aload_n 0, 1) := by decide +kernel
theorem dX10_comes_94 : decode cX10_comes 94 = .ok (.iload_n 1, 1) := by decide +kernel
theorem dX10_comes_95 : decode cX10_comes 95 = .ok (.iconst 0, 1) := by decide +kernel
theorem dX10_comes_96 : decode cX10_comes 96 = .ok (.invokevirtual 85, 3) := by decide +kernel
theorem dX10_comes_99 : decode cX10_comes 99 = .ok (.iadd, 1) := by decide +kernel
theorem dX10_comes_100 : decode cX10_comes 100 = .ok (.iaload, 1) := by decide +kernel
theorem dX10_comes_101 : decode cX10_comes 101 = .ok (.bipush 10, 2) := by decide +kernel
theorem dX10_comes_103 : decode cX10_comes 103 = .ok (.aload_n 0, 1) := by decide +kernel
theorem dX10_comes_104 : decode cX10_comes 104 = .ok (.getfield 7, 3) := by decide +kernel
theorem dX10_comes_107 : decode cX10_comes 107 = .ok (.iconst 1, 1) := by decide +kernel
theorem dX10_comes_108 : decode cX10_comes 108 = .ok (.iaload, 1) := by decide +kernel
theorem dX10_comes_109 : decode cX10_comes 109 = .ok (.imul, 1) := by decide +kernel
theorem dX10_comes_110 : decode cX10_comes 110 = .ok (.iadd, 1) := by decide +kernel
theorem dX10_comes_111 : decode cX10_comes 111 = .ok (.invokevirtual 82, 3) := by decide +kernel
theorem dX10_comes_114 : decode cX10_comes 114 = .ok (.aload_n 0, 1) := by decide +kernel
theorem dX10_comes_115 : decode cX10_comes 115 = .ok (.iload 4, 2) := by decide +kernel
theorem dX10_comes_117 : decode cX10_comes 117 = .ok (.iconst 4, 1) := by decide +kernel
theorem dX10_comes_118 : decode cX10_comes 118 = .ok (.aload_n 0, 1) := by decide +kernel
theorem dX10_comes_119 : decode cX10_comes 119 = .ok (.getfield 7, 3) := by decide +kernel
theorem dX10_comes_122 : decode cX10_comes 122 = .ok (.iconst 0, 1) := by decide +kernel
theorem dX10_comes_123 : decode cX10_comes 123 = .ok (.iaload, 1) := by decide +kernel
theorem dX10_comes_124 : decode cX10_comes 124 = .ok (.invokevirtual 82, 3) := by decide +kernel
theorem dX10_comes_127 : decode cX10_comes 127 = .ok (.aload_n 0, 1) := by decide +kernel
theorem dX10_comes_128 : decode cX10_comes 128 = .ok (.iload 4, 2) := by decide +kernel
theorem dX10_comes_130 : decode cX10_comes 130 = .ok (.iconst 5, 1) := by decide +kernel
theorem dX10_comes_131 : decode cX10_comes 131 = .ok (.iconst 0, 1) := by decide +kernel
theorem dX10_comes_132 : decode cX10_comes 132 = .ok (.invokevirtual 82, 3) := by decide +kernel
theorem dX10_comes_135 : decode cX10_comes 135 = .ok (.aload_n 0, 1) := by decide +kernel
theorem dX10_comes_136 : decode cX10_comes 136 = .ok (.iload 4, 2) := by decide +kernel
theorem dX10_comes_138 : decode cX10_comes 138 = .ok (.bipush 6, 2) := by decide +kernel
theorem dX10_comes_140 : decode cX10_comes 140 = .ok (.bipush (-5), 2) := by decide +kernel
theorem dX10_comes_142 : decode cX10_comes 142 = .ok (.invokevirtual 82, 3) := by decide +kernel
theorem dX10_comes_145 : decode cX10_comes 145 = .ok (.aload_n 0, 1) := by decide +kernel
theorem dX10_comes_146 : decode cX10_comes 146 = .ok (.iload 4, 2) := by decide +kernel
theorem dX10_comes_148 : decode cX10_comes 148 = .ok (.bipush 7, 2) := by decide +kernel
theorem dX10_comes_150 : decode cX10_comes 150 = .ok (.iconst 0, 1) := by decide +kernel
theorem dX10_comes_151 : decode cX10_comes 151 = .ok (.invokevirtual 82, 3) := by decide +kernel
theorem dX10_comes_154 : decode cX10_comes 154 = .ok (.aload_n 0, 1) := by decide +kernel
theorem dX10_comes_155 : decode cX10_comes 155 = .ok (.iload 4, 2) := by decide +kernel
theorem dX10_comes_157 : decode cX10_comes 157 = .ok (.bipush 8, 2) := by decide +kernel
theorem dX10_comes_159 : decode cX10_comes 159 = .ok (.bipush (-5), 2) := by decide +kernel
theorem dX10_comes_161 : decode cX10_comes 161 = .ok (.invokevirtual 82, 3) := by decide +kernel
theorem dX10_comes_164 : decode cX10_comes 164 = .ok (.aload_n 0, 1) := by decide +kernel
theorem dX10_comes_165 : decode cX10_comes 165 = .ok (.iload 4, 2) := by decide +kernel
theorem dX10_comes_167 : decode cX10_comes 167 = .ok (.bipush 9, 2) := by decide +kernel
theorem dX10_comes_169 : decode cX10_comes 169 = .ok (.bipush (-5), 2) := by decide +kernel
theorem dX10_comes_171 : decode cX10_comes 171 = .ok (.invokevirtual 82, 3) := by decide +kernel
theorem dX10_comes_174 : decode cX10_comes 174 = .ok (.aload_n 0, 1) := by decide +kernel
theorem dX10_comes_175 : decode cX10_comes 175 = .ok (.iload 4, 2) := by decide +kernel
theorem dX10_comes_177 : decode cX10_comes 177 = .ok (.bipush 10, 2) := by decide +kernel
theorem dX10_comes_179 : decode cX10_comes 179 = .ok (.iconst 0, 1) := by decide +kernel
theorem dX10_comes_180 : decode cX10_comes 180 = .ok (.invokevirtual 82, 3) := by decide +kernel
theorem dX10_comes_183 : decode cX10_comes 183 = .ok (.aload_n 0, 1) := by decide +kernel
theorem dX10_comes_184 : decode cX10_comes 184 = .ok (.iload 4, 2) := by decide +kernel
theorem dX10_comes_186 : decode cX10_comes 186 = .ok (.bipush 11, 2) := by decide +kernel
theorem dX10_comes_188 : decode cX10_comes 188 = .ok (.bipush (-5), 2) := by decide +kernel
theorem dX10_comes_190 : decode cX10_comes 190 = .ok (.invokevirtual 82, 3) := by decide +kernel
theorem dX10_comes_193 : decode cX10_comes 193 = .ok (.aload_n 0, 1) := by decide +kernel
theorem dX10_comes_194 : decode cX10_comes 194 = .ok (.getfield 7, 3) := by decide +kernel
theorem dX10_comes_197 : decode cX10_comes 197 = .ok (.bipush 9, 2) := by decide +kernel
theorem dX10_comes_199 : decode cX10_comes 199 = .ok (.dup2, 1) := by decide +kernel
theorem dX10_comes_200 : decode cX10_comes 200 = .ok (.iaload, 1) := by decide +kernel
theorem dX10_comes_201 : decode cX10_comes 201 = .ok (.iconst 1, 1) := by decide +kernel
theorem dX10_comes_202 : decode cX10_comes 202 = .ok (.iadd, 1) := by decide +kernel
theorem dX10_comes_203 : decode cX10_comes 203 = .ok (.iastore, 1) := by decide +kernel
theorem dX10_comes_204 : decode cX10_comes 204 = .ok (.iload 5, 2) := by decide +kernel
theorem dX10_comes_206 : decode cX10_comes 206 = .ok (.bipush (-5), 2) := by decide +kernel
theorem dX10_comes_208 : decode cX10_comes 208 = .ok (.if_icmp .eq 78, 3) := by decide +kernel
theorem dX10_comes_211 : decode cX10_comes 211 = .ok (.aload_n 0, 1) := by decide +kernel
theorem dX10_comes_212 : decode cX10_comes 212 = .ok (.getfield 7, 3) := by decide +kernel
theorem dX10_comes_215 : decode cX10_comes 215 = .ok (.iconst 0, 1) := by decide +kernel
theorem dX10_comes_216 : decode cX10_comes 216 = .ok (.iaload, 1) := by decide +kernel
theorem dX10_comes_217 : decode cX10_comes 217 = .ok (.aload_n 0, 1) := by decide +kernel
theorem dX10_comes_218 : decode cX10_comes 218 = .ok (.iload 5, 2) := by decide +kernel
theorem dX10_comes_220 : decode cX10_comes 220 = .ok (.bipush 9, 2) := by decide +kernel
theorem dX10_comes_222 : decode cX10_comes 222 = .ok (.invokevirtual 72, 3) := by decide +kernel
theorem dX10_comes_225 : decode cX10_comes 225 = .ok (.isub, 1) := by decide +kernel
theorem dX10_comes_226 : decode cX10_comes 226 = .ok (.bipush 120, 2) := by decide +kernel
theorem dX10_comes_228 : decode cX10_comes 228 = .ok (.if_icmp .gt 58, 3) := by decide +kernel
theorem dX10_comes_231 : decode cX10_comes 231 = .ok (.aload_n 0, 1) := by decide +kernel
theorem dX10_comes_232 : decode cX10_comes 232 = .ok (.iload 5, 2) := by decide +kernel
theorem dX10_comes_234 : decode cX10_comes 234 = .ok (.bipush 8, 2) := by decide +kernel
theorem dX10_comes_236 : decode cX10_comes 236 = .ok (.invokevirtual 72, 3) := by decide +kernel
theorem dX10_comes_239 : decode cX10_comes 239 = .ok (.istore 6, 2) := by decide +kernel
theorem dX10_comes_241 : decode cX10_comes 241 = .ok (.aload_n 0, 1) := by decide +kernel
theorem dX10_comes_242 : decode cX10_comes 242 = .ok (.iload 4, 2) := by decide +kernel
theorem dX10_comes_244 : decode cX10_comes 244 = .ok (.bipush 10, 2) := by decide +kernel
theorem dX10_comes_246 : decode cX10_comes 246 = .ok (.iconst 1, 1) := by decide +kernel
theorem dX10_comes_247 : decode cX10_comes 247 = .ok (.invokevirtual 82, 3) := by decide +kernel
theorem dX10_comes_250 : decode cX10_comes 250 = .ok (.aload_n 0, 1) := by decide +kernel
theorem dX10_comes_251 : decode cX10_comes 251 = .ok (.iload 6, 2) := by decide +kernel
theorem dX10_comes_253 : decode cX10_comes 253 = .ok (.bipush 9, 2) := by decide +kernel
theorem dX10_comes_255 : decode cX10_comes 255 = .ok (.aload_n 0, 1) := by decide +kernel
theorem dX10_comes_256 : decode cX10_comes 256 = .ok (.iload 6, 2) := by decide +kernel
theorem dX10_comes_258 : decode cX10_comes 258 = .ok (.bipush 9, 2) := by decide +kernel
theorem dX10_comes_260 : decode cX10_comes 260 = .ok (.invokevirtual 88, 3) := by decide +kernel
theorem dX10_comes_263 : decode cX10_comes 263 = .ok (.iconst 1, 1) := by decide +kernel
theorem dX10_comes_264 : decode cX10_comes 264 = .ok (.iadd, 1) := by decide +kernel
theorem dX10_comes_265 : decode cX10_comes 265 = .ok (.invokevirtual 64, 3) := by decide +kernel
theorem dX10_comes_268 : decode cX10_comes 268 = .ok (.aload_n 0, 1) := by decide +kernel
theorem dX10_comes_269 : decode cX10_comes 269 = .ok (.iload_n 1, 1) := by decide +kernel
theorem dX10_comes_270 : decode cX10_comes 270 = .ok (.iconst 2, 1) := by decide +kernel
theorem dX10_comes_271 : decode cX10_comes 271 = .ok (.iconst 1, 1) := by decide +kernel
theorem dX10_comes_272 : decode cX10_comes 272 = .ok (.invokevirtual 91, 3) := by decide +kernel
theorem dX10_comes_275 : decode cX10_comes 275 = .ok (.aload_n 0, 1) := by decide +kernel
theorem dX10_comes_276 : decode cX10_comes 276 = .ok (.getfield 7, 3) := by decide +kernel
theorem dX10_comes_279 : decode cX10_comes 279 = .ok (.bipush 12, 2) := by decide +kernel
theorem dX10_comes_281 : decode cX10_comes 281 = .ok (.dup2, 1) := by decide +kernel
theorem dX10_comes_282 : decode cX10_comes 282 = .ok (.iaload, 1) := by decide +kernel
theorem dX10_comes_283 : decode cX10_comes 283 = .ok (.iconst 1, 1) := by decide +kernel
theorem dX10_comes_284 : decode cX10_comes 284 = .ok (.iadd, 1) := by decide +kernel
theorem dX10_comes_285 : decode cX10_comes 285 = .ok (.iastore, 1) := by decide +kernel
theorem dX10_comes_286 : decode cX10_comes 286 = .ok (.return_, 1) := by decide +kernel
theorem dX10_call_0 : decode cX10_call 0 = .ok (.aload_n 0, 1) := by decide +kernel
theorem dX10_call_1 : decode cX10_call 1 = .ok (.iload_n 1, 1) := by decide +kernel
theorem dX10_call_2 : decode cX10_call 2 = .ok (.iload_n 2, 1) := by decide +kernel
theorem dX10_call_3 : decode cX10_call 3 = .ok (.iload_n 3, 1) := by decide +kernel
theorem dX10_call_4 : decode cX10_call 4 = .ok (.invokevirtual 94, 3) := by decide +kernel
theorem dX10_call_7 : decode cX10_call 7 = .ok (.istore 4, 2) := by decide +kernel
theorem dX10_call_9 : decode cX10_call 9 = .ok (.iload 4, 2) := by decide +kernel
theorem dX10_call_11 : decode cX10_call 11 = .ok (.ifCond .eq 6, 3) := by decide +kernel
theorem dX10_call_14 : decode cX10_call 14 = .ok (.iload 4, 2) := by decide +kernel
theorem dX10_call_16 : decode cX10_call 16 = .ok (.ireturn, 1) := by decide +kernel
theorem dX10_call_17 : decode cX10_call 17 = .ok (.aload_n 0, 1) := by decide +kernel
theorem dX10_call_18 : decode cX10_call 18 = .ok (.invokevirtual 61, 3) := by decide +kernel
theorem dX10_call_21 : decode cX10_call 21 = .ok (.aload_n 0, 1) := by decide +kernel
theorem dX10_call_22 : decode cX10_call 22 = .ok (.iload_n 1, 1) := by decide +kernel
theorem dX10_call_23 : decode cX10_call 23 = .ok (.iload_n 2, 1) := by decide +kernel
theorem dX10_call_24 : decode cX10_call 24 = .ok (.iload_n 3, 1) := by decide +kernel
theorem dX10_call_25 : decode cX10_call 25 = .ok (.invokevirtual 98, 3) := by decide +kernel
theorem dX10_call_28 : decode cX10_call 28 = .ok (.aload_n 0, 1) := by decide +kernel
theorem dX10_call_29 : decode cX10_call 29 = .ok (.getfield 7, 3) := by decide +kernel
theorem dX10_call_32 : decode cX10_call 32 = .ok (.bipush 9, 2) := by decide +kernel
theorem dX10_call_34 : decode cX10_call 34 = .ok (.iaload, 1) := by decide +kernel
theorem dX10_call_35 : decode cX10_call 35 = .ok (.iconst 1, 1) := by decide +kernel
theorem dX10_call_36 : decode cX10_call 36 = .ok (.isub, 1) := by decide +kernel
theorem dX10_call_37 : decode cX10_call 37 = .ok (.ireturn, 1) := by decide +kernel
theorem dX10_waitedOf_0 : decode cX10_waitedOf 0 = .ok (.aload_n 0, 1) := by decide +kernel
theorem dX10_waitedOf_1 : decode cX10_waitedOf 1 = .ok (.iload_n 1, 1) := by decide +kernel
theorem dX10_waitedOf_2 : decode cX10_waitedOf 2 = .ok (.bipush 8, 2) := by decide +kernel
theorem dX10_waitedOf_4 : decode cX10_waitedOf 4 = .ok (.invokevirtual 72, 3) := by decide +kernel
theorem dX10_waitedOf_7 : decode cX10_waitedOf 7 = .ok (.bipush (-5), 2) := by decide +kernel
theorem dX10_waitedOf_9 : decode cX10_waitedOf 9 = .ok (.if_icmp .ne 14, 3) := by decide +kernel
theorem dX10_waitedOf_12 : decode cX10_waitedOf 12 = .ok (.aload_n 0, 1) := by decide +kernel
theorem dX10_waitedOf_13 : decode cX10_waitedOf 13 = .ok (.iload_n 1, 1) := by decide +kernel
theorem dX10_waitedOf_14 : decode cX10_waitedOf 14 = .ok (.iconst 5, 1) := by decide +kernel
theorem dX10_waitedOf_15 : decode cX10_waitedOf 15 = .ok (.invokevirtual 72, 3) := by decide +kernel
theorem dX10_waitedOf_18 : decode cX10_waitedOf 18 = .ok (.bipush 7, 2) := by decide +kernel
theorem dX10_waitedOf_20 : decode cX10_waitedOf 20 = .ok (.if_icmp .ne 7, 3) := by decide +kernel
theorem dX10_waitedOf_23 : decode cX10_waitedOf 23 = .ok (.iconst 1, 1) := by decide +kernel
theorem dX10_waitedOf_24 : decode cX10_waitedOf 24 = .ok (.goto 4, 3) := by decide +kernel
theorem dX10_waitedOf_27 : decode cX10_waitedOf 27 = .ok (.iconst 0, 1) := by decide +kernel
theorem dX10_waitedOf_28 : decode cX10_waitedOf 28 = .ok (.istore_n 2, 1) := by decide +kernel
theorem dX10_waitedOf_29 : decode cX10_waitedOf 29 = .ok (.iload_n 2, 1) := by decide +kernel
theorem dX10_waitedOf_30 : decode cX10_waitedOf 30 = .ok (.ifCond .eq 13, 3) := by decide +kernel
theorem dX10_waitedOf_33 : decode cX10_waitedOf 33 = .ok (.aload_n 0, 1) := by decide +kernel
theorem dX10_waitedOf_34 : decode cX10_waitedOf 34 = .ok (.iload_n 1, 1) := by decide +kernel
theorem dX10_waitedOf_35 : decode cX10_waitedOf 35 = .ok (.bipush 7, 2) := by decide +kernel
theorem dX10_waitedOf_37 : decode cX10_waitedOf 37 = .ok (.invokevirtual 72, 3) := by decide +kernel
theorem dX10_waitedOf_40 : decode cX10_waitedOf 40 = .ok (.goto 16, 3) := by decide +kernel
theorem dX10_waitedOf_43 : decode cX10_waitedOf 43 = .ok (.aload_n 0, 1) := by decide +kernel
theorem dX10_waitedOf_44 : decode cX10_waitedOf 44 = .ok (.getfield 7, 3) := by decide +kernel
theorem dX10_waitedOf_47 : decode cX10_waitedOf 47 = .ok (.iconst 0, 1) := by decide +kernel
theorem dX10_waitedOf_48 : decode cX10_waitedOf 48 = .ok (.iaload, 1) := by decide +kernel
theorem dX10_waitedOf_49 : decode cX10_waitedOf 49 = .ok (.aload_n 0, 1) := by decide +kernel
theorem dX10_waitedOf_50 : decode cX10_waitedOf 50 = .ok (.iload_n 1, 1) := by decide +kernel
theorem dX10_waitedOf_51 : decode cX10_waitedOf 51 = .ok (.iconst 4, 1) := by decide +kernel
theorem dX10_waitedOf_52 : decode cX10_waitedOf 52 = .ok (.invokevirtual 72, 3) := by decide +kernel
theorem dX10_waitedOf_55 : decode cX10_waitedOf 55 = .ok (.isub, 1) := by decide +kernel
theorem dX10_waitedOf_56 : decode cX10_waitedOf 56 = .ok (.ireturn, 1) := by decide +kernel
theorem dX10_frees_0 : decode cX10_frees 0 = .ok (.aload_n 0, 1) := by decide +kernel
theorem dX10_frees_1 : decode cX10_frees 1 = .ok (.iload_n 1, 1) := by decide +kernel
theorem dX10_frees_2 : decode cX10_frees 2 = .ok (.iconst 3, 1) := by decide +kernel
theorem dX10_frees_3 : decode cX10_frees 3 = .ok (.iconst 0, 1) := by decide +kernel
theorem dX10_frees_4 : decode cX10_frees 4 = .ok (.invokevirtual 64, 3) := by decide +kernel
theorem dX10_frees_7 : decode cX10_frees 7 = .ok (.aload_n 0, 1) := by decide +kernel
theorem dX10_frees_8 : decode cX10_frees 8 = .ok (.iload_n 1, 1) := by decide +kernel
theorem dX10_frees_9 : decode cX10_frees 9 = .ok (.iconst 5, 1) := by decide +kernel
theorem dX10_frees_10 : decode cX10_frees 10 = .ok (.bipush (-5), 2) := by decide +kernel
theorem dX10_frees_12 : decode cX10_frees 12 = .ok (.invokevirtual 64, 3) := by decide +kernel
theorem dX10_frees_15 : decode cX10_frees 15 = .ok (.aload_n 0, 1) := by decide +kernel
theorem dX10_frees_16 : decode cX10_frees 16 = .ok (.iload_n 1, 1) := by decide +kernel
theorem dX10_frees_17 : decode cX10_frees 17 = .ok (.bipush 6, 2) := by decide +kernel
theorem dX10_frees_19 : decode cX10_frees 19 = .ok (.bipush (-5), 2) := by decide +kernel
theorem dX10_frees_21 : decode cX10_frees 21 = .ok (.invokevirtual 64, 3) := by decide +kernel
theorem dX10_frees_24 : decode cX10_frees 24 = .ok (.return_, 1) := by decide +kernel
theorem dX10_cancel_0 : decode cX10_cancel 0 = .ok (.aload_n 0, 1) := by decide +kernel
theorem dX10_cancel_1 : decode cX10_cancel 1 = .ok (.iload_n 1, 1) := by decide +kernel
theorem dX10_cancel_2 : decode cX10_cancel 2 = .ok (.invokevirtual 101, 3) := by decide +kernel
theorem dX10_cancel_5 : decode cX10_cancel 5 = .ok (.ifCond .ne 5, 3) := by decide +kernel
theorem dX10_cancel_8 : decode cX10_cancel 8 = .ok (.iconst (-1), 1) := by decide +kernel
theorem dX10_cancel_9 : decode cX10_cancel 9 = .ok (.ireturn, 1) := by decide +kernel
theorem dX10_cancel_10 : decode cX10_cancel 10 = .ok (.aload_n 0, 1) := by decide +kernel
theorem dX10_cancel_11 : decode cX10_cancel 11 = .ok (.iload_n 1, 1) := by decide +kernel
theorem dX10_cancel_12 : decode cX10_cancel 12 = .ok (.iconst 5, 1) := by decide +kernel
theorem dX10_cancel_13 : decode cX10_cancel 13 = .ok (.invokevirtual 72, 3) := by decide +kernel
theorem dX10_cancel_16 : decode cX10_cancel 16 = .ok (.iconst 1, 1) := by decide +kernel
theorem dX10_cancel_17 : decode cX10_cancel 17 = .ok (.if_icmp .le 6, 3) := by decide +kernel
theorem dX10_cancel_20 : decode cX10_cancel 20 = .ok (.bipush (-4), 2) := by decide +kernel
theorem dX10_cancel_22 : decode cX10_cancel 22 = .ok (.ireturn, 1) := by decide +kernel
theorem dX10_cancel_23 : decode cX10_cancel 23 = .ok (.aload_n 0, 1) := by decide +kernel
theorem dX10_cancel_24 : decode cX10_cancel 24 = .ok (.invokevirtual 61, 3) := by decide +kernel
theorem dX10_cancel_27 : decode cX10_cancel 27 = .ok (.aload_n 0, 1) := by decide +kernel
theorem dX10_cancel_28 : decode cX10_cancel 28 = .ok (.iload_n 1, 1) := by decide +kernel
theorem dX10_cancel_29 : decode cX10_cancel 29 = .ok (.invokevirtual 104, 3) := by decide +kernel
theorem dX10_cancel_32 : decode cX10_cancel 32 = .ok (.istore_n 2, 1) := by decide +kernel
theorem dX10_cancel_33 : decode cX10_cancel 33 = .ok (.aload_n 0, 1) := by decide +kernel
theorem dX10_cancel_34 : decode cX10_cancel 34 = .ok (.iload_n 1, 1) := by decide +kernel
theorem dX10_cancel_35 : decode cX10_cancel 35 = .ok (.bipush 6, 2) := by decide +kernel
theorem dX10_cancel_37 : decode cX10_cancel 37 = .ok (.invokevirtual 72, 3) := by decide +kernel
theorem dX10_cancel_40 : decode cX10_cancel 40 = .ok (.bipush (-5), 2) := by decide +kernel
theorem dX10_cancel_42 : decode cX10_cancel 42 = .ok (.if_icmp .eq 14, 3) := by decide +kernel
theorem dX10_cancel_45 : decode cX10_cancel 45 = .ok (.aload_n 0, 1) := by decide +kernel
theorem dX10_cancel_46 : decode cX10_cancel 46 = .ok (.aload_n 0, 1) := by decide +kernel
theorem dX10_cancel_47 : decode cX10_cancel 47 = .ok (.iload_n 1, 1) := by decide +kernel
theorem dX10_cancel_48 : decode cX10_cancel 48 = .ok (.bipush 6, 2) := by decide +kernel
theorem dX10_cancel_50 : decode cX10_cancel 50 = .ok (.invokevirtual 72, 3) := by decide +kernel
theorem dX10_cancel_53 : decode cX10_cancel 53 = .ok (.invokevirtual 68, 3) := by decide +kernel
theorem dX10_cancel_56 : decode cX10_cancel 56 = .ok (.aload_n 0, 1) := by decide +kernel
theorem dX10_cancel_57 : decode cX10_cancel 57 = .ok (.iload_n 1, 1) := by decide +kernel
theorem dX10_cancel_58 : decode cX10_cancel 58 = .ok (.bipush 6, 2) := by decide +kernel
theorem dX10_cancel_60 : decode cX10_cancel 60 = .ok (.bipush (-5), 2) := by decide +kernel
theorem dX10_cancel_62 : decode cX10_cancel 62 = .ok (.invokevirtual 82, 3) := by decide +kernel
theorem dX10_cancel_65 : decode cX10_cancel 65 = .ok (.aload_n 0, 1) := by decide +kernel
theorem dX10_cancel_66 : decode cX10_cancel 66 = .ok (.iload_n 1, 1) := by decide +kernel
theorem dX10_cancel_67 : decode cX10_cancel 67 = .ok (.iconst 5, 1) := by decide +kernel
theorem dX10_cancel_68 : decode cX10_cancel 68 = .ok (.bipush 7, 2) := by decide +kernel
theorem dX10_cancel_70 : decode cX10_cancel 70 = .ok (.invokevirtual 82, 3) := by decide +kernel
theorem dX10_cancel_73 : decode cX10_cancel 73 = .ok (.aload_n 0, 1) := by decide +kernel
theorem dX10_cancel_74 : decode cX10_cancel 74 = .ok (.iload_n 1, 1) := by decide +kernel
theorem dX10_cancel_75 : decode cX10_cancel 75 = .ok (.bipush 7, 2) := by decide +kernel
theorem dX10_cancel_77 : decode cX10_cancel 77 = .ok (.iload_n 2, 1) := by decide +kernel
theorem dX10_cancel_78 : decode cX10_cancel 78 = .ok (.invokevirtual 82, 3) := by decide +kernel
theorem dX10_cancel_81 : decode cX10_cancel 81 = .ok (.aload_n 0, 1) := by decide +kernel
theorem dX10_cancel_82 : decode cX10_cancel 82 = .ok (.iload_n 1, 1) := by decide +kernel
theorem dX10_cancel_83 : decode cX10_cancel 83 = .ok (.bipush 9, 2) := by decide +kernel
theorem dX10_cancel_85 : decode cX10_cancel 85 = .ok (.aload_n 0, 1) := by decide +kernel
theorem dX10_cancel_86 : decode cX10_cancel 86 = .ok (.getfield 7, 3) := by decide +kernel
theorem dX10_cancel_89 : decode cX10_cancel 89 = .ok (.iconst 0, 1) := by decide +kernel
theorem dX10_cancel_90 : decode cX10_cancel 90 = .ok (.iaload, 1) := by decide +kernel
theorem dX10_cancel_91 : decode cX10_cancel 91 = .ok (.invokevirtual 82, 3) := by decide +kernel
theorem dX10_cancel_94 : decode cX10_cancel 94 = .ok (.iload_n 2, 1) := by decide +kernel
theorem dX10_cancel_95 : decode cX10_cancel 95 = .ok (.ireturn, 1) := by decide +kernel
theorem dX10_onDuty_0 : decode cX10_onDuty 0 = .ok (.iconst 0, 1) := by decide +kernel
theorem dX10_onDuty_1 : decode cX10_onDuty 1 = .ok (.istore_n 1, 1) := by decide +kernel
theorem dX10_onDuty_2 : decode cX10_onDuty 2 = .ok (.iconst 0, 1) := by decide +kernel
theorem dX10_onDuty_3 : decode cX10_onDuty 3 = .ok (.istore_n 2, 1) := by decide +kernel
theorem dX10_onDuty_4 : decode cX10_onDuty 4 = .ok (.iload_n 2, 1) := by decide +kernel
theorem dX10_onDuty_5 : decode cX10_onDuty 5 = .ok (.aload_n 0, 1) := by decide +kernel
theorem dX10_onDuty_6 : decode cX10_onDuty 6 = .ok (.getfield 7, 3) := by decide +kernel
theorem dX10_onDuty_9 : decode cX10_onDuty 9 = .ok (.bipush 7, 2) := by decide +kernel
theorem dX10_onDuty_11 : decode cX10_onDuty 11 = .ok (.iaload, 1) := by decide +kernel
theorem dX10_onDuty_12 : decode cX10_onDuty 12 = .ok (.if_icmp .ge 27, 3) := by decide +kernel
theorem dX10_onDuty_15 : decode cX10_onDuty 15 = .ok (.iload_n 1, 1) := by decide +kernel
theorem dX10_onDuty_16 : decode cX10_onDuty 16 = .ok (.aload_n 0, 1) := by decide +kernel
theorem dX10_onDuty_17 : decode cX10_onDuty 17 = .ok (.iload_n 2, 1) := by decide +kernel
theorem dX10_onDuty_18 : decode cX10_onDuty 18 = .ok (.iconst 3, 1) := by decide +kernel
theorem dX10_onDuty_19 : decode cX10_onDuty 19 = .ok (.invokevirtual 88, 3) := by decide +kernel
theorem dX10_onDuty_22 : decode cX10_onDuty 22 = .ok (.iconst 4, 1) := by decide +kernel
theorem dX10_onDuty_23 : decode cX10_onDuty 23 = .ok (.if_icmp .eq 7, 3) := by decide +kernel
theorem dX10_onDuty_26 : decode cX10_onDuty 26 = .ok (.iconst 1, 1) := by decide +kernel
theorem dX10_onDuty_27 : decode cX10_onDuty 27 = .ok (.goto 4, 3) := by decide +kernel
theorem dX10_onDuty_30 : decode cX10_onDuty 30 = .ok (.iconst 0, 1) := by decide +kernel
theorem dX10_onDuty_31 : decode cX10_onDuty 31 = .ok (.iadd, 1) := by decide +kernel
theorem dX10_onDuty_32 : decode cX10_onDuty 32 = .ok (.istore_n 1, 1) := by decide +kernel
theorem dX10_onDuty_33 : decode cX10_onDuty 33 = .ok (.iinc 2 1, 3) := by decide +kernel
theorem dX10_onDuty_36 : decode cX10_onDuty 36 = .ok (.goto (-32), 3) := by decide +kernel
theorem dX10_onDuty_39 : decode cX10_onDuty 39 = .ok (.iload_n 1, 1) := by decide +kernel
theorem dX10_onDuty_40 : decode cX10_onDuty 40 = .ok (.ireturn, 1) := by decide +kernel
theorem dX10_duty_0 : decode cX10_duty 0 = .ok (.aload_n 0, 1) := by decide +kernel
theorem dX10_duty_1 : decode cX10_duty 1 = .ok (.iload_n 1, 1) := by decide +kernel
theorem dX10_duty_2 : decode cX10_duty 2 = .ok (.invokevirtual 107, 3) := by decide +kernel
theorem dX10_duty_5 : decode cX10_duty 5 = .ok (.ifCond .ne 5, 3) := by decide +kernel
theorem dX10_duty_8 : decode cX10_duty 8 = .ok (.iconst (-1), 1) := by decide +kernel
theorem dX10_duty_9 : decode cX10_duty 9 = .ok (.ireturn, 1) := by decide +kernel
theorem dX10_duty_10 : decode cX10_duty 10 = .ok (.aload_n 0, 1) := by decide +kernel
theorem dX10_duty_11 : decode cX10_duty 11 = .ok (.iload_n 1, 1) := by decide +kernel
theorem dX10_duty_12 : decode cX10_duty 12 = .ok (.iconst 3, 1) := by decide +kernel
theorem dX10_duty_13 : decode cX10_duty 13 = .ok (.invokevirtual 88, 3) := by decide +kernel
theorem dX10_duty_16 : decode cX10_duty 16 = .ok (.istore_n 3, 1) := by decide +kernel
theorem dX10_duty_17 : decode cX10_duty 17 = .ok (.iload_n 2, 1) := by decide +kernel
theorem dX10_duty_18 : decode cX10_duty 18 = .ok (.ifCond .ne 15, 3) := by decide +kernel
theorem dX10_duty_21 : decode cX10_duty 21 = .ok (.iload_n 3, 1) := by decide +kernel
theorem dX10_duty_22 : decode cX10_duty 22 = .ok (.ifCond .eq 11, 3) := by decide +kernel
theorem dX10_duty_25 : decode cX10_duty 25 = .ok (.iload_n 3, 1) := by decide +kernel
theorem dX10_duty_26 : decode cX10_duty 26 = .ok (.iconst 4, 1) := by decide +kernel
theorem dX10_duty_27 : decode cX10_duty 27 = .ok (.if_icmp .eq 6, 3) := by decide +kernel
theorem dX10_duty_30 : decode cX10_duty 30 = .ok (.bipush (-4), 2) := by decide +kernel
theorem dX10_duty_32 : decode cX10_duty 32 = .ok (.ireturn, 1) := by decide +kernel
theorem dX10_duty_33 : decode cX10_duty 33 = .ok (.iload_n 2, 1) := by decide +kernel
theorem dX10_duty_34 : decode cX10_duty 34 = .ok (.iload_n 3, 1) := by decide +kernel
theorem dX10_duty_35 : decode cX10_duty 35 = .ok (.iconst 4, 1) := by decide +kernel
theorem dX10_duty_36 : decode cX10_duty 36 = .ok (.if_icmp .eq 7, 3) := by decide +kernel
theorem dX10_duty_39 : decode cX10_duty 39 = .ok (.iconst 1, 1) := by decide +kernel
theorem dX10_duty_40 : decode cX10_duty 40 = .ok (.goto 4, 3) := by decide +kernel
theorem dX10_duty_43 : decode cX10_duty 43 = .ok (.iconst 0, 1) := by decide +kernel
theorem dX10_duty_44 : decode cX10_duty 44 = .ok (.if_icmp .ne 6, 3) := by decide +kernel
theorem dX10_duty_47 : decode cX10_duty 47 = .ok (.bipush (-5), 2) := by decide +kernel
theorem dX10_duty_49 : decode cX10_duty 49 = .ok (.ireturn, 1) := by decide +kernel
theorem dX10_duty_50 : decode cX10_duty 50 = .ok (.aload_n 0, 1) := by decide +kernel
theorem dX10_duty_51 : decode cX10_duty 51 = .ok (.invokevirtual 61, 3) := by decide +kernel
theorem dX10_duty_54 : decode cX10_duty 54 = .ok (.aload_n 0, 1) := by decide +kernel
theorem dX10_duty_55 : decode cX10_duty 55 = .ok (.iload_n 1, 1) := by decide +kernel
theorem dX10_duty_56 : decode cX10_duty 56 = .ok (.iconst 3, 1) := by decide +kernel
theorem dX10_duty_57 : decode cX10_duty 57 = .ok (.iload_n 2, 1) := by decide +kernel
theorem dX10_duty_58 : decode cX10_duty 58 = .ok (.ifCond .eq 7, 3) := by decide +kernel
theorem dX10_duty_61 : decode cX10_duty 61 = .ok (.iconst 0, 1) := by decide +kernel
theorem dX10_duty_62 : decode cX10_duty 62 = .ok (.goto 4, 3) := by decide +kernel
theorem dX10_duty_65 : decode cX10_duty 65 = .ok (.iconst 4, 1) := by decide +kernel
theorem dX10_duty_66 : decode cX10_duty 66 = .ok (.invokevirtual 64, 3) := by decide +kernel
theorem dX10_duty_69 : decode cX10_duty 69 = .ok (.aload_n 0, 1) := by decide +kernel
theorem dX10_duty_70 : decode cX10_duty 70 = .ok (.invokevirtual 110, 3) := by decide +kernel
theorem dX10_duty_73 : decode cX10_duty 73 = .ok (.ireturn, 1) := by decide +kernel
theorem dX10_goHome_0 : decode cX10_goHome 0 = .ok (.aload_n 0, 1) := by decide +kernel
theorem dX10_goHome_1 : decode cX10_goHome 1 = .ok (.iload_n 1, 1) := by decide +kernel
theorem dX10_goHome_2 : decode cX10_goHome 2 = .ok (.invokevirtual 107, 3) := by decide +kernel
theorem dX10_goHome_5 : decode cX10_goHome 5 = .ok (.ifCond .ne 5, 3) := by decide +kernel
theorem dX10_goHome_8 : decode cX10_goHome 8 = .ok (.iconst (-1), 1) := by decide +kernel
theorem dX10_goHome_9 : decode cX10_goHome 9 = .ok (.ireturn, 1) := by decide +kernel
theorem dX10_goHome_10 : decode cX10_goHome 10 = .ok (.aload_n 0, 1) := by decide +kernel
theorem dX10_goHome_11 : decode cX10_goHome 11 = .ok (.iload_n 1, 1) := by decide +kernel
theorem dX10_goHome_12 : decode cX10_goHome 12 = .ok (.iconst 0, 1) := by decide +kernel
theorem dX10_goHome_13 : decode cX10_goHome 13 = .ok (.invokevirtual 88, 3) := by decide +kernel
theorem dX10_goHome_16 : decode cX10_goHome 16 = .ok (.istore_n 2, 1) := by decide +kernel
theorem dX10_goHome_17 : decode cX10_goHome 17 = .ok (.aload_n 0, 1) := by decide +kernel
theorem dX10_goHome_18 : decode cX10_goHome 18 = .ok (.aload_n 0, 1) := by decide +kernel
theorem dX10_goHome_19 : decode cX10_goHome 19 = .ok (.iload_n 1, 1) := by decide +kernel
theorem dX10_goHome_20 : decode cX10_goHome 20 = .ok (.iconst 4, 1) := by decide +kernel
theorem dX10_goHome_21 : decode cX10_goHome 21 = .ok (.invokevirtual 88, 3) := by decide +kernel
theorem dX10_goHome_24 : decode cX10_goHome 24 = .ok (.iload_n 2, 1) := by decide +kernel
theorem dX10_goHome_25 : decode cX10_goHome 25 = .ok (.invokevirtual 53, 3) := by decide +kernel
theorem dX10_goHome_28 : decode cX10_goHome 28 = .ok (.istore_n 3, 1) := by decide +kernel
theorem dX10_goHome_29 : decode cX10_goHome 29 = .ok (.aload_n 0, 1) := by decide +kernel
theorem dX10_goHome_30 : decode cX10_goHome 30 = .ok (.iload_n 1, 1) := by decide +kernel
theorem dX10_goHome_31 : decode cX10_goHome 31 = .ok (.iconst 3, 1) := by decide +kernel
theorem dX10_goHome_32 : decode cX10_goHome 32 = .ok (.invokevirtual 88, 3) := by decide +kernel
theorem dX10_goHome_35 : decode cX10_goHome 35 = .ok (.ifCond .ne 9, 3) := by decide +kernel
theorem dX10_goHome_38 : decode cX10_goHome 38 = .ok (.iload_n 3, 1) := by decide +kernel
theorem dX10_goHome_39 : decode cX10_goHome 39 = .ok (.ldc 52, 2) := by decide +kernel
theorem dX10_goHome_41 : decode cX10_goHome 41 = .ok (.if_icmp .lt 6, 3) := by decide +kernel
theorem dX10_goHome_44 : decode cX10_goHome 44 = .ok (.bipush (-4), 2) := by decide +kernel
theorem dX10_goHome_46 : decode cX10_goHome 46 = .ok (.ireturn, 1) := by decide +kernel
theorem dX10_goHome_47 : decode cX10_goHome 47 = .ok (.aload_n 0, 1) := by decide +kernel
theorem dX10_goHome_48 : decode cX10_goHome 48 = .ok (.iload_n 1, 1) := by decide +kernel
theorem dX10_goHome_49 : decode cX10_goHome 49 = .ok (.iconst 4, 1) := by decide +kernel
theorem dX10_goHome_50 : decode cX10_goHome 50 = .ok (.invokevirtual 88, 3) := by decide +kernel
theorem dX10_goHome_53 : decode cX10_goHome 53 = .ok (.iload_n 2, 1) := by decide +kernel
theorem dX10_goHome_54 : decode cX10_goHome 54 = .ok (.if_icmp .ne 6, 3) := by decide +kernel
theorem dX10_goHome_57 : decode cX10_goHome 57 = .ok (.bipush (-5), 2) := by decide +kernel
theorem dX10_goHome_59 : decode cX10_goHome 59 = .ok (.ireturn, 1) := by decide +kernel
theorem dX10_goHome_60 : decode cX10_goHome 60 = .ok (.aload_n 0, 1) := by decide +kernel
theorem dX10_goHome_61 : decode cX10_goHome 61 = .ok (.invokevirtual 61, 3) := by decide +kernel
theorem dX10_goHome_64 : decode cX10_goHome 64 = .ok (.aload_n 0, 1) := by decide +kernel
theorem dX10_goHome_65 : decode cX10_goHome 65 = .ok (.iload_n 1, 1) := by decide +kernel
theorem dX10_goHome_66 : decode cX10_goHome 66 = .ok (.iconst 4, 1) := by decide +kernel
theorem dX10_goHome_67 : decode cX10_goHome 67 = .ok (.iload_n 2, 1) := by decide +kernel
theorem dX10_goHome_68 : decode cX10_goHome 68 = .ok (.invokevirtual 64, 3) := by decide +kernel
theorem dX10_goHome_71 : decode cX10_goHome 71 = .ok (.iload_n 3, 1) := by decide +kernel
theorem dX10_goHome_72 : decode cX10_goHome 72 = .ok (.ireturn, 1) := by decide +kernel
theorem dX10_fetch_0 : decode cX10_fetch 0 = .ok (.aload_n 0, 1) := by decide +kernel
theorem dX10_fetch_1 : decode cX10_fetch 1 = .ok (.iload_n 1, 1) := by decide +kernel
theorem dX10_fetch_2 : decode cX10_fetch 2 = .ok (.invokevirtual 114, 3) := by decide +kernel
theorem dX10_fetch_5 : decode cX10_fetch 5 = .ok (.ifCond .ne 5, 3) := by decide +kernel
theorem dX10_fetch_8 : decode cX10_fetch 8 = .ok (.iconst (-1), 1) := by decide +kernel
theorem dX10_fetch_9 : decode cX10_fetch 9 = .ok (.ireturn, 1) := by decide +kernel
theorem dX10_fetch_10 : decode cX10_fetch 10 = .ok (.iload_n 2, 1) := by decide +kernel
theorem dX10_fetch_11 : decode cX10_fetch 11 = .ok (.iconst 1, 1) := by decide +kernel
theorem dX10_fetch_12 : decode cX10_fetch 12 = .ok (.bipush 9, 2) := by decide +kernel
theorem dX10_fetch_14 : decode cX10_fetch 14 = .ok (.invokestatic 48, 3) := by decide +kernel
theorem dX10_fetch_17 : decode cX10_fetch 17 = .ok (.ifCond .ne 6, 3) := by decide +kernel
theorem dX10_fetch_20 : decode cX10_fetch 20 = .ok (.bipush (-2), 2) := by decide +kernel
theorem dX10_fetch_22 : decode cX10_fetch 22 = .ok (.ireturn, 1) := by decide +kernel
theorem dX10_fetch_23 : decode cX10_fetch 23 = .ok (.aload_n 0, 1) := by decide +kernel
theorem dX10_fetch_24 : decode cX10_fetch 24 = .ok (.iload_n 1, 1) := by decide +kernel
theorem dX10_fetch_25 : decode cX10_fetch 25 = .ok (.iconst 2, 1) := by decide +kernel
theorem dX10_fetch_26 : decode cX10_fetch 26 = .ok (.invokevirtual 117, 3) := by decide +kernel
theorem dX10_fetch_29 : decode cX10_fetch 29 = .ok (.iload_n 2, 1) := by decide +kernel
theorem dX10_fetch_30 : decode cX10_fetch 30 = .ok (.if_icmp .ge 6, 3) := by decide +kernel
theorem dX10_fetch_33 : decode cX10_fetch 33 = .ok (.bipush (-4), 2) := by decide +kernel
theorem dX10_fetch_35 : decode cX10_fetch 35 = .ok (.ireturn, 1) := by decide +kernel
theorem dX10_fetch_36 : decode cX10_fetch 36 = .ok (.aload_n 0, 1) := by decide +kernel
theorem dX10_fetch_37 : decode cX10_fetch 37 = .ok (.invokevirtual 61, 3) := by decide +kernel
theorem dX10_fetch_40 : decode cX10_fetch 40 = .ok (.aload_n 0, 1) := by decide +kernel
theorem dX10_fetch_41 : decode cX10_fetch 41 = .ok (.getfield 7, 3) := by decide +kernel
theorem dX10_fetch_44 : decode cX10_fetch 44 = .ok (.sipush 270, 3) := by decide +kernel
theorem dX10_fetch_47 : decode cX10_fetch 47 = .ok (.iconst 4, 1) := by decide +kernel
theorem dX10_fetch_48 : decode cX10_fetch 48 = .ok (.iload_n 1, 1) := by decide +kernel
theorem dX10_fetch_49 : decode cX10_fetch 49 = .ok (.imul, 1) := by decide +kernel
theorem dX10_fetch_50 : decode cX10_fetch 50 = .ok (.iadd, 1) := by decide +kernel
theorem dX10_fetch_51 : decode cX10_fetch 51 = .ok (.iconst 2, 1) := by decide +kernel
theorem dX10_fetch_52 : decode cX10_fetch 52 = .ok (.iadd, 1) := by decide +kernel
theorem dX10_fetch_53 : decode cX10_fetch 53 = .ok (.dup2, 1) := by decide +kernel
theorem dX10_fetch_54 : decode cX10_fetch 54 = .ok (.iaload, 1) := by decide +kernel
theorem dX10_fetch_55 : decode cX10_fetch 55 = .ok (.iload_n 2, 1) := by decide +kernel
theorem dX10_fetch_56 : decode cX10_fetch 56 = .ok (.isub, 1) := by decide +kernel
theorem dX10_fetch_57 : decode cX10_fetch 57 = .ok (.iastore, 1) := by decide +kernel
theorem dX10_fetch_58 : decode cX10_fetch 58 = .ok (.aload_n 0, 1) := by decide +kernel
theorem dX10_fetch_59 : decode cX10_fetch 59 = .ok (.iload_n 1, 1) := by decide +kernel
theorem dX10_fetch_60 : decode cX10_fetch 60 = .ok (.iconst 2, 1) := by decide +kernel
theorem dX10_fetch_61 : decode cX10_fetch 61 = .ok (.invokevirtual 117, 3) := by decide +kernel
theorem dX10_fetch_64 : decode cX10_fetch 64 = .ok (.ireturn, 1) := by decide +kernel
theorem dX10_underWay_0 : decode cX10_underWay 0 = .ok (.iconst 0, 1) := by decide +kernel
theorem dX10_underWay_1 : decode cX10_underWay 1 = .ok (.istore_n 2, 1) := by decide +kernel
theorem dX10_underWay_2 : decode cX10_underWay 2 = .ok (.iconst 0, 1) := by decide +kernel
theorem dX10_underWay_3 : decode cX10_underWay 3 = .ok (.istore_n 3, 1) := by decide +kernel
theorem dX10_underWay_4 : decode cX10_underWay 4 = .ok (.iload_n 3, 1) := by decide +kernel
theorem dX10_underWay_5 : decode cX10_underWay 5 = .ok (.aload_n 0, 1) := by decide +kernel
theorem dX10_underWay_6 : decode cX10_underWay 6 = .ok (.getfield 7, 3) := by decide +kernel
theorem dX10_underWay_9 : decode cX10_underWay 9 = .ok (.bipush 7, 2) := by decide +kernel
theorem dX10_underWay_11 : decode cX10_underWay 11 = .ok (.iaload, 1) := by decide +kernel
theorem dX10_underWay_12 : decode cX10_underWay 12 = .ok (.if_icmp .ge 38, 3) := by decide +kernel
theorem dX10_underWay_15 : decode cX10_underWay 15 = .ok (.iload_n 2, 1) := by decide +kernel
theorem dX10_underWay_16 : decode cX10_underWay 16 = .ok (.aload_n 0, 1) := by decide +kernel
theorem dX10_underWay_17 : decode cX10_underWay 17 = .ok (.iload_n 3, 1) := by decide +kernel
theorem dX10_underWay_18 : decode cX10_underWay 18 = .ok (.iconst 3, 1) := by decide +kernel
theorem dX10_underWay_19 : decode cX10_underWay 19 = .ok (.invokevirtual 88, 3) := by decide +kernel
theorem dX10_underWay_22 : decode cX10_underWay 22 = .ok (.iconst 3, 1) := by decide +kernel
theorem dX10_underWay_23 : decode cX10_underWay 23 = .ok (.if_icmp .ne 18, 3) := by decide +kernel
theorem dX10_underWay_26 : decode cX10_underWay 26 = .ok (.aload_n 0, 1) := by decide +kernel
theorem dX10_underWay_27 : decode cX10_underWay 27 = .ok (.iload_n 3, 1) := by decide +kernel
theorem dX10_underWay_28 : decode cX10_underWay 28 = .ok (.bipush 13, 2) := by decide +kernel
theorem dX10_underWay_30 : decode cX10_underWay 30 = .ok (.invokevirtual 88, 3) := by decide +kernel
theorem dX10_underWay_33 : decode cX10_underWay 33 = .ok (.iload_n 1, 1) := by decide +kernel
theorem dX10_underWay_34 : decode cX10_underWay 34 = .ok (.if_icmp .ne 7, 3) := by decide +kernel
theorem dX10_underWay_37 : decode cX10_underWay 37 = .ok (.iconst 1, 1) := by decide +kernel
theorem dX10_underWay_38 : decode cX10_underWay 38 = .ok (.goto 4, 3) := by decide +kernel
theorem dX10_underWay_41 : decode cX10_underWay 41 = .ok (.iconst 0, 1) := by decide +kernel
theorem dX10_underWay_42 : decode cX10_underWay 42 = .ok (.iadd, 1) := by decide +kernel
theorem dX10_underWay_43 : decode cX10_underWay 43 = .ok (.istore_n 2, 1) := by decide +kernel
theorem dX10_underWay_44 : decode cX10_underWay 44 = .ok (.iinc 3 1, 3) := by decide +kernel
theorem dX10_underWay_47 : decode cX10_underWay 47 = .ok (.goto (-43), 3) := by decide +kernel
theorem dX10_underWay_50 : decode cX10_underWay 50 = .ok (.iload_n 2, 1) := by decide +kernel
theorem dX10_underWay_51 : decode cX10_underWay 51 = .ok (.ireturn, 1) := by decide +kernel
theorem dX10_garageFor_0 : decode cX10_garageFor 0 = .ok (.bipush (-5), 2) := by decide +kernel
theorem dX10_garageFor_2 : decode cX10_garageFor 2 = .ok (.istore_n 2, 1) := by decide +kernel
theorem dX10_garageFor_3 : decode cX10_garageFor 3 = .ok (.iconst 0, 1) := by decide +kernel
theorem dX10_garageFor_4 : decode cX10_garageFor 4 = .ok (.istore_n 3, 1) := by decide +kernel
theorem dX10_garageFor_5 : decode cX10_garageFor 5 = .ok (.iload_n 3, 1) := by decide +kernel
theorem dX10_garageFor_6 : decode cX10_garageFor 6 = .ok (.aload_n 0, 1) := by decide +kernel
theorem dX10_garageFor_7 : decode cX10_garageFor 7 = .ok (.getfield 7, 3) := by decide +kernel
theorem dX10_garageFor_10 : decode cX10_garageFor 10 = .ok (.bipush 8, 2) := by decide +kernel
theorem dX10_garageFor_12 : decode cX10_garageFor 12 = .ok (.iaload, 1) := by decide +kernel
theorem dX10_garageFor_13 : decode cX10_garageFor 13 = .ok (.if_icmp .ge 90, 3) := by decide +kernel
theorem dX10_garageFor_16 : decode cX10_garageFor 16 = .ok (.aload_n 0, 1) := by decide +kernel
theorem dX10_garageFor_17 : decode cX10_garageFor 17 = .ok (.iload_n 1, 1) := by decide +kernel
theorem dX10_garageFor_18 : decode cX10_garageFor 18 = .ok (.aload_n 0, 1) := by decide +kernel
theorem dX10_garageFor_19 : decode cX10_garageFor 19 = .ok (.iload_n 3, 1) := by decide +kernel
theorem dX10_garageFor_20 : decode cX10_garageFor 20 = .ok (.iconst 0, 1) := by decide +kernel
theorem dX10_garageFor_21 : decode cX10_garageFor 21 = .ok (.invokevirtual 117, 3) := by decide +kernel
theorem dX10_garageFor_24 : decode cX10_garageFor 24 = .ok (.invokevirtual 53, 3) := by decide +kernel
theorem dX10_garageFor_27 : decode cX10_garageFor 27 = .ok (.istore 4, 2) := by decide +kernel
theorem dX10_garageFor_29 : decode cX10_garageFor 29 = .ok (.iload 4, 2) := by decide +kernel
theorem dX10_garageFor_31 : decode cX10_garageFor 31 = .ok (.ldc 52, 2) := by decide +kernel
theorem dX10_garageFor_33 : decode cX10_garageFor 33 = .ok (.if_icmp .ge 28, 3) := by decide +kernel
theorem dX10_garageFor_36 : decode cX10_garageFor 36 = .ok (.aload_n 0, 1) := by decide +kernel
theorem dX10_garageFor_37 : decode cX10_garageFor 37 = .ok (.iload_n 3, 1) := by decide +kernel
theorem dX10_garageFor_38 : decode cX10_garageFor 38 = .ok (.iconst 2, 1) := by decide +kernel
theorem dX10_garageFor_39 : decode cX10_garageFor 39 = .ok (.invokevirtual 117, 3) := by decide +kernel
theorem dX10_garageFor_42 : decode cX10_garageFor 42 = .ok (.aload_n 0, 1) := by decide +kernel
theorem dX10_garageFor_43 : decode cX10_garageFor 43 = .ok (.iload_n 3, 1) := by decide +kernel
theorem dX10_garageFor_44 : decode cX10_garageFor 44 = .ok (.invokevirtual 120, 3) := by decide +kernel
theorem dX10_garageFor_47 : decode cX10_garageFor 47 = .ok (.iadd, 1) := by decide +kernel
theorem dX10_garageFor_48 : decode cX10_garageFor 48 = .ok (.aload_n 0, 1) := by decide +kernel
theorem dX10_garageFor_49 : decode cX10_garageFor 49 = .ok (.iload_n 3, 1) := by decide +kernel
theorem dX10_garageFor_50 : decode cX10_garageFor 50 = .ok (.iconst 1, 1) := by decide +kernel
theorem dX10_garageFor_51 : decode cX10_garageFor 51 = .ok (.invokevirtual 117, 3) := by decide +kernel
theorem dX10_garageFor_54 : decode cX10_garageFor 54 = .ok (.if_icmp .ge 7, 3) := by decide +kernel
theorem dX10_garageFor_57 : decode cX10_garageFor 57 = .ok (.iconst 1, 1) := by decide +kernel
theorem dX10_garageFor_58 : decode cX10_garageFor 58 = .ok (.goto 4, 3) := by decide +kernel
theorem dX10_garageFor_61 : decode cX10_garageFor 61 = .ok (.iconst 0, 1) := by decide +kernel
theorem dX10_garageFor_62 : decode cX10_garageFor 62 = .ok (.istore 5, 2) := by decide +kernel
theorem dX10_garageFor_64 : decode cX10_garageFor 64 = .ok (.iload 5, 2) := by decide +kernel
theorem dX10_garageFor_66 : decode cX10_garageFor 66 = .ok (.ifCond .eq 29, 3) := by decide +kernel
theorem dX10_garageFor_69 : decode cX10_garageFor 69 = .ok (.iload_n 2, 1) := by decide +kernel
theorem dX10_garageFor_70 : decode cX10_garageFor 70 = .ok (.bipush (-5), 2) := by decide +kernel
theorem dX10_garageFor_72 : decode cX10_garageFor 72 = .ok (.if_icmp .eq 19, 3) := by decide +kernel
theorem dX10_garageFor_75 : decode cX10_garageFor 75 = .ok (.iload 4, 2) := by decide +kernel
theorem dX10_garageFor_77 : decode cX10_garageFor 77 = .ok (.aload_n 0, 1) := by decide +kernel
theorem dX10_garageFor_78 : decode cX10_garageFor 78 = .ok (.iload_n 1, 1) := by decide +kernel
theorem dX10_garageFor_79 : decode cX10_garageFor 79 = .ok (.aload_n 0, 1) := by decide +kernel
theorem dX10_garageFor_80 : decode cX10_garageFor 80 = .ok (.iload_n 2, 1) := by decide +kernel
theorem dX10_garageFor_81 : decode cX10_garageFor 81 = .ok (.iconst 0, 1) := by decide +kernel
theorem dX10_garageFor_82 : decode cX10_garageFor 82 = .ok (.invokevirtual 117, 3) := by decide +kernel
theorem dX10_garageFor_85 : decode cX10_garageFor 85 = .ok (.invokevirtual 53, 3) := by decide +kernel
theorem dX10_garageFor_88 : decode cX10_garageFor 88 = .ok (.if_icmp .ge 7, 3) := by decide +kernel
theorem dX10_garageFor_91 : decode cX10_garageFor 91 = .ok (.iload_n 3, 1) := by decide +kernel
theorem dX10_garageFor_92 : decode cX10_garageFor 92 = .ok (.goto 4, 3) := by decide +kernel
theorem dX10_garageFor_95 : decode cX10_garageFor 95 = .ok (.iload_n 2, 1) := by decide +kernel
theorem dX10_garageFor_96 : decode cX10_garageFor 96 = .ok (.istore_n 2, 1) := by decide +kernel
theorem dX10_garageFor_97 : decode cX10_garageFor 97 = .ok (.iinc 3 1, 3) := by decide +kernel
theorem dX10_garageFor_100 : decode cX10_garageFor 100 = .ok (.goto (-95), 3) := by decide +kernel
theorem dX10_garageFor_103 : decode cX10_garageFor 103 = .ok (.iload_n 2, 1) := by decide +kernel
theorem dX10_garageFor_104 : decode cX10_garageFor 104 = .ok (.ireturn, 1) := by decide +kernel
theorem dX10_leaves_0 : decode cX10_leaves 0 = .ok (.aload_n 0, 1) := by decide +kernel
theorem dX10_leaves_1 : decode cX10_leaves 1 = .ok (.iload_n 1, 1) := by decide +kernel
theorem dX10_leaves_2 : decode cX10_leaves 2 = .ok (.iconst 5, 1) := by decide +kernel
theorem dX10_leaves_3 : decode cX10_leaves 3 = .ok (.invokevirtual 88, 3) := by decide +kernel
theorem dX10_leaves_6 : decode cX10_leaves 6 = .ok (.istore_n 2, 1) := by decide +kernel
theorem dX10_leaves_7 : decode cX10_leaves 7 = .ok (.aload_n 0, 1) := by decide +kernel
theorem dX10_leaves_8 : decode cX10_leaves 8 = .ok (.iload_n 2, 1) := by decide +kernel
theorem dX10_leaves_9 : decode cX10_leaves 9 = .ok (.iconst 5, 1) := by decide +kernel
theorem dX10_leaves_10 : decode cX10_leaves 10 = .ok (.iconst 3, 1) := by decide +kernel
theorem dX10_leaves_11 : decode cX10_leaves 11 = .ok (.invokevirtual 82, 3) := by decide +kernel
theorem dX10_leaves_14 : decode cX10_leaves 14 = .ok (.aload_n 0, 1) := by decide +kernel
theorem dX10_leaves_15 : decode cX10_leaves 15 = .ok (.iload_n 2, 1) := by decide +kernel
theorem dX10_leaves_16 : decode cX10_leaves 16 = .ok (.bipush 6, 2) := by decide +kernel
theorem dX10_leaves_18 : decode cX10_leaves 18 = .ok (.bipush (-5), 2) := by decide +kernel
theorem dX10_leaves_20 : decode cX10_leaves 20 = .ok (.invokevirtual 82, 3) := by decide +kernel
theorem dX10_leaves_23 : decode cX10_leaves 23 = .ok (.aload_n 0, 1) := by decide +kernel
theorem dX10_leaves_24 : decode cX10_leaves 24 = .ok (.iload_n 1, 1) := by decide +kernel
theorem dX10_leaves_25 : decode cX10_leaves 25 = .ok (.invokevirtual 68, 3) := by decide +kernel
theorem dX10_leaves_28 : decode cX10_leaves 28 = .ok (.return_, 1) := by decide +kernel
theorem dX10_tows_0 : decode cX10_tows 0 = .ok (.aload_n 0, 1) := by decide +kernel
theorem dX10_tows_1 : decode cX10_tows 1 = .ok (.iload_n 1, 1) := by decide +kernel
theorem dX10_tows_2 : decode cX10_tows 2 = .ok (.iconst 5, 1) := by decide +kernel
theorem dX10_tows_3 : decode cX10_tows 3 = .ok (.invokevirtual 88, 3) := by decide +kernel
theorem dX10_tows_6 : decode cX10_tows 6 = .ok (.istore_n 2, 1) := by decide +kernel
theorem dX10_tows_7 : decode cX10_tows 7 = .ok (.aload_n 0, 1) := by decide +kernel
theorem dX10_tows_8 : decode cX10_tows 8 = .ok (.iload_n 2, 1) := by decide +kernel
theorem dX10_tows_9 : decode cX10_tows 9 = .ok (.iconst 1, 1) := by decide +kernel
theorem dX10_tows_10 : decode cX10_tows 10 = .ok (.invokevirtual 72, 3) := by decide +kernel
theorem dX10_tows_13 : decode cX10_tows 13 = .ok (.istore_n 3, 1) := by decide +kernel
theorem dX10_tows_14 : decode cX10_tows 14 = .ok (.aload_n 0, 1) := by decide +kernel
theorem dX10_tows_15 : decode cX10_tows 15 = .ok (.iload_n 3, 1) := by decide +kernel
theorem dX10_tows_16 : decode cX10_tows 16 = .ok (.invokevirtual 123, 3) := by decide +kernel
theorem dX10_tows_19 : decode cX10_tows 19 = .ok (.istore 4, 2) := by decide +kernel
theorem dX10_tows_21 : decode cX10_tows 21 = .ok (.iload 4, 2) := by decide +kernel
theorem dX10_tows_23 : decode cX10_tows 23 = .ok (.bipush (-5), 2) := by decide +kernel
theorem dX10_tows_25 : decode cX10_tows 25 = .ok (.if_icmp .ne 9, 3) := by decide +kernel
theorem dX10_tows_28 : decode cX10_tows 28 = .ok (.aload_n 0, 1) := by decide +kernel
theorem dX10_tows_29 : decode cX10_tows 29 = .ok (.iload_n 1, 1) := by decide +kernel
theorem dX10_tows_30 : decode cX10_tows 30 = .ok (.invokevirtual 126, 3) := by decide +kernel
theorem dX10_tows_33 : decode cX10_tows 33 = .ok (.return_, 1) := by decide +kernel
theorem dX10_tows_34 : decode cX10_tows 34 = .ok (.aload_n 0, 1) := by decide +kernel
theorem dX10_tows_35 : decode cX10_tows 35 = .ok (.iload 4, 2) := by decide +kernel
theorem dX10_tows_37 : decode cX10_tows 37 = .ok (.iconst 0, 1) := by decide +kernel
theorem dX10_tows_38 : decode cX10_tows 38 = .ok (.invokevirtual 117, 3) := by decide +kernel
theorem dX10_tows_41 : decode cX10_tows 41 = .ok (.istore 5, 2) := by decide +kernel
theorem dX10_tows_43 : decode cX10_tows 43 = .ok (.aload_n 0, 1) := by decide +kernel
theorem dX10_tows_44 : decode cX10_tows 44 = .ok (.iload_n 1, 1) := by decide +kernel
theorem dX10_tows_45 : decode cX10_tows 45 = .ok (.iconst 0, 1) := by decide +kernel
theorem dX10_tows_46 : decode cX10_tows 46 = .ok (.invokevirtual 88, 3) := by decide +kernel
theorem dX10_tows_49 : decode cX10_tows 49 = .ok (.invokestatic 129, 3) := by decide +kernel
theorem dX10_tows_52 : decode cX10_tows 52 = .ok (.istore 6, 2) := by decide +kernel
theorem dX10_tows_54 : decode cX10_tows 54 = .ok (.iload_n 3, 1) := by decide +kernel
theorem dX10_tows_55 : decode cX10_tows 55 = .ok (.istore 7, 2) := by decide +kernel
theorem dX10_tows_57 : decode cX10_tows 57 = .ok (.iconst 0, 1) := by decide +kernel
theorem dX10_tows_58 : decode cX10_tows 58 = .ok (.istore 8, 2) := by decide +kernel
theorem dX10_tows_60 : decode cX10_tows 60 = .ok (.iload 7, 2) := by decide +kernel
theorem dX10_tows_62 : decode cX10_tows 62 = .ok (.iload 5, 2) := by decide +kernel
theorem dX10_tows_64 : decode cX10_tows 64 = .ok (.if_icmp .eq 7, 3) := by decide +kernel
theorem dX10_tows_67 : decode cX10_tows 67 = .ok (.iconst 1, 1) := by decide +kernel
theorem dX10_tows_68 : decode cX10_tows 68 = .ok (.goto 4, 3) := by decide +kernel
theorem dX10_tows_71 : decode cX10_tows 71 = .ok (.iconst 0, 1) := by decide +kernel
theorem dX10_tows_72 : decode cX10_tows 72 = .ok (.istore 9, 2) := by decide +kernel
theorem dX10_tows_74 : decode cX10_tows 74 = .ok (.iconst 0, 1) := by decide +kernel
theorem dX10_tows_75 : decode cX10_tows 75 = .ok (.istore 10, 2) := by decide +kernel
theorem dX10_tows_77 : decode cX10_tows 77 = .ok (.iload 10, 2) := by decide +kernel
theorem dX10_tows_79 : decode cX10_tows 79 = .ok (.bipush 12, 2) := by decide +kernel
theorem dX10_tows_81 : decode cX10_tows 81 = .ok (.if_icmp .ge 129, 3) := by decide +kernel
theorem dX10_tows_84 : decode cX10_tows 84 = .ok (.iload 9, 2) := by decide +kernel
theorem dX10_tows_86 : decode cX10_tows 86 = .ok (.ifCond .eq 124, 3) := by decide +kernel
theorem dX10_tows_89 : decode cX10_tows 89 = .ok (.aload_n 0, 1) := by decide +kernel
theorem dX10_tows_90 : decode cX10_tows 90 = .ok (.iload 7, 2) := by decide +kernel
theorem dX10_tows_92 : decode cX10_tows 92 = .ok (.iload 5, 2) := by decide +kernel
theorem dX10_tows_94 : decode cX10_tows 94 = .ok (.invokevirtual 132, 3) := by decide +kernel
theorem dX10_tows_97 : decode cX10_tows 97 = .ok (.istore 11, 2) := by decide +kernel
theorem dX10_tows_99 : decode cX10_tows 99 = .ok (.iload 11, 2) := by decide +kernel
theorem dX10_tows_101 : decode cX10_tows 101 = .ok (.invokestatic 129, 3) := by decide +kernel
theorem dX10_tows_104 : decode cX10_tows 104 = .ok (.iload 6, 2) := by decide +kernel
theorem dX10_tows_106 : decode cX10_tows 106 = .ok (.if_icmp .eq 9, 3) := by decide +kernel
theorem dX10_tows_109 : decode cX10_tows 109 = .ok (.iload 7, 2) := by decide +kernel
theorem dX10_tows_111 : decode cX10_tows 111 = .ok (.iload_n 3, 1) := by decide +kernel
theorem dX10_tows_112 : decode cX10_tows 112 = .ok (.if_icmp .ne 7, 3) := by decide +kernel
theorem dX10_tows_115 : decode cX10_tows 115 = .ok (.iconst 1, 1) := by decide +kernel
theorem dX10_tows_116 : decode cX10_tows 116 = .ok (.goto 4, 3) := by decide +kernel
theorem dX10_tows_119 : decode cX10_tows 119 = .ok (.iconst 0, 1) := by decide +kernel
theorem dX10_tows_120 : decode cX10_tows 120 = .ok (.istore 9, 2) := by decide +kernel
theorem dX10_tows_122 : decode cX10_tows 122 = .ok (.iload 8, 2) := by decide +kernel
theorem dX10_tows_124 : decode cX10_tows 124 = .ok (.iload 9, 2) := by decide +kernel
theorem dX10_tows_126 : decode cX10_tows 126 = .ok (.ifCond .eq 19, 3) := by decide +kernel
theorem dX10_tows_129 : decode cX10_tows 129 = .ok (.aload_n 0, 1) := by decide +kernel
theorem dX10_tows_130 : decode cX10_tows 130 = .ok (.getfield 25, 3) := by decide +kernel
theorem dX10_tows_133 : decode cX10_tows 133 = .ok (.bipush 12, 2) := by decide +kernel
theorem dX10_tows_135 : decode cX10_tows 135 = .ok (.iload 7, 2) := by decide +kernel
theorem dX10_tows_137 : decode cX10_tows 137 = .ok (.imul, 1) := by decide +kernel
theorem dX10_tows_138 : decode cX10_tows 138 = .ok (.iload 11, 2) := by decide +kernel
theorem dX10_tows_140 : decode cX10_tows 140 = .ok (.iadd, 1) := by decide +kernel
theorem dX10_tows_141 : decode cX10_tows 141 = .ok (.iaload, 1) := by decide +kernel
theorem dX10_tows_142 : decode cX10_tows 142 = .ok (.goto 4, 3) := by decide +kernel
theorem dX10_tows_145 : decode cX10_tows 145 = .ok (.iconst 0, 1) := by decide +kernel
theorem dX10_tows_146 : decode cX10_tows 146 = .ok (.iadd, 1) := by decide +kernel
theorem dX10_tows_147 : decode cX10_tows 147 = .ok (.istore 8, 2) := by decide +kernel
theorem dX10_tows_149 : decode cX10_tows 149 = .ok (.iload 11, 2) := by decide +kernel
theorem dX10_tows_151 : decode cX10_tows 151 = .ok (.invokestatic 129, 3) := by decide +kernel
theorem dX10_tows_154 : decode cX10_tows 154 = .ok (.iload 6, 2) := by decide +kernel
theorem dX10_tows_156 : decode cX10_tows 156 = .ok (.if_icmp .ne 10, 3) := by decide +kernel
theorem dX10_tows_159 : decode cX10_tows 159 = .ok (.iload 11, 2) := by decide +kernel
theorem dX10_tows_161 : decode cX10_tows 161 = .ok (.iload 5, 2) := by decide +kernel
theorem dX10_tows_163 : decode cX10_tows 163 = .ok (.if_icmp .ne 7, 3) := by decide +kernel
theorem dX10_tows_166 : decode cX10_tows 166 = .ok (.iconst 1, 1) := by decide +kernel
theorem dX10_tows_167 : decode cX10_tows 167 = .ok (.goto 4, 3) := by decide +kernel
theorem dX10_tows_170 : decode cX10_tows 170 = .ok (.iconst 0, 1) := by decide +kernel
theorem dX10_tows_171 : decode cX10_tows 171 = .ok (.istore 12, 2) := by decide +kernel
theorem dX10_tows_173 : decode cX10_tows 173 = .ok (.iload 9, 2) := by decide +kernel
theorem dX10_tows_175 : decode cX10_tows 175 = .ok (.ifCond .eq 8, 3) := by decide +kernel
theorem dX10_tows_178 : decode cX10_tows 178 = .ok (.iload 11, 2) := by decide +kernel
theorem dX10_tows_180 : decode cX10_tows 180 = .ok (.goto 5, 3) := by decide +kernel
theorem dX10_tows_183 : decode cX10_tows 183 = .ok (.iload 7, 2) := by decide +kernel
theorem dX10_tows_185 : decode cX10_tows 185 = .ok (.istore 7, 2) := by decide +kernel
theorem dX10_tows_187 : decode cX10_tows 187 = .ok (.iload 9, 2) := by decide +kernel
theorem dX10_tows_189 : decode cX10_tows 189 = .ok (.ifCond .eq 12, 3) := by decide +kernel
theorem dX10_tows_192 : decode cX10_tows 192 = .ok (.iload 12, 2) := by decide +kernel
theorem dX10_tows_194 : decode cX10_tows 194 = .ok (.ifCond .ne 7, 3) := by decide +kernel
theorem dX10_tows_197 : decode cX10_tows 197 = .ok (.iconst 1, 1) := by decide +kernel
theorem dX10_tows_198 : decode cX10_tows 198 = .ok (.goto 4, 3) := by decide +kernel
theorem dX10_tows_201 : decode cX10_tows 201 = .ok (.iconst 0, 1) := by decide +kernel
theorem dX10_tows_202 : decode cX10_tows 202 = .ok (.istore 9, 2) := by decide +kernel
theorem dX10_tows_204 : decode cX10_tows 204 = .ok (.iinc 10 1, 3) := by decide +kernel
theorem dX10_tows_207 : decode cX10_tows 207 = .ok (.goto (-130), 3) := by decide +kernel
theorem dX10_tows_210 : decode cX10_tows 210 = .ok (.aload_n 0, 1) := by decide +kernel
theorem dX10_tows_211 : decode cX10_tows 211 = .ok (.iload_n 1, 1) := by decide +kernel
theorem dX10_tows_212 : decode cX10_tows 212 = .ok (.iconst 3, 1) := by decide +kernel
theorem dX10_tows_213 : decode cX10_tows 213 = .ok (.iconst 3, 1) := by decide +kernel
theorem dX10_tows_214 : decode cX10_tows 214 = .ok (.invokevirtual 64, 3) := by decide +kernel
theorem dX10_tows_217 : decode cX10_tows 217 = .ok (.aload_n 0, 1) := by decide +kernel
theorem dX10_tows_218 : decode cX10_tows 218 = .ok (.iload_n 1, 1) := by decide +kernel
theorem dX10_tows_219 : decode cX10_tows 219 = .ok (.bipush 6, 2) := by decide +kernel
theorem dX10_tows_221 : decode cX10_tows 221 = .ok (.iload 8, 2) := by decide +kernel
theorem dX10_tows_223 : decode cX10_tows 223 = .ok (.ifCond .ne 7, 3) := by decide +kernel
theorem dX10_tows_226 : decode cX10_tows 226 = .ok (.iconst 1, 1) := by decide +kernel
theorem dX10_tows_227 : decode cX10_tows 227 = .ok (.goto 7, 3) := by decide +kernel
theorem dX10_tows_230 : decode cX10_tows 230 = .ok (.iconst 2, 1) := by decide +kernel
theorem dX10_tows_231 : decode cX10_tows 231 = .ok (.iload 8, 2) := by decide +kernel
theorem dX10_tows_233 : decode cX10_tows 233 = .ok (.imul, 1) := by decide +kernel
theorem dX10_tows_234 : decode cX10_tows 234 = .ok (.invokevirtual 64, 3) := by decide +kernel
theorem dX10_tows_237 : decode cX10_tows 237 = .ok (.aload_n 0, 1) := by decide +kernel
theorem dX10_tows_238 : decode cX10_tows 238 = .ok (.iload_n 1, 1) := by decide +kernel
theorem dX10_tows_239 : decode cX10_tows 239 = .ok (.bipush 12, 2) := by decide +kernel
theorem dX10_tows_241 : decode cX10_tows 241 = .ok (.iload 7, 2) := by decide +kernel
theorem dX10_tows_243 : decode cX10_tows 243 = .ok (.invokevirtual 64, 3) := by decide +kernel
theorem dX10_tows_246 : decode cX10_tows 246 = .ok (.aload_n 0, 1) := by decide +kernel
theorem dX10_tows_247 : decode cX10_tows 247 = .ok (.iload_n 1, 1) := by decide +kernel
theorem dX10_tows_248 : decode cX10_tows 248 = .ok (.bipush 13, 2) := by decide +kernel
theorem dX10_tows_250 : decode cX10_tows 250 = .ok (.iload 4, 2) := by decide +kernel
theorem dX10_tows_252 : decode cX10_tows 252 = .ok (.invokevirtual 64, 3) := by decide +kernel
theorem dX10_tows_255 : decode cX10_tows 255 = .ok (.aload_n 0, 1) := by decide +kernel
theorem dX10_tows_256 : decode cX10_tows 256 = .ok (.iload_n 2, 1) := by decide +kernel
theorem dX10_tows_257 : decode cX10_tows 257 = .ok (.iconst 5, 1) := by decide +kernel
theorem dX10_tows_258 : decode cX10_tows 258 = .ok (.iconst 4, 1) := by decide +kernel
theorem dX10_tows_259 : decode cX10_tows 259 = .ok (.invokevirtual 82, 3) := by decide +kernel
theorem dX10_tows_262 : decode cX10_tows 262 = .ok (.aload_n 0, 1) := by decide +kernel
theorem dX10_tows_263 : decode cX10_tows 263 = .ok (.iload_n 2, 1) := by decide +kernel
theorem dX10_tows_264 : decode cX10_tows 264 = .ok (.bipush 6, 2) := by decide +kernel
theorem dX10_tows_266 : decode cX10_tows 266 = .ok (.iload_n 1, 1) := by decide +kernel
theorem dX10_tows_267 : decode cX10_tows 267 = .ok (.invokevirtual 82, 3) := by decide +kernel
theorem dX10_tows_270 : decode cX10_tows 270 = .ok (.return_, 1) := by decide +kernel
theorem dX10_gets_0 : decode cX10_gets 0 = .ok (.aload_n 0, 1) := by decide +kernel
theorem dX10_gets_1 : decode cX10_gets 1 = .ok (.iload_n 1, 1) := by decide +kernel
theorem dX10_gets_2 : decode cX10_gets 2 = .ok (.iconst 5, 1) := by decide +kernel
theorem dX10_gets_3 : decode cX10_gets 3 = .ok (.invokevirtual 88, 3) := by decide +kernel
theorem dX10_gets_6 : decode cX10_gets 6 = .ok (.istore_n 2, 1) := by decide +kernel
theorem dX10_gets_7 : decode cX10_gets 7 = .ok (.aload_n 0, 1) := by decide +kernel
theorem dX10_gets_8 : decode cX10_gets 8 = .ok (.iload_n 2, 1) := by decide +kernel
theorem dX10_gets_9 : decode cX10_gets 9 = .ok (.iconst 1, 1) := by decide +kernel
theorem dX10_gets_10 : decode cX10_gets 10 = .ok (.invokevirtual 72, 3) := by decide +kernel
theorem dX10_gets_13 : decode cX10_gets 13 = .ok (.istore_n 3, 1) := by decide +kernel
theorem dX10_gets_14 : decode cX10_gets 14 = .ok (.aload_n 0, 1) := by decide +kernel
theorem dX10_gets_15 : decode cX10_gets 15 = .ok (.iload_n 1, 1) := by decide +kernel
theorem dX10_gets_16 : decode cX10_gets 16 = .ok (.iconst 4, 1) := by decide +kernel
theorem dX10_gets_17 : decode cX10_gets 17 = .ok (.iload_n 3, 1) := by decide +kernel
theorem dX10_gets_18 : decode cX10_gets 18 = .ok (.invokevirtual 64, 3) := by decide +kernel
theorem dX10_gets_21 : decode cX10_gets 21 = .ok (.aload_n 0, 1) := by decide +kernel
theorem dX10_gets_22 : decode cX10_gets 22 = .ok (.iload_n 2, 1) := by decide +kernel
theorem dX10_gets_23 : decode cX10_gets 23 = .ok (.iconst 5, 1) := by decide +kernel
theorem dX10_gets_24 : decode cX10_gets 24 = .ok (.invokevirtual 72, 3) := by decide +kernel
theorem dX10_gets_27 : decode cX10_gets 27 = .ok (.iconst 3, 1) := by decide +kernel
theorem dX10_gets_28 : decode cX10_gets 28 = .ok (.if_icmp .ne 9, 3) := by decide +kernel
theorem dX10_gets_31 : decode cX10_gets 31 = .ok (.aload_n 0, 1) := by decide +kernel
theorem dX10_gets_32 : decode cX10_gets 32 = .ok (.iload_n 1, 1) := by decide +kernel
theorem dX10_gets_33 : decode cX10_gets 33 = .ok (.invokevirtual 135, 3) := by decide +kernel
theorem dX10_gets_36 : decode cX10_gets 36 = .ok (.return_, 1) := by decide +kernel
theorem dX10_gets_37 : decode cX10_gets 37 = .ok (.aload_n 0, 1) := by decide +kernel
theorem dX10_gets_38 : decode cX10_gets 38 = .ok (.getfield 7, 3) := by decide +kernel
theorem dX10_gets_41 : decode cX10_gets 41 = .ok (.iconst 0, 1) := by decide +kernel
theorem dX10_gets_42 : decode cX10_gets 42 = .ok (.iaload, 1) := by decide +kernel
theorem dX10_gets_43 : decode cX10_gets 43 = .ok (.aload_n 0, 1) := by decide +kernel
theorem dX10_gets_44 : decode cX10_gets 44 = .ok (.iload_n 2, 1) := by decide +kernel
theorem dX10_gets_45 : decode cX10_gets 45 = .ok (.iconst 4, 1) := by decide +kernel
theorem dX10_gets_46 : decode cX10_gets 46 = .ok (.invokevirtual 72, 3) := by decide +kernel
theorem dX10_gets_49 : decode cX10_gets 49 = .ok (.isub, 1) := by decide +kernel
theorem dX10_gets_50 : decode cX10_gets 50 = .ok (.istore 4, 2) := by decide +kernel
theorem dX10_gets_52 : decode cX10_gets 52 = .ok (.aload_n 0, 1) := by decide +kernel
theorem dX10_gets_53 : decode cX10_gets 53 = .ok (.iload_n 2, 1) := by decide +kernel
theorem dX10_gets_54 : decode cX10_gets 54 = .ok (.bipush 8, 2) := by decide +kernel
theorem dX10_gets_56 : decode cX10_gets 56 = .ok (.iload_n 1, 1) := by decide +kernel
theorem dX10_gets_57 : decode cX10_gets 57 = .ok (.invokevirtual 82, 3) := by decide +kernel
theorem dX10_gets_60 : decode cX10_gets 60 = .ok (.aload_n 0, 1) := by decide +kernel
theorem dX10_gets_61 : decode cX10_gets 61 = .ok (.iload_n 2, 1) := by decide +kernel
theorem dX10_gets_62 : decode cX10_gets 62 = .ok (.bipush 7, 2) := by decide +kernel
theorem dX10_gets_64 : decode cX10_gets 64 = .ok (.iload 4, 2) := by decide +kernel
theorem dX10_gets_66 : decode cX10_gets 66 = .ok (.invokevirtual 82, 3) := by decide +kernel
theorem dX10_gets_69 : decode cX10_gets 69 = .ok (.aload_n 0, 1) := by decide +kernel
theorem dX10_gets_70 : decode cX10_gets 70 = .ok (.iload_n 1, 1) := by decide +kernel
theorem dX10_gets_71 : decode cX10_gets 71 = .ok (.bipush 10, 2) := by decide +kernel
theorem dX10_gets_73 : decode cX10_gets 73 = .ok (.aload_n 0, 1) := by decide +kernel
theorem dX10_gets_74 : decode cX10_gets 74 = .ok (.iload_n 1, 1) := by decide +kernel
theorem dX10_gets_75 : decode cX10_gets 75 = .ok (.bipush 10, 2) := by decide +kernel
theorem dX10_gets_77 : decode cX10_gets 77 = .ok (.invokevirtual 88, 3) := by decide +kernel
theorem dX10_gets_80 : decode cX10_gets 80 = .ok (.iload 4, 2) := by decide +kernel
theorem dX10_gets_82 : decode cX10_gets 82 = .ok (.iadd, 1) := by decide +kernel
theorem dX10_gets_83 : decode cX10_gets 83 = .ok (.invokevirtual 64, 3) := by decide +kernel
theorem dX10_gets_86 : decode cX10_gets 86 = .ok (.iload 4, 2) := by decide +kernel
theorem dX10_gets_88 : decode cX10_gets 88 = .ok (.aload_n 0, 1) := by decide +kernel
theorem dX10_gets_89 : decode cX10_gets 89 = .ok (.iload_n 2, 1) := by decide +kernel
theorem dX10_gets_90 : decode cX10_gets 90 = .ok (.iconst 3, 1) := by decide +kernel
theorem dX10_gets_91 : decode cX10_gets 91 = .ok (.invokevirtual 72, 3) := by decide +kernel
theorem dX10_gets_94 : decode cX10_gets 94 = .ok (.if_icmp .le 40, 3) := by decide +kernel
theorem dX10_gets_97 : decode cX10_gets 97 = .ok (.aload_n 0, 1) := by decide +kernel
theorem dX10_gets_98 : decode cX10_gets 98 = .ok (.aload_n 0, 1) := by decide +kernel
theorem dX10_gets_99 : decode cX10_gets 99 = .ok (.iload_n 2, 1) := by decide +kernel
theorem dX10_gets_100 : decode cX10_gets 100 = .ok (.iconst 0, 1) := by decide +kernel
theorem dX10_gets_101 : decode cX10_gets 101 = .ok (.invokevirtual 72, 3) := by decide +kernel
theorem dX10_gets_104 : decode cX10_gets 104 = .ok (.iconst 1, 1) := by decide +kernel
theorem dX10_gets_105 : decode cX10_gets 105 = .ok (.bipush (-15), 2) := by decide +kernel
theorem dX10_gets_107 : decode cX10_gets 107 = .ok (.invokevirtual 91, 3) := by decide +kernel
theorem dX10_gets_110 : decode cX10_gets 110 = .ok (.aload_n 0, 1) := by decide +kernel
theorem dX10_gets_111 : decode cX10_gets 111 = .ok (.aload_n 0, 1) := by decide +kernel
theorem dX10_gets_112 : decode cX10_gets 112 = .ok (.iload_n 2, 1) := by decide +kernel
theorem dX10_gets_113 : decode cX10_gets 113 = .ok (.iconst 0, 1) := by decide +kernel
theorem dX10_gets_114 : decode cX10_gets 114 = .ok (.invokevirtual 72, 3) := by decide +kernel
theorem dX10_gets_117 : decode cX10_gets 117 = .ok (.iconst 3, 1) := by decide +kernel
theorem dX10_gets_118 : decode cX10_gets 118 = .ok (.iconst 1, 1) := by decide +kernel
theorem dX10_gets_119 : decode cX10_gets 119 = .ok (.invokevirtual 91, 3) := by decide +kernel
theorem dX10_gets_122 : decode cX10_gets 122 = .ok (.aload_n 0, 1) := by decide +kernel
theorem dX10_gets_123 : decode cX10_gets 123 = .ok (.getfield 7, 3) := by decide +kernel
theorem dX10_gets_126 : decode cX10_gets 126 = .ok (.bipush 11, 2) := by decide +kernel
theorem dX10_gets_128 : decode cX10_gets 128 = .ok (.dup2, 1) := by decide +kernel
theorem dX10_gets_129 : decode cX10_gets 129 = .ok (.iaload, 1) := by decide +kernel
theorem dX10_gets_130 : decode cX10_gets 130 = .ok (.bipush 15, 2) := by decide +kernel
theorem dX10_gets_132 : decode cX10_gets 132 = .ok (.iadd, 1) := by decide +kernel
theorem dX10_gets_133 : decode cX10_gets 133 = .ok (.iastore, 1) := by decide +kernel
theorem dX10_gets_134 : decode cX10_gets 134 = .ok (.aload_n 0, 1) := by decide +kernel
theorem dX10_gets_135 : decode cX10_gets 135 = .ok (.iload_n 1, 1) := by decide +kernel
theorem dX10_gets_136 : decode cX10_gets 136 = .ok (.iconst 1, 1) := by decide +kernel
theorem dX10_gets_137 : decode cX10_gets 137 = .ok (.invokevirtual 88, 3) := by decide +kernel
theorem dX10_gets_140 : decode cX10_gets 140 = .ok (.aload_n 0, 1) := by decide +kernel
theorem dX10_gets_141 : decode cX10_gets 141 = .ok (.iload_n 2, 1) := by decide +kernel
theorem dX10_gets_142 : decode cX10_gets 142 = .ok (.iconst 2, 1) := by decide +kernel
theorem dX10_gets_143 : decode cX10_gets 143 = .ok (.invokevirtual 72, 3) := by decide +kernel
theorem dX10_gets_146 : decode cX10_gets 146 = .ok (.iconst 3, 1) := by decide +kernel
theorem dX10_gets_147 : decode cX10_gets 147 = .ok (.isub, 1) := by decide +kernel
theorem dX10_gets_148 : decode cX10_gets 148 = .ok (.if_icmp .lt 35, 3) := by decide +kernel
theorem dX10_gets_151 : decode cX10_gets 151 = .ok (.aload_n 0, 1) := by decide +kernel
theorem dX10_gets_152 : decode cX10_gets 152 = .ok (.iload_n 1, 1) := by decide +kernel
theorem dX10_gets_153 : decode cX10_gets 153 = .ok (.iconst 3, 1) := by decide +kernel
theorem dX10_gets_154 : decode cX10_gets 154 = .ok (.iconst 2, 1) := by decide +kernel
theorem dX10_gets_155 : decode cX10_gets 155 = .ok (.invokevirtual 64, 3) := by decide +kernel
theorem dX10_gets_158 : decode cX10_gets 158 = .ok (.aload_n 0, 1) := by decide +kernel
theorem dX10_gets_159 : decode cX10_gets 159 = .ok (.iload_n 1, 1) := by decide +kernel
theorem dX10_gets_160 : decode cX10_gets 160 = .ok (.bipush 6, 2) := by decide +kernel
theorem dX10_gets_162 : decode cX10_gets 162 = .ok (.iconst 5, 1) := by decide +kernel
theorem dX10_gets_163 : decode cX10_gets 163 = .ok (.aload_n 0, 1) := by decide +kernel
theorem dX10_gets_164 : decode cX10_gets 164 = .ok (.iload_n 2, 1) := by decide +kernel
theorem dX10_gets_165 : decode cX10_gets 165 = .ok (.iconst 2, 1) := by decide +kernel
theorem dX10_gets_166 : decode cX10_gets 166 = .ok (.invokevirtual 72, 3) := by decide +kernel
theorem dX10_gets_169 : decode cX10_gets 169 = .ok (.imul, 1) := by decide +kernel
theorem dX10_gets_170 : decode cX10_gets 170 = .ok (.invokevirtual 64, 3) := by decide +kernel
theorem dX10_gets_173 : decode cX10_gets 173 = .ok (.aload_n 0, 1) := by decide +kernel
theorem dX10_gets_174 : decode cX10_gets 174 = .ok (.iload_n 2, 1) := by decide +kernel
theorem dX10_gets_175 : decode cX10_gets 175 = .ok (.iconst 5, 1) := by decide +kernel
theorem dX10_gets_176 : decode cX10_gets 176 = .ok (.iconst 2, 1) := by decide +kernel
theorem dX10_gets_177 : decode cX10_gets 177 = .ok (.invokevirtual 82, 3) := by decide +kernel
theorem dX10_gets_180 : decode cX10_gets 180 = .ok (.goto 42, 3) := by decide +kernel
theorem dX10_gets_183 : decode cX10_gets 183 = .ok (.aload_n 0, 1) := by decide +kernel
theorem dX10_gets_184 : decode cX10_gets 184 = .ok (.iload_n 1, 1) := by decide +kernel
theorem dX10_gets_185 : decode cX10_gets 185 = .ok (.iconst 2, 1) := by decide +kernel
theorem dX10_gets_186 : decode cX10_gets 186 = .ok (.invokevirtual 88, 3) := by decide +kernel
theorem dX10_gets_189 : decode cX10_gets 189 = .ok (.iconst 1, 1) := by decide +kernel
theorem dX10_gets_190 : decode cX10_gets 190 = .ok (.if_icmp .ne 27, 3) := by decide +kernel
theorem dX10_gets_193 : decode cX10_gets 193 = .ok (.aload_n 0, 1) := by decide +kernel
theorem dX10_gets_194 : decode cX10_gets 194 = .ok (.iload_n 1, 1) := by decide +kernel
theorem dX10_gets_195 : decode cX10_gets 195 = .ok (.iconst 0, 1) := by decide +kernel
theorem dX10_gets_196 : decode cX10_gets 196 = .ok (.invokevirtual 88, 3) := by decide +kernel
theorem dX10_gets_199 : decode cX10_gets 199 = .ok (.invokestatic 129, 3) := by decide +kernel
theorem dX10_gets_202 : decode cX10_gets 202 = .ok (.iload_n 3, 1) := by decide +kernel
theorem dX10_gets_203 : decode cX10_gets 203 = .ok (.invokestatic 129, 3) := by decide +kernel
theorem dX10_gets_206 : decode cX10_gets 206 = .ok (.if_icmp .ne 11, 3) := by decide +kernel
theorem dX10_gets_209 : decode cX10_gets 209 = .ok (.aload_n 0, 1) := by decide +kernel
theorem dX10_gets_210 : decode cX10_gets 210 = .ok (.iload_n 1, 1) := by decide +kernel
theorem dX10_gets_211 : decode cX10_gets 211 = .ok (.invokevirtual 135, 3) := by decide +kernel
theorem dX10_gets_214 : decode cX10_gets 214 = .ok (.goto 8, 3) := by decide +kernel
theorem dX10_gets_217 : decode cX10_gets 217 = .ok (.aload_n 0, 1) := by decide +kernel
theorem dX10_gets_218 : decode cX10_gets 218 = .ok (.iload_n 1, 1) := by decide +kernel
theorem dX10_gets_219 : decode cX10_gets 219 = .ok (.invokevirtual 126, 3) := by decide +kernel
theorem dX10_gets_222 : decode cX10_gets 222 = .ok (.return_, 1) := by decide +kernel
theorem dX10_repaired_0 : decode cX10_repaired 0 = .ok (.aload_n 0, 1) := by decide +kernel
theorem dX10_repaired_1 : decode cX10_repaired 1 = .ok (.iload_n 1, 1) := by decide +kernel
theorem dX10_repaired_2 : decode cX10_repaired 2 = .ok (.iconst 5, 1) := by decide +kernel
theorem dX10_repaired_3 : decode cX10_repaired 3 = .ok (.invokevirtual 88, 3) := by decide +kernel
theorem dX10_repaired_6 : decode cX10_repaired 6 = .ok (.istore_n 2, 1) := by decide +kernel
theorem dX10_repaired_7 : decode cX10_repaired 7 = .ok (.aload_n 0, 1) := by decide +kernel
theorem dX10_repaired_8 : decode cX10_repaired 8 = .ok (.aload_n 0, 1) := by decide +kernel
theorem dX10_repaired_9 : decode cX10_repaired 9 = .ok (.iload_n 2, 1) := by decide +kernel
theorem dX10_repaired_10 : decode cX10_repaired 10 = .ok (.iconst 0, 1) := by decide +kernel
theorem dX10_repaired_11 : decode cX10_repaired 11 = .ok (.invokevirtual 72, 3) := by decide +kernel
theorem dX10_repaired_14 : decode cX10_repaired 14 = .ok (.iconst 0, 1) := by decide +kernel
theorem dX10_repaired_15 : decode cX10_repaired 15 = .ok (.invokevirtual 85, 3) := by decide +kernel
theorem dX10_repaired_18 : decode cX10_repaired 18 = .ok (.istore_n 3, 1) := by decide +kernel
theorem dX10_repaired_19 : decode cX10_repaired 19 = .ok (.bipush 20, 2) := by decide +kernel
theorem dX10_repaired_21 : decode cX10_repaired 21 = .ok (.bipush 10, 2) := by decide +kernel
theorem dX10_repaired_23 : decode cX10_repaired 23 = .ok (.iload_n 3, 1) := by decide +kernel
theorem dX10_repaired_24 : decode cX10_repaired 24 = .ok (.imul, 1) := by decide +kernel
theorem dX10_repaired_25 : decode cX10_repaired 25 = .ok (.isub, 1) := by decide +kernel
theorem dX10_repaired_26 : decode cX10_repaired 26 = .ok (.iconst 5, 1) := by decide +kernel
theorem dX10_repaired_27 : decode cX10_repaired 27 = .ok (.aload_n 0, 1) := by decide +kernel
theorem dX10_repaired_28 : decode cX10_repaired 28 = .ok (.iload_n 2, 1) := by decide +kernel
theorem dX10_repaired_29 : decode cX10_repaired 29 = .ok (.bipush 10, 2) := by decide +kernel
theorem dX10_repaired_31 : decode cX10_repaired 31 = .ok (.invokevirtual 72, 3) := by decide +kernel
theorem dX10_repaired_34 : decode cX10_repaired 34 = .ok (.imul, 1) := by decide +kernel
theorem dX10_repaired_35 : decode cX10_repaired 35 = .ok (.isub, 1) := by decide +kernel
theorem dX10_repaired_36 : decode cX10_repaired 36 = .ok (.istore 4, 2) := by decide +kernel
theorem dX10_repaired_38 : decode cX10_repaired 38 = .ok (.iload 4, 2) := by decide +kernel
theorem dX10_repaired_40 : decode cX10_repaired 40 = .ok (.ifCond .ge 7, 3) := by decide +kernel
theorem dX10_repaired_43 : decode cX10_repaired 43 = .ok (.iconst 0, 1) := by decide +kernel
theorem dX10_repaired_44 : decode cX10_repaired 44 = .ok (.goto 5, 3) := by decide +kernel
theorem dX10_repaired_47 : decode cX10_repaired 47 = .ok (.iload 4, 2) := by decide +kernel
theorem dX10_repaired_49 : decode cX10_repaired 49 = .ok (.istore 4, 2) := by decide +kernel
theorem dX10_repaired_51 : decode cX10_repaired 51 = .ok (.aload_n 0, 1) := by decide +kernel
theorem dX10_repaired_52 : decode cX10_repaired 52 = .ok (.aload_n 0, 1) := by decide +kernel
theorem dX10_repaired_53 : decode cX10_repaired 53 = .ok (.iload_n 2, 1) := by decide +kernel
theorem dX10_repaired_54 : decode cX10_repaired 54 = .ok (.iconst 0, 1) := by decide +kernel
theorem dX10_repaired_55 : decode cX10_repaired 55 = .ok (.invokevirtual 72, 3) := by decide +kernel
theorem dX10_repaired_58 : decode cX10_repaired 58 = .ok (.iconst 1, 1) := by decide +kernel
theorem dX10_repaired_59 : decode cX10_repaired 59 = .ok (.iload 4, 2) := by decide +kernel
theorem dX10_repaired_61 : decode cX10_repaired 61 = .ok (.invokevirtual 91, 3) := by decide +kernel
theorem dX10_repaired_64 : decode cX10_repaired 64 = .ok (.aload_n 0, 1) := by decide +kernel
theorem dX10_repaired_65 : decode cX10_repaired 65 = .ok (.getfield 7, 3) := by decide +kernel
theorem dX10_repaired_68 : decode cX10_repaired 68 = .ok (.bipush 10, 2) := by decide +kernel
theorem dX10_repaired_70 : decode cX10_repaired 70 = .ok (.dup2, 1) := by decide +kernel
theorem dX10_repaired_71 : decode cX10_repaired 71 = .ok (.iaload, 1) := by decide +kernel
theorem dX10_repaired_72 : decode cX10_repaired 72 = .ok (.iload 4, 2) := by decide +kernel
theorem dX10_repaired_74 : decode cX10_repaired 74 = .ok (.iadd, 1) := by decide +kernel
theorem dX10_repaired_75 : decode cX10_repaired 75 = .ok (.iastore, 1) := by decide +kernel
theorem dX10_repaired_76 : decode cX10_repaired 76 = .ok (.aload_n 0, 1) := by decide +kernel
theorem dX10_repaired_77 : decode cX10_repaired 77 = .ok (.iload_n 2, 1) := by decide +kernel
theorem dX10_repaired_78 : decode cX10_repaired 78 = .ok (.iconst 5, 1) := by decide +kernel
theorem dX10_repaired_79 : decode cX10_repaired 79 = .ok (.iconst 5, 1) := by decide +kernel
theorem dX10_repaired_80 : decode cX10_repaired 80 = .ok (.invokevirtual 82, 3) := by decide +kernel
theorem dX10_repaired_83 : decode cX10_repaired 83 = .ok (.aload_n 0, 1) := by decide +kernel
theorem dX10_repaired_84 : decode cX10_repaired 84 = .ok (.iload_n 2, 1) := by decide +kernel
theorem dX10_repaired_85 : decode cX10_repaired 85 = .ok (.bipush 6, 2) := by decide +kernel
theorem dX10_repaired_87 : decode cX10_repaired 87 = .ok (.bipush (-5), 2) := by decide +kernel
theorem dX10_repaired_89 : decode cX10_repaired 89 = .ok (.invokevirtual 82, 3) := by decide +kernel
theorem dX10_repaired_92 : decode cX10_repaired 92 = .ok (.aload_n 0, 1) := by decide +kernel
theorem dX10_repaired_93 : decode cX10_repaired 93 = .ok (.iload_n 2, 1) := by decide +kernel
theorem dX10_repaired_94 : decode cX10_repaired 94 = .ok (.bipush 9, 2) := by decide +kernel
theorem dX10_repaired_96 : decode cX10_repaired 96 = .ok (.aload_n 0, 1) := by decide +kernel
theorem dX10_repaired_97 : decode cX10_repaired 97 = .ok (.getfield 7, 3) := by decide +kernel
theorem dX10_repaired_100 : decode cX10_repaired 100 = .ok (.iconst 0, 1) := by decide +kernel
theorem dX10_repaired_101 : decode cX10_repaired 101 = .ok (.iaload, 1) := by decide +kernel
theorem dX10_repaired_102 : decode cX10_repaired 102 = .ok (.invokevirtual 82, 3) := by decide +kernel
theorem dX10_repaired_105 : decode cX10_repaired 105 = .ok (.aload_n 0, 1) := by decide +kernel
theorem dX10_repaired_106 : decode cX10_repaired 106 = .ok (.iload_n 1, 1) := by decide +kernel
theorem dX10_repaired_107 : decode cX10_repaired 107 = .ok (.bipush 7, 2) := by decide +kernel
theorem dX10_repaired_109 : decode cX10_repaired 109 = .ok (.aload_n 0, 1) := by decide +kernel
theorem dX10_repaired_110 : decode cX10_repaired 110 = .ok (.iload_n 1, 1) := by decide +kernel
theorem dX10_repaired_111 : decode cX10_repaired 111 = .ok (.bipush 7, 2) := by decide +kernel
theorem dX10_repaired_113 : decode cX10_repaired 113 = .ok (.invokevirtual 88, 3) := by decide +kernel
theorem dX10_repaired_116 : decode cX10_repaired 116 = .ok (.iconst 1, 1) := by decide +kernel
theorem dX10_repaired_117 : decode cX10_repaired 117 = .ok (.iadd, 1) := by decide +kernel
theorem dX10_repaired_118 : decode cX10_repaired 118 = .ok (.invokevirtual 64, 3) := by decide +kernel
theorem dX10_repaired_121 : decode cX10_repaired 121 = .ok (.aload_n 0, 1) := by decide +kernel
theorem dX10_repaired_122 : decode cX10_repaired 122 = .ok (.iload_n 1, 1) := by decide +kernel
theorem dX10_repaired_123 : decode cX10_repaired 123 = .ok (.invokevirtual 68, 3) := by decide +kernel
theorem dX10_repaired_126 : decode cX10_repaired 126 = .ok (.return_, 1) := by decide +kernel
theorem dX10_towed_0 : decode cX10_towed 0 = .ok (.aload_n 0, 1) := by decide +kernel
theorem dX10_towed_1 : decode cX10_towed 1 = .ok (.iload_n 1, 1) := by decide +kernel
theorem dX10_towed_2 : decode cX10_towed 2 = .ok (.iconst 5, 1) := by decide +kernel
theorem dX10_towed_3 : decode cX10_towed 3 = .ok (.invokevirtual 88, 3) := by decide +kernel
theorem dX10_towed_6 : decode cX10_towed 6 = .ok (.istore_n 2, 1) := by decide +kernel
theorem dX10_towed_7 : decode cX10_towed 7 = .ok (.aload_n 0, 1) := by decide +kernel
theorem dX10_towed_8 : decode cX10_towed 8 = .ok (.iload_n 1, 1) := by decide +kernel
theorem dX10_towed_9 : decode cX10_towed 9 = .ok (.bipush 13, 2) := by decide +kernel
theorem dX10_towed_11 : decode cX10_towed 11 = .ok (.invokevirtual 88, 3) := by decide +kernel
theorem dX10_towed_14 : decode cX10_towed 14 = .ok (.istore_n 3, 1) := by decide +kernel
theorem dX10_towed_15 : decode cX10_towed 15 = .ok (.aload_n 0, 1) := by decide +kernel
theorem dX10_towed_16 : decode cX10_towed 16 = .ok (.iload_n 1, 1) := by decide +kernel
theorem dX10_towed_17 : decode cX10_towed 17 = .ok (.bipush 12, 2) := by decide +kernel
theorem dX10_towed_19 : decode cX10_towed 19 = .ok (.invokevirtual 88, 3) := by decide +kernel
theorem dX10_towed_22 : decode cX10_towed 22 = .ok (.istore 4, 2) := by decide +kernel
theorem dX10_towed_24 : decode cX10_towed 24 = .ok (.aload_n 0, 1) := by decide +kernel
theorem dX10_towed_25 : decode cX10_towed 25 = .ok (.iload_n 1, 1) := by decide +kernel
theorem dX10_towed_26 : decode cX10_towed 26 = .ok (.iconst 4, 1) := by decide +kernel
theorem dX10_towed_27 : decode cX10_towed 27 = .ok (.iload 4, 2) := by decide +kernel
theorem dX10_towed_29 : decode cX10_towed 29 = .ok (.invokevirtual 64, 3) := by decide +kernel
theorem dX10_towed_32 : decode cX10_towed 32 = .ok (.aload_n 0, 1) := by decide +kernel
theorem dX10_towed_33 : decode cX10_towed 33 = .ok (.iload_n 1, 1) := by decide +kernel
theorem dX10_towed_34 : decode cX10_towed 34 = .ok (.bipush 8, 2) := by decide +kernel
theorem dX10_towed_36 : decode cX10_towed 36 = .ok (.aload_n 0, 1) := by decide +kernel
theorem dX10_towed_37 : decode cX10_towed 37 = .ok (.iload_n 1, 1) := by decide +kernel
theorem dX10_towed_38 : decode cX10_towed 38 = .ok (.bipush 8, 2) := by decide +kernel
theorem dX10_towed_40 : decode cX10_towed 40 = .ok (.invokevirtual 88, 3) := by decide +kernel
theorem dX10_towed_43 : decode cX10_towed 43 = .ok (.iconst 1, 1) := by decide +kernel
theorem dX10_towed_44 : decode cX10_towed 44 = .ok (.iadd, 1) := by decide +kernel
theorem dX10_towed_45 : decode cX10_towed 45 = .ok (.invokevirtual 64, 3) := by decide +kernel
theorem dX10_towed_48 : decode cX10_towed 48 = .ok (.aload_n 0, 1) := by decide +kernel
theorem dX10_towed_49 : decode cX10_towed 49 = .ok (.iload_n 2, 1) := by decide +kernel
theorem dX10_towed_50 : decode cX10_towed 50 = .ok (.iconst 1, 1) := by decide +kernel
theorem dX10_towed_51 : decode cX10_towed 51 = .ok (.iload 4, 2) := by decide +kernel
theorem dX10_towed_53 : decode cX10_towed 53 = .ok (.invokevirtual 82, 3) := by decide +kernel
theorem dX10_towed_56 : decode cX10_towed 56 = .ok (.aload_n 0, 1) := by decide +kernel
theorem dX10_towed_57 : decode cX10_towed 57 = .ok (.iload_n 3, 1) := by decide +kernel
theorem dX10_towed_58 : decode cX10_towed 58 = .ok (.iconst 0, 1) := by decide +kernel
theorem dX10_towed_59 : decode cX10_towed 59 = .ok (.invokevirtual 117, 3) := by decide +kernel
theorem dX10_towed_62 : decode cX10_towed 62 = .ok (.iload 4, 2) := by decide +kernel
theorem dX10_towed_64 : decode cX10_towed 64 = .ok (.if_icmp .eq 9, 3) := by decide +kernel
theorem dX10_towed_67 : decode cX10_towed 67 = .ok (.aload_n 0, 1) := by decide +kernel
theorem dX10_towed_68 : decode cX10_towed 68 = .ok (.iload_n 1, 1) := by decide +kernel
theorem dX10_towed_69 : decode cX10_towed 69 = .ok (.invokevirtual 126, 3) := by decide +kernel
theorem dX10_towed_72 : decode cX10_towed 72 = .ok (.return_, 1) := by decide +kernel
theorem dX10_towed_73 : decode cX10_towed 73 = .ok (.aload_n 0, 1) := by decide +kernel
theorem dX10_towed_74 : decode cX10_towed 74 = .ok (.getfield 7, 3) := by decide +kernel
theorem dX10_towed_77 : decode cX10_towed 77 = .ok (.sipush 270, 3) := by decide +kernel
theorem dX10_towed_80 : decode cX10_towed 80 = .ok (.iconst 4, 1) := by decide +kernel
theorem dX10_towed_81 : decode cX10_towed 81 = .ok (.iload_n 3, 1) := by decide +kernel
theorem dX10_towed_82 : decode cX10_towed 82 = .ok (.imul, 1) := by decide +kernel
theorem dX10_towed_83 : decode cX10_towed 83 = .ok (.iadd, 1) := by decide +kernel
theorem dX10_towed_84 : decode cX10_towed 84 = .ok (.iconst 2, 1) := by decide +kernel
theorem dX10_towed_85 : decode cX10_towed 85 = .ok (.iadd, 1) := by decide +kernel
theorem dX10_towed_86 : decode cX10_towed 86 = .ok (.dup2, 1) := by decide +kernel
theorem dX10_towed_87 : decode cX10_towed 87 = .ok (.iaload, 1) := by decide +kernel
theorem dX10_towed_88 : decode cX10_towed 88 = .ok (.iconst 1, 1) := by decide +kernel
theorem dX10_towed_89 : decode cX10_towed 89 = .ok (.iadd, 1) := by decide +kernel
theorem dX10_towed_90 : decode cX10_towed 90 = .ok (.iastore, 1) := by decide +kernel
theorem dX10_towed_91 : decode cX10_towed 91 = .ok (.aload_n 0, 1) := by decide +kernel
theorem dX10_towed_92 : decode cX10_towed 92 = .ok (.getfield 7, 3) := by decide +kernel
theorem dX10_towed_95 : decode cX10_towed 95 = .ok (.sipush 270, 3) := by decide +kernel
theorem dX10_towed_98 : decode cX10_towed 98 = .ok (.iconst 4, 1) := by decide +kernel
theorem dX10_towed_99 : decode cX10_towed 99 = .ok (.iload_n 3, 1) := by decide +kernel
theorem dX10_towed_100 : decode cX10_towed 100 = .ok (.imul, 1) := by decide +kernel
theorem dX10_towed_101 : decode cX10_towed 101 = .ok (.iadd, 1) := by decide +kernel
theorem dX10_towed_102 : decode cX10_towed 102 = .ok (.iconst 3, 1) := by decide +kernel
theorem dX10_towed_103 : decode cX10_towed 103 = .ok (.iadd, 1) := by decide +kernel
theorem dX10_towed_104 : decode cX10_towed 104 = .ok (.dup2, 1) := by decide +kernel
theorem dX10_towed_105 : decode cX10_towed 105 = .ok (.iaload, 1) := by decide +kernel
theorem dX10_towed_106 : decode cX10_towed 106 = .ok (.iconst 1, 1) := by decide +kernel
theorem dX10_towed_107 : decode cX10_towed 107 = .ok (.iadd, 1) := by decide +kernel
theorem dX10_towed_108 : decode cX10_towed 108 = .ok (.iastore, 1) := by decide +kernel
theorem dX10_towed_109 : decode cX10_towed 109 = .ok (.aload_n 0, 1) := by decide +kernel
theorem dX10_towed_110 : decode cX10_towed 110 = .ok (.iload_n 2, 1) := by decide +kernel
theorem dX10_towed_111 : decode cX10_towed 111 = .ok (.iconst 5, 1) := by decide +kernel
theorem dX10_towed_112 : decode cX10_towed 112 = .ok (.bipush 6, 2) := by decide +kernel
theorem dX10_towed_114 : decode cX10_towed 114 = .ok (.invokevirtual 82, 3) := by decide +kernel
theorem dX10_towed_117 : decode cX10_towed 117 = .ok (.aload_n 0, 1) := by decide +kernel
theorem dX10_towed_118 : decode cX10_towed 118 = .ok (.iload_n 2, 1) := by decide +kernel
theorem dX10_towed_119 : decode cX10_towed 119 = .ok (.bipush 6, 2) := by decide +kernel
theorem dX10_towed_121 : decode cX10_towed 121 = .ok (.bipush (-5), 2) := by decide +kernel
theorem dX10_towed_123 : decode cX10_towed 123 = .ok (.invokevirtual 82, 3) := by decide +kernel
theorem dX10_towed_126 : decode cX10_towed 126 = .ok (.aload_n 0, 1) := by decide +kernel
theorem dX10_towed_127 : decode cX10_towed 127 = .ok (.iload_n 2, 1) := by decide +kernel
theorem dX10_towed_128 : decode cX10_towed 128 = .ok (.bipush 9, 2) := by decide +kernel
theorem dX10_towed_130 : decode cX10_towed 130 = .ok (.aload_n 0, 1) := by decide +kernel
theorem dX10_towed_131 : decode cX10_towed 131 = .ok (.getfield 7, 3) := by decide +kernel
theorem dX10_towed_134 : decode cX10_towed 134 = .ok (.iconst 0, 1) := by decide +kernel
theorem dX10_towed_135 : decode cX10_towed 135 = .ok (.iaload, 1) := by decide +kernel
theorem dX10_towed_136 : decode cX10_towed 136 = .ok (.invokevirtual 82, 3) := by decide +kernel
theorem dX10_towed_139 : decode cX10_towed 139 = .ok (.aload_n 0, 1) := by decide +kernel
theorem dX10_towed_140 : decode cX10_towed 140 = .ok (.iload_n 2, 1) := by decide +kernel
theorem dX10_towed_141 : decode cX10_towed 141 = .ok (.bipush 11, 2) := by decide +kernel
theorem dX10_towed_143 : decode cX10_towed 143 = .ok (.iload_n 3, 1) := by decide +kernel
theorem dX10_towed_144 : decode cX10_towed 144 = .ok (.invokevirtual 82, 3) := by decide +kernel
theorem dX10_towed_147 : decode cX10_towed 147 = .ok (.aload_n 0, 1) := by decide +kernel
theorem dX10_towed_148 : decode cX10_towed 148 = .ok (.iload_n 1, 1) := by decide +kernel
theorem dX10_towed_149 : decode cX10_towed 149 = .ok (.invokevirtual 68, 3) := by decide +kernel
theorem dX10_towed_152 : decode cX10_towed 152 = .ok (.return_, 1) := by decide +kernel
theorem dX10_waits_0 : decode cX10_waits 0 = .ok (.aload_n 0, 1) := by decide +kernel
theorem dX10_waits_1 : decode cX10_waits 1 = .ok (.iload_n 1, 1) := by decide +kernel
theorem dX10_waits_2 : decode cX10_waits 2 = .ok (.iconst 5, 1) := by decide +kernel
theorem dX10_waits_3 : decode cX10_waits 3 = .ok (.invokevirtual 72, 3) := by decide +kernel
theorem dX10_waits_6 : decode cX10_waits 6 = .ok (.ifCond .eq 25, 3) := by decide +kernel
theorem dX10_waits_9 : decode cX10_waits 9 = .ok (.aload_n 0, 1) := by decide +kernel
theorem dX10_waits_10 : decode cX10_waits 10 = .ok (.iload_n 1, 1) := by decide +kernel
theorem dX10_waits_11 : decode cX10_waits 11 = .ok (.iconst 5, 1) := by decide +kernel
theorem dX10_waits_12 : decode cX10_waits 12 = .ok (.invokevirtual 72, 3) := by decide +kernel
theorem dX10_waits_15 : decode cX10_waits 15 = .ok (.iconst 3, 1) := by decide +kernel
theorem dX10_waits_16 : decode cX10_waits 16 = .ok (.if_icmp .ne 19, 3) := by decide +kernel
theorem dX10_waits_19 : decode cX10_waits 19 = .ok (.aload_n 0, 1) := by decide +kernel
theorem dX10_waits_20 : decode cX10_waits 20 = .ok (.iload_n 1, 1) := by decide +kernel
theorem dX10_waits_21 : decode cX10_waits 21 = .ok (.bipush 6, 2) := by decide +kernel
theorem dX10_waits_23 : decode cX10_waits 23 = .ok (.invokevirtual 72, 3) := by decide +kernel
theorem dX10_waits_26 : decode cX10_waits 26 = .ok (.bipush (-5), 2) := by decide +kernel
theorem dX10_waits_28 : decode cX10_waits 28 = .ok (.if_icmp .ne 7, 3) := by decide +kernel
theorem dX10_waits_31 : decode cX10_waits 31 = .ok (.iconst 1, 1) := by decide +kernel
theorem dX10_waits_32 : decode cX10_waits 32 = .ok (.goto 4, 3) := by decide +kernel
theorem dX10_waits_35 : decode cX10_waits 35 = .ok (.iconst 0, 1) := by decide +kernel
theorem dX10_waits_36 : decode cX10_waits 36 = .ok (.ireturn, 1) := by decide +kernel
theorem dX10_rest_0 : decode cX10_rest 0 = .ok (.aload_n 0, 1) := by decide +kernel
theorem dX10_rest_1 : decode cX10_rest 1 = .ok (.iload_n 1, 1) := by decide +kernel
theorem dX10_rest_2 : decode cX10_rest 2 = .ok (.iconst 3, 1) := by decide +kernel
theorem dX10_rest_3 : decode cX10_rest 3 = .ok (.invokevirtual 72, 3) := by decide +kernel
theorem dX10_rest_6 : decode cX10_rest 6 = .ok (.aload_n 0, 1) := by decide +kernel
theorem dX10_rest_7 : decode cX10_rest 7 = .ok (.getfield 7, 3) := by decide +kernel
theorem dX10_rest_10 : decode cX10_rest 10 = .ok (.iconst 0, 1) := by decide +kernel
theorem dX10_rest_11 : decode cX10_rest 11 = .ok (.iaload, 1) := by decide +kernel
theorem dX10_rest_12 : decode cX10_rest 12 = .ok (.aload_n 0, 1) := by decide +kernel
theorem dX10_rest_13 : decode cX10_rest 13 = .ok (.iload_n 1, 1) := by decide +kernel
theorem dX10_rest_14 : decode cX10_rest 14 = .ok (.iconst 4, 1) := by decide +kernel
theorem dX10_rest_15 : decode cX10_rest 15 = .ok (.invokevirtual 72, 3) := by decide +kernel
theorem dX10_rest_18 : decode cX10_rest 18 = .ok (.isub, 1) := by decide +kernel
theorem dX10_rest_19 : decode cX10_rest 19 = .ok (.isub, 1) := by decide +kernel
theorem dX10_rest_20 : decode cX10_rest 20 = .ok (.ireturn, 1) := by decide +kernel
theorem dX10_isAhead_0 : decode cX10_isAhead 0 = .ok (.aload_n 0, 1) := by decide +kernel
theorem dX10_isAhead_1 : decode cX10_isAhead 1 = .ok (.iload_n 1, 1) := by decide +kernel
theorem dX10_isAhead_2 : decode cX10_isAhead 2 = .ok (.invokevirtual 138, 3) := by decide +kernel
theorem dX10_isAhead_5 : decode cX10_isAhead 5 = .ok (.aload_n 0, 1) := by decide +kernel
theorem dX10_isAhead_6 : decode cX10_isAhead 6 = .ok (.iload_n 2, 1) := by decide +kernel
theorem dX10_isAhead_7 : decode cX10_isAhead 7 = .ok (.invokevirtual 138, 3) := by decide +kernel
theorem dX10_isAhead_10 : decode cX10_isAhead 10 = .ok (.if_icmp .eq 22, 3) := by decide +kernel
theorem dX10_isAhead_13 : decode cX10_isAhead 13 = .ok (.aload_n 0, 1) := by decide +kernel
theorem dX10_isAhead_14 : decode cX10_isAhead 14 = .ok (.iload_n 1, 1) := by decide +kernel
theorem dX10_isAhead_15 : decode cX10_isAhead 15 = .ok (.invokevirtual 138, 3) := by decide +kernel
theorem dX10_isAhead_18 : decode cX10_isAhead 18 = .ok (.aload_n 0, 1) := by decide +kernel
theorem dX10_isAhead_19 : decode cX10_isAhead 19 = .ok (.iload_n 2, 1) := by decide +kernel
theorem dX10_isAhead_20 : decode cX10_isAhead 20 = .ok (.invokevirtual 138, 3) := by decide +kernel
theorem dX10_isAhead_23 : decode cX10_isAhead 23 = .ok (.if_icmp .ge 7, 3) := by decide +kernel
theorem dX10_isAhead_26 : decode cX10_isAhead 26 = .ok (.iconst 1, 1) := by decide +kernel
theorem dX10_isAhead_27 : decode cX10_isAhead 27 = .ok (.goto 4, 3) := by decide +kernel
theorem dX10_isAhead_30 : decode cX10_isAhead 30 = .ok (.iconst 0, 1) := by decide +kernel
theorem dX10_isAhead_31 : decode cX10_isAhead 31 = .ok (.ireturn, 1) := by decide +kernel
theorem dX10_isAhead_32 : decode cX10_isAhead 32 = .ok (.aload_n 0, 1) := by decide +kernel
theorem dX10_isAhead_33 : decode cX10_isAhead 33 = .ok (.aload_n 0, 1) := by decide +kernel
theorem dX10_isAhead_34 : decode cX10_isAhead 34 = .ok (.iload_n 1, 1) := by decide +kernel
theorem dX10_isAhead_35 : decode cX10_isAhead 35 = .ok (.iconst 0, 1) := by decide +kernel
theorem dX10_isAhead_36 : decode cX10_isAhead 36 = .ok (.invokevirtual 72, 3) := by decide +kernel
theorem dX10_isAhead_39 : decode cX10_isAhead 39 = .ok (.iconst 0, 1) := by decide +kernel
theorem dX10_isAhead_40 : decode cX10_isAhead 40 = .ok (.invokevirtual 85, 3) := by decide +kernel
theorem dX10_isAhead_43 : decode cX10_isAhead 43 = .ok (.istore_n 3, 1) := by decide +kernel
theorem dX10_isAhead_44 : decode cX10_isAhead 44 = .ok (.aload_n 0, 1) := by decide +kernel
theorem dX10_isAhead_45 : decode cX10_isAhead 45 = .ok (.aload_n 0, 1) := by decide +kernel
theorem dX10_isAhead_46 : decode cX10_isAhead 46 = .ok (.iload_n 2, 1) := by decide +kernel
theorem dX10_isAhead_47 : decode cX10_isAhead 47 = .ok (.iconst 0, 1) := by decide +kernel
theorem dX10_isAhead_48 : decode cX10_isAhead 48 = .ok (.invokevirtual 72, 3) := by decide +kernel
theorem dX10_isAhead_51 : decode cX10_isAhead 51 = .ok (.iconst 0, 1) := by decide +kernel
theorem dX10_isAhead_52 : decode cX10_isAhead 52 = .ok (.invokevirtual 85, 3) := by decide +kernel
theorem dX10_isAhead_55 : decode cX10_isAhead 55 = .ok (.istore 4, 2) := by decide +kernel
theorem dX10_isAhead_57 : decode cX10_isAhead 57 = .ok (.iload_n 3, 1) := by decide +kernel
theorem dX10_isAhead_58 : decode cX10_isAhead 58 = .ok (.iload 4, 2) := by decide +kernel
theorem dX10_isAhead_60 : decode cX10_isAhead 60 = .ok (.if_icmp .eq 17, 3) := by decide +kernel
theorem dX10_isAhead_63 : decode cX10_isAhead 63 = .ok (.iload_n 3, 1) := by decide +kernel
theorem dX10_isAhead_64 : decode cX10_isAhead 64 = .ok (.iload 4, 2) := by decide +kernel
theorem dX10_isAhead_66 : decode cX10_isAhead 66 = .ok (.if_icmp .le 7, 3) := by decide +kernel
theorem dX10_isAhead_69 : decode cX10_isAhead 69 = .ok (.iconst 1, 1) := by decide +kernel
theorem dX10_isAhead_70 : decode cX10_isAhead 70 = .ok (.goto 17, 3) := by decide +kernel
theorem dX10_isAhead_73 : decode cX10_isAhead 73 = .ok (.iconst 0, 1) := by decide +kernel
theorem dX10_isAhead_74 : decode cX10_isAhead 74 = .ok (.goto 13, 3) := by decide +kernel
theorem dX10_isAhead_77 : decode cX10_isAhead 77 = .ok (.iload_n 1, 1) := by decide +kernel
theorem dX10_isAhead_78 : decode cX10_isAhead 78 = .ok (.iload_n 2, 1) := by decide +kernel
theorem dX10_isAhead_79 : decode cX10_isAhead 79 = .ok (.if_icmp .ge 7, 3) := by decide +kernel
theorem dX10_isAhead_82 : decode cX10_isAhead 82 = .ok (.iconst 1, 1) := by decide +kernel
theorem dX10_isAhead_83 : decode cX10_isAhead 83 = .ok (.goto 4, 3) := by decide +kernel
theorem dX10_isAhead_86 : decode cX10_isAhead 86 = .ok (.iconst 0, 1) := by decide +kernel
theorem dX10_isAhead_87 : decode cX10_isAhead 87 = .ok (.ireturn, 1) := by decide +kernel
theorem dX10_laysRow_0 : decode cX10_laysRow 0 = .ok (.aload_n 0, 1) := by decide +kernel
theorem dX10_laysRow_1 : decode cX10_laysRow 1 = .ok (.iconst 0, 1) := by decide +kernel
theorem dX10_laysRow_2 : decode cX10_laysRow 2 = .ok (.putfield 141, 3) := by decide +kernel
theorem dX10_laysRow_5 : decode cX10_laysRow 5 = .ok (.iconst 0, 1) := by decide +kernel
theorem dX10_laysRow_6 : decode cX10_laysRow 6 = .ok (.istore_n 1, 1) := by decide +kernel
theorem dX10_laysRow_7 : decode cX10_laysRow 7 = .ok (.iload_n 1, 1) := by decide +kernel
theorem dX10_laysRow_8 : decode cX10_laysRow 8 = .ok (.aload_n 0, 1) := by decide +kernel
theorem dX10_laysRow_9 : decode cX10_laysRow 9 = .ok (.getfield 7, 3) := by decide +kernel
theorem dX10_laysRow_12 : decode cX10_laysRow 12 = .ok (.bipush 9, 2) := by decide +kernel
theorem dX10_laysRow_14 : decode cX10_laysRow 14 = .ok (.iaload, 1) := by decide +kernel
theorem dX10_laysRow_15 : decode cX10_laysRow 15 = .ok (.if_icmp .ge 79, 3) := by decide +kernel
theorem dX10_laysRow_18 : decode cX10_laysRow 18 = .ok (.aload_n 0, 1) := by decide +kernel
theorem dX10_laysRow_19 : decode cX10_laysRow 19 = .ok (.iload_n 1, 1) := by decide +kernel
theorem dX10_laysRow_20 : decode cX10_laysRow 20 = .ok (.invokevirtual 144, 3) := by decide +kernel
theorem dX10_laysRow_23 : decode cX10_laysRow 23 = .ok (.ifCond .eq 65, 3) := by decide +kernel
theorem dX10_laysRow_26 : decode cX10_laysRow 26 = .ok (.aload_n 0, 1) := by decide +kernel
theorem dX10_laysRow_27 : decode cX10_laysRow 27 = .ok (.getfield 141, 3) := by decide +kernel
theorem dX10_laysRow_30 : decode cX10_laysRow 30 = .ok (.istore_n 2, 1) := by decide +kernel
theorem dX10_laysRow_31 : decode cX10_laysRow 31 = .ok (.iload_n 2, 1) := by decide +kernel
theorem dX10_laysRow_32 : decode cX10_laysRow 32 = .ok (.ifCond .le 39, 3) := by decide +kernel
theorem dX10_laysRow_35 : decode cX10_laysRow 35 = .ok (.aload_n 0, 1) := by decide +kernel
theorem dX10_laysRow_36 : decode cX10_laysRow 36 = .ok (.iload_n 1, 1) := by decide +kernel
theorem dX10_laysRow_37 : decode cX10_laysRow 37 = .ok (.aload_n 0, 1) := by decide +kernel
theorem dX10_laysRow_38 : decode cX10_laysRow 38 = .ok (.getfield 31, 3) := by decide +kernel
theorem dX10_laysRow_41 : decode cX10_laysRow 41 = .ok (.iload_n 2, 1) := by decide +kernel
theorem dX10_laysRow_42 : decode cX10_laysRow 42 = .ok (.iconst 1, 1) := by decide +kernel
theorem dX10_laysRow_43 : decode cX10_laysRow 43 = .ok (.isub, 1) := by decide +kernel
theorem dX10_laysRow_44 : decode cX10_laysRow 44 = .ok (.iaload, 1) := by decide +kernel
theorem dX10_laysRow_45 : decode cX10_laysRow 45 = .ok (.invokevirtual 147, 3) := by decide +kernel
theorem dX10_laysRow_48 : decode cX10_laysRow 48 = .ok (.ifCond .eq 23, 3) := by decide +kernel
theorem dX10_laysRow_51 : decode cX10_laysRow 51 = .ok (.aload_n 0, 1) := by decide +kernel
theorem dX10_laysRow_52 : decode cX10_laysRow 52 = .ok (.getfield 31, 3) := by decide +kernel
theorem dX10_laysRow_55 : decode cX10_laysRow 55 = .ok (.iload_n 2, 1) := by decide +kernel
theorem dX10_laysRow_56 : decode cX10_laysRow 56 = .ok (.aload_n 0, 1) := by decide +kernel
theorem dX10_laysRow_57 : decode cX10_laysRow 57 = .ok (.getfield 31, 3) := by decide +kernel
theorem dX10_laysRow_60 : decode cX10_laysRow 60 = .ok (.iload_n 2, 1) := by decide +kernel
theorem dX10_laysRow_61 : decode cX10_laysRow 61 = .ok (.iconst 1, 1) := by decide +kernel
theorem dX10_laysRow_62 : decode cX10_laysRow 62 = .ok (.isub, 1) := by decide +kernel
theorem dX10_laysRow_63 : decode cX10_laysRow 63 = .ok (.iaload, 1) := by decide +kernel
theorem dX10_laysRow_64 : decode cX10_laysRow 64 = .ok (.iastore, 1) := by decide +kernel
theorem dX10_laysRow_65 : decode cX10_laysRow 65 = .ok (.iinc 2 (-1), 3) := by decide +kernel
theorem dX10_laysRow_68 : decode cX10_laysRow 68 = .ok (.goto (-37), 3) := by decide +kernel
theorem dX10_laysRow_71 : decode cX10_laysRow 71 = .ok (.aload_n 0, 1) := by decide +kernel
theorem dX10_laysRow_72 : decode cX10_laysRow 72 = .ok (.getfield 31, 3) := by decide +kernel
theorem dX10_laysRow_75 : decode cX10_laysRow 75 = .ok (.iload_n 2, 1) := by decide +kernel
theorem dX10_laysRow_76 : decode cX10_laysRow 76 = .ok (.iload_n 1, 1) := by decide +kernel
theorem dX10_laysRow_77 : decode cX10_laysRow 77 = .ok (.iastore, 1) := by decide +kernel
theorem dX10_laysRow_78 : decode cX10_laysRow 78 = .ok (.aload_n 0, 1) := by decide +kernel
theorem dX10_laysRow_79 : decode cX10_laysRow 79 = .ok (.dup, 1) := by decide +kernel
theorem dX10_laysRow_80 : decode cX10_laysRow 80 = .ok (.getfield 141, 3) := by decide +kernel
theorem dX10_laysRow_83 : decode cX10_laysRow 83 = .ok (.iconst 1, 1) := by decide +kernel
theorem dX10_laysRow_84 : decode cX10_laysRow 84 = .ok (.iadd, 1) := by decide +kernel
theorem dX10_laysRow_85 : decode cX10_laysRow 85 = .ok (.putfield 141, 3) := by decide +kernel
theorem dX10_laysRow_88 : decode cX10_laysRow 88 = .ok (.iinc 1 1, 3) := by decide +kernel
theorem dX10_laysRow_91 : decode cX10_laysRow 91 = .ok (.goto (-84), 3) := by decide +kernel
theorem dX10_laysRow_94 : decode cX10_laysRow 94 = .ok (.return_, 1) := by decide +kernel
theorem dX10_mayTake_0 : decode cX10_mayTake 0 = .ok (.aload_n 0, 1) := by decide +kernel
theorem dX10_mayTake_1 : decode cX10_mayTake 1 = .ok (.iload_n 1, 1) := by decide +kernel
theorem dX10_mayTake_2 : decode cX10_mayTake 2 = .ok (.iconst 0, 1) := by decide +kernel
theorem dX10_mayTake_3 : decode cX10_mayTake 3 = .ok (.invokevirtual 88, 3) := by decide +kernel
theorem dX10_mayTake_6 : decode cX10_mayTake 6 = .ok (.invokestatic 129, 3) := by decide +kernel
theorem dX10_mayTake_9 : decode cX10_mayTake 9 = .ok (.istore_n 3, 1) := by decide +kernel
theorem dX10_mayTake_10 : decode cX10_mayTake 10 = .ok (.aload_n 0, 1) := by decide +kernel
theorem dX10_mayTake_11 : decode cX10_mayTake 11 = .ok (.iload_n 2, 1) := by decide +kernel
theorem dX10_mayTake_12 : decode cX10_mayTake 12 = .ok (.iconst 1, 1) := by decide +kernel
theorem dX10_mayTake_13 : decode cX10_mayTake 13 = .ok (.invokevirtual 72, 3) := by decide +kernel
theorem dX10_mayTake_16 : decode cX10_mayTake 16 = .ok (.invokestatic 129, 3) := by decide +kernel
theorem dX10_mayTake_19 : decode cX10_mayTake 19 = .ok (.istore 4, 2) := by decide +kernel
theorem dX10_mayTake_21 : decode cX10_mayTake 21 = .ok (.aload_n 0, 1) := by decide +kernel
theorem dX10_mayTake_22 : decode cX10_mayTake 22 = .ok (.iload_n 1, 1) := by decide +kernel
theorem dX10_mayTake_23 : decode cX10_mayTake 23 = .ok (.iconst 3, 1) := by decide +kernel
theorem dX10_mayTake_24 : decode cX10_mayTake 24 = .ok (.invokevirtual 88, 3) := by decide +kernel
theorem dX10_mayTake_27 : decode cX10_mayTake 27 = .ok (.ifCond .ne 24, 3) := by decide +kernel
theorem dX10_mayTake_30 : decode cX10_mayTake 30 = .ok (.aload_n 0, 1) := by decide +kernel
theorem dX10_mayTake_31 : decode cX10_mayTake 31 = .ok (.aload_n 0, 1) := by decide +kernel
theorem dX10_mayTake_32 : decode cX10_mayTake 32 = .ok (.iload_n 1, 1) := by decide +kernel
theorem dX10_mayTake_33 : decode cX10_mayTake 33 = .ok (.iconst 4, 1) := by decide +kernel
theorem dX10_mayTake_34 : decode cX10_mayTake 34 = .ok (.invokevirtual 88, 3) := by decide +kernel
theorem dX10_mayTake_37 : decode cX10_mayTake 37 = .ok (.aload_n 0, 1) := by decide +kernel
theorem dX10_mayTake_38 : decode cX10_mayTake 38 = .ok (.iload_n 2, 1) := by decide +kernel
theorem dX10_mayTake_39 : decode cX10_mayTake 39 = .ok (.iconst 1, 1) := by decide +kernel
theorem dX10_mayTake_40 : decode cX10_mayTake 40 = .ok (.invokevirtual 72, 3) := by decide +kernel
theorem dX10_mayTake_43 : decode cX10_mayTake 43 = .ok (.invokevirtual 53, 3) := by decide +kernel
theorem dX10_mayTake_46 : decode cX10_mayTake 46 = .ok (.ldc 52, 2) := by decide +kernel
theorem dX10_mayTake_48 : decode cX10_mayTake 48 = .ok (.if_icmp .lt 5, 3) := by decide +kernel
theorem dX10_mayTake_51 : decode cX10_mayTake 51 = .ok (.iconst 0, 1) := by decide +kernel
theorem dX10_mayTake_52 : decode cX10_mayTake 52 = .ok (.ireturn, 1) := by decide +kernel
theorem dX10_mayTake_53 : decode cX10_mayTake 53 = .ok (.aload_n 0, 1) := by decide +kernel
theorem dX10_mayTake_54 : decode cX10_mayTake 54 = .ok (.iload_n 2, 1) := by decide +kernel
theorem dX10_mayTake_55 : decode cX10_mayTake 55 = .ok (.iconst 5, 1) := by decide +kernel
theorem dX10_mayTake_56 : decode cX10_mayTake 56 = .ok (.invokevirtual 72, 3) := by decide +kernel
theorem dX10_mayTake_59 : decode cX10_mayTake 59 = .ok (.ifCond .ne 15, 3) := by decide +kernel
theorem dX10_mayTake_62 : decode cX10_mayTake 62 = .ok (.iload_n 3, 1) := by decide +kernel
theorem dX10_mayTake_63 : decode cX10_mayTake 63 = .ok (.iload 4, 2) := by decide +kernel
theorem dX10_mayTake_65 : decode cX10_mayTake 65 = .ok (.isub, 1) := by decide +kernel
theorem dX10_mayTake_66 : decode cX10_mayTake 66 = .ok (.iconst (-1), 1) := by decide +kernel
theorem dX10_mayTake_67 : decode cX10_mayTake 67 = .ok (.iconst 1, 1) := by decide +kernel
theorem dX10_mayTake_68 : decode cX10_mayTake 68 = .ok (.invokestatic 48, 3) := by decide +kernel
theorem dX10_mayTake_71 : decode cX10_mayTake 71 = .ok (.goto 24, 3) := by decide +kernel
theorem dX10_mayTake_74 : decode cX10_mayTake 74 = .ok (.iload_n 3, 1) := by decide +kernel
theorem dX10_mayTake_75 : decode cX10_mayTake 75 = .ok (.iload 4, 2) := by decide +kernel
theorem dX10_mayTake_77 : decode cX10_mayTake 77 = .ok (.if_icmp .ne 17, 3) := by decide +kernel
theorem dX10_mayTake_80 : decode cX10_mayTake 80 = .ok (.aload_n 0, 1) := by decide +kernel
theorem dX10_mayTake_81 : decode cX10_mayTake 81 = .ok (.iload_n 1, 1) := by decide +kernel
theorem dX10_mayTake_82 : decode cX10_mayTake 82 = .ok (.iconst 2, 1) := by decide +kernel
theorem dX10_mayTake_83 : decode cX10_mayTake 83 = .ok (.invokevirtual 88, 3) := by decide +kernel
theorem dX10_mayTake_86 : decode cX10_mayTake 86 = .ok (.iconst 1, 1) := by decide +kernel
theorem dX10_mayTake_87 : decode cX10_mayTake 87 = .ok (.if_icmp .ne 7, 3) := by decide +kernel
theorem dX10_mayTake_90 : decode cX10_mayTake 90 = .ok (.iconst 1, 1) := by decide +kernel
theorem dX10_mayTake_91 : decode cX10_mayTake 91 = .ok (.goto 4, 3) := by decide +kernel
theorem dX10_mayTake_94 : decode cX10_mayTake 94 = .ok (.iconst 0, 1) := by decide +kernel
theorem dX10_mayTake_95 : decode cX10_mayTake 95 = .ok (.ireturn, 1) := by decide +kernel
theorem dX10_nearestOf_0 : decode cX10_nearestOf 0 = .ok (.bipush (-5), 2) := by decide +kernel
theorem dX10_nearestOf_2 : decode cX10_nearestOf 2 = .ok (.istore_n 2, 1) := by decide +kernel
theorem dX10_nearestOf_3 : decode cX10_nearestOf 3 = .ok (.iconst 0, 1) := by decide +kernel
theorem dX10_nearestOf_4 : decode cX10_nearestOf 4 = .ok (.istore_n 3, 1) := by decide +kernel
theorem dX10_nearestOf_5 : decode cX10_nearestOf 5 = .ok (.iload_n 3, 1) := by decide +kernel
theorem dX10_nearestOf_6 : decode cX10_nearestOf 6 = .ok (.aload_n 0, 1) := by decide +kernel
theorem dX10_nearestOf_7 : decode cX10_nearestOf 7 = .ok (.getfield 7, 3) := by decide +kernel
theorem dX10_nearestOf_10 : decode cX10_nearestOf 10 = .ok (.bipush 7, 2) := by decide +kernel
theorem dX10_nearestOf_12 : decode cX10_nearestOf 12 = .ok (.iaload, 1) := by decide +kernel
theorem dX10_nearestOf_13 : decode cX10_nearestOf 13 = .ok (.if_icmp .ge 112, 3) := by decide +kernel
theorem dX10_nearestOf_16 : decode cX10_nearestOf 16 = .ok (.aload_n 0, 1) := by decide +kernel
theorem dX10_nearestOf_17 : decode cX10_nearestOf 17 = .ok (.iload_n 3, 1) := by decide +kernel
theorem dX10_nearestOf_18 : decode cX10_nearestOf 18 = .ok (.iload_n 1, 1) := by decide +kernel
theorem dX10_nearestOf_19 : decode cX10_nearestOf 19 = .ok (.invokevirtual 151, 3) := by decide +kernel
theorem dX10_nearestOf_22 : decode cX10_nearestOf 22 = .ok (.ifCond .eq 97, 3) := by decide +kernel
theorem dX10_nearestOf_25 : decode cX10_nearestOf 25 = .ok (.aload_n 0, 1) := by decide +kernel
theorem dX10_nearestOf_26 : decode cX10_nearestOf 26 = .ok (.aload_n 0, 1) := by decide +kernel
theorem dX10_nearestOf_27 : decode cX10_nearestOf 27 = .ok (.iload_n 3, 1) := by decide +kernel
theorem dX10_nearestOf_28 : decode cX10_nearestOf 28 = .ok (.iconst 4, 1) := by decide +kernel
theorem dX10_nearestOf_29 : decode cX10_nearestOf 29 = .ok (.invokevirtual 88, 3) := by decide +kernel
theorem dX10_nearestOf_32 : decode cX10_nearestOf 32 = .ok (.aload_n 0, 1) := by decide +kernel
theorem dX10_nearestOf_33 : decode cX10_nearestOf 33 = .ok (.iload_n 1, 1) := by decide +kernel
theorem dX10_nearestOf_34 : decode cX10_nearestOf 34 = .ok (.iconst 1, 1) := by decide +kernel
theorem dX10_nearestOf_35 : decode cX10_nearestOf 35 = .ok (.invokevirtual 72, 3) := by decide +kernel
theorem dX10_nearestOf_38 : decode cX10_nearestOf 38 = .ok (.invokevirtual 53, 3) := by decide +kernel
theorem dX10_nearestOf_41 : decode cX10_nearestOf 41 = .ok (.istore 4, 2) := by decide +kernel
theorem dX10_nearestOf_43 : decode cX10_nearestOf 43 = .ok (.iload_n 2, 1) := by decide +kernel
theorem dX10_nearestOf_44 : decode cX10_nearestOf 44 = .ok (.bipush (-5), 2) := by decide +kernel
theorem dX10_nearestOf_46 : decode cX10_nearestOf 46 = .ok (.if_icmp .ne 8, 3) := by decide +kernel
theorem dX10_nearestOf_49 : decode cX10_nearestOf 49 = .ok (.ldc 52, 2) := by decide +kernel
theorem dX10_nearestOf_51 : decode cX10_nearestOf 51 = .ok (.goto 19, 3) := by decide +kernel
theorem dX10_nearestOf_54 : decode cX10_nearestOf 54 = .ok (.aload_n 0, 1) := by decide +kernel
theorem dX10_nearestOf_55 : decode cX10_nearestOf 55 = .ok (.aload_n 0, 1) := by decide +kernel
theorem dX10_nearestOf_56 : decode cX10_nearestOf 56 = .ok (.iload_n 2, 1) := by decide +kernel
theorem dX10_nearestOf_57 : decode cX10_nearestOf 57 = .ok (.iconst 4, 1) := by decide +kernel
theorem dX10_nearestOf_58 : decode cX10_nearestOf 58 = .ok (.invokevirtual 88, 3) := by decide +kernel
theorem dX10_nearestOf_61 : decode cX10_nearestOf 61 = .ok (.aload_n 0, 1) := by decide +kernel
theorem dX10_nearestOf_62 : decode cX10_nearestOf 62 = .ok (.iload_n 1, 1) := by decide +kernel
theorem dX10_nearestOf_63 : decode cX10_nearestOf 63 = .ok (.iconst 1, 1) := by decide +kernel
theorem dX10_nearestOf_64 : decode cX10_nearestOf 64 = .ok (.invokevirtual 72, 3) := by decide +kernel
theorem dX10_nearestOf_67 : decode cX10_nearestOf 67 = .ok (.invokevirtual 53, 3) := by decide +kernel
theorem dX10_nearestOf_70 : decode cX10_nearestOf 70 = .ok (.istore 5, 2) := by decide +kernel
theorem dX10_nearestOf_72 : decode cX10_nearestOf 72 = .ok (.iload 4, 2) := by decide +kernel
theorem dX10_nearestOf_74 : decode cX10_nearestOf 74 = .ok (.iload 5, 2) := by decide +kernel
theorem dX10_nearestOf_76 : decode cX10_nearestOf 76 = .ok (.if_icmp .lt 25, 3) := by decide +kernel
theorem dX10_nearestOf_79 : decode cX10_nearestOf 79 = .ok (.iload 4, 2) := by decide +kernel
theorem dX10_nearestOf_81 : decode cX10_nearestOf 81 = .ok (.iload 5, 2) := by decide +kernel
theorem dX10_nearestOf_83 : decode cX10_nearestOf 83 = .ok (.if_icmp .ne 22, 3) := by decide +kernel
theorem dX10_nearestOf_86 : decode cX10_nearestOf 86 = .ok (.aload_n 0, 1) := by decide +kernel
theorem dX10_nearestOf_87 : decode cX10_nearestOf 87 = .ok (.iload_n 3, 1) := by decide +kernel
theorem dX10_nearestOf_88 : decode cX10_nearestOf 88 = .ok (.iconst 1, 1) := by decide +kernel
theorem dX10_nearestOf_89 : decode cX10_nearestOf 89 = .ok (.invokevirtual 88, 3) := by decide +kernel
theorem dX10_nearestOf_92 : decode cX10_nearestOf 92 = .ok (.aload_n 0, 1) := by decide +kernel
theorem dX10_nearestOf_93 : decode cX10_nearestOf 93 = .ok (.iload_n 2, 1) := by decide +kernel
theorem dX10_nearestOf_94 : decode cX10_nearestOf 94 = .ok (.iconst 1, 1) := by decide +kernel
theorem dX10_nearestOf_95 : decode cX10_nearestOf 95 = .ok (.invokevirtual 88, 3) := by decide +kernel
theorem dX10_nearestOf_98 : decode cX10_nearestOf 98 = .ok (.if_icmp .le 7, 3) := by decide +kernel
theorem dX10_nearestOf_101 : decode cX10_nearestOf 101 = .ok (.iconst 1, 1) := by decide +kernel
theorem dX10_nearestOf_102 : decode cX10_nearestOf 102 = .ok (.goto 4, 3) := by decide +kernel
theorem dX10_nearestOf_105 : decode cX10_nearestOf 105 = .ok (.iconst 0, 1) := by decide +kernel
theorem dX10_nearestOf_106 : decode cX10_nearestOf 106 = .ok (.istore 6, 2) := by decide +kernel
theorem dX10_nearestOf_108 : decode cX10_nearestOf 108 = .ok (.iload 6, 2) := by decide +kernel
theorem dX10_nearestOf_110 : decode cX10_nearestOf 110 = .ok (.ifCond .eq 7, 3) := by decide +kernel
theorem dX10_nearestOf_113 : decode cX10_nearestOf 113 = .ok (.iload_n 3, 1) := by decide +kernel
theorem dX10_nearestOf_114 : decode cX10_nearestOf 114 = .ok (.goto 4, 3) := by decide +kernel
theorem dX10_nearestOf_117 : decode cX10_nearestOf 117 = .ok (.iload_n 2, 1) := by decide +kernel
theorem dX10_nearestOf_118 : decode cX10_nearestOf 118 = .ok (.istore_n 2, 1) := by decide +kernel
theorem dX10_nearestOf_119 : decode cX10_nearestOf 119 = .ok (.iinc 3 1, 3) := by decide +kernel
theorem dX10_nearestOf_122 : decode cX10_nearestOf 122 = .ok (.goto (-117), 3) := by decide +kernel
theorem dX10_nearestOf_125 : decode cX10_nearestOf 125 = .ok (.iload_n 2, 1) := by decide +kernel
theorem dX10_nearestOf_126 : decode cX10_nearestOf 126 = .ok (.ireturn, 1) := by decide +kernel
theorem dX10_sends_0 : decode cX10_sends 0 = .ok (.aload_n 0, 1) := by decide +kernel
theorem dX10_sends_1 : decode cX10_sends 1 = .ok (.invokevirtual 154, 3) := by decide +kernel
theorem dX10_sends_4 : decode cX10_sends 4 = .ok (.iconst 0, 1) := by decide +kernel
theorem dX10_sends_5 : decode cX10_sends 5 = .ok (.istore_n 1, 1) := by decide +kernel
theorem dX10_sends_6 : decode cX10_sends 6 = .ok (.iload_n 1, 1) := by decide +kernel
theorem dX10_sends_7 : decode cX10_sends 7 = .ok (.aload_n 0, 1) := by decide +kernel
theorem dX10_sends_8 : decode cX10_sends 8 = .ok (.getfield 141, 3) := by decide +kernel
theorem dX10_sends_11 : decode cX10_sends 11 = .ok (.if_icmp .ge 107, 3) := by decide +kernel
theorem dX10_sends_14 : decode cX10_sends 14 = .ok (.aload_n 0, 1) := by decide +kernel
theorem dX10_sends_15 : decode cX10_sends 15 = .ok (.getfield 31, 3) := by decide +kernel
theorem dX10_sends_18 : decode cX10_sends 18 = .ok (.iload_n 1, 1) := by decide +kernel
theorem dX10_sends_19 : decode cX10_sends 19 = .ok (.iaload, 1) := by decide +kernel
theorem dX10_sends_20 : decode cX10_sends 20 = .ok (.istore_n 2, 1) := by decide +kernel
theorem dX10_sends_21 : decode cX10_sends 21 = .ok (.aload_n 0, 1) := by decide +kernel
theorem dX10_sends_22 : decode cX10_sends 22 = .ok (.iload_n 2, 1) := by decide +kernel
theorem dX10_sends_23 : decode cX10_sends 23 = .ok (.invokevirtual 157, 3) := by decide +kernel
theorem dX10_sends_26 : decode cX10_sends 26 = .ok (.istore_n 3, 1) := by decide +kernel
theorem dX10_sends_27 : decode cX10_sends 27 = .ok (.iload_n 3, 1) := by decide +kernel
theorem dX10_sends_28 : decode cX10_sends 28 = .ok (.bipush (-5), 2) := by decide +kernel
theorem dX10_sends_30 : decode cX10_sends 30 = .ok (.if_icmp .eq 82, 3) := by decide +kernel
theorem dX10_sends_33 : decode cX10_sends 33 = .ok (.aload_n 0, 1) := by decide +kernel
theorem dX10_sends_34 : decode cX10_sends 34 = .ok (.aload_n 0, 1) := by decide +kernel
theorem dX10_sends_35 : decode cX10_sends 35 = .ok (.iload_n 3, 1) := by decide +kernel
theorem dX10_sends_36 : decode cX10_sends 36 = .ok (.iconst 4, 1) := by decide +kernel
theorem dX10_sends_37 : decode cX10_sends 37 = .ok (.invokevirtual 88, 3) := by decide +kernel
theorem dX10_sends_40 : decode cX10_sends 40 = .ok (.aload_n 0, 1) := by decide +kernel
theorem dX10_sends_41 : decode cX10_sends 41 = .ok (.iload_n 2, 1) := by decide +kernel
theorem dX10_sends_42 : decode cX10_sends 42 = .ok (.iconst 1, 1) := by decide +kernel
theorem dX10_sends_43 : decode cX10_sends 43 = .ok (.invokevirtual 72, 3) := by decide +kernel
theorem dX10_sends_46 : decode cX10_sends 46 = .ok (.invokevirtual 53, 3) := by decide +kernel
theorem dX10_sends_49 : decode cX10_sends 49 = .ok (.istore 4, 2) := by decide +kernel
theorem dX10_sends_51 : decode cX10_sends 51 = .ok (.aload_n 0, 1) := by decide +kernel
theorem dX10_sends_52 : decode cX10_sends 52 = .ok (.iload_n 3, 1) := by decide +kernel
theorem dX10_sends_53 : decode cX10_sends 53 = .ok (.iconst 3, 1) := by decide +kernel
theorem dX10_sends_54 : decode cX10_sends 54 = .ok (.iconst 1, 1) := by decide +kernel
theorem dX10_sends_55 : decode cX10_sends 55 = .ok (.invokevirtual 64, 3) := by decide +kernel
theorem dX10_sends_58 : decode cX10_sends 58 = .ok (.aload_n 0, 1) := by decide +kernel
theorem dX10_sends_59 : decode cX10_sends 59 = .ok (.iload_n 3, 1) := by decide +kernel
theorem dX10_sends_60 : decode cX10_sends 60 = .ok (.iconst 5, 1) := by decide +kernel
theorem dX10_sends_61 : decode cX10_sends 61 = .ok (.iload_n 2, 1) := by decide +kernel
theorem dX10_sends_62 : decode cX10_sends 62 = .ok (.invokevirtual 64, 3) := by decide +kernel
theorem dX10_sends_65 : decode cX10_sends 65 = .ok (.aload_n 0, 1) := by decide +kernel
theorem dX10_sends_66 : decode cX10_sends 66 = .ok (.iload_n 3, 1) := by decide +kernel
theorem dX10_sends_67 : decode cX10_sends 67 = .ok (.bipush 6, 2) := by decide +kernel
theorem dX10_sends_69 : decode cX10_sends 69 = .ok (.iload 4, 2) := by decide +kernel
theorem dX10_sends_71 : decode cX10_sends 71 = .ok (.invokevirtual 64, 3) := by decide +kernel
theorem dX10_sends_74 : decode cX10_sends 74 = .ok (.aload_n 0, 1) := by decide +kernel
theorem dX10_sends_75 : decode cX10_sends 75 = .ok (.iload_n 2, 1) := by decide +kernel
theorem dX10_sends_76 : decode cX10_sends 76 = .ok (.iconst 5, 1) := by decide +kernel
theorem dX10_sends_77 : decode cX10_sends 77 = .ok (.aload_n 0, 1) := by decide +kernel
theorem dX10_sends_78 : decode cX10_sends 78 = .ok (.iload_n 2, 1) := by decide +kernel
theorem dX10_sends_79 : decode cX10_sends 79 = .ok (.iconst 5, 1) := by decide +kernel
theorem dX10_sends_80 : decode cX10_sends 80 = .ok (.invokevirtual 72, 3) := by decide +kernel
theorem dX10_sends_83 : decode cX10_sends 83 = .ok (.ifCond .ne 7, 3) := by decide +kernel
theorem dX10_sends_86 : decode cX10_sends 86 = .ok (.iconst 1, 1) := by decide +kernel
theorem dX10_sends_87 : decode cX10_sends 87 = .ok (.goto 4, 3) := by decide +kernel
theorem dX10_sends_90 : decode cX10_sends 90 = .ok (.iconst 3, 1) := by decide +kernel
theorem dX10_sends_91 : decode cX10_sends 91 = .ok (.invokevirtual 82, 3) := by decide +kernel
theorem dX10_sends_94 : decode cX10_sends 94 = .ok (.aload_n 0, 1) := by decide +kernel
theorem dX10_sends_95 : decode cX10_sends 95 = .ok (.iload_n 2, 1) := by decide +kernel
theorem dX10_sends_96 : decode cX10_sends 96 = .ok (.bipush 6, 2) := by decide +kernel
theorem dX10_sends_98 : decode cX10_sends 98 = .ok (.iload_n 3, 1) := by decide +kernel
theorem dX10_sends_99 : decode cX10_sends 99 = .ok (.invokevirtual 82, 3) := by decide +kernel
theorem dX10_sends_102 : decode cX10_sends 102 = .ok (.iload 4, 2) := by decide +kernel
theorem dX10_sends_104 : decode cX10_sends 104 = .ok (.ifCond .ne 8, 3) := by decide +kernel
theorem dX10_sends_107 : decode cX10_sends 107 = .ok (.aload_n 0, 1) := by decide +kernel
theorem dX10_sends_108 : decode cX10_sends 108 = .ok (.iload_n 3, 1) := by decide +kernel
theorem dX10_sends_109 : decode cX10_sends 109 = .ok (.invokevirtual 160, 3) := by decide +kernel
theorem dX10_sends_112 : decode cX10_sends 112 = .ok (.iinc 1 1, 3) := by decide +kernel
theorem dX10_sends_115 : decode cX10_sends 115 = .ok (.goto (-109), 3) := by decide +kernel
theorem dX10_sends_118 : decode cX10_sends 118 = .ok (.return_, 1) := by decide +kernel
theorem dX10_passes_0 : decode cX10_passes 0 = .ok (.iconst 0, 1) := by decide +kernel
theorem dX10_passes_1 : decode cX10_passes 1 = .ok (.istore_n 1, 1) := by decide +kernel
theorem dX10_passes_2 : decode cX10_passes 2 = .ok (.iload_n 1, 1) := by decide +kernel
theorem dX10_passes_3 : decode cX10_passes 3 = .ok (.aload_n 0, 1) := by decide +kernel
theorem dX10_passes_4 : decode cX10_passes 4 = .ok (.getfield 7, 3) := by decide +kernel
theorem dX10_passes_7 : decode cX10_passes 7 = .ok (.bipush 7, 2) := by decide +kernel
theorem dX10_passes_9 : decode cX10_passes 9 = .ok (.iaload, 1) := by decide +kernel
theorem dX10_passes_10 : decode cX10_passes 10 = .ok (.if_icmp .ge 98, 3) := by decide +kernel
theorem dX10_passes_13 : decode cX10_passes 13 = .ok (.aload_n 0, 1) := by decide +kernel
theorem dX10_passes_14 : decode cX10_passes 14 = .ok (.iload_n 1, 1) := by decide +kernel
theorem dX10_passes_15 : decode cX10_passes 15 = .ok (.iconst 3, 1) := by decide +kernel
theorem dX10_passes_16 : decode cX10_passes 16 = .ok (.invokevirtual 88, 3) := by decide +kernel
theorem dX10_passes_19 : decode cX10_passes 19 = .ok (.istore_n 2, 1) := by decide +kernel
theorem dX10_passes_20 : decode cX10_passes 20 = .ok (.iload_n 2, 1) := by decide +kernel
theorem dX10_passes_21 : decode cX10_passes 21 = .ok (.iconst 1, 1) := by decide +kernel
theorem dX10_passes_22 : decode cX10_passes 22 = .ok (.iconst 3, 1) := by decide +kernel
theorem dX10_passes_23 : decode cX10_passes 23 = .ok (.invokestatic 48, 3) := by decide +kernel
theorem dX10_passes_26 : decode cX10_passes 26 = .ok (.ifCond .eq 76, 3) := by decide +kernel
theorem dX10_passes_29 : decode cX10_passes 29 = .ok (.aload_n 0, 1) := by decide +kernel
theorem dX10_passes_30 : decode cX10_passes 30 = .ok (.iload_n 1, 1) := by decide +kernel
theorem dX10_passes_31 : decode cX10_passes 31 = .ok (.bipush 6, 2) := by decide +kernel
theorem dX10_passes_33 : decode cX10_passes 33 = .ok (.aload_n 0, 1) := by decide +kernel
theorem dX10_passes_34 : decode cX10_passes 34 = .ok (.iload_n 1, 1) := by decide +kernel
theorem dX10_passes_35 : decode cX10_passes 35 = .ok (.bipush 6, 2) := by decide +kernel
theorem dX10_passes_37 : decode cX10_passes 37 = .ok (.invokevirtual 88, 3) := by decide +kernel
theorem dX10_passes_40 : decode cX10_passes 40 = .ok (.iconst 1, 1) := by decide +kernel
theorem dX10_passes_41 : decode cX10_passes 41 = .ok (.isub, 1) := by decide +kernel
theorem dX10_passes_42 : decode cX10_passes 42 = .ok (.invokevirtual 64, 3) := by decide +kernel
theorem dX10_passes_45 : decode cX10_passes 45 = .ok (.aload_n 0, 1) := by decide +kernel
theorem dX10_passes_46 : decode cX10_passes 46 = .ok (.iload_n 1, 1) := by decide +kernel
theorem dX10_passes_47 : decode cX10_passes 47 = .ok (.bipush 11, 2) := by decide +kernel
theorem dX10_passes_49 : decode cX10_passes 49 = .ok (.aload_n 0, 1) := by decide +kernel
theorem dX10_passes_50 : decode cX10_passes 50 = .ok (.iload_n 1, 1) := by decide +kernel
theorem dX10_passes_51 : decode cX10_passes 51 = .ok (.bipush 11, 2) := by decide +kernel
theorem dX10_passes_53 : decode cX10_passes 53 = .ok (.invokevirtual 88, 3) := by decide +kernel
theorem dX10_passes_56 : decode cX10_passes 56 = .ok (.iconst 1, 1) := by decide +kernel
theorem dX10_passes_57 : decode cX10_passes 57 = .ok (.iadd, 1) := by decide +kernel
theorem dX10_passes_58 : decode cX10_passes 58 = .ok (.invokevirtual 64, 3) := by decide +kernel
theorem dX10_passes_61 : decode cX10_passes 61 = .ok (.aload_n 0, 1) := by decide +kernel
theorem dX10_passes_62 : decode cX10_passes 62 = .ok (.iload_n 1, 1) := by decide +kernel
theorem dX10_passes_63 : decode cX10_passes 63 = .ok (.bipush 6, 2) := by decide +kernel
theorem dX10_passes_65 : decode cX10_passes 65 = .ok (.invokevirtual 88, 3) := by decide +kernel
theorem dX10_passes_68 : decode cX10_passes 68 = .ok (.ifCond .ne 34, 3) := by decide +kernel
theorem dX10_passes_71 : decode cX10_passes 71 = .ok (.iload_n 2, 1) := by decide +kernel
theorem dX10_passes_72 : decode cX10_passes 72 = .ok (.iconst 1, 1) := by decide +kernel
theorem dX10_passes_73 : decode cX10_passes 73 = .ok (.if_icmp .ne 11, 3) := by decide +kernel
theorem dX10_passes_76 : decode cX10_passes 76 = .ok (.aload_n 0, 1) := by decide +kernel
theorem dX10_passes_77 : decode cX10_passes 77 = .ok (.iload_n 1, 1) := by decide +kernel
theorem dX10_passes_78 : decode cX10_passes 78 = .ok (.invokevirtual 160, 3) := by decide +kernel
theorem dX10_passes_81 : decode cX10_passes 81 = .ok (.goto 21, 3) := by decide +kernel
theorem dX10_passes_84 : decode cX10_passes 84 = .ok (.iload_n 2, 1) := by decide +kernel
theorem dX10_passes_85 : decode cX10_passes 85 = .ok (.iconst 2, 1) := by decide +kernel
theorem dX10_passes_86 : decode cX10_passes 86 = .ok (.if_icmp .ne 11, 3) := by decide +kernel
theorem dX10_passes_89 : decode cX10_passes 89 = .ok (.aload_n 0, 1) := by decide +kernel
theorem dX10_passes_90 : decode cX10_passes 90 = .ok (.iload_n 1, 1) := by decide +kernel
theorem dX10_passes_91 : decode cX10_passes 91 = .ok (.invokevirtual 163, 3) := by decide +kernel
theorem dX10_passes_94 : decode cX10_passes 94 = .ok (.goto 8, 3) := by decide +kernel
theorem dX10_passes_97 : decode cX10_passes 97 = .ok (.aload_n 0, 1) := by decide +kernel
theorem dX10_passes_98 : decode cX10_passes 98 = .ok (.iload_n 1, 1) := by decide +kernel
theorem dX10_passes_99 : decode cX10_passes 99 = .ok (.invokevirtual 166, 3) := by decide +kernel
theorem dX10_passes_102 : decode cX10_passes 102 = .ok (.iinc 1 1, 3) := by decide +kernel
theorem dX10_passes_105 : decode cX10_passes 105 = .ok (.goto (-103), 3) := by decide +kernel
theorem dX10_passes_108 : decode cX10_passes 108 = .ok (.aload_n 0, 1) := by decide +kernel
theorem dX10_passes_109 : decode cX10_passes 109 = .ok (.invokevirtual 169, 3) := by decide +kernel
theorem dX10_passes_112 : decode cX10_passes 112 = .ok (.aload_n 0, 1) := by decide +kernel
theorem dX10_passes_113 : decode cX10_passes 113 = .ok (.getfield 7, 3) := by decide +kernel
theorem dX10_passes_116 : decode cX10_passes 116 = .ok (.iconst 0, 1) := by decide +kernel
theorem dX10_passes_117 : decode cX10_passes 117 = .ok (.dup2, 1) := by decide +kernel
theorem dX10_passes_118 : decode cX10_passes 118 = .ok (.iaload, 1) := by decide +kernel
theorem dX10_passes_119 : decode cX10_passes 119 = .ok (.iconst 1, 1) := by decide +kernel
theorem dX10_passes_120 : decode cX10_passes 120 = .ok (.iadd, 1) := by decide +kernel
theorem dX10_passes_121 : decode cX10_passes 121 = .ok (.iastore, 1) := by decide +kernel
theorem dX10_passes_122 : decode cX10_passes 122 = .ok (.return_, 1) := by decide +kernel
theorem dX10_manyIn_0 : decode cX10_manyIn 0 = .ok (.iconst 0, 1) := by decide +kernel
theorem dX10_manyIn_1 : decode cX10_manyIn 1 = .ok (.istore_n 2, 1) := by decide +kernel
theorem dX10_manyIn_2 : decode cX10_manyIn 2 = .ok (.iconst 0, 1) := by decide +kernel
theorem dX10_manyIn_3 : decode cX10_manyIn 3 = .ok (.istore_n 3, 1) := by decide +kernel
theorem dX10_manyIn_4 : decode cX10_manyIn 4 = .ok (.iload_n 3, 1) := by decide +kernel
theorem dX10_manyIn_5 : decode cX10_manyIn 5 = .ok (.aload_n 0, 1) := by decide +kernel
theorem dX10_manyIn_6 : decode cX10_manyIn 6 = .ok (.getfield 7, 3) := by decide +kernel
theorem dX10_manyIn_9 : decode cX10_manyIn 9 = .ok (.bipush 9, 2) := by decide +kernel
theorem dX10_manyIn_11 : decode cX10_manyIn 11 = .ok (.iaload, 1) := by decide +kernel
theorem dX10_manyIn_12 : decode cX10_manyIn 12 = .ok (.if_icmp .ge 27, 3) := by decide +kernel
theorem dX10_manyIn_15 : decode cX10_manyIn 15 = .ok (.iload_n 2, 1) := by decide +kernel
theorem dX10_manyIn_16 : decode cX10_manyIn 16 = .ok (.aload_n 0, 1) := by decide +kernel
theorem dX10_manyIn_17 : decode cX10_manyIn 17 = .ok (.iload_n 3, 1) := by decide +kernel
theorem dX10_manyIn_18 : decode cX10_manyIn 18 = .ok (.iconst 5, 1) := by decide +kernel
theorem dX10_manyIn_19 : decode cX10_manyIn 19 = .ok (.invokevirtual 72, 3) := by decide +kernel
theorem dX10_manyIn_22 : decode cX10_manyIn 22 = .ok (.iload_n 1, 1) := by decide +kernel
theorem dX10_manyIn_23 : decode cX10_manyIn 23 = .ok (.if_icmp .ne 7, 3) := by decide +kernel
theorem dX10_manyIn_26 : decode cX10_manyIn 26 = .ok (.iconst 1, 1) := by decide +kernel
theorem dX10_manyIn_27 : decode cX10_manyIn 27 = .ok (.goto 4, 3) := by decide +kernel
theorem dX10_manyIn_30 : decode cX10_manyIn 30 = .ok (.iconst 0, 1) := by decide +kernel
theorem dX10_manyIn_31 : decode cX10_manyIn 31 = .ok (.iadd, 1) := by decide +kernel
theorem dX10_manyIn_32 : decode cX10_manyIn 32 = .ok (.istore_n 2, 1) := by decide +kernel
theorem dX10_manyIn_33 : decode cX10_manyIn 33 = .ok (.iinc 3 1, 3) := by decide +kernel
theorem dX10_manyIn_36 : decode cX10_manyIn 36 = .ok (.goto (-32), 3) := by decide +kernel
theorem dX10_manyIn_39 : decode cX10_manyIn 39 = .ok (.iload_n 2, 1) := by decide +kernel
theorem dX10_manyIn_40 : decode cX10_manyIn 40 = .ok (.ireturn, 1) := by decide +kernel
theorem dX10_pass_0 : decode cX10_pass 0 = .ok (.iload_n 1, 1) := by decide +kernel
theorem dX10_pass_1 : decode cX10_pass 1 = .ok (.iconst 1, 1) := by decide +kernel
theorem dX10_pass_2 : decode cX10_pass 2 = .ok (.bipush 120, 2) := by decide +kernel
theorem dX10_pass_4 : decode cX10_pass 4 = .ok (.invokestatic 48, 3) := by decide +kernel
theorem dX10_pass_7 : decode cX10_pass 7 = .ok (.ifCond .ne 6, 3) := by decide +kernel
theorem dX10_pass_10 : decode cX10_pass 10 = .ok (.bipush (-2), 2) := by decide +kernel
theorem dX10_pass_12 : decode cX10_pass 12 = .ok (.ireturn, 1) := by decide +kernel
theorem dX10_pass_13 : decode cX10_pass 13 = .ok (.aload_n 0, 1) := by decide +kernel
theorem dX10_pass_14 : decode cX10_pass 14 = .ok (.getfield 7, 3) := by decide +kernel
theorem dX10_pass_17 : decode cX10_pass 17 = .ok (.iconst 0, 1) := by decide +kernel
theorem dX10_pass_18 : decode cX10_pass 18 = .ok (.iaload, 1) := by decide +kernel
theorem dX10_pass_19 : decode cX10_pass 19 = .ok (.iload_n 1, 1) := by decide +kernel
theorem dX10_pass_20 : decode cX10_pass 20 = .ok (.iadd, 1) := by decide +kernel
theorem dX10_pass_21 : decode cX10_pass 21 = .ok (.sipush 2880, 3) := by decide +kernel
theorem dX10_pass_24 : decode cX10_pass 24 = .ok (.if_icmp .le 6, 3) := by decide +kernel
theorem dX10_pass_27 : decode cX10_pass 27 = .ok (.bipush (-4), 2) := by decide +kernel
theorem dX10_pass_29 : decode cX10_pass 29 = .ok (.ireturn, 1) := by decide +kernel
theorem dX10_pass_30 : decode cX10_pass 30 = .ok (.aload_n 0, 1) := by decide +kernel
theorem dX10_pass_31 : decode cX10_pass 31 = .ok (.invokevirtual 61, 3) := by decide +kernel
theorem dX10_pass_34 : decode cX10_pass 34 = .ok (.aload_n 0, 1) := by decide +kernel
theorem dX10_pass_35 : decode cX10_pass 35 = .ok (.iconst 5, 1) := by decide +kernel
theorem dX10_pass_36 : decode cX10_pass 36 = .ok (.invokevirtual 172, 3) := by decide +kernel
theorem dX10_pass_39 : decode cX10_pass 39 = .ok (.aload_n 0, 1) := by decide +kernel
theorem dX10_pass_40 : decode cX10_pass 40 = .ok (.bipush 6, 2) := by decide +kernel
theorem dX10_pass_42 : decode cX10_pass 42 = .ok (.invokevirtual 172, 3) := by decide +kernel
theorem dX10_pass_45 : decode cX10_pass 45 = .ok (.iadd, 1) := by decide +kernel
theorem dX10_pass_46 : decode cX10_pass 46 = .ok (.istore_n 2, 1) := by decide +kernel
theorem dX10_pass_47 : decode cX10_pass 47 = .ok (.iconst 0, 1) := by decide +kernel
theorem dX10_pass_48 : decode cX10_pass 48 = .ok (.istore_n 3, 1) := by decide +kernel
theorem dX10_pass_49 : decode cX10_pass 49 = .ok (.iload_n 3, 1) := by decide +kernel
theorem dX10_pass_50 : decode cX10_pass 50 = .ok (.iload_n 1, 1) := by decide +kernel
theorem dX10_pass_51 : decode cX10_pass 51 = .ok (.if_icmp .ge 13, 3) := by decide +kernel
theorem dX10_pass_54 : decode cX10_pass 54 = .ok (.aload_n 0, 1) := by decide +kernel
theorem dX10_pass_55 : decode cX10_pass 55 = .ok (.invokevirtual 175, 3) := by decide +kernel
theorem dX10_pass_58 : decode cX10_pass 58 = .ok (.iinc 3 1, 3) := by decide +kernel
theorem dX10_pass_61 : decode cX10_pass 61 = .ok (.goto (-12), 3) := by decide +kernel
theorem dX10_pass_64 : decode cX10_pass 64 = .ok (.aload_n 0, 1) := by decide +kernel
theorem dX10_pass_65 : decode cX10_pass 65 = .ok (.iconst 5, 1) := by decide +kernel
theorem dX10_pass_66 : decode cX10_pass 66 = .ok (.invokevirtual 172, 3) := by decide +kernel
theorem dX10_pass_69 : decode cX10_pass 69 = .ok (.aload_n 0, 1) := by decide +kernel
theorem dX10_pass_70 : decode cX10_pass 70 = .ok (.bipush 6, 2) := by decide +kernel
theorem dX10_pass_72 : decode cX10_pass 72 = .ok (.invokevirtual 172, 3) := by decide +kernel
theorem dX10_pass_75 : decode cX10_pass 75 = .ok (.iadd, 1) := by decide +kernel
theorem dX10_pass_76 : decode cX10_pass 76 = .ok (.iload_n 2, 1) := by decide +kernel
theorem dX10_pass_77 : decode cX10_pass 77 = .ok (.isub, 1) := by decide +kernel
theorem dX10_pass_78 : decode cX10_pass 78 = .ok (.ireturn, 1) := by decide +kernel
theorem dX10_type_0 : decode cX10_type 0 = .ok (.aload_n 0, 1) := by decide +kernel
theorem dX10_type_1 : decode cX10_type 1 = .ok (.getfield 178, 3) := by decide +kernel
theorem dX10_type_4 : decode cX10_type 4 = .ok (.bipush 60, 2) := by decide +kernel
theorem dX10_type_6 : decode cX10_type 6 = .ok (.if_icmp .ne 6, 3) := by decide +kernel
theorem dX10_type_9 : decode cX10_type 9 = .ok (.bipush (-3), 2) := by decide +kernel
theorem dX10_type_11 : decode cX10_type 11 = .ok (.ireturn, 1) := by decide +kernel
theorem dX10_type_12 : decode cX10_type 12 = .ok (.aload_n 0, 1) := by decide +kernel
theorem dX10_type_13 : decode cX10_type 13 = .ok (.getfield 22, 3) := by decide +kernel
theorem dX10_type_16 : decode cX10_type 16 = .ok (.aload_n 0, 1) := by decide +kernel
theorem dX10_type_17 : decode cX10_type 17 = .ok (.getfield 178, 3) := by decide +kernel
theorem dX10_type_20 : decode cX10_type 20 = .ok (.iload_n 1, 1) := by decide +kernel
theorem dX10_type_21 : decode cX10_type 21 = .ok (.iastore, 1) := by decide +kernel
theorem dX10_type_22 : decode cX10_type 22 = .ok (.aload_n 0, 1) := by decide +kernel
theorem dX10_type_23 : decode cX10_type 23 = .ok (.dup, 1) := by decide +kernel
theorem dX10_type_24 : decode cX10_type 24 = .ok (.getfield 178, 3) := by decide +kernel
theorem dX10_type_27 : decode cX10_type 27 = .ok (.iconst 1, 1) := by decide +kernel
theorem dX10_type_28 : decode cX10_type 28 = .ok (.iadd, 1) := by decide +kernel
theorem dX10_type_29 : decode cX10_type 29 = .ok (.putfield 178, 3) := by decide +kernel
theorem dX10_type_32 : decode cX10_type 32 = .ok (.aload_n 0, 1) := by decide +kernel
theorem dX10_type_33 : decode cX10_type 33 = .ok (.getfield 178, 3) := by decide +kernel
theorem dX10_type_36 : decode cX10_type 36 = .ok (.ireturn, 1) := by decide +kernel
theorem dX10_clearText_0 : decode cX10_clearText 0 = .ok (.aload_n 0, 1) := by decide +kernel
theorem dX10_clearText_1 : decode cX10_clearText 1 = .ok (.getfield 178, 3) := by decide +kernel
theorem dX10_clearText_4 : decode cX10_clearText 4 = .ok (.istore_n 1, 1) := by decide +kernel
theorem dX10_clearText_5 : decode cX10_clearText 5 = .ok (.aload_n 0, 1) := by decide +kernel
theorem dX10_clearText_6 : decode cX10_clearText 6 = .ok (.iconst 0, 1) := by decide +kernel
theorem dX10_clearText_7 : decode cX10_clearText 7 = .ok (.putfield 178, 3) := by decide +kernel
theorem dX10_clearText_10 : decode cX10_clearText 10 = .ok (.iload_n 1, 1) := by decide +kernel
theorem dX10_clearText_11 : decode cX10_clearText 11 = .ok (.ireturn, 1) := by decide +kernel
theorem dX10_signAt_0 : decode cX10_signAt 0 = .ok (.iload_n 1, 1) := by decide +kernel
theorem dX10_signAt_1 : decode cX10_signAt 1 = .ok (.aload_n 0, 1) := by decide +kernel
theorem dX10_signAt_2 : decode cX10_signAt 2 = .ok (.getfield 178, 3) := by decide +kernel
theorem dX10_signAt_5 : decode cX10_signAt 5 = .ok (.if_icmp .ge 12, 3) := by decide +kernel
theorem dX10_signAt_8 : decode cX10_signAt 8 = .ok (.aload_n 0, 1) := by decide +kernel
theorem dX10_signAt_9 : decode cX10_signAt 9 = .ok (.getfield 22, 3) := by decide +kernel
theorem dX10_signAt_12 : decode cX10_signAt 12 = .ok (.iload_n 1, 1) := by decide +kernel
theorem dX10_signAt_13 : decode cX10_signAt 13 = .ok (.iaload, 1) := by decide +kernel
theorem dX10_signAt_14 : decode cX10_signAt 14 = .ok (.goto 5, 3) := by decide +kernel
theorem dX10_signAt_17 : decode cX10_signAt 17 = .ok (.bipush (-5), 2) := by decide +kernel
theorem dX10_signAt_19 : decode cX10_signAt 19 = .ok (.ireturn, 1) := by decide +kernel
theorem dX10_reads_0 : decode cX10_reads 0 = .ok (.aload_n 0, 1) := by decide +kernel
theorem dX10_reads_1 : decode cX10_reads 1 = .ok (.aload_n 0, 1) := by decide +kernel
theorem dX10_reads_2 : decode cX10_reads 2 = .ok (.getfield 181, 3) := by decide +kernel
theorem dX10_reads_5 : decode cX10_reads 5 = .ok (.invokevirtual 184, 3) := by decide +kernel
theorem dX10_reads_8 : decode cX10_reads 8 = .ok (.iload_n 1, 1) := by decide +kernel
theorem dX10_reads_9 : decode cX10_reads 9 = .ok (.if_icmp .eq 5, 3) := by decide +kernel
theorem dX10_reads_12 : decode cX10_reads 12 = .ok (.iconst 0, 1) := by decide +kernel
theorem dX10_reads_13 : decode cX10_reads 13 = .ok (.ireturn, 1) := by decide +kernel
theorem dX10_reads_14 : decode cX10_reads 14 = .ok (.aload_n 0, 1) := by decide +kernel
theorem dX10_reads_15 : decode cX10_reads 15 = .ok (.dup, 1) := by decide +kernel
theorem dX10_reads_16 : decode cX10_reads 16 = .ok (.getfield 181, 3) := by decide +kernel
theorem dX10_reads_19 : decode cX10_reads 19 = .ok (.iconst 1, 1) := by decide +kernel
theorem dX10_reads_20 : decode cX10_reads 20 = .ok (.iadd, 1) := by decide +kernel
theorem dX10_reads_21 : decode cX10_reads 21 = .ok (.putfield 181, 3) := by decide +kernel
theorem dX10_reads_24 : decode cX10_reads 24 = .ok (.aload_n 0, 1) := by decide +kernel
theorem dX10_reads_25 : decode cX10_reads 25 = .ok (.aload_n 0, 1) := by decide +kernel
theorem dX10_reads_26 : decode cX10_reads 26 = .ok (.getfield 181, 3) := by decide +kernel
theorem dX10_reads_29 : decode cX10_reads 29 = .ok (.invokevirtual 184, 3) := by decide +kernel
theorem dX10_reads_32 : decode cX10_reads 32 = .ok (.bipush 48, 2) := by decide +kernel
theorem dX10_reads_34 : decode cX10_reads 34 = .ok (.bipush 57, 2) := by decide +kernel
theorem dX10_reads_36 : decode cX10_reads 36 = .ok (.invokestatic 48, 3) := by decide +kernel
theorem dX10_reads_39 : decode cX10_reads 39 = .ok (.ifCond .ne 5, 3) := by decide +kernel
theorem dX10_reads_42 : decode cX10_reads 42 = .ok (.iconst 0, 1) := by decide +kernel
theorem dX10_reads_43 : decode cX10_reads 43 = .ok (.ireturn, 1) := by decide +kernel
theorem dX10_reads_44 : decode cX10_reads 44 = .ok (.aload_n 0, 1) := by decide +kernel
theorem dX10_reads_45 : decode cX10_reads 45 = .ok (.aload_n 0, 1) := by decide +kernel
theorem dX10_reads_46 : decode cX10_reads 46 = .ok (.getfield 181, 3) := by decide +kernel
theorem dX10_reads_49 : decode cX10_reads 49 = .ok (.invokevirtual 184, 3) := by decide +kernel
theorem dX10_reads_52 : decode cX10_reads 52 = .ok (.bipush 48, 2) := by decide +kernel
theorem dX10_reads_54 : decode cX10_reads 54 = .ok (.isub, 1) := by decide +kernel
theorem dX10_reads_55 : decode cX10_reads 55 = .ok (.istore_n 3, 1) := by decide +kernel
theorem dX10_reads_56 : decode cX10_reads 56 = .ok (.aload_n 0, 1) := by decide +kernel
theorem dX10_reads_57 : decode cX10_reads 57 = .ok (.dup, 1) := by decide +kernel
theorem dX10_reads_58 : decode cX10_reads 58 = .ok (.getfield 181, 3) := by decide +kernel
theorem dX10_reads_61 : decode cX10_reads 61 = .ok (.iconst 1, 1) := by decide +kernel
theorem dX10_reads_62 : decode cX10_reads 62 = .ok (.iadd, 1) := by decide +kernel
theorem dX10_reads_63 : decode cX10_reads 63 = .ok (.putfield 181, 3) := by decide +kernel
theorem dX10_reads_66 : decode cX10_reads 66 = .ok (.iload_n 3, 1) := by decide +kernel
theorem dX10_reads_67 : decode cX10_reads 67 = .ok (.ifCond .le 48, 3) := by decide +kernel
theorem dX10_reads_70 : decode cX10_reads 70 = .ok (.aload_n 0, 1) := by decide +kernel
theorem dX10_reads_71 : decode cX10_reads 71 = .ok (.aload_n 0, 1) := by decide +kernel
theorem dX10_reads_72 : decode cX10_reads 72 = .ok (.getfield 181, 3) := by decide +kernel
theorem dX10_reads_75 : decode cX10_reads 75 = .ok (.invokevirtual 184, 3) := by decide +kernel
theorem dX10_reads_78 : decode cX10_reads 78 = .ok (.bipush 48, 2) := by decide +kernel
theorem dX10_reads_80 : decode cX10_reads 80 = .ok (.bipush 57, 2) := by decide +kernel
theorem dX10_reads_82 : decode cX10_reads 82 = .ok (.invokestatic 48, 3) := by decide +kernel
theorem dX10_reads_85 : decode cX10_reads 85 = .ok (.ifCond .eq 30, 3) := by decide +kernel
theorem dX10_reads_88 : decode cX10_reads 88 = .ok (.bipush 10, 2) := by decide +kernel
theorem dX10_reads_90 : decode cX10_reads 90 = .ok (.iload_n 3, 1) := by decide +kernel
theorem dX10_reads_91 : decode cX10_reads 91 = .ok (.imul, 1) := by decide +kernel
theorem dX10_reads_92 : decode cX10_reads 92 = .ok (.aload_n 0, 1) := by decide +kernel
theorem dX10_reads_93 : decode cX10_reads 93 = .ok (.aload_n 0, 1) := by decide +kernel
theorem dX10_reads_94 : decode cX10_reads 94 = .ok (.getfield 181, 3) := by decide +kernel
theorem dX10_reads_97 : decode cX10_reads 97 = .ok (.invokevirtual 184, 3) := by decide +kernel
theorem dX10_reads_100 : decode cX10_reads 100 = .ok (.iadd, 1) := by decide +kernel
theorem dX10_reads_101 : decode cX10_reads 101 = .ok (.bipush 48, 2) := by decide +kernel
theorem dX10_reads_103 : decode cX10_reads 103 = .ok (.isub, 1) := by decide +kernel
theorem dX10_reads_104 : decode cX10_reads 104 = .ok (.istore_n 3, 1) := by decide +kernel
theorem dX10_reads_105 : decode cX10_reads 105 = .ok (.aload_n 0, 1) := by decide +kernel
theorem dX10_reads_106 : decode cX10_reads 106 = .ok (.dup, 1) := by decide +kernel
theorem dX10_reads_107 : decode cX10_reads 107 = .ok (.getfield 181, 3) := by decide +kernel
theorem dX10_reads_110 : decode cX10_reads 110 = .ok (.iconst 1, 1) := by decide +kernel
theorem dX10_reads_111 : decode cX10_reads 111 = .ok (.iadd, 1) := by decide +kernel
theorem dX10_reads_112 : decode cX10_reads 112 = .ok (.putfield 181, 3) := by decide +kernel
theorem dX10_reads_115 : decode cX10_reads 115 = .ok (.aload_n 0, 1) := by decide +kernel
theorem dX10_reads_116 : decode cX10_reads 116 = .ok (.getfield 34, 3) := by decide +kernel
theorem dX10_reads_119 : decode cX10_reads 119 = .ok (.iload_n 2, 1) := by decide +kernel
theorem dX10_reads_120 : decode cX10_reads 120 = .ok (.iload_n 3, 1) := by decide +kernel
theorem dX10_reads_121 : decode cX10_reads 121 = .ok (.iastore, 1) := by decide +kernel
theorem dX10_reads_122 : decode cX10_reads 122 = .ok (.iconst 1, 1) := by decide +kernel
theorem dX10_reads_123 : decode cX10_reads 123 = .ok (.ireturn, 1) := by decide +kernel
theorem dX10_faultOf_0 : decode cX10_faultOf 0 = .ok (.aload_n 0, 1) := by decide +kernel
theorem dX10_faultOf_1 : decode cX10_faultOf 1 = .ok (.iconst 0, 1) := by decide +kernel
theorem dX10_faultOf_2 : decode cX10_faultOf 2 = .ok (.putfield 181, 3) := by decide +kernel
theorem dX10_faultOf_5 : decode cX10_faultOf 5 = .ok (.aload_n 0, 1) := by decide +kernel
theorem dX10_faultOf_6 : decode cX10_faultOf 6 = .ok (.iconst 0, 1) := by decide +kernel
theorem dX10_faultOf_7 : decode cX10_faultOf 7 = .ok (.putfield 187, 3) := by decide +kernel
theorem dX10_faultOf_10 : decode cX10_faultOf 10 = .ok (.iconst 1, 1) := by decide +kernel
theorem dX10_faultOf_11 : decode cX10_faultOf 11 = .ok (.istore_n 1, 1) := by decide +kernel
theorem dX10_faultOf_12 : decode cX10_faultOf 12 = .ok (.iload_n 1, 1) := by decide +kernel
theorem dX10_faultOf_13 : decode cX10_faultOf 13 = .ok (.ifCond .eq 127, 3) := by decide +kernel
theorem dX10_faultOf_16 : decode cX10_faultOf 16 = .ok (.aload_n 0, 1) := by decide +kernel
theorem dX10_faultOf_17 : decode cX10_faultOf 17 = .ok (.bipush 109, 2) := by decide +kernel
theorem dX10_faultOf_19 : decode cX10_faultOf 19 = .ok (.iconst 3, 1) := by decide +kernel
theorem dX10_faultOf_20 : decode cX10_faultOf 20 = .ok (.aload_n 0, 1) := by decide +kernel
theorem dX10_faultOf_21 : decode cX10_faultOf 21 = .ok (.getfield 187, 3) := by decide +kernel
theorem dX10_faultOf_24 : decode cX10_faultOf 24 = .ok (.imul, 1) := by decide +kernel
theorem dX10_faultOf_25 : decode cX10_faultOf 25 = .ok (.invokevirtual 190, 3) := by decide +kernel
theorem dX10_faultOf_28 : decode cX10_faultOf 28 = .ok (.ifCond .eq 37, 3) := by decide +kernel
theorem dX10_faultOf_31 : decode cX10_faultOf 31 = .ok (.aload_n 0, 1) := by decide +kernel
theorem dX10_faultOf_32 : decode cX10_faultOf 32 = .ok (.bipush 64, 2) := by decide +kernel
theorem dX10_faultOf_34 : decode cX10_faultOf 34 = .ok (.iconst 3, 1) := by decide +kernel
theorem dX10_faultOf_35 : decode cX10_faultOf 35 = .ok (.aload_n 0, 1) := by decide +kernel
theorem dX10_faultOf_36 : decode cX10_faultOf 36 = .ok (.getfield 187, 3) := by decide +kernel
theorem dX10_faultOf_39 : decode cX10_faultOf 39 = .ok (.imul, 1) := by decide +kernel
theorem dX10_faultOf_40 : decode cX10_faultOf 40 = .ok (.iconst 1, 1) := by decide +kernel
theorem dX10_faultOf_41 : decode cX10_faultOf 41 = .ok (.iadd, 1) := by decide +kernel
theorem dX10_faultOf_42 : decode cX10_faultOf 42 = .ok (.invokevirtual 190, 3) := by decide +kernel
theorem dX10_faultOf_45 : decode cX10_faultOf 45 = .ok (.ifCond .eq 20, 3) := by decide +kernel
theorem dX10_faultOf_48 : decode cX10_faultOf 48 = .ok (.aload_n 0, 1) := by decide +kernel
theorem dX10_faultOf_49 : decode cX10_faultOf 49 = .ok (.bipush 33, 2) := by decide +kernel
theorem dX10_faultOf_51 : decode cX10_faultOf 51 = .ok (.iconst 3, 1) := by decide +kernel
theorem dX10_faultOf_52 : decode cX10_faultOf 52 = .ok (.aload_n 0, 1) := by decide +kernel
theorem dX10_faultOf_53 : decode cX10_faultOf 53 = .ok (.getfield 187, 3) := by decide +kernel
theorem dX10_faultOf_56 : decode cX10_faultOf 56 = .ok (.imul, 1) := by decide +kernel
theorem dX10_faultOf_57 : decode cX10_faultOf 57 = .ok (.iconst 2, 1) := by decide +kernel
theorem dX10_faultOf_58 : decode cX10_faultOf 58 = .ok (.iadd, 1) := by decide +kernel
theorem dX10_faultOf_59 : decode cX10_faultOf 59 = .ok (.invokevirtual 190, 3) := by decide +kernel
theorem dX10_faultOf_62 : decode cX10_faultOf 62 = .ok (.ifCond .ne 8, 3) := by decide +kernel
theorem dX10_faultOf_65 : decode cX10_faultOf 65 = .ok (.aload_n 0, 1) := by decide +kernel
theorem dX10_faultOf_66 : decode cX10_faultOf 66 = .ok (.getfield 181, 3) := by decide +kernel
theorem dX10_faultOf_69 : decode cX10_faultOf 69 = .ok (.ireturn, 1) := by decide +kernel
theorem dX10_faultOf_70 : decode cX10_faultOf 70 = .ok (.aload_n 0, 1) := by decide +kernel
theorem dX10_faultOf_71 : decode cX10_faultOf 71 = .ok (.dup, 1) := by decide +kernel
theorem dX10_faultOf_72 : decode cX10_faultOf 72 = .ok (.getfield 187, 3) := by decide +kernel
theorem dX10_faultOf_75 : decode cX10_faultOf 75 = .ok (.iconst 1, 1) := by decide +kernel
theorem dX10_faultOf_76 : decode cX10_faultOf 76 = .ok (.iadd, 1) := by decide +kernel
theorem dX10_faultOf_77 : decode cX10_faultOf 77 = .ok (.putfield 187, 3) := by decide +kernel
theorem dX10_faultOf_80 : decode cX10_faultOf 80 = .ok (.aload_n 0, 1) := by decide +kernel
theorem dX10_faultOf_81 : decode cX10_faultOf 81 = .ok (.getfield 181, 3) := by decide +kernel
theorem dX10_faultOf_84 : decode cX10_faultOf 84 = .ok (.aload_n 0, 1) := by decide +kernel
theorem dX10_faultOf_85 : decode cX10_faultOf 85 = .ok (.getfield 178, 3) := by decide +kernel
theorem dX10_faultOf_88 : decode cX10_faultOf 88 = .ok (.if_icmp .ge 7, 3) := by decide +kernel
theorem dX10_faultOf_91 : decode cX10_faultOf 91 = .ok (.iconst 1, 1) := by decide +kernel
theorem dX10_faultOf_92 : decode cX10_faultOf 92 = .ok (.goto 4, 3) := by decide +kernel
theorem dX10_faultOf_95 : decode cX10_faultOf 95 = .ok (.iconst 0, 1) := by decide +kernel
theorem dX10_faultOf_96 : decode cX10_faultOf 96 = .ok (.istore_n 1, 1) := by decide +kernel
theorem dX10_faultOf_97 : decode cX10_faultOf 97 = .ok (.iload_n 1, 1) := by decide +kernel
theorem dX10_faultOf_98 : decode cX10_faultOf 98 = .ok (.ifCond .eq 21, 3) := by decide +kernel
theorem dX10_faultOf_101 : decode cX10_faultOf 101 = .ok (.aload_n 0, 1) := by decide +kernel
theorem dX10_faultOf_102 : decode cX10_faultOf 102 = .ok (.aload_n 0, 1) := by decide +kernel
theorem dX10_faultOf_103 : decode cX10_faultOf 103 = .ok (.getfield 181, 3) := by decide +kernel
theorem dX10_faultOf_106 : decode cX10_faultOf 106 = .ok (.invokevirtual 184, 3) := by decide +kernel
theorem dX10_faultOf_109 : decode cX10_faultOf 109 = .ok (.bipush 59, 2) := by decide +kernel
theorem dX10_faultOf_111 : decode cX10_faultOf 111 = .ok (.if_icmp .eq 8, 3) := by decide +kernel
theorem dX10_faultOf_114 : decode cX10_faultOf 114 = .ok (.aload_n 0, 1) := by decide +kernel
theorem dX10_faultOf_115 : decode cX10_faultOf 115 = .ok (.getfield 181, 3) := by decide +kernel
theorem dX10_faultOf_118 : decode cX10_faultOf 118 = .ok (.ireturn, 1) := by decide +kernel
theorem dX10_faultOf_119 : decode cX10_faultOf 119 = .ok (.aload_n 0, 1) := by decide +kernel
theorem dX10_faultOf_120 : decode cX10_faultOf 120 = .ok (.dup, 1) := by decide +kernel
theorem dX10_faultOf_121 : decode cX10_faultOf 121 = .ok (.getfield 181, 3) := by decide +kernel
theorem dX10_faultOf_124 : decode cX10_faultOf 124 = .ok (.iload_n 1, 1) := by decide +kernel
theorem dX10_faultOf_125 : decode cX10_faultOf 125 = .ok (.ifCond .eq 7, 3) := by decide +kernel
theorem dX10_faultOf_128 : decode cX10_faultOf 128 = .ok (.iconst 1, 1) := by decide +kernel
theorem dX10_faultOf_129 : decode cX10_faultOf 129 = .ok (.goto 4, 3) := by decide +kernel
theorem dX10_faultOf_132 : decode cX10_faultOf 132 = .ok (.iconst 0, 1) := by decide +kernel
theorem dX10_faultOf_133 : decode cX10_faultOf 133 = .ok (.iadd, 1) := by decide +kernel
theorem dX10_faultOf_134 : decode cX10_faultOf 134 = .ok (.putfield 181, 3) := by decide +kernel
theorem dX10_faultOf_137 : decode cX10_faultOf 137 = .ok (.goto (-125), 3) := by decide +kernel
theorem dX10_faultOf_140 : decode cX10_faultOf 140 = .ok (.bipush (-5), 2) := by decide +kernel
theorem dX10_faultOf_142 : decode cX10_faultOf 142 = .ok (.ireturn, 1) := by decide +kernel
theorem dX10_readCalls_0 : decode cX10_readCalls 0 = .ok (.aload_n 0, 1) := by decide +kernel
theorem dX10_readCalls_1 : decode cX10_readCalls 1 = .ok (.invokevirtual 193, 3) := by decide +kernel
theorem dX10_readCalls_4 : decode cX10_readCalls 4 = .ok (.istore_n 1, 1) := by decide +kernel
theorem dX10_readCalls_5 : decode cX10_readCalls 5 = .ok (.iload_n 1, 1) := by decide +kernel
theorem dX10_readCalls_6 : decode cX10_readCalls 6 = .ok (.bipush (-5), 2) := by decide +kernel
theorem dX10_readCalls_8 : decode cX10_readCalls 8 = .ok (.if_icmp .eq 8, 3) := by decide +kernel
theorem dX10_readCalls_11 : decode cX10_readCalls 11 = .ok (.bipush (-100), 2) := by decide +kernel
theorem dX10_readCalls_13 : decode cX10_readCalls 13 = .ok (.iload_n 1, 1) := by decide +kernel
theorem dX10_readCalls_14 : decode cX10_readCalls 14 = .ok (.isub, 1) := by decide +kernel
theorem dX10_readCalls_15 : decode cX10_readCalls 15 = .ok (.ireturn, 1) := by decide +kernel
theorem dX10_readCalls_16 : decode cX10_readCalls 16 = .ok (.aload_n 0, 1) := by decide +kernel
theorem dX10_readCalls_17 : decode cX10_readCalls 17 = .ok (.getfield 7, 3) := by decide +kernel
theorem dX10_readCalls_20 : decode cX10_readCalls 20 = .ok (.iconst 0, 1) := by decide +kernel
theorem dX10_readCalls_21 : decode cX10_readCalls 21 = .ok (.aload_n 0, 1) := by decide +kernel
theorem dX10_readCalls_22 : decode cX10_readCalls 22 = .ok (.getfield 19, 3) := by decide +kernel
theorem dX10_readCalls_25 : decode cX10_readCalls 25 = .ok (.iconst 0, 1) := by decide +kernel
theorem dX10_readCalls_26 : decode cX10_readCalls 26 = .ok (.invokestatic 44, 3) := by decide +kernel
theorem dX10_readCalls_29 : decode cX10_readCalls 29 = .ok (.iconst 0, 1) := by decide +kernel
theorem dX10_readCalls_30 : decode cX10_readCalls 30 = .ok (.istore_n 2, 1) := by decide +kernel
theorem dX10_readCalls_31 : decode cX10_readCalls 31 = .ok (.iload_n 2, 1) := by decide +kernel
theorem dX10_readCalls_32 : decode cX10_readCalls 32 = .ok (.aload_n 0, 1) := by decide +kernel
theorem dX10_readCalls_33 : decode cX10_readCalls 33 = .ok (.getfield 187, 3) := by decide +kernel
theorem dX10_readCalls_36 : decode cX10_readCalls 36 = .ok (.if_icmp .ge 93, 3) := by decide +kernel
theorem dX10_readCalls_39 : decode cX10_readCalls 39 = .ok (.aload_n 0, 1) := by decide +kernel
theorem dX10_readCalls_40 : decode cX10_readCalls 40 = .ok (.aload_n 0, 1) := by decide +kernel
theorem dX10_readCalls_41 : decode cX10_readCalls 41 = .ok (.getfield 34, 3) := by decide +kernel
theorem dX10_readCalls_44 : decode cX10_readCalls 44 = .ok (.iconst 3, 1) := by decide +kernel
theorem dX10_readCalls_45 : decode cX10_readCalls 45 = .ok (.iload_n 2, 1) := by decide +kernel
theorem dX10_readCalls_46 : decode cX10_readCalls 46 = .ok (.imul, 1) := by decide +kernel
theorem dX10_readCalls_47 : decode cX10_readCalls 47 = .ok (.iaload, 1) := by decide +kernel
theorem dX10_readCalls_48 : decode cX10_readCalls 48 = .ok (.aload_n 0, 1) := by decide +kernel
theorem dX10_readCalls_49 : decode cX10_readCalls 49 = .ok (.getfield 34, 3) := by decide +kernel
theorem dX10_readCalls_52 : decode cX10_readCalls 52 = .ok (.iconst 3, 1) := by decide +kernel
theorem dX10_readCalls_53 : decode cX10_readCalls 53 = .ok (.iload_n 2, 1) := by decide +kernel
theorem dX10_readCalls_54 : decode cX10_readCalls 54 = .ok (.imul, 1) := by decide +kernel
theorem dX10_readCalls_55 : decode cX10_readCalls 55 = .ok (.iconst 1, 1) := by decide +kernel
theorem dX10_readCalls_56 : decode cX10_readCalls 56 = .ok (.iadd, 1) := by decide +kernel
theorem dX10_readCalls_57 : decode cX10_readCalls 57 = .ok (.iaload, 1) := by decide +kernel
theorem dX10_readCalls_58 : decode cX10_readCalls 58 = .ok (.aload_n 0, 1) := by decide +kernel
theorem dX10_readCalls_59 : decode cX10_readCalls 59 = .ok (.getfield 34, 3) := by decide +kernel
theorem dX10_readCalls_62 : decode cX10_readCalls 62 = .ok (.iconst 3, 1) := by decide +kernel
theorem dX10_readCalls_63 : decode cX10_readCalls 63 = .ok (.iload_n 2, 1) := by decide +kernel
theorem dX10_readCalls_64 : decode cX10_readCalls 64 = .ok (.imul, 1) := by decide +kernel
theorem dX10_readCalls_65 : decode cX10_readCalls 65 = .ok (.iconst 2, 1) := by decide +kernel
theorem dX10_readCalls_66 : decode cX10_readCalls 66 = .ok (.iadd, 1) := by decide +kernel
theorem dX10_readCalls_67 : decode cX10_readCalls 67 = .ok (.iaload, 1) := by decide +kernel
theorem dX10_readCalls_68 : decode cX10_readCalls 68 = .ok (.invokevirtual 94, 3) := by decide +kernel
theorem dX10_readCalls_71 : decode cX10_readCalls 71 = .ok (.istore_n 3, 1) := by decide +kernel
theorem dX10_readCalls_72 : decode cX10_readCalls 72 = .ok (.iload_n 3, 1) := by decide +kernel
theorem dX10_readCalls_73 : decode cX10_readCalls 73 = .ok (.ifCond .eq 18, 3) := by decide +kernel
theorem dX10_readCalls_76 : decode cX10_readCalls 76 = .ok (.aload_n 0, 1) := by decide +kernel
theorem dX10_readCalls_77 : decode cX10_readCalls 77 = .ok (.getfield 19, 3) := by decide +kernel
theorem dX10_readCalls_80 : decode cX10_readCalls 80 = .ok (.iconst 0, 1) := by decide +kernel
theorem dX10_readCalls_81 : decode cX10_readCalls 81 = .ok (.aload_n 0, 1) := by decide +kernel
theorem dX10_readCalls_82 : decode cX10_readCalls 82 = .ok (.getfield 7, 3) := by decide +kernel
theorem dX10_readCalls_85 : decode cX10_readCalls 85 = .ok (.iconst 0, 1) := by decide +kernel
theorem dX10_readCalls_86 : decode cX10_readCalls 86 = .ok (.invokestatic 44, 3) := by decide +kernel
theorem dX10_readCalls_89 : decode cX10_readCalls 89 = .ok (.iload_n 3, 1) := by decide +kernel
theorem dX10_readCalls_90 : decode cX10_readCalls 90 = .ok (.ireturn, 1) := by decide +kernel
theorem dX10_readCalls_91 : decode cX10_readCalls 91 = .ok (.aload_n 0, 1) := by decide +kernel
theorem dX10_readCalls_92 : decode cX10_readCalls 92 = .ok (.aload_n 0, 1) := by decide +kernel
theorem dX10_readCalls_93 : decode cX10_readCalls 93 = .ok (.getfield 34, 3) := by decide +kernel
theorem dX10_readCalls_96 : decode cX10_readCalls 96 = .ok (.iconst 3, 1) := by decide +kernel
theorem dX10_readCalls_97 : decode cX10_readCalls 97 = .ok (.iload_n 2, 1) := by decide +kernel
theorem dX10_readCalls_98 : decode cX10_readCalls 98 = .ok (.imul, 1) := by decide +kernel
theorem dX10_readCalls_99 : decode cX10_readCalls 99 = .ok (.iaload, 1) := by decide +kernel
theorem dX10_readCalls_100 : decode cX10_readCalls 100 = .ok (.aload_n 0, 1) := by decide +kernel
theorem dX10_readCalls_101 : decode cX10_readCalls 101 = .ok (.getfield 34, 3) := by decide +kernel
theorem dX10_readCalls_104 : decode cX10_readCalls 104 = .ok (.iconst 3, 1) := by decide +kernel
theorem dX10_readCalls_105 : decode cX10_readCalls 105 = .ok (.iload_n 2, 1) := by decide +kernel
theorem dX10_readCalls_106 : decode cX10_readCalls 106 = .ok (.imul, 1) := by decide +kernel
theorem dX10_readCalls_107 : decode cX10_readCalls 107 = .ok (.iconst 1, 1) := by decide +kernel
theorem dX10_readCalls_108 : decode cX10_readCalls 108 = .ok (.iadd, 1) := by decide +kernel
theorem dX10_readCalls_109 : decode cX10_readCalls 109 = .ok (.iaload, 1) := by decide +kernel
theorem dX10_readCalls_110 : decode cX10_readCalls 110 = .ok (.aload_n 0, 1) := by decide +kernel
theorem dX10_readCalls_111 : decode cX10_readCalls 111 = .ok (.getfield 34, 3) := by decide +kernel
theorem dX10_readCalls_114 : decode cX10_readCalls 114 = .ok (.iconst 3, 1) := by decide +kernel
theorem dX10_readCalls_115 : decode cX10_readCalls 115 = .ok (.iload_n 2, 1) := by decide +kernel
theorem dX10_readCalls_116 : decode cX10_readCalls 116 = .ok (.imul, 1) := by decide +kernel
theorem dX10_readCalls_117 : decode cX10_readCalls 117 = .ok (.iconst 2, 1) := by decide +kernel
theorem dX10_readCalls_118 : decode cX10_readCalls 118 = .ok (.iadd, 1) := by decide +kernel
theorem dX10_readCalls_119 : decode cX10_readCalls 119 = .ok (.iaload, 1) := by decide +kernel
theorem dX10_readCalls_120 : decode cX10_readCalls 120 = .ok (.invokevirtual 98, 3) := by decide +kernel
theorem dX10_readCalls_123 : decode cX10_readCalls 123 = .ok (.iinc 2 1, 3) := by decide +kernel
theorem dX10_readCalls_126 : decode cX10_readCalls 126 = .ok (.goto (-95), 3) := by decide +kernel
theorem dX10_readCalls_129 : decode cX10_readCalls 129 = .ok (.aload_n 0, 1) := by decide +kernel
theorem dX10_readCalls_130 : decode cX10_readCalls 130 = .ok (.getfield 19, 3) := by decide +kernel
theorem dX10_readCalls_133 : decode cX10_readCalls 133 = .ok (.iconst 0, 1) := by decide +kernel
theorem dX10_readCalls_134 : decode cX10_readCalls 134 = .ok (.aload_n 0, 1) := by decide +kernel
theorem dX10_readCalls_135 : decode cX10_readCalls 135 = .ok (.getfield 7, 3) := by decide +kernel
theorem dX10_readCalls_138 : decode cX10_readCalls 138 = .ok (.iconst 0, 1) := by decide +kernel
theorem dX10_readCalls_139 : decode cX10_readCalls 139 = .ok (.invokestatic 44, 3) := by decide +kernel
theorem dX10_readCalls_142 : decode cX10_readCalls 142 = .ok (.aload_n 0, 1) := by decide +kernel
theorem dX10_readCalls_143 : decode cX10_readCalls 143 = .ok (.invokevirtual 61, 3) := by decide +kernel
theorem dX10_readCalls_146 : decode cX10_readCalls 146 = .ok (.iconst 0, 1) := by decide +kernel
theorem dX10_readCalls_147 : decode cX10_readCalls 147 = .ok (.istore_n 2, 1) := by decide +kernel
theorem dX10_readCalls_148 : decode cX10_readCalls 148 = .ok (.iload_n 2, 1) := by decide +kernel
theorem dX10_readCalls_149 : decode cX10_readCalls 149 = .ok (.aload_n 0, 1) := by decide +kernel
theorem dX10_readCalls_150 : decode cX10_readCalls 150 = .ok (.getfield 187, 3) := by decide +kernel
theorem dX10_readCalls_153 : decode cX10_readCalls 153 = .ok (.if_icmp .ge 41, 3) := by decide +kernel
theorem dX10_readCalls_156 : decode cX10_readCalls 156 = .ok (.aload_n 0, 1) := by decide +kernel
theorem dX10_readCalls_157 : decode cX10_readCalls 157 = .ok (.aload_n 0, 1) := by decide +kernel
theorem dX10_readCalls_158 : decode cX10_readCalls 158 = .ok (.getfield 34, 3) := by decide +kernel
theorem dX10_readCalls_161 : decode cX10_readCalls 161 = .ok (.iconst 3, 1) := by decide +kernel
theorem dX10_readCalls_162 : decode cX10_readCalls 162 = .ok (.iload_n 2, 1) := by decide +kernel
theorem dX10_readCalls_163 : decode cX10_readCalls 163 = .ok (.imul, 1) := by decide +kernel
theorem dX10_readCalls_164 : decode cX10_readCalls 164 = .ok (.iaload, 1) := by decide +kernel
theorem dX10_readCalls_165 : decode cX10_readCalls 165 = .ok (.aload_n 0, 1) := by decide +kernel
theorem dX10_readCalls_166 : decode cX10_readCalls 166 = .ok (.getfield 34, 3) := by decide +kernel
theorem dX10_readCalls_169 : decode cX10_readCalls 169 = .ok (.iconst 3, 1) := by decide +kernel
theorem dX10_readCalls_170 : decode cX10_readCalls 170 = .ok (.iload_n 2, 1) := by decide +kernel
theorem dX10_readCalls_171 : decode cX10_readCalls 171 = .ok (.imul, 1) := by decide +kernel
theorem dX10_readCalls_172 : decode cX10_readCalls 172 = .ok (.iconst 1, 1) := by decide +kernel
theorem dX10_readCalls_173 : decode cX10_readCalls 173 = .ok (.iadd, 1) := by decide +kernel
theorem dX10_readCalls_174 : decode cX10_readCalls 174 = .ok (.iaload, 1) := by decide +kernel
theorem dX10_readCalls_175 : decode cX10_readCalls 175 = .ok (.aload_n 0, 1) := by decide +kernel
theorem dX10_readCalls_176 : decode cX10_readCalls 176 = .ok (.getfield 34, 3) := by decide +kernel
theorem dX10_readCalls_179 : decode cX10_readCalls 179 = .ok (.iconst 3, 1) := by decide +kernel
theorem dX10_readCalls_180 : decode cX10_readCalls 180 = .ok (.iload_n 2, 1) := by decide +kernel
theorem dX10_readCalls_181 : decode cX10_readCalls 181 = .ok (.imul, 1) := by decide +kernel
theorem dX10_readCalls_182 : decode cX10_readCalls 182 = .ok (.iconst 2, 1) := by decide +kernel
theorem dX10_readCalls_183 : decode cX10_readCalls 183 = .ok (.iadd, 1) := by decide +kernel
theorem dX10_readCalls_184 : decode cX10_readCalls 184 = .ok (.iaload, 1) := by decide +kernel
theorem dX10_readCalls_185 : decode cX10_readCalls 185 = .ok (.invokevirtual 98, 3) := by decide +kernel
theorem dX10_readCalls_188 : decode cX10_readCalls 188 = .ok (.iinc 2 1, 3) := by decide +kernel
theorem dX10_readCalls_191 : decode cX10_readCalls 191 = .ok (.goto (-43), 3) := by decide +kernel
theorem dX10_readCalls_194 : decode cX10_readCalls 194 = .ok (.aload_n 0, 1) := by decide +kernel
theorem dX10_readCalls_195 : decode cX10_readCalls 195 = .ok (.getfield 187, 3) := by decide +kernel
theorem dX10_readCalls_198 : decode cX10_readCalls 198 = .ok (.ireturn, 1) := by decide +kernel
theorem dX10_undo_0 : decode cX10_undo 0 = .ok (.aload_n 0, 1) := by decide +kernel
theorem dX10_undo_1 : decode cX10_undo 1 = .ok (.getfield 40, 3) := by decide +kernel
theorem dX10_undo_4 : decode cX10_undo 4 = .ok (.ifCond .ne 6, 3) := by decide +kernel
theorem dX10_undo_7 : decode cX10_undo 7 = .ok (.bipush (-5), 2) := by decide +kernel
theorem dX10_undo_9 : decode cX10_undo 9 = .ok (.ireturn, 1) := by decide +kernel
theorem dX10_undo_10 : decode cX10_undo 10 = .ok (.aload_n 0, 1) := by decide +kernel
theorem dX10_undo_11 : decode cX10_undo 11 = .ok (.dup, 1) := by decide +kernel
theorem dX10_undo_12 : decode cX10_undo 12 = .ok (.getfield 40, 3) := by decide +kernel
theorem dX10_undo_15 : decode cX10_undo 15 = .ok (.iconst 1, 1) := by decide +kernel
theorem dX10_undo_16 : decode cX10_undo 16 = .ok (.isub, 1) := by decide +kernel
theorem dX10_undo_17 : decode cX10_undo 17 = .ok (.putfield 40, 3) := by decide +kernel
theorem dX10_undo_20 : decode cX10_undo 20 = .ok (.aload_n 0, 1) := by decide +kernel
theorem dX10_undo_21 : decode cX10_undo 21 = .ok (.getfield 13, 3) := by decide +kernel
theorem dX10_undo_24 : decode cX10_undo 24 = .ok (.aload_n 0, 1) := by decide +kernel
theorem dX10_undo_25 : decode cX10_undo 25 = .ok (.getfield 40, 3) := by decide +kernel
theorem dX10_undo_28 : decode cX10_undo 28 = .ok (.sipush 810, 3) := by decide +kernel
theorem dX10_undo_31 : decode cX10_undo 31 = .ok (.imul, 1) := by decide +kernel
theorem dX10_undo_32 : decode cX10_undo 32 = .ok (.aload_n 0, 1) := by decide +kernel
theorem dX10_undo_33 : decode cX10_undo 33 = .ok (.getfield 7, 3) := by decide +kernel
theorem dX10_undo_36 : decode cX10_undo 36 = .ok (.iconst 0, 1) := by decide +kernel
theorem dX10_undo_37 : decode cX10_undo 37 = .ok (.invokestatic 44, 3) := by decide +kernel
theorem dX10_undo_40 : decode cX10_undo 40 = .ok (.aload_n 0, 1) := by decide +kernel
theorem dX10_undo_41 : decode cX10_undo 41 = .ok (.invokevirtual 37, 3) := by decide +kernel
theorem dX10_undo_44 : decode cX10_undo 44 = .ok (.aload_n 0, 1) := by decide +kernel
theorem dX10_undo_45 : decode cX10_undo 45 = .ok (.getfield 40, 3) := by decide +kernel
theorem dX10_undo_48 : decode cX10_undo 48 = .ok (.ireturn, 1) := by decide +kernel
theorem dX10_keep_0 : decode cX10_keep 0 = .ok (.aload_n 0, 1) := by decide +kernel
theorem dX10_keep_1 : decode cX10_keep 1 = .ok (.getfield 7, 3) := by decide +kernel
theorem dX10_keep_4 : decode cX10_keep 4 = .ok (.iconst 0, 1) := by decide +kernel
theorem dX10_keep_5 : decode cX10_keep 5 = .ok (.aload_n 0, 1) := by decide +kernel
theorem dX10_keep_6 : decode cX10_keep 6 = .ok (.getfield 16, 3) := by decide +kernel
theorem dX10_keep_9 : decode cX10_keep 9 = .ok (.iconst 0, 1) := by decide +kernel
theorem dX10_keep_10 : decode cX10_keep 10 = .ok (.invokestatic 44, 3) := by decide +kernel
theorem dX10_keep_13 : decode cX10_keep 13 = .ok (.aload_n 0, 1) := by decide +kernel
theorem dX10_keep_14 : decode cX10_keep 14 = .ok (.iconst 1, 1) := by decide +kernel
theorem dX10_keep_15 : decode cX10_keep 15 = .ok (.putfield 196, 3) := by decide +kernel
theorem dX10_keep_18 : decode cX10_keep 18 = .ok (.aload_n 0, 1) := by decide +kernel
theorem dX10_keep_19 : decode cX10_keep 19 = .ok (.getfield 7, 3) := by decide +kernel
theorem dX10_keep_22 : decode cX10_keep 22 = .ok (.iconst 0, 1) := by decide +kernel
theorem dX10_keep_23 : decode cX10_keep 23 = .ok (.iaload, 1) := by decide +kernel
theorem dX10_keep_24 : decode cX10_keep 24 = .ok (.ireturn, 1) := by decide +kernel
theorem dX10_restore_0 : decode cX10_restore 0 = .ok (.aload_n 0, 1) := by decide +kernel
theorem dX10_restore_1 : decode cX10_restore 1 = .ok (.getfield 196, 3) := by decide +kernel
theorem dX10_restore_4 : decode cX10_restore 4 = .ok (.ifCond .ne 6, 3) := by decide +kernel
theorem dX10_restore_7 : decode cX10_restore 7 = .ok (.bipush (-5), 2) := by decide +kernel
theorem dX10_restore_9 : decode cX10_restore 9 = .ok (.ireturn, 1) := by decide +kernel
theorem dX10_restore_10 : decode cX10_restore 10 = .ok (.aload_n 0, 1) := by decide +kernel
theorem dX10_restore_11 : decode cX10_restore 11 = .ok (.invokevirtual 61, 3) := by decide +kernel
theorem dX10_restore_14 : decode cX10_restore 14 = .ok (.aload_n 0, 1) := by decide +kernel
theorem dX10_restore_15 : decode cX10_restore 15 = .ok (.getfield 16, 3) := by decide +kernel
theorem dX10_restore_18 : decode cX10_restore 18 = .ok (.iconst 0, 1) := by decide +kernel
theorem dX10_restore_19 : decode cX10_restore 19 = .ok (.aload_n 0, 1) := by decide +kernel
theorem dX10_restore_20 : decode cX10_restore 20 = .ok (.getfield 7, 3) := by decide +kernel
theorem dX10_restore_23 : decode cX10_restore 23 = .ok (.iconst 0, 1) := by decide +kernel
theorem dX10_restore_24 : decode cX10_restore 24 = .ok (.invokestatic 44, 3) := by decide +kernel
theorem dX10_restore_27 : decode cX10_restore 27 = .ok (.aload_n 0, 1) := by decide +kernel
theorem dX10_restore_28 : decode cX10_restore 28 = .ok (.invokevirtual 37, 3) := by decide +kernel
theorem dX10_restore_31 : decode cX10_restore 31 = .ok (.aload_n 0, 1) := by decide +kernel
theorem dX10_restore_32 : decode cX10_restore 32 = .ok (.getfield 7, 3) := by decide +kernel
theorem dX10_restore_35 : decode cX10_restore 35 = .ok (.iconst 0, 1) := by decide +kernel
theorem dX10_restore_36 : decode cX10_restore 36 = .ok (.iaload, 1) := by decide +kernel
theorem dX10_restore_37 : decode cX10_restore 37 = .ok (.ireturn, 1) := by decide +kernel
theorem dX10_distance_0 : decode cX10_distance 0 = .ok (.iload_n 1, 1) := by decide +kernel
theorem dX10_distance_1 : decode cX10_distance 1 = .ok (.invokestatic 57, 3) := by decide +kernel
theorem dX10_distance_4 : decode cX10_distance 4 = .ok (.ifCond .eq 10, 3) := by decide +kernel
theorem dX10_distance_7 : decode cX10_distance 7 = .ok (.iload_n 2, 1) := by decide +kernel
theorem dX10_distance_8 : decode cX10_distance 8 = .ok (.invokestatic 57, 3) := by decide +kernel
theorem dX10_distance_11 : decode cX10_distance 11 = .ok (.ifCond .ne 7, 3) := by decide +kernel
theorem dX10_distance_14 : decode cX10_distance 14 = .ok (.iconst (-1), 1) := by decide +kernel
theorem dX10_distance_15 : decode cX10_distance 15 = .ok (.goto 25, 3) := by decide +kernel
theorem dX10_distance_18 : decode cX10_distance 18 = .ok (.aload_n 0, 1) := by decide +kernel
theorem dX10_distance_19 : decode cX10_distance 19 = .ok (.iload_n 1, 1) := by decide +kernel
theorem dX10_distance_20 : decode cX10_distance 20 = .ok (.iload_n 2, 1) := by decide +kernel
theorem dX10_distance_21 : decode cX10_distance 21 = .ok (.invokevirtual 53, 3) := by decide +kernel
theorem dX10_distance_24 : decode cX10_distance 24 = .ok (.ldc 52, 2) := by decide +kernel
theorem dX10_distance_26 : decode cX10_distance 26 = .ok (.if_icmp .lt 8, 3) := by decide +kernel
theorem dX10_distance_29 : decode cX10_distance 29 = .ok (.bipush (-5), 2) := by decide +kernel
theorem dX10_distance_31 : decode cX10_distance 31 = .ok (.goto 9, 3) := by decide +kernel
theorem dX10_distance_34 : decode cX10_distance 34 = .ok (.aload_n 0, 1) := by decide +kernel
theorem dX10_distance_35 : decode cX10_distance 35 = .ok (.iload_n 1, 1) := by decide +kernel
theorem dX10_distance_36 : decode cX10_distance 36 = .ok (.iload_n 2, 1) := by decide +kernel
theorem dX10_distance_37 : decode cX10_distance 37 = .ok (.invokevirtual 53, 3) := by decide +kernel
theorem dX10_distance_40 : decode cX10_distance 40 = .ok (.ireturn, 1) := by decide +kernel
theorem dX10_wayAt_0 : decode cX10_wayAt 0 = .ok (.iload_n 1, 1) := by decide +kernel
theorem dX10_wayAt_1 : decode cX10_wayAt 1 = .ok (.invokestatic 57, 3) := by decide +kernel
theorem dX10_wayAt_4 : decode cX10_wayAt 4 = .ok (.ifCond .eq 10, 3) := by decide +kernel
theorem dX10_wayAt_7 : decode cX10_wayAt 7 = .ok (.iload_n 2, 1) := by decide +kernel
theorem dX10_wayAt_8 : decode cX10_wayAt 8 = .ok (.invokestatic 57, 3) := by decide +kernel
theorem dX10_wayAt_11 : decode cX10_wayAt 11 = .ok (.ifCond .ne 5, 3) := by decide +kernel
theorem dX10_wayAt_14 : decode cX10_wayAt 14 = .ok (.iconst (-1), 1) := by decide +kernel
theorem dX10_wayAt_15 : decode cX10_wayAt 15 = .ok (.ireturn, 1) := by decide +kernel
theorem dX10_wayAt_16 : decode cX10_wayAt 16 = .ok (.iload_n 3, 1) := by decide +kernel
theorem dX10_wayAt_17 : decode cX10_wayAt 17 = .ok (.ifCond .ge 6, 3) := by decide +kernel
theorem dX10_wayAt_20 : decode cX10_wayAt 20 = .ok (.bipush (-2), 2) := by decide +kernel
theorem dX10_wayAt_22 : decode cX10_wayAt 22 = .ok (.ireturn, 1) := by decide +kernel
theorem dX10_wayAt_23 : decode cX10_wayAt 23 = .ok (.iload_n 1, 1) := by decide +kernel
theorem dX10_wayAt_24 : decode cX10_wayAt 24 = .ok (.istore 4, 2) := by decide +kernel
theorem dX10_wayAt_26 : decode cX10_wayAt 26 = .ok (.iconst 0, 1) := by decide +kernel
theorem dX10_wayAt_27 : decode cX10_wayAt 27 = .ok (.istore 5, 2) := by decide +kernel
theorem dX10_wayAt_29 : decode cX10_wayAt 29 = .ok (.iload 5, 2) := by decide +kernel
theorem dX10_wayAt_31 : decode cX10_wayAt 31 = .ok (.iload_n 3, 1) := by decide +kernel
theorem dX10_wayAt_32 : decode cX10_wayAt 32 = .ok (.if_icmp .ge 35, 3) := by decide +kernel
theorem dX10_wayAt_35 : decode cX10_wayAt 35 = .ok (.iload 4, 2) := by decide +kernel
theorem dX10_wayAt_37 : decode cX10_wayAt 37 = .ok (.iload_n 2, 1) := by decide +kernel
theorem dX10_wayAt_38 : decode cX10_wayAt 38 = .ok (.if_icmp .eq 29, 3) := by decide +kernel
theorem dX10_wayAt_41 : decode cX10_wayAt 41 = .ok (.aload_n 0, 1) := by decide +kernel
theorem dX10_wayAt_42 : decode cX10_wayAt 42 = .ok (.iload_n 1, 1) := by decide +kernel
theorem dX10_wayAt_43 : decode cX10_wayAt 43 = .ok (.iload_n 2, 1) := by decide +kernel
theorem dX10_wayAt_44 : decode cX10_wayAt 44 = .ok (.invokevirtual 53, 3) := by decide +kernel
theorem dX10_wayAt_47 : decode cX10_wayAt 47 = .ok (.ldc 52, 2) := by decide +kernel
theorem dX10_wayAt_49 : decode cX10_wayAt 49 = .ok (.if_icmp .ge 18, 3) := by decide +kernel
theorem dX10_wayAt_52 : decode cX10_wayAt 52 = .ok (.aload_n 0, 1) := by decide +kernel
theorem dX10_wayAt_53 : decode cX10_wayAt 53 = .ok (.iload 4, 2) := by decide +kernel
theorem dX10_wayAt_55 : decode cX10_wayAt 55 = .ok (.iload_n 2, 1) := by decide +kernel
theorem dX10_wayAt_56 : decode cX10_wayAt 56 = .ok (.invokevirtual 132, 3) := by decide +kernel
theorem dX10_wayAt_59 : decode cX10_wayAt 59 = .ok (.istore 4, 2) := by decide +kernel
theorem dX10_wayAt_61 : decode cX10_wayAt 61 = .ok (.iinc 5 1, 3) := by decide +kernel
theorem dX10_wayAt_64 : decode cX10_wayAt 64 = .ok (.goto (-35), 3) := by decide +kernel
theorem dX10_wayAt_67 : decode cX10_wayAt 67 = .ok (.aload_n 0, 1) := by decide +kernel
theorem dX10_wayAt_68 : decode cX10_wayAt 68 = .ok (.iload_n 1, 1) := by decide +kernel
theorem dX10_wayAt_69 : decode cX10_wayAt 69 = .ok (.iload_n 2, 1) := by decide +kernel
theorem dX10_wayAt_70 : decode cX10_wayAt 70 = .ok (.invokevirtual 53, 3) := by decide +kernel
theorem dX10_wayAt_73 : decode cX10_wayAt 73 = .ok (.ldc 52, 2) := by decide +kernel
theorem dX10_wayAt_75 : decode cX10_wayAt 75 = .ok (.if_icmp .ge 14, 3) := by decide +kernel
theorem dX10_wayAt_78 : decode cX10_wayAt 78 = .ok (.iload 5, 2) := by decide +kernel
theorem dX10_wayAt_80 : decode cX10_wayAt 80 = .ok (.iload_n 3, 1) := by decide +kernel
theorem dX10_wayAt_81 : decode cX10_wayAt 81 = .ok (.if_icmp .ne 8, 3) := by decide +kernel
theorem dX10_wayAt_84 : decode cX10_wayAt 84 = .ok (.iload 4, 2) := by decide +kernel
theorem dX10_wayAt_86 : decode cX10_wayAt 86 = .ok (.goto 5, 3) := by decide +kernel
theorem dX10_wayAt_89 : decode cX10_wayAt 89 = .ok (.bipush (-5), 2) := by decide +kernel
theorem dX10_wayAt_91 : decode cX10_wayAt 91 = .ok (.ireturn, 1) := by decide +kernel
theorem dX10_member_0 : decode cX10_member 0 = .ok (.aload_n 0, 1) := by decide +kernel
theorem dX10_member_1 : decode cX10_member 1 = .ok (.iload_n 1, 1) := by decide +kernel
theorem dX10_member_2 : decode cX10_member 2 = .ok (.invokevirtual 75, 3) := by decide +kernel
theorem dX10_member_5 : decode cX10_member 5 = .ok (.ifCond .ne 5, 3) := by decide +kernel
theorem dX10_member_8 : decode cX10_member 8 = .ok (.iconst (-1), 1) := by decide +kernel
theorem dX10_member_9 : decode cX10_member 9 = .ok (.ireturn, 1) := by decide +kernel
theorem dX10_member_10 : decode cX10_member 10 = .ok (.iconst 0, 1) := by decide +kernel
theorem dX10_member_11 : decode cX10_member 11 = .ok (.istore_n 3, 1) := by decide +kernel
theorem dX10_member_12 : decode cX10_member 12 = .ok (.iconst 0, 1) := by decide +kernel
theorem dX10_member_13 : decode cX10_member 13 = .ok (.istore 4, 2) := by decide +kernel
theorem dX10_member_15 : decode cX10_member 15 = .ok (.iconst 0, 1) := by decide +kernel
theorem dX10_member_16 : decode cX10_member 16 = .ok (.istore 5, 2) := by decide +kernel
theorem dX10_member_18 : decode cX10_member 18 = .ok (.iload 5, 2) := by decide +kernel
theorem dX10_member_20 : decode cX10_member 20 = .ok (.aload_n 0, 1) := by decide +kernel
theorem dX10_member_21 : decode cX10_member 21 = .ok (.getfield 7, 3) := by decide +kernel
theorem dX10_member_24 : decode cX10_member 24 = .ok (.bipush 9, 2) := by decide +kernel
theorem dX10_member_26 : decode cX10_member 26 = .ok (.iaload, 1) := by decide +kernel
theorem dX10_member_27 : decode cX10_member 27 = .ok (.if_icmp .ge 34, 3) := by decide +kernel
theorem dX10_member_30 : decode cX10_member 30 = .ok (.aload_n 0, 1) := by decide +kernel
theorem dX10_member_31 : decode cX10_member 31 = .ok (.iload 5, 2) := by decide +kernel
theorem dX10_member_33 : decode cX10_member 33 = .ok (.iconst 0, 1) := by decide +kernel
theorem dX10_member_34 : decode cX10_member 34 = .ok (.invokevirtual 72, 3) := by decide +kernel
theorem dX10_member_37 : decode cX10_member 37 = .ok (.iload_n 1, 1) := by decide +kernel
theorem dX10_member_38 : decode cX10_member 38 = .ok (.if_icmp .ne 17, 3) := by decide +kernel
theorem dX10_member_41 : decode cX10_member 41 = .ok (.iinc 3 1, 3) := by decide +kernel
theorem dX10_member_44 : decode cX10_member 44 = .ok (.iload 4, 2) := by decide +kernel
theorem dX10_member_46 : decode cX10_member 46 = .ok (.aload_n 0, 1) := by decide +kernel
theorem dX10_member_47 : decode cX10_member 47 = .ok (.iload 5, 2) := by decide +kernel
theorem dX10_member_49 : decode cX10_member 49 = .ok (.invokevirtual 104, 3) := by decide +kernel
theorem dX10_member_52 : decode cX10_member 52 = .ok (.iadd, 1) := by decide +kernel
theorem dX10_member_53 : decode cX10_member 53 = .ok (.istore 4, 2) := by decide +kernel
theorem dX10_member_55 : decode cX10_member 55 = .ok (.iinc 5 1, 3) := by decide +kernel
theorem dX10_member_58 : decode cX10_member 58 = .ok (.goto (-40), 3) := by decide +kernel
theorem dX10_member_61 : decode cX10_member 61 = .ok (.iload_n 2, 1) := by decide +kernel
theorem dX10_member_62 : decode cX10_member 62 = .ok (.tableswitch 85 0 6 #[42, 49, 51, 57, 60, 71, 78], 42) := by decide +kernel
theorem dX10_member_104 : decode cX10_member 104 = .ok (.aload_n 0, 1) := by decide +kernel
theorem dX10_member_105 : decode cX10_member 105 = .ok (.iload_n 1, 1) := by decide +kernel
theorem dX10_member_106 : decode cX10_member 106 = .ok (.iconst 0, 1) := by decide +kernel
theorem dX10_member_107 : decode cX10_member 107 = .ok (.invokevirtual 85, 3) := by decide +kernel
theorem dX10_member_110 : decode cX10_member 110 = .ok (.ireturn, 1) := by decide +kernel
theorem dX10_member_111 : decode cX10_member 111 = .ok (.iload_n 3, 1) := by decide +kernel
theorem dX10_member_112 : decode cX10_member 112 = .ok (.ireturn, 1) := by decide +kernel
theorem dX10_member_113 : decode cX10_member 113 = .ok (.aload_n 0, 1) := by decide +kernel
theorem dX10_member_114 : decode cX10_member 114 = .ok (.iload_n 1, 1) := by decide +kernel
theorem dX10_member_115 : decode cX10_member 115 = .ok (.invokevirtual 78, 3) := by decide +kernel
theorem dX10_member_118 : decode cX10_member 118 = .ok (.ireturn, 1) := by decide +kernel
theorem dX10_member_119 : decode cX10_member 119 = .ok (.iload 4, 2) := by decide +kernel
theorem dX10_member_121 : decode cX10_member 121 = .ok (.ireturn, 1) := by decide +kernel
theorem dX10_member_122 : decode cX10_member 122 = .ok (.aload_n 0, 1) := by decide +kernel
theorem dX10_member_123 : decode cX10_member 123 = .ok (.iload_n 1, 1) := by decide +kernel
theorem dX10_member_124 : decode cX10_member 124 = .ok (.iconst 1, 1) := by decide +kernel
theorem dX10_member_125 : decode cX10_member 125 = .ok (.invokevirtual 85, 3) := by decide +kernel
theorem dX10_member_128 : decode cX10_member 128 = .ok (.sipush 1000, 3) := by decide +kernel
theorem dX10_member_131 : decode cX10_member 131 = .ok (.iadd, 1) := by decide +kernel
theorem dX10_member_132 : decode cX10_member 132 = .ok (.ireturn, 1) := by decide +kernel
theorem dX10_member_133 : decode cX10_member 133 = .ok (.aload_n 0, 1) := by decide +kernel
theorem dX10_member_134 : decode cX10_member 134 = .ok (.iload_n 1, 1) := by decide +kernel
theorem dX10_member_135 : decode cX10_member 135 = .ok (.iconst 2, 1) := by decide +kernel
theorem dX10_member_136 : decode cX10_member 136 = .ok (.invokevirtual 85, 3) := by decide +kernel
theorem dX10_member_139 : decode cX10_member 139 = .ok (.ireturn, 1) := by decide +kernel
theorem dX10_member_140 : decode cX10_member 140 = .ok (.aload_n 0, 1) := by decide +kernel
theorem dX10_member_141 : decode cX10_member 141 = .ok (.iload_n 1, 1) := by decide +kernel
theorem dX10_member_142 : decode cX10_member 142 = .ok (.iconst 3, 1) := by decide +kernel
theorem dX10_member_143 : decode cX10_member 143 = .ok (.invokevirtual 85, 3) := by decide +kernel
theorem dX10_member_146 : decode cX10_member 146 = .ok (.ireturn, 1) := by decide +kernel
theorem dX10_member_147 : decode cX10_member 147 = .ok (.bipush (-2), 2) := by decide +kernel
theorem dX10_member_149 : decode cX10_member 149 = .ok (.ireturn, 1) := by decide +kernel
theorem dX10_patrol_0 : decode cX10_patrol 0 = .ok (.aload_n 0, 1) := by decide +kernel
theorem dX10_patrol_1 : decode cX10_patrol 1 = .ok (.iload_n 1, 1) := by decide +kernel
theorem dX10_patrol_2 : decode cX10_patrol 2 = .ok (.invokevirtual 107, 3) := by decide +kernel
theorem dX10_patrol_5 : decode cX10_patrol 5 = .ok (.ifCond .ne 7, 3) := by decide +kernel
theorem dX10_patrol_8 : decode cX10_patrol 8 = .ok (.iconst (-1), 1) := by decide +kernel
theorem dX10_patrol_9 : decode cX10_patrol 9 = .ok (.goto 24, 3) := by decide +kernel
theorem dX10_patrol_12 : decode cX10_patrol 12 = .ok (.iload_n 2, 1) := by decide +kernel
theorem dX10_patrol_13 : decode cX10_patrol 13 = .ok (.iconst 0, 1) := by decide +kernel
theorem dX10_patrol_14 : decode cX10_patrol 14 = .ok (.bipush 11, 2) := by decide +kernel
theorem dX10_patrol_16 : decode cX10_patrol 16 = .ok (.invokestatic 48, 3) := by decide +kernel
theorem dX10_patrol_19 : decode cX10_patrol 19 = .ok (.ifCond .ne 8, 3) := by decide +kernel
theorem dX10_patrol_22 : decode cX10_patrol 22 = .ok (.bipush (-2), 2) := by decide +kernel
theorem dX10_patrol_24 : decode cX10_patrol 24 = .ok (.goto 9, 3) := by decide +kernel
theorem dX10_patrol_27 : decode cX10_patrol 27 = .ok (.aload_n 0, 1) := by decide +kernel
theorem dX10_patrol_28 : decode cX10_patrol 28 = .ok (.iload_n 1, 1) := by decide +kernel
theorem dX10_patrol_29 : decode cX10_patrol 29 = .ok (.iload_n 2, 1) := by decide +kernel
theorem dX10_patrol_30 : decode cX10_patrol 30 = .ok (.invokevirtual 88, 3) := by decide +kernel
theorem dX10_patrol_33 : decode cX10_patrol 33 = .ok (.ireturn, 1) := by decide +kernel
theorem dX10_garage_0 : decode cX10_garage 0 = .ok (.aload_n 0, 1) := by decide +kernel
theorem dX10_garage_1 : decode cX10_garage 1 = .ok (.iload_n 1, 1) := by decide +kernel
theorem dX10_garage_2 : decode cX10_garage 2 = .ok (.invokevirtual 114, 3) := by decide +kernel
theorem dX10_garage_5 : decode cX10_garage 5 = .ok (.ifCond .ne 5, 3) := by decide +kernel
theorem dX10_garage_8 : decode cX10_garage 8 = .ok (.iconst (-1), 1) := by decide +kernel
theorem dX10_garage_9 : decode cX10_garage 9 = .ok (.ireturn, 1) := by decide +kernel
theorem dX10_garage_10 : decode cX10_garage 10 = .ok (.iload_n 2, 1) := by decide +kernel
theorem dX10_garage_11 : decode cX10_garage 11 = .ok (.iconst 0, 1) := by decide +kernel
theorem dX10_garage_12 : decode cX10_garage 12 = .ok (.iconst 4, 1) := by decide +kernel
theorem dX10_garage_13 : decode cX10_garage 13 = .ok (.invokestatic 48, 3) := by decide +kernel
theorem dX10_garage_16 : decode cX10_garage 16 = .ok (.ifCond .ne 6, 3) := by decide +kernel
theorem dX10_garage_19 : decode cX10_garage 19 = .ok (.bipush (-2), 2) := by decide +kernel
theorem dX10_garage_21 : decode cX10_garage 21 = .ok (.ireturn, 1) := by decide +kernel
theorem dX10_garage_22 : decode cX10_garage 22 = .ok (.iload_n 2, 1) := by decide +kernel
theorem dX10_garage_23 : decode cX10_garage 23 = .ok (.iconst 3, 1) := by decide +kernel
theorem dX10_garage_24 : decode cX10_garage 24 = .ok (.if_icmp .ne 11, 3) := by decide +kernel
theorem dX10_garage_27 : decode cX10_garage 27 = .ok (.aload_n 0, 1) := by decide +kernel
theorem dX10_garage_28 : decode cX10_garage 28 = .ok (.iload_n 1, 1) := by decide +kernel
theorem dX10_garage_29 : decode cX10_garage 29 = .ok (.invokevirtual 120, 3) := by decide +kernel
theorem dX10_garage_32 : decode cX10_garage 32 = .ok (.goto 18, 3) := by decide +kernel
theorem dX10_garage_35 : decode cX10_garage 35 = .ok (.aload_n 0, 1) := by decide +kernel
theorem dX10_garage_36 : decode cX10_garage 36 = .ok (.iload_n 1, 1) := by decide +kernel
theorem dX10_garage_37 : decode cX10_garage 37 = .ok (.iload_n 2, 1) := by decide +kernel
theorem dX10_garage_38 : decode cX10_garage 38 = .ok (.iconst 4, 1) := by decide +kernel
theorem dX10_garage_39 : decode cX10_garage 39 = .ok (.if_icmp .ne 7, 3) := by decide +kernel
theorem dX10_garage_42 : decode cX10_garage 42 = .ok (.iconst 3, 1) := by decide +kernel
theorem dX10_garage_43 : decode cX10_garage 43 = .ok (.goto 4, 3) := by decide +kernel
theorem dX10_garage_46 : decode cX10_garage 46 = .ok (.iload_n 2, 1) := by decide +kernel
theorem dX10_garage_47 : decode cX10_garage 47 = .ok (.invokevirtual 117, 3) := by decide +kernel
theorem dX10_garage_50 : decode cX10_garage 50 = .ok (.ireturn, 1) := by decide +kernel
theorem dX10_callOf_0 : decode cX10_callOf 0 = .ok (.aload_n 0, 1) := by decide +kernel
theorem dX10_callOf_1 : decode cX10_callOf 1 = .ok (.iload_n 1, 1) := by decide +kernel
theorem dX10_callOf_2 : decode cX10_callOf 2 = .ok (.invokevirtual 101, 3) := by decide +kernel
theorem dX10_callOf_5 : decode cX10_callOf 5 = .ok (.ifCond .ne 5, 3) := by decide +kernel
theorem dX10_callOf_8 : decode cX10_callOf 8 = .ok (.iconst (-1), 1) := by decide +kernel
theorem dX10_callOf_9 : decode cX10_callOf 9 = .ok (.ireturn, 1) := by decide +kernel
theorem dX10_callOf_10 : decode cX10_callOf 10 = .ok (.iload_n 2, 1) := by decide +kernel
theorem dX10_callOf_11 : decode cX10_callOf 11 = .ok (.iconst 0, 1) := by decide +kernel
theorem dX10_callOf_12 : decode cX10_callOf 12 = .ok (.bipush 12, 2) := by decide +kernel
theorem dX10_callOf_14 : decode cX10_callOf 14 = .ok (.invokestatic 48, 3) := by decide +kernel
theorem dX10_callOf_17 : decode cX10_callOf 17 = .ok (.ifCond .ne 6, 3) := by decide +kernel
theorem dX10_callOf_20 : decode cX10_callOf 20 = .ok (.bipush (-2), 2) := by decide +kernel
theorem dX10_callOf_22 : decode cX10_callOf 22 = .ok (.ireturn, 1) := by decide +kernel
theorem dX10_callOf_23 : decode cX10_callOf 23 = .ok (.iload_n 2, 1) := by decide +kernel
theorem dX10_callOf_24 : decode cX10_callOf 24 = .ok (.lookupswitch 75 #[(7, 36), (11, 42), (12, 67)], 36) := by decide +kernel
theorem dX10_callOf_60 : decode cX10_callOf 60 = .ok (.aload_n 0, 1) := by decide +kernel
theorem dX10_callOf_61 : decode cX10_callOf 61 = .ok (.iload_n 1, 1) := by decide +kernel
theorem dX10_callOf_62 : decode cX10_callOf 62 = .ok (.invokevirtual 104, 3) := by decide +kernel
theorem dX10_callOf_65 : decode cX10_callOf 65 = .ok (.ireturn, 1) := by decide +kernel
theorem dX10_callOf_66 : decode cX10_callOf 66 = .ok (.aload_n 0, 1) := by decide +kernel
theorem dX10_callOf_67 : decode cX10_callOf 67 = .ok (.iload_n 1, 1) := by decide +kernel
theorem dX10_callOf_68 : decode cX10_callOf 68 = .ok (.iconst 5, 1) := by decide +kernel
theorem dX10_callOf_69 : decode cX10_callOf 69 = .ok (.invokevirtual 72, 3) := by decide +kernel
theorem dX10_callOf_72 : decode cX10_callOf 72 = .ok (.iconst 1, 1) := by decide +kernel
theorem dX10_callOf_73 : decode cX10_callOf 73 = .ok (.if_icmp .le 8, 3) := by decide +kernel
theorem dX10_callOf_76 : decode cX10_callOf 76 = .ok (.bipush (-5), 2) := by decide +kernel
theorem dX10_callOf_78 : decode cX10_callOf 78 = .ok (.goto 12, 3) := by decide +kernel
theorem dX10_callOf_81 : decode cX10_callOf 81 = .ok (.aload_n 0, 1) := by decide +kernel
theorem dX10_callOf_82 : decode cX10_callOf 82 = .ok (.iload_n 1, 1) := by decide +kernel
theorem dX10_callOf_83 : decode cX10_callOf 83 = .ok (.invokevirtual 138, 3) := by decide +kernel
theorem dX10_callOf_86 : decode cX10_callOf 86 = .ok (.sipush 10000, 3) := by decide +kernel
theorem dX10_callOf_89 : decode cX10_callOf 89 = .ok (.iadd, 1) := by decide +kernel
theorem dX10_callOf_90 : decode cX10_callOf 90 = .ok (.ireturn, 1) := by decide +kernel
theorem dX10_callOf_91 : decode cX10_callOf 91 = .ok (.aload_n 0, 1) := by decide +kernel
theorem dX10_callOf_92 : decode cX10_callOf 92 = .ok (.iload_n 1, 1) := by decide +kernel
theorem dX10_callOf_93 : decode cX10_callOf 93 = .ok (.bipush 11, 2) := by decide +kernel
theorem dX10_callOf_95 : decode cX10_callOf 95 = .ok (.invokevirtual 72, 3) := by decide +kernel
theorem dX10_callOf_98 : decode cX10_callOf 98 = .ok (.ireturn, 1) := by decide +kernel
theorem dX10_callOf_99 : decode cX10_callOf 99 = .ok (.aload_n 0, 1) := by decide +kernel
theorem dX10_callOf_100 : decode cX10_callOf 100 = .ok (.iload_n 1, 1) := by decide +kernel
theorem dX10_callOf_101 : decode cX10_callOf 101 = .ok (.iload_n 2, 1) := by decide +kernel
theorem dX10_callOf_102 : decode cX10_callOf 102 = .ok (.invokevirtual 72, 3) := by decide +kernel
theorem dX10_callOf_105 : decode cX10_callOf 105 = .ok (.ireturn, 1) := by decide +kernel
theorem dX10_waiting_0 : decode cX10_waiting 0 = .ok (.iload_n 1, 1) := by decide +kernel
theorem dX10_waiting_1 : decode cX10_waiting 1 = .ok (.ifCond .ge 6, 3) := by decide +kernel
theorem dX10_waiting_4 : decode cX10_waiting 4 = .ok (.bipush (-2), 2) := by decide +kernel
theorem dX10_waiting_6 : decode cX10_waiting 6 = .ok (.ireturn, 1) := by decide +kernel
theorem dX10_waiting_7 : decode cX10_waiting 7 = .ok (.aload_n 0, 1) := by decide +kernel
theorem dX10_waiting_8 : decode cX10_waiting 8 = .ok (.invokevirtual 154, 3) := by decide +kernel
theorem dX10_waiting_11 : decode cX10_waiting 11 = .ok (.iload_n 1, 1) := by decide +kernel
theorem dX10_waiting_12 : decode cX10_waiting 12 = .ok (.aload_n 0, 1) := by decide +kernel
theorem dX10_waiting_13 : decode cX10_waiting 13 = .ok (.getfield 141, 3) := by decide +kernel
theorem dX10_waiting_16 : decode cX10_waiting 16 = .ok (.if_icmp .ge 12, 3) := by decide +kernel
theorem dX10_waiting_19 : decode cX10_waiting 19 = .ok (.aload_n 0, 1) := by decide +kernel
theorem dX10_waiting_20 : decode cX10_waiting 20 = .ok (.getfield 31, 3) := by decide +kernel
theorem dX10_waiting_23 : decode cX10_waiting 23 = .ok (.iload_n 1, 1) := by decide +kernel
theorem dX10_waiting_24 : decode cX10_waiting 24 = .ok (.iaload, 1) := by decide +kernel
theorem dX10_waiting_25 : decode cX10_waiting 25 = .ok (.goto 5, 3) := by decide +kernel
theorem dX10_waiting_28 : decode cX10_waiting 28 = .ok (.bipush (-5), 2) := by decide +kernel
theorem dX10_waiting_30 : decode cX10_waiting 30 = .ok (.ireturn, 1) := by decide +kernel
theorem dX10_nearest_0 : decode cX10_nearest 0 = .ok (.aload_n 0, 1) := by decide +kernel
theorem dX10_nearest_1 : decode cX10_nearest 1 = .ok (.iload_n 1, 1) := by decide +kernel
theorem dX10_nearest_2 : decode cX10_nearest 2 = .ok (.invokevirtual 101, 3) := by decide +kernel
theorem dX10_nearest_5 : decode cX10_nearest 5 = .ok (.ifCond .ne 7, 3) := by decide +kernel
theorem dX10_nearest_8 : decode cX10_nearest 8 = .ok (.iconst (-1), 1) := by decide +kernel
theorem dX10_nearest_9 : decode cX10_nearest 9 = .ok (.goto 21, 3) := by decide +kernel
theorem dX10_nearest_12 : decode cX10_nearest 12 = .ok (.aload_n 0, 1) := by decide +kernel
theorem dX10_nearest_13 : decode cX10_nearest 13 = .ok (.iload_n 1, 1) := by decide +kernel
theorem dX10_nearest_14 : decode cX10_nearest 14 = .ok (.invokevirtual 144, 3) := by decide +kernel
theorem dX10_nearest_17 : decode cX10_nearest 17 = .ok (.ifCond .ne 8, 3) := by decide +kernel
theorem dX10_nearest_20 : decode cX10_nearest 20 = .ok (.bipush (-4), 2) := by decide +kernel
theorem dX10_nearest_22 : decode cX10_nearest 22 = .ok (.goto 8, 3) := by decide +kernel
theorem dX10_nearest_25 : decode cX10_nearest 25 = .ok (.aload_n 0, 1) := by decide +kernel
theorem dX10_nearest_26 : decode cX10_nearest 26 = .ok (.iload_n 1, 1) := by decide +kernel
theorem dX10_nearest_27 : decode cX10_nearest 27 = .ok (.invokevirtual 157, 3) := by decide +kernel
theorem dX10_nearest_30 : decode cX10_nearest 30 = .ok (.ireturn, 1) := by decide +kernel
theorem dX10_waitFor_0 : decode cX10_waitFor 0 = .ok (.aload_n 0, 1) := by decide +kernel
theorem dX10_waitFor_1 : decode cX10_waitFor 1 = .ok (.iload_n 1, 1) := by decide +kernel
theorem dX10_waitFor_2 : decode cX10_waitFor 2 = .ok (.invokevirtual 101, 3) := by decide +kernel
theorem dX10_waitFor_5 : decode cX10_waitFor 5 = .ok (.ifCond .ne 5, 3) := by decide +kernel
theorem dX10_waitFor_8 : decode cX10_waitFor 8 = .ok (.iconst (-1), 1) := by decide +kernel
theorem dX10_waitFor_9 : decode cX10_waitFor 9 = .ok (.ireturn, 1) := by decide +kernel
theorem dX10_waitFor_10 : decode cX10_waitFor 10 = .ok (.aload_n 0, 1) := by decide +kernel
theorem dX10_waitFor_11 : decode cX10_waitFor 11 = .ok (.iload_n 1, 1) := by decide +kernel
theorem dX10_waitFor_12 : decode cX10_waitFor 12 = .ok (.iconst 5, 1) := by decide +kernel
theorem dX10_waitFor_13 : decode cX10_waitFor 13 = .ok (.invokevirtual 72, 3) := by decide +kernel
theorem dX10_waitFor_16 : decode cX10_waitFor 16 = .ok (.iconst 1, 1) := by decide +kernel
theorem dX10_waitFor_17 : decode cX10_waitFor 17 = .ok (.if_icmp .le 6, 3) := by decide +kernel
theorem dX10_waitFor_20 : decode cX10_waitFor 20 = .ok (.bipush (-4), 2) := by decide +kernel
theorem dX10_waitFor_22 : decode cX10_waitFor 22 = .ok (.ireturn, 1) := by decide +kernel
theorem dX10_waitFor_23 : decode cX10_waitFor 23 = .ok (.aload_n 0, 1) := by decide +kernel
theorem dX10_waitFor_24 : decode cX10_waitFor 24 = .ok (.getfield 7, 3) := by decide +kernel
theorem dX10_waitFor_27 : decode cX10_waitFor 27 = .ok (.iconst 0, 1) := by decide +kernel
theorem dX10_waitFor_28 : decode cX10_waitFor 28 = .ok (.aload_n 0, 1) := by decide +kernel
theorem dX10_waitFor_29 : decode cX10_waitFor 29 = .ok (.getfield 19, 3) := by decide +kernel
theorem dX10_waitFor_32 : decode cX10_waitFor 32 = .ok (.iconst 0, 1) := by decide +kernel
theorem dX10_waitFor_33 : decode cX10_waitFor 33 = .ok (.invokestatic 44, 3) := by decide +kernel
theorem dX10_waitFor_36 : decode cX10_waitFor 36 = .ok (.iconst 0, 1) := by decide +kernel
theorem dX10_waitFor_37 : decode cX10_waitFor 37 = .ok (.istore_n 2, 1) := by decide +kernel
theorem dX10_waitFor_38 : decode cX10_waitFor 38 = .ok (.iload_n 2, 1) := by decide +kernel
theorem dX10_waitFor_39 : decode cX10_waitFor 39 = .ok (.sipush 240, 3) := by decide +kernel
theorem dX10_waitFor_42 : decode cX10_waitFor 42 = .ok (.if_icmp .ge 37, 3) := by decide +kernel
theorem dX10_waitFor_45 : decode cX10_waitFor 45 = .ok (.aload_n 0, 1) := by decide +kernel
theorem dX10_waitFor_46 : decode cX10_waitFor 46 = .ok (.getfield 7, 3) := by decide +kernel
theorem dX10_waitFor_49 : decode cX10_waitFor 49 = .ok (.iconst 0, 1) := by decide +kernel
theorem dX10_waitFor_50 : decode cX10_waitFor 50 = .ok (.iaload, 1) := by decide +kernel
theorem dX10_waitFor_51 : decode cX10_waitFor 51 = .ok (.sipush 2880, 3) := by decide +kernel
theorem dX10_waitFor_54 : decode cX10_waitFor 54 = .ok (.if_icmp .ge 25, 3) := by decide +kernel
theorem dX10_waitFor_57 : decode cX10_waitFor 57 = .ok (.aload_n 0, 1) := by decide +kernel
theorem dX10_waitFor_58 : decode cX10_waitFor 58 = .ok (.iload_n 1, 1) := by decide +kernel
theorem dX10_waitFor_59 : decode cX10_waitFor 59 = .ok (.bipush 8, 2) := by decide +kernel
theorem dX10_waitFor_61 : decode cX10_waitFor 61 = .ok (.invokevirtual 72, 3) := by decide +kernel
theorem dX10_waitFor_64 : decode cX10_waitFor 64 = .ok (.bipush (-5), 2) := by decide +kernel
theorem dX10_waitFor_66 : decode cX10_waitFor 66 = .ok (.if_icmp .ne 13, 3) := by decide +kernel
theorem dX10_waitFor_69 : decode cX10_waitFor 69 = .ok (.aload_n 0, 1) := by decide +kernel
theorem dX10_waitFor_70 : decode cX10_waitFor 70 = .ok (.invokevirtual 175, 3) := by decide +kernel
theorem dX10_waitFor_73 : decode cX10_waitFor 73 = .ok (.iinc 2 1, 3) := by decide +kernel
theorem dX10_waitFor_76 : decode cX10_waitFor 76 = .ok (.goto (-38), 3) := by decide +kernel
theorem dX10_waitFor_79 : decode cX10_waitFor 79 = .ok (.aload_n 0, 1) := by decide +kernel
theorem dX10_waitFor_80 : decode cX10_waitFor 80 = .ok (.iload_n 1, 1) := by decide +kernel
theorem dX10_waitFor_81 : decode cX10_waitFor 81 = .ok (.bipush 8, 2) := by decide +kernel
theorem dX10_waitFor_83 : decode cX10_waitFor 83 = .ok (.invokevirtual 72, 3) := by decide +kernel
theorem dX10_waitFor_86 : decode cX10_waitFor 86 = .ok (.bipush (-5), 2) := by decide +kernel
theorem dX10_waitFor_88 : decode cX10_waitFor 88 = .ok (.if_icmp .ne 8, 3) := by decide +kernel
theorem dX10_waitFor_91 : decode cX10_waitFor 91 = .ok (.bipush (-5), 2) := by decide +kernel
theorem dX10_waitFor_93 : decode cX10_waitFor 93 = .ok (.goto 10, 3) := by decide +kernel
theorem dX10_waitFor_96 : decode cX10_waitFor 96 = .ok (.aload_n 0, 1) := by decide +kernel
theorem dX10_waitFor_97 : decode cX10_waitFor 97 = .ok (.iload_n 1, 1) := by decide +kernel
theorem dX10_waitFor_98 : decode cX10_waitFor 98 = .ok (.bipush 7, 2) := by decide +kernel
theorem dX10_waitFor_100 : decode cX10_waitFor 100 = .ok (.invokevirtual 72, 3) := by decide +kernel
theorem dX10_waitFor_103 : decode cX10_waitFor 103 = .ok (.istore_n 2, 1) := by decide +kernel
theorem dX10_waitFor_104 : decode cX10_waitFor 104 = .ok (.aload_n 0, 1) := by decide +kernel
theorem dX10_waitFor_105 : decode cX10_waitFor 105 = .ok (.getfield 19, 3) := by decide +kernel
theorem dX10_waitFor_108 : decode cX10_waitFor 108 = .ok (.iconst 0, 1) := by decide +kernel
theorem dX10_waitFor_109 : decode cX10_waitFor 109 = .ok (.aload_n 0, 1) := by decide +kernel
theorem dX10_waitFor_110 : decode cX10_waitFor 110 = .ok (.getfield 7, 3) := by decide +kernel
theorem dX10_waitFor_113 : decode cX10_waitFor 113 = .ok (.iconst 0, 1) := by decide +kernel
theorem dX10_waitFor_114 : decode cX10_waitFor 114 = .ok (.invokestatic 44, 3) := by decide +kernel
theorem dX10_waitFor_117 : decode cX10_waitFor 117 = .ok (.iload_n 2, 1) := by decide +kernel
theorem dX10_waitFor_118 : decode cX10_waitFor 118 = .ok (.ireturn, 1) := by decide +kernel
theorem dX10_count_0 : decode cX10_count 0 = .ok (.iload_n 1, 1) := by decide +kernel
theorem dX10_count_1 : decode cX10_count 1 = .ok (.iconst 2, 1) := by decide +kernel
theorem dX10_count_2 : decode cX10_count 2 = .ok (.bipush 6, 2) := by decide +kernel
theorem dX10_count_4 : decode cX10_count 4 = .ok (.invokestatic 48, 3) := by decide +kernel
theorem dX10_count_7 : decode cX10_count 7 = .ok (.ifCond .eq 14, 3) := by decide +kernel
theorem dX10_count_10 : decode cX10_count 10 = .ok (.aload_n 0, 1) := by decide +kernel
theorem dX10_count_11 : decode cX10_count 11 = .ok (.getfield 7, 3) := by decide +kernel
theorem dX10_count_14 : decode cX10_count 14 = .ok (.iconst 5, 1) := by decide +kernel
theorem dX10_count_15 : decode cX10_count 15 = .ok (.iload_n 1, 1) := by decide +kernel
theorem dX10_count_16 : decode cX10_count 16 = .ok (.iadd, 1) := by decide +kernel
theorem dX10_count_17 : decode cX10_count 17 = .ok (.iconst 2, 1) := by decide +kernel
theorem dX10_count_18 : decode cX10_count 18 = .ok (.isub, 1) := by decide +kernel
theorem dX10_count_19 : decode cX10_count 19 = .ok (.iaload, 1) := by decide +kernel
theorem dX10_count_20 : decode cX10_count 20 = .ok (.ireturn, 1) := by decide +kernel
theorem dX10_count_21 : decode cX10_count 21 = .ok (.iload_n 1, 1) := by decide +kernel
theorem dX10_count_22 : decode cX10_count 22 = .ok (.bipush 7, 2) := by decide +kernel
theorem dX10_count_24 : decode cX10_count 24 = .ok (.bipush 14, 2) := by decide +kernel
theorem dX10_count_26 : decode cX10_count 26 = .ok (.invokestatic 48, 3) := by decide +kernel
theorem dX10_count_29 : decode cX10_count 29 = .ok (.ifCond .eq 12, 3) := by decide +kernel
theorem dX10_count_32 : decode cX10_count 32 = .ok (.aload_n 0, 1) := by decide +kernel
theorem dX10_count_33 : decode cX10_count 33 = .ok (.iload_n 1, 1) := by decide +kernel
theorem dX10_count_34 : decode cX10_count 34 = .ok (.bipush 7, 2) := by decide +kernel
theorem dX10_count_36 : decode cX10_count 36 = .ok (.isub, 1) := by decide +kernel
theorem dX10_count_37 : decode cX10_count 37 = .ok (.invokevirtual 172, 3) := by decide +kernel
theorem dX10_count_40 : decode cX10_count 40 = .ok (.ireturn, 1) := by decide +kernel
theorem dX10_count_41 : decode cX10_count 41 = .ok (.iconst 0, 1) := by decide +kernel
theorem dX10_count_42 : decode cX10_count 42 = .ok (.istore_n 2, 1) := by decide +kernel
theorem dX10_count_43 : decode cX10_count 43 = .ok (.iconst 0, 1) := by decide +kernel
theorem dX10_count_44 : decode cX10_count 44 = .ok (.istore_n 3, 1) := by decide +kernel
theorem dX10_count_45 : decode cX10_count 45 = .ok (.iload_n 3, 1) := by decide +kernel
theorem dX10_count_46 : decode cX10_count 46 = .ok (.aload_n 0, 1) := by decide +kernel
theorem dX10_count_47 : decode cX10_count 47 = .ok (.getfield 7, 3) := by decide +kernel
theorem dX10_count_50 : decode cX10_count 50 = .ok (.bipush 9, 2) := by decide +kernel
theorem dX10_count_52 : decode cX10_count 52 = .ok (.iaload, 1) := by decide +kernel
theorem dX10_count_53 : decode cX10_count 53 = .ok (.if_icmp .ge 17, 3) := by decide +kernel
theorem dX10_count_56 : decode cX10_count 56 = .ok (.iload_n 2, 1) := by decide +kernel
theorem dX10_count_57 : decode cX10_count 57 = .ok (.aload_n 0, 1) := by decide +kernel
theorem dX10_count_58 : decode cX10_count 58 = .ok (.iload_n 3, 1) := by decide +kernel
theorem dX10_count_59 : decode cX10_count 59 = .ok (.invokevirtual 104, 3) := by decide +kernel
theorem dX10_count_62 : decode cX10_count 62 = .ok (.iadd, 1) := by decide +kernel
theorem dX10_count_63 : decode cX10_count 63 = .ok (.istore_n 2, 1) := by decide +kernel
theorem dX10_count_64 : decode cX10_count 64 = .ok (.iinc 3 1, 3) := by decide +kernel
theorem dX10_count_67 : decode cX10_count 67 = .ok (.goto (-22), 3) := by decide +kernel
theorem dX10_count_70 : decode cX10_count 70 = .ok (.iload_n 1, 1) := by decide +kernel
theorem dX10_count_71 : decode cX10_count 71 = .ok (.tableswitch 162 0 24 #[113, 113, 162, 162, 162, 162, 162, 162, 162, 162, 162, 162, 162, 162, 162, 120, 122, 122, 122, 135, 135, 135, 147, 152, 157], 113) := by decide +kernel
theorem dX10_count_184 : decode cX10_count 184 = .ok (.aload_n 0, 1) := by decide +kernel
theorem dX10_count_185 : decode cX10_count 185 = .ok (.getfield 7, 3) := by decide +kernel
theorem dX10_count_188 : decode cX10_count 188 = .ok (.iload_n 1, 1) := by decide +kernel
theorem dX10_count_189 : decode cX10_count 189 = .ok (.iaload, 1) := by decide +kernel
theorem dX10_count_190 : decode cX10_count 190 = .ok (.ireturn, 1) := by decide +kernel
theorem dX10_count_191 : decode cX10_count 191 = .ok (.iload_n 2, 1) := by decide +kernel
theorem dX10_count_192 : decode cX10_count 192 = .ok (.ireturn, 1) := by decide +kernel
theorem dX10_count_193 : decode cX10_count 193 = .ok (.aload_n 0, 1) := by decide +kernel
theorem dX10_count_194 : decode cX10_count 194 = .ok (.getfield 7, 3) := by decide +kernel
theorem dX10_count_197 : decode cX10_count 197 = .ok (.bipush 10, 2) := by decide +kernel
theorem dX10_count_199 : decode cX10_count 199 = .ok (.iload_n 1, 1) := by decide +kernel
theorem dX10_count_200 : decode cX10_count 200 = .ok (.iadd, 1) := by decide +kernel
theorem dX10_count_201 : decode cX10_count 201 = .ok (.bipush 16, 2) := by decide +kernel
theorem dX10_count_203 : decode cX10_count 203 = .ok (.isub, 1) := by decide +kernel
theorem dX10_count_204 : decode cX10_count 204 = .ok (.iaload, 1) := by decide +kernel
theorem dX10_count_205 : decode cX10_count 205 = .ok (.ireturn, 1) := by decide +kernel
theorem dX10_count_206 : decode cX10_count 206 = .ok (.aload_n 0, 1) := by decide +kernel
theorem dX10_count_207 : decode cX10_count 207 = .ok (.getfield 7, 3) := by decide +kernel
theorem dX10_count_210 : decode cX10_count 210 = .ok (.iconst 2, 1) := by decide +kernel
theorem dX10_count_211 : decode cX10_count 211 = .ok (.iload_n 1, 1) := by decide +kernel
theorem dX10_count_212 : decode cX10_count 212 = .ok (.iadd, 1) := by decide +kernel
theorem dX10_count_213 : decode cX10_count 213 = .ok (.bipush 19, 2) := by decide +kernel
theorem dX10_count_215 : decode cX10_count 215 = .ok (.isub, 1) := by decide +kernel
theorem dX10_count_216 : decode cX10_count 216 = .ok (.iaload, 1) := by decide +kernel
theorem dX10_count_217 : decode cX10_count 217 = .ok (.ireturn, 1) := by decide +kernel
theorem dX10_count_218 : decode cX10_count 218 = .ok (.aload_n 0, 1) := by decide +kernel
theorem dX10_count_219 : decode cX10_count 219 = .ok (.invokevirtual 110, 3) := by decide +kernel
theorem dX10_count_222 : decode cX10_count 222 = .ok (.ireturn, 1) := by decide +kernel
theorem dX10_count_223 : decode cX10_count 223 = .ok (.aload_n 0, 1) := by decide +kernel
theorem dX10_count_224 : decode cX10_count 224 = .ok (.getfield 40, 3) := by decide +kernel
theorem dX10_count_227 : decode cX10_count 227 = .ok (.ireturn, 1) := by decide +kernel
theorem dX10_count_228 : decode cX10_count 228 = .ok (.aload_n 0, 1) := by decide +kernel
theorem dX10_count_229 : decode cX10_count 229 = .ok (.getfield 178, 3) := by decide +kernel
theorem dX10_count_232 : decode cX10_count 232 = .ok (.ireturn, 1) := by decide +kernel
theorem dX10_count_233 : decode cX10_count 233 = .ok (.bipush (-2), 2) := by decide +kernel
theorem dX10_count_235 : decode cX10_count 235 = .ok (.ireturn, 1) := by decide +kernel
theorem dL_law_0 : decode cL_law 0 = .ok (.new 7, 3) := by decide +kernel
theorem dL_law_3 : decode cL_law 3 = .ok (.dup, 1) := by decide +kernel
theorem dL_law_4 : decode cL_law 4 = .ok (.invokespecial 9, 3) := by decide +kernel
theorem dL_law_7 : decode cL_law 7 = .ok (.astore_n 1, 1) := by decide +kernel
theorem dL_law_8 : decode cL_law 8 = .ok (.new 10, 3) := by decide +kernel
theorem dL_law_11 : decode cL_law 11 = .ok (.dup, 1) := by decide +kernel
theorem dL_law_12 : decode cL_law 12 = .ok (.invokespecial 12, 3) := by decide +kernel
theorem dL_law_15 : decode cL_law 15 = .ok (.astore_n 2, 1) := by decide +kernel
theorem dL_law_16 : decode cL_law 16 = .ok (.iconst 0, 1) := by decide +kernel
theorem dL_law_17 : decode cL_law 17 = .ok (.istore_n 3, 1) := by decide +kernel
theorem dL_law_18 : decode cL_law 18 = .ok (.iload_n 3, 1) := by decide +kernel
theorem dL_law_19 : decode cL_law 19 = .ok (.aload_n 0, 1) := by decide +kernel
theorem dL_law_20 : decode cL_law 20 = .ok (.arraylength, 1) := by decide +kernel
theorem dL_law_21 : decode cL_law 21 = .ok (.iconst 4, 1) := by decide +kernel
theorem dL_law_22 : decode cL_law 22 = .ok (.isub, 1) := by decide +kernel
theorem dL_law_23 : decode cL_law 23 = .ok (.if_icmp .gt 941, 3) := by decide +kernel
theorem dL_law_26 : decode cL_law 26 = .ok (.aload_n 0, 1) := by decide +kernel
theorem dL_law_27 : decode cL_law 27 = .ok (.iload_n 3, 1) := by decide +kernel
theorem dL_law_28 : decode cL_law 28 = .ok (.iaload, 1) := by decide +kernel
theorem dL_law_29 : decode cL_law 29 = .ok (.bipush 31, 2) := by decide +kernel
theorem dL_law_31 : decode cL_law 31 = .ok (.iand, 1) := by decide +kernel
theorem dL_law_32 : decode cL_law 32 = .ok (.tableswitch 926 0 27 #[128, 171, 194, 253, 286, 319, 342, 385, 408, 457, 480, 513, 536, 561, 574, 587, 600, 613, 626, 659, 702, 735, 768, 801, 834, 857, 880, 903], 128) := by decide +kernel
theorem dL_law_160 : decode cL_law 160 = .ok (.aload_n 1, 1) := by decide +kernel
theorem dL_law_161 : decode cL_law 161 = .ok (.aload_n 0, 1) := by decide +kernel
theorem dL_law_162 : decode cL_law 162 = .ok (.iload_n 3, 1) := by decide +kernel
theorem dL_law_163 : decode cL_law 163 = .ok (.iconst 1, 1) := by decide +kernel
theorem dL_law_164 : decode cL_law 164 = .ok (.iadd, 1) := by decide +kernel
theorem dL_law_165 : decode cL_law 165 = .ok (.iaload, 1) := by decide +kernel
theorem dL_law_166 : decode cL_law 166 = .ok (.aload_n 0, 1) := by decide +kernel
theorem dL_law_167 : decode cL_law 167 = .ok (.iload_n 3, 1) := by decide +kernel
theorem dL_law_168 : decode cL_law 168 = .ok (.iconst 2, 1) := by decide +kernel
theorem dL_law_169 : decode cL_law 169 = .ok (.iadd, 1) := by decide +kernel
theorem dL_law_170 : decode cL_law 170 = .ok (.iaload, 1) := by decide +kernel
theorem dL_law_171 : decode cL_law 171 = .ok (.aload_n 0, 1) := by decide +kernel
theorem dL_law_172 : decode cL_law 172 = .ok (.iload_n 3, 1) := by decide +kernel
theorem dL_law_173 : decode cL_law 173 = .ok (.iconst 3, 1) := by decide +kernel
theorem dL_law_174 : decode cL_law 174 = .ok (.iadd, 1) := by decide +kernel
theorem dL_law_175 : decode cL_law 175 = .ok (.iaload, 1) := by decide +kernel
theorem dL_law_176 : decode cL_law 176 = .ok (.invokevirtual 13, 3) := by decide +kernel
theorem dL_law_179 : decode cL_law 179 = .ok (.aload_n 2, 1) := by decide +kernel
theorem dL_law_180 : decode cL_law 180 = .ok (.aload_n 0, 1) := by decide +kernel
theorem dL_law_181 : decode cL_law 181 = .ok (.iload_n 3, 1) := by decide +kernel
theorem dL_law_182 : decode cL_law 182 = .ok (.iconst 1, 1) := by decide +kernel
theorem dL_law_183 : decode cL_law 183 = .ok (.iadd, 1) := by decide +kernel
theorem dL_law_184 : decode cL_law 184 = .ok (.iaload, 1) := by decide +kernel
theorem dL_law_185 : decode cL_law 185 = .ok (.aload_n 0, 1) := by decide +kernel
theorem dL_law_186 : decode cL_law 186 = .ok (.iload_n 3, 1) := by decide +kernel
theorem dL_law_187 : decode cL_law 187 = .ok (.iconst 2, 1) := by decide +kernel
theorem dL_law_188 : decode cL_law 188 = .ok (.iadd, 1) := by decide +kernel
theorem dL_law_189 : decode cL_law 189 = .ok (.iaload, 1) := by decide +kernel
theorem dL_law_190 : decode cL_law 190 = .ok (.aload_n 0, 1) := by decide +kernel
theorem dL_law_191 : decode cL_law 191 = .ok (.iload_n 3, 1) := by decide +kernel
theorem dL_law_192 : decode cL_law 192 = .ok (.iconst 3, 1) := by decide +kernel
theorem dL_law_193 : decode cL_law 193 = .ok (.iadd, 1) := by decide +kernel
theorem dL_law_194 : decode cL_law 194 = .ok (.iaload, 1) := by decide +kernel
theorem dL_law_195 : decode cL_law 195 = .ok (.invokevirtual 17, 3) := by decide +kernel
theorem dL_law_198 : decode cL_law 198 = .ok (.if_icmp .eq 760, 3) := by decide +kernel
theorem dL_law_201 : decode cL_law 201 = .ok (.iconst 0, 1) := by decide +kernel
theorem dL_law_202 : decode cL_law 202 = .ok (.ireturn, 1) := by decide +kernel
theorem dL_law_203 : decode cL_law 203 = .ok (.aload_n 1, 1) := by decide +kernel
theorem dL_law_204 : decode cL_law 204 = .ok (.aload_n 0, 1) := by decide +kernel
theorem dL_law_205 : decode cL_law 205 = .ok (.iload_n 3, 1) := by decide +kernel
theorem dL_law_206 : decode cL_law 206 = .ok (.iconst 1, 1) := by decide +kernel
theorem dL_law_207 : decode cL_law 207 = .ok (.iadd, 1) := by decide +kernel
theorem dL_law_208 : decode cL_law 208 = .ok (.iaload, 1) := by decide +kernel
theorem dL_law_209 : decode cL_law 209 = .ok (.invokevirtual 18, 3) := by decide +kernel
theorem dL_law_212 : decode cL_law 212 = .ok (.aload_n 2, 1) := by decide +kernel
theorem dL_law_213 : decode cL_law 213 = .ok (.aload_n 0, 1) := by decide +kernel
theorem dL_law_214 : decode cL_law 214 = .ok (.iload_n 3, 1) := by decide +kernel
theorem dL_law_215 : decode cL_law 215 = .ok (.iconst 1, 1) := by decide +kernel
theorem dL_law_216 : decode cL_law 216 = .ok (.iadd, 1) := by decide +kernel
theorem dL_law_217 : decode cL_law 217 = .ok (.iaload, 1) := by decide +kernel
theorem dL_law_218 : decode cL_law 218 = .ok (.invokevirtual 22, 3) := by decide +kernel
theorem dL_law_221 : decode cL_law 221 = .ok (.if_icmp .eq 737, 3) := by decide +kernel
theorem dL_law_224 : decode cL_law 224 = .ok (.iconst 0, 1) := by decide +kernel
theorem dL_law_225 : decode cL_law 225 = .ok (.ireturn, 1) := by decide +kernel
theorem dL_law_226 : decode cL_law 226 = .ok (.aload_n 1, 1) := by decide +kernel
theorem dL_law_227 : decode cL_law 227 = .ok (.aload_n 0, 1) := by decide +kernel
theorem dL_law_228 : decode cL_law 228 = .ok (.iload_n 3, 1) := by decide +kernel
theorem dL_law_229 : decode cL_law 229 = .ok (.iconst 1, 1) := by decide +kernel
theorem dL_law_230 : decode cL_law 230 = .ok (.iadd, 1) := by decide +kernel
theorem dL_law_231 : decode cL_law 231 = .ok (.iaload, 1) := by decide +kernel
theorem dL_law_232 : decode cL_law 232 = .ok (.aload_n 0, 1) := by decide +kernel
theorem dL_law_233 : decode cL_law 233 = .ok (.iload_n 3, 1) := by decide +kernel
theorem dL_law_234 : decode cL_law 234 = .ok (.iconst 2, 1) := by decide +kernel
theorem dL_law_235 : decode cL_law 235 = .ok (.iadd, 1) := by decide +kernel
theorem dL_law_236 : decode cL_law 236 = .ok (.iaload, 1) := by decide +kernel
theorem dL_law_237 : decode cL_law 237 = .ok (.aload_n 0, 1) := by decide +kernel
theorem dL_law_238 : decode cL_law 238 = .ok (.iload_n 3, 1) := by decide +kernel
theorem dL_law_239 : decode cL_law 239 = .ok (.iconst 3, 1) := by decide +kernel
theorem dL_law_240 : decode cL_law 240 = .ok (.iadd, 1) := by decide +kernel
theorem dL_law_241 : decode cL_law 241 = .ok (.iaload, 1) := by decide +kernel
theorem dL_law_242 : decode cL_law 242 = .ok (.ifCond .eq 7, 3) := by decide +kernel
theorem dL_law_245 : decode cL_law 245 = .ok (.iconst 1, 1) := by decide +kernel
theorem dL_law_246 : decode cL_law 246 = .ok (.goto 4, 3) := by decide +kernel
theorem dL_law_249 : decode cL_law 249 = .ok (.iconst 0, 1) := by decide +kernel
theorem dL_law_250 : decode cL_law 250 = .ok (.invokevirtual 23, 3) := by decide +kernel
theorem dL_law_253 : decode cL_law 253 = .ok (.aload_n 2, 1) := by decide +kernel
theorem dL_law_254 : decode cL_law 254 = .ok (.aload_n 0, 1) := by decide +kernel
theorem dL_law_255 : decode cL_law 255 = .ok (.iload_n 3, 1) := by decide +kernel
theorem dL_law_256 : decode cL_law 256 = .ok (.iconst 1, 1) := by decide +kernel
theorem dL_law_257 : decode cL_law 257 = .ok (.iadd, 1) := by decide +kernel
theorem dL_law_258 : decode cL_law 258 = .ok (.iaload, 1) := by decide +kernel
theorem dL_law_259 : decode cL_law 259 = .ok (.aload_n 0, 1) := by decide +kernel
theorem dL_law_260 : decode cL_law 260 = .ok (.iload_n 3, 1) := by decide +kernel
theorem dL_law_261 : decode cL_law 261 = .ok (.iconst 2, 1) := by decide +kernel
theorem dL_law_262 : decode cL_law 262 = .ok (.iadd, 1) := by decide +kernel
theorem dL_law_263 : decode cL_law 263 = .ok (.iaload, 1) := by decide +kernel
theorem dL_law_264 : decode cL_law 264 = .ok (.aload_n 0, 1) := by decide +kernel
theorem dL_law_265 : decode cL_law 265 = .ok (.iload_n 3, 1) := by decide +kernel
theorem dL_law_266 : decode cL_law 266 = .ok (.iconst 3, 1) := by decide +kernel
theorem dL_law_267 : decode cL_law 267 = .ok (.iadd, 1) := by decide +kernel
theorem dL_law_268 : decode cL_law 268 = .ok (.iaload, 1) := by decide +kernel
theorem dL_law_269 : decode cL_law 269 = .ok (.ifCond .eq 7, 3) := by decide +kernel
theorem dL_law_272 : decode cL_law 272 = .ok (.iconst 1, 1) := by decide +kernel
theorem dL_law_273 : decode cL_law 273 = .ok (.goto 4, 3) := by decide +kernel
theorem dL_law_276 : decode cL_law 276 = .ok (.iconst 0, 1) := by decide +kernel
theorem dL_law_277 : decode cL_law 277 = .ok (.invokevirtual 27, 3) := by decide +kernel
theorem dL_law_280 : decode cL_law 280 = .ok (.if_icmp .eq 678, 3) := by decide +kernel
theorem dL_law_283 : decode cL_law 283 = .ok (.iconst 0, 1) := by decide +kernel
theorem dL_law_284 : decode cL_law 284 = .ok (.ireturn, 1) := by decide +kernel
theorem dL_law_285 : decode cL_law 285 = .ok (.aload_n 1, 1) := by decide +kernel
theorem dL_law_286 : decode cL_law 286 = .ok (.aload_n 0, 1) := by decide +kernel
theorem dL_law_287 : decode cL_law 287 = .ok (.iload_n 3, 1) := by decide +kernel
theorem dL_law_288 : decode cL_law 288 = .ok (.iconst 1, 1) := by decide +kernel
theorem dL_law_289 : decode cL_law 289 = .ok (.iadd, 1) := by decide +kernel
theorem dL_law_290 : decode cL_law 290 = .ok (.iaload, 1) := by decide +kernel
theorem dL_law_291 : decode cL_law 291 = .ok (.aload_n 0, 1) := by decide +kernel
theorem dL_law_292 : decode cL_law 292 = .ok (.iload_n 3, 1) := by decide +kernel
theorem dL_law_293 : decode cL_law 293 = .ok (.iconst 2, 1) := by decide +kernel
theorem dL_law_294 : decode cL_law 294 = .ok (.iadd, 1) := by decide +kernel
theorem dL_law_295 : decode cL_law 295 = .ok (.iaload, 1) := by decide +kernel
theorem dL_law_296 : decode cL_law 296 = .ok (.invokevirtual 28, 3) := by decide +kernel
theorem dL_law_299 : decode cL_law 299 = .ok (.aload_n 2, 1) := by decide +kernel
theorem dL_law_300 : decode cL_law 300 = .ok (.aload_n 0, 1) := by decide +kernel
theorem dL_law_301 : decode cL_law 301 = .ok (.iload_n 3, 1) := by decide +kernel
theorem dL_law_302 : decode cL_law 302 = .ok (.iconst 1, 1) := by decide +kernel
theorem dL_law_303 : decode cL_law 303 = .ok (.iadd, 1) := by decide +kernel
theorem dL_law_304 : decode cL_law 304 = .ok (.iaload, 1) := by decide +kernel
theorem dL_law_305 : decode cL_law 305 = .ok (.aload_n 0, 1) := by decide +kernel
theorem dL_law_306 : decode cL_law 306 = .ok (.iload_n 3, 1) := by decide +kernel
theorem dL_law_307 : decode cL_law 307 = .ok (.iconst 2, 1) := by decide +kernel
theorem dL_law_308 : decode cL_law 308 = .ok (.iadd, 1) := by decide +kernel
theorem dL_law_309 : decode cL_law 309 = .ok (.iaload, 1) := by decide +kernel
theorem dL_law_310 : decode cL_law 310 = .ok (.invokevirtual 32, 3) := by decide +kernel
theorem dL_law_313 : decode cL_law 313 = .ok (.if_icmp .eq 645, 3) := by decide +kernel
theorem dL_law_316 : decode cL_law 316 = .ok (.iconst 0, 1) := by decide +kernel
theorem dL_law_317 : decode cL_law 317 = .ok (.ireturn, 1) := by decide +kernel
theorem dL_law_318 : decode cL_law 318 = .ok (.aload_n 1, 1) := by decide +kernel
theorem dL_law_319 : decode cL_law 319 = .ok (.aload_n 0, 1) := by decide +kernel
theorem dL_law_320 : decode cL_law 320 = .ok (.iload_n 3, 1) := by decide +kernel
theorem dL_law_321 : decode cL_law 321 = .ok (.iconst 1, 1) := by decide +kernel
theorem dL_law_322 : decode cL_law 322 = .ok (.iadd, 1) := by decide +kernel
theorem dL_law_323 : decode cL_law 323 = .ok (.iaload, 1) := by decide +kernel
theorem dL_law_324 : decode cL_law 324 = .ok (.aload_n 0, 1) := by decide +kernel
theorem dL_law_325 : decode cL_law 325 = .ok (.iload_n 3, 1) := by decide +kernel
theorem dL_law_326 : decode cL_law 326 = .ok (.iconst 2, 1) := by decide +kernel
theorem dL_law_327 : decode cL_law 327 = .ok (.iadd, 1) := by decide +kernel
theorem dL_law_328 : decode cL_law 328 = .ok (.iaload, 1) := by decide +kernel
theorem dL_law_329 : decode cL_law 329 = .ok (.invokevirtual 33, 3) := by decide +kernel
theorem dL_law_332 : decode cL_law 332 = .ok (.aload_n 2, 1) := by decide +kernel
theorem dL_law_333 : decode cL_law 333 = .ok (.aload_n 0, 1) := by decide +kernel
theorem dL_law_334 : decode cL_law 334 = .ok (.iload_n 3, 1) := by decide +kernel
theorem dL_law_335 : decode cL_law 335 = .ok (.iconst 1, 1) := by decide +kernel
theorem dL_law_336 : decode cL_law 336 = .ok (.iadd, 1) := by decide +kernel
theorem dL_law_337 : decode cL_law 337 = .ok (.iaload, 1) := by decide +kernel
theorem dL_law_338 : decode cL_law 338 = .ok (.aload_n 0, 1) := by decide +kernel
theorem dL_law_339 : decode cL_law 339 = .ok (.iload_n 3, 1) := by decide +kernel
theorem dL_law_340 : decode cL_law 340 = .ok (.iconst 2, 1) := by decide +kernel
theorem dL_law_341 : decode cL_law 341 = .ok (.iadd, 1) := by decide +kernel
theorem dL_law_342 : decode cL_law 342 = .ok (.iaload, 1) := by decide +kernel
theorem dL_law_343 : decode cL_law 343 = .ok (.invokevirtual 36, 3) := by decide +kernel
theorem dL_law_346 : decode cL_law 346 = .ok (.if_icmp .eq 612, 3) := by decide +kernel
theorem dL_law_349 : decode cL_law 349 = .ok (.iconst 0, 1) := by decide +kernel
theorem dL_law_350 : decode cL_law 350 = .ok (.ireturn, 1) := by decide +kernel
theorem dL_law_351 : decode cL_law 351 = .ok (.aload_n 1, 1) := by decide +kernel
theorem dL_law_352 : decode cL_law 352 = .ok (.aload_n 0, 1) := by decide +kernel
theorem dL_law_353 : decode cL_law 353 = .ok (.iload_n 3, 1) := by decide +kernel
theorem dL_law_354 : decode cL_law 354 = .ok (.iconst 1, 1) := by decide +kernel
theorem dL_law_355 : decode cL_law 355 = .ok (.iadd, 1) := by decide +kernel
theorem dL_law_356 : decode cL_law 356 = .ok (.iaload, 1) := by decide +kernel
theorem dL_law_357 : decode cL_law 357 = .ok (.invokevirtual 37, 3) := by decide +kernel
theorem dL_law_360 : decode cL_law 360 = .ok (.aload_n 2, 1) := by decide +kernel
theorem dL_law_361 : decode cL_law 361 = .ok (.aload_n 0, 1) := by decide +kernel
theorem dL_law_362 : decode cL_law 362 = .ok (.iload_n 3, 1) := by decide +kernel
theorem dL_law_363 : decode cL_law 363 = .ok (.iconst 1, 1) := by decide +kernel
theorem dL_law_364 : decode cL_law 364 = .ok (.iadd, 1) := by decide +kernel
theorem dL_law_365 : decode cL_law 365 = .ok (.iaload, 1) := by decide +kernel
theorem dL_law_366 : decode cL_law 366 = .ok (.invokevirtual 40, 3) := by decide +kernel
theorem dL_law_369 : decode cL_law 369 = .ok (.if_icmp .eq 589, 3) := by decide +kernel
theorem dL_law_372 : decode cL_law 372 = .ok (.iconst 0, 1) := by decide +kernel
theorem dL_law_373 : decode cL_law 373 = .ok (.ireturn, 1) := by decide +kernel
theorem dL_law_374 : decode cL_law 374 = .ok (.aload_n 1, 1) := by decide +kernel
theorem dL_law_375 : decode cL_law 375 = .ok (.aload_n 0, 1) := by decide +kernel
theorem dL_law_376 : decode cL_law 376 = .ok (.iload_n 3, 1) := by decide +kernel
theorem dL_law_377 : decode cL_law 377 = .ok (.iconst 1, 1) := by decide +kernel
theorem dL_law_378 : decode cL_law 378 = .ok (.iadd, 1) := by decide +kernel
theorem dL_law_379 : decode cL_law 379 = .ok (.iaload, 1) := by decide +kernel
theorem dL_law_380 : decode cL_law 380 = .ok (.aload_n 0, 1) := by decide +kernel
theorem dL_law_381 : decode cL_law 381 = .ok (.iload_n 3, 1) := by decide +kernel
theorem dL_law_382 : decode cL_law 382 = .ok (.iconst 2, 1) := by decide +kernel
theorem dL_law_383 : decode cL_law 383 = .ok (.iadd, 1) := by decide +kernel
theorem dL_law_384 : decode cL_law 384 = .ok (.iaload, 1) := by decide +kernel
theorem dL_law_385 : decode cL_law 385 = .ok (.aload_n 0, 1) := by decide +kernel
theorem dL_law_386 : decode cL_law 386 = .ok (.iload_n 3, 1) := by decide +kernel
theorem dL_law_387 : decode cL_law 387 = .ok (.iconst 3, 1) := by decide +kernel
theorem dL_law_388 : decode cL_law 388 = .ok (.iadd, 1) := by decide +kernel
theorem dL_law_389 : decode cL_law 389 = .ok (.iaload, 1) := by decide +kernel
theorem dL_law_390 : decode cL_law 390 = .ok (.invokevirtual 41, 3) := by decide +kernel
theorem dL_law_393 : decode cL_law 393 = .ok (.aload_n 2, 1) := by decide +kernel
theorem dL_law_394 : decode cL_law 394 = .ok (.aload_n 0, 1) := by decide +kernel
theorem dL_law_395 : decode cL_law 395 = .ok (.iload_n 3, 1) := by decide +kernel
theorem dL_law_396 : decode cL_law 396 = .ok (.iconst 1, 1) := by decide +kernel
theorem dL_law_397 : decode cL_law 397 = .ok (.iadd, 1) := by decide +kernel
theorem dL_law_398 : decode cL_law 398 = .ok (.iaload, 1) := by decide +kernel
theorem dL_law_399 : decode cL_law 399 = .ok (.aload_n 0, 1) := by decide +kernel
theorem dL_law_400 : decode cL_law 400 = .ok (.iload_n 3, 1) := by decide +kernel
theorem dL_law_401 : decode cL_law 401 = .ok (.iconst 2, 1) := by decide +kernel
theorem dL_law_402 : decode cL_law 402 = .ok (.iadd, 1) := by decide +kernel
theorem dL_law_403 : decode cL_law 403 = .ok (.iaload, 1) := by decide +kernel
theorem dL_law_404 : decode cL_law 404 = .ok (.aload_n 0, 1) := by decide +kernel
theorem dL_law_405 : decode cL_law 405 = .ok (.iload_n 3, 1) := by decide +kernel
theorem dL_law_406 : decode cL_law 406 = .ok (.iconst 3, 1) := by decide +kernel
theorem dL_law_407 : decode cL_law 407 = .ok (.iadd, 1) := by decide +kernel
theorem dL_law_408 : decode cL_law 408 = .ok (.iaload, 1) := by decide +kernel
theorem dL_law_409 : decode cL_law 409 = .ok (.invokevirtual 44, 3) := by decide +kernel
theorem dL_law_412 : decode cL_law 412 = .ok (.if_icmp .eq 546, 3) := by decide +kernel
theorem dL_law_415 : decode cL_law 415 = .ok (.iconst 0, 1) := by decide +kernel
theorem dL_law_416 : decode cL_law 416 = .ok (.ireturn, 1) := by decide +kernel
theorem dL_law_417 : decode cL_law 417 = .ok (.aload_n 1, 1) := by decide +kernel
theorem dL_law_418 : decode cL_law 418 = .ok (.aload_n 0, 1) := by decide +kernel
theorem dL_law_419 : decode cL_law 419 = .ok (.iload_n 3, 1) := by decide +kernel
theorem dL_law_420 : decode cL_law 420 = .ok (.iconst 1, 1) := by decide +kernel
theorem dL_law_421 : decode cL_law 421 = .ok (.iadd, 1) := by decide +kernel
theorem dL_law_422 : decode cL_law 422 = .ok (.iaload, 1) := by decide +kernel
theorem dL_law_423 : decode cL_law 423 = .ok (.invokevirtual 45, 3) := by decide +kernel
theorem dL_law_426 : decode cL_law 426 = .ok (.aload_n 2, 1) := by decide +kernel
theorem dL_law_427 : decode cL_law 427 = .ok (.aload_n 0, 1) := by decide +kernel
theorem dL_law_428 : decode cL_law 428 = .ok (.iload_n 3, 1) := by decide +kernel
theorem dL_law_429 : decode cL_law 429 = .ok (.iconst 1, 1) := by decide +kernel
theorem dL_law_430 : decode cL_law 430 = .ok (.iadd, 1) := by decide +kernel
theorem dL_law_431 : decode cL_law 431 = .ok (.iaload, 1) := by decide +kernel
theorem dL_law_432 : decode cL_law 432 = .ok (.invokevirtual 48, 3) := by decide +kernel
theorem dL_law_435 : decode cL_law 435 = .ok (.if_icmp .eq 523, 3) := by decide +kernel
theorem dL_law_438 : decode cL_law 438 = .ok (.iconst 0, 1) := by decide +kernel
theorem dL_law_439 : decode cL_law 439 = .ok (.ireturn, 1) := by decide +kernel
theorem dL_law_440 : decode cL_law 440 = .ok (.aload_n 1, 1) := by decide +kernel
theorem dL_law_441 : decode cL_law 441 = .ok (.aload_n 0, 1) := by decide +kernel
theorem dL_law_442 : decode cL_law 442 = .ok (.iload_n 3, 1) := by decide +kernel
theorem dL_law_443 : decode cL_law 443 = .ok (.iconst 1, 1) := by decide +kernel
theorem dL_law_444 : decode cL_law 444 = .ok (.iadd, 1) := by decide +kernel
theorem dL_law_445 : decode cL_law 445 = .ok (.iaload, 1) := by decide +kernel
theorem dL_law_446 : decode cL_law 446 = .ok (.aload_n 0, 1) := by decide +kernel
theorem dL_law_447 : decode cL_law 447 = .ok (.iload_n 3, 1) := by decide +kernel
theorem dL_law_448 : decode cL_law 448 = .ok (.iconst 2, 1) := by decide +kernel
theorem dL_law_449 : decode cL_law 449 = .ok (.iadd, 1) := by decide +kernel
theorem dL_law_450 : decode cL_law 450 = .ok (.iaload, 1) := by decide +kernel
theorem dL_law_451 : decode cL_law 451 = .ok (.ifCond .eq 7, 3) := by decide +kernel
theorem dL_law_454 : decode cL_law 454 = .ok (.iconst 1, 1) := by decide +kernel
theorem dL_law_455 : decode cL_law 455 = .ok (.goto 4, 3) := by decide +kernel
theorem dL_law_458 : decode cL_law 458 = .ok (.iconst 0, 1) := by decide +kernel
theorem dL_law_459 : decode cL_law 459 = .ok (.invokevirtual 49, 3) := by decide +kernel
theorem dL_law_462 : decode cL_law 462 = .ok (.aload_n 2, 1) := by decide +kernel
theorem dL_law_463 : decode cL_law 463 = .ok (.aload_n 0, 1) := by decide +kernel
theorem dL_law_464 : decode cL_law 464 = .ok (.iload_n 3, 1) := by decide +kernel
theorem dL_law_465 : decode cL_law 465 = .ok (.iconst 1, 1) := by decide +kernel
theorem dL_law_466 : decode cL_law 466 = .ok (.iadd, 1) := by decide +kernel
theorem dL_law_467 : decode cL_law 467 = .ok (.iaload, 1) := by decide +kernel
theorem dL_law_468 : decode cL_law 468 = .ok (.aload_n 0, 1) := by decide +kernel
theorem dL_law_469 : decode cL_law 469 = .ok (.iload_n 3, 1) := by decide +kernel
theorem dL_law_470 : decode cL_law 470 = .ok (.iconst 2, 1) := by decide +kernel
theorem dL_law_471 : decode cL_law 471 = .ok (.iadd, 1) := by decide +kernel
theorem dL_law_472 : decode cL_law 472 = .ok (.iaload, 1) := by decide +kernel
theorem dL_law_473 : decode cL_law 473 = .ok (.ifCond .eq 7, 3) := by decide +kernel
theorem dL_law_476 : decode cL_law 476 = .ok (.iconst 1, 1) := by decide +kernel
theorem dL_law_477 : decode cL_law 477 = .ok (.goto 4, 3) := by decide +kernel
theorem dL_law_480 : decode cL_law 480 = .ok (.iconst 0, 1) := by decide +kernel
theorem dL_law_481 : decode cL_law 481 = .ok (.invokevirtual 53, 3) := by decide +kernel
theorem dL_law_484 : decode cL_law 484 = .ok (.if_icmp .eq 474, 3) := by decide +kernel
theorem dL_law_487 : decode cL_law 487 = .ok (.iconst 0, 1) := by decide +kernel
theorem dL_law_488 : decode cL_law 488 = .ok (.ireturn, 1) := by decide +kernel
theorem dL_law_489 : decode cL_law 489 = .ok (.aload_n 1, 1) := by decide +kernel
theorem dL_law_490 : decode cL_law 490 = .ok (.aload_n 0, 1) := by decide +kernel
theorem dL_law_491 : decode cL_law 491 = .ok (.iload_n 3, 1) := by decide +kernel
theorem dL_law_492 : decode cL_law 492 = .ok (.iconst 1, 1) := by decide +kernel
theorem dL_law_493 : decode cL_law 493 = .ok (.iadd, 1) := by decide +kernel
theorem dL_law_494 : decode cL_law 494 = .ok (.iaload, 1) := by decide +kernel
theorem dL_law_495 : decode cL_law 495 = .ok (.invokevirtual 54, 3) := by decide +kernel
theorem dL_law_498 : decode cL_law 498 = .ok (.aload_n 2, 1) := by decide +kernel
theorem dL_law_499 : decode cL_law 499 = .ok (.aload_n 0, 1) := by decide +kernel
theorem dL_law_500 : decode cL_law 500 = .ok (.iload_n 3, 1) := by decide +kernel
theorem dL_law_501 : decode cL_law 501 = .ok (.iconst 1, 1) := by decide +kernel
theorem dL_law_502 : decode cL_law 502 = .ok (.iadd, 1) := by decide +kernel
theorem dL_law_503 : decode cL_law 503 = .ok (.iaload, 1) := by decide +kernel
theorem dL_law_504 : decode cL_law 504 = .ok (.invokevirtual 57, 3) := by decide +kernel
theorem dL_law_507 : decode cL_law 507 = .ok (.if_icmp .eq 451, 3) := by decide +kernel
theorem dL_law_510 : decode cL_law 510 = .ok (.iconst 0, 1) := by decide +kernel
theorem dL_law_511 : decode cL_law 511 = .ok (.ireturn, 1) := by decide +kernel
theorem dL_law_512 : decode cL_law 512 = .ok (.aload_n 1, 1) := by decide +kernel
theorem dL_law_513 : decode cL_law 513 = .ok (.aload_n 0, 1) := by decide +kernel
theorem dL_law_514 : decode cL_law 514 = .ok (.iload_n 3, 1) := by decide +kernel
theorem dL_law_515 : decode cL_law 515 = .ok (.iconst 1, 1) := by decide +kernel
theorem dL_law_516 : decode cL_law 516 = .ok (.iadd, 1) := by decide +kernel
theorem dL_law_517 : decode cL_law 517 = .ok (.iaload, 1) := by decide +kernel
theorem dL_law_518 : decode cL_law 518 = .ok (.aload_n 0, 1) := by decide +kernel
theorem dL_law_519 : decode cL_law 519 = .ok (.iload_n 3, 1) := by decide +kernel
theorem dL_law_520 : decode cL_law 520 = .ok (.iconst 2, 1) := by decide +kernel
theorem dL_law_521 : decode cL_law 521 = .ok (.iadd, 1) := by decide +kernel
theorem dL_law_522 : decode cL_law 522 = .ok (.iaload, 1) := by decide +kernel
theorem dL_law_523 : decode cL_law 523 = .ok (.invokevirtual 58, 3) := by decide +kernel
theorem dL_law_526 : decode cL_law 526 = .ok (.aload_n 2, 1) := by decide +kernel
theorem dL_law_527 : decode cL_law 527 = .ok (.aload_n 0, 1) := by decide +kernel
theorem dL_law_528 : decode cL_law 528 = .ok (.iload_n 3, 1) := by decide +kernel
theorem dL_law_529 : decode cL_law 529 = .ok (.iconst 1, 1) := by decide +kernel
theorem dL_law_530 : decode cL_law 530 = .ok (.iadd, 1) := by decide +kernel
theorem dL_law_531 : decode cL_law 531 = .ok (.iaload, 1) := by decide +kernel
theorem dL_law_532 : decode cL_law 532 = .ok (.aload_n 0, 1) := by decide +kernel
theorem dL_law_533 : decode cL_law 533 = .ok (.iload_n 3, 1) := by decide +kernel
theorem dL_law_534 : decode cL_law 534 = .ok (.iconst 2, 1) := by decide +kernel
theorem dL_law_535 : decode cL_law 535 = .ok (.iadd, 1) := by decide +kernel
theorem dL_law_536 : decode cL_law 536 = .ok (.iaload, 1) := by decide +kernel
theorem dL_law_537 : decode cL_law 537 = .ok (.invokevirtual 61, 3) := by decide +kernel
theorem dL_law_540 : decode cL_law 540 = .ok (.if_icmp .eq 418, 3) := by decide +kernel
theorem dL_law_543 : decode cL_law 543 = .ok (.iconst 0, 1) := by decide +kernel
theorem dL_law_544 : decode cL_law 544 = .ok (.ireturn, 1) := by decide +kernel
theorem dL_law_545 : decode cL_law 545 = .ok (.aload_n 1, 1) := by decide +kernel
theorem dL_law_546 : decode cL_law 546 = .ok (.aload_n 0, 1) := by decide +kernel
theorem dL_law_547 : decode cL_law 547 = .ok (.iload_n 3, 1) := by decide +kernel
theorem dL_law_548 : decode cL_law 548 = .ok (.iconst 1, 1) := by decide +kernel
theorem dL_law_549 : decode cL_law 549 = .ok (.iadd, 1) := by decide +kernel
theorem dL_law_550 : decode cL_law 550 = .ok (.iaload, 1) := by decide +kernel
theorem dL_law_551 : decode cL_law 551 = .ok (.invokevirtual 62, 3) := by decide +kernel
theorem dL_law_554 : decode cL_law 554 = .ok (.aload_n 2, 1) := by decide +kernel
theorem dL_law_555 : decode cL_law 555 = .ok (.aload_n 0, 1) := by decide +kernel
theorem dL_law_556 : decode cL_law 556 = .ok (.iload_n 3, 1) := by decide +kernel
theorem dL_law_557 : decode cL_law 557 = .ok (.iconst 1, 1) := by decide +kernel
theorem dL_law_558 : decode cL_law 558 = .ok (.iadd, 1) := by decide +kernel
theorem dL_law_559 : decode cL_law 559 = .ok (.iaload, 1) := by decide +kernel
theorem dL_law_560 : decode cL_law 560 = .ok (.invokevirtual 65, 3) := by decide +kernel
theorem dL_law_563 : decode cL_law 563 = .ok (.if_icmp .eq 395, 3) := by decide +kernel
theorem dL_law_566 : decode cL_law 566 = .ok (.iconst 0, 1) := by decide +kernel
theorem dL_law_567 : decode cL_law 567 = .ok (.ireturn, 1) := by decide +kernel
theorem dL_law_568 : decode cL_law 568 = .ok (.aload_n 1, 1) := by decide +kernel
theorem dL_law_569 : decode cL_law 569 = .ok (.aload_n 0, 1) := by decide +kernel
theorem dL_law_570 : decode cL_law 570 = .ok (.iload_n 3, 1) := by decide +kernel
theorem dL_law_571 : decode cL_law 571 = .ok (.iconst 1, 1) := by decide +kernel
theorem dL_law_572 : decode cL_law 572 = .ok (.iadd, 1) := by decide +kernel
theorem dL_law_573 : decode cL_law 573 = .ok (.iaload, 1) := by decide +kernel
theorem dL_law_574 : decode cL_law 574 = .ok (.i2c, 1) := by decide +kernel
theorem dL_law_575 : decode cL_law 575 = .ok (.invokevirtual 66, 3) := by decide +kernel
theorem dL_law_578 : decode cL_law 578 = .ok (.aload_n 2, 1) := by decide +kernel
theorem dL_law_579 : decode cL_law 579 = .ok (.aload_n 0, 1) := by decide +kernel
theorem dL_law_580 : decode cL_law 580 = .ok (.iload_n 3, 1) := by decide +kernel
theorem dL_law_581 : decode cL_law 581 = .ok (.iconst 1, 1) := by decide +kernel
theorem dL_law_582 : decode cL_law 582 = .ok (.iadd, 1) := by decide +kernel
theorem dL_law_583 : decode cL_law 583 = .ok (.iaload, 1) := by decide +kernel
theorem dL_law_584 : decode cL_law 584 = .ok (.i2c, 1) := by decide +kernel
theorem dL_law_585 : decode cL_law 585 = .ok (.invokevirtual 70, 3) := by decide +kernel
theorem dL_law_588 : decode cL_law 588 = .ok (.if_icmp .eq 370, 3) := by decide +kernel
theorem dL_law_591 : decode cL_law 591 = .ok (.iconst 0, 1) := by decide +kernel
theorem dL_law_592 : decode cL_law 592 = .ok (.ireturn, 1) := by decide +kernel
theorem dL_law_593 : decode cL_law 593 = .ok (.aload_n 1, 1) := by decide +kernel
theorem dL_law_594 : decode cL_law 594 = .ok (.invokevirtual 71, 3) := by decide +kernel
theorem dL_law_597 : decode cL_law 597 = .ok (.aload_n 2, 1) := by decide +kernel
theorem dL_law_598 : decode cL_law 598 = .ok (.invokevirtual 75, 3) := by decide +kernel
theorem dL_law_601 : decode cL_law 601 = .ok (.if_icmp .eq 357, 3) := by decide +kernel
theorem dL_law_604 : decode cL_law 604 = .ok (.iconst 0, 1) := by decide +kernel
theorem dL_law_605 : decode cL_law 605 = .ok (.ireturn, 1) := by decide +kernel
theorem dL_law_606 : decode cL_law 606 = .ok (.aload_n 1, 1) := by decide +kernel
theorem dL_law_607 : decode cL_law 607 = .ok (.invokevirtual 76, 3) := by decide +kernel
theorem dL_law_610 : decode cL_law 610 = .ok (.aload_n 2, 1) := by decide +kernel
theorem dL_law_611 : decode cL_law 611 = .ok (.invokevirtual 79, 3) := by decide +kernel
theorem dL_law_614 : decode cL_law 614 = .ok (.if_icmp .eq 344, 3) := by decide +kernel
theorem dL_law_617 : decode cL_law 617 = .ok (.iconst 0, 1) := by decide +kernel
theorem dL_law_618 : decode cL_law 618 = .ok (.ireturn, 1) := by decide +kernel
theorem dL_law_619 : decode cL_law 619 = .ok (.aload_n 1, 1) := by decide +kernel
theorem dL_law_620 : decode cL_law 620 = .ok (.invokevirtual 80, 3) := by decide +kernel
theorem dL_law_623 : decode cL_law 623 = .ok (.aload_n 2, 1) := by decide +kernel
theorem dL_law_624 : decode cL_law 624 = .ok (.invokevirtual 83, 3) := by decide +kernel
theorem dL_law_627 : decode cL_law 627 = .ok (.if_icmp .eq 331, 3) := by decide +kernel
theorem dL_law_630 : decode cL_law 630 = .ok (.iconst 0, 1) := by decide +kernel
theorem dL_law_631 : decode cL_law 631 = .ok (.ireturn, 1) := by decide +kernel
theorem dL_law_632 : decode cL_law 632 = .ok (.aload_n 1, 1) := by decide +kernel
theorem dL_law_633 : decode cL_law 633 = .ok (.invokevirtual 84, 3) := by decide +kernel
theorem dL_law_636 : decode cL_law 636 = .ok (.aload_n 2, 1) := by decide +kernel
theorem dL_law_637 : decode cL_law 637 = .ok (.invokevirtual 87, 3) := by decide +kernel
theorem dL_law_640 : decode cL_law 640 = .ok (.if_icmp .eq 318, 3) := by decide +kernel
theorem dL_law_643 : decode cL_law 643 = .ok (.iconst 0, 1) := by decide +kernel
theorem dL_law_644 : decode cL_law 644 = .ok (.ireturn, 1) := by decide +kernel
theorem dL_law_645 : decode cL_law 645 = .ok (.aload_n 1, 1) := by decide +kernel
theorem dL_law_646 : decode cL_law 646 = .ok (.invokevirtual 88, 3) := by decide +kernel
theorem dL_law_649 : decode cL_law 649 = .ok (.aload_n 2, 1) := by decide +kernel
theorem dL_law_650 : decode cL_law 650 = .ok (.invokevirtual 91, 3) := by decide +kernel
theorem dL_law_653 : decode cL_law 653 = .ok (.if_icmp .eq 305, 3) := by decide +kernel
theorem dL_law_656 : decode cL_law 656 = .ok (.iconst 0, 1) := by decide +kernel
theorem dL_law_657 : decode cL_law 657 = .ok (.ireturn, 1) := by decide +kernel
theorem dL_law_658 : decode cL_law 658 = .ok (.aload_n 1, 1) := by decide +kernel
theorem dL_law_659 : decode cL_law 659 = .ok (.aload_n 0, 1) := by decide +kernel
theorem dL_law_660 : decode cL_law 660 = .ok (.iload_n 3, 1) := by decide +kernel
theorem dL_law_661 : decode cL_law 661 = .ok (.iconst 1, 1) := by decide +kernel
theorem dL_law_662 : decode cL_law 662 = .ok (.iadd, 1) := by decide +kernel
theorem dL_law_663 : decode cL_law 663 = .ok (.iaload, 1) := by decide +kernel
theorem dL_law_664 : decode cL_law 664 = .ok (.aload_n 0, 1) := by decide +kernel
theorem dL_law_665 : decode cL_law 665 = .ok (.iload_n 3, 1) := by decide +kernel
theorem dL_law_666 : decode cL_law 666 = .ok (.iconst 2, 1) := by decide +kernel
theorem dL_law_667 : decode cL_law 667 = .ok (.iadd, 1) := by decide +kernel
theorem dL_law_668 : decode cL_law 668 = .ok (.iaload, 1) := by decide +kernel
theorem dL_law_669 : decode cL_law 669 = .ok (.invokevirtual 92, 3) := by decide +kernel
theorem dL_law_672 : decode cL_law 672 = .ok (.aload_n 2, 1) := by decide +kernel
theorem dL_law_673 : decode cL_law 673 = .ok (.aload_n 0, 1) := by decide +kernel
theorem dL_law_674 : decode cL_law 674 = .ok (.iload_n 3, 1) := by decide +kernel
theorem dL_law_675 : decode cL_law 675 = .ok (.iconst 1, 1) := by decide +kernel
theorem dL_law_676 : decode cL_law 676 = .ok (.iadd, 1) := by decide +kernel
theorem dL_law_677 : decode cL_law 677 = .ok (.iaload, 1) := by decide +kernel
theorem dL_law_678 : decode cL_law 678 = .ok (.aload_n 0, 1) := by decide +kernel
theorem dL_law_679 : decode cL_law 679 = .ok (.iload_n 3, 1) := by decide +kernel
theorem dL_law_680 : decode cL_law 680 = .ok (.iconst 2, 1) := by decide +kernel
theorem dL_law_681 : decode cL_law 681 = .ok (.iadd, 1) := by decide +kernel
theorem dL_law_682 : decode cL_law 682 = .ok (.iaload, 1) := by decide +kernel
theorem dL_law_683 : decode cL_law 683 = .ok (.invokevirtual 95, 3) := by decide +kernel
theorem dL_law_686 : decode cL_law 686 = .ok (.if_icmp .eq 272, 3) := by decide +kernel
theorem dL_law_689 : decode cL_law 689 = .ok (.iconst 0, 1) := by decide +kernel
theorem dL_law_690 : decode cL_law 690 = .ok (.ireturn, 1) := by decide +kernel
theorem dL_law_691 : decode cL_law 691 = .ok (.aload_n 1, 1) := by decide +kernel
theorem dL_law_692 : decode cL_law 692 = .ok (.aload_n 0, 1) := by decide +kernel
theorem dL_law_693 : decode cL_law 693 = .ok (.iload_n 3, 1) := by decide +kernel
theorem dL_law_694 : decode cL_law 694 = .ok (.iconst 1, 1) := by decide +kernel
theorem dL_law_695 : decode cL_law 695 = .ok (.iadd, 1) := by decide +kernel
theorem dL_law_696 : decode cL_law 696 = .ok (.iaload, 1) := by decide +kernel
theorem dL_law_697 : decode cL_law 697 = .ok (.aload_n 0, 1) := by decide +kernel
theorem dL_law_698 : decode cL_law 698 = .ok (.iload_n 3, 1) := by decide +kernel
theorem dL_law_699 : decode cL_law 699 = .ok (.iconst 2, 1) := by decide +kernel
theorem dL_law_700 : decode cL_law 700 = .ok (.iadd, 1) := by decide +kernel
theorem dL_law_701 : decode cL_law 701 = .ok (.iaload, 1) := by decide +kernel
theorem dL_law_702 : decode cL_law 702 = .ok (.aload_n 0, 1) := by decide +kernel
theorem dL_law_703 : decode cL_law 703 = .ok (.iload_n 3, 1) := by decide +kernel
theorem dL_law_704 : decode cL_law 704 = .ok (.iconst 3, 1) := by decide +kernel
theorem dL_law_705 : decode cL_law 705 = .ok (.iadd, 1) := by decide +kernel
theorem dL_law_706 : decode cL_law 706 = .ok (.iaload, 1) := by decide +kernel
theorem dL_law_707 : decode cL_law 707 = .ok (.invokevirtual 96, 3) := by decide +kernel
theorem dL_law_710 : decode cL_law 710 = .ok (.aload_n 2, 1) := by decide +kernel
theorem dL_law_711 : decode cL_law 711 = .ok (.aload_n 0, 1) := by decide +kernel
theorem dL_law_712 : decode cL_law 712 = .ok (.iload_n 3, 1) := by decide +kernel
theorem dL_law_713 : decode cL_law 713 = .ok (.iconst 1, 1) := by decide +kernel
theorem dL_law_714 : decode cL_law 714 = .ok (.iadd, 1) := by decide +kernel
theorem dL_law_715 : decode cL_law 715 = .ok (.iaload, 1) := by decide +kernel
theorem dL_law_716 : decode cL_law 716 = .ok (.aload_n 0, 1) := by decide +kernel
theorem dL_law_717 : decode cL_law 717 = .ok (.iload_n 3, 1) := by decide +kernel
theorem dL_law_718 : decode cL_law 718 = .ok (.iconst 2, 1) := by decide +kernel
theorem dL_law_719 : decode cL_law 719 = .ok (.iadd, 1) := by decide +kernel
theorem dL_law_720 : decode cL_law 720 = .ok (.iaload, 1) := by decide +kernel
theorem dL_law_721 : decode cL_law 721 = .ok (.aload_n 0, 1) := by decide +kernel
theorem dL_law_722 : decode cL_law 722 = .ok (.iload_n 3, 1) := by decide +kernel
theorem dL_law_723 : decode cL_law 723 = .ok (.iconst 3, 1) := by decide +kernel
theorem dL_law_724 : decode cL_law 724 = .ok (.iadd, 1) := by decide +kernel
theorem dL_law_725 : decode cL_law 725 = .ok (.iaload, 1) := by decide +kernel
theorem dL_law_726 : decode cL_law 726 = .ok (.invokevirtual 99, 3) := by decide +kernel
theorem dL_law_729 : decode cL_law 729 = .ok (.if_icmp .eq 229, 3) := by decide +kernel
theorem dL_law_732 : decode cL_law 732 = .ok (.iconst 0, 1) := by decide +kernel
theorem dL_law_733 : decode cL_law 733 = .ok (.ireturn, 1) := by decide +kernel
theorem dL_law_734 : decode cL_law 734 = .ok (.aload_n 1, 1) := by decide +kernel
theorem dL_law_735 : decode cL_law 735 = .ok (.aload_n 0, 1) := by decide +kernel
theorem dL_law_736 : decode cL_law 736 = .ok (.iload_n 3, 1) := by decide +kernel
theorem dL_law_737 : decode cL_law 737 = .ok (.iconst 1, 1) := by decide +kernel
theorem dL_law_738 : decode cL_law 738 = .ok (.iadd, 1) := by decide +kernel
theorem dL_law_739 : decode cL_law 739 = .ok (.iaload, 1) := by decide +kernel
theorem dL_law_740 : decode cL_law 740 = .ok (.aload_n 0, 1) := by decide +kernel
theorem dL_law_741 : decode cL_law 741 = .ok (.iload_n 3, 1) := by decide +kernel
theorem dL_law_742 : decode cL_law 742 = .ok (.iconst 2, 1) := by decide +kernel
theorem dL_law_743 : decode cL_law 743 = .ok (.iadd, 1) := by decide +kernel
theorem dL_law_744 : decode cL_law 744 = .ok (.iaload, 1) := by decide +kernel
theorem dL_law_745 : decode cL_law 745 = .ok (.invokevirtual 100, 3) := by decide +kernel
theorem dL_law_748 : decode cL_law 748 = .ok (.aload_n 2, 1) := by decide +kernel
theorem dL_law_749 : decode cL_law 749 = .ok (.aload_n 0, 1) := by decide +kernel
theorem dL_law_750 : decode cL_law 750 = .ok (.iload_n 3, 1) := by decide +kernel
theorem dL_law_751 : decode cL_law 751 = .ok (.iconst 1, 1) := by decide +kernel
theorem dL_law_752 : decode cL_law 752 = .ok (.iadd, 1) := by decide +kernel
theorem dL_law_753 : decode cL_law 753 = .ok (.iaload, 1) := by decide +kernel
theorem dL_law_754 : decode cL_law 754 = .ok (.aload_n 0, 1) := by decide +kernel
theorem dL_law_755 : decode cL_law 755 = .ok (.iload_n 3, 1) := by decide +kernel
theorem dL_law_756 : decode cL_law 756 = .ok (.iconst 2, 1) := by decide +kernel
theorem dL_law_757 : decode cL_law 757 = .ok (.iadd, 1) := by decide +kernel
theorem dL_law_758 : decode cL_law 758 = .ok (.iaload, 1) := by decide +kernel
theorem dL_law_759 : decode cL_law 759 = .ok (.invokevirtual 103, 3) := by decide +kernel
theorem dL_law_762 : decode cL_law 762 = .ok (.if_icmp .eq 196, 3) := by decide +kernel
theorem dL_law_765 : decode cL_law 765 = .ok (.iconst 0, 1) := by decide +kernel
theorem dL_law_766 : decode cL_law 766 = .ok (.ireturn, 1) := by decide +kernel
theorem dL_law_767 : decode cL_law 767 = .ok (.aload_n 1, 1) := by decide +kernel
theorem dL_law_768 : decode cL_law 768 = .ok (.aload_n 0, 1) := by decide +kernel
theorem dL_law_769 : decode cL_law 769 = .ok (.iload_n 3, 1) := by decide +kernel
theorem dL_law_770 : decode cL_law 770 = .ok (.iconst 1, 1) := by decide +kernel
theorem dL_law_771 : decode cL_law 771 = .ok (.iadd, 1) := by decide +kernel
theorem dL_law_772 : decode cL_law 772 = .ok (.iaload, 1) := by decide +kernel
theorem dL_law_773 : decode cL_law 773 = .ok (.aload_n 0, 1) := by decide +kernel
theorem dL_law_774 : decode cL_law 774 = .ok (.iload_n 3, 1) := by decide +kernel
theorem dL_law_775 : decode cL_law 775 = .ok (.iconst 2, 1) := by decide +kernel
theorem dL_law_776 : decode cL_law 776 = .ok (.iadd, 1) := by decide +kernel
theorem dL_law_777 : decode cL_law 777 = .ok (.iaload, 1) := by decide +kernel
theorem dL_law_778 : decode cL_law 778 = .ok (.invokevirtual 104, 3) := by decide +kernel
theorem dL_law_781 : decode cL_law 781 = .ok (.aload_n 2, 1) := by decide +kernel
theorem dL_law_782 : decode cL_law 782 = .ok (.aload_n 0, 1) := by decide +kernel
theorem dL_law_783 : decode cL_law 783 = .ok (.iload_n 3, 1) := by decide +kernel
theorem dL_law_784 : decode cL_law 784 = .ok (.iconst 1, 1) := by decide +kernel
theorem dL_law_785 : decode cL_law 785 = .ok (.iadd, 1) := by decide +kernel
theorem dL_law_786 : decode cL_law 786 = .ok (.iaload, 1) := by decide +kernel
theorem dL_law_787 : decode cL_law 787 = .ok (.aload_n 0, 1) := by decide +kernel
theorem dL_law_788 : decode cL_law 788 = .ok (.iload_n 3, 1) := by decide +kernel
theorem dL_law_789 : decode cL_law 789 = .ok (.iconst 2, 1) := by decide +kernel
theorem dL_law_790 : decode cL_law 790 = .ok (.iadd, 1) := by decide +kernel
theorem dL_law_791 : decode cL_law 791 = .ok (.iaload, 1) := by decide +kernel
theorem dL_law_792 : decode cL_law 792 = .ok (.invokevirtual 107, 3) := by decide +kernel
theorem dL_law_795 : decode cL_law 795 = .ok (.if_icmp .eq 163, 3) := by decide +kernel
theorem dL_law_798 : decode cL_law 798 = .ok (.iconst 0, 1) := by decide +kernel
theorem dL_law_799 : decode cL_law 799 = .ok (.ireturn, 1) := by decide +kernel
theorem dL_law_800 : decode cL_law 800 = .ok (.aload_n 1, 1) := by decide +kernel
theorem dL_law_801 : decode cL_law 801 = .ok (.aload_n 0, 1) := by decide +kernel
theorem dL_law_802 : decode cL_law 802 = .ok (.iload_n 3, 1) := by decide +kernel
theorem dL_law_803 : decode cL_law 803 = .ok (.iconst 1, 1) := by decide +kernel
theorem dL_law_804 : decode cL_law 804 = .ok (.iadd, 1) := by decide +kernel
theorem dL_law_805 : decode cL_law 805 = .ok (.iaload, 1) := by decide +kernel
theorem dL_law_806 : decode cL_law 806 = .ok (.aload_n 0, 1) := by decide +kernel
theorem dL_law_807 : decode cL_law 807 = .ok (.iload_n 3, 1) := by decide +kernel
theorem dL_law_808 : decode cL_law 808 = .ok (.iconst 2, 1) := by decide +kernel
theorem dL_law_809 : decode cL_law 809 = .ok (.iadd, 1) := by decide +kernel
theorem dL_law_810 : decode cL_law 810 = .ok (.iaload, 1) := by decide +kernel
theorem dL_law_811 : decode cL_law 811 = .ok (.invokevirtual 108, 3) := by decide +kernel
theorem dL_law_814 : decode cL_law 814 = .ok (.aload_n 2, 1) := by decide +kernel
theorem dL_law_815 : decode cL_law 815 = .ok (.aload_n 0, 1) := by decide +kernel
theorem dL_law_816 : decode cL_law 816 = .ok (.iload_n 3, 1) := by decide +kernel
theorem dL_law_817 : decode cL_law 817 = .ok (.iconst 1, 1) := by decide +kernel
theorem dL_law_818 : decode cL_law 818 = .ok (.iadd, 1) := by decide +kernel
theorem dL_law_819 : decode cL_law 819 = .ok (.iaload, 1) := by decide +kernel
theorem dL_law_820 : decode cL_law 820 = .ok (.aload_n 0, 1) := by decide +kernel
theorem dL_law_821 : decode cL_law 821 = .ok (.iload_n 3, 1) := by decide +kernel
theorem dL_law_822 : decode cL_law 822 = .ok (.iconst 2, 1) := by decide +kernel
theorem dL_law_823 : decode cL_law 823 = .ok (.iadd, 1) := by decide +kernel
theorem dL_law_824 : decode cL_law 824 = .ok (.iaload, 1) := by decide +kernel
theorem dL_law_825 : decode cL_law 825 = .ok (.invokevirtual 111, 3) := by decide +kernel
theorem dL_law_828 : decode cL_law 828 = .ok (.if_icmp .eq 130, 3) := by decide +kernel
theorem dL_law_831 : decode cL_law 831 = .ok (.iconst 0, 1) := by decide +kernel
theorem dL_law_832 : decode cL_law 832 = .ok (.ireturn, 1) := by decide +kernel
theorem dL_law_833 : decode cL_law 833 = .ok (.aload_n 1, 1) := by decide +kernel
theorem dL_law_834 : decode cL_law 834 = .ok (.aload_n 0, 1) := by decide +kernel
theorem dL_law_835 : decode cL_law 835 = .ok (.iload_n 3, 1) := by decide +kernel
theorem dL_law_836 : decode cL_law 836 = .ok (.iconst 1, 1) := by decide +kernel
theorem dL_law_837 : decode cL_law 837 = .ok (.iadd, 1) := by decide +kernel
theorem dL_law_838 : decode cL_law 838 = .ok (.iaload, 1) := by decide +kernel
theorem dL_law_839 : decode cL_law 839 = .ok (.aload_n 0, 1) := by decide +kernel
theorem dL_law_840 : decode cL_law 840 = .ok (.iload_n 3, 1) := by decide +kernel
theorem dL_law_841 : decode cL_law 841 = .ok (.iconst 2, 1) := by decide +kernel
theorem dL_law_842 : decode cL_law 842 = .ok (.iadd, 1) := by decide +kernel
theorem dL_law_843 : decode cL_law 843 = .ok (.iaload, 1) := by decide +kernel
theorem dL_law_844 : decode cL_law 844 = .ok (.invokevirtual 112, 3) := by decide +kernel
theorem dL_law_847 : decode cL_law 847 = .ok (.aload_n 2, 1) := by decide +kernel
theorem dL_law_848 : decode cL_law 848 = .ok (.aload_n 0, 1) := by decide +kernel
theorem dL_law_849 : decode cL_law 849 = .ok (.iload_n 3, 1) := by decide +kernel
theorem dL_law_850 : decode cL_law 850 = .ok (.iconst 1, 1) := by decide +kernel
theorem dL_law_851 : decode cL_law 851 = .ok (.iadd, 1) := by decide +kernel
theorem dL_law_852 : decode cL_law 852 = .ok (.iaload, 1) := by decide +kernel
theorem dL_law_853 : decode cL_law 853 = .ok (.aload_n 0, 1) := by decide +kernel
theorem dL_law_854 : decode cL_law 854 = .ok (.iload_n 3, 1) := by decide +kernel
theorem dL_law_855 : decode cL_law 855 = .ok (.iconst 2, 1) := by decide +kernel
theorem dL_law_856 : decode cL_law 856 = .ok (.iadd, 1) := by decide +kernel
theorem dL_law_857 : decode cL_law 857 = .ok (.iaload, 1) := by decide +kernel
theorem dL_law_858 : decode cL_law 858 = .ok (.invokevirtual 115, 3) := by decide +kernel
theorem dL_law_861 : decode cL_law 861 = .ok (.if_icmp .eq 97, 3) := by decide +kernel
theorem dL_law_864 : decode cL_law 864 = .ok (.iconst 0, 1) := by decide +kernel
theorem dL_law_865 : decode cL_law 865 = .ok (.ireturn, 1) := by decide +kernel
theorem dL_law_866 : decode cL_law 866 = .ok (.aload_n 1, 1) := by decide +kernel
theorem dL_law_867 : decode cL_law 867 = .ok (.aload_n 0, 1) := by decide +kernel
theorem dL_law_868 : decode cL_law 868 = .ok (.iload_n 3, 1) := by decide +kernel
theorem dL_law_869 : decode cL_law 869 = .ok (.iconst 1, 1) := by decide +kernel
theorem dL_law_870 : decode cL_law 870 = .ok (.iadd, 1) := by decide +kernel
theorem dL_law_871 : decode cL_law 871 = .ok (.iaload, 1) := by decide +kernel
theorem dL_law_872 : decode cL_law 872 = .ok (.invokevirtual 116, 3) := by decide +kernel
theorem dL_law_875 : decode cL_law 875 = .ok (.aload_n 2, 1) := by decide +kernel
theorem dL_law_876 : decode cL_law 876 = .ok (.aload_n 0, 1) := by decide +kernel
theorem dL_law_877 : decode cL_law 877 = .ok (.iload_n 3, 1) := by decide +kernel
theorem dL_law_878 : decode cL_law 878 = .ok (.iconst 1, 1) := by decide +kernel
theorem dL_law_879 : decode cL_law 879 = .ok (.iadd, 1) := by decide +kernel
theorem dL_law_880 : decode cL_law 880 = .ok (.iaload, 1) := by decide +kernel
theorem dL_law_881 : decode cL_law 881 = .ok (.invokevirtual 119, 3) := by decide +kernel
theorem dL_law_884 : decode cL_law 884 = .ok (.if_icmp .eq 74, 3) := by decide +kernel
theorem dL_law_887 : decode cL_law 887 = .ok (.iconst 0, 1) := by decide +kernel
theorem dL_law_888 : decode cL_law 888 = .ok (.ireturn, 1) := by decide +kernel
theorem dL_law_889 : decode cL_law 889 = .ok (.aload_n 1, 1) := by decide +kernel
theorem dL_law_890 : decode cL_law 890 = .ok (.aload_n 0, 1) := by decide +kernel
theorem dL_law_891 : decode cL_law 891 = .ok (.iload_n 3, 1) := by decide +kernel
theorem dL_law_892 : decode cL_law 892 = .ok (.iconst 1, 1) := by decide +kernel
theorem dL_law_893 : decode cL_law 893 = .ok (.iadd, 1) := by decide +kernel
theorem dL_law_894 : decode cL_law 894 = .ok (.iaload, 1) := by decide +kernel
theorem dL_law_895 : decode cL_law 895 = .ok (.invokevirtual 120, 3) := by decide +kernel
theorem dL_law_898 : decode cL_law 898 = .ok (.aload_n 2, 1) := by decide +kernel
theorem dL_law_899 : decode cL_law 899 = .ok (.aload_n 0, 1) := by decide +kernel
theorem dL_law_900 : decode cL_law 900 = .ok (.iload_n 3, 1) := by decide +kernel
theorem dL_law_901 : decode cL_law 901 = .ok (.iconst 1, 1) := by decide +kernel
theorem dL_law_902 : decode cL_law 902 = .ok (.iadd, 1) := by decide +kernel
theorem dL_law_903 : decode cL_law 903 = .ok (.iaload, 1) := by decide +kernel
theorem dL_law_904 : decode cL_law 904 = .ok (.invokevirtual 123, 3) := by decide +kernel
theorem dL_law_907 : decode cL_law 907 = .ok (.if_icmp .eq 51, 3) := by decide +kernel
theorem dL_law_910 : decode cL_law 910 = .ok (.iconst 0, 1) := by decide +kernel
theorem dL_law_911 : decode cL_law 911 = .ok (.ireturn, 1) := by decide +kernel
theorem dL_law_912 : decode cL_law 912 = .ok (.aload_n 1, 1) := by decide +kernel
theorem dL_law_913 : decode cL_law 913 = .ok (.aload_n 0, 1) := by decide +kernel
theorem dL_law_914 : decode cL_law 914 = .ok (.iload_n 3, 1) := by decide +kernel
theorem dL_law_915 : decode cL_law 915 = .ok (.iconst 1, 1) := by decide +kernel
theorem dL_law_916 : decode cL_law 916 = .ok (.iadd, 1) := by decide +kernel
theorem dL_law_917 : decode cL_law 917 = .ok (.iaload, 1) := by decide +kernel
theorem dL_law_918 : decode cL_law 918 = .ok (.invokevirtual 124, 3) := by decide +kernel
theorem dL_law_921 : decode cL_law 921 = .ok (.aload_n 2, 1) := by decide +kernel
theorem dL_law_922 : decode cL_law 922 = .ok (.aload_n 0, 1) := by decide +kernel
theorem dL_law_923 : decode cL_law 923 = .ok (.iload_n 3, 1) := by decide +kernel
theorem dL_law_924 : decode cL_law 924 = .ok (.iconst 1, 1) := by decide +kernel
theorem dL_law_925 : decode cL_law 925 = .ok (.iadd, 1) := by decide +kernel
theorem dL_law_926 : decode cL_law 926 = .ok (.iaload, 1) := by decide +kernel
theorem dL_law_927 : decode cL_law 927 = .ok (.invokevirtual 127, 3) := by decide +kernel
theorem dL_law_930 : decode cL_law 930 = .ok (.if_icmp .eq 28, 3) := by decide +kernel
theorem dL_law_933 : decode cL_law 933 = .ok (.iconst 0, 1) := by decide +kernel
theorem dL_law_934 : decode cL_law 934 = .ok (.ireturn, 1) := by decide +kernel
theorem dL_law_935 : decode cL_law 935 = .ok (.aload_n 1, 1) := by decide +kernel
theorem dL_law_936 : decode cL_law 936 = .ok (.aload_n 0, 1) := by decide +kernel
theorem dL_law_937 : decode cL_law 937 = .ok (.iload_n 3, 1) := by decide +kernel
theorem dL_law_938 : decode cL_law 938 = .ok (.iconst 1, 1) := by decide +kernel
theorem dL_law_939 : decode cL_law 939 = .ok (.iadd, 1) := by decide +kernel
theorem dL_law_940 : decode cL_law 940 = .ok (.iaload, 1) := by decide +kernel
theorem dL_law_941 : decode cL_law 941 = .ok (.invokevirtual 128, 3) := by decide +kernel
theorem dL_law_944 : decode cL_law 944 = .ok (.aload_n 2, 1) := by decide +kernel
theorem dL_law_945 : decode cL_law 945 = .ok (.aload_n 0, 1) := by decide +kernel
theorem dL_law_946 : decode cL_law 946 = .ok (.iload_n 3, 1) := by decide +kernel
theorem dL_law_947 : decode cL_law 947 = .ok (.iconst 1, 1) := by decide +kernel
theorem dL_law_948 : decode cL_law 948 = .ok (.iadd, 1) := by decide +kernel
theorem dL_law_949 : decode cL_law 949 = .ok (.iaload, 1) := by decide +kernel
theorem dL_law_950 : decode cL_law 950 = .ok (.invokevirtual 131, 3) := by decide +kernel
theorem dL_law_953 : decode cL_law 953 = .ok (.if_icmp .eq 5, 3) := by decide +kernel
theorem dL_law_956 : decode cL_law 956 = .ok (.iconst 0, 1) := by decide +kernel
theorem dL_law_957 : decode cL_law 957 = .ok (.ireturn, 1) := by decide +kernel
theorem dL_law_958 : decode cL_law 958 = .ok (.iinc 3 4, 3) := by decide +kernel
theorem dL_law_961 : decode cL_law 961 = .ok (.goto (-943), 3) := by decide +kernel
theorem dL_law_964 : decode cL_law 964 = .ok (.iconst 1, 1) := by decide +kernel
theorem dL_law_965 : decode cL_law 965 = .ok (.ireturn, 1) := by decide +kernel
end
section
/-! ===== the words of the walk: values, memory, and what a frame's road to its end is (sM), and a method's (cN) ===== -/
abbrev AV : Type := Int ⊕ Nat
abbrev MI : Type := Nat → Nat → Int
abbrev MR : Type := Nat → Nat → Option Nat
abbrev ET : Type := Nat × Nat × (Nat → Nat × Nat) × MR
abbrev GT : Type := va_G × (Nat → ClassId) × (Nat → Nat) × Nat
abbrev XT : Type := GT × String × ByteArray × Nat × Option FieldType × Bool × Nat × Nat
abbrev RT : Type := Option AV × ET × MI
def sm_i (x : Int) : Int32 := Int32.ofInt x
/-- the int that a word of 32 bits is -/
def sm_w (x : Int) : Int := (Int32.ofInt x).toInt
theorem sm_i_add (x y : Int) : sm_i x + sm_i y = sm_i (x + y) := (Int32.ofInt_add x y).symm
theorem sm_i_sub (x y : Int) : sm_i x - sm_i y = sm_i (x - y) := (Int32.ofInt_sub x y).symm
theorem sm_i_mul (x y : Int) : sm_i x * sm_i y = sm_i (x * y) := (Int32.ofInt_mul x y).symm
theorem sm_i_toInt (x : Int) : (sm_i x).toInt = sm_w x := rfl
theorem sm_i_w (x : Int) : sm_i (sm_w x) = sm_i x := by
  unfold sm_i sm_w
  exact Int32.ofInt_toInt _
theorem sm_i_of (v : Int32) : sm_i v.toInt = v := Int32.ofInt_toInt v
theorem sm_w_eq {x : Int} (h1 : -2147483648 ≤ x) (h2 : x < 2147483648) : sm_w x = x := by
  unfold sm_w
  rw [Int32.toInt_ofInt]
  have e : (Int32.size : Int) = 4294967296 := rfl
  apply Int.bmod_eq_of_le <;> rw [e] <;> omega
theorem sm_w_ge (x : Int) : -2147483648 ≤ sm_w x := by
  have h := Int32.le_toInt (Int32.ofInt x)
  unfold sm_w
  omega
theorem sm_w_lt (x : Int) : sm_w x < 2147483648 := by
  have h := Int32.toInt_lt (Int32.ofInt x)
  unfold sm_w
  omega
theorem sm_w_w (x : Int) : sm_w (sm_w x) = sm_w x := sm_w_eq (sm_w_ge x) (sm_w_lt x)
theorem sm_i_lt (x y : Int) : sm_i x < sm_i y ↔ sm_w x < sm_w y := Int32.lt_iff_toInt_lt
theorem sm_i_le (x y : Int) : sm_i x ≤ sm_i y ↔ sm_w x ≤ sm_w y := Int32.le_iff_toInt_le
theorem sm_i_eq (x y : Int) : sm_i x = sm_i y ↔ sm_w x = sm_w y := Int32.toInt_inj.symm
theorem sm_i_0 : sm_i 0 = 0 := rfl
theorem sm_w_0 : sm_w 0 = 0 := sm_w_eq (by omega) (by omega)
theorem sm_clamp (x : Int) : (sm_i x).toNatClampNeg = (sm_w x).toNat := rfl
theorem sm_in {x : Int} {n : Nat} (h0 : 0 ≤ sm_w x) (h1 : sm_w x < n) : vp_in (sm_i x) n := by
  intro q
  rcases q with q | q
  · rw [← sm_i_0, sm_i_lt, sm_w_0] at q
    omega
  · rw [sm_clamp] at q
    omega
-- parts of a frame's ground
abbrev GT.D (G : GT) : va_G := G.1
abbrev GT.cA (G : GT) : Nat → ClassId := G.2.1
abbrev GT.old (G : GT) : Nat → Nat := G.2.2.1
abbrev GT.base (G : GT) : Nat := G.2.2.2
abbrev XT.G (X : XT) : GT := X.1
abbrev XT.own (X : XT) : String := X.2.1
abbrev XT.cc (X : XT) : ByteArray := X.2.2.1
abbrev XT.nL (X : XT) : Nat := X.2.2.2.1
abbrev XT.ret (X : XT) : Option FieldType := X.2.2.2.2.1
abbrev XT.ini (X : XT) : Bool := X.2.2.2.2.2.1
abbrev XT.fr (X : XT) : Nat := X.2.2.2.2.2.2.1
abbrev XT.lo (X : XT) : Nat := X.2.2.2.2.2.2.2
abbrev ET.sz (E : ET) : Nat := E.1
abbrev ET.us (E : ET) : Nat := E.2.1
abbrev ET.sh (E : ET) : Nat → Nat × Nat := E.2.2.1
abbrev ET.mr (E : ET) : MR := E.2.2.2
def sm_adr (G : GT) (k : Nat) : Nat := if k < 3 then G.old k else G.base + (k - 3)
def sm_fr (G : GT) : Nat → Prop := fun q => G.base ≤ q
def sm_v (G : GT) : AV → Value
  | .inl z => .int (sm_i z)
  | .inr a => .ref (sm_adr G a)
theorem sm_v_cat (G : GT) (v : AV) : (sm_v G v).category = 1 := by cases v <;> rfl
theorem sm_cats (G : GT) (st : List AV) : ((st.map (sm_v G)).map fun v => v.category).sum = st.length := by
  induction st with
  | nil => rfl
  | cons a t ih =>
    simp only [List.map_cons, List.sum_cons, List.length_cons, sm_v_cat]
    simp only [List.map_map] at ih ⊢
    omega
-- classes by number
def sm_cC : Nat → String := fun k => match k with
  | 0 => RX1
  | 1 => RX2
  | 2 => RX3
  | 3 => RX4
  | 4 => RX5
  | 5 => RX7
  | 6 => RX9
  | _ => RX10
def sm_cT : Nat → u_T := fun k => match k with
  | 0 => TX1
  | 1 => TX2
  | 2 => TX3
  | 3 => TX4
  | 4 => TX5
  | 5 => TX7
  | 6 => TX9
  | _ => TX10
def sm_cN : Nat → Nat := fun k => match k with
  | 0 => 11
  | 1 => 4
  | 2 => 5
  | 3 => 14
  | 4 => 3
  | 5 => 13
  | 6 => 7
  | _ => 15
def sm_ty : Nat → Nat → FieldType := fun k => match k with
  | 0 => tyX1
  | 1 => tyX2
  | 2 => tyX3
  | 3 => tyX4
  | 4 => tyX5
  | 5 => tyX7
  | 6 => tyX9
  | _ => tyX10
/-- the classes of arrays: 20 int, 21 char, 22 .. of objects -/
def sm_aT : Nat → FieldType := fun k => match k with
  | 20 => .int
  | 21 => .char
  | 22 => .object RX4
  | 23 => .object RX3
  | 24 => .object RX1
  | _ => .object RX7
theorem sm_cl : ∀ k, k < 8 → vwCl[k]? = some (sm_cC k, sm_cT k, sm_cN k) := by
  intro k hk
  match k, hk with
  | 0, _ => rfl
  | 1, _ => rfl
  | 2, _ => rfl
  | 3, _ => rfl
  | 4, _ => rfl
  | 5, _ => rfl
  | 6, _ => rfl
  | 7, _ => rfl
  | k + 8, h => omega
theorem sm_tyok : ∀ k, k < 8 → ∀ j, j < sm_cN k → parseFieldDescriptor (sm_cT k j).2.2.1 = some (sm_ty k j) := by
  intro k hk
  match k, hk with
  | 0, _ => exact tyX1_ok
  | 1, _ => exact tyX2_ok
  | 2, _ => exact tyX3_ok
  | 3, _ => exact tyX4_ok
  | 4, _ => exact tyX5_ok
  | 5, _ => exact tyX7_ok
  | 6, _ => exact tyX9_ok
  | 7, _ => exact tyX10_ok
  | k + 8, h => omega
theorem sm_nmok : ∀ k, k < 8 → ∀ a, a < sm_cN k → ∀ b, b < sm_cN k → a ≠ b → (sm_cT k a).2.1 ≠ (sm_cT k b).2.1 := by
  intro k hk
  match k, hk with
  | 0, _ => exact nmX1
  | 1, _ => exact nmX2
  | 2, _ => exact nmX3
  | 3, _ => exact nmX4
  | 4, _ => exact nmX5
  | 5, _ => exact nmX7
  | 6, _ => exact nmX9
  | 7, _ => exact nmX10
  | k + 8, h => omega
theorem sm_dcl : ∀ k, k < 8 → ∀ j, (sm_cT k j).1 = sm_cC k := by
  intro k hk j
  match k, hk with
  | 0, _ => simp only [sm_cT, sm_cC, TX1, RX1]; split <;> rfl
  | 1, _ => simp only [sm_cT, sm_cC, TX2, RX2]; split <;> rfl
  | 2, _ => simp only [sm_cT, sm_cC, TX3, RX3]; split <;> rfl
  | 3, _ => simp only [sm_cT, sm_cC, TX4, RX4]; split <;> rfl
  | 4, _ => simp only [sm_cT, sm_cC, TX5, RX5]; split <;> rfl
  | 5, _ => simp only [sm_cT, sm_cC, TX7, RX7]; split <;> rfl
  | 6, _ => simp only [sm_cT, sm_cC, TX9, RX9]; split <;> rfl
  | 7, _ => simp only [sm_cT, sm_cC, TX10, RX10]; split <;> rfl
  | k + 8, h => omega
-- the words of the tables that hold at every method's start (ws), and those of the nest
def sm_tb : List Cond := lw_tbl.filter goodWord
def sm_ne : Cond → Bool
  | .fieldLinkNest _ _ _ _ _ _ => true
  | .methodLinkNest _ _ _ _ => true
  | _ => false
theorem sm_gd {w : Cond} (i : Nat) (h : lw_tbl[i]? = some w) (hg : goodWord w = true) : w ∈ sm_tb := List.mem_filter.mpr ⟨List.mem_of_getElem? h, hg⟩
theorem sm_tb_good : ∀ w ∈ sm_tb, (w.onTables && w.keeps) = true ∨ ∃ ty, w = .arrayClass ty := fun _ h => good_of_word (List.mem_filter.mp h).2
theorem sm_inU : ∀ k, k < 8 → ∀ w ∈ u_ws (sm_cC k) (sm_cT k) (sm_cN k), w ∈ sm_tb := by
  have gl : ∀ (C : String) (T : u_T) (N : Nat) (w : Cond), w ∈ u_ws C T N → goodWord w = true := by
    intro C T N w hw
    obtain ⟨j, -, rfl⟩ := List.mem_map.mp hw
    unfold u_lay
    split <;> rfl
  have go : ∀ (C : String) (T : u_T) (N : Nat), (∀ w ∈ u_ws C T N, w ∈ lw_tbl) → ∀ w ∈ u_ws C T N, w ∈ sm_tb := fun C T N h w hw => List.mem_filter.mpr ⟨h w hw, gl C T N w hw⟩
  intro k hk
  match k, hk with
  | 0, _ => exact go _ _ _ inX1
  | 1, _ => exact go _ _ _ inX2
  | 2, _ => exact go _ _ _ inX3
  | 3, _ => exact go _ _ _ inX4
  | 4, _ => exact go _ _ _ inX5
  | 5, _ => exact go _ _ _ inX7
  | 6, _ => exact go _ _ _ inX9
  | 7, _ => exact go _ _ _ inX10
  | k + 8, h => omega
-- a cell of the memory as the machine has it
def sm_f (G : GT) (mr : MR) (mi : MI) (kd a j : Nat) : Value := if (sm_ty kd j).isReference = true then va_rf ((mr a j).map (sm_adr G)) else .int (sm_i (mi a j))
def sm_cell (G : GT) (E : ET) (mi : MI) (a : Nat) : va_E :=
  if (E.sh a).1 < 8 then .inr ((E.sh a).1, (List.range (sm_cN (E.sh a).1)).map (sm_f G E.mr mi (E.sh a).1 a))
  else if (E.sh a).1 < 22 then .inl (G.cA (E.sh a).1, (E.sh a).2, .inl (fun j => sm_i (mi a j)))
  else .inl (G.cA (E.sh a).1, (E.sh a).2, .inr (.inr (.inr (.inr (fun j => (E.mr a j).map (sm_adr G))))))
/-- one of the three arrays that were there before: the script, the costs, the marks -/
def sm_old (G : GT) (E : ET) (mi : MI) (k : Nat) (H : Heap) : Prop := (E.sh k).1 = (if k = 2 then 21 else 20) ∧ ∃ scr : Cell, H[G.old k]? = some scr ∧ scr.cls = G.cA (10 + k) ∧ (∀ q, scr.vm ≠ .statics q) ∧ scr.vm ≠ .unknown ∧ scr.slots.size = (E.sh k).2 ∧ ∀ j, j < (E.sh k).2 → scr.slots[j]? = some (.int (sm_i (mi k j)))
def sm_H (G : GT) (E : ET) (mi : MI) (H : Heap) : Prop := H.size = G.base + (E.sz - 3) ∧ 3 ≤ E.sz ∧ (∀ k, 3 ≤ k → k < E.sz → va_at G.D vwCl (sm_adr G k, sm_cell G E mi k) H) ∧ ∀ k, k < 3 → sm_old G E mi k H
theorem sm_H.at {G : GT} {E : ET} {mi : MI} {H : Heap} {a : Nat} (h : sm_H G E mi H) (h3 : 3 ≤ a) (ha : a < E.sz) : va_at G.D vwCl (sm_adr G a, sm_cell G E mi a) H := h.2.2.1 a h3 ha
theorem sm_H.three {G : GT} {E : ET} {mi : MI} {H : Heap} {a : Nat} (h : sm_H G E mi H) (hk : (E.sh a).1 < 20 ∨ 22 ≤ (E.sh a).1) : 3 ≤ a := by
  refine Classical.byContradiction (fun q => ?_)
  have := (h.2.2.2 a (by omega)).1
  split at this <;> omega
/-- the classes of those arrays -/
def sm_oA (G : GT) (s : State) : Prop := ∀ k, k < 3 → ∃ (kA : Class) (comp : ClassId), s.vm.classes[G.cA (10 + k)]? = some kA ∧ kA.kind = .array comp (if k = 2 then .char else .int)
theorem sm_oA.moved {G : GT} {u U : State} (hvm : u.vm.Alike U.vm) (h : sm_oA G u) : sm_oA G U := fun k hk => by
  obtain ⟨kA, comp, h1, h2⟩ := h k hk
  obtain ⟨k', hk', he⟩ := hvm.2.2 _ _ h1
  exact ⟨k', comp, hk', by rw [he]; exact h2⟩
def sm_tys (G : GT) : List (ClassId × FieldType) := [(G.cA 20, .int), (G.cA 21, .char), (G.cA 22, .object RX4), (G.cA 23, .object RX3), (G.cA 24, .object RX1), (G.cA 25, .object RX7)]
def sm_S (G : GT) (s : State) : Prop :=
  va_K G.D vwCl (sm_tys G) s ∧ (∀ w ∈ lw_tbl, sm_ne w = true → va_Nw w s) ∧ (va_AO RX4 s ∧ va_AO RX3 s ∧ va_AO RX1 s ∧ va_AO RX7 s ∧ sm_oA G s) ∧
  va_Z "PatrolDesk$Books" "REPAIR_COSTS" "[I" (.ref (G.old 1)) (sm_fr G) s s.heap ∧ va_Z "PatrolDesk$CallText" "MARKS" "[C" (.ref (G.old 2)) (sm_fr G) s s.heap ∧
  G.base ≤ s.heap.size ∧ ∀ k, k < 3 → G.old k < G.base
def sm_env (X : XT) (p : Program) (s : State) (m : MethodId) (args : Array Value) (meth : Method) (c : Code) (R : Room) : Prop :=
  p.tables.exec = Jvm.exec ∧ c.code = X.cc ∧ c.maxLocals = X.nL ∧ s.vm.findClass X.own = some m.cls ∧ (∀ w ∈ sm_tb, w.before args s = true) ∧ (X.ini = true → meth.name = "<init>") ∧ X.fr ≤ R.frames ∧ X.lo ≤ R.locals
def sm_L (G : GT) (ls : Array Slot) (n : Nat) (lv : List (Option AV)) : Prop := ls.size = n ∧ lv_wf ls ∧ ∀ (k : Nat) (v : AV), lv[k]? = some (some v) → ls[k]? = some (.val (sm_v G v))
def sm_fit (ret : Option FieldType) (v : AV) : Prop := ∃ z, v = .inl z ∧ (ret = some .int ∨ ret = some .boolean ∧ (z = 0 ∨ z = 1))
def sm_end (X : XT) (r : RT) (p : Program) (l : Launch) (e : Env) (R : Room) (s : State) (m : MethodId) (args : Array Value) (below : List Frame) (meth : Method) (c : Code) (Q : State → Prop) : Prop :=
  ∀ (H : Heap) (locs : List Loc) (cells slots : Nat) (ls : Array Slot) (pc : Nat), sm_H X.G r.2.1 r.2.2 H → va_S (sm_fr X.G) s.heap H locs → cells ≤ R.cells → slots ≤ R.slots →
    ((r.1 = none ∧ X.ret = none ∧ decode X.cc pc = .ok (.return_, 1)) ∨ ∃ v, r.1 = some v ∧ decode X.cc pc = .ok (.ireturn, 1) ∧ sm_fit X.ret v) →
    W p l e R s m args below meth c H locs cells slots Q (F0 m pc ls (r.1.toList.map (sm_v X.G)))
/-- from pc, with these locals, this stack and this memory, the method ends with r -/
def sM (X : XT) (pc : Nat) (lv : List (Option AV)) (st : List AV) (E : ET) (mi : MI) (r : RT) : Prop :=
  (E.sz ≤ r.2.1.sz ∧ E.us ≤ r.2.1.us) ∧
  ∀ (p : Program) (l : Launch) (e : Env) (R : Room) (s : State) (m : MethodId) (args : Array Value) (below : List Frame) (meth : Method) (c : Code) (H : Heap) (locs : List Loc) (cells slots : Nat) (ls : Array Slot) (Q : State → Prop),
    sm_env X p s m args meth c R → sm_S X.G s → sm_H X.G E mi H → va_S (sm_fr X.G) s.heap H locs → sm_L X.G ls X.nL lv →
    cells + (r.2.1.sz - E.sz) ≤ R.cells → slots + (r.2.1.us - E.us) ≤ R.slots →
    sm_end X r p l e R s m args below meth c Q →
    W p l e R s m args below meth c H locs cells slots Q (F0 m pc ls (st.map (sm_v X.G)))
def sm_P (G : GT) (avs : List AV) (E : ET) (mi : MI) : Array Value → State → Prop := fun v U => v = (avs.map (sm_v G)).toArray ∧ sm_S G U ∧ sm_H G E mi U.heap
def sm_Q (G : GT) (r : RT) : Array Value → State → Outcome → State → Prop := fun _ st o t => o = .returned (r.1.map (sm_v G)) ∧ sm_H G r.2.1 r.2.2 t.heap ∧ va_F (sm_fr G) st t
/-- a method's contract: at these arguments and this memory it answers r -/
def cN (G : GT) (y : MethodName) (bytes : ByteArray) (mL : Nat) (ret : Option FieldType) (fr lo : Nat) (avs : List AV) (E : ET) (mi : MI) (r : RT) : Prop :=
  (E.sz ≤ r.2.1.sz ∧ E.us ≤ r.2.1.us) ∧ ∀ l : Launch, Met l y (Cond.code y bytes mL ret :: sm_tb) ({ frames := fr, cells := r.2.1.sz - E.sz, slots := r.2.1.us - E.us, locals := lo }) (sm_P G avs E mi) (sm_Q G r) (r.2.1.sz - E.sz) (r.2.1.us - E.us) (sm_fr G)
-- locals
theorem sm_L.at {G : GT} {ls : Array Slot} {n : Nat} {lv : List (Option AV)} (h : sm_L G ls n lv) {k : Nat} {v : AV} (hk : lv[k]? = some (some v)) : ls[k]? = some (.val (sm_v G v)) := h.2.2 k v hk
def sm_prs (G : GT) (lv : List (Option AV)) : List (Nat × Value) := (List.range lv.length).filterMap (fun k => match lv[k]? with
  | some (some v) => some (k, sm_v G v)
  | _ => none)
theorem sm_prs_in {G : GT} {lv : List (Option AV)} {k : Nat} {v : AV} (h : lv[k]? = some (some v)) : (k, sm_v G v) ∈ sm_prs G lv :=
  List.mem_filterMap.mpr ⟨k, List.mem_range.mpr (List.getElem?_eq_some_iff.mp h).1, by rw [h]⟩
theorem sm_prs_of {G : GT} {lv : List (Option AV)} {q : Nat × Value} (h : q ∈ sm_prs G lv) : ∃ v, lv[q.1]? = some (some v) ∧ q.2 = sm_v G v := by
  obtain ⟨k, -, hk⟩ := List.mem_filterMap.mp h
  split at hk
  · rename_i v hv
    cases hk
    exact ⟨v, hv, rfl⟩
  · cases hk
theorem sm_L.has {G : GT} {ls : Array Slot} {n : Nat} {lv : List (Option AV)} (h : sm_L G ls n lv) : lv_has ls n (sm_prs G lv) := by
  refine ⟨h.1, h.2.1, fun q hq => ?_⟩
  obtain ⟨v, h1, h2⟩ := sm_prs_of hq
  rw [h2]
  exact h.2.2 _ _ h1
theorem sm_L.store {G : GT} {ls : Array Slot} {n i : Nat} {lv : List (Option AV)} {v : AV} (h : lv_has ls n ((i, sm_v G v) :: (sm_prs G lv).filter (fun q => !(q.1 == i) && !(q.1 + 1 == i && q.2.category == 2)))) : sm_L G ls n (lv.set i (some v)) := by
  refine ⟨h.1, h.2.1, fun k u hk => ?_⟩
  rw [List.getElem?_set] at hk
  split at hk
  · rename_i e
    subst e
    split at hk
    · cases hk
      exact h.2.2 _ List.mem_cons_self
    · cases hk
  · rename_i e
    refine h.2.2 (k, sm_v G u) (List.mem_cons_of_mem _ (List.mem_filter.mpr ⟨sm_prs_in hk, ?_⟩))
    have e2 : ¬ k = i := fun q => e q.symm
    simp [e2, sm_v_cat]
/-- fewer locals -/
def sm_le : List (Option AV) → List (Option AV) → Prop
  | [], _ => True
  | none :: a, _ :: b => sm_le a b
  | none :: a, [] => sm_le a []
  | some v :: a, w :: b => w = some v ∧ sm_le a b
  | some _ :: _, [] => False
theorem sm_le_at : ∀ (a b : List (Option AV)), sm_le a b → ∀ (k : Nat) (v : AV), a[k]? = some (some v) → b[k]? = some (some v)
  | [], _, _, k, v, h => by simp at h
  | none :: a, _ :: b, h, 0, v, hk => by simp at hk
  | none :: a, _ :: b, h, k + 1, v, hk => by simpa using sm_le_at a b h k v (by simpa using hk)
  | none :: a, [], h, 0, v, hk => by simp at hk
  | none :: a, [], h, k + 1, v, hk => by
    have := sm_le_at a [] h k v (by simpa using hk)
    simp at this
  | some u :: a, w :: b, h, 0, v, hk => by
    simp at hk
    subst hk
    simpa using h.1
  | some u :: a, w :: b, h, k + 1, v, hk => by simpa using sm_le_at a b h.2 k v (by simpa using hk)
  | some _ :: _, [], h, _, _, _ => h.elim
theorem sm_less {X : XT} {pc : Nat} {lv lv' : List (Option AV)} {st : List AV} {E : ET} {mi : MI} {r : RT} (h : sm_le lv' lv) (k : sM X pc lv' st E mi r) : sM X pc lv st E mi r :=
  ⟨k.1, fun p l e R s m args below meth c H locs cells slots ls Q h1 h2 h3 h4 h5 h6 h7 h8 => k.2 p l e R s m args below meth c H locs cells slots ls Q h1 h2 h3 h4 ⟨h5.1, h5.2.1, fun i v hi => h5.2.2 i v (sm_le_at _ _ h i v hi)⟩ h6 h7 h8⟩
end
section
/-! ===== rows of the walk: an instruction each ===== -/
section SMR
variable {X : XT} {pc : Nat} {lv : List (Option AV)} {st : List AV} {E : ET} {mi : MI} {r : RT}
theorem sm_const {n v : Int} {k : Nat} {ins : Instr} (hd : decode X.cc pc = .ok (ins, k)) (hi : (ins = .iconst n ∧ k = 1 ∧ Int32.ofInt n = sm_i v) ∨ (ins = .bipush n ∧ k = 2 ∧ (Int8.ofInt n).toInt32 = sm_i v) ∨ (ins = .sipush n ∧ k = 3 ∧ (Int16.ofInt n).toInt32 = sm_i v))
    (kk : sM X (pc + k) lv (.inl v :: st) E mi r) : sM X pc lv st E mi r := by
  refine ⟨kk.1, fun p l e R s m args below meth c H locs cells slots ls Q h1 h2 h3 h4 h5 h6 h7 h8 => ?_⟩
  have w := kk.2 p l e R s m args below meth c H locs cells slots ls Q h1 h2 h3 h4 h5 h6 h7 h8
  rcases hi with ⟨rfl, rfl, e⟩ | ⟨rfl, rfl, e⟩ | ⟨rfl, rfl, e⟩
  · exact lv_iconst h1.1 h1.2.1 hd e w
  · exact lv_bipush h1.1 h1.2.1 hd e w
  · exact lv_sipush h1.1 h1.2.1 hd e w
theorem sm_iconst {n : Int} (hd : decode X.cc pc = .ok (.iconst n, 1)) (kk : sM X (pc + 1) lv (.inl n :: st) E mi r) : sM X pc lv st E mi r := sm_const hd (Or.inl ⟨rfl, rfl, rfl⟩) kk
theorem sm_bipush {n : Int} (hd : decode X.cc pc = .ok (.bipush n, 2)) (hn : (Int8.ofInt n).toInt32 = Int32.ofInt n) (kk : sM X (pc + 2) lv (.inl n :: st) E mi r) : sM X pc lv st E mi r := sm_const hd (Or.inr (Or.inl ⟨rfl, rfl, hn⟩)) kk
theorem sm_sipush {n : Int} (hd : decode X.cc pc = .ok (.sipush n, 3)) (hn : (Int16.ofInt n).toInt32 = Int32.ofInt n) (kk : sM X (pc + 3) lv (.inl n :: st) E mi r) : sM X pc lv st E mi r := sm_const hd (Or.inr (Or.inr ⟨rfl, rfl, hn⟩)) kk
theorem sm_ldc {idx : Nat} {v : Int} {own : String} (ho : X.own = own) (hw : Cond.constant own idx (Int32.ofInt v) ∈ sm_tb) (hd : decode X.cc pc = .ok (.ldc idx, 2)) (kk : sM X (pc + 2) lv (.inl v :: st) E mi r) : sM X pc lv st E mi r := by
  subst ho
  refine ⟨kk.1, fun p l e R s m args below meth c H locs cells slots ls Q h1 h2 h3 h4 h5 h6 h7 h8 => ?_⟩
  exact lv_ldc h1.1 h1.2.1 h1.2.2.2.1 (h1.2.2.2.2.1 _ hw) hd (kk.2 p l e R s m args below meth c H locs cells slots ls Q h1 h2 h3 h4 h5 h6 h7 h8)
theorem sm_iload_n {k : Fin 4} {z : Int} (hd : decode X.cc pc = .ok (.iload_n k, 1)) (hl : lv[(k : Nat)]? = some (some (.inl z))) (kk : sM X (pc + 1) lv (.inl z :: st) E mi r) : sM X pc lv st E mi r := by
  refine ⟨kk.1, fun p l e R s m args below meth c H locs cells slots ls Q h1 h2 h3 h4 h5 h6 h7 h8 => ?_⟩
  exact lv_iload_n h1.1 h1.2.1 hd rfl (h5.at hl) (kk.2 p l e R s m args below meth c H locs cells slots ls Q h1 h2 h3 h4 h5 h6 h7 h8)
theorem sm_iload {k : Nat} {z : Int} (hd : decode X.cc pc = .ok (.iload k, 2)) (hl : lv[k]? = some (some (.inl z))) (kk : sM X (pc + 2) lv (.inl z :: st) E mi r) : sM X pc lv st E mi r := by
  refine ⟨kk.1, fun p l e R s m args below meth c H locs cells slots ls Q h1 h2 h3 h4 h5 h6 h7 h8 => ?_⟩
  exact lv_iload h1.1 h1.2.1 hd (h5.at hl) (kk.2 p l e R s m args below meth c H locs cells slots ls Q h1 h2 h3 h4 h5 h6 h7 h8)
theorem sm_aload_n {k : Fin 4} {a : Nat} (hd : decode X.cc pc = .ok (.aload_n k, 1)) (hl : lv[(k : Nat)]? = some (some (.inr a))) (kk : sM X (pc + 1) lv (.inr a :: st) E mi r) : sM X pc lv st E mi r := by
  refine ⟨kk.1, fun p l e R s m args below meth c H locs cells slots ls Q h1 h2 h3 h4 h5 h6 h7 h8 => ?_⟩
  exact lv_aload_n h1.1 h1.2.1 hd rfl (h5.at hl) (kk.2 p l e R s m args below meth c H locs cells slots ls Q h1 h2 h3 h4 h5 h6 h7 h8)
theorem sm_aload {k : Nat} {a : Nat} (hd : decode X.cc pc = .ok (.aload k, 2)) (hl : lv[k]? = some (some (.inr a))) (kk : sM X (pc + 2) lv (.inr a :: st) E mi r) : sM X pc lv st E mi r := by
  refine ⟨kk.1, fun p l e R s m args below meth c H locs cells slots ls Q h1 h2 h3 h4 h5 h6 h7 h8 => ?_⟩
  exact lv_aload h1.1 h1.2.1 hd (h5.at hl) (kk.2 p l e R s m args below meth c H locs cells slots ls Q h1 h2 h3 h4 h5 h6 h7 h8)
theorem sm_istore_n {k : Fin 4} {z : Int} (hd : decode X.cc pc = .ok (.istore_n k, 1)) (hn : (k : Nat) < X.nL) (kk : sM X (pc + 1) (lv.set k (some (.inl z))) st E mi r) : sM X pc lv (.inl z :: st) E mi r := by
  refine ⟨kk.1, fun p l e R s m args below meth c H locs cells slots ls Q h1 h2 h3 h4 h5 h6 h7 h8 => ?_⟩
  exact lv_istore_n h1.1 h1.2.1 hd rfl h5.has hn rfl (fun ls' h' => kk.2 p l e R s m args below meth c H locs cells slots ls' Q h1 h2 h3 h4 (sm_L.store h') h6 h7 h8)
theorem sm_istore {k : Nat} {z : Int} (hd : decode X.cc pc = .ok (.istore k, 2)) (hn : k < X.nL) (kk : sM X (pc + 2) (lv.set k (some (.inl z))) st E mi r) : sM X pc lv (.inl z :: st) E mi r := by
  refine ⟨kk.1, fun p l e R s m args below meth c H locs cells slots ls Q h1 h2 h3 h4 h5 h6 h7 h8 => ?_⟩
  exact lv_istore h1.1 h1.2.1 hd h5.has hn rfl (fun ls' h' => kk.2 p l e R s m args below meth c H locs cells slots ls' Q h1 h2 h3 h4 (sm_L.store h') h6 h7 h8)
theorem sm_astore_n {k : Fin 4} {a : Nat} (hd : decode X.cc pc = .ok (.astore_n k, 1)) (hn : (k : Nat) < X.nL) (kk : sM X (pc + 1) (lv.set k (some (.inr a))) st E mi r) : sM X pc lv (.inr a :: st) E mi r := by
  refine ⟨kk.1, fun p l e R s m args below meth c H locs cells slots ls Q h1 h2 h3 h4 h5 h6 h7 h8 => ?_⟩
  exact lv_astore_n h1.1 h1.2.1 hd rfl h5.has hn rfl (fun ls' h' => kk.2 p l e R s m args below meth c H locs cells slots ls' Q h1 h2 h3 h4 (sm_L.store h') h6 h7 h8)
theorem sm_astore {k : Nat} {a : Nat} (hd : decode X.cc pc = .ok (.astore k, 2)) (hn : k < X.nL) (kk : sM X (pc + 2) (lv.set k (some (.inr a))) st E mi r) : sM X pc lv (.inr a :: st) E mi r := by
  refine ⟨kk.1, fun p l e R s m args below meth c H locs cells slots ls Q h1 h2 h3 h4 h5 h6 h7 h8 => ?_⟩
  exact lv_astore h1.1 h1.2.1 hd h5.has hn rfl (fun ls' h' => kk.2 p l e R s m args below meth c H locs cells slots ls' Q h1 h2 h3 h4 (sm_L.store h') h6 h7 h8)
theorem sm_iinc {k : Nat} {n z : Int} (hd : decode X.cc pc = .ok (.iinc k n, 3)) (hn : k < X.nL) (hl : lv[k]? = some (some (.inl z))) (kk : sM X (pc + 3) (lv.set k (some (.inl (z + n)))) st E mi r) : sM X pc lv st E mi r := by
  refine ⟨kk.1, fun p l e R s m args below meth c H locs cells slots ls Q h1 h2 h3 h4 h5 h6 h7 h8 => ?_⟩
  obtain ⟨i, hi⟩ := List.getElem?_of_mem (sm_prs_in (G := X.G) hl)
  exact lv_iinc (k := i) (v := sm_i (z + n)) h1.1 h1.2.1 hd h5.has hi (sm_i_add z n) hn rfl (fun ls' h' => kk.2 p l e R s m args below meth c H locs cells slots ls' Q h1 h2 h3 h4 (sm_L.store (v := .inl (z + n)) h') h6 h7 h8)
theorem sm_iadd {x y : Int} (hd : decode X.cc pc = .ok (.iadd, 1)) (kk : sM X (pc + 1) lv (.inl (x + y) :: st) E mi r) : sM X pc lv (.inl y :: .inl x :: st) E mi r := by
  refine ⟨kk.1, fun p l e R s m args below meth c H locs cells slots ls Q h1 h2 h3 h4 h5 h6 h7 h8 => ?_⟩
  have w := kk.2 p l e R s m args below meth c H locs cells slots ls Q h1 h2 h3 h4 h5 h6 h7 h8
  simp only [List.map_cons, sm_v, ← sm_i_add] at w ⊢
  exact lv_iadd h1.1 h1.2.1 hd w
theorem sm_isub {x y : Int} (hd : decode X.cc pc = .ok (.isub, 1)) (kk : sM X (pc + 1) lv (.inl (x - y) :: st) E mi r) : sM X pc lv (.inl y :: .inl x :: st) E mi r := by
  refine ⟨kk.1, fun p l e R s m args below meth c H locs cells slots ls Q h1 h2 h3 h4 h5 h6 h7 h8 => ?_⟩
  have w := kk.2 p l e R s m args below meth c H locs cells slots ls Q h1 h2 h3 h4 h5 h6 h7 h8
  simp only [List.map_cons, sm_v, ← sm_i_sub] at w ⊢
  exact lv_isub h1.1 h1.2.1 hd w
theorem sm_imul {x y : Int} (hd : decode X.cc pc = .ok (.imul, 1)) (kk : sM X (pc + 1) lv (.inl (x * y) :: st) E mi r) : sM X pc lv (.inl y :: .inl x :: st) E mi r := by
  refine ⟨kk.1, fun p l e R s m args below meth c H locs cells slots ls Q h1 h2 h3 h4 h5 h6 h7 h8 => ?_⟩
  have w := kk.2 p l e R s m args below meth c H locs cells slots ls Q h1 h2 h3 h4 h5 h6 h7 h8
  simp only [List.map_cons, sm_v, ← sm_i_mul] at w ⊢
  exact lv_imul h1.1 h1.2.1 hd w
def sm_and (x y : Int) : Int := (sm_i x &&& sm_i y).toInt
def sm_i2c (x : Int) : Int := ((sm_i x).toUInt32 % 65536).toInt32.toInt
/-- division by a number that isn't 0 -/
def sm_div (x y : Int) : Int := (sm_i x / sm_i y).toInt
def sm_rem (x y : Int) : Int := (sm_i x - sm_i x / sm_i y * sm_i y).toInt
theorem sm_iand {x y : Int} (hd : decode X.cc pc = .ok (.iand, 1)) (kk : sM X (pc + 1) lv (.inl (sm_and x y) :: st) E mi r) : sM X pc lv (.inl y :: .inl x :: st) E mi r := by
  refine ⟨kk.1, fun p l e R s m args below meth c H locs cells slots ls Q h1 h2 h3 h4 h5 h6 h7 h8 => ?_⟩
  have w := kk.2 p l e R s m args below meth c H locs cells slots ls Q h1 h2 h3 h4 h5 h6 h7 h8
  simp only [List.map_cons, sm_v, sm_and, sm_i_of] at w ⊢
  exact lv_iand h1.1 h1.2.1 hd w
theorem sm_i2c_row {x : Int} (hd : decode X.cc pc = .ok (.i2c, 1)) (kk : sM X (pc + 1) lv (.inl (sm_i2c x) :: st) E mi r) : sM X pc lv (.inl x :: st) E mi r := by
  refine ⟨kk.1, fun p l e R s m args below meth c H locs cells slots ls Q h1 h2 h3 h4 h5 h6 h7 h8 => ?_⟩
  have w := kk.2 p l e R s m args below meth c H locs cells slots ls Q h1 h2 h3 h4 h5 h6 h7 h8
  simp only [List.map_cons, sm_v, sm_i2c, sm_i_of] at w ⊢
  exact lv_i2c h1.1 h1.2.1 hd rfl w
theorem sm_idiv {x y : Int} (hd : decode X.cc pc = .ok (.idiv, 1)) (hy : ¬ sm_w y = 0) (kk : sM X (pc + 1) lv (.inl (sm_div x y) :: st) E mi r) : sM X pc lv (.inl y :: .inl x :: st) E mi r := by
  refine ⟨kk.1, fun p l e R s m args below meth c H locs cells slots ls Q h1 h2 h3 h4 h5 h6 h7 h8 => ?_⟩
  have w := kk.2 p l e R s m args below meth c H locs cells slots ls Q h1 h2 h3 h4 h5 h6 h7 h8
  simp only [List.map_cons, sm_v, sm_div, sm_i_of] at w ⊢
  exact lv_idiv h1.1 h1.2.1 hd (by rw [← sm_i_0, sm_i_eq, sm_w_0]; exact hy) w
theorem sm_irem {x y : Int} (hd : decode X.cc pc = .ok (.irem, 1)) (hy : ¬ sm_w y = 0) (kk : sM X (pc + 1) lv (.inl (sm_rem x y) :: st) E mi r) : sM X pc lv (.inl y :: .inl x :: st) E mi r := by
  refine ⟨kk.1, fun p l e R s m args below meth c H locs cells slots ls Q h1 h2 h3 h4 h5 h6 h7 h8 => ?_⟩
  have w := kk.2 p l e R s m args below meth c H locs cells slots ls Q h1 h2 h3 h4 h5 h6 h7 h8
  simp only [List.map_cons, sm_v, sm_rem, sm_i_of] at w ⊢
  exact t_irem h1.1 h1.2.1 hd (by rw [← sm_i_0, sm_i_eq, sm_w_0]; exact hy) rfl w
theorem sm_dup {v : AV} (hd : decode X.cc pc = .ok (.dup, 1)) (kk : sM X (pc + 1) lv (v :: v :: st) E mi r) : sM X pc lv (v :: st) E mi r := by
  refine ⟨kk.1, fun p l e R s m args below meth c H locs cells slots ls Q h1 h2 h3 h4 h5 h6 h7 h8 => ?_⟩
  exact lv_dup h1.1 h1.2.1 hd (sm_v_cat _ _) (kk.2 p l e R s m args below meth c H locs cells slots ls Q h1 h2 h3 h4 h5 h6 h7 h8)
theorem sm_pop {v : AV} (hd : decode X.cc pc = .ok (.pop, 1)) (kk : sM X (pc + 1) lv st E mi r) : sM X pc lv (v :: st) E mi r := by
  refine ⟨kk.1, fun p l e R s m args below meth c H locs cells slots ls Q h1 h2 h3 h4 h5 h6 h7 h8 => ?_⟩
  exact lv_pop h1.1 h1.2.1 hd (sm_v_cat _ _) (kk.2 p l e R s m args below meth c H locs cells slots ls Q h1 h2 h3 h4 h5 h6 h7 h8)
theorem sm_dup2 {v u : AV} (hd : decode X.cc pc = .ok (.dup2, 1)) (kk : sM X (pc + 1) lv (v :: u :: v :: u :: st) E mi r) : sM X pc lv (v :: u :: st) E mi r := by
  refine ⟨kk.1, fun p l e R s m args below meth c H locs cells slots ls Q h1 h2 h3 h4 h5 h6 h7 h8 => ?_⟩
  exact lv_dup2_11 h1.1 h1.2.1 hd (sm_v_cat _ _) (sm_v_cat _ _) (kk.2 p l e R s m args below meth c H locs cells slots ls Q h1 h2 h3 h4 h5 h6 h7 h8)
theorem sm_goto {off : Int} (tgt : Nat) (hd : decode X.cc pc = .ok (.goto off, 3)) (ht : (pc : Int) + off = (tgt : Int)) (kk : sM X tgt lv st E mi r) : sM X pc lv st E mi r := by
  refine ⟨kk.1, fun p l e R s m args below meth c H locs cells slots ls Q h1 h2 h3 h4 h5 h6 h7 h8 => ?_⟩
  exact lv_goto h1.1 h1.2.1 hd ht (kk.2 p l e R s m args below meth c H locs cells slots ls Q h1 h2 h3 h4 h5 h6 h7 h8)
theorem sm_if_eq {off : Int} (tgt : Nat) {x : Int} (hd : decode X.cc pc = .ok (.ifCond .eq off, 3)) (ht : (pc : Int) + off = (tgt : Int))
    (kt : sm_w x = 0 → sM X tgt lv st E mi r) (kf : ¬ sm_w x = 0 → sM X (pc + 3) lv st E mi r) : sM X pc lv (.inl x :: st) E mi r := by
  refine ⟨?_, fun p l e R s m args below meth c H locs cells slots ls Q h1 h2 h3 h4 h5 h6 h7 h8 => ?_⟩
  · by_cases q : sm_w x = 0
    · exact (kt q).1
    · exact (kf q).1
  · refine lv_if_eq h1.1 h1.2.1 hd ht (fun q => ?_) (fun q => ?_)
    · rw [← sm_i_0, sm_i_eq, sm_w_0] at q
      exact (kt q).2 p l e R s m args below meth c H locs cells slots ls Q h1 h2 h3 h4 h5 h6 h7 h8
    · rw [← sm_i_0, sm_i_eq, sm_w_0] at q
      exact (kf q).2 p l e R s m args below meth c H locs cells slots ls Q h1 h2 h3 h4 h5 h6 h7 h8
theorem sm_icmp_eq {off : Int} (tgt : Nat) {x y : Int} (hd : decode X.cc pc = .ok (.if_icmp .eq off, 3)) (ht : (pc : Int) + off = (tgt : Int))
    (kt : sm_w x = sm_w y → sM X tgt lv st E mi r) (kf : ¬ sm_w x = sm_w y → sM X (pc + 3) lv st E mi r) : sM X pc lv (.inl y :: .inl x :: st) E mi r := by
  refine ⟨?_, fun p l e R s m args below meth c H locs cells slots ls Q h1 h2 h3 h4 h5 h6 h7 h8 => ?_⟩
  · by_cases q : sm_w x = sm_w y
    · exact (kt q).1
    · exact (kf q).1
  · refine lv_icmp_eq h1.1 h1.2.1 hd ht (fun q => ?_) (fun q => ?_)
    · rw [sm_i_eq] at q
      exact (kt q).2 p l e R s m args below meth c H locs cells slots ls Q h1 h2 h3 h4 h5 h6 h7 h8
    · rw [sm_i_eq] at q
      exact (kf q).2 p l e R s m args below meth c H locs cells slots ls Q h1 h2 h3 h4 h5 h6 h7 h8
theorem sm_if_ne {off : Int} (tgt : Nat) {x : Int} (hd : decode X.cc pc = .ok (.ifCond .ne off, 3)) (ht : (pc : Int) + off = (tgt : Int))
    (kt : ¬ sm_w x = 0 → sM X tgt lv st E mi r) (kf : sm_w x = 0 → sM X (pc + 3) lv st E mi r) : sM X pc lv (.inl x :: st) E mi r := by
  refine ⟨?_, fun p l e R s m args below meth c H locs cells slots ls Q h1 h2 h3 h4 h5 h6 h7 h8 => ?_⟩
  · by_cases q : sm_w x = 0
    · exact (kf q).1
    · exact (kt q).1
  · refine lv_if_ne h1.1 h1.2.1 hd ht (fun q => ?_) (fun q => ?_)
    · rw [← sm_i_0, sm_i_eq, sm_w_0] at q
      exact (kt q).2 p l e R s m args below meth c H locs cells slots ls Q h1 h2 h3 h4 h5 h6 h7 h8
    · rw [← sm_i_0, sm_i_eq, sm_w_0] at q
      exact (kf q).2 p l e R s m args below meth c H locs cells slots ls Q h1 h2 h3 h4 h5 h6 h7 h8
theorem sm_icmp_ne {off : Int} (tgt : Nat) {x y : Int} (hd : decode X.cc pc = .ok (.if_icmp .ne off, 3)) (ht : (pc : Int) + off = (tgt : Int))
    (kt : ¬ sm_w x = sm_w y → sM X tgt lv st E mi r) (kf : sm_w x = sm_w y → sM X (pc + 3) lv st E mi r) : sM X pc lv (.inl y :: .inl x :: st) E mi r := by
  refine ⟨?_, fun p l e R s m args below meth c H locs cells slots ls Q h1 h2 h3 h4 h5 h6 h7 h8 => ?_⟩
  · by_cases q : sm_w x = sm_w y
    · exact (kf q).1
    · exact (kt q).1
  · refine lv_icmp_ne h1.1 h1.2.1 hd ht (fun q => ?_) (fun q => ?_)
    · rw [sm_i_eq] at q
      exact (kt q).2 p l e R s m args below meth c H locs cells slots ls Q h1 h2 h3 h4 h5 h6 h7 h8
    · rw [sm_i_eq] at q
      exact (kf q).2 p l e R s m args below meth c H locs cells slots ls Q h1 h2 h3 h4 h5 h6 h7 h8
theorem sm_if_lt {off : Int} (tgt : Nat) {x : Int} (hd : decode X.cc pc = .ok (.ifCond .lt off, 3)) (ht : (pc : Int) + off = (tgt : Int))
    (kt : sm_w x < 0 → sM X tgt lv st E mi r) (kf : ¬ sm_w x < 0 → sM X (pc + 3) lv st E mi r) : sM X pc lv (.inl x :: st) E mi r := by
  refine ⟨?_, fun p l e R s m args below meth c H locs cells slots ls Q h1 h2 h3 h4 h5 h6 h7 h8 => ?_⟩
  · by_cases q : sm_w x < 0
    · exact (kt q).1
    · exact (kf q).1
  · refine lv_if_lt h1.1 h1.2.1 hd ht (fun q => ?_) (fun q => ?_)
    · rw [← sm_i_0, sm_i_lt, sm_w_0] at q
      exact (kt q).2 p l e R s m args below meth c H locs cells slots ls Q h1 h2 h3 h4 h5 h6 h7 h8
    · rw [← sm_i_0, sm_i_lt, sm_w_0] at q
      exact (kf q).2 p l e R s m args below meth c H locs cells slots ls Q h1 h2 h3 h4 h5 h6 h7 h8
theorem sm_icmp_lt {off : Int} (tgt : Nat) {x y : Int} (hd : decode X.cc pc = .ok (.if_icmp .lt off, 3)) (ht : (pc : Int) + off = (tgt : Int))
    (kt : sm_w x < sm_w y → sM X tgt lv st E mi r) (kf : ¬ sm_w x < sm_w y → sM X (pc + 3) lv st E mi r) : sM X pc lv (.inl y :: .inl x :: st) E mi r := by
  refine ⟨?_, fun p l e R s m args below meth c H locs cells slots ls Q h1 h2 h3 h4 h5 h6 h7 h8 => ?_⟩
  · by_cases q : sm_w x < sm_w y
    · exact (kt q).1
    · exact (kf q).1
  · refine lv_icmp_lt h1.1 h1.2.1 hd ht (fun q => ?_) (fun q => ?_)
    · rw [sm_i_lt] at q
      exact (kt q).2 p l e R s m args below meth c H locs cells slots ls Q h1 h2 h3 h4 h5 h6 h7 h8
    · rw [sm_i_lt] at q
      exact (kf q).2 p l e R s m args below meth c H locs cells slots ls Q h1 h2 h3 h4 h5 h6 h7 h8
theorem sm_if_ge {off : Int} (tgt : Nat) {x : Int} (hd : decode X.cc pc = .ok (.ifCond .ge off, 3)) (ht : (pc : Int) + off = (tgt : Int))
    (kt : 0 ≤ sm_w x → sM X tgt lv st E mi r) (kf : ¬ 0 ≤ sm_w x → sM X (pc + 3) lv st E mi r) : sM X pc lv (.inl x :: st) E mi r := by
  refine ⟨?_, fun p l e R s m args below meth c H locs cells slots ls Q h1 h2 h3 h4 h5 h6 h7 h8 => ?_⟩
  · by_cases q : 0 ≤ sm_w x
    · exact (kt q).1
    · exact (kf q).1
  · refine lv_if_ge h1.1 h1.2.1 hd ht (fun q => ?_) (fun q => ?_)
    · rw [← sm_i_0, sm_i_le, sm_w_0] at q
      exact (kt q).2 p l e R s m args below meth c H locs cells slots ls Q h1 h2 h3 h4 h5 h6 h7 h8
    · rw [← sm_i_0, sm_i_le, sm_w_0] at q
      exact (kf q).2 p l e R s m args below meth c H locs cells slots ls Q h1 h2 h3 h4 h5 h6 h7 h8
theorem sm_icmp_ge {off : Int} (tgt : Nat) {x y : Int} (hd : decode X.cc pc = .ok (.if_icmp .ge off, 3)) (ht : (pc : Int) + off = (tgt : Int))
    (kt : sm_w y ≤ sm_w x → sM X tgt lv st E mi r) (kf : ¬ sm_w y ≤ sm_w x → sM X (pc + 3) lv st E mi r) : sM X pc lv (.inl y :: .inl x :: st) E mi r := by
  refine ⟨?_, fun p l e R s m args below meth c H locs cells slots ls Q h1 h2 h3 h4 h5 h6 h7 h8 => ?_⟩
  · by_cases q : sm_w y ≤ sm_w x
    · exact (kt q).1
    · exact (kf q).1
  · refine lv_icmp_ge h1.1 h1.2.1 hd ht (fun q => ?_) (fun q => ?_)
    · rw [sm_i_le] at q
      exact (kt q).2 p l e R s m args below meth c H locs cells slots ls Q h1 h2 h3 h4 h5 h6 h7 h8
    · rw [sm_i_le] at q
      exact (kf q).2 p l e R s m args below meth c H locs cells slots ls Q h1 h2 h3 h4 h5 h6 h7 h8
theorem sm_if_gt {off : Int} (tgt : Nat) {x : Int} (hd : decode X.cc pc = .ok (.ifCond .gt off, 3)) (ht : (pc : Int) + off = (tgt : Int))
    (kt : 0 < sm_w x → sM X tgt lv st E mi r) (kf : ¬ 0 < sm_w x → sM X (pc + 3) lv st E mi r) : sM X pc lv (.inl x :: st) E mi r := by
  refine ⟨?_, fun p l e R s m args below meth c H locs cells slots ls Q h1 h2 h3 h4 h5 h6 h7 h8 => ?_⟩
  · by_cases q : 0 < sm_w x
    · exact (kt q).1
    · exact (kf q).1
  · refine lv_if_gt h1.1 h1.2.1 hd ht (fun q => ?_) (fun q => ?_)
    · rw [← sm_i_0, sm_i_lt, sm_w_0] at q
      exact (kt q).2 p l e R s m args below meth c H locs cells slots ls Q h1 h2 h3 h4 h5 h6 h7 h8
    · rw [← sm_i_0, sm_i_lt, sm_w_0] at q
      exact (kf q).2 p l e R s m args below meth c H locs cells slots ls Q h1 h2 h3 h4 h5 h6 h7 h8
theorem sm_icmp_gt {off : Int} (tgt : Nat) {x y : Int} (hd : decode X.cc pc = .ok (.if_icmp .gt off, 3)) (ht : (pc : Int) + off = (tgt : Int))
    (kt : sm_w y < sm_w x → sM X tgt lv st E mi r) (kf : ¬ sm_w y < sm_w x → sM X (pc + 3) lv st E mi r) : sM X pc lv (.inl y :: .inl x :: st) E mi r := by
  refine ⟨?_, fun p l e R s m args below meth c H locs cells slots ls Q h1 h2 h3 h4 h5 h6 h7 h8 => ?_⟩
  · by_cases q : sm_w y < sm_w x
    · exact (kt q).1
    · exact (kf q).1
  · refine lv_icmp_gt h1.1 h1.2.1 hd ht (fun q => ?_) (fun q => ?_)
    · rw [sm_i_lt] at q
      exact (kt q).2 p l e R s m args below meth c H locs cells slots ls Q h1 h2 h3 h4 h5 h6 h7 h8
    · rw [sm_i_lt] at q
      exact (kf q).2 p l e R s m args below meth c H locs cells slots ls Q h1 h2 h3 h4 h5 h6 h7 h8
theorem sm_if_le {off : Int} (tgt : Nat) {x : Int} (hd : decode X.cc pc = .ok (.ifCond .le off, 3)) (ht : (pc : Int) + off = (tgt : Int))
    (kt : sm_w x ≤ 0 → sM X tgt lv st E mi r) (kf : ¬ sm_w x ≤ 0 → sM X (pc + 3) lv st E mi r) : sM X pc lv (.inl x :: st) E mi r := by
  refine ⟨?_, fun p l e R s m args below meth c H locs cells slots ls Q h1 h2 h3 h4 h5 h6 h7 h8 => ?_⟩
  · by_cases q : sm_w x ≤ 0
    · exact (kt q).1
    · exact (kf q).1
  · refine lv_if_le h1.1 h1.2.1 hd ht (fun q => ?_) (fun q => ?_)
    · rw [← sm_i_0, sm_i_le, sm_w_0] at q
      exact (kt q).2 p l e R s m args below meth c H locs cells slots ls Q h1 h2 h3 h4 h5 h6 h7 h8
    · rw [← sm_i_0, sm_i_le, sm_w_0] at q
      exact (kf q).2 p l e R s m args below meth c H locs cells slots ls Q h1 h2 h3 h4 h5 h6 h7 h8
theorem sm_icmp_le {off : Int} (tgt : Nat) {x y : Int} (hd : decode X.cc pc = .ok (.if_icmp .le off, 3)) (ht : (pc : Int) + off = (tgt : Int))
    (kt : sm_w x ≤ sm_w y → sM X tgt lv st E mi r) (kf : ¬ sm_w x ≤ sm_w y → sM X (pc + 3) lv st E mi r) : sM X pc lv (.inl y :: .inl x :: st) E mi r := by
  refine ⟨?_, fun p l e R s m args below meth c H locs cells slots ls Q h1 h2 h3 h4 h5 h6 h7 h8 => ?_⟩
  · by_cases q : sm_w x ≤ sm_w y
    · exact (kt q).1
    · exact (kf q).1
  · refine lv_icmp_le h1.1 h1.2.1 hd ht (fun q => ?_) (fun q => ?_)
    · rw [sm_i_le] at q
      exact (kt q).2 p l e R s m args below meth c H locs cells slots ls Q h1 h2 h3 h4 h5 h6 h7 h8
    · rw [sm_i_le] at q
      exact (kf q).2 p l e R s m args below meth c H locs cells slots ls Q h1 h2 h3 h4 h5 h6 h7 h8
theorem sm_table {dflt lo hi : Int} {offs : Array Int} {len : Nat} {x : Int} (hd : decode X.cc pc = .ok (.tableswitch dflt lo hi offs, len)) (tgt : Nat)
    (ht : (sm_w x < lo ∨ hi < sm_w x) ∧ (pc : Int) + dflt = (tgt : Int) ∨ (lo ≤ sm_w x ∧ sm_w x ≤ hi) ∧ ∃ off, offs[(sm_w x - lo).toNat]? = some off ∧ (pc : Int) + off = (tgt : Int))
    (kk : sM X tgt lv st E mi r) : sM X pc lv (.inl x :: st) E mi r := by
  refine ⟨kk.1, fun p l e R s m args below meth c H locs cells slots ls Q h1 h2 h3 h4 h5 h6 h7 h8 => ?_⟩
  have w := kk.2 p l e R s m args below meth c H locs cells slots ls Q h1 h2 h3 h4 h5 h6 h7 h8
  rcases ht with ⟨h, e⟩ | ⟨⟨ha, hb⟩, off, ho, e⟩
  · exact lv_tableOut h1.1 h1.2.1 hd h e w
  · exact lv_tableIn h1.1 h1.2.1 hd (Int.not_lt.mpr ha) (Int.not_lt.mpr hb) ho e w
theorem sm_lookup {dflt : Int} {ps : Array (Int × Int)} {len : Nat} {x : Int} (hd : decode X.cc pc = .ok (.lookupswitch dflt ps, len)) (tgt : Nat) (hp : (ps.toList.zip (ps.toList.drop 1)).all (fun (a, next) => a.1 < next.1) = true)
    (ht : (pc : Int) + Op.lookupswitch.offset ps.toList dflt (sm_w x) = (tgt : Int)) (kk : sM X tgt lv st E mi r) : sM X pc lv (.inl x :: st) E mi r := by
  refine ⟨kk.1, fun p l e R s m args below meth c H locs cells slots ls Q h1 h2 h3 h4 h5 h6 h7 h8 => ?_⟩
  exact lv_lookup h1.1 h1.2.1 hd hp rfl ht (kk.2 p l e R s m args below meth c H locs cells slots ls Q h1 h2 h3 h4 h5 h6 h7 h8)
theorem sm_ireturn {z : Int} (hd : decode X.cc pc = .ok (.ireturn, 1)) (hf : X.ret = some .int ∨ X.ret = some .boolean ∧ (z = 0 ∨ z = 1)) : sM X pc lv [.inl z] E mi (some (.inl z), E, mi) := by
  refine ⟨⟨Nat.le_refl _, Nat.le_refl _⟩, fun p l e R s m args below meth c H locs cells slots ls Q h1 h2 h3 h4 h5 h6 h7 h8 => ?_⟩
  exact h8 H locs cells slots ls pc h3 h4 (by omega) (by omega) (Or.inr ⟨.inl z, rfl, hd, z, rfl, hf⟩)
theorem sm_return (hr : X.ret = none) (hd : decode X.cc pc = .ok (.return_, 1)) : sM X pc lv [] E mi (none, E, mi) := by
  refine ⟨⟨Nat.le_refl _, Nat.le_refl _⟩, fun p l e R s m args below meth c H locs cells slots ls Q h1 h2 h3 h4 h5 h6 h7 h8 => ?_⟩
  exact h8 H locs cells slots ls pc h3 h4 (by omega) (by omega) (Or.inl ⟨rfl, hr, hd⟩)
end SMR
end
section
/-! ===== rows of the walk: the memory ===== -/
def sm_up (mi : MI) (a j : Nat) (z : Int) : MI := fun b k => if b = a ∧ k = j then z else mi b k
def sm_upr (mr : MR) (a j : Nat) (z : Option Nat) : MR := fun b k => if b = a ∧ k = j then z else mr b k
theorem sm_up_ne {mi : MI} {a j b : Nat} {z : Int} (h : ¬ b = a) : sm_up mi a j z b = mi b := by
  funext k
  simp [sm_up, h]
theorem sm_upr_ne {mr : MR} {a j b : Nat} {z : Option Nat} (h : ¬ b = a) : sm_upr mr a j z b = mr b := by
  funext k
  simp [sm_upr, h]
theorem sm_cell_congr {G : GT} {E E' : ET} {mi mi' : MI} {k : Nat} (h1 : E'.sh k = E.sh k) (h2 : E'.mr k = E.mr k) (h3 : mi' k = mi k) : sm_cell G E' mi' k = sm_cell G E mi k := by
  unfold sm_cell sm_f
  simp only [h1, h2, h3]
theorem sm_adr_ne {G : GT} (ho : ∀ k, k < 3 → G.old k < G.base) {a k : Nat} (ha : 3 ≤ a) (h : ¬ k = a) : sm_adr G k ≠ sm_adr G a := by
  unfold sm_adr
  rw [if_neg (by omega : ¬ a < 3)]
  split
  · rename_i h3
    have := ho k h3
    omega
  · omega
theorem sm_adr_fr {G : GT} {a : Nat} (ha : 3 ≤ a) : sm_fr G (sm_adr G a) := by
  unfold sm_adr sm_fr
  rw [if_neg (by omega : ¬ a < 3)]
  exact Nat.le_add_right _ _
theorem sm_H.put {G : GT} {E E' : ET} {mi mi' : MI} {H H' : Heap} {a : Nat} (h : sm_H G E mi H) (hsz : E'.sz = E.sz) (ho : ∀ k, k < 3 → G.old k < G.base) (h3 : 3 ≤ a) (ha : va_at G.D vwCl (sm_adr G a, sm_cell G E' mi' a) H') (hs : H'.size = H.size)
    (oq : ∀ q, q ≠ sm_adr G a → H'[q]? = H[q]?) (hc : ∀ k, ¬ k = a → E'.sh k = E.sh k ∧ E'.mr k = E.mr k ∧ mi' k = mi k) : sm_H G E' mi' H' := by
  refine ⟨by rw [hs, hsz]; exact h.1, by rw [hsz]; exact h.2.1, fun k hk3 hk => ?_, fun k hk => ?_⟩
  · by_cases e : k = a
    · subst e
      exact ha
    · obtain ⟨c1, c2, c3⟩ := hc k e
      rw [sm_cell_congr c1 c2 c3]
      exact (h.at hk3 (by rw [← hsz]; exact hk)).kept (oq _ (sm_adr_ne ho h3 e))
  · obtain ⟨c1, c2, c3⟩ := hc k (by omega)
    have hq : H'[G.old k]? = H[G.old k]? := by
      have := oq _ (sm_adr_ne (k := k) ho h3 (by omega))
      unfold sm_adr at this
      rw [if_pos hk] at this
      exact this
    obtain ⟨g0, scr, g1, g2, g3, g4, g5, g6⟩ := h.2.2.2 k hk
    exact ⟨by rw [c1]; exact g0, scr, by rw [hq]; exact g1, g2, g3, g4, by rw [c1]; exact g5, fun j hj => by rw [c3]; exact g6 j (by rw [← c1]; exact hj)⟩
theorem sm_V {N : Nat} {f : Nat → Value} {k : Nat} (h : k < N) : vp_V ((List.range N).map f) k = f k := by
  unfold vp_V
  rw [List.getD_eq_getElem?_getD, List.getElem?_map, List.getElem?_range h]
  rfl
theorem sm_cell_o {G : GT} {E : ET} {mi : MI} {a kd : Nat} (hk : (E.sh a).1 = kd) (h8 : kd < 8) : sm_cell G E mi a = .inr (kd, (List.range (sm_cN kd)).map (sm_f G E.mr mi kd a)) := by
  unfold sm_cell
  rw [hk, if_pos h8]
theorem sm_cell_i {G : GT} {E : ET} {mi : MI} {a kd n : Nat} (hk : E.sh a = (kd, n)) (h8 : kd = 20 ∨ kd = 21) : sm_cell G E mi a = .inl (G.cA kd, n, .inl (fun j => sm_i (mi a j))) := by
  unfold sm_cell
  rw [hk, if_neg (by dsimp only; omega), if_pos (by dsimp only; omega)]
theorem sm_cell_q {G : GT} {E : ET} {mi : MI} {a kd n : Nat} (hk : E.sh a = (kd, n)) (h8 : 22 ≤ kd) : sm_cell G E mi a = .inl (G.cA kd, n, .inr (.inr (.inr (.inr (fun j => (E.mr a j).map (sm_adr G)))))) := by
  unfold sm_cell
  rw [hk, if_neg (by dsimp only; omega), if_neg (by dsimp only; omega)]
def sm_lkF (own : String) (idx kd j : Nat) : Prop := Cond.fieldLink own idx (sm_cC kd) (sm_cT kd j).2.1 (sm_cT kd j).2.2.1 ∈ sm_tb ∨ ∃ host, Cond.fieldLinkNest own idx (sm_cC kd) (sm_cT kd j).2.1 (sm_cT kd j).2.2.1 host ∈ lw_tbl
section SMM
variable {X : XT} {pc : Nat} {lv : List (Option AV)} {st : List AV} {E : ET} {mi : MI} {r : RT}
theorem sm_getV {a idx kd j : Nat} (lk : sm_lkF X.own idx kd j) (h8 : kd < 8) (hj : j < sm_cN kd) (hk : (E.sh a).1 = kd) (ha : a < E.sz) (v : AV) (hv : sm_f X.G E.mr mi kd a j = sm_v X.G v) (hd : decode X.cc pc = .ok (.getfield idx, 3))
    (kk : sM X (pc + 3) lv (v :: st) E mi r) : sM X pc lv (.inr a :: st) E mi r := by
  refine ⟨kk.1, fun p l e R s m args below meth c H locs cells slots ls Q h1 h2 h3 h4 h5 h6 h7 h8' => ?_⟩
  have w := kk.2 p l e R s m args below meth c H locs cells slots ls Q h1 h2 h3 h4 h5 h6 h7 h8'
  have hat := h3.at (h3.three (Or.inl (by omega))) ha
  rw [sm_cell_o hk h8] at hat
  have hP : va_P X.G.D vwCl [(sm_adr X.G a, .inr (kd, (List.range (sm_cN kd)).map (sm_f X.G E.mr mi kd a)))] H := by
    intro k q hq
    match k, hq with
    | 0, hq => cases hq; exact hat
    | k + 1, hq => simp at hq
  have hfs : ((List.range (sm_cN kd)).map (sm_f X.G E.mr mi kd a))[j]? = some (sm_v X.G v) := by
    rw [List.getElem?_map, List.getElem?_range hj, ← hv]
    rfl
  have hsame : ∀ x, s.fieldFound? (sm_cT kd j).1 (sm_cT kd j).2.1 (sm_cT kd j).2.2.1 = some x → s.fieldFound? (sm_cC kd) (sm_cT kd j).2.1 (sm_cT kd j).2.2.1 = some x := by
    intro x hx
    rw [sm_dcl kd h8 j] at hx
    exact hx
  rcases lk with lk | ⟨host, lk⟩
  · exact va_get (D := X.G.D) (ci := kd) h1.1 h1.2.1 h1.2.2.2.2.1 (sm_inU kd h8) h1.2.2.2.1 h2.1 hP 0 rfl (sm_cl kd h8) j hj (h1.2.2.2.2.1 _ lk) hsame hfs hd w
  · exact va_getN (D := X.G.D) (ci := kd) h1.1 h1.2.1 h1.2.2.2.2.1 (sm_inU kd h8) h1.2.2.2.1 h2.1 hP 0 rfl (sm_cl kd h8) j hj (va_Nw.use rfl (h2.2.1 _ lk rfl)) hsame hfs hd w
theorem sm_getI {a idx kd j : Nat} (lk : sm_lkF X.own idx kd j) (h8 : kd < 8 ∧ j < sm_cN kd ∧ (sm_ty kd j).isReference = false) (hk : (E.sh a).1 = kd) (ha : a < E.sz) (hd : decode X.cc pc = .ok (.getfield idx, 3))
    (kk : sM X (pc + 3) lv (.inl (mi a j) :: st) E mi r) : sM X pc lv (.inr a :: st) E mi r :=
  sm_getV lk h8.1 h8.2.1 hk ha (.inl (mi a j)) (by unfold sm_f; rw [h8.2.2]; rfl) hd kk
theorem sm_getR {a idx kd j b : Nat} (lk : sm_lkF X.own idx kd j) (h8 : kd < 8 ∧ j < sm_cN kd ∧ (sm_ty kd j).isReference = true) (hk : (E.sh a).1 = kd) (ha : a < E.sz) (hb : E.mr a j = some b) (hd : decode X.cc pc = .ok (.getfield idx, 3))
    (kk : sM X (pc + 3) lv (.inr b :: st) E mi r) : sM X pc lv (.inr a :: st) E mi r :=
  sm_getV lk h8.1 h8.2.1 hk ha (.inr b) (by unfold sm_f; rw [h8.2.2, hb]; rfl) hd kk
theorem sm_putI {a idx kd j : Nat} {z : Int} (lk : sm_lkF X.own idx kd j) (h8 : kd < 8 ∧ j < sm_cN kd ∧ (sm_cT kd j).2.2.2 = false) (hty : sm_ty kd j = .int ∨ sm_ty kd j = .boolean ∧ (z = 0 ∨ z = 1)) (hk : (E.sh a).1 = kd) (h3a : 3 ≤ a) (ha : a < E.sz) (hd : decode X.cc pc = .ok (.putfield idx, 3))
    (kk : sM X (pc + 3) lv st E (sm_up mi a j z) r) : sM X pc lv (.inl z :: .inr a :: st) E mi r := by
  refine ⟨kk.1, fun p l e R s m args below meth c H locs cells slots ls Q h1 h2 h3 h4 h5 h6 h7 h8' => ?_⟩
  have hat := h3.at h3a ha
  rw [sm_cell_o hk h8.1] at hat
  obtain ⟨r', g1, cell, q1, q2, q3, q4⟩ := hat
  have hc := sm_cl kd h8.1
  have hr : r' = (sm_cC kd, sm_cT kd, sm_cN kd) := Option.some.inj (g1.symm.trans hc)
  subst hr
  have hin := sm_inU kd h8.1
  have hts := h1.2.2.2.2.1
  have hap := va_apart (own := X.own) hts hin (sm_ty kd) (sm_tyok kd h8.1) (sm_nmok kd h8.1) h2.1 hc
  obtain ⟨hS, hfc, kC, hkC, hkind⟩ := h2.1.1 kd _ hc
  obtain ⟨cf, kf, fi, f, hi, hsl⟩ := hS j h8.2.1
  have hlay := hts _ (hin _ (u_in_lay h8.2.1))
  unfold u_lay at hlay
  rw [if_neg (by rw [h8.2.2]; decide)] at hlay
  have hst := (u_facts hfc hkC (u_lays hts hin h8.2.1) hi).1
  have hn : narrow (sm_ty kd j) (.int (sm_i z)) = .int (sm_i z) ∧ fits (sm_ty kd j) (.int (sm_i z)) = true ∧ (sm_ty kd j).isReference = false := by
    rcases hty with e | ⟨e, rfl | rfl⟩ <;> rw [e] <;> exact ⟨rfl, rfl, rfl⟩
  have h6' := u_store hfc hkC hkind hlay hi (sm_tyok kd h8.1 j h8.2.1) hn.1 hn.2.1
  have fin : ∀ H' : Heap, H'[sm_adr X.G a]? = some (cell.setSlot f.slot (.int (sm_i z))) → H'.size = H.size → (∀ q, q ≠ sm_adr X.G a → H'[q]? = H[q]?) → W p l e R s m args below meth c H' (locs ++ [⟨sm_adr X.G a, f.slot⟩]) cells slots Q (F0 m (pc + 3) ls (st.map (sm_v X.G))) := by
    intro H' e1 e2 e3
    rw [hsl] at e1
    refine kk.2 p l e R s m args below meth c H' _ cells slots ls Q h1 h2 (h3.put rfl h2.2.2.2.2.2.2 h3a ?_ e2 e3 (fun k hk' => ⟨rfl, rfl, sm_up_ne hk'⟩)) (h4.put e2 e3 (sm_adr_fr h3a)) h5 h6 h7 h8'
    rw [sm_cell_o hk h8.1]
    refine ⟨_, hc, t_OB.to (V := updV (vp_V ((List.range (sm_cN kd)).map (sm_f X.G E.mr mi kd a))) j (.int (sm_i z))) ⟨_, e1, q2, q3, t_set q4 hap h8.2.1 _⟩ (fun k hk' => ?_)⟩
    rw [sm_V hk']
    unfold updV
    split
    · rename_i e
      subst e
      unfold sm_f sm_up
      rw [hn.2.2]
      simp
    · rename_i e
      rw [sm_V hk']
      unfold sm_f sm_up
      simp [e]
  have hl2 : (sm_cT kd j).1 = sm_cC kd := sm_dcl kd h8.1 j
  rw [hl2] at hi
  rcases lk with lk | ⟨host, lk⟩
  · exact W.putK h1.1 h1.2.1 (f := f) ⟨h1.2.2.2.1, hts _ lk, ⟨_, _, _, hi⟩, hst⟩ (by rw [q2]; exact h6') q1 q3 (by rw [hsl]; exact k2_hasslot (q4 j h8.2.1)) rfl rfl hd fin
  · exact va_WputK h1.1 h1.2.1 (f := f) h1.2.2.2.1 (va_Nw.use rfl (h2.2.1 _ lk rfl)) hi hst (by rw [q2]; exact h6') q1 q3 (by rw [hsl]; exact k2_hasslot (q4 j h8.2.1)) rfl rfl hd fin
/-- a final field of references, in a constructor -/
theorem sm_putR {a b idx kd j : Nat} (lk : Cond.fieldLink X.own idx (sm_cC kd) (sm_cT kd j).2.1 (sm_cT kd j).2.2.1 ∈ sm_tb) (h8 : kd < 8 ∧ j < sm_cN kd ∧ (sm_cT kd j).2.2.2 = true ∧ (sm_ty kd j).isReference = true) (hini : X.ini = true) (hown : sm_cC kd = X.own) (hk : (E.sh a).1 = kd) (h3a : 3 ≤ a) (ha : a < E.sz) (hd : decode X.cc pc = .ok (.putfield idx, 3))
    (kk : sM X (pc + 3) lv st (E.1, E.2.1, E.2.2.1, sm_upr E.mr a j (some b)) mi r) : sM X pc lv (.inr b :: .inr a :: st) E mi r := by
  refine ⟨kk.1, fun p l e R s m args below meth c H locs cells slots ls Q h1 h2 h3 h4 h5 h6 h7 h8' => ?_⟩
  have hat := h3.at h3a ha
  rw [sm_cell_o hk h8.1] at hat
  obtain ⟨r', g1, cell, q1, q2, q3, q4⟩ := hat
  have hc := sm_cl kd h8.1
  have hr : r' = (sm_cC kd, sm_cT kd, sm_cN kd) := Option.some.inj (g1.symm.trans hc)
  subst hr
  have hin := sm_inU kd h8.1
  have hts := h1.2.2.2.2.1
  have hap := va_apart (own := X.own) hts hin (sm_ty kd) (sm_tyok kd h8.1) (sm_nmok kd h8.1) h2.1 hc
  obtain ⟨hS, hfc, kC, hkC, hkind⟩ := h2.1.1 kd _ hc
  obtain ⟨cf, kf, fi, f, hi, hsl⟩ := hS j h8.2.1
  have hlay := hts _ (hin _ (u_in_lay h8.2.1))
  unfold u_lay at hlay
  rw [if_pos h8.2.2.1] at hlay
  have hst := (u_facts hfc hkC (u_lays hts hin h8.2.1) hi).1
  have hl2 : (sm_cT kd j).1 = sm_cC kd := sm_dcl kd h8.1 j
  have hcf : m.cls = cf := by
    obtain ⟨_, _, c', _, _, _, -, -, hf', -, -, -, hown2, -⟩ := Cond.laysFinal_spec hlay
    have e1 : c' = cf := by have := hi.symm.trans hf'; simp at this; exact this.1.symm
    rw [hl2, hown] at hown2
    rw [← e1]; exact Option.some.inj (h1.2.2.2.1.symm.trans hown2)
  have hn : narrow (sm_ty kd j) (.ref (sm_adr X.G b)) = .ref (sm_adr X.G b) ∧ fits (sm_ty kd j) (.ref (sm_adr X.G b)) = true := by
    have := h8.2.2.2
    revert this
    cases sm_ty kd j <;> intro h <;> first | exact ⟨rfl, rfl⟩ | cases h
  have h6' := u_fits hfc hkC hkind (Or.inr hlay) hi (sm_tyok kd h8.1 j h8.2.1) hn.1 hn.2
  rw [hl2] at hi
  refine W.putFinK h1.1 h1.2.1 h1.2.2.2.1 (hts _ lk) hi hst hcf (h1.2.2.2.2.2.1 hini) (by rw [q2]; exact h6') q1 q3 (by rw [hsl]; exact k2_hasslot (q4 j h8.2.1)) rfl rfl hd fun H' e1 e2 e3 => ?_
  rw [hsl] at e1
  refine kk.2 p l e R s m args below meth c H' _ cells slots ls Q h1 h2 (h3.put (E' := (E.1, E.2.1, E.2.2.1, sm_upr E.mr a j (some b))) rfl h2.2.2.2.2.2.2 h3a ?_ e2 e3 (fun k hk' => ⟨rfl, sm_upr_ne hk', rfl⟩)) (h4.put e2 e3 (sm_adr_fr h3a)) h5 h6 h7 h8'
  rw [sm_cell_o (E := (E.1, E.2.1, E.2.2.1, sm_upr E.mr a j (some b))) hk h8.1]
  refine ⟨_, hc, t_OB.to (V := updV (vp_V ((List.range (sm_cN kd)).map (sm_f X.G E.mr mi kd a))) j (.ref (sm_adr X.G b))) ⟨_, e1, q2, q3, t_set q4 hap h8.2.1 _⟩ (fun k hk' => ?_)⟩
  rw [sm_V hk']
  unfold updV
  split
  · rename_i e
    subst e
    unfold sm_f sm_upr
    rw [h8.2.2.2]
    simp [va_rf, ET.mr, sm_v]
  · rename_i e
    rw [sm_V hk']
    unfold sm_f sm_upr
    simp [e, ET.mr]
theorem sm_tysAt {G : GT} {s : State} (h : sm_S G s) {kd : Nat} (h1 : 20 ≤ kd) (h2 : kd < 26) : ∃ t0 : Nat, (sm_tys G)[t0]? = some (G.cA kd, sm_aT kd) := by
  obtain rfl | rfl | rfl | rfl | rfl | rfl : kd = 20 ∨ kd = 21 ∨ kd = 22 ∨ kd = 23 ∨ kd = 24 ∨ kd = 25 := by omega
  · exact ⟨0, rfl⟩
  · exact ⟨1, rfl⟩
  · exact ⟨2, rfl⟩
  · exact ⟨3, rfl⟩
  · exact ⟨4, rfl⟩
  · exact ⟨5, rfl⟩
theorem sm_P1 {G : GT} {E : ET} {mi : MI} {H : Heap} {a : Nat} {c : va_E} (h : sm_H G E mi H) (h3 : 3 ≤ a) (ha : a < E.sz) (hc : sm_cell G E mi a = c) : va_P G.D vwCl [(sm_adr G a, c)] H := by
  subst hc
  intro k q hq
  match k, hq with
  | 0, hq => cases hq; exact h.at h3 ha
  | k + 1, hq => simp at hq
/-- an array of ints, of characters, that was there before -/
theorem sm_oldA {G : GT} {E : ET} {mi : MI} {H : Heap} {s : State} {a n : Nat} (h2 : sm_S G s) (h3 : sm_H G E mi H) (ha : a < 3) (hk : E.sh a = (20, n)) : ∃ scr : Cell, H[sm_adr G a]? = some scr ∧ (s.isArrayOf scr .int ∧ True) ∧ scr.vm ≠ .unknown ∧ True ∧ scr.slots.size = n ∧ ∀ j, j < n → scr.slots[j]? = some (.int (sm_i (mi a j))) := by
  obtain ⟨g0, scr, g1, g2, g3, g4, g5, g6⟩ := h3.2.2.2 a ha
  obtain ⟨kA, comp, k1, k2⟩ := h2.2.2.1.2.2.2.2 a ha
  have e : ¬ a = 2 := fun e => by
    rw [if_pos e, hk] at g0
    have g0' : (20 : Nat) = 21 := g0
    omega
  rw [if_neg e] at k2
  rw [hk] at g5 g6
  refine ⟨scr, ?_, ⟨⟨g3, kA, by rw [g2]; exact k1, comp, k2⟩, trivial⟩, g4, trivial, g5, g6⟩
  unfold sm_adr
  rw [if_pos ha]
  exact g1
theorem sm_oldC {G : GT} {E : ET} {mi : MI} {H : Heap} {s : State} {a n : Nat} (h2 : sm_S G s) (h3 : sm_H G E mi H) (ha : a < 3) (hk : E.sh a = (21, n)) : ∃ scr : Cell, H[sm_adr G a]? = some scr ∧ (s.isArrayOf scr .char ∧ True) ∧ scr.vm ≠ .unknown ∧ True ∧ scr.slots.size = n ∧ ∀ j, j < n → scr.slots[j]? = some (.int (sm_i (mi a j))) := by
  obtain ⟨g0, scr, g1, g2, g3, g4, g5, g6⟩ := h3.2.2.2 a ha
  obtain ⟨kA, comp, k1, k2⟩ := h2.2.2.1.2.2.2.2 a ha
  have e : a = 2 := Classical.byContradiction fun e => by
    rw [if_neg e, hk] at g0
    have g0' : (21 : Nat) = 20 := g0
    omega
  rw [if_pos e] at k2
  rw [hk] at g5 g6
  refine ⟨scr, ?_, ⟨⟨g3, kA, by rw [g2]; exact k1, comp, k2⟩, trivial⟩, g4, trivial, g5, g6⟩
  unfold sm_adr
  rw [if_pos ha]
  exact g1
theorem sm_iaload {a n : Nat} {i : Int} (hk : E.sh a = (20, n)) (ha : a < E.sz) (h0 : 0 ≤ sm_w i) (hn : sm_w i < n) (hd : decode X.cc pc = .ok (.iaload, 1))
    (kk : sM X (pc + 1) lv (.inl (mi a (sm_w i).toNat) :: st) E mi r) : sM X pc lv (.inl i :: .inr a :: st) E mi r := by
  refine ⟨kk.1, fun p l e R s m args below meth c H locs cells slots ls Q h1 h2 h3 h4 h5 h6 h7 h8 => ?_⟩
  obtain ⟨t0, ht0⟩ := sm_tysAt h2 (kd := 20) (by omega) (by omega)
  by_cases h3a : 3 ≤ a
  · exact va_iald h1.1 h1.2.1 h2.1 (sm_P1 h3 h3a ha (sm_cell_i hk (Or.inl rfl))) 0 t0 rfl ht0 (sm_in h0 hn) hd (kk.2 p l e R s m args below meth c H locs cells slots ls Q h1 h2 h3 h4 h5 h6 h7 h8)
  · obtain ⟨scr, g1, g2, g3, g4, g5, g6⟩ := sm_oldA h2 h3 (by omega) hk
    have w := kk.2 p l e R s m args below meth c H locs cells slots ls Q h1 h2 h3 h4 h5 h6 h7 h8
    exact W.iald (v := .int (sm_i (mi a (sm_w i).toNat))) h1.1 h1.2.1 g1 g2.1 g3 (by rw [g5]; exact sm_in h0 hn) (by rw [sm_clamp]; exact g6 _ (by omega)) rfl rfl hd w
theorem sm_caload {a n : Nat} {i : Int} (hk : E.sh a = (21, n)) (ha : a < E.sz) (h0 : 0 ≤ sm_w i) (hn : sm_w i < n) (hd : decode X.cc pc = .ok (.caload, 1))
    (kk : sM X (pc + 1) lv (.inl (mi a (sm_w i).toNat) :: st) E mi r) : sM X pc lv (.inl i :: .inr a :: st) E mi r := by
  refine ⟨kk.1, fun p l e R s m args below meth c H locs cells slots ls Q h1 h2 h3 h4 h5 h6 h7 h8 => ?_⟩
  obtain ⟨t0, ht0⟩ := sm_tysAt h2 (kd := 21) (by omega) (by omega)
  by_cases h3a : 3 ≤ a
  · exact va_cald h1.1 h1.2.1 h2.1 (sm_P1 h3 h3a ha (sm_cell_i hk (Or.inr rfl))) 0 t0 rfl ht0 (sm_in h0 hn) hd (kk.2 p l e R s m args below meth c H locs cells slots ls Q h1 h2 h3 h4 h5 h6 h7 h8)
  · obtain ⟨scr, g1, g2, g3, g4, g5, g6⟩ := sm_oldC h2 h3 (by omega) hk
    have w := kk.2 p l e R s m args below meth c H locs cells slots ls Q h1 h2 h3 h4 h5 h6 h7 h8
    exact W.cald (v := .int (sm_i (mi a (sm_w i).toNat))) h1.1 h1.2.1 g1 g2.1 g3 (by rw [g5]; exact sm_in h0 hn) (by rw [sm_clamp]; exact g6 _ (by omega)) rfl rfl hd w
theorem sm_aaload {a n kd b : Nat} {i : Int} (h22 : kd = 22 ∨ kd = 23 ∨ kd = 24 ∨ kd = 25) (hk : E.sh a = (kd, n)) (ha : a < E.sz) (h0 : 0 ≤ sm_w i) (hn : sm_w i < n) (hb : E.mr a (sm_w i).toNat = some b) (hd : decode X.cc pc = .ok (.aaload, 1))
    (kk : sM X (pc + 1) lv (.inr b :: st) E mi r) : sM X pc lv (.inl i :: .inr a :: st) E mi r := by
  refine ⟨kk.1, fun p l e R s m args below meth c H locs cells slots ls Q h1 h2 h3 h4 h5 h6 h7 h8 => ?_⟩
  have w := kk.2 p l e R s m args below meth c H locs cells slots ls Q h1 h2 h3 h4 h5 h6 h7 h8
  obtain ⟨t0, ht0⟩ := sm_tysAt h2 (kd := kd) (by omega) (by omega)
  have hC : ∃ C, sm_aT kd = .object C := by rcases h22 with rfl | rfl | rfl | rfl <;> exact ⟨_, rfl⟩
  obtain ⟨C, hC⟩ := hC
  rw [hC] at ht0
  refine va_aldq h1.1 h1.2.1 h2.1 (sm_P1 h3 (h3.three (Or.inr (by rw [hk]; show 22 ≤ kd; omega))) ha (sm_cell_q hk (by omega))) 0 t0 rfl ht0 (sm_in h0 hn) hd ?_
  rw [show va_rf (((fun j => (E.mr a j).map (sm_adr X.G)) (sm_i i).toNatClampNeg)) = sm_v X.G (.inr b) by rw [sm_clamp]; dsimp only; rw [hb]; rfl]
  exact w
theorem sm_alen {a n : Nat} (hk : E.sh a = (20, n)) (ha : a < E.sz) (hd : decode X.cc pc = .ok (.arraylength, 1))
    (kk : sM X (pc + 1) lv (.inl (n : Int) :: st) E mi r) : sM X pc lv (.inr a :: st) E mi r := by
  refine ⟨kk.1, fun p l e R s m args below meth c H locs cells slots ls Q h1 h2 h3 h4 h5 h6 h7 h8 => ?_⟩
  obtain ⟨t0, ht0⟩ := sm_tysAt h2 (kd := 20) (by omega) (by omega)
  by_cases h3a : 3 ≤ a
  · exact va_alen (x := (n, .inl (fun j => sm_i (mi a j)))) h1.1 h1.2.1 h2.1 (sm_P1 h3 h3a ha (sm_cell_i hk (Or.inl rfl))) 0 t0 rfl ht0 (v := sm_i (n : Int)) rfl hd (kk.2 p l e R s m args below meth c H locs cells slots ls Q h1 h2 h3 h4 h5 h6 h7 h8)
  · obtain ⟨scr, g1, g2, g3, g4, g5, g6⟩ := sm_oldA h2 h3 (by omega) hk
    have w := kk.2 p l e R s m args below meth c H locs cells slots ls Q h1 h2 h3 h4 h5 h6 h7 h8
    exact W.alen (n := sm_i (n : Int)) h1.1 h1.2.1 g1 g2.1 (by rw [g5]; rfl) rfl rfl hd w
theorem sm_arr_upd {G : GT} {E : ET} {mi : MI} {a kd n j : Nat} {z : Int} {cell : Cell} (hk : E.sh a = (kd, n)) (h20 : kd = 20 ∨ kd = 21) (hc : cell = arrV (G.cA kd) n (fun k => .int (sm_i (mi a k)))) {H' : Heap} (he : H'[sm_adr G a]? = some (cell.setSlot j (.int (sm_i z)))) : va_at G.D vwCl (sm_adr G a, sm_cell G E (sm_up mi a j z) a) H' := by
  rw [sm_cell_i hk h20]
  show H'[sm_adr G a]? = some (vp_cell _ _)
  rw [he, hc, vp_cell_i, arrV_store]
  congr 2
  funext q
  unfold updV sm_up
  by_cases hq : q = j
  · simp [hq]
  · simp [hq]
theorem sm_iastore {a n : Nat} {i z : Int} (hk : E.sh a = (20, n)) (h3a : 3 ≤ a) (ha : a < E.sz) (h0 : 0 ≤ sm_w i) (hn : sm_w i < n) (hd : decode X.cc pc = .ok (.iastore, 1))
    (kk : sM X (pc + 1) lv st E (sm_up mi a (sm_w i).toNat z) r) : sM X pc lv (.inl z :: .inl i :: .inr a :: st) E mi r := by
  refine ⟨kk.1, fun p l e R s m args below meth c H locs cells slots ls Q h1 h2 h3 h4 h5 h6 h7 h8 => ?_⟩
  obtain ⟨t0, ht0⟩ := sm_tysAt h2 (kd := 20) (by omega) (by omega)
  have hat := h3.at h3a ha
  rw [sm_cell_i hk (Or.inl rfl)] at hat
  refine W.iast h1.1 h1.2.1 hat ((h2.1.2 t0 _ ht0).1 n (fun j => .int (sm_i (mi a j)))) (fun q => by cases q) (by show ¬ (_ ∨ (arrV _ _ _).slots.size ≤ _); rw [arrV_size]; exact sm_in h0 hn) rfl rfl hd fun H' e' z' oq => ?_
  exact kk.2 p l e R s m args below meth c H' _ cells slots ls Q h1 h2 (h3.put rfl h2.2.2.2.2.2.2 h3a (sm_arr_upd hk (Or.inl rfl) rfl e') z' oq (fun k hk' => ⟨rfl, rfl, sm_up_ne hk'⟩)) (h4.put z' oq (sm_adr_fr h3a)) h5 h6 h7 h8
theorem sm_nar {z : Int} (h0 : 0 ≤ z) (h1 : z < 65536) : narrow .char (.int (sm_i z)) = .int (sm_i z) := by
  have hb : (sm_i z).toBitVec.toNat < 65536 := by
    have e : (sm_i z).toBitVec = BitVec.ofInt 32 z := rfl
    rw [e, BitVec.toNat_ofInt]
    have e2 : ((2 ^ 32 : Nat) : Int) = 4294967296 := rfl
    rw [e2]
    omega
  have e : (sm_i z).toUInt32.toUInt16.toUInt32.toInt32 = sm_i z := by
    apply Int32.toBitVec_inj.mp
    show ((sm_i z).toBitVec.setWidth 16).setWidth 32 = (sm_i z).toBitVec
    apply BitVec.eq_of_toNat_eq
    rw [BitVec.toNat_setWidth, BitVec.toNat_setWidth]
    omega
  exact congrArg Value.int e
theorem sm_castore {a n : Nat} {i z : Int} (hk : E.sh a = (21, n)) (h3a : 3 ≤ a) (ha : a < E.sz) (h0 : 0 ≤ sm_w i) (hn : sm_w i < n) (hz0 : 0 ≤ z) (hz1 : z < 65536) (hd : decode X.cc pc = .ok (.castore, 1))
    (kk : sM X (pc + 1) lv st E (sm_up mi a (sm_w i).toNat z) r) : sM X pc lv (.inl z :: .inl i :: .inr a :: st) E mi r := by
  refine ⟨kk.1, fun p l e R s m args below meth c H locs cells slots ls Q h1 h2 h3 h4 h5 h6 h7 h8 => ?_⟩
  obtain ⟨t0, ht0⟩ := sm_tysAt h2 (kd := 21) (by omega) (by omega)
  have hat := h3.at h3a ha
  rw [sm_cell_i hk (Or.inr rfl)] at hat
  refine W.cast h1.1 h1.2.1 hat ((h2.1.2 t0 _ ht0).1 n (fun j => .int (sm_i (mi a j)))) (fun q => by cases q) (by show ¬ (_ ∨ (arrV _ _ _).slots.size ≤ _); rw [arrV_size]; exact sm_in h0 hn) rfl rfl hd fun H' e' z' oq => ?_
  rw [sm_nar hz0 hz1] at e'
  exact kk.2 p l e R s m args below meth c H' _ cells slots ls Q h1 h2 (h3.put rfl h2.2.2.2.2.2.2 h3a (sm_arr_upd hk (Or.inr rfl) rfl e') z' oq (fun k hk' => ⟨rfl, rfl, sm_up_ne hk'⟩)) (h4.put z' oq (sm_adr_fr h3a)) h5 h6 h7 h8
def sm_aK : Nat → Nat := fun k => match k with
  | 22 => 3
  | 23 => 2
  | 24 => 0
  | _ => 5
theorem sm_aastore {a n kd b : Nat} {i : Int} (h22 : kd = 22 ∨ kd = 23 ∨ kd = 24 ∨ kd = 25) (hk : E.sh a = (kd, n)) (h3a : 3 ≤ a) (ha : a < E.sz) (h0 : 0 ≤ sm_w i) (hn : sm_w i < n) (hkb : (E.sh b).1 = sm_aK kd) (hb : b < E.sz) (hd : decode X.cc pc = .ok (.aastore, 1))
    (kk : sM X (pc + 1) lv st (E.1, E.2.1, E.2.2.1, sm_upr E.mr a (sm_w i).toNat (some b)) mi r) : sM X pc lv (.inr b :: .inl i :: .inr a :: st) E mi r := by
  refine ⟨kk.1, fun p l e R s m args below meth c H locs cells slots ls Q h1 h2 h3 h4 h5 h6 h7 h8 => ?_⟩
  obtain ⟨t0, ht0⟩ := sm_tysAt h2 (kd := kd) (by omega) (by omega)
  have h8b : sm_aK kd < 8 := by rcases h22 with rfl | rfl | rfl | rfl <;> decide
  have hcls := sm_cl _ h8b
  have hT : sm_aT kd = .object (sm_cC (sm_aK kd)) := by rcases h22 with rfl | rfl | rfl | rfl <;> rfl
  rw [hT] at ht0
  have hat := h3.at h3a ha
  rw [sm_cell_q hk (by omega)] at hat
  have hbt := h3.at (h3.three (Or.inl (by rw [hkb]; omega))) hb
  rw [sm_cell_o hkb h8b] at hbt
  obtain ⟨r', hr', cellV, g1, g2, g3, -⟩ := hbt
  have hcl := (h2.1.1 _ _ hcls).2
  obtain ⟨kA, comp, k1, k2, k3, -⟩ := (h2.1.2 t0 _ ht0).2
  have hcomp : comp = X.G.D.1 (sm_aK kd) := Option.some.inj (k3.symm.trans hcl.1)
  subst hcomp
  obtain ⟨kC, hkC, -⟩ := hcl.2
  refine W.aast h1.1 h1.2.1 hat (fun q h => by cases h) (fun h => by cases h) k1 k2 rfl hkC ⟨fun q => (sm_in h0 hn) (Or.inl q), by show _ < (arrV _ _ _).slots.size; rw [arrV_size]; exact Nat.not_le.mp fun q => (sm_in h0 hn) (Or.inr q)⟩ g1 (fun q h => by rw [g3] at h; cases h) (by rw [g2]; exact hkC) (by rw [g2]; exact va_assign hcl) rfl rfl hd fun H1 e' z oq => ?_
  refine kk.2 p l e R s m args below meth c H1 _ cells slots ls Q h1 h2 (h3.put (E' := (E.1, E.2.1, E.2.2.1, sm_upr E.mr a (sm_w i).toNat (some b))) rfl h2.2.2.2.2.2.2 h3a ?_ z oq (fun k hk' => ⟨rfl, sm_upr_ne hk', rfl⟩)) (h4.put z oq (sm_adr_fr h3a)) h5 h6 h7 h8
  rw [sm_cell_q (E := (E.1, E.2.1, E.2.2.1, sm_upr E.mr a (sm_w i).toNat (some b))) hk (by omega)]
  show H1[sm_adr X.G a]? = some (vp_cell _ _)
  rw [e', vp_cell_q, vp_cell_q, arrV_store]
  congr 2
  funext q
  unfold updV sm_upr
  rw [sm_clamp]
  by_cases hq : q = (sm_w i).toNat
  · simp [hq, va_rf, ET.mr]
  · simp [hq, ET.mr]
end SMM
end
section
/-! ===== rows of the walk: what is made, statics, library calls ===== -/
def sm_al (E : ET) (kd n w : Nat) : ET := (E.1 + 1, E.2.1 + w, (fun k => if k = E.1 then (kd, n) else E.2.2.1 k), (fun k => if k = E.1 then (fun _ => none) else E.2.2.2 k))
def sm_z (mi : MI) (a : Nat) : MI := fun k => if k = a then (fun _ => 0) else mi k
theorem sm_H.push {G : GT} {E : ET} {mi : MI} {H H' : Heap} {kd n w : Nat} (h : sm_H G E mi H) (ha : va_at G.D vwCl (H.size, sm_cell G (sm_al E kd n w) (sm_z mi E.sz) E.sz) H') (hs : H'.size = H.size + 1)
    (oq : ∀ q, q < H.size → H'[q]? = H[q]?) : sm_H G (sm_al E kd n w) (sm_z mi E.sz) H' := by
  have hsz := h.1
  have h3 := h.2.1
  refine ⟨by rw [hs, hsz]; show _ = G.base + (E.1 + 1 - 3); have : 3 ≤ E.1 := h3; show G.base + (E.1 - 3) + 1 = _; omega, by show 3 ≤ E.1 + 1; have : 3 ≤ E.1 := h3; omega, fun k hk3 hk => ?_, fun k hk => ?_⟩
  rotate_left
  · have c1 : (sm_al E kd n w).sh k = E.sh k := by
      show (if k = E.1 then _ else _) = _
      rw [if_neg (by have : 3 ≤ E.1 := h3; omega)]
    have c3 : sm_z mi E.sz k = mi k := by
      unfold sm_z
      rw [if_neg (by omega)]
    obtain ⟨g0, scr, g1, g2, g3, g4, g5, g6⟩ := h.2.2.2 k hk
    have hq : H'[G.old k]? = H[G.old k]? := oq _ (Array.getElem?_eq_some_iff.mp g1).1
    exact ⟨by rw [c1]; exact g0, scr, by rw [hq]; exact g1, g2, g3, g4, by rw [c1]; exact g5, fun j hj => by rw [c3]; exact g6 j (by rw [← c1]; exact hj)⟩
  by_cases e : k = E.sz
  · subst e
    have : sm_adr G E.sz = H.size := by
      unfold sm_adr
      rw [if_neg (by omega : ¬ E.sz < 3), hsz]
    rw [this]
    exact ha
  · have hk' : k < E.sz := by
      have : k < E.1 + 1 := hk
      have e' : ¬ k = E.1 := e
      show k < E.1
      omega
    have hat := h.at hk3 hk'
    rw [sm_cell_congr (E := E) (mi := mi) (by show (if k = E.1 then _ else _) = _; rw [if_neg e]) (by show (if k = E.1 then _ else _) = _; rw [if_neg e]) (by show (if k = E.1 then _ else _) = _; rw [if_neg e])]
    exact hat.kept (oq _ hat.lt)
theorem sm_tyK : ∀ k, k < 8 → ∀ j, sm_ty k j = .int ∨ sm_ty k j = .boolean ∨ (sm_ty k j).isReference = true := by
  intro k hk j
  match k, hk with
  | 0, _ => simp only [sm_ty, tyX1]; split <;> first | exact Or.inl rfl | exact Or.inr (Or.inl rfl) | exact Or.inr (Or.inr rfl)
  | 1, _ => simp only [sm_ty, tyX2]; split <;> first | exact Or.inl rfl | exact Or.inr (Or.inl rfl) | exact Or.inr (Or.inr rfl)
  | 2, _ => simp only [sm_ty, tyX3]; split <;> first | exact Or.inl rfl | exact Or.inr (Or.inl rfl) | exact Or.inr (Or.inr rfl)
  | 3, _ => simp only [sm_ty, tyX4]; split <;> first | exact Or.inl rfl | exact Or.inr (Or.inl rfl) | exact Or.inr (Or.inr rfl)
  | 4, _ => simp only [sm_ty, tyX5]; split <;> first | exact Or.inl rfl | exact Or.inr (Or.inl rfl) | exact Or.inr (Or.inr rfl)
  | 5, _ => simp only [sm_ty, tyX7]; split <;> first | exact Or.inl rfl | exact Or.inr (Or.inl rfl) | exact Or.inr (Or.inr rfl)
  | 6, _ => simp only [sm_ty, tyX9]; split <;> first | exact Or.inl rfl | exact Or.inr (Or.inl rfl) | exact Or.inr (Or.inr rfl)
  | 7, _ => simp only [sm_ty, tyX10]; split <;> first | exact Or.inl rfl | exact Or.inr (Or.inl rfl) | exact Or.inr (Or.inr rfl)
  | k + 8, h => omega
section SMN
variable {X : XT} {pc : Nat} {lv : List (Option AV)} {st : List AV} {E : ET} {mi : MI} {r : RT}
theorem sm_frS {G : GT} {s : State} (h : sm_S G s) : ∀ q, s.heap.size ≤ q → sm_fr G q := fun q hq => by
  have := h.2.2.2.2.2.1
  show G.base ≤ q
  omega
theorem sm_new {idx kd : Nat} (h8 : kd < 8) (hw : Cond.classLink X.own idx (sm_cC kd) ∈ sm_tb ∧ Cond.instantiable (sm_cC kd) (sm_cN kd) ∈ sm_tb ∧ Cond.initialized (sm_cC kd) ∈ sm_tb) (hd : decode X.cc pc = .ok (.new idx, 3))
    (kk : sM X (pc + 3) lv (.inr E.sz :: st) (sm_al E kd 0 (sm_cN kd)) (sm_z mi E.sz) r) : sM X pc lv st E mi r := by
  have m1 : E.1 + 1 ≤ r.2.1.1 := kk.1.1
  have m2 : E.2.1 + sm_cN kd ≤ r.2.1.2.1 := kk.1.2
  refine ⟨⟨by show E.1 ≤ _; exact Nat.le_of_succ_le m1, by show E.2.1 ≤ _; exact Nat.le_trans (Nat.le_add_right _ _) m2⟩, fun p l e R s m args below meth c H locs cells slots ls Q h1 h2 h3 h4 h5 h6 h7 h8' => ?_⟩
  have h6a : cells + (r.2.1.1 - E.1) ≤ R.cells := h6
  have h7a : slots + (r.2.1.2.1 - E.2.1) ≤ R.slots := h7
  have hts := h1.2.2.2.2.1
  have hc := sm_cl kd h8
  have hKn := h2.1.1 kd _ hc
  refine W.newcK h1.1 h1.2.1 h1.2.2.2.1 (hts _ hw.1) (hts _ hw.2.1) (hts _ hw.2.2) rfl hd (by omega) (by omega) hKn.2.1 rfl fun H1 kC hkC e1 z1 o1 => ?_
  have hadr : sm_adr X.G E.sz = H.size := by
    unfold sm_adr
    rw [if_neg (by have := h3.2.1; omega : ¬ E.sz < 3), h3.1]
  have hH : sm_H X.G (sm_al E kd 0 (sm_cN kd)) (sm_z mi E.sz) H1 := by
    refine h3.push ?_ z1 o1
    rw [sm_cell_o (E := sm_al E kd 0 (sm_cN kd)) (kd := kd) (by show (if E.1 = E.1 then (kd, 0) else E.2.2.1 E.1).1 = _; rw [if_pos rfl]) h8]
    refine ⟨_, hc, (u_born (sm_ty kd) hts (sm_inU kd h8) hKn hkC e1 (sm_tyok kd h8)).to (fun j hj => ?_)⟩
    rw [sm_V hj]
    unfold sm_f sm_al sm_z
    rcases sm_tyK kd h8 j with hty | hty | hty
    · simp [hty, FieldType.isReference, defaultValue, sm_i_0, ET.sz]
    · simp [hty, FieldType.isReference, defaultValue, sm_i_0, ET.sz]
    · rw [hty]
      revert hty
      cases sm_ty kd j <;> simp [FieldType.isReference, defaultValue, va_rf, ET.mr, ET.sz]
  have w := kk.2 p l e R s m args below meth c H1 locs (cells + 1) (slots + sm_cN kd) ls Q h1 h2 hH ⟨Nat.le_trans h4.1 (by omega), fun x g1 g2 => (o1 x (Nat.lt_of_lt_of_le g1 h4.1)).trans (h4.2.1 x g1 g2), h4.2.2⟩ h5
    (by show cells + 1 + (r.2.1.1 - (E.1 + 1)) ≤ _; omega) (by show slots + sm_cN kd + (r.2.1.2.1 - (E.2.1 + sm_cN kd)) ≤ _; omega) h8'
  simp only [List.map_cons, sm_v, hadr] at w
  exact w
theorem sm_newarray {at' : ArrayType} {n : Nat} {kd : Nat} (hat : at' = .int ∧ kd = 20 ∨ at' = .char ∧ kd = 21) (hw : Cond.arrayClass (newarray.typeOf at') ∈ sm_tb) (hn : n < 65536) (hd : decode X.cc pc = .ok (.newarray at', 2))
    (kk : sM X (pc + 2) lv (.inr E.sz :: st) (sm_al E kd n n) (sm_z mi E.sz) r) : sM X pc lv (.inl (n : Int) :: st) E mi r := by
  have m1 : E.1 + 1 ≤ r.2.1.1 := kk.1.1
  have m2 : E.2.1 + n ≤ r.2.1.2.1 := kk.1.2
  refine ⟨⟨by show E.1 ≤ _; exact Nat.le_of_succ_le m1, by show E.2.1 ≤ _; exact Nat.le_trans (Nat.le_add_right _ _) m2⟩, fun p l e R s m args below meth c H locs cells slots ls Q h1 h2 h3 h4 h5 h6 h7 h8' => ?_⟩
  have h6a : cells + (r.2.1.1 - E.1) ≤ R.cells := h6
  have h7a : slots + (r.2.1.2.1 - E.2.1) ≤ R.slots := h7
  have hts := h1.2.2.2.2.1
  have hwn : sm_w (n : Int) = n := sm_w_eq (by omega) (by omega)
  have hcb : componentBytes (newarray.typeOf at') ≤ 8 := by rcases hat with ⟨rfl, rfl⟩ | ⟨rfl, rfl⟩ <;> decide
  have hbytes : n * componentBytes (newarray.typeOf at') ≤ 536870912 := Nat.le_trans (Nat.mul_le_mul (Nat.le_of_lt hn) hcb) (by decide)
  refine va_newaK (n := sm_i n) (N := n) h1.1 h1.2.1 (hts _ hw) rfl hd rfl (by rw [← sm_i_0, sm_i_lt, sm_w_0, hwn]; omega) (by rw [sm_clamp, hwn]; rfl) hbytes (by omega) (by omega) rfl fun H1 cA e1 z1 o1 hAr hNm => ?_
  have hadr : sm_adr X.G E.sz = H.size := by
    unfold sm_adr
    rw [if_neg (by have := h3.2.1; omega : ¬ E.sz < 3), h3.1]
  have hcA : cA = X.G.cA kd := by
    rcases hat with ⟨rfl, rfl⟩ | ⟨rfl, rfl⟩
    · exact Option.some.inj (hNm.symm.trans (h2.1.2 0 _ rfl).2)
    · exact Option.some.inj (hNm.symm.trans (h2.1.2 1 _ rfl).2)
  have h2021 : kd = 20 ∨ kd = 21 := by rcases hat with ⟨-, h⟩ | ⟨-, h⟩ <;> omega
  have hH : sm_H X.G (sm_al E kd n n) (sm_z mi E.sz) H1 := by
    refine h3.push ?_ z1 o1
    rw [sm_cell_i (E := sm_al E kd n n) (kd := kd) (n := n) (by show (if E.1 = E.1 then _ else _) = _; rw [if_pos rfl]) h2021]
    show H1[H.size]? = some (vp_cell _ _)
    rw [e1, vp_cell_i, hcA]
    have : defaultValue (newarray.typeOf at') = .int 0 := by rcases hat with ⟨rfl, -⟩ | ⟨rfl, -⟩ <;> rfl
    rw [this]
    unfold sm_z
    simp [sm_i_0]
  have w := kk.2 p l e R s m args below meth c H1 locs (cells + 1) (slots + n) ls Q h1 h2 hH ⟨Nat.le_trans h4.1 (by omega), fun x g1 g2 => (o1 x (Nat.lt_of_lt_of_le g1 h4.1)).trans (h4.2.1 x g1 g2), h4.2.2⟩ h5
    (by show cells + 1 + (r.2.1.1 - (E.1 + 1)) ≤ _; omega) (by show slots + n + (r.2.1.2.1 - (E.2.1 + n)) ≤ _; omega) h8'
  simp only [List.map_cons, sm_v, hadr] at w
  exact w
theorem sm_anewarray {n idx kd : Nat} (h22 : kd = 22 ∨ kd = 23 ∨ kd = 24 ∨ kd = 25) (hw : Cond.classLink X.own idx (sm_cC (sm_aK kd)) ∈ sm_tb) (hn : n < 65536) (hd : decode X.cc pc = .ok (.anewarray idx, 3))
    (kk : sM X (pc + 3) lv (.inr E.sz :: st) (sm_al E kd n n) (sm_z mi E.sz) r) : sM X pc lv (.inl (n : Int) :: st) E mi r := by
  have m1 : E.1 + 1 ≤ r.2.1.1 := kk.1.1
  have m2 : E.2.1 + n ≤ r.2.1.2.1 := kk.1.2
  refine ⟨⟨by show E.1 ≤ _; exact Nat.le_of_succ_le m1, by show E.2.1 ≤ _; exact Nat.le_trans (Nat.le_add_right _ _) m2⟩, fun p l e R s m args below meth c H locs cells slots ls Q h1 h2 h3 h4 h5 h6 h7 h8' => ?_⟩
  have h6a : cells + (r.2.1.1 - E.1) ≤ R.cells := h6
  have h7a : slots + (r.2.1.2.1 - E.2.1) ≤ R.slots := h7
  have hts := h1.2.2.2.2.1
  have hwn : sm_w (n : Int) = n := sm_w_eq (by omega) (by omega)
  have hcl : (sm_i n).toNatClampNeg = n := by rw [sm_clamp, hwn]; rfl
  have hAO : va_AO (sm_cC (sm_aK kd)) s := by
    rcases h22 with rfl | rfl | rfl | rfl
    · exact h2.2.2.1.1
    · exact h2.2.2.1.2.1
    · exact h2.2.2.1.2.2.1
    · exact h2.2.2.1.2.2.2.1
  refine W.anew (n := sm_i n) h1.1 h1.2.1 h1.2.2.2.1 (hts _ hw) (va_AO.use hAO) rfl hd rfl (by rw [← sm_i_0, sm_i_lt, sm_w_0, hwn]; omega) (by rw [hcl]; omega) (by omega) (by rw [hcl]; omega) fun cA kA comp f1 f2 f3 f4 => ?_
  have hadr : sm_adr X.G E.sz = H.size := by
    unfold sm_adr
    rw [if_neg (by have := h3.2.1; omega : ¬ E.sz < 3), h3.1]
  have hcA : cA = X.G.cA kd := by
    rcases h22 with rfl | rfl | rfl | rfl
    · obtain ⟨-, -, -, -, -, g⟩ := (h2.1.2 2 _ rfl).2
      exact Option.some.inj (f1.symm.trans g)
    · obtain ⟨-, -, -, -, -, g⟩ := (h2.1.2 3 _ rfl).2
      exact Option.some.inj (f1.symm.trans g)
    · obtain ⟨-, -, -, -, -, g⟩ := (h2.1.2 4 _ rfl).2
      exact Option.some.inj (f1.symm.trans g)
    · obtain ⟨-, -, -, -, -, g⟩ := (h2.1.2 5 _ rfl).2
      exact Option.some.inj (f1.symm.trans g)
  generalize hH1 : H.push ({ cls := cA, slots := Array.replicate (sm_i n).toNatClampNeg .null, vm := .none } : Cell) = H1
  have z1 : H1.size = H.size + 1 := by rw [← hH1, Array.size_push]
  have e1 : H1[H.size]? = some (arrV cA n (fun _ => .null)) := by rw [← hH1, Array.getElem?_push_size, ← arrV_new, hcl]
  have o1 : ∀ q : Nat, q < H.size → H1[q]? = H[q]? := fun q hq => by rw [← hH1, Array.getElem?_push, if_neg (Nat.ne_of_lt hq)]
  have hH : sm_H X.G (sm_al E kd n n) (sm_z mi E.sz) H1 := by
    refine h3.push ?_ z1 o1
    rw [sm_cell_q (E := sm_al E kd n n) (kd := kd) (n := n) (by show (if E.1 = E.1 then _ else _) = _; rw [if_pos rfl]) (by omega)]
    show H1[H.size]? = some (vp_cell _ _)
    rw [e1, vp_cell_q, hcA]
    unfold sm_al
    simp [va_rf, ET.mr, ET.sz]
  have w := kk.2 p l e R s m args below meth c H1 locs (cells + 1) (slots + n) ls Q h1 h2 hH ⟨Nat.le_trans h4.1 (by omega), fun x g1 g2 => (o1 x (Nat.lt_of_lt_of_le g1 h4.1)).trans (h4.2.1 x g1 g2), h4.2.2⟩ h5
    (by show cells + 1 + (r.2.1.1 - (E.1 + 1)) ≤ _; omega) (by show slots + n + (r.2.1.2.1 - (E.2.1 + n)) ≤ _; omega) h8'
  simp only [List.map_cons, sm_v, hadr] at w
  rw [hcl]
  exact w
theorem sm_static {idx k : Nat} {own : String} (ho : X.own = own) (hs : own = "PatrolDesk$Books" ∧ Cond.fieldLink own idx "PatrolDesk$Books" "REPAIR_COSTS" "[I" ∈ sm_tb ∧ k = 1 ∨ own = "PatrolDesk$CallText" ∧ Cond.fieldLink own idx "PatrolDesk$CallText" "MARKS" "[C" ∈ sm_tb ∧ k = 2)
    (hd : decode X.cc pc = .ok (.getstatic idx, 3)) (kk : sM X (pc + 3) lv (.inr k :: st) E mi r) : sM X pc lv st E mi r := by
  subst ho
  refine ⟨kk.1, fun p l e R s m args below meth c H locs cells slots ls Q h1 h2 h3 h4 h5 h6 h7 h8 => ?_⟩
  have w := kk.2 p l e R s m args below meth c H locs cells slots ls Q h1 h2 h3 h4 h5 h6 h7 h8
  rcases hs with ⟨-, hw, rfl⟩ | ⟨-, hw, rfl⟩
  · exact va_gets h1.1 h1.2.1 h2.2.2.2.1 h4 h1.2.2.2.1 (h1.2.2.2.2.1 _ hw) (fun _ h => h) hd w
  · exact va_gets h1.1 h1.2.1 h2.2.2.2.2.1 h4 h1.2.2.2.1 (h1.2.2.2.2.1 _ hw) (fun _ h => h) hd w
theorem sm_objInit {idx a : Nat} (hw : Cond.methodLink X.own idx Lib.objectInit ∈ sm_tb ∧ Cond.instanceMethod Lib.objectInit ∈ sm_tb ∧ Cond.code Lib.objectInit ⟨#[0xb1]⟩ 1 none ∈ sm_tb) (hr : 1 ≤ X.fr ∧ st.length + 12 ≤ X.lo)
    (hd : decode X.cc pc = .ok (.invokespecial idx, 3)) (kk : sM X (pc + 3) lv st E mi r) : sM X pc lv (.inr a :: st) E mi r := by
  refine ⟨kk.1, fun p l e R s m args below meth c H locs cells slots ls Q h1 h2 h3 h4 h5 h6 h7 h8 => ?_⟩
  have hts := h1.2.2.2.2.1
  have r1 := h1.2.2.2.2.2.2.1
  have r2 := h1.2.2.2.2.2.2.2
  refine W.objInit h1.1 h1.2.1 h1.2.2.2.1 (hts _ hw.1) (hts _ hw.2.1) (hts _ hw.2.2) rfl (by rw [h1.2.2.1]; exact h5.1) rfl hd (by omega) (by rw [sm_cats]; show 2 * 0 + _ + 12 ≤ _; omega) ?_
  exact kk.2 p l e R s m args below meth c H locs cells slots ls Q h1 h2 h3 h4 h5 h6 h7 h8
def sm_max (x y : Int) : Int := if sm_w x < sm_w y then y else x
def sm_min (x y : Int) : Int := if sm_w y < sm_w x then y else x
def sm_abs (x : Int) : Int := if 0 ≤ sm_w x then x else 0 - x
theorem sm_mmax {idx : Nat} {x y : Int} (hw : Cond.methodLink X.own idx Lib.Math.max.name ∈ sm_tb ∧ Cond.static Lib.Math.max.name ∈ sm_tb ∧ Cond.initialized "java/lang/Math" ∈ sm_tb ∧ Cond.code Lib.Math.max.name Lib.Math.max.code 2 (some .int) ∈ sm_tb) (hr : 1 ≤ X.fr ∧ st.length + 13 ≤ X.lo)
    (hd : decode X.cc pc = .ok (.invokestatic idx, 3)) (kk : sM X (pc + 3) lv (.inl (sm_max x y) :: st) E mi r) : sM X pc lv (.inl y :: .inl x :: st) E mi r := by
  refine ⟨kk.1, fun p l e R s m args below meth c H locs cells slots ls Q h1 h2 h3 h4 h5 h6 h7 h8 => ?_⟩
  have hts := h1.2.2.2.2.1
  have r1 := h1.2.2.2.2.2.2.1
  have r2 := h1.2.2.2.2.2.2.2
  have w := kk.2 p l e R s m args below meth c H locs cells slots ls Q h1 h2 h3 h4 h5 h6 h7 h8
  refine va_mmax h1.1 h1.2.1 (by rw [h1.2.2.1]; exact h5.1.symm) h1.2.2.2.1 (hts _ hw.1) (hts _ hw.2.1) (hts _ hw.2.2.1) (hts _ hw.2.2.2) (by omega) (by rw [sm_cats]; omega) (by omega) (by omega) hd ?_
  have e9 : (if sm_i x < sm_i y then sm_i y else sm_i x) = sm_i (sm_max x y) := by
    unfold sm_max
    by_cases q : sm_w x < sm_w y
    · rw [if_pos q, if_pos ((sm_i_lt x y).mpr q)]
    · rw [if_neg q, if_neg (fun z => q ((sm_i_lt x y).mp z))]
  rw [e9]
  exact w
theorem sm_mmin {idx : Nat} {x y : Int} (hw : Cond.methodLink X.own idx Lib.Math.min.name ∈ sm_tb ∧ Cond.static Lib.Math.min.name ∈ sm_tb ∧ Cond.initialized "java/lang/Math" ∈ sm_tb ∧ Cond.code Lib.Math.min.name Lib.Math.min.code 2 (some .int) ∈ sm_tb) (hr : 1 ≤ X.fr ∧ st.length + 13 ≤ X.lo)
    (hd : decode X.cc pc = .ok (.invokestatic idx, 3)) (kk : sM X (pc + 3) lv (.inl (sm_min x y) :: st) E mi r) : sM X pc lv (.inl y :: .inl x :: st) E mi r := by
  refine ⟨kk.1, fun p l e R s m args below meth c H locs cells slots ls Q h1 h2 h3 h4 h5 h6 h7 h8 => ?_⟩
  have hts := h1.2.2.2.2.1
  have r1 := h1.2.2.2.2.2.2.1
  have r2 := h1.2.2.2.2.2.2.2
  have w := kk.2 p l e R s m args below meth c H locs cells slots ls Q h1 h2 h3 h4 h5 h6 h7 h8
  refine va_mmin h1.1 h1.2.1 (by rw [h1.2.2.1]; exact h5.1.symm) h1.2.2.2.1 (hts _ hw.1) (hts _ hw.2.1) (hts _ hw.2.2.1) (hts _ hw.2.2.2) (by omega) (by rw [sm_cats]; omega) (by omega) (by omega) hd ?_
  have e9 : (if sm_i y < sm_i x then sm_i y else sm_i x) = sm_i (sm_min x y) := by
    unfold sm_min
    by_cases q : sm_w y < sm_w x
    · rw [if_pos q, if_pos ((sm_i_lt y x).mpr q)]
    · rw [if_neg q, if_neg (fun z => q ((sm_i_lt y x).mp z))]
  rw [e9]
  exact w
theorem sm_mabs {idx : Nat} {x : Int} (hw : Cond.methodLink X.own idx Lib.Math.abs.name ∈ sm_tb ∧ Cond.static Lib.Math.abs.name ∈ sm_tb ∧ Cond.initialized "java/lang/Math" ∈ sm_tb ∧ Cond.code Lib.Math.abs.name Lib.Math.abs.code 1 (some .int) ∈ sm_tb) (hr : 1 ≤ X.fr ∧ st.length + 13 ≤ X.lo)
    (hd : decode X.cc pc = .ok (.invokestatic idx, 3)) (kk : sM X (pc + 3) lv (.inl (sm_abs x) :: st) E mi r) : sM X pc lv (.inl x :: st) E mi r := by
  refine ⟨kk.1, fun p l e R s m args below meth c H locs cells slots ls Q h1 h2 h3 h4 h5 h6 h7 h8 => ?_⟩
  have hts := h1.2.2.2.2.1
  have r1 := h1.2.2.2.2.2.2.1
  have r2 := h1.2.2.2.2.2.2.2
  have w := kk.2 p l e R s m args below meth c H locs cells slots ls Q h1 h2 h3 h4 h5 h6 h7 h8
  refine va_mabs h1.1 h1.2.1 (by rw [h1.2.2.1]; exact h5.1.symm) h1.2.2.2.1 (hts _ hw.1) (hts _ hw.2.1) (hts _ hw.2.2.1) (hts _ hw.2.2.2) (by omega) (by rw [sm_cats]; omega) (by omega) (by omega) hd ?_
  have e9 : (if 0 ≤ sm_i x then sm_i x else 0 - sm_i x) = sm_i (sm_abs x) := by
    unfold sm_abs
    by_cases q : 0 ≤ sm_w x
    · rw [if_pos q, if_pos (by rw [← sm_i_0, sm_i_le, sm_w_0]; exact q)]
    · rw [if_neg q, if_neg (fun z => q (by rw [← sm_i_0, sm_i_le, sm_w_0] at z; exact z))]
      rw [← sm_i_0, sm_i_sub]
  rw [e9]
  exact w
def sm_cp (mi : MI) (a b sp dp n : Nat) : MI := fun c k => if c = b ∧ dp ≤ k ∧ k < dp + n then mi a (sp + (k - dp)) else mi c k
theorem sm_cp_ne {mi : MI} {a b sp dp n c : Nat} (h : ¬ c = b) : sm_cp mi a b sp dp n c = mi c := by
  funext k
  simp [sm_cp, h]
theorem sm_copy {idx a b na nb : Nat} {sp dp n : Int} (hw : Cond.methodLink X.own idx arraycopyName ∈ sm_tb ∧ Cond.native arraycopyName ∈ sm_tb ∧ Cond.static arraycopyName ∈ sm_tb ∧ Cond.initialized "java/lang/System" ∈ sm_tb) (hr : 1 ≤ X.fr ∧ st.length + (nativeFrameWords "java/lang/System" "arraycopy" 5 + 11) ≤ X.lo)
    (ha : E.sh a = (20, na)) (h3a : 3 ≤ a) (hal : a < E.sz) (hb : E.sh b = (20, nb)) (hbl : b < E.sz) (h3b : 3 ≤ b) (g1 : 0 ≤ sm_w sp) (g2 : 0 ≤ sm_w dp) (g3 : 0 ≤ sm_w n) (g4 : sm_w sp + sm_w n ≤ na) (g5 : sm_w dp + sm_w n ≤ nb)
    (hd : decode X.cc pc = .ok (.invokestatic idx, 3)) (kk : sM X (pc + 3) lv st E (sm_cp mi a b (sm_w sp).toNat (sm_w dp).toNat (sm_w n).toNat) r) : sM X pc lv (.inl n :: .inl dp :: .inr b :: .inl sp :: .inr a :: st) E mi r := by
  refine ⟨kk.1, fun p l e R s m args below meth c H locs cells slots ls Q h1 h2 h3 h4 h5 h6 h7 h8 => ?_⟩
  have hts := h1.2.2.2.2.1
  have r1 := h1.2.2.2.2.2.2.1
  have r2 := h1.2.2.2.2.2.2.2
  intro T hT X1
  have hc0 := h3.at h3a hal
  rw [sm_cell_i ha (Or.inl rfl)] at hc0
  have hc0 : H[sm_adr X.G a]? = some (vp_cell (X.G.cA 20) (na, .inl (fun j => sm_i (mi a j)))) := hc0
  have hc1 := h3.at h3b hbl
  rw [sm_cell_i hb (Or.inl rfl)] at hc1
  have hc1 : H[sm_adr X.G b]? = some (vp_cell (X.G.cA 20) (nb, .inl (fun j => sm_i (mi b j)))) := hc1
  obtain ⟨-, k0, hk0, cm0, hkk0⟩ := (h2.1.2 0 _ rfl).1 na (fun j => .int (sm_i (mi a j)))
  obtain ⟨-, k1, hk1, cm1, hkk1⟩ := (h2.1.2 0 _ rfl).1 nb (fun j => .int (sm_i (mi b j)))
  have ng : ∀ z : Int, 0 ≤ sm_w z → ¬ sm_i z < 0 := by
    intro z hz q
    rw [← sm_i_0, sm_i_lt, sm_w_0] at q
    omega
  obtain ⟨vm', X', step⟩ := X1.arraycopy h1.1 h1.2.2.2.1 (hts _ hw.1) (hts _ hw.2.1) (hts _ hw.2.2.1) (hts _ hw.2.2.2) (src := sm_adr X.G a) (dst := sm_adr X.G b) (cs := vp_cell (X.G.cA 20) (na, .inl (fun j => sm_i (mi a j)))) (cd := vp_cell (X.G.cA 20) (nb, .inl (fun j => sm_i (mi b j)))) (srcPos := sm_i sp) (destPos := sm_i dp) (n := sm_i n) (by rw [hT]; exact hc0) (by rw [hT]; exact hc1)
    (fun _ h => by cases h) (fun _ h => by cases h) (fun h => by cases h) (fun h => by cases h) hk0 hk1 hkk0 hkk1 (by rfl) (ng _ g1) (ng _ g2) (ng _ g3)
    (by rw [sm_i_toInt, sm_i_toInt]; show ¬ _ > ((arrV _ _ _).slots.size : Int); rw [arrV_size]; omega)
    (by rw [sm_i_toInt, sm_i_toInt]; show ¬ _ > ((arrV _ _ _).slots.size : Int); rw [arrV_size]; omega)
    (fun vm₁ _ i hi => by
      have e : (vp_cell (X.G.cA 20) (na, .inl (fun j => sm_i (mi a j)))).slots.getD ((sm_i sp).toNatClampNeg + i) .null = .int (sm_i (mi a ((sm_i sp).toNatClampNeg + i))) := by
        show (arrV _ _ _).slots.getD _ _ = _
        rw [sm_clamp] at hi
        rw [Array.getD_eq_getD_getElem?, arrV_read _ _ (by rw [sm_clamp]; omega)]
        rfl
      refine ⟨?_, ?_⟩
      · rw [e]
        rfl
      · rw [e]
        exact trivial)
    (g := F0 m pc ls ((.inl n :: .inl dp :: .inr b :: .inl sp :: .inr a :: st : List AV).map (sm_v X.G))) rfl (by rw [h1.2.2.1]; exact h5.1) (rest := st.map (sm_v X.G)) rfl (by rw [h1.2.1]; exact hd) (by omega) (by rw [sm_cats]; show 2 * 0 + _ + _ ≤ _; omega)
  have e1 : copied (vp_cell (X.G.cA 20) (na, .inl (fun j => sm_i (mi a j)))) (vp_cell (X.G.cA 20) (nb, .inl (fun j => sm_i (mi b j)))) (sm_i sp) (sm_i dp) (sm_i n) = vp_cell (X.G.cA 20) (nb, .inl (va_cpy (fun j => sm_i (mi a j)) (fun j => sm_i (mi b j)) (sm_i sp).toNatClampNeg (sm_i dp).toNatClampNeg (sm_i n).toNatClampNeg)) := va_copied (fun z => .int z) (X.G.cA 20) (X.G.cA 20) (fun j => sm_i (mi a j)) (fun j => sm_i (mi b j)) (by rw [sm_clamp, sm_clamp]; omega)
  rw [e1] at X' step
  have hl : sm_adr X.G b < H.size := (Array.getElem?_eq_some_iff.mp hc1).1
  generalize hY : vp_cell (X.G.cA 20) (nb, .inl (va_cpy (fun j => sm_i (mi a j)) (fun j => sm_i (mi b j)) (sm_i sp).toNatClampNeg (sm_i dp).toNatClampNeg (sm_i n).toNatClampNeg)) = Y at X' step
  have hheap : ((T.setVm vm').setCell (sm_adr X.G b) Y).heap = H.setIfInBounds (sm_adr X.G b) Y := by rw [← hT]; rfl
  have oq : ∀ q : Nat, q ≠ sm_adr X.G b → (H.setIfInBounds (sm_adr X.G b) Y)[q]? = H[q]? := fun q hq => by simp [Array.getElem?_setIfInBounds, Ne.symm hq]
  have hH : sm_H X.G E (sm_cp mi a b (sm_w sp).toNat (sm_w dp).toNat (sm_w n).toNat) (H.setIfInBounds (sm_adr X.G b) Y) := by
    refine h3.put rfl h2.2.2.2.2.2.2 h3b ?_ (by simp) oq (fun k hk' => ⟨rfl, rfl, sm_cp_ne hk'⟩)
    rw [sm_cell_i hb (Or.inl rfl)]
    show (H.setIfInBounds (sm_adr X.G b) Y)[sm_adr X.G b]? = some (vp_cell _ _)
    rw [show (H.setIfInBounds (sm_adr X.G b) Y)[sm_adr X.G b]? = some Y by simp [Array.getElem?_setIfInBounds, hl], ← hY, vp_cell_i, vp_cell_i]
    congr 2
    funext q
    unfold va_cpy sm_cp
    rw [sm_clamp, sm_clamp, sm_clamp]
    by_cases hq : (sm_w dp).toNat ≤ q ∧ q < (sm_w dp).toNat + (sm_w n).toNat
    · rw [if_pos hq, if_pos ⟨rfl, hq.1, hq.2⟩]
    · rw [if_neg hq, if_neg (fun z => hq z.2)]
  obtain ⟨t, a1, b1⟩ := kk.2 p l e R s m args below meth c _ _ cells slots ls Q h1 h2 hH ⟨by simp; exact h4.1, fun q q1 q2 => by
      rw [oq q (fun e => q2 (by rw [e]; exact sm_adr_fr h3b))]
      exact h4.2.1 q q1 q2, fun q hq => by
      rcases List.mem_append.mp hq with h | h
      · exact h4.2.2 q h
      · obtain ⟨z, -, hz⟩ := List.mem_map.mp h
        rw [← hz]
        exact sm_adr_fr h3b⟩ h5 h6 h7 h8 _ hheap X'
  exact ⟨t, step t a1, b1⟩
end SMN
end
section
/-! ===== calls, and a method's contract out of its walk ===== -/
theorem sm_K_moved {G : GT} {u U : State} (hvm : u.vm.Alike U.vm) (h : va_K G.D vwCl (sm_tys G) u) : va_K G.D vwCl (sm_tys G) U := va_K.moved hvm h
theorem sm_S.warm {G : GT} {s U : State} {H : Heap} {locs : List Loc} (h : sm_S G s) (hS : va_S (sm_fr G) s.heap H locs) (hU : U.heap = H) (hW : s.WarmedH U.vm) : sm_S G U := by
  obtain ⟨k1, k2, ⟨a1, a2, a3, a4, a5⟩, z1, z2, b1, b2⟩ := h
  have hvm := hW.alike
  have ko : ∀ a : Nat, a < s.heap.size → ¬ sm_fr G a → U.heap[a]? = s.heap[a]? := fun a ha hf => by rw [hU]; exact hS.2.1 a ha hf
  refine ⟨va_K.moved hvm k1, fun w hw hn => ?_, ⟨a1.moved hvm, a2.moved hvm, a3.moved hvm, a4.moved hvm, a5.moved hvm⟩, (z1.moved hvm).kept ko, (z2.moved hvm).kept ko, by rw [hU]; exact Nat.le_trans b1 hS.1, b2⟩
  have h0 := k2 w hw hn
  cases w <;> first | exact va_Nw.warmF hW h0 | exact va_Nw.warmM hW h0 | (exact absurd hn (by simp [sm_ne]))
theorem sm_S.call {G : GT} {u : State} {g : JFrame} {mk : MethodId} {a : Array Value} (h : sm_S G u) : sm_S G (u.calling g mk a) := by
  obtain ⟨k1, k2, ⟨a1, a2, a3, a4, a5⟩, z1, z2, b1, b2⟩ := h
  have hvm : u.vm.Alike (u.calling g mk a).vm := Vm.Alike.refl u.vm
  exact ⟨va_K.moved hvm k1, fun w hw hn => va_Nw.same (u := u) (U := u.calling g mk a) (by cases w <;> first | rfl | (exact absurd hn (by simp [sm_ne]))) rfl (k2 w hw hn), ⟨a1.moved hvm, a2.moved hvm, a3.moved hvm, a4.moved hvm, a5.moved hvm⟩, z1.moved hvm, z2.moved hvm, b1, b2⟩
theorem sm_blind {G : GT} {avs : List AV} {E : ET} {mi : MI} : FrameBlind (sm_P G avs E mi) := fun _ _ _ _ h => ⟨h.1, h.2.1.call, h.2.2⟩
section SMC
variable {X : XT} {pc : Nat} {lv : List (Option AV)} {st : List AV} {E : ET} {mi : MI} {r : RT}
theorem sm_back {p : Program} {l : Launch} {e : Env} {R : Room} {s : State} {m : MethodId} {args : Array Value} {below : List Frame} {meth : Method} {c : Code} {H : Heap} {locs : List Loc} {cells slots mc ms : Nat} {ls : Array Slot} {Q : State → Prop} {st0 : List Value} {r1 : RT} {as : Array Value}
    (hr : va_Run p l e R s m args below meth c H locs cells slots mc ms (F0 m pc ls st0) (st.map (sm_v X.G)) (sm_Q X.G r1 as) (sm_fr X.G)) (h1 : sm_env X p s m args meth c R) (h2 : sm_S X.G s) (h3 : sm_H X.G E mi H) (h4 : va_S (sm_fr X.G) s.heap H locs) (h5 : sm_L X.G ls X.nL lv) (hsz : E.sz ≤ r1.2.1.sz)
    (kk : sM X (pc + 3) lv (r1.1.toList ++ st) r1.2.1 r1.2.2 r) (h6 : cells + mc + (r.2.1.sz - r1.2.1.sz) ≤ R.cells) (h7 : slots + ms + (r.2.1.us - r1.2.1.us) ≤ R.slots) (h8 : sm_end X r p l e R s m args below meth c Q) :
    W p l e R s m args below meth c H locs cells slots Q (F0 m pc ls st0) := by
  intro T hT X0
  obtain ⟨v, st₀, t, T', L, h0, X', hL, e1, e2, ⟨hv, hH, hF⟩, stp⟩ := hr T hT X0
  have hv' : v = r1.1.map (sm_v X.G) := Outcome.returned.inj hv
  subst hv'
  have hz : H.size ≤ t.heap.size := by
    rw [h3.1, hH.1]
    have : E.sz - 3 ≤ r1.2.1.sz - 3 := by omega
    omega
  have hst : (r1.1.map (sm_v X.G)).toList ++ st.map (sm_v X.G) = (r1.1.toList ++ st).map (sm_v X.G) := by
    cases r1.1 <;> simp
  rw [hst] at stp
  have hS : va_S (sm_fr X.G) s.heap T'.heap (locs ++ L) := by
    refine ⟨Nat.le_trans h4.1 (by rw [e1]; exact hz), fun q q1 q2 => ?_, fun q hq => ?_⟩
    · rw [e1, hF.2 q (by rw [h0]; exact Nat.lt_of_lt_of_le q1 h4.1) q2, h0]
      exact h4.2.1 q q1 q2
    · rcases List.mem_append.mp hq with h | h
      · exact h4.2.2 q h
      · exact hL q h
  obtain ⟨t2, a1, b1⟩ := kk.2 p l e R s m args below meth c T'.heap (locs ++ L) (cells + mc) (slots + ms) ls Q h1 h2 (by rw [e1]; exact hH) hS h5 h6 h7 h8 T' rfl X'
  exact ⟨t2, stp t2 a1, b1⟩
/-- what the tables say of a call -/
def sm_lk (own : String) (idx : Nat) (y : MethodName) (bytes : ByteArray) (mL : Nat) (ret : Option FieldType) (n : Nat) : Prop :=
  Cond.code y bytes mL ret ∈ sm_tb ∧ Cond.initialized y.cls ∈ sm_tb ∧ (y.cls ≠ "java/lang/invoke/MethodHandle" ∧ y.cls ≠ "java/lang/invoke/VarHandle" ∧ (parseMethodDescriptor y.desc).map (fun d => d.parameters.length) = some n) ∧
  (Cond.methodLink own idx y ∈ sm_tb ∨ ∃ host, Cond.methodLinkNest own idx y host ∈ lw_tbl)
theorem sm_gIn {y : MethodName} {bytes : ByteArray} {mL : Nat} {ret : Option FieldType} (h : Cond.code y bytes mL ret ∈ sm_tb) : GoodIn sm_tb (Cond.code y bytes mL ret :: sm_tb) := by
  intro w hw
  rcases List.mem_cons.mp hw with rfl | hw
  · exact ⟨h, sm_tb_good _ h⟩
  · exact ⟨hw, sm_tb_good _ hw⟩
theorem sm_cB {own : String} {idx : Nat} {y : MethodName} {bytes : ByteArray} {mL : Nat} {ret : Option FieldType} {n fr lo mc ms : Nat} {R : Room} {s : State} {args : Array Value} (lk : sm_lk own idx y bytes mL ret n) (hl : Cond.methodLink own idx y ∈ sm_tb) (hts : ∀ w ∈ sm_tb, w.before args s = true) (hR : fr + 1 ≤ R.frames ∧ 8 + (mL + 11) + lo ≤ R.locals) :
    CallB R s args own idx y bytes mL ret (Cond.code y bytes mL ret :: sm_tb) ({ frames := fr, cells := mc, slots := ms, locals := lo }) mc ms n :=
  callB_of n hts (sm_gIn lk.1) rfl rfl rfl (hts _ lk.2.1) (hts _ hl) lk.2.2.1 hR
theorem sm_cNs {own host : String} {idx : Nat} {y : MethodName} {bytes : ByteArray} {mL : Nat} {ret : Option FieldType} {n fr lo mc ms : Nat} {R : Room} {s : State} {args : Array Value} (lk : sm_lk own idx y bytes mL ret n) (hl : va_Nw (.methodLinkNest own idx y host) s) (hts : ∀ w ∈ sm_tb, w.before args s = true) (hR : fr + 1 ≤ R.frames ∧ 8 + (mL + 11) + lo ≤ R.locals) :
    va_CN R s args own idx y host bytes mL ret (Cond.code y bytes mL ret :: sm_tb) ({ frames := fr, cells := mc, slots := ms, locals := lo }) mc ms n :=
  va_cnB n hts (sm_gIn lk.1) rfl rfl rfl hl (hts _ lk.2.1) lk.2.2.1 hR
theorem sm_monoC {G : GT} {y : MethodName} {bytes : ByteArray} {mL : Nat} {ret : Option FieldType} {fr lo : Nat} {avs : List AV} {r1 : RT} (hC : cN G y bytes mL ret fr lo avs E mi r1) (h2 : r1.2.1.sz ≤ r.2.1.sz ∧ r1.2.1.us ≤ r.2.1.us) : E.sz ≤ r.2.1.sz ∧ E.us ≤ r.2.1.us := ⟨Nat.le_trans hC.1.1 h2.1, Nat.le_trans hC.1.2 h2.2⟩
theorem sm_map_app (G : GT) (avs : List AV) (w : List AV) : (avs.reverse ++ w).map (sm_v G) = (avs.map (sm_v G)).reverse ++ w.map (sm_v G) := by
  rw [List.map_append, List.map_reverse]
theorem sm_callV {own : String} {idx n mL fr lo a kd : Nat} {y : MethodName} {bytes : ByteArray} {ret : Option FieldType} {avs st0 : List AV} {r1 : RT} (lk : sm_lk own idx y bytes mL ret n) (hown : X.own = own) (hv : kd < 8 ∧ sm_cC kd = y.cls ∧ Cond.instanceMethod y ∈ sm_tb ∧ Cond.selects y.cls y y ∈ sm_tb)
    (hC : cN X.G y bytes mL ret fr lo (.inr a :: avs) E mi r1) (hR : fr + 1 ≤ X.fr ∧ 8 + (mL + 11) + lo ≤ X.lo) (hn : avs.length = n ∧ st.length ≤ 8) (hk : (E.sh a).1 = kd) (ha : a < E.sz) (hst : st0 = avs.reverse ++ .inr a :: st)
    (hd : decode X.cc pc = .ok (.invokevirtual idx, 3)) (kk : sM X (pc + 3) lv (r1.1.toList ++ st) r1.2.1 r1.2.2 r) : sM X pc lv st0 E mi r := by
  subst hst
  subst hown
  have hm := hC.1
  have hm2 := kk.1
  refine ⟨sm_monoC hC kk.1, fun p l e R s m args below meth c H locs cells slots ls Q h1 h2 h3 h4 h5 h6 h7 h8 => ?_⟩
  have hts := h1.2.2.2.2.1
  have hR' : fr + 1 ≤ R.frames ∧ 8 + (mL + 11) + lo ≤ R.locals := ⟨Nat.le_trans hR.1 h1.2.2.2.2.2.2.1, Nat.le_trans hR.2 h1.2.2.2.2.2.2.2⟩
  have h3a : 3 ≤ a := h3.three (Or.inl (by have := hv.1; omega))
  have hat := h3.at h3a ha
  rw [sm_cell_o hk hv.1] at hat
  have hrec : ∃ cellB : Cell, H[sm_adr X.G a]? = some cellB ∧ cellB.vm.isStatics = false ∧ s.vm.findClass y.cls = some cellB.cls := by
    rw [← hv.2.1]
    exact va_recv h2.1 (sm_P1 h3 h3a ha (sm_cell_o hk hv.1)) (ci := kd) (sm_cl kd hv.1) (q0 := 0) rfl
  have hpre : PreV s H y.cls (sm_adr X.G a) (sm_P X.G (.inr a :: avs) E mi) (avs.map (sm_v X.G)) :=
    ⟨sm_blind, hrec, fun U hU hW => ⟨rfl, h2.warm h4 hU hW, by rw [hU]; exact h3⟩⟩
  have hw : 2 * (F0 m pc ls (((avs.reverse ++ .inr a :: st).map (sm_v X.G)))).monitorRoom + ((st.map (sm_v X.G)).map fun v => v.category).sum ≤ 8 := by
    rw [sm_cats]
    show 2 * 0 + _ ≤ _
    omega
  have hrun : va_Run p l e R s m args below meth c H locs cells slots (r1.2.1.sz - E.sz) (r1.2.1.us - E.us) (F0 m pc ls ((avs.reverse ++ .inr a :: st).map (sm_v X.G))) (st.map (sm_v X.G)) (sm_Q X.G r1 (Value.ref (sm_adr X.G a) :: avs.map (sm_v X.G)).toArray) (sm_fr X.G) := by
    rcases lk.2.2.2 with hl | ⟨host, hl⟩
    · exact va_runV (own := X.own) ⟨h1.1, h1.2.1, h1.2.2.1, h1.2.2.2.1, hts⟩ (hC.2 l) ⟨sm_cB lk hl hts hR', hts _ hv.2.2.1, hts _ hv.2.2.2⟩ hpre rfl (by rw [List.length_map]; exact hn.1) h5.1 (sm_map_app _ _ _) hw hd ⟨by omega, by omega⟩
    · exact va_runVN (own := X.own) ⟨h1.1, h1.2.1, h1.2.2.1, h1.2.2.2.1, hts⟩ (hC.2 l) ⟨sm_cNs lk (h2.2.1 _ hl rfl) hts hR', hts _ hv.2.2.1, hts _ hv.2.2.2⟩ hpre rfl (by rw [List.length_map]; exact hn.1) h5.1 (sm_map_app _ _ _) hw hd ⟨by omega, by omega⟩
  exact sm_back hrun h1 h2 h3 h4 h5 hm.1 kk (by omega) (by omega) h8
theorem sm_callS {own : String} {idx n mL fr lo : Nat} {y : MethodName} {bytes : ByteArray} {ret : Option FieldType} {avs st0 : List AV} {r1 : RT} (lk : sm_lk own idx y bytes mL ret n) (hown : X.own = own) (hv : Cond.static y ∈ sm_tb)
    (hC : cN X.G y bytes mL ret fr lo avs E mi r1) (hR : fr + 1 ≤ X.fr ∧ 8 + (mL + 11) + lo ≤ X.lo) (hn : avs.length = n ∧ st.length ≤ 8) (hst : st0 = avs.reverse ++ st)
    (hd : decode X.cc pc = .ok (.invokestatic idx, 3)) (kk : sM X (pc + 3) lv (r1.1.toList ++ st) r1.2.1 r1.2.2 r) : sM X pc lv st0 E mi r := by
  subst hst
  subst hown
  have hm := hC.1
  have hm2 := kk.1
  refine ⟨sm_monoC hC kk.1, fun p l e R s m args below meth c H locs cells slots ls Q h1 h2 h3 h4 h5 h6 h7 h8 => ?_⟩
  have hts := h1.2.2.2.2.1
  have hR' : fr + 1 ≤ R.frames ∧ 8 + (mL + 11) + lo ≤ R.locals := ⟨Nat.le_trans hR.1 h1.2.2.2.2.2.2.1, Nat.le_trans hR.2 h1.2.2.2.2.2.2.2⟩
  have hpre : PreS s H (sm_P X.G avs E mi) (avs.map (sm_v X.G)) :=
    ⟨sm_blind, fun U hU hW => ⟨rfl, h2.warm h4 hU hW, by rw [hU]; exact h3⟩⟩
  have hw : 2 * (F0 m pc ls (((avs.reverse ++ st).map (sm_v X.G)))).monitorRoom + ((st.map (sm_v X.G)).map fun v => v.category).sum ≤ 8 := by
    rw [sm_cats]
    show 2 * 0 + _ ≤ _
    omega
  have hrun : va_Run p l e R s m args below meth c H locs cells slots (r1.2.1.sz - E.sz) (r1.2.1.us - E.us) (F0 m pc ls ((avs.reverse ++ st).map (sm_v X.G))) (st.map (sm_v X.G)) (sm_Q X.G r1 (avs.map (sm_v X.G)).toArray) (sm_fr X.G) := by
    rcases lk.2.2.2 with hl | ⟨host, hl⟩
    · exact va_runS (own := X.own) ⟨h1.1, h1.2.1, h1.2.2.1, h1.2.2.2.1, hts⟩ (hC.2 l) ⟨sm_cB lk hl hts hR', hts _ hv⟩ hpre rfl (by rw [List.length_map]; exact hn.1) h5.1 (sm_map_app _ _ _) hw hd ⟨by omega, by omega⟩
    · exact va_runSN (own := X.own) ⟨h1.1, h1.2.1, h1.2.2.1, h1.2.2.2.1, hts⟩ (hC.2 l) ⟨sm_cNs lk (h2.2.1 _ hl rfl) hts hR', hts _ hv, trivial⟩ hpre rfl (by rw [List.length_map]; exact hn.1) h5.1 (sm_map_app _ _ _) hw hd ⟨by omega, by omega⟩
  exact sm_back hrun h1 h2 h3 h4 h5 hm.1 kk (by omega) (by omega) h8
theorem sm_callI {own : String} {idx n mL fr lo a : Nat} {y : MethodName} {bytes : ByteArray} {avs st0 : List AV} {r1 : RT} (lk : sm_lk own idx y bytes mL none n) (hown : X.own = own) (hv : y.name = "<init>" ∧ Cond.instanceMethod y ∈ sm_tb)
    (hC : cN X.G y bytes mL none fr lo (.inr a :: avs) E mi r1) (hR : fr + 1 ≤ X.fr ∧ 8 + (mL + 11) + lo ≤ X.lo) (hn : avs.length = n ∧ st.length ≤ 8) (hst : st0 = avs.reverse ++ .inr a :: st)
    (hd : decode X.cc pc = .ok (.invokespecial idx, 3)) (kk : sM X (pc + 3) lv (r1.1.toList ++ st) r1.2.1 r1.2.2 r) : sM X pc lv st0 E mi r := by
  subst hst
  subst hown
  have hm := hC.1
  have hm2 := kk.1
  refine ⟨sm_monoC hC kk.1, fun p l e R s m args below meth c H locs cells slots ls Q h1 h2 h3 h4 h5 h6 h7 h8 => ?_⟩
  have hts := h1.2.2.2.2.1
  have hR' : fr + 1 ≤ R.frames ∧ 8 + (mL + 11) + lo ≤ R.locals := ⟨Nat.le_trans hR.1 h1.2.2.2.2.2.2.1, Nat.le_trans hR.2 h1.2.2.2.2.2.2.2⟩
  have hpre : PreS s H (sm_P X.G (.inr a :: avs) E mi) (.ref (sm_adr X.G a) :: avs.map (sm_v X.G)) :=
    ⟨sm_blind, fun U hU hW => ⟨rfl, h2.warm h4 hU hW, by rw [hU]; exact h3⟩⟩
  have hw : 2 * (F0 m pc ls (((avs.reverse ++ .inr a :: st).map (sm_v X.G)))).monitorRoom + ((st.map (sm_v X.G)).map fun v => v.category).sum ≤ 8 := by
    rw [sm_cats]
    show 2 * 0 + _ ≤ _
    omega
  have hrun : va_Run p l e R s m args below meth c H locs cells slots (r1.2.1.sz - E.sz) (r1.2.1.us - E.us) (F0 m pc ls ((avs.reverse ++ .inr a :: st).map (sm_v X.G))) (st.map (sm_v X.G)) (sm_Q X.G r1 (Value.ref (sm_adr X.G a) :: avs.map (sm_v X.G)).toArray) (sm_fr X.G) := by
    rcases lk.2.2.2 with hl | ⟨host, hl⟩
    · exact va_runI (own := X.own) ⟨h1.1, h1.2.1, h1.2.2.1, h1.2.2.2.1, hts⟩ (hC.2 l) ⟨sm_cB lk hl hts hR', hv.1, hts _ hv.2⟩ hpre rfl (by rw [List.length_map]; exact hn.1) h5.1 (sm_map_app _ _ _) hw hd ⟨by omega, by omega⟩
    · exact va_runIN (own := X.own) ⟨h1.1, h1.2.1, h1.2.2.1, h1.2.2.2.1, hts⟩ (hC.2 l) ⟨sm_cNs lk (h2.2.1 _ hl rfl) hts hR', hv.1, hts _ hv.2⟩ hpre rfl (by rw [List.length_map]; exact hn.1) h5.1 (sm_map_app _ _ _) hw hd ⟨by omega, by omega⟩
  exact sm_back hrun h1 h2 h3 h4 h5 hm.1 kk (by omega) (by omega) h8
end SMC
theorem sm_sl (G : GT) (avs : List AV) : lg_sl (avs.map (sm_v G)) = avs.map (fun v => Slot.val (sm_v G v)) := by
  induction avs with
  | nil => rfl
  | cons a t ih =>
    unfold lg_sl at ih ⊢
    rw [List.map_cons, List.flatMap_cons, ih]
    simp [sm_v_cat]
def sm_lv (avs : List AV) (n : Nat) : List (Option AV) := avs.map some ++ List.replicate (n - avs.length) none
/-- the contract out of the walk from 0 -/
theorem sm_meth {G : GT} {y : MethodName} {bytes : ByteArray} {mL : Nat} {ret : Option FieldType} {fr lo : Nat} {avs : List AV} {E : ET} {mi : MI} {r : RT} (hy : plainName y.cls = true) (hl : avs.length ≤ mL)
    (h : sM (G, y.cls, bytes, mL, ret, decide (y.name = "<init>"), fr, lo) 0 (sm_lv avs mL) [] E mi r) : cN G y bytes mL ret fr lo avs E mi r := by
  refine ⟨h.1, fun l => Met.ofW (cc := bytes) (maxL := mL) (ret := ret) hy rfl ?_⟩
  intro p e s m args below meth c s₁ B hml hv
  obtain ⟨hargs, hS, hH⟩ := hv
  have hts := atoms_spec (ws := Cond.code y bytes mL ret :: sm_tb) B.pre
  have hown : s.vm.findClass y.cls = some m.cls := findClass_of_methodNamed B.named
  have hnm : meth.name = y.name := (name_of_methodNamed B.named B.method).1
  have hlocks := B.notSynchronized
  have hb := B.bytes
  have hr := B.returns
  have hx := B.exec
  have hl0 := lv_entry (avs.map (sm_v G)) (n := mL) (by rw [sm_sl]; simpa using hl)
  rw [hargs, lg_entry_eq]
  rw [sm_sl] at hl0 ⊢
  have hL : sm_L G ((avs.map (fun v => Slot.val (sm_v G v)) ++ List.replicate (mL - (avs.map (fun v => Slot.val (sm_v G v))).length) Slot.unset).toArray) mL (sm_lv avs mL) := by
    refine ⟨hl0.1, hl0.2.1, fun k v hk => ?_⟩
    unfold sm_lv at hk
    by_cases hkl : k < avs.length
    · rw [List.getElem?_append_left (by simpa using hkl)] at hk
      rw [List.getElem?_toArray, List.getElem?_append_left (by simpa using hkl)]
      rw [List.getElem?_map] at hk ⊢
      cases ha : avs[k]? with
      | none => rw [ha] at hk; simp at hk
      | some w =>
        rw [ha] at hk
        simp at hk
        subst hk
        rfl
    · rw [List.getElem?_append_right (by simpa using Nat.not_lt.mp hkl)] at hk
      rw [List.getElem?_replicate] at hk
      split at hk <;> simp at hk
  rw [← hargs]
  refine h.2 p l e _ s m args below meth c s.heap [] 0 0 _ _ ⟨hx, hb, hml, hown, fun w hw => hts w (List.mem_cons_of_mem _ hw), fun q => by rw [hnm]; exact of_decide_eq_true q, Nat.le_refl _, Nat.le_refl _⟩ hS hH va_S.rf hL (by show 0 + _ ≤ r.2.1.sz - E.sz; simp) (by show 0 + _ ≤ r.2.1.us - E.us; simp) ?_
  intro H locs cells slots ls pc g1 g2 g3 g4 g5
  refine W.widen g3 g4 ?_
  rcases g5 with ⟨e1, e2, e3⟩ | ⟨v, e1, e2, z, rfl, hz⟩
  · rw [e1]
    exact W.vret hx hb (hr.trans e2) (fun t ht hW => ⟨by rw [e1]; rfl, by rw [ht]; exact g1, g2.F ht⟩) g2.2.2 e3
  · rw [e1]
    rcases hz with hz | ⟨hz, hz2⟩
    · exact W.iret hx hb (hr.trans hz) (fun t ht hW => ⟨by rw [e1]; rfl, by rw [ht]; exact g1, g2.F ht⟩) g2.2.2 e2
    · exact W.zret hx hb (hr.trans hz) (by rcases hz2 with rfl | rfl <;> rfl) (fun t ht hW => ⟨by rw [e1]; rfl, by rw [ht]; exact g1, g2.F ht⟩) g2.2.2 e2
end
section
/-! ===== a region of the memory: cells o .. o+n-1 hold s, the rest mi ===== -/
def sm_gl (o n : Nat) (s mi : MI) : MI := fun a j => if o ≤ a ∧ a < o + n then s (a - o) j else mi a j
def sm_lo (d : Nat) (s : MI) : MI := fun c j => s (d + c) j
theorem gl_at {o n a D : Nat} {s mi : MI} (ha : a = o + D) (hD : D < n) : sm_gl o n s mi a = s D := by
  subst ha
  funext j
  unfold sm_gl
  rw [if_pos ⟨Nat.le_add_right _ _, Nat.add_lt_add_left hD _⟩, Nat.add_sub_cancel_left]
theorem gl_off {o n a : Nat} {s mi : MI} (h : a < o ∨ o + n ≤ a) : sm_gl o n s mi a = mi a := by
  funext j
  unfold sm_gl
  rw [if_neg (by omega)]
theorem gl_up {o n a D j : Nat} {s mi : MI} {z : Int} (ha : a = o + D) (hD : D < n) : sm_up (sm_gl o n s mi) a j z = sm_gl o n (sm_up s D j z) mi := by
  subst ha
  funext b k
  unfold sm_up sm_gl
  by_cases hb : o ≤ b ∧ b < o + n
  · rw [if_pos hb, if_pos hb]
    by_cases e : b = o + D
    · subst e
      simp
    · rw [if_neg (fun q => e q.1)]
      show s (b - o) k = if b - o = D ∧ k = j then z else s (b - o) k
      rw [if_neg (fun q => e (by omega))]
  · rw [if_neg hb, if_neg hb, if_neg (fun q => hb (by omega))]
theorem gl_in {o n a D k : Nat} {s mi : MI} (ha : a = o + D) (hD : D + k ≤ n) : sm_gl a k (sm_lo D s) (sm_gl o n s mi) = sm_gl o n s mi := by
  subst ha
  funext b j
  unfold sm_gl sm_lo
  by_cases hb : o + D ≤ b ∧ b < o + D + k
  · rw [if_pos hb, if_pos (by omega)]
    congr 1
    omega
  · rw [if_neg hb]
theorem gl_out {o n a D k : Nat} {s s' mi : MI} (ha : a = o + D) (hD : D + k ≤ n) : sm_gl a k s' (sm_gl o n s mi) = sm_gl o n (sm_gl D k s' s) mi := by
  subst ha
  funext b j
  unfold sm_gl
  by_cases hb : o + D ≤ b ∧ b < o + D + k
  · rw [if_pos hb, if_pos (by omega), if_pos (by omega)]
    congr 1
    omega
  · rw [if_neg hb]
    by_cases hb2 : o ≤ b ∧ b < o + n
    · rw [if_pos hb2, if_pos hb2, if_neg (by omega)]
    · rw [if_neg hb2, if_neg hb2]
/-- what stands in the two static arrays -/
def sl_cost : Nat → Int := fun j => if j = 0 then 20 else if j = 1 then 10 else 0
def sl_mark : Nat → Int := fun j => if j = 0 then 109 else if j = 1 then 64 else 33
def gK (E : ET) (mi : MI) : Prop := 3 ≤ E.sz ∧ (E.sh 1 = (20, 3) ∧ ∀ j, j < 3 → mi 1 j = sl_cost j) ∧ (E.sh 2 = (21, 3) ∧ ∀ j, j < 3 → mi 2 j = sl_mark j)
theorem gK.gl {E : ET} {mi : MI} {o n : Nat} {s : MI} (h : gK E mi) (ho : 3 ≤ o) : gK E (sm_gl o n s mi) := by
  refine ⟨h.1, ⟨h.2.1.1, fun j hj => ?_⟩, ⟨h.2.2.1, fun j hj => ?_⟩⟩
  · rw [gl_off (Or.inl (by omega))]
    exact h.2.1.2 j hj
  · rw [gl_off (Or.inl (by omega))]
    exact h.2.2.2 j hj
section SML
variable {X : XT} {pc : Nat} {lv : List (Option AV)} {st : List AV} {E : ET} {s mi : MI} {r : RT} {o n : Nat}
theorem sl_getI {a D idx kd j : Nat} (lk : sm_lkF X.own idx kd j) (h8 : kd < 8 ∧ j < sm_cN kd ∧ (sm_ty kd j).isReference = false) (hk : (E.sh a).1 = kd) (ha : a = o + D) (hD : D < n) (hN : o + n ≤ E.sz) (hd : decode X.cc pc = .ok (.getfield idx, 3))
    (kk : sM X (pc + 3) lv (.inl (s D j) :: st) E (sm_gl o n s mi) r) : sM X pc lv (.inr a :: st) E (sm_gl o n s mi) r := by
  refine sm_getI lk h8 hk (by omega) hd ?_
  rw [gl_at ha hD]
  exact kk
theorem sl_putI {a D idx kd j : Nat} {z : Int} (lk : sm_lkF X.own idx kd j) (h8 : kd < 8 ∧ j < sm_cN kd ∧ (sm_cT kd j).2.2.2 = false) (hty : sm_ty kd j = .int ∨ sm_ty kd j = .boolean ∧ (z = 0 ∨ z = 1)) (hk : (E.sh a).1 = kd) (ha : a = o + D) (hD : D < n) (hN : 3 ≤ o ∧ o + n ≤ E.sz) (hd : decode X.cc pc = .ok (.putfield idx, 3))
    (kk : sM X (pc + 3) lv st E (sm_gl o n (sm_up s D j z) mi) r) : sM X pc lv (.inl z :: .inr a :: st) E (sm_gl o n s mi) r := by
  refine sm_putI lk h8 hty hk (by omega) (by omega) hd ?_
  rw [gl_up ha hD]
  exact kk
theorem sl_iald {a D m : Nat} {i : Int} (hk : E.sh a = (20, m)) (ha : a = o + D) (hD : D < n) (hN : o + n ≤ E.sz) (hi : 0 ≤ sm_w i ∧ sm_w i < m) (hd : decode X.cc pc = .ok (.iaload, 1))
    (kk : sM X (pc + 1) lv (.inl (s D (sm_w i).toNat) :: st) E (sm_gl o n s mi) r) : sM X pc lv (.inl i :: .inr a :: st) E (sm_gl o n s mi) r := by
  refine sm_iaload hk (by omega) hi.1 hi.2 hd ?_
  rw [gl_at ha hD]
  exact kk
theorem sl_cald {a D m : Nat} {i : Int} (hk : E.sh a = (21, m)) (ha : a = o + D) (hD : D < n) (hN : o + n ≤ E.sz) (hi : 0 ≤ sm_w i ∧ sm_w i < m) (hd : decode X.cc pc = .ok (.caload, 1))
    (kk : sM X (pc + 1) lv (.inl (s D (sm_w i).toNat) :: st) E (sm_gl o n s mi) r) : sM X pc lv (.inl i :: .inr a :: st) E (sm_gl o n s mi) r := by
  refine sm_caload hk (by omega) hi.1 hi.2 hd ?_
  rw [gl_at ha hD]
  exact kk
theorem sl_iast {a D m : Nat} {i z : Int} (hk : E.sh a = (20, m)) (ha : a = o + D) (hD : D < n) (hN : 3 ≤ o ∧ o + n ≤ E.sz) (hi : 0 ≤ sm_w i ∧ sm_w i < m) (hd : decode X.cc pc = .ok (.iastore, 1))
    (kk : sM X (pc + 1) lv st E (sm_gl o n (sm_up s D (sm_w i).toNat z) mi) r) : sM X pc lv (.inl z :: .inl i :: .inr a :: st) E (sm_gl o n s mi) r := by
  refine sm_iastore hk (by omega) (by omega) hi.1 hi.2 hd ?_
  rw [gl_up ha hD]
  exact kk
theorem sl_cast {a D m : Nat} {i z : Int} (hk : E.sh a = (21, m)) (ha : a = o + D) (hD : D < n) (hN : 3 ≤ o ∧ o + n ≤ E.sz) (hi : 0 ≤ sm_w i ∧ sm_w i < m) (hz : 0 ≤ z ∧ z < 65536) (hd : decode X.cc pc = .ok (.castore, 1))
    (kk : sM X (pc + 1) lv st E (sm_gl o n (sm_up s D (sm_w i).toNat z) mi) r) : sM X pc lv (.inl z :: .inl i :: .inr a :: st) E (sm_gl o n s mi) r := by
  refine sm_castore hk (by omega) (by omega) hi.1 hi.2 hz.1 hz.2 hd ?_
  rw [gl_up ha hD]
  exact kk
theorem sl_costs {i : Int} (hg : gK E mi) (ho : 3 ≤ o) (hi : 0 ≤ sm_w i ∧ sm_w i < 3) (hd : decode X.cc pc = .ok (.iaload, 1))
    (kk : sM X (pc + 1) lv (.inl (sl_cost (sm_w i).toNat) :: st) E (sm_gl o n s mi) r) : sM X pc lv (.inl i :: .inr 1 :: st) E (sm_gl o n s mi) r := by
  have h3 := hg.1
  refine sm_iaload hg.2.1.1 (by omega) hi.1 hi.2 hd ?_
  rw [gl_off (Or.inl (by omega)), hg.2.1.2 _ (by omega)]
  exact kk
theorem sl_marks {i : Int} (hg : gK E mi) (ho : 3 ≤ o) (hi : 0 ≤ sm_w i ∧ sm_w i < 3) (hd : decode X.cc pc = .ok (.caload, 1))
    (kk : sM X (pc + 1) lv (.inl (sl_mark (sm_w i).toNat) :: st) E (sm_gl o n s mi) r) : sM X pc lv (.inl i :: .inr 2 :: st) E (sm_gl o n s mi) r := by
  have h3 := hg.1
  refine sm_caload hg.2.2.1 (by omega) hi.1 hi.2 hd ?_
  rw [gl_off (Or.inl (by omega)), hg.2.2.2 _ (by omega)]
  exact kk
/-- a second region, at o2, that is read alone: it holds s2 -/
def g2 (o n o2 n2 : Nat) (s2 mi : MI) : Prop := (o + n ≤ o2 ∨ o2 + n2 ≤ o) ∧ ∀ d, d < n2 → mi (o2 + d) = s2 d
theorem g2_at {o2 n2 a D : Nat} {s2 : MI} (h : g2 o n o2 n2 s2 mi) (ha : a = o2 + D) (hD : D < n2) : sm_gl o n s mi a = s2 D := by
  subst ha
  rw [gl_off (by have := h.1; omega), h.2 D hD]
theorem sl_getI2 {a D idx kd j o2 n2 : Nat} {s2 : MI} (h2 : g2 o n o2 n2 s2 mi) (lk : sm_lkF X.own idx kd j) (h8 : kd < 8 ∧ j < sm_cN kd ∧ (sm_ty kd j).isReference = false) (hk : (E.sh a).1 = kd) (ha : a = o2 + D) (hD : D < n2) (hN : o2 + n2 ≤ E.sz) (hd : decode X.cc pc = .ok (.getfield idx, 3))
    (kk : sM X (pc + 3) lv (.inl (s2 D j) :: st) E (sm_gl o n s mi) r) : sM X pc lv (.inr a :: st) E (sm_gl o n s mi) r := by
  refine sm_getI lk h8 hk (by omega) hd ?_
  rw [g2_at h2 ha hD]
  exact kk
def sl_cp (s s2 : MI) (D2 D sp dp c : Nat) : MI := fun d j => if d = D ∧ dp ≤ j ∧ j < dp + c then s2 D2 (sp + (j - dp)) else s d j
theorem sl_copy2 {idx a a2 D D2 m m2 o2 n2 : Nat} {s2 : MI} {sp dp c : Int} (h2 : g2 o n o2 n2 s2 mi) (hw : Cond.methodLink X.own idx arraycopyName ∈ sm_tb ∧ Cond.native arraycopyName ∈ sm_tb ∧ Cond.static arraycopyName ∈ sm_tb ∧ Cond.initialized "java/lang/System" ∈ sm_tb) (hr : 1 ≤ X.fr ∧ st.length + (nativeFrameWords "java/lang/System" "arraycopy" 5 + 11) ≤ X.lo)
    (hk2 : E.sh a2 = (20, m2)) (hk : E.sh a = (20, m)) (ha2 : a2 = o2 + D2) (hD2 : D2 < n2) (hN2 : 3 ≤ o2 ∧ o2 + n2 ≤ E.sz) (ha : a = o + D) (hD : D < n) (hN : 3 ≤ o ∧ o + n ≤ E.sz) (hi : 0 ≤ sm_w sp ∧ 0 ≤ sm_w dp ∧ 0 ≤ sm_w c ∧ sm_w sp + sm_w c ≤ m2 ∧ sm_w dp + sm_w c ≤ m)
    (hd : decode X.cc pc = .ok (.invokestatic idx, 3)) (kk : sM X (pc + 3) lv st E (sm_gl o n (sl_cp s s2 D2 D (sm_w sp).toNat (sm_w dp).toNat (sm_w c).toNat) mi) r) : sM X pc lv (.inl c :: .inl dp :: .inr a :: .inl sp :: .inr a2 :: st) E (sm_gl o n s mi) r := by
  refine sm_copy hw hr hk2 (by omega) (by omega) hk (by omega) (by omega) hi.1 hi.2.1 hi.2.2.1 hi.2.2.2.1 hi.2.2.2.2 hd ?_
  have e : sm_cp (sm_gl o n s mi) a2 a (sm_w sp).toNat (sm_w dp).toNat (sm_w c).toNat = sm_gl o n (sl_cp s s2 D2 D (sm_w sp).toNat (sm_w dp).toNat (sm_w c).toNat) mi := by
    funext b k
    unfold sm_cp
    rw [g2_at h2 ha2 hD2]
    subst ha
    unfold sm_gl sl_cp
    by_cases hb : o ≤ b ∧ b < o + n
    · rw [if_pos hb, if_pos hb]
      by_cases e : b = o + D
      · subst e
        simp
      · rw [if_neg (fun q => e q.1), if_neg (fun q => e (by omega))]
    · rw [if_neg hb, if_neg hb, if_neg (fun q => hb (by omega))]
  rw [e]
  exact kk
end SML
-- readers of what a function that may stop short answers
theorem sl_guard {α : Type} {c : Prop} [Decidable c] {a : Option α} {w : α} (h : (if c then a else none) = some w) : c ∧ a = some w := by
  by_cases q : c
  · rw [if_pos q] at h
    exact ⟨q, h⟩
  · rw [if_neg q] at h
    cases h
theorem sl_bind {α β : Type} {a : Option α} {k : α → Option β} {w : β} (h : Option.bind a k = some w) : ∃ p, a = some p ∧ k p = some w := by
  cases a with
  | none => cases h
  | some p => exact ⟨p, rfl, h⟩
/-- a loop: f tells whether to go round again -/
def sl_it {S Y : Type} (f : S → Option (S ⊕ Y)) : Nat → S → Option Y
  | 0, _ => none
  | n + 1, s => (f s).bind (fun q => match q with
    | .inl s' => sl_it f n s'
    | .inr y => some y)
theorem sl_itI {S Y : Type} {f : S → Option (S ⊕ Y)} {P : S → Prop} {K : Y → Prop} (hs : ∀ s q, f s = some q → (match q with
    | .inl s' => P s'
    | .inr y => K y) → P s) : ∀ (n : Nat) (s : S) (y : Y), sl_it f n s = some y → K y → P s := by
  intro n
  induction n with
  | zero => intro s y h; cases h
  | succ n ih =>
    intro s y h hK
    obtain ⟨q, hq, h2⟩ := sl_bind h
    refine hs s q hq ?_
    cases q with
    | inl s' => exact ih s' y h2 hK
    | inr y' =>
      have : y' = y := Option.some.inj h2
      subst this
      exact hK
/-- more rounds than any loop here goes -/
def sl_fu : Nat := 5000
end
