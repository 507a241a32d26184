section
-- ===== PART A: goes FIRST, ahead of the names: the tables' words, and 'selects' of the private methods out of them =====
/-- a private method of a class that the tables say can be made, by its rows of tables_1 -/
def lw_okq (q : MethodName × Nat) : Prop := (q.1.cls ≠ "java/lang/invoke/MethodHandle" ∧ q.1.cls ≠ "java/lang/invoke/VarHandle") ∧ Cond.instantiable q.1.cls q.2 ∈ tables_1 ∧ Cond.privateMethod q.1 ∈ tables_1 ∧ Cond.instanceMethod q.1 ∈ tables_1
theorem lw_p0 : lw_okq (⟨"LatticeGestures$History", "saved", "(I)LLatticeGestures$State;"⟩, 3) := ⟨⟨by decide +kernel, by decide +kernel⟩, List.mem_of_getElem? (i := 107) (by decide +kernel), List.mem_of_getElem? (i := 226) (by decide +kernel), List.mem_of_getElem? (i := 227) (by decide +kernel)⟩
theorem lw_p1 : lw_okq (⟨"LatticeGestures", "lookAgain", "()V"⟩, 9) := ⟨⟨by decide +kernel, by decide +kernel⟩, List.mem_of_getElem? (i := 21) (by decide +kernel), List.mem_of_getElem? (i := 265) (by decide +kernel), List.mem_of_getElem? (i := 266) (by decide +kernel)⟩
theorem lw_p2 : lw_okq (⟨"LatticeGestures$View", "findRuns", "(LLatticeGestures$Path;)V"⟩, 8) := ⟨⟨by decide +kernel, by decide +kernel⟩, List.mem_of_getElem? (i := 128) (by decide +kernel), List.mem_of_getElem? (i := 273) (by decide +kernel), List.mem_of_getElem? (i := 274) (by decide +kernel)⟩
theorem lw_p3 : lw_okq (⟨"LatticeGestures$View", "forgive", "(LLatticeGestures$Row;)V"⟩, 8) := ⟨⟨by decide +kernel, by decide +kernel⟩, List.mem_of_getElem? (i := 128) (by decide +kernel), List.mem_of_getElem? (i := 315) (by decide +kernel), List.mem_of_getElem? (i := 316) (by decide +kernel)⟩
theorem lw_p4 : lw_okq (⟨"LatticeGestures$View", "firstToDrop", "(LLatticeGestures$Row;)I"⟩, 8) := ⟨⟨by decide +kernel, by decide +kernel⟩, List.mem_of_getElem? (i := 128) (by decide +kernel), List.mem_of_getElem? (i := 320) (by decide +kernel), List.mem_of_getElem? (i := 321) (by decide +kernel)⟩
theorem lw_p5 : lw_okq (⟨"LatticeGestures$View", "drop", "(I)V"⟩, 8) := ⟨⟨by decide +kernel, by decide +kernel⟩, List.mem_of_getElem? (i := 128) (by decide +kernel), List.mem_of_getElem? (i := 332) (by decide +kernel), List.mem_of_getElem? (i := 333) (by decide +kernel)⟩
theorem lw_p6 : lw_okq (⟨"LatticeGestures$Meter", "takeIn", "(ILLatticeGestures$Row;II)V"⟩, 1) := ⟨⟨by decide +kernel, by decide +kernel⟩, List.mem_of_getElem? (i := 134) (by decide +kernel), List.mem_of_getElem? (i := 354) (by decide +kernel), List.mem_of_getElem? (i := 355) (by decide +kernel)⟩
theorem lw_p7 : lw_okq (⟨"LatticeGestures", "leastApart", "(LLatticeGestures$Row;)I"⟩, 9) := ⟨⟨by decide +kernel, by decide +kernel⟩, List.mem_of_getElem? (i := 21) (by decide +kernel), List.mem_of_getElem? (i := 392) (by decide +kernel), List.mem_of_getElem? (i := 393) (by decide +kernel)⟩
theorem lw_p8 : lw_okq (⟨"java/lang/Throwable", "fillInStackTrace", "(I)Ljava/lang/Throwable;"⟩, 6) := ⟨⟨by decide +kernel, by decide +kernel⟩, List.mem_of_getElem? (i := 481) (by decide +kernel), List.mem_of_getElem? (i := 479) (by decide +kernel), List.mem_of_getElem? (i := 480) (by decide +kernel)⟩
theorem lw_p9 : lw_okq (⟨"LatticeGestures", "withPath", "(J)J"⟩, 9) := ⟨⟨by decide +kernel, by decide +kernel⟩, List.mem_of_getElem? (i := 21) (by decide +kernel), List.mem_of_getElem? (i := 534) (by decide +kernel), List.mem_of_getElem? (i := 535) (by decide +kernel)⟩
theorem lw_p10 : lw_okq (⟨"LatticeGestures", "withCommands", "(J)J"⟩, 9) := ⟨⟨by decide +kernel, by decide +kernel⟩, List.mem_of_getElem? (i := 21) (by decide +kernel), List.mem_of_getElem? (i := 560) (by decide +kernel), List.mem_of_getElem? (i := 561) (by decide +kernel)⟩
theorem lw_p11 : lw_okq (⟨"LatticeGestures", "isCommand", "(I)Z"⟩, 9) := ⟨⟨by decide +kernel, by decide +kernel⟩, List.mem_of_getElem? (i := 21) (by decide +kernel), List.mem_of_getElem? (i := 568) (by decide +kernel), List.mem_of_getElem? (i := 569) (by decide +kernel)⟩
theorem lw_p12 : lw_okq (⟨"LatticeGestures", "canLayTurned", "(I)Z"⟩, 9) := ⟨⟨by decide +kernel, by decide +kernel⟩, List.mem_of_getElem? (i := 21) (by decide +kernel), List.mem_of_getElem? (i := 674) (by decide +kernel), List.mem_of_getElem? (i := 675) (by decide +kernel)⟩
theorem lw_p13 : lw_okq (⟨"LatticeGestures", "isTooNear", "(LLatticeGestures$Row;)Z"⟩, 9) := ⟨⟨by decide +kernel, by decide +kernel⟩, List.mem_of_getElem? (i := 21) (by decide +kernel), List.mem_of_getElem? (i := 691) (by decide +kernel), List.mem_of_getElem? (i := 692) (by decide +kernel)⟩
theorem lw_p14 : lw_okq (⟨"LatticeGestures", "addCommand", "(LLatticeGestures$Row;)I"⟩, 9) := ⟨⟨by decide +kernel, by decide +kernel⟩, List.mem_of_getElem? (i := 21) (by decide +kernel), List.mem_of_getElem? (i := 696) (by decide +kernel), List.mem_of_getElem? (i := 697) (by decide +kernel)⟩
theorem lw_p15 : lw_okq (⟨"LatticeGesturesModel", "save", "()V"⟩, 18) := ⟨⟨by decide +kernel, by decide +kernel⟩, List.mem_of_getElem? (i := 804) (by decide +kernel), List.mem_of_getElem? (i := 879) (by decide +kernel), List.mem_of_getElem? (i := 880) (by decide +kernel)⟩
def lw_privs_1 : List (MethodName × Nat) := [(⟨"LatticeGestures$History", "saved", "(I)LLatticeGestures$State;"⟩, 3), (⟨"LatticeGestures", "lookAgain", "()V"⟩, 9), (⟨"LatticeGestures$View", "findRuns", "(LLatticeGestures$Path;)V"⟩, 8), (⟨"LatticeGestures$View", "forgive", "(LLatticeGestures$Row;)V"⟩, 8), (⟨"LatticeGestures$View", "firstToDrop", "(LLatticeGestures$Row;)I"⟩, 8), (⟨"LatticeGestures$View", "drop", "(I)V"⟩, 8), (⟨"LatticeGestures$Meter", "takeIn", "(ILLatticeGestures$Row;II)V"⟩, 1), (⟨"LatticeGestures", "leastApart", "(LLatticeGestures$Row;)I"⟩, 9), (⟨"java/lang/Throwable", "fillInStackTrace", "(I)Ljava/lang/Throwable;"⟩, 6), (⟨"LatticeGestures", "withPath", "(J)J"⟩, 9), (⟨"LatticeGestures", "withCommands", "(J)J"⟩, 9), (⟨"LatticeGestures", "isCommand", "(I)Z"⟩, 9), (⟨"LatticeGestures", "canLayTurned", "(I)Z"⟩, 9), (⟨"LatticeGestures", "isTooNear", "(LLatticeGestures$Row;)Z"⟩, 9), (⟨"LatticeGestures", "addCommand", "(LLatticeGestures$Row;)I"⟩, 9), (⟨"LatticeGesturesModel", "save", "()V"⟩, 18)]
theorem lw_r1 : ∀ q ∈ lw_privs_1, lw_okq q := List.forall_mem_cons.mpr ⟨lw_p0, List.forall_mem_cons.mpr ⟨lw_p1, List.forall_mem_cons.mpr ⟨lw_p2, List.forall_mem_cons.mpr ⟨lw_p3, List.forall_mem_cons.mpr ⟨lw_p4, List.forall_mem_cons.mpr ⟨lw_p5, List.forall_mem_cons.mpr ⟨lw_p6, List.forall_mem_cons.mpr ⟨lw_p7, List.forall_mem_cons.mpr ⟨lw_p8, List.forall_mem_cons.mpr ⟨lw_p9, List.forall_mem_cons.mpr ⟨lw_p10, List.forall_mem_cons.mpr ⟨lw_p11, List.forall_mem_cons.mpr ⟨lw_p12, List.forall_mem_cons.mpr ⟨lw_p13, List.forall_mem_cons.mpr ⟨lw_p14, List.forall_mem_cons.mpr ⟨lw_p15, fun _ h => absurd h List.not_mem_nil⟩⟩⟩⟩⟩⟩⟩⟩⟩⟩⟩⟩⟩⟩⟩⟩
theorem lw_p16 : lw_okq (⟨"LatticeGesturesModel", "addPoint", "(II)V"⟩, 18) := ⟨⟨by decide +kernel, by decide +kernel⟩, List.mem_of_getElem? (i := 804) (by decide +kernel), List.mem_of_getElem? (i := 883) (by decide +kernel), List.mem_of_getElem? (i := 884) (by decide +kernel)⟩
theorem lw_p17 : lw_okq (⟨"LatticeGesturesModel", "stepsFor", "(II)I"⟩, 18) := ⟨⟨by decide +kernel, by decide +kernel⟩, List.mem_of_getElem? (i := 804) (by decide +kernel), List.mem_of_getElem? (i := 897) (by decide +kernel), List.mem_of_getElem? (i := 898) (by decide +kernel)⟩
theorem lw_p18 : lw_okq (⟨"LatticeGesturesModel", "lastPart", "(I)I"⟩, 18) := ⟨⟨by decide +kernel, by decide +kernel⟩, List.mem_of_getElem? (i := 804) (by decide +kernel), List.mem_of_getElem? (i := 901) (by decide +kernel), List.mem_of_getElem? (i := 902) (by decide +kernel)⟩
theorem lw_p19 : lw_okq (⟨"LatticeGesturesModel", "clearFrom", "(I)V"⟩, 18) := ⟨⟨by decide +kernel, by decide +kernel⟩, List.mem_of_getElem? (i := 804) (by decide +kernel), List.mem_of_getElem? (i := 915) (by decide +kernel), List.mem_of_getElem? (i := 916) (by decide +kernel)⟩
theorem lw_p20 : lw_okq (⟨"LatticeGesturesModel", "canTurn", "(I)Z"⟩, 18) := ⟨⟨by decide +kernel, by decide +kernel⟩, List.mem_of_getElem? (i := 804) (by decide +kernel), List.mem_of_getElem? (i := 927) (by decide +kernel), List.mem_of_getElem? (i := 928) (by decide +kernel)⟩
theorem lw_p21 : lw_okq (⟨"LatticeGesturesModel", "takePath", "()V"⟩, 18) := ⟨⟨by decide +kernel, by decide +kernel⟩, List.mem_of_getElem? (i := 804) (by decide +kernel), List.mem_of_getElem? (i := 931) (by decide +kernel), List.mem_of_getElem? (i := 932) (by decide +kernel)⟩
theorem lw_p22 : lw_okq (⟨"LatticeGesturesModel", "stepDirection", "(I)I"⟩, 18) := ⟨⟨by decide +kernel, by decide +kernel⟩, List.mem_of_getElem? (i := 804) (by decide +kernel), List.mem_of_getElem? (i := 935) (by decide +kernel), List.mem_of_getElem? (i := 936) (by decide +kernel)⟩
theorem lw_p23 : lw_okq (⟨"LatticeGesturesModel", "stepLength", "(I)I"⟩, 18) := ⟨⟨by decide +kernel, by decide +kernel⟩, List.mem_of_getElem? (i := 804) (by decide +kernel), List.mem_of_getElem? (i := 945) (by decide +kernel), List.mem_of_getElem? (i := 946) (by decide +kernel)⟩
theorem lw_p24 : lw_okq (⟨"LatticeGesturesModel", "pathStroke", "()V"⟩, 18) := ⟨⟨by decide +kernel, by decide +kernel⟩, List.mem_of_getElem? (i := 804) (by decide +kernel), List.mem_of_getElem? (i := 953) (by decide +kernel), List.mem_of_getElem? (i := 954) (by decide +kernel)⟩
theorem lw_p25 : lw_okq (⟨"LatticeGesturesModel", "layStroke", "()V"⟩, 18) := ⟨⟨by decide +kernel, by decide +kernel⟩, List.mem_of_getElem? (i := 804) (by decide +kernel), List.mem_of_getElem? (i := 957) (by decide +kernel), List.mem_of_getElem? (i := 958) (by decide +kernel)⟩
theorem lw_p26 : lw_okq (⟨"LatticeGesturesModel", "layRuns", "()V"⟩, 18) := ⟨⟨by decide +kernel, by decide +kernel⟩, List.mem_of_getElem? (i := 804) (by decide +kernel), List.mem_of_getElem? (i := 961) (by decide +kernel), List.mem_of_getElem? (i := 962) (by decide +kernel)⟩
theorem lw_p27 : lw_okq (⟨"LatticeGesturesModel", "forgive", "()I"⟩, 18) := ⟨⟨by decide +kernel, by decide +kernel⟩, List.mem_of_getElem? (i := 804) (by decide +kernel), List.mem_of_getElem? (i := 965) (by decide +kernel), List.mem_of_getElem? (i := 966) (by decide +kernel)⟩
theorem lw_p28 : lw_okq (⟨"LatticeGesturesModel", "firstForgiven", "()I"⟩, 18) := ⟨⟨by decide +kernel, by decide +kernel⟩, List.mem_of_getElem? (i := 804) (by decide +kernel), List.mem_of_getElem? (i := 969) (by decide +kernel), List.mem_of_getElem? (i := 970) (by decide +kernel)⟩
theorem lw_p29 : lw_okq (⟨"LatticeGesturesModel", "isShort", "(I)Z"⟩, 18) := ⟨⟨by decide +kernel, by decide +kernel⟩, List.mem_of_getElem? (i := 804) (by decide +kernel), List.mem_of_getElem? (i := 973) (by decide +kernel), List.mem_of_getElem? (i := 974) (by decide +kernel)⟩
theorem lw_p30 : lw_okq (⟨"LatticeGesturesModel", "isCorner", "(I)Z"⟩, 18) := ⟨⟨by decide +kernel, by decide +kernel⟩, List.mem_of_getElem? (i := 804) (by decide +kernel), List.mem_of_getElem? (i := 977) (by decide +kernel), List.mem_of_getElem? (i := 978) (by decide +kernel)⟩
theorem lw_p31 : lw_okq (⟨"LatticeGesturesModel", "removeRun", "(I)V"⟩, 18) := ⟨⟨by decide +kernel, by decide +kernel⟩, List.mem_of_getElem? (i := 804) (by decide +kernel), List.mem_of_getElem? (i := 984) (by decide +kernel), List.mem_of_getElem? (i := 985) (by decide +kernel)⟩
def lw_privs_2 : List (MethodName × Nat) := [(⟨"LatticeGesturesModel", "addPoint", "(II)V"⟩, 18), (⟨"LatticeGesturesModel", "stepsFor", "(II)I"⟩, 18), (⟨"LatticeGesturesModel", "lastPart", "(I)I"⟩, 18), (⟨"LatticeGesturesModel", "clearFrom", "(I)V"⟩, 18), (⟨"LatticeGesturesModel", "canTurn", "(I)Z"⟩, 18), (⟨"LatticeGesturesModel", "takePath", "()V"⟩, 18), (⟨"LatticeGesturesModel", "stepDirection", "(I)I"⟩, 18), (⟨"LatticeGesturesModel", "stepLength", "(I)I"⟩, 18), (⟨"LatticeGesturesModel", "pathStroke", "()V"⟩, 18), (⟨"LatticeGesturesModel", "layStroke", "()V"⟩, 18), (⟨"LatticeGesturesModel", "layRuns", "()V"⟩, 18), (⟨"LatticeGesturesModel", "forgive", "()I"⟩, 18), (⟨"LatticeGesturesModel", "firstForgiven", "()I"⟩, 18), (⟨"LatticeGesturesModel", "isShort", "(I)Z"⟩, 18), (⟨"LatticeGesturesModel", "isCorner", "(I)Z"⟩, 18), (⟨"LatticeGesturesModel", "removeRun", "(I)V"⟩, 18)]
theorem lw_r2 : ∀ q ∈ lw_privs_2, lw_okq q := List.forall_mem_cons.mpr ⟨lw_p16, List.forall_mem_cons.mpr ⟨lw_p17, List.forall_mem_cons.mpr ⟨lw_p18, List.forall_mem_cons.mpr ⟨lw_p19, List.forall_mem_cons.mpr ⟨lw_p20, List.forall_mem_cons.mpr ⟨lw_p21, List.forall_mem_cons.mpr ⟨lw_p22, List.forall_mem_cons.mpr ⟨lw_p23, List.forall_mem_cons.mpr ⟨lw_p24, List.forall_mem_cons.mpr ⟨lw_p25, List.forall_mem_cons.mpr ⟨lw_p26, List.forall_mem_cons.mpr ⟨lw_p27, List.forall_mem_cons.mpr ⟨lw_p28, List.forall_mem_cons.mpr ⟨lw_p29, List.forall_mem_cons.mpr ⟨lw_p30, List.forall_mem_cons.mpr ⟨lw_p31, fun _ h => absurd h List.not_mem_nil⟩⟩⟩⟩⟩⟩⟩⟩⟩⟩⟩⟩⟩⟩⟩⟩
theorem lw_p32 : lw_okq (⟨"LatticeGesturesModel", "canLearn", "()Z"⟩, 18) := ⟨⟨by decide +kernel, by decide +kernel⟩, List.mem_of_getElem? (i := 804) (by decide +kernel), List.mem_of_getElem? (i := 988) (by decide +kernel), List.mem_of_getElem? (i := 989) (by decide +kernel)⟩
theorem lw_p33 : lw_okq (⟨"LatticeGesturesModel", "tooNear", "()I"⟩, 18) := ⟨⟨by decide +kernel, by decide +kernel⟩, List.mem_of_getElem? (i := 804) (by decide +kernel), List.mem_of_getElem? (i := 992) (by decide +kernel), List.mem_of_getElem? (i := 993) (by decide +kernel)⟩
theorem lw_p34 : lw_okq (⟨"LatticeGesturesModel", "nearest", "(I)I"⟩, 18) := ⟨⟨by decide +kernel, by decide +kernel⟩, List.mem_of_getElem? (i := 804) (by decide +kernel), List.mem_of_getElem? (i := 996) (by decide +kernel), List.mem_of_getElem? (i := 997) (by decide +kernel)⟩
theorem lw_p35 : lw_okq (⟨"LatticeGesturesModel", "distanceFrom", "(I)I"⟩, 18) := ⟨⟨by decide +kernel, by decide +kernel⟩, List.mem_of_getElem? (i := 804) (by decide +kernel), List.mem_of_getElem? (i := 1000) (by decide +kernel), List.mem_of_getElem? (i := 1001) (by decide +kernel)⟩
theorem lw_p36 : lw_okq (⟨"LatticeGesturesModel", "layDistances", "(I)V"⟩, 18) := ⟨⟨by decide +kernel, by decide +kernel⟩, List.mem_of_getElem? (i := 804) (by decide +kernel), List.mem_of_getElem? (i := 1004) (by decide +kernel), List.mem_of_getElem? (i := 1005) (by decide +kernel)⟩
theorem lw_p37 : lw_okq (⟨"LatticeGesturesModel", "directionsOf", "(I)I"⟩, 18) := ⟨⟨by decide +kernel, by decide +kernel⟩, List.mem_of_getElem? (i := 804) (by decide +kernel), List.mem_of_getElem? (i := 1008) (by decide +kernel), List.mem_of_getElem? (i := 1009) (by decide +kernel)⟩
theorem lw_p38 : lw_okq (⟨"LatticeGesturesModel", "directionOf", "(II)I"⟩, 18) := ⟨⟨by decide +kernel, by decide +kernel⟩, List.mem_of_getElem? (i := 804) (by decide +kernel), List.mem_of_getElem? (i := 1012) (by decide +kernel), List.mem_of_getElem? (i := 1013) (by decide +kernel)⟩
theorem lw_p39 : lw_okq (⟨"LatticeGesturesModel", "learns", "()I"⟩, 18) := ⟨⟨by decide +kernel, by decide +kernel⟩, List.mem_of_getElem? (i := 804) (by decide +kernel), List.mem_of_getElem? (i := 1016) (by decide +kernel), List.mem_of_getElem? (i := 1017) (by decide +kernel)⟩
theorem lw_p40 : lw_okq (⟨"LatticeGesturesModel", "isCommand", "(I)Z"⟩, 18) := ⟨⟨by decide +kernel, by decide +kernel⟩, List.mem_of_getElem? (i := 804) (by decide +kernel), List.mem_of_getElem? (i := 1024) (by decide +kernel), List.mem_of_getElem? (i := 1025) (by decide +kernel)⟩
theorem lw_p41 : lw_okq (⟨"LatticeGesturesModel", "areApart", "()Z"⟩, 18) := ⟨⟨by decide +kernel, by decide +kernel⟩, List.mem_of_getElem? (i := 804) (by decide +kernel), List.mem_of_getElem? (i := 1038) (by decide +kernel), List.mem_of_getElem? (i := 1039) (by decide +kernel)⟩
theorem lw_p42 : lw_okq (⟨"LatticeGesturesModel", "leastDistance", "()I"⟩, 18) := ⟨⟨by decide +kernel, by decide +kernel⟩, List.mem_of_getElem? (i := 804) (by decide +kernel), List.mem_of_getElem? (i := 1042) (by decide +kernel), List.mem_of_getElem? (i := 1043) (by decide +kernel)⟩
theorem lw_p43 : lw_okq (⟨"LatticeGesturesModel", "distanceOf", "(II)I"⟩, 18) := ⟨⟨by decide +kernel, by decide +kernel⟩, List.mem_of_getElem? (i := 804) (by decide +kernel), List.mem_of_getElem? (i := 1046) (by decide +kernel), List.mem_of_getElem? (i := 1047) (by decide +kernel)⟩
theorem lw_p44 : lw_okq (⟨"LatticeGesturesModel", "commandStroke", "(I)V"⟩, 18) := ⟨⟨by decide +kernel, by decide +kernel⟩, List.mem_of_getElem? (i := 804) (by decide +kernel), List.mem_of_getElem? (i := 1050) (by decide +kernel), List.mem_of_getElem? (i := 1051) (by decide +kernel)⟩
theorem lw_p45 : lw_okq (⟨"LatticeGesturesModel", "rightUpTo", "()I"⟩, 18) := ⟨⟨by decide +kernel, by decide +kernel⟩, List.mem_of_getElem? (i := 804) (by decide +kernel), List.mem_of_getElem? (i := 1066) (by decide +kernel), List.mem_of_getElem? (i := 1067) (by decide +kernel)⟩
theorem lw_p46 : lw_okq (⟨"LatticeGesturesModel", "pointNow", "(II)I"⟩, 18) := ⟨⟨by decide +kernel, by decide +kernel⟩, List.mem_of_getElem? (i := 804) (by decide +kernel), List.mem_of_getElem? (i := 1082) (by decide +kernel), List.mem_of_getElem? (i := 1083) (by decide +kernel)⟩
theorem lw_p47 : lw_okq (⟨"LatticeGesturesModel", "runNow", "(II)I"⟩, 18) := ⟨⟨by decide +kernel, by decide +kernel⟩, List.mem_of_getElem? (i := 804) (by decide +kernel), List.mem_of_getElem? (i := 1090) (by decide +kernel), List.mem_of_getElem? (i := 1091) (by decide +kernel)⟩
def lw_privs_3 : List (MethodName × Nat) := [(⟨"LatticeGesturesModel", "canLearn", "()Z"⟩, 18), (⟨"LatticeGesturesModel", "tooNear", "()I"⟩, 18), (⟨"LatticeGesturesModel", "nearest", "(I)I"⟩, 18), (⟨"LatticeGesturesModel", "distanceFrom", "(I)I"⟩, 18), (⟨"LatticeGesturesModel", "layDistances", "(I)V"⟩, 18), (⟨"LatticeGesturesModel", "directionsOf", "(I)I"⟩, 18), (⟨"LatticeGesturesModel", "directionOf", "(II)I"⟩, 18), (⟨"LatticeGesturesModel", "learns", "()I"⟩, 18), (⟨"LatticeGesturesModel", "isCommand", "(I)Z"⟩, 18), (⟨"LatticeGesturesModel", "areApart", "()Z"⟩, 18), (⟨"LatticeGesturesModel", "leastDistance", "()I"⟩, 18), (⟨"LatticeGesturesModel", "distanceOf", "(II)I"⟩, 18), (⟨"LatticeGesturesModel", "commandStroke", "(I)V"⟩, 18), (⟨"LatticeGesturesModel", "rightUpTo", "()I"⟩, 18), (⟨"LatticeGesturesModel", "pointNow", "(II)I"⟩, 18), (⟨"LatticeGesturesModel", "runNow", "(II)I"⟩, 18)]
theorem lw_r3 : ∀ q ∈ lw_privs_3, lw_okq q := List.forall_mem_cons.mpr ⟨lw_p32, List.forall_mem_cons.mpr ⟨lw_p33, List.forall_mem_cons.mpr ⟨lw_p34, List.forall_mem_cons.mpr ⟨lw_p35, List.forall_mem_cons.mpr ⟨lw_p36, List.forall_mem_cons.mpr ⟨lw_p37, List.forall_mem_cons.mpr ⟨lw_p38, List.forall_mem_cons.mpr ⟨lw_p39, List.forall_mem_cons.mpr ⟨lw_p40, List.forall_mem_cons.mpr ⟨lw_p41, List.forall_mem_cons.mpr ⟨lw_p42, List.forall_mem_cons.mpr ⟨lw_p43, List.forall_mem_cons.mpr ⟨lw_p44, List.forall_mem_cons.mpr ⟨lw_p45, List.forall_mem_cons.mpr ⟨lw_p46, List.forall_mem_cons.mpr ⟨lw_p47, fun _ h => absurd h List.not_mem_nil⟩⟩⟩⟩⟩⟩⟩⟩⟩⟩⟩⟩⟩⟩⟩⟩
theorem lw_p48 : lw_okq (⟨"LatticeGesturesModel", "strokeNow", "(I)I"⟩, 18) := ⟨⟨by decide +kernel, by decide +kernel⟩, List.mem_of_getElem? (i := 804) (by decide +kernel), List.mem_of_getElem? (i := 1098) (by decide +kernel), List.mem_of_getElem? (i := 1099) (by decide +kernel)⟩
theorem lw_p49 : lw_okq (⟨"LatticeGesturesModel", "pathDistance", "(I)I"⟩, 18) := ⟨⟨by decide +kernel, by decide +kernel⟩, List.mem_of_getElem? (i := 804) (by decide +kernel), List.mem_of_getElem? (i := 1110) (by decide +kernel), List.mem_of_getElem? (i := 1111) (by decide +kernel)⟩
theorem lw_p50 : lw_okq (⟨"LatticeGesturesModel", "readingNow", "(I)I"⟩, 18) := ⟨⟨by decide +kernel, by decide +kernel⟩, List.mem_of_getElem? (i := 804) (by decide +kernel), List.mem_of_getElem? (i := 1118) (by decide +kernel), List.mem_of_getElem? (i := 1119) (by decide +kernel)⟩
theorem lw_p51 : lw_okq (⟨"LatticeGesturesModel", "readAs", "()I"⟩, 18) := ⟨⟨by decide +kernel, by decide +kernel⟩, List.mem_of_getElem? (i := 804) (by decide +kernel), List.mem_of_getElem? (i := 1122) (by decide +kernel), List.mem_of_getElem? (i := 1123) (by decide +kernel)⟩
theorem lw_p52 : lw_okq (⟨"LatticeGesturesModel", "nearestDistance", "()I"⟩, 18) := ⟨⟨by decide +kernel, by decide +kernel⟩, List.mem_of_getElem? (i := 804) (by decide +kernel), List.mem_of_getElem? (i := 1126) (by decide +kernel), List.mem_of_getElem? (i := 1127) (by decide +kernel)⟩
theorem lw_p53 : lw_okq (⟨"LatticeGesturesModel", "canBecome", "()I"⟩, 18) := ⟨⟨by decide +kernel, by decide +kernel⟩, List.mem_of_getElem? (i := 804) (by decide +kernel), List.mem_of_getElem? (i := 1130) (by decide +kernel), List.mem_of_getElem? (i := 1131) (by decide +kernel)⟩
theorem lw_p54 : lw_okq (⟨"LatticeGesturesModel", "longestBeginning", "(I)I"⟩, 18) := ⟨⟨by decide +kernel, by decide +kernel⟩, List.mem_of_getElem? (i := 804) (by decide +kernel), List.mem_of_getElem? (i := 1134) (by decide +kernel), List.mem_of_getElem? (i := 1135) (by decide +kernel)⟩
theorem lw_p55 : lw_okq (⟨"LatticeGesturesModel", "toCome", "()I"⟩, 18) := ⟨⟨by decide +kernel, by decide +kernel⟩, List.mem_of_getElem? (i := 804) (by decide +kernel), List.mem_of_getElem? (i := 1138) (by decide +kernel), List.mem_of_getElem? (i := 1139) (by decide +kernel)⟩
theorem lw_p56 : lw_okq (⟨"LatticeGesturesModel", "counted", "(I)I"⟩, 18) := ⟨⟨by decide +kernel, by decide +kernel⟩, List.mem_of_getElem? (i := 804) (by decide +kernel), List.mem_of_getElem? (i := 1146) (by decide +kernel), List.mem_of_getElem? (i := 1147) (by decide +kernel)⟩
theorem lw_p57 : lw_okq (⟨"LatticeGesturesModel", "manyRuns", "()I"⟩, 18) := ⟨⟨by decide +kernel, by decide +kernel⟩, List.mem_of_getElem? (i := 804) (by decide +kernel), List.mem_of_getElem? (i := 1150) (by decide +kernel), List.mem_of_getElem? (i := 1151) (by decide +kernel)⟩
theorem lw_p58 : lw_okq (⟨"LatticeGesturesModel", "manyDirections", "()I"⟩, 18) := ⟨⟨by decide +kernel, by decide +kernel⟩, List.mem_of_getElem? (i := 804) (by decide +kernel), List.mem_of_getElem? (i := 1154) (by decide +kernel), List.mem_of_getElem? (i := 1155) (by decide +kernel)⟩
theorem lw_p59 : lw_okq (⟨"LatticeGesturesModel", "pathLength", "()I"⟩, 18) := ⟨⟨by decide +kernel, by decide +kernel⟩, List.mem_of_getElem? (i := 804) (by decide +kernel), List.mem_of_getElem? (i := 1158) (by decide +kernel), List.mem_of_getElem? (i := 1159) (by decide +kernel)⟩
theorem lw_p60 : lw_okq (⟨"LatticeGesturesModel", "manyDropped", "()I"⟩, 18) := ⟨⟨by decide +kernel, by decide +kernel⟩, List.mem_of_getElem? (i := 804) (by decide +kernel), List.mem_of_getElem? (i := 1162) (by decide +kernel), List.mem_of_getElem? (i := 1163) (by decide +kernel)⟩
theorem lw_p61 : lw_okq (⟨"LatticeGesturesModel", "allDirections", "()I"⟩, 18) := ⟨⟨by decide +kernel, by decide +kernel⟩, List.mem_of_getElem? (i := 804) (by decide +kernel), List.mem_of_getElem? (i := 1166) (by decide +kernel), List.mem_of_getElem? (i := 1167) (by decide +kernel)⟩
theorem lw_p62 : lw_okq (⟨"LatticeGesturesModel", "pointThen", "(II)I"⟩, 18) := ⟨⟨by decide +kernel, by decide +kernel⟩, List.mem_of_getElem? (i := 804) (by decide +kernel), List.mem_of_getElem? (i := 1178) (by decide +kernel), List.mem_of_getElem? (i := 1179) (by decide +kernel)⟩
theorem lw_p63 : lw_okq (⟨"LatticeGesturesModel", "againstNow", "()I"⟩, 18) := ⟨⟨by decide +kernel, by decide +kernel⟩, List.mem_of_getElem? (i := 804) (by decide +kernel), List.mem_of_getElem? (i := 1186) (by decide +kernel), List.mem_of_getElem? (i := 1187) (by decide +kernel)⟩
def lw_privs_4 : List (MethodName × Nat) := [(⟨"LatticeGesturesModel", "strokeNow", "(I)I"⟩, 18), (⟨"LatticeGesturesModel", "pathDistance", "(I)I"⟩, 18), (⟨"LatticeGesturesModel", "readingNow", "(I)I"⟩, 18), (⟨"LatticeGesturesModel", "readAs", "()I"⟩, 18), (⟨"LatticeGesturesModel", "nearestDistance", "()I"⟩, 18), (⟨"LatticeGesturesModel", "canBecome", "()I"⟩, 18), (⟨"LatticeGesturesModel", "longestBeginning", "(I)I"⟩, 18), (⟨"LatticeGesturesModel", "toCome", "()I"⟩, 18), (⟨"LatticeGesturesModel", "counted", "(I)I"⟩, 18), (⟨"LatticeGesturesModel", "manyRuns", "()I"⟩, 18), (⟨"LatticeGesturesModel", "manyDirections", "()I"⟩, 18), (⟨"LatticeGesturesModel", "pathLength", "()I"⟩, 18), (⟨"LatticeGesturesModel", "manyDropped", "()I"⟩, 18), (⟨"LatticeGesturesModel", "allDirections", "()I"⟩, 18), (⟨"LatticeGesturesModel", "pointThen", "(II)I"⟩, 18), (⟨"LatticeGesturesModel", "againstNow", "()I"⟩, 18)]
theorem lw_r4 : ∀ q ∈ lw_privs_4, lw_okq q := List.forall_mem_cons.mpr ⟨lw_p48, List.forall_mem_cons.mpr ⟨lw_p49, List.forall_mem_cons.mpr ⟨lw_p50, List.forall_mem_cons.mpr ⟨lw_p51, List.forall_mem_cons.mpr ⟨lw_p52, List.forall_mem_cons.mpr ⟨lw_p53, List.forall_mem_cons.mpr ⟨lw_p54, List.forall_mem_cons.mpr ⟨lw_p55, List.forall_mem_cons.mpr ⟨lw_p56, List.forall_mem_cons.mpr ⟨lw_p57, List.forall_mem_cons.mpr ⟨lw_p58, List.forall_mem_cons.mpr ⟨lw_p59, List.forall_mem_cons.mpr ⟨lw_p60, List.forall_mem_cons.mpr ⟨lw_p61, List.forall_mem_cons.mpr ⟨lw_p62, List.forall_mem_cons.mpr ⟨lw_p63, fun _ h => absurd h List.not_mem_nil⟩⟩⟩⟩⟩⟩⟩⟩⟩⟩⟩⟩⟩⟩⟩⟩
theorem lw_p64 : lw_okq (⟨"LatticeGesturesModel", "mostNow", "()I"⟩, 18) := ⟨⟨by decide +kernel, by decide +kernel⟩, List.mem_of_getElem? (i := 804) (by decide +kernel), List.mem_of_getElem? (i := 1194) (by decide +kernel), List.mem_of_getElem? (i := 1195) (by decide +kernel)⟩
theorem lw_p65 : lw_okq (⟨"LatticeGesturesModel", "straightNow", "()I"⟩, 18) := ⟨⟨by decide +kernel, by decide +kernel⟩, List.mem_of_getElem? (i := 804) (by decide +kernel), List.mem_of_getElem? (i := 1202) (by decide +kernel), List.mem_of_getElem? (i := 1203) (by decide +kernel)⟩
theorem lw_p66 : lw_okq (⟨"LatticeGesturesModel", "doubtNow", "()D"⟩, 18) := ⟨⟨by decide +kernel, by decide +kernel⟩, List.mem_of_getElem? (i := 804) (by decide +kernel), List.mem_of_getElem? (i := 1220) (by decide +kernel), List.mem_of_getElem? (i := 1221) (by decide +kernel)⟩
theorem lw_p67 : lw_okq (⟨"LatticeGesturesModel", "mix", "(J)V"⟩, 18) := ⟨⟨by decide +kernel, by decide +kernel⟩, List.mem_of_getElem? (i := 804) (by decide +kernel), List.mem_of_getElem? (i := 1229) (by decide +kernel), List.mem_of_getElem? (i := 1230) (by decide +kernel)⟩
theorem lw_p68 : lw_okq (⟨"LatticeGesturesModel", "mixPath", "()V"⟩, 18) := ⟨⟨by decide +kernel, by decide +kernel⟩, List.mem_of_getElem? (i := 804) (by decide +kernel), List.mem_of_getElem? (i := 1234) (by decide +kernel), List.mem_of_getElem? (i := 1235) (by decide +kernel)⟩
theorem lw_p69 : lw_okq (⟨"LatticeGesturesModel", "mixCommand", "(I)V"⟩, 18) := ⟨⟨by decide +kernel, by decide +kernel⟩, List.mem_of_getElem? (i := 804) (by decide +kernel), List.mem_of_getElem? (i := 1238) (by decide +kernel), List.mem_of_getElem? (i := 1239) (by decide +kernel)⟩
def lw_privs_5 : List (MethodName × Nat) := [(⟨"LatticeGesturesModel", "mostNow", "()I"⟩, 18), (⟨"LatticeGesturesModel", "straightNow", "()I"⟩, 18), (⟨"LatticeGesturesModel", "doubtNow", "()D"⟩, 18), (⟨"LatticeGesturesModel", "mix", "(J)V"⟩, 18), (⟨"LatticeGesturesModel", "mixPath", "()V"⟩, 18), (⟨"LatticeGesturesModel", "mixCommand", "(I)V"⟩, 18)]
theorem lw_r5 : ∀ q ∈ lw_privs_5, lw_okq q := List.forall_mem_cons.mpr ⟨lw_p64, List.forall_mem_cons.mpr ⟨lw_p65, List.forall_mem_cons.mpr ⟨lw_p66, List.forall_mem_cons.mpr ⟨lw_p67, List.forall_mem_cons.mpr ⟨lw_p68, List.forall_mem_cons.mpr ⟨lw_p69, fun _ h => absurd h List.not_mem_nil⟩⟩⟩⟩⟩⟩
def lw_privs : List (MethodName × Nat) := lw_privs_1 ++ (lw_privs_2 ++ (lw_privs_3 ++ (lw_privs_4 ++ (lw_privs_5))))
def lw_tbl : List Cond := k2_sels lw_privs ++ tables_1
theorem lw_privs_ok : ∀ q ∈ lw_privs, lw_okq q := by
  show ∀ q ∈ lw_privs_1 ++ (lw_privs_2 ++ (lw_privs_3 ++ (lw_privs_4 ++ (lw_privs_5)))), lw_okq q
  exact List.forall_mem_append.mpr ⟨lw_r1, List.forall_mem_append.mpr ⟨lw_r2, List.forall_mem_append.mpr ⟨lw_r3, List.forall_mem_append.mpr ⟨lw_r4, lw_r5⟩⟩⟩⟩
/-- the streams that the claim lets the run draw from -/
abbrev lw_cs : List Choice := [Jvm.Choice.named "NaN.bits"]
theorem lw_bits : nanBits ∈ lw_cs := by first | decide | exact List.mem_cons_self | simp [lw_cs, nanBits]
end
section
/-! ===== BEGIN words of one list among another's, by their places ===== -/
theorem goodIn_r {big : List Cond} (ws : List Cond) (ps : List Nat) (hp : ws = ps.filterMap (fun i => big[i]?)) (h : ws.all goodWord = true) : GoodIn big ws := by
  intro w hw
  have h1 := List.all_eq_true.mp h w hw
  rw [hp] at hw
  obtain ⟨i, -, hi⟩ := List.mem_filterMap.mp hw
  have hm : w ∈ big := by first | exact List.mem_of_getElem? hi | exact List.getElem?_mem hi
  exact ⟨hm, good_of_word h1⟩
theorem goodIn_app {big a b : List Cond} (ha : GoodIn big a) (hb : GoodIn big b) : GoodIn big (a ++ b) := fun w h => (List.mem_append.mp h).elim (ha w) (hb w)
theorem goodIn_ca {big a b : List Cond} {c : Cond} (ha : GoodIn big (c :: a)) (hb : GoodIn big b) : GoodIn big (c :: (a ++ b)) := fun w h => (List.mem_cons.mp h).elim (fun e => ha w (List.mem_cons.mpr (Or.inl e))) (fun h => (List.mem_append.mp h).elim (fun h => ha w (List.mem_cons.mpr (Or.inr h))) (hb w))
theorem goodIn_sub {big ws : List Cond} (hm : ∀ w ∈ ws, w ∈ big) (h : ws.all goodWord = true) : GoodIn big ws := fun w hw => ⟨hm w hw, good_of_word (List.all_eq_true.mp h w hw)⟩
/-! ===== END ===== -/

/-! ===== BEGIN exceptions that leave a method, and their catching by the caller (launches without stack traces) ===== -/
section VXA
/-! The laws vx_back, vx_callV, vx_callS, vx_callSW, vx_throw0, vx_throwS follow proofs of the library, with one case more: JvmDerived/Free/Laws.lean (Back.of_free), Shelf42/LK1.lean (callV, callS), Shelf/KitTraced.lean (throwNew0V, throwNewS). -/
/-- where a method has thrown q: the class by its name, the cell, what was written, the world -/
def vx_T (XC : String → State → State → Prop) (st : State) (q : Addr) (t : State) (mc ms : Nat) (free : Addr → Prop) : Prop :=
  ∃ (E : String) (ce : Cell) (L : List Loc), XC E st t ∧ t.heap[q]? = some ce ∧ ce.vm = .none ∧ st.vm.findClass E = some ce.cls ∧ st.WarmedH t.vm ∧ st.sameButNew ({ t with vm := st.vm } : State) L mc ms ∧ ∀ z ∈ L, free z.base
def vx_Q (Qc : Array Value → State → Outcome → State → Prop) (XC : String → State → State → Prop) (mc ms : Nat) (free : Addr → Prop) : Array Value → State → Outcome → State → Prop := fun a st o t =>
  (Qc a st o t ∧ ∃ L, FrameEnd st o t L mc ms ∧ ∀ q ∈ L, free q.base) ∨ ∃ q, o = .threw q ∧ vx_T XC st q t mc ms free
/-- a callee that returns or throws -/
def vx_Met (l : Launch) (y : MethodName) (ws : List Cond) (rm : Room) (Pc : Array Value → State → Prop) (Qc : Array Value → State → Outcome → State → Prop) (XC : String → State → State → Prop) (mc ms : Nat) (free : Addr → Prop) : Prop :=
  MetFree l y (headSpec ws rm) Pc (fun _ _ _ _ _ => True) (vx_Q Qc XC mc ms free)
def vx_Post (XC : String → State → State → Prop) (mc ms : Nat) (free : Addr → Prop) : Pt → Array Value → Addr → Pt → Prop := fun A a q B =>
  ∃ (g : JFrame) (mk : MethodId) (t : State) (L : List Loc) (E : String) (ce : Cell), B.U.heap = t.heap ∧ B.U.vm = t.vm ∧ XC E (A.U.calling g mk a) t ∧ t.heap[q]? = some ce ∧ ce.vm = .none ∧ A.U.vm.findClass E = some ce.cls ∧ B.locs = A.locs ++ L ∧ (∀ z ∈ L, free z.base) ∧ B.cells = A.cells + mc ∧ B.slots = A.slots + ms
def vx_Back (l : Launch) (R : Room) (p : Program) (e : Env) (below : List Frame) (s : State) (sargs : Array Value) (y : MethodName) (len W9 : Nat)
    (Pre : Pt → Array Value → Prop) (Post : Pt → Array Value → Option Value → Pt → Prop) (PostX : Pt → Array Value → Addr → Pt → Prop) : Prop :=
  ∀ (m : MethodId) (meth : Method) (c : Code) (A : Pt) (g : JFrame) (ig : Instr) (mk : MethodId) (a : Array Value),
    Stand p l e R s m sargs below meth c A.U A.locs A.cells A.slots → g.method = m → g.locals.size = c.maxLocals → decode c.code g.pc = .ok (ig, len) →
    2 * g.monitorRoom + (g.stack.map fun v => v.category).sum ≤ W9 → A.U.methodNamed? y = some mk → Pre A a →
    (∃ (v : Option Value) (B : Pt), Stand p l e R s m sargs below meth c B.U B.locs B.cells B.slots ∧ Post A a v B ∧
      Steps p.tables e below (doInvoke e (A.U.setTop g) [] mk a).1 (B.U.setTop { g with pc := g.pc + len, stack := v.toList ++ g.stack })) ∨
    (∃ (q : Addr) (B : Pt), Stand p l e R s m sargs below meth c B.U B.locs B.cells B.slots ∧ PostX A a q B ∧
      Steps p.tables e below (doInvoke e (A.U.setTop g) [] mk a).1 ((B.U.setTop g).pushFrame (.throwing q)))
section Payer
variable {l : Launch} {R : Room} {p : Program} {e : Env} {below : List Frame} {s : State} {sargs : Array Value} {y : MethodName} {len W9 : Nat}
theorem vx_back {ws : List Cond} {rm : Room} {Pc : Array Value → State → Prop} {Qc : Array Value → State → Outcome → State → Prop} {XC : String → State → State → Prop} {mc ms : Nat} {free : Addr → Prop} {bytes : ByteArray} {maxL : Nat} {ret : Option FieldType}
    (hM : vx_Met l y ws rm Pc Qc XC mc ms free) (hblind : FrameBlind Pc) (hrc : rm.cells = mc) (hrs : rm.slots = ms)
    (hframes : rm.frames + 1 ≤ R.frames) (hlocals : W9 + (maxL + 11) + rm.locals ≤ R.locals)
    (hws : ∀ w ∈ ws, ∀ a' U, s.WarmedH U.vm → w.before a' U = true) (hcode : Cond.code y bytes maxL ret ∈ ws) (hinit : ∀ a' U, s.WarmedH U.vm → (Cond.initialized y.cls).before a' U = true) :
    vx_Back l R p e below s sargs y len W9 (PreOf R mc ms Pc) (PostOf Qc mc ms free) (vx_Post XC mc ms free) := by
  intro m meth c A g ig mk a X hg hsize hdg hW hn hp
  have h1 : (headSpec ws rm).pre.before a A.U = true := atoms_intro fun w hw => hws w hw _ _ X.warmed
  have h2 : (Cond.code y bytes maxL ret).before a A.U = true := hws _ hcode _ _ X.warmed
  have h3 : (Cond.initialized y.cls).before a A.U = true := hinit _ _ X.warmed
  have h4 : A.cells + (headSpec ws rm).room.cells ≤ R.cells := by rw [show (headSpec ws rm).room.cells = mc from hrc]; exact hp.1
  have h5 : A.slots + (headSpec ws rm).room.slots ≤ R.slots := by rw [show (headSpec ws rm).room.slots = ms from hrs]; exact hp.2.1
  have hPc : Pc a (A.U.calling g mk a) := hblind _ _ _ _ hp.2.2
  obtain ⟨U, Ls, c0, s0⟩ := A
  dsimp only [Pt.U, Pt.locs, Pt.cells, Pt.slots] at h1 h2 h3 h4 h5 X hn hPc ⊢
  obtain ⟨methY, cY, hmY, hcY, -, hlY, -, -, -, -⟩ := Cond.code_spec hn h2
  obtain ⟨kY, hkY, -⟩ := className_of_methodNamed hn
  have hinitY : kY.init = .initialized := Cond.initialized_spec (findClass_of_methodNamed hn) hkY h3
  have h : At U g.method c below := by rw [hg]; exact X.here
  have hlocals9 : W9 + (maxL + 11) + (headSpec ws rm).room.locals ≤ R.locals := hlocals
  have happ : (headSpec ws rm).appliesLoose y e.platform (U.calling g mk a) = true :=
    Spec.appliesLoose_calling (g := g) h hdg hn hkY hinitY
      (X.room_calling (g := g) (R' := (headSpec ws rm).room) hsize hmY hcY hframes (by rw [hlY]; omega) h4 h5) h1
  obtain ⟨mid, hmid⟩ := h.above
  have hfr : (U.setTop g).frames = (.java g :: mid) ++ below := by rw [State.frames_setTop' g h.top, hmid]; rfl
  obtain ⟨o, s₂, hsteps, -, hend, hq⟩ := Steps.callFree hM p X.admits X.cas X.clock (acts := []) hfr happ hPc trivial
  have hq' : vx_Q Qc XC mc ms free a (U.calling g mk a) o s₂ := hq
  rw [State.frames_setTop' g h.top] at hend
  obtain ⟨g₀, hg0⟩ := Option.isSome_iff_exists.mp h.top
  obtain ⟨r, hr⟩ := State.topJava?_eq_some.mp hg0
  have hr' : (({ U with heap := s₂.heap, slotsUsed := s₂.slotsUsed } : State).setVm s₂.vm).frames = .java g₀ :: r := hr
  rcases hq' with ⟨hqc, L, hfe, hL⟩ | ⟨q, rfl, E, ce, L, hx, hce, hcv, hcl, hW₂, hsm, hL⟩
  · obtain ⟨⟨v, rfl⟩, hW₂, e2, q2, q3, q4, q5, q6⟩ := id hfe
    have e3 : s₂ = ({ (U.calling g mk a).setFrames s₂.frames with heap := s₂.heap, slotsUsed := s₂.slotsUsed } : State).setVm s₂.vm := by
      have : s₂ = ({ s₂ with vm := (U.calling g mk a).vm } : State).setVm s₂.vm := rfl
      rw [e2] at this
      exact this
    obtain ⟨c₂, i₂, len₂, hc₂, hd₂, hf₂⟩ := hend
    have hW' : U.WarmedH s₂.vm := hW₂
    have hcc : c₂ = c := by
      have h1 : s₂.code? g.method = U.code? g.method := by
        rw [State.code?_eq, State.code?_eq, hW'.alike.method?]
      exact Option.some.inj (hc₂.symm.trans (h1.trans h.code))
    subst hcc
    have hlen : len₂ = len := by rw [hdg] at hd₂; cases hd₂; rfl
    subst hlen
    have hs₂ : s₂ = (({ U with heap := s₂.heap, slotsUsed := s₂.slotsUsed } : State).setVm s₂.vm).setTop { g with pc := g.pc + len₂, stack := v.toList ++ g.stack } := by
      refine e3.trans ?_
      rw [hf₂, State.calling_eq h.top, State.setFrames_setFrames, State.setTop_of_frames _ hr', hr]
      rfl
    have hsame : U.sameButNew ({ U with heap := s₂.heap, slotsUsed := s₂.slotsUsed } : State) L mc ms := by
      refine ⟨?_, q2, q3, q4, q5, q6⟩
      obtain ⟨t, ht, -⟩ := State.frames_cons hr
      show ({ U with heap := s₂.heap, slotsUsed := s₂.slotsUsed } : State) = { U.setFrames U.frames with heap := s₂.heap, slotsUsed := s₂.slotsUsed }
      rw [State.setFrames_self ht]
    subst hg
    refine Or.inl ⟨v, ⟨(({ U with heap := s₂.heap, slotsUsed := s₂.slotsUsed } : State).setVm s₂.vm), Ls ++ L, c0 + mc, s0 + ms⟩,
      ⟨X.admits, X.cas, X.clock, X.frames, X.room, X.hears, X.method, X.code, (X.here.setHeapUsed s₂.heap s₂.slotsUsed).setVm hW'.alike, X.tail, State.WarmedH.trans X.warmed hW', X.limits, X.bytes, X.same.trans (hsame.setVm s.vm)⟩,
      ⟨g, mk, s₂, L, rfl, rfl, hqc, rfl, hL, rfl, rfl⟩, ?_⟩
    show Steps p.tables e below _ ((({ U with heap := s₂.heap, slotsUsed := s₂.slotsUsed } : State).setVm s₂.vm).setTop { g with pc := g.pc + len₂, stack := v.toList ++ g.stack })
    rw [← hs₂]
    exact hsteps
  · obtain ⟨e2, q2, q3, q4, q5, q6⟩ := id hsm
    have e3 : s₂ = ({ (U.calling g mk a).setFrames s₂.frames with heap := s₂.heap, slotsUsed := s₂.slotsUsed } : State).setVm s₂.vm := by
      have : s₂ = ({ s₂ with vm := (U.calling g mk a).vm } : State).setVm s₂.vm := rfl
      rw [e2] at this
      exact this
    have hf₂ : s₂.frames = .throwing q :: .java g :: U.frames.tail := hend
    have hW' : U.WarmedH s₂.vm := hW₂
    have hs₂ : s₂ = ((({ U with heap := s₂.heap, slotsUsed := s₂.slotsUsed } : State).setVm s₂.vm).setTop g).pushFrame (.throwing q) := by
      refine e3.trans ?_
      rw [hf₂, State.calling_eq h.top, State.setFrames_setFrames, State.pushFrame, State.frames_setTop _ hr', State.setTop_of_frames _ hr', State.setFrames_setFrames, hr]
      rfl
    have hsame : U.sameButNew ({ U with heap := s₂.heap, slotsUsed := s₂.slotsUsed } : State) L mc ms := by
      refine ⟨?_, q2, q3, q4, q5, q6⟩
      obtain ⟨t, ht, -⟩ := State.frames_cons hr
      show ({ U with heap := s₂.heap, slotsUsed := s₂.slotsUsed } : State) = { U.setFrames U.frames with heap := s₂.heap, slotsUsed := s₂.slotsUsed }
      rw [State.setFrames_self ht]
    subst hg
    refine Or.inr ⟨q, ⟨(({ U with heap := s₂.heap, slotsUsed := s₂.slotsUsed } : State).setVm s₂.vm), Ls ++ L, c0 + mc, s0 + ms⟩,
      ⟨X.admits, X.cas, X.clock, X.frames, X.room, X.hears, X.method, X.code, (X.here.setHeapUsed s₂.heap s₂.slotsUsed).setVm hW'.alike, X.tail, State.WarmedH.trans X.warmed hW', X.limits, X.bytes, X.same.trans (hsame.setVm s.vm)⟩,
      ⟨g, mk, s₂, L, E, ce, rfl, rfl, hx, hce, hcv, hcl, rfl, hL, rfl, rfl⟩, ?_⟩
    show Steps p.tables e below _ (((({ U with heap := s₂.heap, slotsUsed := s₂.slotsUsed } : State).setVm s₂.vm).setTop g).pushFrame (.throwing q))
    rw [← hs₂]
    exact hsteps
end Payer
section Calls
variable {p : Program} {l : Launch} {e : Env} {R : Room} {s : State} {m : MethodId} {args : Array Value} {below : List Frame} {meth : Method} {c : Code} {T : State} {locs : List Loc} {cells slots : Nat}
theorem vx_callV (X : Stand p l e R s m args below meth c T locs cells slots) (hexec : p.tables.exec = Jvm.exec) {own C : String} {index : Nat} {y : MethodName} {bytes : ByteArray} {maxL : Nat} {ret : Option FieldType}
    (hown : s.vm.findClass own = some m.cls) (hlink : (Cond.methodLink own index y).before args s = true) (hinst : (Cond.instanceMethod y).before args s = true) (hsel : (Cond.selects C y y).before args s = true)
    (hcode : (Cond.code y bytes maxL ret).before args s = true) (hy : y.cls ≠ "java/lang/invoke/MethodHandle" ∧ y.cls ≠ "java/lang/invoke/VarHandle")
    {W9 : Nat} {Pre : Pt → Array Value → Prop} {Post : Pt → Array Value → Option Value → Pt → Prop} {PostX : Pt → Array Value → Addr → Pt → Prop} (hK : vx_Back l R p e below s args y 3 W9 Pre Post PostX)
    {b : Addr} {cellB : Cell} (hcell : T.heap[b]? = some cellB) (hobj : cellB.vm.isStatics = false) (hcls : s.vm.findClass C = some cellB.cls)
    {g : JFrame} (hg : g.method = m) (hsize : g.locals.size = c.maxLocals) {argsL rest : List Value} (hlen : ∀ sig, parseMethodDescriptor y.desc = some sig → argsL.length = sig.parameters.length)
    (hstack : g.stack = argsL.reverse ++ .ref b :: rest) (hW : 2 * g.monitorRoom + (rest.map fun v => v.category).sum ≤ W9) (hdg : decode c.code g.pc = .ok (.invokevirtual index, 3))
    (hpre : ∀ vm₁, s.WarmedH vm₁ → Pre ⟨T.setVm vm₁, locs, cells, slots⟩ (Value.ref b :: argsL).toArray) :
    (∃ (v : Option Value) (vm₁ : Vm) (B : Pt), s.WarmedH vm₁ ∧ Stand p l e R s m args below meth c B.U B.locs B.cells B.slots ∧ Post ⟨T.setVm vm₁, locs, cells, slots⟩ (Value.ref b :: argsL).toArray v B ∧
      ∀ target, Steps p.tables e below (B.U.setTop { g with pc := g.pc + 3, stack := v.toList ++ rest }) target → Steps p.tables e below (T.setTop g) target) ∨
    (∃ (q : Addr) (vm₁ : Vm) (B : Pt), s.WarmedH vm₁ ∧ Stand p l e R s m args below meth c B.U B.locs B.cells B.slots ∧ PostX ⟨T.setVm vm₁, locs, cells, slots⟩ (Value.ref b :: argsL).toArray q B ∧
      Steps p.tables e below (T.setTop g) ((B.U.setTop { g with stack := rest }).pushFrame (.throwing q))) := by
  obtain ⟨mk, methM, hnamed, hmethM, hstM, habM⟩ := Cond.instanceMethod_spec hinst
  obtain ⟨methM', cM, hmethM', -, -, -, -, -, -, hsigM⟩ := Cond.code_spec hnamed hcode
  cases hmethM.symm.trans hmethM'
  obtain ⟨c2, r2, m2, q1, q2, q3, q4, kP, hkP, hkPi⟩ := Cond.selects_spec hsel
  cases hcls.symm.trans q1
  cases (State.methodFound?_of_named hnamed hy).symm.trans q2
  cases hnamed.symm.trans q3
  have hselP : selectMethod e.platform s.vm cellB.cls mk = .method mk := by rw [Launch.admits_selectMethod X.admits]; exact q4
  obtain ⟨vm₁, X₁, hstep₁⟩ := X.invokevirtual hexec hown hlink hnamed hmethM hstM hkP hkPi hy (a := b) (cell := cellB) hcell
    (fun z h => by rw [h] at hobj; cases hobj) hselP hmethM habM hkP hkPi (g := g) hg (argsL := argsL) (rest := rest) (hlen _ hsigM) hstack hdg
  rcases hK m meth c ⟨T.setVm vm₁, locs, cells, slots⟩ { g with stack := rest } (.invokevirtual index) mk (Value.ref b :: argsL).toArray X₁ hg hsize hdg hW (X₁.named hnamed) (hpre vm₁ X₁.warmed) with ⟨v, B, X', hpost, hsteps⟩ | ⟨q, B, X', hpost, hsteps⟩
  · exact Or.inl ⟨v, vm₁, B, X₁.warmed, X', hpost, fun target h => hstep₁ _ fun acts => by rw [doInvoke_state]; exact hsteps.trans h⟩
  · exact Or.inr ⟨q, vm₁, B, X₁.warmed, X', hpost, hstep₁ _ fun acts => by rw [doInvoke_state]; exact hsteps⟩
theorem vx_callS (X : Stand p l e R s m args below meth c T locs cells slots) (hexec : p.tables.exec = Jvm.exec) {own : String} {index : Nat} {y : MethodName} {bytes : ByteArray} {maxL : Nat} {ret : Option FieldType}
    (hown : s.vm.findClass own = some m.cls) (hlink : (Cond.methodLink own index y).before args s = true) (hstat : (Cond.static y).before args s = true) (hinit : (Cond.initialized y.cls).before args s = true)
    (hcode : (Cond.code y bytes maxL ret).before args s = true) (hy : y.cls ≠ "java/lang/invoke/MethodHandle" ∧ y.cls ≠ "java/lang/invoke/VarHandle")
    {W9 : Nat} {Pre : Pt → Array Value → Prop} {Post : Pt → Array Value → Option Value → Pt → Prop} {PostX : Pt → Array Value → Addr → Pt → Prop} (hK : vx_Back l R p e below s args y 3 W9 Pre Post PostX)
    {g : JFrame} (hg : g.method = m) (hsize : g.locals.size = c.maxLocals) {argsL rest : List Value} (hlen : ∀ sig, parseMethodDescriptor y.desc = some sig → argsL.length = sig.parameters.length)
    (hstack : g.stack = argsL.reverse ++ rest) (hW : 2 * g.monitorRoom + (rest.map fun v => v.category).sum ≤ W9) (hdg : decode c.code g.pc = .ok (.invokestatic index, 3))
    (hpre : ∀ vm₁, s.WarmedH vm₁ → Pre ⟨T.setVm vm₁, locs, cells, slots⟩ argsL.toArray) :
    (∃ (v : Option Value) (vm₁ : Vm) (B : Pt), s.WarmedH vm₁ ∧ Stand p l e R s m args below meth c B.U B.locs B.cells B.slots ∧ Post ⟨T.setVm vm₁, locs, cells, slots⟩ argsL.toArray v B ∧
      ∀ target, Steps p.tables e below (B.U.setTop { g with pc := g.pc + 3, stack := v.toList ++ rest }) target → Steps p.tables e below (T.setTop g) target) ∨
    (∃ (q : Addr) (vm₁ : Vm) (B : Pt), s.WarmedH vm₁ ∧ Stand p l e R s m args below meth c B.U B.locs B.cells B.slots ∧ PostX ⟨T.setVm vm₁, locs, cells, slots⟩ argsL.toArray q B ∧
      Steps p.tables e below (T.setTop g) ((B.U.setTop { g with stack := rest }).pushFrame (.throwing q))) := by
  obtain ⟨mk, hnamed⟩ := Cond.code_named hcode
  obtain ⟨methM, cM, hmethM, -, -, -, -, -, -, hsigM⟩ := Cond.code_spec hnamed hcode
  have hstatic : methM.isStatic = true := Cond.static_spec hnamed hmethM hstat
  obtain ⟨kP, hkP, -⟩ := className_of_methodNamed hnamed
  have hinitP : kP.init = .initialized := Cond.initialized_spec (findClass_of_methodNamed hnamed) hkP hinit
  obtain ⟨vm₁, X₁, hstep₁⟩ := X.invokestatic hexec hown hlink hnamed hmethM hstatic hkP hinitP hy (g := g) hg (argsL := argsL) (rest := rest) (hlen _ hsigM) hstack hdg
  rcases hK m meth c ⟨T.setVm vm₁, locs, cells, slots⟩ { g with stack := rest } (.invokestatic index) mk argsL.toArray X₁ hg hsize hdg hW (X₁.named hnamed) (hpre vm₁ X₁.warmed) with ⟨v, B, X', hpost, hsteps⟩ | ⟨q, B, X', hpost, hsteps⟩
  · exact Or.inl ⟨v, vm₁, B, X₁.warmed, X', hpost, fun target h => hstep₁ _ fun acts => by rw [doInvoke_state]; exact hsteps.trans h⟩
  · exact Or.inr ⟨q, vm₁, B, X₁.warmed, X', hpost, hstep₁ _ fun acts => by rw [doInvoke_state]; exact hsteps⟩
end Calls
theorem vx_cls {s : State} {T : State} {vm₁ : Vm} {E : String} {k : ClassId} (hW : s.WarmedH vm₁) (h : (T.setVm vm₁).vm.findClass E = some k) : s.vm.findClass E = some k := by
  have h1 : vm₁.findClass E = some k := h
  rw [hW.alike.findClass] at h1
  exact h1
/-- the method's frame g, with q thrown over it -/
def vx_W (p : Program) (l : Launch) (e : Env) (R : Room) (s : State) (m : MethodId) (args : Array Value) (below : List Frame) (meth : Method) (c : Code) (H : Heap) (locs : List Loc) (cells slots : Nat) (Q : State → Prop) (g : JFrame) (q : Addr) : Prop :=
  ∀ T : State, T.heap = H → Stand p l e R s m args below meth c T locs cells slots → ∃ t, Steps p.tables e below ((T.setTop g).pushFrame (.throwing q)) t ∧ Q t
def vx_Run (p : Program) (l : Launch) (e : Env) (R : Room) (s : State) (m : MethodId) (args : Array Value) (below : List Frame) (meth : Method) (c : Code) (H : Heap) (locs : List Loc) (cells slots mc ms : Nat) (g : JFrame) (rest : List Value) (Qa : State → Outcome → State → Prop) (XC : String → State → State → Prop) (free : Addr → Prop) : Prop :=
  ∀ T : State, T.heap = H → Stand p l e R s m args below meth c T locs cells slots →
    (∃ (v : Option Value) (st₀ t T' : State) (L : List Loc), st₀.heap = H ∧ Stand p l e R s m args below meth c T' (locs ++ L) (cells + mc) (slots + ms) ∧ (∀ q ∈ L, free q.base) ∧ T'.heap = t.heap ∧ T'.vm = t.vm ∧ Qa st₀ (.returned v) t ∧
      Goes p e below T g T' { g with pc := g.pc + 3, stack := v.toList ++ rest }) ∨
    (∃ (q : Addr) (st₀ t T' : State) (L : List Loc) (E : String) (ce : Cell), st₀.heap = H ∧ Stand p l e R s m args below meth c T' (locs ++ L) (cells + mc) (slots + ms) ∧ (∀ z ∈ L, free z.base) ∧ T'.heap = t.heap ∧ T'.vm = t.vm ∧ XC E st₀ t ∧ t.heap[q]? = some ce ∧ ce.vm = .none ∧ s.vm.findClass E = some ce.cls ∧
      Steps p.tables e below (T.setTop g) ((T'.setTop { g with stack := rest }).pushFrame (.throwing q)))
def vx_X {S : Type} (px : S → Prop) (B : String → S → State → Prop) (A : Nat → Prop) : String → State → State → Prop := fun E st t => ∃ u : S, px u ∧ B E u t ∧ va_F A st t
section Runs
variable {p : Program} {l : Launch} {e : Env} {R : Room} {s : State} {m : MethodId} {args : Array Value} {below : List Frame} {meth : Method} {c : Code} {H : Heap} {locs : List Loc} {cells slots : Nat}
variable {y : MethodName} {bytes cc : ByteArray} {maxL nL mc ms n index : Nat} {ret : Option FieldType} {ws : List Cond} {rm : Room} {Pc : Array Value → State → Prop} {Qc : Array Value → State → Outcome → State → Prop} {XC : String → State → State → Prop} {free : Addr → Prop} {Ts : List Cond} {own C : String} {b : Addr} {As rest : List Value} {g : JFrame}
theorem vx_callBack (cb : CallB R s args own index y bytes maxL ret ws rm mc ms n) (hM : vx_Met l y ws rm Pc Qc XC mc ms free) (hbl : FrameBlind Pc) : vx_Back l R p e below s args y 3 8 (PreOf R mc ms Pc) (PostOf Qc mc ms free) (vx_Post XC mc ms free) := by
  obtain ⟨hrc, hrs, hfr, hlo, hws, hcw, -, hini, -⟩ := cb
  exact vx_back (bytes := bytes) (maxL := maxL) (ret := ret) hM hbl hrc hrs hfr hlo hws hcw (fun a' U hW => word_at hW (Or.inl (by first | rfl | simp [Cond.onTables, Cond.keeps, Cond.steady])) hini)
theorem vx_runV (S : CallFix p m c cc nL s args Ts own) (hM : vx_Met l y ws rm Pc Qc XC mc ms free) (cw : CallW R s args own C index y bytes maxL ret ws rm mc ms n) (hp : PreV s H C b Pc As)
    (hg : g.method = m) (hn : As.length = n) (hsize : g.locals.size = nL) (hstack : g.stack = As.reverse ++ .ref b :: rest) (hW : 2 * g.monitorRoom + (rest.map fun v => v.category).sum ≤ 8) (hdg : decode cc g.pc = .ok (.invokevirtual index, 3)) (hf : cells + mc ≤ R.cells ∧ slots + ms ≤ R.slots) :
    vx_Run p l e R s m args below meth c H locs cells slots mc ms g rest (Qc (Value.ref b :: As).toArray) XC free := by
  have hK : vx_Back l R p e below s args y 3 8 (PreOf R mc ms Pc) (PostOf Qc mc ms free) (vx_Post XC mc ms free) := vx_callBack cw.1 hM hp.1
  obtain ⟨⟨-, -, -, -, -, -, hcode, -, hy, hlen, hl⟩, hin, hse⟩ := cw
  obtain ⟨hx, hb, hml, ho, -⟩ := S
  obtain ⟨-, ⟨cellB, hcB, hoB, hclB⟩, hPc⟩ := hp
  intro T hT X
  rcases vx_callV X hx (C := C) (bytes := bytes) (maxL := maxL) (ret := ret) ho hl hin hse hcode hy hK (by rw [hT]; exact hcB) hoB hclB hg (hsize.trans hml.symm) (argsL := As) (rest := rest) (fun sig h => hn.trans (hlen sig h)) hstack hW (by rw [hb]; exact hdg)
    (fun vm₁ hW₁ => ⟨hf.1, hf.2, hPc (T.setVm vm₁) hT hW₁⟩) with ⟨v, vm₁, ⟨U', l2, c2, s2⟩, hW₁, X', ⟨g', mk, t, L, e1, e2, hq, h1, hL, h2, h3⟩, st⟩ | ⟨q, vm₁, ⟨U', l2, c2, s2⟩, hW₁, X', ⟨g', mk, t, L, E, ce, e1, e2, hq, hce, hcv, hcl, h1, hL, h2, h3⟩, st⟩
  · dsimp only [Pt.U, Pt.locs, Pt.cells, Pt.slots] at X' e1 e2 h1 h2 h3 st
    subst h1; subst h2; subst h3
    exact Or.inl ⟨v, (T.setVm vm₁).calling g' mk (Value.ref b :: As).toArray, t, U', L, hT, X', hL, e1, e2, hq, st⟩
  · dsimp only [Pt.U, Pt.locs, Pt.cells, Pt.slots] at X' e1 e2 h1 h2 h3 st hcl
    subst h1; subst h2; subst h3
    exact Or.inr ⟨q, (T.setVm vm₁).calling g' mk (Value.ref b :: As).toArray, t, U', L, E, ce, hT, X', hL, e1, e2, hq, hce, hcv, vx_cls hW₁ hcl, st⟩
theorem vx_runS (S : CallFix p m c cc nL s args Ts own) (hM : vx_Met l y ws rm Pc Qc XC mc ms free) (cw : CallB R s args own index y bytes maxL ret ws rm mc ms n ∧ (Cond.static y).before args s = true) (hp : PreS s H Pc As)
    (hg : g.method = m) (hn : As.length = n) (hsize : g.locals.size = nL) (hstack : g.stack = As.reverse ++ rest) (hW : 2 * g.monitorRoom + (rest.map fun v => v.category).sum ≤ 8) (hdg : decode cc g.pc = .ok (.invokestatic index, 3)) (hf : cells + mc ≤ R.cells ∧ slots + ms ≤ R.slots) :
    vx_Run p l e R s m args below meth c H locs cells slots mc ms g rest (Qc As.toArray) XC free := by
  have hK : vx_Back l R p e below s args y 3 8 (PreOf R mc ms Pc) (PostOf Qc mc ms free) (vx_Post XC mc ms free) := vx_callBack cw.1 hM hp.1
  obtain ⟨⟨-, -, -, -, -, -, hcode, hini, hy, hlen, hl⟩, hstt⟩ := cw
  obtain ⟨hx, hb, hml, ho, -⟩ := S
  intro T hT X
  rcases vx_callS X hx (bytes := bytes) (maxL := maxL) (ret := ret) ho hl hstt hini hcode hy hK hg (hsize.trans hml.symm) (argsL := As) (rest := rest) (fun sig h => hn.trans (hlen sig h)) hstack hW (by rw [hb]; exact hdg)
    (fun vm₁ hW₁ => ⟨hf.1, hf.2, hp.2 (T.setVm vm₁) hT hW₁⟩) with ⟨v, vm₁, ⟨U', l2, c2, s2⟩, hW₁, X', ⟨g', mk, t, L, e1, e2, hq, h1, hL, h2, h3⟩, st⟩ | ⟨q, vm₁, ⟨U', l2, c2, s2⟩, hW₁, X', ⟨g', mk, t, L, E, ce, e1, e2, hq, hce, hcv, hcl, h1, hL, h2, h3⟩, st⟩
  · dsimp only [Pt.U, Pt.locs, Pt.cells, Pt.slots] at X' e1 e2 h1 h2 h3 st
    subst h1; subst h2; subst h3
    exact Or.inl ⟨v, (T.setVm vm₁).calling g' mk As.toArray, t, U', L, hT, X', hL, e1, e2, hq, st⟩
  · dsimp only [Pt.U, Pt.locs, Pt.cells, Pt.slots] at X' e1 e2 h1 h2 h3 st hcl
    subst h1; subst h2; subst h3
    exact Or.inr ⟨q, (T.setVm vm₁).calling g' mk As.toArray, t, U', L, E, ce, hT, X', hL, e1, e2, hq, hce, hcv, vx_cls hW₁ hcl, st⟩
end Runs
section Rows
variable {p : Program} {l : Launch} {e : Env} {R : Room} {s : State} {m : MethodId} {args : Array Value} {below : List Frame} {meth : Method} {c : Code} {H : Heap} {locs : List Loc} {cells slots : Nat} {Q : State → Prop}
variable {mc ms : Nat} {free : Addr → Prop} {A0 A1 : Nat → Prop} {H0 : Heap} {a : Array Value} {pc : Nat} {ls : Array Slot} {st0 rest : List Value}
theorem vx_keep {st₀ t T' : State} {L : List Loc} (h0 : st₀.heap = H) (e1 : T'.heap = t.heap) (hS : va_S A0 H0 H locs) (hA : ∀ q, q < H.size → A1 q → A0 q) (hf : ∀ q, free q → A0 q) (hL : ∀ q ∈ L, free q.base) (hF : va_F A1 st₀ t) :
    H.size ≤ T'.heap.size ∧ (∀ q : Nat, q < H.size → ¬ A1 q → T'.heap[q]? = H[q]?) ∧ va_S A0 H0 T'.heap (locs ++ L) := by
  obtain ⟨hz, hk⟩ := hF
  rw [h0] at hz hk
  exact ⟨by rw [e1]; exact hz, fun q h1 h2 => by rw [e1]; exact hk q h1 h2,
    ⟨Nat.le_trans hS.1 (by rw [e1]; exact hz), fun q h1 h2 => by rw [e1, hk q (Nat.lt_of_lt_of_le h1 hS.1) (fun z => h2 (hA q (Nat.lt_of_lt_of_le h1 hS.1) z))]; exact hS.2.1 q h1 h2, fun q hq => by
      rcases List.mem_append.mp hq with h | h
      · exact hS.2.2 q h
      · exact hf _ (hL q h)⟩⟩
theorem vx_calli {S SX : Type} {post : Int32 → S → Prop} {px : SX → Prop} {B : S → State → Prop} {BX : String → SX → State → Prop} {AX : Nat → Prop} (hr : vx_Run p l e R s m args below meth c H locs cells slots mc ms (F0 m pc ls st0) rest (va_Qi post B A1 a) (vx_X px BX AX) free) (hS : va_S A0 H0 H locs) (hA : ∀ q, q < H.size → A1 q → A0 q) (hf : ∀ q, free q → A0 q) (hAX : ∀ q, q < H.size → AX q → A0 q)
    (kx : ∀ (E : String) (ce : Cell) (q9 : Addr) (u : SX) (t : State) (H1 : Heap) (locs1 : List Loc), t.heap = H1 → s.vm.Alike t.vm → px u → BX E u t → H.size ≤ H1.size → (∀ q : Nat, q < H.size → ¬ AX q → H1[q]? = H[q]?) → va_S A0 H0 H1 locs1 → H1[q9]? = some ce → ce.vm = .none → s.vm.findClass E = some ce.cls → vx_W p l e R s m args below meth c H1 locs1 (cells + mc) (slots + ms) Q (F0 m pc ls rest) q9)
    (kk : ∀ (r : Int32) (u : S) (t : State) (H1 : Heap) (locs1 : List Loc), t.heap = H1 → s.vm.Alike t.vm → post r u → B u t → H.size ≤ H1.size → (∀ q : Nat, q < H.size → ¬ A1 q → H1[q]? = H[q]?) → va_S A0 H0 H1 locs1 → W p l e R s m args below meth c H1 locs1 (cells + mc) (slots + ms) Q (F0 m (pc + 3) ls (.int r :: rest))) : W p l e R s m args below meth c H locs cells slots Q (F0 m pc ls st0) := by
  intro T hT X
  rcases hr T hT X with ⟨v, st₀, t, T', L, h0, X', hL, e1, e2, ⟨⟨r, u, hv, hp, hb⟩, hF⟩, st⟩ | ⟨q, st₀, t, T', L, E, ce, h0, X', hL, e1, e2, ⟨u, hp, hb, hF⟩, hce, hcv, hcl, st⟩
  · cases hv
    obtain ⟨k1, k2, k3⟩ := vx_keep h0 e1 hS hA hf hL hF
    obtain ⟨t2, a1, b1⟩ := kk r u t T'.heap (locs ++ L) e1.symm (by rw [← e2]; exact X'.warmed.alike) hp hb k1 k2 k3 T' rfl X'
    exact ⟨t2, st t2 a1, b1⟩
  · obtain ⟨k1, k2, k3⟩ := vx_keep h0 e1 hS hAX hf hL hF
    obtain ⟨t2, a1, b1⟩ := kx E ce q u t T'.heap (locs ++ L) e1.symm (by rw [← e2]; exact X'.warmed.alike) hp hb k1 k2 k3 (by rw [e1]; exact hce) hcv hcl T' rfl X'
    exact ⟨t2, st.trans a1, b1⟩
theorem vx_calll {S SX : Type} {post : Int64 → S → Prop} {px : SX → Prop} {B : S → State → Prop} {BX : String → SX → State → Prop} {AX : Nat → Prop} (hr : vx_Run p l e R s m args below meth c H locs cells slots mc ms (F0 m pc ls st0) rest (va_Ql post B A1 a) (vx_X px BX AX) free) (hS : va_S A0 H0 H locs) (hA : ∀ q, q < H.size → A1 q → A0 q) (hf : ∀ q, free q → A0 q) (hAX : ∀ q, q < H.size → AX q → A0 q)
    (kx : ∀ (E : String) (ce : Cell) (q9 : Addr) (u : SX) (t : State) (H1 : Heap) (locs1 : List Loc), t.heap = H1 → s.vm.Alike t.vm → px u → BX E u t → H.size ≤ H1.size → (∀ q : Nat, q < H.size → ¬ AX q → H1[q]? = H[q]?) → va_S A0 H0 H1 locs1 → H1[q9]? = some ce → ce.vm = .none → s.vm.findClass E = some ce.cls → vx_W p l e R s m args below meth c H1 locs1 (cells + mc) (slots + ms) Q (F0 m pc ls rest) q9)
    (kk : ∀ (r : Int64) (u : S) (t : State) (H1 : Heap) (locs1 : List Loc), t.heap = H1 → s.vm.Alike t.vm → post r u → B u t → H.size ≤ H1.size → (∀ q : Nat, q < H.size → ¬ A1 q → H1[q]? = H[q]?) → va_S A0 H0 H1 locs1 → W p l e R s m args below meth c H1 locs1 (cells + mc) (slots + ms) Q (F0 m (pc + 3) ls (.long r :: rest))) : W p l e R s m args below meth c H locs cells slots Q (F0 m pc ls st0) := by
  intro T hT X
  rcases hr T hT X with ⟨v, st₀, t, T', L, h0, X', hL, e1, e2, ⟨⟨r, u, hv, hp, hb⟩, hF⟩, st⟩ | ⟨q, st₀, t, T', L, E, ce, h0, X', hL, e1, e2, ⟨u, hp, hb, hF⟩, hce, hcv, hcl, st⟩
  · cases hv
    obtain ⟨k1, k2, k3⟩ := vx_keep h0 e1 hS hA hf hL hF
    obtain ⟨t2, a1, b1⟩ := kk r u t T'.heap (locs ++ L) e1.symm (by rw [← e2]; exact X'.warmed.alike) hp hb k1 k2 k3 T' rfl X'
    exact ⟨t2, st t2 a1, b1⟩
  · obtain ⟨k1, k2, k3⟩ := vx_keep h0 e1 hS hAX hf hL hF
    obtain ⟨t2, a1, b1⟩ := kx E ce q u t T'.heap (locs ++ L) e1.symm (by rw [← e2]; exact X'.warmed.alike) hp hb k1 k2 k3 (by rw [e1]; exact hce) hcv hcl T' rfl X'
    exact ⟨t2, st.trans a1, b1⟩
theorem vx_callf {S SX : Type} {post : UInt32 → S → Prop} {px : SX → Prop} {B : S → State → Prop} {BX : String → SX → State → Prop} {AX : Nat → Prop} (hr : vx_Run p l e R s m args below meth c H locs cells slots mc ms (F0 m pc ls st0) rest (va_Qf post B A1 a) (vx_X px BX AX) free) (hS : va_S A0 H0 H locs) (hA : ∀ q, q < H.size → A1 q → A0 q) (hf : ∀ q, free q → A0 q) (hAX : ∀ q, q < H.size → AX q → A0 q)
    (kx : ∀ (E : String) (ce : Cell) (q9 : Addr) (u : SX) (t : State) (H1 : Heap) (locs1 : List Loc), t.heap = H1 → s.vm.Alike t.vm → px u → BX E u t → H.size ≤ H1.size → (∀ q : Nat, q < H.size → ¬ AX q → H1[q]? = H[q]?) → va_S A0 H0 H1 locs1 → H1[q9]? = some ce → ce.vm = .none → s.vm.findClass E = some ce.cls → vx_W p l e R s m args below meth c H1 locs1 (cells + mc) (slots + ms) Q (F0 m pc ls rest) q9)
    (kk : ∀ (r : UInt32) (u : S) (t : State) (H1 : Heap) (locs1 : List Loc), t.heap = H1 → s.vm.Alike t.vm → post r u → B u t → H.size ≤ H1.size → (∀ q : Nat, q < H.size → ¬ A1 q → H1[q]? = H[q]?) → va_S A0 H0 H1 locs1 → W p l e R s m args below meth c H1 locs1 (cells + mc) (slots + ms) Q (F0 m (pc + 3) ls (.float r :: rest))) : W p l e R s m args below meth c H locs cells slots Q (F0 m pc ls st0) := by
  intro T hT X
  rcases hr T hT X with ⟨v, st₀, t, T', L, h0, X', hL, e1, e2, ⟨⟨r, u, hv, hp, hb⟩, hF⟩, st⟩ | ⟨q, st₀, t, T', L, E, ce, h0, X', hL, e1, e2, ⟨u, hp, hb, hF⟩, hce, hcv, hcl, st⟩
  · cases hv
    obtain ⟨k1, k2, k3⟩ := vx_keep h0 e1 hS hA hf hL hF
    obtain ⟨t2, a1, b1⟩ := kk r u t T'.heap (locs ++ L) e1.symm (by rw [← e2]; exact X'.warmed.alike) hp hb k1 k2 k3 T' rfl X'
    exact ⟨t2, st t2 a1, b1⟩
  · obtain ⟨k1, k2, k3⟩ := vx_keep h0 e1 hS hAX hf hL hF
    obtain ⟨t2, a1, b1⟩ := kx E ce q u t T'.heap (locs ++ L) e1.symm (by rw [← e2]; exact X'.warmed.alike) hp hb k1 k2 k3 (by rw [e1]; exact hce) hcv hcl T' rfl X'
    exact ⟨t2, st.trans a1, b1⟩
theorem vx_calld {S SX : Type} {post : UInt64 → S → Prop} {px : SX → Prop} {B : S → State → Prop} {BX : String → SX → State → Prop} {AX : Nat → Prop} (hr : vx_Run p l e R s m args below meth c H locs cells slots mc ms (F0 m pc ls st0) rest (va_Qd post B A1 a) (vx_X px BX AX) free) (hS : va_S A0 H0 H locs) (hA : ∀ q, q < H.size → A1 q → A0 q) (hf : ∀ q, free q → A0 q) (hAX : ∀ q, q < H.size → AX q → A0 q)
    (kx : ∀ (E : String) (ce : Cell) (q9 : Addr) (u : SX) (t : State) (H1 : Heap) (locs1 : List Loc), t.heap = H1 → s.vm.Alike t.vm → px u → BX E u t → H.size ≤ H1.size → (∀ q : Nat, q < H.size → ¬ AX q → H1[q]? = H[q]?) → va_S A0 H0 H1 locs1 → H1[q9]? = some ce → ce.vm = .none → s.vm.findClass E = some ce.cls → vx_W p l e R s m args below meth c H1 locs1 (cells + mc) (slots + ms) Q (F0 m pc ls rest) q9)
    (kk : ∀ (r : UInt64) (u : S) (t : State) (H1 : Heap) (locs1 : List Loc), t.heap = H1 → s.vm.Alike t.vm → post r u → B u t → H.size ≤ H1.size → (∀ q : Nat, q < H.size → ¬ A1 q → H1[q]? = H[q]?) → va_S A0 H0 H1 locs1 → W p l e R s m args below meth c H1 locs1 (cells + mc) (slots + ms) Q (F0 m (pc + 3) ls (.double r :: rest))) : W p l e R s m args below meth c H locs cells slots Q (F0 m pc ls st0) := by
  intro T hT X
  rcases hr T hT X with ⟨v, st₀, t, T', L, h0, X', hL, e1, e2, ⟨⟨r, u, hv, hp, hb⟩, hF⟩, st⟩ | ⟨q, st₀, t, T', L, E, ce, h0, X', hL, e1, e2, ⟨u, hp, hb, hF⟩, hce, hcv, hcl, st⟩
  · cases hv
    obtain ⟨k1, k2, k3⟩ := vx_keep h0 e1 hS hA hf hL hF
    obtain ⟨t2, a1, b1⟩ := kk r u t T'.heap (locs ++ L) e1.symm (by rw [← e2]; exact X'.warmed.alike) hp hb k1 k2 k3 T' rfl X'
    exact ⟨t2, st t2 a1, b1⟩
  · obtain ⟨k1, k2, k3⟩ := vx_keep h0 e1 hS hAX hf hL hF
    obtain ⟨t2, a1, b1⟩ := kx E ce q u t T'.heap (locs ++ L) e1.symm (by rw [← e2]; exact X'.warmed.alike) hp hb k1 k2 k3 (by rw [e1]; exact hce) hcv hcl T' rfl X'
    exact ⟨t2, st.trans a1, b1⟩
theorem vx_callv {S SX : Type} {post : S → Prop} {px : SX → Prop} {B : S → State → Prop} {BX : String → SX → State → Prop} {AX : Nat → Prop} (hr : vx_Run p l e R s m args below meth c H locs cells slots mc ms (F0 m pc ls st0) rest (va_Qv post B A1 a) (vx_X px BX AX) free) (hS : va_S A0 H0 H locs) (hA : ∀ q, q < H.size → A1 q → A0 q) (hf : ∀ q, free q → A0 q) (hAX : ∀ q, q < H.size → AX q → A0 q)
    (kx : ∀ (E : String) (ce : Cell) (q9 : Addr) (u : SX) (t : State) (H1 : Heap) (locs1 : List Loc), t.heap = H1 → s.vm.Alike t.vm → px u → BX E u t → H.size ≤ H1.size → (∀ q : Nat, q < H.size → ¬ AX q → H1[q]? = H[q]?) → va_S A0 H0 H1 locs1 → H1[q9]? = some ce → ce.vm = .none → s.vm.findClass E = some ce.cls → vx_W p l e R s m args below meth c H1 locs1 (cells + mc) (slots + ms) Q (F0 m pc ls rest) q9)
    (kk : ∀ (u : S) (t : State) (H1 : Heap) (locs1 : List Loc), t.heap = H1 → s.vm.Alike t.vm → post u → B u t → H.size ≤ H1.size → (∀ q : Nat, q < H.size → ¬ A1 q → H1[q]? = H[q]?) → va_S A0 H0 H1 locs1 → W p l e R s m args below meth c H1 locs1 (cells + mc) (slots + ms) Q (F0 m (pc + 3) ls (rest))) : W p l e R s m args below meth c H locs cells slots Q (F0 m pc ls st0) := by
  intro T hT X
  rcases hr T hT X with ⟨v, st₀, t, T', L, h0, X', hL, e1, e2, ⟨⟨u, hv, hp, hb⟩, hF⟩, st⟩ | ⟨q, st₀, t, T', L, E, ce, h0, X', hL, e1, e2, ⟨u, hp, hb, hF⟩, hce, hcv, hcl, st⟩
  · cases hv
    obtain ⟨k1, k2, k3⟩ := vx_keep h0 e1 hS hA hf hL hF
    obtain ⟨t2, a1, b1⟩ := kk u t T'.heap (locs ++ L) e1.symm (by rw [← e2]; exact X'.warmed.alike) hp hb k1 k2 k3 T' rfl X'
    exact ⟨t2, st t2 a1, b1⟩
  · obtain ⟨k1, k2, k3⟩ := vx_keep h0 e1 hS hAX hf hL hF
    obtain ⟨t2, a1, b1⟩ := kx E ce q u t T'.heap (locs ++ L) e1.symm (by rw [← e2]; exact X'.warmed.alike) hp hb k1 k2 k3 (by rw [e1]; exact hce) hcv hcl T' rfl X'
    exact ⟨t2, st.trans a1, b1⟩
/-- caught by the row x of this method's table; the rows ahead don't take it -/
theorem vx_catch {own name : String} {E : String} {ce : Cell} {q : Addr} (hown : s.vm.findClass own = some m.cls) (pre : List ExceptionTableEntry) (x : ExceptionTableEntry) (suf : List ExceptionTableEntry) (hsplit : c.exceptionTable.toList = pre ++ x :: suf)
    (hpass : ∀ z ∈ pre, covers z pc = false ∨ (z.catchType ≠ 0 ∧ ∃ nm : String, (Cond.classLink own z.catchType nm).before args s = true ∧ va_Nc E nm s)) (hx : covers x pc = true) (h0 : x.catchType ≠ 0)
    (hlink : (Cond.classLink own x.catchType name).before args s = true) (hcast : (Cond.castable E name).before args s = true) (hcell : H[q]? = some ce) (hv : ce.vm = .none) (hcl : s.vm.findClass E = some ce.cls)
    (kk : W p l e R s m args below meth c H locs cells slots Q (F0 m x.handlerPc ls [.ref q])) : vx_W p l e R s m args below meth c H locs cells slots Q (F0 m pc ls rest) q := by
  intro T hT X
  have hpl : e.platform.magicAccessors = ({} : Platform).magicAccessors := by rw [X.admits.platform]
  obtain ⟨c3, c4, hc3, hc4, hasg⟩ := Cond.castable_spec hcast
  cases Option.some.inj (hc3.symm.trans hcl)
  obtain ⟨c5, hc5, hcl5⟩ := Cond.classLink_spec hown hlink e.platform hpl
  cases Option.some.inj (hc4.symm.trans hc5)
  obtain ⟨vm', X', st⟩ := X.thenCaughtThrough q (g := F0 m pc ls rest) rfl (Steps.refl _) (by rw [hT]; exact hcell) (by rw [hv]; rfl) (by obtain ⟨k9, h9, -⟩ := Vm.findClass_spec hcl; exact ⟨k9, h9⟩) pre x suf hsplit
    (fun z hz => by
      rcases hpass z hz with h | ⟨hz0, nm, hl1, hn1⟩
      · exact Or.inl h
      · obtain ⟨c6, hc6, hcl6⟩ := Cond.classLink_spec hown hl1 e.platform hpl
        obtain ⟨a8, b8, h1, h2, h3⟩ := hn1
        cases Option.some.inj (h1.symm.trans hcl)
        cases Option.some.inj (h2.symm.trans hc6)
        exact Or.inr ⟨hz0, _, hcl6, h3⟩) hx (Or.inr ⟨h0, c4, hcl5, hasg⟩)
  obtain ⟨t, a1, b1⟩ := kk (T.setVm vm') hT X'
  exact ⟨t, st.trans a1, b1⟩
end Rows
section Ends
variable {p : Program} {l : Launch} {e : Env} {R : Room} {s : State} {m : MethodId} {args : Array Value} {below : List Frame} {meth : Method} {c : Code} {H : Heap} {locs : List Loc} {cells slots : Nat} {Q : State → Prop}
variable {mc ms : Nat} {free : Addr → Prop} {A0 A1 : Nat → Prop} {H0 : Heap} {a : Array Value} {ls : Array Slot} {st0 rest : List Value}
variable {Qc : Array Value → State → Outcome → State → Prop} {XC : String → State → State → Prop}
/-- what a body that may throw owes at its end -/
def vx_MQ (below : List Frame) (Qc : Array Value → State → Outcome → State → Prop) (XC : String → State → State → Prop) (a : Array Value) (s : State) (mc ms : Nat) (free : Addr → Prop) : State → Prop := fun t =>
  ∃ o, t.status = .running ∧ Ended t below o ∧ vx_Q Qc XC mc ms free a s o t
theorem vx_ret {g : JFrame} {mc ms : Nat} (k : W p l e R s m args below meth c H locs cells slots (MQ below Qc args s mc ms free) g) : W p l e R s m args below meth c H locs cells slots (vx_MQ below Qc XC args s mc ms free) g := by
  intro T hT X
  obtain ⟨t, a1, o, b1, b2, b3, b4⟩ := k T hT X
  exact ⟨t, a1, o, b1, b2, Or.inl ⟨b3, b4⟩⟩
/-- not caught here: it goes on to the caller -/
theorem vx_widen {g : JFrame} {q : Addr} {k n : Nat} (h1 : cells ≤ k) (h2 : slots ≤ n) (kk : vx_W p l e R s m args below meth c H locs k n Q g q) : vx_W p l e R s m args below meth c H locs cells slots Q g q := fun T hT X => kk T hT (stand_widen X h1 h2)
theorem vx_out {pc : Nat} {E : String} {ce : Cell} {q : Addr} {mc ms : Nat} (hout : ∀ x ∈ c.exceptionTable.toList, covers x pc = false) (hlocks : meth.locks = false) (hcell : H[q]? = some ce) (hv : ce.vm = .none) (hcl : s.vm.findClass E = some ce.cls)
    (hx : ∀ t : State, t.heap = H → s.vm.Alike t.vm → XC E s t) (hf : ∀ z ∈ locs, free z.base) (hc : cells ≤ mc) (hs : slots ≤ ms) :
    vx_W p l e R s m args below meth c H locs cells slots (vx_MQ below Qc XC args s mc ms free) (F0 m pc ls rest) q := by
  intro T hT X
  obtain ⟨st1, hrun, hend, hW, hsm⟩ := X.leaveThrown q (g := F0 m pc ls rest) rfl rfl rfl hout hlocks
  have hcell9 : (T.setFrames (.throwing q :: below)).heap[q]? = some ce := by
    show T.heap[q]? = some ce
    rw [hT]; exact hcell
  exact ⟨_, st1, .threw q, hrun, hend, Or.inr ⟨q, rfl, E, ce, locs, hx _ hT hW.alike, hcell9, hv, hcl, hW, hsm.mono hc hs, hf⟩⟩
theorem vx_frame {U : State} {k n : Nat} (h : s.sameButNew ({ U with vm := s.vm } : State) locs k n) : s.heap.size ≤ U.heap.size ∧ ∀ q : Nat, q < s.heap.size → (∀ z ∈ locs, z.base ≠ q) → U.heap[q]? = s.heap[q]? := by
  obtain ⟨-, h2, -, -, -, h6⟩ := h
  refine ⟨h2, fun q hq hz => ?_⟩
  obtain ⟨c9, e1, e2, e3, e4⟩ := h6 q _ (Array.getElem?_eq_getElem hq)
  have hs : c9.slots = (s.heap[q]).slots := Array.ext_getElem? fun i => e4 i fun hm => hz _ hm rfl
  have h9 : c9 = s.heap[q] := by
    rw [hs] at e2
    exact e2
  have e5 : U.heap[q]? = some c9 := e1
  rw [e5, h9, Array.getElem?_eq_getElem hq]
/-- the words of a throw but the four that speak of the heap -/
def vx_no (w : Cond) : Bool := decide (w ≠ .isRef (.static Bundle.tN "UNASSIGNED_STACK" Bundle.steD)) && decide (w ≠ .isRef (.static Bundle.tN "SUPPRESSED_SENTINEL" Bundle.listD)) && decide (w ≠ .laysStatic Bundle.tN "UNASSIGNED_STACK" Bundle.steD) && decide (w ≠ .laysStatic Bundle.tN "SUPPRESSED_SENTINEL" Bundle.listD)
def vx_at0 (own : String) (ic : Nat) (X : String) (names : List String) : List Cond := (Bundle.ownAtoms0 own ic X names).filter vx_no
def vx_atS (own : String) (ic : Nat) (X : String) (names : List String) : List Cond := (Bundle.ownAtoms own ic X names).filter vx_no
/-- a word that the tables alone decide, or a good one -/
def vx_ot (w : Cond) : Bool := w.onTables || goodWord w
theorem vx_ot_at {args a' : Array Value} {s U : State} {w : Cond} (hW : s.WarmedH U.vm) (hvm : s.vm = U.vm) (hg : vx_ot w = true) (h : w.before args s = true) : w.before a' U = true := by
  simp only [vx_ot, Bool.or_eq_true] at hg
  rcases hg with hg | hg
  · exact va_tabs hg hvm h
  · exact word_at hW (good_of_word hg) h
/-- a list's words: the good ones out of the method's own list, the others by premises of their own -/
theorem vx_hat {args : Array Value} {s : State} {L B : List Cond} (h1 : ∀ w ∈ L.filter goodWord, w.before args s = true) (h2 : ∀ w ∈ L.filter (fun w => !goodWord w), w ∈ B) (h3 : ∀ w ∈ B, w.before args s = true) : ∀ w ∈ L, w.before args s = true := by
  intro w hw
  by_cases g : goodWord w = true
  · exact h1 w (List.mem_filter.mpr ⟨hw, g⟩)
  · refine h3 w (h2 w (List.mem_filter.mpr ⟨hw, ?_⟩))
    show (!goodWord w) = true
    cases hgw : goodWord w
    · rfl
    · exact absurd hgw g
theorem vx_c {args : Array Value} {s : State} {w : Cond} {B : List Cond} (h : w.before args s = true) (t : ∀ w ∈ B, w.before args s = true) : ∀ w' ∈ w :: B, w'.before args s = true := fun w' h' => (List.mem_cons.mp h').elim (fun e => by rw [e]; exact h) (t w')
theorem vx_n {args : Array Value} {s : State} : ∀ w ∈ ([] : List Cond), w.before args s = true := fun _ h => nomatch h
theorem vx_own {args : Array Value} {s : State} {L : List Cond} (h1 : ∀ w ∈ L.filter vx_no, w.before args s = true)
    (hU : (Cond.isRef (.static Bundle.tN "UNASSIGNED_STACK" Bundle.steD)).before args s = true) (hN : (Cond.isRef (.static Bundle.tN "SUPPRESSED_SENTINEL" Bundle.listD)).before args s = true)
    (lU : (Cond.laysStatic Bundle.tN "UNASSIGNED_STACK" Bundle.steD).before args s = true) (lN : (Cond.laysStatic Bundle.tN "SUPPRESSED_SENTINEL" Bundle.listD).before args s = true) : ∀ w ∈ L, w.before args s = true := by
  intro w hw
  by_cases e1 : w = .isRef (.static Bundle.tN "UNASSIGNED_STACK" Bundle.steD)
  · rw [e1]; exact hU
  · by_cases e2 : w = .isRef (.static Bundle.tN "SUPPRESSED_SENTINEL" Bundle.listD)
    · rw [e2]; exact hN
    · by_cases e3 : w = .laysStatic Bundle.tN "UNASSIGNED_STACK" Bundle.steD
      · rw [e3]; exact lU
      · by_cases e4 : w = .laysStatic Bundle.tN "SUPPRESSED_SENTINEL" Bundle.listD
        · rw [e4]; exact lN
        · exact h1 w (List.mem_filter.mpr ⟨hw, by unfold vx_no; rw [decide_eq_true e1, decide_eq_true e2, decide_eq_true e3, decide_eq_true e4]; rfl⟩)
/-- where a static field lies, its class's statics cell in H -/
def vx_L (C n d : String) (A : Nat → Prop) (U : State) (H : Heap) : Prop := ∃ (c : ClassId) (k : Class) (i : Nat) (f : Field) (a : Nat) (cell : Cell), U.vm.findClass C = some c ∧ U.fieldFound? C n d = some (c, k, i, f) ∧ f.isStatic = true ∧ k.statics = some a ∧ H[a]? = some cell ∧ cell.vm.isStatics = true ∧ cell.cls = c ∧ f.slot < cell.slots.size ∧ k.staticTypes[f.slot]? = some f.type ∧ ¬ A a
theorem vx_L.moved {C n d : String} {A : Nat → Prop} {u U : State} {H : Heap} (hvm : u.vm.Alike U.vm) (h : vx_L C n d A u H) : vx_L C n d A U H := by
  obtain ⟨c, k, i, f, a, cell, h1, h2, h3, h4, h5, h6, h7, h8, h9, h10⟩ := h
  obtain ⟨k', hi', he⟩ := State.fieldFound?_setVm hvm h2
  exact ⟨c, k', i, f, a, cell, by rw [hvm.findClass]; exact h1, hi', h3, by rw [he]; exact h4, h5, h6, h7, h8, by rw [he]; exact h9, h10⟩
theorem vx_L.kept {C n d : String} {A : Nat → Prop} {U : State} {H H1 : Heap} (h : vx_L C n d A U H) (hq : ∀ a : Nat, a < H.size → ¬ A a → H1[a]? = H[a]?) : vx_L C n d A U H1 := by
  obtain ⟨c, k, i, f, a, cell, h1, h2, h3, h4, h5, h6, h7, h8, h9, h10⟩ := h
  exact ⟨c, k, i, f, a, cell, h1, h2, h3, h4, by rw [hq a (Array.getElem?_eq_some_iff.mp h5).1 h10]; exact h5, h6, h7, h8, h9, h10⟩
theorem vx_L.narrow {C n d : String} {A B : Nat → Prop} {U : State} {H : Heap} (h : vx_L C n d A U H) (hAB : ∀ q, B q → A q) : vx_L C n d B U H := by
  obtain ⟨c, k, i, f, a, cell, h1, h2, h3, h4, h5, h6, h7, h8, h9, h10⟩ := h
  exact ⟨c, k, i, f, a, cell, h1, h2, h3, h4, h5, h6, h7, h8, h9, fun z => h10 (hAB _ z)⟩
theorem vx_L.word {C n d : String} {A : Nat → Prop} {s : State} {args : Array Value} (h : vx_L C n d A s s.heap) : (Cond.laysStatic C n d).before args s = true := by
  obtain ⟨c, k, i, f, a, cell, h1, h2, h3, h4, h5, h6, h7, h8, h9, -⟩ := h
  show (Cond.laysStatic C n d).holds args s none s [] = true
  exact Cond.laysStatic_of h1 h2 h3 h4 h5 h6 h7 h8 h9
/-- .. and what it holds: null or some reference -/
def vx_Zq (C n d : String) (A : Nat → Prop) (U : State) (H : Heap) : Prop := va_Zq C n d A U H ∧ vx_L C n d A U H
theorem vx_Zq.moved {C n d : String} {A : Nat → Prop} {u U : State} {H : Heap} (hvm : u.vm.Alike U.vm) (h : vx_Zq C n d A u H) : vx_Zq C n d A U H := ⟨va_Zq.moved hvm h.1, vx_L.moved hvm h.2⟩
theorem vx_Zq.kept {C n d : String} {A : Nat → Prop} {U : State} {H H1 : Heap} (h : vx_Zq C n d A U H) (hq : ∀ a : Nat, a < H.size → ¬ A a → H1[a]? = H[a]?) : vx_Zq C n d A U H1 := ⟨va_Zq.kept h.1 hq, vx_L.kept h.2 hq⟩
theorem vx_Zq.narrow {C n d : String} {A B : Nat → Prop} {U : State} {H : Heap} (h : vx_Zq C n d A U H) (hAB : ∀ q, B q → A q) : vx_Zq C n d B U H := ⟨va_Zq.narrow h.1 hAB, vx_L.narrow h.2 hAB⟩
theorem vx_Zqof {args : Array Value} {s : State} {C n d : String} {A : Nat → Prop} (hl : (Cond.laysStatic C n d).before args s = true) (hini : (Cond.initialized C).before args s = true) (h : (Cond.isRef (.static C n d)).before args s = true) (hA : ∀ a : Nat, a < s.heap.size → ¬ A a) : vx_Zq C n d A s s.heap := by
  refine ⟨va_Zqof hl hini h hA, ?_⟩
  obtain ⟨c, k, i, f, a, cell, h1, h2, h3, h4, h5, h6, h7, h8, h9⟩ := Cond.laysStatic_spec hl
  exact ⟨c, k, i, f, a, cell, h1, h2, h3, h4, h5, h6, h7, h8, h9, hA a (Array.getElem?_eq_some_iff.mp h5).1⟩
theorem vx_isRef {C n d : String} {v : Value} {A : Nat → Prop} {s : State} {args : Array Value} (h : va_Z C n d v A s s.heap) (hv : v.isRef = true) : (Cond.isRef (.static C n d)).before args s = true := by
  obtain ⟨cf, kf, fi, f, a, cell, h1, h2, h3, h4, h5, h6, h7, -⟩ := h
  have he : (Term.static C n d).eval args s none [] s = some v := by
    simp [Term.eval, State.fieldNamed?, h1, h2, h4, h5, h6, h7]
  simp only [Cond.before, Cond.holds, Cond.value, he]
  cases v <;> simp_all [Value.isRef]
theorem vx_isRefq {C n d : String} {A : Nat → Prop} {s : State} {args : Array Value} (h : va_Zq C n d A s s.heap) : (Cond.isRef (.static C n d)).before args s = true := by
  rcases h with h | ⟨t, h⟩
  · exact vx_isRef h rfl
  · exact vx_isRef h rfl
/-- the same frame, seen from here: as if the method were called anew in this heap -/
theorem vx_rebase {T : State} (X : Stand p l e R s m args below meth c T locs cells slots) {R' : Room} (hf : R'.frames ≤ R.frames) (hl : R'.locals ≤ R.locals) (hc : cells + R'.cells ≤ R.cells) (hs : slots + R'.slots ≤ R.slots) :
    Stand p l e R' ((T.setVm s.vm).setFrames (.invoking m args :: below)) m args below meth c T [] 0 0 := by
  have htop : (T.setVm s.vm).topJava?.isSome := X.here.top
  have hF : ((T.setVm s.vm).setFrames (.invoking m args :: below)).frames = .invoking m args :: below := State.frames_setFrames _ (State.cur_lt_of_top htop)
  obtain ⟨g₀, hg0⟩ := Option.isSome_iff_exists.mp htop
  obtain ⟨r, hr⟩ := State.topJava?_eq_some.mp hg0
  have hl9 : e.platform.stackLimits (T.setVm s.vm).me = e.platform.stackLimits s.me := X.limits
  have hb9 : (T.setVm s.vm).me.stackBytes = s.me.stackBytes := X.bytes
  refine ⟨X.admits, X.cas, X.clock, hF, ?_, X.hears, X.method, X.code, X.here, X.tail, X.warmed, ?_, ?_, ?_⟩
  · have h := X.room
    have hU : ((T.setVm s.vm).setFrames (.invoking m args :: below)).localsInUse = s.localsInUse := by
      rw [State.localsInUse_invoking hF (meth := meth) (c := c) X.method X.code, State.localsInUse_invoking X.frames X.method X.code]
    simp only [State.hasRoom, Bool.and_eq_true, decide_eq_true_eq] at h ⊢
    obtain ⟨⟨⟨⟨h1, h2, h3, h4, h5, h6⟩, h7⟩, h8⟩, h9⟩ := h
    rw [X.frames, List.length_cons] at h2 h3
    have q1 := X.heapSize
    have q2 := X.used
    simp only [hF, hU, List.length_cons, State.stackLimits_setFrames, State.stackBytes_setFrames, hl9, hb9]
    refine ⟨⟨⟨⟨by omega, by omega, by omega, by omega, by omega, h6⟩, ?_⟩, ?_⟩, X.book⟩
    · show T.heap.size + R'.cells ≤ e.platform.maxCells
      omega
    · show T.slotsUsed + R'.slots ≤ e.platform.maxSlots
      omega
  · rw [State.stackLimits_setFrames]; rfl
  · rw [State.stackBytes_setFrames]; rfl
  · refine ⟨?_, Nat.le_refl _, Nat.le_refl _, ?_, ?_, fun a c9 h9 => ⟨c9, h9, rfl, rfl, fun _ _ => rfl⟩⟩
    · obtain ⟨t, ht, -⟩ := State.frames_cons hr
      show T.setVm s.vm = { ((T.setVm s.vm).setFrames (.invoking m args :: below)).setFrames (T.setVm s.vm).frames with heap := T.heap, slotsUsed := T.slotsUsed }
      rw [State.setFrames_setFrames, State.setFrames_self ht]
      rfl
    · show T.slotsUsed = T.slotsUsed + ((T.heap.toList.drop T.heap.size).map (·.slots.size)).sum
      rw [List.drop_eq_nil_of_le (Nat.le_of_eq Array.length_toList)]
      rfl
    · show ((T.heap.toList.drop T.heap.size).map (·.slots.size)).sum ≤ 0
      rw [List.drop_eq_nil_of_le (Nat.le_of_eq Array.length_toList)]
      exact Nat.le_refl _
/-- 'throw new E()': new; dup; invokespecial; athrow -/
theorem vx_throw0 {cc : ByteArray} {pc : Nat} (hexec : p.tables.exec = Jvm.exec) (hb : c.code = cc) (hl : l.stackTraces = false) {own cls : String} {names : List String} {ik ic mc ms : Nat} {A : Nat → Prop}
    (hown : s.vm.findClass own = some m.cls) (hcls : Bundle.fit cls = true) (hnames : ∀ n ∈ names, Bundle.fit n = true)
    (hk : (Cond.classLink own ik cls).before args s = true) (hini : (Cond.initialized cls).before args s = true) (hat : ∀ w ∈ vx_at0 own ic cls names, w.before args s = true)
    (hgood : ∀ w ∈ Cond.classLink own ik cls :: Cond.initialized cls :: vx_at0 own ic cls names, vx_ot w = true)
    (hU : vx_Zq Bundle.tN "UNASSIGNED_STACK" Bundle.steD A s s.heap) (hN : vx_Zq Bundle.tN "SUPPRESSED_SENTINEL" Bundle.listD A s s.heap) (hS : va_S A s.heap H locs) (hsize : ls.size = c.maxLocals)
    (d0 : decode cc pc = .ok (.new ik, 3)) (d3 : decode cc (pc + 3) = .ok (.dup, 1)) (d4 : decode cc (pc + 4) = .ok (.invokespecial ic, 3)) (d7 : decode cc (pc + 7) = .ok (.athrow, 1))
    (hout : ∀ x ∈ c.exceptionTable.toList, covers x (pc + 7) = false)
    (hRframes : names.length + 3 < R.frames) (hRlocals : (rest.map fun v => v.category).sum + (13 * (names.length + 1) + 42) ≤ R.locals) (hRcells : cells + 1 ≤ R.cells) (hRslots : slots + 6 ≤ R.slots) (hlocks : meth.locks = false)
    (hx : ∀ t : State, s.vm.Alike t.vm → H.size ≤ t.heap.size → (∀ q : Nat, q < H.size → t.heap[q]? = H[q]?) → XC cls s t)
    (hf : ∀ z ∈ locs, free z.base) (hc : cells + 1 ≤ mc) (hs : slots + 6 ≤ ms) :
    W p l e R s m args below meth c H locs cells slots (vx_MQ below Qc XC args s mc ms free) (F0 m pc ls rest) := by
  intro T hT X
  have htr : e.platform.stackTraces = false := (show e.platform.stackTraces = l.stackTraces by rw [X.admits.platform]).trans hl
  have Y := vx_rebase X (R' := { frames := R.frames, locals := R.locals, cells := 1, slots := 6 }) (Nat.le_refl _) (Nat.le_refl _) hRcells hRslots
  obtain ⟨s', hA⟩ : ∃ z, z = (T.setVm s.vm).setFrames (.invoking m args :: below) := ⟨_, rfl⟩
  rw [← hA] at Y
  have hvm : s'.vm = s.vm := by rw [hA]; rfl
  have hhp : s'.heap = H := by rw [hA]; exact hT
  have hW0 : s.WarmedH s'.vm := by rw [hvm]; exact State.WarmedH.refl s
  have hat' : ∀ w ∈ vx_at0 own ic cls names, w.before args s' = true := fun w hw => vx_ot_at hW0 hvm.symm (hgood w (List.mem_cons_of_mem _ (List.mem_cons_of_mem _ hw))) (hat w hw)
  have hk' : (Cond.classLink own ik cls).before args s' = true := vx_ot_at hW0 hvm.symm (hgood _ List.mem_cons_self) hk
  have hini' : (Cond.initialized cls).before args s' = true := vx_ot_at hW0 hvm.symm (hgood _ (List.mem_cons_of_mem _ List.mem_cons_self)) hini
  have hU' : vx_Zq Bundle.tN "UNASSIGNED_STACK" Bundle.steD A s' s'.heap := by rw [hhp]; exact vx_Zq.moved hW0.alike (hU.kept hS.2.1)
  have hN' : vx_Zq Bundle.tN "SUPPRESSED_SENTINEL" Bundle.listD A s' s'.heap := by rw [hhp]; exact vx_Zq.moved hW0.alike (hN.kept hS.2.1)
  have h : ∀ w ∈ Bundle.ownAtoms0 own ic cls names, w.before args s' = true := vx_own hat' (vx_isRefq hU'.1) (vx_isRefq hN'.1) hU'.2.word hN'.2.word
  have hown' : s'.vm.findClass own = some m.cls := by rw [hvm]; exact hown
  have hins : (Cond.instantiable cls 6).before args s' = true := h _ (by simp [Bundle.ownAtoms0])
  obtain ⟨vm₁, cX, kX, hfX, hkX, -, -, X₁, st1⟩ := Y.newCold hexec (own := own) (C := cls) (index := ik) (n := 6) hown' hk' hins hini'
    (g := F0 m pc ls rest) rfl (by rw [hb]; exact d0) (Nat.le_refl _) (Nat.le_refl _)
  generalize hT1 : (T.setVm vm₁).pushCell { cls := cX, slots := kX.instanceTypes.map defaultValue, vm := .none } = T1 at X₁ st1
  have hcat : (Value.ref T.heap.size).category = 1 := rfl
  have hcellA : T1.heap[T.heap.size]? = some (freshCell cX kX) := by rw [← hT1]; exact State.heap_pushCell_size _ _
  have d3' : decode c.code (pc + 3) = .ok (.dup, 1) := by rw [hb]; exact d3
  obtain ⟨U, hsteps, hrun, hend, hW, hsame, ce, hce, hO⟩ := X₁.ctorThrow0 hexec htr (own := own) (cls := cls) (names := names) (ic := ic) hown' hcls hnames h (fun x hx => nomatch hx) hfX hkX hcellA (by rw [hhp, hT]; exact Nat.le_refl _)
    (g := { method := m, pc := pc + 4, locals := ls, stack := .ref T.heap.size :: .ref T.heap.size :: rest, locked := none }) rfl hsize rfl rfl (rest := rest) rfl
    (by rw [hb]; exact d4) (by rw [hb]; exact d7) hout hRframes (by simp only [List.map_cons, List.sum_cons, hcat]; omega) hlocks
  obtain ⟨f1, f2⟩ := vx_frame hsame
  rw [hhp] at f1 f2
  have hWs : s.WarmedH U.vm := State.WarmedH.trans hW0 hW
  have hcl : s.vm.findClass cls = some ce.cls := by
    have h9 := hO.cls
    rw [hvm] at h9
    exact h9
  have hall : s.sameButNew ({ U with vm := s.vm } : State) locs mc ms := by
    subst hA
    obtain ⟨e1, e2⟩ := hsame
    rw [State.setFrames_setFrames] at e1
    have h2 : (T.setVm s.vm).sameButNew ({ U with vm := s.vm } : State) [] (0 + 1) (0 + 6) := ⟨e1, e2⟩
    have h3 := X.same.trans h2
    rw [List.append_nil] at h3
    exact h3.mono hc hs
  refine ⟨U, ?_, .threw T.heap.size, hrun, hend, Or.inr ⟨T.heap.size, rfl, cls, ce, locs, hx U hWs.alike f1 (fun q hq => f2 q hq (fun z hz => nomatch hz)), hce, hO.vm, hcl, hWs, hall, hf⟩⟩
  refine st1 _ ?_
  show Steps p.tables e below (T1.setTop { method := m, pc := pc + 3, locals := ls, stack := .ref T.heap.size :: rest, locked := none }) _
  jvm_step X₁.here [X₁.here.top, hexec, d3', Value.category]
  exact hsteps
/-- 'throw new E("text")': new; dup; ldc; invokespecial; athrow -/
theorem vx_throwS {cc : ByteArray} {pc : Nat} (hexec : p.tables.exec = Jvm.exec) (hb : c.code = cc) (hl : l.stackTraces = false) {own cls text : String} {names : List String} {ik is ic mc ms sa : Nat} {A : Nat → Prop}
    (hown : s.vm.findClass own = some m.cls) (hcls : Bundle.fit cls = true) (hnames : ∀ n ∈ names, Bundle.fit n = true)
    (hk : (Cond.classLink own ik cls).before args s = true) (hini : (Cond.initialized cls).before args s = true) (hstr : vk_R own is text sa s) (hat : ∀ w ∈ vx_atS own ic cls names, w.before args s = true)
    (hgood : ∀ w ∈ Cond.classLink own ik cls :: Cond.initialized cls :: vx_atS own ic cls names, vx_ot w = true)
    (hU : vx_Zq Bundle.tN "UNASSIGNED_STACK" Bundle.steD A s s.heap) (hN : vx_Zq Bundle.tN "SUPPRESSED_SENTINEL" Bundle.listD A s s.heap) (hS : va_S A s.heap H locs) (hsize : ls.size = c.maxLocals)
    (d0 : decode cc pc = .ok (.new ik, 3)) (d3 : decode cc (pc + 3) = .ok (.dup, 1)) (d4 : decode cc (pc + 4) = .ok (.ldc is, 2)) (d6 : decode cc (pc + 6) = .ok (.invokespecial ic, 3)) (d9 : decode cc (pc + 9) = .ok (.athrow, 1))
    (hout : ∀ x ∈ c.exceptionTable.toList, covers x (pc + 9) = false)
    (hRframes : names.length + 3 < R.frames) (hRlocals : (rest.map fun v => v.category).sum + (13 * (names.length + 1) + 43) ≤ R.locals) (hRcells : cells + 1 ≤ R.cells) (hRslots : slots + 6 ≤ R.slots) (hlocks : meth.locks = false)
    (hx : ∀ t : State, s.vm.Alike t.vm → H.size ≤ t.heap.size → (∀ q : Nat, q < H.size → t.heap[q]? = H[q]?) → XC cls s t)
    (hf : ∀ z ∈ locs, free z.base) (hc : cells + 1 ≤ mc) (hs : slots + 6 ≤ ms) :
    W p l e R s m args below meth c H locs cells slots (vx_MQ below Qc XC args s mc ms free) (F0 m pc ls rest) := by
  intro T hT X
  have htr : e.platform.stackTraces = false := (show e.platform.stackTraces = l.stackTraces by rw [X.admits.platform]).trans hl
  have Y := vx_rebase X (R' := { frames := R.frames, locals := R.locals, cells := 1, slots := 6 }) (Nat.le_refl _) (Nat.le_refl _) hRcells hRslots
  obtain ⟨s', hA⟩ : ∃ z, z = (T.setVm s.vm).setFrames (.invoking m args :: below) := ⟨_, rfl⟩
  rw [← hA] at Y
  have hvm : s'.vm = s.vm := by rw [hA]; rfl
  have hhp : s'.heap = H := by rw [hA]; exact hT
  have hW0 : s.WarmedH s'.vm := by rw [hvm]; exact State.WarmedH.refl s
  have hat' : ∀ w ∈ vx_atS own ic cls names, w.before args s' = true := fun w hw => vx_ot_at hW0 hvm.symm (hgood w (List.mem_cons_of_mem _ (List.mem_cons_of_mem _ hw))) (hat w hw)
  have hk' : (Cond.classLink own ik cls).before args s' = true := vx_ot_at hW0 hvm.symm (hgood _ List.mem_cons_self) hk
  have hini' : (Cond.initialized cls).before args s' = true := vx_ot_at hW0 hvm.symm (hgood _ (List.mem_cons_of_mem _ List.mem_cons_self)) hini
  have hU' : vx_Zq Bundle.tN "UNASSIGNED_STACK" Bundle.steD A s' s'.heap := by rw [hhp]; exact vx_Zq.moved hW0.alike (hU.kept hS.2.1)
  have hN' : vx_Zq Bundle.tN "SUPPRESSED_SENTINEL" Bundle.listD A s' s'.heap := by rw [hhp]; exact vx_Zq.moved hW0.alike (hN.kept hS.2.1)
  have h : ∀ w ∈ Bundle.ownAtoms own ic cls names, w.before args s' = true := vx_own hat' (vx_isRefq hU'.1) (vx_isRefq hN'.1) hU'.2.word hN'.2.word
  have hown' : s'.vm.findClass own = some m.cls := by rw [hvm]; exact hown
  have hins : (Cond.instantiable cls 6).before args s' = true := h _ (by simp [Bundle.ownAtoms])
  obtain ⟨vm₁, cX, kX, hfX, hkX, -, -, X₁, st1⟩ := Y.newCold hexec (own := own) (C := cls) (index := ik) (n := 6) hown' hk' hins hini'
    (g := F0 m pc ls rest) rfl (by rw [hb]; exact d0) (Nat.le_refl _) (Nat.le_refl _)
  generalize hT1 : (T.setVm vm₁).pushCell { cls := cX, slots := kX.instanceTypes.map defaultValue, vm := .none } = T1 at X₁ st1
  have hcat : (Value.ref T.heap.size).category = 1 := rfl
  have hcellA : T1.heap[T.heap.size]? = some (freshCell cX kX) := by rw [← hT1]; exact State.heap_pushCell_size _ _
  have d3' : decode c.code (pc + 3) = .ok (.dup, 1) := by rw [hb]; exact d3
  have d4' : decode c.code (pc + 4) = .ok (.ldc is, 2) := by rw [hb]; exact d4
  have hstr' : vk_R own is text sa s' := vk_R.warm hW0 hstr
  obtain ⟨U, hsteps, hrun, hend, hW, hsame, ce, hce, hO⟩ := X₁.ctorThrowS hexec htr (own := own) (cls := cls) (names := names) (ic := ic) hown' hcls hnames h (fun x hx => nomatch hx) hfX hkX hcellA (by rw [hhp, hT]; exact Nat.le_refl _) (msg := .ref sa) rfl
    (g := { method := m, pc := pc + 6, locals := ls, stack := .ref sa :: .ref T.heap.size :: .ref T.heap.size :: rest, locked := none }) rfl hsize rfl rfl (rest := rest) rfl
    (by rw [hb]; exact d6) (by rw [hb]; exact d9) hout hRframes (by simp only [List.map_cons, List.sum_cons, hcat]; omega) hlocks
  obtain ⟨f1, f2⟩ := vx_frame hsame
  rw [hhp] at f1 f2
  have hWs : s.WarmedH U.vm := State.WarmedH.trans hW0 hW
  have hcl : s.vm.findClass cls = some ce.cls := by
    have h9 := hO.cls
    rw [hvm] at h9
    exact h9
  have hall : s.sameButNew ({ U with vm := s.vm } : State) locs mc ms := by
    subst hA
    obtain ⟨e1, e2⟩ := hsame
    rw [State.setFrames_setFrames] at e1
    have h2 : (T.setVm s.vm).sameButNew ({ U with vm := s.vm } : State) [] (0 + 1) (0 + 6) := ⟨e1, e2⟩
    have h3 := X.same.trans h2
    rw [List.append_nil] at h3
    exact h3.mono hc hs
  refine ⟨U, ?_, .threw T.heap.size, hrun, hend, Or.inr ⟨T.heap.size, rfl, cls, ce, locs, hx U hWs.alike f1 (fun q hq => f2 q hq (fun z hz => nomatch hz)), hce, hO.vm, hcl, hWs, hall, hf⟩⟩
  refine st1 _ ?_
  show Steps p.tables e below (T1.setTop { method := m, pc := pc + 3, locals := ls, stack := .ref T.heap.size :: rest, locked := none }) _
  jvm_step X₁.here [X₁.here.top, hexec, d3', Value.category]
  exact X₁.ldcString hexec (own := own) (text := text) (index := is) (a := sa) hown' hstr'.1 hstr'.2
    (g := { method := m, pc := pc + 4, locals := ls, stack := .ref T.heap.size :: .ref T.heap.size :: rest, locked := none }) rfl d4' _ hsteps
/-- 'throw new E("text")', the text by a wide index -/
theorem vx_throwSW {cc : ByteArray} {pc : Nat} (hexec : p.tables.exec = Jvm.exec) (hb : c.code = cc) (hl : l.stackTraces = false) {own cls text : String} {names : List String} {ik is ic mc ms sa : Nat} {A : Nat → Prop}
    (hown : s.vm.findClass own = some m.cls) (hcls : Bundle.fit cls = true) (hnames : ∀ n ∈ names, Bundle.fit n = true)
    (hk : (Cond.classLink own ik cls).before args s = true) (hini : (Cond.initialized cls).before args s = true) (hstr : vk_R own is text sa s) (hat : ∀ w ∈ vx_atS own ic cls names, w.before args s = true)
    (hgood : ∀ w ∈ Cond.classLink own ik cls :: Cond.initialized cls :: vx_atS own ic cls names, vx_ot w = true)
    (hU : vx_Zq Bundle.tN "UNASSIGNED_STACK" Bundle.steD A s s.heap) (hN : vx_Zq Bundle.tN "SUPPRESSED_SENTINEL" Bundle.listD A s s.heap) (hS : va_S A s.heap H locs) (hsize : ls.size = c.maxLocals)
    (d0 : decode cc pc = .ok (.new ik, 3)) (d3 : decode cc (pc + 3) = .ok (.dup, 1)) (d4 : decode cc (pc + 4) = .ok (.ldc_w is, 3)) (d7 : decode cc (pc + 7) = .ok (.invokespecial ic, 3)) (d10 : decode cc (pc + 10) = .ok (.athrow, 1))
    (hout : ∀ x ∈ c.exceptionTable.toList, covers x (pc + 10) = false)
    (hRframes : names.length + 3 < R.frames) (hRlocals : (rest.map fun v => v.category).sum + (13 * (names.length + 1) + 43) ≤ R.locals) (hRcells : cells + 1 ≤ R.cells) (hRslots : slots + 6 ≤ R.slots) (hlocks : meth.locks = false)
    (hx : ∀ t : State, s.vm.Alike t.vm → H.size ≤ t.heap.size → (∀ q : Nat, q < H.size → t.heap[q]? = H[q]?) → XC cls s t)
    (hf : ∀ z ∈ locs, free z.base) (hc : cells + 1 ≤ mc) (hs : slots + 6 ≤ ms) :
    W p l e R s m args below meth c H locs cells slots (vx_MQ below Qc XC args s mc ms free) (F0 m pc ls rest) := by
  intro T hT X
  have htr : e.platform.stackTraces = false := (show e.platform.stackTraces = l.stackTraces by rw [X.admits.platform]).trans hl
  have Y := vx_rebase X (R' := { frames := R.frames, locals := R.locals, cells := 1, slots := 6 }) (Nat.le_refl _) (Nat.le_refl _) hRcells hRslots
  obtain ⟨s', hA⟩ : ∃ z, z = (T.setVm s.vm).setFrames (.invoking m args :: below) := ⟨_, rfl⟩
  rw [← hA] at Y
  have hvm : s'.vm = s.vm := by rw [hA]; rfl
  have hhp : s'.heap = H := by rw [hA]; exact hT
  have hW0 : s.WarmedH s'.vm := by rw [hvm]; exact State.WarmedH.refl s
  have hat' : ∀ w ∈ vx_atS own ic cls names, w.before args s' = true := fun w hw => vx_ot_at hW0 hvm.symm (hgood w (List.mem_cons_of_mem _ (List.mem_cons_of_mem _ hw))) (hat w hw)
  have hk' : (Cond.classLink own ik cls).before args s' = true := vx_ot_at hW0 hvm.symm (hgood _ List.mem_cons_self) hk
  have hini' : (Cond.initialized cls).before args s' = true := vx_ot_at hW0 hvm.symm (hgood _ (List.mem_cons_of_mem _ List.mem_cons_self)) hini
  have hU' : vx_Zq Bundle.tN "UNASSIGNED_STACK" Bundle.steD A s' s'.heap := by rw [hhp]; exact vx_Zq.moved hW0.alike (hU.kept hS.2.1)
  have hN' : vx_Zq Bundle.tN "SUPPRESSED_SENTINEL" Bundle.listD A s' s'.heap := by rw [hhp]; exact vx_Zq.moved hW0.alike (hN.kept hS.2.1)
  have h : ∀ w ∈ Bundle.ownAtoms own ic cls names, w.before args s' = true := vx_own hat' (vx_isRefq hU'.1) (vx_isRefq hN'.1) hU'.2.word hN'.2.word
  have hown' : s'.vm.findClass own = some m.cls := by rw [hvm]; exact hown
  have hins : (Cond.instantiable cls 6).before args s' = true := h _ (by simp [Bundle.ownAtoms])
  obtain ⟨vm₁, cX, kX, hfX, hkX, -, -, X₁, st1⟩ := Y.newCold hexec (own := own) (C := cls) (index := ik) (n := 6) hown' hk' hins hini'
    (g := F0 m pc ls rest) rfl (by rw [hb]; exact d0) (Nat.le_refl _) (Nat.le_refl _)
  generalize hT1 : (T.setVm vm₁).pushCell { cls := cX, slots := kX.instanceTypes.map defaultValue, vm := .none } = T1 at X₁ st1
  have hcat : (Value.ref T.heap.size).category = 1 := rfl
  have hcellA : T1.heap[T.heap.size]? = some (freshCell cX kX) := by rw [← hT1]; exact State.heap_pushCell_size _ _
  have d3' : decode c.code (pc + 3) = .ok (.dup, 1) := by rw [hb]; exact d3
  have d4' : decode c.code (pc + 4) = .ok (.ldc_w is, 3) := by rw [hb]; exact d4
  have hstr' : vk_R own is text sa s' := vk_R.warm hW0 hstr
  obtain ⟨U, hsteps, hrun, hend, hW, hsame, ce, hce, hO⟩ := X₁.ctorThrowS hexec htr (own := own) (cls := cls) (names := names) (ic := ic) hown' hcls hnames h (fun x hx => nomatch hx) hfX hkX hcellA (by rw [hhp, hT]; exact Nat.le_refl _) (msg := .ref sa) rfl
    (g := { method := m, pc := pc + 7, locals := ls, stack := .ref sa :: .ref T.heap.size :: .ref T.heap.size :: rest, locked := none }) rfl hsize rfl rfl (rest := rest) rfl
    (by rw [hb]; exact d7) (by rw [hb]; exact d10) hout hRframes (by simp only [List.map_cons, List.sum_cons, hcat]; omega) hlocks
  obtain ⟨f1, f2⟩ := vx_frame hsame
  rw [hhp] at f1 f2
  have hWs : s.WarmedH U.vm := State.WarmedH.trans hW0 hW
  have hcl : s.vm.findClass cls = some ce.cls := by
    have h9 := hO.cls
    rw [hvm] at h9
    exact h9
  have hall : s.sameButNew ({ U with vm := s.vm } : State) locs mc ms := by
    subst hA
    obtain ⟨e1, e2⟩ := hsame
    rw [State.setFrames_setFrames] at e1
    have h2 : (T.setVm s.vm).sameButNew ({ U with vm := s.vm } : State) [] (0 + 1) (0 + 6) := ⟨e1, e2⟩
    have h3 := X.same.trans h2
    rw [List.append_nil] at h3
    exact h3.mono hc hs
  refine ⟨U, ?_, .threw T.heap.size, hrun, hend, Or.inr ⟨T.heap.size, rfl, cls, ce, locs, hx U hWs.alike f1 (fun q hq => f2 q hq (fun z hz => nomatch hz)), hce, hO.vm, hcl, hWs, hall, hf⟩⟩
  refine st1 _ ?_
  show Steps p.tables e below (T1.setTop { method := m, pc := pc + 3, locals := ls, stack := .ref T.heap.size :: rest, locked := none }) _
  jvm_step X₁.here [X₁.here.top, hexec, d3', Value.category]
  exact X₁.ldcStringW hexec (own := own) (text := text) (index := is) (a := sa) hown' hstr'.1 hstr'.2
    (g := { method := m, pc := pc + 4, locals := ls, stack := .ref T.heap.size :: .ref T.heap.size :: rest, locked := none }) rfl d4' _ hsteps
end Ends
section Bodies
variable {l : Launch}
theorem vx_ofW {y : MethodName} {ws ws' : List Cond} {rm : Room} {Pc : Array Value → State → Prop} {Qc : Array Value → State → Outcome → State → Prop} {XC : String → State → State → Prop} {mc ms : Nat} {free : Addr → Prop} {cc : ByteArray} {maxL : Nat} {ret : Option FieldType}
    (hy : plainName y.cls = true) (hw : ws = Cond.code y cc maxL ret :: ws')
    (body : ∀ p e s m args below meth c s₁, BodyLoose p l y (headSpec ws rm) cc maxL ret e s m args below meth c s₁ → c.maxLocals = maxL → (∀ x ∈ c.exceptionTable.toList, False) → Pc args s →
      W p l e (headSpec ws rm).room s m args below meth c s.heap [] 0 0 (vx_MQ below Qc XC args s mc ms free) (entryFrame m args maxL)) : vx_Met l y ws rm Pc Qc XC mc ms free := by
  refine MetFree.of_bodyS (code := cc) (maxLocals := maxL) (ret := ret) hy ?_ ?_
  · intro args s m h hn
    obtain ⟨meth, c, h1, h2, h3, h4, h5, h6, -, -⟩ := Cond.code_spec hn (atoms_spec (ws := ws) h _ (by rw [hw]; exact List.mem_cons_self))
    exact ⟨meth, c, h1, h2, h3, h4, h5, h6⟩
  · intro p e s m args below meth c s₁ B hml hP _
    have hh0 : s₁.heap = s.heap := by rw [B.state]; rfl
    have ht : ∀ x ∈ c.exceptionTable.toList, False := by
      obtain ⟨meth9, c9, h1, h2, -, -, -, -, h7, -⟩ := Cond.code_spec B.named (atoms_spec (ws := ws) B.pre _ (by rw [hw]; exact List.mem_cons_self))
      cases Option.some.inj (h1.symm.trans B.method)
      cases Option.some.inj (h2.symm.trans (Stand.of_body B).code)
      intro x hx
      rw [Array.isEmpty_iff.mp h7] at hx
      cases hx
    obtain ⟨t, a1, o, b1, b2, b3⟩ := body p e s m args below meth c s₁ B hml ht hP s₁ hh0 (Stand.of_body B)
    exact ⟨t, o, a1, b1, b2, b3⟩
/-- the table of a body with handlers -/
theorem vx_table {p : Program} {x y : MethodName} {S : Spec} {cc bytes : ByteArray} {maxL maxL' : Nat} {ret ret' : Option FieldType} {e : Env} {s s₁ : State} {m : MethodId} {args : Array Value} {below : List Frame} {meth : Method} {c : Code} {hh : List (Nat × Nat × Nat × Nat)}
    (B : BodyLoose p l y S cc maxL ret e s m args below meth c s₁) (h : (Cond.codeWith y bytes maxL' ret' hh).before args s = true) : c.exceptionTable.toList = tableOf hh := by
  obtain ⟨m9, meth9, c9, hn9, h1, h2, -, -, h6, -⟩ := Cond.codeWith_spec h
  cases Option.some.inj (hn9.symm.trans B.named)
  cases Option.some.inj (h1.symm.trans B.method)
  cases Option.some.inj (h2.symm.trans (Stand.of_body B).code)
  rw [← h6, table_eq]
end Bodies
end VXA
/-! ===== END ===== -/
/-! ===== BEGIN a static call of a method with an exception table ===== -/
section VXS
variable {p : Program} {l : Launch} {e : Env} {R : Room} {s : State} {m : MethodId} {args : Array Value} {below : List Frame} {meth : Method} {c : Code} {T : State} {H : Heap} {locs : List Loc} {cells slots : Nat}
abbrev vx_CSW (R : Room) (s : State) (args : Array Value) (own : String) (index : Nat) (y : MethodName) (bytes : ByteArray) (maxL : Nat) (ret : Option FieldType) (hh : List (Nat × Nat × Nat × Nat)) (ws : List Cond) (rm : Room) (mc ms n : Nat) : Prop :=
  (rm.cells = mc ∧ rm.slots = ms ∧ rm.frames + 1 ≤ R.frames ∧ 8 + (maxL + 11) + rm.locals ≤ R.locals ∧ (∀ w ∈ ws, ∀ (a' : Array Value) (U : State), s.WarmedH U.vm → w.before a' U = true) ∧ Cond.codeWith y bytes maxL ret hh ∈ ws) ∧
  (Cond.codeWith y bytes maxL ret hh).before args s = true ∧ (Cond.initialized y.cls).before args s = true ∧ (y.cls ≠ "java/lang/invoke/MethodHandle" ∧ y.cls ≠ "java/lang/invoke/VarHandle") ∧
  (∀ sig, parseMethodDescriptor y.desc = some sig → n = sig.parameters.length) ∧ (Cond.methodLink own index y).before args s = true ∧ (Cond.static y).before args s = true
theorem vx_cwSW {own : String} {index maxL mc ms : Nat} {y : MethodName} {bytes : ByteArray} {ret : Option FieldType} {hh : List (Nat × Nat × Nat × Nat)} {Ts ws ws' : List Cond} {rm : Room} (n : Nat) (ht : ∀ w ∈ Ts, w.before args s = true) (hT : GoodIn Ts (va_wsS own index y ws)) (hw : ws = Cond.codeWith y bytes maxL ret hh :: ws') (hrc : rm.cells = mc) (hrs : rm.slots = ms)
    (hd : y.cls ≠ "java/lang/invoke/MethodHandle" ∧ y.cls ≠ "java/lang/invoke/VarHandle" ∧ (parseMethodDescriptor y.desc).map (fun d => d.parameters.length) = some n) (hR : rm.frames + 1 ≤ R.frames ∧ 8 + (maxL + 11) + rm.locals ≤ R.locals) :
    vx_CSW R s args own index y bytes maxL ret hh ws rm mc ms n := by
  have ok : ∀ w ∈ va_wsS own index y ws, w.before args s = true := fun w h => ht w (hT w h).1
  have hG : GoodIn Ts ws := fun w h => hT w (by unfold va_wsS; exact List.mem_append_right _ h)
  have hc : Cond.codeWith y bytes maxL ret hh ∈ ws := by rw [hw]; exact List.mem_cons_self
  refine ⟨⟨hrc, hrs, hR.1, hR.2, pay_in ht hG, hc⟩, ht _ (hG _ hc).1, ok _ (by simp [va_wsS]), ⟨hd.1, hd.2.1⟩, fun sig h => ?_, ok _ (by simp [va_wsS]), ok _ (by simp [va_wsS])⟩
  have h2 := hd.2.2
  rw [h] at h2
  exact (Option.some.inj h2).symm
theorem vx_callSW (X : Stand p l e R s m args below meth c T locs cells slots) (hexec : p.tables.exec = Jvm.exec) {own : String} {index : Nat} {y : MethodName} {bytes : ByteArray} {maxL : Nat} {ret : Option FieldType} {hh : List (Nat × Nat × Nat × Nat)}
    (hown : s.vm.findClass own = some m.cls) (hlink : (Cond.methodLink own index y).before args s = true) (hstat : (Cond.static y).before args s = true) (hinit : (Cond.initialized y.cls).before args s = true)
    (hcode : (Cond.codeWith y bytes maxL ret hh).before args s = true) (hy : y.cls ≠ "java/lang/invoke/MethodHandle" ∧ y.cls ≠ "java/lang/invoke/VarHandle")
    {W9 : Nat} {Pre : Pt → Array Value → Prop} {Post : Pt → Array Value → Option Value → Pt → Prop} (hK : Back l R p e below s args y 3 W9 Pre Post)
    {g : JFrame} (hg : g.method = m) (hsize : g.locals.size = c.maxLocals) {argsL rest : List Value} (hlen : ∀ sig, parseMethodDescriptor y.desc = some sig → argsL.length = sig.parameters.length)
    (hstack : g.stack = argsL.reverse ++ rest) (hW : 2 * g.monitorRoom + (rest.map fun v => v.category).sum ≤ W9) (hdg : decode c.code g.pc = .ok (.invokestatic index, 3))
    (hpre : ∀ vm₁, s.WarmedH vm₁ → Pre ⟨T.setVm vm₁, locs, cells, slots⟩ argsL.toArray) :
    ∃ (v : Option Value) (vm₁ : Vm) (B : Pt), s.WarmedH vm₁ ∧ Stand p l e R s m args below meth c B.U B.locs B.cells B.slots ∧ Post ⟨T.setVm vm₁, locs, cells, slots⟩ argsL.toArray v B ∧
      ∀ target, Steps p.tables e below (B.U.setTop { g with pc := g.pc + 3, stack := v.toList ++ rest }) target → Steps p.tables e below (T.setTop g) target := by
  obtain ⟨mk, methM, cM, hnamed, hmethM, -, -, -, -, -, -, hsigM⟩ := Cond.codeWith_spec hcode
  have hstatic : methM.isStatic = true := Cond.static_spec hnamed hmethM hstat
  obtain ⟨kP, hkP, -⟩ := className_of_methodNamed hnamed
  have hinitP : kP.init = .initialized := Cond.initialized_spec (findClass_of_methodNamed hnamed) hkP hinit
  obtain ⟨vm₁, X₁, hstep₁⟩ := X.invokestatic hexec hown hlink hnamed hmethM hstatic hkP hinitP hy (g := g) hg (argsL := argsL) (rest := rest) (hlen _ hsigM) hstack hdg
  obtain ⟨v, B, X', hpost, hsteps⟩ := hK m meth c ⟨T.setVm vm₁, locs, cells, slots⟩ { g with stack := rest } (.invokestatic index) mk argsL.toArray X₁ hg hsize hdg hW (X₁.named hnamed) (hpre vm₁ X₁.warmed)
  exact ⟨v, vm₁, B, X₁.warmed, X', hpost, fun target h => hstep₁ _ fun acts => by rw [doInvoke_state]; exact hsteps.trans h⟩
theorem vx_runSW {y : MethodName} {bytes cc : ByteArray} {maxL nL mc ms n index : Nat} {ret : Option FieldType} {hh : List (Nat × Nat × Nat × Nat)} {ws : List Cond} {rm : Room} {Pc : Array Value → State → Prop} {Qc : Array Value → State → Outcome → State → Prop} {free : Addr → Prop} {Ts : List Cond} {own : String} {As rest : List Value} {g : JFrame}
    (S : CallFix p m c cc nL s args Ts own) (hM : Met l y ws rm Pc Qc mc ms free) (cw : vx_CSW R s args own index y bytes maxL ret hh ws rm mc ms n) (hp : PreS s H Pc As)
    (hg : g.method = m) (hn : As.length = n) (hsize : g.locals.size = nL) (hstack : g.stack = As.reverse ++ rest) (hW : 2 * g.monitorRoom + (rest.map fun v => v.category).sum ≤ 8) (hdg : decode cc g.pc = .ok (.invokestatic index, 3)) (hf : cells + mc ≤ R.cells ∧ slots + ms ≤ R.slots) :
    va_Run p l e R s m args below meth c H locs cells slots mc ms g rest (Qc As.toArray) (free) := by
  obtain ⟨⟨hrc, hrs, hfr, hlo, hws, hcw⟩, hcode, hini, hy, hlen, hl, hstt⟩ := cw
  have hK : Back l R p e below s args y 3 8 (PreOf R mc ms Pc) (PostOf Qc mc ms free) := va_backW (hh := hh) (bytes := bytes) (maxL := maxL) (ret := ret) hM hp.1 hrc hrs hfr hlo hws hcw (fun a' U hW => word_at hW (Or.inl (by first | rfl | simp [Cond.onTables, Cond.keeps, Cond.steady])) hini)
  obtain ⟨hx, hb, hml, ho, -⟩ := S
  intro T hT X
  obtain ⟨v, vm₁, ⟨U', l2, c2, s2⟩, hW₁, X', ⟨g', mk, t, L, e1, e2, hq, h1, hL, h2, h3⟩, st⟩ := vx_callSW X hx (hh := hh) (bytes := bytes) (maxL := maxL) (ret := ret) ho hl hstt hini hcode hy hK hg (hsize.trans hml.symm) (argsL := As) (rest := rest) (fun sig h => hn.trans (hlen sig h)) hstack hW (by rw [hb]; exact hdg)
    (fun vm₁ hW₁ => ⟨hf.1, hf.2, hp.2 (T.setVm vm₁) hT hW₁⟩)
  dsimp only [Pt.U, Pt.locs, Pt.cells, Pt.slots] at X' e1 e2 h1 h2 h3 st
  subst h1; subst h2; subst h3
  exact ⟨v, (T.setVm vm₁).calling g' mk As.toArray, t, U', L, hT, X', hL, e1, e2, hq, st⟩
/-- not caught here, past rows that name other classes: it goes on to the caller -/
theorem vx_outP {p : Program} {l : Launch} {e : Env} {R : Room} {s : State} {m : MethodId} {args : Array Value} {below : List Frame} {meth : Method} {c : Code} {H : Heap} {locs : List Loc} {cells slots : Nat} {free : Addr → Prop} {ls : Array Slot} {rest : List Value} {Qc : Array Value → State → Outcome → State → Prop} {XC : String → State → State → Prop}
    {pc : Nat} {own E : String} {ce : Cell} {q : Addr} {mc ms : Nat} (hown : s.vm.findClass own = some m.cls) (hlocks : meth.locks = false)
    (hpass : ∀ z ∈ c.exceptionTable.toList, covers z pc = false ∨ (z.catchType ≠ 0 ∧ ∃ nm : String, (Cond.classLink own z.catchType nm).before args s = true ∧ va_Nc E nm s)) (hcell : H[q]? = some ce) (hv : ce.vm = .none) (hcl : s.vm.findClass E = some ce.cls)
    (hx : ∀ t : State, t.heap = H → s.vm.Alike t.vm → XC E s t) (hf : ∀ z ∈ locs, free z.base) (hc : cells ≤ mc) (hs : slots ≤ ms) :
    vx_W p l e R s m args below meth c H locs cells slots (vx_MQ below Qc XC args s mc ms free) (F0 m pc ls rest) q := by
  intro T hT X
  have hpl : e.platform.magicAccessors = ({} : Platform).magicAccessors := by rw [X.admits.platform]
  obtain ⟨vm', hW', X', st⟩ := X.outThrough hlocks q (g := F0 m pc ls rest) rfl rfl rfl (cell := ce) (by rw [hT]; exact hcell) (by rw [hv]; rfl)
    (by obtain ⟨k9, h9, -⟩ := Vm.findClass_spec hcl; exact ⟨k9, h9⟩) (fun z hz => by
      rcases hpass z hz with h | ⟨hz0, nm, hl1, hn1⟩
      · exact Or.inl h
      · obtain ⟨c6, hc6, hcl6⟩ := Cond.classLink_spec hown hl1 e.platform hpl
        obtain ⟨a8, b8, h1, h2, h3⟩ := hn1
        cases Option.some.inj (h1.symm.trans hcl)
        cases Option.some.inj (h2.symm.trans hc6)
        exact Or.inr ⟨hz0, _, hcl6, h3⟩)
  obtain ⟨g₀, hfr⟩ := X'.frames_eq
  have hcell9 : ((T.setVm vm').setFrames (.throwing q :: below)).heap[q]? = some ce := by
    show T.heap[q]? = some ce
    rw [hT]; exact hcell
  have hend : Ended ((T.setVm vm').setFrames (.throwing q :: below)) below (.threw q) := State.frames_setFrames _ (State.cur_lt_of_frames hfr)
  refine ⟨(T.setVm vm').setFrames (.throwing q :: below), ?_, .threw q, X'.here.running, hend, Or.inr ⟨q, rfl, E, ce, locs, hx _ hT (X'.ends _).1.alike, hcell9, hv, hcl, (X'.ends _).1, (X'.ends _).2.mono hc hs, hf⟩⟩
  rw [X.pushThrowing_eq]
  exact st
/-- a thing of a world lies in the heap -/
theorem vx_lt {D : va_G} {cl : List vw_C} {ws : va_W} {H1 : Heap} (h : va_P D cl ws H1) {k : Nat} {q : Nat × va_E} (hk : ws[k]? = some q) : q.1 < H1.size := (h k q hk).lt
end VXS
/-! ===== END ===== -/
/-! ===== BEGIN methods with a table of their own: called by a name, returning or throwing ===== -/
section VXH
/-! vx_backW, vx_callVX, vx_callSX, vx_callVW, vx_runVW, vx_runVX, vx_runSX, vx_ofWH follow the same proofs as their sisters above (Free/Laws.lean, Shelf42/LK1.lean); vx_outP calls Shelf42/NT130.lean (outThrough). -/
section
variable {l : Launch} {R : Room} {p : Program} {e : Env} {below : List Frame} {s : State} {sargs : Array Value} {y : MethodName} {len W9 : Nat}
theorem vx_backW {ws : List Cond} {rm : Room} {Pc : Array Value → State → Prop} {Qc : Array Value → State → Outcome → State → Prop} {XC : String → State → State → Prop} {mc ms : Nat} {free : Addr → Prop} {bytes : ByteArray} {maxL : Nat} {ret : Option FieldType} {hh : List (Nat × Nat × Nat × Nat)}
    (hM : vx_Met l y ws rm Pc Qc XC mc ms free) (hblind : FrameBlind Pc) (hrc : rm.cells = mc) (hrs : rm.slots = ms)
    (hframes : rm.frames + 1 ≤ R.frames) (hlocals : W9 + (maxL + 11) + rm.locals ≤ R.locals)
    (hws : ∀ w ∈ ws, ∀ a' U, s.WarmedH U.vm → w.before a' U = true) (hcode : Cond.codeWith y bytes maxL ret hh ∈ ws) (hinit : ∀ a' U, s.WarmedH U.vm → (Cond.initialized y.cls).before a' U = true) :
    vx_Back l R p e below s sargs y len W9 (PreOf R mc ms Pc) (PostOf Qc mc ms free) (vx_Post XC mc ms free) := by
  intro m meth c A g ig mk a X hg hsize hdg hW hn hp
  have h1 : (headSpec ws rm).pre.before a A.U = true := atoms_intro fun w hw => hws w hw _ _ X.warmed
  have h2 : (Cond.codeWith y bytes maxL ret hh).before a A.U = true := hws _ hcode _ _ X.warmed
  have h3 : (Cond.initialized y.cls).before a A.U = true := hinit _ _ X.warmed
  have h4 : A.cells + (headSpec ws rm).room.cells ≤ R.cells := by rw [show (headSpec ws rm).room.cells = mc from hrc]; exact hp.1
  have h5 : A.slots + (headSpec ws rm).room.slots ≤ R.slots := by rw [show (headSpec ws rm).room.slots = ms from hrs]; exact hp.2.1
  have hPc : Pc a (A.U.calling g mk a) := hblind _ _ _ _ hp.2.2
  obtain ⟨U, Ls, c0, s0⟩ := A
  dsimp only [Pt.U, Pt.locs, Pt.cells, Pt.slots] at h1 h2 h3 h4 h5 X hn hPc ⊢
  obtain ⟨m9, methY, cY, hn9, hmY, hcY, -, hlY, -⟩ := Cond.codeWith_spec h2
  cases Option.some.inj (hn9.symm.trans hn)
  obtain ⟨kY, hkY, -⟩ := className_of_methodNamed hn
  have hinitY : kY.init = .initialized := Cond.initialized_spec (findClass_of_methodNamed hn) hkY h3
  have h : At U g.method c below := by rw [hg]; exact X.here
  have hlocals9 : W9 + (maxL + 11) + (headSpec ws rm).room.locals ≤ R.locals := hlocals
  have happ : (headSpec ws rm).appliesLoose y e.platform (U.calling g mk a) = true :=
    Spec.appliesLoose_calling (g := g) h hdg hn hkY hinitY
      (X.room_calling (g := g) (R' := (headSpec ws rm).room) hsize hmY hcY hframes (by rw [hlY]; omega) h4 h5) h1
  obtain ⟨mid, hmid⟩ := h.above
  have hfr : (U.setTop g).frames = (.java g :: mid) ++ below := by rw [State.frames_setTop' g h.top, hmid]; rfl
  obtain ⟨o, s₂, hsteps, -, hend, hq⟩ := Steps.callFree hM p X.admits X.cas X.clock (acts := []) hfr happ hPc trivial
  have hq' : vx_Q Qc XC mc ms free a (U.calling g mk a) o s₂ := hq
  rw [State.frames_setTop' g h.top] at hend
  obtain ⟨g₀, hg0⟩ := Option.isSome_iff_exists.mp h.top
  obtain ⟨r, hr⟩ := State.topJava?_eq_some.mp hg0
  have hr' : (({ U with heap := s₂.heap, slotsUsed := s₂.slotsUsed } : State).setVm s₂.vm).frames = .java g₀ :: r := hr
  rcases hq' with ⟨hqc, L, hfe, hL⟩ | ⟨q, rfl, E, ce, L, hx, hce, hcv, hcl, hW₂, hsm, hL⟩
  · obtain ⟨⟨v, rfl⟩, hW₂, e2, q2, q3, q4, q5, q6⟩ := id hfe
    have e3 : s₂ = ({ (U.calling g mk a).setFrames s₂.frames with heap := s₂.heap, slotsUsed := s₂.slotsUsed } : State).setVm s₂.vm := by
      have : s₂ = ({ s₂ with vm := (U.calling g mk a).vm } : State).setVm s₂.vm := rfl
      rw [e2] at this
      exact this
    obtain ⟨c₂, i₂, len₂, hc₂, hd₂, hf₂⟩ := hend
    have hW' : U.WarmedH s₂.vm := hW₂
    have hcc : c₂ = c := by
      have h1 : s₂.code? g.method = U.code? g.method := by
        rw [State.code?_eq, State.code?_eq, hW'.alike.method?]
      exact Option.some.inj (hc₂.symm.trans (h1.trans h.code))
    subst hcc
    have hlen : len₂ = len := by rw [hdg] at hd₂; cases hd₂; rfl
    subst hlen
    have hs₂ : s₂ = (({ U with heap := s₂.heap, slotsUsed := s₂.slotsUsed } : State).setVm s₂.vm).setTop { g with pc := g.pc + len₂, stack := v.toList ++ g.stack } := by
      refine e3.trans ?_
      rw [hf₂, State.calling_eq h.top, State.setFrames_setFrames, State.setTop_of_frames _ hr', hr]
      rfl
    have hsame : U.sameButNew ({ U with heap := s₂.heap, slotsUsed := s₂.slotsUsed } : State) L mc ms := by
      refine ⟨?_, q2, q3, q4, q5, q6⟩
      obtain ⟨t, ht, -⟩ := State.frames_cons hr
      show ({ U with heap := s₂.heap, slotsUsed := s₂.slotsUsed } : State) = { U.setFrames U.frames with heap := s₂.heap, slotsUsed := s₂.slotsUsed }
      rw [State.setFrames_self ht]
    subst hg
    refine Or.inl ⟨v, ⟨(({ U with heap := s₂.heap, slotsUsed := s₂.slotsUsed } : State).setVm s₂.vm), Ls ++ L, c0 + mc, s0 + ms⟩,
      ⟨X.admits, X.cas, X.clock, X.frames, X.room, X.hears, X.method, X.code, (X.here.setHeapUsed s₂.heap s₂.slotsUsed).setVm hW'.alike, X.tail, State.WarmedH.trans X.warmed hW', X.limits, X.bytes, X.same.trans (hsame.setVm s.vm)⟩,
      ⟨g, mk, s₂, L, rfl, rfl, hqc, rfl, hL, rfl, rfl⟩, ?_⟩
    show Steps p.tables e below _ ((({ U with heap := s₂.heap, slotsUsed := s₂.slotsUsed } : State).setVm s₂.vm).setTop { g with pc := g.pc + len₂, stack := v.toList ++ g.stack })
    rw [← hs₂]
    exact hsteps
  · obtain ⟨e2, q2, q3, q4, q5, q6⟩ := id hsm
    have e3 : s₂ = ({ (U.calling g mk a).setFrames s₂.frames with heap := s₂.heap, slotsUsed := s₂.slotsUsed } : State).setVm s₂.vm := by
      have : s₂ = ({ s₂ with vm := (U.calling g mk a).vm } : State).setVm s₂.vm := rfl
      rw [e2] at this
      exact this
    have hf₂ : s₂.frames = .throwing q :: .java g :: U.frames.tail := hend
    have hW' : U.WarmedH s₂.vm := hW₂
    have hs₂ : s₂ = ((({ U with heap := s₂.heap, slotsUsed := s₂.slotsUsed } : State).setVm s₂.vm).setTop g).pushFrame (.throwing q) := by
      refine e3.trans ?_
      rw [hf₂, State.calling_eq h.top, State.setFrames_setFrames, State.pushFrame, State.frames_setTop _ hr', State.setTop_of_frames _ hr', State.setFrames_setFrames, hr]
      rfl
    have hsame : U.sameButNew ({ U with heap := s₂.heap, slotsUsed := s₂.slotsUsed } : State) L mc ms := by
      refine ⟨?_, q2, q3, q4, q5, q6⟩
      obtain ⟨t, ht, -⟩ := State.frames_cons hr
      show ({ U with heap := s₂.heap, slotsUsed := s₂.slotsUsed } : State) = { U.setFrames U.frames with heap := s₂.heap, slotsUsed := s₂.slotsUsed }
      rw [State.setFrames_self ht]
    subst hg
    refine Or.inr ⟨q, ⟨(({ U with heap := s₂.heap, slotsUsed := s₂.slotsUsed } : State).setVm s₂.vm), Ls ++ L, c0 + mc, s0 + ms⟩,
      ⟨X.admits, X.cas, X.clock, X.frames, X.room, X.hears, X.method, X.code, (X.here.setHeapUsed s₂.heap s₂.slotsUsed).setVm hW'.alike, X.tail, State.WarmedH.trans X.warmed hW', X.limits, X.bytes, X.same.trans (hsame.setVm s.vm)⟩,
      ⟨g, mk, s₂, L, E, ce, rfl, rfl, hx, hce, hcv, hcl, rfl, hL, rfl, rfl⟩, ?_⟩
    show Steps p.tables e below _ (((({ U with heap := s₂.heap, slotsUsed := s₂.slotsUsed } : State).setVm s₂.vm).setTop g).pushFrame (.throwing q))
    rw [← hs₂]
    exact hsteps
end
variable {p : Program} {l : Launch} {e : Env} {R : Room} {s : State} {m : MethodId} {args : Array Value} {below : List Frame} {meth : Method} {c : Code} {T : State} {H : Heap} {locs : List Loc} {cells slots : Nat}
theorem vx_callVX (X : Stand p l e R s m args below meth c T locs cells slots) (hexec : p.tables.exec = Jvm.exec) {own C : String} {index : Nat} {y : MethodName} {bytes : ByteArray} {maxL : Nat} {ret : Option FieldType} {hh : List (Nat × Nat × Nat × Nat)}
    (hown : s.vm.findClass own = some m.cls) (hlink : (Cond.methodLink own index y).before args s = true) (hinst : (Cond.instanceMethod y).before args s = true) (hsel : (Cond.selects C y y).before args s = true)
    (hcode : (Cond.codeWith y bytes maxL ret hh).before args s = true) (hy : y.cls ≠ "java/lang/invoke/MethodHandle" ∧ y.cls ≠ "java/lang/invoke/VarHandle")
    {W9 : Nat} {Pre : Pt → Array Value → Prop} {Post : Pt → Array Value → Option Value → Pt → Prop} {PostX : Pt → Array Value → Addr → Pt → Prop} (hK : vx_Back l R p e below s args y 3 W9 Pre Post PostX)
    {b : Addr} {cellB : Cell} (hcell : T.heap[b]? = some cellB) (hobj : cellB.vm.isStatics = false) (hcls : s.vm.findClass C = some cellB.cls)
    {g : JFrame} (hg : g.method = m) (hsize : g.locals.size = c.maxLocals) {argsL rest : List Value} (hlen : ∀ sig, parseMethodDescriptor y.desc = some sig → argsL.length = sig.parameters.length)
    (hstack : g.stack = argsL.reverse ++ .ref b :: rest) (hW : 2 * g.monitorRoom + (rest.map fun v => v.category).sum ≤ W9) (hdg : decode c.code g.pc = .ok (.invokevirtual index, 3))
    (hpre : ∀ vm₁, s.WarmedH vm₁ → Pre ⟨T.setVm vm₁, locs, cells, slots⟩ (Value.ref b :: argsL).toArray) :
    (∃ (v : Option Value) (vm₁ : Vm) (B : Pt), s.WarmedH vm₁ ∧ Stand p l e R s m args below meth c B.U B.locs B.cells B.slots ∧ Post ⟨T.setVm vm₁, locs, cells, slots⟩ (Value.ref b :: argsL).toArray v B ∧
      ∀ target, Steps p.tables e below (B.U.setTop { g with pc := g.pc + 3, stack := v.toList ++ rest }) target → Steps p.tables e below (T.setTop g) target) ∨
    (∃ (q : Addr) (vm₁ : Vm) (B : Pt), s.WarmedH vm₁ ∧ Stand p l e R s m args below meth c B.U B.locs B.cells B.slots ∧ PostX ⟨T.setVm vm₁, locs, cells, slots⟩ (Value.ref b :: argsL).toArray q B ∧
      Steps p.tables e below (T.setTop g) ((B.U.setTop { g with stack := rest }).pushFrame (.throwing q))) := by
  obtain ⟨mk, methM, hnamed, hmethM, hstM, habM⟩ := Cond.instanceMethod_spec hinst
  obtain ⟨m8, methM', cM, hn8, hmethM', -, -, -, -, -, -, hsigM⟩ := Cond.codeWith_spec hcode
  cases Option.some.inj (hn8.symm.trans hnamed)
  cases hmethM.symm.trans hmethM'
  obtain ⟨c2, r2, m2, q1, q2, q3, q4, kP, hkP, hkPi⟩ := Cond.selects_spec hsel
  cases hcls.symm.trans q1
  cases (State.methodFound?_of_named hnamed hy).symm.trans q2
  cases hnamed.symm.trans q3
  have hselP : selectMethod e.platform s.vm cellB.cls mk = .method mk := by rw [Launch.admits_selectMethod X.admits]; exact q4
  obtain ⟨vm₁, X₁, hstep₁⟩ := X.invokevirtual hexec hown hlink hnamed hmethM hstM hkP hkPi hy (a := b) (cell := cellB) hcell
    (fun z h => by rw [h] at hobj; cases hobj) hselP hmethM habM hkP hkPi (g := g) hg (argsL := argsL) (rest := rest) (hlen _ hsigM) hstack hdg
  rcases hK m meth c ⟨T.setVm vm₁, locs, cells, slots⟩ { g with stack := rest } (.invokevirtual index) mk (Value.ref b :: argsL).toArray X₁ hg hsize hdg hW (X₁.named hnamed) (hpre vm₁ X₁.warmed) with ⟨v, B, X', hpost, hsteps⟩ | ⟨q, B, X', hpost, hsteps⟩
  · exact Or.inl ⟨v, vm₁, B, X₁.warmed, X', hpost, fun target h => hstep₁ _ fun acts => by rw [doInvoke_state]; exact hsteps.trans h⟩
  · exact Or.inr ⟨q, vm₁, B, X₁.warmed, X', hpost, hstep₁ _ fun acts => by rw [doInvoke_state]; exact hsteps⟩
theorem vx_callSX (X : Stand p l e R s m args below meth c T locs cells slots) (hexec : p.tables.exec = Jvm.exec) {own : String} {index : Nat} {y : MethodName} {bytes : ByteArray} {maxL : Nat} {ret : Option FieldType} {hh : List (Nat × Nat × Nat × Nat)}
    (hown : s.vm.findClass own = some m.cls) (hlink : (Cond.methodLink own index y).before args s = true) (hstat : (Cond.static y).before args s = true) (hinit : (Cond.initialized y.cls).before args s = true)
    (hcode : (Cond.codeWith y bytes maxL ret hh).before args s = true) (hy : y.cls ≠ "java/lang/invoke/MethodHandle" ∧ y.cls ≠ "java/lang/invoke/VarHandle")
    {W9 : Nat} {Pre : Pt → Array Value → Prop} {Post : Pt → Array Value → Option Value → Pt → Prop} {PostX : Pt → Array Value → Addr → Pt → Prop} (hK : vx_Back l R p e below s args y 3 W9 Pre Post PostX)
    {g : JFrame} (hg : g.method = m) (hsize : g.locals.size = c.maxLocals) {argsL rest : List Value} (hlen : ∀ sig, parseMethodDescriptor y.desc = some sig → argsL.length = sig.parameters.length)
    (hstack : g.stack = argsL.reverse ++ rest) (hW : 2 * g.monitorRoom + (rest.map fun v => v.category).sum ≤ W9) (hdg : decode c.code g.pc = .ok (.invokestatic index, 3))
    (hpre : ∀ vm₁, s.WarmedH vm₁ → Pre ⟨T.setVm vm₁, locs, cells, slots⟩ argsL.toArray) :
    (∃ (v : Option Value) (vm₁ : Vm) (B : Pt), s.WarmedH vm₁ ∧ Stand p l e R s m args below meth c B.U B.locs B.cells B.slots ∧ Post ⟨T.setVm vm₁, locs, cells, slots⟩ argsL.toArray v B ∧
      ∀ target, Steps p.tables e below (B.U.setTop { g with pc := g.pc + 3, stack := v.toList ++ rest }) target → Steps p.tables e below (T.setTop g) target) ∨
    (∃ (q : Addr) (vm₁ : Vm) (B : Pt), s.WarmedH vm₁ ∧ Stand p l e R s m args below meth c B.U B.locs B.cells B.slots ∧ PostX ⟨T.setVm vm₁, locs, cells, slots⟩ argsL.toArray q B ∧
      Steps p.tables e below (T.setTop g) ((B.U.setTop { g with stack := rest }).pushFrame (.throwing q))) := by
  obtain ⟨mk, methM, cM, hnamed, hmethM, -, -, -, -, -, -, hsigM⟩ := Cond.codeWith_spec hcode
  have hstatic : methM.isStatic = true := Cond.static_spec hnamed hmethM hstat
  obtain ⟨kP, hkP, -⟩ := className_of_methodNamed hnamed
  have hinitP : kP.init = .initialized := Cond.initialized_spec (findClass_of_methodNamed hnamed) hkP hinit
  obtain ⟨vm₁, X₁, hstep₁⟩ := X.invokestatic hexec hown hlink hnamed hmethM hstatic hkP hinitP hy (g := g) hg (argsL := argsL) (rest := rest) (hlen _ hsigM) hstack hdg
  rcases hK m meth c ⟨T.setVm vm₁, locs, cells, slots⟩ { g with stack := rest } (.invokestatic index) mk argsL.toArray X₁ hg hsize hdg hW (X₁.named hnamed) (hpre vm₁ X₁.warmed) with ⟨v, B, X', hpost, hsteps⟩ | ⟨q, B, X', hpost, hsteps⟩
  · exact Or.inl ⟨v, vm₁, B, X₁.warmed, X', hpost, fun target h => hstep₁ _ fun acts => by rw [doInvoke_state]; exact hsteps.trans h⟩
  · exact Or.inr ⟨q, vm₁, B, X₁.warmed, X', hpost, hstep₁ _ fun acts => by rw [doInvoke_state]; exact hsteps⟩
theorem vx_callVW (X : Stand p l e R s m args below meth c T locs cells slots) (hexec : p.tables.exec = Jvm.exec) {own C : String} {index : Nat} {y : MethodName} {bytes : ByteArray} {maxL : Nat} {ret : Option FieldType} {hh : List (Nat × Nat × Nat × Nat)}
    (hown : s.vm.findClass own = some m.cls) (hlink : (Cond.methodLink own index y).before args s = true) (hinst : (Cond.instanceMethod y).before args s = true) (hsel : (Cond.selects C y y).before args s = true)
    (hcode : (Cond.codeWith y bytes maxL ret hh).before args s = true) (hy : y.cls ≠ "java/lang/invoke/MethodHandle" ∧ y.cls ≠ "java/lang/invoke/VarHandle")
    {W9 : Nat} {Pre : Pt → Array Value → Prop} {Post : Pt → Array Value → Option Value → Pt → Prop} (hK : Back l R p e below s args y 3 W9 Pre Post)
    {b : Addr} {cellB : Cell} (hcell : T.heap[b]? = some cellB) (hobj : cellB.vm.isStatics = false) (hcls : s.vm.findClass C = some cellB.cls)
    {g : JFrame} (hg : g.method = m) (hsize : g.locals.size = c.maxLocals) {argsL rest : List Value} (hlen : ∀ sig, parseMethodDescriptor y.desc = some sig → argsL.length = sig.parameters.length)
    (hstack : g.stack = argsL.reverse ++ .ref b :: rest) (hW : 2 * g.monitorRoom + (rest.map fun v => v.category).sum ≤ W9) (hdg : decode c.code g.pc = .ok (.invokevirtual index, 3))
    (hpre : ∀ vm₁, s.WarmedH vm₁ → Pre ⟨T.setVm vm₁, locs, cells, slots⟩ (Value.ref b :: argsL).toArray) :
    ∃ (v : Option Value) (vm₁ : Vm) (B : Pt), s.WarmedH vm₁ ∧ Stand p l e R s m args below meth c B.U B.locs B.cells B.slots ∧ Post ⟨T.setVm vm₁, locs, cells, slots⟩ (Value.ref b :: argsL).toArray v B ∧
      ∀ target, Steps p.tables e below (B.U.setTop { g with pc := g.pc + 3, stack := v.toList ++ rest }) target → Steps p.tables e below (T.setTop g) target := by
  obtain ⟨mk, methM, hnamed, hmethM, hstM, habM⟩ := Cond.instanceMethod_spec hinst
  obtain ⟨m8, methM', cM, hn8, hmethM', -, -, -, -, -, -, hsigM⟩ := Cond.codeWith_spec hcode
  cases Option.some.inj (hn8.symm.trans hnamed)
  cases hmethM.symm.trans hmethM'
  obtain ⟨c2, r2, m2, q1, q2, q3, q4, kP, hkP, hkPi⟩ := Cond.selects_spec hsel
  cases hcls.symm.trans q1
  cases (State.methodFound?_of_named hnamed hy).symm.trans q2
  cases hnamed.symm.trans q3
  have hselP : selectMethod e.platform s.vm cellB.cls mk = .method mk := by rw [Launch.admits_selectMethod X.admits]; exact q4
  obtain ⟨vm₁, X₁, hstep₁⟩ := X.invokevirtual hexec hown hlink hnamed hmethM hstM hkP hkPi hy (a := b) (cell := cellB) hcell
    (fun z h => by rw [h] at hobj; cases hobj) hselP hmethM habM hkP hkPi (g := g) hg (argsL := argsL) (rest := rest) (hlen _ hsigM) hstack hdg
  obtain ⟨v, B, X', hpost, hsteps⟩ := hK m meth c ⟨T.setVm vm₁, locs, cells, slots⟩ { g with stack := rest } (.invokevirtual index) mk (Value.ref b :: argsL).toArray X₁ hg hsize hdg hW (X₁.named hnamed) (hpre vm₁ X₁.warmed)
  exact ⟨v, vm₁, B, X₁.warmed, X', hpost, fun target h => hstep₁ _ fun acts => by rw [doInvoke_state]; exact hsteps.trans h⟩
abbrev vx_CVW (R : Room) (s : State) (args : Array Value) (own C : String) (index : Nat) (y : MethodName) (bytes : ByteArray) (maxL : Nat) (ret : Option FieldType) (hh : List (Nat × Nat × Nat × Nat)) (ws : List Cond) (rm : Room) (mc ms n : Nat) : Prop :=
  (rm.cells = mc ∧ rm.slots = ms ∧ rm.frames + 1 ≤ R.frames ∧ 8 + (maxL + 11) + rm.locals ≤ R.locals ∧ (∀ w ∈ ws, ∀ (a' : Array Value) (U : State), s.WarmedH U.vm → w.before a' U = true) ∧ Cond.codeWith y bytes maxL ret hh ∈ ws) ∧
  (Cond.codeWith y bytes maxL ret hh).before args s = true ∧ (Cond.initialized y.cls).before args s = true ∧ (y.cls ≠ "java/lang/invoke/MethodHandle" ∧ y.cls ≠ "java/lang/invoke/VarHandle") ∧
  (∀ sig, parseMethodDescriptor y.desc = some sig → n = sig.parameters.length) ∧ (Cond.methodLink own index y).before args s = true ∧ (Cond.instanceMethod y).before args s = true ∧ (Cond.selects C y y).before args s = true
theorem vx_cwVW {own C : String} {index maxL mc ms : Nat} {y : MethodName} {bytes : ByteArray} {ret : Option FieldType} {hh : List (Nat × Nat × Nat × Nat)} {Ts ws ws' : List Cond} {rm : Room} (n : Nat) (ht : ∀ w ∈ Ts, w.before args s = true) (hT : GoodIn Ts (wsV own index C y ws)) (hw : ws = Cond.codeWith y bytes maxL ret hh :: ws') (hrc : rm.cells = mc) (hrs : rm.slots = ms)
    (hd : y.cls = C ∧ y.cls ≠ "java/lang/invoke/MethodHandle" ∧ y.cls ≠ "java/lang/invoke/VarHandle" ∧ (parseMethodDescriptor y.desc).map (fun d => d.parameters.length) = some n) (hR : rm.frames + 1 ≤ R.frames ∧ 8 + (maxL + 11) + rm.locals ≤ R.locals) :
    vx_CVW R s args own C index y bytes maxL ret hh ws rm mc ms n := by
  obtain ⟨hC, hd⟩ := hd
  subst hC
  have ok : ∀ w ∈ wsV own index y.cls y ws, w.before args s = true := fun w h => ht w (hT w h).1
  have hG : GoodIn Ts ws := fun w h => hT w (by unfold wsV; exact List.mem_append_right _ h)
  have hc : Cond.codeWith y bytes maxL ret hh ∈ ws := by rw [hw]; exact List.mem_cons_self
  refine ⟨⟨hrc, hrs, hR.1, hR.2, pay_in ht hG, hc⟩, ht _ (hG _ hc).1, ok _ (by simp [wsV]), ⟨hd.1, hd.2.1⟩, fun sig h => ?_, ok _ (by simp [wsV]), ok _ (by simp [wsV]), ok _ (by simp [wsV])⟩
  have h2 := hd.2.2
  rw [h] at h2
  exact (Option.some.inj h2).symm
theorem vx_runVW {y : MethodName} {bytes cc : ByteArray} {maxL nL mc ms n index : Nat} {ret : Option FieldType} {hh : List (Nat × Nat × Nat × Nat)} {ws : List Cond} {rm : Room} {Pc : Array Value → State → Prop} {Qc : Array Value → State → Outcome → State → Prop} {free : Addr → Prop} {Ts : List Cond} {own C : String} {b : Addr} {As rest : List Value} {g : JFrame}
    (S : CallFix p m c cc nL s args Ts own) (hM : Met l y ws rm Pc Qc mc ms free) (cw : vx_CVW R s args own C index y bytes maxL ret hh ws rm mc ms n) (hp : PreV s H C b Pc As)
    (hg : g.method = m) (hn : As.length = n) (hsize : g.locals.size = nL) (hstack : g.stack = As.reverse ++ .ref b :: rest) (hW : 2 * g.monitorRoom + (rest.map fun v => v.category).sum ≤ 8) (hdg : decode cc g.pc = .ok (.invokevirtual index, 3)) (hf : cells + mc ≤ R.cells ∧ slots + ms ≤ R.slots) :
    va_Run p l e R s m args below meth c H locs cells slots mc ms g rest (Qc (Value.ref b :: As).toArray) free := by
  obtain ⟨⟨hrc, hrs, hfr, hlo, hws, hcw⟩, hcode, hini, hy, hlen, hl, hin, hse⟩ := cw
  have hK : Back l R p e below s args y 3 8 (PreOf R mc ms Pc) (PostOf Qc mc ms free) := va_backW (hh := hh) (bytes := bytes) (maxL := maxL) (ret := ret) hM hp.1 hrc hrs hfr hlo hws hcw (fun a' U hW => word_at hW (Or.inl (by first | rfl | simp [Cond.onTables, Cond.keeps, Cond.steady])) hini)
  obtain ⟨hx, hb, hml, ho, -⟩ := S
  obtain ⟨-, ⟨cellB, hcB, hoB, hclB⟩, hPc⟩ := hp
  intro T hT X
  obtain ⟨v, vm₁, ⟨U', l2, c2, s2⟩, hW₁, X', ⟨g', mk, t, L, e1, e2, hq, h1, hL, h2, h3⟩, st⟩ := vx_callVW X hx (C := C) (hh := hh) (bytes := bytes) (maxL := maxL) (ret := ret) ho hl hin hse hcode hy hK (by rw [hT]; exact hcB) hoB hclB hg (hsize.trans hml.symm) (argsL := As) (rest := rest) (fun sig h => hn.trans (hlen sig h)) hstack hW (by rw [hb]; exact hdg)
    (fun vm₁ hW₁ => ⟨hf.1, hf.2, hPc (T.setVm vm₁) hT hW₁⟩)
  dsimp only [Pt.U, Pt.locs, Pt.cells, Pt.slots] at X' e1 e2 h1 h2 h3 st
  subst h1; subst h2; subst h3
  exact ⟨v, (T.setVm vm₁).calling g' mk (Value.ref b :: As).toArray, t, U', L, hT, X', hL, e1, e2, hq, st⟩
section
variable {y : MethodName} {bytes cc : ByteArray} {maxL nL mc ms n index : Nat} {ret : Option FieldType} {ws : List Cond} {rm : Room} {Pc : Array Value → State → Prop} {Qc : Array Value → State → Outcome → State → Prop} {XC : String → State → State → Prop} {free : Addr → Prop} {Ts : List Cond} {own C : String} {b : Addr} {As rest : List Value} {g : JFrame}
theorem vx_runVX {hh : List (Nat × Nat × Nat × Nat)} (S : CallFix p m c cc nL s args Ts own) (hM : vx_Met l y ws rm Pc Qc XC mc ms free) (cw : vx_CVW R s args own C index y bytes maxL ret hh ws rm mc ms n) (hp : PreV s H C b Pc As)
    (hg : g.method = m) (hn : As.length = n) (hsize : g.locals.size = nL) (hstack : g.stack = As.reverse ++ .ref b :: rest) (hW : 2 * g.monitorRoom + (rest.map fun v => v.category).sum ≤ 8) (hdg : decode cc g.pc = .ok (.invokevirtual index, 3)) (hf : cells + mc ≤ R.cells ∧ slots + ms ≤ R.slots) :
    vx_Run p l e R s m args below meth c H locs cells slots mc ms g rest (Qc (Value.ref b :: As).toArray) XC free := by
  obtain ⟨⟨hrc, hrs, hfr, hlo, hws, hcw⟩, hcode, hini, hy, hlen, hl, hin, hse⟩ := cw
  have hK : vx_Back l R p e below s args y 3 8 (PreOf R mc ms Pc) (PostOf Qc mc ms free) (vx_Post XC mc ms free) := vx_backW (hh := hh) (bytes := bytes) (maxL := maxL) (ret := ret) hM hp.1 hrc hrs hfr hlo hws hcw (fun a' U hW => word_at hW (Or.inl (by first | rfl | simp [Cond.onTables, Cond.keeps, Cond.steady])) hini)
  obtain ⟨hx, hb, hml, ho, -⟩ := S
  obtain ⟨-, ⟨cellB, hcB, hoB, hclB⟩, hPc⟩ := hp
  intro T hT X
  rcases vx_callVX X hx (C := C) (hh := hh) (bytes := bytes) (maxL := maxL) (ret := ret) ho hl hin hse hcode hy hK (by rw [hT]; exact hcB) hoB hclB hg (hsize.trans hml.symm) (argsL := As) (rest := rest) (fun sig h => hn.trans (hlen sig h)) hstack hW (by rw [hb]; exact hdg)
    (fun vm₁ hW₁ => ⟨hf.1, hf.2, hPc (T.setVm vm₁) hT hW₁⟩) with ⟨v, vm₁, ⟨U', l2, c2, s2⟩, hW₁, X', ⟨g', mk, t, L, e1, e2, hq, h1, hL, h2, h3⟩, st⟩ | ⟨q, vm₁, ⟨U', l2, c2, s2⟩, hW₁, X', ⟨g', mk, t, L, E, ce, e1, e2, hq, hce, hcv, hcl, h1, hL, h2, h3⟩, st⟩
  · dsimp only [Pt.U, Pt.locs, Pt.cells, Pt.slots] at X' e1 e2 h1 h2 h3 st
    subst h1; subst h2; subst h3
    exact Or.inl ⟨v, (T.setVm vm₁).calling g' mk (Value.ref b :: As).toArray, t, U', L, hT, X', hL, e1, e2, hq, st⟩
  · dsimp only [Pt.U, Pt.locs, Pt.cells, Pt.slots] at X' e1 e2 h1 h2 h3 st hcl
    subst h1; subst h2; subst h3
    exact Or.inr ⟨q, (T.setVm vm₁).calling g' mk (Value.ref b :: As).toArray, t, U', L, E, ce, hT, X', hL, e1, e2, hq, hce, hcv, vx_cls hW₁ hcl, st⟩
theorem vx_runSX {hh : List (Nat × Nat × Nat × Nat)} (S : CallFix p m c cc nL s args Ts own) (hM : vx_Met l y ws rm Pc Qc XC mc ms free) (cw : vx_CSW R s args own index y bytes maxL ret hh ws rm mc ms n) (hp : PreS s H Pc As)
    (hg : g.method = m) (hn : As.length = n) (hsize : g.locals.size = nL) (hstack : g.stack = As.reverse ++ rest) (hW : 2 * g.monitorRoom + (rest.map fun v => v.category).sum ≤ 8) (hdg : decode cc g.pc = .ok (.invokestatic index, 3)) (hf : cells + mc ≤ R.cells ∧ slots + ms ≤ R.slots) :
    vx_Run p l e R s m args below meth c H locs cells slots mc ms g rest (Qc As.toArray) XC free := by
  obtain ⟨⟨hrc, hrs, hfr, hlo, hws, hcw⟩, hcode, hini, hy, hlen, hl, hstt⟩ := cw
  have hK : vx_Back l R p e below s args y 3 8 (PreOf R mc ms Pc) (PostOf Qc mc ms free) (vx_Post XC mc ms free) := vx_backW (hh := hh) (bytes := bytes) (maxL := maxL) (ret := ret) hM hp.1 hrc hrs hfr hlo hws hcw (fun a' U hW => word_at hW (Or.inl (by first | rfl | simp [Cond.onTables, Cond.keeps, Cond.steady])) hini)
  obtain ⟨hx, hb, hml, ho, -⟩ := S
  intro T hT X
  rcases vx_callSX X hx (hh := hh) (bytes := bytes) (maxL := maxL) (ret := ret) ho hl hstt hini hcode hy hK hg (hsize.trans hml.symm) (argsL := As) (rest := rest) (fun sig h => hn.trans (hlen sig h)) hstack hW (by rw [hb]; exact hdg)
    (fun vm₁ hW₁ => ⟨hf.1, hf.2, hp.2 (T.setVm vm₁) hT hW₁⟩) with ⟨v, vm₁, ⟨U', l2, c2, s2⟩, hW₁, X', ⟨g', mk, t, L, e1, e2, hq, h1, hL, h2, h3⟩, st⟩ | ⟨q, vm₁, ⟨U', l2, c2, s2⟩, hW₁, X', ⟨g', mk, t, L, E, ce, e1, e2, hq, hce, hcv, hcl, h1, hL, h2, h3⟩, st⟩
  · dsimp only [Pt.U, Pt.locs, Pt.cells, Pt.slots] at X' e1 e2 h1 h2 h3 st
    subst h1; subst h2; subst h3
    exact Or.inl ⟨v, (T.setVm vm₁).calling g' mk As.toArray, t, U', L, hT, X', hL, e1, e2, hq, st⟩
  · dsimp only [Pt.U, Pt.locs, Pt.cells, Pt.slots] at X' e1 e2 h1 h2 h3 st hcl
    subst h1; subst h2; subst h3
    exact Or.inr ⟨q, (T.setVm vm₁).calling g' mk As.toArray, t, U', L, E, ce, hT, X', hL, e1, e2, hq, hce, hcv, vx_cls hW₁ hcl, st⟩
end
end VXH
theorem vx_ofWH {l : Launch} {y : MethodName} {ws ws' : List Cond} {rm : Room} {Pc : Array Value → State → Prop} {Qc : Array Value → State → Outcome → State → Prop} {XC : String → State → State → Prop} {mc ms : Nat} {free : Addr → Prop} {cc : ByteArray} {maxL : Nat} {ret : Option FieldType} {hh : List (Nat × Nat × Nat × Nat)}
    (hy : plainName y.cls = true) (hw : ws = Cond.codeWith y cc maxL ret hh :: ws')
    (body : ∀ p e s m args below meth c s₁, BodyLoose p l y (headSpec ws rm) cc maxL ret e s m args below meth c s₁ → c.maxLocals = maxL → Pc args s →
      W p l e (headSpec ws rm).room s m args below meth c s.heap [] 0 0 (vx_MQ below Qc XC args s mc ms free) (entryFrame m args maxL)) : vx_Met l y ws rm Pc Qc XC mc ms free := by
  refine MetFree.of_bodyS (code := cc) (maxLocals := maxL) (ret := ret) hy ?_ ?_
  · intro args s m h hn
    obtain ⟨m9, meth, c, hn9, h1, h2, h3, h4, -, h5, h6, -⟩ := Cond.codeWith_spec (atoms_spec (ws := ws) h _ (by rw [hw]; exact List.mem_cons_self))
    cases hn.symm.trans hn9
    exact ⟨meth, c, h1, h2, h3, h4, h5, h6⟩
  · intro p e s m args below meth c s₁ B hml hP _
    have hh0 : s₁.heap = s.heap := by rw [B.state]; rfl
    obtain ⟨t, a1, o, b1, b2, b3⟩ := body p e s m args below meth c s₁ B hml hP s₁ hh0 (Stand.of_body B)
    exact ⟨t, o, a1, b1, b2, b3⟩
/-! ===== END ===== -/
end
section
def RX0 : String := "LatticeGestures$Commands"
def TX0 : u_T := fun k => match k with
  | 0 => ("LatticeGestures$Commands", "strokes", "[LLatticeGestures$Row;", true)
  | 1 => ("LatticeGestures$Commands", "nothing", "LLatticeGestures$Row;", true)
  | _ => ("LatticeGestures$Commands", "held", "I", false)
def tyX0 : Nat → FieldType := fun k => match k with
  | 0 => .array (.object "LatticeGestures$Row")
  | 1 => .object "LatticeGestures$Row"
  | _ => .int
abbrev wsX00 : List Cond := u_ws RX0 TX0 3
theorem nmX0 : ∀ a, a < 3 → ∀ b, b < 3 → a ≠ b → (TX0 a).2.1 ≠ (TX0 b).2.1 := by decide +kernel
theorem tyX0_ok : ∀ k, k < 3 → parseFieldDescriptor (TX0 k).2.2.1 = some (tyX0 k) := by decide +kernel
abbrev cX0_init : ByteArray := prog_2_method_1_code
def yX0_init : MethodName := ⟨RX0, "<init>", "()V"⟩
abbrev cX0_held : ByteArray := prog_2_method_2_code
def yX0_held : MethodName := ⟨RX0, "held", "()I"⟩
abbrev cX0_directions : ByteArray := prog_2_method_3_code
def yX0_directions : MethodName := ⟨RX0, "directions", "(I)LLatticeGestures$Row;"⟩
abbrev cX0_allDirections : ByteArray := prog_2_method_4_code
def yX0_allDirections : MethodName := ⟨RX0, "allDirections", "()I"⟩
abbrev cX0_add : ByteArray := prog_2_method_5_code
def yX0_add : MethodName := ⟨RX0, "add", "(LLatticeGestures$Row;)V"⟩
abbrev cX0_remove : ByteArray := prog_2_method_6_code
def yX0_remove : MethodName := ⟨RX0, "remove", "(I)V"⟩
abbrev cX0_copy : ByteArray := prog_2_method_7_code
def yX0_copy : MethodName := ⟨RX0, "copy", "(LLatticeGestures$Commands;)V"⟩
def RX1 : String := "LatticeGestures$History"
def TX1 : u_T := fun k => match k with
  | 0 => ("LatticeGestures$History", "ring", "[LLatticeGestures$State;", true)
  | 1 => ("LatticeGestures$History", "oldest", "I", false)
  | _ => ("LatticeGestures$History", "held", "I", false)
def tyX1 : Nat → FieldType := fun k => match k with
  | 0 => .array (.object "LatticeGestures$State")
  | 1 => .int
  | _ => .int
abbrev wsX10 : List Cond := u_ws RX1 TX1 3
theorem nmX1 : ∀ a, a < 3 → ∀ b, b < 3 → a ≠ b → (TX1 a).2.1 ≠ (TX1 b).2.1 := by decide +kernel
theorem tyX1_ok : ∀ k, k < 3 → parseFieldDescriptor (TX1 k).2.2.1 = some (tyX1 k) := by decide +kernel
abbrev cX1_init : ByteArray := prog_3_method_1_code
def yX1_init : MethodName := ⟨RX1, "<init>", "()V"⟩
abbrev cX1_held : ByteArray := prog_3_method_2_code
def yX1_held : MethodName := ⟨RX1, "held", "()I"⟩
abbrev cX1_keep : ByteArray := prog_3_method_3_code
def yX1_keep : MethodName := ⟨RX1, "keep", "(LLatticeGestures$State;)V"⟩
abbrev cX1_giveBack : ByteArray := prog_3_method_4_code
def yX1_giveBack : MethodName := ⟨RX1, "giveBack", "(LLatticeGestures$State;)V"⟩
abbrev cX1_saved : ByteArray := prog_3_method_5_code
def yX1_saved : MethodName := ⟨RX1, "saved", "(I)LLatticeGestures$State;"⟩
def RX2 : String := "LatticeGestures$Meter"
def TX2 : u_T := fun k => match k with
  | _ => ("LatticeGestures$Meter", "costs", "LLatticeGestures$Row;", true)
def tyX2 : Nat → FieldType := fun k => match k with
  | _ => .object "LatticeGestures$Row"
abbrev wsX20 : List Cond := u_ws RX2 TX2 1
theorem nmX2 : ∀ a, a < 1 → ∀ b, b < 1 → a ≠ b → (TX2 a).2.1 ≠ (TX2 b).2.1 := by decide +kernel
theorem tyX2_ok : ∀ k, k < 1 → parseFieldDescriptor (TX2 k).2.2.1 = some (tyX2 k) := by decide +kernel
abbrev cX2_init : ByteArray := prog_4_method_1_code
def yX2_init : MethodName := ⟨RX2, "<init>", "()V"⟩
abbrev cX2_measure : ByteArray := prog_4_method_2_code
def yX2_measure : MethodName := ⟨RX2, "measure", "(LLatticeGestures$Row;LLatticeGestures$Row;LLatticeGestures$Row;)V"⟩
abbrev cX2_takeIn : ByteArray := prog_4_method_3_code
def yX2_takeIn : MethodName := ⟨RX2, "takeIn", "(ILLatticeGestures$Row;II)V"⟩
abbrev cX2_whole : ByteArray := prog_4_method_4_code
def yX2_whole : MethodName := ⟨RX2, "whole", "()I"⟩
abbrev cX2_leastRest : ByteArray := prog_4_method_5_code
def yX2_leastRest : MethodName := ⟨RX2, "leastRest", "(I)I"⟩
def RX3 : String := "LatticeGestures$Path"
def TX3 : u_T := fun k => match k with
  | 0 => ("LatticeGestures$Path", "xs", "LLatticeGestures$Row;", true)
  | _ => ("LatticeGestures$Path", "ys", "LLatticeGestures$Row;", true)
def tyX3 : Nat → FieldType := fun k => match k with
  | 0 => .object "LatticeGestures$Row"
  | _ => .object "LatticeGestures$Row"
abbrev wsX30 : List Cond := u_ws RX3 TX3 2
theorem nmX3 : ∀ a, a < 2 → ∀ b, b < 2 → a ≠ b → (TX3 a).2.1 ≠ (TX3 b).2.1 := by decide +kernel
theorem tyX3_ok : ∀ k, k < 2 → parseFieldDescriptor (TX3 k).2.2.1 = some (tyX3 k) := by decide +kernel
abbrev cX3_init : ByteArray := prog_5_method_1_code
def yX3_init : MethodName := ⟨RX3, "<init>", "()V"⟩
abbrev cX3_held : ByteArray := prog_5_method_2_code
def yX3_held : MethodName := ⟨RX3, "held", "()I"⟩
abbrev cX3_x : ByteArray := prog_5_method_3_code
def yX3_x : MethodName := ⟨RX3, "x", "(I)I"⟩
abbrev cX3_y : ByteArray := prog_5_method_4_code
def yX3_y : MethodName := ⟨RX3, "y", "(I)I"⟩
abbrev cX3_add : ByteArray := prog_5_method_5_code
def yX3_add : MethodName := ⟨RX3, "add", "(II)V"⟩
abbrev cX3_cut : ByteArray := prog_5_method_6_code
def yX3_cut : MethodName := ⟨RX3, "cut", "(I)V"⟩
abbrev cX3_copy : ByteArray := prog_5_method_7_code
def yX3_copy : MethodName := ⟨RX3, "copy", "(LLatticeGestures$Path;)V"⟩
abbrev cX3_directionTo : ByteArray := prog_5_method_8_code
def yX3_directionTo : MethodName := ⟨RX3, "directionTo", "(I)I"⟩
abbrev cX3_lengthTo : ByteArray := prog_5_method_9_code
def yX3_lengthTo : MethodName := ⟨RX3, "lengthTo", "(I)I"⟩
abbrev cX3_isEvenTo : ByteArray := prog_5_method_10_code
def yX3_isEvenTo : MethodName := ⟨RX3, "isEvenTo", "(I)Z"⟩
abbrev cX3_reach : ByteArray := prog_5_method_11_code
def yX3_reach : MethodName := ⟨RX3, "reach", "()I"⟩
abbrev cX3_difference : ByteArray := prog_5_method_12_code
def yX3_difference : MethodName := ⟨RX3, "difference", "(LLatticeGestures$Row;I)I"⟩
def RX4 : String := "LatticeGestures$Row"
def TX4 : u_T := fun k => match k with
  | 0 => ("LatticeGestures$Row", "cells", "[I", true)
  | _ => ("LatticeGestures$Row", "held", "I", false)
def tyX4 : Nat → FieldType := fun k => match k with
  | 0 => .array .int
  | _ => .int
abbrev wsX40 : List Cond := u_ws RX4 TX4 2
theorem nmX4 : ∀ a, a < 2 → ∀ b, b < 2 → a ≠ b → (TX4 a).2.1 ≠ (TX4 b).2.1 := by decide +kernel
theorem tyX4_ok : ∀ k, k < 2 → parseFieldDescriptor (TX4 k).2.2.1 = some (tyX4 k) := by decide +kernel
abbrev cX4_init : ByteArray := prog_6_method_1_code
def yX4_init : MethodName := ⟨RX4, "<init>", "(I)V"⟩
abbrev cX4_held : ByteArray := prog_6_method_2_code
def yX4_held : MethodName := ⟨RX4, "held", "()I"⟩
abbrev cX4_at : ByteArray := prog_6_method_3_code
def yX4_at : MethodName := ⟨RX4, "at", "(I)I"⟩
abbrev cX4_put : ByteArray := prog_6_method_4_code
def yX4_put : MethodName := ⟨RX4, "put", "(II)V"⟩
abbrev cX4_add : ByteArray := prog_6_method_5_code
def yX4_add : MethodName := ⟨RX4, "add", "(I)V"⟩
abbrev cX4_cut : ByteArray := prog_6_method_6_code
def yX4_cut : MethodName := ⟨RX4, "cut", "(I)V"⟩
abbrev cX4_clear : ByteArray := prog_6_method_7_code
def yX4_clear : MethodName := ⟨RX4, "clear", "()V"⟩
abbrev cX4_remove : ByteArray := prog_6_method_8_code
def yX4_remove : MethodName := ⟨RX4, "remove", "(I)V"⟩
abbrev cX4_copy : ByteArray := prog_6_method_9_code
def yX4_copy : MethodName := ⟨RX4, "copy", "(LLatticeGestures$Row;)V"⟩
abbrev cX4_sum : ByteArray := prog_6_method_10_code
def yX4_sum : MethodName := ⟨RX4, "sum", "()I"⟩
def RX5 : String := "LatticeGestures$State"
def TX5 : u_T := fun k => match k with
  | 0 => ("LatticeGestures$State", "path", "LLatticeGestures$Path;", true)
  | 1 => ("LatticeGestures$State", "commands", "LLatticeGestures$Commands;", true)
  | _ => ("LatticeGestures$State", "settings", "LLatticeGestures$Row;", true)
def tyX5 : Nat → FieldType := fun k => match k with
  | 0 => .object "LatticeGestures$Path"
  | 1 => .object "LatticeGestures$Commands"
  | _ => .object "LatticeGestures$Row"
abbrev wsX50 : List Cond := u_ws RX5 TX5 3
theorem nmX5 : ∀ a, a < 3 → ∀ b, b < 3 → a ≠ b → (TX5 a).2.1 ≠ (TX5 b).2.1 := by decide +kernel
theorem tyX5_ok : ∀ k, k < 3 → parseFieldDescriptor (TX5 k).2.2.1 = some (tyX5 k) := by decide +kernel
abbrev cX5_init : ByteArray := prog_7_method_1_code
def yX5_init : MethodName := ⟨RX5, "<init>", "()V"⟩
abbrev cX5_copy : ByteArray := prog_7_method_2_code
def yX5_copy : MethodName := ⟨RX5, "copy", "(LLatticeGestures$State;)V"⟩
def RX6 : String := "LatticeGestures$View"
def TX6 : u_T := fun k => match k with
  | 0 => ("LatticeGestures$View", "meter", "LLatticeGestures$Meter;", true)
  | 1 => ("LatticeGestures$View", "directions", "LLatticeGestures$Row;", true)
  | 2 => ("LatticeGestures$View", "lengths", "LLatticeGestures$Row;", true)
  | 3 => ("LatticeGestures$View", "kept", "LLatticeGestures$Row;", true)
  | 4 => ("LatticeGestures$View", "keptLengths", "LLatticeGestures$Row;", true)
  | 5 => ("LatticeGestures$View", "distances", "LLatticeGestures$Row;", true)
  | 6 => ("LatticeGestures$View", "rests", "LLatticeGestures$Row;", true)
  | _ => ("LatticeGestures$View", "dropped", "I", false)
def tyX6 : Nat → FieldType := fun k => match k with
  | 0 => .object "LatticeGestures$Meter"
  | 1 => .object "LatticeGestures$Row"
  | 2 => .object "LatticeGestures$Row"
  | 3 => .object "LatticeGestures$Row"
  | 4 => .object "LatticeGestures$Row"
  | 5 => .object "LatticeGestures$Row"
  | 6 => .object "LatticeGestures$Row"
  | _ => .int
abbrev wsX60 : List Cond := u_ws RX6 TX6 8
theorem nmX6 : ∀ a, a < 8 → ∀ b, b < 8 → a ≠ b → (TX6 a).2.1 ≠ (TX6 b).2.1 := by decide +kernel
theorem tyX6_ok : ∀ k, k < 8 → parseFieldDescriptor (TX6 k).2.2.1 = some (tyX6 k) := by decide +kernel
abbrev cX6_init : ByteArray := prog_8_method_1_code
def yX6_init : MethodName := ⟨RX6, "<init>", "()V"⟩
abbrev cX6_look : ByteArray := prog_8_method_2_code
def yX6_look : MethodName := ⟨RX6, "look", "(LLatticeGestures$Path;LLatticeGestures$State;)V"⟩
abbrev cX6_findRuns : ByteArray := prog_8_method_3_code
def yX6_findRuns : MethodName := ⟨RX6, "findRuns", "(LLatticeGestures$Path;)V"⟩
abbrev cX6_forgive : ByteArray := prog_8_method_4_code
def yX6_forgive : MethodName := ⟨RX6, "forgive", "(LLatticeGestures$Row;)V"⟩
abbrev cX6_firstToDrop : ByteArray := prog_8_method_5_code
def yX6_firstToDrop : MethodName := ⟨RX6, "firstToDrop", "(LLatticeGestures$Row;)I"⟩
abbrev cX6_drop : ByteArray := prog_8_method_6_code
def yX6_drop : MethodName := ⟨RX6, "drop", "(I)V"⟩
abbrev cX6_readAs : ByteArray := prog_8_method_7_code
def yX6_readAs : MethodName := ⟨RX6, "readAs", "(LLatticeGestures$Row;)I"⟩
abbrev cX6_nearestBut : ByteArray := prog_8_method_8_code
def yX6_nearestBut : MethodName := ⟨RX6, "nearestBut", "(I)I"⟩
abbrev cX6_canBecome : ByteArray := prog_8_method_9_code
def yX6_canBecome : MethodName := ⟨RX6, "canBecome", "()I"⟩
abbrev cX6_stillToCome : ByteArray := prog_8_method_10_code
def yX6_stillToCome : MethodName := ⟨RX6, "stillToCome", "()I"⟩
def RX7 : String := "LatticeGestures"
def TX7 : u_T := fun k => match k with
  | 0 => ("LatticeGestures", "now", "LLatticeGestures$State;", true)
  | 1 => ("LatticeGestures", "history", "LLatticeGestures$History;", true)
  | 2 => ("LatticeGestures", "buffer", "LLatticeGestures$Row;", true)
  | 3 => ("LatticeGestures", "view", "LLatticeGestures$View;", true)
  | 4 => ("LatticeGestures", "meter", "LLatticeGestures$Meter;", true)
  | 5 => ("LatticeGestures", "triedPath", "LLatticeGestures$Path;", true)
  | 6 => ("LatticeGestures", "triedView", "LLatticeGestures$View;", true)
  | 7 => ("LatticeGestures", "triedSettings", "LLatticeGestures$Row;", true)
  | _ => ("LatticeGestures", "triedStroke", "LLatticeGestures$Row;", true)
def tyX7 : Nat → FieldType := fun k => match k with
  | 0 => .object "LatticeGestures$State"
  | 1 => .object "LatticeGestures$History"
  | 2 => .object "LatticeGestures$Row"
  | 3 => .object "LatticeGestures$View"
  | 4 => .object "LatticeGestures$Meter"
  | 5 => .object "LatticeGestures$Path"
  | 6 => .object "LatticeGestures$View"
  | 7 => .object "LatticeGestures$Row"
  | _ => .object "LatticeGestures$Row"
abbrev wsX70 : List Cond := u_ws RX7 TX7 9
theorem nmX7 : ∀ a, a < 9 → ∀ b, b < 9 → a ≠ b → (TX7 a).2.1 ≠ (TX7 b).2.1 := by decide +kernel
theorem tyX7_ok : ∀ k, k < 9 → parseFieldDescriptor (TX7 k).2.2.1 = some (tyX7 k) := by decide +kernel
abbrev cX7_init : ByteArray := prog_1_method_1_code
def yX7_init : MethodName := ⟨RX7, "<init>", "()V"⟩
abbrev cX7_point : ByteArray := prog_1_method_2_code
def yX7_point : MethodName := ⟨RX7, "point", "(II)I"⟩
abbrev cX7_go : ByteArray := prog_1_method_3_code
def yX7_go : MethodName := ⟨RX7, "go", "(II)I"⟩
abbrev cX7_back : ByteArray := prog_1_method_4_code
def yX7_back : MethodName := ⟨RX7, "back", "(I)I"⟩
abbrev cX7_begin : ByteArray := prog_1_method_5_code
def yX7_begin : MethodName := ⟨RX7, "begin", "()I"⟩
abbrev cX7_turn : ByteArray := prog_1_method_6_code
def yX7_turn : MethodName := ⟨RX7, "turn", "(I)I"⟩
abbrev cX7_learn : ByteArray := prog_1_method_7_code
def yX7_learn : MethodName := ⟨RX7, "learn", "()I"⟩
abbrev cX7_read : ByteArray := prog_1_method_8_code
def yX7_read : MethodName := ⟨RX7, "read", "()I"⟩
abbrev cX7_forget : ByteArray := prog_1_method_9_code
def yX7_forget : MethodName := ⟨RX7, "forget", "(I)I"⟩
abbrev cX7_set : ByteArray := prog_1_method_10_code
def yX7_set : MethodName := ⟨RX7, "set", "(II)I"⟩
abbrev cX7_append : ByteArray := prog_1_method_11_code
def yX7_append : MethodName := ⟨RX7, "append", "(I)I"⟩
abbrev cX7_clearBuffer : ByteArray := prog_1_method_12_code
def yX7_clearBuffer : MethodName := ⟨RX7, "clearBuffer", "()I"⟩
abbrev cX7_firstError : ByteArray := prog_1_method_13_code
def yX7_firstError : MethodName := ⟨RX7, "firstError", "()I"⟩
abbrev cX7_undo : ByteArray := prog_1_method_14_code
def yX7_undo : MethodName := ⟨RX7, "undo", "()I"⟩
abbrev cX7_pointOf : ByteArray := prog_1_method_15_code
def yX7_pointOf : MethodName := ⟨RX7, "pointOf", "(II)I"⟩
abbrev cX7_run : ByteArray := prog_1_method_16_code
def yX7_run : MethodName := ⟨RX7, "run", "(II)I"⟩
abbrev cX7_stroke : ByteArray := prog_1_method_17_code
def yX7_stroke : MethodName := ⟨RX7, "stroke", "(I)I"⟩
abbrev cX7_strokeOf : ByteArray := prog_1_method_18_code
def yX7_strokeOf : MethodName := ⟨RX7, "strokeOf", "(II)I"⟩
abbrev cX7_distance : ByteArray := prog_1_method_19_code
def yX7_distance : MethodName := ⟨RX7, "distance", "(II)I"⟩
abbrev cX7_reading : ByteArray := prog_1_method_20_code
def yX7_reading : MethodName := ⟨RX7, "reading", "(I)I"⟩
abbrev cX7_count : ByteArray := prog_1_method_21_code
def yX7_count : MethodName := ⟨RX7, "count", "(I)I"⟩
abbrev cX7_setting : ByteArray := prog_1_method_22_code
def yX7_setting : MethodName := ⟨RX7, "setting", "(I)I"⟩
abbrev cX7_ifPoint : ByteArray := prog_1_method_23_code
def yX7_ifPoint : MethodName := ⟨RX7, "ifPoint", "(II)I"⟩
abbrev cX7_against : ByteArray := prog_1_method_24_code
def yX7_against : MethodName := ⟨RX7, "against", "()I"⟩
abbrev cX7_mostForgiven : ByteArray := prog_1_method_25_code
def yX7_mostForgiven : MethodName := ⟨RX7, "mostForgiven", "()I"⟩
abbrev cX7_straightness : ByteArray := prog_1_method_26_code
def yX7_straightness : MethodName := ⟨RX7, "straightness", "()I"⟩
abbrev cX7_doubt : ByteArray := prog_1_method_27_code
def yX7_doubt : MethodName := ⟨RX7, "doubt", "()D"⟩
abbrev cX7_digest : ByteArray := prog_1_method_28_code
def yX7_digest : MethodName := ⟨RX7, "digest", "()J"⟩
abbrev cX7_lookAgain : ByteArray := prog_1_method_29_code
def yX7_lookAgain : MethodName := ⟨RX7, "lookAgain", "()V"⟩
abbrev cX7_isCommand : ByteArray := prog_1_method_30_code
def yX7_isCommand : MethodName := ⟨RX7, "isCommand", "(I)Z"⟩
abbrev cX7_isSetting : ByteArray := prog_1_method_31_code
def yX7_isSetting : MethodName := ⟨RX7, "isSetting", "(I)Z"⟩
abbrev cX7_isDirection : ByteArray := prog_1_method_32_code
def yX7_isDirection : MethodName := ⟨RX7, "isDirection", "(I)Z"⟩
abbrev cX7_isOnLattice : ByteArray := prog_1_method_33_code
def yX7_isOnLattice : MethodName := ⟨RX7, "isOnLattice", "(II)Z"⟩
abbrev cX7_of : ByteArray := prog_1_method_34_code
def yX7_of : MethodName := ⟨RX7, "of", "([II)I"⟩
abbrev cX7_stepsWithin : ByteArray := prog_1_method_35_code
def yX7_stepsWithin : MethodName := ⟨RX7, "stepsWithin", "(II)I"⟩
abbrev cX7_canLayTurned : ByteArray := prog_1_method_36_code
def yX7_canLayTurned : MethodName := ⟨RX7, "canLayTurned", "(I)Z"⟩
abbrev cX7_isTooNear : ByteArray := prog_1_method_37_code
def yX7_isTooNear : MethodName := ⟨RX7, "isTooNear", "(LLatticeGestures$Row;)Z"⟩
abbrev cX7_addCommand : ByteArray := prog_1_method_38_code
def yX7_addCommand : MethodName := ⟨RX7, "addCommand", "(LLatticeGestures$Row;)I"⟩
abbrev cX7_leastApart : ByteArray := prog_1_method_39_code
def yX7_leastApart : MethodName := ⟨RX7, "leastApart", "(LLatticeGestures$Row;)I"⟩
abbrev cX7_withPath : ByteArray := prog_1_method_40_code
def yX7_withPath : MethodName := ⟨RX7, "withPath", "(J)J"⟩
abbrev cX7_withCommands : ByteArray := prog_1_method_41_code
def yX7_withCommands : MethodName := ⟨RX7, "withCommands", "(J)J"⟩
abbrev cX7_floatBits : ByteArray := prog_1_method_42_code
def yX7_floatBits : MethodName := ⟨RX7, "floatBits", "(F)I"⟩
abbrev cX7_doubleBits : ByteArray := prog_1_method_43_code
def yX7_doubleBits : MethodName := ⟨RX7, "doubleBits", "(D)J"⟩
abbrev cX7_eighthsBetween : ByteArray := prog_1_method_44_code
def yX7_eighthsBetween : MethodName := ⟨RX7, "eighthsBetween", "(II)I"⟩
abbrev cX7_isCutCorner : ByteArray := prog_1_method_45_code
def yX7_isCutCorner : MethodName := ⟨RX7, "isCutCorner", "(LLatticeGestures$Row;LLatticeGestures$Row;II)Z"⟩
def RX8 : String := "LatticeGesturesModel"
def TX8 : u_T := fun k => match k with
  | 0 => ("LatticeGesturesModel", "z", "[I", true)
  | 1 => ("LatticeGesturesModel", "states", "I", false)
  | 2 => ("LatticeGesturesModel", "history", "[I", true)
  | 3 => ("LatticeGesturesModel", "length", "I", false)
  | 4 => ("LatticeGesturesModel", "text", "[I", true)
  | 5 => ("LatticeGesturesModel", "thrown", "I", false)
  | 6 => ("LatticeGesturesModel", "xs", "[I", true)
  | 7 => ("LatticeGesturesModel", "ys", "[I", true)
  | 8 => ("LatticeGesturesModel", "pathPoints", "I", false)
  | 9 => ("LatticeGesturesModel", "runDirection", "[I", true)
  | 10 => ("LatticeGesturesModel", "runLength", "[I", true)
  | 11 => ("LatticeGesturesModel", "runs", "I", false)
  | 12 => ("LatticeGesturesModel", "stroke", "[I", true)
  | 13 => ("LatticeGesturesModel", "strokeMany", "I", false)
  | 14 => ("LatticeGesturesModel", "sums", "[I", true)
  | 15 => ("LatticeGesturesModel", "turnedXs", "[I", true)
  | 16 => ("LatticeGesturesModel", "turnedYs", "[I", true)
  | _ => ("LatticeGesturesModel", "hash", "J", false)
def tyX8 : Nat → FieldType := fun k => match k with
  | 0 => .array .int
  | 1 => .int
  | 2 => .array .int
  | 3 => .int
  | 4 => .array .int
  | 5 => .int
  | 6 => .array .int
  | 7 => .array .int
  | 8 => .int
  | 9 => .array .int
  | 10 => .array .int
  | 11 => .int
  | 12 => .array .int
  | 13 => .int
  | 14 => .array .int
  | 15 => .array .int
  | 16 => .array .int
  | _ => .long
abbrev wsX80 : List Cond := u_ws RX8 TX8 18
theorem nmX8 : ∀ a, a < 18 → ∀ b, b < 18 → a ≠ b → (TX8 a).2.1 ≠ (TX8 b).2.1 := by decide +kernel
theorem tyX8_ok : ∀ k, k < 18 → parseFieldDescriptor (TX8 k).2.2.1 = some (tyX8 k) := by decide +kernel
abbrev cX8_init : ByteArray := prog_10_method_1_code
def yX8_init : MethodName := ⟨RX8, "<init>", "()V"⟩
abbrev cX8_thrown : ByteArray := prog_10_method_2_code
def yX8_thrown : MethodName := ⟨RX8, "thrown", "()I"⟩
abbrev cX8_within : ByteArray := prog_10_method_3_code
def yX8_within : MethodName := ⟨RX8, "within", "(III)Z"⟩
abbrev cX8_save : ByteArray := prog_10_method_4_code
def yX8_save : MethodName := ⟨RX8, "save", "()V"⟩
abbrev cX8_size : ByteArray := prog_10_method_5_code
def yX8_size : MethodName := ⟨RX8, "size", "(I)I"⟩
abbrev cX8_greater : ByteArray := prog_10_method_6_code
def yX8_greater : MethodName := ⟨RX8, "greater", "(II)I"⟩
abbrev cX8_isOnLattice : ByteArray := prog_10_method_7_code
def yX8_isOnLattice : MethodName := ⟨RX8, "isOnLattice", "(II)Z"⟩
abbrev cX8_isDirection : ByteArray := prog_10_method_8_code
def yX8_isDirection : MethodName := ⟨RX8, "isDirection", "(I)Z"⟩
abbrev cX8_isCommand : ByteArray := prog_10_method_9_code
def yX8_isCommand : MethodName := ⟨RX8, "isCommand", "(I)Z"⟩
abbrev cX8_directionsOf : ByteArray := prog_10_method_10_code
def yX8_directionsOf : MethodName := ⟨RX8, "directionsOf", "(I)I"⟩
abbrev cX8_directionOf : ByteArray := prog_10_method_11_code
def yX8_directionOf : MethodName := ⟨RX8, "directionOf", "(II)I"⟩
abbrev cX8_across : ByteArray := prog_10_method_12_code
def yX8_across : MethodName := ⟨RX8, "across", "(I)I"⟩
abbrev cX8_down : ByteArray := prog_10_method_13_code
def yX8_down : MethodName := ⟨RX8, "down", "(I)I"⟩
abbrev cX8_directionBy : ByteArray := prog_10_method_14_code
def yX8_directionBy : MethodName := ⟨RX8, "directionBy", "(II)I"⟩
abbrev cX8_eighths : ByteArray := prog_10_method_15_code
def yX8_eighths : MethodName := ⟨RX8, "eighths", "(II)I"⟩
abbrev cX8_takePath : ByteArray := prog_10_method_16_code
def yX8_takePath : MethodName := ⟨RX8, "takePath", "()V"⟩
abbrev cX8_stepDirection : ByteArray := prog_10_method_17_code
def yX8_stepDirection : MethodName := ⟨RX8, "stepDirection", "(I)I"⟩
abbrev cX8_stepLength : ByteArray := prog_10_method_18_code
def yX8_stepLength : MethodName := ⟨RX8, "stepLength", "(I)I"⟩
abbrev cX8_layRuns : ByteArray := prog_10_method_19_code
def yX8_layRuns : MethodName := ⟨RX8, "layRuns", "()V"⟩
abbrev cX8_isShort : ByteArray := prog_10_method_20_code
def yX8_isShort : MethodName := ⟨RX8, "isShort", "(I)Z"⟩
abbrev cX8_isCorner : ByteArray := prog_10_method_21_code
def yX8_isCorner : MethodName := ⟨RX8, "isCorner", "(I)Z"⟩
abbrev cX8_firstForgiven : ByteArray := prog_10_method_22_code
def yX8_firstForgiven : MethodName := ⟨RX8, "firstForgiven", "()I"⟩
abbrev cX8_removeRun : ByteArray := prog_10_method_23_code
def yX8_removeRun : MethodName := ⟨RX8, "removeRun", "(I)V"⟩
abbrev cX8_forgive : ByteArray := prog_10_method_24_code
def yX8_forgive : MethodName := ⟨RX8, "forgive", "()I"⟩
abbrev cX8_layStroke : ByteArray := prog_10_method_25_code
def yX8_layStroke : MethodName := ⟨RX8, "layStroke", "()V"⟩
abbrev cX8_pathStroke : ByteArray := prog_10_method_26_code
def yX8_pathStroke : MethodName := ⟨RX8, "pathStroke", "()V"⟩
abbrev cX8_commandStroke : ByteArray := prog_10_method_27_code
def yX8_commandStroke : MethodName := ⟨RX8, "commandStroke", "(I)V"⟩
abbrev cX8_layDistances : ByteArray := prog_10_method_28_code
def yX8_layDistances : MethodName := ⟨RX8, "layDistances", "(I)V"⟩
abbrev cX8_distanceFrom : ByteArray := prog_10_method_29_code
def yX8_distanceFrom : MethodName := ⟨RX8, "distanceFrom", "(I)I"⟩
abbrev cX8_distanceOf : ByteArray := prog_10_method_30_code
def yX8_distanceOf : MethodName := ⟨RX8, "distanceOf", "(II)I"⟩
abbrev cX8_leastDistance : ByteArray := prog_10_method_31_code
def yX8_leastDistance : MethodName := ⟨RX8, "leastDistance", "()I"⟩
abbrev cX8_nearest : ByteArray := prog_10_method_32_code
def yX8_nearest : MethodName := ⟨RX8, "nearest", "(I)I"⟩
abbrev cX8_tooNear : ByteArray := prog_10_method_33_code
def yX8_tooNear : MethodName := ⟨RX8, "tooNear", "()I"⟩
abbrev cX8_readAs : ByteArray := prog_10_method_34_code
def yX8_readAs : MethodName := ⟨RX8, "readAs", "()I"⟩
abbrev cX8_longestBeginning : ByteArray := prog_10_method_35_code
def yX8_longestBeginning : MethodName := ⟨RX8, "longestBeginning", "(I)I"⟩
abbrev cX8_canBecome : ByteArray := prog_10_method_36_code
def yX8_canBecome : MethodName := ⟨RX8, "canBecome", "()I"⟩
abbrev cX8_toCome : ByteArray := prog_10_method_37_code
def yX8_toCome : MethodName := ⟨RX8, "toCome", "()I"⟩
abbrev cX8_addPoint : ByteArray := prog_10_method_38_code
def yX8_addPoint : MethodName := ⟨RX8, "addPoint", "(II)V"⟩
abbrev cX8_point : ByteArray := prog_10_method_39_code
def yX8_point : MethodName := ⟨RX8, "point", "(II)I"⟩
abbrev cX8_lastPart : ByteArray := prog_10_method_40_code
def yX8_lastPart : MethodName := ⟨RX8, "lastPart", "(I)I"⟩
abbrev cX8_stepsFor : ByteArray := prog_10_method_41_code
def yX8_stepsFor : MethodName := ⟨RX8, "stepsFor", "(II)I"⟩
abbrev cX8_go : ByteArray := prog_10_method_42_code
def yX8_go : MethodName := ⟨RX8, "go", "(II)I"⟩
abbrev cX8_clearFrom : ByteArray := prog_10_method_43_code
def yX8_clearFrom : MethodName := ⟨RX8, "clearFrom", "(I)V"⟩
abbrev cX8_back : ByteArray := prog_10_method_44_code
def yX8_back : MethodName := ⟨RX8, "back", "(I)I"⟩
abbrev cX8_begin : ByteArray := prog_10_method_45_code
def yX8_begin : MethodName := ⟨RX8, "begin", "()I"⟩
abbrev cX8_canTurn : ByteArray := prog_10_method_46_code
def yX8_canTurn : MethodName := ⟨RX8, "canTurn", "(I)Z"⟩
abbrev cX8_turn : ByteArray := prog_10_method_47_code
def yX8_turn : MethodName := ⟨RX8, "turn", "(I)I"⟩
abbrev cX8_canLearn : ByteArray := prog_10_method_48_code
def yX8_canLearn : MethodName := ⟨RX8, "canLearn", "()Z"⟩
abbrev cX8_learns : ByteArray := prog_10_method_49_code
def yX8_learns : MethodName := ⟨RX8, "learns", "()I"⟩
abbrev cX8_learn : ByteArray := prog_10_method_50_code
def yX8_learn : MethodName := ⟨RX8, "learn", "()I"⟩
abbrev cX8_forget : ByteArray := prog_10_method_51_code
def yX8_forget : MethodName := ⟨RX8, "forget", "(I)I"⟩
abbrev cX8_isSetting : ByteArray := prog_10_method_52_code
def yX8_isSetting : MethodName := ⟨RX8, "isSetting", "(I)Z"⟩
abbrev cX8_isValue : ByteArray := prog_10_method_53_code
def yX8_isValue : MethodName := ⟨RX8, "isValue", "(II)Z"⟩
abbrev cX8_areApart : ByteArray := prog_10_method_54_code
def yX8_areApart : MethodName := ⟨RX8, "areApart", "()Z"⟩
abbrev cX8_set : ByteArray := prog_10_method_55_code
def yX8_set : MethodName := ⟨RX8, "set", "(II)I"⟩
abbrev cX8_append : ByteArray := prog_10_method_56_code
def yX8_append : MethodName := ⟨RX8, "append", "(I)I"⟩
abbrev cX8_clearBuffer : ByteArray := prog_10_method_57_code
def yX8_clearBuffer : MethodName := ⟨RX8, "clearBuffer", "()I"⟩
abbrev cX8_rightUpTo : ByteArray := prog_10_method_58_code
def yX8_rightUpTo : MethodName := ⟨RX8, "rightUpTo", "()I"⟩
abbrev cX8_firstError : ByteArray := prog_10_method_59_code
def yX8_firstError : MethodName := ⟨RX8, "firstError", "()I"⟩
abbrev cX8_read : ByteArray := prog_10_method_60_code
def yX8_read : MethodName := ⟨RX8, "read", "()I"⟩
abbrev cX8_undo : ByteArray := prog_10_method_61_code
def yX8_undo : MethodName := ⟨RX8, "undo", "()I"⟩
abbrev cX8_pointNow : ByteArray := prog_10_method_62_code
def yX8_pointNow : MethodName := ⟨RX8, "pointNow", "(II)I"⟩
abbrev cX8_pointOf : ByteArray := prog_10_method_63_code
def yX8_pointOf : MethodName := ⟨RX8, "pointOf", "(II)I"⟩
abbrev cX8_runNow : ByteArray := prog_10_method_64_code
def yX8_runNow : MethodName := ⟨RX8, "runNow", "(II)I"⟩
abbrev cX8_run : ByteArray := prog_10_method_65_code
def yX8_run : MethodName := ⟨RX8, "run", "(II)I"⟩
abbrev cX8_strokeNow : ByteArray := prog_10_method_66_code
def yX8_strokeNow : MethodName := ⟨RX8, "strokeNow", "(I)I"⟩
abbrev cX8_stroke : ByteArray := prog_10_method_67_code
def yX8_stroke : MethodName := ⟨RX8, "stroke", "(I)I"⟩
abbrev cX8_strokeOf : ByteArray := prog_10_method_68_code
def yX8_strokeOf : MethodName := ⟨RX8, "strokeOf", "(II)I"⟩
abbrev cX8_pathDistance : ByteArray := prog_10_method_69_code
def yX8_pathDistance : MethodName := ⟨RX8, "pathDistance", "(I)I"⟩
abbrev cX8_distance : ByteArray := prog_10_method_70_code
def yX8_distance : MethodName := ⟨RX8, "distance", "(II)I"⟩
abbrev cX8_nearestDistance : ByteArray := prog_10_method_71_code
def yX8_nearestDistance : MethodName := ⟨RX8, "nearestDistance", "()I"⟩
abbrev cX8_readingNow : ByteArray := prog_10_method_72_code
def yX8_readingNow : MethodName := ⟨RX8, "readingNow", "(I)I"⟩
abbrev cX8_reading : ByteArray := prog_10_method_73_code
def yX8_reading : MethodName := ⟨RX8, "reading", "(I)I"⟩
abbrev cX8_manyRuns : ByteArray := prog_10_method_74_code
def yX8_manyRuns : MethodName := ⟨RX8, "manyRuns", "()I"⟩
abbrev cX8_pathLength : ByteArray := prog_10_method_75_code
def yX8_pathLength : MethodName := ⟨RX8, "pathLength", "()I"⟩
abbrev cX8_manyDropped : ByteArray := prog_10_method_76_code
def yX8_manyDropped : MethodName := ⟨RX8, "manyDropped", "()I"⟩
abbrev cX8_manyDirections : ByteArray := prog_10_method_77_code
def yX8_manyDirections : MethodName := ⟨RX8, "manyDirections", "()I"⟩
abbrev cX8_allDirections : ByteArray := prog_10_method_78_code
def yX8_allDirections : MethodName := ⟨RX8, "allDirections", "()I"⟩
abbrev cX8_counted : ByteArray := prog_10_method_79_code
def yX8_counted : MethodName := ⟨RX8, "counted", "(I)I"⟩
abbrev cX8_count : ByteArray := prog_10_method_80_code
def yX8_count : MethodName := ⟨RX8, "count", "(I)I"⟩
abbrev cX8_setting : ByteArray := prog_10_method_81_code
def yX8_setting : MethodName := ⟨RX8, "setting", "(I)I"⟩
abbrev cX8_pointThen : ByteArray := prog_10_method_82_code
def yX8_pointThen : MethodName := ⟨RX8, "pointThen", "(II)I"⟩
abbrev cX8_ifPoint : ByteArray := prog_10_method_83_code
def yX8_ifPoint : MethodName := ⟨RX8, "ifPoint", "(II)I"⟩
abbrev cX8_againstNow : ByteArray := prog_10_method_84_code
def yX8_againstNow : MethodName := ⟨RX8, "againstNow", "()I"⟩
abbrev cX8_against : ByteArray := prog_10_method_85_code
def yX8_against : MethodName := ⟨RX8, "against", "()I"⟩
abbrev cX8_mostNow : ByteArray := prog_10_method_86_code
def yX8_mostNow : MethodName := ⟨RX8, "mostNow", "()I"⟩
abbrev cX8_mostForgiven : ByteArray := prog_10_method_87_code
def yX8_mostForgiven : MethodName := ⟨RX8, "mostForgiven", "()I"⟩
abbrev cX8_straightNow : ByteArray := prog_10_method_88_code
def yX8_straightNow : MethodName := ⟨RX8, "straightNow", "()I"⟩
abbrev cX8_straightness : ByteArray := prog_10_method_89_code
def yX8_straightness : MethodName := ⟨RX8, "straightness", "()I"⟩
abbrev cX8_doubtNow : ByteArray := prog_10_method_90_code
def yX8_doubtNow : MethodName := ⟨RX8, "doubtNow", "()D"⟩
abbrev cX8_doubt : ByteArray := prog_10_method_91_code
def yX8_doubt : MethodName := ⟨RX8, "doubt", "()D"⟩
abbrev cX8_mix : ByteArray := prog_10_method_92_code
def yX8_mix : MethodName := ⟨RX8, "mix", "(J)V"⟩
abbrev cX8_mixPath : ByteArray := prog_10_method_93_code
def yX8_mixPath : MethodName := ⟨RX8, "mixPath", "()V"⟩
abbrev cX8_mixCommand : ByteArray := prog_10_method_94_code
def yX8_mixCommand : MethodName := ⟨RX8, "mixCommand", "(I)V"⟩
abbrev cX8_digest : ByteArray := prog_10_method_95_code
def yX8_digest : MethodName := ⟨RX8, "digest", "()J"⟩
def RJxe99ae : String := "java/lang/Double"
abbrev cJxe99ae_isNaN_b9ae7 : ByteArray := prog_11_method_6_code
def yJxe99ae_isNaN_b9ae7 : MethodName := ⟨RJxe99ae, "isNaN", "(D)Z"⟩
abbrev cJxe99ae_doubleToLongBits_ccdee : ByteArray := prog_11_method_23_code
def yJxe99ae_doubleToLongBits_ccdee : MethodName := ⟨RJxe99ae, "doubleToLongBits", "(D)J"⟩
def RJxf58ca : String := "java/lang/Float"
abbrev cJxf58ca_isNaN_12338 : ByteArray := prog_13_method_6_code
def yJxf58ca_isNaN_12338 : MethodName := ⟨RJxf58ca, "isNaN", "(F)Z"⟩
abbrev cJxf58ca_floatToIntBits_5c35a : ByteArray := prog_13_method_24_code
def yJxf58ca_floatToIntBits_5c35a : MethodName := ⟨RJxf58ca, "floatToIntBits", "(F)I"⟩
def RJ6 : String := "java/lang/Integer"
abbrev cJ6_signum_0f7a4 : ByteArray := prog_17_method_56_code
def yJ6_signum_0f7a4 : MethodName := ⟨RJ6, "signum", "(I)I"⟩
def RJ9 : String := "java/lang/Math"
abbrev cJ9_abs_0f7a4 : ByteArray := prog_18_method_59_code
def yJ9_abs_0f7a4 : MethodName := ⟨RJ9, "abs", "(I)I"⟩
abbrev cJ9_max_7cf53 : ByteArray := prog_18_method_65_code
def yJ9_max_7cf53 : MethodName := ⟨RJ9, "max", "(II)I"⟩
abbrev cJ9_min_7cf53 : ByteArray := prog_18_method_69_code
def yJ9_min_7cf53 : MethodName := ⟨RJ9, "min", "(II)I"⟩
def RJ0 : String := "java/lang/String"
def RL : String := "LatticeGesturesLaw"
abbrev cL_point : ByteArray := method_3_code
def yL_point : MethodName := ⟨RL, "point", "(LLatticeGestures;II[J)I"⟩
abbrev cL_go : ByteArray := method_4_code
def yL_go : MethodName := ⟨RL, "go", "(LLatticeGestures;II[J)I"⟩
abbrev cL_back : ByteArray := method_5_code
def yL_back : MethodName := ⟨RL, "back", "(LLatticeGestures;I[J)I"⟩
abbrev cL_turn : ByteArray := method_6_code
def yL_turn : MethodName := ⟨RL, "turn", "(LLatticeGestures;I[J)I"⟩
abbrev cL_learn : ByteArray := method_7_code
def yL_learn : MethodName := ⟨RL, "learn", "(LLatticeGestures;[J)I"⟩
abbrev cL_read : ByteArray := method_8_code
def yL_read : MethodName := ⟨RL, "read", "(LLatticeGestures;[J)I"⟩
abbrev cL_forget : ByteArray := method_9_code
def yL_forget : MethodName := ⟨RL, "forget", "(LLatticeGestures;I[J)I"⟩
abbrev cL_set : ByteArray := method_10_code
def yL_set : MethodName := ⟨RL, "set", "(LLatticeGestures;II[J)I"⟩
abbrev cL_append : ByteArray := method_11_code
def yL_append : MethodName := ⟨RL, "append", "(LLatticeGestures;I[J)I"⟩
abbrev cL_undo : ByteArray := method_12_code
def yL_undo : MethodName := ⟨RL, "undo", "(LLatticeGestures;[J)I"⟩
abbrev cL_pointOf : ByteArray := method_13_code
def yL_pointOf : MethodName := ⟨RL, "pointOf", "(LLatticeGestures;II[J)I"⟩
abbrev cL_run : ByteArray := method_14_code
def yL_run : MethodName := ⟨RL, "run", "(LLatticeGestures;II[J)I"⟩
abbrev cL_stroke : ByteArray := method_15_code
def yL_stroke : MethodName := ⟨RL, "stroke", "(LLatticeGestures;I[J)I"⟩
abbrev cL_strokeOf : ByteArray := method_16_code
def yL_strokeOf : MethodName := ⟨RL, "strokeOf", "(LLatticeGestures;II[J)I"⟩
abbrev cL_distance : ByteArray := method_17_code
def yL_distance : MethodName := ⟨RL, "distance", "(LLatticeGestures;II[J)I"⟩
abbrev cL_reading : ByteArray := method_18_code
def yL_reading : MethodName := ⟨RL, "reading", "(LLatticeGestures;I[J)I"⟩
abbrev cL_count : ByteArray := method_19_code
def yL_count : MethodName := ⟨RL, "count", "(LLatticeGestures;I[J)I"⟩
abbrev cL_setting : ByteArray := method_20_code
def yL_setting : MethodName := ⟨RL, "setting", "(LLatticeGestures;I[J)I"⟩
abbrev cL_ifPoint : ByteArray := method_21_code
def yL_ifPoint : MethodName := ⟨RL, "ifPoint", "(LLatticeGestures;II[J)I"⟩
abbrev cL_law : ByteArray := code
def yL_law : MethodName := ⟨RL, "law", "([I)Z"⟩
abbrev vwCl : List vw_C := [(RX0, TX0, 3), (RX1, TX1, 3), (RX2, TX2, 1), (RX3, TX3, 2), (RX4, TX4, 2), (RX5, TX5, 3), (RX6, TX6, 8), (RX7, TX7, 9), (RX8, TX8, 18)]
end
section
theorem dX0_init_0 : decode cX0_init 0 = .ok (.aload_n 0, 1) := by decide +kernel
theorem dX0_init_1 : decode cX0_init 1 = .ok (.invokespecial 3, 3) := by decide +kernel
theorem dX0_init_4 : decode cX0_init 4 = .ok (.aload_n 0, 1) := by decide +kernel
theorem dX0_init_5 : decode cX0_init 5 = .ok (.bipush 10, 2) := by decide +kernel
theorem dX0_init_7 : decode cX0_init 7 = .ok (.anewarray 9, 3) := by decide +kernel
theorem dX0_init_10 : decode cX0_init 10 = .ok (.putfield 11, 3) := by decide +kernel
theorem dX0_init_13 : decode cX0_init 13 = .ok (.iconst 0, 1) := by decide +kernel
theorem dX0_init_14 : decode cX0_init 14 = .ok (.istore_n 1, 1) := by decide +kernel
theorem dX0_init_15 : decode cX0_init 15 = .ok (.iload_n 1, 1) := by decide +kernel
theorem dX0_init_16 : decode cX0_init 16 = .ok (.aload_n 0, 1) := by decide +kernel
theorem dX0_init_17 : decode cX0_init 17 = .ok (.getfield 11, 3) := by decide +kernel
theorem dX0_init_20 : decode cX0_init 20 = .ok (.arraylength, 1) := by decide +kernel
theorem dX0_init_21 : decode cX0_init 21 = .ok (.if_icmp .ge 24, 3) := by decide +kernel
theorem dX0_init_24 : decode cX0_init 24 = .ok (.aload_n 0, 1) := by decide +kernel
theorem dX0_init_25 : decode cX0_init 25 = .ok (.getfield 11, 3) := by decide +kernel
theorem dX0_init_28 : decode cX0_init 28 = .ok (.iload_n 1, 1) := by decide +kernel
theorem dX0_init_29 : decode cX0_init 29 = .ok (.new 9, 3) := by decide +kernel
theorem dX0_init_32 : decode cX0_init 32 = .ok (.dup, 1) := by decide +kernel
theorem dX0_init_33 : decode cX0_init 33 = .ok (.bipush 8, 2) := by decide +kernel
theorem dX0_init_35 : decode cX0_init 35 = .ok (.invokespecial 17, 3) := by decide +kernel
theorem dX0_init_38 : decode cX0_init 38 = .ok (.aastore, 1) := by decide +kernel
theorem dX0_init_39 : decode cX0_init 39 = .ok (.iinc 1 1, 3) := by decide +kernel
theorem dX0_init_42 : decode cX0_init 42 = .ok (.goto (-27), 3) := by decide +kernel
theorem dX0_init_45 : decode cX0_init 45 = .ok (.aload_n 0, 1) := by decide +kernel
theorem dX0_init_46 : decode cX0_init 46 = .ok (.new 9, 3) := by decide +kernel
theorem dX0_init_49 : decode cX0_init 49 = .ok (.dup, 1) := by decide +kernel
theorem dX0_init_50 : decode cX0_init 50 = .ok (.iconst 0, 1) := by decide +kernel
theorem dX0_init_51 : decode cX0_init 51 = .ok (.invokespecial 17, 3) := by decide +kernel
theorem dX0_init_54 : decode cX0_init 54 = .ok (.putfield 20, 3) := by decide +kernel
theorem dX0_init_57 : decode cX0_init 57 = .ok (.aload_n 0, 1) := by decide +kernel
theorem dX0_init_58 : decode cX0_init 58 = .ok (.iconst 0, 1) := by decide +kernel
theorem dX0_init_59 : decode cX0_init 59 = .ok (.putfield 24, 3) := by decide +kernel
theorem dX0_init_62 : decode cX0_init 62 = .ok (.return_, 1) := by decide +kernel
theorem dX0_held_0 : decode cX0_held 0 = .ok (.aload_n 0, 1) := by decide +kernel
theorem dX0_held_1 : decode cX0_held 1 = .ok (.getfield 24, 3) := by decide +kernel
theorem dX0_held_4 : decode cX0_held 4 = .ok (.ireturn, 1) := by decide +kernel
theorem dX0_directions_0 : decode cX0_directions 0 = .ok (.iload_n 1, 1) := by decide +kernel
theorem dX0_directions_1 : decode cX0_directions 1 = .ok (.ifCond .lt 12, 3) := by decide +kernel
theorem dX0_directions_4 : decode cX0_directions 4 = .ok (.iload_n 1, 1) := by decide +kernel
theorem dX0_directions_5 : decode cX0_directions 5 = .ok (.aload_n 0, 1) := by decide +kernel
theorem dX0_directions_6 : decode cX0_directions 6 = .ok (.getfield 11, 3) := by decide +kernel
theorem dX0_directions_9 : decode cX0_directions 9 = .ok (.arraylength, 1) := by decide +kernel
theorem dX0_directions_10 : decode cX0_directions 10 = .ok (.if_icmp .lt 8, 3) := by decide +kernel
theorem dX0_directions_13 : decode cX0_directions 13 = .ok (.aload_n 0, 1) := by decide +kernel
theorem dX0_directions_14 : decode cX0_directions 14 = .ok (.getfield 20, 3) := by decide +kernel
theorem dX0_directions_17 : decode cX0_directions 17 = .ok (.areturn, 1) := by decide +kernel
theorem dX0_directions_18 : decode cX0_directions 18 = .ok (.aload_n 0, 1) := by decide +kernel
theorem dX0_directions_19 : decode cX0_directions 19 = .ok (.getfield 11, 3) := by decide +kernel
theorem dX0_directions_22 : decode cX0_directions 22 = .ok (.iload_n 1, 1) := by decide +kernel
theorem dX0_directions_23 : decode cX0_directions 23 = .ok (.aaload, 1) := by decide +kernel
theorem dX0_directions_24 : decode cX0_directions 24 = .ok (.astore_n 2, 1) := by decide +kernel
theorem dX0_directions_25 : decode cX0_directions 25 = .ok (.aload_n 2, 1) := by decide +kernel
theorem dX0_directions_26 : decode cX0_directions 26 = .ok (.ifnull 7, 3) := by decide +kernel
theorem dX0_directions_29 : decode cX0_directions 29 = .ok (.aload_n 2, 1) := by decide +kernel
theorem dX0_directions_30 : decode cX0_directions 30 = .ok (.goto 7, 3) := by decide +kernel
theorem dX0_directions_33 : decode cX0_directions 33 = .ok (.aload_n 0, 1) := by decide +kernel
theorem dX0_directions_34 : decode cX0_directions 34 = .ok (.getfield 20, 3) := by decide +kernel
theorem dX0_directions_37 : decode cX0_directions 37 = .ok (.areturn, 1) := by decide +kernel
theorem dX0_allDirections_0 : decode cX0_allDirections 0 = .ok (.iconst 0, 1) := by decide +kernel
theorem dX0_allDirections_1 : decode cX0_allDirections 1 = .ok (.istore_n 1, 1) := by decide +kernel
theorem dX0_allDirections_2 : decode cX0_allDirections 2 = .ok (.iconst 0, 1) := by decide +kernel
theorem dX0_allDirections_3 : decode cX0_allDirections 3 = .ok (.istore_n 2, 1) := by decide +kernel
theorem dX0_allDirections_4 : decode cX0_allDirections 4 = .ok (.iload_n 2, 1) := by decide +kernel
theorem dX0_allDirections_5 : decode cX0_allDirections 5 = .ok (.aload_n 0, 1) := by decide +kernel
theorem dX0_allDirections_6 : decode cX0_allDirections 6 = .ok (.getfield 24, 3) := by decide +kernel
theorem dX0_allDirections_9 : decode cX0_allDirections 9 = .ok (.if_icmp .ge 20, 3) := by decide +kernel
theorem dX0_allDirections_12 : decode cX0_allDirections 12 = .ok (.iload_n 1, 1) := by decide +kernel
theorem dX0_allDirections_13 : decode cX0_allDirections 13 = .ok (.aload_n 0, 1) := by decide +kernel
theorem dX0_allDirections_14 : decode cX0_allDirections 14 = .ok (.iload_n 2, 1) := by decide +kernel
theorem dX0_allDirections_15 : decode cX0_allDirections 15 = .ok (.invokevirtual 28, 3) := by decide +kernel
theorem dX0_allDirections_18 : decode cX0_allDirections 18 = .ok (.invokevirtual 32, 3) := by decide +kernel
theorem dX0_allDirections_21 : decode cX0_allDirections 21 = .ok (.iadd, 1) := by decide +kernel
theorem dX0_allDirections_22 : decode cX0_allDirections 22 = .ok (.istore_n 1, 1) := by decide +kernel
theorem dX0_allDirections_23 : decode cX0_allDirections 23 = .ok (.iinc 2 1, 3) := by decide +kernel
theorem dX0_allDirections_26 : decode cX0_allDirections 26 = .ok (.goto (-22), 3) := by decide +kernel
theorem dX0_allDirections_29 : decode cX0_allDirections 29 = .ok (.iload_n 1, 1) := by decide +kernel
theorem dX0_allDirections_30 : decode cX0_allDirections 30 = .ok (.ireturn, 1) := by decide +kernel
theorem dX0_add_0 : decode cX0_add 0 = .ok (.aload_n 0, 1) := by decide +kernel
theorem dX0_add_1 : decode cX0_add 1 = .ok (.getfield 24, 3) := by decide +kernel
theorem dX0_add_4 : decode cX0_add 4 = .ok (.aload_n 0, 1) := by decide +kernel
theorem dX0_add_5 : decode cX0_add 5 = .ok (.getfield 11, 3) := by decide +kernel
theorem dX0_add_8 : decode cX0_add 8 = .ok (.arraylength, 1) := by decide +kernel
theorem dX0_add_9 : decode cX0_add 9 = .ok (.if_icmp .ge 25, 3) := by decide +kernel
theorem dX0_add_12 : decode cX0_add 12 = .ok (.aload_n 0, 1) := by decide +kernel
theorem dX0_add_13 : decode cX0_add 13 = .ok (.aload_n 0, 1) := by decide +kernel
theorem dX0_add_14 : decode cX0_add 14 = .ok (.getfield 24, 3) := by decide +kernel
theorem dX0_add_17 : decode cX0_add 17 = .ok (.invokevirtual 28, 3) := by decide +kernel
theorem dX0_add_20 : decode cX0_add 20 = .ok (.aload_n 1, 1) := by decide +kernel
theorem dX0_add_21 : decode cX0_add 21 = .ok (.invokevirtual 35, 3) := by decide +kernel
theorem dX0_add_24 : decode cX0_add 24 = .ok (.aload_n 0, 1) := by decide +kernel
theorem dX0_add_25 : decode cX0_add 25 = .ok (.dup, 1) := by decide +kernel
theorem dX0_add_26 : decode cX0_add 26 = .ok (.getfield 24, 3) := by decide +kernel
theorem dX0_add_29 : decode cX0_add 29 = .ok (.iconst 1, 1) := by decide +kernel
theorem dX0_add_30 : decode cX0_add 30 = .ok (.iadd, 1) := by decide +kernel
theorem dX0_add_31 : decode cX0_add 31 = .ok (.putfield 24, 3) := by decide +kernel
theorem dX0_add_34 : decode cX0_add 34 = .ok (.return_, 1) := by decide +kernel
theorem dX0_remove_0 : decode cX0_remove 0 = .ok (.iload_n 1, 1) := by decide +kernel
theorem dX0_remove_1 : decode cX0_remove 1 = .ok (.ifCond .lt 11, 3) := by decide +kernel
theorem dX0_remove_4 : decode cX0_remove 4 = .ok (.iload_n 1, 1) := by decide +kernel
theorem dX0_remove_5 : decode cX0_remove 5 = .ok (.aload_n 0, 1) := by decide +kernel
theorem dX0_remove_6 : decode cX0_remove 6 = .ok (.getfield 24, 3) := by decide +kernel
theorem dX0_remove_9 : decode cX0_remove 9 = .ok (.if_icmp .lt 4, 3) := by decide +kernel
theorem dX0_remove_12 : decode cX0_remove 12 = .ok (.return_, 1) := by decide +kernel
theorem dX0_remove_13 : decode cX0_remove 13 = .ok (.iload_n 1, 1) := by decide +kernel
theorem dX0_remove_14 : decode cX0_remove 14 = .ok (.iconst 1, 1) := by decide +kernel
theorem dX0_remove_15 : decode cX0_remove 15 = .ok (.iadd, 1) := by decide +kernel
theorem dX0_remove_16 : decode cX0_remove 16 = .ok (.istore_n 2, 1) := by decide +kernel
theorem dX0_remove_17 : decode cX0_remove 17 = .ok (.iload_n 2, 1) := by decide +kernel
theorem dX0_remove_18 : decode cX0_remove 18 = .ok (.aload_n 0, 1) := by decide +kernel
theorem dX0_remove_19 : decode cX0_remove 19 = .ok (.getfield 24, 3) := by decide +kernel
theorem dX0_remove_22 : decode cX0_remove 22 = .ok (.if_icmp .ge 24, 3) := by decide +kernel
theorem dX0_remove_25 : decode cX0_remove 25 = .ok (.aload_n 0, 1) := by decide +kernel
theorem dX0_remove_26 : decode cX0_remove 26 = .ok (.iload_n 2, 1) := by decide +kernel
theorem dX0_remove_27 : decode cX0_remove 27 = .ok (.iconst 1, 1) := by decide +kernel
theorem dX0_remove_28 : decode cX0_remove 28 = .ok (.isub, 1) := by decide +kernel
theorem dX0_remove_29 : decode cX0_remove 29 = .ok (.invokevirtual 28, 3) := by decide +kernel
theorem dX0_remove_32 : decode cX0_remove 32 = .ok (.aload_n 0, 1) := by decide +kernel
theorem dX0_remove_33 : decode cX0_remove 33 = .ok (.iload_n 2, 1) := by decide +kernel
theorem dX0_remove_34 : decode cX0_remove 34 = .ok (.invokevirtual 28, 3) := by decide +kernel
theorem dX0_remove_37 : decode cX0_remove 37 = .ok (.invokevirtual 35, 3) := by decide +kernel
theorem dX0_remove_40 : decode cX0_remove 40 = .ok (.iinc 2 1, 3) := by decide +kernel
theorem dX0_remove_43 : decode cX0_remove 43 = .ok (.goto (-26), 3) := by decide +kernel
theorem dX0_remove_46 : decode cX0_remove 46 = .ok (.aload_n 0, 1) := by decide +kernel
theorem dX0_remove_47 : decode cX0_remove 47 = .ok (.dup, 1) := by decide +kernel
theorem dX0_remove_48 : decode cX0_remove 48 = .ok (.getfield 24, 3) := by decide +kernel
theorem dX0_remove_51 : decode cX0_remove 51 = .ok (.iconst 1, 1) := by decide +kernel
theorem dX0_remove_52 : decode cX0_remove 52 = .ok (.isub, 1) := by decide +kernel
theorem dX0_remove_53 : decode cX0_remove 53 = .ok (.putfield 24, 3) := by decide +kernel
theorem dX0_remove_56 : decode cX0_remove 56 = .ok (.return_, 1) := by decide +kernel
theorem dX0_copy_0 : decode cX0_copy 0 = .ok (.iconst 0, 1) := by decide +kernel
theorem dX0_copy_1 : decode cX0_copy 1 = .ok (.istore_n 2, 1) := by decide +kernel
theorem dX0_copy_2 : decode cX0_copy 2 = .ok (.iload_n 2, 1) := by decide +kernel
theorem dX0_copy_3 : decode cX0_copy 3 = .ok (.aload_n 1, 1) := by decide +kernel
theorem dX0_copy_4 : decode cX0_copy 4 = .ok (.getfield 24, 3) := by decide +kernel
theorem dX0_copy_7 : decode cX0_copy 7 = .ok (.if_icmp .ge 22, 3) := by decide +kernel
theorem dX0_copy_10 : decode cX0_copy 10 = .ok (.aload_n 0, 1) := by decide +kernel
theorem dX0_copy_11 : decode cX0_copy 11 = .ok (.iload_n 2, 1) := by decide +kernel
theorem dX0_copy_12 : decode cX0_copy 12 = .ok (.invokevirtual 28, 3) := by decide +kernel
theorem dX0_copy_15 : decode cX0_copy 15 = .ok (.aload_n 1, 1) := by decide +kernel
theorem dX0_copy_16 : decode cX0_copy 16 = .ok (.iload_n 2, 1) := by decide +kernel
theorem dX0_copy_17 : decode cX0_copy 17 = .ok (.invokevirtual 28, 3) := by decide +kernel
theorem dX0_copy_20 : decode cX0_copy 20 = .ok (.invokevirtual 35, 3) := by decide +kernel
theorem dX0_copy_23 : decode cX0_copy 23 = .ok (.iinc 2 1, 3) := by decide +kernel
theorem dX0_copy_26 : decode cX0_copy 26 = .ok (.goto (-24), 3) := by decide +kernel
theorem dX0_copy_29 : decode cX0_copy 29 = .ok (.aload_n 0, 1) := by decide +kernel
theorem dX0_copy_30 : decode cX0_copy 30 = .ok (.aload_n 1, 1) := by decide +kernel
theorem dX0_copy_31 : decode cX0_copy 31 = .ok (.getfield 24, 3) := by decide +kernel
theorem dX0_copy_34 : decode cX0_copy 34 = .ok (.putfield 24, 3) := by decide +kernel
theorem dX0_copy_37 : decode cX0_copy 37 = .ok (.return_, 1) := by decide +kernel
theorem dX1_init_0 : decode cX1_init 0 = .ok (.aload_n 0, 1) := by decide +kernel
theorem dX1_init_1 : decode cX1_init 1 = .ok (.invokespecial 3, 3) := by decide +kernel
theorem dX1_init_4 : decode cX1_init 4 = .ok (.aload_n 0, 1) := by decide +kernel
theorem dX1_init_5 : decode cX1_init 5 = .ok (.bipush 6, 2) := by decide +kernel
theorem dX1_init_7 : decode cX1_init 7 = .ok (.anewarray 9, 3) := by decide +kernel
theorem dX1_init_10 : decode cX1_init 10 = .ok (.putfield 11, 3) := by decide +kernel
theorem dX1_init_13 : decode cX1_init 13 = .ok (.iconst 0, 1) := by decide +kernel
theorem dX1_init_14 : decode cX1_init 14 = .ok (.istore_n 1, 1) := by decide +kernel
theorem dX1_init_15 : decode cX1_init 15 = .ok (.iload_n 1, 1) := by decide +kernel
theorem dX1_init_16 : decode cX1_init 16 = .ok (.aload_n 0, 1) := by decide +kernel
theorem dX1_init_17 : decode cX1_init 17 = .ok (.getfield 11, 3) := by decide +kernel
theorem dX1_init_20 : decode cX1_init 20 = .ok (.arraylength, 1) := by decide +kernel
theorem dX1_init_21 : decode cX1_init 21 = .ok (.if_icmp .ge 22, 3) := by decide +kernel
theorem dX1_init_24 : decode cX1_init 24 = .ok (.aload_n 0, 1) := by decide +kernel
theorem dX1_init_25 : decode cX1_init 25 = .ok (.getfield 11, 3) := by decide +kernel
theorem dX1_init_28 : decode cX1_init 28 = .ok (.iload_n 1, 1) := by decide +kernel
theorem dX1_init_29 : decode cX1_init 29 = .ok (.new 9, 3) := by decide +kernel
theorem dX1_init_32 : decode cX1_init 32 = .ok (.dup, 1) := by decide +kernel
theorem dX1_init_33 : decode cX1_init 33 = .ok (.invokespecial 17, 3) := by decide +kernel
theorem dX1_init_36 : decode cX1_init 36 = .ok (.aastore, 1) := by decide +kernel
theorem dX1_init_37 : decode cX1_init 37 = .ok (.iinc 1 1, 3) := by decide +kernel
theorem dX1_init_40 : decode cX1_init 40 = .ok (.goto (-25), 3) := by decide +kernel
theorem dX1_init_43 : decode cX1_init 43 = .ok (.aload_n 0, 1) := by decide +kernel
theorem dX1_init_44 : decode cX1_init 44 = .ok (.iconst 0, 1) := by decide +kernel
theorem dX1_init_45 : decode cX1_init 45 = .ok (.putfield 18, 3) := by decide +kernel
theorem dX1_init_48 : decode cX1_init 48 = .ok (.aload_n 0, 1) := by decide +kernel
theorem dX1_init_49 : decode cX1_init 49 = .ok (.iconst 0, 1) := by decide +kernel
theorem dX1_init_50 : decode cX1_init 50 = .ok (.putfield 22, 3) := by decide +kernel
theorem dX1_init_53 : decode cX1_init 53 = .ok (.return_, 1) := by decide +kernel
theorem dX1_held_0 : decode cX1_held 0 = .ok (.aload_n 0, 1) := by decide +kernel
theorem dX1_held_1 : decode cX1_held 1 = .ok (.getfield 22, 3) := by decide +kernel
theorem dX1_held_4 : decode cX1_held 4 = .ok (.ireturn, 1) := by decide +kernel
theorem dX1_keep_0 : decode cX1_keep 0 = .ok (.aload_n 0, 1) := by decide +kernel
theorem dX1_keep_1 : decode cX1_keep 1 = .ok (.getfield 22, 3) := by decide +kernel
theorem dX1_keep_4 : decode cX1_keep 4 = .ok (.bipush 6, 2) := by decide +kernel
theorem dX1_keep_6 : decode cX1_keep 6 = .ok (.if_icmp .lt 26, 3) := by decide +kernel
theorem dX1_keep_9 : decode cX1_keep 9 = .ok (.aload_n 0, 1) := by decide +kernel
theorem dX1_keep_10 : decode cX1_keep 10 = .ok (.aload_n 0, 1) := by decide +kernel
theorem dX1_keep_11 : decode cX1_keep 11 = .ok (.getfield 18, 3) := by decide +kernel
theorem dX1_keep_14 : decode cX1_keep 14 = .ok (.iconst 1, 1) := by decide +kernel
theorem dX1_keep_15 : decode cX1_keep 15 = .ok (.iadd, 1) := by decide +kernel
theorem dX1_keep_16 : decode cX1_keep 16 = .ok (.bipush 6, 2) := by decide +kernel
theorem dX1_keep_18 : decode cX1_keep 18 = .ok (.irem, 1) := by decide +kernel
theorem dX1_keep_19 : decode cX1_keep 19 = .ok (.putfield 18, 3) := by decide +kernel
theorem dX1_keep_22 : decode cX1_keep 22 = .ok (.aload_n 0, 1) := by decide +kernel
theorem dX1_keep_23 : decode cX1_keep 23 = .ok (.dup, 1) := by decide +kernel
theorem dX1_keep_24 : decode cX1_keep 24 = .ok (.getfield 22, 3) := by decide +kernel
theorem dX1_keep_27 : decode cX1_keep 27 = .ok (.iconst 1, 1) := by decide +kernel
theorem dX1_keep_28 : decode cX1_keep 28 = .ok (.isub, 1) := by decide +kernel
theorem dX1_keep_29 : decode cX1_keep 29 = .ok (.putfield 22, 3) := by decide +kernel
theorem dX1_keep_32 : decode cX1_keep 32 = .ok (.aload_n 0, 1) := by decide +kernel
theorem dX1_keep_33 : decode cX1_keep 33 = .ok (.aload_n 0, 1) := by decide +kernel
theorem dX1_keep_34 : decode cX1_keep 34 = .ok (.getfield 22, 3) := by decide +kernel
theorem dX1_keep_37 : decode cX1_keep 37 = .ok (.invokevirtual 25, 3) := by decide +kernel
theorem dX1_keep_40 : decode cX1_keep 40 = .ok (.astore_n 2, 1) := by decide +kernel
theorem dX1_keep_41 : decode cX1_keep 41 = .ok (.aload_n 2, 1) := by decide +kernel
theorem dX1_keep_42 : decode cX1_keep 42 = .ok (.ifnull 18, 3) := by decide +kernel
theorem dX1_keep_45 : decode cX1_keep 45 = .ok (.aload_n 2, 1) := by decide +kernel
theorem dX1_keep_46 : decode cX1_keep 46 = .ok (.aload_n 1, 1) := by decide +kernel
theorem dX1_keep_47 : decode cX1_keep 47 = .ok (.invokevirtual 29, 3) := by decide +kernel
theorem dX1_keep_50 : decode cX1_keep 50 = .ok (.aload_n 0, 1) := by decide +kernel
theorem dX1_keep_51 : decode cX1_keep 51 = .ok (.dup, 1) := by decide +kernel
theorem dX1_keep_52 : decode cX1_keep 52 = .ok (.getfield 22, 3) := by decide +kernel
theorem dX1_keep_55 : decode cX1_keep 55 = .ok (.iconst 1, 1) := by decide +kernel
theorem dX1_keep_56 : decode cX1_keep 56 = .ok (.iadd, 1) := by decide +kernel
theorem dX1_keep_57 : decode cX1_keep 57 = .ok (.putfield 22, 3) := by decide +kernel
theorem dX1_keep_60 : decode cX1_keep 60 = .ok (.return_, 1) := by decide +kernel
theorem dX1_giveBack_0 : decode cX1_giveBack 0 = .ok (.aload_n 0, 1) := by decide +kernel
theorem dX1_giveBack_1 : decode cX1_giveBack 1 = .ok (.aload_n 0, 1) := by decide +kernel
theorem dX1_giveBack_2 : decode cX1_giveBack 2 = .ok (.getfield 22, 3) := by decide +kernel
theorem dX1_giveBack_5 : decode cX1_giveBack 5 = .ok (.iconst 1, 1) := by decide +kernel
theorem dX1_giveBack_6 : decode cX1_giveBack 6 = .ok (.isub, 1) := by decide +kernel
theorem dX1_giveBack_7 : decode cX1_giveBack 7 = .ok (.invokevirtual 25, 3) := by decide +kernel
theorem dX1_giveBack_10 : decode cX1_giveBack 10 = .ok (.astore_n 2, 1) := by decide +kernel
theorem dX1_giveBack_11 : decode cX1_giveBack 11 = .ok (.aload_n 0, 1) := by decide +kernel
theorem dX1_giveBack_12 : decode cX1_giveBack 12 = .ok (.getfield 22, 3) := by decide +kernel
theorem dX1_giveBack_15 : decode cX1_giveBack 15 = .ok (.ifCond .le 22, 3) := by decide +kernel
theorem dX1_giveBack_18 : decode cX1_giveBack 18 = .ok (.aload_n 2, 1) := by decide +kernel
theorem dX1_giveBack_19 : decode cX1_giveBack 19 = .ok (.ifnull 18, 3) := by decide +kernel
theorem dX1_giveBack_22 : decode cX1_giveBack 22 = .ok (.aload_n 1, 1) := by decide +kernel
theorem dX1_giveBack_23 : decode cX1_giveBack 23 = .ok (.aload_n 2, 1) := by decide +kernel
theorem dX1_giveBack_24 : decode cX1_giveBack 24 = .ok (.invokevirtual 29, 3) := by decide +kernel
theorem dX1_giveBack_27 : decode cX1_giveBack 27 = .ok (.aload_n 0, 1) := by decide +kernel
theorem dX1_giveBack_28 : decode cX1_giveBack 28 = .ok (.dup, 1) := by decide +kernel
theorem dX1_giveBack_29 : decode cX1_giveBack 29 = .ok (.getfield 22, 3) := by decide +kernel
theorem dX1_giveBack_32 : decode cX1_giveBack 32 = .ok (.iconst 1, 1) := by decide +kernel
theorem dX1_giveBack_33 : decode cX1_giveBack 33 = .ok (.isub, 1) := by decide +kernel
theorem dX1_giveBack_34 : decode cX1_giveBack 34 = .ok (.putfield 22, 3) := by decide +kernel
theorem dX1_giveBack_37 : decode cX1_giveBack 37 = .ok (.return_, 1) := by decide +kernel
theorem dX1_saved_0 : decode cX1_saved 0 = .ok (.aload_n 0, 1) := by decide +kernel
theorem dX1_saved_1 : decode cX1_saved 1 = .ok (.getfield 18, 3) := by decide +kernel
theorem dX1_saved_4 : decode cX1_saved 4 = .ok (.iload_n 1, 1) := by decide +kernel
theorem dX1_saved_5 : decode cX1_saved 5 = .ok (.iadd, 1) := by decide +kernel
theorem dX1_saved_6 : decode cX1_saved 6 = .ok (.bipush 6, 2) := by decide +kernel
theorem dX1_saved_8 : decode cX1_saved 8 = .ok (.irem, 1) := by decide +kernel
theorem dX1_saved_9 : decode cX1_saved 9 = .ok (.istore_n 2, 1) := by decide +kernel
theorem dX1_saved_10 : decode cX1_saved 10 = .ok (.iload_n 2, 1) := by decide +kernel
theorem dX1_saved_11 : decode cX1_saved 11 = .ok (.ifCond .lt 21, 3) := by decide +kernel
theorem dX1_saved_14 : decode cX1_saved 14 = .ok (.iload_n 2, 1) := by decide +kernel
theorem dX1_saved_15 : decode cX1_saved 15 = .ok (.aload_n 0, 1) := by decide +kernel
theorem dX1_saved_16 : decode cX1_saved 16 = .ok (.getfield 11, 3) := by decide +kernel
theorem dX1_saved_19 : decode cX1_saved 19 = .ok (.arraylength, 1) := by decide +kernel
theorem dX1_saved_20 : decode cX1_saved 20 = .ok (.if_icmp .ge 12, 3) := by decide +kernel
theorem dX1_saved_23 : decode cX1_saved 23 = .ok (.aload_n 0, 1) := by decide +kernel
theorem dX1_saved_24 : decode cX1_saved 24 = .ok (.getfield 11, 3) := by decide +kernel
theorem dX1_saved_27 : decode cX1_saved 27 = .ok (.iload_n 2, 1) := by decide +kernel
theorem dX1_saved_28 : decode cX1_saved 28 = .ok (.aaload, 1) := by decide +kernel
theorem dX1_saved_29 : decode cX1_saved 29 = .ok (.goto 4, 3) := by decide +kernel
theorem dX1_saved_32 : decode cX1_saved 32 = .ok (.aconst_null, 1) := by decide +kernel
theorem dX1_saved_33 : decode cX1_saved 33 = .ok (.areturn, 1) := by decide +kernel
theorem dX2_init_0 : decode cX2_init 0 = .ok (.aload_n 0, 1) := by decide +kernel
theorem dX2_init_1 : decode cX2_init 1 = .ok (.invokespecial 3, 3) := by decide +kernel
theorem dX2_init_4 : decode cX2_init 4 = .ok (.aload_n 0, 1) := by decide +kernel
theorem dX2_init_5 : decode cX2_init 5 = .ok (.new 9, 3) := by decide +kernel
theorem dX2_init_8 : decode cX2_init 8 = .ok (.dup, 1) := by decide +kernel
theorem dX2_init_9 : decode cX2_init 9 = .ok (.bipush 9, 2) := by decide +kernel
theorem dX2_init_11 : decode cX2_init 11 = .ok (.invokespecial 11, 3) := by decide +kernel
theorem dX2_init_14 : decode cX2_init 14 = .ok (.putfield 14, 3) := by decide +kernel
theorem dX2_init_17 : decode cX2_init 17 = .ok (.return_, 1) := by decide +kernel
theorem dX2_measure_0 : decode cX2_measure 0 = .ok (.aload_n 3, 1) := by decide +kernel
theorem dX2_measure_1 : decode cX2_measure 1 = .ok (.iconst 3, 1) := by decide +kernel
theorem dX2_measure_2 : decode cX2_measure 2 = .ok (.invokevirtual 20, 3) := by decide +kernel
theorem dX2_measure_5 : decode cX2_measure 5 = .ok (.istore 4, 2) := by decide +kernel
theorem dX2_measure_7 : decode cX2_measure 7 = .ok (.aload_n 0, 1) := by decide +kernel
theorem dX2_measure_8 : decode cX2_measure 8 = .ok (.getfield 14, 3) := by decide +kernel
theorem dX2_measure_11 : decode cX2_measure 11 = .ok (.invokevirtual 24, 3) := by decide +kernel
theorem dX2_measure_14 : decode cX2_measure 14 = .ok (.iconst 0, 1) := by decide +kernel
theorem dX2_measure_15 : decode cX2_measure 15 = .ok (.istore 5, 2) := by decide +kernel
theorem dX2_measure_17 : decode cX2_measure 17 = .ok (.iload 5, 2) := by decide +kernel
theorem dX2_measure_19 : decode cX2_measure 19 = .ok (.aload_n 2, 1) := by decide +kernel
theorem dX2_measure_20 : decode cX2_measure 20 = .ok (.invokevirtual 27, 3) := by decide +kernel
theorem dX2_measure_23 : decode cX2_measure 23 = .ok (.if_icmp .gt 21, 3) := by decide +kernel
theorem dX2_measure_26 : decode cX2_measure 26 = .ok (.aload_n 0, 1) := by decide +kernel
theorem dX2_measure_27 : decode cX2_measure 27 = .ok (.getfield 14, 3) := by decide +kernel
theorem dX2_measure_30 : decode cX2_measure 30 = .ok (.iload 5, 2) := by decide +kernel
theorem dX2_measure_32 : decode cX2_measure 32 = .ok (.iload 4, 2) := by decide +kernel
theorem dX2_measure_34 : decode cX2_measure 34 = .ok (.imul, 1) := by decide +kernel
theorem dX2_measure_35 : decode cX2_measure 35 = .ok (.invokevirtual 31, 3) := by decide +kernel
theorem dX2_measure_38 : decode cX2_measure 38 = .ok (.iinc 5 1, 3) := by decide +kernel
theorem dX2_measure_41 : decode cX2_measure 41 = .ok (.goto (-24), 3) := by decide +kernel
theorem dX2_measure_44 : decode cX2_measure 44 = .ok (.iconst 0, 1) := by decide +kernel
theorem dX2_measure_45 : decode cX2_measure 45 = .ok (.istore 5, 2) := by decide +kernel
theorem dX2_measure_47 : decode cX2_measure 47 = .ok (.iload 5, 2) := by decide +kernel
theorem dX2_measure_49 : decode cX2_measure 49 = .ok (.aload_n 1, 1) := by decide +kernel
theorem dX2_measure_50 : decode cX2_measure 50 = .ok (.invokevirtual 27, 3) := by decide +kernel
theorem dX2_measure_53 : decode cX2_measure 53 = .ok (.if_icmp .ge 27, 3) := by decide +kernel
theorem dX2_measure_56 : decode cX2_measure 56 = .ok (.aload_n 0, 1) := by decide +kernel
theorem dX2_measure_57 : decode cX2_measure 57 = .ok (.aload_n 1, 1) := by decide +kernel
theorem dX2_measure_58 : decode cX2_measure 58 = .ok (.iload 5, 2) := by decide +kernel
theorem dX2_measure_60 : decode cX2_measure 60 = .ok (.invokevirtual 20, 3) := by decide +kernel
theorem dX2_measure_63 : decode cX2_measure 63 = .ok (.aload_n 2, 1) := by decide +kernel
theorem dX2_measure_64 : decode cX2_measure 64 = .ok (.iload 4, 2) := by decide +kernel
theorem dX2_measure_66 : decode cX2_measure 66 = .ok (.aload_n 3, 1) := by decide +kernel
theorem dX2_measure_67 : decode cX2_measure 67 = .ok (.iconst 2, 1) := by decide +kernel
theorem dX2_measure_68 : decode cX2_measure 68 = .ok (.invokevirtual 20, 3) := by decide +kernel
theorem dX2_measure_71 : decode cX2_measure 71 = .ok (.invokevirtual 34, 3) := by decide +kernel
theorem dX2_measure_74 : decode cX2_measure 74 = .ok (.iinc 5 1, 3) := by decide +kernel
theorem dX2_measure_77 : decode cX2_measure 77 = .ok (.goto (-30), 3) := by decide +kernel
theorem dX2_measure_80 : decode cX2_measure 80 = .ok (.return_, 1) := by decide +kernel
theorem dX2_takeIn_0 : decode cX2_takeIn 0 = .ok (.aload_n 0, 1) := by decide +kernel
theorem dX2_takeIn_1 : decode cX2_takeIn 1 = .ok (.getfield 14, 3) := by decide +kernel
theorem dX2_takeIn_4 : decode cX2_takeIn 4 = .ok (.iconst 0, 1) := by decide +kernel
theorem dX2_takeIn_5 : decode cX2_takeIn 5 = .ok (.invokevirtual 20, 3) := by decide +kernel
theorem dX2_takeIn_8 : decode cX2_takeIn 8 = .ok (.istore 5, 2) := by decide +kernel
theorem dX2_takeIn_10 : decode cX2_takeIn 10 = .ok (.aload_n 0, 1) := by decide +kernel
theorem dX2_takeIn_11 : decode cX2_takeIn 11 = .ok (.getfield 14, 3) := by decide +kernel
theorem dX2_takeIn_14 : decode cX2_takeIn 14 = .ok (.iconst 0, 1) := by decide +kernel
theorem dX2_takeIn_15 : decode cX2_takeIn 15 = .ok (.iload 5, 2) := by decide +kernel
theorem dX2_takeIn_17 : decode cX2_takeIn 17 = .ok (.iload_n 3, 1) := by decide +kernel
theorem dX2_takeIn_18 : decode cX2_takeIn 18 = .ok (.iadd, 1) := by decide +kernel
theorem dX2_takeIn_19 : decode cX2_takeIn 19 = .ok (.invokevirtual 38, 3) := by decide +kernel
theorem dX2_takeIn_22 : decode cX2_takeIn 22 = .ok (.iconst 1, 1) := by decide +kernel
theorem dX2_takeIn_23 : decode cX2_takeIn 23 = .ok (.istore 6, 2) := by decide +kernel
theorem dX2_takeIn_25 : decode cX2_takeIn 25 = .ok (.iload 6, 2) := by decide +kernel
theorem dX2_takeIn_27 : decode cX2_takeIn 27 = .ok (.aload_n 2, 1) := by decide +kernel
theorem dX2_takeIn_28 : decode cX2_takeIn 28 = .ok (.invokevirtual 27, 3) := by decide +kernel
theorem dX2_takeIn_31 : decode cX2_takeIn 31 = .ok (.if_icmp .gt 82, 3) := by decide +kernel
theorem dX2_takeIn_34 : decode cX2_takeIn 34 = .ok (.iload 5, 2) := by decide +kernel
theorem dX2_takeIn_36 : decode cX2_takeIn 36 = .ok (.iload 4, 2) := by decide +kernel
theorem dX2_takeIn_38 : decode cX2_takeIn 38 = .ok (.iload_n 1, 1) := by decide +kernel
theorem dX2_takeIn_39 : decode cX2_takeIn 39 = .ok (.aload_n 2, 1) := by decide +kernel
theorem dX2_takeIn_40 : decode cX2_takeIn 40 = .ok (.iload 6, 2) := by decide +kernel
theorem dX2_takeIn_42 : decode cX2_takeIn 42 = .ok (.iconst 1, 1) := by decide +kernel
theorem dX2_takeIn_43 : decode cX2_takeIn 43 = .ok (.isub, 1) := by decide +kernel
theorem dX2_takeIn_44 : decode cX2_takeIn 44 = .ok (.invokevirtual 20, 3) := by decide +kernel
theorem dX2_takeIn_47 : decode cX2_takeIn 47 = .ok (.invokestatic 42, 3) := by decide +kernel
theorem dX2_takeIn_50 : decode cX2_takeIn 50 = .ok (.imul, 1) := by decide +kernel
theorem dX2_takeIn_51 : decode cX2_takeIn 51 = .ok (.iadd, 1) := by decide +kernel
theorem dX2_takeIn_52 : decode cX2_takeIn 52 = .ok (.istore 7, 2) := by decide +kernel
theorem dX2_takeIn_54 : decode cX2_takeIn 54 = .ok (.aload_n 0, 1) := by decide +kernel
theorem dX2_takeIn_55 : decode cX2_takeIn 55 = .ok (.getfield 14, 3) := by decide +kernel
theorem dX2_takeIn_58 : decode cX2_takeIn 58 = .ok (.iload 6, 2) := by decide +kernel
theorem dX2_takeIn_60 : decode cX2_takeIn 60 = .ok (.invokevirtual 20, 3) := by decide +kernel
theorem dX2_takeIn_63 : decode cX2_takeIn 63 = .ok (.istore 5, 2) := by decide +kernel
theorem dX2_takeIn_65 : decode cX2_takeIn 65 = .ok (.iload 5, 2) := by decide +kernel
theorem dX2_takeIn_67 : decode cX2_takeIn 67 = .ok (.iload_n 3, 1) := by decide +kernel
theorem dX2_takeIn_68 : decode cX2_takeIn 68 = .ok (.iadd, 1) := by decide +kernel
theorem dX2_takeIn_69 : decode cX2_takeIn 69 = .ok (.istore 8, 2) := by decide +kernel
theorem dX2_takeIn_71 : decode cX2_takeIn 71 = .ok (.aload_n 0, 1) := by decide +kernel
theorem dX2_takeIn_72 : decode cX2_takeIn 72 = .ok (.getfield 14, 3) := by decide +kernel
theorem dX2_takeIn_75 : decode cX2_takeIn 75 = .ok (.iload 6, 2) := by decide +kernel
theorem dX2_takeIn_77 : decode cX2_takeIn 77 = .ok (.iconst 1, 1) := by decide +kernel
theorem dX2_takeIn_78 : decode cX2_takeIn 78 = .ok (.isub, 1) := by decide +kernel
theorem dX2_takeIn_79 : decode cX2_takeIn 79 = .ok (.invokevirtual 20, 3) := by decide +kernel
theorem dX2_takeIn_82 : decode cX2_takeIn 82 = .ok (.iload_n 3, 1) := by decide +kernel
theorem dX2_takeIn_83 : decode cX2_takeIn 83 = .ok (.iadd, 1) := by decide +kernel
theorem dX2_takeIn_84 : decode cX2_takeIn 84 = .ok (.istore 9, 2) := by decide +kernel
theorem dX2_takeIn_86 : decode cX2_takeIn 86 = .ok (.aload_n 0, 1) := by decide +kernel
theorem dX2_takeIn_87 : decode cX2_takeIn 87 = .ok (.getfield 14, 3) := by decide +kernel
theorem dX2_takeIn_90 : decode cX2_takeIn 90 = .ok (.iload 6, 2) := by decide +kernel
theorem dX2_takeIn_92 : decode cX2_takeIn 92 = .ok (.iload 7, 2) := by decide +kernel
theorem dX2_takeIn_94 : decode cX2_takeIn 94 = .ok (.iload 8, 2) := by decide +kernel
theorem dX2_takeIn_96 : decode cX2_takeIn 96 = .ok (.iload 9, 2) := by decide +kernel
theorem dX2_takeIn_98 : decode cX2_takeIn 98 = .ok (.invokestatic 46, 3) := by decide +kernel
theorem dX2_takeIn_101 : decode cX2_takeIn 101 = .ok (.invokestatic 46, 3) := by decide +kernel
theorem dX2_takeIn_104 : decode cX2_takeIn 104 = .ok (.invokevirtual 38, 3) := by decide +kernel
theorem dX2_takeIn_107 : decode cX2_takeIn 107 = .ok (.iinc 6 1, 3) := by decide +kernel
theorem dX2_takeIn_110 : decode cX2_takeIn 110 = .ok (.goto (-85), 3) := by decide +kernel
theorem dX2_takeIn_113 : decode cX2_takeIn 113 = .ok (.return_, 1) := by decide +kernel
theorem dX2_whole_0 : decode cX2_whole 0 = .ok (.aload_n 0, 1) := by decide +kernel
theorem dX2_whole_1 : decode cX2_whole 1 = .ok (.getfield 14, 3) := by decide +kernel
theorem dX2_whole_4 : decode cX2_whole 4 = .ok (.aload_n 0, 1) := by decide +kernel
theorem dX2_whole_5 : decode cX2_whole 5 = .ok (.getfield 14, 3) := by decide +kernel
theorem dX2_whole_8 : decode cX2_whole 8 = .ok (.invokevirtual 27, 3) := by decide +kernel
theorem dX2_whole_11 : decode cX2_whole 11 = .ok (.iconst 1, 1) := by decide +kernel
theorem dX2_whole_12 : decode cX2_whole 12 = .ok (.isub, 1) := by decide +kernel
theorem dX2_whole_13 : decode cX2_whole 13 = .ok (.invokevirtual 20, 3) := by decide +kernel
theorem dX2_whole_16 : decode cX2_whole 16 = .ok (.ireturn, 1) := by decide +kernel
theorem dX2_leastRest_0 : decode cX2_leastRest 0 = .ok (.iconst 0, 1) := by decide +kernel
theorem dX2_leastRest_1 : decode cX2_leastRest 1 = .ok (.istore_n 2, 1) := by decide +kernel
theorem dX2_leastRest_2 : decode cX2_leastRest 2 = .ok (.iload_n 2, 1) := by decide +kernel
theorem dX2_leastRest_3 : decode cX2_leastRest 3 = .ok (.aload_n 0, 1) := by decide +kernel
theorem dX2_leastRest_4 : decode cX2_leastRest 4 = .ok (.getfield 14, 3) := by decide +kernel
theorem dX2_leastRest_7 : decode cX2_leastRest 7 = .ok (.invokevirtual 27, 3) := by decide +kernel
theorem dX2_leastRest_10 : decode cX2_leastRest 10 = .ok (.if_icmp .ge 33, 3) := by decide +kernel
theorem dX2_leastRest_13 : decode cX2_leastRest 13 = .ok (.aload_n 0, 1) := by decide +kernel
theorem dX2_leastRest_14 : decode cX2_leastRest 14 = .ok (.getfield 14, 3) := by decide +kernel
theorem dX2_leastRest_17 : decode cX2_leastRest 17 = .ok (.aload_n 0, 1) := by decide +kernel
theorem dX2_leastRest_18 : decode cX2_leastRest 18 = .ok (.getfield 14, 3) := by decide +kernel
theorem dX2_leastRest_21 : decode cX2_leastRest 21 = .ok (.invokevirtual 27, 3) := by decide +kernel
theorem dX2_leastRest_24 : decode cX2_leastRest 24 = .ok (.iconst 1, 1) := by decide +kernel
theorem dX2_leastRest_25 : decode cX2_leastRest 25 = .ok (.isub, 1) := by decide +kernel
theorem dX2_leastRest_26 : decode cX2_leastRest 26 = .ok (.iload_n 2, 1) := by decide +kernel
theorem dX2_leastRest_27 : decode cX2_leastRest 27 = .ok (.isub, 1) := by decide +kernel
theorem dX2_leastRest_28 : decode cX2_leastRest 28 = .ok (.invokevirtual 20, 3) := by decide +kernel
theorem dX2_leastRest_31 : decode cX2_leastRest 31 = .ok (.iload_n 1, 1) := by decide +kernel
theorem dX2_leastRest_32 : decode cX2_leastRest 32 = .ok (.if_icmp .gt 5, 3) := by decide +kernel
theorem dX2_leastRest_35 : decode cX2_leastRest 35 = .ok (.iload_n 2, 1) := by decide +kernel
theorem dX2_leastRest_36 : decode cX2_leastRest 36 = .ok (.ireturn, 1) := by decide +kernel
theorem dX2_leastRest_37 : decode cX2_leastRest 37 = .ok (.iinc 2 1, 3) := by decide +kernel
theorem dX2_leastRest_40 : decode cX2_leastRest 40 = .ok (.goto (-38), 3) := by decide +kernel
theorem dX2_leastRest_43 : decode cX2_leastRest 43 = .ok (.iconst (-1), 1) := by decide +kernel
theorem dX2_leastRest_44 : decode cX2_leastRest 44 = .ok (.ireturn, 1) := by decide +kernel
theorem dX3_init_0 : decode cX3_init 0 = .ok (.aload_n 0, 1) := by decide +kernel
theorem dX3_init_1 : decode cX3_init 1 = .ok (.invokespecial 3, 3) := by decide +kernel
theorem dX3_init_4 : decode cX3_init 4 = .ok (.aload_n 0, 1) := by decide +kernel
theorem dX3_init_5 : decode cX3_init 5 = .ok (.new 9, 3) := by decide +kernel
theorem dX3_init_8 : decode cX3_init 8 = .ok (.dup, 1) := by decide +kernel
theorem dX3_init_9 : decode cX3_init 9 = .ok (.bipush 41, 2) := by decide +kernel
theorem dX3_init_11 : decode cX3_init 11 = .ok (.invokespecial 11, 3) := by decide +kernel
theorem dX3_init_14 : decode cX3_init 14 = .ok (.putfield 14, 3) := by decide +kernel
theorem dX3_init_17 : decode cX3_init 17 = .ok (.aload_n 0, 1) := by decide +kernel
theorem dX3_init_18 : decode cX3_init 18 = .ok (.new 9, 3) := by decide +kernel
theorem dX3_init_21 : decode cX3_init 21 = .ok (.dup, 1) := by decide +kernel
theorem dX3_init_22 : decode cX3_init 22 = .ok (.bipush 41, 2) := by decide +kernel
theorem dX3_init_24 : decode cX3_init 24 = .ok (.invokespecial 11, 3) := by decide +kernel
theorem dX3_init_27 : decode cX3_init 27 = .ok (.putfield 20, 3) := by decide +kernel
theorem dX3_init_30 : decode cX3_init 30 = .ok (.return_, 1) := by decide +kernel
theorem dX3_held_0 : decode cX3_held 0 = .ok (.aload_n 0, 1) := by decide +kernel
theorem dX3_held_1 : decode cX3_held 1 = .ok (.getfield 14, 3) := by decide +kernel
theorem dX3_held_4 : decode cX3_held 4 = .ok (.invokevirtual 23, 3) := by decide +kernel
theorem dX3_held_7 : decode cX3_held 7 = .ok (.ireturn, 1) := by decide +kernel
theorem dX3_x_0 : decode cX3_x 0 = .ok (.aload_n 0, 1) := by decide +kernel
theorem dX3_x_1 : decode cX3_x 1 = .ok (.getfield 14, 3) := by decide +kernel
theorem dX3_x_4 : decode cX3_x 4 = .ok (.iload_n 1, 1) := by decide +kernel
theorem dX3_x_5 : decode cX3_x 5 = .ok (.invokevirtual 27, 3) := by decide +kernel
theorem dX3_x_8 : decode cX3_x 8 = .ok (.ireturn, 1) := by decide +kernel
theorem dX3_y_0 : decode cX3_y 0 = .ok (.aload_n 0, 1) := by decide +kernel
theorem dX3_y_1 : decode cX3_y 1 = .ok (.getfield 20, 3) := by decide +kernel
theorem dX3_y_4 : decode cX3_y 4 = .ok (.iload_n 1, 1) := by decide +kernel
theorem dX3_y_5 : decode cX3_y 5 = .ok (.invokevirtual 27, 3) := by decide +kernel
theorem dX3_y_8 : decode cX3_y 8 = .ok (.ireturn, 1) := by decide +kernel
theorem dX3_add_0 : decode cX3_add 0 = .ok (.aload_n 0, 1) := by decide +kernel
theorem dX3_add_1 : decode cX3_add 1 = .ok (.getfield 14, 3) := by decide +kernel
theorem dX3_add_4 : decode cX3_add 4 = .ok (.iload_n 1, 1) := by decide +kernel
theorem dX3_add_5 : decode cX3_add 5 = .ok (.invokevirtual 31, 3) := by decide +kernel
theorem dX3_add_8 : decode cX3_add 8 = .ok (.aload_n 0, 1) := by decide +kernel
theorem dX3_add_9 : decode cX3_add 9 = .ok (.getfield 20, 3) := by decide +kernel
theorem dX3_add_12 : decode cX3_add 12 = .ok (.iload_n 2, 1) := by decide +kernel
theorem dX3_add_13 : decode cX3_add 13 = .ok (.invokevirtual 31, 3) := by decide +kernel
theorem dX3_add_16 : decode cX3_add 16 = .ok (.return_, 1) := by decide +kernel
theorem dX3_cut_0 : decode cX3_cut 0 = .ok (.aload_n 0, 1) := by decide +kernel
theorem dX3_cut_1 : decode cX3_cut 1 = .ok (.getfield 14, 3) := by decide +kernel
theorem dX3_cut_4 : decode cX3_cut 4 = .ok (.iload_n 1, 1) := by decide +kernel
theorem dX3_cut_5 : decode cX3_cut 5 = .ok (.invokevirtual 34, 3) := by decide +kernel
theorem dX3_cut_8 : decode cX3_cut 8 = .ok (.aload_n 0, 1) := by decide +kernel
theorem dX3_cut_9 : decode cX3_cut 9 = .ok (.getfield 20, 3) := by decide +kernel
theorem dX3_cut_12 : decode cX3_cut 12 = .ok (.iload_n 1, 1) := by decide +kernel
theorem dX3_cut_13 : decode cX3_cut 13 = .ok (.invokevirtual 34, 3) := by decide +kernel
theorem dX3_cut_16 : decode cX3_cut 16 = .ok (.return_, 1) := by decide +kernel
theorem dX3_copy_0 : decode cX3_copy 0 = .ok (.aload_n 0, 1) := by decide +kernel
theorem dX3_copy_1 : decode cX3_copy 1 = .ok (.getfield 14, 3) := by decide +kernel
theorem dX3_copy_4 : decode cX3_copy 4 = .ok (.aload_n 1, 1) := by decide +kernel
theorem dX3_copy_5 : decode cX3_copy 5 = .ok (.getfield 14, 3) := by decide +kernel
theorem dX3_copy_8 : decode cX3_copy 8 = .ok (.invokevirtual 37, 3) := by decide +kernel
theorem dX3_copy_11 : decode cX3_copy 11 = .ok (.aload_n 0, 1) := by decide +kernel
theorem dX3_copy_12 : decode cX3_copy 12 = .ok (.getfield 20, 3) := by decide +kernel
theorem dX3_copy_15 : decode cX3_copy 15 = .ok (.aload_n 1, 1) := by decide +kernel
theorem dX3_copy_16 : decode cX3_copy 16 = .ok (.getfield 20, 3) := by decide +kernel
theorem dX3_copy_19 : decode cX3_copy 19 = .ok (.invokevirtual 37, 3) := by decide +kernel
theorem dX3_copy_22 : decode cX3_copy 22 = .ok (.return_, 1) := by decide +kernel
theorem dX3_directionTo_0 : decode cX3_directionTo 0 = .ok (.aload_n 0, 1) := by decide +kernel
theorem dX3_directionTo_1 : decode cX3_directionTo 1 = .ok (.getfield 14, 3) := by decide +kernel
theorem dX3_directionTo_4 : decode cX3_directionTo 4 = .ok (.iload_n 1, 1) := by decide +kernel
theorem dX3_directionTo_5 : decode cX3_directionTo 5 = .ok (.invokestatic 41, 3) := by decide +kernel
theorem dX3_directionTo_8 : decode cX3_directionTo 8 = .ok (.invokestatic 45, 3) := by decide +kernel
theorem dX3_directionTo_11 : decode cX3_directionTo 11 = .ok (.istore_n 2, 1) := by decide +kernel
theorem dX3_directionTo_12 : decode cX3_directionTo 12 = .ok (.aload_n 0, 1) := by decide +kernel
theorem dX3_directionTo_13 : decode cX3_directionTo 13 = .ok (.getfield 20, 3) := by decide +kernel
theorem dX3_directionTo_16 : decode cX3_directionTo 16 = .ok (.iload_n 1, 1) := by decide +kernel
theorem dX3_directionTo_17 : decode cX3_directionTo 17 = .ok (.invokestatic 41, 3) := by decide +kernel
theorem dX3_directionTo_20 : decode cX3_directionTo 20 = .ok (.invokestatic 45, 3) := by decide +kernel
theorem dX3_directionTo_23 : decode cX3_directionTo 23 = .ok (.istore_n 3, 1) := by decide +kernel
theorem dX3_directionTo_24 : decode cX3_directionTo 24 = .ok (.iconst 0, 1) := by decide +kernel
theorem dX3_directionTo_25 : decode cX3_directionTo 25 = .ok (.istore 4, 2) := by decide +kernel
theorem dX3_directionTo_27 : decode cX3_directionTo 27 = .ok (.iload 4, 2) := by decide +kernel
theorem dX3_directionTo_29 : decode cX3_directionTo 29 = .ok (.bipush 8, 2) := by decide +kernel
theorem dX3_directionTo_31 : decode cX3_directionTo 31 = .ok (.if_icmp .ge 36, 3) := by decide +kernel
theorem dX3_directionTo_34 : decode cX3_directionTo 34 = .ok (.getstatic 50, 3) := by decide +kernel
theorem dX3_directionTo_37 : decode cX3_directionTo 37 = .ok (.iload 4, 2) := by decide +kernel
theorem dX3_directionTo_39 : decode cX3_directionTo 39 = .ok (.invokestatic 54, 3) := by decide +kernel
theorem dX3_directionTo_42 : decode cX3_directionTo 42 = .ok (.iload_n 2, 1) := by decide +kernel
theorem dX3_directionTo_43 : decode cX3_directionTo 43 = .ok (.if_icmp .ne 18, 3) := by decide +kernel
theorem dX3_directionTo_46 : decode cX3_directionTo 46 = .ok (.getstatic 58, 3) := by decide +kernel
theorem dX3_directionTo_49 : decode cX3_directionTo 49 = .ok (.iload 4, 2) := by decide +kernel
theorem dX3_directionTo_51 : decode cX3_directionTo 51 = .ok (.invokestatic 54, 3) := by decide +kernel
theorem dX3_directionTo_54 : decode cX3_directionTo 54 = .ok (.iload_n 3, 1) := by decide +kernel
theorem dX3_directionTo_55 : decode cX3_directionTo 55 = .ok (.if_icmp .ne 6, 3) := by decide +kernel
theorem dX3_directionTo_58 : decode cX3_directionTo 58 = .ok (.iload 4, 2) := by decide +kernel
theorem dX3_directionTo_60 : decode cX3_directionTo 60 = .ok (.ireturn, 1) := by decide +kernel
theorem dX3_directionTo_61 : decode cX3_directionTo 61 = .ok (.iinc 4 1, 3) := by decide +kernel
theorem dX3_directionTo_64 : decode cX3_directionTo 64 = .ok (.goto (-37), 3) := by decide +kernel
theorem dX3_directionTo_67 : decode cX3_directionTo 67 = .ok (.iconst (-1), 1) := by decide +kernel
theorem dX3_directionTo_68 : decode cX3_directionTo 68 = .ok (.ireturn, 1) := by decide +kernel
theorem dX3_lengthTo_0 : decode cX3_lengthTo 0 = .ok (.aload_n 0, 1) := by decide +kernel
theorem dX3_lengthTo_1 : decode cX3_lengthTo 1 = .ok (.getfield 14, 3) := by decide +kernel
theorem dX3_lengthTo_4 : decode cX3_lengthTo 4 = .ok (.iload_n 1, 1) := by decide +kernel
theorem dX3_lengthTo_5 : decode cX3_lengthTo 5 = .ok (.invokestatic 41, 3) := by decide +kernel
theorem dX3_lengthTo_8 : decode cX3_lengthTo 8 = .ok (.invokestatic 61, 3) := by decide +kernel
theorem dX3_lengthTo_11 : decode cX3_lengthTo 11 = .ok (.aload_n 0, 1) := by decide +kernel
theorem dX3_lengthTo_12 : decode cX3_lengthTo 12 = .ok (.getfield 20, 3) := by decide +kernel
theorem dX3_lengthTo_15 : decode cX3_lengthTo 15 = .ok (.iload_n 1, 1) := by decide +kernel
theorem dX3_lengthTo_16 : decode cX3_lengthTo 16 = .ok (.invokestatic 41, 3) := by decide +kernel
theorem dX3_lengthTo_19 : decode cX3_lengthTo 19 = .ok (.invokestatic 61, 3) := by decide +kernel
theorem dX3_lengthTo_22 : decode cX3_lengthTo 22 = .ok (.invokestatic 66, 3) := by decide +kernel
theorem dX3_lengthTo_25 : decode cX3_lengthTo 25 = .ok (.ireturn, 1) := by decide +kernel
theorem dX3_isEvenTo_0 : decode cX3_isEvenTo 0 = .ok (.aload_n 0, 1) := by decide +kernel
theorem dX3_isEvenTo_1 : decode cX3_isEvenTo 1 = .ok (.getfield 14, 3) := by decide +kernel
theorem dX3_isEvenTo_4 : decode cX3_isEvenTo 4 = .ok (.iload_n 1, 1) := by decide +kernel
theorem dX3_isEvenTo_5 : decode cX3_isEvenTo 5 = .ok (.invokestatic 41, 3) := by decide +kernel
theorem dX3_isEvenTo_8 : decode cX3_isEvenTo 8 = .ok (.invokestatic 61, 3) := by decide +kernel
theorem dX3_isEvenTo_11 : decode cX3_isEvenTo 11 = .ok (.istore_n 2, 1) := by decide +kernel
theorem dX3_isEvenTo_12 : decode cX3_isEvenTo 12 = .ok (.aload_n 0, 1) := by decide +kernel
theorem dX3_isEvenTo_13 : decode cX3_isEvenTo 13 = .ok (.getfield 20, 3) := by decide +kernel
theorem dX3_isEvenTo_16 : decode cX3_isEvenTo 16 = .ok (.iload_n 1, 1) := by decide +kernel
theorem dX3_isEvenTo_17 : decode cX3_isEvenTo 17 = .ok (.invokestatic 41, 3) := by decide +kernel
theorem dX3_isEvenTo_20 : decode cX3_isEvenTo 20 = .ok (.invokestatic 61, 3) := by decide +kernel
theorem dX3_isEvenTo_23 : decode cX3_isEvenTo 23 = .ok (.istore_n 3, 1) := by decide +kernel
theorem dX3_isEvenTo_24 : decode cX3_isEvenTo 24 = .ok (.iload_n 2, 1) := by decide +kernel
theorem dX3_isEvenTo_25 : decode cX3_isEvenTo 25 = .ok (.ifCond .eq 12, 3) := by decide +kernel
theorem dX3_isEvenTo_28 : decode cX3_isEvenTo 28 = .ok (.iload_n 3, 1) := by decide +kernel
theorem dX3_isEvenTo_29 : decode cX3_isEvenTo 29 = .ok (.ifCond .eq 8, 3) := by decide +kernel
theorem dX3_isEvenTo_32 : decode cX3_isEvenTo 32 = .ok (.iload_n 2, 1) := by decide +kernel
theorem dX3_isEvenTo_33 : decode cX3_isEvenTo 33 = .ok (.iload_n 3, 1) := by decide +kernel
theorem dX3_isEvenTo_34 : decode cX3_isEvenTo 34 = .ok (.if_icmp .ne 7, 3) := by decide +kernel
theorem dX3_isEvenTo_37 : decode cX3_isEvenTo 37 = .ok (.iconst 1, 1) := by decide +kernel
theorem dX3_isEvenTo_38 : decode cX3_isEvenTo 38 = .ok (.goto 4, 3) := by decide +kernel
theorem dX3_isEvenTo_41 : decode cX3_isEvenTo 41 = .ok (.iconst 0, 1) := by decide +kernel
theorem dX3_isEvenTo_42 : decode cX3_isEvenTo 42 = .ok (.ireturn, 1) := by decide +kernel
theorem dX3_reach_0 : decode cX3_reach 0 = .ok (.aload_n 0, 1) := by decide +kernel
theorem dX3_reach_1 : decode cX3_reach 1 = .ok (.invokevirtual 70, 3) := by decide +kernel
theorem dX3_reach_4 : decode cX3_reach 4 = .ok (.iconst 1, 1) := by decide +kernel
theorem dX3_reach_5 : decode cX3_reach 5 = .ok (.isub, 1) := by decide +kernel
theorem dX3_reach_6 : decode cX3_reach 6 = .ok (.istore_n 1, 1) := by decide +kernel
theorem dX3_reach_7 : decode cX3_reach 7 = .ok (.aload_n 0, 1) := by decide +kernel
theorem dX3_reach_8 : decode cX3_reach 8 = .ok (.getfield 14, 3) := by decide +kernel
theorem dX3_reach_11 : decode cX3_reach 11 = .ok (.iload_n 1, 1) := by decide +kernel
theorem dX3_reach_12 : decode cX3_reach 12 = .ok (.invokevirtual 27, 3) := by decide +kernel
theorem dX3_reach_15 : decode cX3_reach 15 = .ok (.aload_n 0, 1) := by decide +kernel
theorem dX3_reach_16 : decode cX3_reach 16 = .ok (.getfield 14, 3) := by decide +kernel
theorem dX3_reach_19 : decode cX3_reach 19 = .ok (.iconst 0, 1) := by decide +kernel
theorem dX3_reach_20 : decode cX3_reach 20 = .ok (.invokevirtual 27, 3) := by decide +kernel
theorem dX3_reach_23 : decode cX3_reach 23 = .ok (.isub, 1) := by decide +kernel
theorem dX3_reach_24 : decode cX3_reach 24 = .ok (.invokestatic 61, 3) := by decide +kernel
theorem dX3_reach_27 : decode cX3_reach 27 = .ok (.aload_n 0, 1) := by decide +kernel
theorem dX3_reach_28 : decode cX3_reach 28 = .ok (.getfield 20, 3) := by decide +kernel
theorem dX3_reach_31 : decode cX3_reach 31 = .ok (.iload_n 1, 1) := by decide +kernel
theorem dX3_reach_32 : decode cX3_reach 32 = .ok (.invokevirtual 27, 3) := by decide +kernel
theorem dX3_reach_35 : decode cX3_reach 35 = .ok (.aload_n 0, 1) := by decide +kernel
theorem dX3_reach_36 : decode cX3_reach 36 = .ok (.getfield 20, 3) := by decide +kernel
theorem dX3_reach_39 : decode cX3_reach 39 = .ok (.iconst 0, 1) := by decide +kernel
theorem dX3_reach_40 : decode cX3_reach 40 = .ok (.invokevirtual 27, 3) := by decide +kernel
theorem dX3_reach_43 : decode cX3_reach 43 = .ok (.isub, 1) := by decide +kernel
theorem dX3_reach_44 : decode cX3_reach 44 = .ok (.invokestatic 61, 3) := by decide +kernel
theorem dX3_reach_47 : decode cX3_reach 47 = .ok (.invokestatic 66, 3) := by decide +kernel
theorem dX3_reach_50 : decode cX3_reach 50 = .ok (.ireturn, 1) := by decide +kernel
theorem dX3_difference_0 : decode cX3_difference 0 = .ok (.iload_n 1, 1) := by decide +kernel
theorem dX3_difference_1 : decode cX3_difference 1 = .ok (.iconst 1, 1) := by decide +kernel
theorem dX3_difference_2 : decode cX3_difference 2 = .ok (.if_icmp .lt 11, 3) := by decide +kernel
theorem dX3_difference_5 : decode cX3_difference 5 = .ok (.iload_n 1, 1) := by decide +kernel
theorem dX3_difference_6 : decode cX3_difference 6 = .ok (.aload_n 0, 1) := by decide +kernel
theorem dX3_difference_7 : decode cX3_difference 7 = .ok (.invokevirtual 23, 3) := by decide +kernel
theorem dX3_difference_10 : decode cX3_difference 10 = .ok (.if_icmp .lt 5, 3) := by decide +kernel
theorem dX3_difference_13 : decode cX3_difference 13 = .ok (.iconst 0, 1) := by decide +kernel
theorem dX3_difference_14 : decode cX3_difference 14 = .ok (.ireturn, 1) := by decide +kernel
theorem dX3_difference_15 : decode cX3_difference 15 = .ok (.aload_n 0, 1) := by decide +kernel
theorem dX3_difference_16 : decode cX3_difference 16 = .ok (.iload_n 1, 1) := by decide +kernel
theorem dX3_difference_17 : decode cX3_difference 17 = .ok (.invokevirtual 27, 3) := by decide +kernel
theorem dX3_difference_20 : decode cX3_difference 20 = .ok (.aload_n 0, 1) := by decide +kernel
theorem dX3_difference_21 : decode cX3_difference 21 = .ok (.iload_n 1, 1) := by decide +kernel
theorem dX3_difference_22 : decode cX3_difference 22 = .ok (.iconst 1, 1) := by decide +kernel
theorem dX3_difference_23 : decode cX3_difference 23 = .ok (.isub, 1) := by decide +kernel
theorem dX3_difference_24 : decode cX3_difference 24 = .ok (.invokevirtual 27, 3) := by decide +kernel
theorem dX3_difference_27 : decode cX3_difference 27 = .ok (.isub, 1) := by decide +kernel
theorem dX3_difference_28 : decode cX3_difference 28 = .ok (.ireturn, 1) := by decide +kernel
theorem dX4_init_0 : decode cX4_init 0 = .ok (.aload_n 0, 1) := by decide +kernel
theorem dX4_init_1 : decode cX4_init 1 = .ok (.invokespecial 3, 3) := by decide +kernel
theorem dX4_init_4 : decode cX4_init 4 = .ok (.aload_n 0, 1) := by decide +kernel
theorem dX4_init_5 : decode cX4_init 5 = .ok (.iload_n 1, 1) := by decide +kernel
theorem dX4_init_6 : decode cX4_init 6 = .ok (.ifCond .le 7, 3) := by decide +kernel
theorem dX4_init_9 : decode cX4_init 9 = .ok (.iload_n 1, 1) := by decide +kernel
theorem dX4_init_10 : decode cX4_init 10 = .ok (.goto 4, 3) := by decide +kernel
theorem dX4_init_13 : decode cX4_init 13 = .ok (.iconst 0, 1) := by decide +kernel
theorem dX4_init_14 : decode cX4_init 14 = .ok (.newarray .int, 2) := by decide +kernel
theorem dX4_init_16 : decode cX4_init 16 = .ok (.putfield 9, 3) := by decide +kernel
theorem dX4_init_19 : decode cX4_init 19 = .ok (.aload_n 0, 1) := by decide +kernel
theorem dX4_init_20 : decode cX4_init 20 = .ok (.iconst 0, 1) := by decide +kernel
theorem dX4_init_21 : decode cX4_init 21 = .ok (.putfield 15, 3) := by decide +kernel
theorem dX4_init_24 : decode cX4_init 24 = .ok (.return_, 1) := by decide +kernel
theorem dX4_held_0 : decode cX4_held 0 = .ok (.aload_n 0, 1) := by decide +kernel
theorem dX4_held_1 : decode cX4_held 1 = .ok (.getfield 15, 3) := by decide +kernel
theorem dX4_held_4 : decode cX4_held 4 = .ok (.ireturn, 1) := by decide +kernel
theorem dX4_at_0 : decode cX4_at 0 = .ok (.iload_n 1, 1) := by decide +kernel
theorem dX4_at_1 : decode cX4_at 1 = .ok (.ifCond .lt 29, 3) := by decide +kernel
theorem dX4_at_4 : decode cX4_at 4 = .ok (.iload_n 1, 1) := by decide +kernel
theorem dX4_at_5 : decode cX4_at 5 = .ok (.aload_n 0, 1) := by decide +kernel
theorem dX4_at_6 : decode cX4_at 6 = .ok (.getfield 15, 3) := by decide +kernel
theorem dX4_at_9 : decode cX4_at 9 = .ok (.if_icmp .ge 21, 3) := by decide +kernel
theorem dX4_at_12 : decode cX4_at 12 = .ok (.iload_n 1, 1) := by decide +kernel
theorem dX4_at_13 : decode cX4_at 13 = .ok (.aload_n 0, 1) := by decide +kernel
theorem dX4_at_14 : decode cX4_at 14 = .ok (.getfield 9, 3) := by decide +kernel
theorem dX4_at_17 : decode cX4_at 17 = .ok (.arraylength, 1) := by decide +kernel
theorem dX4_at_18 : decode cX4_at 18 = .ok (.if_icmp .ge 12, 3) := by decide +kernel
theorem dX4_at_21 : decode cX4_at 21 = .ok (.aload_n 0, 1) := by decide +kernel
theorem dX4_at_22 : decode cX4_at 22 = .ok (.getfield 9, 3) := by decide +kernel
theorem dX4_at_25 : decode cX4_at 25 = .ok (.iload_n 1, 1) := by decide +kernel
theorem dX4_at_26 : decode cX4_at 26 = .ok (.iaload, 1) := by decide +kernel
theorem dX4_at_27 : decode cX4_at 27 = .ok (.goto 4, 3) := by decide +kernel
theorem dX4_at_30 : decode cX4_at 30 = .ok (.iconst (-1), 1) := by decide +kernel
theorem dX4_at_31 : decode cX4_at 31 = .ok (.ireturn, 1) := by decide +kernel
theorem dX4_put_0 : decode cX4_put 0 = .ok (.iload_n 1, 1) := by decide +kernel
theorem dX4_put_1 : decode cX4_put 1 = .ok (.ifCond .lt 27, 3) := by decide +kernel
theorem dX4_put_4 : decode cX4_put 4 = .ok (.iload_n 1, 1) := by decide +kernel
theorem dX4_put_5 : decode cX4_put 5 = .ok (.aload_n 0, 1) := by decide +kernel
theorem dX4_put_6 : decode cX4_put 6 = .ok (.getfield 15, 3) := by decide +kernel
theorem dX4_put_9 : decode cX4_put 9 = .ok (.if_icmp .ge 19, 3) := by decide +kernel
theorem dX4_put_12 : decode cX4_put 12 = .ok (.iload_n 1, 1) := by decide +kernel
theorem dX4_put_13 : decode cX4_put 13 = .ok (.aload_n 0, 1) := by decide +kernel
theorem dX4_put_14 : decode cX4_put 14 = .ok (.getfield 9, 3) := by decide +kernel
theorem dX4_put_17 : decode cX4_put 17 = .ok (.arraylength, 1) := by decide +kernel
theorem dX4_put_18 : decode cX4_put 18 = .ok (.if_icmp .ge 10, 3) := by decide +kernel
theorem dX4_put_21 : decode cX4_put 21 = .ok (.aload_n 0, 1) := by decide +kernel
theorem dX4_put_22 : decode cX4_put 22 = .ok (.getfield 9, 3) := by decide +kernel
theorem dX4_put_25 : decode cX4_put 25 = .ok (.iload_n 1, 1) := by decide +kernel
theorem dX4_put_26 : decode cX4_put 26 = .ok (.iload_n 2, 1) := by decide +kernel
theorem dX4_put_27 : decode cX4_put 27 = .ok (.iastore, 1) := by decide +kernel
theorem dX4_put_28 : decode cX4_put 28 = .ok (.return_, 1) := by decide +kernel
theorem dX4_add_0 : decode cX4_add 0 = .ok (.aload_n 0, 1) := by decide +kernel
theorem dX4_add_1 : decode cX4_add 1 = .ok (.getfield 15, 3) := by decide +kernel
theorem dX4_add_4 : decode cX4_add 4 = .ok (.ifCond .lt 35, 3) := by decide +kernel
theorem dX4_add_7 : decode cX4_add 7 = .ok (.aload_n 0, 1) := by decide +kernel
theorem dX4_add_8 : decode cX4_add 8 = .ok (.getfield 15, 3) := by decide +kernel
theorem dX4_add_11 : decode cX4_add 11 = .ok (.aload_n 0, 1) := by decide +kernel
theorem dX4_add_12 : decode cX4_add 12 = .ok (.getfield 9, 3) := by decide +kernel
theorem dX4_add_15 : decode cX4_add 15 = .ok (.arraylength, 1) := by decide +kernel
theorem dX4_add_16 : decode cX4_add 16 = .ok (.if_icmp .ge 23, 3) := by decide +kernel
theorem dX4_add_19 : decode cX4_add 19 = .ok (.aload_n 0, 1) := by decide +kernel
theorem dX4_add_20 : decode cX4_add 20 = .ok (.getfield 9, 3) := by decide +kernel
theorem dX4_add_23 : decode cX4_add 23 = .ok (.aload_n 0, 1) := by decide +kernel
theorem dX4_add_24 : decode cX4_add 24 = .ok (.getfield 15, 3) := by decide +kernel
theorem dX4_add_27 : decode cX4_add 27 = .ok (.iload_n 1, 1) := by decide +kernel
theorem dX4_add_28 : decode cX4_add 28 = .ok (.iastore, 1) := by decide +kernel
theorem dX4_add_29 : decode cX4_add 29 = .ok (.aload_n 0, 1) := by decide +kernel
theorem dX4_add_30 : decode cX4_add 30 = .ok (.dup, 1) := by decide +kernel
theorem dX4_add_31 : decode cX4_add 31 = .ok (.getfield 15, 3) := by decide +kernel
theorem dX4_add_34 : decode cX4_add 34 = .ok (.iconst 1, 1) := by decide +kernel
theorem dX4_add_35 : decode cX4_add 35 = .ok (.iadd, 1) := by decide +kernel
theorem dX4_add_36 : decode cX4_add 36 = .ok (.putfield 15, 3) := by decide +kernel
theorem dX4_add_39 : decode cX4_add 39 = .ok (.return_, 1) := by decide +kernel
theorem dX4_cut_0 : decode cX4_cut 0 = .ok (.iload_n 1, 1) := by decide +kernel
theorem dX4_cut_1 : decode cX4_cut 1 = .ok (.ifCond .lt 16, 3) := by decide +kernel
theorem dX4_cut_4 : decode cX4_cut 4 = .ok (.iload_n 1, 1) := by decide +kernel
theorem dX4_cut_5 : decode cX4_cut 5 = .ok (.aload_n 0, 1) := by decide +kernel
theorem dX4_cut_6 : decode cX4_cut 6 = .ok (.getfield 15, 3) := by decide +kernel
theorem dX4_cut_9 : decode cX4_cut 9 = .ok (.if_icmp .ge 8, 3) := by decide +kernel
theorem dX4_cut_12 : decode cX4_cut 12 = .ok (.aload_n 0, 1) := by decide +kernel
theorem dX4_cut_13 : decode cX4_cut 13 = .ok (.iload_n 1, 1) := by decide +kernel
theorem dX4_cut_14 : decode cX4_cut 14 = .ok (.putfield 15, 3) := by decide +kernel
theorem dX4_cut_17 : decode cX4_cut 17 = .ok (.return_, 1) := by decide +kernel
theorem dX4_clear_0 : decode cX4_clear 0 = .ok (.aload_n 0, 1) := by decide +kernel
theorem dX4_clear_1 : decode cX4_clear 1 = .ok (.iconst 0, 1) := by decide +kernel
theorem dX4_clear_2 : decode cX4_clear 2 = .ok (.putfield 15, 3) := by decide +kernel
theorem dX4_clear_5 : decode cX4_clear 5 = .ok (.return_, 1) := by decide +kernel
theorem dX4_remove_0 : decode cX4_remove 0 = .ok (.iload_n 1, 1) := by decide +kernel
theorem dX4_remove_1 : decode cX4_remove 1 = .ok (.ifCond .lt 11, 3) := by decide +kernel
theorem dX4_remove_4 : decode cX4_remove 4 = .ok (.iload_n 1, 1) := by decide +kernel
theorem dX4_remove_5 : decode cX4_remove 5 = .ok (.aload_n 0, 1) := by decide +kernel
theorem dX4_remove_6 : decode cX4_remove 6 = .ok (.getfield 15, 3) := by decide +kernel
theorem dX4_remove_9 : decode cX4_remove 9 = .ok (.if_icmp .lt 4, 3) := by decide +kernel
theorem dX4_remove_12 : decode cX4_remove 12 = .ok (.return_, 1) := by decide +kernel
theorem dX4_remove_13 : decode cX4_remove 13 = .ok (.iload_n 1, 1) := by decide +kernel
theorem dX4_remove_14 : decode cX4_remove 14 = .ok (.iconst 1, 1) := by decide +kernel
theorem dX4_remove_15 : decode cX4_remove 15 = .ok (.iadd, 1) := by decide +kernel
theorem dX4_remove_16 : decode cX4_remove 16 = .ok (.istore_n 2, 1) := by decide +kernel
theorem dX4_remove_17 : decode cX4_remove 17 = .ok (.iload_n 2, 1) := by decide +kernel
theorem dX4_remove_18 : decode cX4_remove 18 = .ok (.aload_n 0, 1) := by decide +kernel
theorem dX4_remove_19 : decode cX4_remove 19 = .ok (.getfield 15, 3) := by decide +kernel
theorem dX4_remove_22 : decode cX4_remove 22 = .ok (.if_icmp .ge 21, 3) := by decide +kernel
theorem dX4_remove_25 : decode cX4_remove 25 = .ok (.aload_n 0, 1) := by decide +kernel
theorem dX4_remove_26 : decode cX4_remove 26 = .ok (.iload_n 2, 1) := by decide +kernel
theorem dX4_remove_27 : decode cX4_remove 27 = .ok (.iconst 1, 1) := by decide +kernel
theorem dX4_remove_28 : decode cX4_remove 28 = .ok (.isub, 1) := by decide +kernel
theorem dX4_remove_29 : decode cX4_remove 29 = .ok (.aload_n 0, 1) := by decide +kernel
theorem dX4_remove_30 : decode cX4_remove 30 = .ok (.iload_n 2, 1) := by decide +kernel
theorem dX4_remove_31 : decode cX4_remove 31 = .ok (.invokevirtual 19, 3) := by decide +kernel
theorem dX4_remove_34 : decode cX4_remove 34 = .ok (.invokevirtual 23, 3) := by decide +kernel
theorem dX4_remove_37 : decode cX4_remove 37 = .ok (.iinc 2 1, 3) := by decide +kernel
theorem dX4_remove_40 : decode cX4_remove 40 = .ok (.goto (-23), 3) := by decide +kernel
theorem dX4_remove_43 : decode cX4_remove 43 = .ok (.aload_n 0, 1) := by decide +kernel
theorem dX4_remove_44 : decode cX4_remove 44 = .ok (.dup, 1) := by decide +kernel
theorem dX4_remove_45 : decode cX4_remove 45 = .ok (.getfield 15, 3) := by decide +kernel
theorem dX4_remove_48 : decode cX4_remove 48 = .ok (.iconst 1, 1) := by decide +kernel
theorem dX4_remove_49 : decode cX4_remove 49 = .ok (.isub, 1) := by decide +kernel
theorem dX4_remove_50 : decode cX4_remove 50 = .ok (.putfield 15, 3) := by decide +kernel
theorem dX4_remove_53 : decode cX4_remove 53 = .ok (.return_, 1) := by decide +kernel
theorem dX4_copy_0 : decode cX4_copy 0 = .ok (.aload_n 0, 1) := by decide +kernel
theorem dX4_copy_1 : decode cX4_copy 1 = .ok (.iconst 0, 1) := by decide +kernel
theorem dX4_copy_2 : decode cX4_copy 2 = .ok (.putfield 15, 3) := by decide +kernel
theorem dX4_copy_5 : decode cX4_copy 5 = .ok (.iconst 0, 1) := by decide +kernel
theorem dX4_copy_6 : decode cX4_copy 6 = .ok (.istore_n 2, 1) := by decide +kernel
theorem dX4_copy_7 : decode cX4_copy 7 = .ok (.iload_n 2, 1) := by decide +kernel
theorem dX4_copy_8 : decode cX4_copy 8 = .ok (.aload_n 1, 1) := by decide +kernel
theorem dX4_copy_9 : decode cX4_copy 9 = .ok (.getfield 15, 3) := by decide +kernel
theorem dX4_copy_12 : decode cX4_copy 12 = .ok (.if_icmp .ge 18, 3) := by decide +kernel
theorem dX4_copy_15 : decode cX4_copy 15 = .ok (.aload_n 0, 1) := by decide +kernel
theorem dX4_copy_16 : decode cX4_copy 16 = .ok (.aload_n 1, 1) := by decide +kernel
theorem dX4_copy_17 : decode cX4_copy 17 = .ok (.iload_n 2, 1) := by decide +kernel
theorem dX4_copy_18 : decode cX4_copy 18 = .ok (.invokevirtual 19, 3) := by decide +kernel
theorem dX4_copy_21 : decode cX4_copy 21 = .ok (.invokevirtual 27, 3) := by decide +kernel
theorem dX4_copy_24 : decode cX4_copy 24 = .ok (.iinc 2 1, 3) := by decide +kernel
theorem dX4_copy_27 : decode cX4_copy 27 = .ok (.goto (-20), 3) := by decide +kernel
theorem dX4_copy_30 : decode cX4_copy 30 = .ok (.return_, 1) := by decide +kernel
theorem dX4_sum_0 : decode cX4_sum 0 = .ok (.iconst 0, 1) := by decide +kernel
theorem dX4_sum_1 : decode cX4_sum 1 = .ok (.istore_n 1, 1) := by decide +kernel
theorem dX4_sum_2 : decode cX4_sum 2 = .ok (.iconst 0, 1) := by decide +kernel
theorem dX4_sum_3 : decode cX4_sum 3 = .ok (.istore_n 2, 1) := by decide +kernel
theorem dX4_sum_4 : decode cX4_sum 4 = .ok (.iload_n 2, 1) := by decide +kernel
theorem dX4_sum_5 : decode cX4_sum 5 = .ok (.aload_n 0, 1) := by decide +kernel
theorem dX4_sum_6 : decode cX4_sum 6 = .ok (.getfield 15, 3) := by decide +kernel
theorem dX4_sum_9 : decode cX4_sum 9 = .ok (.if_icmp .ge 17, 3) := by decide +kernel
theorem dX4_sum_12 : decode cX4_sum 12 = .ok (.iload_n 1, 1) := by decide +kernel
theorem dX4_sum_13 : decode cX4_sum 13 = .ok (.aload_n 0, 1) := by decide +kernel
theorem dX4_sum_14 : decode cX4_sum 14 = .ok (.iload_n 2, 1) := by decide +kernel
theorem dX4_sum_15 : decode cX4_sum 15 = .ok (.invokevirtual 19, 3) := by decide +kernel
theorem dX4_sum_18 : decode cX4_sum 18 = .ok (.iadd, 1) := by decide +kernel
theorem dX4_sum_19 : decode cX4_sum 19 = .ok (.istore_n 1, 1) := by decide +kernel
theorem dX4_sum_20 : decode cX4_sum 20 = .ok (.iinc 2 1, 3) := by decide +kernel
theorem dX4_sum_23 : decode cX4_sum 23 = .ok (.goto (-19), 3) := by decide +kernel
theorem dX4_sum_26 : decode cX4_sum 26 = .ok (.iload_n 1, 1) := by decide +kernel
theorem dX4_sum_27 : decode cX4_sum 27 = .ok (.ireturn, 1) := by decide +kernel
theorem dX5_init_0 : decode cX5_init 0 = .ok (.aload_n 0, 1) := by decide +kernel
theorem dX5_init_1 : decode cX5_init 1 = .ok (.invokespecial 3, 3) := by decide +kernel
theorem dX5_init_4 : decode cX5_init 4 = .ok (.aload_n 0, 1) := by decide +kernel
theorem dX5_init_5 : decode cX5_init 5 = .ok (.new 9, 3) := by decide +kernel
theorem dX5_init_8 : decode cX5_init 8 = .ok (.dup, 1) := by decide +kernel
theorem dX5_init_9 : decode cX5_init 9 = .ok (.invokespecial 11, 3) := by decide +kernel
theorem dX5_init_12 : decode cX5_init 12 = .ok (.putfield 12, 3) := by decide +kernel
theorem dX5_init_15 : decode cX5_init 15 = .ok (.aload_n 0, 1) := by decide +kernel
theorem dX5_init_16 : decode cX5_init 16 = .ok (.new 18, 3) := by decide +kernel
theorem dX5_init_19 : decode cX5_init 19 = .ok (.dup, 1) := by decide +kernel
theorem dX5_init_20 : decode cX5_init 20 = .ok (.invokespecial 20, 3) := by decide +kernel
theorem dX5_init_23 : decode cX5_init 23 = .ok (.putfield 21, 3) := by decide +kernel
theorem dX5_init_26 : decode cX5_init 26 = .ok (.aload_n 0, 1) := by decide +kernel
theorem dX5_init_27 : decode cX5_init 27 = .ok (.new 25, 3) := by decide +kernel
theorem dX5_init_30 : decode cX5_init 30 = .ok (.dup, 1) := by decide +kernel
theorem dX5_init_31 : decode cX5_init 31 = .ok (.iconst 5, 1) := by decide +kernel
theorem dX5_init_32 : decode cX5_init 32 = .ok (.invokespecial 27, 3) := by decide +kernel
theorem dX5_init_35 : decode cX5_init 35 = .ok (.putfield 30, 3) := by decide +kernel
theorem dX5_init_38 : decode cX5_init 38 = .ok (.iconst 0, 1) := by decide +kernel
theorem dX5_init_39 : decode cX5_init 39 = .ok (.istore_n 1, 1) := by decide +kernel
theorem dX5_init_40 : decode cX5_init 40 = .ok (.iload_n 1, 1) := by decide +kernel
theorem dX5_init_41 : decode cX5_init 41 = .ok (.iconst 5, 1) := by decide +kernel
theorem dX5_init_42 : decode cX5_init 42 = .ok (.if_icmp .ge 23, 3) := by decide +kernel
theorem dX5_init_45 : decode cX5_init 45 = .ok (.aload_n 0, 1) := by decide +kernel
theorem dX5_init_46 : decode cX5_init 46 = .ok (.getfield 30, 3) := by decide +kernel
theorem dX5_init_49 : decode cX5_init 49 = .ok (.getstatic 34, 3) := by decide +kernel
theorem dX5_init_52 : decode cX5_init 52 = .ok (.iload_n 1, 1) := by decide +kernel
theorem dX5_init_53 : decode cX5_init 53 = .ok (.invokestatic 38, 3) := by decide +kernel
theorem dX5_init_56 : decode cX5_init 56 = .ok (.invokevirtual 42, 3) := by decide +kernel
theorem dX5_init_59 : decode cX5_init 59 = .ok (.iinc 1 1, 3) := by decide +kernel
theorem dX5_init_62 : decode cX5_init 62 = .ok (.goto (-22), 3) := by decide +kernel
theorem dX5_init_65 : decode cX5_init 65 = .ok (.return_, 1) := by decide +kernel
theorem dX5_copy_0 : decode cX5_copy 0 = .ok (.aload_n 0, 1) := by decide +kernel
theorem dX5_copy_1 : decode cX5_copy 1 = .ok (.getfield 12, 3) := by decide +kernel
theorem dX5_copy_4 : decode cX5_copy 4 = .ok (.aload_n 1, 1) := by decide +kernel
theorem dX5_copy_5 : decode cX5_copy 5 = .ok (.getfield 12, 3) := by decide +kernel
theorem dX5_copy_8 : decode cX5_copy 8 = .ok (.invokevirtual 45, 3) := by decide +kernel
theorem dX5_copy_11 : decode cX5_copy 11 = .ok (.aload_n 0, 1) := by decide +kernel
theorem dX5_copy_12 : decode cX5_copy 12 = .ok (.getfield 21, 3) := by decide +kernel
theorem dX5_copy_15 : decode cX5_copy 15 = .ok (.aload_n 1, 1) := by decide +kernel
theorem dX5_copy_16 : decode cX5_copy 16 = .ok (.getfield 21, 3) := by decide +kernel
theorem dX5_copy_19 : decode cX5_copy 19 = .ok (.invokevirtual 49, 3) := by decide +kernel
theorem dX5_copy_22 : decode cX5_copy 22 = .ok (.aload_n 0, 1) := by decide +kernel
theorem dX5_copy_23 : decode cX5_copy 23 = .ok (.getfield 30, 3) := by decide +kernel
theorem dX5_copy_26 : decode cX5_copy 26 = .ok (.aload_n 1, 1) := by decide +kernel
theorem dX5_copy_27 : decode cX5_copy 27 = .ok (.getfield 30, 3) := by decide +kernel
theorem dX5_copy_30 : decode cX5_copy 30 = .ok (.invokevirtual 52, 3) := by decide +kernel
theorem dX5_copy_33 : decode cX5_copy 33 = .ok (.return_, 1) := by decide +kernel
theorem dX6_init_0 : decode cX6_init 0 = .ok (.aload_n 0, 1) := by decide +kernel
theorem dX6_init_1 : decode cX6_init 1 = .ok (.invokespecial 3, 3) := by decide +kernel
theorem dX6_init_4 : decode cX6_init 4 = .ok (.aload_n 0, 1) := by decide +kernel
theorem dX6_init_5 : decode cX6_init 5 = .ok (.new 9, 3) := by decide +kernel
theorem dX6_init_8 : decode cX6_init 8 = .ok (.dup, 1) := by decide +kernel
theorem dX6_init_9 : decode cX6_init 9 = .ok (.invokespecial 11, 3) := by decide +kernel
theorem dX6_init_12 : decode cX6_init 12 = .ok (.putfield 12, 3) := by decide +kernel
theorem dX6_init_15 : decode cX6_init 15 = .ok (.aload_n 0, 1) := by decide +kernel
theorem dX6_init_16 : decode cX6_init 16 = .ok (.new 18, 3) := by decide +kernel
theorem dX6_init_19 : decode cX6_init 19 = .ok (.dup, 1) := by decide +kernel
theorem dX6_init_20 : decode cX6_init 20 = .ok (.bipush 40, 2) := by decide +kernel
theorem dX6_init_22 : decode cX6_init 22 = .ok (.invokespecial 20, 3) := by decide +kernel
theorem dX6_init_25 : decode cX6_init 25 = .ok (.putfield 23, 3) := by decide +kernel
theorem dX6_init_28 : decode cX6_init 28 = .ok (.aload_n 0, 1) := by decide +kernel
theorem dX6_init_29 : decode cX6_init 29 = .ok (.new 18, 3) := by decide +kernel
theorem dX6_init_32 : decode cX6_init 32 = .ok (.dup, 1) := by decide +kernel
theorem dX6_init_33 : decode cX6_init 33 = .ok (.bipush 40, 2) := by decide +kernel
theorem dX6_init_35 : decode cX6_init 35 = .ok (.invokespecial 20, 3) := by decide +kernel
theorem dX6_init_38 : decode cX6_init 38 = .ok (.putfield 27, 3) := by decide +kernel
theorem dX6_init_41 : decode cX6_init 41 = .ok (.aload_n 0, 1) := by decide +kernel
theorem dX6_init_42 : decode cX6_init 42 = .ok (.new 18, 3) := by decide +kernel
theorem dX6_init_45 : decode cX6_init 45 = .ok (.dup, 1) := by decide +kernel
theorem dX6_init_46 : decode cX6_init 46 = .ok (.bipush 40, 2) := by decide +kernel
theorem dX6_init_48 : decode cX6_init 48 = .ok (.invokespecial 20, 3) := by decide +kernel
theorem dX6_init_51 : decode cX6_init 51 = .ok (.putfield 30, 3) := by decide +kernel
theorem dX6_init_54 : decode cX6_init 54 = .ok (.aload_n 0, 1) := by decide +kernel
theorem dX6_init_55 : decode cX6_init 55 = .ok (.new 18, 3) := by decide +kernel
theorem dX6_init_58 : decode cX6_init 58 = .ok (.dup, 1) := by decide +kernel
theorem dX6_init_59 : decode cX6_init 59 = .ok (.bipush 40, 2) := by decide +kernel
theorem dX6_init_61 : decode cX6_init 61 = .ok (.invokespecial 20, 3) := by decide +kernel
theorem dX6_init_64 : decode cX6_init 64 = .ok (.putfield 33, 3) := by decide +kernel
theorem dX6_init_67 : decode cX6_init 67 = .ok (.aload_n 0, 1) := by decide +kernel
theorem dX6_init_68 : decode cX6_init 68 = .ok (.new 18, 3) := by decide +kernel
theorem dX6_init_71 : decode cX6_init 71 = .ok (.dup, 1) := by decide +kernel
theorem dX6_init_72 : decode cX6_init 72 = .ok (.bipush 10, 2) := by decide +kernel
theorem dX6_init_74 : decode cX6_init 74 = .ok (.invokespecial 20, 3) := by decide +kernel
theorem dX6_init_77 : decode cX6_init 77 = .ok (.putfield 36, 3) := by decide +kernel
theorem dX6_init_80 : decode cX6_init 80 = .ok (.aload_n 0, 1) := by decide +kernel
theorem dX6_init_81 : decode cX6_init 81 = .ok (.new 18, 3) := by decide +kernel
theorem dX6_init_84 : decode cX6_init 84 = .ok (.dup, 1) := by decide +kernel
theorem dX6_init_85 : decode cX6_init 85 = .ok (.bipush 10, 2) := by decide +kernel
theorem dX6_init_87 : decode cX6_init 87 = .ok (.invokespecial 20, 3) := by decide +kernel
theorem dX6_init_90 : decode cX6_init 90 = .ok (.putfield 39, 3) := by decide +kernel
theorem dX6_init_93 : decode cX6_init 93 = .ok (.aload_n 0, 1) := by decide +kernel
theorem dX6_init_94 : decode cX6_init 94 = .ok (.iconst 0, 1) := by decide +kernel
theorem dX6_init_95 : decode cX6_init 95 = .ok (.putfield 42, 3) := by decide +kernel
theorem dX6_init_98 : decode cX6_init 98 = .ok (.return_, 1) := by decide +kernel
theorem dX6_look_0 : decode cX6_look 0 = .ok (.aload_n 0, 1) := by decide +kernel
theorem dX6_look_1 : decode cX6_look 1 = .ok (.aload_n 1, 1) := by decide +kernel
theorem dX6_look_2 : decode cX6_look 2 = .ok (.invokevirtual 46, 3) := by decide +kernel
theorem dX6_look_5 : decode cX6_look 5 = .ok (.aload_n 0, 1) := by decide +kernel
theorem dX6_look_6 : decode cX6_look 6 = .ok (.aload_n 2, 1) := by decide +kernel
theorem dX6_look_7 : decode cX6_look 7 = .ok (.getfield 50, 3) := by decide +kernel
theorem dX6_look_10 : decode cX6_look 10 = .ok (.invokevirtual 55, 3) := by decide +kernel
theorem dX6_look_13 : decode cX6_look 13 = .ok (.aload_n 0, 1) := by decide +kernel
theorem dX6_look_14 : decode cX6_look 14 = .ok (.getfield 36, 3) := by decide +kernel
theorem dX6_look_17 : decode cX6_look 17 = .ok (.invokevirtual 59, 3) := by decide +kernel
theorem dX6_look_20 : decode cX6_look 20 = .ok (.aload_n 0, 1) := by decide +kernel
theorem dX6_look_21 : decode cX6_look 21 = .ok (.getfield 39, 3) := by decide +kernel
theorem dX6_look_24 : decode cX6_look 24 = .ok (.invokevirtual 59, 3) := by decide +kernel
theorem dX6_look_27 : decode cX6_look 27 = .ok (.iconst 0, 1) := by decide +kernel
theorem dX6_look_28 : decode cX6_look 28 = .ok (.istore_n 3, 1) := by decide +kernel
theorem dX6_look_29 : decode cX6_look 29 = .ok (.iload_n 3, 1) := by decide +kernel
theorem dX6_look_30 : decode cX6_look 30 = .ok (.aload_n 2, 1) := by decide +kernel
theorem dX6_look_31 : decode cX6_look 31 = .ok (.getfield 62, 3) := by decide +kernel
theorem dX6_look_34 : decode cX6_look 34 = .ok (.invokevirtual 66, 3) := by decide +kernel
theorem dX6_look_37 : decode cX6_look 37 = .ok (.if_icmp .ge 68, 3) := by decide +kernel
theorem dX6_look_40 : decode cX6_look 40 = .ok (.aload_n 0, 1) := by decide +kernel
theorem dX6_look_41 : decode cX6_look 41 = .ok (.getfield 12, 3) := by decide +kernel
theorem dX6_look_44 : decode cX6_look 44 = .ok (.aload_n 0, 1) := by decide +kernel
theorem dX6_look_45 : decode cX6_look 45 = .ok (.getfield 30, 3) := by decide +kernel
theorem dX6_look_48 : decode cX6_look 48 = .ok (.aload_n 2, 1) := by decide +kernel
theorem dX6_look_49 : decode cX6_look 49 = .ok (.getfield 62, 3) := by decide +kernel
theorem dX6_look_52 : decode cX6_look 52 = .ok (.iload_n 3, 1) := by decide +kernel
theorem dX6_look_53 : decode cX6_look 53 = .ok (.invokevirtual 72, 3) := by decide +kernel
theorem dX6_look_56 : decode cX6_look 56 = .ok (.aload_n 2, 1) := by decide +kernel
theorem dX6_look_57 : decode cX6_look 57 = .ok (.getfield 50, 3) := by decide +kernel
theorem dX6_look_60 : decode cX6_look 60 = .ok (.invokevirtual 75, 3) := by decide +kernel
theorem dX6_look_63 : decode cX6_look 63 = .ok (.aload_n 0, 1) := by decide +kernel
theorem dX6_look_64 : decode cX6_look 64 = .ok (.getfield 36, 3) := by decide +kernel
theorem dX6_look_67 : decode cX6_look 67 = .ok (.aload_n 0, 1) := by decide +kernel
theorem dX6_look_68 : decode cX6_look 68 = .ok (.getfield 12, 3) := by decide +kernel
theorem dX6_look_71 : decode cX6_look 71 = .ok (.invokevirtual 79, 3) := by decide +kernel
theorem dX6_look_74 : decode cX6_look 74 = .ok (.invokevirtual 82, 3) := by decide +kernel
theorem dX6_look_77 : decode cX6_look 77 = .ok (.aload_n 0, 1) := by decide +kernel
theorem dX6_look_78 : decode cX6_look 78 = .ok (.getfield 39, 3) := by decide +kernel
theorem dX6_look_81 : decode cX6_look 81 = .ok (.aload_n 0, 1) := by decide +kernel
theorem dX6_look_82 : decode cX6_look 82 = .ok (.getfield 12, 3) := by decide +kernel
theorem dX6_look_85 : decode cX6_look 85 = .ok (.aload_n 2, 1) := by decide +kernel
theorem dX6_look_86 : decode cX6_look 86 = .ok (.getfield 50, 3) := by decide +kernel
theorem dX6_look_89 : decode cX6_look 89 = .ok (.iconst 4, 1) := by decide +kernel
theorem dX6_look_90 : decode cX6_look 90 = .ok (.invokevirtual 85, 3) := by decide +kernel
theorem dX6_look_93 : decode cX6_look 93 = .ok (.invokevirtual 89, 3) := by decide +kernel
theorem dX6_look_96 : decode cX6_look 96 = .ok (.invokevirtual 82, 3) := by decide +kernel
theorem dX6_look_99 : decode cX6_look 99 = .ok (.iinc 3 1, 3) := by decide +kernel
theorem dX6_look_102 : decode cX6_look 102 = .ok (.goto (-73), 3) := by decide +kernel
theorem dX6_look_105 : decode cX6_look 105 = .ok (.return_, 1) := by decide +kernel
theorem dX6_findRuns_0 : decode cX6_findRuns 0 = .ok (.aload_n 0, 1) := by decide +kernel
theorem dX6_findRuns_1 : decode cX6_findRuns 1 = .ok (.getfield 23, 3) := by decide +kernel
theorem dX6_findRuns_4 : decode cX6_findRuns 4 = .ok (.invokevirtual 59, 3) := by decide +kernel
theorem dX6_findRuns_7 : decode cX6_findRuns 7 = .ok (.aload_n 0, 1) := by decide +kernel
theorem dX6_findRuns_8 : decode cX6_findRuns 8 = .ok (.getfield 27, 3) := by decide +kernel
theorem dX6_findRuns_11 : decode cX6_findRuns 11 = .ok (.invokevirtual 59, 3) := by decide +kernel
theorem dX6_findRuns_14 : decode cX6_findRuns 14 = .ok (.iconst 1, 1) := by decide +kernel
theorem dX6_findRuns_15 : decode cX6_findRuns 15 = .ok (.istore_n 2, 1) := by decide +kernel
theorem dX6_findRuns_16 : decode cX6_findRuns 16 = .ok (.iload_n 2, 1) := by decide +kernel
theorem dX6_findRuns_17 : decode cX6_findRuns 17 = .ok (.aload_n 1, 1) := by decide +kernel
theorem dX6_findRuns_18 : decode cX6_findRuns 18 = .ok (.invokevirtual 92, 3) := by decide +kernel
theorem dX6_findRuns_21 : decode cX6_findRuns 21 = .ok (.if_icmp .ge 96, 3) := by decide +kernel
theorem dX6_findRuns_24 : decode cX6_findRuns 24 = .ok (.aload_n 1, 1) := by decide +kernel
theorem dX6_findRuns_25 : decode cX6_findRuns 25 = .ok (.iload_n 2, 1) := by decide +kernel
theorem dX6_findRuns_26 : decode cX6_findRuns 26 = .ok (.invokevirtual 95, 3) := by decide +kernel
theorem dX6_findRuns_29 : decode cX6_findRuns 29 = .ok (.istore_n 3, 1) := by decide +kernel
theorem dX6_findRuns_30 : decode cX6_findRuns 30 = .ok (.aload_n 0, 1) := by decide +kernel
theorem dX6_findRuns_31 : decode cX6_findRuns 31 = .ok (.getfield 23, 3) := by decide +kernel
theorem dX6_findRuns_34 : decode cX6_findRuns 34 = .ok (.invokevirtual 98, 3) := by decide +kernel
theorem dX6_findRuns_37 : decode cX6_findRuns 37 = .ok (.iconst 1, 1) := by decide +kernel
theorem dX6_findRuns_38 : decode cX6_findRuns 38 = .ok (.isub, 1) := by decide +kernel
theorem dX6_findRuns_39 : decode cX6_findRuns 39 = .ok (.istore 4, 2) := by decide +kernel
theorem dX6_findRuns_41 : decode cX6_findRuns 41 = .ok (.iload_n 3, 1) := by decide +kernel
theorem dX6_findRuns_42 : decode cX6_findRuns 42 = .ok (.iconst (-1), 1) := by decide +kernel
theorem dX6_findRuns_43 : decode cX6_findRuns 43 = .ok (.if_icmp .eq 43, 3) := by decide +kernel
theorem dX6_findRuns_46 : decode cX6_findRuns 46 = .ok (.iload_n 3, 1) := by decide +kernel
theorem dX6_findRuns_47 : decode cX6_findRuns 47 = .ok (.aload_n 0, 1) := by decide +kernel
theorem dX6_findRuns_48 : decode cX6_findRuns 48 = .ok (.getfield 23, 3) := by decide +kernel
theorem dX6_findRuns_51 : decode cX6_findRuns 51 = .ok (.iload 4, 2) := by decide +kernel
theorem dX6_findRuns_53 : decode cX6_findRuns 53 = .ok (.invokevirtual 85, 3) := by decide +kernel
theorem dX6_findRuns_56 : decode cX6_findRuns 56 = .ok (.if_icmp .ne 30, 3) := by decide +kernel
theorem dX6_findRuns_59 : decode cX6_findRuns 59 = .ok (.aload_n 0, 1) := by decide +kernel
theorem dX6_findRuns_60 : decode cX6_findRuns 60 = .ok (.getfield 27, 3) := by decide +kernel
theorem dX6_findRuns_63 : decode cX6_findRuns 63 = .ok (.iload 4, 2) := by decide +kernel
theorem dX6_findRuns_65 : decode cX6_findRuns 65 = .ok (.aload_n 0, 1) := by decide +kernel
theorem dX6_findRuns_66 : decode cX6_findRuns 66 = .ok (.getfield 27, 3) := by decide +kernel
theorem dX6_findRuns_69 : decode cX6_findRuns 69 = .ok (.iload 4, 2) := by decide +kernel
theorem dX6_findRuns_71 : decode cX6_findRuns 71 = .ok (.invokevirtual 85, 3) := by decide +kernel
theorem dX6_findRuns_74 : decode cX6_findRuns 74 = .ok (.aload_n 1, 1) := by decide +kernel
theorem dX6_findRuns_75 : decode cX6_findRuns 75 = .ok (.iload_n 2, 1) := by decide +kernel
theorem dX6_findRuns_76 : decode cX6_findRuns 76 = .ok (.invokevirtual 99, 3) := by decide +kernel
theorem dX6_findRuns_79 : decode cX6_findRuns 79 = .ok (.iadd, 1) := by decide +kernel
theorem dX6_findRuns_80 : decode cX6_findRuns 80 = .ok (.invokevirtual 102, 3) := by decide +kernel
theorem dX6_findRuns_83 : decode cX6_findRuns 83 = .ok (.goto 28, 3) := by decide +kernel
theorem dX6_findRuns_86 : decode cX6_findRuns 86 = .ok (.iload_n 3, 1) := by decide +kernel
theorem dX6_findRuns_87 : decode cX6_findRuns 87 = .ok (.iconst (-1), 1) := by decide +kernel
theorem dX6_findRuns_88 : decode cX6_findRuns 88 = .ok (.if_icmp .eq 23, 3) := by decide +kernel
theorem dX6_findRuns_91 : decode cX6_findRuns 91 = .ok (.aload_n 0, 1) := by decide +kernel
theorem dX6_findRuns_92 : decode cX6_findRuns 92 = .ok (.getfield 23, 3) := by decide +kernel
theorem dX6_findRuns_95 : decode cX6_findRuns 95 = .ok (.iload_n 3, 1) := by decide +kernel
theorem dX6_findRuns_96 : decode cX6_findRuns 96 = .ok (.invokevirtual 82, 3) := by decide +kernel
theorem dX6_findRuns_99 : decode cX6_findRuns 99 = .ok (.aload_n 0, 1) := by decide +kernel
theorem dX6_findRuns_100 : decode cX6_findRuns 100 = .ok (.getfield 27, 3) := by decide +kernel
theorem dX6_findRuns_103 : decode cX6_findRuns 103 = .ok (.aload_n 1, 1) := by decide +kernel
theorem dX6_findRuns_104 : decode cX6_findRuns 104 = .ok (.iload_n 2, 1) := by decide +kernel
theorem dX6_findRuns_105 : decode cX6_findRuns 105 = .ok (.invokevirtual 99, 3) := by decide +kernel
theorem dX6_findRuns_108 : decode cX6_findRuns 108 = .ok (.invokevirtual 82, 3) := by decide +kernel
theorem dX6_findRuns_111 : decode cX6_findRuns 111 = .ok (.iinc 2 1, 3) := by decide +kernel
theorem dX6_findRuns_114 : decode cX6_findRuns 114 = .ok (.goto (-98), 3) := by decide +kernel
theorem dX6_findRuns_117 : decode cX6_findRuns 117 = .ok (.return_, 1) := by decide +kernel
theorem dX6_forgive_0 : decode cX6_forgive 0 = .ok (.aload_n 0, 1) := by decide +kernel
theorem dX6_forgive_1 : decode cX6_forgive 1 = .ok (.getfield 30, 3) := by decide +kernel
theorem dX6_forgive_4 : decode cX6_forgive 4 = .ok (.aload_n 0, 1) := by decide +kernel
theorem dX6_forgive_5 : decode cX6_forgive 5 = .ok (.getfield 23, 3) := by decide +kernel
theorem dX6_forgive_8 : decode cX6_forgive 8 = .ok (.invokevirtual 106, 3) := by decide +kernel
theorem dX6_forgive_11 : decode cX6_forgive 11 = .ok (.aload_n 0, 1) := by decide +kernel
theorem dX6_forgive_12 : decode cX6_forgive 12 = .ok (.getfield 33, 3) := by decide +kernel
theorem dX6_forgive_15 : decode cX6_forgive 15 = .ok (.aload_n 0, 1) := by decide +kernel
theorem dX6_forgive_16 : decode cX6_forgive 16 = .ok (.getfield 27, 3) := by decide +kernel
theorem dX6_forgive_19 : decode cX6_forgive 19 = .ok (.invokevirtual 106, 3) := by decide +kernel
theorem dX6_forgive_22 : decode cX6_forgive 22 = .ok (.aload_n 0, 1) := by decide +kernel
theorem dX6_forgive_23 : decode cX6_forgive 23 = .ok (.iconst 0, 1) := by decide +kernel
theorem dX6_forgive_24 : decode cX6_forgive 24 = .ok (.putfield 42, 3) := by decide +kernel
theorem dX6_forgive_27 : decode cX6_forgive 27 = .ok (.iconst 0, 1) := by decide +kernel
theorem dX6_forgive_28 : decode cX6_forgive 28 = .ok (.istore_n 2, 1) := by decide +kernel
theorem dX6_forgive_29 : decode cX6_forgive 29 = .ok (.iload_n 2, 1) := by decide +kernel
theorem dX6_forgive_30 : decode cX6_forgive 30 = .ok (.bipush 40, 2) := by decide +kernel
theorem dX6_forgive_32 : decode cX6_forgive 32 = .ok (.if_icmp .ge 37, 3) := by decide +kernel
theorem dX6_forgive_35 : decode cX6_forgive 35 = .ok (.aload_n 0, 1) := by decide +kernel
theorem dX6_forgive_36 : decode cX6_forgive 36 = .ok (.getfield 30, 3) := by decide +kernel
theorem dX6_forgive_39 : decode cX6_forgive 39 = .ok (.invokevirtual 98, 3) := by decide +kernel
theorem dX6_forgive_42 : decode cX6_forgive 42 = .ok (.iconst 1, 1) := by decide +kernel
theorem dX6_forgive_43 : decode cX6_forgive 43 = .ok (.if_icmp .le 26, 3) := by decide +kernel
theorem dX6_forgive_46 : decode cX6_forgive 46 = .ok (.aload_n 0, 1) := by decide +kernel
theorem dX6_forgive_47 : decode cX6_forgive 47 = .ok (.aload_n 1, 1) := by decide +kernel
theorem dX6_forgive_48 : decode cX6_forgive 48 = .ok (.invokevirtual 109, 3) := by decide +kernel
theorem dX6_forgive_51 : decode cX6_forgive 51 = .ok (.istore_n 3, 1) := by decide +kernel
theorem dX6_forgive_52 : decode cX6_forgive 52 = .ok (.iload_n 3, 1) := by decide +kernel
theorem dX6_forgive_53 : decode cX6_forgive 53 = .ok (.iconst (-1), 1) := by decide +kernel
theorem dX6_forgive_54 : decode cX6_forgive 54 = .ok (.if_icmp .ne 4, 3) := by decide +kernel
theorem dX6_forgive_57 : decode cX6_forgive 57 = .ok (.return_, 1) := by decide +kernel
theorem dX6_forgive_58 : decode cX6_forgive 58 = .ok (.aload_n 0, 1) := by decide +kernel
theorem dX6_forgive_59 : decode cX6_forgive 59 = .ok (.iload_n 3, 1) := by decide +kernel
theorem dX6_forgive_60 : decode cX6_forgive 60 = .ok (.invokevirtual 113, 3) := by decide +kernel
theorem dX6_forgive_63 : decode cX6_forgive 63 = .ok (.iinc 2 1, 3) := by decide +kernel
theorem dX6_forgive_66 : decode cX6_forgive 66 = .ok (.goto (-37), 3) := by decide +kernel
theorem dX6_forgive_69 : decode cX6_forgive 69 = .ok (.return_, 1) := by decide +kernel
theorem dX6_firstToDrop_0 : decode cX6_firstToDrop 0 = .ok (.iconst 0, 1) := by decide +kernel
theorem dX6_firstToDrop_1 : decode cX6_firstToDrop 1 = .ok (.istore_n 2, 1) := by decide +kernel
theorem dX6_firstToDrop_2 : decode cX6_firstToDrop 2 = .ok (.iload_n 2, 1) := by decide +kernel
theorem dX6_firstToDrop_3 : decode cX6_firstToDrop 3 = .ok (.aload_n 0, 1) := by decide +kernel
theorem dX6_firstToDrop_4 : decode cX6_firstToDrop 4 = .ok (.getfield 30, 3) := by decide +kernel
theorem dX6_firstToDrop_7 : decode cX6_firstToDrop 7 = .ok (.invokevirtual 98, 3) := by decide +kernel
theorem dX6_firstToDrop_10 : decode cX6_firstToDrop 10 = .ok (.if_icmp .ge 47, 3) := by decide +kernel
theorem dX6_firstToDrop_13 : decode cX6_firstToDrop 13 = .ok (.aload_n 0, 1) := by decide +kernel
theorem dX6_firstToDrop_14 : decode cX6_firstToDrop 14 = .ok (.getfield 33, 3) := by decide +kernel
theorem dX6_firstToDrop_17 : decode cX6_firstToDrop 17 = .ok (.iload_n 2, 1) := by decide +kernel
theorem dX6_firstToDrop_18 : decode cX6_firstToDrop 18 = .ok (.invokevirtual 85, 3) := by decide +kernel
theorem dX6_firstToDrop_21 : decode cX6_firstToDrop 21 = .ok (.aload_n 1, 1) := by decide +kernel
theorem dX6_firstToDrop_22 : decode cX6_firstToDrop 22 = .ok (.iconst 0, 1) := by decide +kernel
theorem dX6_firstToDrop_23 : decode cX6_firstToDrop 23 = .ok (.invokevirtual 85, 3) := by decide +kernel
theorem dX6_firstToDrop_26 : decode cX6_firstToDrop 26 = .ok (.if_icmp .lt 23, 3) := by decide +kernel
theorem dX6_firstToDrop_29 : decode cX6_firstToDrop 29 = .ok (.aload_n 0, 1) := by decide +kernel
theorem dX6_firstToDrop_30 : decode cX6_firstToDrop 30 = .ok (.getfield 30, 3) := by decide +kernel
theorem dX6_firstToDrop_33 : decode cX6_firstToDrop 33 = .ok (.aload_n 0, 1) := by decide +kernel
theorem dX6_firstToDrop_34 : decode cX6_firstToDrop 34 = .ok (.getfield 33, 3) := by decide +kernel
theorem dX6_firstToDrop_37 : decode cX6_firstToDrop 37 = .ok (.iload_n 2, 1) := by decide +kernel
theorem dX6_firstToDrop_38 : decode cX6_firstToDrop 38 = .ok (.aload_n 1, 1) := by decide +kernel
theorem dX6_firstToDrop_39 : decode cX6_firstToDrop 39 = .ok (.iconst 1, 1) := by decide +kernel
theorem dX6_firstToDrop_40 : decode cX6_firstToDrop 40 = .ok (.invokevirtual 85, 3) := by decide +kernel
theorem dX6_firstToDrop_43 : decode cX6_firstToDrop 43 = .ok (.invokestatic 116, 3) := by decide +kernel
theorem dX6_firstToDrop_46 : decode cX6_firstToDrop 46 = .ok (.ifCond .eq 5, 3) := by decide +kernel
theorem dX6_firstToDrop_49 : decode cX6_firstToDrop 49 = .ok (.iload_n 2, 1) := by decide +kernel
theorem dX6_firstToDrop_50 : decode cX6_firstToDrop 50 = .ok (.ireturn, 1) := by decide +kernel
theorem dX6_firstToDrop_51 : decode cX6_firstToDrop 51 = .ok (.iinc 2 1, 3) := by decide +kernel
theorem dX6_firstToDrop_54 : decode cX6_firstToDrop 54 = .ok (.goto (-52), 3) := by decide +kernel
theorem dX6_firstToDrop_57 : decode cX6_firstToDrop 57 = .ok (.iconst (-1), 1) := by decide +kernel
theorem dX6_firstToDrop_58 : decode cX6_firstToDrop 58 = .ok (.ireturn, 1) := by decide +kernel
theorem dX6_drop_0 : decode cX6_drop 0 = .ok (.aload_n 0, 1) := by decide +kernel
theorem dX6_drop_1 : decode cX6_drop 1 = .ok (.getfield 30, 3) := by decide +kernel
theorem dX6_drop_4 : decode cX6_drop 4 = .ok (.iload_n 1, 1) := by decide +kernel
theorem dX6_drop_5 : decode cX6_drop 5 = .ok (.invokevirtual 120, 3) := by decide +kernel
theorem dX6_drop_8 : decode cX6_drop 8 = .ok (.aload_n 0, 1) := by decide +kernel
theorem dX6_drop_9 : decode cX6_drop 9 = .ok (.getfield 33, 3) := by decide +kernel
theorem dX6_drop_12 : decode cX6_drop 12 = .ok (.iload_n 1, 1) := by decide +kernel
theorem dX6_drop_13 : decode cX6_drop 13 = .ok (.invokevirtual 120, 3) := by decide +kernel
theorem dX6_drop_16 : decode cX6_drop 16 = .ok (.aload_n 0, 1) := by decide +kernel
theorem dX6_drop_17 : decode cX6_drop 17 = .ok (.dup, 1) := by decide +kernel
theorem dX6_drop_18 : decode cX6_drop 18 = .ok (.getfield 42, 3) := by decide +kernel
theorem dX6_drop_21 : decode cX6_drop 21 = .ok (.iconst 1, 1) := by decide +kernel
theorem dX6_drop_22 : decode cX6_drop 22 = .ok (.iadd, 1) := by decide +kernel
theorem dX6_drop_23 : decode cX6_drop 23 = .ok (.putfield 42, 3) := by decide +kernel
theorem dX6_drop_26 : decode cX6_drop 26 = .ok (.iload_n 1, 1) := by decide +kernel
theorem dX6_drop_27 : decode cX6_drop 27 = .ok (.iconst 1, 1) := by decide +kernel
theorem dX6_drop_28 : decode cX6_drop 28 = .ok (.if_icmp .lt 80, 3) := by decide +kernel
theorem dX6_drop_31 : decode cX6_drop 31 = .ok (.iload_n 1, 1) := by decide +kernel
theorem dX6_drop_32 : decode cX6_drop 32 = .ok (.aload_n 0, 1) := by decide +kernel
theorem dX6_drop_33 : decode cX6_drop 33 = .ok (.getfield 30, 3) := by decide +kernel
theorem dX6_drop_36 : decode cX6_drop 36 = .ok (.invokevirtual 98, 3) := by decide +kernel
theorem dX6_drop_39 : decode cX6_drop 39 = .ok (.if_icmp .ge 69, 3) := by decide +kernel
theorem dX6_drop_42 : decode cX6_drop 42 = .ok (.aload_n 0, 1) := by decide +kernel
theorem dX6_drop_43 : decode cX6_drop 43 = .ok (.getfield 30, 3) := by decide +kernel
theorem dX6_drop_46 : decode cX6_drop 46 = .ok (.iload_n 1, 1) := by decide +kernel
theorem dX6_drop_47 : decode cX6_drop 47 = .ok (.iconst 1, 1) := by decide +kernel
theorem dX6_drop_48 : decode cX6_drop 48 = .ok (.isub, 1) := by decide +kernel
theorem dX6_drop_49 : decode cX6_drop 49 = .ok (.invokevirtual 85, 3) := by decide +kernel
theorem dX6_drop_52 : decode cX6_drop 52 = .ok (.aload_n 0, 1) := by decide +kernel
theorem dX6_drop_53 : decode cX6_drop 53 = .ok (.getfield 30, 3) := by decide +kernel
theorem dX6_drop_56 : decode cX6_drop 56 = .ok (.iload_n 1, 1) := by decide +kernel
theorem dX6_drop_57 : decode cX6_drop 57 = .ok (.invokevirtual 85, 3) := by decide +kernel
theorem dX6_drop_60 : decode cX6_drop 60 = .ok (.if_icmp .ne 48, 3) := by decide +kernel
theorem dX6_drop_63 : decode cX6_drop 63 = .ok (.aload_n 0, 1) := by decide +kernel
theorem dX6_drop_64 : decode cX6_drop 64 = .ok (.getfield 33, 3) := by decide +kernel
theorem dX6_drop_67 : decode cX6_drop 67 = .ok (.iload_n 1, 1) := by decide +kernel
theorem dX6_drop_68 : decode cX6_drop 68 = .ok (.iconst 1, 1) := by decide +kernel
theorem dX6_drop_69 : decode cX6_drop 69 = .ok (.isub, 1) := by decide +kernel
theorem dX6_drop_70 : decode cX6_drop 70 = .ok (.aload_n 0, 1) := by decide +kernel
theorem dX6_drop_71 : decode cX6_drop 71 = .ok (.getfield 33, 3) := by decide +kernel
theorem dX6_drop_74 : decode cX6_drop 74 = .ok (.iload_n 1, 1) := by decide +kernel
theorem dX6_drop_75 : decode cX6_drop 75 = .ok (.iconst 1, 1) := by decide +kernel
theorem dX6_drop_76 : decode cX6_drop 76 = .ok (.isub, 1) := by decide +kernel
theorem dX6_drop_77 : decode cX6_drop 77 = .ok (.invokevirtual 85, 3) := by decide +kernel
theorem dX6_drop_80 : decode cX6_drop 80 = .ok (.aload_n 0, 1) := by decide +kernel
theorem dX6_drop_81 : decode cX6_drop 81 = .ok (.getfield 33, 3) := by decide +kernel
theorem dX6_drop_84 : decode cX6_drop 84 = .ok (.iload_n 1, 1) := by decide +kernel
theorem dX6_drop_85 : decode cX6_drop 85 = .ok (.invokevirtual 85, 3) := by decide +kernel
theorem dX6_drop_88 : decode cX6_drop 88 = .ok (.iadd, 1) := by decide +kernel
theorem dX6_drop_89 : decode cX6_drop 89 = .ok (.invokevirtual 102, 3) := by decide +kernel
theorem dX6_drop_92 : decode cX6_drop 92 = .ok (.aload_n 0, 1) := by decide +kernel
theorem dX6_drop_93 : decode cX6_drop 93 = .ok (.getfield 30, 3) := by decide +kernel
theorem dX6_drop_96 : decode cX6_drop 96 = .ok (.iload_n 1, 1) := by decide +kernel
theorem dX6_drop_97 : decode cX6_drop 97 = .ok (.invokevirtual 120, 3) := by decide +kernel
theorem dX6_drop_100 : decode cX6_drop 100 = .ok (.aload_n 0, 1) := by decide +kernel
theorem dX6_drop_101 : decode cX6_drop 101 = .ok (.getfield 33, 3) := by decide +kernel
theorem dX6_drop_104 : decode cX6_drop 104 = .ok (.iload_n 1, 1) := by decide +kernel
theorem dX6_drop_105 : decode cX6_drop 105 = .ok (.invokevirtual 120, 3) := by decide +kernel
theorem dX6_drop_108 : decode cX6_drop 108 = .ok (.return_, 1) := by decide +kernel
theorem dX6_readAs_0 : decode cX6_readAs 0 = .ok (.aload_n 0, 1) := by decide +kernel
theorem dX6_readAs_1 : decode cX6_readAs 1 = .ok (.iconst (-1), 1) := by decide +kernel
theorem dX6_readAs_2 : decode cX6_readAs 2 = .ok (.invokevirtual 123, 3) := by decide +kernel
theorem dX6_readAs_5 : decode cX6_readAs 5 = .ok (.istore_n 2, 1) := by decide +kernel
theorem dX6_readAs_6 : decode cX6_readAs 6 = .ok (.aload_n 0, 1) := by decide +kernel
theorem dX6_readAs_7 : decode cX6_readAs 7 = .ok (.getfield 23, 3) := by decide +kernel
theorem dX6_readAs_10 : decode cX6_readAs 10 = .ok (.invokevirtual 98, 3) := by decide +kernel
theorem dX6_readAs_13 : decode cX6_readAs 13 = .ok (.ifCond .le 7, 3) := by decide +kernel
theorem dX6_readAs_16 : decode cX6_readAs 16 = .ok (.iconst 1, 1) := by decide +kernel
theorem dX6_readAs_17 : decode cX6_readAs 17 = .ok (.goto 4, 3) := by decide +kernel
theorem dX6_readAs_20 : decode cX6_readAs 20 = .ok (.iconst 0, 1) := by decide +kernel
theorem dX6_readAs_21 : decode cX6_readAs 21 = .ok (.istore_n 3, 1) := by decide +kernel
theorem dX6_readAs_22 : decode cX6_readAs 22 = .ok (.iload_n 3, 1) := by decide +kernel
theorem dX6_readAs_23 : decode cX6_readAs 23 = .ok (.ifCond .eq 23, 3) := by decide +kernel
theorem dX6_readAs_26 : decode cX6_readAs 26 = .ok (.aload_n 0, 1) := by decide +kernel
theorem dX6_readAs_27 : decode cX6_readAs 27 = .ok (.getfield 36, 3) := by decide +kernel
theorem dX6_readAs_30 : decode cX6_readAs 30 = .ok (.iload_n 2, 1) := by decide +kernel
theorem dX6_readAs_31 : decode cX6_readAs 31 = .ok (.invokevirtual 85, 3) := by decide +kernel
theorem dX6_readAs_34 : decode cX6_readAs 34 = .ok (.aload_n 1, 1) := by decide +kernel
theorem dX6_readAs_35 : decode cX6_readAs 35 = .ok (.iconst 4, 1) := by decide +kernel
theorem dX6_readAs_36 : decode cX6_readAs 36 = .ok (.invokevirtual 85, 3) := by decide +kernel
theorem dX6_readAs_39 : decode cX6_readAs 39 = .ok (.if_icmp .gt 7, 3) := by decide +kernel
theorem dX6_readAs_42 : decode cX6_readAs 42 = .ok (.iload_n 2, 1) := by decide +kernel
theorem dX6_readAs_43 : decode cX6_readAs 43 = .ok (.goto 4, 3) := by decide +kernel
theorem dX6_readAs_46 : decode cX6_readAs 46 = .ok (.iconst (-1), 1) := by decide +kernel
theorem dX6_readAs_47 : decode cX6_readAs 47 = .ok (.ireturn, 1) := by decide +kernel
theorem dX6_nearestBut_0 : decode cX6_nearestBut 0 = .ok (.iconst (-1), 1) := by decide +kernel
theorem dX6_nearestBut_1 : decode cX6_nearestBut 1 = .ok (.istore_n 2, 1) := by decide +kernel
theorem dX6_nearestBut_2 : decode cX6_nearestBut 2 = .ok (.iconst 0, 1) := by decide +kernel
theorem dX6_nearestBut_3 : decode cX6_nearestBut 3 = .ok (.istore_n 3, 1) := by decide +kernel
theorem dX6_nearestBut_4 : decode cX6_nearestBut 4 = .ok (.iload_n 3, 1) := by decide +kernel
theorem dX6_nearestBut_5 : decode cX6_nearestBut 5 = .ok (.aload_n 0, 1) := by decide +kernel
theorem dX6_nearestBut_6 : decode cX6_nearestBut 6 = .ok (.getfield 36, 3) := by decide +kernel
theorem dX6_nearestBut_9 : decode cX6_nearestBut 9 = .ok (.invokevirtual 98, 3) := by decide +kernel
theorem dX6_nearestBut_12 : decode cX6_nearestBut 12 = .ok (.if_icmp .ge 52, 3) := by decide +kernel
theorem dX6_nearestBut_15 : decode cX6_nearestBut 15 = .ok (.iload_n 2, 1) := by decide +kernel
theorem dX6_nearestBut_16 : decode cX6_nearestBut 16 = .ok (.iconst (-1), 1) := by decide +kernel
theorem dX6_nearestBut_17 : decode cX6_nearestBut 17 = .ok (.if_icmp .eq 22, 3) := by decide +kernel
theorem dX6_nearestBut_20 : decode cX6_nearestBut 20 = .ok (.aload_n 0, 1) := by decide +kernel
theorem dX6_nearestBut_21 : decode cX6_nearestBut 21 = .ok (.getfield 36, 3) := by decide +kernel
theorem dX6_nearestBut_24 : decode cX6_nearestBut 24 = .ok (.iload_n 3, 1) := by decide +kernel
theorem dX6_nearestBut_25 : decode cX6_nearestBut 25 = .ok (.invokevirtual 85, 3) := by decide +kernel
theorem dX6_nearestBut_28 : decode cX6_nearestBut 28 = .ok (.aload_n 0, 1) := by decide +kernel
theorem dX6_nearestBut_29 : decode cX6_nearestBut 29 = .ok (.getfield 36, 3) := by decide +kernel
theorem dX6_nearestBut_32 : decode cX6_nearestBut 32 = .ok (.iload_n 2, 1) := by decide +kernel
theorem dX6_nearestBut_33 : decode cX6_nearestBut 33 = .ok (.invokevirtual 85, 3) := by decide +kernel
theorem dX6_nearestBut_36 : decode cX6_nearestBut 36 = .ok (.if_icmp .ge 7, 3) := by decide +kernel
theorem dX6_nearestBut_39 : decode cX6_nearestBut 39 = .ok (.iconst 1, 1) := by decide +kernel
theorem dX6_nearestBut_40 : decode cX6_nearestBut 40 = .ok (.goto 4, 3) := by decide +kernel
theorem dX6_nearestBut_43 : decode cX6_nearestBut 43 = .ok (.iconst 0, 1) := by decide +kernel
theorem dX6_nearestBut_44 : decode cX6_nearestBut 44 = .ok (.istore 4, 2) := by decide +kernel
theorem dX6_nearestBut_46 : decode cX6_nearestBut 46 = .ok (.iload_n 3, 1) := by decide +kernel
theorem dX6_nearestBut_47 : decode cX6_nearestBut 47 = .ok (.iload_n 1, 1) := by decide +kernel
theorem dX6_nearestBut_48 : decode cX6_nearestBut 48 = .ok (.if_icmp .eq 10, 3) := by decide +kernel
theorem dX6_nearestBut_51 : decode cX6_nearestBut 51 = .ok (.iload 4, 2) := by decide +kernel
theorem dX6_nearestBut_53 : decode cX6_nearestBut 53 = .ok (.ifCond .eq 5, 3) := by decide +kernel
theorem dX6_nearestBut_56 : decode cX6_nearestBut 56 = .ok (.iload_n 3, 1) := by decide +kernel
theorem dX6_nearestBut_57 : decode cX6_nearestBut 57 = .ok (.istore_n 2, 1) := by decide +kernel
theorem dX6_nearestBut_58 : decode cX6_nearestBut 58 = .ok (.iinc 3 1, 3) := by decide +kernel
theorem dX6_nearestBut_61 : decode cX6_nearestBut 61 = .ok (.goto (-57), 3) := by decide +kernel
theorem dX6_nearestBut_64 : decode cX6_nearestBut 64 = .ok (.iload_n 2, 1) := by decide +kernel
theorem dX6_nearestBut_65 : decode cX6_nearestBut 65 = .ok (.ireturn, 1) := by decide +kernel
theorem dX6_canBecome_0 : decode cX6_canBecome 0 = .ok (.iconst 0, 1) := by decide +kernel
theorem dX6_canBecome_1 : decode cX6_canBecome 1 = .ok (.istore_n 1, 1) := by decide +kernel
theorem dX6_canBecome_2 : decode cX6_canBecome 2 = .ok (.iconst 0, 1) := by decide +kernel
theorem dX6_canBecome_3 : decode cX6_canBecome 3 = .ok (.istore_n 2, 1) := by decide +kernel
theorem dX6_canBecome_4 : decode cX6_canBecome 4 = .ok (.iload_n 2, 1) := by decide +kernel
theorem dX6_canBecome_5 : decode cX6_canBecome 5 = .ok (.aload_n 0, 1) := by decide +kernel
theorem dX6_canBecome_6 : decode cX6_canBecome 6 = .ok (.getfield 39, 3) := by decide +kernel
theorem dX6_canBecome_9 : decode cX6_canBecome 9 = .ok (.invokevirtual 98, 3) := by decide +kernel
theorem dX6_canBecome_12 : decode cX6_canBecome 12 = .ok (.if_icmp .ge 27, 3) := by decide +kernel
theorem dX6_canBecome_15 : decode cX6_canBecome 15 = .ok (.aload_n 0, 1) := by decide +kernel
theorem dX6_canBecome_16 : decode cX6_canBecome 16 = .ok (.getfield 39, 3) := by decide +kernel
theorem dX6_canBecome_19 : decode cX6_canBecome 19 = .ok (.iload_n 2, 1) := by decide +kernel
theorem dX6_canBecome_20 : decode cX6_canBecome 20 = .ok (.invokevirtual 85, 3) := by decide +kernel
theorem dX6_canBecome_23 : decode cX6_canBecome 23 = .ok (.iconst (-1), 1) := by decide +kernel
theorem dX6_canBecome_24 : decode cX6_canBecome 24 = .ok (.if_icmp .eq 9, 3) := by decide +kernel
theorem dX6_canBecome_27 : decode cX6_canBecome 27 = .ok (.iload_n 1, 1) := by decide +kernel
theorem dX6_canBecome_28 : decode cX6_canBecome 28 = .ok (.iconst 1, 1) := by decide +kernel
theorem dX6_canBecome_29 : decode cX6_canBecome 29 = .ok (.iload_n 2, 1) := by decide +kernel
theorem dX6_canBecome_30 : decode cX6_canBecome 30 = .ok (.ishl, 1) := by decide +kernel
theorem dX6_canBecome_31 : decode cX6_canBecome 31 = .ok (.ior, 1) := by decide +kernel
theorem dX6_canBecome_32 : decode cX6_canBecome 32 = .ok (.istore_n 1, 1) := by decide +kernel
theorem dX6_canBecome_33 : decode cX6_canBecome 33 = .ok (.iinc 2 1, 3) := by decide +kernel
theorem dX6_canBecome_36 : decode cX6_canBecome 36 = .ok (.goto (-32), 3) := by decide +kernel
theorem dX6_canBecome_39 : decode cX6_canBecome 39 = .ok (.iload_n 1, 1) := by decide +kernel
theorem dX6_canBecome_40 : decode cX6_canBecome 40 = .ok (.ireturn, 1) := by decide +kernel
theorem dX6_stillToCome_0 : decode cX6_stillToCome 0 = .ok (.iconst 0, 1) := by decide +kernel
theorem dX6_stillToCome_1 : decode cX6_stillToCome 1 = .ok (.istore_n 1, 1) := by decide +kernel
theorem dX6_stillToCome_2 : decode cX6_stillToCome 2 = .ok (.iconst (-1), 1) := by decide +kernel
theorem dX6_stillToCome_3 : decode cX6_stillToCome 3 = .ok (.istore_n 2, 1) := by decide +kernel
theorem dX6_stillToCome_4 : decode cX6_stillToCome 4 = .ok (.iconst 0, 1) := by decide +kernel
theorem dX6_stillToCome_5 : decode cX6_stillToCome 5 = .ok (.istore_n 3, 1) := by decide +kernel
theorem dX6_stillToCome_6 : decode cX6_stillToCome 6 = .ok (.iload_n 3, 1) := by decide +kernel
theorem dX6_stillToCome_7 : decode cX6_stillToCome 7 = .ok (.aload_n 0, 1) := by decide +kernel
theorem dX6_stillToCome_8 : decode cX6_stillToCome 8 = .ok (.getfield 39, 3) := by decide +kernel
theorem dX6_stillToCome_11 : decode cX6_stillToCome 11 = .ok (.invokevirtual 98, 3) := by decide +kernel
theorem dX6_stillToCome_14 : decode cX6_stillToCome 14 = .ok (.if_icmp .ge 33, 3) := by decide +kernel
theorem dX6_stillToCome_17 : decode cX6_stillToCome 17 = .ok (.aload_n 0, 1) := by decide +kernel
theorem dX6_stillToCome_18 : decode cX6_stillToCome 18 = .ok (.getfield 39, 3) := by decide +kernel
theorem dX6_stillToCome_21 : decode cX6_stillToCome 21 = .ok (.iload_n 3, 1) := by decide +kernel
theorem dX6_stillToCome_22 : decode cX6_stillToCome 22 = .ok (.invokevirtual 85, 3) := by decide +kernel
theorem dX6_stillToCome_25 : decode cX6_stillToCome 25 = .ok (.iconst (-1), 1) := by decide +kernel
theorem dX6_stillToCome_26 : decode cX6_stillToCome 26 = .ok (.if_icmp .eq 15, 3) := by decide +kernel
theorem dX6_stillToCome_29 : decode cX6_stillToCome 29 = .ok (.iinc 1 1, 3) := by decide +kernel
theorem dX6_stillToCome_32 : decode cX6_stillToCome 32 = .ok (.aload_n 0, 1) := by decide +kernel
theorem dX6_stillToCome_33 : decode cX6_stillToCome 33 = .ok (.getfield 39, 3) := by decide +kernel
theorem dX6_stillToCome_36 : decode cX6_stillToCome 36 = .ok (.iload_n 3, 1) := by decide +kernel
theorem dX6_stillToCome_37 : decode cX6_stillToCome 37 = .ok (.invokevirtual 85, 3) := by decide +kernel
theorem dX6_stillToCome_40 : decode cX6_stillToCome 40 = .ok (.istore_n 2, 1) := by decide +kernel
theorem dX6_stillToCome_41 : decode cX6_stillToCome 41 = .ok (.iinc 3 1, 3) := by decide +kernel
theorem dX6_stillToCome_44 : decode cX6_stillToCome 44 = .ok (.goto (-38), 3) := by decide +kernel
theorem dX6_stillToCome_47 : decode cX6_stillToCome 47 = .ok (.iload_n 1, 1) := by decide +kernel
theorem dX6_stillToCome_48 : decode cX6_stillToCome 48 = .ok (.iconst 1, 1) := by decide +kernel
theorem dX6_stillToCome_49 : decode cX6_stillToCome 49 = .ok (.if_icmp .ne 7, 3) := by decide +kernel
theorem dX6_stillToCome_52 : decode cX6_stillToCome 52 = .ok (.iload_n 2, 1) := by decide +kernel
theorem dX6_stillToCome_53 : decode cX6_stillToCome 53 = .ok (.goto 4, 3) := by decide +kernel
theorem dX6_stillToCome_56 : decode cX6_stillToCome 56 = .ok (.iconst (-1), 1) := by decide +kernel
theorem dX6_stillToCome_57 : decode cX6_stillToCome 57 = .ok (.ireturn, 1) := by decide +kernel
theorem dX7_init_0 : decode cX7_init 0 = .ok (.aload_n 0, 1) := by decide +kernel
theorem dX7_init_1 : decode cX7_init 1 = .ok (.invokespecial 1, 3) := by decide +kernel
theorem dX7_init_4 : decode cX7_init 4 = .ok (.aload_n 0, 1) := by decide +kernel
theorem dX7_init_5 : decode cX7_init 5 = .ok (.new 7, 3) := by decide +kernel
theorem dX7_init_8 : decode cX7_init 8 = .ok (.dup, 1) := by decide +kernel
theorem dX7_init_9 : decode cX7_init 9 = .ok (.invokespecial 9, 3) := by decide +kernel
theorem dX7_init_12 : decode cX7_init 12 = .ok (.putfield 10, 3) := by decide +kernel
theorem dX7_init_15 : decode cX7_init 15 = .ok (.aload_n 0, 1) := by decide +kernel
theorem dX7_init_16 : decode cX7_init 16 = .ok (.new 16, 3) := by decide +kernel
theorem dX7_init_19 : decode cX7_init 19 = .ok (.dup, 1) := by decide +kernel
theorem dX7_init_20 : decode cX7_init 20 = .ok (.invokespecial 18, 3) := by decide +kernel
theorem dX7_init_23 : decode cX7_init 23 = .ok (.putfield 19, 3) := by decide +kernel
theorem dX7_init_26 : decode cX7_init 26 = .ok (.aload_n 0, 1) := by decide +kernel
theorem dX7_init_27 : decode cX7_init 27 = .ok (.new 23, 3) := by decide +kernel
theorem dX7_init_30 : decode cX7_init 30 = .ok (.dup, 1) := by decide +kernel
theorem dX7_init_31 : decode cX7_init 31 = .ok (.bipush 60, 2) := by decide +kernel
theorem dX7_init_33 : decode cX7_init 33 = .ok (.invokespecial 25, 3) := by decide +kernel
theorem dX7_init_36 : decode cX7_init 36 = .ok (.putfield 28, 3) := by decide +kernel
theorem dX7_init_39 : decode cX7_init 39 = .ok (.aload_n 0, 1) := by decide +kernel
theorem dX7_init_40 : decode cX7_init 40 = .ok (.new 32, 3) := by decide +kernel
theorem dX7_init_43 : decode cX7_init 43 = .ok (.dup, 1) := by decide +kernel
theorem dX7_init_44 : decode cX7_init 44 = .ok (.invokespecial 34, 3) := by decide +kernel
theorem dX7_init_47 : decode cX7_init 47 = .ok (.putfield 35, 3) := by decide +kernel
theorem dX7_init_50 : decode cX7_init 50 = .ok (.aload_n 0, 1) := by decide +kernel
theorem dX7_init_51 : decode cX7_init 51 = .ok (.new 39, 3) := by decide +kernel
theorem dX7_init_54 : decode cX7_init 54 = .ok (.dup, 1) := by decide +kernel
theorem dX7_init_55 : decode cX7_init 55 = .ok (.invokespecial 41, 3) := by decide +kernel
theorem dX7_init_58 : decode cX7_init 58 = .ok (.putfield 42, 3) := by decide +kernel
theorem dX7_init_61 : decode cX7_init 61 = .ok (.aload_n 0, 1) := by decide +kernel
theorem dX7_init_62 : decode cX7_init 62 = .ok (.new 46, 3) := by decide +kernel
theorem dX7_init_65 : decode cX7_init 65 = .ok (.dup, 1) := by decide +kernel
theorem dX7_init_66 : decode cX7_init 66 = .ok (.invokespecial 48, 3) := by decide +kernel
theorem dX7_init_69 : decode cX7_init 69 = .ok (.putfield 49, 3) := by decide +kernel
theorem dX7_init_72 : decode cX7_init 72 = .ok (.aload_n 0, 1) := by decide +kernel
theorem dX7_init_73 : decode cX7_init 73 = .ok (.new 32, 3) := by decide +kernel
theorem dX7_init_76 : decode cX7_init 76 = .ok (.dup, 1) := by decide +kernel
theorem dX7_init_77 : decode cX7_init 77 = .ok (.invokespecial 34, 3) := by decide +kernel
theorem dX7_init_80 : decode cX7_init 80 = .ok (.putfield 53, 3) := by decide +kernel
theorem dX7_init_83 : decode cX7_init 83 = .ok (.aload_n 0, 1) := by decide +kernel
theorem dX7_init_84 : decode cX7_init 84 = .ok (.new 23, 3) := by decide +kernel
theorem dX7_init_87 : decode cX7_init 87 = .ok (.dup, 1) := by decide +kernel
theorem dX7_init_88 : decode cX7_init 88 = .ok (.iconst 5, 1) := by decide +kernel
theorem dX7_init_89 : decode cX7_init 89 = .ok (.invokespecial 25, 3) := by decide +kernel
theorem dX7_init_92 : decode cX7_init 92 = .ok (.putfield 56, 3) := by decide +kernel
theorem dX7_init_95 : decode cX7_init 95 = .ok (.aload_n 0, 1) := by decide +kernel
theorem dX7_init_96 : decode cX7_init 96 = .ok (.new 23, 3) := by decide +kernel
theorem dX7_init_99 : decode cX7_init 99 = .ok (.dup, 1) := by decide +kernel
theorem dX7_init_100 : decode cX7_init 100 = .ok (.bipush 8, 2) := by decide +kernel
theorem dX7_init_102 : decode cX7_init 102 = .ok (.invokespecial 25, 3) := by decide +kernel
theorem dX7_init_105 : decode cX7_init 105 = .ok (.putfield 59, 3) := by decide +kernel
theorem dX7_init_108 : decode cX7_init 108 = .ok (.return_, 1) := by decide +kernel
theorem dX7_point_0 : decode cX7_point 0 = .ok (.iload_n 1, 1) := by decide +kernel
theorem dX7_point_1 : decode cX7_point 1 = .ok (.iload_n 2, 1) := by decide +kernel
theorem dX7_point_2 : decode cX7_point 2 = .ok (.invokestatic 62, 3) := by decide +kernel
theorem dX7_point_5 : decode cX7_point 5 = .ok (.ifCond .ne 13, 3) := by decide +kernel
theorem dX7_point_8 : decode cX7_point 8 = .ok (.new 66, 3) := by decide +kernel
theorem dX7_point_11 : decode cX7_point 11 = .ok (.dup, 1) := by decide +kernel
theorem dX7_point_12 : decode cX7_point 12 = .ok (.ldc 68, 2) := by decide +kernel
theorem dX7_point_14 : decode cX7_point 14 = .ok (.invokespecial 70, 3) := by decide +kernel
theorem dX7_point_17 : decode cX7_point 17 = .ok (.athrow, 1) := by decide +kernel
theorem dX7_point_18 : decode cX7_point 18 = .ok (.aload_n 0, 1) := by decide +kernel
theorem dX7_point_19 : decode cX7_point 19 = .ok (.getfield 10, 3) := by decide +kernel
theorem dX7_point_22 : decode cX7_point 22 = .ok (.getfield 73, 3) := by decide +kernel
theorem dX7_point_25 : decode cX7_point 25 = .ok (.invokevirtual 76, 3) := by decide +kernel
theorem dX7_point_28 : decode cX7_point 28 = .ok (.bipush 40, 2) := by decide +kernel
theorem dX7_point_30 : decode cX7_point 30 = .ok (.if_icmp .lt 13, 3) := by decide +kernel
theorem dX7_point_33 : decode cX7_point 33 = .ok (.new 80, 3) := by decide +kernel
theorem dX7_point_36 : decode cX7_point 36 = .ok (.dup, 1) := by decide +kernel
theorem dX7_point_37 : decode cX7_point 37 = .ok (.ldc 82, 2) := by decide +kernel
theorem dX7_point_39 : decode cX7_point 39 = .ok (.invokespecial 84, 3) := by decide +kernel
theorem dX7_point_42 : decode cX7_point 42 = .ok (.athrow, 1) := by decide +kernel
theorem dX7_point_43 : decode cX7_point 43 = .ok (.aload_n 0, 1) := by decide +kernel
theorem dX7_point_44 : decode cX7_point 44 = .ok (.getfield 19, 3) := by decide +kernel
theorem dX7_point_47 : decode cX7_point 47 = .ok (.aload_n 0, 1) := by decide +kernel
theorem dX7_point_48 : decode cX7_point 48 = .ok (.getfield 10, 3) := by decide +kernel
theorem dX7_point_51 : decode cX7_point 51 = .ok (.invokevirtual 85, 3) := by decide +kernel
theorem dX7_point_54 : decode cX7_point 54 = .ok (.aload_n 0, 1) := by decide +kernel
theorem dX7_point_55 : decode cX7_point 55 = .ok (.getfield 10, 3) := by decide +kernel
theorem dX7_point_58 : decode cX7_point 58 = .ok (.getfield 73, 3) := by decide +kernel
theorem dX7_point_61 : decode cX7_point 61 = .ok (.iload_n 1, 1) := by decide +kernel
theorem dX7_point_62 : decode cX7_point 62 = .ok (.iload_n 2, 1) := by decide +kernel
theorem dX7_point_63 : decode cX7_point 63 = .ok (.invokevirtual 89, 3) := by decide +kernel
theorem dX7_point_66 : decode cX7_point 66 = .ok (.aload_n 0, 1) := by decide +kernel
theorem dX7_point_67 : decode cX7_point 67 = .ok (.invokevirtual 93, 3) := by decide +kernel
theorem dX7_point_70 : decode cX7_point 70 = .ok (.aload_n 0, 1) := by decide +kernel
theorem dX7_point_71 : decode cX7_point 71 = .ok (.getfield 10, 3) := by decide +kernel
theorem dX7_point_74 : decode cX7_point 74 = .ok (.getfield 73, 3) := by decide +kernel
theorem dX7_point_77 : decode cX7_point 77 = .ok (.invokevirtual 76, 3) := by decide +kernel
theorem dX7_point_80 : decode cX7_point 80 = .ok (.ireturn, 1) := by decide +kernel
theorem dX7_go_0 : decode cX7_go 0 = .ok (.iload_n 1, 1) := by decide +kernel
theorem dX7_go_1 : decode cX7_go 1 = .ok (.invokestatic 96, 3) := by decide +kernel
theorem dX7_go_4 : decode cX7_go 4 = .ok (.ifCond .eq 14, 3) := by decide +kernel
theorem dX7_go_7 : decode cX7_go 7 = .ok (.iload_n 2, 1) := by decide +kernel
theorem dX7_go_8 : decode cX7_go 8 = .ok (.iconst 1, 1) := by decide +kernel
theorem dX7_go_9 : decode cX7_go 9 = .ok (.if_icmp .lt 9, 3) := by decide +kernel
theorem dX7_go_12 : decode cX7_go 12 = .ok (.iload_n 2, 1) := by decide +kernel
theorem dX7_go_13 : decode cX7_go 13 = .ok (.bipush 31, 2) := by decide +kernel
theorem dX7_go_15 : decode cX7_go 15 = .ok (.if_icmp .le 13, 3) := by decide +kernel
theorem dX7_go_18 : decode cX7_go 18 = .ok (.new 66, 3) := by decide +kernel
theorem dX7_go_21 : decode cX7_go 21 = .ok (.dup, 1) := by decide +kernel
theorem dX7_go_22 : decode cX7_go 22 = .ok (.ldc 100, 2) := by decide +kernel
theorem dX7_go_24 : decode cX7_go 24 = .ok (.invokespecial 70, 3) := by decide +kernel
theorem dX7_go_27 : decode cX7_go 27 = .ok (.athrow, 1) := by decide +kernel
theorem dX7_go_28 : decode cX7_go 28 = .ok (.aload_n 0, 1) := by decide +kernel
theorem dX7_go_29 : decode cX7_go 29 = .ok (.getfield 10, 3) := by decide +kernel
theorem dX7_go_32 : decode cX7_go 32 = .ok (.getfield 73, 3) := by decide +kernel
theorem dX7_go_35 : decode cX7_go 35 = .ok (.astore_n 3, 1) := by decide +kernel
theorem dX7_go_36 : decode cX7_go 36 = .ok (.aload_n 3, 1) := by decide +kernel
theorem dX7_go_37 : decode cX7_go 37 = .ok (.invokevirtual 76, 3) := by decide +kernel
theorem dX7_go_40 : decode cX7_go 40 = .ok (.ifCond .ne 7, 3) := by decide +kernel
theorem dX7_go_43 : decode cX7_go 43 = .ok (.iconst 1, 1) := by decide +kernel
theorem dX7_go_44 : decode cX7_go 44 = .ok (.goto 4, 3) := by decide +kernel
theorem dX7_go_47 : decode cX7_go 47 = .ok (.iconst 0, 1) := by decide +kernel
theorem dX7_go_48 : decode cX7_go 48 = .ok (.istore 4, 2) := by decide +kernel
theorem dX7_go_50 : decode cX7_go 50 = .ok (.iload 4, 2) := by decide +kernel
theorem dX7_go_52 : decode cX7_go 52 = .ok (.ifCond .eq 7, 3) := by decide +kernel
theorem dX7_go_55 : decode cX7_go 55 = .ok (.iconst 0, 1) := by decide +kernel
theorem dX7_go_56 : decode cX7_go 56 = .ok (.goto 13, 3) := by decide +kernel
theorem dX7_go_59 : decode cX7_go 59 = .ok (.aload_n 3, 1) := by decide +kernel
theorem dX7_go_60 : decode cX7_go 60 = .ok (.aload_n 3, 1) := by decide +kernel
theorem dX7_go_61 : decode cX7_go 61 = .ok (.invokevirtual 76, 3) := by decide +kernel
theorem dX7_go_64 : decode cX7_go 64 = .ok (.iconst 1, 1) := by decide +kernel
theorem dX7_go_65 : decode cX7_go 65 = .ok (.isub, 1) := by decide +kernel
theorem dX7_go_66 : decode cX7_go 66 = .ok (.invokevirtual 102, 3) := by decide +kernel
theorem dX7_go_69 : decode cX7_go 69 = .ok (.istore 5, 2) := by decide +kernel
theorem dX7_go_71 : decode cX7_go 71 = .ok (.iload 4, 2) := by decide +kernel
theorem dX7_go_73 : decode cX7_go 73 = .ok (.ifCond .eq 7, 3) := by decide +kernel
theorem dX7_go_76 : decode cX7_go 76 = .ok (.iconst 0, 1) := by decide +kernel
theorem dX7_go_77 : decode cX7_go 77 = .ok (.goto 13, 3) := by decide +kernel
theorem dX7_go_80 : decode cX7_go 80 = .ok (.aload_n 3, 1) := by decide +kernel
theorem dX7_go_81 : decode cX7_go 81 = .ok (.aload_n 3, 1) := by decide +kernel
theorem dX7_go_82 : decode cX7_go 82 = .ok (.invokevirtual 76, 3) := by decide +kernel
theorem dX7_go_85 : decode cX7_go 85 = .ok (.iconst 1, 1) := by decide +kernel
theorem dX7_go_86 : decode cX7_go 86 = .ok (.isub, 1) := by decide +kernel
theorem dX7_go_87 : decode cX7_go 87 = .ok (.invokevirtual 106, 3) := by decide +kernel
theorem dX7_go_90 : decode cX7_go 90 = .ok (.istore 6, 2) := by decide +kernel
theorem dX7_go_92 : decode cX7_go 92 = .ok (.getstatic 109, 3) := by decide +kernel
theorem dX7_go_95 : decode cX7_go 95 = .ok (.iload_n 1, 1) := by decide +kernel
theorem dX7_go_96 : decode cX7_go 96 = .ok (.invokestatic 113, 3) := by decide +kernel
theorem dX7_go_99 : decode cX7_go 99 = .ok (.istore 7, 2) := by decide +kernel
theorem dX7_go_101 : decode cX7_go 101 = .ok (.getstatic 117, 3) := by decide +kernel
theorem dX7_go_104 : decode cX7_go 104 = .ok (.iload_n 1, 1) := by decide +kernel
theorem dX7_go_105 : decode cX7_go 105 = .ok (.invokestatic 113, 3) := by decide +kernel
theorem dX7_go_108 : decode cX7_go 108 = .ok (.istore 8, 2) := by decide +kernel
theorem dX7_go_110 : decode cX7_go 110 = .ok (.iload_n 2, 1) := by decide +kernel
theorem dX7_go_111 : decode cX7_go 111 = .ok (.iload 5, 2) := by decide +kernel
theorem dX7_go_113 : decode cX7_go 113 = .ok (.iload 7, 2) := by decide +kernel
theorem dX7_go_115 : decode cX7_go 115 = .ok (.invokestatic 120, 3) := by decide +kernel
theorem dX7_go_118 : decode cX7_go 118 = .ok (.iload 6, 2) := by decide +kernel
theorem dX7_go_120 : decode cX7_go 120 = .ok (.iload 8, 2) := by decide +kernel
theorem dX7_go_122 : decode cX7_go 122 = .ok (.invokestatic 120, 3) := by decide +kernel
theorem dX7_go_125 : decode cX7_go 125 = .ok (.invokestatic 124, 3) := by decide +kernel
theorem dX7_go_128 : decode cX7_go 128 = .ok (.invokestatic 124, 3) := by decide +kernel
theorem dX7_go_131 : decode cX7_go 131 = .ok (.istore 9, 2) := by decide +kernel
theorem dX7_go_133 : decode cX7_go 133 = .ok (.aload_n 3, 1) := by decide +kernel
theorem dX7_go_134 : decode cX7_go 134 = .ok (.invokevirtual 76, 3) := by decide +kernel
theorem dX7_go_137 : decode cX7_go 137 = .ok (.iload 4, 2) := by decide +kernel
theorem dX7_go_139 : decode cX7_go 139 = .ok (.ifCond .eq 7, 3) := by decide +kernel
theorem dX7_go_142 : decode cX7_go 142 = .ok (.iconst 1, 1) := by decide +kernel
theorem dX7_go_143 : decode cX7_go 143 = .ok (.goto 4, 3) := by decide +kernel
theorem dX7_go_146 : decode cX7_go 146 = .ok (.iconst 0, 1) := by decide +kernel
theorem dX7_go_147 : decode cX7_go 147 = .ok (.iadd, 1) := by decide +kernel
theorem dX7_go_148 : decode cX7_go 148 = .ok (.iload 9, 2) := by decide +kernel
theorem dX7_go_150 : decode cX7_go 150 = .ok (.iadd, 1) := by decide +kernel
theorem dX7_go_151 : decode cX7_go 151 = .ok (.bipush 40, 2) := by decide +kernel
theorem dX7_go_153 : decode cX7_go 153 = .ok (.if_icmp .le 13, 3) := by decide +kernel
theorem dX7_go_156 : decode cX7_go 156 = .ok (.new 80, 3) := by decide +kernel
theorem dX7_go_159 : decode cX7_go 159 = .ok (.dup, 1) := by decide +kernel
theorem dX7_go_160 : decode cX7_go 160 = .ok (.ldc 129, 2) := by decide +kernel
theorem dX7_go_162 : decode cX7_go 162 = .ok (.invokespecial 84, 3) := by decide +kernel
theorem dX7_go_165 : decode cX7_go 165 = .ok (.athrow, 1) := by decide +kernel
theorem dX7_go_166 : decode cX7_go 166 = .ok (.aload_n 0, 1) := by decide +kernel
theorem dX7_go_167 : decode cX7_go 167 = .ok (.getfield 19, 3) := by decide +kernel
theorem dX7_go_170 : decode cX7_go 170 = .ok (.aload_n 0, 1) := by decide +kernel
theorem dX7_go_171 : decode cX7_go 171 = .ok (.getfield 10, 3) := by decide +kernel
theorem dX7_go_174 : decode cX7_go 174 = .ok (.invokevirtual 85, 3) := by decide +kernel
theorem dX7_go_177 : decode cX7_go 177 = .ok (.iload 4, 2) := by decide +kernel
theorem dX7_go_179 : decode cX7_go 179 = .ok (.ifCond .eq 11, 3) := by decide +kernel
theorem dX7_go_182 : decode cX7_go 182 = .ok (.aload_n 3, 1) := by decide +kernel
theorem dX7_go_183 : decode cX7_go 183 = .ok (.iload 5, 2) := by decide +kernel
theorem dX7_go_185 : decode cX7_go 185 = .ok (.iload 6, 2) := by decide +kernel
theorem dX7_go_187 : decode cX7_go 187 = .ok (.invokevirtual 89, 3) := by decide +kernel
theorem dX7_go_190 : decode cX7_go 190 = .ok (.iconst 1, 1) := by decide +kernel
theorem dX7_go_191 : decode cX7_go 191 = .ok (.istore 10, 2) := by decide +kernel
theorem dX7_go_193 : decode cX7_go 193 = .ok (.iload 10, 2) := by decide +kernel
theorem dX7_go_195 : decode cX7_go 195 = .ok (.iload 9, 2) := by decide +kernel
theorem dX7_go_197 : decode cX7_go 197 = .ok (.if_icmp .gt 29, 3) := by decide +kernel
theorem dX7_go_200 : decode cX7_go 200 = .ok (.aload_n 3, 1) := by decide +kernel
theorem dX7_go_201 : decode cX7_go 201 = .ok (.iload 5, 2) := by decide +kernel
theorem dX7_go_203 : decode cX7_go 203 = .ok (.iload 10, 2) := by decide +kernel
theorem dX7_go_205 : decode cX7_go 205 = .ok (.iload 7, 2) := by decide +kernel
theorem dX7_go_207 : decode cX7_go 207 = .ok (.imul, 1) := by decide +kernel
theorem dX7_go_208 : decode cX7_go 208 = .ok (.iadd, 1) := by decide +kernel
theorem dX7_go_209 : decode cX7_go 209 = .ok (.iload 6, 2) := by decide +kernel
theorem dX7_go_211 : decode cX7_go 211 = .ok (.iload 10, 2) := by decide +kernel
theorem dX7_go_213 : decode cX7_go 213 = .ok (.iload 8, 2) := by decide +kernel
theorem dX7_go_215 : decode cX7_go 215 = .ok (.imul, 1) := by decide +kernel
theorem dX7_go_216 : decode cX7_go 216 = .ok (.iadd, 1) := by decide +kernel
theorem dX7_go_217 : decode cX7_go 217 = .ok (.invokevirtual 89, 3) := by decide +kernel
theorem dX7_go_220 : decode cX7_go 220 = .ok (.iinc 10 1, 3) := by decide +kernel
theorem dX7_go_223 : decode cX7_go 223 = .ok (.goto (-30), 3) := by decide +kernel
theorem dX7_go_226 : decode cX7_go 226 = .ok (.aload_n 0, 1) := by decide +kernel
theorem dX7_go_227 : decode cX7_go 227 = .ok (.invokevirtual 93, 3) := by decide +kernel
theorem dX7_go_230 : decode cX7_go 230 = .ok (.iload 9, 2) := by decide +kernel
theorem dX7_go_232 : decode cX7_go 232 = .ok (.ireturn, 1) := by decide +kernel
theorem dX7_back_0 : decode cX7_back 0 = .ok (.iload_n 1, 1) := by decide +kernel
theorem dX7_back_1 : decode cX7_back 1 = .ok (.iconst 1, 1) := by decide +kernel
theorem dX7_back_2 : decode cX7_back 2 = .ok (.if_icmp .lt 17, 3) := by decide +kernel
theorem dX7_back_5 : decode cX7_back 5 = .ok (.iload_n 1, 1) := by decide +kernel
theorem dX7_back_6 : decode cX7_back 6 = .ok (.aload_n 0, 1) := by decide +kernel
theorem dX7_back_7 : decode cX7_back 7 = .ok (.getfield 10, 3) := by decide +kernel
theorem dX7_back_10 : decode cX7_back 10 = .ok (.getfield 73, 3) := by decide +kernel
theorem dX7_back_13 : decode cX7_back 13 = .ok (.invokevirtual 76, 3) := by decide +kernel
theorem dX7_back_16 : decode cX7_back 16 = .ok (.if_icmp .le 13, 3) := by decide +kernel
theorem dX7_back_19 : decode cX7_back 19 = .ok (.new 66, 3) := by decide +kernel
theorem dX7_back_22 : decode cX7_back 22 = .ok (.dup, 1) := by decide +kernel
theorem dX7_back_23 : decode cX7_back 23 = .ok (.ldc 131, 2) := by decide +kernel
theorem dX7_back_25 : decode cX7_back 25 = .ok (.invokespecial 70, 3) := by decide +kernel
theorem dX7_back_28 : decode cX7_back 28 = .ok (.athrow, 1) := by decide +kernel
theorem dX7_back_29 : decode cX7_back 29 = .ok (.aload_n 0, 1) := by decide +kernel
theorem dX7_back_30 : decode cX7_back 30 = .ok (.getfield 19, 3) := by decide +kernel
theorem dX7_back_33 : decode cX7_back 33 = .ok (.aload_n 0, 1) := by decide +kernel
theorem dX7_back_34 : decode cX7_back 34 = .ok (.getfield 10, 3) := by decide +kernel
theorem dX7_back_37 : decode cX7_back 37 = .ok (.invokevirtual 85, 3) := by decide +kernel
theorem dX7_back_40 : decode cX7_back 40 = .ok (.aload_n 0, 1) := by decide +kernel
theorem dX7_back_41 : decode cX7_back 41 = .ok (.getfield 10, 3) := by decide +kernel
theorem dX7_back_44 : decode cX7_back 44 = .ok (.getfield 73, 3) := by decide +kernel
theorem dX7_back_47 : decode cX7_back 47 = .ok (.aload_n 0, 1) := by decide +kernel
theorem dX7_back_48 : decode cX7_back 48 = .ok (.getfield 10, 3) := by decide +kernel
theorem dX7_back_51 : decode cX7_back 51 = .ok (.getfield 73, 3) := by decide +kernel
theorem dX7_back_54 : decode cX7_back 54 = .ok (.invokevirtual 76, 3) := by decide +kernel
theorem dX7_back_57 : decode cX7_back 57 = .ok (.iload_n 1, 1) := by decide +kernel
theorem dX7_back_58 : decode cX7_back 58 = .ok (.isub, 1) := by decide +kernel
theorem dX7_back_59 : decode cX7_back 59 = .ok (.invokevirtual 133, 3) := by decide +kernel
theorem dX7_back_62 : decode cX7_back 62 = .ok (.aload_n 0, 1) := by decide +kernel
theorem dX7_back_63 : decode cX7_back 63 = .ok (.invokevirtual 93, 3) := by decide +kernel
theorem dX7_back_66 : decode cX7_back 66 = .ok (.aload_n 0, 1) := by decide +kernel
theorem dX7_back_67 : decode cX7_back 67 = .ok (.getfield 10, 3) := by decide +kernel
theorem dX7_back_70 : decode cX7_back 70 = .ok (.getfield 73, 3) := by decide +kernel
theorem dX7_back_73 : decode cX7_back 73 = .ok (.invokevirtual 76, 3) := by decide +kernel
theorem dX7_back_76 : decode cX7_back 76 = .ok (.ireturn, 1) := by decide +kernel
theorem dX7_begin_0 : decode cX7_begin 0 = .ok (.aload_n 0, 1) := by decide +kernel
theorem dX7_begin_1 : decode cX7_begin 1 = .ok (.getfield 10, 3) := by decide +kernel
theorem dX7_begin_4 : decode cX7_begin 4 = .ok (.getfield 73, 3) := by decide +kernel
theorem dX7_begin_7 : decode cX7_begin 7 = .ok (.invokevirtual 76, 3) := by decide +kernel
theorem dX7_begin_10 : decode cX7_begin 10 = .ok (.istore_n 1, 1) := by decide +kernel
theorem dX7_begin_11 : decode cX7_begin 11 = .ok (.aload_n 0, 1) := by decide +kernel
theorem dX7_begin_12 : decode cX7_begin 12 = .ok (.getfield 19, 3) := by decide +kernel
theorem dX7_begin_15 : decode cX7_begin 15 = .ok (.aload_n 0, 1) := by decide +kernel
theorem dX7_begin_16 : decode cX7_begin 16 = .ok (.getfield 10, 3) := by decide +kernel
theorem dX7_begin_19 : decode cX7_begin 19 = .ok (.invokevirtual 85, 3) := by decide +kernel
theorem dX7_begin_22 : decode cX7_begin 22 = .ok (.aload_n 0, 1) := by decide +kernel
theorem dX7_begin_23 : decode cX7_begin 23 = .ok (.getfield 10, 3) := by decide +kernel
theorem dX7_begin_26 : decode cX7_begin 26 = .ok (.getfield 73, 3) := by decide +kernel
theorem dX7_begin_29 : decode cX7_begin 29 = .ok (.iconst 0, 1) := by decide +kernel
theorem dX7_begin_30 : decode cX7_begin 30 = .ok (.invokevirtual 133, 3) := by decide +kernel
theorem dX7_begin_33 : decode cX7_begin 33 = .ok (.aload_n 0, 1) := by decide +kernel
theorem dX7_begin_34 : decode cX7_begin 34 = .ok (.invokevirtual 93, 3) := by decide +kernel
theorem dX7_begin_37 : decode cX7_begin 37 = .ok (.iload_n 1, 1) := by decide +kernel
theorem dX7_begin_38 : decode cX7_begin 38 = .ok (.ireturn, 1) := by decide +kernel
theorem dX7_turn_0 : decode cX7_turn 0 = .ok (.iload_n 1, 1) := by decide +kernel
theorem dX7_turn_1 : decode cX7_turn 1 = .ok (.iconst 1, 1) := by decide +kernel
theorem dX7_turn_2 : decode cX7_turn 2 = .ok (.if_icmp .lt 9, 3) := by decide +kernel
theorem dX7_turn_5 : decode cX7_turn 5 = .ok (.iload_n 1, 1) := by decide +kernel
theorem dX7_turn_6 : decode cX7_turn 6 = .ok (.bipush 8, 2) := by decide +kernel
theorem dX7_turn_8 : decode cX7_turn 8 = .ok (.if_icmp .lt 13, 3) := by decide +kernel
theorem dX7_turn_11 : decode cX7_turn 11 = .ok (.new 66, 3) := by decide +kernel
theorem dX7_turn_14 : decode cX7_turn 14 = .ok (.dup, 1) := by decide +kernel
theorem dX7_turn_15 : decode cX7_turn 15 = .ok (.ldc 136, 2) := by decide +kernel
theorem dX7_turn_17 : decode cX7_turn 17 = .ok (.invokespecial 70, 3) := by decide +kernel
theorem dX7_turn_20 : decode cX7_turn 20 = .ok (.athrow, 1) := by decide +kernel
theorem dX7_turn_21 : decode cX7_turn 21 = .ok (.aload_n 0, 1) := by decide +kernel
theorem dX7_turn_22 : decode cX7_turn 22 = .ok (.iload_n 1, 1) := by decide +kernel
theorem dX7_turn_23 : decode cX7_turn 23 = .ok (.invokevirtual 138, 3) := by decide +kernel
theorem dX7_turn_26 : decode cX7_turn 26 = .ok (.ifCond .ne 13, 3) := by decide +kernel
theorem dX7_turn_29 : decode cX7_turn 29 = .ok (.new 80, 3) := by decide +kernel
theorem dX7_turn_32 : decode cX7_turn 32 = .ok (.dup, 1) := by decide +kernel
theorem dX7_turn_33 : decode cX7_turn 33 = .ok (.ldc 141, 2) := by decide +kernel
theorem dX7_turn_35 : decode cX7_turn 35 = .ok (.invokespecial 84, 3) := by decide +kernel
theorem dX7_turn_38 : decode cX7_turn 38 = .ok (.athrow, 1) := by decide +kernel
theorem dX7_turn_39 : decode cX7_turn 39 = .ok (.aload_n 0, 1) := by decide +kernel
theorem dX7_turn_40 : decode cX7_turn 40 = .ok (.getfield 19, 3) := by decide +kernel
theorem dX7_turn_43 : decode cX7_turn 43 = .ok (.aload_n 0, 1) := by decide +kernel
theorem dX7_turn_44 : decode cX7_turn 44 = .ok (.getfield 10, 3) := by decide +kernel
theorem dX7_turn_47 : decode cX7_turn 47 = .ok (.invokevirtual 85, 3) := by decide +kernel
theorem dX7_turn_50 : decode cX7_turn 50 = .ok (.aload_n 0, 1) := by decide +kernel
theorem dX7_turn_51 : decode cX7_turn 51 = .ok (.getfield 10, 3) := by decide +kernel
theorem dX7_turn_54 : decode cX7_turn 54 = .ok (.getfield 73, 3) := by decide +kernel
theorem dX7_turn_57 : decode cX7_turn 57 = .ok (.aload_n 0, 1) := by decide +kernel
theorem dX7_turn_58 : decode cX7_turn 58 = .ok (.getfield 49, 3) := by decide +kernel
theorem dX7_turn_61 : decode cX7_turn 61 = .ok (.invokevirtual 143, 3) := by decide +kernel
theorem dX7_turn_64 : decode cX7_turn 64 = .ok (.aload_n 0, 1) := by decide +kernel
theorem dX7_turn_65 : decode cX7_turn 65 = .ok (.invokevirtual 93, 3) := by decide +kernel
theorem dX7_turn_68 : decode cX7_turn 68 = .ok (.aload_n 0, 1) := by decide +kernel
theorem dX7_turn_69 : decode cX7_turn 69 = .ok (.getfield 10, 3) := by decide +kernel
theorem dX7_turn_72 : decode cX7_turn 72 = .ok (.getfield 73, 3) := by decide +kernel
theorem dX7_turn_75 : decode cX7_turn 75 = .ok (.invokevirtual 76, 3) := by decide +kernel
theorem dX7_turn_78 : decode cX7_turn 78 = .ok (.ireturn, 1) := by decide +kernel
theorem dX7_learn_0 : decode cX7_learn 0 = .ok (.aload_n 0, 1) := by decide +kernel
theorem dX7_learn_1 : decode cX7_learn 1 = .ok (.getfield 35, 3) := by decide +kernel
theorem dX7_learn_4 : decode cX7_learn 4 = .ok (.getfield 147, 3) := by decide +kernel
theorem dX7_learn_7 : decode cX7_learn 7 = .ok (.invokevirtual 150, 3) := by decide +kernel
theorem dX7_learn_10 : decode cX7_learn 10 = .ok (.istore_n 1, 1) := by decide +kernel
theorem dX7_learn_11 : decode cX7_learn 11 = .ok (.aload_n 0, 1) := by decide +kernel
theorem dX7_learn_12 : decode cX7_learn 12 = .ok (.getfield 10, 3) := by decide +kernel
theorem dX7_learn_15 : decode cX7_learn 15 = .ok (.getfield 151, 3) := by decide +kernel
theorem dX7_learn_18 : decode cX7_learn 18 = .ok (.invokevirtual 155, 3) := by decide +kernel
theorem dX7_learn_21 : decode cX7_learn 21 = .ok (.bipush 10, 2) := by decide +kernel
theorem dX7_learn_23 : decode cX7_learn 23 = .ok (.if_icmp .ge 14, 3) := by decide +kernel
theorem dX7_learn_26 : decode cX7_learn 26 = .ok (.iload_n 1, 1) := by decide +kernel
theorem dX7_learn_27 : decode cX7_learn 27 = .ok (.iconst 1, 1) := by decide +kernel
theorem dX7_learn_28 : decode cX7_learn 28 = .ok (.if_icmp .lt 9, 3) := by decide +kernel
theorem dX7_learn_31 : decode cX7_learn 31 = .ok (.iload_n 1, 1) := by decide +kernel
theorem dX7_learn_32 : decode cX7_learn 32 = .ok (.bipush 8, 2) := by decide +kernel
theorem dX7_learn_34 : decode cX7_learn 34 = .ok (.if_icmp .le 13, 3) := by decide +kernel
theorem dX7_learn_37 : decode cX7_learn 37 = .ok (.new 80, 3) := by decide +kernel
theorem dX7_learn_40 : decode cX7_learn 40 = .ok (.dup, 1) := by decide +kernel
theorem dX7_learn_41 : decode cX7_learn 41 = .ok (.ldc 158, 2) := by decide +kernel
theorem dX7_learn_43 : decode cX7_learn 43 = .ok (.invokespecial 84, 3) := by decide +kernel
theorem dX7_learn_46 : decode cX7_learn 46 = .ok (.athrow, 1) := by decide +kernel
theorem dX7_learn_47 : decode cX7_learn 47 = .ok (.aload_n 0, 1) := by decide +kernel
theorem dX7_learn_48 : decode cX7_learn 48 = .ok (.aload_n 0, 1) := by decide +kernel
theorem dX7_learn_49 : decode cX7_learn 49 = .ok (.getfield 35, 3) := by decide +kernel
theorem dX7_learn_52 : decode cX7_learn 52 = .ok (.getfield 147, 3) := by decide +kernel
theorem dX7_learn_55 : decode cX7_learn 55 = .ok (.invokevirtual 160, 3) := by decide +kernel
theorem dX7_learn_58 : decode cX7_learn 58 = .ok (.ifCond .eq 13, 3) := by decide +kernel
theorem dX7_learn_61 : decode cX7_learn 61 = .ok (.new 80, 3) := by decide +kernel
theorem dX7_learn_64 : decode cX7_learn 64 = .ok (.dup, 1) := by decide +kernel
theorem dX7_learn_65 : decode cX7_learn 65 = .ok (.ldc 164, 2) := by decide +kernel
theorem dX7_learn_67 : decode cX7_learn 67 = .ok (.invokespecial 84, 3) := by decide +kernel
theorem dX7_learn_70 : decode cX7_learn 70 = .ok (.athrow, 1) := by decide +kernel
theorem dX7_learn_71 : decode cX7_learn 71 = .ok (.aload_n 0, 1) := by decide +kernel
theorem dX7_learn_72 : decode cX7_learn 72 = .ok (.aload_n 0, 1) := by decide +kernel
theorem dX7_learn_73 : decode cX7_learn 73 = .ok (.getfield 35, 3) := by decide +kernel
theorem dX7_learn_76 : decode cX7_learn 76 = .ok (.getfield 147, 3) := by decide +kernel
theorem dX7_learn_79 : decode cX7_learn 79 = .ok (.invokevirtual 166, 3) := by decide +kernel
theorem dX7_learn_82 : decode cX7_learn 82 = .ok (.ireturn, 1) := by decide +kernel
theorem dX7_read_0 : decode cX7_read 0 = .ok (.aload_n 0, 1) := by decide +kernel
theorem dX7_read_1 : decode cX7_read 1 = .ok (.getfield 28, 3) := by decide +kernel
theorem dX7_read_4 : decode cX7_read 4 = .ok (.invokevirtual 150, 3) := by decide +kernel
theorem dX7_read_7 : decode cX7_read 7 = .ok (.ifCond .eq 17, 3) := by decide +kernel
theorem dX7_read_10 : decode cX7_read 10 = .ok (.aload_n 0, 1) := by decide +kernel
theorem dX7_read_11 : decode cX7_read 11 = .ok (.invokevirtual 170, 3) := by decide +kernel
theorem dX7_read_14 : decode cX7_read 14 = .ok (.aload_n 0, 1) := by decide +kernel
theorem dX7_read_15 : decode cX7_read 15 = .ok (.getfield 28, 3) := by decide +kernel
theorem dX7_read_18 : decode cX7_read 18 = .ok (.invokevirtual 150, 3) := by decide +kernel
theorem dX7_read_21 : decode cX7_read 21 = .ok (.if_icmp .ge 13, 3) := by decide +kernel
theorem dX7_read_24 : decode cX7_read 24 = .ok (.new 66, 3) := by decide +kernel
theorem dX7_read_27 : decode cX7_read 27 = .ok (.dup, 1) := by decide +kernel
theorem dX7_read_28 : decode cX7_read 28 = .ok (.ldc 173, 2) := by decide +kernel
theorem dX7_read_30 : decode cX7_read 30 = .ok (.invokespecial 70, 3) := by decide +kernel
theorem dX7_read_33 : decode cX7_read 33 = .ok (.athrow, 1) := by decide +kernel
theorem dX7_read_34 : decode cX7_read 34 = .ok (.aload_n 0, 1) := by decide +kernel
theorem dX7_read_35 : decode cX7_read 35 = .ok (.getfield 10, 3) := by decide +kernel
theorem dX7_read_38 : decode cX7_read 38 = .ok (.getfield 151, 3) := by decide +kernel
theorem dX7_read_41 : decode cX7_read 41 = .ok (.invokevirtual 155, 3) := by decide +kernel
theorem dX7_read_44 : decode cX7_read 44 = .ok (.bipush 10, 2) := by decide +kernel
theorem dX7_read_46 : decode cX7_read 46 = .ok (.if_icmp .lt 13, 3) := by decide +kernel
theorem dX7_read_49 : decode cX7_read 49 = .ok (.new 80, 3) := by decide +kernel
theorem dX7_read_52 : decode cX7_read 52 = .ok (.dup, 1) := by decide +kernel
theorem dX7_read_53 : decode cX7_read 53 = .ok (.ldc 175, 2) := by decide +kernel
theorem dX7_read_55 : decode cX7_read 55 = .ok (.invokespecial 84, 3) := by decide +kernel
theorem dX7_read_58 : decode cX7_read 58 = .ok (.athrow, 1) := by decide +kernel
theorem dX7_read_59 : decode cX7_read 59 = .ok (.aload_n 0, 1) := by decide +kernel
theorem dX7_read_60 : decode cX7_read 60 = .ok (.getfield 59, 3) := by decide +kernel
theorem dX7_read_63 : decode cX7_read 63 = .ok (.invokevirtual 177, 3) := by decide +kernel
theorem dX7_read_66 : decode cX7_read 66 = .ok (.iconst 0, 1) := by decide +kernel
theorem dX7_read_67 : decode cX7_read 67 = .ok (.istore_n 1, 1) := by decide +kernel
theorem dX7_read_68 : decode cX7_read 68 = .ok (.iload_n 1, 1) := by decide +kernel
theorem dX7_read_69 : decode cX7_read 69 = .ok (.aload_n 0, 1) := by decide +kernel
theorem dX7_read_70 : decode cX7_read 70 = .ok (.getfield 28, 3) := by decide +kernel
theorem dX7_read_73 : decode cX7_read 73 = .ok (.invokevirtual 150, 3) := by decide +kernel
theorem dX7_read_76 : decode cX7_read 76 = .ok (.if_icmp .ge 27, 3) := by decide +kernel
theorem dX7_read_79 : decode cX7_read 79 = .ok (.aload_n 0, 1) := by decide +kernel
theorem dX7_read_80 : decode cX7_read 80 = .ok (.getfield 59, 3) := by decide +kernel
theorem dX7_read_83 : decode cX7_read 83 = .ok (.aload_n 0, 1) := by decide +kernel
theorem dX7_read_84 : decode cX7_read 84 = .ok (.getfield 28, 3) := by decide +kernel
theorem dX7_read_87 : decode cX7_read 87 = .ok (.iload_n 1, 1) := by decide +kernel
theorem dX7_read_88 : decode cX7_read 88 = .ok (.invokevirtual 180, 3) := by decide +kernel
theorem dX7_read_91 : decode cX7_read 91 = .ok (.bipush 48, 2) := by decide +kernel
theorem dX7_read_93 : decode cX7_read 93 = .ok (.isub, 1) := by decide +kernel
theorem dX7_read_94 : decode cX7_read 94 = .ok (.invokevirtual 183, 3) := by decide +kernel
theorem dX7_read_97 : decode cX7_read 97 = .ok (.iinc 1 1, 3) := by decide +kernel
theorem dX7_read_100 : decode cX7_read 100 = .ok (.goto (-32), 3) := by decide +kernel
theorem dX7_read_103 : decode cX7_read 103 = .ok (.aload_n 0, 1) := by decide +kernel
theorem dX7_read_104 : decode cX7_read 104 = .ok (.aload_n 0, 1) := by decide +kernel
theorem dX7_read_105 : decode cX7_read 105 = .ok (.getfield 59, 3) := by decide +kernel
theorem dX7_read_108 : decode cX7_read 108 = .ok (.invokevirtual 160, 3) := by decide +kernel
theorem dX7_read_111 : decode cX7_read 111 = .ok (.ifCond .eq 13, 3) := by decide +kernel
theorem dX7_read_114 : decode cX7_read 114 = .ok (.new 80, 3) := by decide +kernel
theorem dX7_read_117 : decode cX7_read 117 = .ok (.dup, 1) := by decide +kernel
theorem dX7_read_118 : decode cX7_read 118 = .ok (.ldc 164, 2) := by decide +kernel
theorem dX7_read_120 : decode cX7_read 120 = .ok (.invokespecial 84, 3) := by decide +kernel
theorem dX7_read_123 : decode cX7_read 123 = .ok (.athrow, 1) := by decide +kernel
theorem dX7_read_124 : decode cX7_read 124 = .ok (.aload_n 0, 1) := by decide +kernel
theorem dX7_read_125 : decode cX7_read 125 = .ok (.getfield 28, 3) := by decide +kernel
theorem dX7_read_128 : decode cX7_read 128 = .ok (.invokevirtual 177, 3) := by decide +kernel
theorem dX7_read_131 : decode cX7_read 131 = .ok (.aload_n 0, 1) := by decide +kernel
theorem dX7_read_132 : decode cX7_read 132 = .ok (.aload_n 0, 1) := by decide +kernel
theorem dX7_read_133 : decode cX7_read 133 = .ok (.getfield 59, 3) := by decide +kernel
theorem dX7_read_136 : decode cX7_read 136 = .ok (.invokevirtual 166, 3) := by decide +kernel
theorem dX7_read_139 : decode cX7_read 139 = .ok (.ireturn, 1) := by decide +kernel
theorem dX7_forget_0 : decode cX7_forget 0 = .ok (.aload_n 0, 1) := by decide +kernel
theorem dX7_forget_1 : decode cX7_forget 1 = .ok (.iload_n 1, 1) := by decide +kernel
theorem dX7_forget_2 : decode cX7_forget 2 = .ok (.invokevirtual 185, 3) := by decide +kernel
theorem dX7_forget_5 : decode cX7_forget 5 = .ok (.ifCond .ne 13, 3) := by decide +kernel
theorem dX7_forget_8 : decode cX7_forget 8 = .ok (.new 188, 3) := by decide +kernel
theorem dX7_forget_11 : decode cX7_forget 11 = .ok (.dup, 1) := by decide +kernel
theorem dX7_forget_12 : decode cX7_forget 12 = .ok (.ldc 190, 2) := by decide +kernel
theorem dX7_forget_14 : decode cX7_forget 14 = .ok (.invokespecial 192, 3) := by decide +kernel
theorem dX7_forget_17 : decode cX7_forget 17 = .ok (.athrow, 1) := by decide +kernel
theorem dX7_forget_18 : decode cX7_forget 18 = .ok (.aload_n 0, 1) := by decide +kernel
theorem dX7_forget_19 : decode cX7_forget 19 = .ok (.getfield 19, 3) := by decide +kernel
theorem dX7_forget_22 : decode cX7_forget 22 = .ok (.aload_n 0, 1) := by decide +kernel
theorem dX7_forget_23 : decode cX7_forget 23 = .ok (.getfield 10, 3) := by decide +kernel
theorem dX7_forget_26 : decode cX7_forget 26 = .ok (.invokevirtual 85, 3) := by decide +kernel
theorem dX7_forget_29 : decode cX7_forget 29 = .ok (.aload_n 0, 1) := by decide +kernel
theorem dX7_forget_30 : decode cX7_forget 30 = .ok (.getfield 10, 3) := by decide +kernel
theorem dX7_forget_33 : decode cX7_forget 33 = .ok (.getfield 151, 3) := by decide +kernel
theorem dX7_forget_36 : decode cX7_forget 36 = .ok (.iload_n 1, 1) := by decide +kernel
theorem dX7_forget_37 : decode cX7_forget 37 = .ok (.invokevirtual 193, 3) := by decide +kernel
theorem dX7_forget_40 : decode cX7_forget 40 = .ok (.aload_n 0, 1) := by decide +kernel
theorem dX7_forget_41 : decode cX7_forget 41 = .ok (.invokevirtual 93, 3) := by decide +kernel
theorem dX7_forget_44 : decode cX7_forget 44 = .ok (.aload_n 0, 1) := by decide +kernel
theorem dX7_forget_45 : decode cX7_forget 45 = .ok (.getfield 10, 3) := by decide +kernel
theorem dX7_forget_48 : decode cX7_forget 48 = .ok (.getfield 151, 3) := by decide +kernel
theorem dX7_forget_51 : decode cX7_forget 51 = .ok (.invokevirtual 155, 3) := by decide +kernel
theorem dX7_forget_54 : decode cX7_forget 54 = .ok (.ireturn, 1) := by decide +kernel
theorem dX7_set_0 : decode cX7_set 0 = .ok (.iload_n 1, 1) := by decide +kernel
theorem dX7_set_1 : decode cX7_set 1 = .ok (.invokestatic 196, 3) := by decide +kernel
theorem dX7_set_4 : decode cX7_set 4 = .ok (.ifCond .ne 13, 3) := by decide +kernel
theorem dX7_set_7 : decode cX7_set 7 = .ok (.new 188, 3) := by decide +kernel
theorem dX7_set_10 : decode cX7_set 10 = .ok (.dup, 1) := by decide +kernel
theorem dX7_set_11 : decode cX7_set 11 = .ok (.ldc 199, 2) := by decide +kernel
theorem dX7_set_13 : decode cX7_set 13 = .ok (.invokespecial 192, 3) := by decide +kernel
theorem dX7_set_16 : decode cX7_set 16 = .ok (.athrow, 1) := by decide +kernel
theorem dX7_set_17 : decode cX7_set 17 = .ok (.iload_n 2, 1) := by decide +kernel
theorem dX7_set_18 : decode cX7_set 18 = .ok (.getstatic 201, 3) := by decide +kernel
theorem dX7_set_21 : decode cX7_set 21 = .ok (.iload_n 1, 1) := by decide +kernel
theorem dX7_set_22 : decode cX7_set 22 = .ok (.invokestatic 113, 3) := by decide +kernel
theorem dX7_set_25 : decode cX7_set 25 = .ok (.if_icmp .lt 14, 3) := by decide +kernel
theorem dX7_set_28 : decode cX7_set 28 = .ok (.iload_n 2, 1) := by decide +kernel
theorem dX7_set_29 : decode cX7_set 29 = .ok (.getstatic 204, 3) := by decide +kernel
theorem dX7_set_32 : decode cX7_set 32 = .ok (.iload_n 1, 1) := by decide +kernel
theorem dX7_set_33 : decode cX7_set 33 = .ok (.invokestatic 113, 3) := by decide +kernel
theorem dX7_set_36 : decode cX7_set 36 = .ok (.if_icmp .le 13, 3) := by decide +kernel
theorem dX7_set_39 : decode cX7_set 39 = .ok (.new 66, 3) := by decide +kernel
theorem dX7_set_42 : decode cX7_set 42 = .ok (.dup, 1) := by decide +kernel
theorem dX7_set_43 : decode cX7_set 43 = .ok (.ldc 207, 2) := by decide +kernel
theorem dX7_set_45 : decode cX7_set 45 = .ok (.invokespecial 70, 3) := by decide +kernel
theorem dX7_set_48 : decode cX7_set 48 = .ok (.athrow, 1) := by decide +kernel
theorem dX7_set_49 : decode cX7_set 49 = .ok (.aload_n 0, 1) := by decide +kernel
theorem dX7_set_50 : decode cX7_set 50 = .ok (.getfield 56, 3) := by decide +kernel
theorem dX7_set_53 : decode cX7_set 53 = .ok (.aload_n 0, 1) := by decide +kernel
theorem dX7_set_54 : decode cX7_set 54 = .ok (.getfield 10, 3) := by decide +kernel
theorem dX7_set_57 : decode cX7_set 57 = .ok (.getfield 209, 3) := by decide +kernel
theorem dX7_set_60 : decode cX7_set 60 = .ok (.invokevirtual 212, 3) := by decide +kernel
theorem dX7_set_63 : decode cX7_set 63 = .ok (.aload_n 0, 1) := by decide +kernel
theorem dX7_set_64 : decode cX7_set 64 = .ok (.getfield 56, 3) := by decide +kernel
theorem dX7_set_67 : decode cX7_set 67 = .ok (.iload_n 1, 1) := by decide +kernel
theorem dX7_set_68 : decode cX7_set 68 = .ok (.iload_n 2, 1) := by decide +kernel
theorem dX7_set_69 : decode cX7_set 69 = .ok (.invokevirtual 215, 3) := by decide +kernel
theorem dX7_set_72 : decode cX7_set 72 = .ok (.aload_n 0, 1) := by decide +kernel
theorem dX7_set_73 : decode cX7_set 73 = .ok (.aload_n 0, 1) := by decide +kernel
theorem dX7_set_74 : decode cX7_set 74 = .ok (.getfield 56, 3) := by decide +kernel
theorem dX7_set_77 : decode cX7_set 77 = .ok (.invokevirtual 218, 3) := by decide +kernel
theorem dX7_set_80 : decode cX7_set 80 = .ok (.istore_n 3, 1) := by decide +kernel
theorem dX7_set_81 : decode cX7_set 81 = .ok (.iload_n 3, 1) := by decide +kernel
theorem dX7_set_82 : decode cX7_set 82 = .ok (.iconst (-1), 1) := by decide +kernel
theorem dX7_set_83 : decode cX7_set 83 = .ok (.if_icmp .eq 27, 3) := by decide +kernel
theorem dX7_set_86 : decode cX7_set 86 = .ok (.iload_n 3, 1) := by decide +kernel
theorem dX7_set_87 : decode cX7_set 87 = .ok (.iconst 2, 1) := by decide +kernel
theorem dX7_set_88 : decode cX7_set 88 = .ok (.aload_n 0, 1) := by decide +kernel
theorem dX7_set_89 : decode cX7_set 89 = .ok (.getfield 56, 3) := by decide +kernel
theorem dX7_set_92 : decode cX7_set 92 = .ok (.iconst 4, 1) := by decide +kernel
theorem dX7_set_93 : decode cX7_set 93 = .ok (.invokevirtual 180, 3) := by decide +kernel
theorem dX7_set_96 : decode cX7_set 96 = .ok (.imul, 1) := by decide +kernel
theorem dX7_set_97 : decode cX7_set 97 = .ok (.if_icmp .gt 13, 3) := by decide +kernel
theorem dX7_set_100 : decode cX7_set 100 = .ok (.new 80, 3) := by decide +kernel
theorem dX7_set_103 : decode cX7_set 103 = .ok (.dup, 1) := by decide +kernel
theorem dX7_set_104 : decode cX7_set 104 = .ok (.ldc 221, 2) := by decide +kernel
theorem dX7_set_106 : decode cX7_set 106 = .ok (.invokespecial 84, 3) := by decide +kernel
theorem dX7_set_109 : decode cX7_set 109 = .ok (.athrow, 1) := by decide +kernel
theorem dX7_set_110 : decode cX7_set 110 = .ok (.aload_n 0, 1) := by decide +kernel
theorem dX7_set_111 : decode cX7_set 111 = .ok (.getfield 10, 3) := by decide +kernel
theorem dX7_set_114 : decode cX7_set 114 = .ok (.getfield 209, 3) := by decide +kernel
theorem dX7_set_117 : decode cX7_set 117 = .ok (.iload_n 1, 1) := by decide +kernel
theorem dX7_set_118 : decode cX7_set 118 = .ok (.invokevirtual 180, 3) := by decide +kernel
theorem dX7_set_121 : decode cX7_set 121 = .ok (.istore 4, 2) := by decide +kernel
theorem dX7_set_123 : decode cX7_set 123 = .ok (.aload_n 0, 1) := by decide +kernel
theorem dX7_set_124 : decode cX7_set 124 = .ok (.getfield 19, 3) := by decide +kernel
theorem dX7_set_127 : decode cX7_set 127 = .ok (.aload_n 0, 1) := by decide +kernel
theorem dX7_set_128 : decode cX7_set 128 = .ok (.getfield 10, 3) := by decide +kernel
theorem dX7_set_131 : decode cX7_set 131 = .ok (.invokevirtual 85, 3) := by decide +kernel
theorem dX7_set_134 : decode cX7_set 134 = .ok (.aload_n 0, 1) := by decide +kernel
theorem dX7_set_135 : decode cX7_set 135 = .ok (.getfield 10, 3) := by decide +kernel
theorem dX7_set_138 : decode cX7_set 138 = .ok (.getfield 209, 3) := by decide +kernel
theorem dX7_set_141 : decode cX7_set 141 = .ok (.iload_n 1, 1) := by decide +kernel
theorem dX7_set_142 : decode cX7_set 142 = .ok (.iload_n 2, 1) := by decide +kernel
theorem dX7_set_143 : decode cX7_set 143 = .ok (.invokevirtual 215, 3) := by decide +kernel
theorem dX7_set_146 : decode cX7_set 146 = .ok (.aload_n 0, 1) := by decide +kernel
theorem dX7_set_147 : decode cX7_set 147 = .ok (.invokevirtual 93, 3) := by decide +kernel
theorem dX7_set_150 : decode cX7_set 150 = .ok (.iload 4, 2) := by decide +kernel
theorem dX7_set_152 : decode cX7_set 152 = .ok (.ireturn, 1) := by decide +kernel
theorem dX7_append_0 : decode cX7_append 0 = .ok (.iload_n 1, 1) := by decide +kernel
theorem dX7_append_1 : decode cX7_append 1 = .ok (.bipush 33, 2) := by decide +kernel
theorem dX7_append_3 : decode cX7_append 3 = .ok (.if_icmp .lt 9, 3) := by decide +kernel
theorem dX7_append_6 : decode cX7_append 6 = .ok (.iload_n 1, 1) := by decide +kernel
theorem dX7_append_7 : decode cX7_append 7 = .ok (.bipush 126, 2) := by decide +kernel
theorem dX7_append_9 : decode cX7_append 9 = .ok (.if_icmp .le 13, 3) := by decide +kernel
theorem dX7_append_12 : decode cX7_append 12 = .ok (.new 66, 3) := by decide +kernel
theorem dX7_append_15 : decode cX7_append 15 = .ok (.dup, 1) := by decide +kernel
theorem dX7_append_16 : decode cX7_append 16 = .ok (.ldc 223, 2) := by decide +kernel
theorem dX7_append_18 : decode cX7_append 18 = .ok (.invokespecial 70, 3) := by decide +kernel
theorem dX7_append_21 : decode cX7_append 21 = .ok (.athrow, 1) := by decide +kernel
theorem dX7_append_22 : decode cX7_append 22 = .ok (.aload_n 0, 1) := by decide +kernel
theorem dX7_append_23 : decode cX7_append 23 = .ok (.getfield 28, 3) := by decide +kernel
theorem dX7_append_26 : decode cX7_append 26 = .ok (.invokevirtual 150, 3) := by decide +kernel
theorem dX7_append_29 : decode cX7_append 29 = .ok (.bipush 60, 2) := by decide +kernel
theorem dX7_append_31 : decode cX7_append 31 = .ok (.if_icmp .lt 13, 3) := by decide +kernel
theorem dX7_append_34 : decode cX7_append 34 = .ok (.new 80, 3) := by decide +kernel
theorem dX7_append_37 : decode cX7_append 37 = .ok (.dup, 1) := by decide +kernel
theorem dX7_append_38 : decode cX7_append 38 = .ok (.ldc 225, 2) := by decide +kernel
theorem dX7_append_40 : decode cX7_append 40 = .ok (.invokespecial 84, 3) := by decide +kernel
theorem dX7_append_43 : decode cX7_append 43 = .ok (.athrow, 1) := by decide +kernel
theorem dX7_append_44 : decode cX7_append 44 = .ok (.aload_n 0, 1) := by decide +kernel
theorem dX7_append_45 : decode cX7_append 45 = .ok (.getfield 28, 3) := by decide +kernel
theorem dX7_append_48 : decode cX7_append 48 = .ok (.iload_n 1, 1) := by decide +kernel
theorem dX7_append_49 : decode cX7_append 49 = .ok (.invokevirtual 183, 3) := by decide +kernel
theorem dX7_append_52 : decode cX7_append 52 = .ok (.aload_n 0, 1) := by decide +kernel
theorem dX7_append_53 : decode cX7_append 53 = .ok (.getfield 28, 3) := by decide +kernel
theorem dX7_append_56 : decode cX7_append 56 = .ok (.invokevirtual 150, 3) := by decide +kernel
theorem dX7_append_59 : decode cX7_append 59 = .ok (.ireturn, 1) := by decide +kernel
theorem dX7_clearBuffer_0 : decode cX7_clearBuffer 0 = .ok (.aload_n 0, 1) := by decide +kernel
theorem dX7_clearBuffer_1 : decode cX7_clearBuffer 1 = .ok (.getfield 28, 3) := by decide +kernel
theorem dX7_clearBuffer_4 : decode cX7_clearBuffer 4 = .ok (.invokevirtual 150, 3) := by decide +kernel
theorem dX7_clearBuffer_7 : decode cX7_clearBuffer 7 = .ok (.istore_n 1, 1) := by decide +kernel
theorem dX7_clearBuffer_8 : decode cX7_clearBuffer 8 = .ok (.aload_n 0, 1) := by decide +kernel
theorem dX7_clearBuffer_9 : decode cX7_clearBuffer 9 = .ok (.getfield 28, 3) := by decide +kernel
theorem dX7_clearBuffer_12 : decode cX7_clearBuffer 12 = .ok (.invokevirtual 177, 3) := by decide +kernel
theorem dX7_clearBuffer_15 : decode cX7_clearBuffer 15 = .ok (.iload_n 1, 1) := by decide +kernel
theorem dX7_clearBuffer_16 : decode cX7_clearBuffer 16 = .ok (.ireturn, 1) := by decide +kernel
theorem dX7_firstError_0 : decode cX7_firstError 0 = .ok (.iconst 0, 1) := by decide +kernel
theorem dX7_firstError_1 : decode cX7_firstError 1 = .ok (.istore_n 1, 1) := by decide +kernel
theorem dX7_firstError_2 : decode cX7_firstError 2 = .ok (.iload_n 1, 1) := by decide +kernel
theorem dX7_firstError_3 : decode cX7_firstError 3 = .ok (.aload_n 0, 1) := by decide +kernel
theorem dX7_firstError_4 : decode cX7_firstError 4 = .ok (.getfield 28, 3) := by decide +kernel
theorem dX7_firstError_7 : decode cX7_firstError 7 = .ok (.invokevirtual 150, 3) := by decide +kernel
theorem dX7_firstError_10 : decode cX7_firstError 10 = .ok (.if_icmp .ge 78, 3) := by decide +kernel
theorem dX7_firstError_13 : decode cX7_firstError 13 = .ok (.aload_n 0, 1) := by decide +kernel
theorem dX7_firstError_14 : decode cX7_firstError 14 = .ok (.getfield 28, 3) := by decide +kernel
theorem dX7_firstError_17 : decode cX7_firstError 17 = .ok (.iload_n 1, 1) := by decide +kernel
theorem dX7_firstError_18 : decode cX7_firstError 18 = .ok (.invokevirtual 180, 3) := by decide +kernel
theorem dX7_firstError_21 : decode cX7_firstError 21 = .ok (.istore_n 2, 1) := by decide +kernel
theorem dX7_firstError_22 : decode cX7_firstError 22 = .ok (.iload_n 2, 1) := by decide +kernel
theorem dX7_firstError_23 : decode cX7_firstError 23 = .ok (.bipush 48, 2) := by decide +kernel
theorem dX7_firstError_25 : decode cX7_firstError 25 = .ok (.if_icmp .lt 13, 3) := by decide +kernel
theorem dX7_firstError_28 : decode cX7_firstError 28 = .ok (.iload_n 2, 1) := by decide +kernel
theorem dX7_firstError_29 : decode cX7_firstError 29 = .ok (.bipush 55, 2) := by decide +kernel
theorem dX7_firstError_31 : decode cX7_firstError 31 = .ok (.if_icmp .gt 7, 3) := by decide +kernel
theorem dX7_firstError_34 : decode cX7_firstError 34 = .ok (.iconst 1, 1) := by decide +kernel
theorem dX7_firstError_35 : decode cX7_firstError 35 = .ok (.goto 4, 3) := by decide +kernel
theorem dX7_firstError_38 : decode cX7_firstError 38 = .ok (.iconst 0, 1) := by decide +kernel
theorem dX7_firstError_39 : decode cX7_firstError 39 = .ok (.istore_n 3, 1) := by decide +kernel
theorem dX7_firstError_40 : decode cX7_firstError 40 = .ok (.iload_n 1, 1) := by decide +kernel
theorem dX7_firstError_41 : decode cX7_firstError 41 = .ok (.ifCond .le 21, 3) := by decide +kernel
theorem dX7_firstError_44 : decode cX7_firstError 44 = .ok (.aload_n 0, 1) := by decide +kernel
theorem dX7_firstError_45 : decode cX7_firstError 45 = .ok (.getfield 28, 3) := by decide +kernel
theorem dX7_firstError_48 : decode cX7_firstError 48 = .ok (.iload_n 1, 1) := by decide +kernel
theorem dX7_firstError_49 : decode cX7_firstError 49 = .ok (.iconst 1, 1) := by decide +kernel
theorem dX7_firstError_50 : decode cX7_firstError 50 = .ok (.isub, 1) := by decide +kernel
theorem dX7_firstError_51 : decode cX7_firstError 51 = .ok (.invokevirtual 180, 3) := by decide +kernel
theorem dX7_firstError_54 : decode cX7_firstError 54 = .ok (.iload_n 2, 1) := by decide +kernel
theorem dX7_firstError_55 : decode cX7_firstError 55 = .ok (.if_icmp .ne 7, 3) := by decide +kernel
theorem dX7_firstError_58 : decode cX7_firstError 58 = .ok (.iconst 1, 1) := by decide +kernel
theorem dX7_firstError_59 : decode cX7_firstError 59 = .ok (.goto 4, 3) := by decide +kernel
theorem dX7_firstError_62 : decode cX7_firstError 62 = .ok (.iconst 0, 1) := by decide +kernel
theorem dX7_firstError_63 : decode cX7_firstError 63 = .ok (.istore 4, 2) := by decide +kernel
theorem dX7_firstError_65 : decode cX7_firstError 65 = .ok (.iload_n 1, 1) := by decide +kernel
theorem dX7_firstError_66 : decode cX7_firstError 66 = .ok (.bipush 8, 2) := by decide +kernel
theorem dX7_firstError_68 : decode cX7_firstError 68 = .ok (.if_icmp .ge 12, 3) := by decide +kernel
theorem dX7_firstError_71 : decode cX7_firstError 71 = .ok (.iload_n 3, 1) := by decide +kernel
theorem dX7_firstError_72 : decode cX7_firstError 72 = .ok (.ifCond .eq 8, 3) := by decide +kernel
theorem dX7_firstError_75 : decode cX7_firstError 75 = .ok (.iload 4, 2) := by decide +kernel
theorem dX7_firstError_77 : decode cX7_firstError 77 = .ok (.ifCond .eq 5, 3) := by decide +kernel
theorem dX7_firstError_80 : decode cX7_firstError 80 = .ok (.iload_n 1, 1) := by decide +kernel
theorem dX7_firstError_81 : decode cX7_firstError 81 = .ok (.ireturn, 1) := by decide +kernel
theorem dX7_firstError_82 : decode cX7_firstError 82 = .ok (.iinc 1 1, 3) := by decide +kernel
theorem dX7_firstError_85 : decode cX7_firstError 85 = .ok (.goto (-83), 3) := by decide +kernel
theorem dX7_firstError_88 : decode cX7_firstError 88 = .ok (.aload_n 0, 1) := by decide +kernel
theorem dX7_firstError_89 : decode cX7_firstError 89 = .ok (.getfield 28, 3) := by decide +kernel
theorem dX7_firstError_92 : decode cX7_firstError 92 = .ok (.invokevirtual 150, 3) := by decide +kernel
theorem dX7_firstError_95 : decode cX7_firstError 95 = .ok (.ireturn, 1) := by decide +kernel
theorem dX7_undo_0 : decode cX7_undo 0 = .ok (.aload_n 0, 1) := by decide +kernel
theorem dX7_undo_1 : decode cX7_undo 1 = .ok (.getfield 19, 3) := by decide +kernel
theorem dX7_undo_4 : decode cX7_undo 4 = .ok (.invokevirtual 227, 3) := by decide +kernel
theorem dX7_undo_7 : decode cX7_undo 7 = .ok (.ifCond .ne 13, 3) := by decide +kernel
theorem dX7_undo_10 : decode cX7_undo 10 = .ok (.new 80, 3) := by decide +kernel
theorem dX7_undo_13 : decode cX7_undo 13 = .ok (.dup, 1) := by decide +kernel
theorem dX7_undo_14 : decode cX7_undo 14 = .ok (.ldc 228, 2) := by decide +kernel
theorem dX7_undo_16 : decode cX7_undo 16 = .ok (.invokespecial 84, 3) := by decide +kernel
theorem dX7_undo_19 : decode cX7_undo 19 = .ok (.athrow, 1) := by decide +kernel
theorem dX7_undo_20 : decode cX7_undo 20 = .ok (.aload_n 0, 1) := by decide +kernel
theorem dX7_undo_21 : decode cX7_undo 21 = .ok (.getfield 19, 3) := by decide +kernel
theorem dX7_undo_24 : decode cX7_undo 24 = .ok (.aload_n 0, 1) := by decide +kernel
theorem dX7_undo_25 : decode cX7_undo 25 = .ok (.getfield 10, 3) := by decide +kernel
theorem dX7_undo_28 : decode cX7_undo 28 = .ok (.invokevirtual 230, 3) := by decide +kernel
theorem dX7_undo_31 : decode cX7_undo 31 = .ok (.aload_n 0, 1) := by decide +kernel
theorem dX7_undo_32 : decode cX7_undo 32 = .ok (.invokevirtual 93, 3) := by decide +kernel
theorem dX7_undo_35 : decode cX7_undo 35 = .ok (.aload_n 0, 1) := by decide +kernel
theorem dX7_undo_36 : decode cX7_undo 36 = .ok (.getfield 19, 3) := by decide +kernel
theorem dX7_undo_39 : decode cX7_undo 39 = .ok (.invokevirtual 227, 3) := by decide +kernel
theorem dX7_undo_42 : decode cX7_undo 42 = .ok (.ireturn, 1) := by decide +kernel
theorem dX7_pointOf_0 : decode cX7_pointOf 0 = .ok (.iload_n 1, 1) := by decide +kernel
theorem dX7_pointOf_1 : decode cX7_pointOf 1 = .ok (.ifCond .lt 17, 3) := by decide +kernel
theorem dX7_pointOf_4 : decode cX7_pointOf 4 = .ok (.iload_n 1, 1) := by decide +kernel
theorem dX7_pointOf_5 : decode cX7_pointOf 5 = .ok (.aload_n 0, 1) := by decide +kernel
theorem dX7_pointOf_6 : decode cX7_pointOf 6 = .ok (.getfield 10, 3) := by decide +kernel
theorem dX7_pointOf_9 : decode cX7_pointOf 9 = .ok (.getfield 73, 3) := by decide +kernel
theorem dX7_pointOf_12 : decode cX7_pointOf 12 = .ok (.invokevirtual 76, 3) := by decide +kernel
theorem dX7_pointOf_15 : decode cX7_pointOf 15 = .ok (.if_icmp .lt 13, 3) := by decide +kernel
theorem dX7_pointOf_18 : decode cX7_pointOf 18 = .ok (.new 188, 3) := by decide +kernel
theorem dX7_pointOf_21 : decode cX7_pointOf 21 = .ok (.dup, 1) := by decide +kernel
theorem dX7_pointOf_22 : decode cX7_pointOf 22 = .ok (.ldc 233, 2) := by decide +kernel
theorem dX7_pointOf_24 : decode cX7_pointOf 24 = .ok (.invokespecial 192, 3) := by decide +kernel
theorem dX7_pointOf_27 : decode cX7_pointOf 27 = .ok (.athrow, 1) := by decide +kernel
theorem dX7_pointOf_28 : decode cX7_pointOf 28 = .ok (.iload_n 2, 1) := by decide +kernel
theorem dX7_pointOf_29 : decode cX7_pointOf 29 = .ok (.tableswitch 79 0 3 #[31, 43, 55, 67], 31) := by decide +kernel
theorem dX7_pointOf_60 : decode cX7_pointOf 60 = .ok (.aload_n 0, 1) := by decide +kernel
theorem dX7_pointOf_61 : decode cX7_pointOf 61 = .ok (.getfield 10, 3) := by decide +kernel
theorem dX7_pointOf_64 : decode cX7_pointOf 64 = .ok (.getfield 73, 3) := by decide +kernel
theorem dX7_pointOf_67 : decode cX7_pointOf 67 = .ok (.iload_n 1, 1) := by decide +kernel
theorem dX7_pointOf_68 : decode cX7_pointOf 68 = .ok (.invokevirtual 102, 3) := by decide +kernel
theorem dX7_pointOf_71 : decode cX7_pointOf 71 = .ok (.ireturn, 1) := by decide +kernel
theorem dX7_pointOf_72 : decode cX7_pointOf 72 = .ok (.aload_n 0, 1) := by decide +kernel
theorem dX7_pointOf_73 : decode cX7_pointOf 73 = .ok (.getfield 10, 3) := by decide +kernel
theorem dX7_pointOf_76 : decode cX7_pointOf 76 = .ok (.getfield 73, 3) := by decide +kernel
theorem dX7_pointOf_79 : decode cX7_pointOf 79 = .ok (.iload_n 1, 1) := by decide +kernel
theorem dX7_pointOf_80 : decode cX7_pointOf 80 = .ok (.invokevirtual 106, 3) := by decide +kernel
theorem dX7_pointOf_83 : decode cX7_pointOf 83 = .ok (.ireturn, 1) := by decide +kernel
theorem dX7_pointOf_84 : decode cX7_pointOf 84 = .ok (.aload_n 0, 1) := by decide +kernel
theorem dX7_pointOf_85 : decode cX7_pointOf 85 = .ok (.getfield 10, 3) := by decide +kernel
theorem dX7_pointOf_88 : decode cX7_pointOf 88 = .ok (.getfield 73, 3) := by decide +kernel
theorem dX7_pointOf_91 : decode cX7_pointOf 91 = .ok (.iload_n 1, 1) := by decide +kernel
theorem dX7_pointOf_92 : decode cX7_pointOf 92 = .ok (.invokevirtual 235, 3) := by decide +kernel
theorem dX7_pointOf_95 : decode cX7_pointOf 95 = .ok (.ireturn, 1) := by decide +kernel
theorem dX7_pointOf_96 : decode cX7_pointOf 96 = .ok (.aload_n 0, 1) := by decide +kernel
theorem dX7_pointOf_97 : decode cX7_pointOf 97 = .ok (.getfield 10, 3) := by decide +kernel
theorem dX7_pointOf_100 : decode cX7_pointOf 100 = .ok (.getfield 73, 3) := by decide +kernel
theorem dX7_pointOf_103 : decode cX7_pointOf 103 = .ok (.iload_n 1, 1) := by decide +kernel
theorem dX7_pointOf_104 : decode cX7_pointOf 104 = .ok (.invokevirtual 238, 3) := by decide +kernel
theorem dX7_pointOf_107 : decode cX7_pointOf 107 = .ok (.ireturn, 1) := by decide +kernel
theorem dX7_pointOf_108 : decode cX7_pointOf 108 = .ok (.new 66, 3) := by decide +kernel
theorem dX7_pointOf_111 : decode cX7_pointOf 111 = .ok (.dup, 1) := by decide +kernel
theorem dX7_pointOf_112 : decode cX7_pointOf 112 = .ok (.ldc 241, 2) := by decide +kernel
theorem dX7_pointOf_114 : decode cX7_pointOf 114 = .ok (.invokespecial 70, 3) := by decide +kernel
theorem dX7_pointOf_117 : decode cX7_pointOf 117 = .ok (.athrow, 1) := by decide +kernel
theorem dX7_run_0 : decode cX7_run 0 = .ok (.iload_n 1, 1) := by decide +kernel
theorem dX7_run_1 : decode cX7_run 1 = .ok (.ifCond .lt 12, 3) := by decide +kernel
theorem dX7_run_4 : decode cX7_run 4 = .ok (.iload_n 2, 1) := by decide +kernel
theorem dX7_run_5 : decode cX7_run 5 = .ok (.ifCond .lt 8, 3) := by decide +kernel
theorem dX7_run_8 : decode cX7_run 8 = .ok (.iload_n 2, 1) := by decide +kernel
theorem dX7_run_9 : decode cX7_run 9 = .ok (.iconst 3, 1) := by decide +kernel
theorem dX7_run_10 : decode cX7_run 10 = .ok (.if_icmp .le 13, 3) := by decide +kernel
theorem dX7_run_13 : decode cX7_run 13 = .ok (.new 66, 3) := by decide +kernel
theorem dX7_run_16 : decode cX7_run 16 = .ok (.dup, 1) := by decide +kernel
theorem dX7_run_17 : decode cX7_run 17 = .ok (.ldc 243, 2) := by decide +kernel
theorem dX7_run_19 : decode cX7_run 19 = .ok (.invokespecial 70, 3) := by decide +kernel
theorem dX7_run_22 : decode cX7_run 22 = .ok (.athrow, 1) := by decide +kernel
theorem dX7_run_23 : decode cX7_run 23 = .ok (.iload_n 1, 1) := by decide +kernel
theorem dX7_run_24 : decode cX7_run 24 = .ok (.aload_n 0, 1) := by decide +kernel
theorem dX7_run_25 : decode cX7_run 25 = .ok (.getfield 35, 3) := by decide +kernel
theorem dX7_run_28 : decode cX7_run 28 = .ok (.getfield 245, 3) := by decide +kernel
theorem dX7_run_31 : decode cX7_run 31 = .ok (.invokevirtual 150, 3) := by decide +kernel
theorem dX7_run_34 : decode cX7_run 34 = .ok (.if_icmp .lt 5, 3) := by decide +kernel
theorem dX7_run_37 : decode cX7_run 37 = .ok (.iconst (-1), 1) := by decide +kernel
theorem dX7_run_38 : decode cX7_run 38 = .ok (.ireturn, 1) := by decide +kernel
theorem dX7_run_39 : decode cX7_run 39 = .ok (.iload_n 2, 1) := by decide +kernel
theorem dX7_run_40 : decode cX7_run 40 = .ok (.tableswitch 83 0 2 #[28, 40, 52], 28) := by decide +kernel
theorem dX7_run_68 : decode cX7_run 68 = .ok (.aload_n 0, 1) := by decide +kernel
theorem dX7_run_69 : decode cX7_run 69 = .ok (.getfield 35, 3) := by decide +kernel
theorem dX7_run_72 : decode cX7_run 72 = .ok (.getfield 245, 3) := by decide +kernel
theorem dX7_run_75 : decode cX7_run 75 = .ok (.iload_n 1, 1) := by decide +kernel
theorem dX7_run_76 : decode cX7_run 76 = .ok (.invokevirtual 180, 3) := by decide +kernel
theorem dX7_run_79 : decode cX7_run 79 = .ok (.ireturn, 1) := by decide +kernel
theorem dX7_run_80 : decode cX7_run 80 = .ok (.aload_n 0, 1) := by decide +kernel
theorem dX7_run_81 : decode cX7_run 81 = .ok (.getfield 35, 3) := by decide +kernel
theorem dX7_run_84 : decode cX7_run 84 = .ok (.getfield 248, 3) := by decide +kernel
theorem dX7_run_87 : decode cX7_run 87 = .ok (.iload_n 1, 1) := by decide +kernel
theorem dX7_run_88 : decode cX7_run 88 = .ok (.invokevirtual 180, 3) := by decide +kernel
theorem dX7_run_91 : decode cX7_run 91 = .ok (.ireturn, 1) := by decide +kernel
theorem dX7_run_92 : decode cX7_run 92 = .ok (.aload_n 0, 1) := by decide +kernel
theorem dX7_run_93 : decode cX7_run 93 = .ok (.getfield 35, 3) := by decide +kernel
theorem dX7_run_96 : decode cX7_run 96 = .ok (.getfield 248, 3) := by decide +kernel
theorem dX7_run_99 : decode cX7_run 99 = .ok (.iload_n 1, 1) := by decide +kernel
theorem dX7_run_100 : decode cX7_run 100 = .ok (.invokevirtual 180, 3) := by decide +kernel
theorem dX7_run_103 : decode cX7_run 103 = .ok (.aload_n 0, 1) := by decide +kernel
theorem dX7_run_104 : decode cX7_run 104 = .ok (.getfield 10, 3) := by decide +kernel
theorem dX7_run_107 : decode cX7_run 107 = .ok (.getfield 209, 3) := by decide +kernel
theorem dX7_run_110 : decode cX7_run 110 = .ok (.iconst 0, 1) := by decide +kernel
theorem dX7_run_111 : decode cX7_run 111 = .ok (.invokevirtual 180, 3) := by decide +kernel
theorem dX7_run_114 : decode cX7_run 114 = .ok (.if_icmp .ge 7, 3) := by decide +kernel
theorem dX7_run_117 : decode cX7_run 117 = .ok (.iconst 1, 1) := by decide +kernel
theorem dX7_run_118 : decode cX7_run 118 = .ok (.goto 4, 3) := by decide +kernel
theorem dX7_run_121 : decode cX7_run 121 = .ok (.iconst 0, 1) := by decide +kernel
theorem dX7_run_122 : decode cX7_run 122 = .ok (.ireturn, 1) := by decide +kernel
theorem dX7_run_123 : decode cX7_run 123 = .ok (.aload_n 0, 1) := by decide +kernel
theorem dX7_run_124 : decode cX7_run 124 = .ok (.getfield 35, 3) := by decide +kernel
theorem dX7_run_127 : decode cX7_run 127 = .ok (.getfield 245, 3) := by decide +kernel
theorem dX7_run_130 : decode cX7_run 130 = .ok (.aload_n 0, 1) := by decide +kernel
theorem dX7_run_131 : decode cX7_run 131 = .ok (.getfield 35, 3) := by decide +kernel
theorem dX7_run_134 : decode cX7_run 134 = .ok (.getfield 248, 3) := by decide +kernel
theorem dX7_run_137 : decode cX7_run 137 = .ok (.iload_n 1, 1) := by decide +kernel
theorem dX7_run_138 : decode cX7_run 138 = .ok (.aload_n 0, 1) := by decide +kernel
theorem dX7_run_139 : decode cX7_run 139 = .ok (.getfield 10, 3) := by decide +kernel
theorem dX7_run_142 : decode cX7_run 142 = .ok (.getfield 209, 3) := by decide +kernel
theorem dX7_run_145 : decode cX7_run 145 = .ok (.iconst 1, 1) := by decide +kernel
theorem dX7_run_146 : decode cX7_run 146 = .ok (.invokevirtual 180, 3) := by decide +kernel
theorem dX7_run_149 : decode cX7_run 149 = .ok (.invokestatic 251, 3) := by decide +kernel
theorem dX7_run_152 : decode cX7_run 152 = .ok (.ifCond .eq 7, 3) := by decide +kernel
theorem dX7_run_155 : decode cX7_run 155 = .ok (.iconst 1, 1) := by decide +kernel
theorem dX7_run_156 : decode cX7_run 156 = .ok (.goto 4, 3) := by decide +kernel
theorem dX7_run_159 : decode cX7_run 159 = .ok (.iconst 0, 1) := by decide +kernel
theorem dX7_run_160 : decode cX7_run 160 = .ok (.ireturn, 1) := by decide +kernel
theorem dX7_stroke_0 : decode cX7_stroke 0 = .ok (.iload_n 1, 1) := by decide +kernel
theorem dX7_stroke_1 : decode cX7_stroke 1 = .ok (.ifCond .ge 13, 3) := by decide +kernel
theorem dX7_stroke_4 : decode cX7_stroke 4 = .ok (.new 66, 3) := by decide +kernel
theorem dX7_stroke_7 : decode cX7_stroke 7 = .ok (.dup, 1) := by decide +kernel
theorem dX7_stroke_8 : decode cX7_stroke 8 = .ok (.ldc 255, 2) := by decide +kernel
theorem dX7_stroke_10 : decode cX7_stroke 10 = .ok (.invokespecial 70, 3) := by decide +kernel
theorem dX7_stroke_13 : decode cX7_stroke 13 = .ok (.athrow, 1) := by decide +kernel
theorem dX7_stroke_14 : decode cX7_stroke 14 = .ok (.aload_n 0, 1) := by decide +kernel
theorem dX7_stroke_15 : decode cX7_stroke 15 = .ok (.getfield 35, 3) := by decide +kernel
theorem dX7_stroke_18 : decode cX7_stroke 18 = .ok (.getfield 147, 3) := by decide +kernel
theorem dX7_stroke_21 : decode cX7_stroke 21 = .ok (.iload_n 1, 1) := by decide +kernel
theorem dX7_stroke_22 : decode cX7_stroke 22 = .ok (.invokevirtual 180, 3) := by decide +kernel
theorem dX7_stroke_25 : decode cX7_stroke 25 = .ok (.ireturn, 1) := by decide +kernel
theorem dX7_strokeOf_0 : decode cX7_strokeOf 0 = .ok (.aload_n 0, 1) := by decide +kernel
theorem dX7_strokeOf_1 : decode cX7_strokeOf 1 = .ok (.iload_n 1, 1) := by decide +kernel
theorem dX7_strokeOf_2 : decode cX7_strokeOf 2 = .ok (.invokevirtual 185, 3) := by decide +kernel
theorem dX7_strokeOf_5 : decode cX7_strokeOf 5 = .ok (.ifCond .ne 13, 3) := by decide +kernel
theorem dX7_strokeOf_8 : decode cX7_strokeOf 8 = .ok (.new 188, 3) := by decide +kernel
theorem dX7_strokeOf_11 : decode cX7_strokeOf 11 = .ok (.dup, 1) := by decide +kernel
theorem dX7_strokeOf_12 : decode cX7_strokeOf 12 = .ok (.ldc 190, 2) := by decide +kernel
theorem dX7_strokeOf_14 : decode cX7_strokeOf 14 = .ok (.invokespecial 192, 3) := by decide +kernel
theorem dX7_strokeOf_17 : decode cX7_strokeOf 17 = .ok (.athrow, 1) := by decide +kernel
theorem dX7_strokeOf_18 : decode cX7_strokeOf 18 = .ok (.iload_n 2, 1) := by decide +kernel
theorem dX7_strokeOf_19 : decode cX7_strokeOf 19 = .ok (.ifCond .ge 13, 3) := by decide +kernel
theorem dX7_strokeOf_22 : decode cX7_strokeOf 22 = .ok (.new 66, 3) := by decide +kernel
theorem dX7_strokeOf_25 : decode cX7_strokeOf 25 = .ok (.dup, 1) := by decide +kernel
theorem dX7_strokeOf_26 : decode cX7_strokeOf 26 = .ok (.ldc 255, 2) := by decide +kernel
theorem dX7_strokeOf_28 : decode cX7_strokeOf 28 = .ok (.invokespecial 70, 3) := by decide +kernel
theorem dX7_strokeOf_31 : decode cX7_strokeOf 31 = .ok (.athrow, 1) := by decide +kernel
theorem dX7_strokeOf_32 : decode cX7_strokeOf 32 = .ok (.aload_n 0, 1) := by decide +kernel
theorem dX7_strokeOf_33 : decode cX7_strokeOf 33 = .ok (.getfield 10, 3) := by decide +kernel
theorem dX7_strokeOf_36 : decode cX7_strokeOf 36 = .ok (.getfield 151, 3) := by decide +kernel
theorem dX7_strokeOf_39 : decode cX7_strokeOf 39 = .ok (.iload_n 1, 1) := by decide +kernel
theorem dX7_strokeOf_40 : decode cX7_strokeOf 40 = .ok (.invokevirtual 257, 3) := by decide +kernel
theorem dX7_strokeOf_43 : decode cX7_strokeOf 43 = .ok (.iload_n 2, 1) := by decide +kernel
theorem dX7_strokeOf_44 : decode cX7_strokeOf 44 = .ok (.invokevirtual 180, 3) := by decide +kernel
theorem dX7_strokeOf_47 : decode cX7_strokeOf 47 = .ok (.ireturn, 1) := by decide +kernel
theorem dX7_distance_0 : decode cX7_distance 0 = .ok (.aload_n 0, 1) := by decide +kernel
theorem dX7_distance_1 : decode cX7_distance 1 = .ok (.iload_n 1, 1) := by decide +kernel
theorem dX7_distance_2 : decode cX7_distance 2 = .ok (.invokevirtual 185, 3) := by decide +kernel
theorem dX7_distance_5 : decode cX7_distance 5 = .ok (.ifCond .eq 16, 3) := by decide +kernel
theorem dX7_distance_8 : decode cX7_distance 8 = .ok (.iload_n 2, 1) := by decide +kernel
theorem dX7_distance_9 : decode cX7_distance 9 = .ok (.iconst (-1), 1) := by decide +kernel
theorem dX7_distance_10 : decode cX7_distance 10 = .ok (.if_icmp .eq 21, 3) := by decide +kernel
theorem dX7_distance_13 : decode cX7_distance 13 = .ok (.aload_n 0, 1) := by decide +kernel
theorem dX7_distance_14 : decode cX7_distance 14 = .ok (.iload_n 2, 1) := by decide +kernel
theorem dX7_distance_15 : decode cX7_distance 15 = .ok (.invokevirtual 185, 3) := by decide +kernel
theorem dX7_distance_18 : decode cX7_distance 18 = .ok (.ifCond .ne 13, 3) := by decide +kernel
theorem dX7_distance_21 : decode cX7_distance 21 = .ok (.new 188, 3) := by decide +kernel
theorem dX7_distance_24 : decode cX7_distance 24 = .ok (.dup, 1) := by decide +kernel
theorem dX7_distance_25 : decode cX7_distance 25 = .ok (.ldc 190, 2) := by decide +kernel
theorem dX7_distance_27 : decode cX7_distance 27 = .ok (.invokespecial 192, 3) := by decide +kernel
theorem dX7_distance_30 : decode cX7_distance 30 = .ok (.athrow, 1) := by decide +kernel
theorem dX7_distance_31 : decode cX7_distance 31 = .ok (.iload_n 2, 1) := by decide +kernel
theorem dX7_distance_32 : decode cX7_distance 32 = .ok (.iconst (-1), 1) := by decide +kernel
theorem dX7_distance_33 : decode cX7_distance 33 = .ok (.if_icmp .ne 15, 3) := by decide +kernel
theorem dX7_distance_36 : decode cX7_distance 36 = .ok (.aload_n 0, 1) := by decide +kernel
theorem dX7_distance_37 : decode cX7_distance 37 = .ok (.getfield 35, 3) := by decide +kernel
theorem dX7_distance_40 : decode cX7_distance 40 = .ok (.getfield 260, 3) := by decide +kernel
theorem dX7_distance_43 : decode cX7_distance 43 = .ok (.iload_n 1, 1) := by decide +kernel
theorem dX7_distance_44 : decode cX7_distance 44 = .ok (.invokevirtual 180, 3) := by decide +kernel
theorem dX7_distance_47 : decode cX7_distance 47 = .ok (.ireturn, 1) := by decide +kernel
theorem dX7_distance_48 : decode cX7_distance 48 = .ok (.aload_n 0, 1) := by decide +kernel
theorem dX7_distance_49 : decode cX7_distance 49 = .ok (.getfield 42, 3) := by decide +kernel
theorem dX7_distance_52 : decode cX7_distance 52 = .ok (.aload_n 0, 1) := by decide +kernel
theorem dX7_distance_53 : decode cX7_distance 53 = .ok (.getfield 10, 3) := by decide +kernel
theorem dX7_distance_56 : decode cX7_distance 56 = .ok (.getfield 151, 3) := by decide +kernel
theorem dX7_distance_59 : decode cX7_distance 59 = .ok (.iload_n 2, 1) := by decide +kernel
theorem dX7_distance_60 : decode cX7_distance 60 = .ok (.invokevirtual 257, 3) := by decide +kernel
theorem dX7_distance_63 : decode cX7_distance 63 = .ok (.aload_n 0, 1) := by decide +kernel
theorem dX7_distance_64 : decode cX7_distance 64 = .ok (.getfield 10, 3) := by decide +kernel
theorem dX7_distance_67 : decode cX7_distance 67 = .ok (.getfield 151, 3) := by decide +kernel
theorem dX7_distance_70 : decode cX7_distance 70 = .ok (.iload_n 1, 1) := by decide +kernel
theorem dX7_distance_71 : decode cX7_distance 71 = .ok (.invokevirtual 257, 3) := by decide +kernel
theorem dX7_distance_74 : decode cX7_distance 74 = .ok (.aload_n 0, 1) := by decide +kernel
theorem dX7_distance_75 : decode cX7_distance 75 = .ok (.getfield 10, 3) := by decide +kernel
theorem dX7_distance_78 : decode cX7_distance 78 = .ok (.getfield 209, 3) := by decide +kernel
theorem dX7_distance_81 : decode cX7_distance 81 = .ok (.invokevirtual 263, 3) := by decide +kernel
theorem dX7_distance_84 : decode cX7_distance 84 = .ok (.aload_n 0, 1) := by decide +kernel
theorem dX7_distance_85 : decode cX7_distance 85 = .ok (.getfield 42, 3) := by decide +kernel
theorem dX7_distance_88 : decode cX7_distance 88 = .ok (.invokevirtual 267, 3) := by decide +kernel
theorem dX7_distance_91 : decode cX7_distance 91 = .ok (.ireturn, 1) := by decide +kernel
theorem dX7_reading_0 : decode cX7_reading 0 = .ok (.iload_n 1, 1) := by decide +kernel
theorem dX7_reading_1 : decode cX7_reading 1 = .ok (.tableswitch 94 0 4 #[35, 50, 59, 78, 86], 35) := by decide +kernel
theorem dX7_reading_36 : decode cX7_reading 36 = .ok (.aload_n 0, 1) := by decide +kernel
theorem dX7_reading_37 : decode cX7_reading 37 = .ok (.getfield 35, 3) := by decide +kernel
theorem dX7_reading_40 : decode cX7_reading 40 = .ok (.aload_n 0, 1) := by decide +kernel
theorem dX7_reading_41 : decode cX7_reading 41 = .ok (.getfield 10, 3) := by decide +kernel
theorem dX7_reading_44 : decode cX7_reading 44 = .ok (.getfield 209, 3) := by decide +kernel
theorem dX7_reading_47 : decode cX7_reading 47 = .ok (.invokevirtual 270, 3) := by decide +kernel
theorem dX7_reading_50 : decode cX7_reading 50 = .ok (.ireturn, 1) := by decide +kernel
theorem dX7_reading_51 : decode cX7_reading 51 = .ok (.aload_n 0, 1) := by decide +kernel
theorem dX7_reading_52 : decode cX7_reading 52 = .ok (.getfield 35, 3) := by decide +kernel
theorem dX7_reading_55 : decode cX7_reading 55 = .ok (.iconst (-1), 1) := by decide +kernel
theorem dX7_reading_56 : decode cX7_reading 56 = .ok (.invokevirtual 273, 3) := by decide +kernel
theorem dX7_reading_59 : decode cX7_reading 59 = .ok (.ireturn, 1) := by decide +kernel
theorem dX7_reading_60 : decode cX7_reading 60 = .ok (.aload_n 0, 1) := by decide +kernel
theorem dX7_reading_61 : decode cX7_reading 61 = .ok (.getfield 35, 3) := by decide +kernel
theorem dX7_reading_64 : decode cX7_reading 64 = .ok (.getfield 260, 3) := by decide +kernel
theorem dX7_reading_67 : decode cX7_reading 67 = .ok (.aload_n 0, 1) := by decide +kernel
theorem dX7_reading_68 : decode cX7_reading 68 = .ok (.getfield 35, 3) := by decide +kernel
theorem dX7_reading_71 : decode cX7_reading 71 = .ok (.iconst (-1), 1) := by decide +kernel
theorem dX7_reading_72 : decode cX7_reading 72 = .ok (.invokevirtual 273, 3) := by decide +kernel
theorem dX7_reading_75 : decode cX7_reading 75 = .ok (.invokevirtual 180, 3) := by decide +kernel
theorem dX7_reading_78 : decode cX7_reading 78 = .ok (.ireturn, 1) := by decide +kernel
theorem dX7_reading_79 : decode cX7_reading 79 = .ok (.aload_n 0, 1) := by decide +kernel
theorem dX7_reading_80 : decode cX7_reading 80 = .ok (.getfield 35, 3) := by decide +kernel
theorem dX7_reading_83 : decode cX7_reading 83 = .ok (.invokevirtual 276, 3) := by decide +kernel
theorem dX7_reading_86 : decode cX7_reading 86 = .ok (.ireturn, 1) := by decide +kernel
theorem dX7_reading_87 : decode cX7_reading 87 = .ok (.aload_n 0, 1) := by decide +kernel
theorem dX7_reading_88 : decode cX7_reading 88 = .ok (.getfield 35, 3) := by decide +kernel
theorem dX7_reading_91 : decode cX7_reading 91 = .ok (.invokevirtual 279, 3) := by decide +kernel
theorem dX7_reading_94 : decode cX7_reading 94 = .ok (.ireturn, 1) := by decide +kernel
theorem dX7_reading_95 : decode cX7_reading 95 = .ok (.new 66, 3) := by decide +kernel
theorem dX7_reading_98 : decode cX7_reading 98 = .ok (.dup, 1) := by decide +kernel
theorem dX7_reading_99 : decode cX7_reading 99 = .ok (.ldc_w 282, 3) := by decide +kernel
theorem dX7_reading_102 : decode cX7_reading 102 = .ok (.invokespecial 70, 3) := by decide +kernel
theorem dX7_reading_105 : decode cX7_reading 105 = .ok (.athrow, 1) := by decide +kernel
theorem dX7_count_0 : decode cX7_count 0 = .ok (.iload_n 1, 1) := by decide +kernel
theorem dX7_count_1 : decode cX7_count 1 = .ok (.tableswitch 145 0 8 #[51, 62, 73, 84, 95, 103, 114, 125, 137], 51) := by decide +kernel
theorem dX7_count_52 : decode cX7_count 52 = .ok (.aload_n 0, 1) := by decide +kernel
theorem dX7_count_53 : decode cX7_count 53 = .ok (.getfield 10, 3) := by decide +kernel
theorem dX7_count_56 : decode cX7_count 56 = .ok (.getfield 73, 3) := by decide +kernel
theorem dX7_count_59 : decode cX7_count 59 = .ok (.invokevirtual 76, 3) := by decide +kernel
theorem dX7_count_62 : decode cX7_count 62 = .ok (.ireturn, 1) := by decide +kernel
theorem dX7_count_63 : decode cX7_count 63 = .ok (.aload_n 0, 1) := by decide +kernel
theorem dX7_count_64 : decode cX7_count 64 = .ok (.getfield 35, 3) := by decide +kernel
theorem dX7_count_67 : decode cX7_count 67 = .ok (.getfield 245, 3) := by decide +kernel
theorem dX7_count_70 : decode cX7_count 70 = .ok (.invokevirtual 150, 3) := by decide +kernel
theorem dX7_count_73 : decode cX7_count 73 = .ok (.ireturn, 1) := by decide +kernel
theorem dX7_count_74 : decode cX7_count 74 = .ok (.aload_n 0, 1) := by decide +kernel
theorem dX7_count_75 : decode cX7_count 75 = .ok (.getfield 35, 3) := by decide +kernel
theorem dX7_count_78 : decode cX7_count 78 = .ok (.getfield 147, 3) := by decide +kernel
theorem dX7_count_81 : decode cX7_count 81 = .ok (.invokevirtual 150, 3) := by decide +kernel
theorem dX7_count_84 : decode cX7_count 84 = .ok (.ireturn, 1) := by decide +kernel
theorem dX7_count_85 : decode cX7_count 85 = .ok (.aload_n 0, 1) := by decide +kernel
theorem dX7_count_86 : decode cX7_count 86 = .ok (.getfield 35, 3) := by decide +kernel
theorem dX7_count_89 : decode cX7_count 89 = .ok (.getfield 248, 3) := by decide +kernel
theorem dX7_count_92 : decode cX7_count 92 = .ok (.invokevirtual 284, 3) := by decide +kernel
theorem dX7_count_95 : decode cX7_count 95 = .ok (.ireturn, 1) := by decide +kernel
theorem dX7_count_96 : decode cX7_count 96 = .ok (.aload_n 0, 1) := by decide +kernel
theorem dX7_count_97 : decode cX7_count 97 = .ok (.getfield 35, 3) := by decide +kernel
theorem dX7_count_100 : decode cX7_count 100 = .ok (.getfield 287, 3) := by decide +kernel
theorem dX7_count_103 : decode cX7_count 103 = .ok (.ireturn, 1) := by decide +kernel
theorem dX7_count_104 : decode cX7_count 104 = .ok (.aload_n 0, 1) := by decide +kernel
theorem dX7_count_105 : decode cX7_count 105 = .ok (.getfield 10, 3) := by decide +kernel
theorem dX7_count_108 : decode cX7_count 108 = .ok (.getfield 151, 3) := by decide +kernel
theorem dX7_count_111 : decode cX7_count 111 = .ok (.invokevirtual 155, 3) := by decide +kernel
theorem dX7_count_114 : decode cX7_count 114 = .ok (.ireturn, 1) := by decide +kernel
theorem dX7_count_115 : decode cX7_count 115 = .ok (.aload_n 0, 1) := by decide +kernel
theorem dX7_count_116 : decode cX7_count 116 = .ok (.getfield 10, 3) := by decide +kernel
theorem dX7_count_119 : decode cX7_count 119 = .ok (.getfield 151, 3) := by decide +kernel
theorem dX7_count_122 : decode cX7_count 122 = .ok (.invokevirtual 291, 3) := by decide +kernel
theorem dX7_count_125 : decode cX7_count 125 = .ok (.ireturn, 1) := by decide +kernel
theorem dX7_count_126 : decode cX7_count 126 = .ok (.aload_n 0, 1) := by decide +kernel
theorem dX7_count_127 : decode cX7_count 127 = .ok (.aload_n 0, 1) := by decide +kernel
theorem dX7_count_128 : decode cX7_count 128 = .ok (.getfield 10, 3) := by decide +kernel
theorem dX7_count_131 : decode cX7_count 131 = .ok (.getfield 209, 3) := by decide +kernel
theorem dX7_count_134 : decode cX7_count 134 = .ok (.invokevirtual 218, 3) := by decide +kernel
theorem dX7_count_137 : decode cX7_count 137 = .ok (.ireturn, 1) := by decide +kernel
theorem dX7_count_138 : decode cX7_count 138 = .ok (.aload_n 0, 1) := by decide +kernel
theorem dX7_count_139 : decode cX7_count 139 = .ok (.getfield 19, 3) := by decide +kernel
theorem dX7_count_142 : decode cX7_count 142 = .ok (.invokevirtual 227, 3) := by decide +kernel
theorem dX7_count_145 : decode cX7_count 145 = .ok (.ireturn, 1) := by decide +kernel
theorem dX7_count_146 : decode cX7_count 146 = .ok (.new 66, 3) := by decide +kernel
theorem dX7_count_149 : decode cX7_count 149 = .ok (.dup, 1) := by decide +kernel
theorem dX7_count_150 : decode cX7_count 150 = .ok (.ldc_w 294, 3) := by decide +kernel
theorem dX7_count_153 : decode cX7_count 153 = .ok (.invokespecial 70, 3) := by decide +kernel
theorem dX7_count_156 : decode cX7_count 156 = .ok (.athrow, 1) := by decide +kernel
theorem dX7_setting_0 : decode cX7_setting 0 = .ok (.iload_n 1, 1) := by decide +kernel
theorem dX7_setting_1 : decode cX7_setting 1 = .ok (.invokestatic 196, 3) := by decide +kernel
theorem dX7_setting_4 : decode cX7_setting 4 = .ok (.ifCond .ne 13, 3) := by decide +kernel
theorem dX7_setting_7 : decode cX7_setting 7 = .ok (.new 188, 3) := by decide +kernel
theorem dX7_setting_10 : decode cX7_setting 10 = .ok (.dup, 1) := by decide +kernel
theorem dX7_setting_11 : decode cX7_setting 11 = .ok (.ldc 199, 2) := by decide +kernel
theorem dX7_setting_13 : decode cX7_setting 13 = .ok (.invokespecial 192, 3) := by decide +kernel
theorem dX7_setting_16 : decode cX7_setting 16 = .ok (.athrow, 1) := by decide +kernel
theorem dX7_setting_17 : decode cX7_setting 17 = .ok (.aload_n 0, 1) := by decide +kernel
theorem dX7_setting_18 : decode cX7_setting 18 = .ok (.getfield 10, 3) := by decide +kernel
theorem dX7_setting_21 : decode cX7_setting 21 = .ok (.getfield 209, 3) := by decide +kernel
theorem dX7_setting_24 : decode cX7_setting 24 = .ok (.iload_n 1, 1) := by decide +kernel
theorem dX7_setting_25 : decode cX7_setting 25 = .ok (.invokevirtual 180, 3) := by decide +kernel
theorem dX7_setting_28 : decode cX7_setting 28 = .ok (.ireturn, 1) := by decide +kernel
theorem dX7_ifPoint_0 : decode cX7_ifPoint 0 = .ok (.iload_n 1, 1) := by decide +kernel
theorem dX7_ifPoint_1 : decode cX7_ifPoint 1 = .ok (.iload_n 2, 1) := by decide +kernel
theorem dX7_ifPoint_2 : decode cX7_ifPoint 2 = .ok (.invokestatic 62, 3) := by decide +kernel
theorem dX7_ifPoint_5 : decode cX7_ifPoint 5 = .ok (.ifCond .ne 13, 3) := by decide +kernel
theorem dX7_ifPoint_8 : decode cX7_ifPoint 8 = .ok (.new 66, 3) := by decide +kernel
theorem dX7_ifPoint_11 : decode cX7_ifPoint 11 = .ok (.dup, 1) := by decide +kernel
theorem dX7_ifPoint_12 : decode cX7_ifPoint 12 = .ok (.ldc 68, 2) := by decide +kernel
theorem dX7_ifPoint_14 : decode cX7_ifPoint 14 = .ok (.invokespecial 70, 3) := by decide +kernel
theorem dX7_ifPoint_17 : decode cX7_ifPoint 17 = .ok (.athrow, 1) := by decide +kernel
theorem dX7_ifPoint_18 : decode cX7_ifPoint 18 = .ok (.aload_n 0, 1) := by decide +kernel
theorem dX7_ifPoint_19 : decode cX7_ifPoint 19 = .ok (.getfield 49, 3) := by decide +kernel
theorem dX7_ifPoint_22 : decode cX7_ifPoint 22 = .ok (.aload_n 0, 1) := by decide +kernel
theorem dX7_ifPoint_23 : decode cX7_ifPoint 23 = .ok (.getfield 10, 3) := by decide +kernel
theorem dX7_ifPoint_26 : decode cX7_ifPoint 26 = .ok (.getfield 73, 3) := by decide +kernel
theorem dX7_ifPoint_29 : decode cX7_ifPoint 29 = .ok (.invokevirtual 143, 3) := by decide +kernel
theorem dX7_ifPoint_32 : decode cX7_ifPoint 32 = .ok (.aload_n 0, 1) := by decide +kernel
theorem dX7_ifPoint_33 : decode cX7_ifPoint 33 = .ok (.getfield 49, 3) := by decide +kernel
theorem dX7_ifPoint_36 : decode cX7_ifPoint 36 = .ok (.iload_n 1, 1) := by decide +kernel
theorem dX7_ifPoint_37 : decode cX7_ifPoint 37 = .ok (.iload_n 2, 1) := by decide +kernel
theorem dX7_ifPoint_38 : decode cX7_ifPoint 38 = .ok (.invokevirtual 89, 3) := by decide +kernel
theorem dX7_ifPoint_41 : decode cX7_ifPoint 41 = .ok (.aload_n 0, 1) := by decide +kernel
theorem dX7_ifPoint_42 : decode cX7_ifPoint 42 = .ok (.getfield 53, 3) := by decide +kernel
theorem dX7_ifPoint_45 : decode cX7_ifPoint 45 = .ok (.aload_n 0, 1) := by decide +kernel
theorem dX7_ifPoint_46 : decode cX7_ifPoint 46 = .ok (.getfield 49, 3) := by decide +kernel
theorem dX7_ifPoint_49 : decode cX7_ifPoint 49 = .ok (.aload_n 0, 1) := by decide +kernel
theorem dX7_ifPoint_50 : decode cX7_ifPoint 50 = .ok (.getfield 10, 3) := by decide +kernel
theorem dX7_ifPoint_53 : decode cX7_ifPoint 53 = .ok (.invokevirtual 296, 3) := by decide +kernel
theorem dX7_ifPoint_56 : decode cX7_ifPoint 56 = .ok (.aload_n 0, 1) := by decide +kernel
theorem dX7_ifPoint_57 : decode cX7_ifPoint 57 = .ok (.getfield 53, 3) := by decide +kernel
theorem dX7_ifPoint_60 : decode cX7_ifPoint 60 = .ok (.aload_n 0, 1) := by decide +kernel
theorem dX7_ifPoint_61 : decode cX7_ifPoint 61 = .ok (.getfield 10, 3) := by decide +kernel
theorem dX7_ifPoint_64 : decode cX7_ifPoint 64 = .ok (.getfield 209, 3) := by decide +kernel
theorem dX7_ifPoint_67 : decode cX7_ifPoint 67 = .ok (.invokevirtual 270, 3) := by decide +kernel
theorem dX7_ifPoint_70 : decode cX7_ifPoint 70 = .ok (.ireturn, 1) := by decide +kernel
theorem dX7_against_0 : decode cX7_against 0 = .ok (.aload_n 0, 1) := by decide +kernel
theorem dX7_against_1 : decode cX7_against 1 = .ok (.getfield 35, 3) := by decide +kernel
theorem dX7_against_4 : decode cX7_against 4 = .ok (.iconst (-1), 1) := by decide +kernel
theorem dX7_against_5 : decode cX7_against 5 = .ok (.invokevirtual 273, 3) := by decide +kernel
theorem dX7_against_8 : decode cX7_against 8 = .ok (.istore_n 1, 1) := by decide +kernel
theorem dX7_against_9 : decode cX7_against 9 = .ok (.iload_n 1, 1) := by decide +kernel
theorem dX7_against_10 : decode cX7_against 10 = .ok (.iconst (-1), 1) := by decide +kernel
theorem dX7_against_11 : decode cX7_against 11 = .ok (.if_icmp .eq 30, 3) := by decide +kernel
theorem dX7_against_14 : decode cX7_against 14 = .ok (.aload_n 0, 1) := by decide +kernel
theorem dX7_against_15 : decode cX7_against 15 = .ok (.getfield 35, 3) := by decide +kernel
theorem dX7_against_18 : decode cX7_against 18 = .ok (.getfield 260, 3) := by decide +kernel
theorem dX7_against_21 : decode cX7_against 21 = .ok (.iload_n 1, 1) := by decide +kernel
theorem dX7_against_22 : decode cX7_against 22 = .ok (.invokevirtual 180, 3) := by decide +kernel
theorem dX7_against_25 : decode cX7_against 25 = .ok (.iconst 2, 1) := by decide +kernel
theorem dX7_against_26 : decode cX7_against 26 = .ok (.aload_n 0, 1) := by decide +kernel
theorem dX7_against_27 : decode cX7_against 27 = .ok (.getfield 10, 3) := by decide +kernel
theorem dX7_against_30 : decode cX7_against 30 = .ok (.getfield 209, 3) := by decide +kernel
theorem dX7_against_33 : decode cX7_against 33 = .ok (.iconst 4, 1) := by decide +kernel
theorem dX7_against_34 : decode cX7_against 34 = .ok (.invokevirtual 180, 3) := by decide +kernel
theorem dX7_against_37 : decode cX7_against 37 = .ok (.imul, 1) := by decide +kernel
theorem dX7_against_38 : decode cX7_against 38 = .ok (.if_icmp .le 5, 3) := by decide +kernel
theorem dX7_against_41 : decode cX7_against 41 = .ok (.iconst (-1), 1) := by decide +kernel
theorem dX7_against_42 : decode cX7_against 42 = .ok (.ireturn, 1) := by decide +kernel
theorem dX7_against_43 : decode cX7_against 43 = .ok (.iload_n 1, 1) := by decide +kernel
theorem dX7_against_44 : decode cX7_against 44 = .ok (.ireturn, 1) := by decide +kernel
theorem dX7_mostForgiven_0 : decode cX7_mostForgiven 0 = .ok (.aload_n 0, 1) := by decide +kernel
theorem dX7_mostForgiven_1 : decode cX7_mostForgiven 1 = .ok (.aload_n 0, 1) := by decide +kernel
theorem dX7_mostForgiven_2 : decode cX7_mostForgiven 2 = .ok (.getfield 10, 3) := by decide +kernel
theorem dX7_mostForgiven_5 : decode cX7_mostForgiven 5 = .ok (.getfield 209, 3) := by decide +kernel
theorem dX7_mostForgiven_8 : decode cX7_mostForgiven 8 = .ok (.invokevirtual 218, 3) := by decide +kernel
theorem dX7_mostForgiven_11 : decode cX7_mostForgiven 11 = .ok (.istore_n 1, 1) := by decide +kernel
theorem dX7_mostForgiven_12 : decode cX7_mostForgiven 12 = .ok (.getstatic 204, 3) := by decide +kernel
theorem dX7_mostForgiven_15 : decode cX7_mostForgiven 15 = .ok (.iconst 4, 1) := by decide +kernel
theorem dX7_mostForgiven_16 : decode cX7_mostForgiven 16 = .ok (.invokestatic 113, 3) := by decide +kernel
theorem dX7_mostForgiven_19 : decode cX7_mostForgiven 19 = .ok (.istore_n 2, 1) := by decide +kernel
theorem dX7_mostForgiven_20 : decode cX7_mostForgiven 20 = .ok (.iload_n 2, 1) := by decide +kernel
theorem dX7_mostForgiven_21 : decode cX7_mostForgiven 21 = .ok (.ifCond .lt 23, 3) := by decide +kernel
theorem dX7_mostForgiven_24 : decode cX7_mostForgiven 24 = .ok (.iload_n 1, 1) := by decide +kernel
theorem dX7_mostForgiven_25 : decode cX7_mostForgiven 25 = .ok (.iconst (-1), 1) := by decide +kernel
theorem dX7_mostForgiven_26 : decode cX7_mostForgiven 26 = .ok (.if_icmp .eq 10, 3) := by decide +kernel
theorem dX7_mostForgiven_29 : decode cX7_mostForgiven 29 = .ok (.iload_n 1, 1) := by decide +kernel
theorem dX7_mostForgiven_30 : decode cX7_mostForgiven 30 = .ok (.iconst 2, 1) := by decide +kernel
theorem dX7_mostForgiven_31 : decode cX7_mostForgiven 31 = .ok (.iload_n 2, 1) := by decide +kernel
theorem dX7_mostForgiven_32 : decode cX7_mostForgiven 32 = .ok (.imul, 1) := by decide +kernel
theorem dX7_mostForgiven_33 : decode cX7_mostForgiven 33 = .ok (.if_icmp .le 5, 3) := by decide +kernel
theorem dX7_mostForgiven_36 : decode cX7_mostForgiven 36 = .ok (.iload_n 2, 1) := by decide +kernel
theorem dX7_mostForgiven_37 : decode cX7_mostForgiven 37 = .ok (.ireturn, 1) := by decide +kernel
theorem dX7_mostForgiven_38 : decode cX7_mostForgiven 38 = .ok (.iinc 2 (-1), 3) := by decide +kernel
theorem dX7_mostForgiven_41 : decode cX7_mostForgiven 41 = .ok (.goto (-21), 3) := by decide +kernel
theorem dX7_mostForgiven_44 : decode cX7_mostForgiven 44 = .ok (.iconst (-1), 1) := by decide +kernel
theorem dX7_mostForgiven_45 : decode cX7_mostForgiven 45 = .ok (.ireturn, 1) := by decide +kernel
theorem dX7_straightness_0 : decode cX7_straightness 0 = .ok (.aload_n 0, 1) := by decide +kernel
theorem dX7_straightness_1 : decode cX7_straightness 1 = .ok (.getfield 35, 3) := by decide +kernel
theorem dX7_straightness_4 : decode cX7_straightness 4 = .ok (.getfield 248, 3) := by decide +kernel
theorem dX7_straightness_7 : decode cX7_straightness 7 = .ok (.invokevirtual 284, 3) := by decide +kernel
theorem dX7_straightness_10 : decode cX7_straightness 10 = .ok (.istore_n 1, 1) := by decide +kernel
theorem dX7_straightness_11 : decode cX7_straightness 11 = .ok (.iload_n 1, 1) := by decide +kernel
theorem dX7_straightness_12 : decode cX7_straightness 12 = .ok (.ifCond .gt 8, 3) := by decide +kernel
theorem dX7_straightness_15 : decode cX7_straightness 15 = .ok (.fconst 1, 1) := by decide +kernel
theorem dX7_straightness_16 : decode cX7_straightness 16 = .ok (.invokestatic 300, 3) := by decide +kernel
theorem dX7_straightness_19 : decode cX7_straightness 19 = .ok (.ireturn, 1) := by decide +kernel
theorem dX7_straightness_20 : decode cX7_straightness 20 = .ok (.aload_n 0, 1) := by decide +kernel
theorem dX7_straightness_21 : decode cX7_straightness 21 = .ok (.getfield 10, 3) := by decide +kernel
theorem dX7_straightness_24 : decode cX7_straightness 24 = .ok (.getfield 73, 3) := by decide +kernel
theorem dX7_straightness_27 : decode cX7_straightness 27 = .ok (.invokevirtual 304, 3) := by decide +kernel
theorem dX7_straightness_30 : decode cX7_straightness 30 = .ok (.i2f, 1) := by decide +kernel
theorem dX7_straightness_31 : decode cX7_straightness 31 = .ok (.iload_n 1, 1) := by decide +kernel
theorem dX7_straightness_32 : decode cX7_straightness 32 = .ok (.i2f, 1) := by decide +kernel
theorem dX7_straightness_33 : decode cX7_straightness 33 = .ok (.fdiv, 1) := by decide +kernel
theorem dX7_straightness_34 : decode cX7_straightness 34 = .ok (.invokestatic 300, 3) := by decide +kernel
theorem dX7_straightness_37 : decode cX7_straightness 37 = .ok (.ireturn, 1) := by decide +kernel
theorem dX7_doubt_0 : decode cX7_doubt 0 = .ok (.aload_n 0, 1) := by decide +kernel
theorem dX7_doubt_1 : decode cX7_doubt 1 = .ok (.getfield 35, 3) := by decide +kernel
theorem dX7_doubt_4 : decode cX7_doubt 4 = .ok (.iconst (-1), 1) := by decide +kernel
theorem dX7_doubt_5 : decode cX7_doubt 5 = .ok (.invokevirtual 273, 3) := by decide +kernel
theorem dX7_doubt_8 : decode cX7_doubt 8 = .ok (.istore_n 1, 1) := by decide +kernel
theorem dX7_doubt_9 : decode cX7_doubt 9 = .ok (.aload_n 0, 1) := by decide +kernel
theorem dX7_doubt_10 : decode cX7_doubt 10 = .ok (.getfield 35, 3) := by decide +kernel
theorem dX7_doubt_13 : decode cX7_doubt 13 = .ok (.iload_n 1, 1) := by decide +kernel
theorem dX7_doubt_14 : decode cX7_doubt 14 = .ok (.invokevirtual 273, 3) := by decide +kernel
theorem dX7_doubt_17 : decode cX7_doubt 17 = .ok (.istore_n 2, 1) := by decide +kernel
theorem dX7_doubt_18 : decode cX7_doubt 18 = .ok (.iload_n 1, 1) := by decide +kernel
theorem dX7_doubt_19 : decode cX7_doubt 19 = .ok (.iconst (-1), 1) := by decide +kernel
theorem dX7_doubt_20 : decode cX7_doubt 20 = .ok (.if_icmp .eq 8, 3) := by decide +kernel
theorem dX7_doubt_23 : decode cX7_doubt 23 = .ok (.iload_n 2, 1) := by decide +kernel
theorem dX7_doubt_24 : decode cX7_doubt 24 = .ok (.iconst (-1), 1) := by decide +kernel
theorem dX7_doubt_25 : decode cX7_doubt 25 = .ok (.if_icmp .ne 5, 3) := by decide +kernel
theorem dX7_doubt_28 : decode cX7_doubt 28 = .ok (.dconst 0, 1) := by decide +kernel
theorem dX7_doubt_29 : decode cX7_doubt 29 = .ok (.dreturn, 1) := by decide +kernel
theorem dX7_doubt_30 : decode cX7_doubt 30 = .ok (.aload_n 0, 1) := by decide +kernel
theorem dX7_doubt_31 : decode cX7_doubt 31 = .ok (.getfield 35, 3) := by decide +kernel
theorem dX7_doubt_34 : decode cX7_doubt 34 = .ok (.getfield 260, 3) := by decide +kernel
theorem dX7_doubt_37 : decode cX7_doubt 37 = .ok (.iload_n 2, 1) := by decide +kernel
theorem dX7_doubt_38 : decode cX7_doubt 38 = .ok (.invokevirtual 180, 3) := by decide +kernel
theorem dX7_doubt_41 : decode cX7_doubt 41 = .ok (.istore_n 3, 1) := by decide +kernel
theorem dX7_doubt_42 : decode cX7_doubt 42 = .ok (.iload_n 3, 1) := by decide +kernel
theorem dX7_doubt_43 : decode cX7_doubt 43 = .ok (.ifCond .gt 5, 3) := by decide +kernel
theorem dX7_doubt_46 : decode cX7_doubt 46 = .ok (.dconst 0, 1) := by decide +kernel
theorem dX7_doubt_47 : decode cX7_doubt 47 = .ok (.dreturn, 1) := by decide +kernel
theorem dX7_doubt_48 : decode cX7_doubt 48 = .ok (.aload_n 0, 1) := by decide +kernel
theorem dX7_doubt_49 : decode cX7_doubt 49 = .ok (.getfield 35, 3) := by decide +kernel
theorem dX7_doubt_52 : decode cX7_doubt 52 = .ok (.getfield 260, 3) := by decide +kernel
theorem dX7_doubt_55 : decode cX7_doubt 55 = .ok (.iload_n 1, 1) := by decide +kernel
theorem dX7_doubt_56 : decode cX7_doubt 56 = .ok (.invokevirtual 180, 3) := by decide +kernel
theorem dX7_doubt_59 : decode cX7_doubt 59 = .ok (.i2d, 1) := by decide +kernel
theorem dX7_doubt_60 : decode cX7_doubt 60 = .ok (.iload_n 3, 1) := by decide +kernel
theorem dX7_doubt_61 : decode cX7_doubt 61 = .ok (.i2d, 1) := by decide +kernel
theorem dX7_doubt_62 : decode cX7_doubt 62 = .ok (.ddiv, 1) := by decide +kernel
theorem dX7_doubt_63 : decode cX7_doubt 63 = .ok (.dreturn, 1) := by decide +kernel
theorem dX7_digest_0 : decode cX7_digest 0 = .ok (.ldc2_w 307, 3) := by decide +kernel
theorem dX7_digest_3 : decode cX7_digest 3 = .ok (.lstore_n 1, 1) := by decide +kernel
theorem dX7_digest_4 : decode cX7_digest 4 = .ok (.iconst 0, 1) := by decide +kernel
theorem dX7_digest_5 : decode cX7_digest 5 = .ok (.istore_n 3, 1) := by decide +kernel
theorem dX7_digest_6 : decode cX7_digest 6 = .ok (.iload_n 3, 1) := by decide +kernel
theorem dX7_digest_7 : decode cX7_digest 7 = .ok (.bipush 8, 2) := by decide +kernel
theorem dX7_digest_9 : decode cX7_digest 9 = .ok (.if_icmp .gt 22, 3) := by decide +kernel
theorem dX7_digest_12 : decode cX7_digest 12 = .ok (.ldc2_w 309, 3) := by decide +kernel
theorem dX7_digest_15 : decode cX7_digest 15 = .ok (.lload_n 1, 1) := by decide +kernel
theorem dX7_digest_16 : decode cX7_digest 16 = .ok (.lmul, 1) := by decide +kernel
theorem dX7_digest_17 : decode cX7_digest 17 = .ok (.aload_n 0, 1) := by decide +kernel
theorem dX7_digest_18 : decode cX7_digest 18 = .ok (.iload_n 3, 1) := by decide +kernel
theorem dX7_digest_19 : decode cX7_digest 19 = .ok (.invokevirtual 311, 3) := by decide +kernel
theorem dX7_digest_22 : decode cX7_digest 22 = .ok (.i2l, 1) := by decide +kernel
theorem dX7_digest_23 : decode cX7_digest 23 = .ok (.ladd, 1) := by decide +kernel
theorem dX7_digest_24 : decode cX7_digest 24 = .ok (.lstore_n 1, 1) := by decide +kernel
theorem dX7_digest_25 : decode cX7_digest 25 = .ok (.iinc 3 1, 3) := by decide +kernel
theorem dX7_digest_28 : decode cX7_digest 28 = .ok (.goto (-22), 3) := by decide +kernel
theorem dX7_digest_31 : decode cX7_digest 31 = .ok (.iconst 0, 1) := by decide +kernel
theorem dX7_digest_32 : decode cX7_digest 32 = .ok (.istore_n 3, 1) := by decide +kernel
theorem dX7_digest_33 : decode cX7_digest 33 = .ok (.iload_n 3, 1) := by decide +kernel
theorem dX7_digest_34 : decode cX7_digest 34 = .ok (.iconst 5, 1) := by decide +kernel
theorem dX7_digest_35 : decode cX7_digest 35 = .ok (.if_icmp .ge 22, 3) := by decide +kernel
theorem dX7_digest_38 : decode cX7_digest 38 = .ok (.ldc2_w 309, 3) := by decide +kernel
theorem dX7_digest_41 : decode cX7_digest 41 = .ok (.lload_n 1, 1) := by decide +kernel
theorem dX7_digest_42 : decode cX7_digest 42 = .ok (.lmul, 1) := by decide +kernel
theorem dX7_digest_43 : decode cX7_digest 43 = .ok (.aload_n 0, 1) := by decide +kernel
theorem dX7_digest_44 : decode cX7_digest 44 = .ok (.iload_n 3, 1) := by decide +kernel
theorem dX7_digest_45 : decode cX7_digest 45 = .ok (.invokevirtual 314, 3) := by decide +kernel
theorem dX7_digest_48 : decode cX7_digest 48 = .ok (.i2l, 1) := by decide +kernel
theorem dX7_digest_49 : decode cX7_digest 49 = .ok (.ladd, 1) := by decide +kernel
theorem dX7_digest_50 : decode cX7_digest 50 = .ok (.lstore_n 1, 1) := by decide +kernel
theorem dX7_digest_51 : decode cX7_digest 51 = .ok (.iinc 3 1, 3) := by decide +kernel
end
section
theorem dX7_digest_54 : decode cX7_digest 54 = .ok (.goto (-21), 3) := by decide +kernel
theorem dX7_digest_57 : decode cX7_digest 57 = .ok (.aload_n 0, 1) := by decide +kernel
theorem dX7_digest_58 : decode cX7_digest 58 = .ok (.lload_n 1, 1) := by decide +kernel
theorem dX7_digest_59 : decode cX7_digest 59 = .ok (.invokevirtual 317, 3) := by decide +kernel
theorem dX7_digest_62 : decode cX7_digest 62 = .ok (.lstore_n 1, 1) := by decide +kernel
theorem dX7_digest_63 : decode cX7_digest 63 = .ok (.aload_n 0, 1) := by decide +kernel
theorem dX7_digest_64 : decode cX7_digest 64 = .ok (.lload_n 1, 1) := by decide +kernel
theorem dX7_digest_65 : decode cX7_digest 65 = .ok (.invokevirtual 321, 3) := by decide +kernel
theorem dX7_digest_68 : decode cX7_digest 68 = .ok (.lstore_n 1, 1) := by decide +kernel
theorem dX7_digest_69 : decode cX7_digest 69 = .ok (.iconst 0, 1) := by decide +kernel
theorem dX7_digest_70 : decode cX7_digest 70 = .ok (.istore_n 3, 1) := by decide +kernel
theorem dX7_digest_71 : decode cX7_digest 71 = .ok (.iload_n 3, 1) := by decide +kernel
theorem dX7_digest_72 : decode cX7_digest 72 = .ok (.iconst 4, 1) := by decide +kernel
theorem dX7_digest_73 : decode cX7_digest 73 = .ok (.if_icmp .gt 22, 3) := by decide +kernel
theorem dX7_digest_76 : decode cX7_digest 76 = .ok (.ldc2_w 309, 3) := by decide +kernel
theorem dX7_digest_79 : decode cX7_digest 79 = .ok (.lload_n 1, 1) := by decide +kernel
theorem dX7_digest_80 : decode cX7_digest 80 = .ok (.lmul, 1) := by decide +kernel
theorem dX7_digest_81 : decode cX7_digest 81 = .ok (.aload_n 0, 1) := by decide +kernel
theorem dX7_digest_82 : decode cX7_digest 82 = .ok (.iload_n 3, 1) := by decide +kernel
theorem dX7_digest_83 : decode cX7_digest 83 = .ok (.invokevirtual 324, 3) := by decide +kernel
theorem dX7_digest_86 : decode cX7_digest 86 = .ok (.i2l, 1) := by decide +kernel
theorem dX7_digest_87 : decode cX7_digest 87 = .ok (.ladd, 1) := by decide +kernel
theorem dX7_digest_88 : decode cX7_digest 88 = .ok (.lstore_n 1, 1) := by decide +kernel
theorem dX7_digest_89 : decode cX7_digest 89 = .ok (.iinc 3 1, 3) := by decide +kernel
theorem dX7_digest_92 : decode cX7_digest 92 = .ok (.goto (-21), 3) := by decide +kernel
theorem dX7_digest_95 : decode cX7_digest 95 = .ok (.ldc2_w 309, 3) := by decide +kernel
theorem dX7_digest_98 : decode cX7_digest 98 = .ok (.lload_n 1, 1) := by decide +kernel
theorem dX7_digest_99 : decode cX7_digest 99 = .ok (.lmul, 1) := by decide +kernel
theorem dX7_digest_100 : decode cX7_digest 100 = .ok (.aload_n 0, 1) := by decide +kernel
theorem dX7_digest_101 : decode cX7_digest 101 = .ok (.bipush 31, 2) := by decide +kernel
theorem dX7_digest_103 : decode cX7_digest 103 = .ok (.iconst 0, 1) := by decide +kernel
theorem dX7_digest_104 : decode cX7_digest 104 = .ok (.invokevirtual 327, 3) := by decide +kernel
theorem dX7_digest_107 : decode cX7_digest 107 = .ok (.i2l, 1) := by decide +kernel
theorem dX7_digest_108 : decode cX7_digest 108 = .ok (.ladd, 1) := by decide +kernel
theorem dX7_digest_109 : decode cX7_digest 109 = .ok (.lstore_n 1, 1) := by decide +kernel
theorem dX7_digest_110 : decode cX7_digest 110 = .ok (.ldc2_w 309, 3) := by decide +kernel
theorem dX7_digest_113 : decode cX7_digest 113 = .ok (.lload_n 1, 1) := by decide +kernel
theorem dX7_digest_114 : decode cX7_digest 114 = .ok (.lmul, 1) := by decide +kernel
theorem dX7_digest_115 : decode cX7_digest 115 = .ok (.aload_n 0, 1) := by decide +kernel
theorem dX7_digest_116 : decode cX7_digest 116 = .ok (.invokevirtual 330, 3) := by decide +kernel
theorem dX7_digest_119 : decode cX7_digest 119 = .ok (.i2l, 1) := by decide +kernel
theorem dX7_digest_120 : decode cX7_digest 120 = .ok (.ladd, 1) := by decide +kernel
theorem dX7_digest_121 : decode cX7_digest 121 = .ok (.lstore_n 1, 1) := by decide +kernel
theorem dX7_digest_122 : decode cX7_digest 122 = .ok (.ldc2_w 309, 3) := by decide +kernel
theorem dX7_digest_125 : decode cX7_digest 125 = .ok (.lload_n 1, 1) := by decide +kernel
theorem dX7_digest_126 : decode cX7_digest 126 = .ok (.lmul, 1) := by decide +kernel
theorem dX7_digest_127 : decode cX7_digest 127 = .ok (.aload_n 0, 1) := by decide +kernel
theorem dX7_digest_128 : decode cX7_digest 128 = .ok (.invokevirtual 333, 3) := by decide +kernel
theorem dX7_digest_131 : decode cX7_digest 131 = .ok (.i2l, 1) := by decide +kernel
theorem dX7_digest_132 : decode cX7_digest 132 = .ok (.ladd, 1) := by decide +kernel
theorem dX7_digest_133 : decode cX7_digest 133 = .ok (.lstore_n 1, 1) := by decide +kernel
theorem dX7_digest_134 : decode cX7_digest 134 = .ok (.ldc2_w 309, 3) := by decide +kernel
theorem dX7_digest_137 : decode cX7_digest 137 = .ok (.lload_n 1, 1) := by decide +kernel
theorem dX7_digest_138 : decode cX7_digest 138 = .ok (.lmul, 1) := by decide +kernel
theorem dX7_digest_139 : decode cX7_digest 139 = .ok (.aload_n 0, 1) := by decide +kernel
theorem dX7_digest_140 : decode cX7_digest 140 = .ok (.invokevirtual 336, 3) := by decide +kernel
theorem dX7_digest_143 : decode cX7_digest 143 = .ok (.i2l, 1) := by decide +kernel
theorem dX7_digest_144 : decode cX7_digest 144 = .ok (.ladd, 1) := by decide +kernel
theorem dX7_digest_145 : decode cX7_digest 145 = .ok (.lstore_n 1, 1) := by decide +kernel
theorem dX7_digest_146 : decode cX7_digest 146 = .ok (.ldc2_w 309, 3) := by decide +kernel
theorem dX7_digest_149 : decode cX7_digest 149 = .ok (.lload_n 1, 1) := by decide +kernel
theorem dX7_digest_150 : decode cX7_digest 150 = .ok (.lmul, 1) := by decide +kernel
theorem dX7_digest_151 : decode cX7_digest 151 = .ok (.aload_n 0, 1) := by decide +kernel
theorem dX7_digest_152 : decode cX7_digest 152 = .ok (.invokevirtual 339, 3) := by decide +kernel
theorem dX7_digest_155 : decode cX7_digest 155 = .ok (.invokestatic 343, 3) := by decide +kernel
theorem dX7_digest_158 : decode cX7_digest 158 = .ok (.ladd, 1) := by decide +kernel
theorem dX7_digest_159 : decode cX7_digest 159 = .ok (.lstore_n 1, 1) := by decide +kernel
theorem dX7_digest_160 : decode cX7_digest 160 = .ok (.ldc2_w 309, 3) := by decide +kernel
theorem dX7_digest_163 : decode cX7_digest 163 = .ok (.lload_n 1, 1) := by decide +kernel
theorem dX7_digest_164 : decode cX7_digest 164 = .ok (.lmul, 1) := by decide +kernel
theorem dX7_digest_165 : decode cX7_digest 165 = .ok (.aload_n 0, 1) := by decide +kernel
theorem dX7_digest_166 : decode cX7_digest 166 = .ok (.getfield 28, 3) := by decide +kernel
theorem dX7_digest_169 : decode cX7_digest 169 = .ok (.invokevirtual 150, 3) := by decide +kernel
theorem dX7_digest_172 : decode cX7_digest 172 = .ok (.i2l, 1) := by decide +kernel
theorem dX7_digest_173 : decode cX7_digest 173 = .ok (.ladd, 1) := by decide +kernel
theorem dX7_digest_174 : decode cX7_digest 174 = .ok (.lstore_n 1, 1) := by decide +kernel
theorem dX7_digest_175 : decode cX7_digest 175 = .ok (.iconst 0, 1) := by decide +kernel
theorem dX7_digest_176 : decode cX7_digest 176 = .ok (.istore_n 3, 1) := by decide +kernel
theorem dX7_digest_177 : decode cX7_digest 177 = .ok (.iload_n 3, 1) := by decide +kernel
theorem dX7_digest_178 : decode cX7_digest 178 = .ok (.aload_n 0, 1) := by decide +kernel
theorem dX7_digest_179 : decode cX7_digest 179 = .ok (.getfield 28, 3) := by decide +kernel
theorem dX7_digest_182 : decode cX7_digest 182 = .ok (.invokevirtual 150, 3) := by decide +kernel
theorem dX7_digest_185 : decode cX7_digest 185 = .ok (.if_icmp .ge 25, 3) := by decide +kernel
theorem dX7_digest_188 : decode cX7_digest 188 = .ok (.ldc2_w 309, 3) := by decide +kernel
theorem dX7_digest_191 : decode cX7_digest 191 = .ok (.lload_n 1, 1) := by decide +kernel
theorem dX7_digest_192 : decode cX7_digest 192 = .ok (.lmul, 1) := by decide +kernel
theorem dX7_digest_193 : decode cX7_digest 193 = .ok (.aload_n 0, 1) := by decide +kernel
theorem dX7_digest_194 : decode cX7_digest 194 = .ok (.getfield 28, 3) := by decide +kernel
theorem dX7_digest_197 : decode cX7_digest 197 = .ok (.iload_n 3, 1) := by decide +kernel
theorem dX7_digest_198 : decode cX7_digest 198 = .ok (.invokevirtual 180, 3) := by decide +kernel
theorem dX7_digest_201 : decode cX7_digest 201 = .ok (.i2l, 1) := by decide +kernel
theorem dX7_digest_202 : decode cX7_digest 202 = .ok (.ladd, 1) := by decide +kernel
theorem dX7_digest_203 : decode cX7_digest 203 = .ok (.lstore_n 1, 1) := by decide +kernel
theorem dX7_digest_204 : decode cX7_digest 204 = .ok (.iinc 3 1, 3) := by decide +kernel
theorem dX7_digest_207 : decode cX7_digest 207 = .ok (.goto (-30), 3) := by decide +kernel
theorem dX7_digest_210 : decode cX7_digest 210 = .ok (.lload_n 1, 1) := by decide +kernel
theorem dX7_digest_211 : decode cX7_digest 211 = .ok (.lreturn, 1) := by decide +kernel
theorem dX7_lookAgain_0 : decode cX7_lookAgain 0 = .ok (.aload_n 0, 1) := by decide +kernel
theorem dX7_lookAgain_1 : decode cX7_lookAgain 1 = .ok (.getfield 35, 3) := by decide +kernel
theorem dX7_lookAgain_4 : decode cX7_lookAgain 4 = .ok (.aload_n 0, 1) := by decide +kernel
theorem dX7_lookAgain_5 : decode cX7_lookAgain 5 = .ok (.getfield 10, 3) := by decide +kernel
theorem dX7_lookAgain_8 : decode cX7_lookAgain 8 = .ok (.getfield 73, 3) := by decide +kernel
theorem dX7_lookAgain_11 : decode cX7_lookAgain 11 = .ok (.aload_n 0, 1) := by decide +kernel
theorem dX7_lookAgain_12 : decode cX7_lookAgain 12 = .ok (.getfield 10, 3) := by decide +kernel
theorem dX7_lookAgain_15 : decode cX7_lookAgain 15 = .ok (.invokevirtual 296, 3) := by decide +kernel
theorem dX7_lookAgain_18 : decode cX7_lookAgain 18 = .ok (.return_, 1) := by decide +kernel
theorem dX7_isCommand_0 : decode cX7_isCommand 0 = .ok (.iload_n 1, 1) := by decide +kernel
theorem dX7_isCommand_1 : decode cX7_isCommand 1 = .ok (.ifCond .lt 21, 3) := by decide +kernel
theorem dX7_isCommand_4 : decode cX7_isCommand 4 = .ok (.iload_n 1, 1) := by decide +kernel
theorem dX7_isCommand_5 : decode cX7_isCommand 5 = .ok (.aload_n 0, 1) := by decide +kernel
theorem dX7_isCommand_6 : decode cX7_isCommand 6 = .ok (.getfield 10, 3) := by decide +kernel
theorem dX7_isCommand_9 : decode cX7_isCommand 9 = .ok (.getfield 151, 3) := by decide +kernel
theorem dX7_isCommand_12 : decode cX7_isCommand 12 = .ok (.invokevirtual 155, 3) := by decide +kernel
theorem dX7_isCommand_15 : decode cX7_isCommand 15 = .ok (.if_icmp .ge 7, 3) := by decide +kernel
theorem dX7_isCommand_18 : decode cX7_isCommand 18 = .ok (.iconst 1, 1) := by decide +kernel
theorem dX7_isCommand_19 : decode cX7_isCommand 19 = .ok (.goto 4, 3) := by decide +kernel
theorem dX7_isCommand_22 : decode cX7_isCommand 22 = .ok (.iconst 0, 1) := by decide +kernel
theorem dX7_isCommand_23 : decode cX7_isCommand 23 = .ok (.ireturn, 1) := by decide +kernel
theorem dX7_isSetting_0 : decode cX7_isSetting 0 = .ok (.iload_n 0, 1) := by decide +kernel
theorem dX7_isSetting_1 : decode cX7_isSetting 1 = .ok (.ifCond .lt 12, 3) := by decide +kernel
theorem dX7_isSetting_4 : decode cX7_isSetting 4 = .ok (.iload_n 0, 1) := by decide +kernel
theorem dX7_isSetting_5 : decode cX7_isSetting 5 = .ok (.iconst 5, 1) := by decide +kernel
theorem dX7_isSetting_6 : decode cX7_isSetting 6 = .ok (.if_icmp .ge 7, 3) := by decide +kernel
theorem dX7_isSetting_9 : decode cX7_isSetting 9 = .ok (.iconst 1, 1) := by decide +kernel
theorem dX7_isSetting_10 : decode cX7_isSetting 10 = .ok (.goto 4, 3) := by decide +kernel
theorem dX7_isSetting_13 : decode cX7_isSetting 13 = .ok (.iconst 0, 1) := by decide +kernel
theorem dX7_isSetting_14 : decode cX7_isSetting 14 = .ok (.ireturn, 1) := by decide +kernel
theorem dX7_isDirection_0 : decode cX7_isDirection 0 = .ok (.iload_n 0, 1) := by decide +kernel
theorem dX7_isDirection_1 : decode cX7_isDirection 1 = .ok (.ifCond .lt 13, 3) := by decide +kernel
theorem dX7_isDirection_4 : decode cX7_isDirection 4 = .ok (.iload_n 0, 1) := by decide +kernel
theorem dX7_isDirection_5 : decode cX7_isDirection 5 = .ok (.bipush 8, 2) := by decide +kernel
theorem dX7_isDirection_7 : decode cX7_isDirection 7 = .ok (.if_icmp .ge 7, 3) := by decide +kernel
theorem dX7_isDirection_10 : decode cX7_isDirection 10 = .ok (.iconst 1, 1) := by decide +kernel
theorem dX7_isDirection_11 : decode cX7_isDirection 11 = .ok (.goto 4, 3) := by decide +kernel
theorem dX7_isDirection_14 : decode cX7_isDirection 14 = .ok (.iconst 0, 1) := by decide +kernel
theorem dX7_isDirection_15 : decode cX7_isDirection 15 = .ok (.ireturn, 1) := by decide +kernel
theorem dX7_isOnLattice_0 : decode cX7_isOnLattice 0 = .ok (.iload_n 0, 1) := by decide +kernel
theorem dX7_isOnLattice_1 : decode cX7_isOnLattice 1 = .ok (.ifCond .lt 23, 3) := by decide +kernel
theorem dX7_isOnLattice_4 : decode cX7_isOnLattice 4 = .ok (.iload_n 0, 1) := by decide +kernel
theorem dX7_isOnLattice_5 : decode cX7_isOnLattice 5 = .ok (.bipush 31, 2) := by decide +kernel
theorem dX7_isOnLattice_7 : decode cX7_isOnLattice 7 = .ok (.if_icmp .gt 17, 3) := by decide +kernel
theorem dX7_isOnLattice_10 : decode cX7_isOnLattice 10 = .ok (.iload_n 1, 1) := by decide +kernel
theorem dX7_isOnLattice_11 : decode cX7_isOnLattice 11 = .ok (.ifCond .lt 13, 3) := by decide +kernel
theorem dX7_isOnLattice_14 : decode cX7_isOnLattice 14 = .ok (.iload_n 1, 1) := by decide +kernel
theorem dX7_isOnLattice_15 : decode cX7_isOnLattice 15 = .ok (.bipush 31, 2) := by decide +kernel
theorem dX7_isOnLattice_17 : decode cX7_isOnLattice 17 = .ok (.if_icmp .gt 7, 3) := by decide +kernel
theorem dX7_isOnLattice_20 : decode cX7_isOnLattice 20 = .ok (.iconst 1, 1) := by decide +kernel
theorem dX7_isOnLattice_21 : decode cX7_isOnLattice 21 = .ok (.goto 4, 3) := by decide +kernel
theorem dX7_isOnLattice_24 : decode cX7_isOnLattice 24 = .ok (.iconst 0, 1) := by decide +kernel
theorem dX7_isOnLattice_25 : decode cX7_isOnLattice 25 = .ok (.ireturn, 1) := by decide +kernel
theorem dX7_of_0 : decode cX7_of 0 = .ok (.iload_n 1, 1) := by decide +kernel
theorem dX7_of_1 : decode cX7_of 1 = .ok (.ifCond .lt 15, 3) := by decide +kernel
theorem dX7_of_4 : decode cX7_of 4 = .ok (.iload_n 1, 1) := by decide +kernel
theorem dX7_of_5 : decode cX7_of 5 = .ok (.aload_n 0, 1) := by decide +kernel
theorem dX7_of_6 : decode cX7_of 6 = .ok (.arraylength, 1) := by decide +kernel
theorem dX7_of_7 : decode cX7_of 7 = .ok (.if_icmp .ge 9, 3) := by decide +kernel
theorem dX7_of_10 : decode cX7_of 10 = .ok (.aload_n 0, 1) := by decide +kernel
theorem dX7_of_11 : decode cX7_of 11 = .ok (.iload_n 1, 1) := by decide +kernel
theorem dX7_of_12 : decode cX7_of 12 = .ok (.iaload, 1) := by decide +kernel
theorem dX7_of_13 : decode cX7_of 13 = .ok (.goto 4, 3) := by decide +kernel
theorem dX7_of_16 : decode cX7_of 16 = .ok (.iconst 0, 1) := by decide +kernel
theorem dX7_of_17 : decode cX7_of 17 = .ok (.ireturn, 1) := by decide +kernel
theorem dX7_stepsWithin_0 : decode cX7_stepsWithin 0 = .ok (.iload_n 1, 1) := by decide +kernel
theorem dX7_stepsWithin_1 : decode cX7_stepsWithin 1 = .ok (.ifCond .ne 6, 3) := by decide +kernel
theorem dX7_stepsWithin_4 : decode cX7_stepsWithin 4 = .ok (.bipush 31, 2) := by decide +kernel
theorem dX7_stepsWithin_6 : decode cX7_stepsWithin 6 = .ok (.ireturn, 1) := by decide +kernel
theorem dX7_stepsWithin_7 : decode cX7_stepsWithin 7 = .ok (.iload_n 1, 1) := by decide +kernel
theorem dX7_stepsWithin_8 : decode cX7_stepsWithin 8 = .ok (.ifCond .le 10, 3) := by decide +kernel
theorem dX7_stepsWithin_11 : decode cX7_stepsWithin 11 = .ok (.bipush 31, 2) := by decide +kernel
theorem dX7_stepsWithin_13 : decode cX7_stepsWithin 13 = .ok (.iload_n 0, 1) := by decide +kernel
theorem dX7_stepsWithin_14 : decode cX7_stepsWithin 14 = .ok (.isub, 1) := by decide +kernel
theorem dX7_stepsWithin_15 : decode cX7_stepsWithin 15 = .ok (.goto 4, 3) := by decide +kernel
theorem dX7_stepsWithin_18 : decode cX7_stepsWithin 18 = .ok (.iload_n 0, 1) := by decide +kernel
theorem dX7_stepsWithin_19 : decode cX7_stepsWithin 19 = .ok (.ireturn, 1) := by decide +kernel
theorem dX7_canLayTurned_0 : decode cX7_canLayTurned 0 = .ok (.aload_n 0, 1) := by decide +kernel
theorem dX7_canLayTurned_1 : decode cX7_canLayTurned 1 = .ok (.getfield 10, 3) := by decide +kernel
theorem dX7_canLayTurned_4 : decode cX7_canLayTurned 4 = .ok (.getfield 73, 3) := by decide +kernel
theorem dX7_canLayTurned_7 : decode cX7_canLayTurned 7 = .ok (.astore_n 2, 1) := by decide +kernel
theorem dX7_canLayTurned_8 : decode cX7_canLayTurned 8 = .ok (.aload_n 2, 1) := by decide +kernel
theorem dX7_canLayTurned_9 : decode cX7_canLayTurned 9 = .ok (.iconst 0, 1) := by decide +kernel
theorem dX7_canLayTurned_10 : decode cX7_canLayTurned 10 = .ok (.invokevirtual 102, 3) := by decide +kernel
theorem dX7_canLayTurned_13 : decode cX7_canLayTurned 13 = .ok (.istore_n 3, 1) := by decide +kernel
theorem dX7_canLayTurned_14 : decode cX7_canLayTurned 14 = .ok (.aload_n 2, 1) := by decide +kernel
theorem dX7_canLayTurned_15 : decode cX7_canLayTurned 15 = .ok (.iconst 0, 1) := by decide +kernel
theorem dX7_canLayTurned_16 : decode cX7_canLayTurned 16 = .ok (.invokevirtual 106, 3) := by decide +kernel
theorem dX7_canLayTurned_19 : decode cX7_canLayTurned 19 = .ok (.istore 4, 2) := by decide +kernel
theorem dX7_canLayTurned_21 : decode cX7_canLayTurned 21 = .ok (.aload_n 0, 1) := by decide +kernel
theorem dX7_canLayTurned_22 : decode cX7_canLayTurned 22 = .ok (.getfield 49, 3) := by decide +kernel
theorem dX7_canLayTurned_25 : decode cX7_canLayTurned 25 = .ok (.iconst 0, 1) := by decide +kernel
theorem dX7_canLayTurned_26 : decode cX7_canLayTurned 26 = .ok (.invokevirtual 133, 3) := by decide +kernel
theorem dX7_canLayTurned_29 : decode cX7_canLayTurned 29 = .ok (.iconst 0, 1) := by decide +kernel
theorem dX7_canLayTurned_30 : decode cX7_canLayTurned 30 = .ok (.istore 5, 2) := by decide +kernel
theorem dX7_canLayTurned_32 : decode cX7_canLayTurned 32 = .ok (.iload 5, 2) := by decide +kernel
theorem dX7_canLayTurned_34 : decode cX7_canLayTurned 34 = .ok (.aload_n 2, 1) := by decide +kernel
theorem dX7_canLayTurned_35 : decode cX7_canLayTurned 35 = .ok (.invokevirtual 76, 3) := by decide +kernel
theorem dX7_canLayTurned_38 : decode cX7_canLayTurned 38 = .ok (.if_icmp .ge 102, 3) := by decide +kernel
theorem dX7_canLayTurned_41 : decode cX7_canLayTurned 41 = .ok (.aload_n 2, 1) := by decide +kernel
theorem dX7_canLayTurned_42 : decode cX7_canLayTurned 42 = .ok (.iload 5, 2) := by decide +kernel
theorem dX7_canLayTurned_44 : decode cX7_canLayTurned 44 = .ok (.invokevirtual 347, 3) := by decide +kernel
theorem dX7_canLayTurned_47 : decode cX7_canLayTurned 47 = .ok (.ifCond .ne 5, 3) := by decide +kernel
theorem dX7_canLayTurned_50 : decode cX7_canLayTurned 50 = .ok (.iconst 0, 1) := by decide +kernel
theorem dX7_canLayTurned_51 : decode cX7_canLayTurned 51 = .ok (.ireturn, 1) := by decide +kernel
theorem dX7_canLayTurned_52 : decode cX7_canLayTurned 52 = .ok (.aload_n 2, 1) := by decide +kernel
theorem dX7_canLayTurned_53 : decode cX7_canLayTurned 53 = .ok (.iload 5, 2) := by decide +kernel
theorem dX7_canLayTurned_55 : decode cX7_canLayTurned 55 = .ok (.invokevirtual 235, 3) := by decide +kernel
theorem dX7_canLayTurned_58 : decode cX7_canLayTurned 58 = .ok (.istore 6, 2) := by decide +kernel
theorem dX7_canLayTurned_60 : decode cX7_canLayTurned 60 = .ok (.iload 6, 2) := by decide +kernel
theorem dX7_canLayTurned_62 : decode cX7_canLayTurned 62 = .ok (.iconst (-1), 1) := by decide +kernel
theorem dX7_canLayTurned_63 : decode cX7_canLayTurned 63 = .ok (.if_icmp .eq 50, 3) := by decide +kernel
theorem dX7_canLayTurned_66 : decode cX7_canLayTurned 66 = .ok (.iload 6, 2) := by decide +kernel
theorem dX7_canLayTurned_68 : decode cX7_canLayTurned 68 = .ok (.iload_n 1, 1) := by decide +kernel
theorem dX7_canLayTurned_69 : decode cX7_canLayTurned 69 = .ok (.iadd, 1) := by decide +kernel
theorem dX7_canLayTurned_70 : decode cX7_canLayTurned 70 = .ok (.bipush 8, 2) := by decide +kernel
theorem dX7_canLayTurned_72 : decode cX7_canLayTurned 72 = .ok (.irem, 1) := by decide +kernel
theorem dX7_canLayTurned_73 : decode cX7_canLayTurned 73 = .ok (.istore 7, 2) := by decide +kernel
theorem dX7_canLayTurned_75 : decode cX7_canLayTurned 75 = .ok (.iload_n 3, 1) := by decide +kernel
theorem dX7_canLayTurned_76 : decode cX7_canLayTurned 76 = .ok (.getstatic 109, 3) := by decide +kernel
theorem dX7_canLayTurned_79 : decode cX7_canLayTurned 79 = .ok (.iload 7, 2) := by decide +kernel
theorem dX7_canLayTurned_81 : decode cX7_canLayTurned 81 = .ok (.invokestatic 113, 3) := by decide +kernel
theorem dX7_canLayTurned_84 : decode cX7_canLayTurned 84 = .ok (.aload_n 2, 1) := by decide +kernel
theorem dX7_canLayTurned_85 : decode cX7_canLayTurned 85 = .ok (.iload 5, 2) := by decide +kernel
theorem dX7_canLayTurned_87 : decode cX7_canLayTurned 87 = .ok (.invokevirtual 238, 3) := by decide +kernel
theorem dX7_canLayTurned_90 : decode cX7_canLayTurned 90 = .ok (.imul, 1) := by decide +kernel
theorem dX7_canLayTurned_91 : decode cX7_canLayTurned 91 = .ok (.iadd, 1) := by decide +kernel
theorem dX7_canLayTurned_92 : decode cX7_canLayTurned 92 = .ok (.istore_n 3, 1) := by decide +kernel
theorem dX7_canLayTurned_93 : decode cX7_canLayTurned 93 = .ok (.iload 4, 2) := by decide +kernel
theorem dX7_canLayTurned_95 : decode cX7_canLayTurned 95 = .ok (.getstatic 117, 3) := by decide +kernel
theorem dX7_canLayTurned_98 : decode cX7_canLayTurned 98 = .ok (.iload 7, 2) := by decide +kernel
theorem dX7_canLayTurned_100 : decode cX7_canLayTurned 100 = .ok (.invokestatic 113, 3) := by decide +kernel
theorem dX7_canLayTurned_103 : decode cX7_canLayTurned 103 = .ok (.aload_n 2, 1) := by decide +kernel
theorem dX7_canLayTurned_104 : decode cX7_canLayTurned 104 = .ok (.iload 5, 2) := by decide +kernel
theorem dX7_canLayTurned_106 : decode cX7_canLayTurned 106 = .ok (.invokevirtual 238, 3) := by decide +kernel
theorem dX7_canLayTurned_109 : decode cX7_canLayTurned 109 = .ok (.imul, 1) := by decide +kernel
theorem dX7_canLayTurned_110 : decode cX7_canLayTurned 110 = .ok (.iadd, 1) := by decide +kernel
theorem dX7_canLayTurned_111 : decode cX7_canLayTurned 111 = .ok (.istore 4, 2) := by decide +kernel
theorem dX7_canLayTurned_113 : decode cX7_canLayTurned 113 = .ok (.iload_n 3, 1) := by decide +kernel
theorem dX7_canLayTurned_114 : decode cX7_canLayTurned 114 = .ok (.iload 4, 2) := by decide +kernel
theorem dX7_canLayTurned_116 : decode cX7_canLayTurned 116 = .ok (.invokestatic 62, 3) := by decide +kernel
theorem dX7_canLayTurned_119 : decode cX7_canLayTurned 119 = .ok (.ifCond .ne 5, 3) := by decide +kernel
theorem dX7_canLayTurned_122 : decode cX7_canLayTurned 122 = .ok (.iconst 0, 1) := by decide +kernel
theorem dX7_canLayTurned_123 : decode cX7_canLayTurned 123 = .ok (.ireturn, 1) := by decide +kernel
theorem dX7_canLayTurned_124 : decode cX7_canLayTurned 124 = .ok (.aload_n 0, 1) := by decide +kernel
theorem dX7_canLayTurned_125 : decode cX7_canLayTurned 125 = .ok (.getfield 49, 3) := by decide +kernel
theorem dX7_canLayTurned_128 : decode cX7_canLayTurned 128 = .ok (.iload_n 3, 1) := by decide +kernel
theorem dX7_canLayTurned_129 : decode cX7_canLayTurned 129 = .ok (.iload 4, 2) := by decide +kernel
theorem dX7_canLayTurned_131 : decode cX7_canLayTurned 131 = .ok (.invokevirtual 89, 3) := by decide +kernel
theorem dX7_canLayTurned_134 : decode cX7_canLayTurned 134 = .ok (.iinc 5 1, 3) := by decide +kernel
theorem dX7_canLayTurned_137 : decode cX7_canLayTurned 137 = .ok (.goto (-105), 3) := by decide +kernel
theorem dX7_canLayTurned_140 : decode cX7_canLayTurned 140 = .ok (.iconst 1, 1) := by decide +kernel
theorem dX7_canLayTurned_141 : decode cX7_canLayTurned 141 = .ok (.ireturn, 1) := by decide +kernel
theorem dX7_isTooNear_0 : decode cX7_isTooNear 0 = .ok (.iconst 0, 1) := by decide +kernel
theorem dX7_isTooNear_1 : decode cX7_isTooNear 1 = .ok (.istore_n 2, 1) := by decide +kernel
theorem dX7_isTooNear_2 : decode cX7_isTooNear 2 = .ok (.iload_n 2, 1) := by decide +kernel
theorem dX7_isTooNear_3 : decode cX7_isTooNear 3 = .ok (.aload_n 0, 1) := by decide +kernel
theorem dX7_isTooNear_4 : decode cX7_isTooNear 4 = .ok (.getfield 10, 3) := by decide +kernel
theorem dX7_isTooNear_7 : decode cX7_isTooNear 7 = .ok (.getfield 151, 3) := by decide +kernel
theorem dX7_isTooNear_10 : decode cX7_isTooNear 10 = .ok (.invokevirtual 155, 3) := by decide +kernel
theorem dX7_isTooNear_13 : decode cX7_isTooNear 13 = .ok (.if_icmp .ge 60, 3) := by decide +kernel
theorem dX7_isTooNear_16 : decode cX7_isTooNear 16 = .ok (.aload_n 0, 1) := by decide +kernel
theorem dX7_isTooNear_17 : decode cX7_isTooNear 17 = .ok (.getfield 42, 3) := by decide +kernel
theorem dX7_isTooNear_20 : decode cX7_isTooNear 20 = .ok (.aload_n 1, 1) := by decide +kernel
theorem dX7_isTooNear_21 : decode cX7_isTooNear 21 = .ok (.aload_n 0, 1) := by decide +kernel
theorem dX7_isTooNear_22 : decode cX7_isTooNear 22 = .ok (.getfield 10, 3) := by decide +kernel
theorem dX7_isTooNear_25 : decode cX7_isTooNear 25 = .ok (.getfield 151, 3) := by decide +kernel
theorem dX7_isTooNear_28 : decode cX7_isTooNear 28 = .ok (.iload_n 2, 1) := by decide +kernel
theorem dX7_isTooNear_29 : decode cX7_isTooNear 29 = .ok (.invokevirtual 257, 3) := by decide +kernel
theorem dX7_isTooNear_32 : decode cX7_isTooNear 32 = .ok (.aload_n 0, 1) := by decide +kernel
theorem dX7_isTooNear_33 : decode cX7_isTooNear 33 = .ok (.getfield 10, 3) := by decide +kernel
theorem dX7_isTooNear_36 : decode cX7_isTooNear 36 = .ok (.getfield 209, 3) := by decide +kernel
theorem dX7_isTooNear_39 : decode cX7_isTooNear 39 = .ok (.invokevirtual 263, 3) := by decide +kernel
theorem dX7_isTooNear_42 : decode cX7_isTooNear 42 = .ok (.aload_n 0, 1) := by decide +kernel
theorem dX7_isTooNear_43 : decode cX7_isTooNear 43 = .ok (.getfield 42, 3) := by decide +kernel
theorem dX7_isTooNear_46 : decode cX7_isTooNear 46 = .ok (.invokevirtual 267, 3) := by decide +kernel
theorem dX7_isTooNear_49 : decode cX7_isTooNear 49 = .ok (.iconst 2, 1) := by decide +kernel
theorem dX7_isTooNear_50 : decode cX7_isTooNear 50 = .ok (.aload_n 0, 1) := by decide +kernel
theorem dX7_isTooNear_51 : decode cX7_isTooNear 51 = .ok (.getfield 10, 3) := by decide +kernel
theorem dX7_isTooNear_54 : decode cX7_isTooNear 54 = .ok (.getfield 209, 3) := by decide +kernel
theorem dX7_isTooNear_57 : decode cX7_isTooNear 57 = .ok (.iconst 4, 1) := by decide +kernel
theorem dX7_isTooNear_58 : decode cX7_isTooNear 58 = .ok (.invokevirtual 180, 3) := by decide +kernel
theorem dX7_isTooNear_61 : decode cX7_isTooNear 61 = .ok (.imul, 1) := by decide +kernel
theorem dX7_isTooNear_62 : decode cX7_isTooNear 62 = .ok (.if_icmp .gt 5, 3) := by decide +kernel
theorem dX7_isTooNear_65 : decode cX7_isTooNear 65 = .ok (.iconst 1, 1) := by decide +kernel
theorem dX7_isTooNear_66 : decode cX7_isTooNear 66 = .ok (.ireturn, 1) := by decide +kernel
theorem dX7_isTooNear_67 : decode cX7_isTooNear 67 = .ok (.iinc 2 1, 3) := by decide +kernel
theorem dX7_isTooNear_70 : decode cX7_isTooNear 70 = .ok (.goto (-68), 3) := by decide +kernel
theorem dX7_isTooNear_73 : decode cX7_isTooNear 73 = .ok (.iconst 0, 1) := by decide +kernel
theorem dX7_isTooNear_74 : decode cX7_isTooNear 74 = .ok (.ireturn, 1) := by decide +kernel
theorem dX7_addCommand_0 : decode cX7_addCommand 0 = .ok (.aload_n 0, 1) := by decide +kernel
theorem dX7_addCommand_1 : decode cX7_addCommand 1 = .ok (.getfield 19, 3) := by decide +kernel
theorem dX7_addCommand_4 : decode cX7_addCommand 4 = .ok (.aload_n 0, 1) := by decide +kernel
theorem dX7_addCommand_5 : decode cX7_addCommand 5 = .ok (.getfield 10, 3) := by decide +kernel
theorem dX7_addCommand_8 : decode cX7_addCommand 8 = .ok (.invokevirtual 85, 3) := by decide +kernel
theorem dX7_addCommand_11 : decode cX7_addCommand 11 = .ok (.aload_n 0, 1) := by decide +kernel
theorem dX7_addCommand_12 : decode cX7_addCommand 12 = .ok (.getfield 10, 3) := by decide +kernel
theorem dX7_addCommand_15 : decode cX7_addCommand 15 = .ok (.getfield 151, 3) := by decide +kernel
theorem dX7_addCommand_18 : decode cX7_addCommand 18 = .ok (.aload_n 1, 1) := by decide +kernel
theorem dX7_addCommand_19 : decode cX7_addCommand 19 = .ok (.invokevirtual 350, 3) := by decide +kernel
theorem dX7_addCommand_22 : decode cX7_addCommand 22 = .ok (.aload_n 0, 1) := by decide +kernel
theorem dX7_addCommand_23 : decode cX7_addCommand 23 = .ok (.invokevirtual 93, 3) := by decide +kernel
theorem dX7_addCommand_26 : decode cX7_addCommand 26 = .ok (.aload_n 0, 1) := by decide +kernel
theorem dX7_addCommand_27 : decode cX7_addCommand 27 = .ok (.getfield 10, 3) := by decide +kernel
theorem dX7_addCommand_30 : decode cX7_addCommand 30 = .ok (.getfield 151, 3) := by decide +kernel
theorem dX7_addCommand_33 : decode cX7_addCommand 33 = .ok (.invokevirtual 155, 3) := by decide +kernel
theorem dX7_addCommand_36 : decode cX7_addCommand 36 = .ok (.iconst 1, 1) := by decide +kernel
theorem dX7_addCommand_37 : decode cX7_addCommand 37 = .ok (.isub, 1) := by decide +kernel
theorem dX7_addCommand_38 : decode cX7_addCommand 38 = .ok (.ireturn, 1) := by decide +kernel
theorem dX7_leastApart_0 : decode cX7_leastApart 0 = .ok (.iconst (-1), 1) := by decide +kernel
theorem dX7_leastApart_1 : decode cX7_leastApart 1 = .ok (.istore_n 2, 1) := by decide +kernel
theorem dX7_leastApart_2 : decode cX7_leastApart 2 = .ok (.iconst 1, 1) := by decide +kernel
theorem dX7_leastApart_3 : decode cX7_leastApart 3 = .ok (.istore_n 3, 1) := by decide +kernel
theorem dX7_leastApart_4 : decode cX7_leastApart 4 = .ok (.iload_n 3, 1) := by decide +kernel
theorem dX7_leastApart_5 : decode cX7_leastApart 5 = .ok (.aload_n 0, 1) := by decide +kernel
theorem dX7_leastApart_6 : decode cX7_leastApart 6 = .ok (.getfield 10, 3) := by decide +kernel
theorem dX7_leastApart_9 : decode cX7_leastApart 9 = .ok (.getfield 151, 3) := by decide +kernel
theorem dX7_leastApart_12 : decode cX7_leastApart 12 = .ok (.invokevirtual 155, 3) := by decide +kernel
theorem dX7_leastApart_15 : decode cX7_leastApart 15 = .ok (.if_icmp .ge 79, 3) := by decide +kernel
theorem dX7_leastApart_18 : decode cX7_leastApart 18 = .ok (.iconst 0, 1) := by decide +kernel
theorem dX7_leastApart_19 : decode cX7_leastApart 19 = .ok (.istore 4, 2) := by decide +kernel
theorem dX7_leastApart_21 : decode cX7_leastApart 21 = .ok (.iload 4, 2) := by decide +kernel
theorem dX7_leastApart_23 : decode cX7_leastApart 23 = .ok (.iload_n 3, 1) := by decide +kernel
theorem dX7_leastApart_24 : decode cX7_leastApart 24 = .ok (.if_icmp .ge 64, 3) := by decide +kernel
theorem dX7_leastApart_27 : decode cX7_leastApart 27 = .ok (.aload_n 0, 1) := by decide +kernel
theorem dX7_leastApart_28 : decode cX7_leastApart 28 = .ok (.getfield 42, 3) := by decide +kernel
theorem dX7_leastApart_31 : decode cX7_leastApart 31 = .ok (.aload_n 0, 1) := by decide +kernel
theorem dX7_leastApart_32 : decode cX7_leastApart 32 = .ok (.getfield 10, 3) := by decide +kernel
theorem dX7_leastApart_35 : decode cX7_leastApart 35 = .ok (.getfield 151, 3) := by decide +kernel
theorem dX7_leastApart_38 : decode cX7_leastApart 38 = .ok (.iload 4, 2) := by decide +kernel
theorem dX7_leastApart_40 : decode cX7_leastApart 40 = .ok (.invokevirtual 257, 3) := by decide +kernel
theorem dX7_leastApart_43 : decode cX7_leastApart 43 = .ok (.aload_n 0, 1) := by decide +kernel
theorem dX7_leastApart_44 : decode cX7_leastApart 44 = .ok (.getfield 10, 3) := by decide +kernel
theorem dX7_leastApart_47 : decode cX7_leastApart 47 = .ok (.getfield 151, 3) := by decide +kernel
theorem dX7_leastApart_50 : decode cX7_leastApart 50 = .ok (.iload_n 3, 1) := by decide +kernel
theorem dX7_leastApart_51 : decode cX7_leastApart 51 = .ok (.invokevirtual 257, 3) := by decide +kernel
theorem dX7_leastApart_54 : decode cX7_leastApart 54 = .ok (.aload_n 1, 1) := by decide +kernel
theorem dX7_leastApart_55 : decode cX7_leastApart 55 = .ok (.invokevirtual 263, 3) := by decide +kernel
theorem dX7_leastApart_58 : decode cX7_leastApart 58 = .ok (.iload_n 2, 1) := by decide +kernel
theorem dX7_leastApart_59 : decode cX7_leastApart 59 = .ok (.iconst (-1), 1) := by decide +kernel
theorem dX7_leastApart_60 : decode cX7_leastApart 60 = .ok (.if_icmp .eq 14, 3) := by decide +kernel
theorem dX7_leastApart_63 : decode cX7_leastApart 63 = .ok (.aload_n 0, 1) := by decide +kernel
theorem dX7_leastApart_64 : decode cX7_leastApart 64 = .ok (.getfield 42, 3) := by decide +kernel
theorem dX7_leastApart_67 : decode cX7_leastApart 67 = .ok (.invokevirtual 267, 3) := by decide +kernel
theorem dX7_leastApart_70 : decode cX7_leastApart 70 = .ok (.iload_n 2, 1) := by decide +kernel
theorem dX7_leastApart_71 : decode cX7_leastApart 71 = .ok (.if_icmp .ge 11, 3) := by decide +kernel
theorem dX7_leastApart_74 : decode cX7_leastApart 74 = .ok (.aload_n 0, 1) := by decide +kernel
theorem dX7_leastApart_75 : decode cX7_leastApart 75 = .ok (.getfield 42, 3) := by decide +kernel
theorem dX7_leastApart_78 : decode cX7_leastApart 78 = .ok (.invokevirtual 267, 3) := by decide +kernel
theorem dX7_leastApart_81 : decode cX7_leastApart 81 = .ok (.istore_n 2, 1) := by decide +kernel
theorem dX7_leastApart_82 : decode cX7_leastApart 82 = .ok (.iinc 4 1, 3) := by decide +kernel
theorem dX7_leastApart_85 : decode cX7_leastApart 85 = .ok (.goto (-64), 3) := by decide +kernel
theorem dX7_leastApart_88 : decode cX7_leastApart 88 = .ok (.iinc 3 1, 3) := by decide +kernel
theorem dX7_leastApart_91 : decode cX7_leastApart 91 = .ok (.goto (-87), 3) := by decide +kernel
theorem dX7_leastApart_94 : decode cX7_leastApart 94 = .ok (.iload_n 2, 1) := by decide +kernel
theorem dX7_leastApart_95 : decode cX7_leastApart 95 = .ok (.ireturn, 1) := by decide +kernel
theorem dX7_withPath_0 : decode cX7_withPath 0 = .ok (.lload_n 1, 1) := by decide +kernel
theorem dX7_withPath_1 : decode cX7_withPath 1 = .ok (.lstore_n 3, 1) := by decide +kernel
theorem dX7_withPath_2 : decode cX7_withPath 2 = .ok (.iconst 0, 1) := by decide +kernel
theorem dX7_withPath_3 : decode cX7_withPath 3 = .ok (.istore 5, 2) := by decide +kernel
theorem dX7_withPath_5 : decode cX7_withPath 5 = .ok (.iload 5, 2) := by decide +kernel
theorem dX7_withPath_7 : decode cX7_withPath 7 = .ok (.aload_n 0, 1) := by decide +kernel
theorem dX7_withPath_8 : decode cX7_withPath 8 = .ok (.getfield 10, 3) := by decide +kernel
theorem dX7_withPath_11 : decode cX7_withPath 11 = .ok (.getfield 73, 3) := by decide +kernel
theorem dX7_withPath_14 : decode cX7_withPath 14 = .ok (.invokevirtual 76, 3) := by decide +kernel
theorem dX7_withPath_17 : decode cX7_withPath 17 = .ok (.if_icmp .ge 40, 3) := by decide +kernel
theorem dX7_withPath_20 : decode cX7_withPath 20 = .ok (.iconst 0, 1) := by decide +kernel
theorem dX7_withPath_21 : decode cX7_withPath 21 = .ok (.istore 6, 2) := by decide +kernel
theorem dX7_withPath_23 : decode cX7_withPath 23 = .ok (.iload 6, 2) := by decide +kernel
theorem dX7_withPath_25 : decode cX7_withPath 25 = .ok (.iconst 3, 1) := by decide +kernel
theorem dX7_withPath_26 : decode cX7_withPath 26 = .ok (.if_icmp .gt 25, 3) := by decide +kernel
theorem dX7_withPath_29 : decode cX7_withPath 29 = .ok (.ldc2_w 309, 3) := by decide +kernel
theorem dX7_withPath_32 : decode cX7_withPath 32 = .ok (.lload_n 3, 1) := by decide +kernel
theorem dX7_withPath_33 : decode cX7_withPath 33 = .ok (.lmul, 1) := by decide +kernel
theorem dX7_withPath_34 : decode cX7_withPath 34 = .ok (.aload_n 0, 1) := by decide +kernel
theorem dX7_withPath_35 : decode cX7_withPath 35 = .ok (.iload 5, 2) := by decide +kernel
theorem dX7_withPath_37 : decode cX7_withPath 37 = .ok (.iload 6, 2) := by decide +kernel
theorem dX7_withPath_39 : decode cX7_withPath 39 = .ok (.invokevirtual 352, 3) := by decide +kernel
theorem dX7_withPath_42 : decode cX7_withPath 42 = .ok (.i2l, 1) := by decide +kernel
theorem dX7_withPath_43 : decode cX7_withPath 43 = .ok (.ladd, 1) := by decide +kernel
theorem dX7_withPath_44 : decode cX7_withPath 44 = .ok (.lstore_n 3, 1) := by decide +kernel
theorem dX7_withPath_45 : decode cX7_withPath 45 = .ok (.iinc 6 1, 3) := by decide +kernel
theorem dX7_withPath_48 : decode cX7_withPath 48 = .ok (.goto (-25), 3) := by decide +kernel
theorem dX7_withPath_51 : decode cX7_withPath 51 = .ok (.iinc 5 1, 3) := by decide +kernel
theorem dX7_withPath_54 : decode cX7_withPath 54 = .ok (.goto (-49), 3) := by decide +kernel
theorem dX7_withPath_57 : decode cX7_withPath 57 = .ok (.iconst 0, 1) := by decide +kernel
theorem dX7_withPath_58 : decode cX7_withPath 58 = .ok (.istore 5, 2) := by decide +kernel
theorem dX7_withPath_60 : decode cX7_withPath 60 = .ok (.iload 5, 2) := by decide +kernel
theorem dX7_withPath_62 : decode cX7_withPath 62 = .ok (.aload_n 0, 1) := by decide +kernel
theorem dX7_withPath_63 : decode cX7_withPath 63 = .ok (.getfield 35, 3) := by decide +kernel
theorem dX7_withPath_66 : decode cX7_withPath 66 = .ok (.getfield 245, 3) := by decide +kernel
theorem dX7_withPath_69 : decode cX7_withPath 69 = .ok (.invokevirtual 150, 3) := by decide +kernel
theorem dX7_withPath_72 : decode cX7_withPath 72 = .ok (.if_icmp .ge 40, 3) := by decide +kernel
theorem dX7_withPath_75 : decode cX7_withPath 75 = .ok (.iconst 0, 1) := by decide +kernel
theorem dX7_withPath_76 : decode cX7_withPath 76 = .ok (.istore 6, 2) := by decide +kernel
theorem dX7_withPath_78 : decode cX7_withPath 78 = .ok (.iload 6, 2) := by decide +kernel
theorem dX7_withPath_80 : decode cX7_withPath 80 = .ok (.iconst 3, 1) := by decide +kernel
theorem dX7_withPath_81 : decode cX7_withPath 81 = .ok (.if_icmp .gt 25, 3) := by decide +kernel
theorem dX7_withPath_84 : decode cX7_withPath 84 = .ok (.ldc2_w 309, 3) := by decide +kernel
theorem dX7_withPath_87 : decode cX7_withPath 87 = .ok (.lload_n 3, 1) := by decide +kernel
theorem dX7_withPath_88 : decode cX7_withPath 88 = .ok (.lmul, 1) := by decide +kernel
theorem dX7_withPath_89 : decode cX7_withPath 89 = .ok (.aload_n 0, 1) := by decide +kernel
theorem dX7_withPath_90 : decode cX7_withPath 90 = .ok (.iload 5, 2) := by decide +kernel
theorem dX7_withPath_92 : decode cX7_withPath 92 = .ok (.iload 6, 2) := by decide +kernel
theorem dX7_withPath_94 : decode cX7_withPath 94 = .ok (.invokevirtual 355, 3) := by decide +kernel
theorem dX7_withPath_97 : decode cX7_withPath 97 = .ok (.i2l, 1) := by decide +kernel
theorem dX7_withPath_98 : decode cX7_withPath 98 = .ok (.ladd, 1) := by decide +kernel
theorem dX7_withPath_99 : decode cX7_withPath 99 = .ok (.lstore_n 3, 1) := by decide +kernel
theorem dX7_withPath_100 : decode cX7_withPath 100 = .ok (.iinc 6 1, 3) := by decide +kernel
theorem dX7_withPath_103 : decode cX7_withPath 103 = .ok (.goto (-25), 3) := by decide +kernel
theorem dX7_withPath_106 : decode cX7_withPath 106 = .ok (.iinc 5 1, 3) := by decide +kernel
theorem dX7_withPath_109 : decode cX7_withPath 109 = .ok (.goto (-49), 3) := by decide +kernel
theorem dX7_withPath_112 : decode cX7_withPath 112 = .ok (.iconst 0, 1) := by decide +kernel
theorem dX7_withPath_113 : decode cX7_withPath 113 = .ok (.istore 5, 2) := by decide +kernel
theorem dX7_withPath_115 : decode cX7_withPath 115 = .ok (.iload 5, 2) := by decide +kernel
theorem dX7_withPath_117 : decode cX7_withPath 117 = .ok (.aload_n 0, 1) := by decide +kernel
theorem dX7_withPath_118 : decode cX7_withPath 118 = .ok (.getfield 35, 3) := by decide +kernel
theorem dX7_withPath_121 : decode cX7_withPath 121 = .ok (.getfield 147, 3) := by decide +kernel
theorem dX7_withPath_124 : decode cX7_withPath 124 = .ok (.invokevirtual 150, 3) := by decide +kernel
theorem dX7_withPath_127 : decode cX7_withPath 127 = .ok (.if_icmp .ge 29, 3) := by decide +kernel
theorem dX7_withPath_130 : decode cX7_withPath 130 = .ok (.ldc2_w 309, 3) := by decide +kernel
theorem dX7_withPath_133 : decode cX7_withPath 133 = .ok (.lload_n 3, 1) := by decide +kernel
theorem dX7_withPath_134 : decode cX7_withPath 134 = .ok (.lmul, 1) := by decide +kernel
theorem dX7_withPath_135 : decode cX7_withPath 135 = .ok (.aload_n 0, 1) := by decide +kernel
theorem dX7_withPath_136 : decode cX7_withPath 136 = .ok (.getfield 35, 3) := by decide +kernel
theorem dX7_withPath_139 : decode cX7_withPath 139 = .ok (.getfield 147, 3) := by decide +kernel
theorem dX7_withPath_142 : decode cX7_withPath 142 = .ok (.iload 5, 2) := by decide +kernel
theorem dX7_withPath_144 : decode cX7_withPath 144 = .ok (.invokevirtual 180, 3) := by decide +kernel
theorem dX7_withPath_147 : decode cX7_withPath 147 = .ok (.i2l, 1) := by decide +kernel
theorem dX7_withPath_148 : decode cX7_withPath 148 = .ok (.ladd, 1) := by decide +kernel
theorem dX7_withPath_149 : decode cX7_withPath 149 = .ok (.lstore_n 3, 1) := by decide +kernel
theorem dX7_withPath_150 : decode cX7_withPath 150 = .ok (.iinc 5 1, 3) := by decide +kernel
theorem dX7_withPath_153 : decode cX7_withPath 153 = .ok (.goto (-38), 3) := by decide +kernel
theorem dX7_withPath_156 : decode cX7_withPath 156 = .ok (.lload_n 3, 1) := by decide +kernel
theorem dX7_withPath_157 : decode cX7_withPath 157 = .ok (.lreturn, 1) := by decide +kernel
theorem dX7_withCommands_0 : decode cX7_withCommands 0 = .ok (.lload_n 1, 1) := by decide +kernel
theorem dX7_withCommands_1 : decode cX7_withCommands 1 = .ok (.lstore_n 3, 1) := by decide +kernel
theorem dX7_withCommands_2 : decode cX7_withCommands 2 = .ok (.iconst 0, 1) := by decide +kernel
theorem dX7_withCommands_3 : decode cX7_withCommands 3 = .ok (.istore 5, 2) := by decide +kernel
theorem dX7_withCommands_5 : decode cX7_withCommands 5 = .ok (.iload 5, 2) := by decide +kernel
theorem dX7_withCommands_7 : decode cX7_withCommands 7 = .ok (.aload_n 0, 1) := by decide +kernel
theorem dX7_withCommands_8 : decode cX7_withCommands 8 = .ok (.getfield 10, 3) := by decide +kernel
theorem dX7_withCommands_11 : decode cX7_withCommands 11 = .ok (.getfield 151, 3) := by decide +kernel
theorem dX7_withCommands_14 : decode cX7_withCommands 14 = .ok (.invokevirtual 155, 3) := by decide +kernel
theorem dX7_withCommands_17 : decode cX7_withCommands 17 = .ok (.if_icmp .ge 87, 3) := by decide +kernel
theorem dX7_withCommands_20 : decode cX7_withCommands 20 = .ok (.aload_n 0, 1) := by decide +kernel
theorem dX7_withCommands_21 : decode cX7_withCommands 21 = .ok (.getfield 10, 3) := by decide +kernel
theorem dX7_withCommands_24 : decode cX7_withCommands 24 = .ok (.getfield 151, 3) := by decide +kernel
theorem dX7_withCommands_27 : decode cX7_withCommands 27 = .ok (.iload 5, 2) := by decide +kernel
theorem dX7_withCommands_29 : decode cX7_withCommands 29 = .ok (.invokevirtual 257, 3) := by decide +kernel
theorem dX7_withCommands_32 : decode cX7_withCommands 32 = .ok (.astore 6, 2) := by decide +kernel
theorem dX7_withCommands_34 : decode cX7_withCommands 34 = .ok (.iconst 0, 1) := by decide +kernel
theorem dX7_withCommands_35 : decode cX7_withCommands 35 = .ok (.istore 7, 2) := by decide +kernel
theorem dX7_withCommands_37 : decode cX7_withCommands 37 = .ok (.iload 7, 2) := by decide +kernel
theorem dX7_withCommands_39 : decode cX7_withCommands 39 = .ok (.aload 6, 2) := by decide +kernel
theorem dX7_withCommands_41 : decode cX7_withCommands 41 = .ok (.invokevirtual 150, 3) := by decide +kernel
theorem dX7_withCommands_44 : decode cX7_withCommands 44 = .ok (.if_icmp .ge 24, 3) := by decide +kernel
theorem dX7_withCommands_47 : decode cX7_withCommands 47 = .ok (.ldc2_w 309, 3) := by decide +kernel
theorem dX7_withCommands_50 : decode cX7_withCommands 50 = .ok (.lload_n 3, 1) := by decide +kernel
theorem dX7_withCommands_51 : decode cX7_withCommands 51 = .ok (.lmul, 1) := by decide +kernel
theorem dX7_withCommands_52 : decode cX7_withCommands 52 = .ok (.aload 6, 2) := by decide +kernel
theorem dX7_withCommands_54 : decode cX7_withCommands 54 = .ok (.iload 7, 2) := by decide +kernel
theorem dX7_withCommands_56 : decode cX7_withCommands 56 = .ok (.invokevirtual 180, 3) := by decide +kernel
theorem dX7_withCommands_59 : decode cX7_withCommands 59 = .ok (.i2l, 1) := by decide +kernel
theorem dX7_withCommands_60 : decode cX7_withCommands 60 = .ok (.ladd, 1) := by decide +kernel
theorem dX7_withCommands_61 : decode cX7_withCommands 61 = .ok (.lstore_n 3, 1) := by decide +kernel
theorem dX7_withCommands_62 : decode cX7_withCommands 62 = .ok (.iinc 7 1, 3) := by decide +kernel
theorem dX7_withCommands_65 : decode cX7_withCommands 65 = .ok (.goto (-28), 3) := by decide +kernel
theorem dX7_withCommands_68 : decode cX7_withCommands 68 = .ok (.ldc2_w 309, 3) := by decide +kernel
theorem dX7_withCommands_71 : decode cX7_withCommands 71 = .ok (.lload_n 3, 1) := by decide +kernel
theorem dX7_withCommands_72 : decode cX7_withCommands 72 = .ok (.lmul, 1) := by decide +kernel
theorem dX7_withCommands_73 : decode cX7_withCommands 73 = .ok (.aload_n 0, 1) := by decide +kernel
theorem dX7_withCommands_74 : decode cX7_withCommands 74 = .ok (.iload 5, 2) := by decide +kernel
theorem dX7_withCommands_76 : decode cX7_withCommands 76 = .ok (.iconst (-1), 1) := by decide +kernel
theorem dX7_withCommands_77 : decode cX7_withCommands 77 = .ok (.invokevirtual 358, 3) := by decide +kernel
theorem dX7_withCommands_80 : decode cX7_withCommands 80 = .ok (.i2l, 1) := by decide +kernel
theorem dX7_withCommands_81 : decode cX7_withCommands 81 = .ok (.ladd, 1) := by decide +kernel
theorem dX7_withCommands_82 : decode cX7_withCommands 82 = .ok (.lstore_n 3, 1) := by decide +kernel
theorem dX7_withCommands_83 : decode cX7_withCommands 83 = .ok (.ldc2_w 309, 3) := by decide +kernel
theorem dX7_withCommands_86 : decode cX7_withCommands 86 = .ok (.lload_n 3, 1) := by decide +kernel
theorem dX7_withCommands_87 : decode cX7_withCommands 87 = .ok (.lmul, 1) := by decide +kernel
theorem dX7_withCommands_88 : decode cX7_withCommands 88 = .ok (.aload_n 0, 1) := by decide +kernel
theorem dX7_withCommands_89 : decode cX7_withCommands 89 = .ok (.iload 5, 2) := by decide +kernel
theorem dX7_withCommands_91 : decode cX7_withCommands 91 = .ok (.iconst 0, 1) := by decide +kernel
theorem dX7_withCommands_92 : decode cX7_withCommands 92 = .ok (.invokevirtual 358, 3) := by decide +kernel
theorem dX7_withCommands_95 : decode cX7_withCommands 95 = .ok (.i2l, 1) := by decide +kernel
theorem dX7_withCommands_96 : decode cX7_withCommands 96 = .ok (.ladd, 1) := by decide +kernel
theorem dX7_withCommands_97 : decode cX7_withCommands 97 = .ok (.lstore_n 3, 1) := by decide +kernel
theorem dX7_withCommands_98 : decode cX7_withCommands 98 = .ok (.iinc 5 1, 3) := by decide +kernel
theorem dX7_withCommands_101 : decode cX7_withCommands 101 = .ok (.goto (-96), 3) := by decide +kernel
theorem dX7_withCommands_104 : decode cX7_withCommands 104 = .ok (.lload_n 3, 1) := by decide +kernel
theorem dX7_withCommands_105 : decode cX7_withCommands 105 = .ok (.lreturn, 1) := by decide +kernel
theorem dX7_floatBits_0 : decode cX7_floatBits 0 = .ok (.fload_n 0, 1) := by decide +kernel
theorem dX7_floatBits_1 : decode cX7_floatBits 1 = .ok (.fconst 0, 1) := by decide +kernel
theorem dX7_floatBits_2 : decode cX7_floatBits 2 = .ok (.fcmp .l, 1) := by decide +kernel
theorem dX7_floatBits_3 : decode cX7_floatBits 3 = .ok (.ifCond .gt 5, 3) := by decide +kernel
theorem dX7_floatBits_6 : decode cX7_floatBits 6 = .ok (.iconst 0, 1) := by decide +kernel
theorem dX7_floatBits_7 : decode cX7_floatBits 7 = .ok (.ireturn, 1) := by decide +kernel
theorem dX7_floatBits_8 : decode cX7_floatBits 8 = .ok (.bipush 127, 2) := by decide +kernel
theorem dX7_floatBits_10 : decode cX7_floatBits 10 = .ok (.istore_n 1, 1) := by decide +kernel
theorem dX7_floatBits_11 : decode cX7_floatBits 11 = .ok (.fload_n 0, 1) := by decide +kernel
theorem dX7_floatBits_12 : decode cX7_floatBits 12 = .ok (.fstore_n 2, 1) := by decide +kernel
theorem dX7_floatBits_13 : decode cX7_floatBits 13 = .ok (.iconst 0, 1) := by decide +kernel
theorem dX7_floatBits_14 : decode cX7_floatBits 14 = .ok (.istore_n 3, 1) := by decide +kernel
theorem dX7_floatBits_15 : decode cX7_floatBits 15 = .ok (.iload_n 3, 1) := by decide +kernel
theorem dX7_floatBits_16 : decode cX7_floatBits 16 = .ok (.bipush 126, 2) := by decide +kernel
theorem dX7_floatBits_18 : decode cX7_floatBits 18 = .ok (.if_icmp .ge 22, 3) := by decide +kernel
theorem dX7_floatBits_21 : decode cX7_floatBits 21 = .ok (.fload_n 2, 1) := by decide +kernel
theorem dX7_floatBits_22 : decode cX7_floatBits 22 = .ok (.fconst 1, 1) := by decide +kernel
theorem dX7_floatBits_23 : decode cX7_floatBits 23 = .ok (.fcmp .g, 1) := by decide +kernel
theorem dX7_floatBits_24 : decode cX7_floatBits 24 = .ok (.ifCond .ge 16, 3) := by decide +kernel
theorem dX7_floatBits_27 : decode cX7_floatBits 27 = .ok (.fload_n 2, 1) := by decide +kernel
theorem dX7_floatBits_28 : decode cX7_floatBits 28 = .ok (.fconst 2, 1) := by decide +kernel
theorem dX7_floatBits_29 : decode cX7_floatBits 29 = .ok (.fmul, 1) := by decide +kernel
theorem dX7_floatBits_30 : decode cX7_floatBits 30 = .ok (.fstore_n 2, 1) := by decide +kernel
theorem dX7_floatBits_31 : decode cX7_floatBits 31 = .ok (.iinc 1 (-1), 3) := by decide +kernel
theorem dX7_floatBits_34 : decode cX7_floatBits 34 = .ok (.iinc 3 1, 3) := by decide +kernel
theorem dX7_floatBits_37 : decode cX7_floatBits 37 = .ok (.goto (-22), 3) := by decide +kernel
theorem dX7_floatBits_40 : decode cX7_floatBits 40 = .ok (.iload_n 1, 1) := by decide +kernel
theorem dX7_floatBits_41 : decode cX7_floatBits 41 = .ok (.bipush 23, 2) := by decide +kernel
theorem dX7_floatBits_43 : decode cX7_floatBits 43 = .ok (.ishl, 1) := by decide +kernel
theorem dX7_floatBits_44 : decode cX7_floatBits 44 = .ok (.fload_n 2, 1) := by decide +kernel
theorem dX7_floatBits_45 : decode cX7_floatBits 45 = .ok (.fconst 1, 1) := by decide +kernel
theorem dX7_floatBits_46 : decode cX7_floatBits 46 = .ok (.fsub, 1) := by decide +kernel
theorem dX7_floatBits_47 : decode cX7_floatBits 47 = .ok (.ldc_w 361, 3) := by decide +kernel
theorem dX7_floatBits_50 : decode cX7_floatBits 50 = .ok (.fmul, 1) := by decide +kernel
theorem dX7_floatBits_51 : decode cX7_floatBits 51 = .ok (.f2i, 1) := by decide +kernel
theorem dX7_floatBits_52 : decode cX7_floatBits 52 = .ok (.iadd, 1) := by decide +kernel
theorem dX7_floatBits_53 : decode cX7_floatBits 53 = .ok (.ireturn, 1) := by decide +kernel
theorem dX7_doubleBits_0 : decode cX7_doubleBits 0 = .ok (.dload_n 0, 1) := by decide +kernel
theorem dX7_doubleBits_1 : decode cX7_doubleBits 1 = .ok (.dconst 0, 1) := by decide +kernel
theorem dX7_doubleBits_2 : decode cX7_doubleBits 2 = .ok (.dcmp .l, 1) := by decide +kernel
theorem dX7_doubleBits_3 : decode cX7_doubleBits 3 = .ok (.ifCond .gt 5, 3) := by decide +kernel
theorem dX7_doubleBits_6 : decode cX7_doubleBits 6 = .ok (.lconst 0, 1) := by decide +kernel
theorem dX7_doubleBits_7 : decode cX7_doubleBits 7 = .ok (.lreturn, 1) := by decide +kernel
theorem dX7_doubleBits_8 : decode cX7_doubleBits 8 = .ok (.ldc2_w 362, 3) := by decide +kernel
theorem dX7_doubleBits_11 : decode cX7_doubleBits 11 = .ok (.lstore_n 2, 1) := by decide +kernel
theorem dX7_doubleBits_12 : decode cX7_doubleBits 12 = .ok (.dload_n 0, 1) := by decide +kernel
theorem dX7_doubleBits_13 : decode cX7_doubleBits 13 = .ok (.dstore 4, 2) := by decide +kernel
theorem dX7_doubleBits_15 : decode cX7_doubleBits 15 = .ok (.iconst 0, 1) := by decide +kernel
theorem dX7_doubleBits_16 : decode cX7_doubleBits 16 = .ok (.istore 6, 2) := by decide +kernel
theorem dX7_doubleBits_18 : decode cX7_doubleBits 18 = .ok (.iload 6, 2) := by decide +kernel
theorem dX7_doubleBits_20 : decode cX7_doubleBits 20 = .ok (.sipush 1022, 3) := by decide +kernel
theorem dX7_doubleBits_23 : decode cX7_doubleBits 23 = .ok (.if_icmp .ge 28, 3) := by decide +kernel
theorem dX7_doubleBits_26 : decode cX7_doubleBits 26 = .ok (.dload 4, 2) := by decide +kernel
theorem dX7_doubleBits_28 : decode cX7_doubleBits 28 = .ok (.dconst 1, 1) := by decide +kernel
theorem dX7_doubleBits_29 : decode cX7_doubleBits 29 = .ok (.dcmp .g, 1) := by decide +kernel
theorem dX7_doubleBits_30 : decode cX7_doubleBits 30 = .ok (.ifCond .ge 21, 3) := by decide +kernel
theorem dX7_doubleBits_33 : decode cX7_doubleBits 33 = .ok (.dload 4, 2) := by decide +kernel
theorem dX7_doubleBits_35 : decode cX7_doubleBits 35 = .ok (.ldc2_w 364, 3) := by decide +kernel
theorem dX7_doubleBits_38 : decode cX7_doubleBits 38 = .ok (.dmul, 1) := by decide +kernel
theorem dX7_doubleBits_39 : decode cX7_doubleBits 39 = .ok (.dstore 4, 2) := by decide +kernel
theorem dX7_doubleBits_41 : decode cX7_doubleBits 41 = .ok (.lload_n 2, 1) := by decide +kernel
theorem dX7_doubleBits_42 : decode cX7_doubleBits 42 = .ok (.lconst 1, 1) := by decide +kernel
theorem dX7_doubleBits_43 : decode cX7_doubleBits 43 = .ok (.lsub, 1) := by decide +kernel
theorem dX7_doubleBits_44 : decode cX7_doubleBits 44 = .ok (.lstore_n 2, 1) := by decide +kernel
theorem dX7_doubleBits_45 : decode cX7_doubleBits 45 = .ok (.iinc 6 1, 3) := by decide +kernel
theorem dX7_doubleBits_48 : decode cX7_doubleBits 48 = .ok (.goto (-30), 3) := by decide +kernel
theorem dX7_doubleBits_51 : decode cX7_doubleBits 51 = .ok (.lload_n 2, 1) := by decide +kernel
theorem dX7_doubleBits_52 : decode cX7_doubleBits 52 = .ok (.bipush 52, 2) := by decide +kernel
theorem dX7_doubleBits_54 : decode cX7_doubleBits 54 = .ok (.lshl, 1) := by decide +kernel
theorem dX7_doubleBits_55 : decode cX7_doubleBits 55 = .ok (.dload 4, 2) := by decide +kernel
theorem dX7_doubleBits_57 : decode cX7_doubleBits 57 = .ok (.dconst 1, 1) := by decide +kernel
theorem dX7_doubleBits_58 : decode cX7_doubleBits 58 = .ok (.dsub, 1) := by decide +kernel
theorem dX7_doubleBits_59 : decode cX7_doubleBits 59 = .ok (.ldc2_w 366, 3) := by decide +kernel
theorem dX7_doubleBits_62 : decode cX7_doubleBits 62 = .ok (.dmul, 1) := by decide +kernel
theorem dX7_doubleBits_63 : decode cX7_doubleBits 63 = .ok (.d2l, 1) := by decide +kernel
theorem dX7_doubleBits_64 : decode cX7_doubleBits 64 = .ok (.ladd, 1) := by decide +kernel
theorem dX7_doubleBits_65 : decode cX7_doubleBits 65 = .ok (.lreturn, 1) := by decide +kernel
theorem dX7_eighthsBetween_0 : decode cX7_eighthsBetween 0 = .ok (.iload_n 0, 1) := by decide +kernel
theorem dX7_eighthsBetween_1 : decode cX7_eighthsBetween 1 = .ok (.iload_n 1, 1) := by decide +kernel
theorem dX7_eighthsBetween_2 : decode cX7_eighthsBetween 2 = .ok (.isub, 1) := by decide +kernel
theorem dX7_eighthsBetween_3 : decode cX7_eighthsBetween 3 = .ok (.bipush 7, 2) := by decide +kernel
theorem dX7_eighthsBetween_5 : decode cX7_eighthsBetween 5 = .ok (.iand, 1) := by decide +kernel
theorem dX7_eighthsBetween_6 : decode cX7_eighthsBetween 6 = .ok (.istore_n 2, 1) := by decide +kernel
theorem dX7_eighthsBetween_7 : decode cX7_eighthsBetween 7 = .ok (.iload_n 2, 1) := by decide +kernel
theorem dX7_eighthsBetween_8 : decode cX7_eighthsBetween 8 = .ok (.iconst 4, 1) := by decide +kernel
theorem dX7_eighthsBetween_9 : decode cX7_eighthsBetween 9 = .ok (.if_icmp .gt 7, 3) := by decide +kernel
theorem dX7_eighthsBetween_12 : decode cX7_eighthsBetween 12 = .ok (.iload_n 2, 1) := by decide +kernel
theorem dX7_eighthsBetween_13 : decode cX7_eighthsBetween 13 = .ok (.goto 7, 3) := by decide +kernel
theorem dX7_eighthsBetween_16 : decode cX7_eighthsBetween 16 = .ok (.bipush 8, 2) := by decide +kernel
theorem dX7_eighthsBetween_18 : decode cX7_eighthsBetween 18 = .ok (.iload_n 2, 1) := by decide +kernel
theorem dX7_eighthsBetween_19 : decode cX7_eighthsBetween 19 = .ok (.isub, 1) := by decide +kernel
theorem dX7_eighthsBetween_20 : decode cX7_eighthsBetween 20 = .ok (.ireturn, 1) := by decide +kernel
theorem dX7_isCutCorner_0 : decode cX7_isCutCorner 0 = .ok (.iload_n 2, 1) := by decide +kernel
theorem dX7_isCutCorner_1 : decode cX7_isCutCorner 1 = .ok (.iconst 1, 1) := by decide +kernel
theorem dX7_isCutCorner_2 : decode cX7_isCutCorner 2 = .ok (.if_icmp .lt 22, 3) := by decide +kernel
theorem dX7_isCutCorner_5 : decode cX7_isCutCorner 5 = .ok (.iload_n 2, 1) := by decide +kernel
theorem dX7_isCutCorner_6 : decode cX7_isCutCorner 6 = .ok (.iconst 1, 1) := by decide +kernel
theorem dX7_isCutCorner_7 : decode cX7_isCutCorner 7 = .ok (.iadd, 1) := by decide +kernel
theorem dX7_isCutCorner_8 : decode cX7_isCutCorner 8 = .ok (.aload_n 0, 1) := by decide +kernel
theorem dX7_isCutCorner_9 : decode cX7_isCutCorner 9 = .ok (.invokevirtual 150, 3) := by decide +kernel
theorem dX7_isCutCorner_12 : decode cX7_isCutCorner 12 = .ok (.if_icmp .ge 12, 3) := by decide +kernel
theorem dX7_isCutCorner_15 : decode cX7_isCutCorner 15 = .ok (.aload_n 1, 1) := by decide +kernel
theorem dX7_isCutCorner_16 : decode cX7_isCutCorner 16 = .ok (.iload_n 2, 1) := by decide +kernel
theorem dX7_isCutCorner_17 : decode cX7_isCutCorner 17 = .ok (.invokevirtual 180, 3) := by decide +kernel
theorem dX7_isCutCorner_20 : decode cX7_isCutCorner 20 = .ok (.iload_n 3, 1) := by decide +kernel
theorem dX7_isCutCorner_21 : decode cX7_isCutCorner 21 = .ok (.if_icmp .le 5, 3) := by decide +kernel
theorem dX7_isCutCorner_24 : decode cX7_isCutCorner 24 = .ok (.iconst 0, 1) := by decide +kernel
theorem dX7_isCutCorner_25 : decode cX7_isCutCorner 25 = .ok (.ireturn, 1) := by decide +kernel
theorem dX7_isCutCorner_26 : decode cX7_isCutCorner 26 = .ok (.aload_n 0, 1) := by decide +kernel
theorem dX7_isCutCorner_27 : decode cX7_isCutCorner 27 = .ok (.iload_n 2, 1) := by decide +kernel
theorem dX7_isCutCorner_28 : decode cX7_isCutCorner 28 = .ok (.iconst 1, 1) := by decide +kernel
theorem dX7_isCutCorner_29 : decode cX7_isCutCorner 29 = .ok (.isub, 1) := by decide +kernel
theorem dX7_isCutCorner_30 : decode cX7_isCutCorner 30 = .ok (.invokevirtual 180, 3) := by decide +kernel
theorem dX7_isCutCorner_33 : decode cX7_isCutCorner 33 = .ok (.istore 4, 2) := by decide +kernel
theorem dX7_isCutCorner_35 : decode cX7_isCutCorner 35 = .ok (.aload_n 0, 1) := by decide +kernel
theorem dX7_isCutCorner_36 : decode cX7_isCutCorner 36 = .ok (.iload_n 2, 1) := by decide +kernel
theorem dX7_isCutCorner_37 : decode cX7_isCutCorner 37 = .ok (.invokevirtual 180, 3) := by decide +kernel
theorem dX7_isCutCorner_40 : decode cX7_isCutCorner 40 = .ok (.istore 5, 2) := by decide +kernel
theorem dX7_isCutCorner_42 : decode cX7_isCutCorner 42 = .ok (.aload_n 0, 1) := by decide +kernel
theorem dX7_isCutCorner_43 : decode cX7_isCutCorner 43 = .ok (.iload_n 2, 1) := by decide +kernel
theorem dX7_isCutCorner_44 : decode cX7_isCutCorner 44 = .ok (.iconst 1, 1) := by decide +kernel
theorem dX7_isCutCorner_45 : decode cX7_isCutCorner 45 = .ok (.iadd, 1) := by decide +kernel
theorem dX7_isCutCorner_46 : decode cX7_isCutCorner 46 = .ok (.invokevirtual 180, 3) := by decide +kernel
theorem dX7_isCutCorner_49 : decode cX7_isCutCorner 49 = .ok (.istore 6, 2) := by decide +kernel
theorem dX7_isCutCorner_51 : decode cX7_isCutCorner 51 = .ok (.iload 4, 2) := by decide +kernel
theorem dX7_isCutCorner_53 : decode cX7_isCutCorner 53 = .ok (.iload 5, 2) := by decide +kernel
theorem dX7_isCutCorner_55 : decode cX7_isCutCorner 55 = .ok (.invokestatic 368, 3) := by decide +kernel
theorem dX7_isCutCorner_58 : decode cX7_isCutCorner 58 = .ok (.iconst 1, 1) := by decide +kernel
theorem dX7_isCutCorner_59 : decode cX7_isCutCorner 59 = .ok (.if_icmp .ne 29, 3) := by decide +kernel
theorem dX7_isCutCorner_62 : decode cX7_isCutCorner 62 = .ok (.iload 5, 2) := by decide +kernel
theorem dX7_isCutCorner_64 : decode cX7_isCutCorner 64 = .ok (.iload 6, 2) := by decide +kernel
theorem dX7_isCutCorner_66 : decode cX7_isCutCorner 66 = .ok (.invokestatic 368, 3) := by decide +kernel
theorem dX7_isCutCorner_69 : decode cX7_isCutCorner 69 = .ok (.iconst 1, 1) := by decide +kernel
theorem dX7_isCutCorner_70 : decode cX7_isCutCorner 70 = .ok (.if_icmp .ne 18, 3) := by decide +kernel
theorem dX7_isCutCorner_73 : decode cX7_isCutCorner 73 = .ok (.iload 4, 2) := by decide +kernel
theorem dX7_isCutCorner_75 : decode cX7_isCutCorner 75 = .ok (.iload 6, 2) := by decide +kernel
theorem dX7_isCutCorner_77 : decode cX7_isCutCorner 77 = .ok (.invokestatic 368, 3) := by decide +kernel
theorem dX7_isCutCorner_80 : decode cX7_isCutCorner 80 = .ok (.iconst 2, 1) := by decide +kernel
theorem dX7_isCutCorner_81 : decode cX7_isCutCorner 81 = .ok (.if_icmp .ne 7, 3) := by decide +kernel
theorem dX7_isCutCorner_84 : decode cX7_isCutCorner 84 = .ok (.iconst 1, 1) := by decide +kernel
theorem dX7_isCutCorner_85 : decode cX7_isCutCorner 85 = .ok (.goto 4, 3) := by decide +kernel
theorem dX7_isCutCorner_88 : decode cX7_isCutCorner 88 = .ok (.iconst 0, 1) := by decide +kernel
theorem dX7_isCutCorner_89 : decode cX7_isCutCorner 89 = .ok (.ireturn, 1) := by decide +kernel
theorem dX8_init_0 : decode cX8_init 0 = .ok (.aload_n 0, 1) := by decide +kernel
theorem dX8_init_1 : decode cX8_init 1 = .ok (.invokespecial 1, 3) := by decide +kernel
theorem dX8_init_4 : decode cX8_init 4 = .ok (.aload_n 0, 1) := by decide +kernel
theorem dX8_init_5 : decode cX8_init 5 = .ok (.sipush 177, 3) := by decide +kernel
theorem dX8_init_8 : decode cX8_init 8 = .ok (.newarray .int, 2) := by decide +kernel
theorem dX8_init_10 : decode cX8_init 10 = .ok (.putfield 7, 3) := by decide +kernel
theorem dX8_init_13 : decode cX8_init 13 = .ok (.aload_n 0, 1) := by decide +kernel
theorem dX8_init_14 : decode cX8_init 14 = .ok (.sipush 1062, 3) := by decide +kernel
theorem dX8_init_17 : decode cX8_init 17 = .ok (.newarray .int, 2) := by decide +kernel
theorem dX8_init_19 : decode cX8_init 19 = .ok (.putfield 13, 3) := by decide +kernel
theorem dX8_init_22 : decode cX8_init 22 = .ok (.aload_n 0, 1) := by decide +kernel
theorem dX8_init_23 : decode cX8_init 23 = .ok (.bipush 60, 2) := by decide +kernel
theorem dX8_init_25 : decode cX8_init 25 = .ok (.newarray .int, 2) := by decide +kernel
theorem dX8_init_27 : decode cX8_init 27 = .ok (.putfield 16, 3) := by decide +kernel
theorem dX8_init_30 : decode cX8_init 30 = .ok (.aload_n 0, 1) := by decide +kernel
theorem dX8_init_31 : decode cX8_init 31 = .ok (.bipush 41, 2) := by decide +kernel
theorem dX8_init_33 : decode cX8_init 33 = .ok (.newarray .int, 2) := by decide +kernel
theorem dX8_init_35 : decode cX8_init 35 = .ok (.putfield 19, 3) := by decide +kernel
theorem dX8_init_38 : decode cX8_init 38 = .ok (.aload_n 0, 1) := by decide +kernel
theorem dX8_init_39 : decode cX8_init 39 = .ok (.bipush 41, 2) := by decide +kernel
theorem dX8_init_41 : decode cX8_init 41 = .ok (.newarray .int, 2) := by decide +kernel
theorem dX8_init_43 : decode cX8_init 43 = .ok (.putfield 22, 3) := by decide +kernel
theorem dX8_init_46 : decode cX8_init 46 = .ok (.aload_n 0, 1) := by decide +kernel
theorem dX8_init_47 : decode cX8_init 47 = .ok (.bipush 40, 2) := by decide +kernel
theorem dX8_init_49 : decode cX8_init 49 = .ok (.newarray .int, 2) := by decide +kernel
theorem dX8_init_51 : decode cX8_init 51 = .ok (.putfield 25, 3) := by decide +kernel
theorem dX8_init_54 : decode cX8_init 54 = .ok (.aload_n 0, 1) := by decide +kernel
theorem dX8_init_55 : decode cX8_init 55 = .ok (.bipush 40, 2) := by decide +kernel
theorem dX8_init_57 : decode cX8_init 57 = .ok (.newarray .int, 2) := by decide +kernel
theorem dX8_init_59 : decode cX8_init 59 = .ok (.putfield 28, 3) := by decide +kernel
theorem dX8_init_62 : decode cX8_init 62 = .ok (.aload_n 0, 1) := by decide +kernel
theorem dX8_init_63 : decode cX8_init 63 = .ok (.bipush 40, 2) := by decide +kernel
theorem dX8_init_65 : decode cX8_init 65 = .ok (.newarray .int, 2) := by decide +kernel
theorem dX8_init_67 : decode cX8_init 67 = .ok (.putfield 31, 3) := by decide +kernel
theorem dX8_init_70 : decode cX8_init 70 = .ok (.aload_n 0, 1) := by decide +kernel
theorem dX8_init_71 : decode cX8_init 71 = .ok (.bipush 9, 2) := by decide +kernel
theorem dX8_init_73 : decode cX8_init 73 = .ok (.newarray .int, 2) := by decide +kernel
theorem dX8_init_75 : decode cX8_init 75 = .ok (.putfield 34, 3) := by decide +kernel
theorem dX8_init_78 : decode cX8_init 78 = .ok (.aload_n 0, 1) := by decide +kernel
theorem dX8_init_79 : decode cX8_init 79 = .ok (.bipush 40, 2) := by decide +kernel
theorem dX8_init_81 : decode cX8_init 81 = .ok (.newarray .int, 2) := by decide +kernel
theorem dX8_init_83 : decode cX8_init 83 = .ok (.putfield 37, 3) := by decide +kernel
theorem dX8_init_86 : decode cX8_init 86 = .ok (.aload_n 0, 1) := by decide +kernel
theorem dX8_init_87 : decode cX8_init 87 = .ok (.bipush 40, 2) := by decide +kernel
theorem dX8_init_89 : decode cX8_init 89 = .ok (.newarray .int, 2) := by decide +kernel
theorem dX8_init_91 : decode cX8_init 91 = .ok (.putfield 40, 3) := by decide +kernel
theorem dX8_init_94 : decode cX8_init 94 = .ok (.aload_n 0, 1) := by decide +kernel
theorem dX8_init_95 : decode cX8_init 95 = .ok (.getfield 7, 3) := by decide +kernel
theorem dX8_init_98 : decode cX8_init 98 = .ok (.iconst 0, 1) := by decide +kernel
theorem dX8_init_99 : decode cX8_init 99 = .ok (.iconst 2, 1) := by decide +kernel
theorem dX8_init_100 : decode cX8_init 100 = .ok (.iastore, 1) := by decide +kernel
theorem dX8_init_101 : decode cX8_init 101 = .ok (.aload_n 0, 1) := by decide +kernel
theorem dX8_init_102 : decode cX8_init 102 = .ok (.getfield 7, 3) := by decide +kernel
theorem dX8_init_105 : decode cX8_init 105 = .ok (.iconst 1, 1) := by decide +kernel
theorem dX8_init_106 : decode cX8_init 106 = .ok (.iconst 2, 1) := by decide +kernel
theorem dX8_init_107 : decode cX8_init 107 = .ok (.iastore, 1) := by decide +kernel
theorem dX8_init_108 : decode cX8_init 108 = .ok (.aload_n 0, 1) := by decide +kernel
theorem dX8_init_109 : decode cX8_init 109 = .ok (.getfield 7, 3) := by decide +kernel
theorem dX8_init_112 : decode cX8_init 112 = .ok (.iconst 2, 1) := by decide +kernel
theorem dX8_init_113 : decode cX8_init 113 = .ok (.iconst 2, 1) := by decide +kernel
theorem dX8_init_114 : decode cX8_init 114 = .ok (.iastore, 1) := by decide +kernel
theorem dX8_init_115 : decode cX8_init 115 = .ok (.aload_n 0, 1) := by decide +kernel
theorem dX8_init_116 : decode cX8_init 116 = .ok (.getfield 7, 3) := by decide +kernel
theorem dX8_init_119 : decode cX8_init 119 = .ok (.iconst 3, 1) := by decide +kernel
theorem dX8_init_120 : decode cX8_init 120 = .ok (.iconst 3, 1) := by decide +kernel
theorem dX8_init_121 : decode cX8_init 121 = .ok (.iastore, 1) := by decide +kernel
theorem dX8_init_122 : decode cX8_init 122 = .ok (.aload_n 0, 1) := by decide +kernel
theorem dX8_init_123 : decode cX8_init 123 = .ok (.getfield 7, 3) := by decide +kernel
theorem dX8_init_126 : decode cX8_init 126 = .ok (.iconst 4, 1) := by decide +kernel
theorem dX8_init_127 : decode cX8_init 127 = .ok (.iconst 2, 1) := by decide +kernel
theorem dX8_init_128 : decode cX8_init 128 = .ok (.iastore, 1) := by decide +kernel
theorem dX8_init_129 : decode cX8_init 129 = .ok (.return_, 1) := by decide +kernel
theorem dX8_thrown_0 : decode cX8_thrown 0 = .ok (.aload_n 0, 1) := by decide +kernel
theorem dX8_thrown_1 : decode cX8_thrown 1 = .ok (.getfield 43, 3) := by decide +kernel
theorem dX8_thrown_4 : decode cX8_thrown 4 = .ok (.ireturn, 1) := by decide +kernel
theorem dX8_within_0 : decode cX8_within 0 = .ok (.iload_n 0, 1) := by decide +kernel
theorem dX8_within_1 : decode cX8_within 1 = .ok (.iload_n 1, 1) := by decide +kernel
theorem dX8_within_2 : decode cX8_within 2 = .ok (.if_icmp .lt 12, 3) := by decide +kernel
theorem dX8_within_5 : decode cX8_within 5 = .ok (.iload_n 0, 1) := by decide +kernel
theorem dX8_within_6 : decode cX8_within 6 = .ok (.iload_n 2, 1) := by decide +kernel
theorem dX8_within_7 : decode cX8_within 7 = .ok (.if_icmp .gt 7, 3) := by decide +kernel
theorem dX8_within_10 : decode cX8_within 10 = .ok (.iconst 1, 1) := by decide +kernel
theorem dX8_within_11 : decode cX8_within 11 = .ok (.goto 4, 3) := by decide +kernel
theorem dX8_within_14 : decode cX8_within 14 = .ok (.iconst 0, 1) := by decide +kernel
theorem dX8_within_15 : decode cX8_within 15 = .ok (.ireturn, 1) := by decide +kernel
theorem dX8_save_0 : decode cX8_save 0 = .ok (.aload_n 0, 1) := by decide +kernel
theorem dX8_save_1 : decode cX8_save 1 = .ok (.getfield 47, 3) := by decide +kernel
theorem dX8_save_4 : decode cX8_save 4 = .ok (.bipush 6, 2) := by decide +kernel
theorem dX8_save_6 : decode cX8_save 6 = .ok (.if_icmp .ne 46, 3) := by decide +kernel
theorem dX8_save_9 : decode cX8_save 9 = .ok (.sipush 177, 3) := by decide +kernel
theorem dX8_save_12 : decode cX8_save 12 = .ok (.istore_n 1, 1) := by decide +kernel
theorem dX8_save_13 : decode cX8_save 13 = .ok (.iload_n 1, 1) := by decide +kernel
theorem dX8_save_14 : decode cX8_save 14 = .ok (.sipush 1062, 3) := by decide +kernel
theorem dX8_save_17 : decode cX8_save 17 = .ok (.if_icmp .ge 25, 3) := by decide +kernel
theorem dX8_save_20 : decode cX8_save 20 = .ok (.aload_n 0, 1) := by decide +kernel
theorem dX8_save_21 : decode cX8_save 21 = .ok (.getfield 13, 3) := by decide +kernel
theorem dX8_save_24 : decode cX8_save 24 = .ok (.iload_n 1, 1) := by decide +kernel
theorem dX8_save_25 : decode cX8_save 25 = .ok (.sipush 177, 3) := by decide +kernel
theorem dX8_save_28 : decode cX8_save 28 = .ok (.isub, 1) := by decide +kernel
theorem dX8_save_29 : decode cX8_save 29 = .ok (.aload_n 0, 1) := by decide +kernel
theorem dX8_save_30 : decode cX8_save 30 = .ok (.getfield 13, 3) := by decide +kernel
theorem dX8_save_33 : decode cX8_save 33 = .ok (.iload_n 1, 1) := by decide +kernel
theorem dX8_save_34 : decode cX8_save 34 = .ok (.iaload, 1) := by decide +kernel
theorem dX8_save_35 : decode cX8_save 35 = .ok (.iastore, 1) := by decide +kernel
theorem dX8_save_36 : decode cX8_save 36 = .ok (.iinc 1 1, 3) := by decide +kernel
theorem dX8_save_39 : decode cX8_save 39 = .ok (.goto (-26), 3) := by decide +kernel
theorem dX8_save_42 : decode cX8_save 42 = .ok (.aload_n 0, 1) := by decide +kernel
theorem dX8_save_43 : decode cX8_save 43 = .ok (.dup, 1) := by decide +kernel
theorem dX8_save_44 : decode cX8_save 44 = .ok (.getfield 47, 3) := by decide +kernel
theorem dX8_save_47 : decode cX8_save 47 = .ok (.iconst 1, 1) := by decide +kernel
theorem dX8_save_48 : decode cX8_save 48 = .ok (.isub, 1) := by decide +kernel
theorem dX8_save_49 : decode cX8_save 49 = .ok (.putfield 47, 3) := by decide +kernel
theorem dX8_save_52 : decode cX8_save 52 = .ok (.iconst 0, 1) := by decide +kernel
theorem dX8_save_53 : decode cX8_save 53 = .ok (.istore_n 1, 1) := by decide +kernel
theorem dX8_save_54 : decode cX8_save 54 = .ok (.iload_n 1, 1) := by decide +kernel
theorem dX8_save_55 : decode cX8_save 55 = .ok (.sipush 177, 3) := by decide +kernel
theorem dX8_save_58 : decode cX8_save 58 = .ok (.if_icmp .ge 30, 3) := by decide +kernel
theorem dX8_save_61 : decode cX8_save 61 = .ok (.aload_n 0, 1) := by decide +kernel
theorem dX8_save_62 : decode cX8_save 62 = .ok (.getfield 13, 3) := by decide +kernel
theorem dX8_save_65 : decode cX8_save 65 = .ok (.sipush 177, 3) := by decide +kernel
theorem dX8_save_68 : decode cX8_save 68 = .ok (.aload_n 0, 1) := by decide +kernel
theorem dX8_save_69 : decode cX8_save 69 = .ok (.getfield 47, 3) := by decide +kernel
theorem dX8_save_72 : decode cX8_save 72 = .ok (.imul, 1) := by decide +kernel
theorem dX8_save_73 : decode cX8_save 73 = .ok (.iload_n 1, 1) := by decide +kernel
theorem dX8_save_74 : decode cX8_save 74 = .ok (.iadd, 1) := by decide +kernel
theorem dX8_save_75 : decode cX8_save 75 = .ok (.aload_n 0, 1) := by decide +kernel
theorem dX8_save_76 : decode cX8_save 76 = .ok (.getfield 7, 3) := by decide +kernel
theorem dX8_save_79 : decode cX8_save 79 = .ok (.iload_n 1, 1) := by decide +kernel
theorem dX8_save_80 : decode cX8_save 80 = .ok (.iaload, 1) := by decide +kernel
theorem dX8_save_81 : decode cX8_save 81 = .ok (.iastore, 1) := by decide +kernel
theorem dX8_save_82 : decode cX8_save 82 = .ok (.iinc 1 1, 3) := by decide +kernel
theorem dX8_save_85 : decode cX8_save 85 = .ok (.goto (-31), 3) := by decide +kernel
theorem dX8_save_88 : decode cX8_save 88 = .ok (.aload_n 0, 1) := by decide +kernel
theorem dX8_save_89 : decode cX8_save 89 = .ok (.dup, 1) := by decide +kernel
theorem dX8_save_90 : decode cX8_save 90 = .ok (.getfield 47, 3) := by decide +kernel
theorem dX8_save_93 : decode cX8_save 93 = .ok (.iconst 1, 1) := by decide +kernel
theorem dX8_save_94 : decode cX8_save 94 = .ok (.iadd, 1) := by decide +kernel
theorem dX8_save_95 : decode cX8_save 95 = .ok (.putfield 47, 3) := by decide +kernel
theorem dX8_save_98 : decode cX8_save 98 = .ok (.return_, 1) := by decide +kernel
theorem dX8_size_0 : decode cX8_size 0 = .ok (.iload_n 0, 1) := by decide +kernel
theorem dX8_size_1 : decode cX8_size 1 = .ok (.ifCond .ge 8, 3) := by decide +kernel
theorem dX8_size_4 : decode cX8_size 4 = .ok (.iload_n 0, 1) := by decide +kernel
theorem dX8_size_5 : decode cX8_size 5 = .ok (.ineg, 1) := by decide +kernel
theorem dX8_size_6 : decode cX8_size 6 = .ok (.goto 4, 3) := by decide +kernel
theorem dX8_size_9 : decode cX8_size 9 = .ok (.iload_n 0, 1) := by decide +kernel
theorem dX8_size_10 : decode cX8_size 10 = .ok (.ireturn, 1) := by decide +kernel
theorem dX8_greater_0 : decode cX8_greater 0 = .ok (.iload_n 0, 1) := by decide +kernel
theorem dX8_greater_1 : decode cX8_greater 1 = .ok (.iload_n 1, 1) := by decide +kernel
theorem dX8_greater_2 : decode cX8_greater 2 = .ok (.if_icmp .le 7, 3) := by decide +kernel
theorem dX8_greater_5 : decode cX8_greater 5 = .ok (.iload_n 0, 1) := by decide +kernel
theorem dX8_greater_6 : decode cX8_greater 6 = .ok (.goto 4, 3) := by decide +kernel
theorem dX8_greater_9 : decode cX8_greater 9 = .ok (.iload_n 1, 1) := by decide +kernel
theorem dX8_greater_10 : decode cX8_greater 10 = .ok (.ireturn, 1) := by decide +kernel
theorem dX8_isOnLattice_0 : decode cX8_isOnLattice 0 = .ok (.iload_n 0, 1) := by decide +kernel
theorem dX8_isOnLattice_1 : decode cX8_isOnLattice 1 = .ok (.iconst 0, 1) := by decide +kernel
theorem dX8_isOnLattice_2 : decode cX8_isOnLattice 2 = .ok (.bipush 31, 2) := by decide +kernel
theorem dX8_isOnLattice_4 : decode cX8_isOnLattice 4 = .ok (.invokestatic 50, 3) := by decide +kernel
theorem dX8_isOnLattice_7 : decode cX8_isOnLattice 7 = .ok (.ifCond .eq 17, 3) := by decide +kernel
theorem dX8_isOnLattice_10 : decode cX8_isOnLattice 10 = .ok (.iload_n 1, 1) := by decide +kernel
theorem dX8_isOnLattice_11 : decode cX8_isOnLattice 11 = .ok (.iconst 0, 1) := by decide +kernel
theorem dX8_isOnLattice_12 : decode cX8_isOnLattice 12 = .ok (.bipush 31, 2) := by decide +kernel
theorem dX8_isOnLattice_14 : decode cX8_isOnLattice 14 = .ok (.invokestatic 50, 3) := by decide +kernel
theorem dX8_isOnLattice_17 : decode cX8_isOnLattice 17 = .ok (.ifCond .eq 7, 3) := by decide +kernel
theorem dX8_isOnLattice_20 : decode cX8_isOnLattice 20 = .ok (.iconst 1, 1) := by decide +kernel
theorem dX8_isOnLattice_21 : decode cX8_isOnLattice 21 = .ok (.goto 4, 3) := by decide +kernel
theorem dX8_isOnLattice_24 : decode cX8_isOnLattice 24 = .ok (.iconst 0, 1) := by decide +kernel
theorem dX8_isOnLattice_25 : decode cX8_isOnLattice 25 = .ok (.ireturn, 1) := by decide +kernel
theorem dX8_isDirection_0 : decode cX8_isDirection 0 = .ok (.iload_n 0, 1) := by decide +kernel
theorem dX8_isDirection_1 : decode cX8_isDirection 1 = .ok (.iconst 0, 1) := by decide +kernel
theorem dX8_isDirection_2 : decode cX8_isDirection 2 = .ok (.bipush 7, 2) := by decide +kernel
theorem dX8_isDirection_4 : decode cX8_isDirection 4 = .ok (.invokestatic 50, 3) := by decide +kernel
theorem dX8_isDirection_7 : decode cX8_isDirection 7 = .ok (.ireturn, 1) := by decide +kernel
theorem dX8_isCommand_0 : decode cX8_isCommand 0 = .ok (.iload_n 1, 1) := by decide +kernel
theorem dX8_isCommand_1 : decode cX8_isCommand 1 = .ok (.iconst 0, 1) := by decide +kernel
theorem dX8_isCommand_2 : decode cX8_isCommand 2 = .ok (.aload_n 0, 1) := by decide +kernel
theorem dX8_isCommand_3 : decode cX8_isCommand 3 = .ok (.getfield 7, 3) := by decide +kernel
theorem dX8_isCommand_6 : decode cX8_isCommand 6 = .ok (.bipush 6, 2) := by decide +kernel
theorem dX8_isCommand_8 : decode cX8_isCommand 8 = .ok (.iaload, 1) := by decide +kernel
theorem dX8_isCommand_9 : decode cX8_isCommand 9 = .ok (.iconst 1, 1) := by decide +kernel
theorem dX8_isCommand_10 : decode cX8_isCommand 10 = .ok (.isub, 1) := by decide +kernel
theorem dX8_isCommand_11 : decode cX8_isCommand 11 = .ok (.invokestatic 50, 3) := by decide +kernel
theorem dX8_isCommand_14 : decode cX8_isCommand 14 = .ok (.ireturn, 1) := by decide +kernel
theorem dX8_directionsOf_0 : decode cX8_directionsOf 0 = .ok (.aload_n 0, 1) := by decide +kernel
theorem dX8_directionsOf_1 : decode cX8_directionsOf 1 = .ok (.getfield 7, 3) := by decide +kernel
theorem dX8_directionsOf_4 : decode cX8_directionsOf 4 = .ok (.bipush 87, 2) := by decide +kernel
theorem dX8_directionsOf_6 : decode cX8_directionsOf 6 = .ok (.bipush 9, 2) := by decide +kernel
theorem dX8_directionsOf_8 : decode cX8_directionsOf 8 = .ok (.iload_n 1, 1) := by decide +kernel
theorem dX8_directionsOf_9 : decode cX8_directionsOf 9 = .ok (.imul, 1) := by decide +kernel
theorem dX8_directionsOf_10 : decode cX8_directionsOf 10 = .ok (.iadd, 1) := by decide +kernel
theorem dX8_directionsOf_11 : decode cX8_directionsOf 11 = .ok (.iaload, 1) := by decide +kernel
theorem dX8_directionsOf_12 : decode cX8_directionsOf 12 = .ok (.ireturn, 1) := by decide +kernel
theorem dX8_directionOf_0 : decode cX8_directionOf 0 = .ok (.aload_n 0, 1) := by decide +kernel
theorem dX8_directionOf_1 : decode cX8_directionOf 1 = .ok (.getfield 7, 3) := by decide +kernel
theorem dX8_directionOf_4 : decode cX8_directionOf 4 = .ok (.bipush 87, 2) := by decide +kernel
theorem dX8_directionOf_6 : decode cX8_directionOf 6 = .ok (.bipush 9, 2) := by decide +kernel
theorem dX8_directionOf_8 : decode cX8_directionOf 8 = .ok (.iload_n 1, 1) := by decide +kernel
theorem dX8_directionOf_9 : decode cX8_directionOf 9 = .ok (.imul, 1) := by decide +kernel
theorem dX8_directionOf_10 : decode cX8_directionOf 10 = .ok (.iadd, 1) := by decide +kernel
theorem dX8_directionOf_11 : decode cX8_directionOf 11 = .ok (.iconst 1, 1) := by decide +kernel
theorem dX8_directionOf_12 : decode cX8_directionOf 12 = .ok (.iadd, 1) := by decide +kernel
theorem dX8_directionOf_13 : decode cX8_directionOf 13 = .ok (.iload_n 2, 1) := by decide +kernel
theorem dX8_directionOf_14 : decode cX8_directionOf 14 = .ok (.iadd, 1) := by decide +kernel
theorem dX8_directionOf_15 : decode cX8_directionOf 15 = .ok (.iaload, 1) := by decide +kernel
theorem dX8_directionOf_16 : decode cX8_directionOf 16 = .ok (.ireturn, 1) := by decide +kernel
theorem dX8_across_0 : decode cX8_across 0 = .ok (.iload_n 0, 1) := by decide +kernel
theorem dX8_across_1 : decode cX8_across 1 = .ok (.bipush 7, 2) := by decide +kernel
theorem dX8_across_3 : decode cX8_across 3 = .ok (.iand, 1) := by decide +kernel
theorem dX8_across_4 : decode cX8_across 4 = .ok (.istore_n 1, 1) := by decide +kernel
theorem dX8_across_5 : decode cX8_across 5 = .ok (.iload_n 1, 1) := by decide +kernel
theorem dX8_across_6 : decode cX8_across 6 = .ok (.ifCond .eq 14, 3) := by decide +kernel
theorem dX8_across_9 : decode cX8_across 9 = .ok (.iload_n 1, 1) := by decide +kernel
theorem dX8_across_10 : decode cX8_across 10 = .ok (.iconst 1, 1) := by decide +kernel
theorem dX8_across_11 : decode cX8_across 11 = .ok (.if_icmp .eq 9, 3) := by decide +kernel
theorem dX8_across_14 : decode cX8_across 14 = .ok (.iload_n 1, 1) := by decide +kernel
theorem dX8_across_15 : decode cX8_across 15 = .ok (.bipush 7, 2) := by decide +kernel
theorem dX8_across_17 : decode cX8_across 17 = .ok (.if_icmp .ne 7, 3) := by decide +kernel
theorem dX8_across_20 : decode cX8_across 20 = .ok (.iconst 1, 1) := by decide +kernel
theorem dX8_across_21 : decode cX8_across 21 = .ok (.goto 19, 3) := by decide +kernel
theorem dX8_across_24 : decode cX8_across 24 = .ok (.iload_n 1, 1) := by decide +kernel
theorem dX8_across_25 : decode cX8_across 25 = .ok (.iconst 2, 1) := by decide +kernel
theorem dX8_across_26 : decode cX8_across 26 = .ok (.if_icmp .eq 9, 3) := by decide +kernel
theorem dX8_across_29 : decode cX8_across 29 = .ok (.iload_n 1, 1) := by decide +kernel
theorem dX8_across_30 : decode cX8_across 30 = .ok (.bipush 6, 2) := by decide +kernel
theorem dX8_across_32 : decode cX8_across 32 = .ok (.if_icmp .ne 7, 3) := by decide +kernel
theorem dX8_across_35 : decode cX8_across 35 = .ok (.iconst 0, 1) := by decide +kernel
theorem dX8_across_36 : decode cX8_across 36 = .ok (.goto 4, 3) := by decide +kernel
theorem dX8_across_39 : decode cX8_across 39 = .ok (.iconst (-1), 1) := by decide +kernel
theorem dX8_across_40 : decode cX8_across 40 = .ok (.ireturn, 1) := by decide +kernel
theorem dX8_down_0 : decode cX8_down 0 = .ok (.iload_n 0, 1) := by decide +kernel
theorem dX8_down_1 : decode cX8_down 1 = .ok (.bipush 6, 2) := by decide +kernel
theorem dX8_down_3 : decode cX8_down 3 = .ok (.iadd, 1) := by decide +kernel
theorem dX8_down_4 : decode cX8_down 4 = .ok (.invokestatic 54, 3) := by decide +kernel
theorem dX8_down_7 : decode cX8_down 7 = .ok (.ireturn, 1) := by decide +kernel
theorem dX8_directionBy_0 : decode cX8_directionBy 0 = .ok (.iconst (-1), 1) := by decide +kernel
theorem dX8_directionBy_1 : decode cX8_directionBy 1 = .ok (.istore_n 2, 1) := by decide +kernel
theorem dX8_directionBy_2 : decode cX8_directionBy 2 = .ok (.iconst 0, 1) := by decide +kernel
theorem dX8_directionBy_3 : decode cX8_directionBy 3 = .ok (.istore_n 3, 1) := by decide +kernel
theorem dX8_directionBy_4 : decode cX8_directionBy 4 = .ok (.iload_n 3, 1) := by decide +kernel
theorem dX8_directionBy_5 : decode cX8_directionBy 5 = .ok (.bipush 8, 2) := by decide +kernel
theorem dX8_directionBy_7 : decode cX8_directionBy 7 = .ok (.if_icmp .ge 113, 3) := by decide +kernel
theorem dX8_directionBy_10 : decode cX8_directionBy 10 = .ok (.iload_n 3, 1) := by decide +kernel
theorem dX8_directionBy_11 : decode cX8_directionBy 11 = .ok (.invokestatic 54, 3) := by decide +kernel
theorem dX8_directionBy_14 : decode cX8_directionBy 14 = .ok (.iload_n 0, 1) := by decide +kernel
theorem dX8_directionBy_15 : decode cX8_directionBy 15 = .ok (.invokestatic 58, 3) := by decide +kernel
theorem dX8_directionBy_18 : decode cX8_directionBy 18 = .ok (.imul, 1) := by decide +kernel
theorem dX8_directionBy_19 : decode cX8_directionBy 19 = .ok (.iload_n 0, 1) := by decide +kernel
theorem dX8_directionBy_20 : decode cX8_directionBy 20 = .ok (.if_icmp .ne 20, 3) := by decide +kernel
theorem dX8_directionBy_23 : decode cX8_directionBy 23 = .ok (.iload_n 3, 1) := by decide +kernel
theorem dX8_directionBy_24 : decode cX8_directionBy 24 = .ok (.invokestatic 61, 3) := by decide +kernel
theorem dX8_directionBy_27 : decode cX8_directionBy 27 = .ok (.iload_n 1, 1) := by decide +kernel
theorem dX8_directionBy_28 : decode cX8_directionBy 28 = .ok (.invokestatic 58, 3) := by decide +kernel
theorem dX8_directionBy_31 : decode cX8_directionBy 31 = .ok (.imul, 1) := by decide +kernel
theorem dX8_directionBy_32 : decode cX8_directionBy 32 = .ok (.iload_n 1, 1) := by decide +kernel
theorem dX8_directionBy_33 : decode cX8_directionBy 33 = .ok (.if_icmp .ne 7, 3) := by decide +kernel
theorem dX8_directionBy_36 : decode cX8_directionBy 36 = .ok (.iconst 1, 1) := by decide +kernel
theorem dX8_directionBy_37 : decode cX8_directionBy 37 = .ok (.goto 4, 3) := by decide +kernel
theorem dX8_directionBy_40 : decode cX8_directionBy 40 = .ok (.iconst 0, 1) := by decide +kernel
theorem dX8_directionBy_41 : decode cX8_directionBy 41 = .ok (.istore 4, 2) := by decide +kernel
theorem dX8_directionBy_43 : decode cX8_directionBy 43 = .ok (.iload_n 3, 1) := by decide +kernel
theorem dX8_directionBy_44 : decode cX8_directionBy 44 = .ok (.invokestatic 54, 3) := by decide +kernel
theorem dX8_directionBy_47 : decode cX8_directionBy 47 = .ok (.ifCond .ne 7, 3) := by decide +kernel
theorem dX8_directionBy_50 : decode cX8_directionBy 50 = .ok (.iconst 1, 1) := by decide +kernel
theorem dX8_directionBy_51 : decode cX8_directionBy 51 = .ok (.goto 4, 3) := by decide +kernel
theorem dX8_directionBy_54 : decode cX8_directionBy 54 = .ok (.iconst 0, 1) := by decide +kernel
theorem dX8_directionBy_55 : decode cX8_directionBy 55 = .ok (.iload_n 0, 1) := by decide +kernel
theorem dX8_directionBy_56 : decode cX8_directionBy 56 = .ok (.ifCond .ne 7, 3) := by decide +kernel
theorem dX8_directionBy_59 : decode cX8_directionBy 59 = .ok (.iconst 1, 1) := by decide +kernel
theorem dX8_directionBy_60 : decode cX8_directionBy 60 = .ok (.goto 4, 3) := by decide +kernel
theorem dX8_directionBy_63 : decode cX8_directionBy 63 = .ok (.iconst 0, 1) := by decide +kernel
theorem dX8_directionBy_64 : decode cX8_directionBy 64 = .ok (.if_icmp .ne 31, 3) := by decide +kernel
theorem dX8_directionBy_67 : decode cX8_directionBy 67 = .ok (.iload_n 3, 1) := by decide +kernel
theorem dX8_directionBy_68 : decode cX8_directionBy 68 = .ok (.invokestatic 61, 3) := by decide +kernel
theorem dX8_directionBy_71 : decode cX8_directionBy 71 = .ok (.ifCond .ne 7, 3) := by decide +kernel
theorem dX8_directionBy_74 : decode cX8_directionBy 74 = .ok (.iconst 1, 1) := by decide +kernel
theorem dX8_directionBy_75 : decode cX8_directionBy 75 = .ok (.goto 4, 3) := by decide +kernel
theorem dX8_directionBy_78 : decode cX8_directionBy 78 = .ok (.iconst 0, 1) := by decide +kernel
theorem dX8_directionBy_79 : decode cX8_directionBy 79 = .ok (.iload_n 1, 1) := by decide +kernel
theorem dX8_directionBy_80 : decode cX8_directionBy 80 = .ok (.ifCond .ne 7, 3) := by decide +kernel
theorem dX8_directionBy_83 : decode cX8_directionBy 83 = .ok (.iconst 1, 1) := by decide +kernel
theorem dX8_directionBy_84 : decode cX8_directionBy 84 = .ok (.goto 4, 3) := by decide +kernel
theorem dX8_directionBy_87 : decode cX8_directionBy 87 = .ok (.iconst 0, 1) := by decide +kernel
theorem dX8_directionBy_88 : decode cX8_directionBy 88 = .ok (.if_icmp .ne 7, 3) := by decide +kernel
theorem dX8_directionBy_91 : decode cX8_directionBy 91 = .ok (.iconst 1, 1) := by decide +kernel
theorem dX8_directionBy_92 : decode cX8_directionBy 92 = .ok (.goto 4, 3) := by decide +kernel
theorem dX8_directionBy_95 : decode cX8_directionBy 95 = .ok (.iconst 0, 1) := by decide +kernel
theorem dX8_directionBy_96 : decode cX8_directionBy 96 = .ok (.istore 5, 2) := by decide +kernel
theorem dX8_directionBy_98 : decode cX8_directionBy 98 = .ok (.iload 4, 2) := by decide +kernel
theorem dX8_directionBy_100 : decode cX8_directionBy 100 = .ok (.ifCond .eq 12, 3) := by decide +kernel
theorem dX8_directionBy_103 : decode cX8_directionBy 103 = .ok (.iload 5, 2) := by decide +kernel
theorem dX8_directionBy_105 : decode cX8_directionBy 105 = .ok (.ifCond .eq 7, 3) := by decide +kernel
theorem dX8_directionBy_108 : decode cX8_directionBy 108 = .ok (.iload_n 3, 1) := by decide +kernel
theorem dX8_directionBy_109 : decode cX8_directionBy 109 = .ok (.goto 4, 3) := by decide +kernel
theorem dX8_directionBy_112 : decode cX8_directionBy 112 = .ok (.iload_n 2, 1) := by decide +kernel
theorem dX8_directionBy_113 : decode cX8_directionBy 113 = .ok (.istore_n 2, 1) := by decide +kernel
theorem dX8_directionBy_114 : decode cX8_directionBy 114 = .ok (.iinc 3 1, 3) := by decide +kernel
theorem dX8_directionBy_117 : decode cX8_directionBy 117 = .ok (.goto (-113), 3) := by decide +kernel
theorem dX8_directionBy_120 : decode cX8_directionBy 120 = .ok (.iload_n 2, 1) := by decide +kernel
theorem dX8_directionBy_121 : decode cX8_directionBy 121 = .ok (.ireturn, 1) := by decide +kernel
theorem dX8_eighths_0 : decode cX8_eighths 0 = .ok (.iload_n 0, 1) := by decide +kernel
theorem dX8_eighths_1 : decode cX8_eighths 1 = .ok (.iload_n 1, 1) := by decide +kernel
theorem dX8_eighths_2 : decode cX8_eighths 2 = .ok (.isub, 1) := by decide +kernel
theorem dX8_eighths_3 : decode cX8_eighths 3 = .ok (.invokestatic 58, 3) := by decide +kernel
theorem dX8_eighths_6 : decode cX8_eighths 6 = .ok (.istore_n 2, 1) := by decide +kernel
theorem dX8_eighths_7 : decode cX8_eighths 7 = .ok (.iload_n 2, 1) := by decide +kernel
theorem dX8_eighths_8 : decode cX8_eighths 8 = .ok (.iconst 4, 1) := by decide +kernel
theorem dX8_eighths_9 : decode cX8_eighths 9 = .ok (.if_icmp .le 10, 3) := by decide +kernel
theorem dX8_eighths_12 : decode cX8_eighths 12 = .ok (.bipush 8, 2) := by decide +kernel
theorem dX8_eighths_14 : decode cX8_eighths 14 = .ok (.iload_n 2, 1) := by decide +kernel
theorem dX8_eighths_15 : decode cX8_eighths 15 = .ok (.isub, 1) := by decide +kernel
theorem dX8_eighths_16 : decode cX8_eighths 16 = .ok (.goto 4, 3) := by decide +kernel
theorem dX8_eighths_19 : decode cX8_eighths 19 = .ok (.iload_n 2, 1) := by decide +kernel
theorem dX8_eighths_20 : decode cX8_eighths 20 = .ok (.ireturn, 1) := by decide +kernel
theorem dX8_takePath_0 : decode cX8_takePath 0 = .ok (.aload_n 0, 1) := by decide +kernel
theorem dX8_takePath_1 : decode cX8_takePath 1 = .ok (.aload_n 0, 1) := by decide +kernel
theorem dX8_takePath_2 : decode cX8_takePath 2 = .ok (.getfield 7, 3) := by decide +kernel
theorem dX8_takePath_5 : decode cX8_takePath 5 = .ok (.iconst 5, 1) := by decide +kernel
theorem dX8_takePath_6 : decode cX8_takePath 6 = .ok (.iaload, 1) := by decide +kernel
theorem dX8_takePath_7 : decode cX8_takePath 7 = .ok (.putfield 64, 3) := by decide +kernel
theorem dX8_takePath_10 : decode cX8_takePath 10 = .ok (.iconst 0, 1) := by decide +kernel
theorem dX8_takePath_11 : decode cX8_takePath 11 = .ok (.istore_n 1, 1) := by decide +kernel
theorem dX8_takePath_12 : decode cX8_takePath 12 = .ok (.iload_n 1, 1) := by decide +kernel
theorem dX8_takePath_13 : decode cX8_takePath 13 = .ok (.aload_n 0, 1) := by decide +kernel
theorem dX8_takePath_14 : decode cX8_takePath 14 = .ok (.getfield 64, 3) := by decide +kernel
theorem dX8_takePath_17 : decode cX8_takePath 17 = .ok (.if_icmp .ge 45, 3) := by decide +kernel
theorem dX8_takePath_20 : decode cX8_takePath 20 = .ok (.aload_n 0, 1) := by decide +kernel
theorem dX8_takePath_21 : decode cX8_takePath 21 = .ok (.getfield 19, 3) := by decide +kernel
theorem dX8_takePath_24 : decode cX8_takePath 24 = .ok (.iload_n 1, 1) := by decide +kernel
theorem dX8_takePath_25 : decode cX8_takePath 25 = .ok (.aload_n 0, 1) := by decide +kernel
theorem dX8_takePath_26 : decode cX8_takePath 26 = .ok (.getfield 7, 3) := by decide +kernel
theorem dX8_takePath_29 : decode cX8_takePath 29 = .ok (.bipush 7, 2) := by decide +kernel
theorem dX8_takePath_31 : decode cX8_takePath 31 = .ok (.iconst 2, 1) := by decide +kernel
theorem dX8_takePath_32 : decode cX8_takePath 32 = .ok (.iload_n 1, 1) := by decide +kernel
theorem dX8_takePath_33 : decode cX8_takePath 33 = .ok (.imul, 1) := by decide +kernel
theorem dX8_takePath_34 : decode cX8_takePath 34 = .ok (.iadd, 1) := by decide +kernel
theorem dX8_takePath_35 : decode cX8_takePath 35 = .ok (.iaload, 1) := by decide +kernel
theorem dX8_takePath_36 : decode cX8_takePath 36 = .ok (.iastore, 1) := by decide +kernel
theorem dX8_takePath_37 : decode cX8_takePath 37 = .ok (.aload_n 0, 1) := by decide +kernel
theorem dX8_takePath_38 : decode cX8_takePath 38 = .ok (.getfield 22, 3) := by decide +kernel
theorem dX8_takePath_41 : decode cX8_takePath 41 = .ok (.iload_n 1, 1) := by decide +kernel
theorem dX8_takePath_42 : decode cX8_takePath 42 = .ok (.aload_n 0, 1) := by decide +kernel
theorem dX8_takePath_43 : decode cX8_takePath 43 = .ok (.getfield 7, 3) := by decide +kernel
theorem dX8_takePath_46 : decode cX8_takePath 46 = .ok (.bipush 7, 2) := by decide +kernel
theorem dX8_takePath_48 : decode cX8_takePath 48 = .ok (.iconst 2, 1) := by decide +kernel
theorem dX8_takePath_49 : decode cX8_takePath 49 = .ok (.iload_n 1, 1) := by decide +kernel
theorem dX8_takePath_50 : decode cX8_takePath 50 = .ok (.imul, 1) := by decide +kernel
theorem dX8_takePath_51 : decode cX8_takePath 51 = .ok (.iadd, 1) := by decide +kernel
theorem dX8_takePath_52 : decode cX8_takePath 52 = .ok (.iconst 1, 1) := by decide +kernel
theorem dX8_takePath_53 : decode cX8_takePath 53 = .ok (.iadd, 1) := by decide +kernel
theorem dX8_takePath_54 : decode cX8_takePath 54 = .ok (.iaload, 1) := by decide +kernel
theorem dX8_takePath_55 : decode cX8_takePath 55 = .ok (.iastore, 1) := by decide +kernel
theorem dX8_takePath_56 : decode cX8_takePath 56 = .ok (.iinc 1 1, 3) := by decide +kernel
theorem dX8_takePath_59 : decode cX8_takePath 59 = .ok (.goto (-47), 3) := by decide +kernel
theorem dX8_takePath_62 : decode cX8_takePath 62 = .ok (.return_, 1) := by decide +kernel
theorem dX8_stepDirection_0 : decode cX8_stepDirection 0 = .ok (.iload_n 1, 1) := by decide +kernel
theorem dX8_stepDirection_1 : decode cX8_stepDirection 1 = .ok (.ifCond .ne 7, 3) := by decide +kernel
theorem dX8_stepDirection_4 : decode cX8_stepDirection 4 = .ok (.iconst (-1), 1) := by decide +kernel
theorem dX8_stepDirection_5 : decode cX8_stepDirection 5 = .ok (.goto 36, 3) := by decide +kernel
theorem dX8_stepDirection_8 : decode cX8_stepDirection 8 = .ok (.aload_n 0, 1) := by decide +kernel
theorem dX8_stepDirection_9 : decode cX8_stepDirection 9 = .ok (.getfield 19, 3) := by decide +kernel
theorem dX8_stepDirection_12 : decode cX8_stepDirection 12 = .ok (.iload_n 1, 1) := by decide +kernel
theorem dX8_stepDirection_13 : decode cX8_stepDirection 13 = .ok (.iaload, 1) := by decide +kernel
theorem dX8_stepDirection_14 : decode cX8_stepDirection 14 = .ok (.aload_n 0, 1) := by decide +kernel
theorem dX8_stepDirection_15 : decode cX8_stepDirection 15 = .ok (.getfield 19, 3) := by decide +kernel
theorem dX8_stepDirection_18 : decode cX8_stepDirection 18 = .ok (.iload_n 1, 1) := by decide +kernel
theorem dX8_stepDirection_19 : decode cX8_stepDirection 19 = .ok (.iconst 1, 1) := by decide +kernel
theorem dX8_stepDirection_20 : decode cX8_stepDirection 20 = .ok (.isub, 1) := by decide +kernel
theorem dX8_stepDirection_21 : decode cX8_stepDirection 21 = .ok (.iaload, 1) := by decide +kernel
theorem dX8_stepDirection_22 : decode cX8_stepDirection 22 = .ok (.isub, 1) := by decide +kernel
theorem dX8_stepDirection_23 : decode cX8_stepDirection 23 = .ok (.aload_n 0, 1) := by decide +kernel
theorem dX8_stepDirection_24 : decode cX8_stepDirection 24 = .ok (.getfield 22, 3) := by decide +kernel
theorem dX8_stepDirection_27 : decode cX8_stepDirection 27 = .ok (.iload_n 1, 1) := by decide +kernel
theorem dX8_stepDirection_28 : decode cX8_stepDirection 28 = .ok (.iaload, 1) := by decide +kernel
theorem dX8_stepDirection_29 : decode cX8_stepDirection 29 = .ok (.aload_n 0, 1) := by decide +kernel
theorem dX8_stepDirection_30 : decode cX8_stepDirection 30 = .ok (.getfield 22, 3) := by decide +kernel
theorem dX8_stepDirection_33 : decode cX8_stepDirection 33 = .ok (.iload_n 1, 1) := by decide +kernel
theorem dX8_stepDirection_34 : decode cX8_stepDirection 34 = .ok (.iconst 1, 1) := by decide +kernel
theorem dX8_stepDirection_35 : decode cX8_stepDirection 35 = .ok (.isub, 1) := by decide +kernel
theorem dX8_stepDirection_36 : decode cX8_stepDirection 36 = .ok (.iaload, 1) := by decide +kernel
theorem dX8_stepDirection_37 : decode cX8_stepDirection 37 = .ok (.isub, 1) := by decide +kernel
theorem dX8_stepDirection_38 : decode cX8_stepDirection 38 = .ok (.invokestatic 67, 3) := by decide +kernel
theorem dX8_stepDirection_41 : decode cX8_stepDirection 41 = .ok (.ireturn, 1) := by decide +kernel
theorem dX8_stepLength_0 : decode cX8_stepLength 0 = .ok (.iload_n 1, 1) := by decide +kernel
theorem dX8_stepLength_1 : decode cX8_stepLength 1 = .ok (.ifCond .ne 7, 3) := by decide +kernel
theorem dX8_stepLength_4 : decode cX8_stepLength 4 = .ok (.iconst 0, 1) := by decide +kernel
theorem dX8_stepLength_5 : decode cX8_stepLength 5 = .ok (.goto 42, 3) := by decide +kernel
theorem dX8_stepLength_8 : decode cX8_stepLength 8 = .ok (.aload_n 0, 1) := by decide +kernel
theorem dX8_stepLength_9 : decode cX8_stepLength 9 = .ok (.getfield 19, 3) := by decide +kernel
theorem dX8_stepLength_12 : decode cX8_stepLength 12 = .ok (.iload_n 1, 1) := by decide +kernel
theorem dX8_stepLength_13 : decode cX8_stepLength 13 = .ok (.iaload, 1) := by decide +kernel
theorem dX8_stepLength_14 : decode cX8_stepLength 14 = .ok (.aload_n 0, 1) := by decide +kernel
theorem dX8_stepLength_15 : decode cX8_stepLength 15 = .ok (.getfield 19, 3) := by decide +kernel
theorem dX8_stepLength_18 : decode cX8_stepLength 18 = .ok (.iload_n 1, 1) := by decide +kernel
theorem dX8_stepLength_19 : decode cX8_stepLength 19 = .ok (.iconst 1, 1) := by decide +kernel
theorem dX8_stepLength_20 : decode cX8_stepLength 20 = .ok (.isub, 1) := by decide +kernel
theorem dX8_stepLength_21 : decode cX8_stepLength 21 = .ok (.iaload, 1) := by decide +kernel
theorem dX8_stepLength_22 : decode cX8_stepLength 22 = .ok (.isub, 1) := by decide +kernel
theorem dX8_stepLength_23 : decode cX8_stepLength 23 = .ok (.invokestatic 58, 3) := by decide +kernel
theorem dX8_stepLength_26 : decode cX8_stepLength 26 = .ok (.aload_n 0, 1) := by decide +kernel
theorem dX8_stepLength_27 : decode cX8_stepLength 27 = .ok (.getfield 22, 3) := by decide +kernel
theorem dX8_stepLength_30 : decode cX8_stepLength 30 = .ok (.iload_n 1, 1) := by decide +kernel
theorem dX8_stepLength_31 : decode cX8_stepLength 31 = .ok (.iaload, 1) := by decide +kernel
theorem dX8_stepLength_32 : decode cX8_stepLength 32 = .ok (.aload_n 0, 1) := by decide +kernel
theorem dX8_stepLength_33 : decode cX8_stepLength 33 = .ok (.getfield 22, 3) := by decide +kernel
theorem dX8_stepLength_36 : decode cX8_stepLength 36 = .ok (.iload_n 1, 1) := by decide +kernel
theorem dX8_stepLength_37 : decode cX8_stepLength 37 = .ok (.iconst 1, 1) := by decide +kernel
theorem dX8_stepLength_38 : decode cX8_stepLength 38 = .ok (.isub, 1) := by decide +kernel
theorem dX8_stepLength_39 : decode cX8_stepLength 39 = .ok (.iaload, 1) := by decide +kernel
theorem dX8_stepLength_40 : decode cX8_stepLength 40 = .ok (.isub, 1) := by decide +kernel
theorem dX8_stepLength_41 : decode cX8_stepLength 41 = .ok (.invokestatic 58, 3) := by decide +kernel
theorem dX8_stepLength_44 : decode cX8_stepLength 44 = .ok (.invokestatic 71, 3) := by decide +kernel
theorem dX8_stepLength_47 : decode cX8_stepLength 47 = .ok (.ireturn, 1) := by decide +kernel
theorem dX8_layRuns_0 : decode cX8_layRuns 0 = .ok (.aload_n 0, 1) := by decide +kernel
theorem dX8_layRuns_1 : decode cX8_layRuns 1 = .ok (.iconst 0, 1) := by decide +kernel
theorem dX8_layRuns_2 : decode cX8_layRuns 2 = .ok (.putfield 74, 3) := by decide +kernel
theorem dX8_layRuns_5 : decode cX8_layRuns 5 = .ok (.iconst 1, 1) := by decide +kernel
theorem dX8_layRuns_6 : decode cX8_layRuns 6 = .ok (.istore_n 1, 1) := by decide +kernel
theorem dX8_layRuns_7 : decode cX8_layRuns 7 = .ok (.iload_n 1, 1) := by decide +kernel
theorem dX8_layRuns_8 : decode cX8_layRuns 8 = .ok (.aload_n 0, 1) := by decide +kernel
theorem dX8_layRuns_9 : decode cX8_layRuns 9 = .ok (.getfield 64, 3) := by decide +kernel
theorem dX8_layRuns_12 : decode cX8_layRuns 12 = .ok (.if_icmp .ge 91, 3) := by decide +kernel
theorem dX8_layRuns_15 : decode cX8_layRuns 15 = .ok (.aload_n 0, 1) := by decide +kernel
theorem dX8_layRuns_16 : decode cX8_layRuns 16 = .ok (.iload_n 1, 1) := by decide +kernel
theorem dX8_layRuns_17 : decode cX8_layRuns 17 = .ok (.invokevirtual 77, 3) := by decide +kernel
theorem dX8_layRuns_20 : decode cX8_layRuns 20 = .ok (.istore_n 2, 1) := by decide +kernel
theorem dX8_layRuns_21 : decode cX8_layRuns 21 = .ok (.iload_n 2, 1) := by decide +kernel
theorem dX8_layRuns_22 : decode cX8_layRuns 22 = .ok (.iconst (-1), 1) := by decide +kernel
theorem dX8_layRuns_23 : decode cX8_layRuns 23 = .ok (.if_icmp .eq 74, 3) := by decide +kernel
theorem dX8_layRuns_26 : decode cX8_layRuns 26 = .ok (.aload_n 0, 1) := by decide +kernel
theorem dX8_layRuns_27 : decode cX8_layRuns 27 = .ok (.getfield 74, 3) := by decide +kernel
theorem dX8_layRuns_30 : decode cX8_layRuns 30 = .ok (.ifCond .eq 18, 3) := by decide +kernel
theorem dX8_layRuns_33 : decode cX8_layRuns 33 = .ok (.aload_n 0, 1) := by decide +kernel
theorem dX8_layRuns_34 : decode cX8_layRuns 34 = .ok (.getfield 25, 3) := by decide +kernel
theorem dX8_layRuns_37 : decode cX8_layRuns 37 = .ok (.aload_n 0, 1) := by decide +kernel
theorem dX8_layRuns_38 : decode cX8_layRuns 38 = .ok (.getfield 74, 3) := by decide +kernel
theorem dX8_layRuns_41 : decode cX8_layRuns 41 = .ok (.iconst 1, 1) := by decide +kernel
theorem dX8_layRuns_42 : decode cX8_layRuns 42 = .ok (.isub, 1) := by decide +kernel
theorem dX8_layRuns_43 : decode cX8_layRuns 43 = .ok (.iaload, 1) := by decide +kernel
theorem dX8_layRuns_44 : decode cX8_layRuns 44 = .ok (.iload_n 2, 1) := by decide +kernel
theorem dX8_layRuns_45 : decode cX8_layRuns 45 = .ok (.if_icmp .eq 33, 3) := by decide +kernel
theorem dX8_layRuns_48 : decode cX8_layRuns 48 = .ok (.aload_n 0, 1) := by decide +kernel
theorem dX8_layRuns_49 : decode cX8_layRuns 49 = .ok (.getfield 25, 3) := by decide +kernel
theorem dX8_layRuns_52 : decode cX8_layRuns 52 = .ok (.aload_n 0, 1) := by decide +kernel
theorem dX8_layRuns_53 : decode cX8_layRuns 53 = .ok (.getfield 74, 3) := by decide +kernel
theorem dX8_layRuns_56 : decode cX8_layRuns 56 = .ok (.iload_n 2, 1) := by decide +kernel
theorem dX8_layRuns_57 : decode cX8_layRuns 57 = .ok (.iastore, 1) := by decide +kernel
theorem dX8_layRuns_58 : decode cX8_layRuns 58 = .ok (.aload_n 0, 1) := by decide +kernel
theorem dX8_layRuns_59 : decode cX8_layRuns 59 = .ok (.getfield 28, 3) := by decide +kernel
theorem dX8_layRuns_62 : decode cX8_layRuns 62 = .ok (.aload_n 0, 1) := by decide +kernel
theorem dX8_layRuns_63 : decode cX8_layRuns 63 = .ok (.getfield 74, 3) := by decide +kernel
theorem dX8_layRuns_66 : decode cX8_layRuns 66 = .ok (.iconst 0, 1) := by decide +kernel
theorem dX8_layRuns_67 : decode cX8_layRuns 67 = .ok (.iastore, 1) := by decide +kernel
theorem dX8_layRuns_68 : decode cX8_layRuns 68 = .ok (.aload_n 0, 1) := by decide +kernel
theorem dX8_layRuns_69 : decode cX8_layRuns 69 = .ok (.dup, 1) := by decide +kernel
theorem dX8_layRuns_70 : decode cX8_layRuns 70 = .ok (.getfield 74, 3) := by decide +kernel
theorem dX8_layRuns_73 : decode cX8_layRuns 73 = .ok (.iconst 1, 1) := by decide +kernel
theorem dX8_layRuns_74 : decode cX8_layRuns 74 = .ok (.iadd, 1) := by decide +kernel
theorem dX8_layRuns_75 : decode cX8_layRuns 75 = .ok (.putfield 74, 3) := by decide +kernel
theorem dX8_layRuns_78 : decode cX8_layRuns 78 = .ok (.aload_n 0, 1) := by decide +kernel
theorem dX8_layRuns_79 : decode cX8_layRuns 79 = .ok (.getfield 28, 3) := by decide +kernel
theorem dX8_layRuns_82 : decode cX8_layRuns 82 = .ok (.aload_n 0, 1) := by decide +kernel
theorem dX8_layRuns_83 : decode cX8_layRuns 83 = .ok (.getfield 74, 3) := by decide +kernel
theorem dX8_layRuns_86 : decode cX8_layRuns 86 = .ok (.iconst 1, 1) := by decide +kernel
theorem dX8_layRuns_87 : decode cX8_layRuns 87 = .ok (.isub, 1) := by decide +kernel
theorem dX8_layRuns_88 : decode cX8_layRuns 88 = .ok (.dup2, 1) := by decide +kernel
theorem dX8_layRuns_89 : decode cX8_layRuns 89 = .ok (.iaload, 1) := by decide +kernel
theorem dX8_layRuns_90 : decode cX8_layRuns 90 = .ok (.aload_n 0, 1) := by decide +kernel
theorem dX8_layRuns_91 : decode cX8_layRuns 91 = .ok (.iload_n 1, 1) := by decide +kernel
theorem dX8_layRuns_92 : decode cX8_layRuns 92 = .ok (.invokevirtual 80, 3) := by decide +kernel
theorem dX8_layRuns_95 : decode cX8_layRuns 95 = .ok (.iadd, 1) := by decide +kernel
theorem dX8_layRuns_96 : decode cX8_layRuns 96 = .ok (.iastore, 1) := by decide +kernel
theorem dX8_layRuns_97 : decode cX8_layRuns 97 = .ok (.iinc 1 1, 3) := by decide +kernel
theorem dX8_layRuns_100 : decode cX8_layRuns 100 = .ok (.goto (-93), 3) := by decide +kernel
theorem dX8_layRuns_103 : decode cX8_layRuns 103 = .ok (.return_, 1) := by decide +kernel
theorem dX8_isShort_0 : decode cX8_isShort 0 = .ok (.aload_n 0, 1) := by decide +kernel
theorem dX8_isShort_1 : decode cX8_isShort 1 = .ok (.getfield 28, 3) := by decide +kernel
theorem dX8_isShort_4 : decode cX8_isShort 4 = .ok (.iload_n 1, 1) := by decide +kernel
theorem dX8_isShort_5 : decode cX8_isShort 5 = .ok (.iaload, 1) := by decide +kernel
theorem dX8_isShort_6 : decode cX8_isShort 6 = .ok (.aload_n 0, 1) := by decide +kernel
theorem dX8_isShort_7 : decode cX8_isShort 7 = .ok (.getfield 7, 3) := by decide +kernel
theorem dX8_isShort_10 : decode cX8_isShort 10 = .ok (.iconst 0, 1) := by decide +kernel
theorem dX8_isShort_11 : decode cX8_isShort 11 = .ok (.iaload, 1) := by decide +kernel
theorem dX8_isShort_12 : decode cX8_isShort 12 = .ok (.if_icmp .ge 7, 3) := by decide +kernel
theorem dX8_isShort_15 : decode cX8_isShort 15 = .ok (.iconst 1, 1) := by decide +kernel
theorem dX8_isShort_16 : decode cX8_isShort 16 = .ok (.goto 4, 3) := by decide +kernel
theorem dX8_isShort_19 : decode cX8_isShort 19 = .ok (.iconst 0, 1) := by decide +kernel
theorem dX8_isShort_20 : decode cX8_isShort 20 = .ok (.ireturn, 1) := by decide +kernel
theorem dX8_isCorner_0 : decode cX8_isCorner 0 = .ok (.iload_n 1, 1) := by decide +kernel
theorem dX8_isCorner_1 : decode cX8_isCorner 1 = .ok (.ifCond .eq 13, 3) := by decide +kernel
theorem dX8_isCorner_4 : decode cX8_isCorner 4 = .ok (.iload_n 1, 1) := by decide +kernel
theorem dX8_isCorner_5 : decode cX8_isCorner 5 = .ok (.aload_n 0, 1) := by decide +kernel
theorem dX8_isCorner_6 : decode cX8_isCorner 6 = .ok (.getfield 74, 3) := by decide +kernel
theorem dX8_isCorner_9 : decode cX8_isCorner 9 = .ok (.iconst 1, 1) := by decide +kernel
theorem dX8_isCorner_10 : decode cX8_isCorner 10 = .ok (.isub, 1) := by decide +kernel
theorem dX8_isCorner_11 : decode cX8_isCorner 11 = .ok (.if_icmp .ne 5, 3) := by decide +kernel
theorem dX8_isCorner_14 : decode cX8_isCorner 14 = .ok (.iconst 0, 1) := by decide +kernel
theorem dX8_isCorner_15 : decode cX8_isCorner 15 = .ok (.ireturn, 1) := by decide +kernel
theorem dX8_isCorner_16 : decode cX8_isCorner 16 = .ok (.aload_n 0, 1) := by decide +kernel
theorem dX8_isCorner_17 : decode cX8_isCorner 17 = .ok (.getfield 25, 3) := by decide +kernel
theorem dX8_isCorner_20 : decode cX8_isCorner 20 = .ok (.iload_n 1, 1) := by decide +kernel
theorem dX8_isCorner_21 : decode cX8_isCorner 21 = .ok (.iconst 1, 1) := by decide +kernel
theorem dX8_isCorner_22 : decode cX8_isCorner 22 = .ok (.isub, 1) := by decide +kernel
theorem dX8_isCorner_23 : decode cX8_isCorner 23 = .ok (.iaload, 1) := by decide +kernel
theorem dX8_isCorner_24 : decode cX8_isCorner 24 = .ok (.istore_n 2, 1) := by decide +kernel
theorem dX8_isCorner_25 : decode cX8_isCorner 25 = .ok (.aload_n 0, 1) := by decide +kernel
theorem dX8_isCorner_26 : decode cX8_isCorner 26 = .ok (.getfield 25, 3) := by decide +kernel
theorem dX8_isCorner_29 : decode cX8_isCorner 29 = .ok (.iload_n 1, 1) := by decide +kernel
theorem dX8_isCorner_30 : decode cX8_isCorner 30 = .ok (.iconst 1, 1) := by decide +kernel
theorem dX8_isCorner_31 : decode cX8_isCorner 31 = .ok (.iadd, 1) := by decide +kernel
theorem dX8_isCorner_32 : decode cX8_isCorner 32 = .ok (.iaload, 1) := by decide +kernel
theorem dX8_isCorner_33 : decode cX8_isCorner 33 = .ok (.istore_n 3, 1) := by decide +kernel
theorem dX8_isCorner_34 : decode cX8_isCorner 34 = .ok (.iload_n 2, 1) := by decide +kernel
theorem dX8_isCorner_35 : decode cX8_isCorner 35 = .ok (.aload_n 0, 1) := by decide +kernel
theorem dX8_isCorner_36 : decode cX8_isCorner 36 = .ok (.getfield 25, 3) := by decide +kernel
theorem dX8_isCorner_39 : decode cX8_isCorner 39 = .ok (.iload_n 1, 1) := by decide +kernel
theorem dX8_isCorner_40 : decode cX8_isCorner 40 = .ok (.iaload, 1) := by decide +kernel
theorem dX8_isCorner_41 : decode cX8_isCorner 41 = .ok (.invokestatic 83, 3) := by decide +kernel
theorem dX8_isCorner_44 : decode cX8_isCorner 44 = .ok (.iconst 1, 1) := by decide +kernel
theorem dX8_isCorner_45 : decode cX8_isCorner 45 = .ok (.if_icmp .ne 30, 3) := by decide +kernel
theorem dX8_isCorner_48 : decode cX8_isCorner 48 = .ok (.iload_n 3, 1) := by decide +kernel
theorem dX8_isCorner_49 : decode cX8_isCorner 49 = .ok (.aload_n 0, 1) := by decide +kernel
theorem dX8_isCorner_50 : decode cX8_isCorner 50 = .ok (.getfield 25, 3) := by decide +kernel
theorem dX8_isCorner_53 : decode cX8_isCorner 53 = .ok (.iload_n 1, 1) := by decide +kernel
theorem dX8_isCorner_54 : decode cX8_isCorner 54 = .ok (.iaload, 1) := by decide +kernel
theorem dX8_isCorner_55 : decode cX8_isCorner 55 = .ok (.invokestatic 83, 3) := by decide +kernel
theorem dX8_isCorner_58 : decode cX8_isCorner 58 = .ok (.iconst 1, 1) := by decide +kernel
theorem dX8_isCorner_59 : decode cX8_isCorner 59 = .ok (.if_icmp .ne 16, 3) := by decide +kernel
theorem dX8_isCorner_62 : decode cX8_isCorner 62 = .ok (.iload_n 2, 1) := by decide +kernel
theorem dX8_isCorner_63 : decode cX8_isCorner 63 = .ok (.iload_n 3, 1) := by decide +kernel
theorem dX8_isCorner_64 : decode cX8_isCorner 64 = .ok (.invokestatic 83, 3) := by decide +kernel
theorem dX8_isCorner_67 : decode cX8_isCorner 67 = .ok (.iconst 2, 1) := by decide +kernel
theorem dX8_isCorner_68 : decode cX8_isCorner 68 = .ok (.if_icmp .ne 7, 3) := by decide +kernel
theorem dX8_isCorner_71 : decode cX8_isCorner 71 = .ok (.iconst 1, 1) := by decide +kernel
theorem dX8_isCorner_72 : decode cX8_isCorner 72 = .ok (.goto 4, 3) := by decide +kernel
theorem dX8_isCorner_75 : decode cX8_isCorner 75 = .ok (.iconst 0, 1) := by decide +kernel
theorem dX8_isCorner_76 : decode cX8_isCorner 76 = .ok (.istore 4, 2) := by decide +kernel
theorem dX8_isCorner_78 : decode cX8_isCorner 78 = .ok (.iload 4, 2) := by decide +kernel
theorem dX8_isCorner_80 : decode cX8_isCorner 80 = .ok (.ifCond .eq 22, 3) := by decide +kernel
theorem dX8_isCorner_83 : decode cX8_isCorner 83 = .ok (.aload_n 0, 1) := by decide +kernel
theorem dX8_isCorner_84 : decode cX8_isCorner 84 = .ok (.getfield 28, 3) := by decide +kernel
theorem dX8_isCorner_87 : decode cX8_isCorner 87 = .ok (.iload_n 1, 1) := by decide +kernel
theorem dX8_isCorner_88 : decode cX8_isCorner 88 = .ok (.iaload, 1) := by decide +kernel
theorem dX8_isCorner_89 : decode cX8_isCorner 89 = .ok (.aload_n 0, 1) := by decide +kernel
theorem dX8_isCorner_90 : decode cX8_isCorner 90 = .ok (.getfield 7, 3) := by decide +kernel
theorem dX8_isCorner_93 : decode cX8_isCorner 93 = .ok (.iconst 1, 1) := by decide +kernel
theorem dX8_isCorner_94 : decode cX8_isCorner 94 = .ok (.iaload, 1) := by decide +kernel
theorem dX8_isCorner_95 : decode cX8_isCorner 95 = .ok (.if_icmp .gt 7, 3) := by decide +kernel
theorem dX8_isCorner_98 : decode cX8_isCorner 98 = .ok (.iconst 1, 1) := by decide +kernel
theorem dX8_isCorner_99 : decode cX8_isCorner 99 = .ok (.goto 4, 3) := by decide +kernel
theorem dX8_isCorner_102 : decode cX8_isCorner 102 = .ok (.iconst 0, 1) := by decide +kernel
theorem dX8_isCorner_103 : decode cX8_isCorner 103 = .ok (.ireturn, 1) := by decide +kernel
theorem dX8_firstForgiven_0 : decode cX8_firstForgiven 0 = .ok (.iconst (-1), 1) := by decide +kernel
theorem dX8_firstForgiven_1 : decode cX8_firstForgiven 1 = .ok (.istore_n 1, 1) := by decide +kernel
theorem dX8_firstForgiven_2 : decode cX8_firstForgiven 2 = .ok (.aload_n 0, 1) := by decide +kernel
theorem dX8_firstForgiven_3 : decode cX8_firstForgiven 3 = .ok (.getfield 74, 3) := by decide +kernel
theorem dX8_firstForgiven_6 : decode cX8_firstForgiven 6 = .ok (.iconst 1, 1) := by decide +kernel
theorem dX8_firstForgiven_7 : decode cX8_firstForgiven 7 = .ok (.isub, 1) := by decide +kernel
theorem dX8_firstForgiven_8 : decode cX8_firstForgiven 8 = .ok (.istore_n 2, 1) := by decide +kernel
theorem dX8_firstForgiven_9 : decode cX8_firstForgiven 9 = .ok (.iload_n 2, 1) := by decide +kernel
theorem dX8_firstForgiven_10 : decode cX8_firstForgiven 10 = .ok (.ifCond .lt 39, 3) := by decide +kernel
theorem dX8_firstForgiven_13 : decode cX8_firstForgiven 13 = .ok (.aload_n 0, 1) := by decide +kernel
theorem dX8_firstForgiven_14 : decode cX8_firstForgiven 14 = .ok (.getfield 74, 3) := by decide +kernel
theorem dX8_firstForgiven_17 : decode cX8_firstForgiven 17 = .ok (.iconst 1, 1) := by decide +kernel
theorem dX8_firstForgiven_18 : decode cX8_firstForgiven 18 = .ok (.if_icmp .le 31, 3) := by decide +kernel
theorem dX8_firstForgiven_21 : decode cX8_firstForgiven 21 = .ok (.aload_n 0, 1) := by decide +kernel
theorem dX8_firstForgiven_22 : decode cX8_firstForgiven 22 = .ok (.iload_n 2, 1) := by decide +kernel
theorem dX8_firstForgiven_23 : decode cX8_firstForgiven 23 = .ok (.invokevirtual 86, 3) := by decide +kernel
theorem dX8_firstForgiven_26 : decode cX8_firstForgiven 26 = .ok (.ifCond .ne 11, 3) := by decide +kernel
theorem dX8_firstForgiven_29 : decode cX8_firstForgiven 29 = .ok (.aload_n 0, 1) := by decide +kernel
theorem dX8_firstForgiven_30 : decode cX8_firstForgiven 30 = .ok (.iload_n 2, 1) := by decide +kernel
theorem dX8_firstForgiven_31 : decode cX8_firstForgiven 31 = .ok (.invokevirtual 90, 3) := by decide +kernel
theorem dX8_firstForgiven_34 : decode cX8_firstForgiven 34 = .ok (.ifCond .eq 7, 3) := by decide +kernel
theorem dX8_firstForgiven_37 : decode cX8_firstForgiven 37 = .ok (.iload_n 2, 1) := by decide +kernel
theorem dX8_firstForgiven_38 : decode cX8_firstForgiven 38 = .ok (.goto 4, 3) := by decide +kernel
theorem dX8_firstForgiven_41 : decode cX8_firstForgiven 41 = .ok (.iload_n 1, 1) := by decide +kernel
theorem dX8_firstForgiven_42 : decode cX8_firstForgiven 42 = .ok (.istore_n 1, 1) := by decide +kernel
theorem dX8_firstForgiven_43 : decode cX8_firstForgiven 43 = .ok (.iinc 2 (-1), 3) := by decide +kernel
theorem dX8_firstForgiven_46 : decode cX8_firstForgiven 46 = .ok (.goto (-37), 3) := by decide +kernel
theorem dX8_firstForgiven_49 : decode cX8_firstForgiven 49 = .ok (.iload_n 1, 1) := by decide +kernel
theorem dX8_firstForgiven_50 : decode cX8_firstForgiven 50 = .ok (.ireturn, 1) := by decide +kernel
theorem dX8_removeRun_0 : decode cX8_removeRun 0 = .ok (.aload_n 0, 1) := by decide +kernel
theorem dX8_removeRun_1 : decode cX8_removeRun 1 = .ok (.dup, 1) := by decide +kernel
theorem dX8_removeRun_2 : decode cX8_removeRun 2 = .ok (.getfield 74, 3) := by decide +kernel
theorem dX8_removeRun_5 : decode cX8_removeRun 5 = .ok (.iconst 1, 1) := by decide +kernel
theorem dX8_removeRun_6 : decode cX8_removeRun 6 = .ok (.isub, 1) := by decide +kernel
theorem dX8_removeRun_7 : decode cX8_removeRun 7 = .ok (.putfield 74, 3) := by decide +kernel
theorem dX8_removeRun_10 : decode cX8_removeRun 10 = .ok (.iload_n 1, 1) := by decide +kernel
theorem dX8_removeRun_11 : decode cX8_removeRun 11 = .ok (.istore_n 2, 1) := by decide +kernel
theorem dX8_removeRun_12 : decode cX8_removeRun 12 = .ok (.iload_n 2, 1) := by decide +kernel
theorem dX8_removeRun_13 : decode cX8_removeRun 13 = .ok (.aload_n 0, 1) := by decide +kernel
theorem dX8_removeRun_14 : decode cX8_removeRun 14 = .ok (.getfield 74, 3) := by decide +kernel
theorem dX8_removeRun_17 : decode cX8_removeRun 17 = .ok (.if_icmp .ge 37, 3) := by decide +kernel
theorem dX8_removeRun_20 : decode cX8_removeRun 20 = .ok (.aload_n 0, 1) := by decide +kernel
theorem dX8_removeRun_21 : decode cX8_removeRun 21 = .ok (.getfield 25, 3) := by decide +kernel
theorem dX8_removeRun_24 : decode cX8_removeRun 24 = .ok (.iload_n 2, 1) := by decide +kernel
theorem dX8_removeRun_25 : decode cX8_removeRun 25 = .ok (.aload_n 0, 1) := by decide +kernel
theorem dX8_removeRun_26 : decode cX8_removeRun 26 = .ok (.getfield 25, 3) := by decide +kernel
theorem dX8_removeRun_29 : decode cX8_removeRun 29 = .ok (.iload_n 2, 1) := by decide +kernel
theorem dX8_removeRun_30 : decode cX8_removeRun 30 = .ok (.iconst 1, 1) := by decide +kernel
theorem dX8_removeRun_31 : decode cX8_removeRun 31 = .ok (.iadd, 1) := by decide +kernel
theorem dX8_removeRun_32 : decode cX8_removeRun 32 = .ok (.iaload, 1) := by decide +kernel
theorem dX8_removeRun_33 : decode cX8_removeRun 33 = .ok (.iastore, 1) := by decide +kernel
theorem dX8_removeRun_34 : decode cX8_removeRun 34 = .ok (.aload_n 0, 1) := by decide +kernel
theorem dX8_removeRun_35 : decode cX8_removeRun 35 = .ok (.getfield 28, 3) := by decide +kernel
theorem dX8_removeRun_38 : decode cX8_removeRun 38 = .ok (.iload_n 2, 1) := by decide +kernel
theorem dX8_removeRun_39 : decode cX8_removeRun 39 = .ok (.aload_n 0, 1) := by decide +kernel
theorem dX8_removeRun_40 : decode cX8_removeRun 40 = .ok (.getfield 28, 3) := by decide +kernel
theorem dX8_removeRun_43 : decode cX8_removeRun 43 = .ok (.iload_n 2, 1) := by decide +kernel
theorem dX8_removeRun_44 : decode cX8_removeRun 44 = .ok (.iconst 1, 1) := by decide +kernel
theorem dX8_removeRun_45 : decode cX8_removeRun 45 = .ok (.iadd, 1) := by decide +kernel
theorem dX8_removeRun_46 : decode cX8_removeRun 46 = .ok (.iaload, 1) := by decide +kernel
theorem dX8_removeRun_47 : decode cX8_removeRun 47 = .ok (.iastore, 1) := by decide +kernel
theorem dX8_removeRun_48 : decode cX8_removeRun 48 = .ok (.iinc 2 1, 3) := by decide +kernel
theorem dX8_removeRun_51 : decode cX8_removeRun 51 = .ok (.goto (-39), 3) := by decide +kernel
theorem dX8_removeRun_54 : decode cX8_removeRun 54 = .ok (.return_, 1) := by decide +kernel
theorem dX8_forgive_0 : decode cX8_forgive 0 = .ok (.iconst 0, 1) := by decide +kernel
theorem dX8_forgive_1 : decode cX8_forgive 1 = .ok (.istore_n 1, 1) := by decide +kernel
theorem dX8_forgive_2 : decode cX8_forgive 2 = .ok (.aload_n 0, 1) := by decide +kernel
theorem dX8_forgive_3 : decode cX8_forgive 3 = .ok (.invokevirtual 93, 3) := by decide +kernel
theorem dX8_forgive_6 : decode cX8_forgive 6 = .ok (.istore_n 2, 1) := by decide +kernel
theorem dX8_forgive_7 : decode cX8_forgive 7 = .ok (.iload_n 2, 1) := by decide +kernel
theorem dX8_forgive_8 : decode cX8_forgive 8 = .ok (.iconst (-1), 1) := by decide +kernel
theorem dX8_forgive_9 : decode cX8_forgive 9 = .ok (.if_icmp .eq 70, 3) := by decide +kernel
theorem dX8_forgive_12 : decode cX8_forgive 12 = .ok (.aload_n 0, 1) := by decide +kernel
theorem dX8_forgive_13 : decode cX8_forgive 13 = .ok (.iload_n 2, 1) := by decide +kernel
theorem dX8_forgive_14 : decode cX8_forgive 14 = .ok (.invokevirtual 97, 3) := by decide +kernel
theorem dX8_forgive_17 : decode cX8_forgive 17 = .ok (.iinc 1 1, 3) := by decide +kernel
theorem dX8_forgive_20 : decode cX8_forgive 20 = .ok (.iload_n 2, 1) := by decide +kernel
theorem dX8_forgive_21 : decode cX8_forgive 21 = .ok (.ifCond .le 50, 3) := by decide +kernel
theorem dX8_forgive_24 : decode cX8_forgive 24 = .ok (.iload_n 2, 1) := by decide +kernel
theorem dX8_forgive_25 : decode cX8_forgive 25 = .ok (.aload_n 0, 1) := by decide +kernel
theorem dX8_forgive_26 : decode cX8_forgive 26 = .ok (.getfield 74, 3) := by decide +kernel
theorem dX8_forgive_29 : decode cX8_forgive 29 = .ok (.if_icmp .ge 42, 3) := by decide +kernel
theorem dX8_forgive_32 : decode cX8_forgive 32 = .ok (.aload_n 0, 1) := by decide +kernel
theorem dX8_forgive_33 : decode cX8_forgive 33 = .ok (.getfield 25, 3) := by decide +kernel
theorem dX8_forgive_36 : decode cX8_forgive 36 = .ok (.iload_n 2, 1) := by decide +kernel
theorem dX8_forgive_37 : decode cX8_forgive 37 = .ok (.iconst 1, 1) := by decide +kernel
theorem dX8_forgive_38 : decode cX8_forgive 38 = .ok (.isub, 1) := by decide +kernel
theorem dX8_forgive_39 : decode cX8_forgive 39 = .ok (.iaload, 1) := by decide +kernel
theorem dX8_forgive_40 : decode cX8_forgive 40 = .ok (.aload_n 0, 1) := by decide +kernel
theorem dX8_forgive_41 : decode cX8_forgive 41 = .ok (.getfield 25, 3) := by decide +kernel
theorem dX8_forgive_44 : decode cX8_forgive 44 = .ok (.iload_n 2, 1) := by decide +kernel
theorem dX8_forgive_45 : decode cX8_forgive 45 = .ok (.iaload, 1) := by decide +kernel
theorem dX8_forgive_46 : decode cX8_forgive 46 = .ok (.if_icmp .ne 25, 3) := by decide +kernel
theorem dX8_forgive_49 : decode cX8_forgive 49 = .ok (.aload_n 0, 1) := by decide +kernel
theorem dX8_forgive_50 : decode cX8_forgive 50 = .ok (.getfield 28, 3) := by decide +kernel
theorem dX8_forgive_53 : decode cX8_forgive 53 = .ok (.iload_n 2, 1) := by decide +kernel
theorem dX8_forgive_54 : decode cX8_forgive 54 = .ok (.iconst 1, 1) := by decide +kernel
theorem dX8_forgive_55 : decode cX8_forgive 55 = .ok (.isub, 1) := by decide +kernel
theorem dX8_forgive_56 : decode cX8_forgive 56 = .ok (.dup2, 1) := by decide +kernel
theorem dX8_forgive_57 : decode cX8_forgive 57 = .ok (.iaload, 1) := by decide +kernel
theorem dX8_forgive_58 : decode cX8_forgive 58 = .ok (.aload_n 0, 1) := by decide +kernel
theorem dX8_forgive_59 : decode cX8_forgive 59 = .ok (.getfield 28, 3) := by decide +kernel
theorem dX8_forgive_62 : decode cX8_forgive 62 = .ok (.iload_n 2, 1) := by decide +kernel
theorem dX8_forgive_63 : decode cX8_forgive 63 = .ok (.iaload, 1) := by decide +kernel
theorem dX8_forgive_64 : decode cX8_forgive 64 = .ok (.iadd, 1) := by decide +kernel
theorem dX8_forgive_65 : decode cX8_forgive 65 = .ok (.iastore, 1) := by decide +kernel
theorem dX8_forgive_66 : decode cX8_forgive 66 = .ok (.aload_n 0, 1) := by decide +kernel
theorem dX8_forgive_67 : decode cX8_forgive 67 = .ok (.iload_n 2, 1) := by decide +kernel
theorem dX8_forgive_68 : decode cX8_forgive 68 = .ok (.invokevirtual 97, 3) := by decide +kernel
theorem dX8_forgive_71 : decode cX8_forgive 71 = .ok (.aload_n 0, 1) := by decide +kernel
theorem dX8_forgive_72 : decode cX8_forgive 72 = .ok (.invokevirtual 93, 3) := by decide +kernel
theorem dX8_forgive_75 : decode cX8_forgive 75 = .ok (.istore_n 2, 1) := by decide +kernel
theorem dX8_forgive_76 : decode cX8_forgive 76 = .ok (.goto (-69), 3) := by decide +kernel
theorem dX8_forgive_79 : decode cX8_forgive 79 = .ok (.iload_n 1, 1) := by decide +kernel
theorem dX8_forgive_80 : decode cX8_forgive 80 = .ok (.ireturn, 1) := by decide +kernel
theorem dX8_layStroke_0 : decode cX8_layStroke 0 = .ok (.aload_n 0, 1) := by decide +kernel
theorem dX8_layStroke_1 : decode cX8_layStroke 1 = .ok (.invokevirtual 101, 3) := by decide +kernel
theorem dX8_layStroke_4 : decode cX8_layStroke 4 = .ok (.aload_n 0, 1) := by decide +kernel
theorem dX8_layStroke_5 : decode cX8_layStroke 5 = .ok (.invokevirtual 104, 3) := by decide +kernel
theorem dX8_layStroke_8 : decode cX8_layStroke 8 = .ok (.istore_n 1, 1) := by decide +kernel
theorem dX8_layStroke_9 : decode cX8_layStroke 9 = .ok (.aload_n 0, 1) := by decide +kernel
theorem dX8_layStroke_10 : decode cX8_layStroke 10 = .ok (.aload_n 0, 1) := by decide +kernel
theorem dX8_layStroke_11 : decode cX8_layStroke 11 = .ok (.getfield 74, 3) := by decide +kernel
theorem dX8_layStroke_14 : decode cX8_layStroke 14 = .ok (.putfield 107, 3) := by decide +kernel
theorem dX8_layStroke_17 : decode cX8_layStroke 17 = .ok (.iconst 0, 1) := by decide +kernel
theorem dX8_layStroke_18 : decode cX8_layStroke 18 = .ok (.istore_n 2, 1) := by decide +kernel
theorem dX8_layStroke_19 : decode cX8_layStroke 19 = .ok (.iload_n 2, 1) := by decide +kernel
theorem dX8_layStroke_20 : decode cX8_layStroke 20 = .ok (.aload_n 0, 1) := by decide +kernel
theorem dX8_layStroke_21 : decode cX8_layStroke 21 = .ok (.getfield 74, 3) := by decide +kernel
theorem dX8_layStroke_24 : decode cX8_layStroke 24 = .ok (.if_icmp .ge 21, 3) := by decide +kernel
theorem dX8_layStroke_27 : decode cX8_layStroke 27 = .ok (.aload_n 0, 1) := by decide +kernel
theorem dX8_layStroke_28 : decode cX8_layStroke 28 = .ok (.getfield 31, 3) := by decide +kernel
theorem dX8_layStroke_31 : decode cX8_layStroke 31 = .ok (.iload_n 2, 1) := by decide +kernel
theorem dX8_layStroke_32 : decode cX8_layStroke 32 = .ok (.aload_n 0, 1) := by decide +kernel
theorem dX8_layStroke_33 : decode cX8_layStroke 33 = .ok (.getfield 25, 3) := by decide +kernel
theorem dX8_layStroke_36 : decode cX8_layStroke 36 = .ok (.iload_n 2, 1) := by decide +kernel
theorem dX8_layStroke_37 : decode cX8_layStroke 37 = .ok (.iaload, 1) := by decide +kernel
theorem dX8_layStroke_38 : decode cX8_layStroke 38 = .ok (.iastore, 1) := by decide +kernel
theorem dX8_layStroke_39 : decode cX8_layStroke 39 = .ok (.iinc 2 1, 3) := by decide +kernel
theorem dX8_layStroke_42 : decode cX8_layStroke 42 = .ok (.goto (-23), 3) := by decide +kernel
theorem dX8_layStroke_45 : decode cX8_layStroke 45 = .ok (.return_, 1) := by decide +kernel
theorem dX8_pathStroke_0 : decode cX8_pathStroke 0 = .ok (.aload_n 0, 1) := by decide +kernel
theorem dX8_pathStroke_1 : decode cX8_pathStroke 1 = .ok (.invokevirtual 110, 3) := by decide +kernel
theorem dX8_pathStroke_4 : decode cX8_pathStroke 4 = .ok (.aload_n 0, 1) := by decide +kernel
theorem dX8_pathStroke_5 : decode cX8_pathStroke 5 = .ok (.invokevirtual 113, 3) := by decide +kernel
theorem dX8_pathStroke_8 : decode cX8_pathStroke 8 = .ok (.return_, 1) := by decide +kernel
theorem dX8_commandStroke_0 : decode cX8_commandStroke 0 = .ok (.aload_n 0, 1) := by decide +kernel
theorem dX8_commandStroke_1 : decode cX8_commandStroke 1 = .ok (.aload_n 0, 1) := by decide +kernel
theorem dX8_commandStroke_2 : decode cX8_commandStroke 2 = .ok (.iload_n 1, 1) := by decide +kernel
theorem dX8_commandStroke_3 : decode cX8_commandStroke 3 = .ok (.invokevirtual 116, 3) := by decide +kernel
theorem dX8_commandStroke_6 : decode cX8_commandStroke 6 = .ok (.putfield 107, 3) := by decide +kernel
theorem dX8_commandStroke_9 : decode cX8_commandStroke 9 = .ok (.iconst 0, 1) := by decide +kernel
theorem dX8_commandStroke_10 : decode cX8_commandStroke 10 = .ok (.istore_n 2, 1) := by decide +kernel
theorem dX8_commandStroke_11 : decode cX8_commandStroke 11 = .ok (.iload_n 2, 1) := by decide +kernel
theorem dX8_commandStroke_12 : decode cX8_commandStroke 12 = .ok (.aload_n 0, 1) := by decide +kernel
theorem dX8_commandStroke_13 : decode cX8_commandStroke 13 = .ok (.getfield 107, 3) := by decide +kernel
theorem dX8_commandStroke_16 : decode cX8_commandStroke 16 = .ok (.if_icmp .ge 21, 3) := by decide +kernel
theorem dX8_commandStroke_19 : decode cX8_commandStroke 19 = .ok (.aload_n 0, 1) := by decide +kernel
theorem dX8_commandStroke_20 : decode cX8_commandStroke 20 = .ok (.getfield 31, 3) := by decide +kernel
theorem dX8_commandStroke_23 : decode cX8_commandStroke 23 = .ok (.iload_n 2, 1) := by decide +kernel
theorem dX8_commandStroke_24 : decode cX8_commandStroke 24 = .ok (.aload_n 0, 1) := by decide +kernel
theorem dX8_commandStroke_25 : decode cX8_commandStroke 25 = .ok (.iload_n 1, 1) := by decide +kernel
theorem dX8_commandStroke_26 : decode cX8_commandStroke 26 = .ok (.iload_n 2, 1) := by decide +kernel
theorem dX8_commandStroke_27 : decode cX8_commandStroke 27 = .ok (.invokevirtual 119, 3) := by decide +kernel
theorem dX8_commandStroke_30 : decode cX8_commandStroke 30 = .ok (.iastore, 1) := by decide +kernel
theorem dX8_commandStroke_31 : decode cX8_commandStroke 31 = .ok (.iinc 2 1, 3) := by decide +kernel
theorem dX8_commandStroke_34 : decode cX8_commandStroke 34 = .ok (.goto (-23), 3) := by decide +kernel
theorem dX8_commandStroke_37 : decode cX8_commandStroke 37 = .ok (.return_, 1) := by decide +kernel
theorem dX8_layDistances_0 : decode cX8_layDistances 0 = .ok (.aload_n 0, 1) := by decide +kernel
theorem dX8_layDistances_1 : decode cX8_layDistances 1 = .ok (.iload_n 1, 1) := by decide +kernel
theorem dX8_layDistances_2 : decode cX8_layDistances 2 = .ok (.invokevirtual 116, 3) := by decide +kernel
theorem dX8_layDistances_5 : decode cX8_layDistances 5 = .ok (.istore_n 2, 1) := by decide +kernel
theorem dX8_layDistances_6 : decode cX8_layDistances 6 = .ok (.iconst 0, 1) := by decide +kernel
theorem dX8_layDistances_7 : decode cX8_layDistances 7 = .ok (.istore_n 3, 1) := by decide +kernel
theorem dX8_layDistances_8 : decode cX8_layDistances 8 = .ok (.iload_n 3, 1) := by decide +kernel
theorem dX8_layDistances_9 : decode cX8_layDistances 9 = .ok (.iload_n 2, 1) := by decide +kernel
theorem dX8_layDistances_10 : decode cX8_layDistances 10 = .ok (.if_icmp .gt 23, 3) := by decide +kernel
theorem dX8_layDistances_13 : decode cX8_layDistances 13 = .ok (.aload_n 0, 1) := by decide +kernel
theorem dX8_layDistances_14 : decode cX8_layDistances 14 = .ok (.getfield 34, 3) := by decide +kernel
theorem dX8_layDistances_17 : decode cX8_layDistances 17 = .ok (.iload_n 3, 1) := by decide +kernel
theorem dX8_layDistances_18 : decode cX8_layDistances 18 = .ok (.iload_n 3, 1) := by decide +kernel
theorem dX8_layDistances_19 : decode cX8_layDistances 19 = .ok (.aload_n 0, 1) := by decide +kernel
theorem dX8_layDistances_20 : decode cX8_layDistances 20 = .ok (.getfield 7, 3) := by decide +kernel
theorem dX8_layDistances_23 : decode cX8_layDistances 23 = .ok (.iconst 3, 1) := by decide +kernel
theorem dX8_layDistances_24 : decode cX8_layDistances 24 = .ok (.iaload, 1) := by decide +kernel
theorem dX8_layDistances_25 : decode cX8_layDistances 25 = .ok (.imul, 1) := by decide +kernel
theorem dX8_layDistances_26 : decode cX8_layDistances 26 = .ok (.iastore, 1) := by decide +kernel
theorem dX8_layDistances_27 : decode cX8_layDistances 27 = .ok (.iinc 3 1, 3) := by decide +kernel
theorem dX8_layDistances_30 : decode cX8_layDistances 30 = .ok (.goto (-22), 3) := by decide +kernel
theorem dX8_layDistances_33 : decode cX8_layDistances 33 = .ok (.iconst 0, 1) := by decide +kernel
theorem dX8_layDistances_34 : decode cX8_layDistances 34 = .ok (.istore_n 3, 1) := by decide +kernel
theorem dX8_layDistances_35 : decode cX8_layDistances 35 = .ok (.iload_n 3, 1) := by decide +kernel
theorem dX8_layDistances_36 : decode cX8_layDistances 36 = .ok (.aload_n 0, 1) := by decide +kernel
theorem dX8_layDistances_37 : decode cX8_layDistances 37 = .ok (.getfield 107, 3) := by decide +kernel
theorem dX8_layDistances_40 : decode cX8_layDistances 40 = .ok (.if_icmp .ge 132, 3) := by decide +kernel
theorem dX8_layDistances_43 : decode cX8_layDistances 43 = .ok (.aload_n 0, 1) := by decide +kernel
theorem dX8_layDistances_44 : decode cX8_layDistances 44 = .ok (.getfield 34, 3) := by decide +kernel
theorem dX8_layDistances_47 : decode cX8_layDistances 47 = .ok (.iconst 0, 1) := by decide +kernel
theorem dX8_layDistances_48 : decode cX8_layDistances 48 = .ok (.iaload, 1) := by decide +kernel
theorem dX8_layDistances_49 : decode cX8_layDistances 49 = .ok (.istore 4, 2) := by decide +kernel
theorem dX8_layDistances_51 : decode cX8_layDistances 51 = .ok (.aload_n 0, 1) := by decide +kernel
theorem dX8_layDistances_52 : decode cX8_layDistances 52 = .ok (.getfield 34, 3) := by decide +kernel
theorem dX8_layDistances_55 : decode cX8_layDistances 55 = .ok (.iconst 0, 1) := by decide +kernel
theorem dX8_layDistances_56 : decode cX8_layDistances 56 = .ok (.dup2, 1) := by decide +kernel
theorem dX8_layDistances_57 : decode cX8_layDistances 57 = .ok (.iaload, 1) := by decide +kernel
theorem dX8_layDistances_58 : decode cX8_layDistances 58 = .ok (.aload_n 0, 1) := by decide +kernel
theorem dX8_layDistances_59 : decode cX8_layDistances 59 = .ok (.getfield 7, 3) := by decide +kernel
theorem dX8_layDistances_62 : decode cX8_layDistances 62 = .ok (.iconst 3, 1) := by decide +kernel
theorem dX8_layDistances_63 : decode cX8_layDistances 63 = .ok (.iaload, 1) := by decide +kernel
theorem dX8_layDistances_64 : decode cX8_layDistances 64 = .ok (.iadd, 1) := by decide +kernel
theorem dX8_layDistances_65 : decode cX8_layDistances 65 = .ok (.iastore, 1) := by decide +kernel
theorem dX8_layDistances_66 : decode cX8_layDistances 66 = .ok (.iconst 1, 1) := by decide +kernel
theorem dX8_layDistances_67 : decode cX8_layDistances 67 = .ok (.istore 5, 2) := by decide +kernel
theorem dX8_layDistances_69 : decode cX8_layDistances 69 = .ok (.iload 5, 2) := by decide +kernel
theorem dX8_layDistances_71 : decode cX8_layDistances 71 = .ok (.iload_n 2, 1) := by decide +kernel
theorem dX8_layDistances_72 : decode cX8_layDistances 72 = .ok (.if_icmp .gt 94, 3) := by decide +kernel
theorem dX8_layDistances_75 : decode cX8_layDistances 75 = .ok (.iload 4, 2) := by decide +kernel
theorem dX8_layDistances_77 : decode cX8_layDistances 77 = .ok (.aload_n 0, 1) := by decide +kernel
theorem dX8_layDistances_78 : decode cX8_layDistances 78 = .ok (.getfield 7, 3) := by decide +kernel
theorem dX8_layDistances_81 : decode cX8_layDistances 81 = .ok (.iconst 2, 1) := by decide +kernel
theorem dX8_layDistances_82 : decode cX8_layDistances 82 = .ok (.iaload, 1) := by decide +kernel
theorem dX8_layDistances_83 : decode cX8_layDistances 83 = .ok (.aload_n 0, 1) := by decide +kernel
theorem dX8_layDistances_84 : decode cX8_layDistances 84 = .ok (.getfield 31, 3) := by decide +kernel
theorem dX8_layDistances_87 : decode cX8_layDistances 87 = .ok (.iload_n 3, 1) := by decide +kernel
theorem dX8_layDistances_88 : decode cX8_layDistances 88 = .ok (.iaload, 1) := by decide +kernel
theorem dX8_layDistances_89 : decode cX8_layDistances 89 = .ok (.aload_n 0, 1) := by decide +kernel
theorem dX8_layDistances_90 : decode cX8_layDistances 90 = .ok (.iload_n 1, 1) := by decide +kernel
theorem dX8_layDistances_91 : decode cX8_layDistances 91 = .ok (.iload 5, 2) := by decide +kernel
theorem dX8_layDistances_93 : decode cX8_layDistances 93 = .ok (.iconst 1, 1) := by decide +kernel
theorem dX8_layDistances_94 : decode cX8_layDistances 94 = .ok (.isub, 1) := by decide +kernel
theorem dX8_layDistances_95 : decode cX8_layDistances 95 = .ok (.invokevirtual 119, 3) := by decide +kernel
theorem dX8_layDistances_98 : decode cX8_layDistances 98 = .ok (.invokestatic 83, 3) := by decide +kernel
theorem dX8_layDistances_101 : decode cX8_layDistances 101 = .ok (.imul, 1) := by decide +kernel
theorem dX8_layDistances_102 : decode cX8_layDistances 102 = .ok (.iadd, 1) := by decide +kernel
theorem dX8_layDistances_103 : decode cX8_layDistances 103 = .ok (.istore 6, 2) := by decide +kernel
theorem dX8_layDistances_105 : decode cX8_layDistances 105 = .ok (.aload_n 0, 1) := by decide +kernel
theorem dX8_layDistances_106 : decode cX8_layDistances 106 = .ok (.getfield 34, 3) := by decide +kernel
theorem dX8_layDistances_109 : decode cX8_layDistances 109 = .ok (.iload 5, 2) := by decide +kernel
theorem dX8_layDistances_111 : decode cX8_layDistances 111 = .ok (.iaload, 1) := by decide +kernel
theorem dX8_layDistances_112 : decode cX8_layDistances 112 = .ok (.istore 4, 2) := by decide +kernel
theorem dX8_layDistances_114 : decode cX8_layDistances 114 = .ok (.aload_n 0, 1) := by decide +kernel
theorem dX8_layDistances_115 : decode cX8_layDistances 115 = .ok (.getfield 34, 3) := by decide +kernel
theorem dX8_layDistances_118 : decode cX8_layDistances 118 = .ok (.iload 5, 2) := by decide +kernel
theorem dX8_layDistances_120 : decode cX8_layDistances 120 = .ok (.iaload, 1) := by decide +kernel
theorem dX8_layDistances_121 : decode cX8_layDistances 121 = .ok (.ineg, 1) := by decide +kernel
theorem dX8_layDistances_122 : decode cX8_layDistances 122 = .ok (.aload_n 0, 1) := by decide +kernel
theorem dX8_layDistances_123 : decode cX8_layDistances 123 = .ok (.getfield 34, 3) := by decide +kernel
theorem dX8_layDistances_126 : decode cX8_layDistances 126 = .ok (.iload 5, 2) := by decide +kernel
theorem dX8_layDistances_128 : decode cX8_layDistances 128 = .ok (.iconst 1, 1) := by decide +kernel
theorem dX8_layDistances_129 : decode cX8_layDistances 129 = .ok (.isub, 1) := by decide +kernel
theorem dX8_layDistances_130 : decode cX8_layDistances 130 = .ok (.iaload, 1) := by decide +kernel
theorem dX8_layDistances_131 : decode cX8_layDistances 131 = .ok (.ineg, 1) := by decide +kernel
theorem dX8_layDistances_132 : decode cX8_layDistances 132 = .ok (.invokestatic 71, 3) := by decide +kernel
theorem dX8_layDistances_135 : decode cX8_layDistances 135 = .ok (.istore 7, 2) := by decide +kernel
theorem dX8_layDistances_137 : decode cX8_layDistances 137 = .ok (.aload_n 0, 1) := by decide +kernel
theorem dX8_layDistances_138 : decode cX8_layDistances 138 = .ok (.getfield 34, 3) := by decide +kernel
theorem dX8_layDistances_141 : decode cX8_layDistances 141 = .ok (.iload 5, 2) := by decide +kernel
theorem dX8_layDistances_143 : decode cX8_layDistances 143 = .ok (.iload 7, 2) := by decide +kernel
theorem dX8_layDistances_145 : decode cX8_layDistances 145 = .ok (.aload_n 0, 1) := by decide +kernel
theorem dX8_layDistances_146 : decode cX8_layDistances 146 = .ok (.getfield 7, 3) := by decide +kernel
theorem dX8_layDistances_149 : decode cX8_layDistances 149 = .ok (.iconst 3, 1) := by decide +kernel
theorem dX8_layDistances_150 : decode cX8_layDistances 150 = .ok (.iaload, 1) := by decide +kernel
theorem dX8_layDistances_151 : decode cX8_layDistances 151 = .ok (.isub, 1) := by decide +kernel
theorem dX8_layDistances_152 : decode cX8_layDistances 152 = .ok (.iload 6, 2) := by decide +kernel
theorem dX8_layDistances_154 : decode cX8_layDistances 154 = .ok (.ineg, 1) := by decide +kernel
theorem dX8_layDistances_155 : decode cX8_layDistances 155 = .ok (.invokestatic 71, 3) := by decide +kernel
theorem dX8_layDistances_158 : decode cX8_layDistances 158 = .ok (.ineg, 1) := by decide +kernel
theorem dX8_layDistances_159 : decode cX8_layDistances 159 = .ok (.iastore, 1) := by decide +kernel
theorem dX8_layDistances_160 : decode cX8_layDistances 160 = .ok (.iinc 5 1, 3) := by decide +kernel
theorem dX8_layDistances_163 : decode cX8_layDistances 163 = .ok (.goto (-94), 3) := by decide +kernel
theorem dX8_layDistances_166 : decode cX8_layDistances 166 = .ok (.iinc 3 1, 3) := by decide +kernel
theorem dX8_layDistances_169 : decode cX8_layDistances 169 = .ok (.goto (-134), 3) := by decide +kernel
theorem dX8_layDistances_172 : decode cX8_layDistances 172 = .ok (.return_, 1) := by decide +kernel
theorem dX8_distanceFrom_0 : decode cX8_distanceFrom 0 = .ok (.aload_n 0, 1) := by decide +kernel
theorem dX8_distanceFrom_1 : decode cX8_distanceFrom 1 = .ok (.iload_n 1, 1) := by decide +kernel
theorem dX8_distanceFrom_2 : decode cX8_distanceFrom 2 = .ok (.invokevirtual 122, 3) := by decide +kernel
theorem dX8_distanceFrom_5 : decode cX8_distanceFrom 5 = .ok (.aload_n 0, 1) := by decide +kernel
theorem dX8_distanceFrom_6 : decode cX8_distanceFrom 6 = .ok (.getfield 34, 3) := by decide +kernel
theorem dX8_distanceFrom_9 : decode cX8_distanceFrom 9 = .ok (.aload_n 0, 1) := by decide +kernel
theorem dX8_distanceFrom_10 : decode cX8_distanceFrom 10 = .ok (.iload_n 1, 1) := by decide +kernel
theorem dX8_distanceFrom_11 : decode cX8_distanceFrom 11 = .ok (.invokevirtual 116, 3) := by decide +kernel
theorem dX8_distanceFrom_14 : decode cX8_distanceFrom 14 = .ok (.iaload, 1) := by decide +kernel
theorem dX8_distanceFrom_15 : decode cX8_distanceFrom 15 = .ok (.ireturn, 1) := by decide +kernel
theorem dX8_distanceOf_0 : decode cX8_distanceOf 0 = .ok (.aload_n 0, 1) := by decide +kernel
theorem dX8_distanceOf_1 : decode cX8_distanceOf 1 = .ok (.iload_n 2, 1) := by decide +kernel
theorem dX8_distanceOf_2 : decode cX8_distanceOf 2 = .ok (.invokevirtual 125, 3) := by decide +kernel
theorem dX8_distanceOf_5 : decode cX8_distanceOf 5 = .ok (.aload_n 0, 1) := by decide +kernel
theorem dX8_distanceOf_6 : decode cX8_distanceOf 6 = .ok (.iload_n 1, 1) := by decide +kernel
theorem dX8_distanceOf_7 : decode cX8_distanceOf 7 = .ok (.invokevirtual 128, 3) := by decide +kernel
theorem dX8_distanceOf_10 : decode cX8_distanceOf 10 = .ok (.ireturn, 1) := by decide +kernel
theorem dX8_leastDistance_0 : decode cX8_leastDistance 0 = .ok (.iconst (-1), 1) := by decide +kernel
theorem dX8_leastDistance_1 : decode cX8_leastDistance 1 = .ok (.istore_n 1, 1) := by decide +kernel
theorem dX8_leastDistance_2 : decode cX8_leastDistance 2 = .ok (.iconst 0, 1) := by decide +kernel
theorem dX8_leastDistance_3 : decode cX8_leastDistance 3 = .ok (.istore_n 2, 1) := by decide +kernel
theorem dX8_leastDistance_4 : decode cX8_leastDistance 4 = .ok (.iload_n 2, 1) := by decide +kernel
theorem dX8_leastDistance_5 : decode cX8_leastDistance 5 = .ok (.aload_n 0, 1) := by decide +kernel
theorem dX8_leastDistance_6 : decode cX8_leastDistance 6 = .ok (.getfield 7, 3) := by decide +kernel
theorem dX8_leastDistance_9 : decode cX8_leastDistance 9 = .ok (.bipush 6, 2) := by decide +kernel
theorem dX8_leastDistance_11 : decode cX8_leastDistance 11 = .ok (.iaload, 1) := by decide +kernel
theorem dX8_leastDistance_12 : decode cX8_leastDistance 12 = .ok (.if_icmp .ge 48, 3) := by decide +kernel
theorem dX8_leastDistance_15 : decode cX8_leastDistance 15 = .ok (.iconst 0, 1) := by decide +kernel
theorem dX8_leastDistance_16 : decode cX8_leastDistance 16 = .ok (.istore_n 3, 1) := by decide +kernel
theorem dX8_leastDistance_17 : decode cX8_leastDistance 17 = .ok (.iload_n 3, 1) := by decide +kernel
theorem dX8_leastDistance_18 : decode cX8_leastDistance 18 = .ok (.iload_n 2, 1) := by decide +kernel
theorem dX8_leastDistance_19 : decode cX8_leastDistance 19 = .ok (.if_icmp .ge 35, 3) := by decide +kernel
theorem dX8_leastDistance_22 : decode cX8_leastDistance 22 = .ok (.aload_n 0, 1) := by decide +kernel
theorem dX8_leastDistance_23 : decode cX8_leastDistance 23 = .ok (.iload_n 2, 1) := by decide +kernel
theorem dX8_leastDistance_24 : decode cX8_leastDistance 24 = .ok (.iload_n 3, 1) := by decide +kernel
theorem dX8_leastDistance_25 : decode cX8_leastDistance 25 = .ok (.invokevirtual 131, 3) := by decide +kernel
theorem dX8_leastDistance_28 : decode cX8_leastDistance 28 = .ok (.istore 4, 2) := by decide +kernel
theorem dX8_leastDistance_30 : decode cX8_leastDistance 30 = .ok (.iload_n 1, 1) := by decide +kernel
theorem dX8_leastDistance_31 : decode cX8_leastDistance 31 = .ok (.iconst (-1), 1) := by decide +kernel
theorem dX8_leastDistance_32 : decode cX8_leastDistance 32 = .ok (.if_icmp .eq 9, 3) := by decide +kernel
theorem dX8_leastDistance_35 : decode cX8_leastDistance 35 = .ok (.iload 4, 2) := by decide +kernel
theorem dX8_leastDistance_37 : decode cX8_leastDistance 37 = .ok (.iload_n 1, 1) := by decide +kernel
theorem dX8_leastDistance_38 : decode cX8_leastDistance 38 = .ok (.if_icmp .ge 8, 3) := by decide +kernel
theorem dX8_leastDistance_41 : decode cX8_leastDistance 41 = .ok (.iload 4, 2) := by decide +kernel
theorem dX8_leastDistance_43 : decode cX8_leastDistance 43 = .ok (.goto 4, 3) := by decide +kernel
theorem dX8_leastDistance_46 : decode cX8_leastDistance 46 = .ok (.iload_n 1, 1) := by decide +kernel
theorem dX8_leastDistance_47 : decode cX8_leastDistance 47 = .ok (.istore_n 1, 1) := by decide +kernel
theorem dX8_leastDistance_48 : decode cX8_leastDistance 48 = .ok (.iinc 3 1, 3) := by decide +kernel
theorem dX8_leastDistance_51 : decode cX8_leastDistance 51 = .ok (.goto (-34), 3) := by decide +kernel
theorem dX8_leastDistance_54 : decode cX8_leastDistance 54 = .ok (.iinc 2 1, 3) := by decide +kernel
theorem dX8_leastDistance_57 : decode cX8_leastDistance 57 = .ok (.goto (-53), 3) := by decide +kernel
theorem dX8_leastDistance_60 : decode cX8_leastDistance 60 = .ok (.iload_n 1, 1) := by decide +kernel
theorem dX8_leastDistance_61 : decode cX8_leastDistance 61 = .ok (.ireturn, 1) := by decide +kernel
theorem dX8_nearest_0 : decode cX8_nearest 0 = .ok (.iconst (-1), 1) := by decide +kernel
theorem dX8_nearest_1 : decode cX8_nearest 1 = .ok (.istore_n 2, 1) := by decide +kernel
theorem dX8_nearest_2 : decode cX8_nearest 2 = .ok (.iconst 0, 1) := by decide +kernel
theorem dX8_nearest_3 : decode cX8_nearest 3 = .ok (.istore_n 3, 1) := by decide +kernel
theorem dX8_nearest_4 : decode cX8_nearest 4 = .ok (.iconst 0, 1) := by decide +kernel
theorem dX8_nearest_5 : decode cX8_nearest 5 = .ok (.istore 4, 2) := by decide +kernel
theorem dX8_nearest_7 : decode cX8_nearest 7 = .ok (.iload 4, 2) := by decide +kernel
theorem dX8_nearest_9 : decode cX8_nearest 9 = .ok (.aload_n 0, 1) := by decide +kernel
theorem dX8_nearest_10 : decode cX8_nearest 10 = .ok (.getfield 7, 3) := by decide +kernel
theorem dX8_nearest_13 : decode cX8_nearest 13 = .ok (.bipush 6, 2) := by decide +kernel
theorem dX8_nearest_15 : decode cX8_nearest 15 = .ok (.iaload, 1) := by decide +kernel
theorem dX8_nearest_16 : decode cX8_nearest 16 = .ok (.if_icmp .ge 65, 3) := by decide +kernel
theorem dX8_nearest_19 : decode cX8_nearest 19 = .ok (.aload_n 0, 1) := by decide +kernel
theorem dX8_nearest_20 : decode cX8_nearest 20 = .ok (.iload 4, 2) := by decide +kernel
theorem dX8_nearest_22 : decode cX8_nearest 22 = .ok (.invokevirtual 128, 3) := by decide +kernel
theorem dX8_nearest_25 : decode cX8_nearest 25 = .ok (.istore 5, 2) := by decide +kernel
theorem dX8_nearest_27 : decode cX8_nearest 27 = .ok (.iload 4, 2) := by decide +kernel
theorem dX8_nearest_29 : decode cX8_nearest 29 = .ok (.iload_n 1, 1) := by decide +kernel
theorem dX8_nearest_30 : decode cX8_nearest 30 = .ok (.if_icmp .eq 18, 3) := by decide +kernel
theorem dX8_nearest_33 : decode cX8_nearest 33 = .ok (.iload_n 2, 1) := by decide +kernel
theorem dX8_nearest_34 : decode cX8_nearest 34 = .ok (.iconst (-1), 1) := by decide +kernel
theorem dX8_nearest_35 : decode cX8_nearest 35 = .ok (.if_icmp .eq 9, 3) := by decide +kernel
theorem dX8_nearest_38 : decode cX8_nearest 38 = .ok (.iload 5, 2) := by decide +kernel
theorem dX8_nearest_40 : decode cX8_nearest 40 = .ok (.iload_n 3, 1) := by decide +kernel
theorem dX8_nearest_41 : decode cX8_nearest 41 = .ok (.if_icmp .ge 7, 3) := by decide +kernel
theorem dX8_nearest_44 : decode cX8_nearest 44 = .ok (.iconst 1, 1) := by decide +kernel
theorem dX8_nearest_45 : decode cX8_nearest 45 = .ok (.goto 4, 3) := by decide +kernel
theorem dX8_nearest_48 : decode cX8_nearest 48 = .ok (.iconst 0, 1) := by decide +kernel
theorem dX8_nearest_49 : decode cX8_nearest 49 = .ok (.istore 6, 2) := by decide +kernel
theorem dX8_nearest_51 : decode cX8_nearest 51 = .ok (.iload 6, 2) := by decide +kernel
theorem dX8_nearest_53 : decode cX8_nearest 53 = .ok (.ifCond .eq 8, 3) := by decide +kernel
theorem dX8_nearest_56 : decode cX8_nearest 56 = .ok (.iload 4, 2) := by decide +kernel
theorem dX8_nearest_58 : decode cX8_nearest 58 = .ok (.goto 4, 3) := by decide +kernel
theorem dX8_nearest_61 : decode cX8_nearest 61 = .ok (.iload_n 2, 1) := by decide +kernel
theorem dX8_nearest_62 : decode cX8_nearest 62 = .ok (.istore_n 2, 1) := by decide +kernel
theorem dX8_nearest_63 : decode cX8_nearest 63 = .ok (.iload 6, 2) := by decide +kernel
theorem dX8_nearest_65 : decode cX8_nearest 65 = .ok (.ifCond .eq 8, 3) := by decide +kernel
theorem dX8_nearest_68 : decode cX8_nearest 68 = .ok (.iload 5, 2) := by decide +kernel
theorem dX8_nearest_70 : decode cX8_nearest 70 = .ok (.goto 4, 3) := by decide +kernel
theorem dX8_nearest_73 : decode cX8_nearest 73 = .ok (.iload_n 3, 1) := by decide +kernel
theorem dX8_nearest_74 : decode cX8_nearest 74 = .ok (.istore_n 3, 1) := by decide +kernel
theorem dX8_nearest_75 : decode cX8_nearest 75 = .ok (.iinc 4 1, 3) := by decide +kernel
theorem dX8_nearest_78 : decode cX8_nearest 78 = .ok (.goto (-71), 3) := by decide +kernel
theorem dX8_nearest_81 : decode cX8_nearest 81 = .ok (.iload_n 2, 1) := by decide +kernel
theorem dX8_nearest_82 : decode cX8_nearest 82 = .ok (.ireturn, 1) := by decide +kernel
theorem dX8_tooNear_0 : decode cX8_tooNear 0 = .ok (.aload_n 0, 1) := by decide +kernel
theorem dX8_tooNear_1 : decode cX8_tooNear 1 = .ok (.iconst (-1), 1) := by decide +kernel
theorem dX8_tooNear_2 : decode cX8_tooNear 2 = .ok (.invokevirtual 134, 3) := by decide +kernel
theorem dX8_tooNear_5 : decode cX8_tooNear 5 = .ok (.istore_n 1, 1) := by decide +kernel
theorem dX8_tooNear_6 : decode cX8_tooNear 6 = .ok (.iload_n 1, 1) := by decide +kernel
theorem dX8_tooNear_7 : decode cX8_tooNear 7 = .ok (.iconst (-1), 1) := by decide +kernel
theorem dX8_tooNear_8 : decode cX8_tooNear 8 = .ok (.if_icmp .eq 23, 3) := by decide +kernel
theorem dX8_tooNear_11 : decode cX8_tooNear 11 = .ok (.aload_n 0, 1) := by decide +kernel
theorem dX8_tooNear_12 : decode cX8_tooNear 12 = .ok (.iload_n 1, 1) := by decide +kernel
theorem dX8_tooNear_13 : decode cX8_tooNear 13 = .ok (.invokevirtual 128, 3) := by decide +kernel
theorem dX8_tooNear_16 : decode cX8_tooNear 16 = .ok (.iconst 2, 1) := by decide +kernel
theorem dX8_tooNear_17 : decode cX8_tooNear 17 = .ok (.aload_n 0, 1) := by decide +kernel
theorem dX8_tooNear_18 : decode cX8_tooNear 18 = .ok (.getfield 7, 3) := by decide +kernel
theorem dX8_tooNear_21 : decode cX8_tooNear 21 = .ok (.iconst 4, 1) := by decide +kernel
theorem dX8_tooNear_22 : decode cX8_tooNear 22 = .ok (.iaload, 1) := by decide +kernel
theorem dX8_tooNear_23 : decode cX8_tooNear 23 = .ok (.imul, 1) := by decide +kernel
theorem dX8_tooNear_24 : decode cX8_tooNear 24 = .ok (.if_icmp .gt 7, 3) := by decide +kernel
theorem dX8_tooNear_27 : decode cX8_tooNear 27 = .ok (.iload_n 1, 1) := by decide +kernel
theorem dX8_tooNear_28 : decode cX8_tooNear 28 = .ok (.goto 4, 3) := by decide +kernel
theorem dX8_tooNear_31 : decode cX8_tooNear 31 = .ok (.iconst (-1), 1) := by decide +kernel
theorem dX8_tooNear_32 : decode cX8_tooNear 32 = .ok (.ireturn, 1) := by decide +kernel
theorem dX8_readAs_0 : decode cX8_readAs 0 = .ok (.aload_n 0, 1) := by decide +kernel
theorem dX8_readAs_1 : decode cX8_readAs 1 = .ok (.iconst (-1), 1) := by decide +kernel
theorem dX8_readAs_2 : decode cX8_readAs 2 = .ok (.invokevirtual 134, 3) := by decide +kernel
theorem dX8_readAs_5 : decode cX8_readAs 5 = .ok (.istore_n 1, 1) := by decide +kernel
theorem dX8_readAs_6 : decode cX8_readAs 6 = .ok (.aload_n 0, 1) := by decide +kernel
theorem dX8_readAs_7 : decode cX8_readAs 7 = .ok (.getfield 107, 3) := by decide +kernel
theorem dX8_readAs_10 : decode cX8_readAs 10 = .ok (.ifCond .le 26, 3) := by decide +kernel
theorem dX8_readAs_13 : decode cX8_readAs 13 = .ok (.iload_n 1, 1) := by decide +kernel
theorem dX8_readAs_14 : decode cX8_readAs 14 = .ok (.iconst (-1), 1) := by decide +kernel
theorem dX8_readAs_15 : decode cX8_readAs 15 = .ok (.if_icmp .eq 21, 3) := by decide +kernel
theorem dX8_readAs_18 : decode cX8_readAs 18 = .ok (.aload_n 0, 1) := by decide +kernel
theorem dX8_readAs_19 : decode cX8_readAs 19 = .ok (.iload_n 1, 1) := by decide +kernel
theorem dX8_readAs_20 : decode cX8_readAs 20 = .ok (.invokevirtual 128, 3) := by decide +kernel
theorem dX8_readAs_23 : decode cX8_readAs 23 = .ok (.aload_n 0, 1) := by decide +kernel
theorem dX8_readAs_24 : decode cX8_readAs 24 = .ok (.getfield 7, 3) := by decide +kernel
theorem dX8_readAs_27 : decode cX8_readAs 27 = .ok (.iconst 4, 1) := by decide +kernel
theorem dX8_readAs_28 : decode cX8_readAs 28 = .ok (.iaload, 1) := by decide +kernel
theorem dX8_readAs_29 : decode cX8_readAs 29 = .ok (.if_icmp .gt 7, 3) := by decide +kernel
theorem dX8_readAs_32 : decode cX8_readAs 32 = .ok (.iload_n 1, 1) := by decide +kernel
theorem dX8_readAs_33 : decode cX8_readAs 33 = .ok (.goto 4, 3) := by decide +kernel
theorem dX8_readAs_36 : decode cX8_readAs 36 = .ok (.iconst (-1), 1) := by decide +kernel
theorem dX8_readAs_37 : decode cX8_readAs 37 = .ok (.ireturn, 1) := by decide +kernel
theorem dX8_longestBeginning_0 : decode cX8_longestBeginning 0 = .ok (.aload_n 0, 1) := by decide +kernel
theorem dX8_longestBeginning_1 : decode cX8_longestBeginning 1 = .ok (.iload_n 1, 1) := by decide +kernel
theorem dX8_longestBeginning_2 : decode cX8_longestBeginning 2 = .ok (.invokevirtual 122, 3) := by decide +kernel
theorem dX8_longestBeginning_5 : decode cX8_longestBeginning 5 = .ok (.iconst (-1), 1) := by decide +kernel
theorem dX8_longestBeginning_6 : decode cX8_longestBeginning 6 = .ok (.istore_n 2, 1) := by decide +kernel
theorem dX8_longestBeginning_7 : decode cX8_longestBeginning 7 = .ok (.iconst 0, 1) := by decide +kernel
theorem dX8_longestBeginning_8 : decode cX8_longestBeginning 8 = .ok (.istore_n 3, 1) := by decide +kernel
theorem dX8_longestBeginning_9 : decode cX8_longestBeginning 9 = .ok (.iload_n 3, 1) := by decide +kernel
theorem dX8_longestBeginning_10 : decode cX8_longestBeginning 10 = .ok (.aload_n 0, 1) := by decide +kernel
theorem dX8_longestBeginning_11 : decode cX8_longestBeginning 11 = .ok (.iload_n 1, 1) := by decide +kernel
theorem dX8_longestBeginning_12 : decode cX8_longestBeginning 12 = .ok (.invokevirtual 116, 3) := by decide +kernel
theorem dX8_longestBeginning_15 : decode cX8_longestBeginning 15 = .ok (.if_icmp .gt 30, 3) := by decide +kernel
theorem dX8_longestBeginning_18 : decode cX8_longestBeginning 18 = .ok (.aload_n 0, 1) := by decide +kernel
theorem dX8_longestBeginning_19 : decode cX8_longestBeginning 19 = .ok (.getfield 34, 3) := by decide +kernel
theorem dX8_longestBeginning_22 : decode cX8_longestBeginning 22 = .ok (.iload_n 3, 1) := by decide +kernel
theorem dX8_longestBeginning_23 : decode cX8_longestBeginning 23 = .ok (.iaload, 1) := by decide +kernel
theorem dX8_longestBeginning_24 : decode cX8_longestBeginning 24 = .ok (.aload_n 0, 1) := by decide +kernel
theorem dX8_longestBeginning_25 : decode cX8_longestBeginning 25 = .ok (.getfield 7, 3) := by decide +kernel
theorem dX8_longestBeginning_28 : decode cX8_longestBeginning 28 = .ok (.iconst 4, 1) := by decide +kernel
theorem dX8_longestBeginning_29 : decode cX8_longestBeginning 29 = .ok (.iaload, 1) := by decide +kernel
theorem dX8_longestBeginning_30 : decode cX8_longestBeginning 30 = .ok (.if_icmp .gt 7, 3) := by decide +kernel
theorem dX8_longestBeginning_33 : decode cX8_longestBeginning 33 = .ok (.iload_n 3, 1) := by decide +kernel
theorem dX8_longestBeginning_34 : decode cX8_longestBeginning 34 = .ok (.goto 4, 3) := by decide +kernel
theorem dX8_longestBeginning_37 : decode cX8_longestBeginning 37 = .ok (.iload_n 2, 1) := by decide +kernel
theorem dX8_longestBeginning_38 : decode cX8_longestBeginning 38 = .ok (.istore_n 2, 1) := by decide +kernel
theorem dX8_longestBeginning_39 : decode cX8_longestBeginning 39 = .ok (.iinc 3 1, 3) := by decide +kernel
theorem dX8_longestBeginning_42 : decode cX8_longestBeginning 42 = .ok (.goto (-33), 3) := by decide +kernel
theorem dX8_longestBeginning_45 : decode cX8_longestBeginning 45 = .ok (.iload_n 2, 1) := by decide +kernel
theorem dX8_longestBeginning_46 : decode cX8_longestBeginning 46 = .ok (.ireturn, 1) := by decide +kernel
theorem dX8_canBecome_0 : decode cX8_canBecome 0 = .ok (.iconst 0, 1) := by decide +kernel
theorem dX8_canBecome_1 : decode cX8_canBecome 1 = .ok (.istore_n 1, 1) := by decide +kernel
theorem dX8_canBecome_2 : decode cX8_canBecome 2 = .ok (.iconst 0, 1) := by decide +kernel
theorem dX8_canBecome_3 : decode cX8_canBecome 3 = .ok (.istore_n 2, 1) := by decide +kernel
theorem dX8_canBecome_4 : decode cX8_canBecome 4 = .ok (.iload_n 2, 1) := by decide +kernel
theorem dX8_canBecome_5 : decode cX8_canBecome 5 = .ok (.aload_n 0, 1) := by decide +kernel
theorem dX8_canBecome_6 : decode cX8_canBecome 6 = .ok (.getfield 7, 3) := by decide +kernel
theorem dX8_canBecome_9 : decode cX8_canBecome 9 = .ok (.bipush 6, 2) := by decide +kernel
theorem dX8_canBecome_11 : decode cX8_canBecome 11 = .ok (.iaload, 1) := by decide +kernel
theorem dX8_canBecome_12 : decode cX8_canBecome 12 = .ok (.if_icmp .ge 28, 3) := by decide +kernel
theorem dX8_canBecome_15 : decode cX8_canBecome 15 = .ok (.iload_n 1, 1) := by decide +kernel
theorem dX8_canBecome_16 : decode cX8_canBecome 16 = .ok (.aload_n 0, 1) := by decide +kernel
theorem dX8_canBecome_17 : decode cX8_canBecome 17 = .ok (.iload_n 2, 1) := by decide +kernel
theorem dX8_canBecome_18 : decode cX8_canBecome 18 = .ok (.invokevirtual 137, 3) := by decide +kernel
theorem dX8_canBecome_21 : decode cX8_canBecome 21 = .ok (.iconst (-1), 1) := by decide +kernel
theorem dX8_canBecome_22 : decode cX8_canBecome 22 = .ok (.if_icmp .ne 7, 3) := by decide +kernel
theorem dX8_canBecome_25 : decode cX8_canBecome 25 = .ok (.iconst 0, 1) := by decide +kernel
theorem dX8_canBecome_26 : decode cX8_canBecome 26 = .ok (.goto 6, 3) := by decide +kernel
theorem dX8_canBecome_29 : decode cX8_canBecome 29 = .ok (.iconst 1, 1) := by decide +kernel
theorem dX8_canBecome_30 : decode cX8_canBecome 30 = .ok (.iload_n 2, 1) := by decide +kernel
theorem dX8_canBecome_31 : decode cX8_canBecome 31 = .ok (.ishl, 1) := by decide +kernel
theorem dX8_canBecome_32 : decode cX8_canBecome 32 = .ok (.ior, 1) := by decide +kernel
theorem dX8_canBecome_33 : decode cX8_canBecome 33 = .ok (.istore_n 1, 1) := by decide +kernel
theorem dX8_canBecome_34 : decode cX8_canBecome 34 = .ok (.iinc 2 1, 3) := by decide +kernel
theorem dX8_canBecome_37 : decode cX8_canBecome 37 = .ok (.goto (-33), 3) := by decide +kernel
theorem dX8_canBecome_40 : decode cX8_canBecome 40 = .ok (.iload_n 1, 1) := by decide +kernel
theorem dX8_canBecome_41 : decode cX8_canBecome 41 = .ok (.ireturn, 1) := by decide +kernel
theorem dX8_toCome_0 : decode cX8_toCome 0 = .ok (.aload_n 0, 1) := by decide +kernel
theorem dX8_toCome_1 : decode cX8_toCome 1 = .ok (.invokevirtual 140, 3) := by decide +kernel
theorem dX8_toCome_4 : decode cX8_toCome 4 = .ok (.istore_n 1, 1) := by decide +kernel
theorem dX8_toCome_5 : decode cX8_toCome 5 = .ok (.iconst (-1), 1) := by decide +kernel
theorem dX8_toCome_6 : decode cX8_toCome 6 = .ok (.istore_n 2, 1) := by decide +kernel
theorem dX8_toCome_7 : decode cX8_toCome 7 = .ok (.iconst 0, 1) := by decide +kernel
theorem dX8_toCome_8 : decode cX8_toCome 8 = .ok (.istore_n 3, 1) := by decide +kernel
theorem dX8_toCome_9 : decode cX8_toCome 9 = .ok (.iload_n 3, 1) := by decide +kernel
theorem dX8_toCome_10 : decode cX8_toCome 10 = .ok (.aload_n 0, 1) := by decide +kernel
theorem dX8_toCome_11 : decode cX8_toCome 11 = .ok (.getfield 7, 3) := by decide +kernel
theorem dX8_toCome_14 : decode cX8_toCome 14 = .ok (.bipush 6, 2) := by decide +kernel
theorem dX8_toCome_16 : decode cX8_toCome 16 = .ok (.iaload, 1) := by decide +kernel
theorem dX8_toCome_17 : decode cX8_toCome 17 = .ok (.if_icmp .ge 32, 3) := by decide +kernel
theorem dX8_toCome_20 : decode cX8_toCome 20 = .ok (.iload_n 1, 1) := by decide +kernel
theorem dX8_toCome_21 : decode cX8_toCome 21 = .ok (.iconst 1, 1) := by decide +kernel
theorem dX8_toCome_22 : decode cX8_toCome 22 = .ok (.iload_n 3, 1) := by decide +kernel
theorem dX8_toCome_23 : decode cX8_toCome 23 = .ok (.ishl, 1) := by decide +kernel
theorem dX8_toCome_24 : decode cX8_toCome 24 = .ok (.if_icmp .ne 17, 3) := by decide +kernel
theorem dX8_toCome_27 : decode cX8_toCome 27 = .ok (.aload_n 0, 1) := by decide +kernel
theorem dX8_toCome_28 : decode cX8_toCome 28 = .ok (.iload_n 3, 1) := by decide +kernel
theorem dX8_toCome_29 : decode cX8_toCome 29 = .ok (.invokevirtual 116, 3) := by decide +kernel
theorem dX8_toCome_32 : decode cX8_toCome 32 = .ok (.aload_n 0, 1) := by decide +kernel
theorem dX8_toCome_33 : decode cX8_toCome 33 = .ok (.iload_n 3, 1) := by decide +kernel
theorem dX8_toCome_34 : decode cX8_toCome 34 = .ok (.invokevirtual 137, 3) := by decide +kernel
theorem dX8_toCome_37 : decode cX8_toCome 37 = .ok (.isub, 1) := by decide +kernel
theorem dX8_toCome_38 : decode cX8_toCome 38 = .ok (.goto 4, 3) := by decide +kernel
theorem dX8_toCome_41 : decode cX8_toCome 41 = .ok (.iload_n 2, 1) := by decide +kernel
theorem dX8_toCome_42 : decode cX8_toCome 42 = .ok (.istore_n 2, 1) := by decide +kernel
theorem dX8_toCome_43 : decode cX8_toCome 43 = .ok (.iinc 3 1, 3) := by decide +kernel
theorem dX8_toCome_46 : decode cX8_toCome 46 = .ok (.goto (-37), 3) := by decide +kernel
theorem dX8_toCome_49 : decode cX8_toCome 49 = .ok (.iload_n 2, 1) := by decide +kernel
theorem dX8_toCome_50 : decode cX8_toCome 50 = .ok (.ireturn, 1) := by decide +kernel
theorem dX8_addPoint_0 : decode cX8_addPoint 0 = .ok (.aload_n 0, 1) := by decide +kernel
theorem dX8_addPoint_1 : decode cX8_addPoint 1 = .ok (.getfield 7, 3) := by decide +kernel
theorem dX8_addPoint_4 : decode cX8_addPoint 4 = .ok (.bipush 7, 2) := by decide +kernel
theorem dX8_addPoint_6 : decode cX8_addPoint 6 = .ok (.iconst 2, 1) := by decide +kernel
theorem dX8_addPoint_7 : decode cX8_addPoint 7 = .ok (.aload_n 0, 1) := by decide +kernel
theorem dX8_addPoint_8 : decode cX8_addPoint 8 = .ok (.getfield 7, 3) := by decide +kernel
theorem dX8_addPoint_11 : decode cX8_addPoint 11 = .ok (.iconst 5, 1) := by decide +kernel
theorem dX8_addPoint_12 : decode cX8_addPoint 12 = .ok (.iaload, 1) := by decide +kernel
theorem dX8_addPoint_13 : decode cX8_addPoint 13 = .ok (.imul, 1) := by decide +kernel
theorem dX8_addPoint_14 : decode cX8_addPoint 14 = .ok (.iadd, 1) := by decide +kernel
theorem dX8_addPoint_15 : decode cX8_addPoint 15 = .ok (.iload_n 1, 1) := by decide +kernel
theorem dX8_addPoint_16 : decode cX8_addPoint 16 = .ok (.iastore, 1) := by decide +kernel
theorem dX8_addPoint_17 : decode cX8_addPoint 17 = .ok (.aload_n 0, 1) := by decide +kernel
theorem dX8_addPoint_18 : decode cX8_addPoint 18 = .ok (.getfield 7, 3) := by decide +kernel
theorem dX8_addPoint_21 : decode cX8_addPoint 21 = .ok (.bipush 7, 2) := by decide +kernel
theorem dX8_addPoint_23 : decode cX8_addPoint 23 = .ok (.iconst 2, 1) := by decide +kernel
theorem dX8_addPoint_24 : decode cX8_addPoint 24 = .ok (.aload_n 0, 1) := by decide +kernel
theorem dX8_addPoint_25 : decode cX8_addPoint 25 = .ok (.getfield 7, 3) := by decide +kernel
theorem dX8_addPoint_28 : decode cX8_addPoint 28 = .ok (.iconst 5, 1) := by decide +kernel
theorem dX8_addPoint_29 : decode cX8_addPoint 29 = .ok (.iaload, 1) := by decide +kernel
theorem dX8_addPoint_30 : decode cX8_addPoint 30 = .ok (.imul, 1) := by decide +kernel
theorem dX8_addPoint_31 : decode cX8_addPoint 31 = .ok (.iadd, 1) := by decide +kernel
theorem dX8_addPoint_32 : decode cX8_addPoint 32 = .ok (.iconst 1, 1) := by decide +kernel
theorem dX8_addPoint_33 : decode cX8_addPoint 33 = .ok (.iadd, 1) := by decide +kernel
theorem dX8_addPoint_34 : decode cX8_addPoint 34 = .ok (.iload_n 2, 1) := by decide +kernel
theorem dX8_addPoint_35 : decode cX8_addPoint 35 = .ok (.iastore, 1) := by decide +kernel
theorem dX8_addPoint_36 : decode cX8_addPoint 36 = .ok (.aload_n 0, 1) := by decide +kernel
theorem dX8_addPoint_37 : decode cX8_addPoint 37 = .ok (.getfield 7, 3) := by decide +kernel
theorem dX8_addPoint_40 : decode cX8_addPoint 40 = .ok (.iconst 5, 1) := by decide +kernel
theorem dX8_addPoint_41 : decode cX8_addPoint 41 = .ok (.dup2, 1) := by decide +kernel
theorem dX8_addPoint_42 : decode cX8_addPoint 42 = .ok (.iaload, 1) := by decide +kernel
theorem dX8_addPoint_43 : decode cX8_addPoint 43 = .ok (.iconst 1, 1) := by decide +kernel
theorem dX8_addPoint_44 : decode cX8_addPoint 44 = .ok (.iadd, 1) := by decide +kernel
theorem dX8_addPoint_45 : decode cX8_addPoint 45 = .ok (.iastore, 1) := by decide +kernel
theorem dX8_addPoint_46 : decode cX8_addPoint 46 = .ok (.return_, 1) := by decide +kernel
theorem dX8_point_0 : decode cX8_point 0 = .ok (.aload_n 0, 1) := by decide +kernel
theorem dX8_point_1 : decode cX8_point 1 = .ok (.iload_n 1, 1) := by decide +kernel
theorem dX8_point_2 : decode cX8_point 2 = .ok (.iload_n 2, 1) := by decide +kernel
theorem dX8_point_3 : decode cX8_point 3 = .ok (.invokestatic 143, 3) := by decide +kernel
theorem dX8_point_6 : decode cX8_point 6 = .ok (.ifCond .ne 7, 3) := by decide +kernel
theorem dX8_point_9 : decode cX8_point 9 = .ok (.iconst 1, 1) := by decide +kernel
theorem dX8_point_10 : decode cX8_point 10 = .ok (.goto 19, 3) := by decide +kernel
theorem dX8_point_13 : decode cX8_point 13 = .ok (.aload_n 0, 1) := by decide +kernel
theorem dX8_point_14 : decode cX8_point 14 = .ok (.getfield 7, 3) := by decide +kernel
theorem dX8_point_17 : decode cX8_point 17 = .ok (.iconst 5, 1) := by decide +kernel
theorem dX8_point_18 : decode cX8_point 18 = .ok (.iaload, 1) := by decide +kernel
theorem dX8_point_19 : decode cX8_point 19 = .ok (.bipush 40, 2) := by decide +kernel
theorem dX8_point_21 : decode cX8_point 21 = .ok (.if_icmp .ne 7, 3) := by decide +kernel
theorem dX8_point_24 : decode cX8_point 24 = .ok (.iconst 2, 1) := by decide +kernel
theorem dX8_point_25 : decode cX8_point 25 = .ok (.goto 4, 3) := by decide +kernel
theorem dX8_point_28 : decode cX8_point 28 = .ok (.iconst 0, 1) := by decide +kernel
theorem dX8_point_29 : decode cX8_point 29 = .ok (.putfield 43, 3) := by decide +kernel
theorem dX8_point_32 : decode cX8_point 32 = .ok (.aload_n 0, 1) := by decide +kernel
theorem dX8_point_33 : decode cX8_point 33 = .ok (.getfield 43, 3) := by decide +kernel
theorem dX8_point_36 : decode cX8_point 36 = .ok (.ifCond .le 5, 3) := by decide +kernel
theorem dX8_point_39 : decode cX8_point 39 = .ok (.iconst 0, 1) := by decide +kernel
theorem dX8_point_40 : decode cX8_point 40 = .ok (.ireturn, 1) := by decide +kernel
theorem dX8_point_41 : decode cX8_point 41 = .ok (.aload_n 0, 1) := by decide +kernel
theorem dX8_point_42 : decode cX8_point 42 = .ok (.invokevirtual 147, 3) := by decide +kernel
theorem dX8_point_45 : decode cX8_point 45 = .ok (.aload_n 0, 1) := by decide +kernel
theorem dX8_point_46 : decode cX8_point 46 = .ok (.iload_n 1, 1) := by decide +kernel
theorem dX8_point_47 : decode cX8_point 47 = .ok (.iload_n 2, 1) := by decide +kernel
theorem dX8_point_48 : decode cX8_point 48 = .ok (.invokevirtual 150, 3) := by decide +kernel
theorem dX8_point_51 : decode cX8_point 51 = .ok (.aload_n 0, 1) := by decide +kernel
theorem dX8_point_52 : decode cX8_point 52 = .ok (.getfield 7, 3) := by decide +kernel
theorem dX8_point_55 : decode cX8_point 55 = .ok (.iconst 5, 1) := by decide +kernel
theorem dX8_point_56 : decode cX8_point 56 = .ok (.iaload, 1) := by decide +kernel
theorem dX8_point_57 : decode cX8_point 57 = .ok (.ireturn, 1) := by decide +kernel
theorem dX8_lastPart_0 : decode cX8_lastPart 0 = .ok (.aload_n 0, 1) := by decide +kernel
theorem dX8_lastPart_1 : decode cX8_lastPart 1 = .ok (.getfield 7, 3) := by decide +kernel
theorem dX8_lastPart_4 : decode cX8_lastPart 4 = .ok (.iconst 5, 1) := by decide +kernel
theorem dX8_lastPart_5 : decode cX8_lastPart 5 = .ok (.iaload, 1) := by decide +kernel
theorem dX8_lastPart_6 : decode cX8_lastPart 6 = .ok (.ifCond .ne 7, 3) := by decide +kernel
theorem dX8_lastPart_9 : decode cX8_lastPart 9 = .ok (.iconst 0, 1) := by decide +kernel
theorem dX8_lastPart_10 : decode cX8_lastPart 10 = .ok (.goto 23, 3) := by decide +kernel
theorem dX8_lastPart_13 : decode cX8_lastPart 13 = .ok (.aload_n 0, 1) := by decide +kernel
theorem dX8_lastPart_14 : decode cX8_lastPart 14 = .ok (.getfield 7, 3) := by decide +kernel
theorem dX8_lastPart_17 : decode cX8_lastPart 17 = .ok (.bipush 7, 2) := by decide +kernel
theorem dX8_lastPart_19 : decode cX8_lastPart 19 = .ok (.iconst 2, 1) := by decide +kernel
theorem dX8_lastPart_20 : decode cX8_lastPart 20 = .ok (.aload_n 0, 1) := by decide +kernel
theorem dX8_lastPart_21 : decode cX8_lastPart 21 = .ok (.getfield 7, 3) := by decide +kernel
theorem dX8_lastPart_24 : decode cX8_lastPart 24 = .ok (.iconst 5, 1) := by decide +kernel
theorem dX8_lastPart_25 : decode cX8_lastPart 25 = .ok (.iaload, 1) := by decide +kernel
theorem dX8_lastPart_26 : decode cX8_lastPart 26 = .ok (.iconst 1, 1) := by decide +kernel
theorem dX8_lastPart_27 : decode cX8_lastPart 27 = .ok (.isub, 1) := by decide +kernel
theorem dX8_lastPart_28 : decode cX8_lastPart 28 = .ok (.imul, 1) := by decide +kernel
theorem dX8_lastPart_29 : decode cX8_lastPart 29 = .ok (.iadd, 1) := by decide +kernel
theorem dX8_lastPart_30 : decode cX8_lastPart 30 = .ok (.iload_n 1, 1) := by decide +kernel
theorem dX8_lastPart_31 : decode cX8_lastPart 31 = .ok (.iadd, 1) := by decide +kernel
theorem dX8_lastPart_32 : decode cX8_lastPart 32 = .ok (.iaload, 1) := by decide +kernel
theorem dX8_lastPart_33 : decode cX8_lastPart 33 = .ok (.ireturn, 1) := by decide +kernel
theorem dX8_stepsFor_0 : decode cX8_stepsFor 0 = .ok (.iconst 0, 1) := by decide +kernel
theorem dX8_stepsFor_1 : decode cX8_stepsFor 1 = .ok (.istore_n 3, 1) := by decide +kernel
theorem dX8_stepsFor_2 : decode cX8_stepsFor 2 = .ok (.iload_n 3, 1) := by decide +kernel
theorem dX8_stepsFor_3 : decode cX8_stepsFor 3 = .ok (.iload_n 2, 1) := by decide +kernel
theorem dX8_stepsFor_4 : decode cX8_stepsFor 4 = .ok (.if_icmp .ge 43, 3) := by decide +kernel
theorem dX8_stepsFor_7 : decode cX8_stepsFor 7 = .ok (.aload_n 0, 1) := by decide +kernel
theorem dX8_stepsFor_8 : decode cX8_stepsFor 8 = .ok (.iconst 0, 1) := by decide +kernel
theorem dX8_stepsFor_9 : decode cX8_stepsFor 9 = .ok (.invokevirtual 154, 3) := by decide +kernel
theorem dX8_stepsFor_12 : decode cX8_stepsFor 12 = .ok (.iload_n 1, 1) := by decide +kernel
theorem dX8_stepsFor_13 : decode cX8_stepsFor 13 = .ok (.invokestatic 54, 3) := by decide +kernel
theorem dX8_stepsFor_16 : decode cX8_stepsFor 16 = .ok (.iload_n 3, 1) := by decide +kernel
theorem dX8_stepsFor_17 : decode cX8_stepsFor 17 = .ok (.iconst 1, 1) := by decide +kernel
theorem dX8_stepsFor_18 : decode cX8_stepsFor 18 = .ok (.iadd, 1) := by decide +kernel
theorem dX8_stepsFor_19 : decode cX8_stepsFor 19 = .ok (.imul, 1) := by decide +kernel
theorem dX8_stepsFor_20 : decode cX8_stepsFor 20 = .ok (.iadd, 1) := by decide +kernel
theorem dX8_stepsFor_21 : decode cX8_stepsFor 21 = .ok (.aload_n 0, 1) := by decide +kernel
theorem dX8_stepsFor_22 : decode cX8_stepsFor 22 = .ok (.iconst 1, 1) := by decide +kernel
theorem dX8_stepsFor_23 : decode cX8_stepsFor 23 = .ok (.invokevirtual 154, 3) := by decide +kernel
theorem dX8_stepsFor_26 : decode cX8_stepsFor 26 = .ok (.iload_n 1, 1) := by decide +kernel
theorem dX8_stepsFor_27 : decode cX8_stepsFor 27 = .ok (.invokestatic 61, 3) := by decide +kernel
theorem dX8_stepsFor_30 : decode cX8_stepsFor 30 = .ok (.iload_n 3, 1) := by decide +kernel
theorem dX8_stepsFor_31 : decode cX8_stepsFor 31 = .ok (.iconst 1, 1) := by decide +kernel
theorem dX8_stepsFor_32 : decode cX8_stepsFor 32 = .ok (.iadd, 1) := by decide +kernel
theorem dX8_stepsFor_33 : decode cX8_stepsFor 33 = .ok (.imul, 1) := by decide +kernel
theorem dX8_stepsFor_34 : decode cX8_stepsFor 34 = .ok (.iadd, 1) := by decide +kernel
theorem dX8_stepsFor_35 : decode cX8_stepsFor 35 = .ok (.invokestatic 143, 3) := by decide +kernel
theorem dX8_stepsFor_38 : decode cX8_stepsFor 38 = .ok (.ifCond .eq 9, 3) := by decide +kernel
theorem dX8_stepsFor_41 : decode cX8_stepsFor 41 = .ok (.iinc 3 1, 3) := by decide +kernel
theorem dX8_stepsFor_44 : decode cX8_stepsFor 44 = .ok (.goto (-42), 3) := by decide +kernel
theorem dX8_stepsFor_47 : decode cX8_stepsFor 47 = .ok (.iload_n 3, 1) := by decide +kernel
theorem dX8_stepsFor_48 : decode cX8_stepsFor 48 = .ok (.ireturn, 1) := by decide +kernel
theorem dX8_go_0 : decode cX8_go 0 = .ok (.aload_n 0, 1) := by decide +kernel
theorem dX8_go_1 : decode cX8_go 1 = .ok (.iload_n 1, 1) := by decide +kernel
theorem dX8_go_2 : decode cX8_go 2 = .ok (.invokestatic 157, 3) := by decide +kernel
theorem dX8_go_5 : decode cX8_go 5 = .ok (.ifCond .eq 17, 3) := by decide +kernel
theorem dX8_go_8 : decode cX8_go 8 = .ok (.iload_n 2, 1) := by decide +kernel
theorem dX8_go_9 : decode cX8_go 9 = .ok (.iconst 1, 1) := by decide +kernel
theorem dX8_go_10 : decode cX8_go 10 = .ok (.bipush 31, 2) := by decide +kernel
theorem dX8_go_12 : decode cX8_go 12 = .ok (.invokestatic 50, 3) := by decide +kernel
theorem dX8_go_15 : decode cX8_go 15 = .ok (.ifCond .eq 7, 3) := by decide +kernel
theorem dX8_go_18 : decode cX8_go 18 = .ok (.iconst 0, 1) := by decide +kernel
theorem dX8_go_19 : decode cX8_go 19 = .ok (.goto 4, 3) := by decide +kernel
theorem dX8_go_22 : decode cX8_go 22 = .ok (.iconst 1, 1) := by decide +kernel
theorem dX8_go_23 : decode cX8_go 23 = .ok (.putfield 43, 3) := by decide +kernel
theorem dX8_go_26 : decode cX8_go 26 = .ok (.aload_n 0, 1) := by decide +kernel
theorem dX8_go_27 : decode cX8_go 27 = .ok (.getfield 43, 3) := by decide +kernel
theorem dX8_go_30 : decode cX8_go 30 = .ok (.ifCond .ne 34, 3) := by decide +kernel
theorem dX8_go_33 : decode cX8_go 33 = .ok (.aload_n 0, 1) := by decide +kernel
theorem dX8_go_34 : decode cX8_go 34 = .ok (.aload_n 0, 1) := by decide +kernel
theorem dX8_go_35 : decode cX8_go 35 = .ok (.getfield 7, 3) := by decide +kernel
theorem dX8_go_38 : decode cX8_go 38 = .ok (.iconst 5, 1) := by decide +kernel
theorem dX8_go_39 : decode cX8_go 39 = .ok (.iaload, 1) := by decide +kernel
theorem dX8_go_40 : decode cX8_go 40 = .ok (.iconst 1, 1) := by decide +kernel
theorem dX8_go_41 : decode cX8_go 41 = .ok (.invokestatic 71, 3) := by decide +kernel
theorem dX8_go_44 : decode cX8_go 44 = .ok (.aload_n 0, 1) := by decide +kernel
theorem dX8_go_45 : decode cX8_go 45 = .ok (.iload_n 1, 1) := by decide +kernel
theorem dX8_go_46 : decode cX8_go 46 = .ok (.iload_n 2, 1) := by decide +kernel
theorem dX8_go_47 : decode cX8_go 47 = .ok (.invokevirtual 160, 3) := by decide +kernel
theorem dX8_go_50 : decode cX8_go 50 = .ok (.iadd, 1) := by decide +kernel
theorem dX8_go_51 : decode cX8_go 51 = .ok (.bipush 40, 2) := by decide +kernel
theorem dX8_go_53 : decode cX8_go 53 = .ok (.if_icmp .le 7, 3) := by decide +kernel
theorem dX8_go_56 : decode cX8_go 56 = .ok (.iconst 2, 1) := by decide +kernel
theorem dX8_go_57 : decode cX8_go 57 = .ok (.goto 4, 3) := by decide +kernel
theorem dX8_go_60 : decode cX8_go 60 = .ok (.iconst 0, 1) := by decide +kernel
theorem dX8_go_61 : decode cX8_go 61 = .ok (.putfield 43, 3) := by decide +kernel
theorem dX8_go_64 : decode cX8_go 64 = .ok (.aload_n 0, 1) := by decide +kernel
theorem dX8_go_65 : decode cX8_go 65 = .ok (.getfield 43, 3) := by decide +kernel
theorem dX8_go_68 : decode cX8_go 68 = .ok (.ifCond .le 5, 3) := by decide +kernel
theorem dX8_go_71 : decode cX8_go 71 = .ok (.iconst 0, 1) := by decide +kernel
theorem dX8_go_72 : decode cX8_go 72 = .ok (.ireturn, 1) := by decide +kernel
theorem dX8_go_73 : decode cX8_go 73 = .ok (.aload_n 0, 1) := by decide +kernel
theorem dX8_go_74 : decode cX8_go 74 = .ok (.invokevirtual 147, 3) := by decide +kernel
theorem dX8_go_77 : decode cX8_go 77 = .ok (.aload_n 0, 1) := by decide +kernel
theorem dX8_go_78 : decode cX8_go 78 = .ok (.iload_n 1, 1) := by decide +kernel
theorem dX8_go_79 : decode cX8_go 79 = .ok (.iload_n 2, 1) := by decide +kernel
theorem dX8_go_80 : decode cX8_go 80 = .ok (.invokevirtual 160, 3) := by decide +kernel
theorem dX8_go_83 : decode cX8_go 83 = .ok (.istore_n 3, 1) := by decide +kernel
theorem dX8_go_84 : decode cX8_go 84 = .ok (.aload_n 0, 1) := by decide +kernel
theorem dX8_go_85 : decode cX8_go 85 = .ok (.getfield 7, 3) := by decide +kernel
theorem dX8_go_88 : decode cX8_go 88 = .ok (.iconst 5, 1) := by decide +kernel
theorem dX8_go_89 : decode cX8_go 89 = .ok (.iaload, 1) := by decide +kernel
theorem dX8_go_90 : decode cX8_go 90 = .ok (.ifCond .ne 9, 3) := by decide +kernel
theorem dX8_go_93 : decode cX8_go 93 = .ok (.aload_n 0, 1) := by decide +kernel
theorem dX8_go_94 : decode cX8_go 94 = .ok (.iconst 0, 1) := by decide +kernel
theorem dX8_go_95 : decode cX8_go 95 = .ok (.iconst 0, 1) := by decide +kernel
theorem dX8_go_96 : decode cX8_go 96 = .ok (.invokevirtual 150, 3) := by decide +kernel
theorem dX8_go_99 : decode cX8_go 99 = .ok (.iconst 0, 1) := by decide +kernel
theorem dX8_go_100 : decode cX8_go 100 = .ok (.istore 4, 2) := by decide +kernel
theorem dX8_go_102 : decode cX8_go 102 = .ok (.iload 4, 2) := by decide +kernel
theorem dX8_go_104 : decode cX8_go 104 = .ok (.iload_n 3, 1) := by decide +kernel
theorem dX8_go_105 : decode cX8_go 105 = .ok (.if_icmp .ge 33, 3) := by decide +kernel
theorem dX8_go_108 : decode cX8_go 108 = .ok (.aload_n 0, 1) := by decide +kernel
theorem dX8_go_109 : decode cX8_go 109 = .ok (.aload_n 0, 1) := by decide +kernel
theorem dX8_go_110 : decode cX8_go 110 = .ok (.iconst 0, 1) := by decide +kernel
theorem dX8_go_111 : decode cX8_go 111 = .ok (.invokevirtual 154, 3) := by decide +kernel
theorem dX8_go_114 : decode cX8_go 114 = .ok (.iload_n 1, 1) := by decide +kernel
theorem dX8_go_115 : decode cX8_go 115 = .ok (.invokestatic 54, 3) := by decide +kernel
theorem dX8_go_118 : decode cX8_go 118 = .ok (.iadd, 1) := by decide +kernel
theorem dX8_go_119 : decode cX8_go 119 = .ok (.aload_n 0, 1) := by decide +kernel
theorem dX8_go_120 : decode cX8_go 120 = .ok (.iconst 1, 1) := by decide +kernel
theorem dX8_go_121 : decode cX8_go 121 = .ok (.invokevirtual 154, 3) := by decide +kernel
theorem dX8_go_124 : decode cX8_go 124 = .ok (.iload_n 1, 1) := by decide +kernel
theorem dX8_go_125 : decode cX8_go 125 = .ok (.invokestatic 61, 3) := by decide +kernel
theorem dX8_go_128 : decode cX8_go 128 = .ok (.iadd, 1) := by decide +kernel
theorem dX8_go_129 : decode cX8_go 129 = .ok (.invokevirtual 150, 3) := by decide +kernel
theorem dX8_go_132 : decode cX8_go 132 = .ok (.iinc 4 1, 3) := by decide +kernel
theorem dX8_go_135 : decode cX8_go 135 = .ok (.goto (-33), 3) := by decide +kernel
theorem dX8_go_138 : decode cX8_go 138 = .ok (.iload_n 3, 1) := by decide +kernel
theorem dX8_go_139 : decode cX8_go 139 = .ok (.ireturn, 1) := by decide +kernel
theorem dX8_clearFrom_0 : decode cX8_clearFrom 0 = .ok (.aload_n 0, 1) := by decide +kernel
theorem dX8_clearFrom_1 : decode cX8_clearFrom 1 = .ok (.getfield 7, 3) := by decide +kernel
theorem dX8_clearFrom_4 : decode cX8_clearFrom 4 = .ok (.iconst 5, 1) := by decide +kernel
theorem dX8_clearFrom_5 : decode cX8_clearFrom 5 = .ok (.iload_n 1, 1) := by decide +kernel
theorem dX8_clearFrom_6 : decode cX8_clearFrom 6 = .ok (.iastore, 1) := by decide +kernel
theorem dX8_clearFrom_7 : decode cX8_clearFrom 7 = .ok (.bipush 7, 2) := by decide +kernel
theorem dX8_clearFrom_9 : decode cX8_clearFrom 9 = .ok (.iconst 2, 1) := by decide +kernel
theorem dX8_clearFrom_10 : decode cX8_clearFrom 10 = .ok (.iload_n 1, 1) := by decide +kernel
theorem dX8_clearFrom_11 : decode cX8_clearFrom 11 = .ok (.imul, 1) := by decide +kernel
theorem dX8_clearFrom_12 : decode cX8_clearFrom 12 = .ok (.iadd, 1) := by decide +kernel
theorem dX8_clearFrom_13 : decode cX8_clearFrom 13 = .ok (.istore_n 2, 1) := by decide +kernel
theorem dX8_clearFrom_14 : decode cX8_clearFrom 14 = .ok (.iload_n 2, 1) := by decide +kernel
theorem dX8_clearFrom_15 : decode cX8_clearFrom 15 = .ok (.bipush 87, 2) := by decide +kernel
theorem dX8_clearFrom_17 : decode cX8_clearFrom 17 = .ok (.if_icmp .ge 16, 3) := by decide +kernel
theorem dX8_clearFrom_20 : decode cX8_clearFrom 20 = .ok (.aload_n 0, 1) := by decide +kernel
theorem dX8_clearFrom_21 : decode cX8_clearFrom 21 = .ok (.getfield 7, 3) := by decide +kernel
theorem dX8_clearFrom_24 : decode cX8_clearFrom 24 = .ok (.iload_n 2, 1) := by decide +kernel
theorem dX8_clearFrom_25 : decode cX8_clearFrom 25 = .ok (.iconst 0, 1) := by decide +kernel
theorem dX8_clearFrom_26 : decode cX8_clearFrom 26 = .ok (.iastore, 1) := by decide +kernel
theorem dX8_clearFrom_27 : decode cX8_clearFrom 27 = .ok (.iinc 2 1, 3) := by decide +kernel
theorem dX8_clearFrom_30 : decode cX8_clearFrom 30 = .ok (.goto (-16), 3) := by decide +kernel
theorem dX8_clearFrom_33 : decode cX8_clearFrom 33 = .ok (.return_, 1) := by decide +kernel
theorem dX8_back_0 : decode cX8_back 0 = .ok (.aload_n 0, 1) := by decide +kernel
theorem dX8_back_1 : decode cX8_back 1 = .ok (.iload_n 1, 1) := by decide +kernel
theorem dX8_back_2 : decode cX8_back 2 = .ok (.iconst 1, 1) := by decide +kernel
theorem dX8_back_3 : decode cX8_back 3 = .ok (.aload_n 0, 1) := by decide +kernel
theorem dX8_back_4 : decode cX8_back 4 = .ok (.getfield 7, 3) := by decide +kernel
theorem dX8_back_7 : decode cX8_back 7 = .ok (.iconst 5, 1) := by decide +kernel
theorem dX8_back_8 : decode cX8_back 8 = .ok (.iaload, 1) := by decide +kernel
theorem dX8_back_9 : decode cX8_back 9 = .ok (.invokestatic 50, 3) := by decide +kernel
theorem dX8_back_12 : decode cX8_back 12 = .ok (.ifCond .eq 7, 3) := by decide +kernel
theorem dX8_back_15 : decode cX8_back 15 = .ok (.iconst 0, 1) := by decide +kernel
theorem dX8_back_16 : decode cX8_back 16 = .ok (.goto 4, 3) := by decide +kernel
theorem dX8_back_19 : decode cX8_back 19 = .ok (.iconst 1, 1) := by decide +kernel
theorem dX8_back_20 : decode cX8_back 20 = .ok (.putfield 43, 3) := by decide +kernel
theorem dX8_back_23 : decode cX8_back 23 = .ok (.aload_n 0, 1) := by decide +kernel
theorem dX8_back_24 : decode cX8_back 24 = .ok (.getfield 43, 3) := by decide +kernel
theorem dX8_back_27 : decode cX8_back 27 = .ok (.ifCond .le 5, 3) := by decide +kernel
theorem dX8_back_30 : decode cX8_back 30 = .ok (.iconst 0, 1) := by decide +kernel
theorem dX8_back_31 : decode cX8_back 31 = .ok (.ireturn, 1) := by decide +kernel
theorem dX8_back_32 : decode cX8_back 32 = .ok (.aload_n 0, 1) := by decide +kernel
theorem dX8_back_33 : decode cX8_back 33 = .ok (.invokevirtual 147, 3) := by decide +kernel
theorem dX8_back_36 : decode cX8_back 36 = .ok (.aload_n 0, 1) := by decide +kernel
theorem dX8_back_37 : decode cX8_back 37 = .ok (.aload_n 0, 1) := by decide +kernel
theorem dX8_back_38 : decode cX8_back 38 = .ok (.getfield 7, 3) := by decide +kernel
theorem dX8_back_41 : decode cX8_back 41 = .ok (.iconst 5, 1) := by decide +kernel
theorem dX8_back_42 : decode cX8_back 42 = .ok (.iaload, 1) := by decide +kernel
theorem dX8_back_43 : decode cX8_back 43 = .ok (.iload_n 1, 1) := by decide +kernel
theorem dX8_back_44 : decode cX8_back 44 = .ok (.isub, 1) := by decide +kernel
theorem dX8_back_45 : decode cX8_back 45 = .ok (.invokevirtual 163, 3) := by decide +kernel
theorem dX8_back_48 : decode cX8_back 48 = .ok (.aload_n 0, 1) := by decide +kernel
theorem dX8_back_49 : decode cX8_back 49 = .ok (.getfield 7, 3) := by decide +kernel
theorem dX8_back_52 : decode cX8_back 52 = .ok (.iconst 5, 1) := by decide +kernel
theorem dX8_back_53 : decode cX8_back 53 = .ok (.iaload, 1) := by decide +kernel
theorem dX8_back_54 : decode cX8_back 54 = .ok (.ireturn, 1) := by decide +kernel
theorem dX8_begin_0 : decode cX8_begin 0 = .ok (.aload_n 0, 1) := by decide +kernel
theorem dX8_begin_1 : decode cX8_begin 1 = .ok (.iconst 0, 1) := by decide +kernel
theorem dX8_begin_2 : decode cX8_begin 2 = .ok (.putfield 43, 3) := by decide +kernel
theorem dX8_begin_5 : decode cX8_begin 5 = .ok (.aload_n 0, 1) := by decide +kernel
theorem dX8_begin_6 : decode cX8_begin 6 = .ok (.invokevirtual 147, 3) := by decide +kernel
theorem dX8_begin_9 : decode cX8_begin 9 = .ok (.aload_n 0, 1) := by decide +kernel
theorem dX8_begin_10 : decode cX8_begin 10 = .ok (.getfield 7, 3) := by decide +kernel
theorem dX8_begin_13 : decode cX8_begin 13 = .ok (.iconst 5, 1) := by decide +kernel
theorem dX8_begin_14 : decode cX8_begin 14 = .ok (.iaload, 1) := by decide +kernel
theorem dX8_begin_15 : decode cX8_begin 15 = .ok (.istore_n 1, 1) := by decide +kernel
theorem dX8_begin_16 : decode cX8_begin 16 = .ok (.aload_n 0, 1) := by decide +kernel
theorem dX8_begin_17 : decode cX8_begin 17 = .ok (.iconst 0, 1) := by decide +kernel
theorem dX8_begin_18 : decode cX8_begin 18 = .ok (.invokevirtual 163, 3) := by decide +kernel
theorem dX8_begin_21 : decode cX8_begin 21 = .ok (.iload_n 1, 1) := by decide +kernel
theorem dX8_begin_22 : decode cX8_begin 22 = .ok (.ireturn, 1) := by decide +kernel
theorem dX8_canTurn_0 : decode cX8_canTurn 0 = .ok (.aload_n 0, 1) := by decide +kernel
theorem dX8_canTurn_1 : decode cX8_canTurn 1 = .ok (.invokevirtual 110, 3) := by decide +kernel
theorem dX8_canTurn_4 : decode cX8_canTurn 4 = .ok (.iconst 1, 1) := by decide +kernel
theorem dX8_canTurn_5 : decode cX8_canTurn 5 = .ok (.istore_n 2, 1) := by decide +kernel
theorem dX8_canTurn_6 : decode cX8_canTurn 6 = .ok (.iconst 0, 1) := by decide +kernel
theorem dX8_canTurn_7 : decode cX8_canTurn 7 = .ok (.istore_n 3, 1) := by decide +kernel
theorem dX8_canTurn_8 : decode cX8_canTurn 8 = .ok (.iload_n 3, 1) := by decide +kernel
theorem dX8_canTurn_9 : decode cX8_canTurn 9 = .ok (.aload_n 0, 1) := by decide +kernel
theorem dX8_canTurn_10 : decode cX8_canTurn 10 = .ok (.getfield 64, 3) := by decide +kernel
theorem dX8_canTurn_13 : decode cX8_canTurn 13 = .ok (.if_icmp .ge 202, 3) := by decide +kernel
theorem dX8_canTurn_16 : decode cX8_canTurn 16 = .ok (.aload_n 0, 1) := by decide +kernel
theorem dX8_canTurn_17 : decode cX8_canTurn 17 = .ok (.iload_n 3, 1) := by decide +kernel
theorem dX8_canTurn_18 : decode cX8_canTurn 18 = .ok (.invokevirtual 77, 3) := by decide +kernel
theorem dX8_canTurn_21 : decode cX8_canTurn 21 = .ok (.istore 4, 2) := by decide +kernel
theorem dX8_canTurn_23 : decode cX8_canTurn 23 = .ok (.aload_n 0, 1) := by decide +kernel
theorem dX8_canTurn_24 : decode cX8_canTurn 24 = .ok (.iload_n 3, 1) := by decide +kernel
theorem dX8_canTurn_25 : decode cX8_canTurn 25 = .ok (.invokevirtual 80, 3) := by decide +kernel
theorem dX8_canTurn_28 : decode cX8_canTurn 28 = .ok (.istore 5, 2) := by decide +kernel
theorem dX8_canTurn_30 : decode cX8_canTurn 30 = .ok (.iload_n 3, 1) := by decide +kernel
theorem dX8_canTurn_31 : decode cX8_canTurn 31 = .ok (.ifCond .ne 12, 3) := by decide +kernel
theorem dX8_canTurn_34 : decode cX8_canTurn 34 = .ok (.aload_n 0, 1) := by decide +kernel
theorem dX8_canTurn_35 : decode cX8_canTurn 35 = .ok (.getfield 19, 3) := by decide +kernel
theorem dX8_canTurn_38 : decode cX8_canTurn 38 = .ok (.iconst 0, 1) := by decide +kernel
theorem dX8_canTurn_39 : decode cX8_canTurn 39 = .ok (.iaload, 1) := by decide +kernel
theorem dX8_canTurn_40 : decode cX8_canTurn 40 = .ok (.goto 11, 3) := by decide +kernel
theorem dX8_canTurn_43 : decode cX8_canTurn 43 = .ok (.aload_n 0, 1) := by decide +kernel
theorem dX8_canTurn_44 : decode cX8_canTurn 44 = .ok (.getfield 37, 3) := by decide +kernel
theorem dX8_canTurn_47 : decode cX8_canTurn 47 = .ok (.iload_n 3, 1) := by decide +kernel
theorem dX8_canTurn_48 : decode cX8_canTurn 48 = .ok (.iconst 1, 1) := by decide +kernel
theorem dX8_canTurn_49 : decode cX8_canTurn 49 = .ok (.isub, 1) := by decide +kernel
theorem dX8_canTurn_50 : decode cX8_canTurn 50 = .ok (.iaload, 1) := by decide +kernel
theorem dX8_canTurn_51 : decode cX8_canTurn 51 = .ok (.istore 6, 2) := by decide +kernel
theorem dX8_canTurn_53 : decode cX8_canTurn 53 = .ok (.iload_n 3, 1) := by decide +kernel
theorem dX8_canTurn_54 : decode cX8_canTurn 54 = .ok (.ifCond .ne 12, 3) := by decide +kernel
theorem dX8_canTurn_57 : decode cX8_canTurn 57 = .ok (.aload_n 0, 1) := by decide +kernel
theorem dX8_canTurn_58 : decode cX8_canTurn 58 = .ok (.getfield 22, 3) := by decide +kernel
theorem dX8_canTurn_61 : decode cX8_canTurn 61 = .ok (.iconst 0, 1) := by decide +kernel
theorem dX8_canTurn_62 : decode cX8_canTurn 62 = .ok (.iaload, 1) := by decide +kernel
theorem dX8_canTurn_63 : decode cX8_canTurn 63 = .ok (.goto 11, 3) := by decide +kernel
theorem dX8_canTurn_66 : decode cX8_canTurn 66 = .ok (.aload_n 0, 1) := by decide +kernel
theorem dX8_canTurn_67 : decode cX8_canTurn 67 = .ok (.getfield 40, 3) := by decide +kernel
theorem dX8_canTurn_70 : decode cX8_canTurn 70 = .ok (.iload_n 3, 1) := by decide +kernel
theorem dX8_canTurn_71 : decode cX8_canTurn 71 = .ok (.iconst 1, 1) := by decide +kernel
theorem dX8_canTurn_72 : decode cX8_canTurn 72 = .ok (.isub, 1) := by decide +kernel
theorem dX8_canTurn_73 : decode cX8_canTurn 73 = .ok (.iaload, 1) := by decide +kernel
theorem dX8_canTurn_74 : decode cX8_canTurn 74 = .ok (.istore 7, 2) := by decide +kernel
theorem dX8_canTurn_76 : decode cX8_canTurn 76 = .ok (.iload 4, 2) := by decide +kernel
theorem dX8_canTurn_78 : decode cX8_canTurn 78 = .ok (.iconst (-1), 1) := by decide +kernel
theorem dX8_canTurn_79 : decode cX8_canTurn 79 = .ok (.if_icmp .eq 94, 3) := by decide +kernel
theorem dX8_canTurn_82 : decode cX8_canTurn 82 = .ok (.aload_n 0, 1) := by decide +kernel
theorem dX8_canTurn_83 : decode cX8_canTurn 83 = .ok (.getfield 19, 3) := by decide +kernel
theorem dX8_canTurn_86 : decode cX8_canTurn 86 = .ok (.iload_n 3, 1) := by decide +kernel
theorem dX8_canTurn_87 : decode cX8_canTurn 87 = .ok (.iaload, 1) := by decide +kernel
theorem dX8_canTurn_88 : decode cX8_canTurn 88 = .ok (.aload_n 0, 1) := by decide +kernel
theorem dX8_canTurn_89 : decode cX8_canTurn 89 = .ok (.getfield 19, 3) := by decide +kernel
theorem dX8_canTurn_92 : decode cX8_canTurn 92 = .ok (.iload_n 3, 1) := by decide +kernel
theorem dX8_canTurn_93 : decode cX8_canTurn 93 = .ok (.iconst 1, 1) := by decide +kernel
theorem dX8_canTurn_94 : decode cX8_canTurn 94 = .ok (.isub, 1) := by decide +kernel
theorem dX8_canTurn_95 : decode cX8_canTurn 95 = .ok (.iaload, 1) := by decide +kernel
theorem dX8_canTurn_96 : decode cX8_canTurn 96 = .ok (.isub, 1) := by decide +kernel
theorem dX8_canTurn_97 : decode cX8_canTurn 97 = .ok (.invokestatic 58, 3) := by decide +kernel
theorem dX8_canTurn_100 : decode cX8_canTurn 100 = .ok (.aload_n 0, 1) := by decide +kernel
theorem dX8_canTurn_101 : decode cX8_canTurn 101 = .ok (.getfield 22, 3) := by decide +kernel
theorem dX8_canTurn_104 : decode cX8_canTurn 104 = .ok (.iload_n 3, 1) := by decide +kernel
theorem dX8_canTurn_105 : decode cX8_canTurn 105 = .ok (.iaload, 1) := by decide +kernel
theorem dX8_canTurn_106 : decode cX8_canTurn 106 = .ok (.aload_n 0, 1) := by decide +kernel
theorem dX8_canTurn_107 : decode cX8_canTurn 107 = .ok (.getfield 22, 3) := by decide +kernel
theorem dX8_canTurn_110 : decode cX8_canTurn 110 = .ok (.iload_n 3, 1) := by decide +kernel
theorem dX8_canTurn_111 : decode cX8_canTurn 111 = .ok (.iconst 1, 1) := by decide +kernel
theorem dX8_canTurn_112 : decode cX8_canTurn 112 = .ok (.isub, 1) := by decide +kernel
theorem dX8_canTurn_113 : decode cX8_canTurn 113 = .ok (.iaload, 1) := by decide +kernel
theorem dX8_canTurn_114 : decode cX8_canTurn 114 = .ok (.isub, 1) := by decide +kernel
theorem dX8_canTurn_115 : decode cX8_canTurn 115 = .ok (.invokestatic 58, 3) := by decide +kernel
theorem dX8_canTurn_118 : decode cX8_canTurn 118 = .ok (.isub, 1) := by decide +kernel
theorem dX8_canTurn_119 : decode cX8_canTurn 119 = .ok (.istore 8, 2) := by decide +kernel
theorem dX8_canTurn_121 : decode cX8_canTurn 121 = .ok (.iload_n 2, 1) := by decide +kernel
theorem dX8_canTurn_122 : decode cX8_canTurn 122 = .ok (.ifCond .eq 19, 3) := by decide +kernel
theorem dX8_canTurn_125 : decode cX8_canTurn 125 = .ok (.iload 4, 2) := by decide +kernel
theorem dX8_canTurn_127 : decode cX8_canTurn 127 = .ok (.iconst 2, 1) := by decide +kernel
theorem dX8_canTurn_128 : decode cX8_canTurn 128 = .ok (.irem, 1) := by decide +kernel
theorem dX8_canTurn_129 : decode cX8_canTurn 129 = .ok (.ifCond .eq 8, 3) := by decide +kernel
theorem dX8_canTurn_132 : decode cX8_canTurn 132 = .ok (.iload 8, 2) := by decide +kernel
theorem dX8_canTurn_134 : decode cX8_canTurn 134 = .ok (.ifCond .ne 7, 3) := by decide +kernel
theorem dX8_canTurn_137 : decode cX8_canTurn 137 = .ok (.iconst 1, 1) := by decide +kernel
theorem dX8_canTurn_138 : decode cX8_canTurn 138 = .ok (.goto 4, 3) := by decide +kernel
theorem dX8_canTurn_141 : decode cX8_canTurn 141 = .ok (.iconst 0, 1) := by decide +kernel
theorem dX8_canTurn_142 : decode cX8_canTurn 142 = .ok (.istore_n 2, 1) := by decide +kernel
theorem dX8_canTurn_143 : decode cX8_canTurn 143 = .ok (.iload 6, 2) := by decide +kernel
theorem dX8_canTurn_145 : decode cX8_canTurn 145 = .ok (.iload 4, 2) := by decide +kernel
theorem dX8_canTurn_147 : decode cX8_canTurn 147 = .ok (.iload_n 1, 1) := by decide +kernel
theorem dX8_canTurn_148 : decode cX8_canTurn 148 = .ok (.iadd, 1) := by decide +kernel
theorem dX8_canTurn_149 : decode cX8_canTurn 149 = .ok (.invokestatic 54, 3) := by decide +kernel
theorem dX8_canTurn_152 : decode cX8_canTurn 152 = .ok (.iload 5, 2) := by decide +kernel
theorem dX8_canTurn_154 : decode cX8_canTurn 154 = .ok (.imul, 1) := by decide +kernel
theorem dX8_canTurn_155 : decode cX8_canTurn 155 = .ok (.iadd, 1) := by decide +kernel
theorem dX8_canTurn_156 : decode cX8_canTurn 156 = .ok (.istore 6, 2) := by decide +kernel
theorem dX8_canTurn_158 : decode cX8_canTurn 158 = .ok (.iload 7, 2) := by decide +kernel
theorem dX8_canTurn_160 : decode cX8_canTurn 160 = .ok (.iload 4, 2) := by decide +kernel
theorem dX8_canTurn_162 : decode cX8_canTurn 162 = .ok (.iload_n 1, 1) := by decide +kernel
theorem dX8_canTurn_163 : decode cX8_canTurn 163 = .ok (.iadd, 1) := by decide +kernel
theorem dX8_canTurn_164 : decode cX8_canTurn 164 = .ok (.invokestatic 61, 3) := by decide +kernel
theorem dX8_canTurn_167 : decode cX8_canTurn 167 = .ok (.iload 5, 2) := by decide +kernel
theorem dX8_canTurn_169 : decode cX8_canTurn 169 = .ok (.imul, 1) := by decide +kernel
theorem dX8_canTurn_170 : decode cX8_canTurn 170 = .ok (.iadd, 1) := by decide +kernel
theorem dX8_canTurn_171 : decode cX8_canTurn 171 = .ok (.istore 7, 2) := by decide +kernel
theorem dX8_canTurn_173 : decode cX8_canTurn 173 = .ok (.iload_n 2, 1) := by decide +kernel
theorem dX8_canTurn_174 : decode cX8_canTurn 174 = .ok (.ifCond .eq 17, 3) := by decide +kernel
theorem dX8_canTurn_177 : decode cX8_canTurn 177 = .ok (.iload 6, 2) := by decide +kernel
theorem dX8_canTurn_179 : decode cX8_canTurn 179 = .ok (.iload 7, 2) := by decide +kernel
theorem dX8_canTurn_181 : decode cX8_canTurn 181 = .ok (.invokestatic 143, 3) := by decide +kernel
theorem dX8_canTurn_184 : decode cX8_canTurn 184 = .ok (.ifCond .eq 7, 3) := by decide +kernel
theorem dX8_canTurn_187 : decode cX8_canTurn 187 = .ok (.iconst 1, 1) := by decide +kernel
theorem dX8_canTurn_188 : decode cX8_canTurn 188 = .ok (.goto 4, 3) := by decide +kernel
theorem dX8_canTurn_191 : decode cX8_canTurn 191 = .ok (.iconst 0, 1) := by decide +kernel
theorem dX8_canTurn_192 : decode cX8_canTurn 192 = .ok (.istore_n 2, 1) := by decide +kernel
theorem dX8_canTurn_193 : decode cX8_canTurn 193 = .ok (.aload_n 0, 1) := by decide +kernel
theorem dX8_canTurn_194 : decode cX8_canTurn 194 = .ok (.getfield 37, 3) := by decide +kernel
theorem dX8_canTurn_197 : decode cX8_canTurn 197 = .ok (.iload_n 3, 1) := by decide +kernel
theorem dX8_canTurn_198 : decode cX8_canTurn 198 = .ok (.iload 6, 2) := by decide +kernel
theorem dX8_canTurn_200 : decode cX8_canTurn 200 = .ok (.iastore, 1) := by decide +kernel
theorem dX8_canTurn_201 : decode cX8_canTurn 201 = .ok (.aload_n 0, 1) := by decide +kernel
theorem dX8_canTurn_202 : decode cX8_canTurn 202 = .ok (.getfield 40, 3) := by decide +kernel
theorem dX8_canTurn_205 : decode cX8_canTurn 205 = .ok (.iload_n 3, 1) := by decide +kernel
theorem dX8_canTurn_206 : decode cX8_canTurn 206 = .ok (.iload 7, 2) := by decide +kernel
theorem dX8_canTurn_208 : decode cX8_canTurn 208 = .ok (.iastore, 1) := by decide +kernel
theorem dX8_canTurn_209 : decode cX8_canTurn 209 = .ok (.iinc 3 1, 3) := by decide +kernel
theorem dX8_canTurn_212 : decode cX8_canTurn 212 = .ok (.goto (-204), 3) := by decide +kernel
theorem dX8_canTurn_215 : decode cX8_canTurn 215 = .ok (.iload_n 2, 1) := by decide +kernel
theorem dX8_canTurn_216 : decode cX8_canTurn 216 = .ok (.ireturn, 1) := by decide +kernel
theorem dX8_turn_0 : decode cX8_turn 0 = .ok (.aload_n 0, 1) := by decide +kernel
theorem dX8_turn_1 : decode cX8_turn 1 = .ok (.iload_n 1, 1) := by decide +kernel
theorem dX8_turn_2 : decode cX8_turn 2 = .ok (.iconst 1, 1) := by decide +kernel
theorem dX8_turn_3 : decode cX8_turn 3 = .ok (.bipush 7, 2) := by decide +kernel
theorem dX8_turn_5 : decode cX8_turn 5 = .ok (.invokestatic 50, 3) := by decide +kernel
theorem dX8_turn_8 : decode cX8_turn 8 = .ok (.ifCond .ne 7, 3) := by decide +kernel
theorem dX8_turn_11 : decode cX8_turn 11 = .ok (.iconst 1, 1) := by decide +kernel
theorem dX8_turn_12 : decode cX8_turn 12 = .ok (.goto 16, 3) := by decide +kernel
theorem dX8_turn_15 : decode cX8_turn 15 = .ok (.aload_n 0, 1) := by decide +kernel
theorem dX8_turn_16 : decode cX8_turn 16 = .ok (.iload_n 1, 1) := by decide +kernel
theorem dX8_turn_17 : decode cX8_turn 17 = .ok (.invokevirtual 166, 3) := by decide +kernel
theorem dX8_turn_20 : decode cX8_turn 20 = .ok (.ifCond .eq 7, 3) := by decide +kernel
theorem dX8_turn_23 : decode cX8_turn 23 = .ok (.iconst 0, 1) := by decide +kernel
theorem dX8_turn_24 : decode cX8_turn 24 = .ok (.goto 4, 3) := by decide +kernel
theorem dX8_turn_27 : decode cX8_turn 27 = .ok (.iconst 2, 1) := by decide +kernel
theorem dX8_turn_28 : decode cX8_turn 28 = .ok (.putfield 43, 3) := by decide +kernel
theorem dX8_turn_31 : decode cX8_turn 31 = .ok (.aload_n 0, 1) := by decide +kernel
theorem dX8_turn_32 : decode cX8_turn 32 = .ok (.getfield 43, 3) := by decide +kernel
theorem dX8_turn_35 : decode cX8_turn 35 = .ok (.ifCond .le 5, 3) := by decide +kernel
theorem dX8_turn_38 : decode cX8_turn 38 = .ok (.iconst 0, 1) := by decide +kernel
theorem dX8_turn_39 : decode cX8_turn 39 = .ok (.ireturn, 1) := by decide +kernel
theorem dX8_turn_40 : decode cX8_turn 40 = .ok (.aload_n 0, 1) := by decide +kernel
theorem dX8_turn_41 : decode cX8_turn 41 = .ok (.invokevirtual 147, 3) := by decide +kernel
theorem dX8_turn_44 : decode cX8_turn 44 = .ok (.iconst 0, 1) := by decide +kernel
theorem dX8_turn_45 : decode cX8_turn 45 = .ok (.istore_n 2, 1) := by decide +kernel
theorem dX8_turn_46 : decode cX8_turn 46 = .ok (.iload_n 2, 1) := by decide +kernel
theorem dX8_turn_47 : decode cX8_turn 47 = .ok (.aload_n 0, 1) := by decide +kernel
theorem dX8_turn_48 : decode cX8_turn 48 = .ok (.getfield 7, 3) := by decide +kernel
theorem dX8_turn_51 : decode cX8_turn 51 = .ok (.iconst 5, 1) := by decide +kernel
theorem dX8_turn_52 : decode cX8_turn 52 = .ok (.iaload, 1) := by decide +kernel
theorem dX8_turn_53 : decode cX8_turn 53 = .ok (.if_icmp .ge 45, 3) := by decide +kernel
theorem dX8_turn_56 : decode cX8_turn 56 = .ok (.aload_n 0, 1) := by decide +kernel
theorem dX8_turn_57 : decode cX8_turn 57 = .ok (.getfield 7, 3) := by decide +kernel
theorem dX8_turn_60 : decode cX8_turn 60 = .ok (.bipush 7, 2) := by decide +kernel
theorem dX8_turn_62 : decode cX8_turn 62 = .ok (.iconst 2, 1) := by decide +kernel
theorem dX8_turn_63 : decode cX8_turn 63 = .ok (.iload_n 2, 1) := by decide +kernel
theorem dX8_turn_64 : decode cX8_turn 64 = .ok (.imul, 1) := by decide +kernel
theorem dX8_turn_65 : decode cX8_turn 65 = .ok (.iadd, 1) := by decide +kernel
theorem dX8_turn_66 : decode cX8_turn 66 = .ok (.aload_n 0, 1) := by decide +kernel
theorem dX8_turn_67 : decode cX8_turn 67 = .ok (.getfield 37, 3) := by decide +kernel
theorem dX8_turn_70 : decode cX8_turn 70 = .ok (.iload_n 2, 1) := by decide +kernel
theorem dX8_turn_71 : decode cX8_turn 71 = .ok (.iaload, 1) := by decide +kernel
theorem dX8_turn_72 : decode cX8_turn 72 = .ok (.iastore, 1) := by decide +kernel
theorem dX8_turn_73 : decode cX8_turn 73 = .ok (.aload_n 0, 1) := by decide +kernel
theorem dX8_turn_74 : decode cX8_turn 74 = .ok (.getfield 7, 3) := by decide +kernel
theorem dX8_turn_77 : decode cX8_turn 77 = .ok (.bipush 7, 2) := by decide +kernel
theorem dX8_turn_79 : decode cX8_turn 79 = .ok (.iconst 2, 1) := by decide +kernel
theorem dX8_turn_80 : decode cX8_turn 80 = .ok (.iload_n 2, 1) := by decide +kernel
theorem dX8_turn_81 : decode cX8_turn 81 = .ok (.imul, 1) := by decide +kernel
theorem dX8_turn_82 : decode cX8_turn 82 = .ok (.iadd, 1) := by decide +kernel
theorem dX8_turn_83 : decode cX8_turn 83 = .ok (.iconst 1, 1) := by decide +kernel
theorem dX8_turn_84 : decode cX8_turn 84 = .ok (.iadd, 1) := by decide +kernel
theorem dX8_turn_85 : decode cX8_turn 85 = .ok (.aload_n 0, 1) := by decide +kernel
theorem dX8_turn_86 : decode cX8_turn 86 = .ok (.getfield 40, 3) := by decide +kernel
theorem dX8_turn_89 : decode cX8_turn 89 = .ok (.iload_n 2, 1) := by decide +kernel
theorem dX8_turn_90 : decode cX8_turn 90 = .ok (.iaload, 1) := by decide +kernel
theorem dX8_turn_91 : decode cX8_turn 91 = .ok (.iastore, 1) := by decide +kernel
theorem dX8_turn_92 : decode cX8_turn 92 = .ok (.iinc 2 1, 3) := by decide +kernel
theorem dX8_turn_95 : decode cX8_turn 95 = .ok (.goto (-49), 3) := by decide +kernel
theorem dX8_turn_98 : decode cX8_turn 98 = .ok (.aload_n 0, 1) := by decide +kernel
theorem dX8_turn_99 : decode cX8_turn 99 = .ok (.getfield 7, 3) := by decide +kernel
theorem dX8_turn_102 : decode cX8_turn 102 = .ok (.iconst 5, 1) := by decide +kernel
theorem dX8_turn_103 : decode cX8_turn 103 = .ok (.iaload, 1) := by decide +kernel
theorem dX8_turn_104 : decode cX8_turn 104 = .ok (.ireturn, 1) := by decide +kernel
theorem dX8_canLearn_0 : decode cX8_canLearn 0 = .ok (.aload_n 0, 1) := by decide +kernel
theorem dX8_canLearn_1 : decode cX8_canLearn 1 = .ok (.getfield 7, 3) := by decide +kernel
theorem dX8_canLearn_4 : decode cX8_canLearn 4 = .ok (.bipush 6, 2) := by decide +kernel
theorem dX8_canLearn_6 : decode cX8_canLearn 6 = .ok (.iaload, 1) := by decide +kernel
theorem dX8_canLearn_7 : decode cX8_canLearn 7 = .ok (.bipush 10, 2) := by decide +kernel
theorem dX8_canLearn_9 : decode cX8_canLearn 9 = .ok (.if_icmp .ge 28, 3) := by decide +kernel
theorem dX8_canLearn_12 : decode cX8_canLearn 12 = .ok (.aload_n 0, 1) := by decide +kernel
theorem dX8_canLearn_13 : decode cX8_canLearn 13 = .ok (.getfield 107, 3) := by decide +kernel
theorem dX8_canLearn_16 : decode cX8_canLearn 16 = .ok (.iconst 1, 1) := by decide +kernel
theorem dX8_canLearn_17 : decode cX8_canLearn 17 = .ok (.bipush 8, 2) := by decide +kernel
theorem dX8_canLearn_19 : decode cX8_canLearn 19 = .ok (.invokestatic 50, 3) := by decide +kernel
theorem dX8_canLearn_22 : decode cX8_canLearn 22 = .ok (.ifCond .eq 15, 3) := by decide +kernel
theorem dX8_canLearn_25 : decode cX8_canLearn 25 = .ok (.aload_n 0, 1) := by decide +kernel
theorem dX8_canLearn_26 : decode cX8_canLearn 26 = .ok (.invokevirtual 169, 3) := by decide +kernel
theorem dX8_canLearn_29 : decode cX8_canLearn 29 = .ok (.iconst (-1), 1) := by decide +kernel
theorem dX8_canLearn_30 : decode cX8_canLearn 30 = .ok (.if_icmp .ne 7, 3) := by decide +kernel
theorem dX8_canLearn_33 : decode cX8_canLearn 33 = .ok (.iconst 1, 1) := by decide +kernel
theorem dX8_canLearn_34 : decode cX8_canLearn 34 = .ok (.goto 4, 3) := by decide +kernel
theorem dX8_canLearn_37 : decode cX8_canLearn 37 = .ok (.iconst 0, 1) := by decide +kernel
theorem dX8_canLearn_38 : decode cX8_canLearn 38 = .ok (.ireturn, 1) := by decide +kernel
theorem dX8_learns_0 : decode cX8_learns 0 = .ok (.bipush 87, 2) := by decide +kernel
theorem dX8_learns_2 : decode cX8_learns 2 = .ok (.bipush 9, 2) := by decide +kernel
theorem dX8_learns_4 : decode cX8_learns 4 = .ok (.aload_n 0, 1) := by decide +kernel
theorem dX8_learns_5 : decode cX8_learns 5 = .ok (.getfield 7, 3) := by decide +kernel
theorem dX8_learns_8 : decode cX8_learns 8 = .ok (.bipush 6, 2) := by decide +kernel
theorem dX8_learns_10 : decode cX8_learns 10 = .ok (.iaload, 1) := by decide +kernel
theorem dX8_learns_11 : decode cX8_learns 11 = .ok (.imul, 1) := by decide +kernel
theorem dX8_learns_12 : decode cX8_learns 12 = .ok (.iadd, 1) := by decide +kernel
theorem dX8_learns_13 : decode cX8_learns 13 = .ok (.istore_n 1, 1) := by decide +kernel
theorem dX8_learns_14 : decode cX8_learns 14 = .ok (.aload_n 0, 1) := by decide +kernel
theorem dX8_learns_15 : decode cX8_learns 15 = .ok (.getfield 7, 3) := by decide +kernel
theorem dX8_learns_18 : decode cX8_learns 18 = .ok (.iload_n 1, 1) := by decide +kernel
theorem dX8_learns_19 : decode cX8_learns 19 = .ok (.aload_n 0, 1) := by decide +kernel
theorem dX8_learns_20 : decode cX8_learns 20 = .ok (.getfield 107, 3) := by decide +kernel
theorem dX8_learns_23 : decode cX8_learns 23 = .ok (.iastore, 1) := by decide +kernel
theorem dX8_learns_24 : decode cX8_learns 24 = .ok (.iconst 0, 1) := by decide +kernel
theorem dX8_learns_25 : decode cX8_learns 25 = .ok (.istore_n 2, 1) := by decide +kernel
theorem dX8_learns_26 : decode cX8_learns 26 = .ok (.iload_n 2, 1) := by decide +kernel
theorem dX8_learns_27 : decode cX8_learns 27 = .ok (.aload_n 0, 1) := by decide +kernel
theorem dX8_learns_28 : decode cX8_learns 28 = .ok (.getfield 107, 3) := by decide +kernel
theorem dX8_learns_31 : decode cX8_learns 31 = .ok (.if_icmp .ge 25, 3) := by decide +kernel
theorem dX8_learns_34 : decode cX8_learns 34 = .ok (.aload_n 0, 1) := by decide +kernel
theorem dX8_learns_35 : decode cX8_learns 35 = .ok (.getfield 7, 3) := by decide +kernel
theorem dX8_learns_38 : decode cX8_learns 38 = .ok (.iload_n 1, 1) := by decide +kernel
theorem dX8_learns_39 : decode cX8_learns 39 = .ok (.iconst 1, 1) := by decide +kernel
theorem dX8_learns_40 : decode cX8_learns 40 = .ok (.iadd, 1) := by decide +kernel
theorem dX8_learns_41 : decode cX8_learns 41 = .ok (.iload_n 2, 1) := by decide +kernel
theorem dX8_learns_42 : decode cX8_learns 42 = .ok (.iadd, 1) := by decide +kernel
theorem dX8_learns_43 : decode cX8_learns 43 = .ok (.aload_n 0, 1) := by decide +kernel
theorem dX8_learns_44 : decode cX8_learns 44 = .ok (.getfield 31, 3) := by decide +kernel
theorem dX8_learns_47 : decode cX8_learns 47 = .ok (.iload_n 2, 1) := by decide +kernel
theorem dX8_learns_48 : decode cX8_learns 48 = .ok (.iaload, 1) := by decide +kernel
theorem dX8_learns_49 : decode cX8_learns 49 = .ok (.iastore, 1) := by decide +kernel
theorem dX8_learns_50 : decode cX8_learns 50 = .ok (.iinc 2 1, 3) := by decide +kernel
theorem dX8_learns_53 : decode cX8_learns 53 = .ok (.goto (-27), 3) := by decide +kernel
theorem dX8_learns_56 : decode cX8_learns 56 = .ok (.aload_n 0, 1) := by decide +kernel
theorem dX8_learns_57 : decode cX8_learns 57 = .ok (.getfield 7, 3) := by decide +kernel
theorem dX8_learns_60 : decode cX8_learns 60 = .ok (.bipush 6, 2) := by decide +kernel
theorem dX8_learns_62 : decode cX8_learns 62 = .ok (.dup2, 1) := by decide +kernel
theorem dX8_learns_63 : decode cX8_learns 63 = .ok (.iaload, 1) := by decide +kernel
theorem dX8_learns_64 : decode cX8_learns 64 = .ok (.iconst 1, 1) := by decide +kernel
theorem dX8_learns_65 : decode cX8_learns 65 = .ok (.iadd, 1) := by decide +kernel
theorem dX8_learns_66 : decode cX8_learns 66 = .ok (.iastore, 1) := by decide +kernel
theorem dX8_learns_67 : decode cX8_learns 67 = .ok (.aload_n 0, 1) := by decide +kernel
theorem dX8_learns_68 : decode cX8_learns 68 = .ok (.getfield 7, 3) := by decide +kernel
theorem dX8_learns_71 : decode cX8_learns 71 = .ok (.bipush 6, 2) := by decide +kernel
theorem dX8_learns_73 : decode cX8_learns 73 = .ok (.iaload, 1) := by decide +kernel
theorem dX8_learns_74 : decode cX8_learns 74 = .ok (.iconst 1, 1) := by decide +kernel
theorem dX8_learns_75 : decode cX8_learns 75 = .ok (.isub, 1) := by decide +kernel
theorem dX8_learns_76 : decode cX8_learns 76 = .ok (.ireturn, 1) := by decide +kernel
theorem dX8_learn_0 : decode cX8_learn 0 = .ok (.aload_n 0, 1) := by decide +kernel
theorem dX8_learn_1 : decode cX8_learn 1 = .ok (.invokevirtual 172, 3) := by decide +kernel
theorem dX8_learn_4 : decode cX8_learn 4 = .ok (.aload_n 0, 1) := by decide +kernel
theorem dX8_learn_5 : decode cX8_learn 5 = .ok (.aload_n 0, 1) := by decide +kernel
theorem dX8_learn_6 : decode cX8_learn 6 = .ok (.invokevirtual 175, 3) := by decide +kernel
theorem dX8_learn_9 : decode cX8_learn 9 = .ok (.ifCond .eq 7, 3) := by decide +kernel
theorem dX8_learn_12 : decode cX8_learn 12 = .ok (.iconst 0, 1) := by decide +kernel
theorem dX8_learn_13 : decode cX8_learn 13 = .ok (.goto 4, 3) := by decide +kernel
theorem dX8_learn_16 : decode cX8_learn 16 = .ok (.iconst 1, 1) := by decide +kernel
theorem dX8_learn_17 : decode cX8_learn 17 = .ok (.putfield 43, 3) := by decide +kernel
theorem dX8_learn_20 : decode cX8_learn 20 = .ok (.aload_n 0, 1) := by decide +kernel
theorem dX8_learn_21 : decode cX8_learn 21 = .ok (.getfield 43, 3) := by decide +kernel
theorem dX8_learn_24 : decode cX8_learn 24 = .ok (.ifCond .le 5, 3) := by decide +kernel
theorem dX8_learn_27 : decode cX8_learn 27 = .ok (.iconst 0, 1) := by decide +kernel
theorem dX8_learn_28 : decode cX8_learn 28 = .ok (.ireturn, 1) := by decide +kernel
theorem dX8_learn_29 : decode cX8_learn 29 = .ok (.aload_n 0, 1) := by decide +kernel
theorem dX8_learn_30 : decode cX8_learn 30 = .ok (.invokevirtual 147, 3) := by decide +kernel
theorem dX8_learn_33 : decode cX8_learn 33 = .ok (.aload_n 0, 1) := by decide +kernel
theorem dX8_learn_34 : decode cX8_learn 34 = .ok (.invokevirtual 179, 3) := by decide +kernel
theorem dX8_learn_37 : decode cX8_learn 37 = .ok (.ireturn, 1) := by decide +kernel
theorem dX8_forget_0 : decode cX8_forget 0 = .ok (.aload_n 0, 1) := by decide +kernel
theorem dX8_forget_1 : decode cX8_forget 1 = .ok (.aload_n 0, 1) := by decide +kernel
theorem dX8_forget_2 : decode cX8_forget 2 = .ok (.iload_n 1, 1) := by decide +kernel
theorem dX8_forget_3 : decode cX8_forget 3 = .ok (.invokevirtual 182, 3) := by decide +kernel
theorem dX8_forget_6 : decode cX8_forget 6 = .ok (.ifCond .eq 7, 3) := by decide +kernel
theorem dX8_forget_9 : decode cX8_forget 9 = .ok (.iconst 0, 1) := by decide +kernel
theorem dX8_forget_10 : decode cX8_forget 10 = .ok (.goto 4, 3) := by decide +kernel
theorem dX8_forget_13 : decode cX8_forget 13 = .ok (.iconst 1, 1) := by decide +kernel
theorem dX8_forget_14 : decode cX8_forget 14 = .ok (.putfield 43, 3) := by decide +kernel
theorem dX8_forget_17 : decode cX8_forget 17 = .ok (.aload_n 0, 1) := by decide +kernel
theorem dX8_forget_18 : decode cX8_forget 18 = .ok (.getfield 43, 3) := by decide +kernel
theorem dX8_forget_21 : decode cX8_forget 21 = .ok (.ifCond .le 5, 3) := by decide +kernel
theorem dX8_forget_24 : decode cX8_forget 24 = .ok (.iconst 0, 1) := by decide +kernel
theorem dX8_forget_25 : decode cX8_forget 25 = .ok (.ireturn, 1) := by decide +kernel
theorem dX8_forget_26 : decode cX8_forget 26 = .ok (.aload_n 0, 1) := by decide +kernel
theorem dX8_forget_27 : decode cX8_forget 27 = .ok (.invokevirtual 147, 3) := by decide +kernel
theorem dX8_forget_30 : decode cX8_forget 30 = .ok (.aload_n 0, 1) := by decide +kernel
theorem dX8_forget_31 : decode cX8_forget 31 = .ok (.getfield 7, 3) := by decide +kernel
theorem dX8_forget_34 : decode cX8_forget 34 = .ok (.bipush 6, 2) := by decide +kernel
theorem dX8_forget_36 : decode cX8_forget 36 = .ok (.dup2, 1) := by decide +kernel
theorem dX8_forget_37 : decode cX8_forget 37 = .ok (.iaload, 1) := by decide +kernel
theorem dX8_forget_38 : decode cX8_forget 38 = .ok (.iconst 1, 1) := by decide +kernel
theorem dX8_forget_39 : decode cX8_forget 39 = .ok (.isub, 1) := by decide +kernel
theorem dX8_forget_40 : decode cX8_forget 40 = .ok (.iastore, 1) := by decide +kernel
theorem dX8_forget_41 : decode cX8_forget 41 = .ok (.bipush 87, 2) := by decide +kernel
theorem dX8_forget_43 : decode cX8_forget 43 = .ok (.bipush 9, 2) := by decide +kernel
end
section
theorem dX8_forget_45 : decode cX8_forget 45 = .ok (.iload_n 1, 1) := by decide +kernel
theorem dX8_forget_46 : decode cX8_forget 46 = .ok (.imul, 1) := by decide +kernel
theorem dX8_forget_47 : decode cX8_forget 47 = .ok (.iadd, 1) := by decide +kernel
theorem dX8_forget_48 : decode cX8_forget 48 = .ok (.istore_n 2, 1) := by decide +kernel
theorem dX8_forget_49 : decode cX8_forget 49 = .ok (.iload_n 2, 1) := by decide +kernel
theorem dX8_forget_50 : decode cX8_forget 50 = .ok (.bipush 87, 2) := by decide +kernel
theorem dX8_forget_52 : decode cX8_forget 52 = .ok (.bipush 9, 2) := by decide +kernel
theorem dX8_forget_54 : decode cX8_forget 54 = .ok (.aload_n 0, 1) := by decide +kernel
theorem dX8_forget_55 : decode cX8_forget 55 = .ok (.getfield 7, 3) := by decide +kernel
theorem dX8_forget_58 : decode cX8_forget 58 = .ok (.bipush 6, 2) := by decide +kernel
theorem dX8_forget_60 : decode cX8_forget 60 = .ok (.iaload, 1) := by decide +kernel
theorem dX8_forget_61 : decode cX8_forget 61 = .ok (.imul, 1) := by decide +kernel
theorem dX8_forget_62 : decode cX8_forget 62 = .ok (.iadd, 1) := by decide +kernel
theorem dX8_forget_63 : decode cX8_forget 63 = .ok (.if_icmp .ge 24, 3) := by decide +kernel
theorem dX8_forget_66 : decode cX8_forget 66 = .ok (.aload_n 0, 1) := by decide +kernel
theorem dX8_forget_67 : decode cX8_forget 67 = .ok (.getfield 7, 3) := by decide +kernel
theorem dX8_forget_70 : decode cX8_forget 70 = .ok (.iload_n 2, 1) := by decide +kernel
theorem dX8_forget_71 : decode cX8_forget 71 = .ok (.aload_n 0, 1) := by decide +kernel
theorem dX8_forget_72 : decode cX8_forget 72 = .ok (.getfield 7, 3) := by decide +kernel
theorem dX8_forget_75 : decode cX8_forget 75 = .ok (.iload_n 2, 1) := by decide +kernel
theorem dX8_forget_76 : decode cX8_forget 76 = .ok (.bipush 9, 2) := by decide +kernel
theorem dX8_forget_78 : decode cX8_forget 78 = .ok (.iadd, 1) := by decide +kernel
theorem dX8_forget_79 : decode cX8_forget 79 = .ok (.iaload, 1) := by decide +kernel
theorem dX8_forget_80 : decode cX8_forget 80 = .ok (.iastore, 1) := by decide +kernel
theorem dX8_forget_81 : decode cX8_forget 81 = .ok (.iinc 2 1, 3) := by decide +kernel
theorem dX8_forget_84 : decode cX8_forget 84 = .ok (.goto (-35), 3) := by decide +kernel
theorem dX8_forget_87 : decode cX8_forget 87 = .ok (.aload_n 0, 1) := by decide +kernel
theorem dX8_forget_88 : decode cX8_forget 88 = .ok (.getfield 7, 3) := by decide +kernel
theorem dX8_forget_91 : decode cX8_forget 91 = .ok (.bipush 6, 2) := by decide +kernel
theorem dX8_forget_93 : decode cX8_forget 93 = .ok (.iaload, 1) := by decide +kernel
theorem dX8_forget_94 : decode cX8_forget 94 = .ok (.ireturn, 1) := by decide +kernel
theorem dX8_isSetting_0 : decode cX8_isSetting 0 = .ok (.iload_n 0, 1) := by decide +kernel
theorem dX8_isSetting_1 : decode cX8_isSetting 1 = .ok (.iconst 0, 1) := by decide +kernel
theorem dX8_isSetting_2 : decode cX8_isSetting 2 = .ok (.iconst 4, 1) := by decide +kernel
theorem dX8_isSetting_3 : decode cX8_isSetting 3 = .ok (.invokestatic 50, 3) := by decide +kernel
theorem dX8_isSetting_6 : decode cX8_isSetting 6 = .ok (.ireturn, 1) := by decide +kernel
theorem dX8_isValue_0 : decode cX8_isValue 0 = .ok (.iload_n 0, 1) := by decide +kernel
theorem dX8_isValue_1 : decode cX8_isValue 1 = .ok (.iconst 4, 1) := by decide +kernel
theorem dX8_isValue_2 : decode cX8_isValue 2 = .ok (.if_icmp .ne 13, 3) := by decide +kernel
theorem dX8_isValue_5 : decode cX8_isValue 5 = .ok (.iload_n 1, 1) := by decide +kernel
theorem dX8_isValue_6 : decode cX8_isValue 6 = .ok (.iconst 0, 1) := by decide +kernel
theorem dX8_isValue_7 : decode cX8_isValue 7 = .ok (.bipush 20, 2) := by decide +kernel
theorem dX8_isValue_9 : decode cX8_isValue 9 = .ok (.invokestatic 50, 3) := by decide +kernel
theorem dX8_isValue_12 : decode cX8_isValue 12 = .ok (.goto 19, 3) := by decide +kernel
theorem dX8_isValue_15 : decode cX8_isValue 15 = .ok (.iload_n 1, 1) := by decide +kernel
theorem dX8_isValue_16 : decode cX8_isValue 16 = .ok (.iload_n 0, 1) := by decide +kernel
theorem dX8_isValue_17 : decode cX8_isValue 17 = .ok (.iconst 1, 1) := by decide +kernel
theorem dX8_isValue_18 : decode cX8_isValue 18 = .ok (.if_icmp .ne 7, 3) := by decide +kernel
theorem dX8_isValue_21 : decode cX8_isValue 21 = .ok (.iconst 0, 1) := by decide +kernel
theorem dX8_isValue_22 : decode cX8_isValue 22 = .ok (.goto 4, 3) := by decide +kernel
theorem dX8_isValue_25 : decode cX8_isValue 25 = .ok (.iconst 1, 1) := by decide +kernel
theorem dX8_isValue_26 : decode cX8_isValue 26 = .ok (.bipush 9, 2) := by decide +kernel
theorem dX8_isValue_28 : decode cX8_isValue 28 = .ok (.invokestatic 50, 3) := by decide +kernel
theorem dX8_isValue_31 : decode cX8_isValue 31 = .ok (.ireturn, 1) := by decide +kernel
theorem dX8_areApart_0 : decode cX8_areApart 0 = .ok (.aload_n 0, 1) := by decide +kernel
theorem dX8_areApart_1 : decode cX8_areApart 1 = .ok (.invokevirtual 185, 3) := by decide +kernel
theorem dX8_areApart_4 : decode cX8_areApart 4 = .ok (.istore_n 1, 1) := by decide +kernel
theorem dX8_areApart_5 : decode cX8_areApart 5 = .ok (.iload_n 1, 1) := by decide +kernel
theorem dX8_areApart_6 : decode cX8_areApart 6 = .ok (.iconst (-1), 1) := by decide +kernel
theorem dX8_areApart_7 : decode cX8_areApart 7 = .ok (.if_icmp .eq 15, 3) := by decide +kernel
theorem dX8_areApart_10 : decode cX8_areApart 10 = .ok (.iload_n 1, 1) := by decide +kernel
theorem dX8_areApart_11 : decode cX8_areApart 11 = .ok (.iconst 2, 1) := by decide +kernel
theorem dX8_areApart_12 : decode cX8_areApart 12 = .ok (.aload_n 0, 1) := by decide +kernel
theorem dX8_areApart_13 : decode cX8_areApart 13 = .ok (.getfield 7, 3) := by decide +kernel
theorem dX8_areApart_16 : decode cX8_areApart 16 = .ok (.iconst 4, 1) := by decide +kernel
theorem dX8_areApart_17 : decode cX8_areApart 17 = .ok (.iaload, 1) := by decide +kernel
theorem dX8_areApart_18 : decode cX8_areApart 18 = .ok (.imul, 1) := by decide +kernel
theorem dX8_areApart_19 : decode cX8_areApart 19 = .ok (.if_icmp .le 7, 3) := by decide +kernel
theorem dX8_areApart_22 : decode cX8_areApart 22 = .ok (.iconst 1, 1) := by decide +kernel
theorem dX8_areApart_23 : decode cX8_areApart 23 = .ok (.goto 4, 3) := by decide +kernel
theorem dX8_areApart_26 : decode cX8_areApart 26 = .ok (.iconst 0, 1) := by decide +kernel
theorem dX8_areApart_27 : decode cX8_areApart 27 = .ok (.ireturn, 1) := by decide +kernel
theorem dX8_set_0 : decode cX8_set 0 = .ok (.aload_n 0, 1) := by decide +kernel
theorem dX8_set_1 : decode cX8_set 1 = .ok (.iload_n 1, 1) := by decide +kernel
theorem dX8_set_2 : decode cX8_set 2 = .ok (.invokestatic 188, 3) := by decide +kernel
theorem dX8_set_5 : decode cX8_set 5 = .ok (.ifCond .ne 7, 3) := by decide +kernel
theorem dX8_set_8 : decode cX8_set 8 = .ok (.iconst 1, 1) := by decide +kernel
theorem dX8_set_9 : decode cX8_set 9 = .ok (.goto 16, 3) := by decide +kernel
theorem dX8_set_12 : decode cX8_set 12 = .ok (.iload_n 1, 1) := by decide +kernel
theorem dX8_set_13 : decode cX8_set 13 = .ok (.iload_n 2, 1) := by decide +kernel
theorem dX8_set_14 : decode cX8_set 14 = .ok (.invokestatic 191, 3) := by decide +kernel
theorem dX8_set_17 : decode cX8_set 17 = .ok (.ifCond .eq 7, 3) := by decide +kernel
theorem dX8_set_20 : decode cX8_set 20 = .ok (.iconst 0, 1) := by decide +kernel
theorem dX8_set_21 : decode cX8_set 21 = .ok (.goto 4, 3) := by decide +kernel
theorem dX8_set_24 : decode cX8_set 24 = .ok (.iconst 2, 1) := by decide +kernel
theorem dX8_set_25 : decode cX8_set 25 = .ok (.putfield 43, 3) := by decide +kernel
theorem dX8_set_28 : decode cX8_set 28 = .ok (.aload_n 0, 1) := by decide +kernel
theorem dX8_set_29 : decode cX8_set 29 = .ok (.getfield 43, 3) := by decide +kernel
theorem dX8_set_32 : decode cX8_set 32 = .ok (.ifCond .le 5, 3) := by decide +kernel
theorem dX8_set_35 : decode cX8_set 35 = .ok (.iconst 0, 1) := by decide +kernel
theorem dX8_set_36 : decode cX8_set 36 = .ok (.ireturn, 1) := by decide +kernel
theorem dX8_set_37 : decode cX8_set 37 = .ok (.aload_n 0, 1) := by decide +kernel
theorem dX8_set_38 : decode cX8_set 38 = .ok (.getfield 7, 3) := by decide +kernel
theorem dX8_set_41 : decode cX8_set 41 = .ok (.iload_n 1, 1) := by decide +kernel
theorem dX8_set_42 : decode cX8_set 42 = .ok (.iaload, 1) := by decide +kernel
theorem dX8_set_43 : decode cX8_set 43 = .ok (.istore_n 3, 1) := by decide +kernel
theorem dX8_set_44 : decode cX8_set 44 = .ok (.aload_n 0, 1) := by decide +kernel
theorem dX8_set_45 : decode cX8_set 45 = .ok (.getfield 7, 3) := by decide +kernel
theorem dX8_set_48 : decode cX8_set 48 = .ok (.iload_n 1, 1) := by decide +kernel
theorem dX8_set_49 : decode cX8_set 49 = .ok (.iload_n 2, 1) := by decide +kernel
theorem dX8_set_50 : decode cX8_set 50 = .ok (.iastore, 1) := by decide +kernel
theorem dX8_set_51 : decode cX8_set 51 = .ok (.aload_n 0, 1) := by decide +kernel
theorem dX8_set_52 : decode cX8_set 52 = .ok (.invokevirtual 194, 3) := by decide +kernel
theorem dX8_set_55 : decode cX8_set 55 = .ok (.istore 4, 2) := by decide +kernel
theorem dX8_set_57 : decode cX8_set 57 = .ok (.aload_n 0, 1) := by decide +kernel
theorem dX8_set_58 : decode cX8_set 58 = .ok (.getfield 7, 3) := by decide +kernel
theorem dX8_set_61 : decode cX8_set 61 = .ok (.iload_n 1, 1) := by decide +kernel
theorem dX8_set_62 : decode cX8_set 62 = .ok (.iload_n 3, 1) := by decide +kernel
theorem dX8_set_63 : decode cX8_set 63 = .ok (.iastore, 1) := by decide +kernel
theorem dX8_set_64 : decode cX8_set 64 = .ok (.aload_n 0, 1) := by decide +kernel
theorem dX8_set_65 : decode cX8_set 65 = .ok (.iload 4, 2) := by decide +kernel
theorem dX8_set_67 : decode cX8_set 67 = .ok (.ifCond .eq 7, 3) := by decide +kernel
theorem dX8_set_70 : decode cX8_set 70 = .ok (.iconst 0, 1) := by decide +kernel
theorem dX8_set_71 : decode cX8_set 71 = .ok (.goto 4, 3) := by decide +kernel
theorem dX8_set_74 : decode cX8_set 74 = .ok (.iconst 3, 1) := by decide +kernel
theorem dX8_set_75 : decode cX8_set 75 = .ok (.putfield 43, 3) := by decide +kernel
theorem dX8_set_78 : decode cX8_set 78 = .ok (.aload_n 0, 1) := by decide +kernel
theorem dX8_set_79 : decode cX8_set 79 = .ok (.getfield 43, 3) := by decide +kernel
theorem dX8_set_82 : decode cX8_set 82 = .ok (.ifCond .le 5, 3) := by decide +kernel
theorem dX8_set_85 : decode cX8_set 85 = .ok (.iconst 0, 1) := by decide +kernel
theorem dX8_set_86 : decode cX8_set 86 = .ok (.ireturn, 1) := by decide +kernel
theorem dX8_set_87 : decode cX8_set 87 = .ok (.aload_n 0, 1) := by decide +kernel
theorem dX8_set_88 : decode cX8_set 88 = .ok (.invokevirtual 147, 3) := by decide +kernel
theorem dX8_set_91 : decode cX8_set 91 = .ok (.aload_n 0, 1) := by decide +kernel
theorem dX8_set_92 : decode cX8_set 92 = .ok (.getfield 7, 3) := by decide +kernel
theorem dX8_set_95 : decode cX8_set 95 = .ok (.iload_n 1, 1) := by decide +kernel
theorem dX8_set_96 : decode cX8_set 96 = .ok (.iload_n 2, 1) := by decide +kernel
theorem dX8_set_97 : decode cX8_set 97 = .ok (.iastore, 1) := by decide +kernel
theorem dX8_set_98 : decode cX8_set 98 = .ok (.iload_n 3, 1) := by decide +kernel
theorem dX8_set_99 : decode cX8_set 99 = .ok (.ireturn, 1) := by decide +kernel
theorem dX8_append_0 : decode cX8_append 0 = .ok (.aload_n 0, 1) := by decide +kernel
theorem dX8_append_1 : decode cX8_append 1 = .ok (.iload_n 1, 1) := by decide +kernel
theorem dX8_append_2 : decode cX8_append 2 = .ok (.bipush 33, 2) := by decide +kernel
theorem dX8_append_4 : decode cX8_append 4 = .ok (.bipush 126, 2) := by decide +kernel
theorem dX8_append_6 : decode cX8_append 6 = .ok (.invokestatic 50, 3) := by decide +kernel
theorem dX8_append_9 : decode cX8_append 9 = .ok (.ifCond .ne 7, 3) := by decide +kernel
theorem dX8_append_12 : decode cX8_append 12 = .ok (.iconst 1, 1) := by decide +kernel
theorem dX8_append_13 : decode cX8_append 13 = .ok (.goto 17, 3) := by decide +kernel
theorem dX8_append_16 : decode cX8_append 16 = .ok (.aload_n 0, 1) := by decide +kernel
theorem dX8_append_17 : decode cX8_append 17 = .ok (.getfield 197, 3) := by decide +kernel
theorem dX8_append_20 : decode cX8_append 20 = .ok (.bipush 60, 2) := by decide +kernel
theorem dX8_append_22 : decode cX8_append 22 = .ok (.if_icmp .ne 7, 3) := by decide +kernel
theorem dX8_append_25 : decode cX8_append 25 = .ok (.iconst 2, 1) := by decide +kernel
theorem dX8_append_26 : decode cX8_append 26 = .ok (.goto 4, 3) := by decide +kernel
theorem dX8_append_29 : decode cX8_append 29 = .ok (.iconst 0, 1) := by decide +kernel
theorem dX8_append_30 : decode cX8_append 30 = .ok (.putfield 43, 3) := by decide +kernel
theorem dX8_append_33 : decode cX8_append 33 = .ok (.aload_n 0, 1) := by decide +kernel
theorem dX8_append_34 : decode cX8_append 34 = .ok (.getfield 43, 3) := by decide +kernel
theorem dX8_append_37 : decode cX8_append 37 = .ok (.ifCond .le 5, 3) := by decide +kernel
theorem dX8_append_40 : decode cX8_append 40 = .ok (.iconst 0, 1) := by decide +kernel
theorem dX8_append_41 : decode cX8_append 41 = .ok (.ireturn, 1) := by decide +kernel
theorem dX8_append_42 : decode cX8_append 42 = .ok (.aload_n 0, 1) := by decide +kernel
theorem dX8_append_43 : decode cX8_append 43 = .ok (.getfield 16, 3) := by decide +kernel
theorem dX8_append_46 : decode cX8_append 46 = .ok (.aload_n 0, 1) := by decide +kernel
theorem dX8_append_47 : decode cX8_append 47 = .ok (.getfield 197, 3) := by decide +kernel
theorem dX8_append_50 : decode cX8_append 50 = .ok (.iload_n 1, 1) := by decide +kernel
theorem dX8_append_51 : decode cX8_append 51 = .ok (.iastore, 1) := by decide +kernel
theorem dX8_append_52 : decode cX8_append 52 = .ok (.aload_n 0, 1) := by decide +kernel
theorem dX8_append_53 : decode cX8_append 53 = .ok (.dup, 1) := by decide +kernel
theorem dX8_append_54 : decode cX8_append 54 = .ok (.getfield 197, 3) := by decide +kernel
theorem dX8_append_57 : decode cX8_append 57 = .ok (.iconst 1, 1) := by decide +kernel
theorem dX8_append_58 : decode cX8_append 58 = .ok (.iadd, 1) := by decide +kernel
theorem dX8_append_59 : decode cX8_append 59 = .ok (.putfield 197, 3) := by decide +kernel
theorem dX8_append_62 : decode cX8_append 62 = .ok (.aload_n 0, 1) := by decide +kernel
theorem dX8_append_63 : decode cX8_append 63 = .ok (.getfield 197, 3) := by decide +kernel
theorem dX8_append_66 : decode cX8_append 66 = .ok (.ireturn, 1) := by decide +kernel
theorem dX8_clearBuffer_0 : decode cX8_clearBuffer 0 = .ok (.aload_n 0, 1) := by decide +kernel
theorem dX8_clearBuffer_1 : decode cX8_clearBuffer 1 = .ok (.iconst 0, 1) := by decide +kernel
theorem dX8_clearBuffer_2 : decode cX8_clearBuffer 2 = .ok (.putfield 43, 3) := by decide +kernel
theorem dX8_clearBuffer_5 : decode cX8_clearBuffer 5 = .ok (.aload_n 0, 1) := by decide +kernel
theorem dX8_clearBuffer_6 : decode cX8_clearBuffer 6 = .ok (.getfield 197, 3) := by decide +kernel
theorem dX8_clearBuffer_9 : decode cX8_clearBuffer 9 = .ok (.istore_n 1, 1) := by decide +kernel
theorem dX8_clearBuffer_10 : decode cX8_clearBuffer 10 = .ok (.aload_n 0, 1) := by decide +kernel
theorem dX8_clearBuffer_11 : decode cX8_clearBuffer 11 = .ok (.iconst 0, 1) := by decide +kernel
theorem dX8_clearBuffer_12 : decode cX8_clearBuffer 12 = .ok (.putfield 197, 3) := by decide +kernel
theorem dX8_clearBuffer_15 : decode cX8_clearBuffer 15 = .ok (.iload_n 1, 1) := by decide +kernel
theorem dX8_clearBuffer_16 : decode cX8_clearBuffer 16 = .ok (.ireturn, 1) := by decide +kernel
theorem dX8_rightUpTo_0 : decode cX8_rightUpTo 0 = .ok (.iconst 0, 1) := by decide +kernel
theorem dX8_rightUpTo_1 : decode cX8_rightUpTo 1 = .ok (.istore_n 1, 1) := by decide +kernel
theorem dX8_rightUpTo_2 : decode cX8_rightUpTo 2 = .ok (.iload_n 1, 1) := by decide +kernel
theorem dX8_rightUpTo_3 : decode cX8_rightUpTo 3 = .ok (.aload_n 0, 1) := by decide +kernel
theorem dX8_rightUpTo_4 : decode cX8_rightUpTo 4 = .ok (.getfield 197, 3) := by decide +kernel
theorem dX8_rightUpTo_7 : decode cX8_rightUpTo 7 = .ok (.if_icmp .ge 51, 3) := by decide +kernel
theorem dX8_rightUpTo_10 : decode cX8_rightUpTo 10 = .ok (.iload_n 1, 1) := by decide +kernel
theorem dX8_rightUpTo_11 : decode cX8_rightUpTo 11 = .ok (.bipush 8, 2) := by decide +kernel
theorem dX8_rightUpTo_13 : decode cX8_rightUpTo 13 = .ok (.if_icmp .ge 45, 3) := by decide +kernel
theorem dX8_rightUpTo_16 : decode cX8_rightUpTo 16 = .ok (.aload_n 0, 1) := by decide +kernel
theorem dX8_rightUpTo_17 : decode cX8_rightUpTo 17 = .ok (.getfield 16, 3) := by decide +kernel
theorem dX8_rightUpTo_20 : decode cX8_rightUpTo 20 = .ok (.iload_n 1, 1) := by decide +kernel
theorem dX8_rightUpTo_21 : decode cX8_rightUpTo 21 = .ok (.iaload, 1) := by decide +kernel
theorem dX8_rightUpTo_22 : decode cX8_rightUpTo 22 = .ok (.bipush 48, 2) := by decide +kernel
theorem dX8_rightUpTo_24 : decode cX8_rightUpTo 24 = .ok (.isub, 1) := by decide +kernel
theorem dX8_rightUpTo_25 : decode cX8_rightUpTo 25 = .ok (.invokestatic 157, 3) := by decide +kernel
theorem dX8_rightUpTo_28 : decode cX8_rightUpTo 28 = .ok (.ifCond .eq 30, 3) := by decide +kernel
theorem dX8_rightUpTo_31 : decode cX8_rightUpTo 31 = .ok (.iload_n 1, 1) := by decide +kernel
theorem dX8_rightUpTo_32 : decode cX8_rightUpTo 32 = .ok (.ifCond .eq 20, 3) := by decide +kernel
theorem dX8_rightUpTo_35 : decode cX8_rightUpTo 35 = .ok (.aload_n 0, 1) := by decide +kernel
theorem dX8_rightUpTo_36 : decode cX8_rightUpTo 36 = .ok (.getfield 16, 3) := by decide +kernel
theorem dX8_rightUpTo_39 : decode cX8_rightUpTo 39 = .ok (.iload_n 1, 1) := by decide +kernel
theorem dX8_rightUpTo_40 : decode cX8_rightUpTo 40 = .ok (.iaload, 1) := by decide +kernel
theorem dX8_rightUpTo_41 : decode cX8_rightUpTo 41 = .ok (.aload_n 0, 1) := by decide +kernel
theorem dX8_rightUpTo_42 : decode cX8_rightUpTo 42 = .ok (.getfield 16, 3) := by decide +kernel
theorem dX8_rightUpTo_45 : decode cX8_rightUpTo 45 = .ok (.iload_n 1, 1) := by decide +kernel
theorem dX8_rightUpTo_46 : decode cX8_rightUpTo 46 = .ok (.iconst 1, 1) := by decide +kernel
theorem dX8_rightUpTo_47 : decode cX8_rightUpTo 47 = .ok (.isub, 1) := by decide +kernel
theorem dX8_rightUpTo_48 : decode cX8_rightUpTo 48 = .ok (.iaload, 1) := by decide +kernel
theorem dX8_rightUpTo_49 : decode cX8_rightUpTo 49 = .ok (.if_icmp .eq 9, 3) := by decide +kernel
theorem dX8_rightUpTo_52 : decode cX8_rightUpTo 52 = .ok (.iinc 1 1, 3) := by decide +kernel
theorem dX8_rightUpTo_55 : decode cX8_rightUpTo 55 = .ok (.goto (-53), 3) := by decide +kernel
theorem dX8_rightUpTo_58 : decode cX8_rightUpTo 58 = .ok (.iload_n 1, 1) := by decide +kernel
theorem dX8_rightUpTo_59 : decode cX8_rightUpTo 59 = .ok (.ireturn, 1) := by decide +kernel
theorem dX8_firstError_0 : decode cX8_firstError 0 = .ok (.aload_n 0, 1) := by decide +kernel
theorem dX8_firstError_1 : decode cX8_firstError 1 = .ok (.iconst 0, 1) := by decide +kernel
theorem dX8_firstError_2 : decode cX8_firstError 2 = .ok (.putfield 43, 3) := by decide +kernel
theorem dX8_firstError_5 : decode cX8_firstError 5 = .ok (.aload_n 0, 1) := by decide +kernel
theorem dX8_firstError_6 : decode cX8_firstError 6 = .ok (.invokevirtual 200, 3) := by decide +kernel
theorem dX8_firstError_9 : decode cX8_firstError 9 = .ok (.ireturn, 1) := by decide +kernel
theorem dX8_read_0 : decode cX8_read 0 = .ok (.aload_n 0, 1) := by decide +kernel
theorem dX8_read_1 : decode cX8_read 1 = .ok (.aload_n 0, 1) := by decide +kernel
theorem dX8_read_2 : decode cX8_read 2 = .ok (.invokevirtual 200, 3) := by decide +kernel
theorem dX8_read_5 : decode cX8_read 5 = .ok (.aload_n 0, 1) := by decide +kernel
theorem dX8_read_6 : decode cX8_read 6 = .ok (.getfield 197, 3) := by decide +kernel
theorem dX8_read_9 : decode cX8_read 9 = .ok (.if_icmp .ne 14, 3) := by decide +kernel
theorem dX8_read_12 : decode cX8_read 12 = .ok (.aload_n 0, 1) := by decide +kernel
theorem dX8_read_13 : decode cX8_read 13 = .ok (.getfield 197, 3) := by decide +kernel
theorem dX8_read_16 : decode cX8_read 16 = .ok (.ifCond .le 7, 3) := by decide +kernel
theorem dX8_read_19 : decode cX8_read 19 = .ok (.iconst 0, 1) := by decide +kernel
theorem dX8_read_20 : decode cX8_read 20 = .ok (.goto 4, 3) := by decide +kernel
theorem dX8_read_23 : decode cX8_read 23 = .ok (.iconst 1, 1) := by decide +kernel
theorem dX8_read_24 : decode cX8_read 24 = .ok (.putfield 43, 3) := by decide +kernel
theorem dX8_read_27 : decode cX8_read 27 = .ok (.aload_n 0, 1) := by decide +kernel
theorem dX8_read_28 : decode cX8_read 28 = .ok (.getfield 43, 3) := by decide +kernel
theorem dX8_read_31 : decode cX8_read 31 = .ok (.ifCond .ne 58, 3) := by decide +kernel
theorem dX8_read_34 : decode cX8_read 34 = .ok (.aload_n 0, 1) := by decide +kernel
theorem dX8_read_35 : decode cX8_read 35 = .ok (.aload_n 0, 1) := by decide +kernel
theorem dX8_read_36 : decode cX8_read 36 = .ok (.getfield 197, 3) := by decide +kernel
theorem dX8_read_39 : decode cX8_read 39 = .ok (.putfield 107, 3) := by decide +kernel
theorem dX8_read_42 : decode cX8_read 42 = .ok (.iconst 0, 1) := by decide +kernel
theorem dX8_read_43 : decode cX8_read 43 = .ok (.istore_n 1, 1) := by decide +kernel
theorem dX8_read_44 : decode cX8_read 44 = .ok (.iload_n 1, 1) := by decide +kernel
theorem dX8_read_45 : decode cX8_read 45 = .ok (.aload_n 0, 1) := by decide +kernel
theorem dX8_read_46 : decode cX8_read 46 = .ok (.getfield 197, 3) := by decide +kernel
theorem dX8_read_49 : decode cX8_read 49 = .ok (.if_icmp .ge 24, 3) := by decide +kernel
theorem dX8_read_52 : decode cX8_read 52 = .ok (.aload_n 0, 1) := by decide +kernel
theorem dX8_read_53 : decode cX8_read 53 = .ok (.getfield 31, 3) := by decide +kernel
theorem dX8_read_56 : decode cX8_read 56 = .ok (.iload_n 1, 1) := by decide +kernel
theorem dX8_read_57 : decode cX8_read 57 = .ok (.aload_n 0, 1) := by decide +kernel
theorem dX8_read_58 : decode cX8_read 58 = .ok (.getfield 16, 3) := by decide +kernel
theorem dX8_read_61 : decode cX8_read 61 = .ok (.iload_n 1, 1) := by decide +kernel
theorem dX8_read_62 : decode cX8_read 62 = .ok (.iaload, 1) := by decide +kernel
theorem dX8_read_63 : decode cX8_read 63 = .ok (.bipush 48, 2) := by decide +kernel
theorem dX8_read_65 : decode cX8_read 65 = .ok (.isub, 1) := by decide +kernel
theorem dX8_read_66 : decode cX8_read 66 = .ok (.iastore, 1) := by decide +kernel
theorem dX8_read_67 : decode cX8_read 67 = .ok (.iinc 1 1, 3) := by decide +kernel
theorem dX8_read_70 : decode cX8_read 70 = .ok (.goto (-26), 3) := by decide +kernel
theorem dX8_read_73 : decode cX8_read 73 = .ok (.aload_n 0, 1) := by decide +kernel
theorem dX8_read_74 : decode cX8_read 74 = .ok (.aload_n 0, 1) := by decide +kernel
theorem dX8_read_75 : decode cX8_read 75 = .ok (.invokevirtual 175, 3) := by decide +kernel
theorem dX8_read_78 : decode cX8_read 78 = .ok (.ifCond .eq 7, 3) := by decide +kernel
theorem dX8_read_81 : decode cX8_read 81 = .ok (.iconst 0, 1) := by decide +kernel
theorem dX8_read_82 : decode cX8_read 82 = .ok (.goto 4, 3) := by decide +kernel
theorem dX8_read_85 : decode cX8_read 85 = .ok (.iconst 2, 1) := by decide +kernel
theorem dX8_read_86 : decode cX8_read 86 = .ok (.putfield 43, 3) := by decide +kernel
theorem dX8_read_89 : decode cX8_read 89 = .ok (.aload_n 0, 1) := by decide +kernel
theorem dX8_read_90 : decode cX8_read 90 = .ok (.getfield 43, 3) := by decide +kernel
theorem dX8_read_93 : decode cX8_read 93 = .ok (.ifCond .le 5, 3) := by decide +kernel
theorem dX8_read_96 : decode cX8_read 96 = .ok (.iconst 0, 1) := by decide +kernel
theorem dX8_read_97 : decode cX8_read 97 = .ok (.ireturn, 1) := by decide +kernel
theorem dX8_read_98 : decode cX8_read 98 = .ok (.aload_n 0, 1) := by decide +kernel
theorem dX8_read_99 : decode cX8_read 99 = .ok (.invokevirtual 147, 3) := by decide +kernel
theorem dX8_read_102 : decode cX8_read 102 = .ok (.aload_n 0, 1) := by decide +kernel
theorem dX8_read_103 : decode cX8_read 103 = .ok (.iconst 0, 1) := by decide +kernel
theorem dX8_read_104 : decode cX8_read 104 = .ok (.putfield 197, 3) := by decide +kernel
theorem dX8_read_107 : decode cX8_read 107 = .ok (.aload_n 0, 1) := by decide +kernel
theorem dX8_read_108 : decode cX8_read 108 = .ok (.invokevirtual 179, 3) := by decide +kernel
theorem dX8_read_111 : decode cX8_read 111 = .ok (.ireturn, 1) := by decide +kernel
theorem dX8_undo_0 : decode cX8_undo 0 = .ok (.aload_n 0, 1) := by decide +kernel
theorem dX8_undo_1 : decode cX8_undo 1 = .ok (.aload_n 0, 1) := by decide +kernel
theorem dX8_undo_2 : decode cX8_undo 2 = .ok (.getfield 47, 3) := by decide +kernel
theorem dX8_undo_5 : decode cX8_undo 5 = .ok (.ifCond .le 7, 3) := by decide +kernel
theorem dX8_undo_8 : decode cX8_undo 8 = .ok (.iconst 0, 1) := by decide +kernel
theorem dX8_undo_9 : decode cX8_undo 9 = .ok (.goto 4, 3) := by decide +kernel
theorem dX8_undo_12 : decode cX8_undo 12 = .ok (.iconst 1, 1) := by decide +kernel
theorem dX8_undo_13 : decode cX8_undo 13 = .ok (.putfield 43, 3) := by decide +kernel
theorem dX8_undo_16 : decode cX8_undo 16 = .ok (.aload_n 0, 1) := by decide +kernel
theorem dX8_undo_17 : decode cX8_undo 17 = .ok (.getfield 43, 3) := by decide +kernel
theorem dX8_undo_20 : decode cX8_undo 20 = .ok (.ifCond .le 5, 3) := by decide +kernel
theorem dX8_undo_23 : decode cX8_undo 23 = .ok (.iconst 0, 1) := by decide +kernel
theorem dX8_undo_24 : decode cX8_undo 24 = .ok (.ireturn, 1) := by decide +kernel
theorem dX8_undo_25 : decode cX8_undo 25 = .ok (.aload_n 0, 1) := by decide +kernel
theorem dX8_undo_26 : decode cX8_undo 26 = .ok (.dup, 1) := by decide +kernel
theorem dX8_undo_27 : decode cX8_undo 27 = .ok (.getfield 47, 3) := by decide +kernel
theorem dX8_undo_30 : decode cX8_undo 30 = .ok (.iconst 1, 1) := by decide +kernel
theorem dX8_undo_31 : decode cX8_undo 31 = .ok (.isub, 1) := by decide +kernel
theorem dX8_undo_32 : decode cX8_undo 32 = .ok (.putfield 47, 3) := by decide +kernel
theorem dX8_undo_35 : decode cX8_undo 35 = .ok (.iconst 0, 1) := by decide +kernel
theorem dX8_undo_36 : decode cX8_undo 36 = .ok (.istore_n 1, 1) := by decide +kernel
theorem dX8_undo_37 : decode cX8_undo 37 = .ok (.iload_n 1, 1) := by decide +kernel
theorem dX8_undo_38 : decode cX8_undo 38 = .ok (.sipush 177, 3) := by decide +kernel
theorem dX8_undo_41 : decode cX8_undo 41 = .ok (.if_icmp .ge 30, 3) := by decide +kernel
theorem dX8_undo_44 : decode cX8_undo 44 = .ok (.aload_n 0, 1) := by decide +kernel
theorem dX8_undo_45 : decode cX8_undo 45 = .ok (.getfield 7, 3) := by decide +kernel
theorem dX8_undo_48 : decode cX8_undo 48 = .ok (.iload_n 1, 1) := by decide +kernel
theorem dX8_undo_49 : decode cX8_undo 49 = .ok (.aload_n 0, 1) := by decide +kernel
theorem dX8_undo_50 : decode cX8_undo 50 = .ok (.getfield 13, 3) := by decide +kernel
theorem dX8_undo_53 : decode cX8_undo 53 = .ok (.sipush 177, 3) := by decide +kernel
theorem dX8_undo_56 : decode cX8_undo 56 = .ok (.aload_n 0, 1) := by decide +kernel
theorem dX8_undo_57 : decode cX8_undo 57 = .ok (.getfield 47, 3) := by decide +kernel
theorem dX8_undo_60 : decode cX8_undo 60 = .ok (.imul, 1) := by decide +kernel
theorem dX8_undo_61 : decode cX8_undo 61 = .ok (.iload_n 1, 1) := by decide +kernel
theorem dX8_undo_62 : decode cX8_undo 62 = .ok (.iadd, 1) := by decide +kernel
theorem dX8_undo_63 : decode cX8_undo 63 = .ok (.iaload, 1) := by decide +kernel
theorem dX8_undo_64 : decode cX8_undo 64 = .ok (.iastore, 1) := by decide +kernel
theorem dX8_undo_65 : decode cX8_undo 65 = .ok (.iinc 1 1, 3) := by decide +kernel
theorem dX8_undo_68 : decode cX8_undo 68 = .ok (.goto (-31), 3) := by decide +kernel
theorem dX8_undo_71 : decode cX8_undo 71 = .ok (.aload_n 0, 1) := by decide +kernel
theorem dX8_undo_72 : decode cX8_undo 72 = .ok (.getfield 47, 3) := by decide +kernel
theorem dX8_undo_75 : decode cX8_undo 75 = .ok (.ireturn, 1) := by decide +kernel
theorem dX8_pointNow_0 : decode cX8_pointNow 0 = .ok (.aload_n 0, 1) := by decide +kernel
theorem dX8_pointNow_1 : decode cX8_pointNow 1 = .ok (.invokevirtual 110, 3) := by decide +kernel
theorem dX8_pointNow_4 : decode cX8_pointNow 4 = .ok (.iload_n 2, 1) := by decide +kernel
theorem dX8_pointNow_5 : decode cX8_pointNow 5 = .ok (.ifCond .ne 12, 3) := by decide +kernel
theorem dX8_pointNow_8 : decode cX8_pointNow 8 = .ok (.aload_n 0, 1) := by decide +kernel
theorem dX8_pointNow_9 : decode cX8_pointNow 9 = .ok (.getfield 19, 3) := by decide +kernel
theorem dX8_pointNow_12 : decode cX8_pointNow 12 = .ok (.iload_n 1, 1) := by decide +kernel
theorem dX8_pointNow_13 : decode cX8_pointNow 13 = .ok (.iaload, 1) := by decide +kernel
theorem dX8_pointNow_14 : decode cX8_pointNow 14 = .ok (.goto 35, 3) := by decide +kernel
theorem dX8_pointNow_17 : decode cX8_pointNow 17 = .ok (.iload_n 2, 1) := by decide +kernel
theorem dX8_pointNow_18 : decode cX8_pointNow 18 = .ok (.iconst 1, 1) := by decide +kernel
theorem dX8_pointNow_19 : decode cX8_pointNow 19 = .ok (.if_icmp .ne 12, 3) := by decide +kernel
theorem dX8_pointNow_22 : decode cX8_pointNow 22 = .ok (.aload_n 0, 1) := by decide +kernel
theorem dX8_pointNow_23 : decode cX8_pointNow 23 = .ok (.getfield 22, 3) := by decide +kernel
theorem dX8_pointNow_26 : decode cX8_pointNow 26 = .ok (.iload_n 1, 1) := by decide +kernel
theorem dX8_pointNow_27 : decode cX8_pointNow 27 = .ok (.iaload, 1) := by decide +kernel
theorem dX8_pointNow_28 : decode cX8_pointNow 28 = .ok (.goto 21, 3) := by decide +kernel
theorem dX8_pointNow_31 : decode cX8_pointNow 31 = .ok (.iload_n 2, 1) := by decide +kernel
theorem dX8_pointNow_32 : decode cX8_pointNow 32 = .ok (.iconst 2, 1) := by decide +kernel
theorem dX8_pointNow_33 : decode cX8_pointNow 33 = .ok (.if_icmp .ne 11, 3) := by decide +kernel
theorem dX8_pointNow_36 : decode cX8_pointNow 36 = .ok (.aload_n 0, 1) := by decide +kernel
theorem dX8_pointNow_37 : decode cX8_pointNow 37 = .ok (.iload_n 1, 1) := by decide +kernel
theorem dX8_pointNow_38 : decode cX8_pointNow 38 = .ok (.invokevirtual 77, 3) := by decide +kernel
theorem dX8_pointNow_41 : decode cX8_pointNow 41 = .ok (.goto 8, 3) := by decide +kernel
theorem dX8_pointNow_44 : decode cX8_pointNow 44 = .ok (.aload_n 0, 1) := by decide +kernel
theorem dX8_pointNow_45 : decode cX8_pointNow 45 = .ok (.iload_n 1, 1) := by decide +kernel
theorem dX8_pointNow_46 : decode cX8_pointNow 46 = .ok (.invokevirtual 80, 3) := by decide +kernel
theorem dX8_pointNow_49 : decode cX8_pointNow 49 = .ok (.ireturn, 1) := by decide +kernel
theorem dX8_pointOf_0 : decode cX8_pointOf 0 = .ok (.aload_n 0, 1) := by decide +kernel
theorem dX8_pointOf_1 : decode cX8_pointOf 1 = .ok (.iload_n 1, 1) := by decide +kernel
theorem dX8_pointOf_2 : decode cX8_pointOf 2 = .ok (.iconst 0, 1) := by decide +kernel
theorem dX8_pointOf_3 : decode cX8_pointOf 3 = .ok (.aload_n 0, 1) := by decide +kernel
theorem dX8_pointOf_4 : decode cX8_pointOf 4 = .ok (.getfield 7, 3) := by decide +kernel
theorem dX8_pointOf_7 : decode cX8_pointOf 7 = .ok (.iconst 5, 1) := by decide +kernel
theorem dX8_pointOf_8 : decode cX8_pointOf 8 = .ok (.iaload, 1) := by decide +kernel
theorem dX8_pointOf_9 : decode cX8_pointOf 9 = .ok (.iconst 1, 1) := by decide +kernel
theorem dX8_pointOf_10 : decode cX8_pointOf 10 = .ok (.isub, 1) := by decide +kernel
theorem dX8_pointOf_11 : decode cX8_pointOf 11 = .ok (.invokestatic 50, 3) := by decide +kernel
theorem dX8_pointOf_14 : decode cX8_pointOf 14 = .ok (.ifCond .ne 7, 3) := by decide +kernel
theorem dX8_pointOf_17 : decode cX8_pointOf 17 = .ok (.iconst 1, 1) := by decide +kernel
theorem dX8_pointOf_18 : decode cX8_pointOf 18 = .ok (.goto 17, 3) := by decide +kernel
theorem dX8_pointOf_21 : decode cX8_pointOf 21 = .ok (.iload_n 2, 1) := by decide +kernel
theorem dX8_pointOf_22 : decode cX8_pointOf 22 = .ok (.iconst 0, 1) := by decide +kernel
theorem dX8_pointOf_23 : decode cX8_pointOf 23 = .ok (.iconst 3, 1) := by decide +kernel
theorem dX8_pointOf_24 : decode cX8_pointOf 24 = .ok (.invokestatic 50, 3) := by decide +kernel
theorem dX8_pointOf_27 : decode cX8_pointOf 27 = .ok (.ifCond .eq 7, 3) := by decide +kernel
theorem dX8_pointOf_30 : decode cX8_pointOf 30 = .ok (.iconst 0, 1) := by decide +kernel
theorem dX8_pointOf_31 : decode cX8_pointOf 31 = .ok (.goto 4, 3) := by decide +kernel
theorem dX8_pointOf_34 : decode cX8_pointOf 34 = .ok (.iconst 2, 1) := by decide +kernel
theorem dX8_pointOf_35 : decode cX8_pointOf 35 = .ok (.putfield 43, 3) := by decide +kernel
theorem dX8_pointOf_38 : decode cX8_pointOf 38 = .ok (.aload_n 0, 1) := by decide +kernel
theorem dX8_pointOf_39 : decode cX8_pointOf 39 = .ok (.getfield 43, 3) := by decide +kernel
theorem dX8_pointOf_42 : decode cX8_pointOf 42 = .ok (.ifCond .le 7, 3) := by decide +kernel
theorem dX8_pointOf_45 : decode cX8_pointOf 45 = .ok (.iconst 0, 1) := by decide +kernel
theorem dX8_pointOf_46 : decode cX8_pointOf 46 = .ok (.goto 9, 3) := by decide +kernel
theorem dX8_pointOf_49 : decode cX8_pointOf 49 = .ok (.aload_n 0, 1) := by decide +kernel
theorem dX8_pointOf_50 : decode cX8_pointOf 50 = .ok (.iload_n 1, 1) := by decide +kernel
theorem dX8_pointOf_51 : decode cX8_pointOf 51 = .ok (.iload_n 2, 1) := by decide +kernel
theorem dX8_pointOf_52 : decode cX8_pointOf 52 = .ok (.invokevirtual 203, 3) := by decide +kernel
theorem dX8_pointOf_55 : decode cX8_pointOf 55 = .ok (.ireturn, 1) := by decide +kernel
theorem dX8_runNow_0 : decode cX8_runNow 0 = .ok (.aload_n 0, 1) := by decide +kernel
theorem dX8_runNow_1 : decode cX8_runNow 1 = .ok (.invokevirtual 110, 3) := by decide +kernel
theorem dX8_runNow_4 : decode cX8_runNow 4 = .ok (.aload_n 0, 1) := by decide +kernel
theorem dX8_runNow_5 : decode cX8_runNow 5 = .ok (.invokevirtual 101, 3) := by decide +kernel
theorem dX8_runNow_8 : decode cX8_runNow 8 = .ok (.iload_n 1, 1) := by decide +kernel
theorem dX8_runNow_9 : decode cX8_runNow 9 = .ok (.aload_n 0, 1) := by decide +kernel
theorem dX8_runNow_10 : decode cX8_runNow 10 = .ok (.getfield 74, 3) := by decide +kernel
theorem dX8_runNow_13 : decode cX8_runNow 13 = .ok (.if_icmp .lt 5, 3) := by decide +kernel
theorem dX8_runNow_16 : decode cX8_runNow 16 = .ok (.iconst (-1), 1) := by decide +kernel
theorem dX8_runNow_17 : decode cX8_runNow 17 = .ok (.ireturn, 1) := by decide +kernel
theorem dX8_runNow_18 : decode cX8_runNow 18 = .ok (.iload_n 2, 1) := by decide +kernel
theorem dX8_runNow_19 : decode cX8_runNow 19 = .ok (.iconst 2, 1) := by decide +kernel
theorem dX8_runNow_20 : decode cX8_runNow 20 = .ok (.if_icmp .ne 11, 3) := by decide +kernel
theorem dX8_runNow_23 : decode cX8_runNow 23 = .ok (.aload_n 0, 1) := by decide +kernel
theorem dX8_runNow_24 : decode cX8_runNow 24 = .ok (.iload_n 1, 1) := by decide +kernel
theorem dX8_runNow_25 : decode cX8_runNow 25 = .ok (.invokevirtual 86, 3) := by decide +kernel
theorem dX8_runNow_28 : decode cX8_runNow 28 = .ok (.goto 8, 3) := by decide +kernel
theorem dX8_runNow_31 : decode cX8_runNow 31 = .ok (.aload_n 0, 1) := by decide +kernel
theorem dX8_runNow_32 : decode cX8_runNow 32 = .ok (.iload_n 1, 1) := by decide +kernel
theorem dX8_runNow_33 : decode cX8_runNow 33 = .ok (.invokevirtual 90, 3) := by decide +kernel
theorem dX8_runNow_36 : decode cX8_runNow 36 = .ok (.istore_n 3, 1) := by decide +kernel
theorem dX8_runNow_37 : decode cX8_runNow 37 = .ok (.iload_n 2, 1) := by decide +kernel
theorem dX8_runNow_38 : decode cX8_runNow 38 = .ok (.ifCond .ne 12, 3) := by decide +kernel
theorem dX8_runNow_41 : decode cX8_runNow 41 = .ok (.aload_n 0, 1) := by decide +kernel
theorem dX8_runNow_42 : decode cX8_runNow 42 = .ok (.getfield 25, 3) := by decide +kernel
theorem dX8_runNow_45 : decode cX8_runNow 45 = .ok (.iload_n 1, 1) := by decide +kernel
theorem dX8_runNow_46 : decode cX8_runNow 46 = .ok (.iaload, 1) := by decide +kernel
theorem dX8_runNow_47 : decode cX8_runNow 47 = .ok (.goto 26, 3) := by decide +kernel
theorem dX8_runNow_50 : decode cX8_runNow 50 = .ok (.iload_n 2, 1) := by decide +kernel
theorem dX8_runNow_51 : decode cX8_runNow 51 = .ok (.iconst 1, 1) := by decide +kernel
theorem dX8_runNow_52 : decode cX8_runNow 52 = .ok (.if_icmp .ne 12, 3) := by decide +kernel
theorem dX8_runNow_55 : decode cX8_runNow 55 = .ok (.aload_n 0, 1) := by decide +kernel
theorem dX8_runNow_56 : decode cX8_runNow 56 = .ok (.getfield 28, 3) := by decide +kernel
theorem dX8_runNow_59 : decode cX8_runNow 59 = .ok (.iload_n 1, 1) := by decide +kernel
theorem dX8_runNow_60 : decode cX8_runNow 60 = .ok (.iaload, 1) := by decide +kernel
theorem dX8_runNow_61 : decode cX8_runNow 61 = .ok (.goto 12, 3) := by decide +kernel
theorem dX8_runNow_64 : decode cX8_runNow 64 = .ok (.iload_n 3, 1) := by decide +kernel
theorem dX8_runNow_65 : decode cX8_runNow 65 = .ok (.ifCond .eq 7, 3) := by decide +kernel
theorem dX8_runNow_68 : decode cX8_runNow 68 = .ok (.iconst 1, 1) := by decide +kernel
theorem dX8_runNow_69 : decode cX8_runNow 69 = .ok (.goto 4, 3) := by decide +kernel
theorem dX8_runNow_72 : decode cX8_runNow 72 = .ok (.iconst 0, 1) := by decide +kernel
theorem dX8_runNow_73 : decode cX8_runNow 73 = .ok (.ireturn, 1) := by decide +kernel
theorem dX8_run_0 : decode cX8_run 0 = .ok (.aload_n 0, 1) := by decide +kernel
theorem dX8_run_1 : decode cX8_run 1 = .ok (.iload_n 1, 1) := by decide +kernel
theorem dX8_run_2 : decode cX8_run 2 = .ok (.ifCond .lt 16, 3) := by decide +kernel
theorem dX8_run_5 : decode cX8_run 5 = .ok (.iload_n 2, 1) := by decide +kernel
theorem dX8_run_6 : decode cX8_run 6 = .ok (.iconst 0, 1) := by decide +kernel
theorem dX8_run_7 : decode cX8_run 7 = .ok (.iconst 3, 1) := by decide +kernel
theorem dX8_run_8 : decode cX8_run 8 = .ok (.invokestatic 50, 3) := by decide +kernel
theorem dX8_run_11 : decode cX8_run 11 = .ok (.ifCond .eq 7, 3) := by decide +kernel
theorem dX8_run_14 : decode cX8_run 14 = .ok (.iconst 0, 1) := by decide +kernel
theorem dX8_run_15 : decode cX8_run 15 = .ok (.goto 4, 3) := by decide +kernel
theorem dX8_run_18 : decode cX8_run 18 = .ok (.iconst 1, 1) := by decide +kernel
theorem dX8_run_19 : decode cX8_run 19 = .ok (.putfield 43, 3) := by decide +kernel
theorem dX8_run_22 : decode cX8_run 22 = .ok (.aload_n 0, 1) := by decide +kernel
theorem dX8_run_23 : decode cX8_run 23 = .ok (.getfield 43, 3) := by decide +kernel
theorem dX8_run_26 : decode cX8_run 26 = .ok (.ifCond .le 7, 3) := by decide +kernel
theorem dX8_run_29 : decode cX8_run 29 = .ok (.iconst 0, 1) := by decide +kernel
theorem dX8_run_30 : decode cX8_run 30 = .ok (.goto 9, 3) := by decide +kernel
theorem dX8_run_33 : decode cX8_run 33 = .ok (.aload_n 0, 1) := by decide +kernel
theorem dX8_run_34 : decode cX8_run 34 = .ok (.iload_n 1, 1) := by decide +kernel
theorem dX8_run_35 : decode cX8_run 35 = .ok (.iload_n 2, 1) := by decide +kernel
theorem dX8_run_36 : decode cX8_run 36 = .ok (.invokevirtual 206, 3) := by decide +kernel
theorem dX8_run_39 : decode cX8_run 39 = .ok (.ireturn, 1) := by decide +kernel
theorem dX8_strokeNow_0 : decode cX8_strokeNow 0 = .ok (.aload_n 0, 1) := by decide +kernel
theorem dX8_strokeNow_1 : decode cX8_strokeNow 1 = .ok (.invokevirtual 172, 3) := by decide +kernel
theorem dX8_strokeNow_4 : decode cX8_strokeNow 4 = .ok (.iload_n 1, 1) := by decide +kernel
theorem dX8_strokeNow_5 : decode cX8_strokeNow 5 = .ok (.aload_n 0, 1) := by decide +kernel
theorem dX8_strokeNow_6 : decode cX8_strokeNow 6 = .ok (.getfield 107, 3) := by decide +kernel
theorem dX8_strokeNow_9 : decode cX8_strokeNow 9 = .ok (.if_icmp .ge 12, 3) := by decide +kernel
theorem dX8_strokeNow_12 : decode cX8_strokeNow 12 = .ok (.aload_n 0, 1) := by decide +kernel
theorem dX8_strokeNow_13 : decode cX8_strokeNow 13 = .ok (.getfield 31, 3) := by decide +kernel
theorem dX8_strokeNow_16 : decode cX8_strokeNow 16 = .ok (.iload_n 1, 1) := by decide +kernel
theorem dX8_strokeNow_17 : decode cX8_strokeNow 17 = .ok (.iaload, 1) := by decide +kernel
theorem dX8_strokeNow_18 : decode cX8_strokeNow 18 = .ok (.goto 4, 3) := by decide +kernel
theorem dX8_strokeNow_21 : decode cX8_strokeNow 21 = .ok (.iconst (-1), 1) := by decide +kernel
theorem dX8_strokeNow_22 : decode cX8_strokeNow 22 = .ok (.ireturn, 1) := by decide +kernel
theorem dX8_stroke_0 : decode cX8_stroke 0 = .ok (.aload_n 0, 1) := by decide +kernel
theorem dX8_stroke_1 : decode cX8_stroke 1 = .ok (.iload_n 1, 1) := by decide +kernel
theorem dX8_stroke_2 : decode cX8_stroke 2 = .ok (.ifCond .ge 7, 3) := by decide +kernel
theorem dX8_stroke_5 : decode cX8_stroke 5 = .ok (.iconst 1, 1) := by decide +kernel
theorem dX8_stroke_6 : decode cX8_stroke 6 = .ok (.goto 4, 3) := by decide +kernel
theorem dX8_stroke_9 : decode cX8_stroke 9 = .ok (.iconst 0, 1) := by decide +kernel
theorem dX8_stroke_10 : decode cX8_stroke 10 = .ok (.putfield 43, 3) := by decide +kernel
theorem dX8_stroke_13 : decode cX8_stroke 13 = .ok (.aload_n 0, 1) := by decide +kernel
theorem dX8_stroke_14 : decode cX8_stroke 14 = .ok (.getfield 43, 3) := by decide +kernel
theorem dX8_stroke_17 : decode cX8_stroke 17 = .ok (.ifCond .le 7, 3) := by decide +kernel
theorem dX8_stroke_20 : decode cX8_stroke 20 = .ok (.iconst 0, 1) := by decide +kernel
theorem dX8_stroke_21 : decode cX8_stroke 21 = .ok (.goto 8, 3) := by decide +kernel
theorem dX8_stroke_24 : decode cX8_stroke 24 = .ok (.aload_n 0, 1) := by decide +kernel
theorem dX8_stroke_25 : decode cX8_stroke 25 = .ok (.iload_n 1, 1) := by decide +kernel
theorem dX8_stroke_26 : decode cX8_stroke 26 = .ok (.invokevirtual 209, 3) := by decide +kernel
theorem dX8_stroke_29 : decode cX8_stroke 29 = .ok (.ireturn, 1) := by decide +kernel
theorem dX8_strokeOf_0 : decode cX8_strokeOf 0 = .ok (.aload_n 0, 1) := by decide +kernel
theorem dX8_strokeOf_1 : decode cX8_strokeOf 1 = .ok (.aload_n 0, 1) := by decide +kernel
theorem dX8_strokeOf_2 : decode cX8_strokeOf 2 = .ok (.iload_n 1, 1) := by decide +kernel
theorem dX8_strokeOf_3 : decode cX8_strokeOf 3 = .ok (.invokevirtual 182, 3) := by decide +kernel
theorem dX8_strokeOf_6 : decode cX8_strokeOf 6 = .ok (.ifCond .ne 7, 3) := by decide +kernel
theorem dX8_strokeOf_9 : decode cX8_strokeOf 9 = .ok (.iconst 1, 1) := by decide +kernel
theorem dX8_strokeOf_10 : decode cX8_strokeOf 10 = .ok (.goto 12, 3) := by decide +kernel
theorem dX8_strokeOf_13 : decode cX8_strokeOf 13 = .ok (.iload_n 2, 1) := by decide +kernel
theorem dX8_strokeOf_14 : decode cX8_strokeOf 14 = .ok (.ifCond .ge 7, 3) := by decide +kernel
theorem dX8_strokeOf_17 : decode cX8_strokeOf 17 = .ok (.iconst 2, 1) := by decide +kernel
theorem dX8_strokeOf_18 : decode cX8_strokeOf 18 = .ok (.goto 4, 3) := by decide +kernel
theorem dX8_strokeOf_21 : decode cX8_strokeOf 21 = .ok (.iconst 0, 1) := by decide +kernel
theorem dX8_strokeOf_22 : decode cX8_strokeOf 22 = .ok (.putfield 43, 3) := by decide +kernel
theorem dX8_strokeOf_25 : decode cX8_strokeOf 25 = .ok (.aload_n 0, 1) := by decide +kernel
theorem dX8_strokeOf_26 : decode cX8_strokeOf 26 = .ok (.getfield 43, 3) := by decide +kernel
theorem dX8_strokeOf_29 : decode cX8_strokeOf 29 = .ok (.ifCond .le 7, 3) := by decide +kernel
theorem dX8_strokeOf_32 : decode cX8_strokeOf 32 = .ok (.iconst 0, 1) := by decide +kernel
theorem dX8_strokeOf_33 : decode cX8_strokeOf 33 = .ok (.goto 22, 3) := by decide +kernel
theorem dX8_strokeOf_36 : decode cX8_strokeOf 36 = .ok (.iload_n 2, 1) := by decide +kernel
theorem dX8_strokeOf_37 : decode cX8_strokeOf 37 = .ok (.aload_n 0, 1) := by decide +kernel
theorem dX8_strokeOf_38 : decode cX8_strokeOf 38 = .ok (.iload_n 1, 1) := by decide +kernel
theorem dX8_strokeOf_39 : decode cX8_strokeOf 39 = .ok (.invokevirtual 116, 3) := by decide +kernel
theorem dX8_strokeOf_42 : decode cX8_strokeOf 42 = .ok (.if_icmp .ge 12, 3) := by decide +kernel
theorem dX8_strokeOf_45 : decode cX8_strokeOf 45 = .ok (.aload_n 0, 1) := by decide +kernel
theorem dX8_strokeOf_46 : decode cX8_strokeOf 46 = .ok (.iload_n 1, 1) := by decide +kernel
theorem dX8_strokeOf_47 : decode cX8_strokeOf 47 = .ok (.iload_n 2, 1) := by decide +kernel
theorem dX8_strokeOf_48 : decode cX8_strokeOf 48 = .ok (.invokevirtual 119, 3) := by decide +kernel
theorem dX8_strokeOf_51 : decode cX8_strokeOf 51 = .ok (.goto 4, 3) := by decide +kernel
theorem dX8_strokeOf_54 : decode cX8_strokeOf 54 = .ok (.iconst (-1), 1) := by decide +kernel
theorem dX8_strokeOf_55 : decode cX8_strokeOf 55 = .ok (.ireturn, 1) := by decide +kernel
theorem dX8_pathDistance_0 : decode cX8_pathDistance 0 = .ok (.aload_n 0, 1) := by decide +kernel
theorem dX8_pathDistance_1 : decode cX8_pathDistance 1 = .ok (.invokevirtual 172, 3) := by decide +kernel
theorem dX8_pathDistance_4 : decode cX8_pathDistance 4 = .ok (.aload_n 0, 1) := by decide +kernel
theorem dX8_pathDistance_5 : decode cX8_pathDistance 5 = .ok (.iload_n 1, 1) := by decide +kernel
theorem dX8_pathDistance_6 : decode cX8_pathDistance 6 = .ok (.invokevirtual 128, 3) := by decide +kernel
theorem dX8_pathDistance_9 : decode cX8_pathDistance 9 = .ok (.ireturn, 1) := by decide +kernel
theorem dX8_distance_0 : decode cX8_distance 0 = .ok (.aload_n 0, 1) := by decide +kernel
theorem dX8_distance_1 : decode cX8_distance 1 = .ok (.aload_n 0, 1) := by decide +kernel
theorem dX8_distance_2 : decode cX8_distance 2 = .ok (.iload_n 1, 1) := by decide +kernel
theorem dX8_distance_3 : decode cX8_distance 3 = .ok (.invokevirtual 182, 3) := by decide +kernel
theorem dX8_distance_6 : decode cX8_distance 6 = .ok (.ifCond .eq 20, 3) := by decide +kernel
theorem dX8_distance_9 : decode cX8_distance 9 = .ok (.iload_n 2, 1) := by decide +kernel
theorem dX8_distance_10 : decode cX8_distance 10 = .ok (.iconst (-1), 1) := by decide +kernel
theorem dX8_distance_11 : decode cX8_distance 11 = .ok (.if_icmp .eq 11, 3) := by decide +kernel
theorem dX8_distance_14 : decode cX8_distance 14 = .ok (.aload_n 0, 1) := by decide +kernel
theorem dX8_distance_15 : decode cX8_distance 15 = .ok (.iload_n 2, 1) := by decide +kernel
theorem dX8_distance_16 : decode cX8_distance 16 = .ok (.invokevirtual 182, 3) := by decide +kernel
theorem dX8_distance_19 : decode cX8_distance 19 = .ok (.ifCond .eq 7, 3) := by decide +kernel
theorem dX8_distance_22 : decode cX8_distance 22 = .ok (.iconst 0, 1) := by decide +kernel
theorem dX8_distance_23 : decode cX8_distance 23 = .ok (.goto 4, 3) := by decide +kernel
theorem dX8_distance_26 : decode cX8_distance 26 = .ok (.iconst 1, 1) := by decide +kernel
theorem dX8_distance_27 : decode cX8_distance 27 = .ok (.putfield 43, 3) := by decide +kernel
theorem dX8_distance_30 : decode cX8_distance 30 = .ok (.aload_n 0, 1) := by decide +kernel
theorem dX8_distance_31 : decode cX8_distance 31 = .ok (.getfield 43, 3) := by decide +kernel
theorem dX8_distance_34 : decode cX8_distance 34 = .ok (.ifCond .le 7, 3) := by decide +kernel
theorem dX8_distance_37 : decode cX8_distance 37 = .ok (.iconst 0, 1) := by decide +kernel
theorem dX8_distance_38 : decode cX8_distance 38 = .ok (.goto 22, 3) := by decide +kernel
theorem dX8_distance_41 : decode cX8_distance 41 = .ok (.iload_n 2, 1) := by decide +kernel
theorem dX8_distance_42 : decode cX8_distance 42 = .ok (.iconst (-1), 1) := by decide +kernel
theorem dX8_distance_43 : decode cX8_distance 43 = .ok (.if_icmp .ne 11, 3) := by decide +kernel
theorem dX8_distance_46 : decode cX8_distance 46 = .ok (.aload_n 0, 1) := by decide +kernel
theorem dX8_distance_47 : decode cX8_distance 47 = .ok (.iload_n 1, 1) := by decide +kernel
theorem dX8_distance_48 : decode cX8_distance 48 = .ok (.invokevirtual 212, 3) := by decide +kernel
theorem dX8_distance_51 : decode cX8_distance 51 = .ok (.goto 9, 3) := by decide +kernel
theorem dX8_distance_54 : decode cX8_distance 54 = .ok (.aload_n 0, 1) := by decide +kernel
theorem dX8_distance_55 : decode cX8_distance 55 = .ok (.iload_n 1, 1) := by decide +kernel
theorem dX8_distance_56 : decode cX8_distance 56 = .ok (.iload_n 2, 1) := by decide +kernel
theorem dX8_distance_57 : decode cX8_distance 57 = .ok (.invokevirtual 131, 3) := by decide +kernel
theorem dX8_distance_60 : decode cX8_distance 60 = .ok (.ireturn, 1) := by decide +kernel
theorem dX8_nearestDistance_0 : decode cX8_nearestDistance 0 = .ok (.aload_n 0, 1) := by decide +kernel
theorem dX8_nearestDistance_1 : decode cX8_nearestDistance 1 = .ok (.iconst (-1), 1) := by decide +kernel
theorem dX8_nearestDistance_2 : decode cX8_nearestDistance 2 = .ok (.invokevirtual 134, 3) := by decide +kernel
theorem dX8_nearestDistance_5 : decode cX8_nearestDistance 5 = .ok (.istore_n 1, 1) := by decide +kernel
theorem dX8_nearestDistance_6 : decode cX8_nearestDistance 6 = .ok (.iload_n 1, 1) := by decide +kernel
theorem dX8_nearestDistance_7 : decode cX8_nearestDistance 7 = .ok (.iconst (-1), 1) := by decide +kernel
theorem dX8_nearestDistance_8 : decode cX8_nearestDistance 8 = .ok (.if_icmp .ne 7, 3) := by decide +kernel
theorem dX8_nearestDistance_11 : decode cX8_nearestDistance 11 = .ok (.iconst (-1), 1) := by decide +kernel
theorem dX8_nearestDistance_12 : decode cX8_nearestDistance 12 = .ok (.goto 8, 3) := by decide +kernel
theorem dX8_nearestDistance_15 : decode cX8_nearestDistance 15 = .ok (.aload_n 0, 1) := by decide +kernel
theorem dX8_nearestDistance_16 : decode cX8_nearestDistance 16 = .ok (.iload_n 1, 1) := by decide +kernel
theorem dX8_nearestDistance_17 : decode cX8_nearestDistance 17 = .ok (.invokevirtual 128, 3) := by decide +kernel
theorem dX8_nearestDistance_20 : decode cX8_nearestDistance 20 = .ok (.ireturn, 1) := by decide +kernel
theorem dX8_readingNow_0 : decode cX8_readingNow 0 = .ok (.aload_n 0, 1) := by decide +kernel
theorem dX8_readingNow_1 : decode cX8_readingNow 1 = .ok (.invokevirtual 172, 3) := by decide +kernel
theorem dX8_readingNow_4 : decode cX8_readingNow 4 = .ok (.iload_n 1, 1) := by decide +kernel
theorem dX8_readingNow_5 : decode cX8_readingNow 5 = .ok (.tableswitch 52 0 3 #[31, 36, 42, 47], 31) := by decide +kernel
theorem dX8_readingNow_36 : decode cX8_readingNow 36 = .ok (.aload_n 0, 1) := by decide +kernel
theorem dX8_readingNow_37 : decode cX8_readingNow 37 = .ok (.invokevirtual 215, 3) := by decide +kernel
theorem dX8_readingNow_40 : decode cX8_readingNow 40 = .ok (.ireturn, 1) := by decide +kernel
theorem dX8_readingNow_41 : decode cX8_readingNow 41 = .ok (.aload_n 0, 1) := by decide +kernel
theorem dX8_readingNow_42 : decode cX8_readingNow 42 = .ok (.iconst (-1), 1) := by decide +kernel
theorem dX8_readingNow_43 : decode cX8_readingNow 43 = .ok (.invokevirtual 134, 3) := by decide +kernel
theorem dX8_readingNow_46 : decode cX8_readingNow 46 = .ok (.ireturn, 1) := by decide +kernel
theorem dX8_readingNow_47 : decode cX8_readingNow 47 = .ok (.aload_n 0, 1) := by decide +kernel
theorem dX8_readingNow_48 : decode cX8_readingNow 48 = .ok (.invokevirtual 218, 3) := by decide +kernel
theorem dX8_readingNow_51 : decode cX8_readingNow 51 = .ok (.ireturn, 1) := by decide +kernel
theorem dX8_readingNow_52 : decode cX8_readingNow 52 = .ok (.aload_n 0, 1) := by decide +kernel
theorem dX8_readingNow_53 : decode cX8_readingNow 53 = .ok (.invokevirtual 140, 3) := by decide +kernel
theorem dX8_readingNow_56 : decode cX8_readingNow 56 = .ok (.ireturn, 1) := by decide +kernel
theorem dX8_readingNow_57 : decode cX8_readingNow 57 = .ok (.aload_n 0, 1) := by decide +kernel
theorem dX8_readingNow_58 : decode cX8_readingNow 58 = .ok (.invokevirtual 221, 3) := by decide +kernel
theorem dX8_readingNow_61 : decode cX8_readingNow 61 = .ok (.ireturn, 1) := by decide +kernel
theorem dX8_reading_0 : decode cX8_reading 0 = .ok (.aload_n 0, 1) := by decide +kernel
theorem dX8_reading_1 : decode cX8_reading 1 = .ok (.iload_n 1, 1) := by decide +kernel
theorem dX8_reading_2 : decode cX8_reading 2 = .ok (.iconst 0, 1) := by decide +kernel
theorem dX8_reading_3 : decode cX8_reading 3 = .ok (.iconst 4, 1) := by decide +kernel
theorem dX8_reading_4 : decode cX8_reading 4 = .ok (.invokestatic 50, 3) := by decide +kernel
theorem dX8_reading_7 : decode cX8_reading 7 = .ok (.ifCond .eq 7, 3) := by decide +kernel
theorem dX8_reading_10 : decode cX8_reading 10 = .ok (.iconst 0, 1) := by decide +kernel
theorem dX8_reading_11 : decode cX8_reading 11 = .ok (.goto 4, 3) := by decide +kernel
theorem dX8_reading_14 : decode cX8_reading 14 = .ok (.iconst 1, 1) := by decide +kernel
theorem dX8_reading_15 : decode cX8_reading 15 = .ok (.putfield 43, 3) := by decide +kernel
theorem dX8_reading_18 : decode cX8_reading 18 = .ok (.aload_n 0, 1) := by decide +kernel
theorem dX8_reading_19 : decode cX8_reading 19 = .ok (.getfield 43, 3) := by decide +kernel
theorem dX8_reading_22 : decode cX8_reading 22 = .ok (.ifCond .le 7, 3) := by decide +kernel
theorem dX8_reading_25 : decode cX8_reading 25 = .ok (.iconst 0, 1) := by decide +kernel
theorem dX8_reading_26 : decode cX8_reading 26 = .ok (.goto 8, 3) := by decide +kernel
theorem dX8_reading_29 : decode cX8_reading 29 = .ok (.aload_n 0, 1) := by decide +kernel
theorem dX8_reading_30 : decode cX8_reading 30 = .ok (.iload_n 1, 1) := by decide +kernel
theorem dX8_reading_31 : decode cX8_reading 31 = .ok (.invokevirtual 224, 3) := by decide +kernel
theorem dX8_reading_34 : decode cX8_reading 34 = .ok (.ireturn, 1) := by decide +kernel
theorem dX8_manyRuns_0 : decode cX8_manyRuns 0 = .ok (.aload_n 0, 1) := by decide +kernel
theorem dX8_manyRuns_1 : decode cX8_manyRuns 1 = .ok (.invokevirtual 110, 3) := by decide +kernel
theorem dX8_manyRuns_4 : decode cX8_manyRuns 4 = .ok (.aload_n 0, 1) := by decide +kernel
theorem dX8_manyRuns_5 : decode cX8_manyRuns 5 = .ok (.invokevirtual 101, 3) := by decide +kernel
theorem dX8_manyRuns_8 : decode cX8_manyRuns 8 = .ok (.aload_n 0, 1) := by decide +kernel
theorem dX8_manyRuns_9 : decode cX8_manyRuns 9 = .ok (.getfield 74, 3) := by decide +kernel
theorem dX8_manyRuns_12 : decode cX8_manyRuns 12 = .ok (.ireturn, 1) := by decide +kernel
theorem dX8_pathLength_0 : decode cX8_pathLength 0 = .ok (.aload_n 0, 1) := by decide +kernel
theorem dX8_pathLength_1 : decode cX8_pathLength 1 = .ok (.invokevirtual 227, 3) := by decide +kernel
theorem dX8_pathLength_4 : decode cX8_pathLength 4 = .ok (.istore_n 1, 1) := by decide +kernel
theorem dX8_pathLength_5 : decode cX8_pathLength 5 = .ok (.iconst 0, 1) := by decide +kernel
theorem dX8_pathLength_6 : decode cX8_pathLength 6 = .ok (.istore_n 2, 1) := by decide +kernel
theorem dX8_pathLength_7 : decode cX8_pathLength 7 = .ok (.iconst 0, 1) := by decide +kernel
theorem dX8_pathLength_8 : decode cX8_pathLength 8 = .ok (.istore_n 3, 1) := by decide +kernel
theorem dX8_pathLength_9 : decode cX8_pathLength 9 = .ok (.iload_n 3, 1) := by decide +kernel
theorem dX8_pathLength_10 : decode cX8_pathLength 10 = .ok (.iload_n 1, 1) := by decide +kernel
theorem dX8_pathLength_11 : decode cX8_pathLength 11 = .ok (.if_icmp .ge 18, 3) := by decide +kernel
theorem dX8_pathLength_14 : decode cX8_pathLength 14 = .ok (.iload_n 2, 1) := by decide +kernel
theorem dX8_pathLength_15 : decode cX8_pathLength 15 = .ok (.aload_n 0, 1) := by decide +kernel
theorem dX8_pathLength_16 : decode cX8_pathLength 16 = .ok (.getfield 28, 3) := by decide +kernel
theorem dX8_pathLength_19 : decode cX8_pathLength 19 = .ok (.iload_n 3, 1) := by decide +kernel
theorem dX8_pathLength_20 : decode cX8_pathLength 20 = .ok (.iaload, 1) := by decide +kernel
theorem dX8_pathLength_21 : decode cX8_pathLength 21 = .ok (.iadd, 1) := by decide +kernel
theorem dX8_pathLength_22 : decode cX8_pathLength 22 = .ok (.istore_n 2, 1) := by decide +kernel
theorem dX8_pathLength_23 : decode cX8_pathLength 23 = .ok (.iinc 3 1, 3) := by decide +kernel
theorem dX8_pathLength_26 : decode cX8_pathLength 26 = .ok (.goto (-17), 3) := by decide +kernel
theorem dX8_pathLength_29 : decode cX8_pathLength 29 = .ok (.iload_n 2, 1) := by decide +kernel
theorem dX8_pathLength_30 : decode cX8_pathLength 30 = .ok (.ireturn, 1) := by decide +kernel
theorem dX8_manyDropped_0 : decode cX8_manyDropped 0 = .ok (.aload_n 0, 1) := by decide +kernel
theorem dX8_manyDropped_1 : decode cX8_manyDropped 1 = .ok (.invokevirtual 227, 3) := by decide +kernel
theorem dX8_manyDropped_4 : decode cX8_manyDropped 4 = .ok (.istore_n 1, 1) := by decide +kernel
theorem dX8_manyDropped_5 : decode cX8_manyDropped 5 = .ok (.aload_n 0, 1) := by decide +kernel
theorem dX8_manyDropped_6 : decode cX8_manyDropped 6 = .ok (.invokevirtual 104, 3) := by decide +kernel
theorem dX8_manyDropped_9 : decode cX8_manyDropped 9 = .ok (.ireturn, 1) := by decide +kernel
theorem dX8_manyDirections_0 : decode cX8_manyDirections 0 = .ok (.aload_n 0, 1) := by decide +kernel
theorem dX8_manyDirections_1 : decode cX8_manyDirections 1 = .ok (.invokevirtual 172, 3) := by decide +kernel
theorem dX8_manyDirections_4 : decode cX8_manyDirections 4 = .ok (.aload_n 0, 1) := by decide +kernel
theorem dX8_manyDirections_5 : decode cX8_manyDirections 5 = .ok (.getfield 107, 3) := by decide +kernel
theorem dX8_manyDirections_8 : decode cX8_manyDirections 8 = .ok (.ireturn, 1) := by decide +kernel
theorem dX8_allDirections_0 : decode cX8_allDirections 0 = .ok (.iconst 0, 1) := by decide +kernel
theorem dX8_allDirections_1 : decode cX8_allDirections 1 = .ok (.istore_n 1, 1) := by decide +kernel
theorem dX8_allDirections_2 : decode cX8_allDirections 2 = .ok (.iconst 0, 1) := by decide +kernel
theorem dX8_allDirections_3 : decode cX8_allDirections 3 = .ok (.istore_n 2, 1) := by decide +kernel
theorem dX8_allDirections_4 : decode cX8_allDirections 4 = .ok (.iload_n 2, 1) := by decide +kernel
theorem dX8_allDirections_5 : decode cX8_allDirections 5 = .ok (.aload_n 0, 1) := by decide +kernel
theorem dX8_allDirections_6 : decode cX8_allDirections 6 = .ok (.getfield 7, 3) := by decide +kernel
theorem dX8_allDirections_9 : decode cX8_allDirections 9 = .ok (.bipush 6, 2) := by decide +kernel
theorem dX8_allDirections_11 : decode cX8_allDirections 11 = .ok (.iaload, 1) := by decide +kernel
theorem dX8_allDirections_12 : decode cX8_allDirections 12 = .ok (.if_icmp .ge 17, 3) := by decide +kernel
theorem dX8_allDirections_15 : decode cX8_allDirections 15 = .ok (.iload_n 1, 1) := by decide +kernel
theorem dX8_allDirections_16 : decode cX8_allDirections 16 = .ok (.aload_n 0, 1) := by decide +kernel
theorem dX8_allDirections_17 : decode cX8_allDirections 17 = .ok (.iload_n 2, 1) := by decide +kernel
theorem dX8_allDirections_18 : decode cX8_allDirections 18 = .ok (.invokevirtual 116, 3) := by decide +kernel
theorem dX8_allDirections_21 : decode cX8_allDirections 21 = .ok (.iadd, 1) := by decide +kernel
theorem dX8_allDirections_22 : decode cX8_allDirections 22 = .ok (.istore_n 1, 1) := by decide +kernel
theorem dX8_allDirections_23 : decode cX8_allDirections 23 = .ok (.iinc 2 1, 3) := by decide +kernel
theorem dX8_allDirections_26 : decode cX8_allDirections 26 = .ok (.goto (-22), 3) := by decide +kernel
theorem dX8_allDirections_29 : decode cX8_allDirections 29 = .ok (.iload_n 1, 1) := by decide +kernel
theorem dX8_allDirections_30 : decode cX8_allDirections 30 = .ok (.ireturn, 1) := by decide +kernel
theorem dX8_counted_0 : decode cX8_counted 0 = .ok (.iload_n 1, 1) := by decide +kernel
theorem dX8_counted_1 : decode cX8_counted 1 = .ok (.tableswitch 92 0 7 #[47, 54, 59, 64, 69, 74, 82, 87], 47) := by decide +kernel
theorem dX8_counted_48 : decode cX8_counted 48 = .ok (.aload_n 0, 1) := by decide +kernel
theorem dX8_counted_49 : decode cX8_counted 49 = .ok (.getfield 7, 3) := by decide +kernel
theorem dX8_counted_52 : decode cX8_counted 52 = .ok (.iconst 5, 1) := by decide +kernel
theorem dX8_counted_53 : decode cX8_counted 53 = .ok (.iaload, 1) := by decide +kernel
theorem dX8_counted_54 : decode cX8_counted 54 = .ok (.ireturn, 1) := by decide +kernel
theorem dX8_counted_55 : decode cX8_counted 55 = .ok (.aload_n 0, 1) := by decide +kernel
theorem dX8_counted_56 : decode cX8_counted 56 = .ok (.invokevirtual 227, 3) := by decide +kernel
theorem dX8_counted_59 : decode cX8_counted 59 = .ok (.ireturn, 1) := by decide +kernel
theorem dX8_counted_60 : decode cX8_counted 60 = .ok (.aload_n 0, 1) := by decide +kernel
theorem dX8_counted_61 : decode cX8_counted 61 = .ok (.invokevirtual 230, 3) := by decide +kernel
theorem dX8_counted_64 : decode cX8_counted 64 = .ok (.ireturn, 1) := by decide +kernel
theorem dX8_counted_65 : decode cX8_counted 65 = .ok (.aload_n 0, 1) := by decide +kernel
theorem dX8_counted_66 : decode cX8_counted 66 = .ok (.invokevirtual 233, 3) := by decide +kernel
theorem dX8_counted_69 : decode cX8_counted 69 = .ok (.ireturn, 1) := by decide +kernel
theorem dX8_counted_70 : decode cX8_counted 70 = .ok (.aload_n 0, 1) := by decide +kernel
theorem dX8_counted_71 : decode cX8_counted 71 = .ok (.invokevirtual 236, 3) := by decide +kernel
theorem dX8_counted_74 : decode cX8_counted 74 = .ok (.ireturn, 1) := by decide +kernel
theorem dX8_counted_75 : decode cX8_counted 75 = .ok (.aload_n 0, 1) := by decide +kernel
theorem dX8_counted_76 : decode cX8_counted 76 = .ok (.getfield 7, 3) := by decide +kernel
theorem dX8_counted_79 : decode cX8_counted 79 = .ok (.bipush 6, 2) := by decide +kernel
theorem dX8_counted_81 : decode cX8_counted 81 = .ok (.iaload, 1) := by decide +kernel
theorem dX8_counted_82 : decode cX8_counted 82 = .ok (.ireturn, 1) := by decide +kernel
theorem dX8_counted_83 : decode cX8_counted 83 = .ok (.aload_n 0, 1) := by decide +kernel
theorem dX8_counted_84 : decode cX8_counted 84 = .ok (.invokevirtual 239, 3) := by decide +kernel
theorem dX8_counted_87 : decode cX8_counted 87 = .ok (.ireturn, 1) := by decide +kernel
theorem dX8_counted_88 : decode cX8_counted 88 = .ok (.aload_n 0, 1) := by decide +kernel
theorem dX8_counted_89 : decode cX8_counted 89 = .ok (.invokevirtual 185, 3) := by decide +kernel
theorem dX8_counted_92 : decode cX8_counted 92 = .ok (.ireturn, 1) := by decide +kernel
theorem dX8_counted_93 : decode cX8_counted 93 = .ok (.aload_n 0, 1) := by decide +kernel
theorem dX8_counted_94 : decode cX8_counted 94 = .ok (.getfield 47, 3) := by decide +kernel
theorem dX8_counted_97 : decode cX8_counted 97 = .ok (.ireturn, 1) := by decide +kernel
theorem dX8_count_0 : decode cX8_count 0 = .ok (.aload_n 0, 1) := by decide +kernel
theorem dX8_count_1 : decode cX8_count 1 = .ok (.iload_n 1, 1) := by decide +kernel
theorem dX8_count_2 : decode cX8_count 2 = .ok (.iconst 0, 1) := by decide +kernel
theorem dX8_count_3 : decode cX8_count 3 = .ok (.bipush 8, 2) := by decide +kernel
theorem dX8_count_5 : decode cX8_count 5 = .ok (.invokestatic 50, 3) := by decide +kernel
theorem dX8_count_8 : decode cX8_count 8 = .ok (.ifCond .eq 7, 3) := by decide +kernel
theorem dX8_count_11 : decode cX8_count 11 = .ok (.iconst 0, 1) := by decide +kernel
theorem dX8_count_12 : decode cX8_count 12 = .ok (.goto 4, 3) := by decide +kernel
theorem dX8_count_15 : decode cX8_count 15 = .ok (.iconst 1, 1) := by decide +kernel
theorem dX8_count_16 : decode cX8_count 16 = .ok (.putfield 43, 3) := by decide +kernel
theorem dX8_count_19 : decode cX8_count 19 = .ok (.aload_n 0, 1) := by decide +kernel
theorem dX8_count_20 : decode cX8_count 20 = .ok (.getfield 43, 3) := by decide +kernel
theorem dX8_count_23 : decode cX8_count 23 = .ok (.ifCond .le 7, 3) := by decide +kernel
theorem dX8_count_26 : decode cX8_count 26 = .ok (.iconst 0, 1) := by decide +kernel
theorem dX8_count_27 : decode cX8_count 27 = .ok (.goto 8, 3) := by decide +kernel
theorem dX8_count_30 : decode cX8_count 30 = .ok (.aload_n 0, 1) := by decide +kernel
theorem dX8_count_31 : decode cX8_count 31 = .ok (.iload_n 1, 1) := by decide +kernel
theorem dX8_count_32 : decode cX8_count 32 = .ok (.invokevirtual 242, 3) := by decide +kernel
theorem dX8_count_35 : decode cX8_count 35 = .ok (.ireturn, 1) := by decide +kernel
theorem dX8_setting_0 : decode cX8_setting 0 = .ok (.aload_n 0, 1) := by decide +kernel
theorem dX8_setting_1 : decode cX8_setting 1 = .ok (.iload_n 1, 1) := by decide +kernel
theorem dX8_setting_2 : decode cX8_setting 2 = .ok (.invokestatic 188, 3) := by decide +kernel
theorem dX8_setting_5 : decode cX8_setting 5 = .ok (.ifCond .eq 7, 3) := by decide +kernel
theorem dX8_setting_8 : decode cX8_setting 8 = .ok (.iconst 0, 1) := by decide +kernel
theorem dX8_setting_9 : decode cX8_setting 9 = .ok (.goto 4, 3) := by decide +kernel
theorem dX8_setting_12 : decode cX8_setting 12 = .ok (.iconst 1, 1) := by decide +kernel
theorem dX8_setting_13 : decode cX8_setting 13 = .ok (.putfield 43, 3) := by decide +kernel
theorem dX8_setting_16 : decode cX8_setting 16 = .ok (.aload_n 0, 1) := by decide +kernel
theorem dX8_setting_17 : decode cX8_setting 17 = .ok (.getfield 43, 3) := by decide +kernel
theorem dX8_setting_20 : decode cX8_setting 20 = .ok (.ifCond .le 7, 3) := by decide +kernel
theorem dX8_setting_23 : decode cX8_setting 23 = .ok (.iconst 0, 1) := by decide +kernel
theorem dX8_setting_24 : decode cX8_setting 24 = .ok (.goto 9, 3) := by decide +kernel
theorem dX8_setting_27 : decode cX8_setting 27 = .ok (.aload_n 0, 1) := by decide +kernel
theorem dX8_setting_28 : decode cX8_setting 28 = .ok (.getfield 7, 3) := by decide +kernel
theorem dX8_setting_31 : decode cX8_setting 31 = .ok (.iload_n 1, 1) := by decide +kernel
theorem dX8_setting_32 : decode cX8_setting 32 = .ok (.iaload, 1) := by decide +kernel
theorem dX8_setting_33 : decode cX8_setting 33 = .ok (.ireturn, 1) := by decide +kernel
theorem dX8_pointThen_0 : decode cX8_pointThen 0 = .ok (.aload_n 0, 1) := by decide +kernel
theorem dX8_pointThen_1 : decode cX8_pointThen 1 = .ok (.invokevirtual 110, 3) := by decide +kernel
theorem dX8_pointThen_4 : decode cX8_pointThen 4 = .ok (.aload_n 0, 1) := by decide +kernel
theorem dX8_pointThen_5 : decode cX8_pointThen 5 = .ok (.getfield 19, 3) := by decide +kernel
theorem dX8_pointThen_8 : decode cX8_pointThen 8 = .ok (.aload_n 0, 1) := by decide +kernel
theorem dX8_pointThen_9 : decode cX8_pointThen 9 = .ok (.getfield 64, 3) := by decide +kernel
theorem dX8_pointThen_12 : decode cX8_pointThen 12 = .ok (.iload_n 1, 1) := by decide +kernel
theorem dX8_pointThen_13 : decode cX8_pointThen 13 = .ok (.iastore, 1) := by decide +kernel
theorem dX8_pointThen_14 : decode cX8_pointThen 14 = .ok (.aload_n 0, 1) := by decide +kernel
theorem dX8_pointThen_15 : decode cX8_pointThen 15 = .ok (.getfield 22, 3) := by decide +kernel
theorem dX8_pointThen_18 : decode cX8_pointThen 18 = .ok (.aload_n 0, 1) := by decide +kernel
theorem dX8_pointThen_19 : decode cX8_pointThen 19 = .ok (.getfield 64, 3) := by decide +kernel
theorem dX8_pointThen_22 : decode cX8_pointThen 22 = .ok (.iload_n 2, 1) := by decide +kernel
theorem dX8_pointThen_23 : decode cX8_pointThen 23 = .ok (.iastore, 1) := by decide +kernel
theorem dX8_pointThen_24 : decode cX8_pointThen 24 = .ok (.aload_n 0, 1) := by decide +kernel
theorem dX8_pointThen_25 : decode cX8_pointThen 25 = .ok (.dup, 1) := by decide +kernel
theorem dX8_pointThen_26 : decode cX8_pointThen 26 = .ok (.getfield 64, 3) := by decide +kernel
theorem dX8_pointThen_29 : decode cX8_pointThen 29 = .ok (.iconst 1, 1) := by decide +kernel
theorem dX8_pointThen_30 : decode cX8_pointThen 30 = .ok (.iadd, 1) := by decide +kernel
theorem dX8_pointThen_31 : decode cX8_pointThen 31 = .ok (.putfield 64, 3) := by decide +kernel
theorem dX8_pointThen_34 : decode cX8_pointThen 34 = .ok (.aload_n 0, 1) := by decide +kernel
theorem dX8_pointThen_35 : decode cX8_pointThen 35 = .ok (.invokevirtual 113, 3) := by decide +kernel
theorem dX8_pointThen_38 : decode cX8_pointThen 38 = .ok (.aload_n 0, 1) := by decide +kernel
theorem dX8_pointThen_39 : decode cX8_pointThen 39 = .ok (.invokevirtual 215, 3) := by decide +kernel
theorem dX8_pointThen_42 : decode cX8_pointThen 42 = .ok (.ireturn, 1) := by decide +kernel
theorem dX8_ifPoint_0 : decode cX8_ifPoint 0 = .ok (.aload_n 0, 1) := by decide +kernel
theorem dX8_ifPoint_1 : decode cX8_ifPoint 1 = .ok (.iload_n 1, 1) := by decide +kernel
theorem dX8_ifPoint_2 : decode cX8_ifPoint 2 = .ok (.iload_n 2, 1) := by decide +kernel
theorem dX8_ifPoint_3 : decode cX8_ifPoint 3 = .ok (.invokestatic 143, 3) := by decide +kernel
theorem dX8_ifPoint_6 : decode cX8_ifPoint 6 = .ok (.ifCond .eq 7, 3) := by decide +kernel
theorem dX8_ifPoint_9 : decode cX8_ifPoint 9 = .ok (.iconst 0, 1) := by decide +kernel
theorem dX8_ifPoint_10 : decode cX8_ifPoint 10 = .ok (.goto 4, 3) := by decide +kernel
theorem dX8_ifPoint_13 : decode cX8_ifPoint 13 = .ok (.iconst 1, 1) := by decide +kernel
theorem dX8_ifPoint_14 : decode cX8_ifPoint 14 = .ok (.putfield 43, 3) := by decide +kernel
theorem dX8_ifPoint_17 : decode cX8_ifPoint 17 = .ok (.aload_n 0, 1) := by decide +kernel
theorem dX8_ifPoint_18 : decode cX8_ifPoint 18 = .ok (.getfield 43, 3) := by decide +kernel
theorem dX8_ifPoint_21 : decode cX8_ifPoint 21 = .ok (.ifCond .le 7, 3) := by decide +kernel
theorem dX8_ifPoint_24 : decode cX8_ifPoint 24 = .ok (.iconst 0, 1) := by decide +kernel
theorem dX8_ifPoint_25 : decode cX8_ifPoint 25 = .ok (.goto 9, 3) := by decide +kernel
theorem dX8_ifPoint_28 : decode cX8_ifPoint 28 = .ok (.aload_n 0, 1) := by decide +kernel
theorem dX8_ifPoint_29 : decode cX8_ifPoint 29 = .ok (.iload_n 1, 1) := by decide +kernel
theorem dX8_ifPoint_30 : decode cX8_ifPoint 30 = .ok (.iload_n 2, 1) := by decide +kernel
theorem dX8_ifPoint_31 : decode cX8_ifPoint 31 = .ok (.invokevirtual 245, 3) := by decide +kernel
theorem dX8_ifPoint_34 : decode cX8_ifPoint 34 = .ok (.ireturn, 1) := by decide +kernel
theorem dX8_againstNow_0 : decode cX8_againstNow 0 = .ok (.aload_n 0, 1) := by decide +kernel
theorem dX8_againstNow_1 : decode cX8_againstNow 1 = .ok (.invokevirtual 172, 3) := by decide +kernel
theorem dX8_againstNow_4 : decode cX8_againstNow 4 = .ok (.aload_n 0, 1) := by decide +kernel
theorem dX8_againstNow_5 : decode cX8_againstNow 5 = .ok (.invokevirtual 169, 3) := by decide +kernel
theorem dX8_againstNow_8 : decode cX8_againstNow 8 = .ok (.ireturn, 1) := by decide +kernel
theorem dX8_against_0 : decode cX8_against 0 = .ok (.aload_n 0, 1) := by decide +kernel
theorem dX8_against_1 : decode cX8_against 1 = .ok (.iconst 0, 1) := by decide +kernel
theorem dX8_against_2 : decode cX8_against 2 = .ok (.putfield 43, 3) := by decide +kernel
theorem dX8_against_5 : decode cX8_against 5 = .ok (.aload_n 0, 1) := by decide +kernel
theorem dX8_against_6 : decode cX8_against 6 = .ok (.invokevirtual 248, 3) := by decide +kernel
theorem dX8_against_9 : decode cX8_against 9 = .ok (.ireturn, 1) := by decide +kernel
theorem dX8_mostNow_0 : decode cX8_mostNow 0 = .ok (.aload_n 0, 1) := by decide +kernel
theorem dX8_mostNow_1 : decode cX8_mostNow 1 = .ok (.invokevirtual 185, 3) := by decide +kernel
theorem dX8_mostNow_4 : decode cX8_mostNow 4 = .ok (.istore_n 1, 1) := by decide +kernel
theorem dX8_mostNow_5 : decode cX8_mostNow 5 = .ok (.iload_n 1, 1) := by decide +kernel
theorem dX8_mostNow_6 : decode cX8_mostNow 6 = .ok (.iconst 1, 1) := by decide +kernel
theorem dX8_mostNow_7 : decode cX8_mostNow 7 = .ok (.isub, 1) := by decide +kernel
theorem dX8_mostNow_8 : decode cX8_mostNow 8 = .ok (.iconst 2, 1) := by decide +kernel
theorem dX8_mostNow_9 : decode cX8_mostNow 9 = .ok (.idiv, 1) := by decide +kernel
theorem dX8_mostNow_10 : decode cX8_mostNow 10 = .ok (.istore_n 2, 1) := by decide +kernel
theorem dX8_mostNow_11 : decode cX8_mostNow 11 = .ok (.iload_n 1, 1) := by decide +kernel
theorem dX8_mostNow_12 : decode cX8_mostNow 12 = .ok (.iconst (-1), 1) := by decide +kernel
theorem dX8_mostNow_13 : decode cX8_mostNow 13 = .ok (.if_icmp .eq 9, 3) := by decide +kernel
theorem dX8_mostNow_16 : decode cX8_mostNow 16 = .ok (.iload_n 2, 1) := by decide +kernel
theorem dX8_mostNow_17 : decode cX8_mostNow 17 = .ok (.bipush 20, 2) := by decide +kernel
theorem dX8_mostNow_19 : decode cX8_mostNow 19 = .ok (.if_icmp .le 8, 3) := by decide +kernel
theorem dX8_mostNow_22 : decode cX8_mostNow 22 = .ok (.bipush 20, 2) := by decide +kernel
theorem dX8_mostNow_24 : decode cX8_mostNow 24 = .ok (.goto 4, 3) := by decide +kernel
theorem dX8_mostNow_27 : decode cX8_mostNow 27 = .ok (.iload_n 2, 1) := by decide +kernel
theorem dX8_mostNow_28 : decode cX8_mostNow 28 = .ok (.ireturn, 1) := by decide +kernel
theorem dX8_mostForgiven_0 : decode cX8_mostForgiven 0 = .ok (.aload_n 0, 1) := by decide +kernel
theorem dX8_mostForgiven_1 : decode cX8_mostForgiven 1 = .ok (.iconst 0, 1) := by decide +kernel
theorem dX8_mostForgiven_2 : decode cX8_mostForgiven 2 = .ok (.putfield 43, 3) := by decide +kernel
theorem dX8_mostForgiven_5 : decode cX8_mostForgiven 5 = .ok (.aload_n 0, 1) := by decide +kernel
theorem dX8_mostForgiven_6 : decode cX8_mostForgiven 6 = .ok (.invokevirtual 251, 3) := by decide +kernel
theorem dX8_mostForgiven_9 : decode cX8_mostForgiven 9 = .ok (.ireturn, 1) := by decide +kernel
theorem dX8_straightNow_0 : decode cX8_straightNow 0 = .ok (.aload_n 0, 1) := by decide +kernel
theorem dX8_straightNow_1 : decode cX8_straightNow 1 = .ok (.invokevirtual 233, 3) := by decide +kernel
theorem dX8_straightNow_4 : decode cX8_straightNow 4 = .ok (.istore_n 1, 1) := by decide +kernel
theorem dX8_straightNow_5 : decode cX8_straightNow 5 = .ok (.aload_n 0, 1) := by decide +kernel
theorem dX8_straightNow_6 : decode cX8_straightNow 6 = .ok (.getfield 64, 3) := by decide +kernel
theorem dX8_straightNow_9 : decode cX8_straightNow 9 = .ok (.iconst 1, 1) := by decide +kernel
theorem dX8_straightNow_10 : decode cX8_straightNow 10 = .ok (.isub, 1) := by decide +kernel
theorem dX8_straightNow_11 : decode cX8_straightNow 11 = .ok (.istore_n 2, 1) := by decide +kernel
theorem dX8_straightNow_12 : decode cX8_straightNow 12 = .ok (.iload_n 1, 1) := by decide +kernel
theorem dX8_straightNow_13 : decode cX8_straightNow 13 = .ok (.ifCond .ne 7, 3) := by decide +kernel
theorem dX8_straightNow_16 : decode cX8_straightNow 16 = .ok (.iconst 0, 1) := by decide +kernel
theorem dX8_straightNow_17 : decode cX8_straightNow 17 = .ok (.goto 38, 3) := by decide +kernel
theorem dX8_straightNow_20 : decode cX8_straightNow 20 = .ok (.aload_n 0, 1) := by decide +kernel
theorem dX8_straightNow_21 : decode cX8_straightNow 21 = .ok (.getfield 19, 3) := by decide +kernel
theorem dX8_straightNow_24 : decode cX8_straightNow 24 = .ok (.iload_n 2, 1) := by decide +kernel
theorem dX8_straightNow_25 : decode cX8_straightNow 25 = .ok (.iaload, 1) := by decide +kernel
theorem dX8_straightNow_26 : decode cX8_straightNow 26 = .ok (.aload_n 0, 1) := by decide +kernel
theorem dX8_straightNow_27 : decode cX8_straightNow 27 = .ok (.getfield 19, 3) := by decide +kernel
theorem dX8_straightNow_30 : decode cX8_straightNow 30 = .ok (.iconst 0, 1) := by decide +kernel
theorem dX8_straightNow_31 : decode cX8_straightNow 31 = .ok (.iaload, 1) := by decide +kernel
theorem dX8_straightNow_32 : decode cX8_straightNow 32 = .ok (.isub, 1) := by decide +kernel
theorem dX8_straightNow_33 : decode cX8_straightNow 33 = .ok (.invokestatic 58, 3) := by decide +kernel
theorem dX8_straightNow_36 : decode cX8_straightNow 36 = .ok (.aload_n 0, 1) := by decide +kernel
theorem dX8_straightNow_37 : decode cX8_straightNow 37 = .ok (.getfield 22, 3) := by decide +kernel
theorem dX8_straightNow_40 : decode cX8_straightNow 40 = .ok (.iload_n 2, 1) := by decide +kernel
theorem dX8_straightNow_41 : decode cX8_straightNow 41 = .ok (.iaload, 1) := by decide +kernel
theorem dX8_straightNow_42 : decode cX8_straightNow 42 = .ok (.aload_n 0, 1) := by decide +kernel
theorem dX8_straightNow_43 : decode cX8_straightNow 43 = .ok (.getfield 22, 3) := by decide +kernel
theorem dX8_straightNow_46 : decode cX8_straightNow 46 = .ok (.iconst 0, 1) := by decide +kernel
theorem dX8_straightNow_47 : decode cX8_straightNow 47 = .ok (.iaload, 1) := by decide +kernel
theorem dX8_straightNow_48 : decode cX8_straightNow 48 = .ok (.isub, 1) := by decide +kernel
theorem dX8_straightNow_49 : decode cX8_straightNow 49 = .ok (.invokestatic 58, 3) := by decide +kernel
theorem dX8_straightNow_52 : decode cX8_straightNow 52 = .ok (.invokestatic 71, 3) := by decide +kernel
theorem dX8_straightNow_55 : decode cX8_straightNow 55 = .ok (.istore_n 3, 1) := by decide +kernel
theorem dX8_straightNow_56 : decode cX8_straightNow 56 = .ok (.iload_n 1, 1) := by decide +kernel
theorem dX8_straightNow_57 : decode cX8_straightNow 57 = .ok (.ifCond .ne 7, 3) := by decide +kernel
theorem dX8_straightNow_60 : decode cX8_straightNow 60 = .ok (.fconst 1, 1) := by decide +kernel
theorem dX8_straightNow_61 : decode cX8_straightNow 61 = .ok (.goto 8, 3) := by decide +kernel
theorem dX8_straightNow_64 : decode cX8_straightNow 64 = .ok (.iload_n 3, 1) := by decide +kernel
theorem dX8_straightNow_65 : decode cX8_straightNow 65 = .ok (.i2f, 1) := by decide +kernel
theorem dX8_straightNow_66 : decode cX8_straightNow 66 = .ok (.iload_n 1, 1) := by decide +kernel
theorem dX8_straightNow_67 : decode cX8_straightNow 67 = .ok (.i2f, 1) := by decide +kernel
theorem dX8_straightNow_68 : decode cX8_straightNow 68 = .ok (.fdiv, 1) := by decide +kernel
theorem dX8_straightNow_69 : decode cX8_straightNow 69 = .ok (.invokestatic 254, 3) := by decide +kernel
theorem dX8_straightNow_72 : decode cX8_straightNow 72 = .ok (.ireturn, 1) := by decide +kernel
theorem dX8_straightness_0 : decode cX8_straightness 0 = .ok (.aload_n 0, 1) := by decide +kernel
theorem dX8_straightness_1 : decode cX8_straightness 1 = .ok (.iconst 0, 1) := by decide +kernel
theorem dX8_straightness_2 : decode cX8_straightness 2 = .ok (.putfield 43, 3) := by decide +kernel
theorem dX8_straightness_5 : decode cX8_straightness 5 = .ok (.aload_n 0, 1) := by decide +kernel
theorem dX8_straightness_6 : decode cX8_straightness 6 = .ok (.invokevirtual 260, 3) := by decide +kernel
theorem dX8_straightness_9 : decode cX8_straightness 9 = .ok (.ireturn, 1) := by decide +kernel
theorem dX8_doubtNow_0 : decode cX8_doubtNow 0 = .ok (.aload_n 0, 1) := by decide +kernel
theorem dX8_doubtNow_1 : decode cX8_doubtNow 1 = .ok (.invokevirtual 172, 3) := by decide +kernel
theorem dX8_doubtNow_4 : decode cX8_doubtNow 4 = .ok (.aload_n 0, 1) := by decide +kernel
theorem dX8_doubtNow_5 : decode cX8_doubtNow 5 = .ok (.iconst (-1), 1) := by decide +kernel
theorem dX8_doubtNow_6 : decode cX8_doubtNow 6 = .ok (.invokevirtual 134, 3) := by decide +kernel
theorem dX8_doubtNow_9 : decode cX8_doubtNow 9 = .ok (.istore_n 1, 1) := by decide +kernel
theorem dX8_doubtNow_10 : decode cX8_doubtNow 10 = .ok (.aload_n 0, 1) := by decide +kernel
theorem dX8_doubtNow_11 : decode cX8_doubtNow 11 = .ok (.iload_n 1, 1) := by decide +kernel
theorem dX8_doubtNow_12 : decode cX8_doubtNow 12 = .ok (.invokevirtual 134, 3) := by decide +kernel
theorem dX8_doubtNow_15 : decode cX8_doubtNow 15 = .ok (.istore_n 2, 1) := by decide +kernel
theorem dX8_doubtNow_16 : decode cX8_doubtNow 16 = .ok (.iload_n 1, 1) := by decide +kernel
theorem dX8_doubtNow_17 : decode cX8_doubtNow 17 = .ok (.iconst (-1), 1) := by decide +kernel
theorem dX8_doubtNow_18 : decode cX8_doubtNow 18 = .ok (.if_icmp .eq 8, 3) := by decide +kernel
theorem dX8_doubtNow_21 : decode cX8_doubtNow 21 = .ok (.iload_n 2, 1) := by decide +kernel
theorem dX8_doubtNow_22 : decode cX8_doubtNow 22 = .ok (.iconst (-1), 1) := by decide +kernel
theorem dX8_doubtNow_23 : decode cX8_doubtNow 23 = .ok (.if_icmp .ne 5, 3) := by decide +kernel
theorem dX8_doubtNow_26 : decode cX8_doubtNow 26 = .ok (.dconst 0, 1) := by decide +kernel
theorem dX8_doubtNow_27 : decode cX8_doubtNow 27 = .ok (.dreturn, 1) := by decide +kernel
theorem dX8_doubtNow_28 : decode cX8_doubtNow 28 = .ok (.aload_n 0, 1) := by decide +kernel
theorem dX8_doubtNow_29 : decode cX8_doubtNow 29 = .ok (.iload_n 2, 1) := by decide +kernel
theorem dX8_doubtNow_30 : decode cX8_doubtNow 30 = .ok (.invokevirtual 128, 3) := by decide +kernel
theorem dX8_doubtNow_33 : decode cX8_doubtNow 33 = .ok (.istore_n 3, 1) := by decide +kernel
theorem dX8_doubtNow_34 : decode cX8_doubtNow 34 = .ok (.iload_n 3, 1) := by decide +kernel
theorem dX8_doubtNow_35 : decode cX8_doubtNow 35 = .ok (.ifCond .ne 7, 3) := by decide +kernel
theorem dX8_doubtNow_38 : decode cX8_doubtNow 38 = .ok (.dconst 0, 1) := by decide +kernel
theorem dX8_doubtNow_39 : decode cX8_doubtNow 39 = .ok (.goto 12, 3) := by decide +kernel
theorem dX8_doubtNow_42 : decode cX8_doubtNow 42 = .ok (.aload_n 0, 1) := by decide +kernel
theorem dX8_doubtNow_43 : decode cX8_doubtNow 43 = .ok (.iload_n 1, 1) := by decide +kernel
theorem dX8_doubtNow_44 : decode cX8_doubtNow 44 = .ok (.invokevirtual 128, 3) := by decide +kernel
theorem dX8_doubtNow_47 : decode cX8_doubtNow 47 = .ok (.i2d, 1) := by decide +kernel
theorem dX8_doubtNow_48 : decode cX8_doubtNow 48 = .ok (.iload_n 3, 1) := by decide +kernel
theorem dX8_doubtNow_49 : decode cX8_doubtNow 49 = .ok (.i2d, 1) := by decide +kernel
theorem dX8_doubtNow_50 : decode cX8_doubtNow 50 = .ok (.ddiv, 1) := by decide +kernel
theorem dX8_doubtNow_51 : decode cX8_doubtNow 51 = .ok (.dreturn, 1) := by decide +kernel
theorem dX8_doubt_0 : decode cX8_doubt 0 = .ok (.aload_n 0, 1) := by decide +kernel
theorem dX8_doubt_1 : decode cX8_doubt 1 = .ok (.iconst 0, 1) := by decide +kernel
theorem dX8_doubt_2 : decode cX8_doubt 2 = .ok (.putfield 43, 3) := by decide +kernel
theorem dX8_doubt_5 : decode cX8_doubt 5 = .ok (.aload_n 0, 1) := by decide +kernel
theorem dX8_doubt_6 : decode cX8_doubt 6 = .ok (.invokevirtual 263, 3) := by decide +kernel
theorem dX8_doubt_9 : decode cX8_doubt 9 = .ok (.dreturn, 1) := by decide +kernel
theorem dX8_mix_0 : decode cX8_mix 0 = .ok (.aload_n 0, 1) := by decide +kernel
theorem dX8_mix_1 : decode cX8_mix 1 = .ok (.ldc2_w 267, 3) := by decide +kernel
theorem dX8_mix_4 : decode cX8_mix 4 = .ok (.aload_n 0, 1) := by decide +kernel
theorem dX8_mix_5 : decode cX8_mix 5 = .ok (.getfield 269, 3) := by decide +kernel
theorem dX8_mix_8 : decode cX8_mix 8 = .ok (.lmul, 1) := by decide +kernel
theorem dX8_mix_9 : decode cX8_mix 9 = .ok (.lload_n 1, 1) := by decide +kernel
theorem dX8_mix_10 : decode cX8_mix 10 = .ok (.ladd, 1) := by decide +kernel
theorem dX8_mix_11 : decode cX8_mix 11 = .ok (.putfield 269, 3) := by decide +kernel
theorem dX8_mix_14 : decode cX8_mix 14 = .ok (.return_, 1) := by decide +kernel
theorem dX8_mixPath_0 : decode cX8_mixPath 0 = .ok (.iconst 0, 1) := by decide +kernel
theorem dX8_mixPath_1 : decode cX8_mixPath 1 = .ok (.istore_n 1, 1) := by decide +kernel
theorem dX8_mixPath_2 : decode cX8_mixPath 2 = .ok (.iload_n 1, 1) := by decide +kernel
theorem dX8_mixPath_3 : decode cX8_mixPath 3 = .ok (.iconst 4, 1) := by decide +kernel
theorem dX8_mixPath_4 : decode cX8_mixPath 4 = .ok (.aload_n 0, 1) := by decide +kernel
theorem dX8_mixPath_5 : decode cX8_mixPath 5 = .ok (.getfield 7, 3) := by decide +kernel
theorem dX8_mixPath_8 : decode cX8_mixPath 8 = .ok (.iconst 5, 1) := by decide +kernel
theorem dX8_mixPath_9 : decode cX8_mixPath 9 = .ok (.iaload, 1) := by decide +kernel
theorem dX8_mixPath_10 : decode cX8_mixPath 10 = .ok (.imul, 1) := by decide +kernel
theorem dX8_mixPath_11 : decode cX8_mixPath 11 = .ok (.if_icmp .ge 24, 3) := by decide +kernel
theorem dX8_mixPath_14 : decode cX8_mixPath 14 = .ok (.aload_n 0, 1) := by decide +kernel
theorem dX8_mixPath_15 : decode cX8_mixPath 15 = .ok (.aload_n 0, 1) := by decide +kernel
theorem dX8_mixPath_16 : decode cX8_mixPath 16 = .ok (.iload_n 1, 1) := by decide +kernel
theorem dX8_mixPath_17 : decode cX8_mixPath 17 = .ok (.iconst 4, 1) := by decide +kernel
theorem dX8_mixPath_18 : decode cX8_mixPath 18 = .ok (.idiv, 1) := by decide +kernel
theorem dX8_mixPath_19 : decode cX8_mixPath 19 = .ok (.iload_n 1, 1) := by decide +kernel
theorem dX8_mixPath_20 : decode cX8_mixPath 20 = .ok (.iconst 4, 1) := by decide +kernel
theorem dX8_mixPath_21 : decode cX8_mixPath 21 = .ok (.irem, 1) := by decide +kernel
theorem dX8_mixPath_22 : decode cX8_mixPath 22 = .ok (.invokevirtual 203, 3) := by decide +kernel
theorem dX8_mixPath_25 : decode cX8_mixPath 25 = .ok (.i2l, 1) := by decide +kernel
theorem dX8_mixPath_26 : decode cX8_mixPath 26 = .ok (.invokevirtual 273, 3) := by decide +kernel
theorem dX8_mixPath_29 : decode cX8_mixPath 29 = .ok (.iinc 1 1, 3) := by decide +kernel
theorem dX8_mixPath_32 : decode cX8_mixPath 32 = .ok (.goto (-30), 3) := by decide +kernel
theorem dX8_mixPath_35 : decode cX8_mixPath 35 = .ok (.aload_n 0, 1) := by decide +kernel
theorem dX8_mixPath_36 : decode cX8_mixPath 36 = .ok (.invokevirtual 227, 3) := by decide +kernel
theorem dX8_mixPath_39 : decode cX8_mixPath 39 = .ok (.istore_n 1, 1) := by decide +kernel
theorem dX8_mixPath_40 : decode cX8_mixPath 40 = .ok (.iconst 0, 1) := by decide +kernel
theorem dX8_mixPath_41 : decode cX8_mixPath 41 = .ok (.istore_n 2, 1) := by decide +kernel
theorem dX8_mixPath_42 : decode cX8_mixPath 42 = .ok (.iload_n 2, 1) := by decide +kernel
theorem dX8_mixPath_43 : decode cX8_mixPath 43 = .ok (.iconst 4, 1) := by decide +kernel
theorem dX8_mixPath_44 : decode cX8_mixPath 44 = .ok (.iload_n 1, 1) := by decide +kernel
theorem dX8_mixPath_45 : decode cX8_mixPath 45 = .ok (.imul, 1) := by decide +kernel
theorem dX8_mixPath_46 : decode cX8_mixPath 46 = .ok (.if_icmp .ge 24, 3) := by decide +kernel
theorem dX8_mixPath_49 : decode cX8_mixPath 49 = .ok (.aload_n 0, 1) := by decide +kernel
theorem dX8_mixPath_50 : decode cX8_mixPath 50 = .ok (.aload_n 0, 1) := by decide +kernel
theorem dX8_mixPath_51 : decode cX8_mixPath 51 = .ok (.iload_n 2, 1) := by decide +kernel
theorem dX8_mixPath_52 : decode cX8_mixPath 52 = .ok (.iconst 4, 1) := by decide +kernel
theorem dX8_mixPath_53 : decode cX8_mixPath 53 = .ok (.idiv, 1) := by decide +kernel
theorem dX8_mixPath_54 : decode cX8_mixPath 54 = .ok (.iload_n 2, 1) := by decide +kernel
theorem dX8_mixPath_55 : decode cX8_mixPath 55 = .ok (.iconst 4, 1) := by decide +kernel
theorem dX8_mixPath_56 : decode cX8_mixPath 56 = .ok (.irem, 1) := by decide +kernel
theorem dX8_mixPath_57 : decode cX8_mixPath 57 = .ok (.invokevirtual 206, 3) := by decide +kernel
theorem dX8_mixPath_60 : decode cX8_mixPath 60 = .ok (.i2l, 1) := by decide +kernel
theorem dX8_mixPath_61 : decode cX8_mixPath 61 = .ok (.invokevirtual 273, 3) := by decide +kernel
theorem dX8_mixPath_64 : decode cX8_mixPath 64 = .ok (.iinc 2 1, 3) := by decide +kernel
theorem dX8_mixPath_67 : decode cX8_mixPath 67 = .ok (.goto (-25), 3) := by decide +kernel
theorem dX8_mixPath_70 : decode cX8_mixPath 70 = .ok (.aload_n 0, 1) := by decide +kernel
theorem dX8_mixPath_71 : decode cX8_mixPath 71 = .ok (.invokevirtual 230, 3) := by decide +kernel
theorem dX8_mixPath_74 : decode cX8_mixPath 74 = .ok (.istore_n 2, 1) := by decide +kernel
theorem dX8_mixPath_75 : decode cX8_mixPath 75 = .ok (.iconst 0, 1) := by decide +kernel
theorem dX8_mixPath_76 : decode cX8_mixPath 76 = .ok (.istore_n 3, 1) := by decide +kernel
theorem dX8_mixPath_77 : decode cX8_mixPath 77 = .ok (.iload_n 3, 1) := by decide +kernel
theorem dX8_mixPath_78 : decode cX8_mixPath 78 = .ok (.iload_n 2, 1) := by decide +kernel
theorem dX8_mixPath_79 : decode cX8_mixPath 79 = .ok (.if_icmp .ge 19, 3) := by decide +kernel
theorem dX8_mixPath_82 : decode cX8_mixPath 82 = .ok (.aload_n 0, 1) := by decide +kernel
theorem dX8_mixPath_83 : decode cX8_mixPath 83 = .ok (.aload_n 0, 1) := by decide +kernel
theorem dX8_mixPath_84 : decode cX8_mixPath 84 = .ok (.iload_n 3, 1) := by decide +kernel
theorem dX8_mixPath_85 : decode cX8_mixPath 85 = .ok (.invokevirtual 209, 3) := by decide +kernel
theorem dX8_mixPath_88 : decode cX8_mixPath 88 = .ok (.i2l, 1) := by decide +kernel
theorem dX8_mixPath_89 : decode cX8_mixPath 89 = .ok (.invokevirtual 273, 3) := by decide +kernel
theorem dX8_mixPath_92 : decode cX8_mixPath 92 = .ok (.iinc 3 1, 3) := by decide +kernel
theorem dX8_mixPath_95 : decode cX8_mixPath 95 = .ok (.goto (-18), 3) := by decide +kernel
theorem dX8_mixPath_98 : decode cX8_mixPath 98 = .ok (.return_, 1) := by decide +kernel
theorem dX8_mixCommand_0 : decode cX8_mixCommand 0 = .ok (.iconst 0, 1) := by decide +kernel
theorem dX8_mixCommand_1 : decode cX8_mixCommand 1 = .ok (.istore_n 2, 1) := by decide +kernel
theorem dX8_mixCommand_2 : decode cX8_mixCommand 2 = .ok (.iload_n 2, 1) := by decide +kernel
theorem dX8_mixCommand_3 : decode cX8_mixCommand 3 = .ok (.aload_n 0, 1) := by decide +kernel
theorem dX8_mixCommand_4 : decode cX8_mixCommand 4 = .ok (.iload_n 1, 1) := by decide +kernel
theorem dX8_mixCommand_5 : decode cX8_mixCommand 5 = .ok (.invokevirtual 116, 3) := by decide +kernel
theorem dX8_mixCommand_8 : decode cX8_mixCommand 8 = .ok (.if_icmp .ge 20, 3) := by decide +kernel
theorem dX8_mixCommand_11 : decode cX8_mixCommand 11 = .ok (.aload_n 0, 1) := by decide +kernel
theorem dX8_mixCommand_12 : decode cX8_mixCommand 12 = .ok (.aload_n 0, 1) := by decide +kernel
theorem dX8_mixCommand_13 : decode cX8_mixCommand 13 = .ok (.iload_n 1, 1) := by decide +kernel
theorem dX8_mixCommand_14 : decode cX8_mixCommand 14 = .ok (.iload_n 2, 1) := by decide +kernel
theorem dX8_mixCommand_15 : decode cX8_mixCommand 15 = .ok (.invokevirtual 119, 3) := by decide +kernel
theorem dX8_mixCommand_18 : decode cX8_mixCommand 18 = .ok (.i2l, 1) := by decide +kernel
theorem dX8_mixCommand_19 : decode cX8_mixCommand 19 = .ok (.invokevirtual 273, 3) := by decide +kernel
theorem dX8_mixCommand_22 : decode cX8_mixCommand 22 = .ok (.iinc 2 1, 3) := by decide +kernel
theorem dX8_mixCommand_25 : decode cX8_mixCommand 25 = .ok (.goto (-23), 3) := by decide +kernel
theorem dX8_mixCommand_28 : decode cX8_mixCommand 28 = .ok (.aload_n 0, 1) := by decide +kernel
theorem dX8_mixCommand_29 : decode cX8_mixCommand 29 = .ok (.aload_n 0, 1) := by decide +kernel
theorem dX8_mixCommand_30 : decode cX8_mixCommand 30 = .ok (.iload_n 1, 1) := by decide +kernel
theorem dX8_mixCommand_31 : decode cX8_mixCommand 31 = .ok (.invokevirtual 212, 3) := by decide +kernel
theorem dX8_mixCommand_34 : decode cX8_mixCommand 34 = .ok (.i2l, 1) := by decide +kernel
theorem dX8_mixCommand_35 : decode cX8_mixCommand 35 = .ok (.invokevirtual 273, 3) := by decide +kernel
theorem dX8_mixCommand_38 : decode cX8_mixCommand 38 = .ok (.aload_n 0, 1) := by decide +kernel
theorem dX8_mixCommand_39 : decode cX8_mixCommand 39 = .ok (.aload_n 0, 1) := by decide +kernel
theorem dX8_mixCommand_40 : decode cX8_mixCommand 40 = .ok (.iload_n 1, 1) := by decide +kernel
theorem dX8_mixCommand_41 : decode cX8_mixCommand 41 = .ok (.iconst 0, 1) := by decide +kernel
theorem dX8_mixCommand_42 : decode cX8_mixCommand 42 = .ok (.invokevirtual 131, 3) := by decide +kernel
theorem dX8_mixCommand_45 : decode cX8_mixCommand 45 = .ok (.i2l, 1) := by decide +kernel
theorem dX8_mixCommand_46 : decode cX8_mixCommand 46 = .ok (.invokevirtual 273, 3) := by decide +kernel
theorem dX8_mixCommand_49 : decode cX8_mixCommand 49 = .ok (.return_, 1) := by decide +kernel
theorem dX8_digest_0 : decode cX8_digest 0 = .ok (.aload_n 0, 1) := by decide +kernel
theorem dX8_digest_1 : decode cX8_digest 1 = .ok (.iconst 0, 1) := by decide +kernel
theorem dX8_digest_2 : decode cX8_digest 2 = .ok (.putfield 43, 3) := by decide +kernel
theorem dX8_digest_5 : decode cX8_digest 5 = .ok (.aload_n 0, 1) := by decide +kernel
theorem dX8_digest_6 : decode cX8_digest 6 = .ok (.ldc2_w 277, 3) := by decide +kernel
theorem dX8_digest_9 : decode cX8_digest 9 = .ok (.putfield 269, 3) := by decide +kernel
theorem dX8_digest_12 : decode cX8_digest 12 = .ok (.iconst 0, 1) := by decide +kernel
theorem dX8_digest_13 : decode cX8_digest 13 = .ok (.istore_n 1, 1) := by decide +kernel
theorem dX8_digest_14 : decode cX8_digest 14 = .ok (.iload_n 1, 1) := by decide +kernel
theorem dX8_digest_15 : decode cX8_digest 15 = .ok (.bipush 9, 2) := by decide +kernel
theorem dX8_digest_17 : decode cX8_digest 17 = .ok (.if_icmp .ge 19, 3) := by decide +kernel
theorem dX8_digest_20 : decode cX8_digest 20 = .ok (.aload_n 0, 1) := by decide +kernel
theorem dX8_digest_21 : decode cX8_digest 21 = .ok (.aload_n 0, 1) := by decide +kernel
theorem dX8_digest_22 : decode cX8_digest 22 = .ok (.iload_n 1, 1) := by decide +kernel
theorem dX8_digest_23 : decode cX8_digest 23 = .ok (.invokevirtual 242, 3) := by decide +kernel
theorem dX8_digest_26 : decode cX8_digest 26 = .ok (.i2l, 1) := by decide +kernel
theorem dX8_digest_27 : decode cX8_digest 27 = .ok (.invokevirtual 273, 3) := by decide +kernel
theorem dX8_digest_30 : decode cX8_digest 30 = .ok (.iinc 1 1, 3) := by decide +kernel
theorem dX8_digest_33 : decode cX8_digest 33 = .ok (.goto (-19), 3) := by decide +kernel
theorem dX8_digest_36 : decode cX8_digest 36 = .ok (.iconst 0, 1) := by decide +kernel
theorem dX8_digest_37 : decode cX8_digest 37 = .ok (.istore_n 1, 1) := by decide +kernel
theorem dX8_digest_38 : decode cX8_digest 38 = .ok (.iload_n 1, 1) := by decide +kernel
theorem dX8_digest_39 : decode cX8_digest 39 = .ok (.iconst 5, 1) := by decide +kernel
theorem dX8_digest_40 : decode cX8_digest 40 = .ok (.if_icmp .ge 20, 3) := by decide +kernel
theorem dX8_digest_43 : decode cX8_digest 43 = .ok (.aload_n 0, 1) := by decide +kernel
theorem dX8_digest_44 : decode cX8_digest 44 = .ok (.aload_n 0, 1) := by decide +kernel
theorem dX8_digest_45 : decode cX8_digest 45 = .ok (.getfield 7, 3) := by decide +kernel
theorem dX8_digest_48 : decode cX8_digest 48 = .ok (.iload_n 1, 1) := by decide +kernel
theorem dX8_digest_49 : decode cX8_digest 49 = .ok (.iaload, 1) := by decide +kernel
theorem dX8_digest_50 : decode cX8_digest 50 = .ok (.i2l, 1) := by decide +kernel
theorem dX8_digest_51 : decode cX8_digest 51 = .ok (.invokevirtual 273, 3) := by decide +kernel
theorem dX8_digest_54 : decode cX8_digest 54 = .ok (.iinc 1 1, 3) := by decide +kernel
theorem dX8_digest_57 : decode cX8_digest 57 = .ok (.goto (-19), 3) := by decide +kernel
theorem dX8_digest_60 : decode cX8_digest 60 = .ok (.aload_n 0, 1) := by decide +kernel
theorem dX8_digest_61 : decode cX8_digest 61 = .ok (.invokevirtual 279, 3) := by decide +kernel
theorem dX8_digest_64 : decode cX8_digest 64 = .ok (.iconst 0, 1) := by decide +kernel
theorem dX8_digest_65 : decode cX8_digest 65 = .ok (.istore_n 1, 1) := by decide +kernel
theorem dX8_digest_66 : decode cX8_digest 66 = .ok (.iload_n 1, 1) := by decide +kernel
theorem dX8_digest_67 : decode cX8_digest 67 = .ok (.aload_n 0, 1) := by decide +kernel
theorem dX8_digest_68 : decode cX8_digest 68 = .ok (.getfield 7, 3) := by decide +kernel
theorem dX8_digest_71 : decode cX8_digest 71 = .ok (.bipush 6, 2) := by decide +kernel
theorem dX8_digest_73 : decode cX8_digest 73 = .ok (.iaload, 1) := by decide +kernel
theorem dX8_digest_74 : decode cX8_digest 74 = .ok (.if_icmp .ge 14, 3) := by decide +kernel
theorem dX8_digest_77 : decode cX8_digest 77 = .ok (.aload_n 0, 1) := by decide +kernel
theorem dX8_digest_78 : decode cX8_digest 78 = .ok (.iload_n 1, 1) := by decide +kernel
theorem dX8_digest_79 : decode cX8_digest 79 = .ok (.invokevirtual 282, 3) := by decide +kernel
theorem dX8_digest_82 : decode cX8_digest 82 = .ok (.iinc 1 1, 3) := by decide +kernel
theorem dX8_digest_85 : decode cX8_digest 85 = .ok (.goto (-19), 3) := by decide +kernel
theorem dX8_digest_88 : decode cX8_digest 88 = .ok (.iconst 0, 1) := by decide +kernel
theorem dX8_digest_89 : decode cX8_digest 89 = .ok (.istore_n 1, 1) := by decide +kernel
theorem dX8_digest_90 : decode cX8_digest 90 = .ok (.iload_n 1, 1) := by decide +kernel
theorem dX8_digest_91 : decode cX8_digest 91 = .ok (.iconst 5, 1) := by decide +kernel
theorem dX8_digest_92 : decode cX8_digest 92 = .ok (.if_icmp .ge 19, 3) := by decide +kernel
theorem dX8_digest_95 : decode cX8_digest 95 = .ok (.aload_n 0, 1) := by decide +kernel
theorem dX8_digest_96 : decode cX8_digest 96 = .ok (.aload_n 0, 1) := by decide +kernel
theorem dX8_digest_97 : decode cX8_digest 97 = .ok (.iload_n 1, 1) := by decide +kernel
theorem dX8_digest_98 : decode cX8_digest 98 = .ok (.invokevirtual 224, 3) := by decide +kernel
theorem dX8_digest_101 : decode cX8_digest 101 = .ok (.i2l, 1) := by decide +kernel
theorem dX8_digest_102 : decode cX8_digest 102 = .ok (.invokevirtual 273, 3) := by decide +kernel
theorem dX8_digest_105 : decode cX8_digest 105 = .ok (.iinc 1 1, 3) := by decide +kernel
theorem dX8_digest_108 : decode cX8_digest 108 = .ok (.goto (-18), 3) := by decide +kernel
theorem dX8_digest_111 : decode cX8_digest 111 = .ok (.aload_n 0, 1) := by decide +kernel
theorem dX8_digest_112 : decode cX8_digest 112 = .ok (.aload_n 0, 1) := by decide +kernel
theorem dX8_digest_113 : decode cX8_digest 113 = .ok (.bipush 31, 2) := by decide +kernel
theorem dX8_digest_115 : decode cX8_digest 115 = .ok (.iconst 0, 1) := by decide +kernel
theorem dX8_digest_116 : decode cX8_digest 116 = .ok (.invokevirtual 245, 3) := by decide +kernel
theorem dX8_digest_119 : decode cX8_digest 119 = .ok (.i2l, 1) := by decide +kernel
theorem dX8_digest_120 : decode cX8_digest 120 = .ok (.invokevirtual 273, 3) := by decide +kernel
theorem dX8_digest_123 : decode cX8_digest 123 = .ok (.aload_n 0, 1) := by decide +kernel
theorem dX8_digest_124 : decode cX8_digest 124 = .ok (.aload_n 0, 1) := by decide +kernel
theorem dX8_digest_125 : decode cX8_digest 125 = .ok (.invokevirtual 248, 3) := by decide +kernel
theorem dX8_digest_128 : decode cX8_digest 128 = .ok (.i2l, 1) := by decide +kernel
theorem dX8_digest_129 : decode cX8_digest 129 = .ok (.invokevirtual 273, 3) := by decide +kernel
theorem dX8_digest_132 : decode cX8_digest 132 = .ok (.aload_n 0, 1) := by decide +kernel
theorem dX8_digest_133 : decode cX8_digest 133 = .ok (.aload_n 0, 1) := by decide +kernel
theorem dX8_digest_134 : decode cX8_digest 134 = .ok (.invokevirtual 251, 3) := by decide +kernel
theorem dX8_digest_137 : decode cX8_digest 137 = .ok (.i2l, 1) := by decide +kernel
theorem dX8_digest_138 : decode cX8_digest 138 = .ok (.invokevirtual 273, 3) := by decide +kernel
theorem dX8_digest_141 : decode cX8_digest 141 = .ok (.aload_n 0, 1) := by decide +kernel
theorem dX8_digest_142 : decode cX8_digest 142 = .ok (.aload_n 0, 1) := by decide +kernel
theorem dX8_digest_143 : decode cX8_digest 143 = .ok (.invokevirtual 260, 3) := by decide +kernel
theorem dX8_digest_146 : decode cX8_digest 146 = .ok (.i2l, 1) := by decide +kernel
theorem dX8_digest_147 : decode cX8_digest 147 = .ok (.invokevirtual 273, 3) := by decide +kernel
theorem dX8_digest_150 : decode cX8_digest 150 = .ok (.aload_n 0, 1) := by decide +kernel
theorem dX8_digest_151 : decode cX8_digest 151 = .ok (.aload_n 0, 1) := by decide +kernel
theorem dX8_digest_152 : decode cX8_digest 152 = .ok (.invokevirtual 263, 3) := by decide +kernel
theorem dX8_digest_155 : decode cX8_digest 155 = .ok (.invokestatic 285, 3) := by decide +kernel
theorem dX8_digest_158 : decode cX8_digest 158 = .ok (.invokevirtual 273, 3) := by decide +kernel
theorem dX8_digest_161 : decode cX8_digest 161 = .ok (.aload_n 0, 1) := by decide +kernel
theorem dX8_digest_162 : decode cX8_digest 162 = .ok (.aload_n 0, 1) := by decide +kernel
theorem dX8_digest_163 : decode cX8_digest 163 = .ok (.getfield 197, 3) := by decide +kernel
theorem dX8_digest_166 : decode cX8_digest 166 = .ok (.i2l, 1) := by decide +kernel
theorem dX8_digest_167 : decode cX8_digest 167 = .ok (.invokevirtual 273, 3) := by decide +kernel
theorem dX8_digest_170 : decode cX8_digest 170 = .ok (.iconst 0, 1) := by decide +kernel
theorem dX8_digest_171 : decode cX8_digest 171 = .ok (.istore_n 1, 1) := by decide +kernel
theorem dX8_digest_172 : decode cX8_digest 172 = .ok (.iload_n 1, 1) := by decide +kernel
theorem dX8_digest_173 : decode cX8_digest 173 = .ok (.aload_n 0, 1) := by decide +kernel
theorem dX8_digest_174 : decode cX8_digest 174 = .ok (.getfield 197, 3) := by decide +kernel
theorem dX8_digest_177 : decode cX8_digest 177 = .ok (.if_icmp .ge 20, 3) := by decide +kernel
theorem dX8_digest_180 : decode cX8_digest 180 = .ok (.aload_n 0, 1) := by decide +kernel
theorem dX8_digest_181 : decode cX8_digest 181 = .ok (.aload_n 0, 1) := by decide +kernel
theorem dX8_digest_182 : decode cX8_digest 182 = .ok (.getfield 16, 3) := by decide +kernel
theorem dX8_digest_185 : decode cX8_digest 185 = .ok (.iload_n 1, 1) := by decide +kernel
theorem dX8_digest_186 : decode cX8_digest 186 = .ok (.iaload, 1) := by decide +kernel
theorem dX8_digest_187 : decode cX8_digest 187 = .ok (.i2l, 1) := by decide +kernel
theorem dX8_digest_188 : decode cX8_digest 188 = .ok (.invokevirtual 273, 3) := by decide +kernel
theorem dX8_digest_191 : decode cX8_digest 191 = .ok (.iinc 1 1, 3) := by decide +kernel
theorem dX8_digest_194 : decode cX8_digest 194 = .ok (.goto (-22), 3) := by decide +kernel
theorem dX8_digest_197 : decode cX8_digest 197 = .ok (.aload_n 0, 1) := by decide +kernel
theorem dX8_digest_198 : decode cX8_digest 198 = .ok (.getfield 269, 3) := by decide +kernel
theorem dX8_digest_201 : decode cX8_digest 201 = .ok (.lreturn, 1) := by decide +kernel
theorem dJxe99ae_isNaN_b9ae7_0 : decode cJxe99ae_isNaN_b9ae7 0 = .ok (.dload_n 0, 1) := by decide +kernel
theorem dJxe99ae_isNaN_b9ae7_1 : decode cJxe99ae_isNaN_b9ae7 1 = .ok (.dload_n 0, 1) := by decide +kernel
theorem dJxe99ae_isNaN_b9ae7_2 : decode cJxe99ae_isNaN_b9ae7 2 = .ok (.dcmp .l, 1) := by decide +kernel
theorem dJxe99ae_isNaN_b9ae7_3 : decode cJxe99ae_isNaN_b9ae7 3 = .ok (.ifCond .eq 7, 3) := by decide +kernel
theorem dJxe99ae_isNaN_b9ae7_6 : decode cJxe99ae_isNaN_b9ae7 6 = .ok (.iconst 1, 1) := by decide +kernel
theorem dJxe99ae_isNaN_b9ae7_7 : decode cJxe99ae_isNaN_b9ae7 7 = .ok (.goto 4, 3) := by decide +kernel
theorem dJxe99ae_isNaN_b9ae7_10 : decode cJxe99ae_isNaN_b9ae7 10 = .ok (.iconst 0, 1) := by decide +kernel
theorem dJxe99ae_isNaN_b9ae7_11 : decode cJxe99ae_isNaN_b9ae7 11 = .ok (.ireturn, 1) := by decide +kernel
theorem dJxe99ae_doubleToLongBits_ccdee_0 : decode cJxe99ae_doubleToLongBits_ccdee 0 = .ok (.dload_n 0, 1) := by decide +kernel
theorem dJxe99ae_doubleToLongBits_ccdee_1 : decode cJxe99ae_doubleToLongBits_ccdee 1 = .ok (.invokestatic 122, 3) := by decide +kernel
theorem dJxe99ae_doubleToLongBits_ccdee_4 : decode cJxe99ae_doubleToLongBits_ccdee 4 = .ok (.ifCond .ne 8, 3) := by decide +kernel
theorem dJxe99ae_doubleToLongBits_ccdee_7 : decode cJxe99ae_doubleToLongBits_ccdee 7 = .ok (.dload_n 0, 1) := by decide +kernel
theorem dJxe99ae_doubleToLongBits_ccdee_8 : decode cJxe99ae_doubleToLongBits_ccdee 8 = .ok (.invokestatic 134, 3) := by decide +kernel
theorem dJxe99ae_doubleToLongBits_ccdee_11 : decode cJxe99ae_doubleToLongBits_ccdee 11 = .ok (.lreturn, 1) := by decide +kernel
theorem dJxe99ae_doubleToLongBits_ccdee_12 : decode cJxe99ae_doubleToLongBits_ccdee 12 = .ok (.ldc2_w 137, 3) := by decide +kernel
theorem dJxe99ae_doubleToLongBits_ccdee_15 : decode cJxe99ae_doubleToLongBits_ccdee 15 = .ok (.lreturn, 1) := by decide +kernel
theorem dJxf58ca_isNaN_12338_0 : decode cJxf58ca_isNaN_12338 0 = .ok (.fload_n 0, 1) := by decide +kernel
theorem dJxf58ca_isNaN_12338_1 : decode cJxf58ca_isNaN_12338 1 = .ok (.fload_n 0, 1) := by decide +kernel
theorem dJxf58ca_isNaN_12338_2 : decode cJxf58ca_isNaN_12338 2 = .ok (.fcmp .l, 1) := by decide +kernel
theorem dJxf58ca_isNaN_12338_3 : decode cJxf58ca_isNaN_12338 3 = .ok (.ifCond .eq 7, 3) := by decide +kernel
theorem dJxf58ca_isNaN_12338_6 : decode cJxf58ca_isNaN_12338 6 = .ok (.iconst 1, 1) := by decide +kernel
theorem dJxf58ca_isNaN_12338_7 : decode cJxf58ca_isNaN_12338 7 = .ok (.goto 4, 3) := by decide +kernel
theorem dJxf58ca_isNaN_12338_10 : decode cJxf58ca_isNaN_12338 10 = .ok (.iconst 0, 1) := by decide +kernel
theorem dJxf58ca_isNaN_12338_11 : decode cJxf58ca_isNaN_12338 11 = .ok (.ireturn, 1) := by decide +kernel
theorem dJxf58ca_floatToIntBits_5c35a_0 : decode cJxf58ca_floatToIntBits_5c35a 0 = .ok (.fload_n 0, 1) := by decide +kernel
theorem dJxf58ca_floatToIntBits_5c35a_1 : decode cJxf58ca_floatToIntBits_5c35a 1 = .ok (.invokestatic 59, 3) := by decide +kernel
theorem dJxf58ca_floatToIntBits_5c35a_4 : decode cJxf58ca_floatToIntBits_5c35a 4 = .ok (.ifCond .ne 8, 3) := by decide +kernel
theorem dJxf58ca_floatToIntBits_5c35a_7 : decode cJxf58ca_floatToIntBits_5c35a 7 = .ok (.fload_n 0, 1) := by decide +kernel
theorem dJxf58ca_floatToIntBits_5c35a_8 : decode cJxf58ca_floatToIntBits_5c35a 8 = .ok (.invokestatic 74, 3) := by decide +kernel
theorem dJxf58ca_floatToIntBits_5c35a_11 : decode cJxf58ca_floatToIntBits_5c35a 11 = .ok (.ireturn, 1) := by decide +kernel
theorem dJxf58ca_floatToIntBits_5c35a_12 : decode cJxf58ca_floatToIntBits_5c35a 12 = .ok (.ldc 77, 2) := by decide +kernel
theorem dJxf58ca_floatToIntBits_5c35a_14 : decode cJxf58ca_floatToIntBits_5c35a 14 = .ok (.ireturn, 1) := by decide +kernel
theorem dJ6_signum_0f7a4_0 : decode cJ6_signum_0f7a4 0 = .ok (.iload_n 0, 1) := by decide +kernel
theorem dJ6_signum_0f7a4_1 : decode cJ6_signum_0f7a4 1 = .ok (.bipush 31, 2) := by decide +kernel
theorem dJ6_signum_0f7a4_3 : decode cJ6_signum_0f7a4 3 = .ok (.ishr, 1) := by decide +kernel
theorem dJ6_signum_0f7a4_4 : decode cJ6_signum_0f7a4 4 = .ok (.iload_n 0, 1) := by decide +kernel
theorem dJ6_signum_0f7a4_5 : decode cJ6_signum_0f7a4 5 = .ok (.ineg, 1) := by decide +kernel
theorem dJ6_signum_0f7a4_6 : decode cJ6_signum_0f7a4 6 = .ok (.bipush 31, 2) := by decide +kernel
theorem dJ6_signum_0f7a4_8 : decode cJ6_signum_0f7a4 8 = .ok (.iushr, 1) := by decide +kernel
theorem dJ6_signum_0f7a4_9 : decode cJ6_signum_0f7a4 9 = .ok (.ior, 1) := by decide +kernel
theorem dJ6_signum_0f7a4_10 : decode cJ6_signum_0f7a4 10 = .ok (.ireturn, 1) := by decide +kernel
theorem dJ9_abs_0f7a4_0 : decode cJ9_abs_0f7a4 0 = .ok (.iload_n 0, 1) := by decide +kernel
theorem dJ9_abs_0f7a4_1 : decode cJ9_abs_0f7a4 1 = .ok (.ifCond .ge 8, 3) := by decide +kernel
theorem dJ9_abs_0f7a4_4 : decode cJ9_abs_0f7a4 4 = .ok (.iload_n 0, 1) := by decide +kernel
theorem dJ9_abs_0f7a4_5 : decode cJ9_abs_0f7a4 5 = .ok (.ineg, 1) := by decide +kernel
theorem dJ9_abs_0f7a4_6 : decode cJ9_abs_0f7a4 6 = .ok (.goto 4, 3) := by decide +kernel
theorem dJ9_abs_0f7a4_9 : decode cJ9_abs_0f7a4 9 = .ok (.iload_n 0, 1) := by decide +kernel
theorem dJ9_abs_0f7a4_10 : decode cJ9_abs_0f7a4 10 = .ok (.ireturn, 1) := by decide +kernel
theorem dJ9_max_7cf53_0 : decode cJ9_max_7cf53 0 = .ok (.iload_n 0, 1) := by decide +kernel
theorem dJ9_max_7cf53_1 : decode cJ9_max_7cf53 1 = .ok (.iload_n 1, 1) := by decide +kernel
theorem dJ9_max_7cf53_2 : decode cJ9_max_7cf53 2 = .ok (.if_icmp .lt 7, 3) := by decide +kernel
theorem dJ9_max_7cf53_5 : decode cJ9_max_7cf53 5 = .ok (.iload_n 0, 1) := by decide +kernel
theorem dJ9_max_7cf53_6 : decode cJ9_max_7cf53 6 = .ok (.goto 4, 3) := by decide +kernel
theorem dJ9_max_7cf53_9 : decode cJ9_max_7cf53 9 = .ok (.iload_n 1, 1) := by decide +kernel
theorem dJ9_max_7cf53_10 : decode cJ9_max_7cf53 10 = .ok (.ireturn, 1) := by decide +kernel
theorem dJ9_min_7cf53_0 : decode cJ9_min_7cf53 0 = .ok (.iload_n 0, 1) := by decide +kernel
theorem dJ9_min_7cf53_1 : decode cJ9_min_7cf53 1 = .ok (.iload_n 1, 1) := by decide +kernel
theorem dJ9_min_7cf53_2 : decode cJ9_min_7cf53 2 = .ok (.if_icmp .gt 7, 3) := by decide +kernel
theorem dJ9_min_7cf53_5 : decode cJ9_min_7cf53 5 = .ok (.iload_n 0, 1) := by decide +kernel
theorem dJ9_min_7cf53_6 : decode cJ9_min_7cf53 6 = .ok (.goto 4, 3) := by decide +kernel
theorem dJ9_min_7cf53_9 : decode cJ9_min_7cf53 9 = .ok (.iload_n 1, 1) := by decide +kernel
theorem dJ9_min_7cf53_10 : decode cJ9_min_7cf53 10 = .ok (.ireturn, 1) := by decide +kernel
theorem dL_point_0 : decode cL_point 0 = .ok (.aload_n 3, 1) := by decide +kernel
theorem dL_point_1 : decode cL_point 1 = .ok (.iconst 0, 1) := by decide +kernel
theorem dL_point_2 : decode cL_point 2 = .ok (.aload_n 0, 1) := by decide +kernel
theorem dL_point_3 : decode cL_point 3 = .ok (.iload_n 1, 1) := by decide +kernel
theorem dL_point_4 : decode cL_point 4 = .ok (.iload_n 2, 1) := by decide +kernel
theorem dL_point_5 : decode cL_point 5 = .ok (.invokevirtual 7, 3) := by decide +kernel
theorem dL_point_8 : decode cL_point 8 = .ok (.i2l, 1) := by decide +kernel
theorem dL_point_9 : decode cL_point 9 = .ok (.lastore, 1) := by decide +kernel
theorem dL_point_10 : decode cL_point 10 = .ok (.goto 11, 3) := by decide +kernel
theorem dL_point_13 : decode cL_point 13 = .ok (.astore 4, 2) := by decide +kernel
theorem dL_point_15 : decode cL_point 15 = .ok (.iconst 1, 1) := by decide +kernel
theorem dL_point_16 : decode cL_point 16 = .ok (.ireturn, 1) := by decide +kernel
theorem dL_point_17 : decode cL_point 17 = .ok (.astore 4, 2) := by decide +kernel
theorem dL_point_19 : decode cL_point 19 = .ok (.iconst 2, 1) := by decide +kernel
theorem dL_point_20 : decode cL_point 20 = .ok (.ireturn, 1) := by decide +kernel
theorem dL_point_21 : decode cL_point 21 = .ok (.iconst 0, 1) := by decide +kernel
theorem dL_point_22 : decode cL_point 22 = .ok (.ireturn, 1) := by decide +kernel
theorem dL_go_0 : decode cL_go 0 = .ok (.aload_n 3, 1) := by decide +kernel
theorem dL_go_1 : decode cL_go 1 = .ok (.iconst 0, 1) := by decide +kernel
theorem dL_go_2 : decode cL_go 2 = .ok (.aload_n 0, 1) := by decide +kernel
theorem dL_go_3 : decode cL_go 3 = .ok (.iload_n 1, 1) := by decide +kernel
theorem dL_go_4 : decode cL_go 4 = .ok (.iload_n 2, 1) := by decide +kernel
theorem dL_go_5 : decode cL_go 5 = .ok (.invokevirtual 17, 3) := by decide +kernel
theorem dL_go_8 : decode cL_go 8 = .ok (.i2l, 1) := by decide +kernel
theorem dL_go_9 : decode cL_go 9 = .ok (.lastore, 1) := by decide +kernel
theorem dL_go_10 : decode cL_go 10 = .ok (.goto 11, 3) := by decide +kernel
theorem dL_go_13 : decode cL_go 13 = .ok (.astore 4, 2) := by decide +kernel
theorem dL_go_15 : decode cL_go 15 = .ok (.iconst 1, 1) := by decide +kernel
theorem dL_go_16 : decode cL_go 16 = .ok (.ireturn, 1) := by decide +kernel
theorem dL_go_17 : decode cL_go 17 = .ok (.astore 4, 2) := by decide +kernel
theorem dL_go_19 : decode cL_go 19 = .ok (.iconst 2, 1) := by decide +kernel
theorem dL_go_20 : decode cL_go 20 = .ok (.ireturn, 1) := by decide +kernel
theorem dL_go_21 : decode cL_go 21 = .ok (.iconst 0, 1) := by decide +kernel
theorem dL_go_22 : decode cL_go 22 = .ok (.ireturn, 1) := by decide +kernel
theorem dL_back_0 : decode cL_back 0 = .ok (.aload_n 2, 1) := by decide +kernel
theorem dL_back_1 : decode cL_back 1 = .ok (.iconst 0, 1) := by decide +kernel
theorem dL_back_2 : decode cL_back 2 = .ok (.aload_n 0, 1) := by decide +kernel
theorem dL_back_3 : decode cL_back 3 = .ok (.iload_n 1, 1) := by decide +kernel
theorem dL_back_4 : decode cL_back 4 = .ok (.invokevirtual 20, 3) := by decide +kernel
theorem dL_back_7 : decode cL_back 7 = .ok (.i2l, 1) := by decide +kernel
theorem dL_back_8 : decode cL_back 8 = .ok (.lastore, 1) := by decide +kernel
theorem dL_back_9 : decode cL_back 9 = .ok (.goto 6, 3) := by decide +kernel
theorem dL_back_12 : decode cL_back 12 = .ok (.astore_n 3, 1) := by decide +kernel
theorem dL_back_13 : decode cL_back 13 = .ok (.iconst 1, 1) := by decide +kernel
theorem dL_back_14 : decode cL_back 14 = .ok (.ireturn, 1) := by decide +kernel
theorem dL_back_15 : decode cL_back 15 = .ok (.iconst 0, 1) := by decide +kernel
theorem dL_back_16 : decode cL_back 16 = .ok (.ireturn, 1) := by decide +kernel
theorem dL_turn_0 : decode cL_turn 0 = .ok (.aload_n 2, 1) := by decide +kernel
theorem dL_turn_1 : decode cL_turn 1 = .ok (.iconst 0, 1) := by decide +kernel
theorem dL_turn_2 : decode cL_turn 2 = .ok (.aload_n 0, 1) := by decide +kernel
theorem dL_turn_3 : decode cL_turn 3 = .ok (.iload_n 1, 1) := by decide +kernel
theorem dL_turn_4 : decode cL_turn 4 = .ok (.invokevirtual 24, 3) := by decide +kernel
theorem dL_turn_7 : decode cL_turn 7 = .ok (.i2l, 1) := by decide +kernel
theorem dL_turn_8 : decode cL_turn 8 = .ok (.lastore, 1) := by decide +kernel
theorem dL_turn_9 : decode cL_turn 9 = .ok (.goto 9, 3) := by decide +kernel
theorem dL_turn_12 : decode cL_turn 12 = .ok (.astore_n 3, 1) := by decide +kernel
theorem dL_turn_13 : decode cL_turn 13 = .ok (.iconst 1, 1) := by decide +kernel
theorem dL_turn_14 : decode cL_turn 14 = .ok (.ireturn, 1) := by decide +kernel
theorem dL_turn_15 : decode cL_turn 15 = .ok (.astore_n 3, 1) := by decide +kernel
theorem dL_turn_16 : decode cL_turn 16 = .ok (.iconst 2, 1) := by decide +kernel
theorem dL_turn_17 : decode cL_turn 17 = .ok (.ireturn, 1) := by decide +kernel
theorem dL_turn_18 : decode cL_turn 18 = .ok (.iconst 0, 1) := by decide +kernel
theorem dL_turn_19 : decode cL_turn 19 = .ok (.ireturn, 1) := by decide +kernel
theorem dL_learn_0 : decode cL_learn 0 = .ok (.aload_n 1, 1) := by decide +kernel
theorem dL_learn_1 : decode cL_learn 1 = .ok (.iconst 0, 1) := by decide +kernel
theorem dL_learn_2 : decode cL_learn 2 = .ok (.aload_n 0, 1) := by decide +kernel
theorem dL_learn_3 : decode cL_learn 3 = .ok (.invokevirtual 27, 3) := by decide +kernel
theorem dL_learn_6 : decode cL_learn 6 = .ok (.i2l, 1) := by decide +kernel
theorem dL_learn_7 : decode cL_learn 7 = .ok (.lastore, 1) := by decide +kernel
theorem dL_learn_8 : decode cL_learn 8 = .ok (.goto 6, 3) := by decide +kernel
theorem dL_learn_11 : decode cL_learn 11 = .ok (.astore_n 2, 1) := by decide +kernel
theorem dL_learn_12 : decode cL_learn 12 = .ok (.iconst 1, 1) := by decide +kernel
theorem dL_learn_13 : decode cL_learn 13 = .ok (.ireturn, 1) := by decide +kernel
theorem dL_learn_14 : decode cL_learn 14 = .ok (.iconst 0, 1) := by decide +kernel
theorem dL_learn_15 : decode cL_learn 15 = .ok (.ireturn, 1) := by decide +kernel
theorem dL_read_0 : decode cL_read 0 = .ok (.aload_n 1, 1) := by decide +kernel
theorem dL_read_1 : decode cL_read 1 = .ok (.iconst 0, 1) := by decide +kernel
theorem dL_read_2 : decode cL_read 2 = .ok (.aload_n 0, 1) := by decide +kernel
theorem dL_read_3 : decode cL_read 3 = .ok (.invokevirtual 31, 3) := by decide +kernel
theorem dL_read_6 : decode cL_read 6 = .ok (.i2l, 1) := by decide +kernel
theorem dL_read_7 : decode cL_read 7 = .ok (.lastore, 1) := by decide +kernel
theorem dL_read_8 : decode cL_read 8 = .ok (.goto 9, 3) := by decide +kernel
theorem dL_read_11 : decode cL_read 11 = .ok (.astore_n 2, 1) := by decide +kernel
theorem dL_read_12 : decode cL_read 12 = .ok (.iconst 1, 1) := by decide +kernel
theorem dL_read_13 : decode cL_read 13 = .ok (.ireturn, 1) := by decide +kernel
theorem dL_read_14 : decode cL_read 14 = .ok (.astore_n 2, 1) := by decide +kernel
theorem dL_read_15 : decode cL_read 15 = .ok (.iconst 2, 1) := by decide +kernel
theorem dL_read_16 : decode cL_read 16 = .ok (.ireturn, 1) := by decide +kernel
theorem dL_read_17 : decode cL_read 17 = .ok (.iconst 0, 1) := by decide +kernel
theorem dL_read_18 : decode cL_read 18 = .ok (.ireturn, 1) := by decide +kernel
theorem dL_forget_0 : decode cL_forget 0 = .ok (.aload_n 2, 1) := by decide +kernel
theorem dL_forget_1 : decode cL_forget 1 = .ok (.iconst 0, 1) := by decide +kernel
theorem dL_forget_2 : decode cL_forget 2 = .ok (.aload_n 0, 1) := by decide +kernel
theorem dL_forget_3 : decode cL_forget 3 = .ok (.iload_n 1, 1) := by decide +kernel
theorem dL_forget_4 : decode cL_forget 4 = .ok (.invokevirtual 34, 3) := by decide +kernel
theorem dL_forget_7 : decode cL_forget 7 = .ok (.i2l, 1) := by decide +kernel
theorem dL_forget_8 : decode cL_forget 8 = .ok (.lastore, 1) := by decide +kernel
theorem dL_forget_9 : decode cL_forget 9 = .ok (.goto 6, 3) := by decide +kernel
theorem dL_forget_12 : decode cL_forget 12 = .ok (.astore_n 3, 1) := by decide +kernel
theorem dL_forget_13 : decode cL_forget 13 = .ok (.iconst 1, 1) := by decide +kernel
theorem dL_forget_14 : decode cL_forget 14 = .ok (.ireturn, 1) := by decide +kernel
theorem dL_forget_15 : decode cL_forget 15 = .ok (.iconst 0, 1) := by decide +kernel
theorem dL_forget_16 : decode cL_forget 16 = .ok (.ireturn, 1) := by decide +kernel
theorem dL_set_0 : decode cL_set 0 = .ok (.aload_n 3, 1) := by decide +kernel
theorem dL_set_1 : decode cL_set 1 = .ok (.iconst 0, 1) := by decide +kernel
theorem dL_set_2 : decode cL_set 2 = .ok (.aload_n 0, 1) := by decide +kernel
theorem dL_set_3 : decode cL_set 3 = .ok (.iload_n 1, 1) := by decide +kernel
theorem dL_set_4 : decode cL_set 4 = .ok (.iload_n 2, 1) := by decide +kernel
theorem dL_set_5 : decode cL_set 5 = .ok (.invokevirtual 39, 3) := by decide +kernel
theorem dL_set_8 : decode cL_set 8 = .ok (.i2l, 1) := by decide +kernel
theorem dL_set_9 : decode cL_set 9 = .ok (.lastore, 1) := by decide +kernel
theorem dL_set_10 : decode cL_set 10 = .ok (.goto 15, 3) := by decide +kernel
theorem dL_set_13 : decode cL_set 13 = .ok (.astore 4, 2) := by decide +kernel
theorem dL_set_15 : decode cL_set 15 = .ok (.iconst 1, 1) := by decide +kernel
theorem dL_set_16 : decode cL_set 16 = .ok (.ireturn, 1) := by decide +kernel
theorem dL_set_17 : decode cL_set 17 = .ok (.astore 4, 2) := by decide +kernel
theorem dL_set_19 : decode cL_set 19 = .ok (.iconst 2, 1) := by decide +kernel
theorem dL_set_20 : decode cL_set 20 = .ok (.ireturn, 1) := by decide +kernel
theorem dL_set_21 : decode cL_set 21 = .ok (.astore 4, 2) := by decide +kernel
theorem dL_set_23 : decode cL_set 23 = .ok (.iconst 3, 1) := by decide +kernel
theorem dL_set_24 : decode cL_set 24 = .ok (.ireturn, 1) := by decide +kernel
theorem dL_set_25 : decode cL_set 25 = .ok (.iconst 0, 1) := by decide +kernel
theorem dL_set_26 : decode cL_set 26 = .ok (.ireturn, 1) := by decide +kernel
theorem dL_append_0 : decode cL_append 0 = .ok (.aload_n 2, 1) := by decide +kernel
theorem dL_append_1 : decode cL_append 1 = .ok (.iconst 0, 1) := by decide +kernel
theorem dL_append_2 : decode cL_append 2 = .ok (.aload_n 0, 1) := by decide +kernel
theorem dL_append_3 : decode cL_append 3 = .ok (.iload_n 1, 1) := by decide +kernel
theorem dL_append_4 : decode cL_append 4 = .ok (.invokevirtual 42, 3) := by decide +kernel
theorem dL_append_7 : decode cL_append 7 = .ok (.i2l, 1) := by decide +kernel
theorem dL_append_8 : decode cL_append 8 = .ok (.lastore, 1) := by decide +kernel
theorem dL_append_9 : decode cL_append 9 = .ok (.goto 9, 3) := by decide +kernel
theorem dL_append_12 : decode cL_append 12 = .ok (.astore_n 3, 1) := by decide +kernel
theorem dL_append_13 : decode cL_append 13 = .ok (.iconst 1, 1) := by decide +kernel
theorem dL_append_14 : decode cL_append 14 = .ok (.ireturn, 1) := by decide +kernel
theorem dL_append_15 : decode cL_append 15 = .ok (.astore_n 3, 1) := by decide +kernel
theorem dL_append_16 : decode cL_append 16 = .ok (.iconst 2, 1) := by decide +kernel
theorem dL_append_17 : decode cL_append 17 = .ok (.ireturn, 1) := by decide +kernel
theorem dL_append_18 : decode cL_append 18 = .ok (.iconst 0, 1) := by decide +kernel
theorem dL_append_19 : decode cL_append 19 = .ok (.ireturn, 1) := by decide +kernel
theorem dL_undo_0 : decode cL_undo 0 = .ok (.aload_n 1, 1) := by decide +kernel
theorem dL_undo_1 : decode cL_undo 1 = .ok (.iconst 0, 1) := by decide +kernel
theorem dL_undo_2 : decode cL_undo 2 = .ok (.aload_n 0, 1) := by decide +kernel
theorem dL_undo_3 : decode cL_undo 3 = .ok (.invokevirtual 45, 3) := by decide +kernel
theorem dL_undo_6 : decode cL_undo 6 = .ok (.i2l, 1) := by decide +kernel
theorem dL_undo_7 : decode cL_undo 7 = .ok (.lastore, 1) := by decide +kernel
theorem dL_undo_8 : decode cL_undo 8 = .ok (.goto 6, 3) := by decide +kernel
theorem dL_undo_11 : decode cL_undo 11 = .ok (.astore_n 2, 1) := by decide +kernel
theorem dL_undo_12 : decode cL_undo 12 = .ok (.iconst 1, 1) := by decide +kernel
theorem dL_undo_13 : decode cL_undo 13 = .ok (.ireturn, 1) := by decide +kernel
theorem dL_undo_14 : decode cL_undo 14 = .ok (.iconst 0, 1) := by decide +kernel
theorem dL_undo_15 : decode cL_undo 15 = .ok (.ireturn, 1) := by decide +kernel
theorem dL_pointOf_0 : decode cL_pointOf 0 = .ok (.aload_n 3, 1) := by decide +kernel
theorem dL_pointOf_1 : decode cL_pointOf 1 = .ok (.iconst 0, 1) := by decide +kernel
theorem dL_pointOf_2 : decode cL_pointOf 2 = .ok (.aload_n 0, 1) := by decide +kernel
theorem dL_pointOf_3 : decode cL_pointOf 3 = .ok (.iload_n 1, 1) := by decide +kernel
theorem dL_pointOf_4 : decode cL_pointOf 4 = .ok (.iload_n 2, 1) := by decide +kernel
theorem dL_pointOf_5 : decode cL_pointOf 5 = .ok (.invokevirtual 48, 3) := by decide +kernel
theorem dL_pointOf_8 : decode cL_pointOf 8 = .ok (.i2l, 1) := by decide +kernel
theorem dL_pointOf_9 : decode cL_pointOf 9 = .ok (.lastore, 1) := by decide +kernel
theorem dL_pointOf_10 : decode cL_pointOf 10 = .ok (.goto 11, 3) := by decide +kernel
theorem dL_pointOf_13 : decode cL_pointOf 13 = .ok (.astore 4, 2) := by decide +kernel
theorem dL_pointOf_15 : decode cL_pointOf 15 = .ok (.iconst 1, 1) := by decide +kernel
theorem dL_pointOf_16 : decode cL_pointOf 16 = .ok (.ireturn, 1) := by decide +kernel
theorem dL_pointOf_17 : decode cL_pointOf 17 = .ok (.astore 4, 2) := by decide +kernel
theorem dL_pointOf_19 : decode cL_pointOf 19 = .ok (.iconst 2, 1) := by decide +kernel
theorem dL_pointOf_20 : decode cL_pointOf 20 = .ok (.ireturn, 1) := by decide +kernel
theorem dL_pointOf_21 : decode cL_pointOf 21 = .ok (.iconst 0, 1) := by decide +kernel
theorem dL_pointOf_22 : decode cL_pointOf 22 = .ok (.ireturn, 1) := by decide +kernel
theorem dL_run_0 : decode cL_run 0 = .ok (.aload_n 3, 1) := by decide +kernel
theorem dL_run_1 : decode cL_run 1 = .ok (.iconst 0, 1) := by decide +kernel
theorem dL_run_2 : decode cL_run 2 = .ok (.aload_n 0, 1) := by decide +kernel
theorem dL_run_3 : decode cL_run 3 = .ok (.iload_n 1, 1) := by decide +kernel
theorem dL_run_4 : decode cL_run 4 = .ok (.iload_n 2, 1) := by decide +kernel
theorem dL_run_5 : decode cL_run 5 = .ok (.invokevirtual 51, 3) := by decide +kernel
theorem dL_run_8 : decode cL_run 8 = .ok (.i2l, 1) := by decide +kernel
theorem dL_run_9 : decode cL_run 9 = .ok (.lastore, 1) := by decide +kernel
theorem dL_run_10 : decode cL_run 10 = .ok (.goto 7, 3) := by decide +kernel
theorem dL_run_13 : decode cL_run 13 = .ok (.astore 4, 2) := by decide +kernel
theorem dL_run_15 : decode cL_run 15 = .ok (.iconst 1, 1) := by decide +kernel
theorem dL_run_16 : decode cL_run 16 = .ok (.ireturn, 1) := by decide +kernel
theorem dL_run_17 : decode cL_run 17 = .ok (.iconst 0, 1) := by decide +kernel
theorem dL_run_18 : decode cL_run 18 = .ok (.ireturn, 1) := by decide +kernel
theorem dL_stroke_0 : decode cL_stroke 0 = .ok (.aload_n 2, 1) := by decide +kernel
theorem dL_stroke_1 : decode cL_stroke 1 = .ok (.iconst 0, 1) := by decide +kernel
theorem dL_stroke_2 : decode cL_stroke 2 = .ok (.aload_n 0, 1) := by decide +kernel
theorem dL_stroke_3 : decode cL_stroke 3 = .ok (.iload_n 1, 1) := by decide +kernel
theorem dL_stroke_4 : decode cL_stroke 4 = .ok (.invokevirtual 54, 3) := by decide +kernel
theorem dL_stroke_7 : decode cL_stroke 7 = .ok (.i2l, 1) := by decide +kernel
theorem dL_stroke_8 : decode cL_stroke 8 = .ok (.lastore, 1) := by decide +kernel
theorem dL_stroke_9 : decode cL_stroke 9 = .ok (.goto 6, 3) := by decide +kernel
theorem dL_stroke_12 : decode cL_stroke 12 = .ok (.astore_n 3, 1) := by decide +kernel
theorem dL_stroke_13 : decode cL_stroke 13 = .ok (.iconst 1, 1) := by decide +kernel
theorem dL_stroke_14 : decode cL_stroke 14 = .ok (.ireturn, 1) := by decide +kernel
theorem dL_stroke_15 : decode cL_stroke 15 = .ok (.iconst 0, 1) := by decide +kernel
theorem dL_stroke_16 : decode cL_stroke 16 = .ok (.ireturn, 1) := by decide +kernel
theorem dL_strokeOf_0 : decode cL_strokeOf 0 = .ok (.aload_n 3, 1) := by decide +kernel
theorem dL_strokeOf_1 : decode cL_strokeOf 1 = .ok (.iconst 0, 1) := by decide +kernel
theorem dL_strokeOf_2 : decode cL_strokeOf 2 = .ok (.aload_n 0, 1) := by decide +kernel
theorem dL_strokeOf_3 : decode cL_strokeOf 3 = .ok (.iload_n 1, 1) := by decide +kernel
theorem dL_strokeOf_4 : decode cL_strokeOf 4 = .ok (.iload_n 2, 1) := by decide +kernel
theorem dL_strokeOf_5 : decode cL_strokeOf 5 = .ok (.invokevirtual 57, 3) := by decide +kernel
theorem dL_strokeOf_8 : decode cL_strokeOf 8 = .ok (.i2l, 1) := by decide +kernel
theorem dL_strokeOf_9 : decode cL_strokeOf 9 = .ok (.lastore, 1) := by decide +kernel
theorem dL_strokeOf_10 : decode cL_strokeOf 10 = .ok (.goto 11, 3) := by decide +kernel
theorem dL_strokeOf_13 : decode cL_strokeOf 13 = .ok (.astore 4, 2) := by decide +kernel
theorem dL_strokeOf_15 : decode cL_strokeOf 15 = .ok (.iconst 1, 1) := by decide +kernel
theorem dL_strokeOf_16 : decode cL_strokeOf 16 = .ok (.ireturn, 1) := by decide +kernel
theorem dL_strokeOf_17 : decode cL_strokeOf 17 = .ok (.astore 4, 2) := by decide +kernel
theorem dL_strokeOf_19 : decode cL_strokeOf 19 = .ok (.iconst 2, 1) := by decide +kernel
theorem dL_strokeOf_20 : decode cL_strokeOf 20 = .ok (.ireturn, 1) := by decide +kernel
theorem dL_strokeOf_21 : decode cL_strokeOf 21 = .ok (.iconst 0, 1) := by decide +kernel
theorem dL_strokeOf_22 : decode cL_strokeOf 22 = .ok (.ireturn, 1) := by decide +kernel
theorem dL_distance_0 : decode cL_distance 0 = .ok (.aload_n 3, 1) := by decide +kernel
theorem dL_distance_1 : decode cL_distance 1 = .ok (.iconst 0, 1) := by decide +kernel
theorem dL_distance_2 : decode cL_distance 2 = .ok (.aload_n 0, 1) := by decide +kernel
theorem dL_distance_3 : decode cL_distance 3 = .ok (.iload_n 1, 1) := by decide +kernel
theorem dL_distance_4 : decode cL_distance 4 = .ok (.iload_n 2, 1) := by decide +kernel
theorem dL_distance_5 : decode cL_distance 5 = .ok (.invokevirtual 60, 3) := by decide +kernel
theorem dL_distance_8 : decode cL_distance 8 = .ok (.i2l, 1) := by decide +kernel
theorem dL_distance_9 : decode cL_distance 9 = .ok (.lastore, 1) := by decide +kernel
theorem dL_distance_10 : decode cL_distance 10 = .ok (.goto 7, 3) := by decide +kernel
theorem dL_distance_13 : decode cL_distance 13 = .ok (.astore 4, 2) := by decide +kernel
theorem dL_distance_15 : decode cL_distance 15 = .ok (.iconst 1, 1) := by decide +kernel
theorem dL_distance_16 : decode cL_distance 16 = .ok (.ireturn, 1) := by decide +kernel
theorem dL_distance_17 : decode cL_distance 17 = .ok (.iconst 0, 1) := by decide +kernel
theorem dL_distance_18 : decode cL_distance 18 = .ok (.ireturn, 1) := by decide +kernel
theorem dL_reading_0 : decode cL_reading 0 = .ok (.aload_n 2, 1) := by decide +kernel
theorem dL_reading_1 : decode cL_reading 1 = .ok (.iconst 0, 1) := by decide +kernel
theorem dL_reading_2 : decode cL_reading 2 = .ok (.aload_n 0, 1) := by decide +kernel
theorem dL_reading_3 : decode cL_reading 3 = .ok (.iload_n 1, 1) := by decide +kernel
theorem dL_reading_4 : decode cL_reading 4 = .ok (.invokevirtual 63, 3) := by decide +kernel
theorem dL_reading_7 : decode cL_reading 7 = .ok (.i2l, 1) := by decide +kernel
theorem dL_reading_8 : decode cL_reading 8 = .ok (.lastore, 1) := by decide +kernel
theorem dL_reading_9 : decode cL_reading 9 = .ok (.goto 6, 3) := by decide +kernel
theorem dL_reading_12 : decode cL_reading 12 = .ok (.astore_n 3, 1) := by decide +kernel
theorem dL_reading_13 : decode cL_reading 13 = .ok (.iconst 1, 1) := by decide +kernel
theorem dL_reading_14 : decode cL_reading 14 = .ok (.ireturn, 1) := by decide +kernel
theorem dL_reading_15 : decode cL_reading 15 = .ok (.iconst 0, 1) := by decide +kernel
theorem dL_reading_16 : decode cL_reading 16 = .ok (.ireturn, 1) := by decide +kernel
theorem dL_count_0 : decode cL_count 0 = .ok (.aload_n 2, 1) := by decide +kernel
theorem dL_count_1 : decode cL_count 1 = .ok (.iconst 0, 1) := by decide +kernel
theorem dL_count_2 : decode cL_count 2 = .ok (.aload_n 0, 1) := by decide +kernel
theorem dL_count_3 : decode cL_count 3 = .ok (.iload_n 1, 1) := by decide +kernel
theorem dL_count_4 : decode cL_count 4 = .ok (.invokevirtual 66, 3) := by decide +kernel
theorem dL_count_7 : decode cL_count 7 = .ok (.i2l, 1) := by decide +kernel
theorem dL_count_8 : decode cL_count 8 = .ok (.lastore, 1) := by decide +kernel
theorem dL_count_9 : decode cL_count 9 = .ok (.goto 6, 3) := by decide +kernel
theorem dL_count_12 : decode cL_count 12 = .ok (.astore_n 3, 1) := by decide +kernel
theorem dL_count_13 : decode cL_count 13 = .ok (.iconst 1, 1) := by decide +kernel
theorem dL_count_14 : decode cL_count 14 = .ok (.ireturn, 1) := by decide +kernel
theorem dL_count_15 : decode cL_count 15 = .ok (.iconst 0, 1) := by decide +kernel
theorem dL_count_16 : decode cL_count 16 = .ok (.ireturn, 1) := by decide +kernel
theorem dL_setting_0 : decode cL_setting 0 = .ok (.aload_n 2, 1) := by decide +kernel
theorem dL_setting_1 : decode cL_setting 1 = .ok (.iconst 0, 1) := by decide +kernel
theorem dL_setting_2 : decode cL_setting 2 = .ok (.aload_n 0, 1) := by decide +kernel
theorem dL_setting_3 : decode cL_setting 3 = .ok (.iload_n 1, 1) := by decide +kernel
theorem dL_setting_4 : decode cL_setting 4 = .ok (.invokevirtual 69, 3) := by decide +kernel
theorem dL_setting_7 : decode cL_setting 7 = .ok (.i2l, 1) := by decide +kernel
theorem dL_setting_8 : decode cL_setting 8 = .ok (.lastore, 1) := by decide +kernel
theorem dL_setting_9 : decode cL_setting 9 = .ok (.goto 6, 3) := by decide +kernel
theorem dL_setting_12 : decode cL_setting 12 = .ok (.astore_n 3, 1) := by decide +kernel
theorem dL_setting_13 : decode cL_setting 13 = .ok (.iconst 1, 1) := by decide +kernel
theorem dL_setting_14 : decode cL_setting 14 = .ok (.ireturn, 1) := by decide +kernel
theorem dL_setting_15 : decode cL_setting 15 = .ok (.iconst 0, 1) := by decide +kernel
theorem dL_setting_16 : decode cL_setting 16 = .ok (.ireturn, 1) := by decide +kernel
theorem dL_ifPoint_0 : decode cL_ifPoint 0 = .ok (.aload_n 3, 1) := by decide +kernel
theorem dL_ifPoint_1 : decode cL_ifPoint 1 = .ok (.iconst 0, 1) := by decide +kernel
theorem dL_ifPoint_2 : decode cL_ifPoint 2 = .ok (.aload_n 0, 1) := by decide +kernel
theorem dL_ifPoint_3 : decode cL_ifPoint 3 = .ok (.iload_n 1, 1) := by decide +kernel
theorem dL_ifPoint_4 : decode cL_ifPoint 4 = .ok (.iload_n 2, 1) := by decide +kernel
theorem dL_ifPoint_5 : decode cL_ifPoint 5 = .ok (.invokevirtual 72, 3) := by decide +kernel
theorem dL_ifPoint_8 : decode cL_ifPoint 8 = .ok (.i2l, 1) := by decide +kernel
theorem dL_ifPoint_9 : decode cL_ifPoint 9 = .ok (.lastore, 1) := by decide +kernel
theorem dL_ifPoint_10 : decode cL_ifPoint 10 = .ok (.goto 7, 3) := by decide +kernel
theorem dL_ifPoint_13 : decode cL_ifPoint 13 = .ok (.astore 4, 2) := by decide +kernel
theorem dL_ifPoint_15 : decode cL_ifPoint 15 = .ok (.iconst 1, 1) := by decide +kernel
theorem dL_ifPoint_16 : decode cL_ifPoint 16 = .ok (.ireturn, 1) := by decide +kernel
theorem dL_ifPoint_17 : decode cL_ifPoint 17 = .ok (.iconst 0, 1) := by decide +kernel
theorem dL_ifPoint_18 : decode cL_ifPoint 18 = .ok (.ireturn, 1) := by decide +kernel
theorem dL_law_0 : decode cL_law 0 = .ok (.new 8, 3) := by decide +kernel
theorem dL_law_3 : decode cL_law 3 = .ok (.dup, 1) := by decide +kernel
theorem dL_law_4 : decode cL_law 4 = .ok (.invokespecial 75, 3) := by decide +kernel
theorem dL_law_7 : decode cL_law 7 = .ok (.astore_n 1, 1) := by decide +kernel
theorem dL_law_8 : decode cL_law 8 = .ok (.new 76, 3) := by decide +kernel
theorem dL_law_11 : decode cL_law 11 = .ok (.dup, 1) := by decide +kernel
theorem dL_law_12 : decode cL_law 12 = .ok (.invokespecial 78, 3) := by decide +kernel
theorem dL_law_15 : decode cL_law 15 = .ok (.astore_n 2, 1) := by decide +kernel
theorem dL_law_16 : decode cL_law 16 = .ok (.iconst 1, 1) := by decide +kernel
theorem dL_law_17 : decode cL_law 17 = .ok (.newarray .long, 2) := by decide +kernel
theorem dL_law_19 : decode cL_law 19 = .ok (.astore_n 3, 1) := by decide +kernel
theorem dL_law_20 : decode cL_law 20 = .ok (.iconst 0, 1) := by decide +kernel
theorem dL_law_21 : decode cL_law 21 = .ok (.istore 4, 2) := by decide +kernel
theorem dL_law_23 : decode cL_law 23 = .ok (.iload 4, 2) := by decide +kernel
theorem dL_law_25 : decode cL_law 25 = .ok (.aload_n 0, 1) := by decide +kernel
theorem dL_law_26 : decode cL_law 26 = .ok (.arraylength, 1) := by decide +kernel
theorem dL_law_27 : decode cL_law 27 = .ok (.iconst 3, 1) := by decide +kernel
theorem dL_law_28 : decode cL_law 28 = .ok (.isub, 1) := by decide +kernel
theorem dL_law_29 : decode cL_law 29 = .ok (.if_icmp .gt 1394, 3) := by decide +kernel
theorem dL_law_32 : decode cL_law 32 = .ok (.aload_n 0, 1) := by decide +kernel
theorem dL_law_33 : decode cL_law 33 = .ok (.iload 4, 2) := by decide +kernel
theorem dL_law_35 : decode cL_law 35 = .ok (.iaload, 1) := by decide +kernel
theorem dL_law_36 : decode cL_law 36 = .ok (.bipush 31, 2) := by decide +kernel
theorem dL_law_38 : decode cL_law 38 = .ok (.iand, 1) := by decide +kernel
theorem dL_law_39 : decode cL_law 39 = .ok (.tableswitch 1378 0 26 #[121, 189, 257, 313, 326, 382, 426, 470, 526, 594, 650, 663, 676, 720, 788, 856, 912, 980, 1048, 1104, 1160, 1216, 1284, 1297, 1310, 1323, 1364], 121) := by decide +kernel
theorem dL_law_160 : decode cL_law 160 = .ok (.aload_n 1, 1) := by decide +kernel
theorem dL_law_161 : decode cL_law 161 = .ok (.aload_n 0, 1) := by decide +kernel
theorem dL_law_162 : decode cL_law 162 = .ok (.iload 4, 2) := by decide +kernel
theorem dL_law_164 : decode cL_law 164 = .ok (.iconst 1, 1) := by decide +kernel
theorem dL_law_165 : decode cL_law 165 = .ok (.iadd, 1) := by decide +kernel
theorem dL_law_166 : decode cL_law 166 = .ok (.iaload, 1) := by decide +kernel
theorem dL_law_167 : decode cL_law 167 = .ok (.aload_n 0, 1) := by decide +kernel
theorem dL_law_168 : decode cL_law 168 = .ok (.iload 4, 2) := by decide +kernel
theorem dL_law_170 : decode cL_law 170 = .ok (.iconst 2, 1) := by decide +kernel
theorem dL_law_171 : decode cL_law 171 = .ok (.iadd, 1) := by decide +kernel
theorem dL_law_172 : decode cL_law 172 = .ok (.iaload, 1) := by decide +kernel
theorem dL_law_173 : decode cL_law 173 = .ok (.aload_n 3, 1) := by decide +kernel
theorem dL_law_174 : decode cL_law 174 = .ok (.invokestatic 79, 3) := by decide +kernel
theorem dL_law_177 : decode cL_law 177 = .ok (.istore 5, 2) := by decide +kernel
theorem dL_law_179 : decode cL_law 179 = .ok (.aload_n 2, 1) := by decide +kernel
theorem dL_law_180 : decode cL_law 180 = .ok (.aload_n 0, 1) := by decide +kernel
theorem dL_law_181 : decode cL_law 181 = .ok (.iload 4, 2) := by decide +kernel
theorem dL_law_183 : decode cL_law 183 = .ok (.iconst 1, 1) := by decide +kernel
theorem dL_law_184 : decode cL_law 184 = .ok (.iadd, 1) := by decide +kernel
theorem dL_law_185 : decode cL_law 185 = .ok (.iaload, 1) := by decide +kernel
theorem dL_law_186 : decode cL_law 186 = .ok (.aload_n 0, 1) := by decide +kernel
theorem dL_law_187 : decode cL_law 187 = .ok (.iload 4, 2) := by decide +kernel
theorem dL_law_189 : decode cL_law 189 = .ok (.iconst 2, 1) := by decide +kernel
theorem dL_law_190 : decode cL_law 190 = .ok (.iadd, 1) := by decide +kernel
theorem dL_law_191 : decode cL_law 191 = .ok (.iaload, 1) := by decide +kernel
theorem dL_law_192 : decode cL_law 192 = .ok (.invokevirtual 84, 3) := by decide +kernel
theorem dL_law_195 : decode cL_law 195 = .ok (.istore 6, 2) := by decide +kernel
theorem dL_law_197 : decode cL_law 197 = .ok (.aload_n 2, 1) := by decide +kernel
theorem dL_law_198 : decode cL_law 198 = .ok (.invokevirtual 85, 3) := by decide +kernel
theorem dL_law_201 : decode cL_law 201 = .ok (.iload 5, 2) := by decide +kernel
theorem dL_law_203 : decode cL_law 203 = .ok (.if_icmp .eq 5, 3) := by decide +kernel
theorem dL_law_206 : decode cL_law 206 = .ok (.iconst 0, 1) := by decide +kernel
theorem dL_law_207 : decode cL_law 207 = .ok (.ireturn, 1) := by decide +kernel
theorem dL_law_208 : decode cL_law 208 = .ok (.iload 5, 2) := by decide +kernel
theorem dL_law_210 : decode cL_law 210 = .ok (.ifCond .ne 15, 3) := by decide +kernel
theorem dL_law_213 : decode cL_law 213 = .ok (.aload_n 3, 1) := by decide +kernel
theorem dL_law_214 : decode cL_law 214 = .ok (.iconst 0, 1) := by decide +kernel
theorem dL_law_215 : decode cL_law 215 = .ok (.laload, 1) := by decide +kernel
theorem dL_law_216 : decode cL_law 216 = .ok (.iload 6, 2) := by decide +kernel
theorem dL_law_218 : decode cL_law 218 = .ok (.i2l, 1) := by decide +kernel
theorem dL_law_219 : decode cL_law 219 = .ok (.lcmp, 1) := by decide +kernel
theorem dL_law_220 : decode cL_law 220 = .ok (.ifCond .eq 5, 3) := by decide +kernel
theorem dL_law_223 : decode cL_law 223 = .ok (.iconst 0, 1) := by decide +kernel
theorem dL_law_224 : decode cL_law 224 = .ok (.ireturn, 1) := by decide +kernel
theorem dL_law_225 : decode cL_law 225 = .ok (.goto 1192, 3) := by decide +kernel
theorem dL_law_228 : decode cL_law 228 = .ok (.aload_n 1, 1) := by decide +kernel
theorem dL_law_229 : decode cL_law 229 = .ok (.aload_n 0, 1) := by decide +kernel
theorem dL_law_230 : decode cL_law 230 = .ok (.iload 4, 2) := by decide +kernel
theorem dL_law_232 : decode cL_law 232 = .ok (.iconst 1, 1) := by decide +kernel
theorem dL_law_233 : decode cL_law 233 = .ok (.iadd, 1) := by decide +kernel
theorem dL_law_234 : decode cL_law 234 = .ok (.iaload, 1) := by decide +kernel
theorem dL_law_235 : decode cL_law 235 = .ok (.aload_n 0, 1) := by decide +kernel
theorem dL_law_236 : decode cL_law 236 = .ok (.iload 4, 2) := by decide +kernel
theorem dL_law_238 : decode cL_law 238 = .ok (.iconst 2, 1) := by decide +kernel
theorem dL_law_239 : decode cL_law 239 = .ok (.iadd, 1) := by decide +kernel
theorem dL_law_240 : decode cL_law 240 = .ok (.iaload, 1) := by decide +kernel
theorem dL_law_241 : decode cL_law 241 = .ok (.aload_n 3, 1) := by decide +kernel
theorem dL_law_242 : decode cL_law 242 = .ok (.invokestatic 88, 3) := by decide +kernel
theorem dL_law_245 : decode cL_law 245 = .ok (.istore 5, 2) := by decide +kernel
theorem dL_law_247 : decode cL_law 247 = .ok (.aload_n 2, 1) := by decide +kernel
theorem dL_law_248 : decode cL_law 248 = .ok (.aload_n 0, 1) := by decide +kernel
theorem dL_law_249 : decode cL_law 249 = .ok (.iload 4, 2) := by decide +kernel
theorem dL_law_251 : decode cL_law 251 = .ok (.iconst 1, 1) := by decide +kernel
theorem dL_law_252 : decode cL_law 252 = .ok (.iadd, 1) := by decide +kernel
theorem dL_law_253 : decode cL_law 253 = .ok (.iaload, 1) := by decide +kernel
theorem dL_law_254 : decode cL_law 254 = .ok (.aload_n 0, 1) := by decide +kernel
theorem dL_law_255 : decode cL_law 255 = .ok (.iload 4, 2) := by decide +kernel
theorem dL_law_257 : decode cL_law 257 = .ok (.iconst 2, 1) := by decide +kernel
theorem dL_law_258 : decode cL_law 258 = .ok (.iadd, 1) := by decide +kernel
theorem dL_law_259 : decode cL_law 259 = .ok (.iaload, 1) := by decide +kernel
theorem dL_law_260 : decode cL_law 260 = .ok (.invokevirtual 90, 3) := by decide +kernel
theorem dL_law_263 : decode cL_law 263 = .ok (.istore 6, 2) := by decide +kernel
theorem dL_law_265 : decode cL_law 265 = .ok (.aload_n 2, 1) := by decide +kernel
theorem dL_law_266 : decode cL_law 266 = .ok (.invokevirtual 85, 3) := by decide +kernel
theorem dL_law_269 : decode cL_law 269 = .ok (.iload 5, 2) := by decide +kernel
theorem dL_law_271 : decode cL_law 271 = .ok (.if_icmp .eq 5, 3) := by decide +kernel
theorem dL_law_274 : decode cL_law 274 = .ok (.iconst 0, 1) := by decide +kernel
theorem dL_law_275 : decode cL_law 275 = .ok (.ireturn, 1) := by decide +kernel
theorem dL_law_276 : decode cL_law 276 = .ok (.iload 5, 2) := by decide +kernel
theorem dL_law_278 : decode cL_law 278 = .ok (.ifCond .ne 15, 3) := by decide +kernel
theorem dL_law_281 : decode cL_law 281 = .ok (.aload_n 3, 1) := by decide +kernel
theorem dL_law_282 : decode cL_law 282 = .ok (.iconst 0, 1) := by decide +kernel
theorem dL_law_283 : decode cL_law 283 = .ok (.laload, 1) := by decide +kernel
theorem dL_law_284 : decode cL_law 284 = .ok (.iload 6, 2) := by decide +kernel
theorem dL_law_286 : decode cL_law 286 = .ok (.i2l, 1) := by decide +kernel
theorem dL_law_287 : decode cL_law 287 = .ok (.lcmp, 1) := by decide +kernel
theorem dL_law_288 : decode cL_law 288 = .ok (.ifCond .eq 5, 3) := by decide +kernel
theorem dL_law_291 : decode cL_law 291 = .ok (.iconst 0, 1) := by decide +kernel
theorem dL_law_292 : decode cL_law 292 = .ok (.ireturn, 1) := by decide +kernel
theorem dL_law_293 : decode cL_law 293 = .ok (.goto 1124, 3) := by decide +kernel
theorem dL_law_296 : decode cL_law 296 = .ok (.aload_n 1, 1) := by decide +kernel
theorem dL_law_297 : decode cL_law 297 = .ok (.aload_n 0, 1) := by decide +kernel
theorem dL_law_298 : decode cL_law 298 = .ok (.iload 4, 2) := by decide +kernel
theorem dL_law_300 : decode cL_law 300 = .ok (.iconst 1, 1) := by decide +kernel
theorem dL_law_301 : decode cL_law 301 = .ok (.iadd, 1) := by decide +kernel
theorem dL_law_302 : decode cL_law 302 = .ok (.iaload, 1) := by decide +kernel
theorem dL_law_303 : decode cL_law 303 = .ok (.aload_n 3, 1) := by decide +kernel
theorem dL_law_304 : decode cL_law 304 = .ok (.invokestatic 91, 3) := by decide +kernel
theorem dL_law_307 : decode cL_law 307 = .ok (.istore 5, 2) := by decide +kernel
theorem dL_law_309 : decode cL_law 309 = .ok (.aload_n 2, 1) := by decide +kernel
theorem dL_law_310 : decode cL_law 310 = .ok (.aload_n 0, 1) := by decide +kernel
theorem dL_law_311 : decode cL_law 311 = .ok (.iload 4, 2) := by decide +kernel
theorem dL_law_313 : decode cL_law 313 = .ok (.iconst 1, 1) := by decide +kernel
theorem dL_law_314 : decode cL_law 314 = .ok (.iadd, 1) := by decide +kernel
theorem dL_law_315 : decode cL_law 315 = .ok (.iaload, 1) := by decide +kernel
theorem dL_law_316 : decode cL_law 316 = .ok (.invokevirtual 94, 3) := by decide +kernel
theorem dL_law_319 : decode cL_law 319 = .ok (.istore 6, 2) := by decide +kernel
theorem dL_law_321 : decode cL_law 321 = .ok (.aload_n 2, 1) := by decide +kernel
theorem dL_law_322 : decode cL_law 322 = .ok (.invokevirtual 85, 3) := by decide +kernel
theorem dL_law_325 : decode cL_law 325 = .ok (.iload 5, 2) := by decide +kernel
theorem dL_law_327 : decode cL_law 327 = .ok (.if_icmp .eq 5, 3) := by decide +kernel
theorem dL_law_330 : decode cL_law 330 = .ok (.iconst 0, 1) := by decide +kernel
theorem dL_law_331 : decode cL_law 331 = .ok (.ireturn, 1) := by decide +kernel
theorem dL_law_332 : decode cL_law 332 = .ok (.iload 5, 2) := by decide +kernel
theorem dL_law_334 : decode cL_law 334 = .ok (.ifCond .ne 15, 3) := by decide +kernel
theorem dL_law_337 : decode cL_law 337 = .ok (.aload_n 3, 1) := by decide +kernel
theorem dL_law_338 : decode cL_law 338 = .ok (.iconst 0, 1) := by decide +kernel
theorem dL_law_339 : decode cL_law 339 = .ok (.laload, 1) := by decide +kernel
theorem dL_law_340 : decode cL_law 340 = .ok (.iload 6, 2) := by decide +kernel
theorem dL_law_342 : decode cL_law 342 = .ok (.i2l, 1) := by decide +kernel
theorem dL_law_343 : decode cL_law 343 = .ok (.lcmp, 1) := by decide +kernel
theorem dL_law_344 : decode cL_law 344 = .ok (.ifCond .eq 5, 3) := by decide +kernel
theorem dL_law_347 : decode cL_law 347 = .ok (.iconst 0, 1) := by decide +kernel
theorem dL_law_348 : decode cL_law 348 = .ok (.ireturn, 1) := by decide +kernel
theorem dL_law_349 : decode cL_law 349 = .ok (.goto 1068, 3) := by decide +kernel
theorem dL_law_352 : decode cL_law 352 = .ok (.aload_n 1, 1) := by decide +kernel
theorem dL_law_353 : decode cL_law 353 = .ok (.invokevirtual 95, 3) := by decide +kernel
theorem dL_law_356 : decode cL_law 356 = .ok (.aload_n 2, 1) := by decide +kernel
theorem dL_law_357 : decode cL_law 357 = .ok (.invokevirtual 98, 3) := by decide +kernel
theorem dL_law_360 : decode cL_law 360 = .ok (.if_icmp .eq 1057, 3) := by decide +kernel
theorem dL_law_363 : decode cL_law 363 = .ok (.iconst 0, 1) := by decide +kernel
theorem dL_law_364 : decode cL_law 364 = .ok (.ireturn, 1) := by decide +kernel
theorem dL_law_365 : decode cL_law 365 = .ok (.aload_n 1, 1) := by decide +kernel
theorem dL_law_366 : decode cL_law 366 = .ok (.aload_n 0, 1) := by decide +kernel
theorem dL_law_367 : decode cL_law 367 = .ok (.iload 4, 2) := by decide +kernel
theorem dL_law_369 : decode cL_law 369 = .ok (.iconst 1, 1) := by decide +kernel
theorem dL_law_370 : decode cL_law 370 = .ok (.iadd, 1) := by decide +kernel
theorem dL_law_371 : decode cL_law 371 = .ok (.iaload, 1) := by decide +kernel
theorem dL_law_372 : decode cL_law 372 = .ok (.aload_n 3, 1) := by decide +kernel
theorem dL_law_373 : decode cL_law 373 = .ok (.invokestatic 99, 3) := by decide +kernel
theorem dL_law_376 : decode cL_law 376 = .ok (.istore 5, 2) := by decide +kernel
theorem dL_law_378 : decode cL_law 378 = .ok (.aload_n 2, 1) := by decide +kernel
theorem dL_law_379 : decode cL_law 379 = .ok (.aload_n 0, 1) := by decide +kernel
theorem dL_law_380 : decode cL_law 380 = .ok (.iload 4, 2) := by decide +kernel
theorem dL_law_382 : decode cL_law 382 = .ok (.iconst 1, 1) := by decide +kernel
theorem dL_law_383 : decode cL_law 383 = .ok (.iadd, 1) := by decide +kernel
theorem dL_law_384 : decode cL_law 384 = .ok (.iaload, 1) := by decide +kernel
theorem dL_law_385 : decode cL_law 385 = .ok (.invokevirtual 101, 3) := by decide +kernel
theorem dL_law_388 : decode cL_law 388 = .ok (.istore 6, 2) := by decide +kernel
theorem dL_law_390 : decode cL_law 390 = .ok (.aload_n 2, 1) := by decide +kernel
theorem dL_law_391 : decode cL_law 391 = .ok (.invokevirtual 85, 3) := by decide +kernel
theorem dL_law_394 : decode cL_law 394 = .ok (.iload 5, 2) := by decide +kernel
theorem dL_law_396 : decode cL_law 396 = .ok (.if_icmp .eq 5, 3) := by decide +kernel
theorem dL_law_399 : decode cL_law 399 = .ok (.iconst 0, 1) := by decide +kernel
theorem dL_law_400 : decode cL_law 400 = .ok (.ireturn, 1) := by decide +kernel
theorem dL_law_401 : decode cL_law 401 = .ok (.iload 5, 2) := by decide +kernel
theorem dL_law_403 : decode cL_law 403 = .ok (.ifCond .ne 15, 3) := by decide +kernel
theorem dL_law_406 : decode cL_law 406 = .ok (.aload_n 3, 1) := by decide +kernel
theorem dL_law_407 : decode cL_law 407 = .ok (.iconst 0, 1) := by decide +kernel
theorem dL_law_408 : decode cL_law 408 = .ok (.laload, 1) := by decide +kernel
theorem dL_law_409 : decode cL_law 409 = .ok (.iload 6, 2) := by decide +kernel
theorem dL_law_411 : decode cL_law 411 = .ok (.i2l, 1) := by decide +kernel
theorem dL_law_412 : decode cL_law 412 = .ok (.lcmp, 1) := by decide +kernel
theorem dL_law_413 : decode cL_law 413 = .ok (.ifCond .eq 5, 3) := by decide +kernel
theorem dL_law_416 : decode cL_law 416 = .ok (.iconst 0, 1) := by decide +kernel
theorem dL_law_417 : decode cL_law 417 = .ok (.ireturn, 1) := by decide +kernel
theorem dL_law_418 : decode cL_law 418 = .ok (.goto 999, 3) := by decide +kernel
theorem dL_law_421 : decode cL_law 421 = .ok (.aload_n 1, 1) := by decide +kernel
theorem dL_law_422 : decode cL_law 422 = .ok (.aload_n 3, 1) := by decide +kernel
theorem dL_law_423 : decode cL_law 423 = .ok (.invokestatic 102, 3) := by decide +kernel
theorem dL_law_426 : decode cL_law 426 = .ok (.istore 5, 2) := by decide +kernel
theorem dL_law_428 : decode cL_law 428 = .ok (.aload_n 2, 1) := by decide +kernel
theorem dL_law_429 : decode cL_law 429 = .ok (.invokevirtual 105, 3) := by decide +kernel
theorem dL_law_432 : decode cL_law 432 = .ok (.istore 6, 2) := by decide +kernel
theorem dL_law_434 : decode cL_law 434 = .ok (.aload_n 2, 1) := by decide +kernel
theorem dL_law_435 : decode cL_law 435 = .ok (.invokevirtual 85, 3) := by decide +kernel
theorem dL_law_438 : decode cL_law 438 = .ok (.iload 5, 2) := by decide +kernel
theorem dL_law_440 : decode cL_law 440 = .ok (.if_icmp .eq 5, 3) := by decide +kernel
theorem dL_law_443 : decode cL_law 443 = .ok (.iconst 0, 1) := by decide +kernel
theorem dL_law_444 : decode cL_law 444 = .ok (.ireturn, 1) := by decide +kernel
theorem dL_law_445 : decode cL_law 445 = .ok (.iload 5, 2) := by decide +kernel
theorem dL_law_447 : decode cL_law 447 = .ok (.ifCond .ne 15, 3) := by decide +kernel
theorem dL_law_450 : decode cL_law 450 = .ok (.aload_n 3, 1) := by decide +kernel
theorem dL_law_451 : decode cL_law 451 = .ok (.iconst 0, 1) := by decide +kernel
theorem dL_law_452 : decode cL_law 452 = .ok (.laload, 1) := by decide +kernel
theorem dL_law_453 : decode cL_law 453 = .ok (.iload 6, 2) := by decide +kernel
theorem dL_law_455 : decode cL_law 455 = .ok (.i2l, 1) := by decide +kernel
theorem dL_law_456 : decode cL_law 456 = .ok (.lcmp, 1) := by decide +kernel
theorem dL_law_457 : decode cL_law 457 = .ok (.ifCond .eq 5, 3) := by decide +kernel
theorem dL_law_460 : decode cL_law 460 = .ok (.iconst 0, 1) := by decide +kernel
theorem dL_law_461 : decode cL_law 461 = .ok (.ireturn, 1) := by decide +kernel
theorem dL_law_462 : decode cL_law 462 = .ok (.goto 955, 3) := by decide +kernel
theorem dL_law_465 : decode cL_law 465 = .ok (.aload_n 1, 1) := by decide +kernel
theorem dL_law_466 : decode cL_law 466 = .ok (.aload_n 3, 1) := by decide +kernel
theorem dL_law_467 : decode cL_law 467 = .ok (.invokestatic 106, 3) := by decide +kernel
theorem dL_law_470 : decode cL_law 470 = .ok (.istore 5, 2) := by decide +kernel
theorem dL_law_472 : decode cL_law 472 = .ok (.aload_n 2, 1) := by decide +kernel
theorem dL_law_473 : decode cL_law 473 = .ok (.invokevirtual 108, 3) := by decide +kernel
theorem dL_law_476 : decode cL_law 476 = .ok (.istore 6, 2) := by decide +kernel
theorem dL_law_478 : decode cL_law 478 = .ok (.aload_n 2, 1) := by decide +kernel
theorem dL_law_479 : decode cL_law 479 = .ok (.invokevirtual 85, 3) := by decide +kernel
theorem dL_law_482 : decode cL_law 482 = .ok (.iload 5, 2) := by decide +kernel
theorem dL_law_484 : decode cL_law 484 = .ok (.if_icmp .eq 5, 3) := by decide +kernel
theorem dL_law_487 : decode cL_law 487 = .ok (.iconst 0, 1) := by decide +kernel
theorem dL_law_488 : decode cL_law 488 = .ok (.ireturn, 1) := by decide +kernel
theorem dL_law_489 : decode cL_law 489 = .ok (.iload 5, 2) := by decide +kernel
theorem dL_law_491 : decode cL_law 491 = .ok (.ifCond .ne 15, 3) := by decide +kernel
theorem dL_law_494 : decode cL_law 494 = .ok (.aload_n 3, 1) := by decide +kernel
theorem dL_law_495 : decode cL_law 495 = .ok (.iconst 0, 1) := by decide +kernel
theorem dL_law_496 : decode cL_law 496 = .ok (.laload, 1) := by decide +kernel
theorem dL_law_497 : decode cL_law 497 = .ok (.iload 6, 2) := by decide +kernel
theorem dL_law_499 : decode cL_law 499 = .ok (.i2l, 1) := by decide +kernel
theorem dL_law_500 : decode cL_law 500 = .ok (.lcmp, 1) := by decide +kernel
theorem dL_law_501 : decode cL_law 501 = .ok (.ifCond .eq 5, 3) := by decide +kernel
theorem dL_law_504 : decode cL_law 504 = .ok (.iconst 0, 1) := by decide +kernel
theorem dL_law_505 : decode cL_law 505 = .ok (.ireturn, 1) := by decide +kernel
theorem dL_law_506 : decode cL_law 506 = .ok (.goto 911, 3) := by decide +kernel
theorem dL_law_509 : decode cL_law 509 = .ok (.aload_n 1, 1) := by decide +kernel
theorem dL_law_510 : decode cL_law 510 = .ok (.aload_n 0, 1) := by decide +kernel
theorem dL_law_511 : decode cL_law 511 = .ok (.iload 4, 2) := by decide +kernel
theorem dL_law_513 : decode cL_law 513 = .ok (.iconst 1, 1) := by decide +kernel
theorem dL_law_514 : decode cL_law 514 = .ok (.iadd, 1) := by decide +kernel
theorem dL_law_515 : decode cL_law 515 = .ok (.iaload, 1) := by decide +kernel
theorem dL_law_516 : decode cL_law 516 = .ok (.aload_n 3, 1) := by decide +kernel
theorem dL_law_517 : decode cL_law 517 = .ok (.invokestatic 109, 3) := by decide +kernel
theorem dL_law_520 : decode cL_law 520 = .ok (.istore 5, 2) := by decide +kernel
theorem dL_law_522 : decode cL_law 522 = .ok (.aload_n 2, 1) := by decide +kernel
theorem dL_law_523 : decode cL_law 523 = .ok (.aload_n 0, 1) := by decide +kernel
theorem dL_law_524 : decode cL_law 524 = .ok (.iload 4, 2) := by decide +kernel
theorem dL_law_526 : decode cL_law 526 = .ok (.iconst 1, 1) := by decide +kernel
theorem dL_law_527 : decode cL_law 527 = .ok (.iadd, 1) := by decide +kernel
theorem dL_law_528 : decode cL_law 528 = .ok (.iaload, 1) := by decide +kernel
theorem dL_law_529 : decode cL_law 529 = .ok (.invokevirtual 111, 3) := by decide +kernel
theorem dL_law_532 : decode cL_law 532 = .ok (.istore 6, 2) := by decide +kernel
theorem dL_law_534 : decode cL_law 534 = .ok (.aload_n 2, 1) := by decide +kernel
theorem dL_law_535 : decode cL_law 535 = .ok (.invokevirtual 85, 3) := by decide +kernel
theorem dL_law_538 : decode cL_law 538 = .ok (.iload 5, 2) := by decide +kernel
theorem dL_law_540 : decode cL_law 540 = .ok (.if_icmp .eq 5, 3) := by decide +kernel
theorem dL_law_543 : decode cL_law 543 = .ok (.iconst 0, 1) := by decide +kernel
theorem dL_law_544 : decode cL_law 544 = .ok (.ireturn, 1) := by decide +kernel
theorem dL_law_545 : decode cL_law 545 = .ok (.iload 5, 2) := by decide +kernel
theorem dL_law_547 : decode cL_law 547 = .ok (.ifCond .ne 15, 3) := by decide +kernel
theorem dL_law_550 : decode cL_law 550 = .ok (.aload_n 3, 1) := by decide +kernel
theorem dL_law_551 : decode cL_law 551 = .ok (.iconst 0, 1) := by decide +kernel
theorem dL_law_552 : decode cL_law 552 = .ok (.laload, 1) := by decide +kernel
theorem dL_law_553 : decode cL_law 553 = .ok (.iload 6, 2) := by decide +kernel
theorem dL_law_555 : decode cL_law 555 = .ok (.i2l, 1) := by decide +kernel
theorem dL_law_556 : decode cL_law 556 = .ok (.lcmp, 1) := by decide +kernel
theorem dL_law_557 : decode cL_law 557 = .ok (.ifCond .eq 5, 3) := by decide +kernel
theorem dL_law_560 : decode cL_law 560 = .ok (.iconst 0, 1) := by decide +kernel
theorem dL_law_561 : decode cL_law 561 = .ok (.ireturn, 1) := by decide +kernel
theorem dL_law_562 : decode cL_law 562 = .ok (.goto 855, 3) := by decide +kernel
theorem dL_law_565 : decode cL_law 565 = .ok (.aload_n 1, 1) := by decide +kernel
theorem dL_law_566 : decode cL_law 566 = .ok (.aload_n 0, 1) := by decide +kernel
theorem dL_law_567 : decode cL_law 567 = .ok (.iload 4, 2) := by decide +kernel
theorem dL_law_569 : decode cL_law 569 = .ok (.iconst 1, 1) := by decide +kernel
theorem dL_law_570 : decode cL_law 570 = .ok (.iadd, 1) := by decide +kernel
theorem dL_law_571 : decode cL_law 571 = .ok (.iaload, 1) := by decide +kernel
theorem dL_law_572 : decode cL_law 572 = .ok (.aload_n 0, 1) := by decide +kernel
theorem dL_law_573 : decode cL_law 573 = .ok (.iload 4, 2) := by decide +kernel
theorem dL_law_575 : decode cL_law 575 = .ok (.iconst 2, 1) := by decide +kernel
theorem dL_law_576 : decode cL_law 576 = .ok (.iadd, 1) := by decide +kernel
theorem dL_law_577 : decode cL_law 577 = .ok (.iaload, 1) := by decide +kernel
theorem dL_law_578 : decode cL_law 578 = .ok (.aload_n 3, 1) := by decide +kernel
theorem dL_law_579 : decode cL_law 579 = .ok (.invokestatic 112, 3) := by decide +kernel
theorem dL_law_582 : decode cL_law 582 = .ok (.istore 5, 2) := by decide +kernel
theorem dL_law_584 : decode cL_law 584 = .ok (.aload_n 2, 1) := by decide +kernel
theorem dL_law_585 : decode cL_law 585 = .ok (.aload_n 0, 1) := by decide +kernel
theorem dL_law_586 : decode cL_law 586 = .ok (.iload 4, 2) := by decide +kernel
theorem dL_law_588 : decode cL_law 588 = .ok (.iconst 1, 1) := by decide +kernel
theorem dL_law_589 : decode cL_law 589 = .ok (.iadd, 1) := by decide +kernel
theorem dL_law_590 : decode cL_law 590 = .ok (.iaload, 1) := by decide +kernel
theorem dL_law_591 : decode cL_law 591 = .ok (.aload_n 0, 1) := by decide +kernel
theorem dL_law_592 : decode cL_law 592 = .ok (.iload 4, 2) := by decide +kernel
theorem dL_law_594 : decode cL_law 594 = .ok (.iconst 2, 1) := by decide +kernel
theorem dL_law_595 : decode cL_law 595 = .ok (.iadd, 1) := by decide +kernel
theorem dL_law_596 : decode cL_law 596 = .ok (.iaload, 1) := by decide +kernel
theorem dL_law_597 : decode cL_law 597 = .ok (.invokevirtual 114, 3) := by decide +kernel
theorem dL_law_600 : decode cL_law 600 = .ok (.istore 6, 2) := by decide +kernel
theorem dL_law_602 : decode cL_law 602 = .ok (.aload_n 2, 1) := by decide +kernel
theorem dL_law_603 : decode cL_law 603 = .ok (.invokevirtual 85, 3) := by decide +kernel
theorem dL_law_606 : decode cL_law 606 = .ok (.iload 5, 2) := by decide +kernel
theorem dL_law_608 : decode cL_law 608 = .ok (.if_icmp .eq 5, 3) := by decide +kernel
theorem dL_law_611 : decode cL_law 611 = .ok (.iconst 0, 1) := by decide +kernel
theorem dL_law_612 : decode cL_law 612 = .ok (.ireturn, 1) := by decide +kernel
theorem dL_law_613 : decode cL_law 613 = .ok (.iload 5, 2) := by decide +kernel
theorem dL_law_615 : decode cL_law 615 = .ok (.ifCond .ne 15, 3) := by decide +kernel
theorem dL_law_618 : decode cL_law 618 = .ok (.aload_n 3, 1) := by decide +kernel
theorem dL_law_619 : decode cL_law 619 = .ok (.iconst 0, 1) := by decide +kernel
theorem dL_law_620 : decode cL_law 620 = .ok (.laload, 1) := by decide +kernel
theorem dL_law_621 : decode cL_law 621 = .ok (.iload 6, 2) := by decide +kernel
theorem dL_law_623 : decode cL_law 623 = .ok (.i2l, 1) := by decide +kernel
theorem dL_law_624 : decode cL_law 624 = .ok (.lcmp, 1) := by decide +kernel
theorem dL_law_625 : decode cL_law 625 = .ok (.ifCond .eq 5, 3) := by decide +kernel
theorem dL_law_628 : decode cL_law 628 = .ok (.iconst 0, 1) := by decide +kernel
theorem dL_law_629 : decode cL_law 629 = .ok (.ireturn, 1) := by decide +kernel
theorem dL_law_630 : decode cL_law 630 = .ok (.goto 787, 3) := by decide +kernel
theorem dL_law_633 : decode cL_law 633 = .ok (.aload_n 1, 1) := by decide +kernel
theorem dL_law_634 : decode cL_law 634 = .ok (.aload_n 0, 1) := by decide +kernel
theorem dL_law_635 : decode cL_law 635 = .ok (.iload 4, 2) := by decide +kernel
theorem dL_law_637 : decode cL_law 637 = .ok (.iconst 1, 1) := by decide +kernel
theorem dL_law_638 : decode cL_law 638 = .ok (.iadd, 1) := by decide +kernel
theorem dL_law_639 : decode cL_law 639 = .ok (.iaload, 1) := by decide +kernel
theorem dL_law_640 : decode cL_law 640 = .ok (.aload_n 3, 1) := by decide +kernel
theorem dL_law_641 : decode cL_law 641 = .ok (.invokestatic 115, 3) := by decide +kernel
theorem dL_law_644 : decode cL_law 644 = .ok (.istore 5, 2) := by decide +kernel
theorem dL_law_646 : decode cL_law 646 = .ok (.aload_n 2, 1) := by decide +kernel
theorem dL_law_647 : decode cL_law 647 = .ok (.aload_n 0, 1) := by decide +kernel
theorem dL_law_648 : decode cL_law 648 = .ok (.iload 4, 2) := by decide +kernel
theorem dL_law_650 : decode cL_law 650 = .ok (.iconst 1, 1) := by decide +kernel
theorem dL_law_651 : decode cL_law 651 = .ok (.iadd, 1) := by decide +kernel
theorem dL_law_652 : decode cL_law 652 = .ok (.iaload, 1) := by decide +kernel
theorem dL_law_653 : decode cL_law 653 = .ok (.invokevirtual 117, 3) := by decide +kernel
theorem dL_law_656 : decode cL_law 656 = .ok (.istore 6, 2) := by decide +kernel
theorem dL_law_658 : decode cL_law 658 = .ok (.aload_n 2, 1) := by decide +kernel
theorem dL_law_659 : decode cL_law 659 = .ok (.invokevirtual 85, 3) := by decide +kernel
theorem dL_law_662 : decode cL_law 662 = .ok (.iload 5, 2) := by decide +kernel
theorem dL_law_664 : decode cL_law 664 = .ok (.if_icmp .eq 5, 3) := by decide +kernel
theorem dL_law_667 : decode cL_law 667 = .ok (.iconst 0, 1) := by decide +kernel
theorem dL_law_668 : decode cL_law 668 = .ok (.ireturn, 1) := by decide +kernel
theorem dL_law_669 : decode cL_law 669 = .ok (.iload 5, 2) := by decide +kernel
theorem dL_law_671 : decode cL_law 671 = .ok (.ifCond .ne 15, 3) := by decide +kernel
theorem dL_law_674 : decode cL_law 674 = .ok (.aload_n 3, 1) := by decide +kernel
theorem dL_law_675 : decode cL_law 675 = .ok (.iconst 0, 1) := by decide +kernel
theorem dL_law_676 : decode cL_law 676 = .ok (.laload, 1) := by decide +kernel
theorem dL_law_677 : decode cL_law 677 = .ok (.iload 6, 2) := by decide +kernel
theorem dL_law_679 : decode cL_law 679 = .ok (.i2l, 1) := by decide +kernel
theorem dL_law_680 : decode cL_law 680 = .ok (.lcmp, 1) := by decide +kernel
theorem dL_law_681 : decode cL_law 681 = .ok (.ifCond .eq 5, 3) := by decide +kernel
theorem dL_law_684 : decode cL_law 684 = .ok (.iconst 0, 1) := by decide +kernel
theorem dL_law_685 : decode cL_law 685 = .ok (.ireturn, 1) := by decide +kernel
theorem dL_law_686 : decode cL_law 686 = .ok (.goto 731, 3) := by decide +kernel
theorem dL_law_689 : decode cL_law 689 = .ok (.aload_n 1, 1) := by decide +kernel
theorem dL_law_690 : decode cL_law 690 = .ok (.invokevirtual 118, 3) := by decide +kernel
theorem dL_law_693 : decode cL_law 693 = .ok (.aload_n 2, 1) := by decide +kernel
theorem dL_law_694 : decode cL_law 694 = .ok (.invokevirtual 121, 3) := by decide +kernel
theorem dL_law_697 : decode cL_law 697 = .ok (.if_icmp .eq 720, 3) := by decide +kernel
theorem dL_law_700 : decode cL_law 700 = .ok (.iconst 0, 1) := by decide +kernel
theorem dL_law_701 : decode cL_law 701 = .ok (.ireturn, 1) := by decide +kernel
theorem dL_law_702 : decode cL_law 702 = .ok (.aload_n 1, 1) := by decide +kernel
theorem dL_law_703 : decode cL_law 703 = .ok (.invokevirtual 122, 3) := by decide +kernel
theorem dL_law_706 : decode cL_law 706 = .ok (.aload_n 2, 1) := by decide +kernel
theorem dL_law_707 : decode cL_law 707 = .ok (.invokevirtual 125, 3) := by decide +kernel
theorem dL_law_710 : decode cL_law 710 = .ok (.if_icmp .eq 707, 3) := by decide +kernel
theorem dL_law_713 : decode cL_law 713 = .ok (.iconst 0, 1) := by decide +kernel
theorem dL_law_714 : decode cL_law 714 = .ok (.ireturn, 1) := by decide +kernel
theorem dL_law_715 : decode cL_law 715 = .ok (.aload_n 1, 1) := by decide +kernel
theorem dL_law_716 : decode cL_law 716 = .ok (.aload_n 3, 1) := by decide +kernel
theorem dL_law_717 : decode cL_law 717 = .ok (.invokestatic 126, 3) := by decide +kernel
theorem dL_law_720 : decode cL_law 720 = .ok (.istore 5, 2) := by decide +kernel
theorem dL_law_722 : decode cL_law 722 = .ok (.aload_n 2, 1) := by decide +kernel
theorem dL_law_723 : decode cL_law 723 = .ok (.invokevirtual 128, 3) := by decide +kernel
theorem dL_law_726 : decode cL_law 726 = .ok (.istore 6, 2) := by decide +kernel
theorem dL_law_728 : decode cL_law 728 = .ok (.aload_n 2, 1) := by decide +kernel
theorem dL_law_729 : decode cL_law 729 = .ok (.invokevirtual 85, 3) := by decide +kernel
theorem dL_law_732 : decode cL_law 732 = .ok (.iload 5, 2) := by decide +kernel
theorem dL_law_734 : decode cL_law 734 = .ok (.if_icmp .eq 5, 3) := by decide +kernel
theorem dL_law_737 : decode cL_law 737 = .ok (.iconst 0, 1) := by decide +kernel
theorem dL_law_738 : decode cL_law 738 = .ok (.ireturn, 1) := by decide +kernel
theorem dL_law_739 : decode cL_law 739 = .ok (.iload 5, 2) := by decide +kernel
theorem dL_law_741 : decode cL_law 741 = .ok (.ifCond .ne 15, 3) := by decide +kernel
theorem dL_law_744 : decode cL_law 744 = .ok (.aload_n 3, 1) := by decide +kernel
theorem dL_law_745 : decode cL_law 745 = .ok (.iconst 0, 1) := by decide +kernel
theorem dL_law_746 : decode cL_law 746 = .ok (.laload, 1) := by decide +kernel
theorem dL_law_747 : decode cL_law 747 = .ok (.iload 6, 2) := by decide +kernel
theorem dL_law_749 : decode cL_law 749 = .ok (.i2l, 1) := by decide +kernel
theorem dL_law_750 : decode cL_law 750 = .ok (.lcmp, 1) := by decide +kernel
theorem dL_law_751 : decode cL_law 751 = .ok (.ifCond .eq 5, 3) := by decide +kernel
theorem dL_law_754 : decode cL_law 754 = .ok (.iconst 0, 1) := by decide +kernel
theorem dL_law_755 : decode cL_law 755 = .ok (.ireturn, 1) := by decide +kernel
theorem dL_law_756 : decode cL_law 756 = .ok (.goto 661, 3) := by decide +kernel
theorem dL_law_759 : decode cL_law 759 = .ok (.aload_n 1, 1) := by decide +kernel
theorem dL_law_760 : decode cL_law 760 = .ok (.aload_n 0, 1) := by decide +kernel
theorem dL_law_761 : decode cL_law 761 = .ok (.iload 4, 2) := by decide +kernel
theorem dL_law_763 : decode cL_law 763 = .ok (.iconst 1, 1) := by decide +kernel
theorem dL_law_764 : decode cL_law 764 = .ok (.iadd, 1) := by decide +kernel
theorem dL_law_765 : decode cL_law 765 = .ok (.iaload, 1) := by decide +kernel
theorem dL_law_766 : decode cL_law 766 = .ok (.aload_n 0, 1) := by decide +kernel
theorem dL_law_767 : decode cL_law 767 = .ok (.iload 4, 2) := by decide +kernel
theorem dL_law_769 : decode cL_law 769 = .ok (.iconst 2, 1) := by decide +kernel
theorem dL_law_770 : decode cL_law 770 = .ok (.iadd, 1) := by decide +kernel
theorem dL_law_771 : decode cL_law 771 = .ok (.iaload, 1) := by decide +kernel
theorem dL_law_772 : decode cL_law 772 = .ok (.aload_n 3, 1) := by decide +kernel
theorem dL_law_773 : decode cL_law 773 = .ok (.invokestatic 129, 3) := by decide +kernel
theorem dL_law_776 : decode cL_law 776 = .ok (.istore 5, 2) := by decide +kernel
theorem dL_law_778 : decode cL_law 778 = .ok (.aload_n 2, 1) := by decide +kernel
theorem dL_law_779 : decode cL_law 779 = .ok (.aload_n 0, 1) := by decide +kernel
theorem dL_law_780 : decode cL_law 780 = .ok (.iload 4, 2) := by decide +kernel
theorem dL_law_782 : decode cL_law 782 = .ok (.iconst 1, 1) := by decide +kernel
theorem dL_law_783 : decode cL_law 783 = .ok (.iadd, 1) := by decide +kernel
theorem dL_law_784 : decode cL_law 784 = .ok (.iaload, 1) := by decide +kernel
theorem dL_law_785 : decode cL_law 785 = .ok (.aload_n 0, 1) := by decide +kernel
theorem dL_law_786 : decode cL_law 786 = .ok (.iload 4, 2) := by decide +kernel
theorem dL_law_788 : decode cL_law 788 = .ok (.iconst 2, 1) := by decide +kernel
theorem dL_law_789 : decode cL_law 789 = .ok (.iadd, 1) := by decide +kernel
theorem dL_law_790 : decode cL_law 790 = .ok (.iaload, 1) := by decide +kernel
theorem dL_law_791 : decode cL_law 791 = .ok (.invokevirtual 131, 3) := by decide +kernel
theorem dL_law_794 : decode cL_law 794 = .ok (.istore 6, 2) := by decide +kernel
theorem dL_law_796 : decode cL_law 796 = .ok (.aload_n 2, 1) := by decide +kernel
theorem dL_law_797 : decode cL_law 797 = .ok (.invokevirtual 85, 3) := by decide +kernel
theorem dL_law_800 : decode cL_law 800 = .ok (.iload 5, 2) := by decide +kernel
theorem dL_law_802 : decode cL_law 802 = .ok (.if_icmp .eq 5, 3) := by decide +kernel
theorem dL_law_805 : decode cL_law 805 = .ok (.iconst 0, 1) := by decide +kernel
theorem dL_law_806 : decode cL_law 806 = .ok (.ireturn, 1) := by decide +kernel
theorem dL_law_807 : decode cL_law 807 = .ok (.iload 5, 2) := by decide +kernel
theorem dL_law_809 : decode cL_law 809 = .ok (.ifCond .ne 15, 3) := by decide +kernel
theorem dL_law_812 : decode cL_law 812 = .ok (.aload_n 3, 1) := by decide +kernel
theorem dL_law_813 : decode cL_law 813 = .ok (.iconst 0, 1) := by decide +kernel
theorem dL_law_814 : decode cL_law 814 = .ok (.laload, 1) := by decide +kernel
theorem dL_law_815 : decode cL_law 815 = .ok (.iload 6, 2) := by decide +kernel
theorem dL_law_817 : decode cL_law 817 = .ok (.i2l, 1) := by decide +kernel
theorem dL_law_818 : decode cL_law 818 = .ok (.lcmp, 1) := by decide +kernel
theorem dL_law_819 : decode cL_law 819 = .ok (.ifCond .eq 5, 3) := by decide +kernel
theorem dL_law_822 : decode cL_law 822 = .ok (.iconst 0, 1) := by decide +kernel
theorem dL_law_823 : decode cL_law 823 = .ok (.ireturn, 1) := by decide +kernel
theorem dL_law_824 : decode cL_law 824 = .ok (.goto 593, 3) := by decide +kernel
theorem dL_law_827 : decode cL_law 827 = .ok (.aload_n 1, 1) := by decide +kernel
theorem dL_law_828 : decode cL_law 828 = .ok (.aload_n 0, 1) := by decide +kernel
theorem dL_law_829 : decode cL_law 829 = .ok (.iload 4, 2) := by decide +kernel
theorem dL_law_831 : decode cL_law 831 = .ok (.iconst 1, 1) := by decide +kernel
theorem dL_law_832 : decode cL_law 832 = .ok (.iadd, 1) := by decide +kernel
theorem dL_law_833 : decode cL_law 833 = .ok (.iaload, 1) := by decide +kernel
theorem dL_law_834 : decode cL_law 834 = .ok (.aload_n 0, 1) := by decide +kernel
theorem dL_law_835 : decode cL_law 835 = .ok (.iload 4, 2) := by decide +kernel
theorem dL_law_837 : decode cL_law 837 = .ok (.iconst 2, 1) := by decide +kernel
theorem dL_law_838 : decode cL_law 838 = .ok (.iadd, 1) := by decide +kernel
theorem dL_law_839 : decode cL_law 839 = .ok (.iaload, 1) := by decide +kernel
theorem dL_law_840 : decode cL_law 840 = .ok (.aload_n 3, 1) := by decide +kernel
theorem dL_law_841 : decode cL_law 841 = .ok (.invokestatic 132, 3) := by decide +kernel
theorem dL_law_844 : decode cL_law 844 = .ok (.istore 5, 2) := by decide +kernel
theorem dL_law_846 : decode cL_law 846 = .ok (.aload_n 2, 1) := by decide +kernel
theorem dL_law_847 : decode cL_law 847 = .ok (.aload_n 0, 1) := by decide +kernel
theorem dL_law_848 : decode cL_law 848 = .ok (.iload 4, 2) := by decide +kernel
theorem dL_law_850 : decode cL_law 850 = .ok (.iconst 1, 1) := by decide +kernel
theorem dL_law_851 : decode cL_law 851 = .ok (.iadd, 1) := by decide +kernel
theorem dL_law_852 : decode cL_law 852 = .ok (.iaload, 1) := by decide +kernel
theorem dL_law_853 : decode cL_law 853 = .ok (.aload_n 0, 1) := by decide +kernel
theorem dL_law_854 : decode cL_law 854 = .ok (.iload 4, 2) := by decide +kernel
theorem dL_law_856 : decode cL_law 856 = .ok (.iconst 2, 1) := by decide +kernel
theorem dL_law_857 : decode cL_law 857 = .ok (.iadd, 1) := by decide +kernel
theorem dL_law_858 : decode cL_law 858 = .ok (.iaload, 1) := by decide +kernel
theorem dL_law_859 : decode cL_law 859 = .ok (.invokevirtual 134, 3) := by decide +kernel
theorem dL_law_862 : decode cL_law 862 = .ok (.istore 6, 2) := by decide +kernel
theorem dL_law_864 : decode cL_law 864 = .ok (.aload_n 2, 1) := by decide +kernel
theorem dL_law_865 : decode cL_law 865 = .ok (.invokevirtual 85, 3) := by decide +kernel
theorem dL_law_868 : decode cL_law 868 = .ok (.iload 5, 2) := by decide +kernel
theorem dL_law_870 : decode cL_law 870 = .ok (.if_icmp .eq 5, 3) := by decide +kernel
theorem dL_law_873 : decode cL_law 873 = .ok (.iconst 0, 1) := by decide +kernel
theorem dL_law_874 : decode cL_law 874 = .ok (.ireturn, 1) := by decide +kernel
theorem dL_law_875 : decode cL_law 875 = .ok (.iload 5, 2) := by decide +kernel
theorem dL_law_877 : decode cL_law 877 = .ok (.ifCond .ne 15, 3) := by decide +kernel
theorem dL_law_880 : decode cL_law 880 = .ok (.aload_n 3, 1) := by decide +kernel
theorem dL_law_881 : decode cL_law 881 = .ok (.iconst 0, 1) := by decide +kernel
theorem dL_law_882 : decode cL_law 882 = .ok (.laload, 1) := by decide +kernel
theorem dL_law_883 : decode cL_law 883 = .ok (.iload 6, 2) := by decide +kernel
theorem dL_law_885 : decode cL_law 885 = .ok (.i2l, 1) := by decide +kernel
theorem dL_law_886 : decode cL_law 886 = .ok (.lcmp, 1) := by decide +kernel
theorem dL_law_887 : decode cL_law 887 = .ok (.ifCond .eq 5, 3) := by decide +kernel
theorem dL_law_890 : decode cL_law 890 = .ok (.iconst 0, 1) := by decide +kernel
theorem dL_law_891 : decode cL_law 891 = .ok (.ireturn, 1) := by decide +kernel
theorem dL_law_892 : decode cL_law 892 = .ok (.goto 525, 3) := by decide +kernel
theorem dL_law_895 : decode cL_law 895 = .ok (.aload_n 1, 1) := by decide +kernel
theorem dL_law_896 : decode cL_law 896 = .ok (.aload_n 0, 1) := by decide +kernel
theorem dL_law_897 : decode cL_law 897 = .ok (.iload 4, 2) := by decide +kernel
theorem dL_law_899 : decode cL_law 899 = .ok (.iconst 1, 1) := by decide +kernel
theorem dL_law_900 : decode cL_law 900 = .ok (.iadd, 1) := by decide +kernel
theorem dL_law_901 : decode cL_law 901 = .ok (.iaload, 1) := by decide +kernel
theorem dL_law_902 : decode cL_law 902 = .ok (.aload_n 3, 1) := by decide +kernel
theorem dL_law_903 : decode cL_law 903 = .ok (.invokestatic 135, 3) := by decide +kernel
theorem dL_law_906 : decode cL_law 906 = .ok (.istore 5, 2) := by decide +kernel
theorem dL_law_908 : decode cL_law 908 = .ok (.aload_n 2, 1) := by decide +kernel
theorem dL_law_909 : decode cL_law 909 = .ok (.aload_n 0, 1) := by decide +kernel
theorem dL_law_910 : decode cL_law 910 = .ok (.iload 4, 2) := by decide +kernel
theorem dL_law_912 : decode cL_law 912 = .ok (.iconst 1, 1) := by decide +kernel
theorem dL_law_913 : decode cL_law 913 = .ok (.iadd, 1) := by decide +kernel
theorem dL_law_914 : decode cL_law 914 = .ok (.iaload, 1) := by decide +kernel
theorem dL_law_915 : decode cL_law 915 = .ok (.invokevirtual 137, 3) := by decide +kernel
theorem dL_law_918 : decode cL_law 918 = .ok (.istore 6, 2) := by decide +kernel
theorem dL_law_920 : decode cL_law 920 = .ok (.aload_n 2, 1) := by decide +kernel
theorem dL_law_921 : decode cL_law 921 = .ok (.invokevirtual 85, 3) := by decide +kernel
theorem dL_law_924 : decode cL_law 924 = .ok (.iload 5, 2) := by decide +kernel
theorem dL_law_926 : decode cL_law 926 = .ok (.if_icmp .eq 5, 3) := by decide +kernel
theorem dL_law_929 : decode cL_law 929 = .ok (.iconst 0, 1) := by decide +kernel
theorem dL_law_930 : decode cL_law 930 = .ok (.ireturn, 1) := by decide +kernel
theorem dL_law_931 : decode cL_law 931 = .ok (.iload 5, 2) := by decide +kernel
theorem dL_law_933 : decode cL_law 933 = .ok (.ifCond .ne 15, 3) := by decide +kernel
theorem dL_law_936 : decode cL_law 936 = .ok (.aload_n 3, 1) := by decide +kernel
theorem dL_law_937 : decode cL_law 937 = .ok (.iconst 0, 1) := by decide +kernel
theorem dL_law_938 : decode cL_law 938 = .ok (.laload, 1) := by decide +kernel
theorem dL_law_939 : decode cL_law 939 = .ok (.iload 6, 2) := by decide +kernel
theorem dL_law_941 : decode cL_law 941 = .ok (.i2l, 1) := by decide +kernel
theorem dL_law_942 : decode cL_law 942 = .ok (.lcmp, 1) := by decide +kernel
theorem dL_law_943 : decode cL_law 943 = .ok (.ifCond .eq 5, 3) := by decide +kernel
theorem dL_law_946 : decode cL_law 946 = .ok (.iconst 0, 1) := by decide +kernel
theorem dL_law_947 : decode cL_law 947 = .ok (.ireturn, 1) := by decide +kernel
theorem dL_law_948 : decode cL_law 948 = .ok (.goto 469, 3) := by decide +kernel
theorem dL_law_951 : decode cL_law 951 = .ok (.aload_n 1, 1) := by decide +kernel
theorem dL_law_952 : decode cL_law 952 = .ok (.aload_n 0, 1) := by decide +kernel
theorem dL_law_953 : decode cL_law 953 = .ok (.iload 4, 2) := by decide +kernel
theorem dL_law_955 : decode cL_law 955 = .ok (.iconst 1, 1) := by decide +kernel
theorem dL_law_956 : decode cL_law 956 = .ok (.iadd, 1) := by decide +kernel
theorem dL_law_957 : decode cL_law 957 = .ok (.iaload, 1) := by decide +kernel
theorem dL_law_958 : decode cL_law 958 = .ok (.aload_n 0, 1) := by decide +kernel
theorem dL_law_959 : decode cL_law 959 = .ok (.iload 4, 2) := by decide +kernel
theorem dL_law_961 : decode cL_law 961 = .ok (.iconst 2, 1) := by decide +kernel
theorem dL_law_962 : decode cL_law 962 = .ok (.iadd, 1) := by decide +kernel
theorem dL_law_963 : decode cL_law 963 = .ok (.iaload, 1) := by decide +kernel
theorem dL_law_964 : decode cL_law 964 = .ok (.aload_n 3, 1) := by decide +kernel
theorem dL_law_965 : decode cL_law 965 = .ok (.invokestatic 138, 3) := by decide +kernel
theorem dL_law_968 : decode cL_law 968 = .ok (.istore 5, 2) := by decide +kernel
theorem dL_law_970 : decode cL_law 970 = .ok (.aload_n 2, 1) := by decide +kernel
theorem dL_law_971 : decode cL_law 971 = .ok (.aload_n 0, 1) := by decide +kernel
theorem dL_law_972 : decode cL_law 972 = .ok (.iload 4, 2) := by decide +kernel
theorem dL_law_974 : decode cL_law 974 = .ok (.iconst 1, 1) := by decide +kernel
theorem dL_law_975 : decode cL_law 975 = .ok (.iadd, 1) := by decide +kernel
theorem dL_law_976 : decode cL_law 976 = .ok (.iaload, 1) := by decide +kernel
theorem dL_law_977 : decode cL_law 977 = .ok (.aload_n 0, 1) := by decide +kernel
theorem dL_law_978 : decode cL_law 978 = .ok (.iload 4, 2) := by decide +kernel
theorem dL_law_980 : decode cL_law 980 = .ok (.iconst 2, 1) := by decide +kernel
theorem dL_law_981 : decode cL_law 981 = .ok (.iadd, 1) := by decide +kernel
theorem dL_law_982 : decode cL_law 982 = .ok (.iaload, 1) := by decide +kernel
theorem dL_law_983 : decode cL_law 983 = .ok (.invokevirtual 140, 3) := by decide +kernel
theorem dL_law_986 : decode cL_law 986 = .ok (.istore 6, 2) := by decide +kernel
theorem dL_law_988 : decode cL_law 988 = .ok (.aload_n 2, 1) := by decide +kernel
theorem dL_law_989 : decode cL_law 989 = .ok (.invokevirtual 85, 3) := by decide +kernel
theorem dL_law_992 : decode cL_law 992 = .ok (.iload 5, 2) := by decide +kernel
theorem dL_law_994 : decode cL_law 994 = .ok (.if_icmp .eq 5, 3) := by decide +kernel
theorem dL_law_997 : decode cL_law 997 = .ok (.iconst 0, 1) := by decide +kernel
theorem dL_law_998 : decode cL_law 998 = .ok (.ireturn, 1) := by decide +kernel
theorem dL_law_999 : decode cL_law 999 = .ok (.iload 5, 2) := by decide +kernel
theorem dL_law_1001 : decode cL_law 1001 = .ok (.ifCond .ne 15, 3) := by decide +kernel
theorem dL_law_1004 : decode cL_law 1004 = .ok (.aload_n 3, 1) := by decide +kernel
theorem dL_law_1005 : decode cL_law 1005 = .ok (.iconst 0, 1) := by decide +kernel
theorem dL_law_1006 : decode cL_law 1006 = .ok (.laload, 1) := by decide +kernel
theorem dL_law_1007 : decode cL_law 1007 = .ok (.iload 6, 2) := by decide +kernel
theorem dL_law_1009 : decode cL_law 1009 = .ok (.i2l, 1) := by decide +kernel
theorem dL_law_1010 : decode cL_law 1010 = .ok (.lcmp, 1) := by decide +kernel
theorem dL_law_1011 : decode cL_law 1011 = .ok (.ifCond .eq 5, 3) := by decide +kernel
theorem dL_law_1014 : decode cL_law 1014 = .ok (.iconst 0, 1) := by decide +kernel
theorem dL_law_1015 : decode cL_law 1015 = .ok (.ireturn, 1) := by decide +kernel
theorem dL_law_1016 : decode cL_law 1016 = .ok (.goto 401, 3) := by decide +kernel
theorem dL_law_1019 : decode cL_law 1019 = .ok (.aload_n 1, 1) := by decide +kernel
theorem dL_law_1020 : decode cL_law 1020 = .ok (.aload_n 0, 1) := by decide +kernel
theorem dL_law_1021 : decode cL_law 1021 = .ok (.iload 4, 2) := by decide +kernel
theorem dL_law_1023 : decode cL_law 1023 = .ok (.iconst 1, 1) := by decide +kernel
theorem dL_law_1024 : decode cL_law 1024 = .ok (.iadd, 1) := by decide +kernel
theorem dL_law_1025 : decode cL_law 1025 = .ok (.iaload, 1) := by decide +kernel
theorem dL_law_1026 : decode cL_law 1026 = .ok (.aload_n 0, 1) := by decide +kernel
theorem dL_law_1027 : decode cL_law 1027 = .ok (.iload 4, 2) := by decide +kernel
theorem dL_law_1029 : decode cL_law 1029 = .ok (.iconst 2, 1) := by decide +kernel
theorem dL_law_1030 : decode cL_law 1030 = .ok (.iadd, 1) := by decide +kernel
theorem dL_law_1031 : decode cL_law 1031 = .ok (.iaload, 1) := by decide +kernel
theorem dL_law_1032 : decode cL_law 1032 = .ok (.aload_n 3, 1) := by decide +kernel
theorem dL_law_1033 : decode cL_law 1033 = .ok (.invokestatic 141, 3) := by decide +kernel
theorem dL_law_1036 : decode cL_law 1036 = .ok (.istore 5, 2) := by decide +kernel
theorem dL_law_1038 : decode cL_law 1038 = .ok (.aload_n 2, 1) := by decide +kernel
theorem dL_law_1039 : decode cL_law 1039 = .ok (.aload_n 0, 1) := by decide +kernel
theorem dL_law_1040 : decode cL_law 1040 = .ok (.iload 4, 2) := by decide +kernel
theorem dL_law_1042 : decode cL_law 1042 = .ok (.iconst 1, 1) := by decide +kernel
theorem dL_law_1043 : decode cL_law 1043 = .ok (.iadd, 1) := by decide +kernel
theorem dL_law_1044 : decode cL_law 1044 = .ok (.iaload, 1) := by decide +kernel
theorem dL_law_1045 : decode cL_law 1045 = .ok (.aload_n 0, 1) := by decide +kernel
theorem dL_law_1046 : decode cL_law 1046 = .ok (.iload 4, 2) := by decide +kernel
theorem dL_law_1048 : decode cL_law 1048 = .ok (.iconst 2, 1) := by decide +kernel
theorem dL_law_1049 : decode cL_law 1049 = .ok (.iadd, 1) := by decide +kernel
theorem dL_law_1050 : decode cL_law 1050 = .ok (.iaload, 1) := by decide +kernel
theorem dL_law_1051 : decode cL_law 1051 = .ok (.invokevirtual 143, 3) := by decide +kernel
theorem dL_law_1054 : decode cL_law 1054 = .ok (.istore 6, 2) := by decide +kernel
theorem dL_law_1056 : decode cL_law 1056 = .ok (.aload_n 2, 1) := by decide +kernel
theorem dL_law_1057 : decode cL_law 1057 = .ok (.invokevirtual 85, 3) := by decide +kernel
theorem dL_law_1060 : decode cL_law 1060 = .ok (.iload 5, 2) := by decide +kernel
theorem dL_law_1062 : decode cL_law 1062 = .ok (.if_icmp .eq 5, 3) := by decide +kernel
theorem dL_law_1065 : decode cL_law 1065 = .ok (.iconst 0, 1) := by decide +kernel
theorem dL_law_1066 : decode cL_law 1066 = .ok (.ireturn, 1) := by decide +kernel
theorem dL_law_1067 : decode cL_law 1067 = .ok (.iload 5, 2) := by decide +kernel
theorem dL_law_1069 : decode cL_law 1069 = .ok (.ifCond .ne 15, 3) := by decide +kernel
theorem dL_law_1072 : decode cL_law 1072 = .ok (.aload_n 3, 1) := by decide +kernel
theorem dL_law_1073 : decode cL_law 1073 = .ok (.iconst 0, 1) := by decide +kernel
theorem dL_law_1074 : decode cL_law 1074 = .ok (.laload, 1) := by decide +kernel
theorem dL_law_1075 : decode cL_law 1075 = .ok (.iload 6, 2) := by decide +kernel
theorem dL_law_1077 : decode cL_law 1077 = .ok (.i2l, 1) := by decide +kernel
theorem dL_law_1078 : decode cL_law 1078 = .ok (.lcmp, 1) := by decide +kernel
theorem dL_law_1079 : decode cL_law 1079 = .ok (.ifCond .eq 5, 3) := by decide +kernel
theorem dL_law_1082 : decode cL_law 1082 = .ok (.iconst 0, 1) := by decide +kernel
theorem dL_law_1083 : decode cL_law 1083 = .ok (.ireturn, 1) := by decide +kernel
theorem dL_law_1084 : decode cL_law 1084 = .ok (.goto 333, 3) := by decide +kernel
theorem dL_law_1087 : decode cL_law 1087 = .ok (.aload_n 1, 1) := by decide +kernel
theorem dL_law_1088 : decode cL_law 1088 = .ok (.aload_n 0, 1) := by decide +kernel
theorem dL_law_1089 : decode cL_law 1089 = .ok (.iload 4, 2) := by decide +kernel
theorem dL_law_1091 : decode cL_law 1091 = .ok (.iconst 1, 1) := by decide +kernel
theorem dL_law_1092 : decode cL_law 1092 = .ok (.iadd, 1) := by decide +kernel
theorem dL_law_1093 : decode cL_law 1093 = .ok (.iaload, 1) := by decide +kernel
theorem dL_law_1094 : decode cL_law 1094 = .ok (.aload_n 3, 1) := by decide +kernel
theorem dL_law_1095 : decode cL_law 1095 = .ok (.invokestatic 144, 3) := by decide +kernel
theorem dL_law_1098 : decode cL_law 1098 = .ok (.istore 5, 2) := by decide +kernel
theorem dL_law_1100 : decode cL_law 1100 = .ok (.aload_n 2, 1) := by decide +kernel
theorem dL_law_1101 : decode cL_law 1101 = .ok (.aload_n 0, 1) := by decide +kernel
theorem dL_law_1102 : decode cL_law 1102 = .ok (.iload 4, 2) := by decide +kernel
theorem dL_law_1104 : decode cL_law 1104 = .ok (.iconst 1, 1) := by decide +kernel
theorem dL_law_1105 : decode cL_law 1105 = .ok (.iadd, 1) := by decide +kernel
theorem dL_law_1106 : decode cL_law 1106 = .ok (.iaload, 1) := by decide +kernel
theorem dL_law_1107 : decode cL_law 1107 = .ok (.invokevirtual 146, 3) := by decide +kernel
theorem dL_law_1110 : decode cL_law 1110 = .ok (.istore 6, 2) := by decide +kernel
theorem dL_law_1112 : decode cL_law 1112 = .ok (.aload_n 2, 1) := by decide +kernel
theorem dL_law_1113 : decode cL_law 1113 = .ok (.invokevirtual 85, 3) := by decide +kernel
theorem dL_law_1116 : decode cL_law 1116 = .ok (.iload 5, 2) := by decide +kernel
theorem dL_law_1118 : decode cL_law 1118 = .ok (.if_icmp .eq 5, 3) := by decide +kernel
theorem dL_law_1121 : decode cL_law 1121 = .ok (.iconst 0, 1) := by decide +kernel
theorem dL_law_1122 : decode cL_law 1122 = .ok (.ireturn, 1) := by decide +kernel
theorem dL_law_1123 : decode cL_law 1123 = .ok (.iload 5, 2) := by decide +kernel
theorem dL_law_1125 : decode cL_law 1125 = .ok (.ifCond .ne 15, 3) := by decide +kernel
theorem dL_law_1128 : decode cL_law 1128 = .ok (.aload_n 3, 1) := by decide +kernel
theorem dL_law_1129 : decode cL_law 1129 = .ok (.iconst 0, 1) := by decide +kernel
theorem dL_law_1130 : decode cL_law 1130 = .ok (.laload, 1) := by decide +kernel
theorem dL_law_1131 : decode cL_law 1131 = .ok (.iload 6, 2) := by decide +kernel
theorem dL_law_1133 : decode cL_law 1133 = .ok (.i2l, 1) := by decide +kernel
theorem dL_law_1134 : decode cL_law 1134 = .ok (.lcmp, 1) := by decide +kernel
theorem dL_law_1135 : decode cL_law 1135 = .ok (.ifCond .eq 5, 3) := by decide +kernel
theorem dL_law_1138 : decode cL_law 1138 = .ok (.iconst 0, 1) := by decide +kernel
theorem dL_law_1139 : decode cL_law 1139 = .ok (.ireturn, 1) := by decide +kernel
theorem dL_law_1140 : decode cL_law 1140 = .ok (.goto 277, 3) := by decide +kernel
theorem dL_law_1143 : decode cL_law 1143 = .ok (.aload_n 1, 1) := by decide +kernel
theorem dL_law_1144 : decode cL_law 1144 = .ok (.aload_n 0, 1) := by decide +kernel
theorem dL_law_1145 : decode cL_law 1145 = .ok (.iload 4, 2) := by decide +kernel
theorem dL_law_1147 : decode cL_law 1147 = .ok (.iconst 1, 1) := by decide +kernel
theorem dL_law_1148 : decode cL_law 1148 = .ok (.iadd, 1) := by decide +kernel
theorem dL_law_1149 : decode cL_law 1149 = .ok (.iaload, 1) := by decide +kernel
theorem dL_law_1150 : decode cL_law 1150 = .ok (.aload_n 3, 1) := by decide +kernel
theorem dL_law_1151 : decode cL_law 1151 = .ok (.invokestatic 147, 3) := by decide +kernel
theorem dL_law_1154 : decode cL_law 1154 = .ok (.istore 5, 2) := by decide +kernel
theorem dL_law_1156 : decode cL_law 1156 = .ok (.aload_n 2, 1) := by decide +kernel
theorem dL_law_1157 : decode cL_law 1157 = .ok (.aload_n 0, 1) := by decide +kernel
theorem dL_law_1158 : decode cL_law 1158 = .ok (.iload 4, 2) := by decide +kernel
theorem dL_law_1160 : decode cL_law 1160 = .ok (.iconst 1, 1) := by decide +kernel
theorem dL_law_1161 : decode cL_law 1161 = .ok (.iadd, 1) := by decide +kernel
theorem dL_law_1162 : decode cL_law 1162 = .ok (.iaload, 1) := by decide +kernel
theorem dL_law_1163 : decode cL_law 1163 = .ok (.invokevirtual 149, 3) := by decide +kernel
theorem dL_law_1166 : decode cL_law 1166 = .ok (.istore 6, 2) := by decide +kernel
theorem dL_law_1168 : decode cL_law 1168 = .ok (.aload_n 2, 1) := by decide +kernel
theorem dL_law_1169 : decode cL_law 1169 = .ok (.invokevirtual 85, 3) := by decide +kernel
theorem dL_law_1172 : decode cL_law 1172 = .ok (.iload 5, 2) := by decide +kernel
theorem dL_law_1174 : decode cL_law 1174 = .ok (.if_icmp .eq 5, 3) := by decide +kernel
theorem dL_law_1177 : decode cL_law 1177 = .ok (.iconst 0, 1) := by decide +kernel
theorem dL_law_1178 : decode cL_law 1178 = .ok (.ireturn, 1) := by decide +kernel
theorem dL_law_1179 : decode cL_law 1179 = .ok (.iload 5, 2) := by decide +kernel
theorem dL_law_1181 : decode cL_law 1181 = .ok (.ifCond .ne 15, 3) := by decide +kernel
theorem dL_law_1184 : decode cL_law 1184 = .ok (.aload_n 3, 1) := by decide +kernel
theorem dL_law_1185 : decode cL_law 1185 = .ok (.iconst 0, 1) := by decide +kernel
theorem dL_law_1186 : decode cL_law 1186 = .ok (.laload, 1) := by decide +kernel
theorem dL_law_1187 : decode cL_law 1187 = .ok (.iload 6, 2) := by decide +kernel
theorem dL_law_1189 : decode cL_law 1189 = .ok (.i2l, 1) := by decide +kernel
theorem dL_law_1190 : decode cL_law 1190 = .ok (.lcmp, 1) := by decide +kernel
theorem dL_law_1191 : decode cL_law 1191 = .ok (.ifCond .eq 5, 3) := by decide +kernel
theorem dL_law_1194 : decode cL_law 1194 = .ok (.iconst 0, 1) := by decide +kernel
theorem dL_law_1195 : decode cL_law 1195 = .ok (.ireturn, 1) := by decide +kernel
theorem dL_law_1196 : decode cL_law 1196 = .ok (.goto 221, 3) := by decide +kernel
theorem dL_law_1199 : decode cL_law 1199 = .ok (.aload_n 1, 1) := by decide +kernel
theorem dL_law_1200 : decode cL_law 1200 = .ok (.aload_n 0, 1) := by decide +kernel
theorem dL_law_1201 : decode cL_law 1201 = .ok (.iload 4, 2) := by decide +kernel
theorem dL_law_1203 : decode cL_law 1203 = .ok (.iconst 1, 1) := by decide +kernel
theorem dL_law_1204 : decode cL_law 1204 = .ok (.iadd, 1) := by decide +kernel
theorem dL_law_1205 : decode cL_law 1205 = .ok (.iaload, 1) := by decide +kernel
theorem dL_law_1206 : decode cL_law 1206 = .ok (.aload_n 3, 1) := by decide +kernel
theorem dL_law_1207 : decode cL_law 1207 = .ok (.invokestatic 150, 3) := by decide +kernel
theorem dL_law_1210 : decode cL_law 1210 = .ok (.istore 5, 2) := by decide +kernel
theorem dL_law_1212 : decode cL_law 1212 = .ok (.aload_n 2, 1) := by decide +kernel
theorem dL_law_1213 : decode cL_law 1213 = .ok (.aload_n 0, 1) := by decide +kernel
theorem dL_law_1214 : decode cL_law 1214 = .ok (.iload 4, 2) := by decide +kernel
theorem dL_law_1216 : decode cL_law 1216 = .ok (.iconst 1, 1) := by decide +kernel
theorem dL_law_1217 : decode cL_law 1217 = .ok (.iadd, 1) := by decide +kernel
theorem dL_law_1218 : decode cL_law 1218 = .ok (.iaload, 1) := by decide +kernel
theorem dL_law_1219 : decode cL_law 1219 = .ok (.invokevirtual 152, 3) := by decide +kernel
theorem dL_law_1222 : decode cL_law 1222 = .ok (.istore 6, 2) := by decide +kernel
theorem dL_law_1224 : decode cL_law 1224 = .ok (.aload_n 2, 1) := by decide +kernel
theorem dL_law_1225 : decode cL_law 1225 = .ok (.invokevirtual 85, 3) := by decide +kernel
theorem dL_law_1228 : decode cL_law 1228 = .ok (.iload 5, 2) := by decide +kernel
theorem dL_law_1230 : decode cL_law 1230 = .ok (.if_icmp .eq 5, 3) := by decide +kernel
theorem dL_law_1233 : decode cL_law 1233 = .ok (.iconst 0, 1) := by decide +kernel
theorem dL_law_1234 : decode cL_law 1234 = .ok (.ireturn, 1) := by decide +kernel
theorem dL_law_1235 : decode cL_law 1235 = .ok (.iload 5, 2) := by decide +kernel
theorem dL_law_1237 : decode cL_law 1237 = .ok (.ifCond .ne 15, 3) := by decide +kernel
theorem dL_law_1240 : decode cL_law 1240 = .ok (.aload_n 3, 1) := by decide +kernel
theorem dL_law_1241 : decode cL_law 1241 = .ok (.iconst 0, 1) := by decide +kernel
theorem dL_law_1242 : decode cL_law 1242 = .ok (.laload, 1) := by decide +kernel
theorem dL_law_1243 : decode cL_law 1243 = .ok (.iload 6, 2) := by decide +kernel
theorem dL_law_1245 : decode cL_law 1245 = .ok (.i2l, 1) := by decide +kernel
theorem dL_law_1246 : decode cL_law 1246 = .ok (.lcmp, 1) := by decide +kernel
theorem dL_law_1247 : decode cL_law 1247 = .ok (.ifCond .eq 5, 3) := by decide +kernel
theorem dL_law_1250 : decode cL_law 1250 = .ok (.iconst 0, 1) := by decide +kernel
theorem dL_law_1251 : decode cL_law 1251 = .ok (.ireturn, 1) := by decide +kernel
theorem dL_law_1252 : decode cL_law 1252 = .ok (.goto 165, 3) := by decide +kernel
theorem dL_law_1255 : decode cL_law 1255 = .ok (.aload_n 1, 1) := by decide +kernel
theorem dL_law_1256 : decode cL_law 1256 = .ok (.aload_n 0, 1) := by decide +kernel
theorem dL_law_1257 : decode cL_law 1257 = .ok (.iload 4, 2) := by decide +kernel
theorem dL_law_1259 : decode cL_law 1259 = .ok (.iconst 1, 1) := by decide +kernel
theorem dL_law_1260 : decode cL_law 1260 = .ok (.iadd, 1) := by decide +kernel
theorem dL_law_1261 : decode cL_law 1261 = .ok (.iaload, 1) := by decide +kernel
theorem dL_law_1262 : decode cL_law 1262 = .ok (.aload_n 0, 1) := by decide +kernel
theorem dL_law_1263 : decode cL_law 1263 = .ok (.iload 4, 2) := by decide +kernel
theorem dL_law_1265 : decode cL_law 1265 = .ok (.iconst 2, 1) := by decide +kernel
theorem dL_law_1266 : decode cL_law 1266 = .ok (.iadd, 1) := by decide +kernel
theorem dL_law_1267 : decode cL_law 1267 = .ok (.iaload, 1) := by decide +kernel
theorem dL_law_1268 : decode cL_law 1268 = .ok (.aload_n 3, 1) := by decide +kernel
theorem dL_law_1269 : decode cL_law 1269 = .ok (.invokestatic 153, 3) := by decide +kernel
theorem dL_law_1272 : decode cL_law 1272 = .ok (.istore 5, 2) := by decide +kernel
theorem dL_law_1274 : decode cL_law 1274 = .ok (.aload_n 2, 1) := by decide +kernel
theorem dL_law_1275 : decode cL_law 1275 = .ok (.aload_n 0, 1) := by decide +kernel
theorem dL_law_1276 : decode cL_law 1276 = .ok (.iload 4, 2) := by decide +kernel
theorem dL_law_1278 : decode cL_law 1278 = .ok (.iconst 1, 1) := by decide +kernel
theorem dL_law_1279 : decode cL_law 1279 = .ok (.iadd, 1) := by decide +kernel
theorem dL_law_1280 : decode cL_law 1280 = .ok (.iaload, 1) := by decide +kernel
theorem dL_law_1281 : decode cL_law 1281 = .ok (.aload_n 0, 1) := by decide +kernel
theorem dL_law_1282 : decode cL_law 1282 = .ok (.iload 4, 2) := by decide +kernel
theorem dL_law_1284 : decode cL_law 1284 = .ok (.iconst 2, 1) := by decide +kernel
theorem dL_law_1285 : decode cL_law 1285 = .ok (.iadd, 1) := by decide +kernel
theorem dL_law_1286 : decode cL_law 1286 = .ok (.iaload, 1) := by decide +kernel
theorem dL_law_1287 : decode cL_law 1287 = .ok (.invokevirtual 155, 3) := by decide +kernel
theorem dL_law_1290 : decode cL_law 1290 = .ok (.istore 6, 2) := by decide +kernel
theorem dL_law_1292 : decode cL_law 1292 = .ok (.aload_n 2, 1) := by decide +kernel
theorem dL_law_1293 : decode cL_law 1293 = .ok (.invokevirtual 85, 3) := by decide +kernel
theorem dL_law_1296 : decode cL_law 1296 = .ok (.iload 5, 2) := by decide +kernel
theorem dL_law_1298 : decode cL_law 1298 = .ok (.if_icmp .eq 5, 3) := by decide +kernel
theorem dL_law_1301 : decode cL_law 1301 = .ok (.iconst 0, 1) := by decide +kernel
theorem dL_law_1302 : decode cL_law 1302 = .ok (.ireturn, 1) := by decide +kernel
theorem dL_law_1303 : decode cL_law 1303 = .ok (.iload 5, 2) := by decide +kernel
theorem dL_law_1305 : decode cL_law 1305 = .ok (.ifCond .ne 15, 3) := by decide +kernel
theorem dL_law_1308 : decode cL_law 1308 = .ok (.aload_n 3, 1) := by decide +kernel
theorem dL_law_1309 : decode cL_law 1309 = .ok (.iconst 0, 1) := by decide +kernel
theorem dL_law_1310 : decode cL_law 1310 = .ok (.laload, 1) := by decide +kernel
theorem dL_law_1311 : decode cL_law 1311 = .ok (.iload 6, 2) := by decide +kernel
theorem dL_law_1313 : decode cL_law 1313 = .ok (.i2l, 1) := by decide +kernel
theorem dL_law_1314 : decode cL_law 1314 = .ok (.lcmp, 1) := by decide +kernel
theorem dL_law_1315 : decode cL_law 1315 = .ok (.ifCond .eq 5, 3) := by decide +kernel
theorem dL_law_1318 : decode cL_law 1318 = .ok (.iconst 0, 1) := by decide +kernel
theorem dL_law_1319 : decode cL_law 1319 = .ok (.ireturn, 1) := by decide +kernel
theorem dL_law_1320 : decode cL_law 1320 = .ok (.goto 97, 3) := by decide +kernel
theorem dL_law_1323 : decode cL_law 1323 = .ok (.aload_n 1, 1) := by decide +kernel
theorem dL_law_1324 : decode cL_law 1324 = .ok (.invokevirtual 156, 3) := by decide +kernel
theorem dL_law_1327 : decode cL_law 1327 = .ok (.aload_n 2, 1) := by decide +kernel
theorem dL_law_1328 : decode cL_law 1328 = .ok (.invokevirtual 159, 3) := by decide +kernel
theorem dL_law_1331 : decode cL_law 1331 = .ok (.if_icmp .eq 86, 3) := by decide +kernel
theorem dL_law_1334 : decode cL_law 1334 = .ok (.iconst 0, 1) := by decide +kernel
theorem dL_law_1335 : decode cL_law 1335 = .ok (.ireturn, 1) := by decide +kernel
theorem dL_law_1336 : decode cL_law 1336 = .ok (.aload_n 1, 1) := by decide +kernel
theorem dL_law_1337 : decode cL_law 1337 = .ok (.invokevirtual 160, 3) := by decide +kernel
theorem dL_law_1340 : decode cL_law 1340 = .ok (.aload_n 2, 1) := by decide +kernel
theorem dL_law_1341 : decode cL_law 1341 = .ok (.invokevirtual 163, 3) := by decide +kernel
theorem dL_law_1344 : decode cL_law 1344 = .ok (.if_icmp .eq 73, 3) := by decide +kernel
theorem dL_law_1347 : decode cL_law 1347 = .ok (.iconst 0, 1) := by decide +kernel
theorem dL_law_1348 : decode cL_law 1348 = .ok (.ireturn, 1) := by decide +kernel
theorem dL_law_1349 : decode cL_law 1349 = .ok (.aload_n 1, 1) := by decide +kernel
theorem dL_law_1350 : decode cL_law 1350 = .ok (.invokevirtual 164, 3) := by decide +kernel
theorem dL_law_1353 : decode cL_law 1353 = .ok (.aload_n 2, 1) := by decide +kernel
theorem dL_law_1354 : decode cL_law 1354 = .ok (.invokevirtual 167, 3) := by decide +kernel
theorem dL_law_1357 : decode cL_law 1357 = .ok (.if_icmp .eq 60, 3) := by decide +kernel
theorem dL_law_1360 : decode cL_law 1360 = .ok (.iconst 0, 1) := by decide +kernel
theorem dL_law_1361 : decode cL_law 1361 = .ok (.ireturn, 1) := by decide +kernel
theorem dL_law_1362 : decode cL_law 1362 = .ok (.aload_n 1, 1) := by decide +kernel
theorem dL_law_1363 : decode cL_law 1363 = .ok (.invokevirtual 168, 3) := by decide +kernel
theorem dL_law_1366 : decode cL_law 1366 = .ok (.dstore 5, 2) := by decide +kernel
theorem dL_law_1368 : decode cL_law 1368 = .ok (.aload_n 2, 1) := by decide +kernel
theorem dL_law_1369 : decode cL_law 1369 = .ok (.invokevirtual 172, 3) := by decide +kernel
theorem dL_law_1372 : decode cL_law 1372 = .ok (.dstore 7, 2) := by decide +kernel
theorem dL_law_1374 : decode cL_law 1374 = .ok (.dload 5, 2) := by decide +kernel
theorem dL_law_1376 : decode cL_law 1376 = .ok (.dload 7, 2) := by decide +kernel
theorem dL_law_1378 : decode cL_law 1378 = .ok (.dcmp .l, 1) := by decide +kernel
theorem dL_law_1379 : decode cL_law 1379 = .ok (.ifCond .eq 21, 3) := by decide +kernel
theorem dL_law_1382 : decode cL_law 1382 = .ok (.dload 5, 2) := by decide +kernel
theorem dL_law_1384 : decode cL_law 1384 = .ok (.dload 5, 2) := by decide +kernel
theorem dL_law_1386 : decode cL_law 1386 = .ok (.dcmp .l, 1) := by decide +kernel
theorem dL_law_1387 : decode cL_law 1387 = .ok (.ifCond .eq 11, 3) := by decide +kernel
theorem dL_law_1390 : decode cL_law 1390 = .ok (.dload 7, 2) := by decide +kernel
theorem dL_law_1392 : decode cL_law 1392 = .ok (.dload 7, 2) := by decide +kernel
theorem dL_law_1394 : decode cL_law 1394 = .ok (.dcmp .l, 1) := by decide +kernel
theorem dL_law_1395 : decode cL_law 1395 = .ok (.ifCond .ne 5, 3) := by decide +kernel
theorem dL_law_1398 : decode cL_law 1398 = .ok (.iconst 0, 1) := by decide +kernel
theorem dL_law_1399 : decode cL_law 1399 = .ok (.ireturn, 1) := by decide +kernel
theorem dL_law_1400 : decode cL_law 1400 = .ok (.goto 17, 3) := by decide +kernel
theorem dL_law_1403 : decode cL_law 1403 = .ok (.aload_n 1, 1) := by decide +kernel
theorem dL_law_1404 : decode cL_law 1404 = .ok (.invokevirtual 173, 3) := by decide +kernel
theorem dL_law_1407 : decode cL_law 1407 = .ok (.aload_n 2, 1) := by decide +kernel
theorem dL_law_1408 : decode cL_law 1408 = .ok (.invokevirtual 177, 3) := by decide +kernel
theorem dL_law_1411 : decode cL_law 1411 = .ok (.lcmp, 1) := by decide +kernel
theorem dL_law_1412 : decode cL_law 1412 = .ok (.ifCond .eq 5, 3) := by decide +kernel
theorem dL_law_1415 : decode cL_law 1415 = .ok (.iconst 0, 1) := by decide +kernel
theorem dL_law_1416 : decode cL_law 1416 = .ok (.ireturn, 1) := by decide +kernel
theorem dL_law_1417 : decode cL_law 1417 = .ok (.iinc 4 3, 3) := by decide +kernel
theorem dL_law_1420 : decode cL_law 1420 = .ok (.goto (-1397), 3) := by decide +kernel
theorem dL_law_1423 : decode cL_law 1423 = .ok (.iconst 1, 1) := by decide +kernel
theorem dL_law_1424 : decode cL_law 1424 = .ok (.ireturn, 1) := by decide +kernel
end
section
/-! ===== what is carried beside the tables: texts, links to nest mates, casts ===== -/
def eStr : List (String × Nat × String) := [("LatticeGestures", 294, "what is not 0 to 8"), ("LatticeGestures", 199, "there is no such setting"), ("LatticeGestures", 233, "there is no such point"), ("LatticeGestures", 241, "what is not 0 to 3"), ("LatticeGestures", 243, "run is below 0, or what is not 0 to 3"), ("LatticeGestures", 190, "there is no such command"), ("LatticeGestures", 282, "what is not 0 to 4"), ("LatticeGestures", 68, "a coordinate is not 0 to 31"), ("LatticeGestures", 82, "there are 40 points"), ("LatticeGestures", 100, "a direction is not 0 to 7, or many is not 1 to 31"), ("LatticeGestures", 129, "there would be more than 40 points"), ("LatticeGestures", 131, "many is not 1 to the number of points"), ("LatticeGestures", 136, "eighths is not 1 to 7"), ("LatticeGestures", 141, "the path cannot be turned like this"), ("LatticeGestures", 158, "there are 10 commands, or the stroke has not 1 to 8 directions"), ("LatticeGestures", 164, "a command is too near"), ("LatticeGestures", 173, "the buffer is not a complete stroke"), ("LatticeGestures", 175, "there are 10 commands"), ("LatticeGestures", 207, "the value is out of range"), ("LatticeGestures", 221, "two commands would be too near"), ("LatticeGestures", 223, "the code is not 33 to 126"), ("LatticeGestures", 225, "the buffer has 60 characters"), ("LatticeGestures", 228, "there is no saved state"), ("LatticeGestures", 255, "place is below 0")]
def eNF : List (String × Nat × String × String × String × String) := [("LatticeGestures$State", 34, "LatticeGestures", "FIRST_VALUE", "[I", "LatticeGestures"), ("LatticeGestures", 73, "LatticeGestures$State", "path", "LLatticeGestures$Path;", "LatticeGestures"), ("LatticeGestures$View", 62, "LatticeGestures$State", "commands", "LLatticeGestures$Commands;", "LatticeGestures"), ("LatticeGestures", 151, "LatticeGestures$State", "commands", "LLatticeGestures$Commands;", "LatticeGestures"), ("LatticeGestures$View", 50, "LatticeGestures$State", "settings", "LLatticeGestures$Row;", "LatticeGestures"), ("LatticeGestures", 209, "LatticeGestures$State", "settings", "LLatticeGestures$Row;", "LatticeGestures"), ("LatticeGestures", 245, "LatticeGestures$View", "directions", "LLatticeGestures$Row;", "LatticeGestures"), ("LatticeGestures", 248, "LatticeGestures$View", "lengths", "LLatticeGestures$Row;", "LatticeGestures"), ("LatticeGestures", 147, "LatticeGestures$View", "kept", "LLatticeGestures$Row;", "LatticeGestures"), ("LatticeGestures", 260, "LatticeGestures$View", "distances", "LLatticeGestures$Row;", "LatticeGestures"), ("LatticeGestures", 287, "LatticeGestures$View", "dropped", "I", "LatticeGestures"), ("LatticeGestures$Path", 50, "LatticeGestures", "STEP_X", "[I", "LatticeGestures"), ("LatticeGestures$Path", 58, "LatticeGestures", "STEP_Y", "[I", "LatticeGestures")]
def eNM : List (String × Nat × MethodName × String) := [("LatticeGestures$State", 38, ⟨"LatticeGestures", "of", "([II)I"⟩, "LatticeGestures"), ("LatticeGestures$Path", 54, ⟨"LatticeGestures", "of", "([II)I"⟩, "LatticeGestures"), ("LatticeGestures$View", 116, ⟨"LatticeGestures", "isCutCorner", "(LLatticeGestures$Row;LLatticeGestures$Row;II)Z"⟩, "LatticeGestures"), ("LatticeGestures$Meter", 42, ⟨"LatticeGestures", "eighthsBetween", "(II)I"⟩, "LatticeGestures")]
def eNC : List (String × String) := [("java/lang/IllegalArgumentException", "java/lang/IllegalArgumentException"), ("java/lang/IndexOutOfBoundsException", "java/lang/IndexOutOfBoundsException"), ("java/lang/IllegalStateException", "java/lang/IllegalStateException")]
def eNN : List (String × String) := [("java/lang/IllegalArgumentException", "java/lang/IllegalStateException"), ("java/lang/IllegalArgumentException", "java/lang/IndexOutOfBoundsException"), ("java/lang/IllegalStateException", "java/lang/IllegalArgumentException"), ("java/lang/IllegalStateException", "java/lang/IndexOutOfBoundsException"), ("java/lang/IndexOutOfBoundsException", "java/lang/IllegalArgumentException"), ("java/lang/IndexOutOfBoundsException", "java/lang/IllegalStateException")]
/-! ===== the numbers, the run's fixed things, the world by ids ===== -/
def vI (z : Int) : Value := .int (Int32.ofInt z)
def vL (z : Int) : Value := .long (Int64.ofInt z)
def R32 (z : Int) : Prop := -2147483648 ≤ z ∧ z < 2147483648
def R64 (z : Int) : Prop := -9223372036854775808 ≤ z ∧ z < 9223372036854775808
theorem i32_t {z : Int} (h : R32 z) : (Int32.ofInt z).toInt = z := Int32.toInt_ofInt_of_le (by have := h.1; omega) (by have := h.2; omega)
theorem i64_t {z : Int} (h : R64 z) : (Int64.ofInt z).toInt = z := Int64.toInt_ofInt_of_le (by have := h.1; omega) (by have := h.2; omega)
theorem i32_eq {a b : Int} (ha : R32 a) (hb : R32 b) : Int32.ofInt a = Int32.ofInt b ↔ a = b := by
  rw [← Int32.toInt_inj, i32_t ha, i32_t hb]
theorem i32_lt {a b : Int} (ha : R32 a) (hb : R32 b) : Int32.ofInt a < Int32.ofInt b ↔ a < b := by
  rw [Int32.lt_iff_toInt_lt, i32_t ha, i32_t hb]
theorem i32_le {a b : Int} (ha : R32 a) (hb : R32 b) : Int32.ofInt a ≤ Int32.ofInt b ↔ a ≤ b := by
  rw [Int32.le_iff_toInt_le, i32_t ha, i32_t hb]
theorem i32_0 : (0 : Int32) = Int32.ofInt 0 := rfl
theorem R32_0 : R32 0 := ⟨by decide, by decide⟩
theorem i32_clamp {z : Int} {j : Nat} (h : z = (j : Int)) (hj : j < 2147483648) : (Int32.ofInt z).toNatClampNeg = j := by
  subst h
  rw [Int32.ofInt_eq_ofNat]
  exact Int32.toNatClampNeg_ofNat_of_lt (by omega)
theorem i32_in {z : Int} {n : Nat} (h : R32 z) (h0 : 0 ≤ z) (hn : z < n) : vp_in (Int32.ofInt z) n := by
  obtain ⟨j, rfl⟩ : ∃ j : Nat, z = j := ⟨z.toNat, by omega⟩
  have hj : j < 2147483648 := by have := h.2; omega
  rintro (q | q)
  · rw [i32_0, i32_lt h R32_0] at q
    omega
  · rw [i32_clamp rfl hj] at q
    omega
-- the run's fixed things: base, the static tables' places, the classes' numbers, the array classes
abbrev GT : Type := Nat × (Nat → Nat) × va_G × ClassId × ClassId × ClassId × ClassId × (Nat × Nat × (Nat → Int))
def gB (G : GT) : Nat := G.1
def gT (G : GT) : Nat → Nat := G.2.1
def gD (G : GT) : va_G := G.2.2.1
def gI (G : GT) : ClassId := G.2.2.2.1
def gL (G : GT) : ClassId := G.2.2.2.2.1
def gR (G : GT) : ClassId := G.2.2.2.2.2.1
def gS (G : GT) : ClassId := G.2.2.2.2.2.2.1
-- the script: its cell, its length, its numbers
def gXb (G : GT) : Nat := G.2.2.2.2.2.2.2.1
def gXn (G : GT) : Nat := G.2.2.2.2.2.2.2.2.1
def gXv (G : GT) : Nat → Int := G.2.2.2.2.2.2.2.2.2
def gA (G : GT) : Nat → Prop := fun q => gB G ≤ q
def gTys (G : GT) : List (ClassId × FieldType) := [(gI G, .int), (gL G, .long), (gR G, .object "LatticeGestures$Row"), (gS G, .object "LatticeGestures$State")]
-- the static tables
def tbN : Nat → String := fun k => match k with
  | 0 => "FIRST_VALUE"
  | 1 => "LEAST_VALUE"
  | 2 => "GREATEST_VALUE"
  | 3 => "STEP_X"
  | _ => "STEP_Y"
def tbV : Nat → List Int := fun k => match k with
  | 0 => [2, 2, 2, 3, 2]
  | 1 => [1, 0, 1, 1, 0]
  | 2 => [9, 9, 9, 9, 20]
  | 3 => [1, 1, 0, -1, -1, -1, 0, 1]
  | _ => [0, 1, 1, 1, 0, -1, -1, -1]
def tbF (k : Nat) : Nat → Value := fun j => vI ((tbV k).getD j 0)
def eEnv (G : GT) (s : State) : Prop :=
  gB G ≤ s.heap.size ∧ va_K (gD G) vwCl (gTys G) s ∧
  (∀ k, k < 5 → va_Z "LatticeGestures" (tbN k) "[I" (.ref (gT G k)) (gA G) s s.heap ∧ va_T .int (gT G k) (tbV k).length (tbF k) (gA G) s s.heap) ∧
  vx_Zq Bundle.tN "UNASSIGNED_STACK" Bundle.steD (gA G) s s.heap ∧ vx_Zq Bundle.tN "SUPPRESSED_SENTINEL" Bundle.listD (gA G) s s.heap ∧
  (∀ q ∈ eStr, ∃ a : Nat, vk_R q.1 q.2.1 q.2.2 a s) ∧
  (∀ q ∈ eNF, va_Nw (.fieldLinkNest q.1 q.2.1 q.2.2.1 q.2.2.2.1 q.2.2.2.2.1 q.2.2.2.2.2) s) ∧ (∀ q ∈ eNM, va_Nw (.methodLinkNest q.1 q.2.1 q.2.2.1 q.2.2.2) s) ∧
  (∀ q ∈ eNC, va_Nw (.castable q.1 q.2) s) ∧ (∀ q ∈ eNN, va_Nc q.1 q.2 s) ∧ va_AO "LatticeGestures$Row" s ∧ va_AO "LatticeGestures$State" s ∧ va_X (gXb G) (gXn G) (fun j => Int32.ofInt (gXv G j)) s s.heap ∧ gXb G < gB G
theorem eEnv.move {G : GT} {s U : State} {H : Heap} {locs : List Loc} (h : eEnv G s) (hS : va_S (gA G) s.heap H locs) (hW : s.WarmedH U.vm) (hU : U.heap = H) : eEnv G U := by
  obtain ⟨h1, h2, h3, h4, h5, h6, h7, h8, h9, h10, h11, h12, h13, h14⟩ := h
  have hk : ∀ a : Nat, a < s.heap.size → ¬ gA G a → U.heap[a]? = s.heap[a]? := by rw [hU]; exact hS.2.1
  refine ⟨Nat.le_trans h1 (by rw [hU]; exact hS.1), va_K.moved hW.alike h2, fun k hk5 => ⟨((h3 k hk5).1.kept hk).moved hW.alike, ((h3 k hk5).2.kept hk).moved hW.alike⟩, (h4.kept hk).moved hW.alike, (h5.kept hk).moved hW.alike, fun q hq => ?_, fun q hq => va_Nw.warmF hW (h7 q hq), fun q hq => va_Nw.warmM hW (h8 q hq), fun q hq => va_Nw.warmC hW (h9 q hq), fun q hq => ?_, ?_, ?_, ?_, h14⟩
  · obtain ⟨a, ha⟩ := h6 q hq
    exact ⟨a, ha.warm hW⟩
  · obtain ⟨c, t, e1, e2, e3⟩ := h10 q hq
    exact ⟨c, t, by rw [hW.alike.findClass]; exact e1, by rw [hW.alike.findClass]; exact e2, by rw [hW.alike.assignable]; exact e3⟩
  · exact va_AO.moved hW.alike h11
  · exact va_AO.moved hW.alike h12
  · exact (h13.kept (hk _ (by omega) (by show ¬ gB G ≤ gXb G; omega))).moved hW.alike
theorem eEnv.same {G : GT} {s U : State} (h : eEnv G s) (hv : U.vm = s.vm) (hh : U.heap = s.heap) : eEnv G U := by
  obtain ⟨h1, h2, h3, h4, h5, h6, h7, h8, h9, h10, h11, h12, h13, h14⟩ := h
  have hal : s.vm.Alike U.vm := by rw [hv]; exact Vm.Alike.refl _
  refine ⟨by rw [hh]; exact h1, va_K.moved hal h2, fun k hk5 => ⟨by rw [hh]; exact (h3 k hk5).1.moved hal, by rw [hh]; exact (h3 k hk5).2.moved hal⟩, by rw [hh]; exact h4.moved hal, by rw [hh]; exact h5.moved hal, fun q hq => ?_, fun q hq => va_Nw.same rfl hv.symm (h7 q hq), fun q hq => va_Nw.same rfl hv.symm (h8 q hq), fun q hq => va_Nw.same rfl hv.symm (h9 q hq), fun q hq => ?_, ?_, ?_, ?_, h14⟩
  · obtain ⟨a, ha⟩ := h6 q hq
    exact ⟨a, vk_R.same hv ha⟩
  · obtain ⟨c, t, e1, e2, e3⟩ := h10 q hq
    exact ⟨c, t, by rw [hal.findClass]; exact e1, by rw [hal.findClass]; exact e2, by rw [hal.assignable]; exact e3⟩
  · exact va_AO.moved hal h11
  · exact va_AO.moved hal h12
  · rw [hh]; exact h13.moved hal
/-! ===== the world by ids: shapes and numbers ===== -/
abbrev FK : Type := Option (Option (Option Nat))
abbrev ShT : Type := Nat ⊕ Nat ⊕ (Bool × List (Option Nat)) ⊕ (Nat × List FK)
abbrev Mem : Type := Nat → Nat → Int
abbrev WT : Type := Nat × (Nat → ShT) × Mem
def sI (n : Nat) : ShT := .inl n
def sL (n : Nat) : ShT := .inr (.inl n)
def sQ (b : Bool) (ids : List (Option Nat)) : ShT := .inr (.inr (.inl (b, ids)))
def sO (ci : Nat) (fks : List FK) : ShT := .inr (.inr (.inr (ci, fks)))
def fI : FK := none
def fL : FK := some none
def fN : FK := some (some none)
def fR (id : Nat) : FK := some (some (some id))
def fval (B : Nat) (m : Nat → Int) (k : Nat) (x : FK) : Value := match x with
  | none => vI (m k)
  | some none => vL (m k)
  | some (some none) => .null
  | some (some (some id)) => .ref (B + id)
def flds (B : Nat) (m : Nat → Int) : Nat → List FK → List Value
  | _, [] => []
  | k, x :: t => fval B m k x :: flds B m (k + 1) t
def qel (B : Nat) (ids : List (Option Nat)) (j : Nat) : Option Nat := match ids[j]? with
  | some (some id) => some (B + id)
  | _ => none
def cel (G : GT) (sh : ShT) (m : Nat → Int) : va_E := match sh with
  | .inl n => .inl (gI G, n, .inl (fun j => Int32.ofInt (m j)))
  | .inr (.inl n) => .inl (gL G, n, .inr (.inl (fun j => Int64.ofInt (m j))))
  | .inr (.inr (.inl q)) => .inl (if q.1 then gR G else gS G, q.2.length, .inr (.inr (.inr (.inr (qel (gB G) q.2)))))
  | .inr (.inr (.inr q)) => .inr (q.1, flds (gB G) m 0 q.2)
def fup {α : Type} (f : Nat → α) (k : Nat) (x : α) : Nat → α := fun j => if j = k then x else f j
def mup (μ : Mem) (a k : Nat) (z : Int) : Mem := fup μ a (fup (μ a) k z)
theorem fup_s {α : Type} (f : Nat → α) (k : Nat) (x : α) : fup f k x k = x := by simp [fup]
theorem fup_n {α : Type} {f : Nat → α} {k j : Nat} {x : α} (h : j ≠ k) : fup f k x j = f j := by simp [fup, h]
def wsO (G : GT) (w : WT) : va_W := (List.range w.1).map (fun k => (gB G + k, cel G (w.2.1 k) (w.2.2 k)))
def wld (G : GT) (w : WT) (H : Heap) : Prop := va_P (gD G) vwCl (wsO G w) H
theorem flds_get (B : Nat) (m : Nat → Int) : ∀ (fks : List FK) (s j : Nat), (flds B m s fks)[j]? = fks[j]?.map (fval B m (s + j))
  | [], s, j => by simp [flds]
  | x :: t, s, 0 => by simp [flds]
  | x :: t, s, j + 1 => by
    simp only [flds, List.getElem?_cons_succ]
    rw [flds_get B m t (s + 1) j, show s + 1 + j = s + (j + 1) by omega]
theorem flds_len (B : Nat) (m : Nat → Int) : ∀ (fks : List FK) (s : Nat), (flds B m s fks).length = fks.length
  | [], s => rfl
  | x :: t, s => by simp [flds, flds_len B m t (s + 1)]
theorem fval_up {B : Nat} {m : Nat → Int} {k j : Nat} {z : Int} {x : FK} (h : j ≠ k) : fval B (fup m k z) j x = fval B m j x := by
  cases x with
  | none => simp [fval, fup_n h]
  | some y =>
    cases y with
    | none => simp [fval, fup_n h]
    | some v => cases v <;> rfl
/-- a number's field is written: the cell's fields -/
theorem flds_up {B : Nat} {m : Nat → Int} {k : Nat} {z : Int} {fks : List FK} {x : FK} (hk : fks[k]? = some x) : flds B (fup m k z) 0 fks = (flds B m 0 fks).set k (fval B (fup m k z) k x) := by
  apply List.ext_getElem?
  intro j
  rw [flds_get, List.getElem?_set]
  simp only [flds_len, flds_get, Nat.zero_add]
  by_cases hj : k = j
  · subst hj
    obtain ⟨hl, hx⟩ := List.getElem?_eq_some_iff.mp hk
    simp [hl, hx]
  · simp only [hj, if_false]
    congr 1
    funext y
    exact fval_up (fun e => hj e.symm)
theorem flds_set {B : Nat} {m : Nat → Int} {k : Nat} {fks : List FK} (x : FK) : flds B m 0 (fks.set k x) = (flds B m 0 fks).set k (fval B m k x) := by
  apply List.ext_getElem?
  intro j
  rw [flds_get, List.getElem?_set, List.getElem?_set]
  simp only [flds_len, flds_get, Nat.zero_add]
  by_cases hj : k = j
  · subst hj
    by_cases hl : k < fks.length <;> simp [hl]
  · simp [hj]
theorem wsO_get {G : GT} {w : WT} {k : Nat} (h : k < w.1) : (wsO G w)[k]? = some (gB G + k, cel G (w.2.1 k) (w.2.2 k)) := by
  simp [wsO, h]
theorem wsO_inv {G : GT} {w : WT} {k : Nat} {q : Nat × va_E} (h : (wsO G w)[k]? = some q) : k < w.1 ∧ q = (gB G + k, cel G (w.2.1 k) (w.2.2 k)) := by
  have hk : k < w.1 := by
    have := (List.getElem?_eq_some_iff.mp h).1
    simpa [wsO] using this
  rw [wsO_get hk] at h
  exact ⟨hk, (Option.some.inj h).symm⟩
theorem wsO_D (G : GT) (w : WT) : va_D (gA G) (wsO G w) := by
  refine ⟨fun i j p q hi hj hpq => ?_, fun k q hk => ?_⟩
  · obtain ⟨-, rfl⟩ := wsO_inv hi
    obtain ⟨-, rfl⟩ := wsO_inv hj
    have : gB G + i = gB G + j := hpq
    omega
  · obtain ⟨-, rfl⟩ := wsO_inv hk
    exact Nat.le_add_right _ _
theorem wsO_set {G : GT} {n : Nat} {sh sh' : Nat → ShT} {μ μ' : Mem} {a : Nat} {e : va_E} (he : cel G (sh' a) (μ' a) = e) (hn : ∀ k, k ≠ a → sh' k = sh k ∧ μ' k = μ k) : (wsO G (n, sh, μ)).set a (gB G + a, e) = wsO G (n, sh', μ') := by
  apply List.ext_getElem?
  intro j
  rw [List.getElem?_set]
  by_cases hj : a = j
  · subst hj
    by_cases hl : a < n <;> simp [wsO, hl, he]
  · have h2 := hn j (fun q => hj q.symm)
    by_cases hl : j < n <;> simp [wsO, hj, hl, h2.1, h2.2]
theorem wsO_push {G : GT} {n : Nat} {sh : Nat → ShT} {μ : Mem} {s : ShT} {m : Nat → Int} : wsO G (n, sh, μ) ++ [(gB G + n, cel G s m)] = wsO G (n + 1, fup sh n s, fup μ n m) := by
  apply List.ext_getElem?
  intro j
  by_cases hj : j < n
  · rw [List.getElem?_append_left (by simp [wsO, hj])]
    have : j ≠ n := by omega
    simp [wsO, hj, fup_n this, Nat.lt_succ_of_lt hj]
  · rw [List.getElem?_append_right (by simp [wsO]; omega)]
    by_cases he : j = n
    · subst he
      simp [wsO, fup_s]
    · have h1 : ¬ j < n + 1 := by omega
      have h2 : j - n ≠ 0 := by omega
      simp [wsO, h1]
      omega
end
section
/-! ===== the judgement V: a method's frame over a world, with the result r ===== -/
def lw_G : List Cond := lw_tbl.filter goodWord
theorem inG {w : Cond} (h : w ∈ lw_tbl) (g : goodWord w = true) : w ∈ lw_G := List.mem_filter.mpr ⟨h, g⟩
theorem inG_g {w : Cond} (h : w ∈ lw_G) : (w.onTables && w.keeps) = true ∨ ∃ ty, w = .arrayClass ty := good_of_word (List.mem_filter.mp h).2
/-- name, code, locals, return type, frames, words of locals, handlers -/
abbrev MD : Type := MethodName × ByteArray × Nat × Option FieldType × Nat × Nat × List (Nat × Nat × Nat × Nat)
def mY (M : MD) : MethodName := M.1
def mC (M : MD) : ByteArray := M.2.1
def mL (M : MD) : Nat := M.2.2.1
def mR (M : MD) : Option FieldType := M.2.2.2.1
def mF (M : MD) : Nat := M.2.2.2.2.1
def mO (M : MD) : Nat := M.2.2.2.2.2.1
def mH (M : MD) : List (Nat × Nat × Nat × Nat) := M.2.2.2.2.2.2
def mK (M : MD) : Cond := match mH M with
  | [] => .code (mY M) (mC M) (mL M) (mR M)
  | h :: t => .codeWith (mY M) (mC M) (mL M) (mR M) (h :: t)
def mW (M : MD) : List Cond := mK M :: lw_G
/-- a result: the outcome, the world, cells, slots -/
abbrev RT : Type := (Option Value ⊕ String) × WT × Nat × Nat
def xQc (G : GT) (r : RT) : Array Value → State → Outcome → State → Prop := fun _ st o t => (∃ v : Option Value, r.1 = .inl v ∧ o = .returned v ∧ wld G r.2.1 t.heap) ∧ va_F (gA G) st t
def xXC (G : GT) (r : RT) : String → State → State → Prop := fun E st t => (r.1 = .inr E ∧ wld G r.2.1 t.heap) ∧ va_F (gA G) st t
def mRm (M : MD) (r : RT) : Room := { frames := mF M, cells := r.2.2.1, slots := r.2.2.2, locals := mO M }
def Pre0 (G : GT) (t : Bool) (w : WT) (U : State) : Prop := eEnv G U ∧ wld G w U.heap ∧ (t = true → U.heap.size = gB G + w.1)
def Run (G : GT) (l : Launch) (t : Bool) (M : MD) (av : List Value) (w : WT) (r : RT) : Prop :=
  vx_Met l (mY M) (mW M) (mRm M r) (va_Pc av (Pre0 G t w)) (xQc G r) (xXC G r) r.2.2.1 r.2.2.2 (gA G)
def Ctx (G : GT) (z : Option Nat) (M : MD) (r : RT) (p : Program) (l : Launch) (R : Room) (s : State) (m : MethodId) (args : Array Value) (meth : Method) (c : Code) : Prop :=
  (p.tables.exec = Jvm.exec ∧ c.code = mC M ∧ c.maxLocals = mL M ∧ meth.sig.returnType = mR M ∧ s.vm.findClass (mY M).cls = some m.cls) ∧ (∀ w ∈ lw_G, w.before args s = true) ∧
  (meth.locks = false ∧ mF M ≤ R.frames ∧ mO M ≤ R.locals ∧ r.2.2.1 ≤ R.cells ∧ r.2.2.2 ≤ R.slots) ∧ ((mY M).name = "<init>" → meth.name = "<init>") ∧
  c.exceptionTable.toList = tableOf (mH M) ∧ eEnv G s ∧ (∀ n0, z = some n0 → s.heap.size = gB G + n0) ∧ l.stackTraces = false
def V (G : GT) (l : Launch) (z : Option Nat) (M : MD) (pc : Nat) (lv : List (Nat × Value)) (st : List Value) (w : WT) (k n : Nat) (r : RT) : Prop :=
  (k ≤ r.2.2.1 ∧ n ≤ r.2.2.2) ∧ ∀ (p : Program) (e : Env) (R : Room) (s : State) (m : MethodId) (args : Array Value) (below : List Frame) (meth : Method) (c : Code) (H : Heap) (locs : List Loc) (ls : Array Slot),
    Ctx G z M r p l R s m args meth c → lv_has ls (mL M) lv → wld G w H → va_S (gA G) s.heap H locs →
    W p l e R s m args below meth c H locs k n (vx_MQ below (xQc G r) (xXC G r) args s r.2.2.1 r.2.2.2 (gA G)) (F0 m pc ls st)
def VW (G : GT) (l : Launch) (z : Option Nat) (M : MD) (pc : Nat) (lv : List (Nat × Value)) (st : List Value) (w : WT) (k n : Nat) (Φ : RT → Prop) : Prop :=
  ∃ r : RT, Φ r ∧ V G l z M pc lv st w k n r
/-- one step: from what comes behind it -/
theorem VW.step {G : GT} {l : Launch} {z : Option Nat} {M : MD} {pc pc' : Nat} {lv lv' : List (Nat × Value)} {st st' : List Value} {w w' : WT} {k n k' n' : Nat} {Φ : RT → Prop}
    (hk : k ≤ k' ∧ n ≤ n') (h : VW G l z M pc' lv' st' w' k' n' Φ)
    (f : ∀ (r : RT) (p : Program) (e : Env) (R : Room) (s : State) (m : MethodId) (args : Array Value) (below : List Frame) (meth : Method) (c : Code) (H : Heap) (locs : List Loc) (ls : Array Slot),
      Ctx G z M r p l R s m args meth c → (k' ≤ R.cells ∧ n' ≤ R.slots) → lv_has ls (mL M) lv → wld G w H → va_S (gA G) s.heap H locs →
      (∀ (H' : Heap) (locs' : List Loc) (ls' : Array Slot), lv_has ls' (mL M) lv' → wld G w' H' → va_S (gA G) s.heap H' locs' →
        W p l e R s m args below meth c H' locs' k' n' (vx_MQ below (xQc G r) (xXC G r) args s r.2.2.1 r.2.2.2 (gA G)) (F0 m pc' ls' st')) →
      W p l e R s m args below meth c H locs k n (vx_MQ below (xQc G r) (xXC G r) args s r.2.2.1 r.2.2.2 (gA G)) (F0 m pc ls st)) : VW G l z M pc lv st w k n Φ := by
  obtain ⟨r, hΦ, ⟨h1, h2⟩, h3⟩ := h
  refine ⟨r, hΦ, ⟨Nat.le_trans hk.1 h1, Nat.le_trans hk.2 h2⟩, fun p e R s m args below meth c H locs ls C hl hw hS => ?_⟩
  exact f r p e R s m args below meth c H locs ls C ⟨Nat.le_trans h1 C.2.2.1.2.2.2.1, Nat.le_trans h2 C.2.2.1.2.2.2.2⟩ hl hw hS (fun H' locs' ls' a b d => h3 p e R s m args below meth c H' locs' ls' C a b d)
/-- locals by name -/
def lk : List (Nat × Value) → Nat → Option Value
  | [], _ => none
  | q :: t, i => if q.1 = i then some q.2 else lk t i
theorem lk_mem : ∀ {lv : List (Nat × Value)} {i : Nat} {v : Value}, lk lv i = some v → (i, v) ∈ lv
  | q :: t, i, v, h => by
    unfold lk at h
    by_cases hq : q.1 = i
    · rw [if_pos hq] at h
      cases h
      subst hq
      exact List.mem_cons_self
    · rw [if_neg hq] at h
      exact List.mem_cons_of_mem _ (lk_mem h)
theorem lk_at {ls : Array Slot} {nL : Nat} {lv : List (Nat × Value)} {i : Nat} {v : Value} (h : lv_has ls nL lv) (hk : lk lv i = some v) : ls[i]? = some (.val v) := h.2.2 (i, v) (lk_mem hk)
theorem lv_has.mono {ls : Array Slot} {nL : Nat} {l l' : List (Nat × Value)} (h : lv_has ls nL l) (hs : ∀ q ∈ l', q ∈ l) : lv_has ls nL l' := ⟨h.1, h.2.1, fun q hq => h.2.2 q (hs q hq)⟩
/-- a local is set in its place -/
def ups1 : List (Nat × Value) → Nat → Value → List (Nat × Value)
  | [], i, v => [(i, v)]
  | q :: t, i, v => if q.1 = i then (i, v) :: t.filter (fun q => !(q.1 == i) && !(q.1 + 1 == i && q.2.category == 2)) else if q.1 + 1 = i ∧ q.2.category = 2 then ups1 t i v else q :: ups1 t i v
def ups2 : List (Nat × Value) → Nat → Value → List (Nat × Value)
  | [], i, v => [(i, v)]
  | q :: t, i, v => if q.1 = i then (i, v) :: t.filter (fun q => !(q.1 == i) && (!(q.1 == i + 1) && !(q.1 + 1 == i && q.2.category == 2))) else if q.1 = i + 1 ∨ (q.1 + 1 = i ∧ q.2.category = 2) then ups2 t i v else q :: ups2 t i v
theorem ups1_mem : ∀ {lv : List (Nat × Value)} {i : Nat} {v : Value} {q : Nat × Value}, q ∈ ups1 lv i v → q ∈ (i, v) :: lv.filter (fun q => !(q.1 == i) && !(q.1 + 1 == i && q.2.category == 2))
  | [], i, v, q, h => by simpa [ups1] using h
  | x :: t, i, v, q, h => by
    unfold ups1 at h
    by_cases h1 : x.1 = i
    · rw [if_pos h1] at h
      rcases List.mem_cons.mp h with h | h
      · exact List.mem_cons.mpr (Or.inl h)
      · refine List.mem_cons.mpr (Or.inr ?_)
        obtain ⟨a, b⟩ := List.mem_filter.mp h
        exact List.mem_filter.mpr ⟨List.mem_cons_of_mem _ a, b⟩
    · rw [if_neg h1] at h
      have lift : ∀ {q : Nat × Value}, q ∈ (i, v) :: t.filter (fun q => !(q.1 == i) && !(q.1 + 1 == i && q.2.category == 2)) → q ∈ (i, v) :: (x :: t).filter (fun q => !(q.1 == i) && !(q.1 + 1 == i && q.2.category == 2)) := by
        intro q h
        rcases List.mem_cons.mp h with h | h
        · exact List.mem_cons.mpr (Or.inl h)
        · refine List.mem_cons.mpr (Or.inr ?_)
          obtain ⟨a, b⟩ := List.mem_filter.mp h
          exact List.mem_filter.mpr ⟨List.mem_cons_of_mem _ a, b⟩
      by_cases h2 : x.1 + 1 = i ∧ x.2.category = 2
      · rw [if_pos h2] at h
        exact lift (ups1_mem h)
      · rw [if_neg h2] at h
        rcases List.mem_cons.mp h with h | h
        · subst h
          refine List.mem_cons.mpr (Or.inr (List.mem_filter.mpr ⟨List.mem_cons_self, ?_⟩))
          simp only [Bool.and_eq_true, Bool.not_eq_true', beq_eq_false_iff_ne, ne_eq, Bool.and_eq_false_iff]
          refine ⟨h1, ?_⟩
          by_cases h3 : q.1 + 1 = i
          · exact Or.inr (fun e => h2 ⟨h3, e⟩)
          · exact Or.inl h3
        · exact lift (ups1_mem h)
theorem ups2_mem : ∀ {lv : List (Nat × Value)} {i : Nat} {v : Value} {q : Nat × Value}, q ∈ ups2 lv i v → q ∈ (i, v) :: lv.filter (fun q => !(q.1 == i) && (!(q.1 == i + 1) && !(q.1 + 1 == i && q.2.category == 2)))
  | [], i, v, q, h => by simpa [ups2] using h
  | x :: t, i, v, q, h => by
    unfold ups2 at h
    have lift : ∀ {q : Nat × Value}, q ∈ (i, v) :: t.filter (fun q => !(q.1 == i) && (!(q.1 == i + 1) && !(q.1 + 1 == i && q.2.category == 2))) → q ∈ (i, v) :: (x :: t).filter (fun q => !(q.1 == i) && (!(q.1 == i + 1) && !(q.1 + 1 == i && q.2.category == 2))) := by
      intro q h
      rcases List.mem_cons.mp h with h | h
      · exact List.mem_cons.mpr (Or.inl h)
      · refine List.mem_cons.mpr (Or.inr ?_)
        obtain ⟨a, b⟩ := List.mem_filter.mp h
        exact List.mem_filter.mpr ⟨List.mem_cons_of_mem _ a, b⟩
    by_cases h1 : x.1 = i
    · rw [if_pos h1] at h
      exact lift h
    · rw [if_neg h1] at h
      by_cases h2 : x.1 = i + 1 ∨ (x.1 + 1 = i ∧ x.2.category = 2)
      · rw [if_pos h2] at h
        exact lift (ups2_mem h)
      · rw [if_neg h2] at h
        rcases List.mem_cons.mp h with h | h
        · subst h
          refine List.mem_cons.mpr (Or.inr (List.mem_filter.mpr ⟨List.mem_cons_self, ?_⟩))
          simp only [Bool.and_eq_true, Bool.not_eq_true', beq_eq_false_iff_ne, ne_eq, Bool.and_eq_false_iff]
          refine ⟨h1, fun e => h2 (Or.inl e), ?_⟩
          by_cases h3 : q.1 + 1 = i
          · exact Or.inr (fun e => h2 (Or.inr ⟨h3, e⟩))
          · exact Or.inl h3
        · exact lift (ups2_mem h)
/-- fewer locals are known -/
theorem VW.sub {G : GT} {l : Launch} {z : Option Nat} {M : MD} {pc : Nat} {lv lv' : List (Nat × Value)} {st : List Value} {w : WT} {k n : Nat} {Φ : RT → Prop}
    (h : VW G l z M pc lv' st w k n Φ) (ks : List Nat) (hl : lv_pick lv ks = lv') : VW G l z M pc lv st w k n Φ :=
  VW.step ⟨Nat.le_refl _, Nat.le_refl _⟩ h fun r p e R s m args below meth c H locs ls C hR hl2 hw hS kk => kk H locs ls (lv_sub hl2 ks hl) hw hS
theorem VW.mono {G : GT} {l : Launch} {z : Option Nat} {M : MD} {pc : Nat} {lv : List (Nat × Value)} {st : List Value} {w : WT} {k n : Nat} {Φ Ψ : RT → Prop}
    (h : VW G l z M pc lv st w k n Φ) (f : ∀ r, Φ r → Ψ r) : VW G l z M pc lv st w k n Ψ := by
  obtain ⟨r, a, b⟩ := h
  exact ⟨r, f r a, b⟩
theorem VW.cs {G : GT} {l : Launch} {z : Option Nat} {M : MD} {pc : Nat} {lv : List (Nat × Value)} {st : List Value} {w : WT} {k n k' n' : Nat} {Φ : RT → Prop}
    (h : VW G l z M pc lv st w k' n' Φ) (hk : k ≤ k') (hn : n ≤ n') : VW G l z M pc lv st w k n Φ :=
  VW.step ⟨hk, hn⟩ h fun r p e R s m args below meth c H locs ls C hR hl2 hw hS kk => W.widen hk hn (kk H locs ls hl2 hw hS)
/-! ===== rows of V: an instruction each ===== -/
section VR
variable {G : GT} {l : Launch} {z : Option Nat} {M : MD} {pc : Nat} {lv : List (Nat × Value)} {rest : List Value} {w : WT} {k n : Nat} {Φ : RT → Prop}
theorem VW.iconst {a : Int} (hd : decode (mC M) pc = .ok (.iconst a, 1)) (kk : VW G l z M (pc + 1) lv (vI a :: rest) w k n Φ) : VW G l z M pc lv rest w k n Φ :=
  VW.step ⟨Nat.le_refl _, Nat.le_refl _⟩ kk fun r p e R s m args below meth c H locs ls C hR hl hw hS kk => lv_iconst (v := Int32.ofInt a) C.1.1 C.1.2.1 hd rfl (kk H locs ls hl hw hS)
theorem VW.bipush {a : Int} (hd : decode (mC M) pc = .ok (.bipush a, 2)) (hv : (Int8.ofInt a).toInt32 = Int32.ofInt a) (kk : VW G l z M (pc + 2) lv (vI a :: rest) w k n Φ) : VW G l z M pc lv rest w k n Φ :=
  VW.step ⟨Nat.le_refl _, Nat.le_refl _⟩ kk fun r p e R s m args below meth c H locs ls C hR hl hw hS kk => lv_bipush (v := Int32.ofInt a) C.1.1 C.1.2.1 hd hv (kk H locs ls hl hw hS)
theorem VW.sipush {a : Int} (hd : decode (mC M) pc = .ok (.sipush a, 3)) (hv : (Int16.ofInt a).toInt32 = Int32.ofInt a) (kk : VW G l z M (pc + 3) lv (vI a :: rest) w k n Φ) : VW G l z M pc lv rest w k n Φ :=
  VW.step ⟨Nat.le_refl _, Nat.le_refl _⟩ kk fun r p e R s m args below meth c H locs ls C hR hl hw hS kk => lv_sipush (v := Int32.ofInt a) C.1.1 C.1.2.1 hd hv (kk H locs ls hl hw hS)
theorem VW.lconst {a : Fin 2} {b : Int} (hd : decode (mC M) pc = .ok (.lconst a, 1)) (hv : Int64.ofNat (a : Nat) = Int64.ofInt b) (kk : VW G l z M (pc + 1) lv (vL b :: rest) w k n Φ) : VW G l z M pc lv rest w k n Φ :=
  VW.step ⟨Nat.le_refl _, Nat.le_refl _⟩ kk fun r p e R s m args below meth c H locs ls C hR hl hw hS kk => lv_lconst (v := Int64.ofInt b) C.1.1 C.1.2.1 hd hv (kk H locs ls hl hw hS)
theorem VW.fconst0 (hd : decode (mC M) pc = .ok (.fconst 0, 1)) (kk : VW G l z M (pc + 1) lv (.float FP.fconst0 :: rest) w k n Φ) : VW G l z M pc lv rest w k n Φ :=
  VW.step ⟨Nat.le_refl _, Nat.le_refl _⟩ kk fun r p e R s m args below meth c H locs ls C hR hl hw hS kk => lv_fconst0 C.1.1 C.1.2.1 hd (kk H locs ls hl hw hS)
theorem VW.fconst1 (hd : decode (mC M) pc = .ok (.fconst 1, 1)) (kk : VW G l z M (pc + 1) lv (.float FP.fconst1 :: rest) w k n Φ) : VW G l z M pc lv rest w k n Φ :=
  VW.step ⟨Nat.le_refl _, Nat.le_refl _⟩ kk fun r p e R s m args below meth c H locs ls C hR hl hw hS kk => lv_fconst1 C.1.1 C.1.2.1 hd (kk H locs ls hl hw hS)
theorem VW.fconst2 (hd : decode (mC M) pc = .ok (.fconst 2, 1)) (kk : VW G l z M (pc + 1) lv (.float FP.fconst2 :: rest) w k n Φ) : VW G l z M pc lv rest w k n Φ :=
  VW.step ⟨Nat.le_refl _, Nat.le_refl _⟩ kk fun r p e R s m args below meth c H locs ls C hR hl hw hS kk => lv_fconst2 C.1.1 C.1.2.1 hd (kk H locs ls hl hw hS)
theorem VW.dconst0 (hd : decode (mC M) pc = .ok (.dconst 0, 1)) (kk : VW G l z M (pc + 1) lv (.double FP.dconst0 :: rest) w k n Φ) : VW G l z M pc lv rest w k n Φ :=
  VW.step ⟨Nat.le_refl _, Nat.le_refl _⟩ kk fun r p e R s m args below meth c H locs ls C hR hl hw hS kk => lv_dconst0 C.1.1 C.1.2.1 hd (kk H locs ls hl hw hS)
theorem VW.dconst1 (hd : decode (mC M) pc = .ok (.dconst 1, 1)) (kk : VW G l z M (pc + 1) lv (.double FP.dconst1 :: rest) w k n Φ) : VW G l z M pc lv rest w k n Φ :=
  VW.step ⟨Nat.le_refl _, Nat.le_refl _⟩ kk fun r p e R s m args below meth c H locs ls C hR hl hw hS kk => lv_dconst1 C.1.1 C.1.2.1 hd (kk H locs ls hl hw hS)
theorem VW.null (hd : decode (mC M) pc = .ok (.aconst_null, 1)) (kk : VW G l z M (pc + 1) lv (.null :: rest) w k n Φ) : VW G l z M pc lv rest w k n Φ :=
  VW.step ⟨Nat.le_refl _, Nat.le_refl _⟩ kk fun r p e R s m args below meth c H locs ls C hR hl hw hS kk => lv_null C.1.1 C.1.2.1 hd (kk H locs ls hl hw hS)
theorem VW.ldc {i : Nat} {a : Int} (hd : decode (mC M) pc = .ok (.ldc i, 2)) (hq : Cond.constant (mY M).cls i (Int32.ofInt a) ∈ lw_G) (kk : VW G l z M (pc + 2) lv (vI a :: rest) w k n Φ) : VW G l z M pc lv rest w k n Φ :=
  VW.step ⟨Nat.le_refl _, Nat.le_refl _⟩ kk fun r p e R s m args below meth c H locs ls C hR hl hw hS kk => lv_ldc (v := Int32.ofInt a) C.1.1 C.1.2.1 C.1.2.2.2.2 (C.2.1 _ hq) hd (kk H locs ls hl hw hS)
theorem VW.ldcf {i : Nat} {a : UInt32} (hd : decode (mC M) pc = .ok (.ldc i, 2)) (hq : Cond.constantFloat (mY M).cls i a ∈ lw_G) (kk : VW G l z M (pc + 2) lv (.float a :: rest) w k n Φ) : VW G l z M pc lv rest w k n Φ :=
  VW.step ⟨Nat.le_refl _, Nat.le_refl _⟩ kk fun r p e R s m args below meth c H locs ls C hR hl hw hS kk => lv_ldcf C.1.1 C.1.2.1 C.1.2.2.2.2 (C.2.1 _ hq) hd (kk H locs ls hl hw hS)
theorem VW.ldc2 {i : Nat} {a : Int} (hd : decode (mC M) pc = .ok (.ldc2_w i, 3)) (hq : Cond.constantLong (mY M).cls i (Int64.ofInt a) ∈ lw_G) (kk : VW G l z M (pc + 3) lv (vL a :: rest) w k n Φ) : VW G l z M pc lv rest w k n Φ :=
  VW.step ⟨Nat.le_refl _, Nat.le_refl _⟩ kk fun r p e R s m args below meth c H locs ls C hR hl hw hS kk => lv_ldc2 (v := Int64.ofInt a) C.1.1 C.1.2.1 C.1.2.2.2.2 (C.2.1 _ hq) hd (kk H locs ls hl hw hS)
theorem VW.ldc2d {i : Nat} {a : UInt64} (hd : decode (mC M) pc = .ok (.ldc2_w i, 3)) (hq : Cond.constantDouble (mY M).cls i a ∈ lw_G) (kk : VW G l z M (pc + 3) lv (.double a :: rest) w k n Φ) : VW G l z M pc lv rest w k n Φ :=
  VW.step ⟨Nat.le_refl _, Nat.le_refl _⟩ kk fun r p e R s m args below meth c H locs ls C hR hl hw hS kk => lv_ldc2d C.1.1 C.1.2.1 C.1.2.2.2.2 (C.2.1 _ hq) hd (kk H locs ls hl hw hS)
theorem VW.iload_n {q : Fin 4} {x : Int} (hd : decode (mC M) pc = .ok (.iload_n q, 1)) (hx : lk lv q = some (vI x)) (kk : VW G l z M (pc + 1) lv (vI x :: rest) w k n Φ) : VW G l z M pc lv rest w k n Φ :=
  VW.step ⟨Nat.le_refl _, Nat.le_refl _⟩ kk fun r p e R s m args below meth c H locs ls C hR hl hw hS kk => lv_iload_n C.1.1 C.1.2.1 hd rfl (lk_at hl hx) (kk H locs ls hl hw hS)
theorem VW.iload {q : Nat} {x : Int} (hd : decode (mC M) pc = .ok (.iload q, 2)) (hx : lk lv q = some (vI x)) (kk : VW G l z M (pc + 2) lv (vI x :: rest) w k n Φ) : VW G l z M pc lv rest w k n Φ :=
  VW.step ⟨Nat.le_refl _, Nat.le_refl _⟩ kk fun r p e R s m args below meth c H locs ls C hR hl hw hS kk => lv_iload C.1.1 C.1.2.1 hd (lk_at hl hx) (kk H locs ls hl hw hS)
theorem VW.lload_n {q : Fin 4} {x : Int} (hd : decode (mC M) pc = .ok (.lload_n q, 1)) (hx : lk lv q = some (vL x)) (kk : VW G l z M (pc + 1) lv (vL x :: rest) w k n Φ) : VW G l z M pc lv rest w k n Φ :=
  VW.step ⟨Nat.le_refl _, Nat.le_refl _⟩ kk fun r p e R s m args below meth c H locs ls C hR hl hw hS kk => lv_lload_n C.1.1 C.1.2.1 hd rfl (lk_at hl hx) (kk H locs ls hl hw hS)
theorem VW.lload {q : Nat} {x : Int} (hd : decode (mC M) pc = .ok (.lload q, 2)) (hx : lk lv q = some (vL x)) (kk : VW G l z M (pc + 2) lv (vL x :: rest) w k n Φ) : VW G l z M pc lv rest w k n Φ :=
  VW.step ⟨Nat.le_refl _, Nat.le_refl _⟩ kk fun r p e R s m args below meth c H locs ls C hR hl hw hS kk => lv_lload C.1.1 C.1.2.1 hd (lk_at hl hx) (kk H locs ls hl hw hS)
theorem VW.aload_n {q : Fin 4} {x : Nat} (hd : decode (mC M) pc = .ok (.aload_n q, 1)) (hx : lk lv q = some (.ref x)) (kk : VW G l z M (pc + 1) lv (.ref x :: rest) w k n Φ) : VW G l z M pc lv rest w k n Φ :=
  VW.step ⟨Nat.le_refl _, Nat.le_refl _⟩ kk fun r p e R s m args below meth c H locs ls C hR hl hw hS kk => lv_aload_n C.1.1 C.1.2.1 hd rfl (lk_at hl hx) (kk H locs ls hl hw hS)
theorem VW.aload {q : Nat} {x : Nat} (hd : decode (mC M) pc = .ok (.aload q, 2)) (hx : lk lv q = some (.ref x)) (kk : VW G l z M (pc + 2) lv (.ref x :: rest) w k n Φ) : VW G l z M pc lv rest w k n Φ :=
  VW.step ⟨Nat.le_refl _, Nat.le_refl _⟩ kk fun r p e R s m args below meth c H locs ls C hR hl hw hS kk => lv_aload C.1.1 C.1.2.1 hd (lk_at hl hx) (kk H locs ls hl hw hS)
theorem VW.fload_n {q : Fin 4} {x : UInt32} (hd : decode (mC M) pc = .ok (.fload_n q, 1)) (hx : lk lv q = some (.float x)) (kk : VW G l z M (pc + 1) lv (.float x :: rest) w k n Φ) : VW G l z M pc lv rest w k n Φ :=
  VW.step ⟨Nat.le_refl _, Nat.le_refl _⟩ kk fun r p e R s m args below meth c H locs ls C hR hl hw hS kk => lv_fload_n C.1.1 C.1.2.1 hd rfl (lk_at hl hx) (kk H locs ls hl hw hS)
theorem VW.fload {q : Nat} {x : UInt32} (hd : decode (mC M) pc = .ok (.fload q, 2)) (hx : lk lv q = some (.float x)) (kk : VW G l z M (pc + 2) lv (.float x :: rest) w k n Φ) : VW G l z M pc lv rest w k n Φ :=
  VW.step ⟨Nat.le_refl _, Nat.le_refl _⟩ kk fun r p e R s m args below meth c H locs ls C hR hl hw hS kk => lv_fload C.1.1 C.1.2.1 hd (lk_at hl hx) (kk H locs ls hl hw hS)
theorem VW.dload_n {q : Fin 4} {x : UInt64} (hd : decode (mC M) pc = .ok (.dload_n q, 1)) (hx : lk lv q = some (.double x)) (kk : VW G l z M (pc + 1) lv (.double x :: rest) w k n Φ) : VW G l z M pc lv rest w k n Φ :=
  VW.step ⟨Nat.le_refl _, Nat.le_refl _⟩ kk fun r p e R s m args below meth c H locs ls C hR hl hw hS kk => lv_dload_n C.1.1 C.1.2.1 hd rfl (lk_at hl hx) (kk H locs ls hl hw hS)
theorem VW.dload {q : Nat} {x : UInt64} (hd : decode (mC M) pc = .ok (.dload q, 2)) (hx : lk lv q = some (.double x)) (kk : VW G l z M (pc + 2) lv (.double x :: rest) w k n Φ) : VW G l z M pc lv rest w k n Φ :=
  VW.step ⟨Nat.le_refl _, Nat.le_refl _⟩ kk fun r p e R s m args below meth c H locs ls C hR hl hw hS kk => lv_dload C.1.1 C.1.2.1 hd (lk_at hl hx) (kk H locs ls hl hw hS)
theorem VW.aload_nN {q : Fin 4} (hd : decode (mC M) pc = .ok (.aload_n q, 1)) (hx : lk lv q = some .null) (kk : VW G l z M (pc + 1) lv (.null :: rest) w k n Φ) : VW G l z M pc lv rest w k n Φ :=
  VW.step ⟨Nat.le_refl _, Nat.le_refl _⟩ kk fun r p e R s m args below meth c H locs ls C hR hl hw hS kk => lv_aload_nN C.1.1 C.1.2.1 hd rfl (lk_at hl hx) (kk H locs ls hl hw hS)
theorem VW.istore_n {q : Fin 4} {x : Int} {lv' : List (Nat × Value)} (hd : decode (mC M) pc = .ok (.istore_n q, 1)) (hn : (q : Nat) < mL M) (hv : ups1 lv q (vI x) = lv') (kk : VW G l z M (pc + 1) lv' rest w k n Φ) : VW G l z M pc lv (vI x :: rest) w k n Φ :=
  VW.step ⟨Nat.le_refl _, Nat.le_refl _⟩ kk fun r p e R s m args below meth c H locs ls C hR hl hw hS kk => lv_istore_n (i := (q : Nat)) C.1.1 C.1.2.1 hd rfl hl hn rfl (fun ls' hl' => kk H locs ls' (hl'.mono (fun q hq => by subst hv; exact ups1_mem hq)) hw hS)
theorem VW.istore {q : Nat} {x : Int} {lv' : List (Nat × Value)} (hd : decode (mC M) pc = .ok (.istore q, 2)) (hn : (q : Nat) < mL M) (hv : ups1 lv q (vI x) = lv') (kk : VW G l z M (pc + 2) lv' rest w k n Φ) : VW G l z M pc lv (vI x :: rest) w k n Φ :=
  VW.step ⟨Nat.le_refl _, Nat.le_refl _⟩ kk fun r p e R s m args below meth c H locs ls C hR hl hw hS kk => lv_istore C.1.1 C.1.2.1 hd hl hn rfl (fun ls' hl' => kk H locs ls' (hl'.mono (fun q hq => by subst hv; exact ups1_mem hq)) hw hS)
theorem VW.lstore_n {q : Fin 4} {x : Int} {lv' : List (Nat × Value)} (hd : decode (mC M) pc = .ok (.lstore_n q, 1)) (hn : (q : Nat) + 1 < mL M) (hv : ups2 lv q (vL x) = lv') (kk : VW G l z M (pc + 1) lv' rest w k n Φ) : VW G l z M pc lv (vL x :: rest) w k n Φ :=
  VW.step ⟨Nat.le_refl _, Nat.le_refl _⟩ kk fun r p e R s m args below meth c H locs ls C hR hl hw hS kk => lv_lstore_n (i := (q : Nat)) C.1.1 C.1.2.1 hd rfl hl hn rfl (fun ls' hl' => kk H locs ls' (hl'.mono (fun q hq => by subst hv; exact ups2_mem hq)) hw hS)
theorem VW.lstore {q : Nat} {x : Int} {lv' : List (Nat × Value)} (hd : decode (mC M) pc = .ok (.lstore q, 2)) (hn : (q : Nat) + 1 < mL M) (hv : ups2 lv q (vL x) = lv') (kk : VW G l z M (pc + 2) lv' rest w k n Φ) : VW G l z M pc lv (vL x :: rest) w k n Φ :=
  VW.step ⟨Nat.le_refl _, Nat.le_refl _⟩ kk fun r p e R s m args below meth c H locs ls C hR hl hw hS kk => lv_lstore C.1.1 C.1.2.1 hd hl hn rfl (fun ls' hl' => kk H locs ls' (hl'.mono (fun q hq => by subst hv; exact ups2_mem hq)) hw hS)
theorem VW.astore_n {q : Fin 4} {x : Nat} {lv' : List (Nat × Value)} (hd : decode (mC M) pc = .ok (.astore_n q, 1)) (hn : (q : Nat) < mL M) (hv : ups1 lv q (.ref x) = lv') (kk : VW G l z M (pc + 1) lv' rest w k n Φ) : VW G l z M pc lv (.ref x :: rest) w k n Φ :=
  VW.step ⟨Nat.le_refl _, Nat.le_refl _⟩ kk fun r p e R s m args below meth c H locs ls C hR hl hw hS kk => lv_astore_n (i := (q : Nat)) C.1.1 C.1.2.1 hd rfl hl hn rfl (fun ls' hl' => kk H locs ls' (hl'.mono (fun q hq => by subst hv; exact ups1_mem hq)) hw hS)
theorem VW.astore {q : Nat} {x : Nat} {lv' : List (Nat × Value)} (hd : decode (mC M) pc = .ok (.astore q, 2)) (hn : (q : Nat) < mL M) (hv : ups1 lv q (.ref x) = lv') (kk : VW G l z M (pc + 2) lv' rest w k n Φ) : VW G l z M pc lv (.ref x :: rest) w k n Φ :=
  VW.step ⟨Nat.le_refl _, Nat.le_refl _⟩ kk fun r p e R s m args below meth c H locs ls C hR hl hw hS kk => lv_astore C.1.1 C.1.2.1 hd hl hn rfl (fun ls' hl' => kk H locs ls' (hl'.mono (fun q hq => by subst hv; exact ups1_mem hq)) hw hS)
theorem VW.fstore_n {q : Fin 4} {x : UInt32} {lv' : List (Nat × Value)} (hd : decode (mC M) pc = .ok (.fstore_n q, 1)) (hn : (q : Nat) < mL M) (hv : ups1 lv q (.float x) = lv') (kk : VW G l z M (pc + 1) lv' rest w k n Φ) : VW G l z M pc lv (.float x :: rest) w k n Φ :=
  VW.step ⟨Nat.le_refl _, Nat.le_refl _⟩ kk fun r p e R s m args below meth c H locs ls C hR hl hw hS kk => lv_fstore_n (i := (q : Nat)) C.1.1 C.1.2.1 hd rfl hl hn rfl (fun ls' hl' => kk H locs ls' (hl'.mono (fun q hq => by subst hv; exact ups1_mem hq)) hw hS)
theorem VW.fstore {q : Nat} {x : UInt32} {lv' : List (Nat × Value)} (hd : decode (mC M) pc = .ok (.fstore q, 2)) (hn : (q : Nat) < mL M) (hv : ups1 lv q (.float x) = lv') (kk : VW G l z M (pc + 2) lv' rest w k n Φ) : VW G l z M pc lv (.float x :: rest) w k n Φ :=
  VW.step ⟨Nat.le_refl _, Nat.le_refl _⟩ kk fun r p e R s m args below meth c H locs ls C hR hl hw hS kk => lv_fstore C.1.1 C.1.2.1 hd hl hn rfl (fun ls' hl' => kk H locs ls' (hl'.mono (fun q hq => by subst hv; exact ups1_mem hq)) hw hS)
theorem VW.dstore_n {q : Fin 4} {x : UInt64} {lv' : List (Nat × Value)} (hd : decode (mC M) pc = .ok (.dstore_n q, 1)) (hn : (q : Nat) + 1 < mL M) (hv : ups2 lv q (.double x) = lv') (kk : VW G l z M (pc + 1) lv' rest w k n Φ) : VW G l z M pc lv (.double x :: rest) w k n Φ :=
  VW.step ⟨Nat.le_refl _, Nat.le_refl _⟩ kk fun r p e R s m args below meth c H locs ls C hR hl hw hS kk => lv_dstore_n (i := (q : Nat)) C.1.1 C.1.2.1 hd rfl hl hn rfl (fun ls' hl' => kk H locs ls' (hl'.mono (fun q hq => by subst hv; exact ups2_mem hq)) hw hS)
theorem VW.dstore {q : Nat} {x : UInt64} {lv' : List (Nat × Value)} (hd : decode (mC M) pc = .ok (.dstore q, 2)) (hn : (q : Nat) + 1 < mL M) (hv : ups2 lv q (.double x) = lv') (kk : VW G l z M (pc + 2) lv' rest w k n Φ) : VW G l z M pc lv (.double x :: rest) w k n Φ :=
  VW.step ⟨Nat.le_refl _, Nat.le_refl _⟩ kk fun r p e R s m args below meth c H locs ls C hR hl hw hS kk => lv_dstore C.1.1 C.1.2.1 hd hl hn rfl (fun ls' hl' => kk H locs ls' (hl'.mono (fun q hq => by subst hv; exact ups2_mem hq)) hw hS)
theorem VW.astore_nN {q : Fin 4} {lv' : List (Nat × Value)} (hd : decode (mC M) pc = .ok (.astore_n q, 1)) (hn : (q : Nat) < mL M) (hv : ups1 lv q (.null) = lv') (kk : VW G l z M (pc + 1) lv' rest w k n Φ) : VW G l z M pc lv (.null :: rest) w k n Φ :=
  VW.step ⟨Nat.le_refl _, Nat.le_refl _⟩ kk fun r p e R s m args below meth c H locs ls C hR hl hw hS kk => lv_astore_nN (i := (q : Nat)) C.1.1 C.1.2.1 hd rfl hl hn rfl (fun ls' hl' => kk H locs ls' (hl'.mono (fun q hq => by subst hv; exact ups1_mem hq)) hw hS)
theorem VW.iinc {q : Nat} {x a : Int} {lv' : List (Nat × Value)} (hd : decode (mC M) pc = .ok (.iinc q a, 3)) (hx : lk lv q = some (vI x)) (hn : q < mL M) (hv : ups1 lv q (vI (x + a)) = lv') (kk : VW G l z M (pc + 3) lv' rest w k n Φ) : VW G l z M pc lv rest w k n Φ :=
  VW.step ⟨Nat.le_refl _, Nat.le_refl _⟩ kk fun r p e R s m args below meth c H locs ls C hR hl hw hS kk => by
    obtain ⟨j, hj⟩ := List.getElem?_of_mem (lk_mem hx)
    exact lv_iinc (k := j) (v := Int32.ofInt (x + a)) C.1.1 C.1.2.1 hd hl hj (Int32.ofInt_add x a).symm hn rfl (fun ls' hl' => kk H locs ls' (hl'.mono (fun q hq => by subst hv; exact ups1_mem hq)) hw hS)
theorem VW.iadd {a b : Int} (hd : decode (mC M) pc = .ok (.iadd, 1)) (kk : VW G l z M (pc + 1) lv (vI (a + b) :: rest) w k n Φ) : VW G l z M pc lv (vI b :: vI a :: rest) w k n Φ :=
  VW.step ⟨Nat.le_refl _, Nat.le_refl _⟩ kk fun r p e R s m args below meth c H locs ls C hR hl hw hS kk => lv_iadd C.1.1 C.1.2.1 hd (by rw [← Int32.ofInt_add]; exact kk H locs ls hl hw hS)
theorem VW.isub {a b : Int} (hd : decode (mC M) pc = .ok (.isub, 1)) (kk : VW G l z M (pc + 1) lv (vI (a - b) :: rest) w k n Φ) : VW G l z M pc lv (vI b :: vI a :: rest) w k n Φ :=
  VW.step ⟨Nat.le_refl _, Nat.le_refl _⟩ kk fun r p e R s m args below meth c H locs ls C hR hl hw hS kk => lv_isub C.1.1 C.1.2.1 hd (by rw [← Int32.ofInt_sub]; exact kk H locs ls hl hw hS)
theorem VW.imul {a b : Int} (hd : decode (mC M) pc = .ok (.imul, 1)) (kk : VW G l z M (pc + 1) lv (vI (a * b) :: rest) w k n Φ) : VW G l z M pc lv (vI b :: vI a :: rest) w k n Φ :=
  VW.step ⟨Nat.le_refl _, Nat.le_refl _⟩ kk fun r p e R s m args below meth c H locs ls C hR hl hw hS kk => lv_imul C.1.1 C.1.2.1 hd (by rw [← Int32.ofInt_mul]; exact kk H locs ls hl hw hS)
theorem VW.ladd {a b : Int} (hd : decode (mC M) pc = .ok (.ladd, 1)) (kk : VW G l z M (pc + 1) lv (vL (a + b) :: rest) w k n Φ) : VW G l z M pc lv (vL b :: vL a :: rest) w k n Φ :=
  VW.step ⟨Nat.le_refl _, Nat.le_refl _⟩ kk fun r p e R s m args below meth c H locs ls C hR hl hw hS kk => lv_ladd C.1.1 C.1.2.1 hd (by rw [← Int64.ofInt_add]; exact kk H locs ls hl hw hS)
theorem VW.lmul {a b : Int} (hd : decode (mC M) pc = .ok (.lmul, 1)) (kk : VW G l z M (pc + 1) lv (vL (a * b) :: rest) w k n Φ) : VW G l z M pc lv (vL b :: vL a :: rest) w k n Φ :=
  VW.step ⟨Nat.le_refl _, Nat.le_refl _⟩ kk fun r p e R s m args below meth c H locs ls C hR hl hw hS kk => lv_lmul C.1.1 C.1.2.1 hd (by rw [← Int64.ofInt_mul]; exact kk H locs ls hl hw hS)
theorem VW.ineg {a : Int} (hd : decode (mC M) pc = .ok (.ineg, 1)) (kk : VW G l z M (pc + 1) lv (vI (-a) :: rest) w k n Φ) : VW G l z M pc lv (vI a :: rest) w k n Φ :=
  VW.step ⟨Nat.le_refl _, Nat.le_refl _⟩ kk fun r p e R s m args below meth c H locs ls C hR hl hw hS kk => lv_ineg C.1.1 C.1.2.1 hd (by rw [← Int32.ofInt_neg]; exact kk H locs ls hl hw hS)
theorem VW.i2l {a : Int} (hd : decode (mC M) pc = .ok (.i2l, 1)) (ha : R32 a) (kk : VW G l z M (pc + 1) lv (vL a :: rest) w k n Φ) : VW G l z M pc lv (vI a :: rest) w k n Φ :=
  VW.step ⟨Nat.le_refl _, Nat.le_refl _⟩ kk fun r p e R s m args below meth c H locs ls C hR hl hw hS kk => lv_i2l (v := Int64.ofInt a) C.1.1 C.1.2.1 hd (Int32.toInt64_ofInt (by rw [show Int32.minValue.toInt = -2147483648 from rfl]; exact ha.1) (by rw [show Int32.maxValue.toInt = 2147483647 from rfl]; have := ha.2; omega)) (kk H locs ls hl hw hS)
theorem VW.dup {v : Value} (hd : decode (mC M) pc = .ok (.dup, 1)) (hc : v.category = 1) (kk : VW G l z M (pc + 1) lv (v :: v :: rest) w k n Φ) : VW G l z M pc lv (v :: rest) w k n Φ :=
  VW.step ⟨Nat.le_refl _, Nat.le_refl _⟩ kk fun r p e R s m args below meth c H locs ls C hR hl hw hS kk => lv_dup C.1.1 C.1.2.1 hd hc (kk H locs ls hl hw hS)
theorem VW.dup2 {v u : Value} (hd : decode (mC M) pc = .ok (.dup2, 1)) (hc : v.category = 1) (hc2 : u.category = 1) (kk : VW G l z M (pc + 1) lv (v :: u :: v :: u :: rest) w k n Φ) : VW G l z M pc lv (v :: u :: rest) w k n Φ :=
  VW.step ⟨Nat.le_refl _, Nat.le_refl _⟩ kk fun r p e R s m args below meth c H locs ls C hR hl hw hS kk => lv_dup2_11 C.1.1 C.1.2.1 hd hc hc2 (kk H locs ls hl hw hS)
theorem VW.idiv {a b : Int} {x : Int} (hd : decode (mC M) pc = .ok (.idiv, 1)) (hb : ¬ Int32.ofInt b = 0) (hv : Int32.ofInt a / Int32.ofInt b = Int32.ofInt x) (kk : VW G l z M (pc + 1) lv (vI x :: rest) w k n Φ) : VW G l z M pc lv (vI b :: vI a :: rest) w k n Φ :=
  VW.step ⟨Nat.le_refl _, Nat.le_refl _⟩ kk fun r p e R s m args below meth c H locs ls C hR hl hw hS kk => lv_idiv C.1.1 C.1.2.1 hd hb (by rw [hv]; exact kk H locs ls hl hw hS)
theorem VW.irem {a b : Int} {x : Int} (hd : decode (mC M) pc = .ok (.irem, 1)) (hb : ¬ Int32.ofInt b = 0) (hv : Int32.ofInt a - Int32.ofInt a / Int32.ofInt b * Int32.ofInt b = Int32.ofInt x) (kk : VW G l z M (pc + 1) lv (vI x :: rest) w k n Φ) : VW G l z M pc lv (vI b :: vI a :: rest) w k n Φ :=
  VW.step ⟨Nat.le_refl _, Nat.le_refl _⟩ kk fun r p e R s m args below meth c H locs ls C hR hl hw hS kk => lv_irem C.1.1 C.1.2.1 hd hb (by rw [hv]; exact kk H locs ls hl hw hS)
theorem VW.iand {a b : Int} {x : Int} (hd : decode (mC M) pc = .ok (.iand, 1)) (hv : Int32.ofInt a &&& Int32.ofInt b = Int32.ofInt x) (kk : VW G l z M (pc + 1) lv (vI x :: rest) w k n Φ) : VW G l z M pc lv (vI b :: vI a :: rest) w k n Φ :=
  VW.step ⟨Nat.le_refl _, Nat.le_refl _⟩ kk fun r p e R s m args below meth c H locs ls C hR hl hw hS kk => lv_iand C.1.1 C.1.2.1 hd (by rw [hv]; exact kk H locs ls hl hw hS)
theorem VW.ior {a b : Int} {x : Int} (hd : decode (mC M) pc = .ok (.ior, 1)) (hv : Int32.ofInt a ||| Int32.ofInt b = Int32.ofInt x) (kk : VW G l z M (pc + 1) lv (vI x :: rest) w k n Φ) : VW G l z M pc lv (vI b :: vI a :: rest) w k n Φ :=
  VW.step ⟨Nat.le_refl _, Nat.le_refl _⟩ kk fun r p e R s m args below meth c H locs ls C hR hl hw hS kk => lv_ior C.1.1 C.1.2.1 hd (by rw [hv]; exact kk H locs ls hl hw hS)
theorem VW.ishl {a b : Int} {x : Int} (hd : decode (mC M) pc = .ok (.ishl, 1)) (hv : Int32.ofInt a <<< (Int32.ofInt b &&& 31) = Int32.ofInt x) (kk : VW G l z M (pc + 1) lv (vI x :: rest) w k n Φ) : VW G l z M pc lv (vI b :: vI a :: rest) w k n Φ :=
  VW.step ⟨Nat.le_refl _, Nat.le_refl _⟩ kk fun r p e R s m args below meth c H locs ls C hR hl hw hS kk => lv_ishl C.1.1 C.1.2.1 hd (by rw [hv]; exact kk H locs ls hl hw hS)
theorem VW.fcmp {a b : UInt32} {op : CmpOp} {x : Int} (hd : decode (mC M) pc = .ok (.fcmp op, 1)) (hv : Op.cmpValue (FP.fcmp a b) op = Int32.ofInt x) (kk : VW G l z M (pc + 1) lv (vI x :: rest) w k n Φ) : VW G l z M pc lv (.float b :: .float a :: rest) w k n Φ :=
  VW.step ⟨Nat.le_refl _, Nat.le_refl _⟩ kk fun r p e R s m args below meth c H locs ls C hR hl hw hS kk => lv_fcmp C.1.1 C.1.2.1 hd (by rw [hv]; exact kk H locs ls hl hw hS)
theorem VW.dcmp {a b : UInt64} {op : CmpOp} {x : Int} (hd : decode (mC M) pc = .ok (.dcmp op, 1)) (hv : Op.cmpValue (FP.dcmp a b) op = Int32.ofInt x) (kk : VW G l z M (pc + 1) lv (vI x :: rest) w k n Φ) : VW G l z M pc lv (.double b :: .double a :: rest) w k n Φ :=
  VW.step ⟨Nat.le_refl _, Nat.le_refl _⟩ kk fun r p e R s m args below meth c H locs ls C hR hl hw hS kk => lv_dcmp C.1.1 C.1.2.1 hd (by rw [hv]; exact kk H locs ls hl hw hS)
theorem VW.f2i {a : UInt32} {x : Int} (hd : decode (mC M) pc = .ok (.f2i, 1)) (hv : FP.f2i a = Int32.ofInt x) (kk : VW G l z M (pc + 1) lv (vI x :: rest) w k n Φ) : VW G l z M pc lv (.float a :: rest) w k n Φ :=
  VW.step ⟨Nat.le_refl _, Nat.le_refl _⟩ kk fun r p e R s m args below meth c H locs ls C hR hl hw hS kk => lv_f2i C.1.1 C.1.2.1 hd (by rw [hv]; exact kk H locs ls hl hw hS)
theorem VW.d2l {a : UInt64} {x : Int} (hd : decode (mC M) pc = .ok (.d2l, 1)) (hv : FP.d2l a = Int64.ofInt x) (kk : VW G l z M (pc + 1) lv (vL x :: rest) w k n Φ) : VW G l z M pc lv (.double a :: rest) w k n Φ :=
  VW.step ⟨Nat.le_refl _, Nat.le_refl _⟩ kk fun r p e R s m args below meth c H locs ls C hR hl hw hS kk => lv_d2l C.1.1 C.1.2.1 hd (by rw [hv]; exact kk H locs ls hl hw hS)
theorem VW.i2f {a : Int} {x : UInt32} (hd : decode (mC M) pc = .ok (.i2f, 1)) (hv : FP.i2f (Int32.ofInt a) = x) (kk : VW G l z M (pc + 1) lv (.float x :: rest) w k n Φ) : VW G l z M pc lv (vI a :: rest) w k n Φ :=
  VW.step ⟨Nat.le_refl _, Nat.le_refl _⟩ kk fun r p e R s m args below meth c H locs ls C hR hl hw hS kk => lv_i2f C.1.1 C.1.2.1 hd (by rw [hv]; exact kk H locs ls hl hw hS)
theorem VW.i2d {a : Int} {x : UInt64} (hd : decode (mC M) pc = .ok (.i2d, 1)) (hv : FP.i2d (Int32.ofInt a) = x) (kk : VW G l z M (pc + 1) lv (.double x :: rest) w k n Φ) : VW G l z M pc lv (vI a :: rest) w k n Φ :=
  VW.step ⟨Nat.le_refl _, Nat.le_refl _⟩ kk fun r p e R s m args below meth c H locs ls C hR hl hw hS kk => lv_i2d C.1.1 C.1.2.1 hd (by rw [hv]; exact kk H locs ls hl hw hS)
theorem VW.fdiv {a b : UInt32} {x : UInt32} (hd : decode (mC M) pc = .ok (.fdiv, 1)) (hn : vf_n32 (FP.fdiv a b)) (hv : FP.fdiv a b = x) (kk : VW G l z M (pc + 1) lv (.float x :: rest) w k n Φ) : VW G l z M pc lv (.float b :: .float a :: rest) w k n Φ :=
  VW.step ⟨Nat.le_refl _, Nat.le_refl _⟩ kk fun r p e R s m args below meth c H locs ls C hR hl hw hS kk => lv_fdiv C.1.1 C.1.2.1 hd hn (by rw [hv]; exact kk H locs ls hl hw hS)
theorem VW.fmul {a b : UInt32} {x : UInt32} (hd : decode (mC M) pc = .ok (.fmul, 1)) (hn : vf_n32 (FP.fmul a b)) (hv : FP.fmul a b = x) (kk : VW G l z M (pc + 1) lv (.float x :: rest) w k n Φ) : VW G l z M pc lv (.float b :: .float a :: rest) w k n Φ :=
  VW.step ⟨Nat.le_refl _, Nat.le_refl _⟩ kk fun r p e R s m args below meth c H locs ls C hR hl hw hS kk => lv_fmul C.1.1 C.1.2.1 hd hn (by rw [hv]; exact kk H locs ls hl hw hS)
theorem VW.fsub {a b : UInt32} {x : UInt32} (hd : decode (mC M) pc = .ok (.fsub, 1)) (hn : vf_n32 (FP.fsub a b)) (hv : FP.fsub a b = x) (kk : VW G l z M (pc + 1) lv (.float x :: rest) w k n Φ) : VW G l z M pc lv (.float b :: .float a :: rest) w k n Φ :=
  VW.step ⟨Nat.le_refl _, Nat.le_refl _⟩ kk fun r p e R s m args below meth c H locs ls C hR hl hw hS kk => lv_fsub C.1.1 C.1.2.1 hd hn (by rw [hv]; exact kk H locs ls hl hw hS)
theorem VW.ddiv {a b : UInt64} {x : UInt64} (hd : decode (mC M) pc = .ok (.ddiv, 1)) (hn : vf_n64 (FP.ddiv a b)) (hv : FP.ddiv a b = x) (kk : VW G l z M (pc + 1) lv (.double x :: rest) w k n Φ) : VW G l z M pc lv (.double b :: .double a :: rest) w k n Φ :=
  VW.step ⟨Nat.le_refl _, Nat.le_refl _⟩ kk fun r p e R s m args below meth c H locs ls C hR hl hw hS kk => lv_ddiv C.1.1 C.1.2.1 hd hn (by rw [hv]; exact kk H locs ls hl hw hS)
theorem VW.dmul {a b : UInt64} {x : UInt64} (hd : decode (mC M) pc = .ok (.dmul, 1)) (hn : vf_n64 (FP.dmul a b)) (hv : FP.dmul a b = x) (kk : VW G l z M (pc + 1) lv (.double x :: rest) w k n Φ) : VW G l z M pc lv (.double b :: .double a :: rest) w k n Φ :=
  VW.step ⟨Nat.le_refl _, Nat.le_refl _⟩ kk fun r p e R s m args below meth c H locs ls C hR hl hw hS kk => lv_dmul C.1.1 C.1.2.1 hd hn (by rw [hv]; exact kk H locs ls hl hw hS)
theorem VW.dsub {a b : UInt64} {x : UInt64} (hd : decode (mC M) pc = .ok (.dsub, 1)) (hn : vf_n64 (FP.dsub a b)) (hv : FP.dsub a b = x) (kk : VW G l z M (pc + 1) lv (.double x :: rest) w k n Φ) : VW G l z M pc lv (.double b :: .double a :: rest) w k n Φ :=
  VW.step ⟨Nat.le_refl _, Nat.le_refl _⟩ kk fun r p e R s m args below meth c H locs ls C hR hl hw hS kk => lv_dsub C.1.1 C.1.2.1 hd hn (by rw [hv]; exact kk H locs ls hl hw hS)
theorem VW.lshl {a b x : Int} (hd : decode (mC M) pc = .ok (.lshl, 1)) (hv : Int64.ofInt a <<< ((Int32.ofInt b).toInt64 &&& 63) = Int64.ofInt x) (kk : VW G l z M (pc + 1) lv (vL x :: rest) w k n Φ) : VW G l z M pc lv (vI b :: vL a :: rest) w k n Φ :=
  VW.step ⟨Nat.le_refl _, Nat.le_refl _⟩ kk fun r p e R s m args below meth c H locs ls C hR hl hw hS kk => lv_lshl C.1.1 C.1.2.1 hd hv (kk H locs ls hl hw hS)
theorem VW.lsub {a b : Int} (hd : decode (mC M) pc = .ok (.lsub, 1)) (kk : VW G l z M (pc + 1) lv (vL (a - b) :: rest) w k n Φ) : VW G l z M pc lv (vL b :: vL a :: rest) w k n Φ :=
  VW.step ⟨Nat.le_refl _, Nat.le_refl _⟩ kk fun r p e R s m args below meth c H locs ls C hR hl hw hS kk => lv_lsub C.1.1 C.1.2.1 hd (by rw [← Int64.ofInt_sub]; exact kk H locs ls hl hw hS)
theorem VW.lcmp {a b x : Int} (hd : decode (mC M) pc = .ok (.lcmp, 1)) (hv : lg_cmp (Int64.ofInt a) (Int64.ofInt b) = Int32.ofInt x) (kk : VW G l z M (pc + 1) lv (vI x :: rest) w k n Φ) : VW G l z M pc lv (vL b :: vL a :: rest) w k n Φ :=
  VW.step ⟨Nat.le_refl _, Nat.le_refl _⟩ kk fun r p e R s m args below meth c H locs ls C hR hl hw hS kk => W.lcmp C.1.1 C.1.2.1 hd (by rw [hv]; exact kk H locs ls hl hw hS)
theorem VW.icmp_eq {a b : Int} {off : Int} (tgt : Nat) (ha : R32 a) (hb : R32 b) (hd : decode (mC M) pc = .ok (.if_icmp .eq off, 3)) (ht : (pc : Int) + off = (tgt : Int)) (kt : a = b → VW G l z M tgt lv rest w k n Φ) (kf : ¬ (a = b) → VW G l z M (pc + 3) lv rest w k n Φ) : VW G l z M pc lv (vI b :: vI a :: rest) w k n Φ := by
  by_cases hP : a = b
  · exact VW.step ⟨Nat.le_refl _, Nat.le_refl _⟩ (kt hP) fun r p e R s m args below meth c H locs ls C hR hl hw hS kk => lv_icmp_eq C.1.1 C.1.2.1 hd ht (fun _ => kk H locs ls hl hw hS) (fun q => absurd ((i32_eq ha hb).mpr hP) q)
  · exact VW.step ⟨Nat.le_refl _, Nat.le_refl _⟩ (kf hP) fun r p e R s m args below meth c H locs ls C hR hl hw hS kk => lv_icmp_eq C.1.1 C.1.2.1 hd ht (fun q => absurd ((i32_eq ha hb).mp q) hP) (fun _ => kk H locs ls hl hw hS)
theorem VW.if_eq {a : Int} {off : Int} (tgt : Nat) (ha : R32 a) (hd : decode (mC M) pc = .ok (.ifCond .eq off, 3)) (ht : (pc : Int) + off = (tgt : Int)) (kt : a = 0 → VW G l z M tgt lv rest w k n Φ) (kf : ¬ (a = 0) → VW G l z M (pc + 3) lv rest w k n Φ) : VW G l z M pc lv (vI a :: rest) w k n Φ := by
  have hb : R32 0 := R32_0
  by_cases hP : a = 0
  · exact VW.step ⟨Nat.le_refl _, Nat.le_refl _⟩ (kt hP) fun r p e R s m args below meth c H locs ls C hR hl hw hS kk => lv_if_eq C.1.1 C.1.2.1 hd ht (fun _ => kk H locs ls hl hw hS) (fun q => absurd ((i32_eq ha hb).mpr hP) q)
  · exact VW.step ⟨Nat.le_refl _, Nat.le_refl _⟩ (kf hP) fun r p e R s m args below meth c H locs ls C hR hl hw hS kk => lv_if_eq C.1.1 C.1.2.1 hd ht (fun q => absurd ((i32_eq ha hb).mp q) hP) (fun _ => kk H locs ls hl hw hS)
theorem VW.icmp_ne {a b : Int} {off : Int} (tgt : Nat) (ha : R32 a) (hb : R32 b) (hd : decode (mC M) pc = .ok (.if_icmp .ne off, 3)) (ht : (pc : Int) + off = (tgt : Int)) (kt : ¬ a = b → VW G l z M tgt lv rest w k n Φ) (kf : a = b → VW G l z M (pc + 3) lv rest w k n Φ) : VW G l z M pc lv (vI b :: vI a :: rest) w k n Φ := by
  by_cases hP : a = b
  · exact VW.step ⟨Nat.le_refl _, Nat.le_refl _⟩ (kf hP) fun r p e R s m args below meth c H locs ls C hR hl hw hS kk => lv_icmp_ne C.1.1 C.1.2.1 hd ht (fun q => absurd ((i32_eq ha hb).mpr hP) q) (fun _ => kk H locs ls hl hw hS)
  · exact VW.step ⟨Nat.le_refl _, Nat.le_refl _⟩ (kt hP) fun r p e R s m args below meth c H locs ls C hR hl hw hS kk => lv_icmp_ne C.1.1 C.1.2.1 hd ht (fun _ => kk H locs ls hl hw hS) (fun q => absurd ((i32_eq ha hb).mp q) hP)
theorem VW.if_ne {a : Int} {off : Int} (tgt : Nat) (ha : R32 a) (hd : decode (mC M) pc = .ok (.ifCond .ne off, 3)) (ht : (pc : Int) + off = (tgt : Int)) (kt : ¬ a = 0 → VW G l z M tgt lv rest w k n Φ) (kf : a = 0 → VW G l z M (pc + 3) lv rest w k n Φ) : VW G l z M pc lv (vI a :: rest) w k n Φ := by
  have hb : R32 0 := R32_0
  by_cases hP : a = 0
  · exact VW.step ⟨Nat.le_refl _, Nat.le_refl _⟩ (kf hP) fun r p e R s m args below meth c H locs ls C hR hl hw hS kk => lv_if_ne C.1.1 C.1.2.1 hd ht (fun q => absurd ((i32_eq ha hb).mpr hP) q) (fun _ => kk H locs ls hl hw hS)
  · exact VW.step ⟨Nat.le_refl _, Nat.le_refl _⟩ (kt hP) fun r p e R s m args below meth c H locs ls C hR hl hw hS kk => lv_if_ne C.1.1 C.1.2.1 hd ht (fun _ => kk H locs ls hl hw hS) (fun q => absurd ((i32_eq ha hb).mp q) hP)
theorem VW.icmp_lt {a b : Int} {off : Int} (tgt : Nat) (ha : R32 a) (hb : R32 b) (hd : decode (mC M) pc = .ok (.if_icmp .lt off, 3)) (ht : (pc : Int) + off = (tgt : Int)) (kt : a < b → VW G l z M tgt lv rest w k n Φ) (kf : ¬ (a < b) → VW G l z M (pc + 3) lv rest w k n Φ) : VW G l z M pc lv (vI b :: vI a :: rest) w k n Φ := by
  by_cases hP : a < b
  · exact VW.step ⟨Nat.le_refl _, Nat.le_refl _⟩ (kt hP) fun r p e R s m args below meth c H locs ls C hR hl hw hS kk => lv_icmp_lt C.1.1 C.1.2.1 hd ht (fun _ => kk H locs ls hl hw hS) (fun q => absurd ((i32_lt ha hb).mpr hP) q)
  · exact VW.step ⟨Nat.le_refl _, Nat.le_refl _⟩ (kf hP) fun r p e R s m args below meth c H locs ls C hR hl hw hS kk => lv_icmp_lt C.1.1 C.1.2.1 hd ht (fun q => absurd ((i32_lt ha hb).mp q) hP) (fun _ => kk H locs ls hl hw hS)
theorem VW.if_lt {a : Int} {off : Int} (tgt : Nat) (ha : R32 a) (hd : decode (mC M) pc = .ok (.ifCond .lt off, 3)) (ht : (pc : Int) + off = (tgt : Int)) (kt : a < 0 → VW G l z M tgt lv rest w k n Φ) (kf : ¬ (a < 0) → VW G l z M (pc + 3) lv rest w k n Φ) : VW G l z M pc lv (vI a :: rest) w k n Φ := by
  have hb : R32 0 := R32_0
  by_cases hP : a < 0
  · exact VW.step ⟨Nat.le_refl _, Nat.le_refl _⟩ (kt hP) fun r p e R s m args below meth c H locs ls C hR hl hw hS kk => lv_if_lt C.1.1 C.1.2.1 hd ht (fun _ => kk H locs ls hl hw hS) (fun q => absurd ((i32_lt ha hb).mpr hP) q)
  · exact VW.step ⟨Nat.le_refl _, Nat.le_refl _⟩ (kf hP) fun r p e R s m args below meth c H locs ls C hR hl hw hS kk => lv_if_lt C.1.1 C.1.2.1 hd ht (fun q => absurd ((i32_lt ha hb).mp q) hP) (fun _ => kk H locs ls hl hw hS)
theorem VW.icmp_ge {a b : Int} {off : Int} (tgt : Nat) (ha : R32 a) (hb : R32 b) (hd : decode (mC M) pc = .ok (.if_icmp .ge off, 3)) (ht : (pc : Int) + off = (tgt : Int)) (kt : b ≤ a → VW G l z M tgt lv rest w k n Φ) (kf : ¬ (b ≤ a) → VW G l z M (pc + 3) lv rest w k n Φ) : VW G l z M pc lv (vI b :: vI a :: rest) w k n Φ := by
  by_cases hP : b ≤ a
  · exact VW.step ⟨Nat.le_refl _, Nat.le_refl _⟩ (kt hP) fun r p e R s m args below meth c H locs ls C hR hl hw hS kk => lv_icmp_ge C.1.1 C.1.2.1 hd ht (fun _ => kk H locs ls hl hw hS) (fun q => absurd ((i32_le hb ha).mpr hP) q)
  · exact VW.step ⟨Nat.le_refl _, Nat.le_refl _⟩ (kf hP) fun r p e R s m args below meth c H locs ls C hR hl hw hS kk => lv_icmp_ge C.1.1 C.1.2.1 hd ht (fun q => absurd ((i32_le hb ha).mp q) hP) (fun _ => kk H locs ls hl hw hS)
theorem VW.if_ge {a : Int} {off : Int} (tgt : Nat) (ha : R32 a) (hd : decode (mC M) pc = .ok (.ifCond .ge off, 3)) (ht : (pc : Int) + off = (tgt : Int)) (kt : 0 ≤ a → VW G l z M tgt lv rest w k n Φ) (kf : ¬ (0 ≤ a) → VW G l z M (pc + 3) lv rest w k n Φ) : VW G l z M pc lv (vI a :: rest) w k n Φ := by
  have hb : R32 0 := R32_0
  by_cases hP : 0 ≤ a
  · exact VW.step ⟨Nat.le_refl _, Nat.le_refl _⟩ (kt hP) fun r p e R s m args below meth c H locs ls C hR hl hw hS kk => lv_if_ge C.1.1 C.1.2.1 hd ht (fun _ => kk H locs ls hl hw hS) (fun q => absurd ((i32_le hb ha).mpr hP) q)
  · exact VW.step ⟨Nat.le_refl _, Nat.le_refl _⟩ (kf hP) fun r p e R s m args below meth c H locs ls C hR hl hw hS kk => lv_if_ge C.1.1 C.1.2.1 hd ht (fun q => absurd ((i32_le hb ha).mp q) hP) (fun _ => kk H locs ls hl hw hS)
theorem VW.icmp_gt {a b : Int} {off : Int} (tgt : Nat) (ha : R32 a) (hb : R32 b) (hd : decode (mC M) pc = .ok (.if_icmp .gt off, 3)) (ht : (pc : Int) + off = (tgt : Int)) (kt : b < a → VW G l z M tgt lv rest w k n Φ) (kf : ¬ (b < a) → VW G l z M (pc + 3) lv rest w k n Φ) : VW G l z M pc lv (vI b :: vI a :: rest) w k n Φ := by
  by_cases hP : b < a
  · exact VW.step ⟨Nat.le_refl _, Nat.le_refl _⟩ (kt hP) fun r p e R s m args below meth c H locs ls C hR hl hw hS kk => lv_icmp_gt C.1.1 C.1.2.1 hd ht (fun _ => kk H locs ls hl hw hS) (fun q => absurd ((i32_lt hb ha).mpr hP) q)
  · exact VW.step ⟨Nat.le_refl _, Nat.le_refl _⟩ (kf hP) fun r p e R s m args below meth c H locs ls C hR hl hw hS kk => lv_icmp_gt C.1.1 C.1.2.1 hd ht (fun q => absurd ((i32_lt hb ha).mp q) hP) (fun _ => kk H locs ls hl hw hS)
theorem VW.if_gt {a : Int} {off : Int} (tgt : Nat) (ha : R32 a) (hd : decode (mC M) pc = .ok (.ifCond .gt off, 3)) (ht : (pc : Int) + off = (tgt : Int)) (kt : 0 < a → VW G l z M tgt lv rest w k n Φ) (kf : ¬ (0 < a) → VW G l z M (pc + 3) lv rest w k n Φ) : VW G l z M pc lv (vI a :: rest) w k n Φ := by
  have hb : R32 0 := R32_0
  by_cases hP : 0 < a
  · exact VW.step ⟨Nat.le_refl _, Nat.le_refl _⟩ (kt hP) fun r p e R s m args below meth c H locs ls C hR hl hw hS kk => lv_if_gt C.1.1 C.1.2.1 hd ht (fun _ => kk H locs ls hl hw hS) (fun q => absurd ((i32_lt hb ha).mpr hP) q)
  · exact VW.step ⟨Nat.le_refl _, Nat.le_refl _⟩ (kf hP) fun r p e R s m args below meth c H locs ls C hR hl hw hS kk => lv_if_gt C.1.1 C.1.2.1 hd ht (fun q => absurd ((i32_lt hb ha).mp q) hP) (fun _ => kk H locs ls hl hw hS)
theorem VW.icmp_le {a b : Int} {off : Int} (tgt : Nat) (ha : R32 a) (hb : R32 b) (hd : decode (mC M) pc = .ok (.if_icmp .le off, 3)) (ht : (pc : Int) + off = (tgt : Int)) (kt : a ≤ b → VW G l z M tgt lv rest w k n Φ) (kf : ¬ (a ≤ b) → VW G l z M (pc + 3) lv rest w k n Φ) : VW G l z M pc lv (vI b :: vI a :: rest) w k n Φ := by
  by_cases hP : a ≤ b
  · exact VW.step ⟨Nat.le_refl _, Nat.le_refl _⟩ (kt hP) fun r p e R s m args below meth c H locs ls C hR hl hw hS kk => lv_icmp_le C.1.1 C.1.2.1 hd ht (fun _ => kk H locs ls hl hw hS) (fun q => absurd ((i32_le ha hb).mpr hP) q)
  · exact VW.step ⟨Nat.le_refl _, Nat.le_refl _⟩ (kf hP) fun r p e R s m args below meth c H locs ls C hR hl hw hS kk => lv_icmp_le C.1.1 C.1.2.1 hd ht (fun q => absurd ((i32_le ha hb).mp q) hP) (fun _ => kk H locs ls hl hw hS)
theorem VW.if_le {a : Int} {off : Int} (tgt : Nat) (ha : R32 a) (hd : decode (mC M) pc = .ok (.ifCond .le off, 3)) (ht : (pc : Int) + off = (tgt : Int)) (kt : a ≤ 0 → VW G l z M tgt lv rest w k n Φ) (kf : ¬ (a ≤ 0) → VW G l z M (pc + 3) lv rest w k n Φ) : VW G l z M pc lv (vI a :: rest) w k n Φ := by
  have hb : R32 0 := R32_0
  by_cases hP : a ≤ 0
  · exact VW.step ⟨Nat.le_refl _, Nat.le_refl _⟩ (kt hP) fun r p e R s m args below meth c H locs ls C hR hl hw hS kk => lv_if_le C.1.1 C.1.2.1 hd ht (fun _ => kk H locs ls hl hw hS) (fun q => absurd ((i32_le ha hb).mpr hP) q)
  · exact VW.step ⟨Nat.le_refl _, Nat.le_refl _⟩ (kf hP) fun r p e R s m args below meth c H locs ls C hR hl hw hS kk => lv_if_le C.1.1 C.1.2.1 hd ht (fun q => absurd ((i32_le ha hb).mp q) hP) (fun _ => kk H locs ls hl hw hS)
theorem VW.goto {off : Int} (tgt : Nat) (hd : decode (mC M) pc = .ok (.goto off, 3)) (ht : (pc : Int) + off = (tgt : Int)) (kk : VW G l z M tgt lv rest w k n Φ) : VW G l z M pc lv rest w k n Φ :=
  VW.step ⟨Nat.le_refl _, Nat.le_refl _⟩ kk fun r p e R s m args below meth c H locs ls C hR hl hw hS kk => lv_goto C.1.1 C.1.2.1 hd ht (kk H locs ls hl hw hS)
theorem VW.ifnull {x : Nat} {off : Int} (hd : decode (mC M) pc = .ok (.ifnull off, 3)) (kk : VW G l z M (pc + 3) lv rest w k n Φ) : VW G l z M pc lv (.ref x :: rest) w k n Φ :=
  VW.step ⟨Nat.le_refl _, Nat.le_refl _⟩ kk fun r p e R s m args below meth c H locs ls C hR hl hw hS kk => lv_ifnull C.1.1 C.1.2.1 hd (kk H locs ls hl hw hS)
theorem VW.ifnonnull {x : Nat} {off : Int} (tgt : Nat) (hd : decode (mC M) pc = .ok (.ifnonnull off, 3)) (ht : (pc : Int) + off = (tgt : Int)) (kk : VW G l z M tgt lv rest w k n Φ) : VW G l z M pc lv (.ref x :: rest) w k n Φ :=
  VW.step ⟨Nat.le_refl _, Nat.le_refl _⟩ kk fun r p e R s m args below meth c H locs ls C hR hl hw hS kk => lv_ifnonnull C.1.1 C.1.2.1 hd ht (kk H locs ls hl hw hS)
theorem VW.ifnullN {off : Int} (tgt : Nat) (hd : decode (mC M) pc = .ok (.ifnull off, 3)) (ht : (pc : Int) + off = (tgt : Int)) (kk : VW G l z M tgt lv rest w k n Φ) : VW G l z M pc lv (.null :: rest) w k n Φ :=
  VW.step ⟨Nat.le_refl _, Nat.le_refl _⟩ kk fun r p e R s m args below meth c H locs ls C hR hl hw hS kk => lv_ifnullN C.1.1 C.1.2.1 hd ht (kk H locs ls hl hw hS)
theorem VW.ifnonnullN {off : Int} (hd : decode (mC M) pc = .ok (.ifnonnull off, 3)) (kk : VW G l z M (pc + 3) lv rest w k n Φ) : VW G l z M pc lv (.null :: rest) w k n Φ :=
  VW.step ⟨Nat.le_refl _, Nat.le_refl _⟩ kk fun r p e R s m args below meth c H locs ls C hR hl hw hS kk => lv_ifnonnullN C.1.1 C.1.2.1 hd (kk H locs ls hl hw hS)
theorem VW.tswOut {dflt lo hi : Int} {offs : Array Int} {len : Nat} {a : Int} (tgt : Nat) (ha : R32 a) (hd : decode (mC M) pc = .ok (.tableswitch dflt lo hi offs, len)) (h : a < lo ∨ hi < a) (ht : (pc : Int) + dflt = (tgt : Int)) (kk : VW G l z M tgt lv rest w k n Φ) : VW G l z M pc lv (vI a :: rest) w k n Φ :=
  VW.step ⟨Nat.le_refl _, Nat.le_refl _⟩ kk fun r p e R s m args below meth c H locs ls C hR hl hw hS kk => lv_tableOut C.1.1 C.1.2.1 hd (by rw [i32_t ha]; exact h) ht (kk H locs ls hl hw hS)
theorem VW.tswIn {dflt lo hi : Int} {offs : Array Int} {len : Nat} {a off : Int} (tgt : Nat) (ha : R32 a) (hd : decode (mC M) pc = .ok (.tableswitch dflt lo hi offs, len)) (h1 : lo ≤ a) (h2 : a ≤ hi) (ho : offs[(a - lo).toNat]? = some off) (ht : (pc : Int) + off = (tgt : Int)) (kk : VW G l z M tgt lv rest w k n Φ) : VW G l z M pc lv (vI a :: rest) w k n Φ :=
  VW.step ⟨Nat.le_refl _, Nat.le_refl _⟩ kk fun r p e R s m args below meth c H locs ls C hR hl hw hS kk => lv_tableIn C.1.1 C.1.2.1 hd (by rw [i32_t ha]; omega) (by rw [i32_t ha]; omega) (by rw [i32_t ha]; exact ho) ht (kk H locs ls hl hw hS)
end VR
end
section
/-! ===== ends, fields, arrays, new cells ===== -/
theorem lay_D (G : GT) (w : WT) : va_D (gA G) (wsO G w) := wsO_D G w
theorem inC : ∀ (ci : Nat) (q : vw_C), vwCl[ci]? = some q → (∀ w ∈ u_ws q.1 q.2.1 q.2.2, w ∈ lw_G) ∧ (∃ ty : Nat → FieldType, ∀ k, k < q.2.2 → parseFieldDescriptor (q.2.1 k).2.2.1 = some (ty k)) ∧ (∀ a, a < q.2.2 → ∀ b, b < q.2.2 → a ≠ b → (q.2.1 a).2.1 ≠ (q.2.1 b).2.1) := by
  intro ci q h
  match ci, h with
  | 0, h =>
    cases h
    refine ⟨fun w hw => ?_, ⟨tyX0, tyX0_ok⟩, nmX0⟩
    obtain ⟨i, hi⟩ := List.getElem?_of_mem hw
    have hl := (List.getElem?_eq_some_iff.mp hi).1
    replace hl : i < 3 := hl
    match i, hi, hl with
    | 0, hi, _ => exact inG (List.mem_of_getElem? (i := 143) (Eq.trans (by decide +kernel) hi)) (by cases hi; rfl)
    | 1, hi, _ => exact inG (List.mem_of_getElem? (i := 145) (Eq.trans (by decide +kernel) hi)) (by cases hi; rfl)
    | 2, hi, _ => exact inG (List.mem_of_getElem? (i := 147) (Eq.trans (by decide +kernel) hi)) (by cases hi; rfl)
    | j + 3, _, hl => omega
  | 1, h =>
    cases h
    refine ⟨fun w hw => ?_, ⟨tyX1, tyX1_ok⟩, nmX1⟩
    obtain ⟨i, hi⟩ := List.getElem?_of_mem hw
    have hl := (List.getElem?_eq_some_iff.mp hi).1
    replace hl : i < 3 := hl
    match i, hi, hl with
    | 0, hi, _ => exact inG (List.mem_of_getElem? (i := 188) (Eq.trans (by decide +kernel) hi)) (by cases hi; rfl)
    | 1, hi, _ => exact inG (List.mem_of_getElem? (i := 190) (Eq.trans (by decide +kernel) hi)) (by cases hi; rfl)
    | 2, hi, _ => exact inG (List.mem_of_getElem? (i := 192) (Eq.trans (by decide +kernel) hi)) (by cases hi; rfl)
    | j + 3, _, hl => omega
  | 2, h =>
    cases h
    refine ⟨fun w hw => ?_, ⟨tyX2, tyX2_ok⟩, nmX2⟩
    obtain ⟨i, hi⟩ := List.getElem?_of_mem hw
    have hl := (List.getElem?_eq_some_iff.mp hi).1
    replace hl : i < 1 := hl
    match i, hi, hl with
    | 0, hi, _ => exact inG (List.mem_of_getElem? (i := 212) (Eq.trans (by decide +kernel) hi)) (by cases hi; rfl)
    | j + 1, _, hl => omega
  | 3, h =>
    cases h
    refine ⟨fun w hw => ?_, ⟨tyX3, tyX3_ok⟩, nmX3⟩
    obtain ⟨i, hi⟩ := List.getElem?_of_mem hw
    have hl := (List.getElem?_eq_some_iff.mp hi).1
    replace hl : i < 2 := hl
    match i, hi, hl with
    | 0, hi, _ => exact inG (List.mem_of_getElem? (i := 126) (Eq.trans (by decide +kernel) hi)) (by cases hi; rfl)
    | 1, hi, _ => exact inG (List.mem_of_getElem? (i := 128) (Eq.trans (by decide +kernel) hi)) (by cases hi; rfl)
    | j + 2, _, hl => omega
  | 4, h =>
    cases h
    refine ⟨fun w hw => ?_, ⟨tyX4, tyX4_ok⟩, nmX4⟩
    obtain ⟨i, hi⟩ := List.getElem?_of_mem hw
    have hl := (List.getElem?_eq_some_iff.mp hi).1
    replace hl : i < 2 := hl
    match i, hi, hl with
    | 0, hi, _ => exact inG (List.mem_of_getElem? (i := 118) (Eq.trans (by decide +kernel) hi)) (by cases hi; rfl)
    | 1, hi, _ => exact inG (List.mem_of_getElem? (i := 120) (Eq.trans (by decide +kernel) hi)) (by cases hi; rfl)
    | j + 2, _, hl => omega
  | 5, h =>
    cases h
    refine ⟨fun w hw => ?_, ⟨tyX5, tyX5_ok⟩, nmX5⟩
    obtain ⟨i, hi⟩ := List.getElem?_of_mem hw
    have hl := (List.getElem?_eq_some_iff.mp hi).1
    replace hl : i < 3 := hl
    match i, hi, hl with
    | 0, hi, _ => exact inG (List.mem_of_getElem? (i := 169) (Eq.trans (by decide +kernel) hi)) (by cases hi; rfl)
    | 1, hi, _ => exact inG (List.mem_of_getElem? (i := 171) (Eq.trans (by decide +kernel) hi)) (by cases hi; rfl)
    | 2, hi, _ => exact inG (List.mem_of_getElem? (i := 173) (Eq.trans (by decide +kernel) hi)) (by cases hi; rfl)
    | j + 3, _, hl => omega
  | 6, h =>
    cases h
    refine ⟨fun w hw => ?_, ⟨tyX6, tyX6_ok⟩, nmX6⟩
    obtain ⟨i, hi⟩ := List.getElem?_of_mem hw
    have hl := (List.getElem?_eq_some_iff.mp hi).1
    replace hl : i < 8 := hl
    match i, hi, hl with
    | 0, hi, _ => exact inG (List.mem_of_getElem? (i := 230) (Eq.trans (by decide +kernel) hi)) (by cases hi; rfl)
    | 1, hi, _ => exact inG (List.mem_of_getElem? (i := 232) (Eq.trans (by decide +kernel) hi)) (by cases hi; rfl)
    | 2, hi, _ => exact inG (List.mem_of_getElem? (i := 234) (Eq.trans (by decide +kernel) hi)) (by cases hi; rfl)
    | 3, hi, _ => exact inG (List.mem_of_getElem? (i := 236) (Eq.trans (by decide +kernel) hi)) (by cases hi; rfl)
    | 4, hi, _ => exact inG (List.mem_of_getElem? (i := 238) (Eq.trans (by decide +kernel) hi)) (by cases hi; rfl)
    | 5, hi, _ => exact inG (List.mem_of_getElem? (i := 240) (Eq.trans (by decide +kernel) hi)) (by cases hi; rfl)
    | 6, hi, _ => exact inG (List.mem_of_getElem? (i := 242) (Eq.trans (by decide +kernel) hi)) (by cases hi; rfl)
    | 7, hi, _ => exact inG (List.mem_of_getElem? (i := 244) (Eq.trans (by decide +kernel) hi)) (by cases hi; rfl)
    | j + 8, _, hl => omega
  | 7, h =>
    cases h
    refine ⟨fun w hw => ?_, ⟨tyX7, tyX7_ok⟩, nmX7⟩
    obtain ⟨i, hi⟩ := List.getElem?_of_mem hw
    have hl := (List.getElem?_eq_some_iff.mp hi).1
    replace hl : i < 9 := hl
    match i, hi, hl with
    | 0, hi, _ => exact inG (List.mem_of_getElem? (i := 260) (Eq.trans (by decide +kernel) hi)) (by cases hi; rfl)
    | 1, hi, _ => exact inG (List.mem_of_getElem? (i := 262) (Eq.trans (by decide +kernel) hi)) (by cases hi; rfl)
    | 2, hi, _ => exact inG (List.mem_of_getElem? (i := 264) (Eq.trans (by decide +kernel) hi)) (by cases hi; rfl)
    | 3, hi, _ => exact inG (List.mem_of_getElem? (i := 266) (Eq.trans (by decide +kernel) hi)) (by cases hi; rfl)
    | 4, hi, _ => exact inG (List.mem_of_getElem? (i := 268) (Eq.trans (by decide +kernel) hi)) (by cases hi; rfl)
    | 5, hi, _ => exact inG (List.mem_of_getElem? (i := 270) (Eq.trans (by decide +kernel) hi)) (by cases hi; rfl)
    | 6, hi, _ => exact inG (List.mem_of_getElem? (i := 272) (Eq.trans (by decide +kernel) hi)) (by cases hi; rfl)
    | 7, hi, _ => exact inG (List.mem_of_getElem? (i := 274) (Eq.trans (by decide +kernel) hi)) (by cases hi; rfl)
    | 8, hi, _ => exact inG (List.mem_of_getElem? (i := 276) (Eq.trans (by decide +kernel) hi)) (by cases hi; rfl)
    | j + 9, _, hl => omega
  | 8, h =>
    cases h
    refine ⟨fun w hw => ?_, ⟨tyX8, tyX8_ok⟩, nmX8⟩
    obtain ⟨i, hi⟩ := List.getElem?_of_mem hw
    have hl := (List.getElem?_eq_some_iff.mp hi).1
    replace hl : i < 18 := hl
    match i, hi, hl with
    | 0, hi, _ => exact inG (List.mem_of_getElem? (i := 897) (Eq.trans (by decide +kernel) hi)) (by cases hi; rfl)
    | 1, hi, _ => exact inG (List.mem_of_getElem? (i := 899) (Eq.trans (by decide +kernel) hi)) (by cases hi; rfl)
    | 2, hi, _ => exact inG (List.mem_of_getElem? (i := 901) (Eq.trans (by decide +kernel) hi)) (by cases hi; rfl)
    | 3, hi, _ => exact inG (List.mem_of_getElem? (i := 903) (Eq.trans (by decide +kernel) hi)) (by cases hi; rfl)
    | 4, hi, _ => exact inG (List.mem_of_getElem? (i := 905) (Eq.trans (by decide +kernel) hi)) (by cases hi; rfl)
    | 5, hi, _ => exact inG (List.mem_of_getElem? (i := 907) (Eq.trans (by decide +kernel) hi)) (by cases hi; rfl)
    | 6, hi, _ => exact inG (List.mem_of_getElem? (i := 909) (Eq.trans (by decide +kernel) hi)) (by cases hi; rfl)
    | 7, hi, _ => exact inG (List.mem_of_getElem? (i := 911) (Eq.trans (by decide +kernel) hi)) (by cases hi; rfl)
    | 8, hi, _ => exact inG (List.mem_of_getElem? (i := 913) (Eq.trans (by decide +kernel) hi)) (by cases hi; rfl)
    | 9, hi, _ => exact inG (List.mem_of_getElem? (i := 915) (Eq.trans (by decide +kernel) hi)) (by cases hi; rfl)
    | 10, hi, _ => exact inG (List.mem_of_getElem? (i := 917) (Eq.trans (by decide +kernel) hi)) (by cases hi; rfl)
    | 11, hi, _ => exact inG (List.mem_of_getElem? (i := 919) (Eq.trans (by decide +kernel) hi)) (by cases hi; rfl)
    | 12, hi, _ => exact inG (List.mem_of_getElem? (i := 921) (Eq.trans (by decide +kernel) hi)) (by cases hi; rfl)
    | 13, hi, _ => exact inG (List.mem_of_getElem? (i := 923) (Eq.trans (by decide +kernel) hi)) (by cases hi; rfl)
    | 14, hi, _ => exact inG (List.mem_of_getElem? (i := 925) (Eq.trans (by decide +kernel) hi)) (by cases hi; rfl)
    | 15, hi, _ => exact inG (List.mem_of_getElem? (i := 927) (Eq.trans (by decide +kernel) hi)) (by cases hi; rfl)
    | 16, hi, _ => exact inG (List.mem_of_getElem? (i := 929) (Eq.trans (by decide +kernel) hi)) (by cases hi; rfl)
    | 17, hi, _ => exact inG (List.mem_of_getElem? (i := 931) (Eq.trans (by decide +kernel) hi)) (by cases hi; rfl)
    | j + 18, _, hl => omega
  | c + 9, h => simp [vwCl] at h
/-- a field's link: own class, constant, class, place -/
def FA (own : String) (idx ci j : Nat) : Prop := ∃ q : vw_C, vwCl[ci]? = some q ∧ j < q.2.2 ∧ (Cond.fieldLink own idx (q.2.1 j).1 (q.2.1 j).2.1 (q.2.1 j).2.2.1 ∈ lw_G ∨ ∃ host : String, (own, idx, (q.2.1 j).1, (q.2.1 j).2.1, (q.2.1 j).2.2.1, host) ∈ eNF)
/-- one that may be written, of that type -/
def FP (own : String) (idx ci j : Nat) (ty : FieldType) : Prop := ∃ q : vw_C, vwCl[ci]? = some q ∧ j < q.2.2 ∧ Cond.fieldLink own idx (q.2.1 j).1 (q.2.1 j).2.1 (q.2.1 j).2.2.1 ∈ lw_G ∧ (q.2.1 j).2.2.2 = false ∧ parseFieldDescriptor (q.2.1 j).2.2.1 = some ty
def FF (own : String) (idx ci j : Nat) (ty : FieldType) : Prop := ∃ q : vw_C, vwCl[ci]? = some q ∧ j < q.2.2 ∧ Cond.fieldLink own idx (q.2.1 j).1 (q.2.1 j).2.1 (q.2.1 j).2.2.1 ∈ lw_G ∧ (q.2.1 j).2.2.2 = true ∧ (q.2.1 j).1 = own ∧ parseFieldDescriptor (q.2.1 j).2.2.1 = some ty
theorem cel_o {G : GT} {ci : Nat} {fks : List FK} {m : Nat → Int} : cel G (sO ci fks) m = .inr (ci, flds (gB G) m 0 fks) := rfl
section VH
variable {G : GT} {l : Launch} {z : Option Nat} {M : MD} {pc : Nat} {lv : List (Nat × Value)} {rest : List Value} {w : WT} {k n : Nat} {Φ : RT → Prop} {N : Nat} {sh : Nat → ShT} {μ : Mem}
theorem VW.get {idx ci j a : Nat} {fks : List FK} {x : FK} (hd : decode (mC M) pc = .ok (.getfield idx, 3)) (fa : FA (mY M).cls idx ci j) (ha : a < N) (hs : sh a = sO ci fks) (hj : fks[j]? = some x)
    (kk : VW G l z M (pc + 3) lv (fval (gB G) (μ a) j x :: rest) (N, sh, μ) k n Φ) : VW G l z M pc lv (.ref (gB G + a) :: rest) (N, sh, μ) k n Φ :=
  VW.step ⟨Nat.le_refl _, Nat.le_refl _⟩ kk fun r p e R s m args below meth c H locs ls C hR hl hw hS kk => by
    obtain ⟨q, hc, hjn, hlk⟩ := fa
    have he : (wsO G (N, sh, μ))[a]? = some (gB G + a, .inr (ci, flds (gB G) (μ a) 0 fks)) := by rw [wsO_get ha]; show some (_, cel G (sh a) (μ a)) = _; rw [hs]; rfl
    have hv : (flds (gB G) (μ a) 0 fks)[j]? = some (fval (gB G) (μ a) j x) := by rw [flds_get, hj, Nat.zero_add]; rfl
    rcases hlk with h | ⟨host, h⟩
    · exact va_get (C := q.1) (T := q.2.1) (N := q.2.2) C.1.1 C.1.2.1 C.2.1 (inC ci q hc).1 C.1.2.2.2.2 C.2.2.2.2.2.1.2.1 hw a he hc j hjn (C.2.1 _ h) (fun _ h9 => h9) hv hd (kk H locs ls hl hw hS)
    · exact va_getN (C := q.1) (T := q.2.1) (N := q.2.2) C.1.1 C.1.2.1 C.2.1 (inC ci q hc).1 C.1.2.2.2.2 C.2.2.2.2.2.1.2.1 hw a he hc j hjn (va_Nw.use rfl (C.2.2.2.2.2.1.2.2.2.2.2.2.1 _ h)) (fun _ h9 => h9) hv hd (kk H locs ls hl hw hS)
theorem VW.getI {idx ci j a : Nat} {fks : List FK} (hd : decode (mC M) pc = .ok (.getfield idx, 3)) (fa : FA (mY M).cls idx ci j) (ha : a < N) (hs : sh a = sO ci fks) (hj : fks[j]? = some fI)
    (kk : VW G l z M (pc + 3) lv (vI (μ a j) :: rest) (N, sh, μ) k n Φ) : VW G l z M pc lv (.ref (gB G + a) :: rest) (N, sh, μ) k n Φ := VW.get hd fa ha hs hj kk
theorem VW.getL {idx ci j a : Nat} {fks : List FK} (hd : decode (mC M) pc = .ok (.getfield idx, 3)) (fa : FA (mY M).cls idx ci j) (ha : a < N) (hs : sh a = sO ci fks) (hj : fks[j]? = some fL)
    (kk : VW G l z M (pc + 3) lv (vL (μ a j) :: rest) (N, sh, μ) k n Φ) : VW G l z M pc lv (.ref (gB G + a) :: rest) (N, sh, μ) k n Φ := VW.get hd fa ha hs hj kk
theorem VW.getR {idx ci j a b : Nat} {fks : List FK} (hd : decode (mC M) pc = .ok (.getfield idx, 3)) (fa : FA (mY M).cls idx ci j) (ha : a < N) (hs : sh a = sO ci fks) (hj : fks[j]? = some (fR b))
    (kk : VW G l z M (pc + 3) lv (.ref (gB G + b) :: rest) (N, sh, μ) k n Φ) : VW G l z M pc lv (.ref (gB G + a) :: rest) (N, sh, μ) k n Φ := VW.get hd fa ha hs hj kk
theorem VW.putI {idx ci j a : Nat} {fks : List FK} {x : Int} (hd : decode (mC M) pc = .ok (.putfield idx, 3)) (fa : FP (mY M).cls idx ci j .int) (ha : a < N) (hs : sh a = sO ci fks) (hj : fks[j]? = some fI)
    (kk : VW G l z M (pc + 3) lv rest (N, sh, mup μ a j x) k n Φ) : VW G l z M pc lv (vI x :: .ref (gB G + a) :: rest) (N, sh, μ) k n Φ :=
  VW.step ⟨Nat.le_refl _, Nat.le_refl _⟩ kk fun r p e R s m args below meth c H locs ls C hR hl hw hS kk => by
    obtain ⟨q, hc, hjn, hlk, hfin, hty⟩ := fa
    obtain ⟨hin, ⟨ty0, hty0⟩, hnm⟩ := inC ci q hc
    have he : (wsO G (N, sh, μ))[a]? = some (gB G + a, .inr (ci, flds (gB G) (μ a) 0 fks)) := by rw [wsO_get ha]; show some (_, cel G (sh a) (μ a)) = _; rw [hs]; rfl
    refine va_put (C := q.1) (T := q.2.1) (N := q.2.2) (ty := .int) (v := vI x) C.1.1 C.1.2.1 C.2.1 hin ty0 hty0 hnm C.1.2.2.2.2 C.2.2.2.2.2.1.2.1 hw (wsO_D G _) hS a he hc j hjn (C.2.1 _ hlk) (fun _ h9 => h9) hfin hty rfl (show fits .int (.int _) = true from rfl) (by rw [flds_len]; exact (List.getElem?_eq_some_iff.mp hj).1) hd (fun H1 locs1 hP hD hS1 => kk H1 locs1 ls hl ?_ hS1)
    unfold wld
    rw [← wsO_set (e := .inr (ci, (flds (gB G) (μ a) 0 fks).set j (vI x)))]
    · exact hP
    · rw [hs, cel_o]
      show Sum.inr (ci, flds (gB G) (fup μ a (fup (μ a) j x) a) 0 fks) = _
      rw [fup_s, flds_up hj]
      show Sum.inr (ci, (flds (gB G) (μ a) 0 fks).set j (vI (fup (μ a) j x j))) = _
      rw [fup_s]
    · intro i hi
      exact ⟨rfl, fup_n hi⟩
theorem VW.putL {idx ci j a : Nat} {fks : List FK} {x : Int} (hd : decode (mC M) pc = .ok (.putfield idx, 3)) (fa : FP (mY M).cls idx ci j .long) (ha : a < N) (hs : sh a = sO ci fks) (hj : fks[j]? = some fL)
    (kk : VW G l z M (pc + 3) lv rest (N, sh, mup μ a j x) k n Φ) : VW G l z M pc lv (vL x :: .ref (gB G + a) :: rest) (N, sh, μ) k n Φ :=
  VW.step ⟨Nat.le_refl _, Nat.le_refl _⟩ kk fun r p e R s m args below meth c H locs ls C hR hl hw hS kk => by
    obtain ⟨q, hc, hjn, hlk, hfin, hty⟩ := fa
    obtain ⟨hin, ⟨ty0, hty0⟩, hnm⟩ := inC ci q hc
    have he : (wsO G (N, sh, μ))[a]? = some (gB G + a, .inr (ci, flds (gB G) (μ a) 0 fks)) := by rw [wsO_get ha]; show some (_, cel G (sh a) (μ a)) = _; rw [hs]; rfl
    refine va_put (C := q.1) (T := q.2.1) (N := q.2.2) (ty := .long) (v := vL x) C.1.1 C.1.2.1 C.2.1 hin ty0 hty0 hnm C.1.2.2.2.2 C.2.2.2.2.2.1.2.1 hw (wsO_D G _) hS a he hc j hjn (C.2.1 _ hlk) (fun _ h9 => h9) hfin hty rfl (show fits .long (.long _) = true from rfl) (by rw [flds_len]; exact (List.getElem?_eq_some_iff.mp hj).1) hd (fun H1 locs1 hP hD hS1 => kk H1 locs1 ls hl ?_ hS1)
    unfold wld
    rw [← wsO_set (e := .inr (ci, (flds (gB G) (μ a) 0 fks).set j (vL x)))]
    · exact hP
    · rw [hs, cel_o]
      show Sum.inr (ci, flds (gB G) (fup μ a (fup (μ a) j x) a) 0 fks) = _
      rw [fup_s, flds_up hj]
      show Sum.inr (ci, (flds (gB G) (μ a) 0 fks).set j (vL (fup (μ a) j x j))) = _
      rw [fup_s]
    · intro i hi
      exact ⟨rfl, fup_n hi⟩
/-- a final field gets its object, in a constructor -/
theorem VW.putR {idx ci j a b : Nat} {fks : List FK} {ty : FieldType} (hd : decode (mC M) pc = .ok (.putfield idx, 3)) (hin2 : (mY M).name = "<init>") (fa : FF (mY M).cls idx ci j ty) (hfit : ∀ q : Nat, narrow ty (.ref q) = .ref q ∧ fits ty (.ref q) = true) (ha : a < N) (hs : sh a = sO ci fks) (hj : j < fks.length)
    (kk : VW G l z M (pc + 3) lv rest (N, fup sh a (sO ci (fks.set j (fR b))), μ) k n Φ) : VW G l z M pc lv (.ref (gB G + b) :: .ref (gB G + a) :: rest) (N, sh, μ) k n Φ :=
  VW.step ⟨Nat.le_refl _, Nat.le_refl _⟩ kk fun r p e R s m args below meth c H locs ls C hR hl hw hS kk => by
    obtain ⟨q, hc, hjn, hlk, hfin, hdecl, hty⟩ := fa
    obtain ⟨hin, ⟨ty0, hty0⟩, hnm⟩ := inC ci q hc
    have he : (wsO G (N, sh, μ))[a]? = some (gB G + a, .inr (ci, flds (gB G) (μ a) 0 fks)) := by rw [wsO_get ha]; show some (_, cel G (sh a) (μ a)) = _; rw [hs]; rfl
    refine va_putF (C := q.1) (T := q.2.1) (N := q.2.2) (ty := ty) (v := .ref (gB G + b)) C.1.1 C.1.2.1 C.2.1 hin ty0 hty0 hnm C.1.2.2.2.2 C.2.2.2.2.2.1.2.1 hw (wsO_D G _) hS a he hc j hjn (C.2.1 _ hlk) (fun _ h9 => h9) hfin (C.2.2.2.1 hin2) hdecl hty (hfit _).1 (hfit _).2 (by rw [flds_len]; exact hj) hd (fun H1 locs1 hP hD hS1 => kk H1 locs1 ls hl ?_ hS1)
    unfold wld
    rw [← wsO_set (sh := sh) (μ := μ) (e := .inr (ci, (flds (gB G) (μ a) 0 fks).set j (.ref (gB G + b))))]
    · exact hP
    · rw [fup_s, cel_o, flds_set]
      rfl
    · intro i hi
      exact ⟨fup_n hi, rfl⟩
theorem VW.iaload {a len : Nat} {i : Int} (hd : decode (mC M) pc = .ok (.iaload, 1)) (ha : a < N) (hs : sh a = sI len) (h0 : 0 ≤ i) (h1 : i < len) (h2 : len < 2147483648)
    (kk : VW G l z M (pc + 1) lv (vI (μ a i.toNat) :: rest) (N, sh, μ) k n Φ) : VW G l z M pc lv (vI i :: .ref (gB G + a) :: rest) (N, sh, μ) k n Φ :=
  VW.step ⟨Nat.le_refl _, Nat.le_refl _⟩ kk fun r p e R s m args below meth c H locs ls C hR hl hw hS kk => by
    have he : (wsO G (N, sh, μ))[a]? = some (gB G + a, .inl (gI G, len, .inl (fun j => Int32.ofInt (μ a j)))) := by rw [wsO_get ha]; show some (_, cel G (sh a) (μ a)) = _; rw [hs]; rfl
    have hR3 : R32 i := ⟨by omega, by omega⟩
    refine va_iald C.1.1 C.1.2.1 C.2.2.2.2.2.1.2.1 hw a 0 he rfl (i32_in hR3 h0 h1) hd ?_
    rw [i32_clamp (j := i.toNat) (by omega) (by omega)]
    exact kk H locs ls hl hw hS
theorem VW.laload {a len : Nat} {i : Int} (hd : decode (mC M) pc = .ok (.laload, 1)) (ha : a < N) (hs : sh a = sL len) (h0 : 0 ≤ i) (h1 : i < len) (h2 : len < 2147483648)
    (kk : VW G l z M (pc + 1) lv (vL (μ a i.toNat) :: rest) (N, sh, μ) k n Φ) : VW G l z M pc lv (vI i :: .ref (gB G + a) :: rest) (N, sh, μ) k n Φ :=
  VW.step ⟨Nat.le_refl _, Nat.le_refl _⟩ kk fun r p e R s m args below meth c H locs ls C hR hl hw hS kk => by
    have he : (wsO G (N, sh, μ))[a]? = some (gB G + a, .inl (gL G, len, .inr (.inl (fun j => Int64.ofInt (μ a j))))) := by rw [wsO_get ha]; show some (_, cel G (sh a) (μ a)) = _; rw [hs]; rfl
    have hR3 : R32 i := ⟨by omega, by omega⟩
    refine va_lald C.1.1 C.1.2.1 C.2.2.2.2.2.1.2.1 hw a 1 he rfl (i32_in hR3 h0 h1) hd ?_
    rw [i32_clamp (j := i.toNat) (by omega) (by omega)]
    exact kk H locs ls hl hw hS
theorem VW.iastore {a len : Nat} {i x : Int} (hd : decode (mC M) pc = .ok (.iastore, 1)) (ha : a < N) (hs : sh a = sI len) (h0 : 0 ≤ i) (h1 : i < len) (h2 : len < 2147483648)
    (kk : VW G l z M (pc + 1) lv rest (N, sh, mup μ a i.toNat x) k n Φ) : VW G l z M pc lv (vI x :: vI i :: .ref (gB G + a) :: rest) (N, sh, μ) k n Φ :=
  VW.step ⟨Nat.le_refl _, Nat.le_refl _⟩ kk fun r p e R s m args below meth c H locs ls C hR hl hw hS kk => by
    have he : (wsO G (N, sh, μ))[a]? = some (gB G + a, .inl (gI G, len, .inl (fun j => Int32.ofInt (μ a j)))) := by rw [wsO_get ha]; show some (_, cel G (sh a) (μ a)) = _; rw [hs]; rfl
    have hR3 : R32 i := ⟨by omega, by omega⟩
    refine va_iast C.1.1 C.1.2.1 C.2.2.2.2.2.1.2.1 hw (wsO_D G _) hS a 0 he rfl (i32_in hR3 h0 h1) hd (fun H1 locs1 hP hD hS1 => kk H1 locs1 ls hl ?_ hS1)
    unfold wld
    rw [← wsO_set (e := .inl (gI G, len, .inl (upd (fun j => Int32.ofInt (μ a j)) (Int32.ofInt i).toNatClampNeg (Int32.ofInt x))))]
    · exact hP
    · rw [hs, i32_clamp (j := i.toNat) (by omega) (by omega)]
      show Sum.inl (gI G, len, Sum.inl (fun j => Int32.ofInt (fup μ a (fup (μ a) i.toNat x) a j))) = _
      rw [fup_s]
      congr 4
      funext j
      by_cases hj : j = i.toNat <;> simp [fup, upd, hj]
    · intro i hi
      exact ⟨rfl, fup_n hi⟩
theorem VW.lastore {a len : Nat} {i x : Int} (hd : decode (mC M) pc = .ok (.lastore, 1)) (ha : a < N) (hs : sh a = sL len) (h0 : 0 ≤ i) (h1 : i < len) (h2 : len < 2147483648)
    (kk : VW G l z M (pc + 1) lv rest (N, sh, mup μ a i.toNat x) k n Φ) : VW G l z M pc lv (vL x :: vI i :: .ref (gB G + a) :: rest) (N, sh, μ) k n Φ :=
  VW.step ⟨Nat.le_refl _, Nat.le_refl _⟩ kk fun r p e R s m args below meth c H locs ls C hR hl hw hS kk => by
    have he : (wsO G (N, sh, μ))[a]? = some (gB G + a, .inl (gL G, len, .inr (.inl (fun j => Int64.ofInt (μ a j))))) := by rw [wsO_get ha]; show some (_, cel G (sh a) (μ a)) = _; rw [hs]; rfl
    have hR3 : R32 i := ⟨by omega, by omega⟩
    refine va_last C.1.1 C.1.2.1 C.2.2.2.2.2.1.2.1 hw (wsO_D G _) hS a 1 he rfl (i32_in hR3 h0 h1) hd (fun H1 locs1 hP hD hS1 => kk H1 locs1 ls hl ?_ hS1)
    unfold wld
    rw [← wsO_set (e := .inl (gL G, len, .inr (.inl (vp_updL (fun j => Int64.ofInt (μ a j)) (Int32.ofInt i).toNatClampNeg (Int64.ofInt x)))))]
    · exact hP
    · rw [hs, i32_clamp (j := i.toNat) (by omega) (by omega)]
      show Sum.inl (gL G, len, Sum.inr (Sum.inl (fun j => Int64.ofInt (fup μ a (fup (μ a) i.toNat x) a j)))) = _
      rw [fup_s]
      congr 5
      funext j
      by_cases hj : j = i.toNat <;> simp [fup, vp_updL, hj]
    · intro i hi
      exact ⟨rfl, fup_n hi⟩
theorem VW.aaload {a b : Nat} {c0 : Bool} {ids : List (Option Nat)} {i : Int} (hd : decode (mC M) pc = .ok (.aaload, 1)) (ha : a < N) (hs : sh a = sQ c0 ids) (h0 : 0 ≤ i) (h2 : ids.length < 2147483648) (hb : ids[i.toNat]? = some (some b))
    (kk : VW G l z M (pc + 1) lv (.ref (gB G + b) :: rest) (N, sh, μ) k n Φ) : VW G l z M pc lv (vI i :: .ref (gB G + a) :: rest) (N, sh, μ) k n Φ :=
  VW.step ⟨Nat.le_refl _, Nat.le_refl _⟩ kk fun r p e R s m args below meth c H locs ls C hR hl hw hS kk => by
    have he : (wsO G (N, sh, μ))[a]? = some (gB G + a, .inl ((if c0 then gR G else gS G), ids.length, .inr (.inr (.inr (.inr (qel (gB G) ids)))))) := by rw [wsO_get ha]; show some (_, cel G (sh a) (μ a)) = _; rw [hs]; rfl
    have h1 : i < ids.length := by have := (List.getElem?_eq_some_iff.mp hb).1; omega
    have hR3 : R32 i := ⟨by omega, by omega⟩
    have hv : qel (gB G) ids (Int32.ofInt i).toNatClampNeg = some (gB G + b) := by rw [i32_clamp (j := i.toNat) (by omega) (by omega)]; unfold qel; rw [hb]
    have kk' : W p l e R s m args below meth c H locs k n (vx_MQ below (xQc G r) (xXC G r) args s r.2.2.1 r.2.2.2 (gA G)) (F0 m (pc + 1) ls (va_rf (qel (gB G) ids (Int32.ofInt i).toNatClampNeg) :: rest)) := by rw [hv]; exact kk H locs ls hl hw hS
    cases c0 with
    | true => exact va_aldq (C := "LatticeGestures$Row") C.1.1 C.1.2.1 C.2.2.2.2.2.1.2.1 hw a 2 he rfl (i32_in hR3 h0 h1) hd kk'
    | false => exact va_aldq (C := "LatticeGestures$State") C.1.1 C.1.2.1 C.2.2.2.2.2.1.2.1 hw a 3 he rfl (i32_in hR3 h0 h1) hd kk'
theorem VW.alenI {a len : Nat} (hd : decode (mC M) pc = .ok (.arraylength, 1)) (ha : a < N) (hs : sh a = sI len)
    (kk : VW G l z M (pc + 1) lv (vI len :: rest) (N, sh, μ) k n Φ) : VW G l z M pc lv (.ref (gB G + a) :: rest) (N, sh, μ) k n Φ :=
  VW.step ⟨Nat.le_refl _, Nat.le_refl _⟩ kk fun r p e R s m args below meth c H locs ls C hR hl hw hS kk => by
    have he : (wsO G (N, sh, μ))[a]? = some (gB G + a, .inl (gI G, len, .inl (fun j => Int32.ofInt (μ a j)))) := by rw [wsO_get ha]; show some (_, cel G (sh a) (μ a)) = _; rw [hs]; rfl
    exact va_alen C.1.1 C.1.2.1 C.2.2.2.2.2.1.2.1 hw a 0 he rfl (v := Int32.ofInt len) Int32.ofInt_eq_ofNat.symm hd (kk H locs ls hl hw hS)
theorem VW.alenQ {a : Nat} {c0 : Bool} {ids : List (Option Nat)} (hd : decode (mC M) pc = .ok (.arraylength, 1)) (ha : a < N) (hs : sh a = sQ c0 ids)
    (kk : VW G l z M (pc + 1) lv (vI ids.length :: rest) (N, sh, μ) k n Φ) : VW G l z M pc lv (.ref (gB G + a) :: rest) (N, sh, μ) k n Φ :=
  VW.step ⟨Nat.le_refl _, Nat.le_refl _⟩ kk fun r p e R s m args below meth c H locs ls C hR hl hw hS kk => by
    have he : (wsO G (N, sh, μ))[a]? = some (gB G + a, .inl ((if c0 then gR G else gS G), ids.length, .inr (.inr (.inr (.inr (qel (gB G) ids)))))) := by rw [wsO_get ha]; show some (_, cel G (sh a) (μ a)) = _; rw [hs]; rfl
    cases c0 with
    | true => exact va_alen C.1.1 C.1.2.1 C.2.2.2.2.2.1.2.1 hw a 2 he rfl (v := Int32.ofInt ids.length) Int32.ofInt_eq_ofNat.symm hd (kk H locs ls hl hw hS)
    | false => exact va_alen C.1.1 C.1.2.1 C.2.2.2.2.2.1.2.1 hw a 3 he rfl (v := Int32.ofInt ids.length) Int32.ofInt_eq_ofNat.symm hd (kk H locs ls hl hw hS)
-- the static tables
def TA (own : String) (idx t : Nat) : Prop := t < 5 ∧ (Cond.fieldLink own idx "LatticeGestures" (tbN t) "[I" ∈ lw_G ∨ ∃ host : String, (own, idx, "LatticeGestures", tbN t, "[I", host) ∈ eNF)
theorem VW.gets {idx t : Nat} (hd : decode (mC M) pc = .ok (.getstatic idx, 3)) (ta : TA (mY M).cls idx t)
    (kk : VW G l z M (pc + 3) lv (.ref (gT G t) :: rest) w k n Φ) : VW G l z M pc lv rest w k n Φ :=
  VW.step ⟨Nat.le_refl _, Nat.le_refl _⟩ kk fun r p e R s m args below meth c H locs ls C hR hl hw hS kk => by
    obtain ⟨ht, h⟩ := ta
    rcases h with h | ⟨host, h⟩
    · exact va_gets C.1.1 C.1.2.1 (C.2.2.2.2.2.1.2.2.1 t ht).1 hS C.1.2.2.2.2 (C.2.1 _ h) (fun _ h9 => h9) hd (kk H locs ls hl hw hS)
    · exact va_getsN C.1.1 C.1.2.1 (C.2.2.2.2.2.1.2.2.1 t ht).1 hS C.1.2.2.2.2 (va_Nw.use rfl (C.2.2.2.2.2.1.2.2.2.2.2.2.1 _ h)) (fun _ h9 => h9) hd (kk H locs ls hl hw hS)
theorem tb_len : ∀ t : Nat, (tbV t).length < 100 := fun t => match t with
  | 0 => by decide
  | 1 => by decide
  | 2 => by decide
  | 3 => by decide
  | t + 4 => by show 8 < 100; decide
theorem VW.tlen {t : Nat} (ht : t < 5) (hd : decode (mC M) pc = .ok (.arraylength, 1))
    (kk : VW G l z M (pc + 1) lv (vI (tbV t).length :: rest) w k n Φ) : VW G l z M pc lv (.ref (gT G t) :: rest) w k n Φ :=
  VW.step ⟨Nat.le_refl _, Nat.le_refl _⟩ kk fun r p e R s m args below meth c H locs ls C hR hl hw hS kk =>
    va_tlen C.1.1 C.1.2.1 (C.2.2.2.2.2.1.2.2.1 t ht).2 hS (v := Int32.ofInt (tbV t).length) Int32.ofInt_eq_ofNat.symm hd (kk H locs ls hl hw hS)
theorem VW.taload {t : Nat} {i : Int} (ht : t < 5) (hd : decode (mC M) pc = .ok (.iaload, 1)) (h0 : 0 ≤ i) (h1 : i < (tbV t).length)
    (kk : VW G l z M (pc + 1) lv (vI ((tbV t).getD i.toNat 0) :: rest) w k n Φ) : VW G l z M pc lv (vI i :: .ref (gT G t) :: rest) w k n Φ :=
  VW.step ⟨Nat.le_refl _, Nat.le_refl _⟩ kk fun r p e R s m args below meth c H locs ls C hR hl hw hS kk => by
    have h9 := tb_len t
    have hR3 : R32 i := ⟨by omega, by omega⟩
    exact va_ti C.1.1 C.1.2.1 (C.2.2.2.2.2.1.2.2.1 t ht).2 hS (i32_in hR3 h0 h1) (v := vI ((tbV t).getD i.toNat 0)) (by rw [i32_clamp (j := i.toNat) (by omega) (by omega)]; rfl) hd (kk H locs ls hl hw hS)
end VH
end
section
/-! ===== BEGIN a constructor that throws (launches without stack traces) ===== -/
section VXIA
variable {p : Program} {l : Launch} {e : Env} {R : Room} {s : State} {m : MethodId} {args : Array Value} {below : List Frame} {meth : Method} {c : Code} {T : State} {locs : List Loc} {cells slots : Nat}
theorem vx_callI (X : Stand p l e R s m args below meth c T locs cells slots) (hexec : p.tables.exec = Jvm.exec) {own : String} {index : Nat} {y : MethodName} {bytes : ByteArray} {maxL : Nat}
    (hown : s.vm.findClass own = some m.cls) (hy1 : y.name = "<init>") (hlink : (Cond.methodLink own index y).before args s = true) (hinst : (Cond.instanceMethod y).before args s = true)
    (hcode : (Cond.code y bytes maxL none).before args s = true) (hy : y.cls ≠ "java/lang/invoke/MethodHandle" ∧ y.cls ≠ "java/lang/invoke/VarHandle")
    {W9 : Nat} {Pre : Pt → Array Value → Prop} {Post : Pt → Array Value → Option Value → Pt → Prop} {PostX : Pt → Array Value → Addr → Pt → Prop} (hK : vx_Back l R p e below s args y 3 W9 Pre Post PostX)
    {g : JFrame} (hg : g.method = m) (hsize : g.locals.size = c.maxLocals) {a : Addr} {argsL rest : List Value} (hlen : ∀ sig, parseMethodDescriptor y.desc = some sig → argsL.length = sig.parameters.length)
    (hstack : g.stack = argsL.reverse ++ .ref a :: rest) (hW : 2 * g.monitorRoom + (rest.map fun v => v.category).sum ≤ W9) (hdg : decode c.code g.pc = .ok (.invokespecial index, 3))
    (hpre : ∀ vm₁, s.WarmedH vm₁ → Pre ⟨T.setVm vm₁, locs, cells, slots⟩ (Value.ref a :: argsL).toArray) :
    (∃ (v : Option Value) (vm₁ : Vm) (B : Pt), s.WarmedH vm₁ ∧ Stand p l e R s m args below meth c B.U B.locs B.cells B.slots ∧ Post ⟨T.setVm vm₁, locs, cells, slots⟩ (Value.ref a :: argsL).toArray v B ∧
      ∀ target, Steps p.tables e below (B.U.setTop { g with pc := g.pc + 3, stack := v.toList ++ rest }) target → Steps p.tables e below (T.setTop g) target) ∨
    (∃ (q : Addr) (vm₁ : Vm) (B : Pt), s.WarmedH vm₁ ∧ Stand p l e R s m args below meth c B.U B.locs B.cells B.slots ∧ PostX ⟨T.setVm vm₁, locs, cells, slots⟩ (Value.ref a :: argsL).toArray q B ∧
      Steps p.tables e below (T.setTop g) ((B.U.setTop { g with stack := rest }).pushFrame (.throwing q))) := by
  subst hg
  have hpl : e.platform.magicAccessors = ({} : Platform).magicAccessors := by rw [X.admits.platform]
  obtain ⟨mk, methM, cM, kP, vm₁, hnamed, hmethM, hcodeM, -, hlocalsM, -, hkP, -, hW₁, hstep₁⟩ := Steps.initColdArgs (e := e) X.here hexec X.warmed hpl hown hy1 hy hlink hinst hcode (f := g) rfl hlen hstack hdg
  have X₁ := X.noted hW₁
  rcases hK g.method meth c ⟨T.setVm vm₁, locs, cells, slots⟩ { g with stack := rest } (.invokespecial index) mk (Value.ref a :: argsL).toArray X₁ rfl hsize hdg hW (X₁.named hnamed) (hpre vm₁ X₁.warmed) with ⟨v, B, X', hpost, hsteps⟩ | ⟨q, B, X', hpost, hsteps⟩
  · exact Or.inl ⟨v, vm₁, B, X₁.warmed, X', hpost, fun target h => hstep₁ _ fun acts => by rw [doInvoke_state]; exact hsteps.trans h⟩
  · exact Or.inr ⟨q, vm₁, B, X₁.warmed, X', hpost, hstep₁ _ fun acts => by rw [doInvoke_state]; exact hsteps⟩
end VXIA
section VXIB
variable {p : Program} {l : Launch} {e : Env} {R : Room} {s : State} {m : MethodId} {args : Array Value} {below : List Frame} {meth : Method} {c : Code} {H : Heap} {locs : List Loc} {cells slots : Nat}
variable {y : MethodName} {bytes cc : ByteArray} {maxL nL mc ms n index : Nat} {ret : Option FieldType} {ws : List Cond} {rm : Room} {Pc : Array Value → State → Prop} {Qc : Array Value → State → Outcome → State → Prop} {XC : String → State → State → Prop} {free : Addr → Prop} {Ts : List Cond} {own C : String} {b : Addr} {As rest : List Value} {g : JFrame}
theorem vx_runI (S : CallFix p m c cc nL s args Ts own) (hM : vx_Met l y ws rm Pc Qc XC mc ms free) (cw : CallB R s args own index y bytes maxL none ws rm mc ms n ∧ y.name = "<init>" ∧ (Cond.instanceMethod y).before args s = true) (hp : PreS s H Pc (.ref b :: As))
    (hg : g.method = m) (hn : As.length = n) (hsize : g.locals.size = nL) (hstack : g.stack = As.reverse ++ .ref b :: rest) (hW : 2 * g.monitorRoom + (rest.map fun v => v.category).sum ≤ 8) (hdg : decode cc g.pc = .ok (.invokespecial index, 3)) (hf : cells + mc ≤ R.cells ∧ slots + ms ≤ R.slots) :
    vx_Run p l e R s m args below meth c H locs cells slots mc ms g rest (Qc (Value.ref b :: As).toArray) XC free := by
  have hK : vx_Back l R p e below s args y 3 8 (PreOf R mc ms Pc) (PostOf Qc mc ms free) (vx_Post XC mc ms free) := vx_callBack cw.1 hM hp.1
  obtain ⟨⟨-, -, -, -, -, -, hcode, -, hy, hlen, hl⟩, hy1, hin⟩ := cw
  obtain ⟨hx, hb, hml, ho, -⟩ := S
  have hPc := hp.2
  intro T hT X
  rcases vx_callI X hx (bytes := bytes) (maxL := maxL) ho hy1 hl hin hcode hy hK hg (hsize.trans hml.symm) (a := b) (argsL := As) (rest := rest) (fun sig h => hn.trans (hlen sig h)) hstack hW (by rw [hb]; exact hdg)
    (fun vm₁ hW₁ => ⟨hf.1, hf.2, hPc (T.setVm vm₁) hT hW₁⟩) with ⟨v, vm₁, ⟨U', l2, c2, s2⟩, hW₁, X', ⟨g', mk, t, L, e1, e2, hq, h1, hL, h2, h3⟩, st⟩ | ⟨q, vm₁, ⟨U', l2, c2, s2⟩, hW₁, X', ⟨g', mk, t, L, E, ce, e1, e2, hq, hce, hcv, hcl, h1, hL, h2, h3⟩, st⟩
  · dsimp only [Pt.U, Pt.locs, Pt.cells, Pt.slots] at X' e1 e2 h1 h2 h3 st
    subst h1; subst h2; subst h3
    exact Or.inl ⟨v, (T.setVm vm₁).calling g' mk (Value.ref b :: As).toArray, t, U', L, hT, X', hL, e1, e2, hq, st⟩
  · dsimp only [Pt.U, Pt.locs, Pt.cells, Pt.slots] at X' e1 e2 h1 h2 h3 st hcl
    subst h1; subst h2; subst h3
    exact Or.inr ⟨q, (T.setVm vm₁).calling g' mk (Value.ref b :: As).toArray, t, U', L, E, ce, hT, X', hL, e1, e2, hq, hce, hcv, vx_cls hW₁ hcl, st⟩
end VXIB
/-! ===== END ===== -/
/-! ===== BEGIN a private method of a nest mate that may throw (follows va_callVN, va_callSN, va_runVN, va_runSN) ===== -/
section
variable {p : Program} {l : Launch} {e : Env} {R : Room} {s : State} {m : MethodId} {args : Array Value} {below : List Frame} {meth : Method} {c : Code} {H : Heap} {locs : List Loc} {cells slots : Nat}
variable {T : State}
theorem vx_callVN (X : Stand p l e R s m args below meth c T locs cells slots) (hexec : p.tables.exec = Jvm.exec) {own C : String} {index : Nat} {host : String} {y : MethodName} {bytes : ByteArray} {maxL : Nat} {ret : Option FieldType}
    (hown : s.vm.findClass own = some m.cls) (hlink : (Cond.methodLinkNest own index y host).before args s = true) (hinst : (Cond.instanceMethod y).before args s = true) (hsel : (Cond.selects C y y).before args s = true)
    (hcode : (Cond.code y bytes maxL ret).before args s = true) (hy : y.cls ≠ "java/lang/invoke/MethodHandle" ∧ y.cls ≠ "java/lang/invoke/VarHandle")
    {W : Nat} {Pre : Pt → Array Value → Prop} {Post : Pt → Array Value → Option Value → Pt → Prop} {PostX : Pt → Array Value → Addr → Pt → Prop} (hK : vx_Back l R p e below s args y 3 W Pre Post PostX)
    {b : Addr} {cellB : Cell} (hcell : T.heap[b]? = some cellB) (hobj : cellB.vm.isStatics = false) (hcls : s.vm.findClass C = some cellB.cls)
    {g : JFrame} (hg : g.method = m) (hsize : g.locals.size = c.maxLocals) {argsL rest : List Value} (hlen : ∀ sig, parseMethodDescriptor y.desc = some sig → argsL.length = sig.parameters.length)
    (hstack : g.stack = argsL.reverse ++ .ref b :: rest) (hW : 2 * g.monitorRoom + (rest.map fun v => v.category).sum ≤ W) (hdg : decode c.code g.pc = .ok (.invokevirtual index, 3))
    (hpre : ∀ vm₁, s.WarmedH vm₁ → Pre ⟨T.setVm vm₁, locs, cells, slots⟩ (Value.ref b :: argsL).toArray) :
    (∃ (v : Option Value) (vm₁ : Vm) (B : Pt), s.WarmedH vm₁ ∧ Stand p l e R s m args below meth c B.U B.locs B.cells B.slots ∧ Post ⟨T.setVm vm₁, locs, cells, slots⟩ (Value.ref b :: argsL).toArray v B ∧
      ∀ target, Steps p.tables e below (B.U.setTop { g with pc := g.pc + 3, stack := v.toList ++ rest }) target → Steps p.tables e below (T.setTop g) target) ∨
    (∃ (q : Addr) (vm₁ : Vm) (B : Pt), s.WarmedH vm₁ ∧ Stand p l e R s m args below meth c B.U B.locs B.cells B.slots ∧ PostX ⟨T.setVm vm₁, locs, cells, slots⟩ (Value.ref b :: argsL).toArray q B ∧
      Steps p.tables e below (T.setTop g) ((B.U.setTop { g with stack := rest }).pushFrame (.throwing q))) := by
  obtain ⟨mk, methM, hnamed, hmethM, hstM, habM⟩ := Cond.instanceMethod_spec hinst
  obtain ⟨methM', cM, hmethM', -, -, -, -, -, -, hsigM⟩ := Cond.code_spec hnamed hcode
  cases hmethM.symm.trans hmethM'
  obtain ⟨c2, r2, m2, q1, q2, q3, q4, kP, hkP, hkPi⟩ := Cond.selects_spec hsel
  cases hcls.symm.trans q1
  cases (State.methodFound?_of_named hnamed hy).symm.trans q2
  cases hnamed.symm.trans q3
  have hselP : selectMethod e.platform s.vm cellB.cls mk = .method mk := by rw [Launch.admits_selectMethod X.admits]; exact q4
  obtain ⟨vm₁, X₁, hstep₁⟩ := X.invokevirtualNest hexec hown hlink hnamed hmethM hstM hkP hkPi hy (a := b) (cell := cellB) hcell
    (fun z h => by rw [h] at hobj; cases hobj) hselP hmethM habM hkP hkPi (g := g) hg (argsL := argsL) (rest := rest) (hlen _ hsigM) hstack hdg
  rcases hK m meth c ⟨T.setVm vm₁, locs, cells, slots⟩ { g with stack := rest } (.invokevirtual index) mk (Value.ref b :: argsL).toArray X₁ hg hsize hdg hW (X₁.named hnamed) (hpre vm₁ X₁.warmed) with ⟨v, B, X', hpost, hsteps⟩ | ⟨q, B, X', hpost, hsteps⟩
  · exact Or.inl ⟨v, vm₁, B, X₁.warmed, X', hpost, fun target h => hstep₁ _ fun acts => by rw [doInvoke_state]; exact hsteps.trans h⟩
  · exact Or.inr ⟨q, vm₁, B, X₁.warmed, X', hpost, hstep₁ _ fun acts => by rw [doInvoke_state]; exact hsteps⟩
theorem vx_callSN (X : Stand p l e R s m args below meth c T locs cells slots) (hexec : p.tables.exec = Jvm.exec) {own : String} {index : Nat} {host : String} {y : MethodName} {bytes : ByteArray} {maxL : Nat} {ret : Option FieldType}
    (hown : s.vm.findClass own = some m.cls) (hlink : (Cond.methodLinkNest own index y host).before args s = true) (hstat : (Cond.static y).before args s = true) (hinit : (Cond.initialized y.cls).before args s = true)
    (hcode : (Cond.code y bytes maxL ret).before args s = true) (hy : y.cls ≠ "java/lang/invoke/MethodHandle" ∧ y.cls ≠ "java/lang/invoke/VarHandle")
    {W : Nat} {Pre : Pt → Array Value → Prop} {Post : Pt → Array Value → Option Value → Pt → Prop} {PostX : Pt → Array Value → Addr → Pt → Prop} (hK : vx_Back l R p e below s args y 3 W Pre Post PostX)
    {g : JFrame} (hg : g.method = m) (hsize : g.locals.size = c.maxLocals) {argsL rest : List Value} (hlen : ∀ sig, parseMethodDescriptor y.desc = some sig → argsL.length = sig.parameters.length)
    (hstack : g.stack = argsL.reverse ++ rest) (hW : 2 * g.monitorRoom + (rest.map fun v => v.category).sum ≤ W) (hdg : decode c.code g.pc = .ok (.invokestatic index, 3))
    (hpre : ∀ vm₁, s.WarmedH vm₁ → Pre ⟨T.setVm vm₁, locs, cells, slots⟩ argsL.toArray) :
    (∃ (v : Option Value) (vm₁ : Vm) (B : Pt), s.WarmedH vm₁ ∧ Stand p l e R s m args below meth c B.U B.locs B.cells B.slots ∧ Post ⟨T.setVm vm₁, locs, cells, slots⟩ argsL.toArray v B ∧
      ∀ target, Steps p.tables e below (B.U.setTop { g with pc := g.pc + 3, stack := v.toList ++ rest }) target → Steps p.tables e below (T.setTop g) target) ∨
    (∃ (q : Addr) (vm₁ : Vm) (B : Pt), s.WarmedH vm₁ ∧ Stand p l e R s m args below meth c B.U B.locs B.cells B.slots ∧ PostX ⟨T.setVm vm₁, locs, cells, slots⟩ argsL.toArray q B ∧
      Steps p.tables e below (T.setTop g) ((B.U.setTop { g with stack := rest }).pushFrame (.throwing q))) := by
  obtain ⟨mk, hnamed⟩ := Cond.code_named hcode
  obtain ⟨methM, cM, hmethM, -, -, -, -, -, -, hsigM⟩ := Cond.code_spec hnamed hcode
  have hstatic : methM.isStatic = true := Cond.static_spec hnamed hmethM hstat
  obtain ⟨kP, hkP, -⟩ := className_of_methodNamed hnamed
  have hinitP : kP.init = .initialized := Cond.initialized_spec (findClass_of_methodNamed hnamed) hkP hinit
  obtain ⟨vm₁, X₁, hstep₁⟩ := X.invokestaticNest hexec hown hlink hnamed hmethM hstatic hkP hinitP hy (g := g) hg (argsL := argsL) (rest := rest) (hlen _ hsigM) hstack hdg
  rcases hK m meth c ⟨T.setVm vm₁, locs, cells, slots⟩ { g with stack := rest } (.invokestatic index) mk argsL.toArray X₁ hg hsize hdg hW (X₁.named hnamed) (hpre vm₁ X₁.warmed) with ⟨v, B, X', hpost, hsteps⟩ | ⟨q, B, X', hpost, hsteps⟩
  · exact Or.inl ⟨v, vm₁, B, X₁.warmed, X', hpost, fun target h => hstep₁ _ fun acts => by rw [doInvoke_state]; exact hsteps.trans h⟩
  · exact Or.inr ⟨q, vm₁, B, X₁.warmed, X', hpost, hstep₁ _ fun acts => by rw [doInvoke_state]; exact hsteps⟩
theorem vx_runVN {y : MethodName} {bytes cc : ByteArray} {maxL nL mc ms n index : Nat} {ret : Option FieldType} {ws : List Cond} {rm : Room} {Pc : Array Value → State → Prop} {Qc : Array Value → State → Outcome → State → Prop} {XC : String → State → State → Prop} {free : Addr → Prop} {Ts : List Cond} {own C host : String} {b : Addr} {As rest : List Value} {g : JFrame}
    (S : CallFix p m c cc nL s args Ts own) (hM : vx_Met l y ws rm Pc Qc XC mc ms free) (cw : va_CN R s args own index y host bytes maxL ret ws rm mc ms n ∧ (Cond.instanceMethod y).before args s = true ∧ (Cond.selects C y y).before args s = true) (hp : PreV s H C b Pc As)
    (hg : g.method = m) (hn : As.length = n) (hsize : g.locals.size = nL) (hstack : g.stack = As.reverse ++ .ref b :: rest) (hW : 2 * g.monitorRoom + (rest.map fun v => v.category).sum ≤ 8) (hdg : decode cc g.pc = .ok (.invokevirtual index, 3)) (hf : cells + mc ≤ R.cells ∧ slots + ms ≤ R.slots) :
    vx_Run p l e R s m args below meth c H locs cells slots mc ms g rest (Qc (Value.ref b :: As).toArray) XC free := by
  obtain ⟨⟨⟨hrc, hrs, hfr, hlo, hws, hcw⟩, hcode, hini, hy, hlen, hl⟩, hx1, hx2⟩ := cw
  have hK : vx_Back l R p e below s args y 3 8 (PreOf R mc ms Pc) (PostOf Qc mc ms free) (vx_Post XC mc ms free) := vx_back (bytes := bytes) (maxL := maxL) (ret := ret) hM hp.1 hrc hrs hfr hlo hws hcw (fun a' U hW => word_at hW (Or.inl (by first | rfl | simp [Cond.onTables, Cond.keeps, Cond.steady])) hini)
  obtain ⟨hx, hb, hml, ho, -⟩ := S
  obtain ⟨-, ⟨cellB, hcB, hoB, hclB⟩, hPc⟩ := hp
  intro T hT X
  rcases vx_callVN X hx (C := C) (bytes := bytes) (maxL := maxL) (ret := ret) ho hl hx1 hx2 hcode hy hK (by rw [hT]; exact hcB) hoB hclB hg (hsize.trans hml.symm) (argsL := As) (rest := rest) (fun sig h => hn.trans (hlen sig h)) hstack hW (by rw [hb]; exact hdg)
    (fun vm₁ hW₁ => ⟨hf.1, hf.2, hPc (T.setVm vm₁) hT hW₁⟩) with ⟨v, vm₁, ⟨U', l2, c2, s2⟩, hW₁, X', ⟨g', mk, t, L, e1, e2, hq, h1, hL, h2, h3⟩, st⟩ | ⟨q, vm₁, ⟨U', l2, c2, s2⟩, hW₁, X', ⟨g', mk, t, L, E, ce, e1, e2, hq, hce, hcv, hcl, h1, hL, h2, h3⟩, st⟩
  · dsimp only [Pt.U, Pt.locs, Pt.cells, Pt.slots] at X' e1 e2 h1 h2 h3 st
    subst h1; subst h2; subst h3
    exact Or.inl ⟨v, (T.setVm vm₁).calling g' mk (Value.ref b :: As).toArray, t, U', L, hT, X', hL, e1, e2, hq, st⟩
  · dsimp only [Pt.U, Pt.locs, Pt.cells, Pt.slots] at X' e1 e2 h1 h2 h3 st hcl
    subst h1; subst h2; subst h3
    exact Or.inr ⟨q, (T.setVm vm₁).calling g' mk (Value.ref b :: As).toArray, t, U', L, E, ce, hT, X', hL, e1, e2, hq, hce, hcv, vx_cls hW₁ hcl, st⟩
theorem vx_runSN {y : MethodName} {bytes cc : ByteArray} {maxL nL mc ms n index : Nat} {ret : Option FieldType} {ws : List Cond} {rm : Room} {Pc : Array Value → State → Prop} {Qc : Array Value → State → Outcome → State → Prop} {XC : String → State → State → Prop} {free : Addr → Prop} {Ts : List Cond} {own host : String} {As rest : List Value} {g : JFrame}
    (S : CallFix p m c cc nL s args Ts own) (hM : vx_Met l y ws rm Pc Qc XC mc ms free) (cw : va_CN R s args own index y host bytes maxL ret ws rm mc ms n ∧ (Cond.static y).before args s = true ∧ True) (hp : PreS s H Pc As)
    (hg : g.method = m) (hn : As.length = n) (hsize : g.locals.size = nL) (hstack : g.stack = As.reverse ++ rest) (hW : 2 * g.monitorRoom + (rest.map fun v => v.category).sum ≤ 8) (hdg : decode cc g.pc = .ok (.invokestatic index, 3)) (hf : cells + mc ≤ R.cells ∧ slots + ms ≤ R.slots) :
    vx_Run p l e R s m args below meth c H locs cells slots mc ms g rest (Qc As.toArray) XC free := by
  obtain ⟨⟨⟨hrc, hrs, hfr, hlo, hws, hcw⟩, hcode, hini, hy, hlen, hl⟩, hx1, hx2⟩ := cw
  have hK : vx_Back l R p e below s args y 3 8 (PreOf R mc ms Pc) (PostOf Qc mc ms free) (vx_Post XC mc ms free) := vx_back (bytes := bytes) (maxL := maxL) (ret := ret) hM hp.1 hrc hrs hfr hlo hws hcw (fun a' U hW => word_at hW (Or.inl (by first | rfl | simp [Cond.onTables, Cond.keeps, Cond.steady])) hini)
  obtain ⟨hx, hb, hml, ho, -⟩ := S
  have hPc := hp.2
  intro T hT X
  rcases vx_callSN X hx (bytes := bytes) (maxL := maxL) (ret := ret) ho hl hx1 hini hcode hy hK hg (hsize.trans hml.symm) (argsL := As) (rest := rest) (fun sig h => hn.trans (hlen sig h)) hstack hW (by rw [hb]; exact hdg)
    (fun vm₁ hW₁ => ⟨hf.1, hf.2, hPc (T.setVm vm₁) hT hW₁⟩) with ⟨v, vm₁, ⟨U', l2, c2, s2⟩, hW₁, X', ⟨g', mk, t, L, e1, e2, hq, h1, hL, h2, h3⟩, st⟩ | ⟨q, vm₁, ⟨U', l2, c2, s2⟩, hW₁, X', ⟨g', mk, t, L, E, ce, e1, e2, hq, hce, hcv, hcl, h1, hL, h2, h3⟩, st⟩
  · dsimp only [Pt.U, Pt.locs, Pt.cells, Pt.slots] at X' e1 e2 h1 h2 h3 st
    subst h1; subst h2; subst h3
    exact Or.inl ⟨v, (T.setVm vm₁).calling g' mk As.toArray, t, U', L, hT, X', hL, e1, e2, hq, st⟩
  · dsimp only [Pt.U, Pt.locs, Pt.cells, Pt.slots] at X' e1 e2 h1 h2 h3 st hcl
    subst h1; subst h2; subst h3
    exact Or.inr ⟨q, (T.setVm vm₁).calling g' mk As.toArray, t, U', L, E, ce, hT, X', hL, e1, e2, hq, hce, hcv, vx_cls hW₁ hcl, st⟩
end
/-! ===== END ===== -/
end
section
/-! ===== ends of methods, calls ===== -/
theorem W.upper {p : Program} {l : Launch} {e : Env} {R : Room} {s : State} {m : MethodId} {args : Array Value} {below : List Frame} {meth : Method} {c : Code} {H : Heap} {locs : List Loc} {k n : Nat} {Q : State → Prop} {g : JFrame}
    (kk : H.size ≤ s.heap.size + k → W p l e R s m args below meth c H locs k n Q g) : W p l e R s m args below meth c H locs k n Q g := by
  intro T hT X
  exact kk (by have h := X.same.2.2.1; rw [← hT]; exact h) T hT X
theorem wld_lo {G : GT} {w : WT} {H : Heap} (h : wld G w H) (hb : gB G ≤ H.size) : gB G + w.1 ≤ H.size := by
  obtain ⟨n, sh, μ⟩ := w
  cases n with
  | zero => exact hb
  | succ k =>
    have h1 := (h k _ (wsO_get (G := G) (w := (k + 1, sh, μ)) (Nat.lt_succ_self k))).lt
    show gB G + (k + 1) ≤ H.size
    have h2 : gB G + k < H.size := h1
    omega
section VE
variable {G : GT} {l : Launch} {z : Option Nat} {M : MD} {pc : Nat} {lv : List (Nat × Value)} {rest : List Value} {w : WT} {k n : Nat} {Φ : RT → Prop}
theorem VW.ireturn {a : Int} {ty : FieldType} (hd : decode (mC M) pc = .ok (.ireturn, 1)) (hr : mR M = some ty) (hn : narrow ty (vI a) = vI a) (hΦ : Φ (.inl (some (vI a)), w, k, n)) : VW G l z M pc lv [vI a] w k n Φ :=
  ⟨_, hΦ, ⟨Nat.le_refl _, Nat.le_refl _⟩, fun p e R s m args below meth c H locs ls C hl hw hS =>
    vx_ret (W.zret C.1.1 C.1.2.1 (C.1.2.2.2.1.trans hr) hn (fun t ht hW => ⟨⟨_, rfl, rfl, by rw [ht]; exact hw⟩, hS.F ht⟩) hS.2.2 hd C.2.2.1.1)⟩
theorem VW.lreturn {a : Int} (hd : decode (mC M) pc = .ok (.lreturn, 1)) (hr : mR M = some .long) (hΦ : Φ (.inl (some (vL a)), w, k, n)) : VW G l z M pc lv [vL a] w k n Φ :=
  ⟨_, hΦ, ⟨Nat.le_refl _, Nat.le_refl _⟩, fun p e R s m args below meth c H locs ls C hl hw hS =>
    vx_ret (W.lret C.1.1 C.1.2.1 (C.1.2.2.2.1.trans hr) (fun t ht hW => ⟨⟨_, rfl, rfl, by rw [ht]; exact hw⟩, hS.F ht⟩) hS.2.2 hd C.2.2.1.1)⟩
theorem VW.dreturn {a : UInt64} (hd : decode (mC M) pc = .ok (.dreturn, 1)) (hr : mR M = some .double) (hΦ : Φ (.inl (some (.double a)), w, k, n)) : VW G l z M pc lv [.double a] w k n Φ :=
  ⟨_, hΦ, ⟨Nat.le_refl _, Nat.le_refl _⟩, fun p e R s m args below meth c H locs ls C hl hw hS =>
    have hlocks : meth.locks = false := C.2.2.1.1
    vx_ret (W.dret C.1.1 C.1.2.1 (C.1.2.2.2.1.trans hr) (fun t ht hW => ⟨⟨_, rfl, rfl, by rw [ht]; exact hw⟩, hS.F ht⟩) hS.2.2 hd hlocks)⟩
theorem VW.vreturn (hd : decode (mC M) pc = .ok (.return_, 1)) (hr : mR M = none) (hΦ : Φ (.inl none, w, k, n)) : VW G l z M pc lv [] w k n Φ :=
  ⟨_, hΦ, ⟨Nat.le_refl _, Nat.le_refl _⟩, fun p e R s m args below meth c H locs ls C hl hw hS =>
    vx_ret (W.vret C.1.1 C.1.2.1 (C.1.2.2.2.1.trans hr) (fun t ht hW => ⟨⟨_, rfl, rfl, by rw [ht]; exact hw⟩, hS.F ht⟩) hS.2.2 hd C.2.2.1.1)⟩
theorem VW.areturn {v : Value} {C0 : String} (hd : decode (mC M) pc = .ok (.areturn, 1)) (hr : mR M = some (.object C0)) (hv : v = .null ∨ ∃ a, v = .ref a) (hΦ : Φ (.inl (some v), w, k, n)) : VW G l z M pc lv [v] w k n Φ :=
  ⟨_, hΦ, ⟨Nat.le_refl _, Nat.le_refl _⟩, fun p e R s m args below meth c H locs ls C hl hw hS =>
    vx_ret (W.aret C.1.1 C.1.2.1 (C.1.2.2.2.1.trans hr) (Or.inl ⟨C0, rfl⟩) hv (fun t ht hW => ⟨⟨_, rfl, rfl, by rw [ht]; exact hw⟩, hS.F ht⟩) hS.2.2 hd C.2.2.1.1)⟩
end VE
/-- a method's contract, out of its body -/
theorem Run.of {G : GT} {l : Launch} (hst : l.stackTraces = false) {t : Bool} {M : MD} {av : List Value} {w : WT} {r : RT} {lv : List (Nat × Value)} (hh : mH M = []) (hp : plainName (mY M).cls = true) (hav : (lg_sl av).length ≤ mL M) (hlv : ∀ q ∈ lv, q ∈ lv_args 0 av)
    (h : V G l (if t then some w.1 else none) M 0 lv [] w 0 0 r) : Run G l t M av w r := by
  refine vx_ofW (cc := mC M) (maxL := mL M) (ret := mR M) (ws' := lw_G) hp (by unfold mW mK; rw [hh]) ?_
  intro p e s m args below meth c s₁ B hml ht hv
  obtain ⟨rfl, hE, hW, htight⟩ := hv
  have hts := atoms_spec (ws := mW M) B.pre
  have hl := lv_entry av (n := mL M) hav
  rw [lg_entry_eq]
  refine h.2 p e _ s m _ below meth c s.heap [] _ ⟨⟨B.exec, B.bytes, hml, B.returns, findClass_of_methodNamed B.named⟩, fun w hw => hts w (List.mem_cons_of_mem _ hw), ⟨B.notSynchronized, Nat.le_refl _, Nat.le_refl _, Nat.le_refl _, Nat.le_refl _⟩, fun hi => by rw [← hi]; exact (name_of_methodNamed B.named B.method).1, ?_, hE, ?_, hst⟩ (hl.mono hlv) hW va_S.rf
  · rw [hh]
    cases hx : c.exceptionTable.toList with
    | nil => rfl
    | cons x xs => exact (ht x (by rw [hx]; exact List.mem_cons_self)).elim
  · intro n0 hn
    cases t with
    | true =>
      cases hn
      exact htight rfl
    | false => cases hn
section VC
variable {G : GT} {l : Launch} {z : Option Nat} {M M' : MD} {pc idx : Nat} {lv : List (Nat × Value)} {st av rest : List Value} {w : WT} {k n : Nat} {Φ : RT → Prop}
theorem Pre0.blind {t : Bool} : FrameBlind (va_Pc av (Pre0 G t w)) := fun a U g mk h => ⟨h.1, eEnv.same h.2.1 rfl rfl, h.2.2.1, h.2.2.2⟩
/-- behind a call that returns v -/
theorem VW.ofRun {r1 : RT} {v : Option Value} {av2 : Array Value} (hv : r1.1 = .inl v) (h : VW G l z M (pc + 3) lv (v.toList ++ rest) r1.2.1 (k + r1.2.2.1) (n + r1.2.2.2) Φ)
    (hrun : ∀ (r : RT) (p : Program) (e : Env) (R : Room) (s : State) (m : MethodId) (args : Array Value) (below : List Frame) (meth : Method) (c : Code) (H : Heap) (locs : List Loc) (ls : Array Slot),
      Ctx G z M r p l R s m args meth c → (k + r1.2.2.1 ≤ R.cells ∧ n + r1.2.2.2 ≤ R.slots) → lv_has ls (mL M) lv → wld G w H → va_S (gA G) s.heap H locs → H.size ≤ s.heap.size + k →
      vx_Run p l e R s m args below meth c H locs k n r1.2.2.1 r1.2.2.2 (F0 m pc ls st) rest (xQc G r1 av2) (xXC G r1) (gA G)) : VW G l z M pc lv st w k n Φ :=
  VW.step ⟨Nat.le_add_right _ _, Nat.le_add_right _ _⟩ h fun r p e R s m args below meth c H locs ls C hR hl hw hS kk => by
    refine W.upper (fun hup => ?_)
    intro T hT X
    rcases hrun r p e R s m args below meth c H locs ls C hR hl hw hS hup T hT X with ⟨v', st₀, t, T', L, h0, X', hL, e1, e2, ⟨⟨v2, hv2, ho, hw2⟩, hF⟩, stp⟩ | ⟨q, st₀, t, T', L, E, ce, h0, X', hL, e1, e2, ⟨⟨hx, hw2⟩, hF⟩, hce, hcv, hcl, stp⟩
    · have e3 : v' = v := by
        have e4 : v' = v2 := by cases ho; rfl
        have e5 : v = v2 := by rw [hv] at hv2; cases hv2; rfl
        rw [e4, e5]
      subst e3
      obtain ⟨k1, k2, k3⟩ := vx_keep h0 e1 hS (fun _ _ h => h) (fun _ h => h) hL hF
      obtain ⟨t2, a1, b1⟩ := kk T'.heap (locs ++ L) ls hl (by rw [e1]; exact hw2) k3 T' rfl X'
      exact ⟨t2, stp t2 a1, b1⟩
    · rw [hv] at hx
      cases hx
/-- what a call of M' in M stands on -/
def CfB (M M' : MD) (n : Nat) : Prop := mK M' ∈ lw_G ∧ Cond.initialized (mY M').cls ∈ lw_G ∧ mH M' = [] ∧
  ((mY M').cls ≠ "java/lang/invoke/MethodHandle" ∧ (mY M').cls ≠ "java/lang/invoke/VarHandle" ∧ (parseMethodDescriptor (mY M').desc).map (fun d => d.parameters.length) = some n) ∧ (mF M' + 1 ≤ mF M ∧ 8 + (mL M' + 11) + mO M' ≤ mO M)
def CfV (M M' : MD) (idx n ci : Nat) : Prop := CfB M M' n ∧ Cond.methodLink (mY M).cls idx (mY M') ∈ lw_G ∧ Cond.instanceMethod (mY M') ∈ lw_G ∧ Cond.selects (mY M').cls (mY M') (mY M') ∈ lw_G ∧ ∃ q : vw_C, vwCl[ci]? = some q ∧ q.1 = (mY M').cls
def CfS (M M' : MD) (idx n : Nat) : Prop := CfB M M' n ∧ Cond.methodLink (mY M).cls idx (mY M') ∈ lw_G ∧ Cond.static (mY M') ∈ lw_G
def CfI (M M' : MD) (idx n : Nat) : Prop := CfB M M' n ∧ Cond.methodLink (mY M).cls idx (mY M') ∈ lw_G ∧ Cond.instanceMethod (mY M') ∈ lw_G ∧ (mY M').name = "<init>" ∧ mR M' = none
def CfN (M M' : MD) (idx n : Nat) : Prop := CfB M M' n ∧ (∃ host : String, ((mY M).cls, idx, mY M', host) ∈ eNM) ∧ Cond.static (mY M') ∈ lw_G
theorem mW_good (h : mK M' ∈ lw_G) : GoodIn lw_G (mW M') := fun w hw => by
  rcases List.mem_cons.mp hw with e | hw
  · subst e; exact ⟨h, inG_g h⟩
  · exact ⟨hw, inG_g hw⟩
theorem CfB.callB {r1 : RT} {R : Room} {s : State} {args : Array Value} {n : Nat} (cf : CfB M M' n) (hts : ∀ w ∈ lw_G, w.before args s = true) (hlk : Cond.methodLink (mY M).cls idx (mY M') ∈ lw_G) (hF : mF M ≤ R.frames) (hO : mO M ≤ R.locals) :
    CallB R s args (mY M).cls idx (mY M') (mC M') (mL M') (mR M') (mW M') (mRm M' r1) r1.2.2.1 r1.2.2.2 n :=
  callB_of n hts (mW_good cf.1) (ws' := lw_G) (by unfold mW mK; rw [cf.2.2.1]) rfl rfl (hts _ cf.2.1) (hts _ hlk) cf.2.2.2.1 ⟨Nat.le_trans cf.2.2.2.2.1 hF, Nat.le_trans cf.2.2.2.2.2 hO⟩
/-- the world's size at a call, exactly -/
theorem tight_of {s : State} {H : Heap} {locs : List Loc} {t : Bool} (ht : t = true → ∃ n0, z = some n0 ∧ n0 + k = w.1) (hz : ∀ n0, z = some n0 → s.heap.size = gB G + n0) (hw : wld G w H) (hS : va_S (gA G) s.heap H locs) (hE : eEnv G s) (hup : H.size ≤ s.heap.size + k) : t = true → H.size = gB G + w.1 := by
  intro h
  obtain ⟨n0, h1, h2⟩ := ht h
  have h3 := hz n0 h1
  have h4 := wld_lo hw (Nat.le_trans hE.1 hS.1)
  omega
theorem VW.callV {ci b : Nat} {fks : List FK} {t : Bool} (cf : CfV M M' idx av.length ci) (hd : decode (mC M) pc = .ok (.invokevirtual idx, 3)) (hst : st = av.reverse ++ .ref (gB G + b) :: rest) (hrest : (rest.map fun v => v.category).sum ≤ 8)
    (hb : b < w.1) (hs : w.2.1 b = sO ci fks) (ht : t = true → ∃ n0, z = some n0 ∧ n0 + k = w.1)
    (hc : ∃ r1 : RT, Run G l t M' (.ref (gB G + b) :: av) w r1 ∧ ∃ v, r1.1 = .inl v ∧ VW G l z M (pc + 3) lv (v.toList ++ rest) r1.2.1 (k + r1.2.2.1) (n + r1.2.2.2) Φ) : VW G l z M pc lv st w k n Φ := by
  obtain ⟨r1, hM, v, hv, hk⟩ := hc
  refine VW.ofRun hv hk (av2 := (Value.ref (gB G + b) :: av).toArray) fun r p e R s m args below meth c H locs ls C hR hl hw hS hup => ?_
  obtain ⟨q, hq, hqn⟩ := cf.2.2.2.2
  have he : (wsO G w)[b]? = some (gB G + b, .inr (ci, flds (gB G) (w.2.2 b) 0 fks)) := by rw [wsO_get hb, hs]; rfl
  have hrec := va_recv C.2.2.2.2.2.1.2.1 hw hq he
  rw [hqn] at hrec
  exact vx_runV (As := av) (Ts := lw_G) ⟨C.1.1, C.1.2.1, C.1.2.2.1, C.1.2.2.2.2, C.2.1⟩ hM ⟨cf.1.callB C.2.1 cf.2.1 C.2.2.1.2.1 C.2.2.1.2.2.1, C.2.1 _ cf.2.2.1, C.2.1 _ cf.2.2.2.1⟩
    ⟨Pre0.blind, hrec, fun U hU hW => ⟨rfl, C.2.2.2.2.2.1.move hS hW hU, by rw [hU]; exact hw, fun h => by rw [hU]; exact tight_of ht C.2.2.2.2.2.2.1 hw hS C.2.2.2.2.2.1 hup h⟩⟩ rfl rfl hl.1 hst (lv_room hrest) hd hR
theorem VW.callS {t : Bool} (cf : CfS M M' idx av.length) (hd : decode (mC M) pc = .ok (.invokestatic idx, 3)) (hst : st = av.reverse ++ rest) (hrest : (rest.map fun v => v.category).sum ≤ 8)
    (ht : t = true → ∃ n0, z = some n0 ∧ n0 + k = w.1)
    (hc : ∃ r1 : RT, Run G l t M' av w r1 ∧ ∃ v, r1.1 = .inl v ∧ VW G l z M (pc + 3) lv (v.toList ++ rest) r1.2.1 (k + r1.2.2.1) (n + r1.2.2.2) Φ) : VW G l z M pc lv st w k n Φ := by
  obtain ⟨r1, hM, v, hv, hk⟩ := hc
  refine VW.ofRun hv hk (av2 := av.toArray) fun r p e R s m args below meth c H locs ls C hR hl hw hS hup => ?_
  exact vx_runS (As := av) (Ts := lw_G) ⟨C.1.1, C.1.2.1, C.1.2.2.1, C.1.2.2.2.2, C.2.1⟩ hM ⟨cf.1.callB C.2.1 cf.2.1 C.2.2.1.2.1 C.2.2.1.2.2.1, C.2.1 _ cf.2.2⟩
    ⟨Pre0.blind, fun U hU hW => ⟨rfl, C.2.2.2.2.2.1.move hS hW hU, by rw [hU]; exact hw, fun h => by rw [hU]; exact tight_of ht C.2.2.2.2.2.2.1 hw hS C.2.2.2.2.2.1 hup h⟩⟩ rfl rfl hl.1 hst (lv_room hrest) hd hR
theorem VW.callN {t : Bool} (cf : CfN M M' idx av.length) (hd : decode (mC M) pc = .ok (.invokestatic idx, 3)) (hst : st = av.reverse ++ rest) (hrest : (rest.map fun v => v.category).sum ≤ 8)
    (ht : t = true → ∃ n0, z = some n0 ∧ n0 + k = w.1)
    (hc : ∃ r1 : RT, Run G l t M' av w r1 ∧ ∃ v, r1.1 = .inl v ∧ VW G l z M (pc + 3) lv (v.toList ++ rest) r1.2.1 (k + r1.2.2.1) (n + r1.2.2.2) Φ) : VW G l z M pc lv st w k n Φ := by
  obtain ⟨r1, hM, v, hv, hk⟩ := hc
  refine VW.ofRun hv hk (av2 := av.toArray) fun r p e R s m args below meth c H locs ls C hR hl hw hS hup => ?_
  obtain ⟨cb, ⟨host, hlk⟩, hstat⟩ := cf
  exact vx_runSN (As := av) (Ts := lw_G) (host := host) ⟨C.1.1, C.1.2.1, C.1.2.2.1, C.1.2.2.2.2, C.2.1⟩ hM
    ⟨va_cnB av.length C.2.1 (mW_good cb.1) (ws' := lw_G) (by unfold mW mK; rw [cb.2.2.1]) rfl rfl (C.2.2.2.2.2.1.2.2.2.2.2.2.2.1 _ hlk) (C.2.1 _ cb.2.1) cb.2.2.2.1 ⟨Nat.le_trans cb.2.2.2.2.1 C.2.2.1.2.1, Nat.le_trans cb.2.2.2.2.2 C.2.2.1.2.2.1⟩, C.2.1 _ hstat, trivial⟩
    ⟨Pre0.blind, fun U hU hW => ⟨rfl, C.2.2.2.2.2.1.move hS hW hU, by rw [hU]; exact hw, fun h => by rw [hU]; exact tight_of ht C.2.2.2.2.2.2.1 hw hS C.2.2.2.2.2.1 hup h⟩⟩ rfl rfl hl.1 hst (lv_room hrest) hd hR
theorem VW.callI {b : Nat} {t : Bool} (cf : CfI M M' idx av.length) (hd : decode (mC M) pc = .ok (.invokespecial idx, 3)) (hst : st = av.reverse ++ .ref (gB G + b) :: rest) (hrest : (rest.map fun v => v.category).sum ≤ 8)
    (ht : t = true → ∃ n0, z = some n0 ∧ n0 + k = w.1)
    (hc : ∃ r1 : RT, Run G l t M' (.ref (gB G + b) :: av) w r1 ∧ ∃ v, r1.1 = .inl v ∧ VW G l z M (pc + 3) lv (v.toList ++ rest) r1.2.1 (k + r1.2.2.1) (n + r1.2.2.2) Φ) : VW G l z M pc lv st w k n Φ := by
  obtain ⟨r1, hM, v, hv, hk⟩ := hc
  refine VW.ofRun hv hk (av2 := (Value.ref (gB G + b) :: av).toArray) fun r p e R s m args below meth c H locs ls C hR hl hw hS hup => ?_
  obtain ⟨cb, hlk, hin, hn1, hret⟩ := cf
  have cB := cb.callB (r1 := r1) (R := R) C.2.1 hlk C.2.2.1.2.1 C.2.2.1.2.2.1
  rw [hret] at cB
  exact vx_runI (As := av) (Ts := lw_G) ⟨C.1.1, C.1.2.1, C.1.2.2.1, C.1.2.2.2.2, C.2.1⟩ hM ⟨cB, hn1, C.2.1 _ hin⟩
    ⟨Pre0.blind, fun U hU hW => ⟨rfl, C.2.2.2.2.2.1.move hS hW hU, by rw [hU]; exact hw, fun h => by rw [hU]; exact tight_of ht C.2.2.2.2.2.2.1 hw hS C.2.2.2.2.2.1 hup h⟩⟩ rfl rfl hl.1 hst (lv_room hrest) hd hR
end VC
end
section
/-! ===== new cells, throws, catches, methods with handlers ===== -/
def xN : List String := ["java/lang/RuntimeException", "java/lang/Exception"]
/-- what a 'throw new E(text)' in own stands on -/
def XT (own : String) (ik ic : Nat) (E : String) : Prop := Bundle.fit E = true ∧ (∀ n ∈ xN, Bundle.fit n = true) ∧ Cond.classLink own ik E ∈ lw_G ∧ Cond.initialized E ∈ lw_G ∧
  (∀ w ∈ (vx_atS own ic E xN).filter goodWord, w ∈ lw_G) ∧ (∀ w ∈ (vx_atS own ic E xN).filter (fun w => !goodWord w), w ∈ [Cond.castable E E]) ∧
  (∀ w ∈ Cond.classLink own ik E :: Cond.initialized E :: vx_atS own ic E xN, vx_ot w = true) ∧ (E, E) ∈ eNC
/-- what a 'new' stands on: the class, its slots, its fields at first -/
def NA (own : String) (idx ci ns : Nat) (fks : List FK) : Prop := ∃ (q : vw_C) (ty : Nat → FieldType), vwCl[ci]? = some q ∧ q.2.2 = ns ∧ (∀ k, k < q.2.2 → parseFieldDescriptor (q.2.1 k).2.2.1 = some (ty k)) ∧ Cond.classLink own idx q.1 ∈ lw_G ∧ Cond.instantiable q.1 q.2.2 ∈ lw_G ∧ Cond.initialized q.1 ∈ lw_G ∧
  (∀ (B j : Nat), j < q.2.2 → defaultValue (ty j) = vp_V (flds B (fun _ => 0) 0 fks) j)
theorem q_new {G : GT} {w : WT} {q k n0 : Nat} {e : va_E} {s : State} {H1 : Heap} (hP : va_P (gD G) vwCl (wsO G w ++ [(q, e)]) H1) (hD : va_D (gA G) (wsO G w ++ [(q, e)])) (hup : H1.size ≤ s.heap.size + (k + 1)) (hs : s.heap.size = gB G + n0) (hk : n0 + k = w.1) : q = gB G + w.1 := by
  have hlen : (wsO G w).length = w.1 := by simp [wsO]
  have hq : (wsO G w ++ [(q, e)])[w.1]? = some (q, e) := by rw [List.getElem?_append_right (by omega), hlen, Nat.sub_self]; rfl
  have h1 : q < H1.size := (hP _ _ hq).lt
  have h2 : gB G ≤ q := hD.2 _ _ hq
  by_cases hlt : q < gB G + w.1
  · have hj : q - gB G < w.1 := by omega
    have hj2 : (wsO G w ++ [(q, e)])[q - gB G]? = some (gB G + (q - gB G), cel G (w.2.1 (q - gB G)) (w.2.2 (q - gB G))) := by
      rw [List.getElem?_append_left (by omega)]
      exact wsO_get hj
    have h3 := hD.1 _ _ _ _ hq hj2 (by show q = gB G + (q - gB G); omega)
    omega
  · omega
section VN
variable {G : GT} {l : Launch} {z : Option Nat} {M M' : MD} {pc idx : Nat} {lv : List (Nat × Value)} {rest : List Value} {w : WT} {k n : Nat} {Φ : RT → Prop} {N : Nat} {sh : Nat → ShT} {μ : Mem}
theorem VW.objInit {a : Nat} (hd : decode (mC M) pc = .ok (.invokespecial idx, 3)) (h1 : Cond.methodLink (mY M).cls idx Lib.objectInit ∈ lw_G) (h2 : Cond.instanceMethod Lib.objectInit ∈ lw_G) (h3 : Cond.code Lib.objectInit ⟨#[0xb1]⟩ 1 none ∈ lw_G) (hf : 1 ≤ mF M) (ho : (rest.map fun v => v.category).sum + 12 ≤ mO M)
    (kk : VW G l z M (pc + 3) lv rest w k n Φ) : VW G l z M pc lv (.ref a :: rest) w k n Φ :=
  VW.step ⟨Nat.le_refl _, Nat.le_refl _⟩ kk fun r p e R s m args below meth c H locs ls C hR hl hw hS kk =>
    W.objInit (g := F0 m pc ls (.ref a :: rest)) C.1.1 C.1.2.1 C.1.2.2.2.2 (C.2.1 _ h1) (C.2.1 _ h2) (C.2.1 _ h3) rfl (hl.1.trans C.1.2.2.1.symm) rfl hd (Nat.le_trans hf C.2.2.1.2.1) (by show 2 * 0 + _ + 12 ≤ _; have := C.2.2.1.2.2.1; omega) (kk H locs ls hl hw hS)
theorem VW.new {ci ns n0 : Nat} {fks : List FK} (hd : decode (mC M) pc = .ok (.new idx, 3)) (na : NA (mY M).cls idx ci ns fks) (hz : z = some n0) (hk : n0 + k = N)
    (kk : VW G l z M (pc + 3) lv (.ref (gB G + N) :: rest) (N + 1, fup sh N (sO ci fks), fup μ N (fun _ => 0)) (k + 1) (n + ns) Φ) : VW G l z M pc lv rest (N, sh, μ) k n Φ :=
  VW.step ⟨Nat.le_add_right _ _, Nat.le_add_right _ _⟩ kk fun r p e R s m args below meth c H locs ls C hR hl hw hS kk => by
    obtain ⟨q, ty, hc, hns, hty, hcl, hin, hini, hdf⟩ := na
    subst hns
    refine va_new (C := q.1) (T := q.2.1) (N := q.2.2) (ci := ci) (fs := flds (gB G) (fun _ => 0) 0 fks) C.1.1 C.1.2.1 C.2.1 (inC ci q hc).1 ty hty C.1.2.2.2.2 (C.2.1 _ hcl) (C.2.1 _ hin) (C.2.1 _ hini) C.2.2.2.2.2.1.2.1 hw (wsO_D G _) hS (fun q hq => Nat.le_trans C.2.2.2.2.2.1.1 hq) hc (hdf _) hR.1 hR.2 hd (fun q1 H1 hP hD hS1 => ?_)
    refine W.upper (fun hup => ?_)
    have hq := q_new hP hD hup (C.2.2.2.2.2.2.1 _ hz) hk
    subst hq
    refine kk H1 locs ls hl ?_ hS1
    show va_P (gD G) vwCl (wsO G (N + 1, fup sh N (sO ci fks), fup μ N (fun _ => 0))) H1
    rw [← wsO_push]
    exact hP
theorem VW.newI {n0 : Nat} {x : Int} (hd : decode (mC M) pc = .ok (.newarray .int, 2)) (ha : Cond.arrayClass .int ∈ lw_G) (hz : z = some n0) (hk : n0 + k = N) (hx : 0 ≤ x ∧ x < 100000)
    (kk : VW G l z M (pc + 2) lv (.ref (gB G + N) :: rest) (N + 1, fup sh N (sI x.toNat), fup μ N (fun _ => 0)) (k + 1) (n + x.toNat) Φ) : VW G l z M pc lv (vI x :: rest) (N, sh, μ) k n Φ :=
  VW.step ⟨Nat.le_add_right _ _, Nat.le_add_right _ _⟩ kk fun r p e R s m args below meth c H locs ls C hR hl hw hS kk => by
    have hR3 : R32 x := ⟨by omega, by omega⟩
    refine va_newa (atype := .int) (ty := .int) (a0 := (x.toNat, .inl (fun _ => 0))) (N' := x.toNat) C.1.1 C.1.2.1 (C.2.1 _ ha) rfl C.2.2.2.2.2.1.2.1 hw (wsO_D G _) hS (fun q hq => Nat.le_trans C.2.2.2.2.2.1.1 hq) (fun cA => by rw [vp_cell_i]; rfl) (by rw [i32_0, i32_lt hR3 R32_0]; omega) (i32_clamp (by omega) (by omega)) (by show x.toNat * 4 ≤ _; omega) hR.1 hR.2 hd (fun q1 cA H1 hK hP hD hS1 => ?_)
    refine W.upper (fun hup => ?_)
    have hq := q_new hP hD hup (C.2.2.2.2.2.2.1 _ hz) hk
    subst hq
    have hcA : cA = gI G := by
      have h1 : va_RA s cA .int := (hK.2 4 (cA, .int) rfl).2
      have h2 : va_RA s (gI G) .int := (C.2.2.2.2.2.1.2.1.2 0 (gI G, .int) rfl).2
      exact Option.some.inj (h1.symm.trans h2)
    subst hcA
    refine kk H1 locs ls hl ?_ hS1
    show va_P (gD G) vwCl (wsO G (N + 1, fup sh N (sI x.toNat), fup μ N (fun _ => 0))) H1
    rw [← wsO_push]
    exact hP
theorem VW.newL {n0 : Nat} {x : Int} (hd : decode (mC M) pc = .ok (.newarray .long, 2)) (ha : Cond.arrayClass .long ∈ lw_G) (hz : z = some n0) (hk : n0 + k = N) (hx : 0 ≤ x ∧ x < 100000)
    (kk : VW G l z M (pc + 2) lv (.ref (gB G + N) :: rest) (N + 1, fup sh N (sL x.toNat), fup μ N (fun _ => 0)) (k + 1) (n + x.toNat) Φ) : VW G l z M pc lv (vI x :: rest) (N, sh, μ) k n Φ :=
  VW.step ⟨Nat.le_add_right _ _, Nat.le_add_right _ _⟩ kk fun r p e R s m args below meth c H locs ls C hR hl hw hS kk => by
    have hR3 : R32 x := ⟨by omega, by omega⟩
    refine va_newa (atype := .long) (ty := .long) (a0 := (x.toNat, .inr (.inl (fun _ => 0)))) (N' := x.toNat) C.1.1 C.1.2.1 (C.2.1 _ ha) rfl C.2.2.2.2.2.1.2.1 hw (wsO_D G _) hS (fun q hq => Nat.le_trans C.2.2.2.2.2.1.1 hq) (fun cA => by rw [vp_cell_l]; rfl) (by rw [i32_0, i32_lt hR3 R32_0]; omega) (i32_clamp (by omega) (by omega)) (by show x.toNat * 8 ≤ _; omega) hR.1 hR.2 hd (fun q1 cA H1 hK hP hD hS1 => ?_)
    refine W.upper (fun hup => ?_)
    have hq := q_new hP hD hup (C.2.2.2.2.2.2.1 _ hz) hk
    subst hq
    have hcA : cA = gL G := by
      have h1 : va_RA s cA .long := (hK.2 4 (cA, .long) rfl).2
      have h2 : va_RA s (gL G) .long := (C.2.2.2.2.2.1.2.1.2 1 (gL G, .long) rfl).2
      exact Option.some.inj (h1.symm.trans h2)
    subst hcA
    refine kk H1 locs ls hl ?_ hS1
    show va_P (gD G) vwCl (wsO G (N + 1, fup sh N (sL x.toNat), fup μ N (fun _ => 0))) H1
    rw [← wsO_push]
    exact hP
theorem qel_none (B j n : Nat) : qel B (List.replicate n none) j = none := by
  unfold qel
  rw [List.getElem?_replicate]
  by_cases h : j < n <;> simp [h]
theorem VW.newQ {n0 : Nat} {x : Int} {c0 : Bool} (hd : decode (mC M) pc = .ok (.anewarray idx, 3)) (ha : Cond.classLink (mY M).cls idx (if c0 then "LatticeGestures$Row" else "LatticeGestures$State") ∈ lw_G) (hz : z = some n0) (hk : n0 + k = N) (hx : 0 ≤ x ∧ x < 100000)
    (kk : VW G l z M (pc + 3) lv (.ref (gB G + N) :: rest) (N + 1, fup sh N (sQ c0 (List.replicate x.toNat none)), fup μ N (fun _ => 0)) (k + 1) (n + x.toNat) Φ) : VW G l z M pc lv (vI x :: rest) (N, sh, μ) k n Φ :=
  VW.step ⟨Nat.le_add_right _ _, Nat.le_add_right _ _⟩ kk fun r p e R s m args below meth c H locs ls C hR hl hw hS kk => by
    have hR3 : R32 x := ⟨by omega, by omega⟩
    have hAO : va_AO (if c0 then "LatticeGestures$Row" else "LatticeGestures$State") s := by
      cases c0 with
      | true => exact C.2.2.2.2.2.1.2.2.2.2.2.2.2.2.2.2.1
      | false => exact C.2.2.2.2.2.1.2.2.2.2.2.2.2.2.2.2.2.1
    refine va_newq (N' := x.toNat) C.1.1 C.1.2.1 C.1.2.2.2.2 (C.2.1 _ ha) hAO C.2.2.2.2.2.1.2.1 hw (wsO_D G _) hS (fun q hq => Nat.le_trans C.2.2.2.2.2.1.1 hq) (by rw [i32_0, i32_lt hR3 R32_0]; omega) (i32_clamp (by omega) (by omega)) (by omega) hR.1 hR.2 hd (fun q1 cA H1 hK hP hD hS1 => ?_)
    refine W.upper (fun hup => ?_)
    have hq := q_new hP hD hup (C.2.2.2.2.2.2.1 _ hz) hk
    subst hq
    have hcA : cA = if c0 then gR G else gS G := by
      cases c0 with
      | true =>
        obtain ⟨kA, comp, -, -, -, h1⟩ : va_RA s cA (.object "LatticeGestures$Row") := (hK.2 4 (cA, .object "LatticeGestures$Row") rfl).2
        obtain ⟨kA2, comp2, -, -, -, h2⟩ : va_RA s (gR G) (.object "LatticeGestures$Row") := (C.2.2.2.2.2.1.2.1.2 2 (gR G, .object "LatticeGestures$Row") rfl).2
        exact Option.some.inj (h1.symm.trans h2)
      | false =>
        obtain ⟨kA, comp, -, -, -, h1⟩ : va_RA s cA (.object "LatticeGestures$State") := (hK.2 4 (cA, .object "LatticeGestures$State") rfl).2
        obtain ⟨kA2, comp2, -, -, -, h2⟩ : va_RA s (gS G) (.object "LatticeGestures$State") := (C.2.2.2.2.2.1.2.1.2 3 (gS G, .object "LatticeGestures$State") rfl).2
        exact Option.some.inj (h1.symm.trans h2)
    subst hcA
    refine kk H1 locs ls hl ?_ hS1
    show va_P (gD G) vwCl (wsO G (N + 1, fup sh N (sQ c0 (List.replicate x.toNat none)), fup μ N (fun _ => 0))) H1
    rw [← wsO_push]
    have he : cel G (sQ c0 (List.replicate x.toNat none)) (fun _ => 0) = .inl ((if c0 then gR G else gS G), x.toNat, .inr (.inr (.inr (.inr (fun _ => none))))) := by
      show Sum.inl ((if c0 then gR G else gS G), (List.replicate x.toNat (none : Option Nat)).length, Sum.inr (Sum.inr (Sum.inr (Sum.inr (qel (gB G) (List.replicate x.toNat none)))))) = _
      rw [List.length_replicate, show qel (gB G) (List.replicate x.toNat none) = fun _ => none from funext fun j => qel_none _ j _]
    rw [he]
    exact hP
theorem VW.aastore {a b ci : Nat} {c0 : Bool} {ids : List (Option Nat)} {fks : List FK} {i : Int} (hd : decode (mC M) pc = .ok (.aastore, 1)) (ha : a < N) (hs : sh a = sQ c0 ids) (hb : b < N) (hsb : sh b = sO ci fks) (hci : ci = if c0 then 4 else 5) (h0 : 0 ≤ i) (h1 : i < ids.length) (h2 : ids.length < 2147483648)
    (kk : VW G l z M (pc + 1) lv rest (N, fup sh a (sQ c0 (ids.set i.toNat (some b))), μ) k n Φ) : VW G l z M pc lv (.ref (gB G + b) :: vI i :: .ref (gB G + a) :: rest) (N, sh, μ) k n Φ :=
  VW.step ⟨Nat.le_refl _, Nat.le_refl _⟩ kk fun r p e R s m args below meth c H locs ls C hR hl hw hS kk => by
    have he : (wsO G (N, sh, μ))[a]? = some (gB G + a, .inl ((if c0 then gR G else gS G), ids.length, .inr (.inr (.inr (.inr (qel (gB G) ids)))))) := by rw [wsO_get ha]; show some (_, cel G (sh a) (μ a)) = _; rw [hs]; rfl
    have heb : (wsO G (N, sh, μ))[b]? = some (gB G + b, .inr (ci, flds (gB G) (μ b) 0 fks)) := by rw [wsO_get hb]; show some (_, cel G (sh b) (μ b)) = _; rw [hsb]; rfl
    have hR3 : R32 i := ⟨by omega, by omega⟩
    have hfin : ∀ (H1 : Heap) (locs1 : List Loc), va_P (gD G) vwCl ((wsO G (N, sh, μ)).set a (gB G + a, .inl ((if c0 then gR G else gS G), ids.length, .inr (.inr (.inr (.inr (va_up (qel (gB G) ids) (Int32.ofInt i).toNatClampNeg (some (gB G + b))))))))) H1 → va_S (gA G) s.heap H1 locs1 →
        W p l e R s m args below meth c H1 locs1 k n (vx_MQ below (xQc G r) (xXC G r) args s r.2.2.1 r.2.2.2 (gA G)) (F0 m (pc + 1) ls rest) := by
      intro H1 locs1 hP hS1
      refine kk H1 locs1 ls hl ?_ hS1
      unfold wld
      rw [← wsO_set (sh := sh) (μ := μ) (e := .inl ((if c0 then gR G else gS G), ids.length, .inr (.inr (.inr (.inr (va_up (qel (gB G) ids) (Int32.ofInt i).toNatClampNeg (some (gB G + b))))))))]
      · exact hP
      · rw [fup_s, i32_clamp (j := i.toNat) (by omega) (by omega)]
        show Sum.inl ((if c0 then gR G else gS G), (ids.set i.toNat (some b)).length, Sum.inr (Sum.inr (Sum.inr (Sum.inr (qel (gB G) (ids.set i.toNat (some b))))))) = _
        rw [List.length_set]
        congr 7
        funext j
        unfold qel va_up
        rw [List.getElem?_set]
        by_cases hj : j = i.toNat
        · subst hj
          have : i.toNat < ids.length := by omega
          simp [this]
        · rw [if_neg (fun q => hj q.symm), if_neg hj]
      · intro j hj
        exact ⟨fup_n hj, rfl⟩
    cases c0 with
    | true =>
      subst hci
      exact va_astq (r := (RX4, TX4, 2)) C.1.1 C.1.2.1 C.2.2.2.2.2.1.2.1 hw (wsO_D G _) hS a 2 b 4 he rfl heb rfl (i32_in hR3 h0 h1) hd (fun H1 locs1 hP hD hS1 => hfin H1 locs1 hP hS1)
    | false =>
      subst hci
      exact va_astq (r := (RX5, TX5, 3)) C.1.1 C.1.2.1 C.2.2.2.2.2.1.2.1 hw (wsO_D G _) hS a 3 b 5 he rfl heb rfl (i32_in hR3 h0 h1) hd (fun H1 locs1 hP hD hS1 => hfin H1 locs1 hP hS1)
/-- throw new E(text) -/
theorem VW.throwS {ik is ic : Nat} {E text : String} (hst : l.stackTraces = false) (xt : XT (mY M).cls ik ic E) (hstr : ((mY M).cls, is, text) ∈ eStr) (hh : mH M = []) (hf : 6 ≤ mF M) (ho : (rest.map fun v => v.category).sum + 82 ≤ mO M)
    (d0 : decode (mC M) pc = .ok (.new ik, 3)) (d3 : decode (mC M) (pc + 3) = .ok (.dup, 1)) (d4 : decode (mC M) (pc + 4) = .ok (.ldc is, 2)) (d6 : decode (mC M) (pc + 6) = .ok (.invokespecial ic, 3)) (d9 : decode (mC M) (pc + 9) = .ok (.athrow, 1))
    (hΦ : Φ (.inr E, w, k + 1, n + 6)) : VW G l z M pc lv rest w k n Φ :=
  ⟨_, hΦ, ⟨Nat.le_add_right _ _, Nat.le_add_right _ _⟩, fun p e R s m args below meth c H locs ls C hl hw hS => by
    obtain ⟨x1, x2, x3, x4, x5, x6, x7, x8⟩ := xt
    obtain ⟨a, ha⟩ := C.2.2.2.2.2.1.2.2.2.2.2.1 _ hstr
    have hat : ∀ w ∈ vx_atS (mY M).cls ic E xN, w.before args s = true := vx_hat (fun w hw => C.2.1 _ (x5 w hw)) x6 (vx_c (va_Nw.use rfl (C.2.2.2.2.2.1.2.2.2.2.2.2.2.2.1 _ x8)) vx_n)
    exact vx_throwS (names := xN) (text := text) (sa := a) (A := gA G) C.1.1 C.1.2.1 hst C.1.2.2.2.2 x1 x2 (C.2.1 _ x3) (C.2.1 _ x4) ha hat x7 C.2.2.2.2.2.1.2.2.2.1 C.2.2.2.2.2.1.2.2.2.2.1 hS (hl.1.trans C.1.2.2.1.symm) d0 d3 d4 d6 d9
      (fun x hx => by rw [C.2.2.2.2.1, hh] at hx; cases hx) (by have := C.2.2.1.2.1; show 2 + 3 < R.frames; omega) (by have := C.2.2.1.2.2.1; show _ + (13 * (2 + 1) + 43) ≤ R.locals; omega) C.2.2.1.2.2.2.1 C.2.2.1.2.2.2.2 C.2.2.1.1
      (fun t hvm hz hk => ⟨⟨rfl, va_P.kept hw (fun i q hq => hk _ (hw i q hq).lt)⟩, ⟨Nat.le_trans hS.1 hz, fun q h1 h2 => (hk q (Nat.lt_of_lt_of_le h1 hS.1)).trans (hS.2.1 q h1 h2)⟩⟩)
      hS.2.2 (Nat.le_refl _) (Nat.le_refl _)⟩
end VN
section VX
variable {G : GT} {l : Launch} {z : Option Nat} {M M' : MD} {pc idx : Nat} {lv : List (Nat × Value)} {st av rest : List Value} {w : WT} {k n : Nat} {Φ : RT → Prop}
theorem VW.slen (hd : decode (mC M) pc = .ok (.arraylength, 1)) (kk : VW G l z M (pc + 1) lv (vI (gXn G) :: rest) w k n Φ) : VW G l z M pc lv (.ref (gXb G) :: rest) w k n Φ :=
  VW.step ⟨Nat.le_refl _, Nat.le_refl _⟩ kk fun r p e R s m args below meth c H locs ls C hR hl hw hS kk => by
    have hE := C.2.2.2.2.2.1
    have hX := hE.2.2.2.2.2.2.2.2.2.2.2.2.1
    have hb := hE.2.2.2.2.2.2.2.2.2.2.2.2.2
    refine va_slen C.1.1 C.1.2.1 hX (Nat.lt_of_lt_of_le hb hE.1) (fun h => absurd h (by show ¬ gB G ≤ gXb G; omega)) hS hd ?_
    rw [← Int32.ofInt_eq_ofNat]
    exact kk H locs ls hl hw hS
theorem VW.sload {i : Int} (hd : decode (mC M) pc = .ok (.iaload, 1)) (h0 : 0 ≤ i) (h1 : i < gXn G) (h2 : gXn G < 2147483648) (kk : VW G l z M (pc + 1) lv (vI (gXv G i.toNat) :: rest) w k n Φ) : VW G l z M pc lv (vI i :: .ref (gXb G) :: rest) w k n Φ :=
  VW.step ⟨Nat.le_refl _, Nat.le_refl _⟩ kk fun r p e R s m args below meth c H locs ls C hR hl hw hS kk => by
    have hE := C.2.2.2.2.2.1
    have hX := hE.2.2.2.2.2.2.2.2.2.2.2.2.1
    have hb := hE.2.2.2.2.2.2.2.2.2.2.2.2.2
    have hR3 : R32 i := ⟨by omega, by omega⟩
    refine va_sld C.1.1 C.1.2.1 hX (Nat.lt_of_lt_of_le hb hE.1) (fun h => absurd h (by show ¬ gB G ≤ gXb G; omega)) hS (i32_in hR3 h0 h1) hd ?_
    rw [i32_clamp (j := i.toNat) (by omega) (by omega)]
    exact kk H locs ls hl hw hS
theorem VW.ishr {a b x : Int} (hd : decode (mC M) pc = .ok (.ishr, 1)) (hv : Int32.ofInt a >>> (Int32.ofInt b &&& 31) = Int32.ofInt x) (kk : VW G l z M (pc + 1) lv (vI x :: rest) w k n Φ) : VW G l z M pc lv (vI b :: vI a :: rest) w k n Φ :=
  VW.step ⟨Nat.le_refl _, Nat.le_refl _⟩ kk fun r p e R s m args below meth c H locs ls C hR hl hw hS kk => lv_ishr C.1.1 C.1.2.1 hd (by rw [hv]; exact kk H locs ls hl hw hS)
theorem VW.iushr {a b x : Int} (hd : decode (mC M) pc = .ok (.iushr, 1)) (hv : ((Int32.ofInt a).toUInt32 >>> ((Int32.ofInt b).toUInt32 &&& Int32.toUInt32 31)).toInt32 = Int32.ofInt x) (kk : VW G l z M (pc + 1) lv (vI x :: rest) w k n Φ) : VW G l z M pc lv (vI b :: vI a :: rest) w k n Φ :=
  VW.step ⟨Nat.le_refl _, Nat.le_refl _⟩ kk fun r p e R s m args below meth c H locs ls C hR hl hw hS kk => lv_iushr C.1.1 C.1.2.1 hd hv (kk H locs ls hl hw hS)
theorem VW.rawF {a : UInt32} {x : Int} (hd : decode (mC M) pc = .ok (.invokestatic idx, 3)) (h1 : Cond.methodLink (mY M).cls idx ⟨"java/lang/Float", "floatToRawIntBits", "(F)I"⟩ ∈ lw_G) (h2 : Cond.native ⟨"java/lang/Float", "floatToRawIntBits", "(F)I"⟩ ∈ lw_G) (h3 : Cond.static ⟨"java/lang/Float", "floatToRawIntBits", "(F)I"⟩ ∈ lw_G) (h4 : Cond.initialized "java/lang/Float" ∈ lw_G) (hf : 1 ≤ mF M) (ho : (rest.map fun v => v.category).sum + 15 ≤ mO M) (hx : a.toInt32 = Int32.ofInt x)
    (kk : VW G l z M (pc + 3) lv (vI x :: rest) w k n Φ) : VW G l z M pc lv (.float a :: rest) w k n Φ :=
  VW.step ⟨Nat.le_refl _, Nat.le_refl _⟩ kk fun r p e R s m args below meth c H locs ls C hR hl hw hS kk =>
    vn_f2i C.1.1 C.1.2.1 (C.1.2.2.1.trans hl.1.symm) C.1.2.2.2.2 (C.2.1 _ h1) (C.2.1 _ h2) (C.2.1 _ h3) (C.2.1 _ h4) (Nat.le_trans hf C.2.2.1.2.1) (Nat.le_trans ho C.2.2.1.2.2.1) hd (by rw [hx]; exact kk H locs ls hl hw hS)
theorem VW.rawD {a : UInt64} {x : Int} (hd : decode (mC M) pc = .ok (.invokestatic idx, 3)) (h1 : Cond.methodLink (mY M).cls idx ⟨"java/lang/Double", "doubleToRawLongBits", "(D)J"⟩ ∈ lw_G) (h2 : Cond.native ⟨"java/lang/Double", "doubleToRawLongBits", "(D)J"⟩ ∈ lw_G) (h3 : Cond.static ⟨"java/lang/Double", "doubleToRawLongBits", "(D)J"⟩ ∈ lw_G) (h4 : Cond.initialized "java/lang/Double" ∈ lw_G) (hf : 1 ≤ mF M) (ho : (rest.map fun v => v.category).sum + 15 ≤ mO M) (hx : a.toInt64 = Int64.ofInt x)
    (kk : VW G l z M (pc + 3) lv (vL x :: rest) w k n Φ) : VW G l z M pc lv (.double a :: rest) w k n Φ :=
  VW.step ⟨Nat.le_refl _, Nat.le_refl _⟩ kk fun r p e R s m args below meth c H locs ls C hR hl hw hS kk =>
    vn_d2l C.1.1 C.1.2.1 (C.1.2.2.1.trans hl.1.symm) C.1.2.2.2.2 (C.2.1 _ h1) (C.2.1 _ h2) (C.2.1 _ h3) (C.2.1 _ h4) (Nat.le_trans hf C.2.2.1.2.1) (Nat.le_trans ho C.2.2.1.2.2.1) hd (by rw [hx]; exact kk H locs ls hl hw hS)
/-- a contract of a method with handlers, out of its body -/
theorem Run.ofH (hst : l.stackTraces = false) {t : Bool} {M : MD} {av : List Value} {w : WT} {r : RT} {h0 : Nat × Nat × Nat × Nat} {hs : List (Nat × Nat × Nat × Nat)} (hh : mH M = h0 :: hs) (hp : plainName (mY M).cls = true) (hav : (lg_sl av).length ≤ mL M)
    (h : V G l (if t then some w.1 else none) M 0 (lv_args 0 av) [] w 0 0 r) : Run G l t M av w r := by
  have hK : mK M = .codeWith (mY M) (mC M) (mL M) (mR M) (mH M) := by unfold mK; rw [hh]
  refine vx_ofWH (cc := mC M) (maxL := mL M) (ret := mR M) (hh := mH M) (ws' := lw_G) hp (by unfold mW; rw [hK]) ?_
  intro p e s m args below meth c s₁ B hml hv
  obtain ⟨rfl, hE, hW, htight⟩ := hv
  have hts := atoms_spec (ws := mW M) B.pre
  have hl := lv_entry av (n := mL M) hav
  rw [lg_entry_eq]
  refine h.2 p e _ s m _ below meth c s.heap [] _ ⟨⟨B.exec, B.bytes, hml, B.returns, findClass_of_methodNamed B.named⟩, fun w hw => hts w (List.mem_cons_of_mem _ hw), ⟨B.notSynchronized, Nat.le_refl _, Nat.le_refl _, Nat.le_refl _, Nat.le_refl _⟩, fun hi => by rw [← hi]; exact (name_of_methodNamed B.named B.method).1, ?_, hE, ?_, hst⟩ hl hW va_S.rf
  · exact vx_table (x := mY M) B (by rw [← hK]; exact hts _ List.mem_cons_self)
  · intro n0 hn
    cases t with
    | true =>
      cases hn
      exact htight rfl
    | false => cases hn
/-- behind a call that throws E, caught here: the handler stores the exception, nobody reads it -/
theorem VW.ofThrow {r1 : RT} {E : String} {av2 : Array Value} {pre suf : List ExceptionTableEntry} {x : ExceptionTableEntry} {lv' : List (Nat × Value)} {len : Nat} (hE : r1.1 = .inr E) (hsplit : tableOf (mH M) = pre ++ x :: suf)
    (hpass : ∀ y ∈ pre, covers y pc = false ∨ (y.catchType ≠ 0 ∧ ∃ nm : String, Cond.classLink (mY M).cls y.catchType nm ∈ lw_G ∧ (E, nm) ∈ eNN)) (hx : covers x pc = true) (h0 : x.catchType ≠ 0) (hlink : Cond.classLink (mY M).cls x.catchType E ∈ lw_G) (hc : (E, E) ∈ eNC)
    (hs : (∃ q : Fin 4, decode (mC M) x.handlerPc = .ok (.astore_n q, 1) ∧ len = 1 ∧ (q : Nat) < mL M ∧ lv' = lv.filter (fun p => !(p.1 == (q : Nat)) && !(p.1 + 1 == (q : Nat) && p.2.category == 2))) ∨
      (∃ q : Nat, decode (mC M) x.handlerPc = .ok (.astore q, 2) ∧ len = 2 ∧ q < mL M ∧ lv' = lv.filter (fun p => !(p.1 == q) && !(p.1 + 1 == q && p.2.category == 2))))
    (h : VW G l z M (x.handlerPc + len) lv' [] r1.2.1 (k + r1.2.2.1) (n + r1.2.2.2) Φ)
    (hrun : ∀ (r : RT) (p : Program) (e : Env) (R : Room) (s : State) (m : MethodId) (args : Array Value) (below : List Frame) (meth : Method) (c : Code) (H : Heap) (locs : List Loc) (ls : Array Slot),
      Ctx G z M r p l R s m args meth c → (k + r1.2.2.1 ≤ R.cells ∧ n + r1.2.2.2 ≤ R.slots) → lv_has ls (mL M) lv → wld G w H → va_S (gA G) s.heap H locs → H.size ≤ s.heap.size + k →
      vx_Run p l e R s m args below meth c H locs k n r1.2.2.1 r1.2.2.2 (F0 m pc ls st) rest (xQc G r1 av2) (xXC G r1) (gA G)) : VW G l z M pc lv st w k n Φ :=
  VW.step ⟨Nat.le_add_right _ _, Nat.le_add_right _ _⟩ h fun r p e R s m args below meth c H locs ls C hR hl hw hS kk => by
    refine W.upper (fun hup => ?_)
    intro T hT X
    rcases hrun r p e R s m args below meth c H locs ls C hR hl hw hS hup T hT X with ⟨v', st₀, t, T', L, h0', X', hL, e1, e2, ⟨⟨v2, hv2, ho, hw2⟩, hF⟩, stp⟩ | ⟨q, st₀, t, T', L, E', ce, h0', X', hL, e1, e2, ⟨⟨hx', hw2⟩, hF⟩, hce, hcv, hcl, stp⟩
    · rw [hE] at hv2
      cases hv2
    · have e3 : E' = E := by rw [hE] at hx'; cases hx'; rfl
      subst e3
      obtain ⟨k1, k2, k3⟩ := vx_keep h0' e1 hS (fun _ _ h => h) (fun _ h => h) hL hF
      have hEnv := C.2.2.2.2.2.1
      have key : vx_W p l e R s m args below meth c T'.heap (locs ++ L) (k + r1.2.2.1) (n + r1.2.2.2) (vx_MQ below (xQc G r) (xXC G r) args s r.2.2.1 r.2.2.2 (gA G)) (F0 m pc ls rest) q := by
        refine vx_catch C.1.2.2.2.2 pre x suf (by rw [C.2.2.2.2.1]; exact hsplit) (fun y hy => ?_) hx h0 (C.2.1 _ hlink) (va_Nw.use rfl (hEnv.2.2.2.2.2.2.2.2.1 _ hc)) (by rw [e1]; exact hce) hcv hcl ?_
        · rcases hpass y hy with g | ⟨g1, nm, g2, g3⟩
          · exact Or.inl g
          · exact Or.inr ⟨g1, nm, C.2.1 _ g2, hEnv.2.2.2.2.2.2.2.2.2.1 _ g3⟩
        · rcases hs with ⟨qi, hd2, hlen, hq, hlv'⟩ | ⟨qi, hd2, hlen, hq, hlv'⟩
          · subst hlen
            exact lv_astore_n (i := (qi : Nat)) C.1.1 C.1.2.1 hd2 rfl hl hq rfl (fun ls' hl' => kk T'.heap (locs ++ L) ls' (hl'.mono (fun p hp => by rw [hlv'] at hp; exact List.mem_cons_of_mem _ hp)) (by rw [e1]; exact hw2) k3)
          · subst hlen
            exact lv_astore C.1.1 C.1.2.1 hd2 hl hq rfl (fun ls' hl' => kk T'.heap (locs ++ L) ls' (hl'.mono (fun p hp => by rw [hlv'] at hp; exact List.mem_cons_of_mem _ hp)) (by rw [e1]; exact hw2) k3)
      obtain ⟨t2, a1, b1⟩ := key T' rfl X'
      exact ⟨t2, stp.trans a1, b1⟩
/-- the run of a virtual call, for either end -/
theorem callV_run {ci b : Nat} {fks : List FK} {r1 : RT} (cf : CfV M M' idx av.length ci) (hd : decode (mC M) pc = .ok (.invokevirtual idx, 3)) (hst : st = av.reverse ++ .ref (gB G + b) :: rest) (hrest : (rest.map fun v => v.category).sum ≤ 8)
    (hb : b < w.1) (hs : w.2.1 b = sO ci fks) (hM : Run G l false M' (.ref (gB G + b) :: av) w r1) : ∀ (r : RT) (p : Program) (e : Env) (R : Room) (s : State) (m : MethodId) (args : Array Value) (below : List Frame) (meth : Method) (c : Code) (H : Heap) (locs : List Loc) (ls : Array Slot),
      Ctx G z M r p l R s m args meth c → (k + r1.2.2.1 ≤ R.cells ∧ n + r1.2.2.2 ≤ R.slots) → lv_has ls (mL M) lv → wld G w H → va_S (gA G) s.heap H locs → H.size ≤ s.heap.size + k →
      vx_Run p l e R s m args below meth c H locs k n r1.2.2.1 r1.2.2.2 (F0 m pc ls st) rest (xQc G r1 (Value.ref (gB G + b) :: av).toArray) (xXC G r1) (gA G) := by
  intro r p e R s m args below meth c H locs ls C hR hl hw hS hup
  obtain ⟨q, hq, hqn⟩ := cf.2.2.2.2
  have he : (wsO G w)[b]? = some (gB G + b, .inr (ci, flds (gB G) (w.2.2 b) 0 fks)) := by rw [wsO_get hb, hs]; rfl
  have hrec := va_recv C.2.2.2.2.2.1.2.1 hw hq he
  rw [hqn] at hrec
  exact vx_runV (As := av) (Ts := lw_G) ⟨C.1.1, C.1.2.1, C.1.2.2.1, C.1.2.2.2.2, C.2.1⟩ hM ⟨cf.1.callB C.2.1 cf.2.1 C.2.2.1.2.1 C.2.2.1.2.2.1, C.2.1 _ cf.2.2.1, C.2.1 _ cf.2.2.2.1⟩
    ⟨Pre0.blind, hrec, fun U hU hW => ⟨rfl, C.2.2.2.2.2.1.move hS hW hU, by rw [hU]; exact hw, fun h => by cases h⟩⟩ rfl rfl hl.1 hst (lv_room hrest) hd hR
/-- a static call of a method with handlers -/
def CfH (M M' : MD) (idx n : Nat) : Prop := mK M' ∈ lw_G ∧ mK M' = .codeWith (mY M') (mC M') (mL M') (mR M') (mH M') ∧ Cond.initialized (mY M').cls ∈ lw_G ∧ Cond.methodLink (mY M).cls idx (mY M') ∈ lw_G ∧ Cond.static (mY M') ∈ lw_G ∧
  ((mY M').cls ≠ "java/lang/invoke/MethodHandle" ∧ (mY M').cls ≠ "java/lang/invoke/VarHandle" ∧ (parseMethodDescriptor (mY M').desc).map (fun d => d.parameters.length) = some n) ∧ (mF M' + 1 ≤ mF M ∧ 8 + (mL M' + 11) + mO M' ≤ mO M)
theorem VW.callH (cf : CfH M M' idx av.length) (hd : decode (mC M) pc = .ok (.invokestatic idx, 3)) (hst : st = av.reverse ++ rest) (hrest : (rest.map fun v => v.category).sum ≤ 8)
    (hc : ∃ r1 : RT, Run G l false M' av w r1 ∧ ∃ v, r1.1 = .inl v ∧ VW G l z M (pc + 3) lv (v.toList ++ rest) r1.2.1 (k + r1.2.2.1) (n + r1.2.2.2) Φ) : VW G l z M pc lv st w k n Φ := by
  obtain ⟨r1, hM, v, hv, hk⟩ := hc
  refine VW.ofRun hv hk (av2 := av.toArray) fun r p e R s m args below meth c H locs ls C hR hl hw hS hup => ?_
  obtain ⟨c1, c2, c3, c4, c5, c6, c7⟩ := cf
  refine vx_runSX (hh := mH M') (As := av) (Ts := lw_G) (n := av.length) ⟨C.1.1, C.1.2.1, C.1.2.2.1, C.1.2.2.2.2, C.2.1⟩ hM
    (vx_cwSW av.length C.2.1 (fun w hw => ?_) (ws' := lw_G) (by unfold mW; rw [c2]) rfl rfl c6 ⟨Nat.le_trans c7.1 C.2.2.1.2.1, Nat.le_trans c7.2 C.2.2.1.2.2.1⟩)
    ⟨Pre0.blind, fun U hU hW => ⟨rfl, C.2.2.2.2.2.1.move hS hW hU, by rw [hU]; exact hw, fun h => by cases h⟩⟩ rfl rfl hl.1 hst (lv_room hrest) hd hR
  rcases List.mem_append.mp hw with h | h
  · have h9 : w ∈ lw_G := by
      rcases List.mem_cons.mp h with e | h
      · rw [e]; exact c4
      · rcases List.mem_cons.mp h with e | h
        · rw [e]; exact c5
        · rw [List.mem_singleton.mp h]; exact c3
    exact ⟨h9, inG_g h9⟩
  · exact mW_good c1 w h
end VX
end
