section
-- ===== PART A: goes FIRST, ahead of the names: the tables' words, and 'selects' of the private methods out of them =====
/-- a private method of a class that the tables say can be made, by its rows of tables_1 -/
def lw_okq (q : MethodName × Nat) : Prop := (q.1.cls ≠ "java/lang/invoke/MethodHandle" ∧ q.1.cls ≠ "java/lang/invoke/VarHandle") ∧ Cond.instantiable q.1.cls q.2 ∈ tables_1 ∧ Cond.privateMethod q.1 ∈ tables_1 ∧ Cond.instanceMethod q.1 ∈ tables_1
theorem lw_p0 : lw_okq (⟨"RegionPool$Regions", "emptyRow", "(I)V"⟩, 5) := ⟨⟨by decide +kernel, by decide +kernel⟩, List.mem_of_getElem? (i := 70) (by decide +kernel), List.mem_of_getElem? (i := 253) (by decide +kernel), List.mem_of_getElem? (i := 254) (by decide +kernel)⟩
theorem lw_p1 : lw_okq (⟨"RegionPool$Regions", "freePagesBehind", "(III)V"⟩, 5) := ⟨⟨by decide +kernel, by decide +kernel⟩, List.mem_of_getElem? (i := 70) (by decide +kernel), List.mem_of_getElem? (i := 323) (by decide +kernel), List.mem_of_getElem? (i := 324) (by decide +kernel)⟩
theorem lw_p2 : lw_okq (⟨"RegionPool", "checkRegion", "(I)V"⟩, 6) := ⟨⟨by decide +kernel, by decide +kernel⟩, List.mem_of_getElem? (i := 20) (by decide +kernel), List.mem_of_getElem? (i := 411) (by decide +kernel), List.mem_of_getElem? (i := 412) (by decide +kernel)⟩
theorem lw_p3 : lw_okq (⟨"java/lang/Throwable", "fillInStackTrace", "(I)Ljava/lang/Throwable;"⟩, 6) := ⟨⟨by decide +kernel, by decide +kernel⟩, List.mem_of_getElem? (i := 453) (by decide +kernel), List.mem_of_getElem? (i := 451) (by decide +kernel), List.mem_of_getElem? (i := 452) (by decide +kernel)⟩
theorem lw_p4 : lw_okq (⟨"RegionPool$Marker", "reach", "(I)V"⟩, 4) := ⟨⟨by decide +kernel, by decide +kernel⟩, List.mem_of_getElem? (i := 149) (by decide +kernel), List.mem_of_getElem? (i := 499) (by decide +kernel), List.mem_of_getElem? (i := 500) (by decide +kernel)⟩
theorem lw_p5 : lw_okq (⟨"RegionPool$Marker", "followPending", "()V"⟩, 4) := ⟨⟨by decide +kernel, by decide +kernel⟩, List.mem_of_getElem? (i := 149) (by decide +kernel), List.mem_of_getElem? (i := 516) (by decide +kernel), List.mem_of_getElem? (i := 517) (by decide +kernel)⟩
theorem lw_p6 : lw_okq (⟨"RegionPool$Marker", "reachFields", "(II)V"⟩, 4) := ⟨⟨by decide +kernel, by decide +kernel⟩, List.mem_of_getElem? (i := 149) (by decide +kernel), List.mem_of_getElem? (i := 524) (by decide +kernel), List.mem_of_getElem? (i := 525) (by decide +kernel)⟩
theorem lw_p7 : lw_okq (⟨"RegionPool$Marker", "reachByKeys", "()Z"⟩, 4) := ⟨⟨by decide +kernel, by decide +kernel⟩, List.mem_of_getElem? (i := 149) (by decide +kernel), List.mem_of_getElem? (i := 529) (by decide +kernel), List.mem_of_getElem? (i := 530) (by decide +kernel)⟩
theorem lw_p8 : lw_okq (⟨"RegionPool$Collector", "clearWeakFields", "()V"⟩, 5) := ⟨⟨by decide +kernel, by decide +kernel⟩, List.mem_of_getElem? (i := 143) (by decide +kernel), List.mem_of_getElem? (i := 537) (by decide +kernel), List.mem_of_getElem? (i := 538) (by decide +kernel)⟩
theorem lw_p9 : lw_okq (⟨"RegionPool$Collector", "isLiveOf", "(II)Z"⟩, 5) := ⟨⟨by decide +kernel, by decide +kernel⟩, List.mem_of_getElem? (i := 143) (by decide +kernel), List.mem_of_getElem? (i := 541) (by decide +kernel), List.mem_of_getElem? (i := 542) (by decide +kernel)⟩
theorem lw_p10 : lw_okq (⟨"RegionPool$Collector", "clearDeadFields", "(I)V"⟩, 5) := ⟨⟨by decide +kernel, by decide +kernel⟩, List.mem_of_getElem? (i := 143) (by decide +kernel), List.mem_of_getElem? (i := 550) (by decide +kernel), List.mem_of_getElem? (i := 551) (by decide +kernel)⟩
theorem lw_p11 : lw_okq (⟨"RegionPool$Collector", "clearKeyedFields", "()V"⟩, 5) := ⟨⟨by decide +kernel, by decide +kernel⟩, List.mem_of_getElem? (i := 143) (by decide +kernel), List.mem_of_getElem? (i := 566) (by decide +kernel), List.mem_of_getElem? (i := 567) (by decide +kernel)⟩
theorem lw_p12 : lw_okq (⟨"RegionPool$Collector", "slideRegion", "(I)V"⟩, 5) := ⟨⟨by decide +kernel, by decide +kernel⟩, List.mem_of_getElem? (i := 143) (by decide +kernel), List.mem_of_getElem? (i := 580) (by decide +kernel), List.mem_of_getElem? (i := 581) (by decide +kernel)⟩
theorem lw_p13 : lw_okq (⟨"RegionPool$Collector", "slideOrErase", "(II)V"⟩, 5) := ⟨⟨by decide +kernel, by decide +kernel⟩, List.mem_of_getElem? (i := 143) (by decide +kernel), List.mem_of_getElem? (i := 590) (by decide +kernel), List.mem_of_getElem? (i := 591) (by decide +kernel)⟩
theorem lw_p14 : lw_okq (⟨"RegionPool$Regions", "nextPlaces", "(II)I"⟩, 5) := ⟨⟨by decide +kernel, by decide +kernel⟩, List.mem_of_getElem? (i := 70) (by decide +kernel), List.mem_of_getElem? (i := 600) (by decide +kernel), List.mem_of_getElem? (i := 601) (by decide +kernel)⟩
theorem lw_p15 : lw_okq (⟨"RegionPool", "checkRoot", "(I)V"⟩, 6) := ⟨⟨by decide +kernel, by decide +kernel⟩, List.mem_of_getElem? (i := 20) (by decide +kernel), List.mem_of_getElem? (i := 637) (by decide +kernel), List.mem_of_getElem? (i := 638) (by decide +kernel)⟩
def lw_privs_1 : List (MethodName × Nat) := [(⟨"RegionPool$Regions", "emptyRow", "(I)V"⟩, 5), (⟨"RegionPool$Regions", "freePagesBehind", "(III)V"⟩, 5), (⟨"RegionPool", "checkRegion", "(I)V"⟩, 6), (⟨"java/lang/Throwable", "fillInStackTrace", "(I)Ljava/lang/Throwable;"⟩, 6), (⟨"RegionPool$Marker", "reach", "(I)V"⟩, 4), (⟨"RegionPool$Marker", "followPending", "()V"⟩, 4), (⟨"RegionPool$Marker", "reachFields", "(II)V"⟩, 4), (⟨"RegionPool$Marker", "reachByKeys", "()Z"⟩, 4), (⟨"RegionPool$Collector", "clearWeakFields", "()V"⟩, 5), (⟨"RegionPool$Collector", "isLiveOf", "(II)Z"⟩, 5), (⟨"RegionPool$Collector", "clearDeadFields", "(I)V"⟩, 5), (⟨"RegionPool$Collector", "clearKeyedFields", "()V"⟩, 5), (⟨"RegionPool$Collector", "slideRegion", "(I)V"⟩, 5), (⟨"RegionPool$Collector", "slideOrErase", "(II)V"⟩, 5), (⟨"RegionPool$Regions", "nextPlaces", "(II)I"⟩, 5), (⟨"RegionPool", "checkRoot", "(I)V"⟩, 6)]
theorem lw_r1 : ∀ q ∈ lw_privs_1, lw_okq q := List.forall_mem_cons.mpr ⟨lw_p0, List.forall_mem_cons.mpr ⟨lw_p1, List.forall_mem_cons.mpr ⟨lw_p2, List.forall_mem_cons.mpr ⟨lw_p3, List.forall_mem_cons.mpr ⟨lw_p4, List.forall_mem_cons.mpr ⟨lw_p5, List.forall_mem_cons.mpr ⟨lw_p6, List.forall_mem_cons.mpr ⟨lw_p7, List.forall_mem_cons.mpr ⟨lw_p8, List.forall_mem_cons.mpr ⟨lw_p9, List.forall_mem_cons.mpr ⟨lw_p10, List.forall_mem_cons.mpr ⟨lw_p11, List.forall_mem_cons.mpr ⟨lw_p12, List.forall_mem_cons.mpr ⟨lw_p13, List.forall_mem_cons.mpr ⟨lw_p14, List.forall_mem_cons.mpr ⟨lw_p15, fun _ h => absurd h List.not_mem_nil⟩⟩⟩⟩⟩⟩⟩⟩⟩⟩⟩⟩⟩⟩⟩⟩
theorem lw_p16 : lw_okq (⟨"RegionPool", "checkShape", "(III)V"⟩, 6) := ⟨⟨by decide +kernel, by decide +kernel⟩, List.mem_of_getElem? (i := 20) (by decide +kernel), List.mem_of_getElem? (i := 687) (by decide +kernel), List.mem_of_getElem? (i := 688) (by decide +kernel)⟩
theorem lw_p17 : lw_okq (⟨"RegionPool", "placesAfterCollecting", "(II)I"⟩, 6) := ⟨⟨by decide +kernel, by decide +kernel⟩, List.mem_of_getElem? (i := 20) (by decide +kernel), List.mem_of_getElem? (i := 694) (by decide +kernel), List.mem_of_getElem? (i := 695) (by decide +kernel)⟩
theorem lw_p18 : lw_okq (⟨"RegionPool$Regions", "addPage", "(I)Z"⟩, 5) := ⟨⟨by decide +kernel, by decide +kernel⟩, List.mem_of_getElem? (i := 70) (by decide +kernel), List.mem_of_getElem? (i := 702) (by decide +kernel), List.mem_of_getElem? (i := 703) (by decide +kernel)⟩
theorem lw_p19 : lw_okq (⟨"RegionPool$Regions", "leastFreePage", "()I"⟩, 5) := ⟨⟨by decide +kernel, by decide +kernel⟩, List.mem_of_getElem? (i := 70) (by decide +kernel), List.mem_of_getElem? (i := 706) (by decide +kernel), List.mem_of_getElem? (i := 707) (by decide +kernel)⟩
theorem lw_p20 : lw_okq (⟨"RegionPool", "checkReference", "(I)V"⟩, 6) := ⟨⟨by decide +kernel, by decide +kernel⟩, List.mem_of_getElem? (i := 20) (by decide +kernel), List.mem_of_getElem? (i := 727) (by decide +kernel), List.mem_of_getElem? (i := 728) (by decide +kernel)⟩
theorem lw_p21 : lw_okq (⟨"RegionPool$Parts", "addIfPart", "(LRegionPool$Values;II)V"⟩, 4) := ⟨⟨by decide +kernel, by decide +kernel⟩, List.mem_of_getElem? (i := 185) (by decide +kernel), List.mem_of_getElem? (i := 773) (by decide +kernel), List.mem_of_getElem? (i := 774) (by decide +kernel)⟩
theorem lw_p22 : lw_okq (⟨"RegionPool$Parts", "addFieldsOf", "(II)V"⟩, 4) := ⟨⟨by decide +kernel, by decide +kernel⟩, List.mem_of_getElem? (i := 185) (by decide +kernel), List.mem_of_getElem? (i := 779) (by decide +kernel), List.mem_of_getElem? (i := 780) (by decide +kernel)⟩
theorem lw_p23 : lw_okq (⟨"RegionPool$Parts", "placeAll", "(I)V"⟩, 4) := ⟨⟨by decide +kernel, by decide +kernel⟩, List.mem_of_getElem? (i := 185) (by decide +kernel), List.mem_of_getElem? (i := 798) (by decide +kernel), List.mem_of_getElem? (i := 799) (by decide +kernel)⟩
theorem lw_p24 : lw_okq (⟨"RegionPool$Parts", "followFieldsOf", "(I)V"⟩, 4) := ⟨⟨by decide +kernel, by decide +kernel⟩, List.mem_of_getElem? (i := 185) (by decide +kernel), List.mem_of_getElem? (i := 831) (by decide +kernel), List.mem_of_getElem? (i := 832) (by decide +kernel)⟩
theorem lw_p25 : lw_okq (⟨"RegionPool$Likeness", "mayBeAlike", "(LRegionPool$Values;II)Z"⟩, 5) := ⟨⟨by decide +kernel, by decide +kernel⟩, List.mem_of_getElem? (i := 204) (by decide +kernel), List.mem_of_getElem? (i := 876) (by decide +kernel), List.mem_of_getElem? (i := 877) (by decide +kernel)⟩
theorem lw_p26 : lw_okq (⟨"RegionPool$Likeness", "takeForAlike", "(II)Z"⟩, 5) := ⟨⟨by decide +kernel, by decide +kernel⟩, List.mem_of_getElem? (i := 204) (by decide +kernel), List.mem_of_getElem? (i := 883) (by decide +kernel), List.mem_of_getElem? (i := 884) (by decide +kernel)⟩
theorem lw_p27 : lw_okq (⟨"RegionPool$Likeness", "lastLeader", "(I)I"⟩, 5) := ⟨⟨by decide +kernel, by decide +kernel⟩, List.mem_of_getElem? (i := 204) (by decide +kernel), List.mem_of_getElem? (i := 887) (by decide +kernel), List.mem_of_getElem? (i := 888) (by decide +kernel)⟩
theorem lw_p28 : lw_okq (⟨"RegionPool$Likeness", "fieldsMayBeAlike", "(II)Z"⟩, 5) := ⟨⟨by decide +kernel, by decide +kernel⟩, List.mem_of_getElem? (i := 204) (by decide +kernel), List.mem_of_getElem? (i := 895) (by decide +kernel), List.mem_of_getElem? (i := 896) (by decide +kernel)⟩
theorem lw_p29 : lw_okq (⟨"RegionPool", "ofObject", "(II)I"⟩, 6) := ⟨⟨by decide +kernel, by decide +kernel⟩, List.mem_of_getElem? (i := 20) (by decide +kernel), List.mem_of_getElem? (i := 908) (by decide +kernel), List.mem_of_getElem? (i := 909) (by decide +kernel)⟩
theorem lw_p30 : lw_okq (⟨"RegionPool", "ofField", "(II)I"⟩, 6) := ⟨⟨by decide +kernel, by decide +kernel⟩, List.mem_of_getElem? (i := 20) (by decide +kernel), List.mem_of_getElem? (i := 921) (by decide +kernel), List.mem_of_getElem? (i := 922) (by decide +kernel)⟩
theorem lw_p31 : lw_okq (⟨"RegionPoolModel", "remove", "(I)V"⟩, 32) := ⟨⟨by decide +kernel, by decide +kernel⟩, List.mem_of_getElem? (i := 925) (by decide +kernel), List.mem_of_getElem? (i := 1042) (by decide +kernel), List.mem_of_getElem? (i := 1043) (by decide +kernel)⟩
def lw_privs_2 : List (MethodName × Nat) := [(⟨"RegionPool", "checkShape", "(III)V"⟩, 6), (⟨"RegionPool", "placesAfterCollecting", "(II)I"⟩, 6), (⟨"RegionPool$Regions", "addPage", "(I)Z"⟩, 5), (⟨"RegionPool$Regions", "leastFreePage", "()I"⟩, 5), (⟨"RegionPool", "checkReference", "(I)V"⟩, 6), (⟨"RegionPool$Parts", "addIfPart", "(LRegionPool$Values;II)V"⟩, 4), (⟨"RegionPool$Parts", "addFieldsOf", "(II)V"⟩, 4), (⟨"RegionPool$Parts", "placeAll", "(I)V"⟩, 4), (⟨"RegionPool$Parts", "followFieldsOf", "(I)V"⟩, 4), (⟨"RegionPool$Likeness", "mayBeAlike", "(LRegionPool$Values;II)Z"⟩, 5), (⟨"RegionPool$Likeness", "takeForAlike", "(II)Z"⟩, 5), (⟨"RegionPool$Likeness", "lastLeader", "(I)I"⟩, 5), (⟨"RegionPool$Likeness", "fieldsMayBeAlike", "(II)Z"⟩, 5), (⟨"RegionPool", "ofObject", "(II)I"⟩, 6), (⟨"RegionPool", "ofField", "(II)I"⟩, 6), (⟨"RegionPoolModel", "remove", "(I)V"⟩, 32)]
theorem lw_r2 : ∀ q ∈ lw_privs_2, lw_okq q := List.forall_mem_cons.mpr ⟨lw_p16, List.forall_mem_cons.mpr ⟨lw_p17, List.forall_mem_cons.mpr ⟨lw_p18, List.forall_mem_cons.mpr ⟨lw_p19, List.forall_mem_cons.mpr ⟨lw_p20, List.forall_mem_cons.mpr ⟨lw_p21, List.forall_mem_cons.mpr ⟨lw_p22, List.forall_mem_cons.mpr ⟨lw_p23, List.forall_mem_cons.mpr ⟨lw_p24, List.forall_mem_cons.mpr ⟨lw_p25, List.forall_mem_cons.mpr ⟨lw_p26, List.forall_mem_cons.mpr ⟨lw_p27, List.forall_mem_cons.mpr ⟨lw_p28, List.forall_mem_cons.mpr ⟨lw_p29, List.forall_mem_cons.mpr ⟨lw_p30, List.forall_mem_cons.mpr ⟨lw_p31, fun _ h => absurd h List.not_mem_nil⟩⟩⟩⟩⟩⟩⟩⟩⟩⟩⟩⟩⟩⟩⟩⟩
theorem lw_p32 : lw_okq (⟨"RegionPoolModel", "isRegion", "(I)Z"⟩, 32) := ⟨⟨by decide +kernel, by decide +kernel⟩, List.mem_of_getElem? (i := 925) (by decide +kernel), List.mem_of_getElem? (i := 1050) (by decide +kernel), List.mem_of_getElem? (i := 1051) (by decide +kernel)⟩
theorem lw_p33 : lw_okq (⟨"RegionPoolModel", "goes", "(ZZ)Z"⟩, 32) := ⟨⟨by decide +kernel, by decide +kernel⟩, List.mem_of_getElem? (i := 925) (by decide +kernel), List.mem_of_getElem? (i := 1054) (by decide +kernel), List.mem_of_getElem? (i := 1055) (by decide +kernel)⟩
theorem lw_p34 : lw_okq (⟨"RegionPoolModel", "collectFrom", "(I)I"⟩, 32) := ⟨⟨by decide +kernel, by decide +kernel⟩, List.mem_of_getElem? (i := 925) (by decide +kernel), List.mem_of_getElem? (i := 1058) (by decide +kernel), List.mem_of_getElem? (i := 1059) (by decide +kernel)⟩
theorem lw_p35 : lw_okq (⟨"RegionPoolModel", "findLive", "(I)V"⟩, 32) := ⟨⟨by decide +kernel, by decide +kernel⟩, List.mem_of_getElem? (i := 925) (by decide +kernel), List.mem_of_getElem? (i := 1062) (by decide +kernel), List.mem_of_getElem? (i := 1063) (by decide +kernel)⟩
theorem lw_p36 : lw_okq (⟨"RegionPoolModel", "holds", "(II)Z"⟩, 32) := ⟨⟨by decide +kernel, by decide +kernel⟩, List.mem_of_getElem? (i := 925) (by decide +kernel), List.mem_of_getElem? (i := 1066) (by decide +kernel), List.mem_of_getElem? (i := 1067) (by decide +kernel)⟩
theorem lw_p37 : lw_okq (⟨"RegionPoolModel", "isLive", "(II)Z"⟩, 32) := ⟨⟨by decide +kernel, by decide +kernel⟩, List.mem_of_getElem? (i := 925) (by decide +kernel), List.mem_of_getElem? (i := 1070) (by decide +kernel), List.mem_of_getElem? (i := 1071) (by decide +kernel)⟩
theorem lw_p38 : lw_okq (⟨"RegionPoolModel", "forget", "(I)V"⟩, 32) := ⟨⟨by decide +kernel, by decide +kernel⟩, List.mem_of_getElem? (i := 925) (by decide +kernel), List.mem_of_getElem? (i := 1074) (by decide +kernel), List.mem_of_getElem? (i := 1075) (by decide +kernel)⟩
theorem lw_p39 : lw_okq (⟨"RegionPoolModel", "isYoung", "(II)Z"⟩, 32) := ⟨⟨by decide +kernel, by decide +kernel⟩, List.mem_of_getElem? (i := 925) (by decide +kernel), List.mem_of_getElem? (i := 1078) (by decide +kernel), List.mem_of_getElem? (i := 1079) (by decide +kernel)⟩
theorem lw_p40 : lw_okq (⟨"RegionPoolModel", "empty", "(II)V"⟩, 32) := ⟨⟨by decide +kernel, by decide +kernel⟩, List.mem_of_getElem? (i := 925) (by decide +kernel), List.mem_of_getElem? (i := 1082) (by decide +kernel), List.mem_of_getElem? (i := 1083) (by decide +kernel)⟩
theorem lw_p41 : lw_okq (⟨"RegionPoolModel", "nextDue", "(I)I"⟩, 32) := ⟨⟨by decide +kernel, by decide +kernel⟩, List.mem_of_getElem? (i := 925) (by decide +kernel), List.mem_of_getElem? (i := 1086) (by decide +kernel), List.mem_of_getElem? (i := 1087) (by decide +kernel)⟩
theorem lw_p42 : lw_okq (⟨"RegionPoolModel", "slide", "(I)V"⟩, 32) := ⟨⟨by decide +kernel, by decide +kernel⟩, List.mem_of_getElem? (i := 925) (by decide +kernel), List.mem_of_getElem? (i := 1090) (by decide +kernel), List.mem_of_getElem? (i := 1091) (by decide +kernel)⟩
theorem lw_p43 : lw_okq (⟨"RegionPoolModel", "find", "(II)I"⟩, 32) := ⟨⟨by decide +kernel, by decide +kernel⟩, List.mem_of_getElem? (i := 925) (by decide +kernel), List.mem_of_getElem? (i := 1113) (by decide +kernel), List.mem_of_getElem? (i := 1114) (by decide +kernel)⟩
theorem lw_p44 : lw_okq (⟨"RegionPoolModel", "freePage", "()I"⟩, 32) := ⟨⟨by decide +kernel, by decide +kernel⟩, List.mem_of_getElem? (i := 925) (by decide +kernel), List.mem_of_getElem? (i := 1117) (by decide +kernel), List.mem_of_getElem? (i := 1118) (by decide +kernel)⟩
theorem lw_p45 : lw_okq (⟨"RegionPoolModel", "create", "(IIII)I"⟩, 32) := ⟨⟨by decide +kernel, by decide +kernel⟩, List.mem_of_getElem? (i := 925) (by decide +kernel), List.mem_of_getElem? (i := 1121) (by decide +kernel), List.mem_of_getElem? (i := 1122) (by decide +kernel)⟩
theorem lw_p46 : lw_okq (⟨"RegionPoolModel", "freeObject", "()I"⟩, 32) := ⟨⟨by decide +kernel, by decide +kernel⟩, List.mem_of_getElem? (i := 925) (by decide +kernel), List.mem_of_getElem? (i := 1125) (by decide +kernel), List.mem_of_getElem? (i := 1126) (by decide +kernel)⟩
theorem lw_p47 : lw_okq (⟨"RegionPoolModel", "take", "(II)I"⟩, 32) := ⟨⟨by decide +kernel, by decide +kernel⟩, List.mem_of_getElem? (i := 925) (by decide +kernel), List.mem_of_getElem? (i := 1129) (by decide +kernel), List.mem_of_getElem? (i := 1130) (by decide +kernel)⟩
def lw_privs_3 : List (MethodName × Nat) := [(⟨"RegionPoolModel", "isRegion", "(I)Z"⟩, 32), (⟨"RegionPoolModel", "goes", "(ZZ)Z"⟩, 32), (⟨"RegionPoolModel", "collectFrom", "(I)I"⟩, 32), (⟨"RegionPoolModel", "findLive", "(I)V"⟩, 32), (⟨"RegionPoolModel", "holds", "(II)Z"⟩, 32), (⟨"RegionPoolModel", "isLive", "(II)Z"⟩, 32), (⟨"RegionPoolModel", "forget", "(I)V"⟩, 32), (⟨"RegionPoolModel", "isYoung", "(II)Z"⟩, 32), (⟨"RegionPoolModel", "empty", "(II)V"⟩, 32), (⟨"RegionPoolModel", "nextDue", "(I)I"⟩, 32), (⟨"RegionPoolModel", "slide", "(I)V"⟩, 32), (⟨"RegionPoolModel", "find", "(II)I"⟩, 32), (⟨"RegionPoolModel", "freePage", "()I"⟩, 32), (⟨"RegionPoolModel", "create", "(IIII)I"⟩, 32), (⟨"RegionPoolModel", "freeObject", "()I"⟩, 32), (⟨"RegionPoolModel", "take", "(II)I"⟩, 32)]
theorem lw_r3 : ∀ q ∈ lw_privs_3, lw_okq q := List.forall_mem_cons.mpr ⟨lw_p32, List.forall_mem_cons.mpr ⟨lw_p33, List.forall_mem_cons.mpr ⟨lw_p34, List.forall_mem_cons.mpr ⟨lw_p35, List.forall_mem_cons.mpr ⟨lw_p36, List.forall_mem_cons.mpr ⟨lw_p37, List.forall_mem_cons.mpr ⟨lw_p38, List.forall_mem_cons.mpr ⟨lw_p39, List.forall_mem_cons.mpr ⟨lw_p40, List.forall_mem_cons.mpr ⟨lw_p41, List.forall_mem_cons.mpr ⟨lw_p42, List.forall_mem_cons.mpr ⟨lw_p43, List.forall_mem_cons.mpr ⟨lw_p44, List.forall_mem_cons.mpr ⟨lw_p45, List.forall_mem_cons.mpr ⟨lw_p46, List.forall_mem_cons.mpr ⟨lw_p47, fun _ h => absurd h List.not_mem_nil⟩⟩⟩⟩⟩⟩⟩⟩⟩⟩⟩⟩⟩⟩⟩⟩
theorem lw_p48 : lw_okq (⟨"RegionPoolModel", "refers", "(I)Z"⟩, 32) := ⟨⟨by decide +kernel, by decide +kernel⟩, List.mem_of_getElem? (i := 925) (by decide +kernel), List.mem_of_getElem? (i := 1137) (by decide +kernel), List.mem_of_getElem? (i := 1138) (by decide +kernel)⟩
theorem lw_p49 : lw_okq (⟨"RegionPoolModel", "findParts", "(II)V"⟩, 32) := ⟨⟨by decide +kernel, by decide +kernel⟩, List.mem_of_getElem? (i := 925) (by decide +kernel), List.mem_of_getElem? (i := 1149) (by decide +kernel), List.mem_of_getElem? (i := 1150) (by decide +kernel)⟩
theorem lw_p50 : lw_okq (⟨"RegionPoolModel", "addPart", "(III)V"⟩, 32) := ⟨⟨by decide +kernel, by decide +kernel⟩, List.mem_of_getElem? (i := 925) (by decide +kernel), List.mem_of_getElem? (i := 1153) (by decide +kernel), List.mem_of_getElem? (i := 1154) (by decide +kernel)⟩
theorem lw_p51 : lw_okq (⟨"RegionPoolModel", "haveRoom", "(I)Z"⟩, 32) := ⟨⟨by decide +kernel, by decide +kernel⟩, List.mem_of_getElem? (i := 925) (by decide +kernel), List.mem_of_getElem? (i := 1157) (by decide +kernel), List.mem_of_getElem? (i := 1158) (by decide +kernel)⟩
theorem lw_p52 : lw_okq (⟨"RegionPoolModel", "mayBe", "(IIII)Z"⟩, 32) := ⟨⟨by decide +kernel, by decide +kernel⟩, List.mem_of_getElem? (i := 925) (by decide +kernel), List.mem_of_getElem? (i := 1177) (by decide +kernel), List.mem_of_getElem? (i := 1178) (by decide +kernel)⟩
def lw_privs_4 : List (MethodName × Nat) := [(⟨"RegionPoolModel", "refers", "(I)Z"⟩, 32), (⟨"RegionPoolModel", "findParts", "(II)V"⟩, 32), (⟨"RegionPoolModel", "addPart", "(III)V"⟩, 32), (⟨"RegionPoolModel", "haveRoom", "(I)Z"⟩, 32), (⟨"RegionPoolModel", "mayBe", "(IIII)Z"⟩, 32)]
theorem lw_r4 : ∀ q ∈ lw_privs_4, lw_okq q := List.forall_mem_cons.mpr ⟨lw_p48, List.forall_mem_cons.mpr ⟨lw_p49, List.forall_mem_cons.mpr ⟨lw_p50, List.forall_mem_cons.mpr ⟨lw_p51, List.forall_mem_cons.mpr ⟨lw_p52, fun _ h => absurd h List.not_mem_nil⟩⟩⟩⟩⟩
def lw_privs : List (MethodName × Nat) := lw_privs_1 ++ (lw_privs_2 ++ (lw_privs_3 ++ (lw_privs_4)))
def lw_tbl : List Cond := k2_sels lw_privs ++ tables_1
theorem lw_privs_ok : ∀ q ∈ lw_privs, lw_okq q := by
  show ∀ q ∈ lw_privs_1 ++ (lw_privs_2 ++ (lw_privs_3 ++ (lw_privs_4))), lw_okq q
  exact List.forall_mem_append.mpr ⟨lw_r1, List.forall_mem_append.mpr ⟨lw_r2, List.forall_mem_append.mpr ⟨lw_r3, lw_r4⟩⟩⟩
end
section
/-- the words that stay good over calls -/
def xG : List Cond := lw_tbl.filter goodWord
theorem xG_mem {w : Cond} (i : Nat) (h : lw_tbl[i]? = some w) (hg : goodWord w = true) : w ∈ xG := List.mem_filter.mpr ⟨List.mem_of_getElem? h, hg⟩
theorem xG_tbl {w : Cond} (h : w ∈ xG) : w ∈ lw_tbl := (List.mem_filter.mp h).1
theorem xG_good {w : Cond} (h : w ∈ xG) : goodWord w = true := (List.mem_filter.mp h).2
def R_Rp : String := "RegionPool"
def T_Rp : u_T := fun k => match k with
  | 0 => ("RegionPool", "memory", "LRegionPool$Memory;", true)
  | 1 => ("RegionPool", "collector", "LRegionPool$Collector;", true)
  | 2 => ("RegionPool", "parts", "LRegionPool$Parts;", true)
  | 3 => ("RegionPool", "likeness", "LRegionPool$Likeness;", true)
  | 4 => ("RegionPool", "liftedParts", "I", false)
  | _ => ("RegionPool", "copiedParts", "I", false)
def t_Rp : Nat → FieldType := fun k => match k with
  | 0 => .object "RegionPool$Memory"
  | 1 => .object "RegionPool$Collector"
  | 2 => .object "RegionPool$Parts"
  | 3 => .object "RegionPool$Likeness"
  | 4 => .int
  | _ => .int
theorem nm_Rp : ∀ a, a < 6 → ∀ b, b < 6 → a ≠ b → (T_Rp a).2.1 ≠ (T_Rp b).2.1 := by decide +kernel
theorem tk_Rp : ∀ k, k < 6 → parseFieldDescriptor (T_Rp k).2.2.1 = some (t_Rp k) := by decide +kernel
theorem in_Rp : ∀ w ∈ u_ws R_Rp T_Rp 6, w ∈ xG := by
  show ∀ w ∈ [u_lay R_Rp T_Rp 0, u_lay R_Rp T_Rp 1, u_lay R_Rp T_Rp 2, u_lay R_Rp T_Rp 3, u_lay R_Rp T_Rp 4, u_lay R_Rp T_Rp 5], w ∈ xG
  exact List.forall_mem_cons.mpr ⟨xG_mem 284 (by decide +kernel) (by decide +kernel), List.forall_mem_cons.mpr ⟨xG_mem 286 (by decide +kernel) (by decide +kernel), List.forall_mem_cons.mpr ⟨xG_mem 288 (by decide +kernel) (by decide +kernel), List.forall_mem_cons.mpr ⟨xG_mem 290 (by decide +kernel) (by decide +kernel), List.forall_mem_cons.mpr ⟨xG_mem 292 (by decide +kernel) (by decide +kernel), List.forall_mem_cons.mpr ⟨xG_mem 294 (by decide +kernel) (by decide +kernel), fun _ h => absurd h List.not_mem_nil⟩⟩⟩⟩⟩⟩
def R_Mem : String := "RegionPool$Memory"
def T_Mem : u_T := fun k => match k with
  | 0 => ("RegionPool$Memory", "roots", "LRegionPool$Values;", true)
  | 1 => ("RegionPool$Memory", "heap", "LRegionPool$Heap;", true)
  | 2 => ("RegionPool$Memory", "regions", "LRegionPool$Regions;", true)
  | 3 => ("RegionPool$Memory", "queue", "LRegionPool$Line;", true)
  | 4 => ("RegionPool$Memory", "watched", "LRegionPool$Line;", true)
  | _ => ("RegionPool$Memory", "newPlaces", "[I", true)
def t_Mem : Nat → FieldType := fun k => match k with
  | 0 => .object "RegionPool$Values"
  | 1 => .object "RegionPool$Heap"
  | 2 => .object "RegionPool$Regions"
  | 3 => .object "RegionPool$Line"
  | 4 => .object "RegionPool$Line"
  | _ => .array .int
theorem nm_Mem : ∀ a, a < 6 → ∀ b, b < 6 → a ≠ b → (T_Mem a).2.1 ≠ (T_Mem b).2.1 := by decide +kernel
theorem tk_Mem : ∀ k, k < 6 → parseFieldDescriptor (T_Mem k).2.2.1 = some (t_Mem k) := by decide +kernel
theorem in_Mem : ∀ w ∈ u_ws R_Mem T_Mem 6, w ∈ xG := by
  show ∀ w ∈ [u_lay R_Mem T_Mem 0, u_lay R_Mem T_Mem 1, u_lay R_Mem T_Mem 2, u_lay R_Mem T_Mem 3, u_lay R_Mem T_Mem 4, u_lay R_Mem T_Mem 5], w ∈ xG
  exact List.forall_mem_cons.mpr ⟨xG_mem 182 (by decide +kernel) (by decide +kernel), List.forall_mem_cons.mpr ⟨xG_mem 184 (by decide +kernel) (by decide +kernel), List.forall_mem_cons.mpr ⟨xG_mem 186 (by decide +kernel) (by decide +kernel), List.forall_mem_cons.mpr ⟨xG_mem 188 (by decide +kernel) (by decide +kernel), List.forall_mem_cons.mpr ⟨xG_mem 190 (by decide +kernel) (by decide +kernel), List.forall_mem_cons.mpr ⟨xG_mem 192 (by decide +kernel) (by decide +kernel), fun _ h => absurd h List.not_mem_nil⟩⟩⟩⟩⟩⟩
def R_Col : String := "RegionPool$Collector"
def T_Col : u_T := fun k => match k with
  | 0 => ("RegionPool$Collector", "memory", "LRegionPool$Memory;", true)
  | 1 => ("RegionPool$Collector", "marker", "LRegionPool$Marker;", true)
  | 2 => ("RegionPool$Collector", "collections", "I", false)
  | 3 => ("RegionPool$Collector", "gone", "I", false)
  | _ => ("RegionPool$Collector", "moved", "I", false)
def t_Col : Nat → FieldType := fun k => match k with
  | 0 => .object "RegionPool$Memory"
  | 1 => .object "RegionPool$Marker"
  | 2 => .int
  | 3 => .int
  | _ => .int
theorem nm_Col : ∀ a, a < 5 → ∀ b, b < 5 → a ≠ b → (T_Col a).2.1 ≠ (T_Col b).2.1 := by decide +kernel
theorem tk_Col : ∀ k, k < 5 → parseFieldDescriptor (T_Col k).2.2.1 = some (t_Col k) := by decide +kernel
theorem in_Col : ∀ w ∈ u_ws R_Col T_Col 5, w ∈ xG := by
  show ∀ w ∈ [u_lay R_Col T_Col 0, u_lay R_Col T_Col 1, u_lay R_Col T_Col 2, u_lay R_Col T_Col 3, u_lay R_Col T_Col 4], w ∈ xG
  exact List.forall_mem_cons.mpr ⟨xG_mem 226 (by decide +kernel) (by decide +kernel), List.forall_mem_cons.mpr ⟨xG_mem 228 (by decide +kernel) (by decide +kernel), List.forall_mem_cons.mpr ⟨xG_mem 230 (by decide +kernel) (by decide +kernel), List.forall_mem_cons.mpr ⟨xG_mem 232 (by decide +kernel) (by decide +kernel), List.forall_mem_cons.mpr ⟨xG_mem 234 (by decide +kernel) (by decide +kernel), fun _ h => absurd h List.not_mem_nil⟩⟩⟩⟩⟩
def R_Par : String := "RegionPool$Parts"
def T_Par : u_T := fun k => match k with
  | 0 => ("RegionPool$Parts", "memory", "LRegionPool$Memory;", true)
  | 1 => ("RegionPool$Parts", "items", "[I", true)
  | 2 => ("RegionPool$Parts", "isPart", "[Z", true)
  | _ => ("RegionPool$Parts", "length", "I", false)
def t_Par : Nat → FieldType := fun k => match k with
  | 0 => .object "RegionPool$Memory"
  | 1 => .array .int
  | 2 => .array .boolean
  | _ => .int
theorem nm_Par : ∀ a, a < 4 → ∀ b, b < 4 → a ≠ b → (T_Par a).2.1 ≠ (T_Par b).2.1 := by decide +kernel
theorem tk_Par : ∀ k, k < 4 → parseFieldDescriptor (T_Par k).2.2.1 = some (t_Par k) := by decide +kernel
theorem in_Par : ∀ w ∈ u_ws R_Par T_Par 4, w ∈ xG := by
  show ∀ w ∈ [u_lay R_Par T_Par 0, u_lay R_Par T_Par 1, u_lay R_Par T_Par 2, u_lay R_Par T_Par 3], w ∈ xG
  exact List.forall_mem_cons.mpr ⟨xG_mem 247 (by decide +kernel) (by decide +kernel), List.forall_mem_cons.mpr ⟨xG_mem 249 (by decide +kernel) (by decide +kernel), List.forall_mem_cons.mpr ⟨xG_mem 251 (by decide +kernel) (by decide +kernel), List.forall_mem_cons.mpr ⟨xG_mem 253 (by decide +kernel) (by decide +kernel), fun _ h => absurd h List.not_mem_nil⟩⟩⟩⟩
def R_Lik : String := "RegionPool$Likeness"
def T_Lik : u_T := fun k => match k with
  | 0 => ("RegionPool$Likeness", "heap", "LRegionPool$Heap;", true)
  | 1 => ("RegionPool$Likeness", "leaders", "[I", true)
  | 2 => ("RegionPool$Likeness", "lefts", "[I", true)
  | 3 => ("RegionPool$Likeness", "rights", "[I", true)
  | _ => ("RegionPool$Likeness", "pairs", "I", false)
def t_Lik : Nat → FieldType := fun k => match k with
  | 0 => .object "RegionPool$Heap"
  | 1 => .array .int
  | 2 => .array .int
  | 3 => .array .int
  | _ => .int
theorem nm_Lik : ∀ a, a < 5 → ∀ b, b < 5 → a ≠ b → (T_Lik a).2.1 ≠ (T_Lik b).2.1 := by decide +kernel
theorem tk_Lik : ∀ k, k < 5 → parseFieldDescriptor (T_Lik k).2.2.1 = some (t_Lik k) := by decide +kernel
theorem in_Lik : ∀ w ∈ u_ws R_Lik T_Lik 5, w ∈ xG := by
  show ∀ w ∈ [u_lay R_Lik T_Lik 0, u_lay R_Lik T_Lik 1, u_lay R_Lik T_Lik 2, u_lay R_Lik T_Lik 3, u_lay R_Lik T_Lik 4], w ∈ xG
  exact List.forall_mem_cons.mpr ⟨xG_mem 267 (by decide +kernel) (by decide +kernel), List.forall_mem_cons.mpr ⟨xG_mem 269 (by decide +kernel) (by decide +kernel), List.forall_mem_cons.mpr ⟨xG_mem 271 (by decide +kernel) (by decide +kernel), List.forall_mem_cons.mpr ⟨xG_mem 273 (by decide +kernel) (by decide +kernel), List.forall_mem_cons.mpr ⟨xG_mem 275 (by decide +kernel) (by decide +kernel), fun _ h => absurd h List.not_mem_nil⟩⟩⟩⟩⟩
def R_Val : String := "RegionPool$Values"
def T_Val : u_T := fun k => match k with
  | 0 => ("RegionPool$Values", "sorts", "[I", true)
  | _ => ("RegionPool$Values", "contents", "[I", true)
def t_Val : Nat → FieldType := fun k => match k with
  | 0 => .array .int
  | _ => .array .int
theorem nm_Val : ∀ a, a < 2 → ∀ b, b < 2 → a ≠ b → (T_Val a).2.1 ≠ (T_Val b).2.1 := by decide +kernel
theorem tk_Val : ∀ k, k < 2 → parseFieldDescriptor (T_Val k).2.2.1 = some (t_Val k) := by decide +kernel
theorem in_Val : ∀ w ∈ u_ws R_Val T_Val 2, w ∈ xG := by
  show ∀ w ∈ [u_lay R_Val T_Val 0, u_lay R_Val T_Val 1], w ∈ xG
  exact List.forall_mem_cons.mpr ⟨xG_mem 95 (by decide +kernel) (by decide +kernel), List.forall_mem_cons.mpr ⟨xG_mem 97 (by decide +kernel) (by decide +kernel), fun _ h => absurd h List.not_mem_nil⟩⟩
def R_Hea : String := "RegionPool$Heap"
def T_Hea : u_T := fun k => match k with
  | _ => ("RegionPool$Heap", "cells", "LRegionPool$Values;", true)
def t_Hea : Nat → FieldType := fun k => match k with
  | _ => .object "RegionPool$Values"
theorem nm_Hea : ∀ a, a < 1 → ∀ b, b < 1 → a ≠ b → (T_Hea a).2.1 ≠ (T_Hea b).2.1 := by decide +kernel
theorem tk_Hea : ∀ k, k < 1 → parseFieldDescriptor (T_Hea k).2.2.1 = some (t_Hea k) := by decide +kernel
theorem in_Hea : ∀ w ∈ u_ws R_Hea T_Hea 1, w ∈ xG := by
  show ∀ w ∈ [u_lay R_Hea T_Hea 0], w ∈ xG
  exact List.forall_mem_cons.mpr ⟨xG_mem 119 (by decide +kernel) (by decide +kernel), fun _ h => absurd h List.not_mem_nil⟩
def R_Reg : String := "RegionPool$Regions"
def T_Reg : u_T := fun k => match k with
  | 0 => ("RegionPool$Regions", "owners", "[I", true)
  | 1 => ("RegionPool$Regions", "rows", "[[I", true)
  | 2 => ("RegionPool$Regions", "lengths", "[I", true)
  | 3 => ("RegionPool$Regions", "fills", "[I", true)
  | _ => ("RegionPool$Regions", "regions", "I", false)
def t_Reg : Nat → FieldType := fun k => match k with
  | 0 => .array .int
  | 1 => .array (.array .int)
  | 2 => .array .int
  | 3 => .array .int
  | _ => .int
theorem nm_Reg : ∀ a, a < 5 → ∀ b, b < 5 → a ≠ b → (T_Reg a).2.1 ≠ (T_Reg b).2.1 := by decide +kernel
theorem tk_Reg : ∀ k, k < 5 → parseFieldDescriptor (T_Reg k).2.2.1 = some (t_Reg k) := by decide +kernel
theorem in_Reg : ∀ w ∈ u_ws R_Reg T_Reg 5, w ∈ xG := by
  show ∀ w ∈ [u_lay R_Reg T_Reg 0, u_lay R_Reg T_Reg 1, u_lay R_Reg T_Reg 2, u_lay R_Reg T_Reg 3, u_lay R_Reg T_Reg 4], w ∈ xG
  exact List.forall_mem_cons.mpr ⟨xG_mem 136 (by decide +kernel) (by decide +kernel), List.forall_mem_cons.mpr ⟨xG_mem 138 (by decide +kernel) (by decide +kernel), List.forall_mem_cons.mpr ⟨xG_mem 140 (by decide +kernel) (by decide +kernel), List.forall_mem_cons.mpr ⟨xG_mem 142 (by decide +kernel) (by decide +kernel), List.forall_mem_cons.mpr ⟨xG_mem 144 (by decide +kernel) (by decide +kernel), fun _ h => absurd h List.not_mem_nil⟩⟩⟩⟩⟩
def R_Lin : String := "RegionPool$Line"
def T_Lin : u_T := fun k => match k with
  | 0 => ("RegionPool$Line", "items", "[I", true)
  | _ => ("RegionPool$Line", "length", "I", false)
def t_Lin : Nat → FieldType := fun k => match k with
  | 0 => .array .int
  | _ => .int
theorem nm_Lin : ∀ a, a < 2 → ∀ b, b < 2 → a ≠ b → (T_Lin a).2.1 ≠ (T_Lin b).2.1 := by decide +kernel
theorem tk_Lin : ∀ k, k < 2 → parseFieldDescriptor (T_Lin k).2.2.1 = some (t_Lin k) := by decide +kernel
theorem in_Lin : ∀ w ∈ u_ws R_Lin T_Lin 2, w ∈ xG := by
  show ∀ w ∈ [u_lay R_Lin T_Lin 0, u_lay R_Lin T_Lin 1], w ∈ xG
  exact List.forall_mem_cons.mpr ⟨xG_mem 155 (by decide +kernel) (by decide +kernel), List.forall_mem_cons.mpr ⟨xG_mem 157 (by decide +kernel) (by decide +kernel), fun _ h => absurd h List.not_mem_nil⟩⟩
def R_Mar : String := "RegionPool$Marker"
def T_Mar : u_T := fun k => match k with
  | 0 => ("RegionPool$Marker", "memory", "LRegionPool$Memory;", true)
  | 1 => ("RegionPool$Marker", "live", "[Z", true)
  | 2 => ("RegionPool$Marker", "pending", "[I", true)
  | _ => ("RegionPool$Marker", "pendings", "I", false)
def t_Mar : Nat → FieldType := fun k => match k with
  | 0 => .object "RegionPool$Memory"
  | 1 => .array .boolean
  | 2 => .array .int
  | _ => .int
theorem nm_Mar : ∀ a, a < 4 → ∀ b, b < 4 → a ≠ b → (T_Mar a).2.1 ≠ (T_Mar b).2.1 := by decide +kernel
theorem tk_Mar : ∀ k, k < 4 → parseFieldDescriptor (T_Mar k).2.2.1 = some (t_Mar k) := by decide +kernel
theorem in_Mar : ∀ w ∈ u_ws R_Mar T_Mar 4, w ∈ xG := by
  show ∀ w ∈ [u_lay R_Mar T_Mar 0, u_lay R_Mar T_Mar 1, u_lay R_Mar T_Mar 2, u_lay R_Mar T_Mar 3], w ∈ xG
  exact List.forall_mem_cons.mpr ⟨xG_mem 211 (by decide +kernel) (by decide +kernel), List.forall_mem_cons.mpr ⟨xG_mem 213 (by decide +kernel) (by decide +kernel), List.forall_mem_cons.mpr ⟨xG_mem 215 (by decide +kernel) (by decide +kernel), List.forall_mem_cons.mpr ⟨xG_mem 217 (by decide +kernel) (by decide +kernel), fun _ h => absurd h List.not_mem_nil⟩⟩⟩⟩
def R_Mod : String := "RegionPoolModel"
def T_Mod : u_T := fun k => match k with
  | 0 => ("RegionPoolModel", "thrown", "I", false)
  | 1 => ("RegionPoolModel", "kind", "[I", true)
  | 2 => ("RegionPoolModel", "tag", "[I", true)
  | 3 => ("RegionPoolModel", "many", "[I", true)
  | 4 => ("RegionPoolModel", "in", "[I", true)
  | 5 => ("RegionPoolModel", "place", "[I", true)
  | 6 => ("RegionPoolModel", "watched", "[I", true)
  | 7 => ("RegionPoolModel", "sort", "[I", true)
  | 8 => ("RegionPoolModel", "value", "[I", true)
  | 9 => ("RegionPoolModel", "live", "[Z", true)
  | 10 => ("RegionPoolModel", "watches", "I", false)
  | 11 => ("RegionPoolModel", "object", "[I", true)
  | 12 => ("RegionPoolModel", "taken", "[Z", true)
  | 13 => ("RegionPoolModel", "regions", "I", false)
  | 14 => ("RegionPoolModel", "pages", "[I", true)
  | 15 => ("RegionPoolModel", "row", "[I", true)
  | 16 => ("RegionPoolModel", "filled", "[I", true)
  | 17 => ("RegionPoolModel", "rootSort", "[I", true)
  | 18 => ("RegionPoolModel", "rootValue", "[I", true)
  | 19 => ("RegionPoolModel", "queued", "I", false)
  | 20 => ("RegionPoolModel", "queue", "[I", true)
  | 21 => ("RegionPoolModel", "collections", "I", false)
  | 22 => ("RegionPoolModel", "gone", "I", false)
  | 23 => ("RegionPoolModel", "moved", "I", false)
  | 24 => ("RegionPoolModel", "lifted", "I", false)
  | 25 => ("RegionPoolModel", "copied", "I", false)
  | 26 => ("RegionPoolModel", "parts", "I", false)
  | 27 => ("RegionPoolModel", "part", "[I", true)
  | 28 => ("RegionPoolModel", "partOf", "[I", true)
  | 29 => ("RegionPoolModel", "pairs", "[J", true)
  | 30 => ("RegionPoolModel", "asked", "[I", true)
  | _ => ("RegionPoolModel", "askedMany", "I", false)
def t_Mod : Nat → FieldType := fun k => match k with
  | 0 => .int
  | 1 => .array .int
  | 2 => .array .int
  | 3 => .array .int
  | 4 => .array .int
  | 5 => .array .int
  | 6 => .array .int
  | 7 => .array .int
  | 8 => .array .int
  | 9 => .array .boolean
  | 10 => .int
  | 11 => .array .int
  | 12 => .array .boolean
  | 13 => .int
  | 14 => .array .int
  | 15 => .array .int
  | 16 => .array .int
  | 17 => .array .int
  | 18 => .array .int
  | 19 => .int
  | 20 => .array .int
  | 21 => .int
  | 22 => .int
  | 23 => .int
  | 24 => .int
  | 25 => .int
  | 26 => .int
  | 27 => .array .int
  | 28 => .array .int
  | 29 => .array .long
  | 30 => .array .int
  | _ => .int
theorem nm_Mod : ∀ a, a < 32 → ∀ b, b < 32 → a ≠ b → (T_Mod a).2.1 ≠ (T_Mod b).2.1 := by decide +kernel
theorem tk_Mod : ∀ k, k < 32 → parseFieldDescriptor (T_Mod k).2.2.1 = some (t_Mod k) := by decide +kernel
theorem in_Mod : ∀ w ∈ u_ws R_Mod T_Mod 32, w ∈ xG := by
  show ∀ w ∈ [u_lay R_Mod T_Mod 0, u_lay R_Mod T_Mod 1, u_lay R_Mod T_Mod 2, u_lay R_Mod T_Mod 3, u_lay R_Mod T_Mod 4, u_lay R_Mod T_Mod 5, u_lay R_Mod T_Mod 6, u_lay R_Mod T_Mod 7, u_lay R_Mod T_Mod 8, u_lay R_Mod T_Mod 9, u_lay R_Mod T_Mod 10, u_lay R_Mod T_Mod 11, u_lay R_Mod T_Mod 12, u_lay R_Mod T_Mod 13, u_lay R_Mod T_Mod 14, u_lay R_Mod T_Mod 15, u_lay R_Mod T_Mod 16, u_lay R_Mod T_Mod 17, u_lay R_Mod T_Mod 18, u_lay R_Mod T_Mod 19, u_lay R_Mod T_Mod 20, u_lay R_Mod T_Mod 21, u_lay R_Mod T_Mod 22, u_lay R_Mod T_Mod 23, u_lay R_Mod T_Mod 24, u_lay R_Mod T_Mod 25, u_lay R_Mod T_Mod 26, u_lay R_Mod T_Mod 27, u_lay R_Mod T_Mod 28, u_lay R_Mod T_Mod 29, u_lay R_Mod T_Mod 30, u_lay R_Mod T_Mod 31], w ∈ xG
  exact List.forall_mem_cons.mpr ⟨xG_mem 1016 (by decide +kernel) (by decide +kernel), List.forall_mem_cons.mpr ⟨xG_mem 1018 (by decide +kernel) (by decide +kernel), List.forall_mem_cons.mpr ⟨xG_mem 1020 (by decide +kernel) (by decide +kernel), List.forall_mem_cons.mpr ⟨xG_mem 1022 (by decide +kernel) (by decide +kernel), List.forall_mem_cons.mpr ⟨xG_mem 1024 (by decide +kernel) (by decide +kernel), List.forall_mem_cons.mpr ⟨xG_mem 1026 (by decide +kernel) (by decide +kernel), List.forall_mem_cons.mpr ⟨xG_mem 1028 (by decide +kernel) (by decide +kernel), List.forall_mem_cons.mpr ⟨xG_mem 1030 (by decide +kernel) (by decide +kernel), List.forall_mem_cons.mpr ⟨xG_mem 1032 (by decide +kernel) (by decide +kernel), List.forall_mem_cons.mpr ⟨xG_mem 1034 (by decide +kernel) (by decide +kernel), List.forall_mem_cons.mpr ⟨xG_mem 1036 (by decide +kernel) (by decide +kernel), List.forall_mem_cons.mpr ⟨xG_mem 1038 (by decide +kernel) (by decide +kernel), List.forall_mem_cons.mpr ⟨xG_mem 1040 (by decide +kernel) (by decide +kernel), List.forall_mem_cons.mpr ⟨xG_mem 1042 (by decide +kernel) (by decide +kernel), List.forall_mem_cons.mpr ⟨xG_mem 1044 (by decide +kernel) (by decide +kernel), List.forall_mem_cons.mpr ⟨xG_mem 1046 (by decide +kernel) (by decide +kernel), List.forall_mem_cons.mpr ⟨xG_mem 1048 (by decide +kernel) (by decide +kernel), List.forall_mem_cons.mpr ⟨xG_mem 1050 (by decide +kernel) (by decide +kernel), List.forall_mem_cons.mpr ⟨xG_mem 1052 (by decide +kernel) (by decide +kernel), List.forall_mem_cons.mpr ⟨xG_mem 1054 (by decide +kernel) (by decide +kernel), List.forall_mem_cons.mpr ⟨xG_mem 1056 (by decide +kernel) (by decide +kernel), List.forall_mem_cons.mpr ⟨xG_mem 1058 (by decide +kernel) (by decide +kernel), List.forall_mem_cons.mpr ⟨xG_mem 1060 (by decide +kernel) (by decide +kernel), List.forall_mem_cons.mpr ⟨xG_mem 1062 (by decide +kernel) (by decide +kernel), List.forall_mem_cons.mpr ⟨xG_mem 1064 (by decide +kernel) (by decide +kernel), List.forall_mem_cons.mpr ⟨xG_mem 1066 (by decide +kernel) (by decide +kernel), List.forall_mem_cons.mpr ⟨xG_mem 1068 (by decide +kernel) (by decide +kernel), List.forall_mem_cons.mpr ⟨xG_mem 1070 (by decide +kernel) (by decide +kernel), List.forall_mem_cons.mpr ⟨xG_mem 1072 (by decide +kernel) (by decide +kernel), List.forall_mem_cons.mpr ⟨xG_mem 1074 (by decide +kernel) (by decide +kernel), List.forall_mem_cons.mpr ⟨xG_mem 1076 (by decide +kernel) (by decide +kernel), List.forall_mem_cons.mpr ⟨xG_mem 1078 (by decide +kernel) (by decide +kernel), fun _ h => absurd h List.not_mem_nil⟩⟩⟩⟩⟩⟩⟩⟩⟩⟩⟩⟩⟩⟩⟩⟩⟩⟩⟩⟩⟩⟩⟩⟩⟩⟩⟩⟩⟩⟩⟩⟩
abbrev xcl : List vw_C := [(R_Rp, T_Rp, 6), (R_Mem, T_Mem, 6), (R_Col, T_Col, 5), (R_Par, T_Par, 4), (R_Lik, T_Lik, 5), (R_Val, T_Val, 2), (R_Hea, T_Hea, 1), (R_Reg, T_Reg, 5), (R_Lin, T_Lin, 2), (R_Mar, T_Mar, 4), (R_Mod, T_Mod, 32)]
def R_Law : String := "RegionPoolLaw"
end
section
/-- the store: cell, place, number -/
abbrev xS : Type := Nat → Nat → Int32
/-- classes and slots; classes of arrays (ints, booleans, longs, rows of ints); addresses of the cells -/
abbrev xV : Type := va_G × (Nat → ClassId) × (Nat → Nat)
/-- a long lies in two places -/
def xL (f : Nat → Int32) (j : Nat) : Int64 := Int64.ofInt ((f (2 * j + 1)).toInt * 4294967296 + (f (2 * j)).toInt % 4294967296)
def xlo (x : Int64) : Int32 := Int32.ofInt x.toInt
def xhi (x : Int64) : Int32 := Int32.ofInt (x.toInt / 4294967296)
theorem xL_mk (x : Int64) : Int64.ofInt ((xhi x).toInt * 4294967296 + (xlo x).toInt % 4294967296) = x := by
  have h1 := Int64.le_toInt x
  have h2 := Int64.toInt_lt x
  have e1 : (xhi x).toInt = x.toInt / 4294967296 := by
    unfold xhi
    rw [Int32.toInt_ofInt]
    show Int.bmod (x.toInt / 4294967296) 4294967296 = _
    rw [Int.bmod_eq_of_le] <;> omega
  have e2 : (xlo x).toInt % 4294967296 = x.toInt % 4294967296 := by
    unfold xlo
    rw [Int32.toInt_ofInt]
    have : (x.toInt.bmod Int32.size) % (Int32.size : Nat) = x.toInt % (Int32.size : Nat) := Int.bmod_emod
    exact this
  rw [e1, e2, show x.toInt / 4294967296 * 4294967296 + x.toInt % 4294967296 = x.toInt by omega]
  exact Int64.ofInt_toInt x

/-- what each cell is -/
def xE (V : xV) (c : Nat) (f : Nat → Int32) : va_E := match c with
  | 0 => .inr (0, [.ref (V.2.2 1), .ref (V.2.2 2), .ref (V.2.2 3), .ref (V.2.2 4), .int (f 4), .int (f 5)])
  | 1 => .inr (1, [.ref (V.2.2 5), .ref (V.2.2 6), .ref (V.2.2 7), .ref (V.2.2 8), .ref (V.2.2 9), .ref (V.2.2 10)])
  | 2 => .inr (2, [.ref (V.2.2 1), .ref (V.2.2 11), .int (f 2), .int (f 3), .int (f 4)])
  | 3 => .inr (3, [.ref (V.2.2 1), .ref (V.2.2 12), .ref (V.2.2 13), .int (f 3)])
  | 4 => .inr (4, [.ref (V.2.2 6), .ref (V.2.2 14), .ref (V.2.2 15), .ref (V.2.2 16), .int (f 4)])
  | 5 => .inr (5, [.ref (V.2.2 17), .ref (V.2.2 18)])
  | 6 => .inr (6, [.ref (V.2.2 19)])
  | 7 => .inr (7, [.ref (V.2.2 20), .ref (V.2.2 21), .ref (V.2.2 22), .ref (V.2.2 23), .int (f 4)])
  | 8 => .inr (8, [.ref (V.2.2 24), .int (f 1)])
  | 9 => .inr (8, [.ref (V.2.2 25), .int (f 1)])
  | 10 => .inl (V.2.1 0, 640, .inl f)
  | 11 => .inr (9, [.ref (V.2.2 1), .ref (V.2.2 26), .ref (V.2.2 27), .int (f 3)])
  | 12 => .inl (V.2.1 0, 640, .inl f)
  | 13 => .inl (V.2.1 1, 640, .inl f)
  | 14 => .inl (V.2.1 0, 640, .inl f)
  | 15 => .inl (V.2.1 0, 640, .inl f)
  | 16 => .inl (V.2.1 0, 640, .inl f)
  | 17 => .inl (V.2.1 0, 16, .inl f)
  | 18 => .inl (V.2.1 0, 16, .inl f)
  | 19 => .inr (5, [.ref (V.2.2 28), .ref (V.2.2 29)])
  | 20 => .inl (V.2.1 0, 40, .inl f)
  | 21 => .inl (V.2.1 3, 8, .inr (.inr (.inr (.inr (fun i => if i < 8 then some (V.2.2 (32 + i)) else none)))))
  | 22 => .inl (V.2.1 0, 8, .inl f)
  | 23 => .inl (V.2.1 0, 8, .inl f)
  | 24 => .inl (V.2.1 0, 640, .inl f)
  | 25 => .inl (V.2.1 0, 640, .inl f)
  | 26 => .inl (V.2.1 1, 640, .inl f)
  | 27 => .inl (V.2.1 0, 640, .inl f)
  | 28 => .inl (V.2.1 0, 640, .inl f)
  | 29 => .inl (V.2.1 0, 640, .inl f)
  | 30 => .inl (V.2.1 2, 1, .inr (.inl (xL f)))
  | 31 => .inr (10, [.int (f 0), .ref (V.2.2 40), .ref (V.2.2 41), .ref (V.2.2 42), .ref (V.2.2 43), .ref (V.2.2 44), .ref (V.2.2 45), .ref (V.2.2 46), .ref (V.2.2 47), .ref (V.2.2 48), .int (f 10), .ref (V.2.2 49), .ref (V.2.2 50), .int (f 13), .ref (V.2.2 51), .ref (V.2.2 52), .ref (V.2.2 53), .ref (V.2.2 54), .ref (V.2.2 55), .int (f 19), .ref (V.2.2 56), .int (f 21), .int (f 22), .int (f 23), .int (f 24), .int (f 25), .int (f 26), .ref (V.2.2 57), .ref (V.2.2 58), .ref (V.2.2 59), .ref (V.2.2 60), .int (f 31)])
  | 32 => .inl (V.2.1 0, 40, .inl f)
  | 33 => .inl (V.2.1 0, 40, .inl f)
  | 34 => .inl (V.2.1 0, 40, .inl f)
  | 35 => .inl (V.2.1 0, 40, .inl f)
  | 36 => .inl (V.2.1 0, 40, .inl f)
  | 37 => .inl (V.2.1 0, 40, .inl f)
  | 38 => .inl (V.2.1 0, 40, .inl f)
  | 39 => .inl (V.2.1 0, 40, .inl f)
  | 40 => .inl (V.2.1 0, 640, .inl f)
  | 41 => .inl (V.2.1 0, 640, .inl f)
  | 42 => .inl (V.2.1 0, 640, .inl f)
  | 43 => .inl (V.2.1 0, 640, .inl f)
  | 44 => .inl (V.2.1 0, 640, .inl f)
  | 45 => .inl (V.2.1 0, 640, .inl f)
  | 46 => .inl (V.2.1 0, 9600, .inl f)
  | 47 => .inl (V.2.1 0, 9600, .inl f)
  | 48 => .inl (V.2.1 1, 640, .inl f)
  | 49 => .inl (V.2.1 0, 640, .inl f)
  | 50 => .inl (V.2.1 1, 40, .inl f)
  | 51 => .inl (V.2.1 0, 8, .inl f)
  | 52 => .inl (V.2.1 0, 320, .inl f)
  | 53 => .inl (V.2.1 0, 8, .inl f)
  | 54 => .inl (V.2.1 0, 16, .inl f)
  | 55 => .inl (V.2.1 0, 16, .inl f)
  | 56 => .inl (V.2.1 0, 1400, .inl f)
  | 57 => .inl (V.2.1 0, 640, .inl f)
  | 58 => .inl (V.2.1 0, 640, .inl f)
  | 59 => .inl (V.2.1 2, 6400, .inr (.inl (xL f)))
  | 60 => .inl (V.2.1 0, 409600, .inl f)
  | _ => .inr (99, [])
theorem xE0 (V : xV) (f : Nat → Int32) : xE V 0 f = .inr (0, [.ref (V.2.2 1), .ref (V.2.2 2), .ref (V.2.2 3), .ref (V.2.2 4), .int (f 4), .int (f 5)]) := rfl
theorem xE1 (V : xV) (f : Nat → Int32) : xE V 1 f = .inr (1, [.ref (V.2.2 5), .ref (V.2.2 6), .ref (V.2.2 7), .ref (V.2.2 8), .ref (V.2.2 9), .ref (V.2.2 10)]) := rfl
theorem xE2 (V : xV) (f : Nat → Int32) : xE V 2 f = .inr (2, [.ref (V.2.2 1), .ref (V.2.2 11), .int (f 2), .int (f 3), .int (f 4)]) := rfl
theorem xE3 (V : xV) (f : Nat → Int32) : xE V 3 f = .inr (3, [.ref (V.2.2 1), .ref (V.2.2 12), .ref (V.2.2 13), .int (f 3)]) := rfl
theorem xE4 (V : xV) (f : Nat → Int32) : xE V 4 f = .inr (4, [.ref (V.2.2 6), .ref (V.2.2 14), .ref (V.2.2 15), .ref (V.2.2 16), .int (f 4)]) := rfl
theorem xE5 (V : xV) (f : Nat → Int32) : xE V 5 f = .inr (5, [.ref (V.2.2 17), .ref (V.2.2 18)]) := rfl
theorem xE6 (V : xV) (f : Nat → Int32) : xE V 6 f = .inr (6, [.ref (V.2.2 19)]) := rfl
theorem xE7 (V : xV) (f : Nat → Int32) : xE V 7 f = .inr (7, [.ref (V.2.2 20), .ref (V.2.2 21), .ref (V.2.2 22), .ref (V.2.2 23), .int (f 4)]) := rfl
theorem xE8 (V : xV) (f : Nat → Int32) : xE V 8 f = .inr (8, [.ref (V.2.2 24), .int (f 1)]) := rfl
theorem xE9 (V : xV) (f : Nat → Int32) : xE V 9 f = .inr (8, [.ref (V.2.2 25), .int (f 1)]) := rfl
theorem xE10 (V : xV) (f : Nat → Int32) : xE V 10 f = .inl (V.2.1 0, 640, .inl f) := rfl
theorem xE11 (V : xV) (f : Nat → Int32) : xE V 11 f = .inr (9, [.ref (V.2.2 1), .ref (V.2.2 26), .ref (V.2.2 27), .int (f 3)]) := rfl
theorem xE12 (V : xV) (f : Nat → Int32) : xE V 12 f = .inl (V.2.1 0, 640, .inl f) := rfl
theorem xE13 (V : xV) (f : Nat → Int32) : xE V 13 f = .inl (V.2.1 1, 640, .inl f) := rfl
theorem xE14 (V : xV) (f : Nat → Int32) : xE V 14 f = .inl (V.2.1 0, 640, .inl f) := rfl
theorem xE15 (V : xV) (f : Nat → Int32) : xE V 15 f = .inl (V.2.1 0, 640, .inl f) := rfl
theorem xE16 (V : xV) (f : Nat → Int32) : xE V 16 f = .inl (V.2.1 0, 640, .inl f) := rfl
theorem xE17 (V : xV) (f : Nat → Int32) : xE V 17 f = .inl (V.2.1 0, 16, .inl f) := rfl
theorem xE18 (V : xV) (f : Nat → Int32) : xE V 18 f = .inl (V.2.1 0, 16, .inl f) := rfl
theorem xE19 (V : xV) (f : Nat → Int32) : xE V 19 f = .inr (5, [.ref (V.2.2 28), .ref (V.2.2 29)]) := rfl
theorem xE20 (V : xV) (f : Nat → Int32) : xE V 20 f = .inl (V.2.1 0, 40, .inl f) := rfl
theorem xE21 (V : xV) (f : Nat → Int32) : xE V 21 f = .inl (V.2.1 3, 8, .inr (.inr (.inr (.inr (fun i => if i < 8 then some (V.2.2 (32 + i)) else none))))) := rfl
theorem xE22 (V : xV) (f : Nat → Int32) : xE V 22 f = .inl (V.2.1 0, 8, .inl f) := rfl
theorem xE23 (V : xV) (f : Nat → Int32) : xE V 23 f = .inl (V.2.1 0, 8, .inl f) := rfl
theorem xE24 (V : xV) (f : Nat → Int32) : xE V 24 f = .inl (V.2.1 0, 640, .inl f) := rfl
theorem xE25 (V : xV) (f : Nat → Int32) : xE V 25 f = .inl (V.2.1 0, 640, .inl f) := rfl
theorem xE26 (V : xV) (f : Nat → Int32) : xE V 26 f = .inl (V.2.1 1, 640, .inl f) := rfl
theorem xE27 (V : xV) (f : Nat → Int32) : xE V 27 f = .inl (V.2.1 0, 640, .inl f) := rfl
theorem xE28 (V : xV) (f : Nat → Int32) : xE V 28 f = .inl (V.2.1 0, 640, .inl f) := rfl
theorem xE29 (V : xV) (f : Nat → Int32) : xE V 29 f = .inl (V.2.1 0, 640, .inl f) := rfl
theorem xE30 (V : xV) (f : Nat → Int32) : xE V 30 f = .inl (V.2.1 2, 1, .inr (.inl (xL f))) := rfl
theorem xE31 (V : xV) (f : Nat → Int32) : xE V 31 f = .inr (10, [.int (f 0), .ref (V.2.2 40), .ref (V.2.2 41), .ref (V.2.2 42), .ref (V.2.2 43), .ref (V.2.2 44), .ref (V.2.2 45), .ref (V.2.2 46), .ref (V.2.2 47), .ref (V.2.2 48), .int (f 10), .ref (V.2.2 49), .ref (V.2.2 50), .int (f 13), .ref (V.2.2 51), .ref (V.2.2 52), .ref (V.2.2 53), .ref (V.2.2 54), .ref (V.2.2 55), .int (f 19), .ref (V.2.2 56), .int (f 21), .int (f 22), .int (f 23), .int (f 24), .int (f 25), .int (f 26), .ref (V.2.2 57), .ref (V.2.2 58), .ref (V.2.2 59), .ref (V.2.2 60), .int (f 31)]) := rfl
theorem xE32 (V : xV) (f : Nat → Int32) : xE V 32 f = .inl (V.2.1 0, 40, .inl f) := rfl
theorem xE33 (V : xV) (f : Nat → Int32) : xE V 33 f = .inl (V.2.1 0, 40, .inl f) := rfl
theorem xE34 (V : xV) (f : Nat → Int32) : xE V 34 f = .inl (V.2.1 0, 40, .inl f) := rfl
theorem xE35 (V : xV) (f : Nat → Int32) : xE V 35 f = .inl (V.2.1 0, 40, .inl f) := rfl
theorem xE36 (V : xV) (f : Nat → Int32) : xE V 36 f = .inl (V.2.1 0, 40, .inl f) := rfl
theorem xE37 (V : xV) (f : Nat → Int32) : xE V 37 f = .inl (V.2.1 0, 40, .inl f) := rfl
theorem xE38 (V : xV) (f : Nat → Int32) : xE V 38 f = .inl (V.2.1 0, 40, .inl f) := rfl
theorem xE39 (V : xV) (f : Nat → Int32) : xE V 39 f = .inl (V.2.1 0, 40, .inl f) := rfl
theorem xE40 (V : xV) (f : Nat → Int32) : xE V 40 f = .inl (V.2.1 0, 640, .inl f) := rfl
theorem xE41 (V : xV) (f : Nat → Int32) : xE V 41 f = .inl (V.2.1 0, 640, .inl f) := rfl
theorem xE42 (V : xV) (f : Nat → Int32) : xE V 42 f = .inl (V.2.1 0, 640, .inl f) := rfl
theorem xE43 (V : xV) (f : Nat → Int32) : xE V 43 f = .inl (V.2.1 0, 640, .inl f) := rfl
theorem xE44 (V : xV) (f : Nat → Int32) : xE V 44 f = .inl (V.2.1 0, 640, .inl f) := rfl
theorem xE45 (V : xV) (f : Nat → Int32) : xE V 45 f = .inl (V.2.1 0, 640, .inl f) := rfl
theorem xE46 (V : xV) (f : Nat → Int32) : xE V 46 f = .inl (V.2.1 0, 9600, .inl f) := rfl
theorem xE47 (V : xV) (f : Nat → Int32) : xE V 47 f = .inl (V.2.1 0, 9600, .inl f) := rfl
theorem xE48 (V : xV) (f : Nat → Int32) : xE V 48 f = .inl (V.2.1 1, 640, .inl f) := rfl
theorem xE49 (V : xV) (f : Nat → Int32) : xE V 49 f = .inl (V.2.1 0, 640, .inl f) := rfl
theorem xE50 (V : xV) (f : Nat → Int32) : xE V 50 f = .inl (V.2.1 1, 40, .inl f) := rfl
theorem xE51 (V : xV) (f : Nat → Int32) : xE V 51 f = .inl (V.2.1 0, 8, .inl f) := rfl
theorem xE52 (V : xV) (f : Nat → Int32) : xE V 52 f = .inl (V.2.1 0, 320, .inl f) := rfl
theorem xE53 (V : xV) (f : Nat → Int32) : xE V 53 f = .inl (V.2.1 0, 8, .inl f) := rfl
theorem xE54 (V : xV) (f : Nat → Int32) : xE V 54 f = .inl (V.2.1 0, 16, .inl f) := rfl
theorem xE55 (V : xV) (f : Nat → Int32) : xE V 55 f = .inl (V.2.1 0, 16, .inl f) := rfl
theorem xE56 (V : xV) (f : Nat → Int32) : xE V 56 f = .inl (V.2.1 0, 1400, .inl f) := rfl
theorem xE57 (V : xV) (f : Nat → Int32) : xE V 57 f = .inl (V.2.1 0, 640, .inl f) := rfl
theorem xE58 (V : xV) (f : Nat → Int32) : xE V 58 f = .inl (V.2.1 0, 640, .inl f) := rfl
theorem xE59 (V : xV) (f : Nat → Int32) : xE V 59 f = .inl (V.2.1 2, 6400, .inr (.inl (xL f))) := rfl
theorem xE60 (V : xV) (f : Nat → Int32) : xE V 60 f = .inl (V.2.1 0, 409600, .inl f) := rfl
def xu (σ : xS) (c k : Nat) (v : Int32) : xS := va_up σ c (upd (σ c) k v)
/-- a long is written -/
def xul (σ : xS) (c k : Nat) (x : Int64) : xS := va_up σ c (upd (upd (σ c) (2 * k) (xlo x)) (2 * k + 1) (xhi x))
theorem xu_eq (σ : xS) (c k : Nat) (v : Int32) (d j : Nat) : xu σ c k v d j = if d = c then (if j = k then v else σ c j) else σ d j := by
  unfold xu va_up upd
  by_cases h : d = c <;> simp [h]
theorem xL_up (f : Nat → Int32) (k : Nat) (x : Int64) : xL (upd (upd f (2 * k) (xlo x)) (2 * k + 1) (xhi x)) = vp_updL (xL f) k x := by
  funext j
  unfold xL vp_updL upd
  by_cases h : j = k
  · subst h
    simp only [if_true, if_neg (show ¬ 2 * j = 2 * j + 1 by omega)]
    exact xL_mk x
  · simp only [if_neg h, if_neg (show ¬ 2 * j + 1 = 2 * k + 1 by omega), if_neg (show ¬ 2 * j + 1 = 2 * k by omega), if_neg (show ¬ 2 * j = 2 * k + 1 by omega), if_neg (show ¬ 2 * j = 2 * k by omega)]
def xw (V : xV) (σ : xS) : va_W := (List.range 61).map (fun c => (V.2.2 c, xE V c (σ c)))
theorem xw_get {V : xV} {σ : xS} {c : Nat} (h : c < 61) : (xw V σ)[c]? = some (V.2.2 c, xE V c (σ c)) := by
  simp [xw, h]
theorem xw_none {V : xV} {σ : xS} {c : Nat} (h : ¬ c < 61) : (xw V σ)[c]? = none := by
  simp [xw]; omega
theorem xw_lt {V : xV} {σ : xS} {c : Nat} {q : Nat × va_E} (h : (xw V σ)[c]? = some q) : c < 61 := by
  by_cases hl : c < 61
  · exact hl
  · rw [xw_none hl] at h; cases h
theorem xw_set {V : xV} {σ : xS} {c : Nat} (hc : c < 61) (g : Nat → Int32) : (xw V σ).set c (V.2.2 c, xE V c g) = xw V (va_up σ c g) := by
  refine List.ext_getElem? (fun i => ?_)
  by_cases hi : i = c
  · subst hi
    rw [List.getElem?_set_self (by simp [xw, hc]), xw_get hc, va_up_self]
  · rw [List.getElem?_set_ne (Ne.symm hi)]
    by_cases hl : i < 61
    · rw [xw_get hl, xw_get hl, va_up_ne _ _ hi]
    · rw [xw_none hl, xw_none hl]
/-- which cells a method may change -/
def xA (V : xV) (sz : Nat) : Nat → Prop := fun q => (∃ c, c < 61 ∧ q = V.2.2 c) ∨ sz ≤ q
abbrev xty (V : xV) : List (ClassId × FieldType) := [(V.2.1 0, .int), (V.2.1 1, .boolean), (V.2.1 2, .long), (V.2.1 3, .array .int)]
abbrev xnest : Cond := .fieldLinkNest "RegionPool$Heap" 30 "RegionPool$Values" "contents" "[I" "RegionPool"
/-- what the tables say -/
def xK (V : xV) (U : State) : Prop := va_K V.1 xcl (xty V) U ∧ va_Nw xnest U
theorem xK.moved {V : xV} {s U : State} (hW : s.WarmedH U.vm) (h : xK V s) : xK V U := ⟨va_K.moved hW.alike h.1, va_Nw.warmF hW h.2⟩
theorem xK.same {V : xV} {s U : State} (hv : s.vm = U.vm) (h : xK V s) : xK V U := ⟨va_K.moved (by rw [hv]; exact Vm.Alike.refl U.vm) h.1, va_Nw.same rfl hv h.2⟩
def xPre (V : xV) (sz : Nat) (σ : xS) (U : State) : Prop := U.heap.size = sz ∧ va_P V.1 xcl (xw V σ) U.heap ∧ va_D (fun _ => True) (xw V σ) ∧ xK V U
def xPost (V : xV) (u : xS) (t : State) : Prop := va_P V.1 xcl (xw V u) t.heap
theorem xBlind {V : xV} {sz : Nat} {σ : xS} {av : List Value} : FrameBlind (va_Pc av (xPre V sz σ)) := fun a U g mk q => by
  obtain ⟨q0, q1, q2, q3, q4⟩ := q
  exact ⟨q0, q1, q2, q3, q4.same rfl⟩
/-- contracts: an int, nothing -/
def xMi (l : Launch) (y : MethodName) (ws : List Cond) (rm : Room) (V : xV) (av : List Value) (σ : xS) (Q : Int32 → xS → Prop) : Prop :=
  ∀ sz : Nat, Met l y ws rm (va_Pc av (xPre V sz σ)) (va_Qi Q (xPost V) (xA V sz)) 0 0 (xA V sz)
def xMv (l : Launch) (y : MethodName) (ws : List Cond) (rm : Room) (V : xV) (av : List Value) (σ : xS) (Q : xS → Prop) : Prop :=
  ∀ sz : Nat, Met l y ws rm (va_Pc av (xPre V sz σ)) (va_Qv Q (xPost V) (xA V sz)) 0 0 (xA V sz)
/-- inside a method: the world now -/
def xI (V : xV) (H0 : Heap) (σ : xS) (H : Heap) (locs : List Loc) : Prop := va_P V.1 xcl (xw V σ) H ∧ va_D (xA V H0.size) (xw V σ) ∧ va_S (xA V H0.size) H0 H locs
/-- inside a method: what stays -/
def xC (p : Program) (s : State) (m : MethodId) (args : Array Value) (c : Code) (cc : ByteArray) (nL : Nat) (own : String) (V : xV) : Prop :=
  p.tables.exec = Jvm.exec ∧ c.code = cc ∧ c.maxLocals = nL ∧ s.vm.findClass own = some m.cls ∧ (∀ w ∈ xG, w.before args s = true) ∧ xK V s
abbrev xZi (below : List Frame) (V : xV) (args : Array Value) (s : State) (Q : Int32 → xS → Prop) : State → Prop := MQ below (va_Qi Q (xPost V) (xA V s.heap.size)) args s 0 0 (xA V s.heap.size)
abbrev xZv (below : List Frame) (V : xV) (args : Array Value) (s : State) (Q : xS → Prop) : State → Prop := MQ below (va_Qv Q (xPost V) (xA V s.heap.size)) args s 0 0 (xA V s.heap.size)
theorem xD_self {V : xV} {sz : Nat} {σ : xS} {A : Nat → Prop} (h : va_D A (xw V σ)) : va_D (xA V sz) (xw V σ) := ⟨h.1, fun k q hk => by
  have hl := xw_lt hk
  rw [xw_get hl] at hk
  cases hk
  exact Or.inl ⟨k, hl, rfl⟩⟩
theorem xD_any {V : xV} {σ τ : xS} {A : Nat → Prop} (h : va_D A (xw V σ)) : va_D A (xw V τ) := by
  refine ⟨fun i j p q hi hj e => ?_, fun k q hk => ?_⟩
  · have h1 := xw_lt hi
    have h2 := xw_lt hj
    rw [xw_get h1] at hi
    rw [xw_get h2] at hj
    cases hi; cases hj
    exact h.1 i j _ _ (xw_get h1) (xw_get h2) e
  · have h1 := xw_lt hk
    rw [xw_get h1] at hk
    cases hk
    have h2 := h.2 k _ (xw_get (V := V) (σ := σ) h1)
    exact h2
section XW
variable {p : Program} {l : Launch} {e : Env} {R : Room} {s : State} {m : MethodId} {args : Array Value} {below : List Frame} {meth : Method} {c : Code} {H : Heap} {locs : List Loc} {cells slots : Nat} {Z : State → Prop}
variable {cc : ByteArray} {nL pc : Nat} {own : String} {V : xV} {σ : xS} {ls : Array Slot} {rest : List Value}
theorem x_begini {y : MethodName} {bytes : ByteArray} {maxL : Nat} {ret : Option FieldType} {rm : Room} {av : List Value} {Q : Int32 → xS → Prop} (hy : plainName y.cls = true) (hav : (lg_sl av).length ≤ maxL)
    (body : ∀ (p : Program) (e : Env) (s : State) (m : MethodId) (below : List Frame) (meth : Method) (c : Code) (ls : Array Slot), xC p s m av.toArray c bytes maxL y.cls V → meth.locks = false → meth.sig.returnType = ret → xI V s.heap σ s.heap [] → lv_has ls maxL (lv_args 0 av) →
      W p l e rm s m av.toArray below meth c s.heap [] 0 0 (xZi below V av.toArray s Q) (F0 m 0 ls [])) : xMi l y (.code y bytes maxL ret :: xG) rm V av σ Q := by
  intro sz
  refine Met.ofW (cc := bytes) (maxL := maxL) (ret := ret) hy rfl ?_
  intro p e s m args below meth c s₁ B hml hv
  obtain ⟨rfl, hsz, hP, hD, hK⟩ := hv
  subst hsz
  have hts := atoms_spec (ws := .code y bytes maxL ret :: xG) B.pre
  have hl := lv_entry av (n := maxL) hav
  rw [lg_entry_eq]
  exact body p e s m below meth c _ ⟨B.exec, B.bytes, hml, findClass_of_methodNamed B.named, fun w h => hts w (List.mem_cons_of_mem _ h), hK⟩ B.notSynchronized B.returns ⟨hP, xD_self hD, va_S.rf⟩ hl
theorem x_beginv {y : MethodName} {bytes : ByteArray} {maxL : Nat} {ret : Option FieldType} {rm : Room} {av : List Value} {Q : xS → Prop} (hy : plainName y.cls = true) (hav : (lg_sl av).length ≤ maxL)
    (body : ∀ (p : Program) (e : Env) (s : State) (m : MethodId) (below : List Frame) (meth : Method) (c : Code) (ls : Array Slot), xC p s m av.toArray c bytes maxL y.cls V → meth.locks = false → meth.sig.returnType = ret → xI V s.heap σ s.heap [] → lv_has ls maxL (lv_args 0 av) →
      W p l e rm s m av.toArray below meth c s.heap [] 0 0 (xZv below V av.toArray s Q) (F0 m 0 ls [])) : xMv l y (.code y bytes maxL ret :: xG) rm V av σ Q := by
  intro sz
  refine Met.ofW (cc := bytes) (maxL := maxL) (ret := ret) hy rfl ?_
  intro p e s m args below meth c s₁ B hml hv
  obtain ⟨rfl, hsz, hP, hD, hK⟩ := hv
  subst hsz
  have hts := atoms_spec (ws := .code y bytes maxL ret :: xG) B.pre
  have hl := lv_entry av (n := maxL) hav
  rw [lg_entry_eq]
  exact body p e s m below meth c _ ⟨B.exec, B.bytes, hml, findClass_of_methodNamed B.named, fun w h => hts w (List.mem_cons_of_mem _ h), hK⟩ B.notSynchronized B.returns ⟨hP, xD_self hD, va_S.rf⟩ hl
theorem x_iret {Q : Int32 → xS → Prop} {v : Int32} (C : xC p s m args c cc nL own V) (hlocks : meth.locks = false) (hr : meth.sig.returnType = some .int) (hI : xI V s.heap σ H locs) (hQ : Q v σ) (hdg : decode cc pc = .ok (.ireturn, 1)) : W p l e R s m args below meth c H locs 0 0 (xZi below V args s Q) (F0 m pc ls [.int v]) :=
  W.iret (v := v) C.1 C.2.1 hr (fun t ht _ => ⟨⟨v, σ, rfl, hQ, by unfold xPost; rw [ht]; exact hI.1⟩, hI.2.2.F ht⟩) hI.2.2.2.2 hdg
theorem x_zret {Q : Int32 → xS → Prop} {v : Int32} (C : xC p s m args c cc nL own V) (hlocks : meth.locks = false) (hr : meth.sig.returnType = some .boolean) (hI : xI V s.heap σ H locs) (hQ : narrow .boolean (.int v) = .int v ∧ Q v σ) (hdg : decode cc pc = .ok (.ireturn, 1)) : W p l e R s m args below meth c H locs 0 0 (xZi below V args s Q) (F0 m pc ls [.int v]) :=
  W.zret (v := v) C.1 C.2.1 hr hQ.1 (fun t ht _ => ⟨⟨v, σ, rfl, hQ.2, by unfold xPost; rw [ht]; exact hI.1⟩, hI.2.2.F ht⟩) hI.2.2.2.2 hdg
theorem x_vret {Q : xS → Prop} (C : xC p s m args c cc nL own V) (hlocks : meth.locks = false) (hr : meth.sig.returnType = none) (hI : xI V s.heap σ H locs) (hQ : Q σ) (hdg : decode cc pc = .ok (.return_, 1)) : W p l e R s m args below meth c H locs 0 0 (xZv below V args s Q) (F0 m pc ls []) :=
  W.vret C.1 C.2.1 hr (fun t ht _ => ⟨⟨σ, rfl, hQ, by unfold xPost; rw [ht]; exact hI.1⟩, hI.2.2.F ht⟩) hI.2.2.2.2 hdg
/-- a field of a class, as an instruction of own names it -/
def xFd (own : String) (idx ci k : Nat) : Prop := ∃ (CN : String) (T : u_T) (N : Nat), xcl[ci]? = some (CN, T, N) ∧ (∀ w ∈ u_ws CN T N, w ∈ xG) ∧ k < N ∧ Cond.fieldLink own idx (T k).1 (T k).2.1 (T k).2.2.1 ∈ xG
/-- .. one that holds an int, and may be written -/
def xFw (own : String) (idx ci k : Nat) : Prop := ∃ (CN : String) (T : u_T) (N : Nat) (ty : Nat → FieldType), xcl[ci]? = some (CN, T, N) ∧ (∀ w ∈ u_ws CN T N, w ∈ xG) ∧ k < N ∧ Cond.fieldLink own idx (T k).1 (T k).2.1 (T k).2.2.1 ∈ xG ∧ (∀ k, k < N → parseFieldDescriptor (T k).2.2.1 = some (ty k)) ∧ (∀ a, a < N → ∀ b, b < N → a ≠ b → (T a).2.1 ≠ (T b).2.1) ∧ (T k).2.2.2 = false ∧ parseFieldDescriptor (T k).2.2.1 = some .int
theorem x_get (C : xC p s m args c cc nL own V) (hI : xI V s.heap σ H locs) {d : Nat} (hd : d < 61) {ci k idx : Nat} {fs : List Value} {v : Value} (hE : xE V d (σ d) = .inr (ci, fs)) (hF : xFd own idx ci k) (hv : fs[k]? = some v) (hdg : decode cc pc = .ok (.getfield idx, 3))
    (kk : W p l e R s m args below meth c H locs cells slots Z (F0 m (pc + 3) ls (v :: rest))) : W p l e R s m args below meth c H locs cells slots Z (F0 m pc ls (.ref (V.2.2 d) :: rest)) := by
  obtain ⟨CN, T, N, h1, h2, h3, h4⟩ := hF
  exact va_get C.1 C.2.1 C.2.2.2.2.1 h2 C.2.2.2.1 C.2.2.2.2.2.1 hI.1 d (by rw [xw_get hd, hE]) h1 k h3 (C.2.2.2.2.1 _ h4) (fun _ h => h) hv hdg kk
theorem x_getN (C : xC p s m args c cc nL "RegionPool$Heap" V) (hI : xI V s.heap σ H locs) {d : Nat} (hd : d < 61) {fs : List Value} {v : Value} (hE : xE V d (σ d) = .inr (5, fs)) (hv : fs[1]? = some v) (hdg : decode cc pc = .ok (.getfield 30, 3))
    (kk : W p l e R s m args below meth c H locs cells slots Z (F0 m (pc + 3) ls (v :: rest))) : W p l e R s m args below meth c H locs cells slots Z (F0 m pc ls (.ref (V.2.2 d) :: rest)) :=
  va_getN (C := R_Val) (T := T_Val) (N := 2) (host := "RegionPool") C.1 C.2.1 C.2.2.2.2.1 in_Val C.2.2.2.1 C.2.2.2.2.2.1 hI.1 d (by rw [xw_get hd, hE]) rfl 1 (by decide) (C.2.2.2.2.2.2.use rfl) (fun _ h => h) hv hdg kk
theorem x_put (C : xC p s m args c cc nL own V) (hI : xI V s.heap σ H locs) {d : Nat} (hd : d < 61) {ci k idx : Nat} {fs : List Value} {x : Int32} (hE : xE V d (σ d) = .inr (ci, fs)) (hE2 : xE V d (upd (σ d) k x) = .inr (ci, fs.set k (.int x))) (hF : xFw own idx ci k) (hk : k < fs.length) (hdg : decode cc pc = .ok (.putfield idx, 3))
    (kk : ∀ (H1 : Heap) (locs1 : List Loc), xI V s.heap (xu σ d k x) H1 locs1 → W p l e R s m args below meth c H1 locs1 cells slots Z (F0 m (pc + 3) ls rest)) : W p l e R s m args below meth c H locs cells slots Z (F0 m pc ls (.int x :: .ref (V.2.2 d) :: rest)) := by
  obtain ⟨CN, T, N, ty, h1, h2, h3, h4, h5, h6, h7, h8⟩ := hF
  have e := xw_set (V := V) (σ := σ) hd (upd (σ d) k x)
  rw [hE2] at e
  refine va_put (ty := .int) (v := .int x) C.1 C.2.1 C.2.2.2.2.1 h2 ty h5 h6 C.2.2.2.1 C.2.2.2.2.2.1 hI.1 hI.2.1 hI.2.2 d (by rw [xw_get hd, hE]) h1 k h3 (C.2.2.2.2.1 _ h4) (fun _ h => h) h7 h8 rfl rfl hk hdg (fun H1 locs1 a1 a2 a3 => ?_)
  rw [e] at a1 a2
  exact kk H1 locs1 ⟨a1, a2, a3⟩
theorem x_iald (C : xC p s m args c cc nL own V) (hI : xI V s.heap σ H locs) {d n : Nat} (hd : d < 61) (hE : ∀ f, xE V d f = .inl (V.2.1 0, n, .inl f)) {i : Int32} (hin : vp_in i n) (hdg : decode cc pc = .ok (.iaload, 1))
    (kk : W p l e R s m args below meth c H locs cells slots Z (F0 m (pc + 1) ls (.int (σ d i.toNatClampNeg) :: rest))) : W p l e R s m args below meth c H locs cells slots Z (F0 m pc ls (.int i :: .ref (V.2.2 d) :: rest)) :=
  va_iald C.1 C.2.1 C.2.2.2.2.2.1 hI.1 d 0 (by rw [xw_get hd, hE]) rfl hin hdg kk
theorem x_zald (C : xC p s m args c cc nL own V) (hI : xI V s.heap σ H locs) {d n : Nat} (hd : d < 61) (hE : ∀ f, xE V d f = .inl (V.2.1 1, n, .inl f)) {i : Int32} (hin : vp_in i n) (hdg : decode cc pc = .ok (.baload, 1))
    (kk : W p l e R s m args below meth c H locs cells slots Z (F0 m (pc + 1) ls (.int (σ d i.toNatClampNeg) :: rest))) : W p l e R s m args below meth c H locs cells slots Z (F0 m pc ls (.int i :: .ref (V.2.2 d) :: rest)) :=
  va_zald C.1 C.2.1 C.2.2.2.2.2.1 hI.1 d 1 (by rw [xw_get hd, hE]) rfl hin hdg kk
theorem x_lald (C : xC p s m args c cc nL own V) (hI : xI V s.heap σ H locs) {d n : Nat} (hd : d < 61) (hE : ∀ f, xE V d f = .inl (V.2.1 2, n, .inr (.inl (xL f)))) {i : Int32} (hin : vp_in i n) (hdg : decode cc pc = .ok (.laload, 1))
    (kk : W p l e R s m args below meth c H locs cells slots Z (F0 m (pc + 1) ls (.long (xL (σ d) i.toNatClampNeg) :: rest))) : W p l e R s m args below meth c H locs cells slots Z (F0 m pc ls (.int i :: .ref (V.2.2 d) :: rest)) :=
  va_lald C.1 C.2.1 C.2.2.2.2.2.1 hI.1 d 2 (by rw [xw_get hd, hE]) rfl hin hdg kk
theorem x_iast (C : xC p s m args c cc nL own V) (hI : xI V s.heap σ H locs) {d n : Nat} (hd : d < 61) (hE : ∀ f, xE V d f = .inl (V.2.1 0, n, .inl f)) {i x : Int32} (hin : vp_in i n) (hdg : decode cc pc = .ok (.iastore, 1))
    (kk : ∀ (H1 : Heap) (locs1 : List Loc), xI V s.heap (xu σ d i.toNatClampNeg x) H1 locs1 → W p l e R s m args below meth c H1 locs1 cells slots Z (F0 m (pc + 1) ls rest)) : W p l e R s m args below meth c H locs cells slots Z (F0 m pc ls (.int x :: .int i :: .ref (V.2.2 d) :: rest)) := by
  have e := xw_set (V := V) (σ := σ) hd (upd (σ d) i.toNatClampNeg x)
  rw [hE] at e
  refine va_iast C.1 C.2.1 C.2.2.2.2.2.1 hI.1 hI.2.1 hI.2.2 d 0 (by rw [xw_get hd, hE]) rfl hin hdg (fun H1 locs1 a1 a2 a3 => ?_)
  rw [e] at a1 a2
  exact kk H1 locs1 ⟨a1, a2, a3⟩
theorem x_zast (C : xC p s m args c cc nL own V) (hI : xI V s.heap σ H locs) {d n : Nat} (hd : d < 61) (hE : ∀ f, xE V d f = .inl (V.2.1 1, n, .inl f)) {i x : Int32} (hin : vp_in i n) (hdg : decode cc pc = .ok (.bastore, 1))
    (kk : ∀ (H1 : Heap) (locs1 : List Loc), xI V s.heap (xu σ d i.toNatClampNeg (vp_nar .boolean x)) H1 locs1 → W p l e R s m args below meth c H1 locs1 cells slots Z (F0 m (pc + 1) ls rest)) : W p l e R s m args below meth c H locs cells slots Z (F0 m pc ls (.int x :: .int i :: .ref (V.2.2 d) :: rest)) := by
  have e := xw_set (V := V) (σ := σ) hd (upd (σ d) i.toNatClampNeg (vp_nar .boolean x))
  rw [hE] at e
  refine va_zast C.1 C.2.1 C.2.2.2.2.2.1 hI.1 hI.2.1 hI.2.2 d 1 (by rw [xw_get hd, hE]) rfl hin hdg (fun H1 locs1 a1 a2 a3 => ?_)
  rw [e] at a1 a2
  exact kk H1 locs1 ⟨a1, a2, a3⟩
theorem x_last (C : xC p s m args c cc nL own V) (hI : xI V s.heap σ H locs) {d n : Nat} (hd : d < 61) (hE : ∀ f, xE V d f = .inl (V.2.1 2, n, .inr (.inl (xL f)))) {i : Int32} {x : Int64} (hin : vp_in i n) (hdg : decode cc pc = .ok (.lastore, 1))
    (kk : ∀ (H1 : Heap) (locs1 : List Loc), xI V s.heap (xul σ d i.toNatClampNeg x) H1 locs1 → W p l e R s m args below meth c H1 locs1 cells slots Z (F0 m (pc + 1) ls rest)) : W p l e R s m args below meth c H locs cells slots Z (F0 m pc ls (.long x :: .int i :: .ref (V.2.2 d) :: rest)) := by
  have e := xw_set (V := V) (σ := σ) hd (upd (upd (σ d) (2 * i.toNatClampNeg) (xlo x)) (2 * i.toNatClampNeg + 1) (xhi x))
  rw [hE, xL_up] at e
  refine va_last C.1 C.2.1 C.2.2.2.2.2.1 hI.1 hI.2.1 hI.2.2 d 2 (by rw [xw_get hd, hE]) rfl hin hdg (fun H1 locs1 a1 a2 a3 => ?_)
  rw [e] at a1 a2
  exact kk H1 locs1 ⟨a1, a2, a3⟩
theorem x_alen (C : xC p s m args c cc nL own V) (hI : xI V s.heap σ H locs) {d n k : Nat} (hd : d < 61) {ty : FieldType} (hk : (xty V)[k]? = some (V.2.1 k, ty)) {g : (Nat → Int32) ⊕ (Nat → Int64) ⊕ (Nat → UInt32) ⊕ (Nat → UInt64) ⊕ (Nat → Option Nat)} (hE : xE V d (σ d) = .inl (V.2.1 k, n, g)) {v : Int32} (hv : Int32.ofNat n = v) (hdg : decode cc pc = .ok (.arraylength, 1))
    (kk : W p l e R s m args below meth c H locs cells slots Z (F0 m (pc + 1) ls (.int v :: rest))) : W p l e R s m args below meth c H locs cells slots Z (F0 m pc ls (.ref (V.2.2 d) :: rest)) :=
  va_alen C.1 C.2.1 C.2.2.2.2.2.1 hI.1 d k (by rw [xw_get hd, hE]) hk hv hdg kk
/-- a method as a callee: its words -/
def xY (y : MethodName) (bytes : ByteArray) (maxL : Nat) (ret : Option FieldType) (n : Nat) : Prop :=
  Cond.instanceMethod y ∈ xG ∧ Cond.selects y.cls y y ∈ xG ∧ Cond.initialized y.cls ∈ xG ∧ Cond.code y bytes maxL ret ∈ xG ∧ y.cls ≠ "java/lang/invoke/MethodHandle" ∧ y.cls ≠ "java/lang/invoke/VarHandle" ∧ (parseMethodDescriptor y.desc).map (fun d => d.parameters.length) = some n
theorem x_cw {y : MethodName} {bytes : ByteArray} {maxL n idx : Nat} {ret : Option FieldType} {rm : Room} (hts : ∀ w ∈ xG, w.before args s = true) (hY : xY y bytes maxL ret n) (hl : Cond.methodLink own idx y ∈ xG) (hrc : rm.cells = 0) (hrs : rm.slots = 0) (hR : rm.frames + 1 ≤ R.frames ∧ 8 + (maxL + 11) + rm.locals ≤ R.locals) :
    CallW R s args own y.cls idx y bytes maxL ret (.code y bytes maxL ret :: xG) rm 0 0 n := by
  obtain ⟨h1, h2, h3, h4, h5, h6, h7⟩ := hY
  refine ⟨callB_of n hts (fun w h => ?_) rfl hrc hrs (hts _ h3) (hts _ hl) ⟨h5, h6, h7⟩ hR, hts _ h1, hts _ h2⟩
  rcases List.mem_cons.mp h with rfl | h
  · exact ⟨h4, good_of_word (xG_good h4)⟩
  · exact ⟨h, good_of_word (xG_good h)⟩
theorem x_recv (C : xC p s m args c cc nL own V) (hI : xI V s.heap σ H locs) {d : Nat} (hd : d < 61) {ci : Nat} {fs : List Value} {CN : String} {T : u_T} {N : Nat} (hE : xE V d (σ d) = .inr (ci, fs)) (hc : xcl[ci]? = some (CN, T, N)) : ∃ cell : Cell, H[V.2.2 d]? = some cell ∧ cell.vm.isStatics = false ∧ s.vm.findClass CN = some cell.cls :=
  va_recv (q := (CN, T, N)) C.2.2.2.2.2.1 hI.1 hc (by rw [xw_get hd, hE])
theorem x_free (hI : xI V s.heap σ H locs) : ∀ q, xA V H.size q → xA V s.heap.size q := fun q h => by
  rcases h with h | h
  · exact Or.inl h
  · exact Or.inr (Nat.le_trans hI.2.2.1 h)
theorem x_calli (C : xC p s m args c cc nL own V) (hI : xI V s.heap σ H locs) (hls : ls.size = nL) {d ci n idx maxL : Nat} (hd : d < 61) {fs : List Value} {T : u_T} {N : Nat} {y : MethodName} {bytes : ByteArray} {ret : Option FieldType} {rm : Room} {As : List Value} {Q : Int32 → xS → Prop} {g : List Value}
    (hM : xMi l y (.code y bytes maxL ret :: xG) rm V (.ref (V.2.2 d) :: As) σ Q) (hE : xE V d (σ d) = .inr (ci, fs)) (hc : xcl[ci]? = some (y.cls, T, N)) (hY : xY y bytes maxL ret n) (hl : Cond.methodLink own idx y ∈ xG) (hrc : rm.cells = 0) (hrs : rm.slots = 0) (hR : rm.frames + 1 ≤ R.frames ∧ 8 + (maxL + 11) + rm.locals ≤ R.locals)
    (hn : As.length = n) (hg : g = As.reverse ++ .ref (V.2.2 d) :: rest) (hw : (rest.map fun v => v.category).sum ≤ 8) (hdg : decode cc pc = .ok (.invokevirtual idx, 3)) (hf : cells ≤ R.cells ∧ slots ≤ R.slots)
    (kk : ∀ (r : Int32) (τ : xS) (H1 : Heap) (locs1 : List Loc), Q r τ → xI V s.heap τ H1 locs1 → W p l e R s m args below meth c H1 locs1 cells slots Z (F0 m (pc + 3) ls (.int r :: rest))) : W p l e R s m args below meth c H locs cells slots Z (F0 m pc ls g) := by
  subst hg
  refine va_calli (va_runV (As := As) (rest := rest) (Ts := xG) (nL := nL) ⟨C.1, C.2.1, C.2.2.1, C.2.2.2.1, C.2.2.2.2.1⟩ (hM H.size) (x_cw C.2.2.2.2.1 hY hl hrc hrs hR) ⟨xBlind, x_recv C hI hd hE hc, fun U hU hW => ⟨rfl, by rw [hU], by rw [hU]; exact hI.1, ⟨hI.2.1.1, fun _ _ _ => trivial⟩, C.2.2.2.2.2.moved hW⟩⟩ rfl hn hls rfl (lv_room hw) hdg hf) hI.2.2 (fun q _ h => x_free hI q h) (x_free hI) (fun r u t H1 locs1 ht hvm hq hB hz hk hS => ?_)
  exact kk r u H1 locs1 hq ⟨by rw [← ht]; exact hB, xD_any hI.2.1, hS⟩
theorem x_callv (C : xC p s m args c cc nL own V) (hI : xI V s.heap σ H locs) (hls : ls.size = nL) {d ci n idx maxL : Nat} (hd : d < 61) {fs : List Value} {T : u_T} {N : Nat} {y : MethodName} {bytes : ByteArray} {ret : Option FieldType} {rm : Room} {As : List Value} {Q : xS → Prop} {g : List Value}
    (hM : xMv l y (.code y bytes maxL ret :: xG) rm V (.ref (V.2.2 d) :: As) σ Q) (hE : xE V d (σ d) = .inr (ci, fs)) (hc : xcl[ci]? = some (y.cls, T, N)) (hY : xY y bytes maxL ret n) (hl : Cond.methodLink own idx y ∈ xG) (hrc : rm.cells = 0) (hrs : rm.slots = 0) (hR : rm.frames + 1 ≤ R.frames ∧ 8 + (maxL + 11) + rm.locals ≤ R.locals)
    (hn : As.length = n) (hg : g = As.reverse ++ .ref (V.2.2 d) :: rest) (hw : (rest.map fun v => v.category).sum ≤ 8) (hdg : decode cc pc = .ok (.invokevirtual idx, 3)) (hf : cells ≤ R.cells ∧ slots ≤ R.slots)
    (kk : ∀ (τ : xS) (H1 : Heap) (locs1 : List Loc), Q τ → xI V s.heap τ H1 locs1 → W p l e R s m args below meth c H1 locs1 cells slots Z (F0 m (pc + 3) ls rest)) : W p l e R s m args below meth c H locs cells slots Z (F0 m pc ls g) := by
  subst hg
  refine va_callv (va_runV (As := As) (rest := rest) (Ts := xG) (nL := nL) ⟨C.1, C.2.1, C.2.2.1, C.2.2.2.1, C.2.2.2.2.1⟩ (hM H.size) (x_cw C.2.2.2.2.1 hY hl hrc hrs hR) ⟨xBlind, x_recv C hI hd hE hc, fun U hU hW => ⟨rfl, by rw [hU], by rw [hU]; exact hI.1, ⟨hI.2.1.1, fun _ _ _ => trivial⟩, C.2.2.2.2.2.moved hW⟩⟩ rfl hn hls rfl (lv_room hw) hdg hf) hI.2.2 (fun q _ h => x_free hI q h) (x_free hI) (fun u t H1 locs1 ht hvm hq hB hz hk hS => ?_)
  exact kk u H1 locs1 hq ⟨by rw [← ht]; exact hB, xD_any hI.2.1, hS⟩
end XW

theorem xErow (V : xV) {r : Nat} (h : r < 8) (f : Nat → Int32) : xE V (32 + r) f = .inl (V.2.1 0, 40, .inl f) := by
  match r, h with
  | 0, _ => rfl
  | 1, _ => rfl
  | 2, _ => rfl
  | 3, _ => rfl
  | 4, _ => rfl
  | 5, _ => rfl
  | 6, _ => rfl
  | 7, _ => rfl
end
section
theorem x_rown {i : Int32} (h : vp_in i 8) : i.toNatClampNeg < 8 := Nat.not_le.mp fun q => h (Or.inr q)
theorem x_rowlt {i : Int32} (h : vp_in i 8) : 32 + i.toNatClampNeg < 61 := by
  have := x_rown h
  omega
theorem x_ne {x k : Int32} (h : ¬ x = k) {n : Int} (hn : k.toInt = n) : x.toInt ≠ n := fun e => h (Int32.toInt_inj.mp (e.trans hn.symm))
section XM
variable {p : Program} {l : Launch} {e : Env} {R : Room} {s : State} {m : MethodId} {args : Array Value} {below : List Frame} {meth : Method} {c : Code} {H : Heap} {locs : List Loc} {cells slots : Nat} {Z : State → Prop}
variable {cc : ByteArray} {nL pc : Nat} {own : String} {V : xV} {σ : xS} {ls : Array Slot} {rest : List Value}
/-- a row of the regions' table -/
theorem x_aald (C : xC p s m args c cc nL own V) (hI : xI V s.heap σ H locs) {i : Int32} (hin : vp_in i 8) (hdg : decode cc pc = .ok (.aaload, 1))
    (kk : W p l e R s m args below meth c H locs cells slots Z (F0 m (pc + 1) ls (.ref (V.2.2 (32 + i.toNatClampNeg)) :: rest))) : W p l e R s m args below meth c H locs cells slots Z (F0 m pc ls (.int i :: .ref (V.2.2 21) :: rest)) := by
  have hlt := x_rown hin
  have hc := hI.1 21 _ (xw_get (V := V) (σ := σ) (by decide))
  exact W.aald (v := .ref (V.2.2 (32 + i.toNatClampNeg))) (ty := .array .int) C.1 C.2.1 hc ((C.2.2.2.2.2.1.2 3 _ rfl).1 8 (fun j => va_rf (if j < 8 then some (V.2.2 (32 + j)) else none))) rfl (fun q => by cases q) (by show ¬ (i < 0 ∨ (arrV _ _ _).slots.size ≤ _); rw [arrV_size]; exact hin) (by show (arrV _ _ _).slots[_]? = _; rw [arrV_read _ _ hlt]; show some (va_rf (if i.toNatClampNeg < 8 then some (V.2.2 (32 + i.toNatClampNeg)) else none)) = _; rw [if_pos hlt]; rfl) rfl rfl hdg kk
/-- a static method as a callee -/
def xYs (y : MethodName) (bytes : ByteArray) (maxL : Nat) (ret : Option FieldType) (n : Nat) : Prop :=
  Cond.static y ∈ xG ∧ Cond.initialized y.cls ∈ xG ∧ Cond.code y bytes maxL ret ∈ xG ∧ y.cls ≠ "java/lang/invoke/MethodHandle" ∧ y.cls ≠ "java/lang/invoke/VarHandle" ∧ (parseMethodDescriptor y.desc).map (fun d => d.parameters.length) = some n
theorem x_cwS {y : MethodName} {bytes : ByteArray} {maxL n idx : Nat} {ret : Option FieldType} {rm : Room} (hts : ∀ w ∈ xG, w.before args s = true) (hY : xYs y bytes maxL ret n) (hl : Cond.methodLink own idx y ∈ xG) (hrc : rm.cells = 0) (hrs : rm.slots = 0) (hR : rm.frames + 1 ≤ R.frames ∧ 8 + (maxL + 11) + rm.locals ≤ R.locals) :
    CallB R s args own idx y bytes maxL ret (.code y bytes maxL ret :: xG) rm 0 0 n ∧ (Cond.static y).before args s = true := by
  obtain ⟨h1, h3, h4, h5, h6, h7⟩ := hY
  refine ⟨callB_of n hts (fun w h => ?_) rfl hrc hrs (hts _ h3) (hts _ hl) ⟨h5, h6, h7⟩ hR, hts _ h1⟩
  rcases List.mem_cons.mp h with rfl | h
  · exact ⟨h4, good_of_word (xG_good h4)⟩
  · exact ⟨h, good_of_word (xG_good h)⟩
theorem x_calliS (C : xC p s m args c cc nL own V) (hI : xI V s.heap σ H locs) (hls : ls.size = nL) {n idx maxL : Nat} {y : MethodName} {bytes : ByteArray} {ret : Option FieldType} {rm : Room} {As : List Value} {Q : Int32 → xS → Prop} {g : List Value}
    (hM : xMi l y (.code y bytes maxL ret :: xG) rm V As σ Q) (hY : xYs y bytes maxL ret n) (hl : Cond.methodLink own idx y ∈ xG) (hrc : rm.cells = 0) (hrs : rm.slots = 0) (hR : rm.frames + 1 ≤ R.frames ∧ 8 + (maxL + 11) + rm.locals ≤ R.locals)
    (hn : As.length = n) (hg : g = As.reverse ++ rest) (hw : (rest.map fun v => v.category).sum ≤ 8) (hdg : decode cc pc = .ok (.invokestatic idx, 3)) (hf : cells ≤ R.cells ∧ slots ≤ R.slots)
    (kk : ∀ (r : Int32) (τ : xS) (H1 : Heap) (locs1 : List Loc), Q r τ → xI V s.heap τ H1 locs1 → W p l e R s m args below meth c H1 locs1 cells slots Z (F0 m (pc + 3) ls (.int r :: rest))) : W p l e R s m args below meth c H locs cells slots Z (F0 m pc ls g) := by
  subst hg
  refine va_calli (va_runS (As := As) (rest := rest) (Ts := xG) (nL := nL) ⟨C.1, C.2.1, C.2.2.1, C.2.2.2.1, C.2.2.2.2.1⟩ (hM H.size) (x_cwS C.2.2.2.2.1 hY hl hrc hrs hR) ⟨xBlind, fun U hU hW => ⟨rfl, by rw [hU], by rw [hU]; exact hI.1, ⟨hI.2.1.1, fun _ _ _ => trivial⟩, C.2.2.2.2.2.moved hW⟩⟩ rfl hn hls rfl (lv_room hw) hdg hf) hI.2.2 (fun q _ h => x_free hI q h) (x_free hI) (fun r u t H1 locs1 ht hvm hq hB hz hk hS => ?_)
  exact kk r u H1 locs1 hq ⟨by rw [← ht]; exact hB, xD_any hI.2.1, hS⟩
end XM
end
section
/-! methods that only read; methods that throw (launches without stack traces) -/
def xRi (l : Launch) (y : MethodName) (ws : List Cond) (rm : Room) (V : xV) (av : List Value) (σ : xS) (Q : Int32 → Prop) : Prop :=
  ∀ sz : Nat, Met l y ws rm (va_Pc av (xPre V sz σ)) (vp_Si Q) 0 0 (fun _ => False)
def xRv (l : Launch) (y : MethodName) (ws : List Cond) (rm : Room) (V : xV) (av : List Value) (σ : xS) (Q : Prop) : Prop :=
  ∀ sz : Nat, Met l y ws rm (va_Pc av (xPre V sz σ)) (va_Sv (fun _ => Q)) 0 0 (fun _ => False)
def xTw : List Cond := [.isRef (.static Bundle.tN "UNASSIGNED_STACK" Bundle.steD), .isRef (.static Bundle.tN "SUPPRESSED_SENTINEL" Bundle.listD), .laysStatic Bundle.tN "UNASSIGNED_STACK" Bundle.steD, .laysStatic Bundle.tN "SUPPRESSED_SENTINEL" Bundle.listD]
def xStr : List (Nat × String) := [(241, "no such region"), (229, "no such root"), (244, "no such kind"), (246, "the tag is not 0 .. 999"), (248, "so many fields can't be"), (236, "the root is no reference")]
/-- what a throw asks of the heap and of the texts -/
def xX (U : State) : Prop := (∀ w ∈ xTw, w.before #[] U = true) ∧ ∀ q ∈ xStr, ∃ a, vk_R "RegionPool" q.1 q.2 a U
theorem x_lays {C n d : String} {s U : State} (hW : s.vm.Alike U.vm) (hh : ∀ (q : Nat) (cell : Cell), s.heap[q]? = some cell → cell.vm.isStatics = true → U.heap[q]? = some cell) (h : (Cond.laysStatic C n d).before #[] s = true) : (Cond.laysStatic C n d).before #[] U = true := by
  obtain ⟨c, k, i, f, a, cell, h1, h2, h3, h4, h5, h6, h7, h8, h9⟩ := Cond.laysStatic_spec h
  obtain ⟨k', h20, he⟩ := State.fieldFound?_setVm hW h2
  have h2' : U.fieldFound? C n d = some (c, k', i, f) := h20
  have h1' : U.vm.findClass C = some c := by rw [hW.findClass]; exact h1
  have h4' : k'.statics = some a := by rw [he]; exact h4
  have h9' : k'.staticTypes[f.slot]? = some f.type := by rw [he]; exact h9
  have h5' := hh a cell h5 h6
  simp only [Cond.before, Cond.holds, Cond.value, h1', h2', h4', Option.bind_some, h5', Option.map_some]
  simp [h3, h6, h7, h8, h9']
theorem x_isref {C n d : String} {s U : State} (hW : s.vm.Alike U.vm) (hh : ∀ (q : Nat) (cell : Cell), s.heap[q]? = some cell → cell.vm.isStatics = true → U.heap[q]? = some cell) (hl : (Cond.laysStatic C n d).before #[] s = true) (h : (Cond.isRef (.static C n d)).before #[] s = true) : (Cond.isRef (.static C n d)).before #[] U = true := by
  obtain ⟨c, k, i, f, a, cell, h1, h2, h3, h4, h5, h6, h7, h8, h9⟩ := Cond.laysStatic_spec hl
  obtain ⟨k', h20, he⟩ := State.fieldFound?_setVm hW h2
  have h2' : U.fieldFound? C n d = some (c, k', i, f) := h20
  have h4' : k'.statics = some a := by rw [he]; exact h4
  have h5' := hh a cell h5 h6
  have e1 : (Term.static C n d).eval #[] U none [] U = cell.slots[f.slot]? := by
    simp [Term.eval, State.fieldNamed?, h2', h3, h4', h5', h6]
  have e2 : (Term.static C n d).eval #[] s none [] s = cell.slots[f.slot]? := by
    simp [Term.eval, State.fieldNamed?, h2, h3, h4, h5, h6]
  simp only [Cond.before, Cond.holds, Cond.value] at h ⊢
  rw [e2] at h
  rw [e1]
  exact h
theorem xX.moved {s U : State} (hW : s.WarmedH U.vm) (hh : ∀ (q : Nat) (cell : Cell), s.heap[q]? = some cell → cell.vm.isStatics = true → U.heap[q]? = some cell) (h : xX s) : xX U := by
  obtain ⟨h1, h2⟩ := h
  have a1 := h1 _ (List.mem_of_getElem? (l := xTw) (i := 0) rfl)
  have a2 := h1 _ (List.mem_of_getElem? (l := xTw) (i := 1) rfl)
  have a3 := h1 _ (List.mem_of_getElem? (l := xTw) (i := 2) rfl)
  have a4 := h1 _ (List.mem_of_getElem? (l := xTw) (i := 3) rfl)
  refine ⟨?_, fun q hq => ?_⟩
  · unfold xTw
    exact List.forall_mem_cons.mpr ⟨x_isref hW.alike hh a3 a1, List.forall_mem_cons.mpr ⟨x_isref hW.alike hh a4 a2, List.forall_mem_cons.mpr ⟨x_lays hW.alike hh a3, List.forall_mem_cons.mpr ⟨x_lays hW.alike hh a4, fun _ h => absurd h List.not_mem_nil⟩⟩⟩⟩
  · obtain ⟨a, ha⟩ := h2 q hq
    exact ⟨a, ha.warm hW⟩
theorem xX.same {s U : State} (hv : s.vm = U.vm) (hh : s.heap = U.heap) (h : xX s) : xX U := by
  obtain ⟨h1, h2⟩ := h
  have hA : s.vm.Alike U.vm := by rw [hv]; exact Vm.Alike.refl U.vm
  have hh' : ∀ (q : Nat) (cell : Cell), s.heap[q]? = some cell → cell.vm.isStatics = true → U.heap[q]? = some cell := fun q cell h _ => by rw [← hh]; exact h
  have a1 := h1 _ (List.mem_of_getElem? (l := xTw) (i := 0) rfl)
  have a2 := h1 _ (List.mem_of_getElem? (l := xTw) (i := 1) rfl)
  have a3 := h1 _ (List.mem_of_getElem? (l := xTw) (i := 2) rfl)
  have a4 := h1 _ (List.mem_of_getElem? (l := xTw) (i := 3) rfl)
  refine ⟨?_, fun q hq => ?_⟩
  · unfold xTw
    exact List.forall_mem_cons.mpr ⟨x_isref hA hh' a3 a1, List.forall_mem_cons.mpr ⟨x_isref hA hh' a4 a2, List.forall_mem_cons.mpr ⟨x_lays hA hh' a3, List.forall_mem_cons.mpr ⟨x_lays hA hh' a4, fun _ h => absurd h List.not_mem_nil⟩⟩⟩⟩
  · obtain ⟨a, ha⟩ := h2 q hq
    exact ⟨a, ha.same hv.symm⟩
/-- a method has thrown a new E, and has written nothing -/
def xTh (E : String) : Array Value → State → Outcome → State → Prop := fun _ st o t => ∃ (q : Addr) (ce : Cell), o = .threw q ∧ t.heap[q]? = some ce ∧ ce.vm = .none ∧ st.vm.findClass E = some ce.cls ∧ st.WarmedH t.vm ∧ st.sameButNew ({ t with vm := st.vm } : State) [] 1 6
def xPreT (V : xV) (sz : Nat) (σ : xS) (U : State) : Prop := xPre V sz σ U ∧ xX U
theorem xBlindT {V : xV} {sz : Nat} {σ : xS} {av : List Value} : FrameBlind (va_Pc av (xPreT V sz σ)) := fun a U g mk q => by
  obtain ⟨q0, ⟨q1, q2, q3, q4⟩, q5⟩ := q
  exact ⟨q0, ⟨q1, q2, q3, q4.same rfl⟩, xX.same (s := U) (U := U.calling g mk a) rfl rfl q5⟩
def xMt (l : Launch) (y : MethodName) (ws : List Cond) (rm : Room) (V : xV) (av : List Value) (σ : xS) (E : String) : Prop :=
  ∀ sz : Nat, MetFree l y (headSpec ws rm) (va_Pc av (xPreT V sz σ)) (fun _ _ _ _ _ => True) (xTh E)
def xZt (E : String) (below : List Frame) (args : Array Value) (s : State) : State → Prop := fun t => ∃ o, t.status = .running ∧ Ended t below o ∧ xTh E args s o t
section XT
variable {p : Program} {l : Launch} {e : Env} {R : Room} {s : State} {m : MethodId} {args : Array Value} {below : List Frame} {meth : Method} {c : Code} {H : Heap} {locs : List Loc} {cells slots : Nat} {Z : State → Prop}
variable {cc : ByteArray} {nL pc : Nat} {own : String} {V : xV} {σ : xS} {ls : Array Slot} {rest : List Value}
theorem x_beginri {y : MethodName} {bytes : ByteArray} {maxL : Nat} {ret : Option FieldType} {rm : Room} {av : List Value} {Q : Int32 → Prop} (hy : plainName y.cls = true) (hav : (lg_sl av).length ≤ maxL)
    (body : ∀ (p : Program) (e : Env) (s : State) (m : MethodId) (below : List Frame) (meth : Method) (c : Code) (ls : Array Slot), xC p s m av.toArray c bytes maxL y.cls V → meth.locks = false → meth.sig.returnType = ret → xI V s.heap σ s.heap [] → lv_has ls maxL (lv_args 0 av) →
      W p l e rm s m av.toArray below meth c s.heap [] 0 0 (MQ below (vp_Si Q) av.toArray s 0 0 (fun _ => False)) (F0 m 0 ls [])) : xRi l y (.code y bytes maxL ret :: xG) rm V av σ Q := by
  intro sz
  refine Met.ofW (cc := bytes) (maxL := maxL) (ret := ret) hy rfl ?_
  intro p e s m args below meth c s₁ B hml hv
  obtain ⟨rfl, hsz, hP, hD, hK⟩ := hv
  subst hsz
  have hts := atoms_spec (ws := .code y bytes maxL ret :: xG) B.pre
  have hl := lv_entry av (n := maxL) hav
  rw [lg_entry_eq]
  exact body p e s m below meth c _ ⟨B.exec, B.bytes, hml, findClass_of_methodNamed B.named, fun w h => hts w (List.mem_cons_of_mem _ h), hK⟩ B.notSynchronized B.returns ⟨hP, xD_self hD, va_S.rf⟩ hl
theorem x_beginrv {y : MethodName} {bytes : ByteArray} {maxL : Nat} {ret : Option FieldType} {rm : Room} {av : List Value} {Q : Prop} (hy : plainName y.cls = true) (hav : (lg_sl av).length ≤ maxL)
    (body : ∀ (p : Program) (e : Env) (s : State) (m : MethodId) (below : List Frame) (meth : Method) (c : Code) (ls : Array Slot), xC p s m av.toArray c bytes maxL y.cls V → meth.locks = false → meth.sig.returnType = ret → xI V s.heap σ s.heap [] → lv_has ls maxL (lv_args 0 av) →
      W p l e rm s m av.toArray below meth c s.heap [] 0 0 (MQ below (va_Sv (fun _ => Q)) av.toArray s 0 0 (fun _ => False)) (F0 m 0 ls [])) : xRv l y (.code y bytes maxL ret :: xG) rm V av σ Q := by
  intro sz
  refine Met.ofW (cc := bytes) (maxL := maxL) (ret := ret) hy rfl ?_
  intro p e s m args below meth c s₁ B hml hv
  obtain ⟨rfl, hsz, hP, hD, hK⟩ := hv
  subst hsz
  have hts := atoms_spec (ws := .code y bytes maxL ret :: xG) B.pre
  have hl := lv_entry av (n := maxL) hav
  rw [lg_entry_eq]
  exact body p e s m below meth c _ ⟨B.exec, B.bytes, hml, findClass_of_methodNamed B.named, fun w h => hts w (List.mem_cons_of_mem _ h), hK⟩ B.notSynchronized B.returns ⟨hP, xD_self hD, va_S.rf⟩ hl
theorem x_begint {y : MethodName} {bytes : ByteArray} {maxL : Nat} {ret : Option FieldType} {rm : Room} {av : List Value} {E : String} (hy : plainName y.cls = true) (hav : (lg_sl av).length ≤ maxL)
    (body : ∀ (p : Program) (e : Env) (s : State) (m : MethodId) (below : List Frame) (meth : Method) (c : Code) (ls : Array Slot), xC p s m av.toArray c bytes maxL y.cls V → meth.locks = false → c.exceptionTable.toList = [] → xI V s.heap σ s.heap [] → xX s → lv_has ls maxL (lv_args 0 av) →
      W p l e rm s m av.toArray below meth c s.heap [] 0 0 (xZt E below av.toArray s) (F0 m 0 ls [])) : xMt l y (.code y bytes maxL ret :: xG) rm V av σ E := by
  intro sz
  refine MetFree.of_bodyS (code := bytes) (maxLocals := maxL) (ret := ret) hy ?_ ?_
  · intro args s m h hn
    obtain ⟨meth, c, h1, h2, h3, h4, h5, h6, -, -⟩ := Cond.code_spec hn (atoms_spec (ws := .code y bytes maxL ret :: xG) h _ List.mem_cons_self)
    exact ⟨meth, c, h1, h2, h3, h4, h5, h6⟩
  · intro p e s m args below meth c s₁ B hml hv _
    obtain ⟨rfl, ⟨hsz, hP, hD, hK⟩, hX⟩ := hv
    subst hsz
    have hts := atoms_spec (ws := .code y bytes maxL ret :: xG) B.pre
    obtain ⟨meth', c', hm', hc', -, -, -, -, hem, -⟩ := Cond.code_spec B.named (hts _ List.mem_cons_self)
    have X₀ : Stand p l e rm s m av.toArray below meth c s₁ [] 0 0 := Stand.of_body B
    cases B.method.symm.trans hm'
    cases X₀.code.symm.trans hc'
    have he : c.exceptionTable.toList = [] := by
      have h0 : c.exceptionTable.size = 0 := by simpa [Array.isEmpty] using hem
      exact List.eq_nil_of_length_eq_zero (by simpa using h0)
    have hl := lv_entry av (n := maxL) hav
    have hh0 : s₁.heap = s.heap := by rw [B.state]; rfl
    have K := body p e s m below meth c _ ⟨B.exec, B.bytes, hml, findClass_of_methodNamed B.named, fun w h => hts w (List.mem_cons_of_mem _ h), hK⟩ B.notSynchronized he ⟨hP, xD_self hD, va_S.rf⟩ hX hl
    rw [← lg_entry_eq] at K
    obtain ⟨t, a1, o, b1, b2, b3⟩ := K s₁ hh0 X₀
    exact ⟨t, o, a1, b1, b2, b3⟩
theorem x_riret {Q : Int32 → Prop} {v : Int32} (C : xC p s m args c cc nL own V) (hlocks : meth.locks = false) (hr : meth.sig.returnType = some .int) (hQ : Q v) (hdg : decode cc pc = .ok (.ireturn, 1)) : W p l e R s m args below meth c s.heap [] 0 0 (MQ below (vp_Si Q) args s 0 0 (fun _ => False)) (F0 m pc ls [.int v]) :=
  W.iret (v := v) C.1 C.2.1 hr (fun t ht _ => ⟨v, rfl, hQ, ht⟩) (fun _ h => by cases h) hdg
theorem x_rzret {Q : Int32 → Prop} {v : Int32} (C : xC p s m args c cc nL own V) (hlocks : meth.locks = false) (hr : meth.sig.returnType = some .boolean) (hQ : narrow .boolean (.int v) = .int v ∧ Q v) (hdg : decode cc pc = .ok (.ireturn, 1)) : W p l e R s m args below meth c s.heap [] 0 0 (MQ below (vp_Si Q) args s 0 0 (fun _ => False)) (F0 m pc ls [.int v]) :=
  W.zret (v := v) C.1 C.2.1 hr hQ.1 (fun t ht _ => ⟨v, rfl, hQ.2, ht⟩) (fun _ h => by cases h) hdg
theorem x_rvret {Q : Prop} (C : xC p s m args c cc nL own V) (hlocks : meth.locks = false) (hr : meth.sig.returnType = none) (hQ : Q) (hdg : decode cc pc = .ok (.return_, 1)) : W p l e R s m args below meth c s.heap [] 0 0 (MQ below (va_Sv (fun _ => Q)) args s 0 0 (fun _ => False)) (F0 m pc ls []) :=
  W.vret C.1 C.2.1 hr (fun t ht _ => ⟨rfl, hQ, ht⟩) (fun _ h => by cases h) hdg
theorem x_rcalli (C : xC p s m args c cc nL own V) (hI : xI V s.heap σ H locs) (hls : ls.size = nL) {d ci n idx maxL : Nat} (hd : d < 61) {fs : List Value} {T : u_T} {N : Nat} {y : MethodName} {bytes : ByteArray} {ret : Option FieldType} {rm : Room} {As : List Value} {Q : Int32 → Prop} {g : List Value}
    (hM : xRi l y (.code y bytes maxL ret :: xG) rm V (.ref (V.2.2 d) :: As) σ Q) (hE : xE V d (σ d) = .inr (ci, fs)) (hc : xcl[ci]? = some (y.cls, T, N)) (hY : xY y bytes maxL ret n) (hl : Cond.methodLink own idx y ∈ xG) (hrc : rm.cells = 0) (hrs : rm.slots = 0) (hR : rm.frames + 1 ≤ R.frames ∧ 8 + (maxL + 11) + rm.locals ≤ R.locals)
    (hn : As.length = n) (hg : g = As.reverse ++ .ref (V.2.2 d) :: rest) (hw : (rest.map fun v => v.category).sum ≤ 8) (hdg : decode cc pc = .ok (.invokevirtual idx, 3)) (hf : cells ≤ R.cells ∧ slots ≤ R.slots)
    (kk : ∀ (r : Int32), Q r → W p l e R s m args below meth c H locs cells slots Z (F0 m (pc + 3) ls (.int r :: rest))) : W p l e R s m args below meth c H locs cells slots Z (F0 m pc ls g) := by
  subst hg
  exact vp_callSi (W.runV (As := As) (rest := rest) (Ts := xG) (nL := nL) ⟨C.1, C.2.1, C.2.2.1, C.2.2.2.1, C.2.2.2.2.1⟩ (hM H.size) (x_cw C.2.2.2.2.1 hY hl hrc hrs hR) ⟨xBlind, x_recv C hI hd hE hc, fun U hU hW => ⟨rfl, by rw [hU], by rw [hU]; exact hI.1, ⟨hI.2.1.1, fun _ _ _ => trivial⟩, C.2.2.2.2.2.moved hW⟩⟩ rfl hn hls rfl (lv_room hw) hdg hf) (fun r hq => kk r hq)
theorem x_rcallv (C : xC p s m args c cc nL own V) (hI : xI V s.heap σ H locs) (hls : ls.size = nL) {d ci n idx maxL : Nat} (hd : d < 61) {fs : List Value} {T : u_T} {N : Nat} {y : MethodName} {bytes : ByteArray} {ret : Option FieldType} {rm : Room} {As : List Value} {Q : Prop} {g : List Value}
    (hM : xRv l y (.code y bytes maxL ret :: xG) rm V (.ref (V.2.2 d) :: As) σ Q) (hE : xE V d (σ d) = .inr (ci, fs)) (hc : xcl[ci]? = some (y.cls, T, N)) (hY : xY y bytes maxL ret n) (hl : Cond.methodLink own idx y ∈ xG) (hrc : rm.cells = 0) (hrs : rm.slots = 0) (hR : rm.frames + 1 ≤ R.frames ∧ 8 + (maxL + 11) + rm.locals ≤ R.locals)
    (hn : As.length = n) (hg : g = As.reverse ++ .ref (V.2.2 d) :: rest) (hw : (rest.map fun v => v.category).sum ≤ 8) (hdg : decode cc pc = .ok (.invokevirtual idx, 3)) (hf : cells ≤ R.cells ∧ slots ≤ R.slots)
    (kk : Q → W p l e R s m args below meth c H locs cells slots Z (F0 m (pc + 3) ls rest)) : W p l e R s m args below meth c H locs cells slots Z (F0 m pc ls g) := by
  subst hg
  have hr := va_runV (p := p) (e := e) (below := below) (meth := meth) (locs := locs) (cells := cells) (slots := slots) (g := F0 m pc ls (As.reverse ++ .ref (V.2.2 d) :: rest)) (As := As) (rest := rest) (Ts := xG) (nL := nL) ⟨C.1, C.2.1, C.2.2.1, C.2.2.2.1, C.2.2.2.2.1⟩ (hM H.size) (x_cw C.2.2.2.2.1 hY hl hrc hrs hR) ⟨xBlind, x_recv C hI hd hE hc, fun U hU hW => ⟨rfl, by rw [hU], by rw [hU]; exact hI.1, ⟨hI.2.1.1, fun _ _ _ => trivial⟩, C.2.2.2.2.2.moved hW⟩⟩ rfl hn hls rfl (lv_room hw) hdg hf
  intro T hT X
  obtain ⟨v, st₀, t, T', L, h0, X', hL, e1, -, ⟨hv, hp, hh⟩, st⟩ := hr T hT X
  cases hv
  obtain ⟨t2, a1, b1⟩ := kk hp T' (by rw [e1, hh, h0]) (Stand.forget X' (fun q h => (hL q h).elim))
  exact ⟨t2, st t2 a1, b1⟩
/-- a read-only contract serves as any other -/
theorem xRv.toM {y : MethodName} {ws : List Cond} {rm : Room} {av : List Value} {Q : xS → Prop} (h : xRv l y ws rm V av σ (Q σ)) : xMv l y ws rm V av σ Q := by
  intro sz p e ha hc hk s m args below hf happ hP hK
  obtain ⟨n, o, h1, h2, h3, ⟨h4, h5, h6⟩, L, h7, h8⟩ := h sz p e ha hc hk s m args below hf happ hP hK
  exact ⟨n, o, h1, h2, h3, ⟨⟨σ, h4, h5, by unfold xPost; rw [h6]; exact hP.2.2.1⟩, by rw [h6]; exact Nat.le_refl _, fun q _ _ => by rw [h6]⟩, L, h7, fun q hq => (h8 q hq).elim⟩
end XT
end
section
section XU
variable {p : Program} {l : Launch} {e : Env} {R : Room} {s : State} {m : MethodId} {args : Array Value} {below : List Frame} {meth : Method} {c : Code} {Z : State → Prop}
variable {cc : ByteArray} {nL pc : Nat} {own : String} {V : xV} {σ : xS} {ls : Array Slot} {rest : List Value}
/-- the words of a throw: the tables', and the four that speak of the heap -/
theorem x_atoms {L : List Cond} (hts : ∀ w ∈ xG, w.before args s = true) (hX : xX s) (h : ∀ w ∈ L, w ∈ xG ∨ w ∈ xTw) : ∀ w ∈ L, w.before args s = true := by
  intro w hw
  rcases h w hw with h | h
  · exact hts w h
  · have h1 := hX.1 w h
    unfold xTw at h
    rcases List.mem_cons.mp h with rfl | h
    · exact h1
    · rcases List.mem_cons.mp h with rfl | h
      · exact h1
      · rcases List.mem_cons.mp h with rfl | h
        · exact h1
        · rcases List.mem_cons.mp h with rfl | h
          · exact h1
          · exact absurd h List.not_mem_nil
theorem x_throwS (hfl : l.flags = flags0) (C : xC p s m args c cc nL "RegionPool" V) (hlocks : meth.locks = false) (hem : c.exceptionTable.toList = []) (hX : xX s) (hls : ls.size = nL) {E : String} {names : List String} {ik is ic : Nat} {tx : String} (hstr : (is, tx) ∈ xStr)
    (hat : ∀ w ∈ Bundle.ownAtoms "RegionPool" ic E names, w ∈ xG ∨ w ∈ xTw) (hcl : Cond.classLink "RegionPool" ik E ∈ xG) (hin : Cond.instantiable E 6 ∈ xG) (hini : Cond.initialized E ∈ xG) (hfit : Bundle.fit E = true) (hnames : ∀ n ∈ names, Bundle.fit n = true)
    (hRf : names.length + 3 < R.frames) (hRl : 13 * (names.length + 1) + 43 ≤ R.locals) (hRc : 1 ≤ R.cells) (hRs : 6 ≤ R.slots)
    (d0 : decode cc pc = .ok (.new ik, 3)) (d3 : decode cc (pc + 3) = .ok (.dup, 1)) (d4 : decode cc (pc + 4) = .ok (.ldc is, 2)) (d6 : decode cc (pc + 6) = .ok (.invokespecial ic, 3)) (d9 : decode cc (pc + 9) = .ok (.athrow, 1)) :
    W p l e R s m args below meth c s.heap [] 0 0 (xZt E below args s) (F0 m pc ls []) := by
  obtain ⟨hx, hb, hml, hown, hts, hK⟩ := C
  obtain ⟨sa, hZ⟩ := hX.2 _ hstr
  refine W.newc (n := 6) (g := F0 m pc ls []) hx hb hown (hts _ hcl) (hts _ hin) (hts _ hini) rfl d0 (by omega) (by omega) (fun cX kX e1 e2 e3 e4 => ?_)
  refine lv_dup hx hb d3 rfl ?_
  refine va_ldcS hx hb hown hZ d4 ?_
  intro T hT X
  have htr : e.platform.stackTraces = false := Launch.traces_off hfl X.admits
  obtain ⟨U, hsteps, hrun, hend, hW, hsame, ce, hce, hO⟩ := X.ctorThrowS hx htr (own := "RegionPool") (cls := E) (names := names) (ic := ic) hown hfit hnames (x_atoms hts hX hat) (fun x hx => nomatch hx) e1 e2 (a := s.heap.size) (by rw [hT]; simp) (Nat.le_refl _) (msg := .ref sa) rfl (g := F0 m (pc + 3 + 1 + 2) ls [.ref sa, .ref s.heap.size, .ref s.heap.size]) rfl (hls.trans hml.symm) rfl rfl (rest := []) rfl (by rw [hb]; exact d6) (by rw [hb]; exact d9) (by rw [hem]; exact fun _ h => nomatch h) hRf (by simp only [JFrame.monitorRoom]; simp; simp [Value.category]; omega) hlocks
  exact ⟨U, hsteps, .threw s.heap.size, hrun, hend, s.heap.size, ce, rfl, hce, hO.vm, hO.cls, hW, hsame⟩
theorem x_cwT {y : MethodName} {bytes : ByteArray} {maxL n idx : Nat} {ret : Option FieldType} {rm : Room} (hts : ∀ w ∈ xG, w.before args s = true) (hY : xY y bytes maxL ret n) (hl : Cond.methodLink own idx y ∈ xG) (hrc : rm.cells = 1) (hrs : rm.slots = 6) (hR : rm.frames + 1 ≤ R.frames ∧ 8 + (maxL + 11) + rm.locals ≤ R.locals) :
    CallW R s args own y.cls idx y bytes maxL ret (.code y bytes maxL ret :: xG) rm 1 6 n := by
  obtain ⟨h1, h2, h3, h4, h5, h6, h7⟩ := hY
  refine ⟨callB_of n hts (fun w h => ?_) rfl hrc hrs (hts _ h3) (hts _ hl) ⟨h5, h6, h7⟩ hR, hts _ h1, hts _ h2⟩
  rcases List.mem_cons.mp h with rfl | h
  · exact ⟨h4, good_of_word (xG_good h4)⟩
  · exact ⟨h, good_of_word (xG_good h)⟩
/-- a call whose method throws: the exception lies over this frame -/
theorem x_thrown (C : xC p s m args c cc nL own V) (hI : xI V s.heap σ s.heap []) (hX : xX s) (hls : ls.size = nL) {d ci n idx maxL : Nat} (hd : d < 61) {fs : List Value} {T0 : u_T} {N : Nat} {y : MethodName} {bytes : ByteArray} {ret : Option FieldType} {rm : Room} {As : List Value} {E : String} {g : List Value}
    (hM : xMt l y (.code y bytes maxL ret :: xG) rm V (.ref (V.2.2 d) :: As) σ E) (hE : xE V d (σ d) = .inr (ci, fs)) (hc : xcl[ci]? = some (y.cls, T0, N)) (hY : xY y bytes maxL ret n) (hl : Cond.methodLink own idx y ∈ xG) (hrc : rm.cells = 1) (hrs : rm.slots = 6) (hR : rm.frames + 1 ≤ R.frames ∧ 8 + (maxL + 11) + rm.locals ≤ R.locals)
    (hn : As.length = n) (hg : g = As.reverse ++ .ref (V.2.2 d) :: rest) (hw : (rest.map fun v => v.category).sum ≤ 8) (hdg : decode cc pc = .ok (.invokevirtual idx, 3)) (hf : 1 ≤ R.cells ∧ 6 ≤ R.slots)
    (kk : ∀ (T : State) (q : Addr) (ce : Cell), Stand p l e R s m args below meth c T [] 1 6 → T.heap[q]? = some ce → ce.vm = .none → s.vm.findClass E = some ce.cls → (∀ x : Nat, x < s.heap.size → T.heap[x]? = s.heap[x]?) → s.heap.size ≤ T.heap.size → ∃ t, Steps p.tables e below ((T.setTop (F0 m pc ls rest)).pushFrame (.throwing q)) t ∧ Z t) :
    W p l e R s m args below meth c s.heap [] 0 0 Z (F0 m pc ls g) := by
  subst hg
  obtain ⟨⟨-, -, hfr0, hlo0, hws, hcw, hcode, hini, hy, hlen, hlk⟩, hin, hse⟩ := x_cwT (args := args) (s := s) (R := R) C.2.2.2.2.1 hY hl hrc hrs hR
  obtain ⟨cellB, hcB, hoB, hclB⟩ := x_recv C hI hd hE hc
  obtain ⟨hx, hb, hml, hown, hts, hK⟩ := id C
  intro T hT X
  obtain ⟨mk, methM, hnamed, hmethM, hstM, habM⟩ := Cond.instanceMethod_spec hin
  obtain ⟨methM', cM, hmethM', -, -, -, -, -, -, hsigM⟩ := Cond.code_spec hnamed hcode
  cases hmethM.symm.trans hmethM'
  obtain ⟨c2, r2, m2, q1, q2, q3, q4, kP, hkP, hkPi⟩ := Cond.selects_spec hse
  cases hclB.symm.trans q1
  cases (State.methodFound?_of_named hnamed hy).symm.trans q2
  cases hnamed.symm.trans q3
  have hselP : selectMethod e.platform s.vm cellB.cls mk = .method mk := by rw [Launch.admits_selectMethod X.admits]; exact q4
  have hdg' : decode c.code (F0 m pc ls (As.reverse ++ .ref (V.2.2 d) :: rest)).pc = .ok (.invokevirtual idx, 3) := by rw [hb]; exact hdg
  obtain ⟨vm₁, X₁, hstep₁⟩ := X.invokevirtual hx hown hlk hnamed hmethM hstM hkP hkPi hy (a := V.2.2 d) (cell := cellB) (by rw [hT]; exact hcB)
    (fun z h => by rw [h] at hoB; cases hoB) hselP hmethM habM hkP hkPi (g := F0 m pc ls (As.reverse ++ .ref (V.2.2 d) :: rest)) rfl (argsL := As) (rest := rest) (hn.trans (hlen _ hsigM)) rfl hdg'
  generalize hU : T.setVm vm₁ = U at X₁ hstep₁
  have hUh : U.heap = s.heap := by rw [← hU]; exact hT
  have hnU : U.methodNamed? y = some mk := X₁.named hnamed
  have h : At U m c below := X₁.here
  have h1 : (headSpec (.code y bytes maxL ret :: xG) rm).pre.before (Value.ref (V.2.2 d) :: As).toArray U = true := atoms_intro fun w hw => hws w hw _ _ X₁.warmed
  have h2 : (Cond.code y bytes maxL ret).before (Value.ref (V.2.2 d) :: As).toArray U = true := hws _ hcw _ _ X₁.warmed
  have h3 : (Cond.initialized y.cls).before (Value.ref (V.2.2 d) :: As).toArray U = true := word_at X₁.warmed (Or.inl (by first | rfl | simp [Cond.onTables, Cond.keeps, Cond.steady])) hini
  obtain ⟨methY, cY, hmY, hcY, -, hlY, -, -, -, -⟩ := Cond.code_spec hnU h2
  obtain ⟨kY, hkY, -⟩ := className_of_methodNamed hnU
  have hinitY : kY.init = .initialized := Cond.initialized_spec (findClass_of_methodNamed hnU) hkY h3
  have hroom := lv_room (m := m) (pc := pc) (ls := ls) (rest := rest) hw
  have happ : (headSpec (.code y bytes maxL ret :: xG) rm).appliesLoose y e.platform (U.calling (F0 m pc ls rest) mk (Value.ref (V.2.2 d) :: As).toArray) = true :=
    Spec.appliesLoose_calling (g := F0 m pc ls rest) h hdg' hnU hkY hinitY
      (X₁.room_calling (g := F0 m pc ls rest) (R' := rm) (hls.trans hml.symm) hmY hcY hfr0 (by rw [hlY]; show 2 * (F0 m pc ls rest).monitorRoom + (rest.map fun v => v.category).sum + (maxL + 11) + rm.locals ≤ R.locals; omega) (by rw [hrc]; omega) (by rw [hrs]; omega)) h1
  obtain ⟨mid, hmid⟩ := h.above
  have hfr : (U.setTop (F0 m pc ls rest)).frames = (.java (F0 m pc ls rest) :: mid) ++ below := by rw [State.frames_setTop' _ h.top, hmid]; rfl
  have hPc : va_Pc (.ref (V.2.2 d) :: As) (xPreT V s.heap.size σ) (Value.ref (V.2.2 d) :: As).toArray (U.calling (F0 m pc ls rest) mk (Value.ref (V.2.2 d) :: As).toArray) :=
    xBlindT _ U _ _ ⟨rfl, ⟨by rw [hUh], by rw [hUh]; exact hI.1, ⟨hI.2.1.1, fun _ _ _ => trivial⟩, hK.moved X₁.warmed⟩, hX.moved X₁.warmed (fun q cell hq _ => by rw [hUh]; exact hq)⟩
  obtain ⟨o, s₂, hsteps, -, hend, hq⟩ := Steps.callFree (hM s.heap.size) p X.admits X.cas X.clock (acts := []) hfr happ hPc trivial
  have hq' : xTh E (Value.ref (V.2.2 d) :: As).toArray (U.calling (F0 m pc ls rest) mk (Value.ref (V.2.2 d) :: As).toArray) o s₂ := hq
  obtain ⟨q, ce, rfl, hce, hcv, hcl, hW₂, hsm⟩ := hq'
  rw [State.frames_setTop' _ h.top] at hend
  have hf₂ : s₂.frames = .throwing q :: .java (F0 m pc ls rest) :: U.frames.tail := hend
  obtain ⟨g₀, hg0⟩ := Option.isSome_iff_exists.mp h.top
  obtain ⟨r, hr⟩ := State.topJava?_eq_some.mp hg0
  obtain ⟨e2, w2, w3, w4, w5, w6⟩ := id hsm
  have hW' : U.WarmedH s₂.vm := hW₂
  have e3 : s₂ = ({ (U.calling (F0 m pc ls rest) mk (Value.ref (V.2.2 d) :: As).toArray).setFrames s₂.frames with heap := s₂.heap, slotsUsed := s₂.slotsUsed } : State).setVm s₂.vm := by
    have h9 : s₂ = ({ s₂ with vm := (U.calling (F0 m pc ls rest) mk (Value.ref (V.2.2 d) :: As).toArray).vm } : State).setVm s₂.vm := rfl
    rw [e2] at h9
    exact h9
  have hr' : (({ U with heap := s₂.heap, slotsUsed := s₂.slotsUsed } : State).setVm s₂.vm).frames = .java g₀ :: r := hr
  have hs₂ : s₂ = ((({ U with heap := s₂.heap, slotsUsed := s₂.slotsUsed } : State).setVm s₂.vm).setTop (F0 m pc ls rest)).pushFrame (.throwing q) := by
    refine e3.trans ?_
    rw [hf₂, State.calling_eq h.top, State.setFrames_setFrames, State.pushFrame, State.frames_setTop _ hr', State.setTop_of_frames _ hr', State.setFrames_setFrames, hr]
    rfl
  have hsame : U.sameButNew ({ U with heap := s₂.heap, slotsUsed := s₂.slotsUsed } : State) [] 1 6 := by
    refine ⟨?_, w2, w3, w4, w5, w6⟩
    obtain ⟨t, ht, -⟩ := State.frames_cons hr
    show ({ U with heap := s₂.heap, slotsUsed := s₂.slotsUsed } : State) = { U.setFrames U.frames with heap := s₂.heap, slotsUsed := s₂.slotsUsed }
    rw [State.setFrames_self ht]
  have XS : Stand p l e R s m args below meth c (({ U with heap := s₂.heap, slotsUsed := s₂.slotsUsed } : State).setVm s₂.vm) [] 1 6 :=
    ⟨X.admits, X.cas, X.clock, X.frames, X.room, X.hears, X.method, X.code, (h.setHeapUsed s₂.heap s₂.slotsUsed).setVm hW'.alike, X₁.tail, State.WarmedH.trans X₁.warmed hW', X₁.limits, X₁.bytes, X₁.same.trans (hsame.setVm s.vm)⟩
  have hcl' : s.vm.findClass E = some ce.cls := by rw [← X₁.warmed.alike.findClass]; exact hcl
  have hold : ∀ x : Nat, x < s.heap.size → s₂.heap[x]? = s.heap[x]? := by
    intro x hx9
    obtain ⟨c9, z1, z2, z3, z4⟩ := w6 x _ (Array.getElem?_eq_getElem (xs := U.heap) (i := x) (by rw [hUh]; exact hx9))
    have hs9 : c9.slots = (U.heap[x]'(by rw [hUh]; exact hx9)).slots := Array.ext_getElem? fun i => z4 i (fun hm => nomatch hm)
    have h9 : c9 = U.heap[x]'(by rw [hUh]; exact hx9) := by
      rw [hs9] at z2
      exact z2
    have z5 : s₂.heap[x]? = some c9 := z1
    have hz : U.heap[x]? = s.heap[x]? := by rw [hUh]
    rw [z5, h9, ← hz, Array.getElem?_eq_getElem (by rw [hUh]; exact hx9)]
  have hsz : s.heap.size ≤ s₂.heap.size := by
    have : U.heap.size ≤ s₂.heap.size := w2
    rw [hUh] at this
    exact this
  obtain ⟨t, a1, b1⟩ := kk _ q ce XS hce hcv hcl' hold hsz
  rw [← hs₂] at a1
  exact ⟨t, hstep₁ _ (fun acts => by rw [doInvoke_state]; exact hsteps.trans a1), b1⟩
/-- .. and nobody catches it here -/
theorem x_tcall (C : xC p s m args c cc nL own V) (hI : xI V s.heap σ s.heap []) (hX : xX s) (hlocks : meth.locks = false) (hem : c.exceptionTable.toList = []) (hls : ls.size = nL) {d ci n idx maxL : Nat} (hd : d < 61) {fs : List Value} {T0 : u_T} {N : Nat} {y : MethodName} {bytes : ByteArray} {ret : Option FieldType} {rm : Room} {As : List Value} {E : String} {g : List Value}
    (hM : xMt l y (.code y bytes maxL ret :: xG) rm V (.ref (V.2.2 d) :: As) σ E) (hE : xE V d (σ d) = .inr (ci, fs)) (hc : xcl[ci]? = some (y.cls, T0, N)) (hY : xY y bytes maxL ret n) (hl : Cond.methodLink own idx y ∈ xG) (hrc : rm.cells = 1) (hrs : rm.slots = 6) (hR : rm.frames + 1 ≤ R.frames ∧ 8 + (maxL + 11) + rm.locals ≤ R.locals)
    (hn : As.length = n) (hg : g = As.reverse ++ .ref (V.2.2 d) :: rest) (hw : (rest.map fun v => v.category).sum ≤ 8) (hdg : decode cc pc = .ok (.invokevirtual idx, 3)) (hf : 1 ≤ R.cells ∧ 6 ≤ R.slots) :
    W p l e R s m args below meth c s.heap [] 0 0 (xZt E below args s) (F0 m pc ls g) := by
  refine x_thrown C hI hX hls hd hM hE hc hY hl hrc hrs hR hn hg hw hdg hf (fun T q ce XS h1 h2 h3 h4 h5 => ?_)
  obtain ⟨st1, hrun, hend, hW, hsm⟩ := XS.leaveThrown q (g := F0 m pc ls rest) rfl rfl rfl (by rw [hem]; exact fun _ h => nomatch h) hlocks
  exact ⟨_, st1, .threw q, hrun, hend, q, ce, rfl, h1, h2, h3, hW, hsm⟩
end XU
end
