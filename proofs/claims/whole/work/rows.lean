section
-- ===== PART A: goes FIRST, ahead of the names: the tables' words, and 'selects' of the private methods out of them =====
/-- a private method of a class that the tables say can be made, by its rows of tables_1 -/
def lw_okq (q : MethodName × Nat) : Prop := (q.1.cls ≠ "java/lang/invoke/MethodHandle" ∧ q.1.cls ≠ "java/lang/invoke/VarHandle") ∧ Cond.instantiable q.1.cls q.2 ∈ tables_1 ∧ Cond.privateMethod q.1 ∈ tables_1 ∧ Cond.instanceMethod q.1 ∈ tables_1
theorem lw_p0 : lw_okq (⟨"RegionPool$Regions", "emptyRow", "(I)V"⟩, 5) := ⟨⟨by decide +kernel, by decide +kernel⟩, List.mem_of_getElem? (i := 70) (by decide +kernel), List.mem_of_getElem? (i := 253) (by decide +kernel), List.mem_of_getElem? (i := 254) (by decide +kernel)⟩
theorem lw_p1 : lw_okq (⟨"RegionPool$Regions", "freePagesBehind", "(III)V"⟩, 5) := ⟨⟨by decide +kernel, by decide +kernel⟩, List.mem_of_getElem? (i := 70) (by decide +kernel), List.mem_of_getElem? (i := 323) (by decide +kernel), List.mem_of_getElem? (i := 324) (by decide +kernel)⟩
theorem lw_p2 : lw_okq (⟨"RegionPool", "checkRegion", "(I)V"⟩, 6) := ⟨⟨by decide +kernel, by decide +kernel⟩, List.mem_of_getElem? (i := 20) (by decide +kernel), List.mem_of_getElem? (i := 411) (by decide +kernel), List.mem_of_getElem? (i := 412) (by decide +kernel)⟩
theorem lw_p3 : lw_okq (⟨"java/lang/Throwable", "fillInStackTrace", "(I)Ljava/lang/Throwable;"⟩, 6) := ⟨⟨by decide +kernel, by decide +kernel⟩, List.mem_of_getElem? (i := 453) (by decide +kernel), List.mem_of_getElem? (i := 451) (by decide +kernel), List.mem_of_getElem? (i := 452) (by decide +kernel)⟩
theorem lw_p4 : lw_okq (⟨"RegionPool$Marker", "reach", "(I)V"⟩, 4) := ⟨⟨by decide +kernel, by decide +kernel⟩, List.mem_of_getElem? (i := 149) (by decide +kernel), List.mem_of_getElem? (i := 499) (by decide +kernel), List.mem_of_getElem? (i := 500) (by decide +kernel)⟩
theorem lw_p5 : lw_okq (⟨"RegionPool$Marker", "followPending", "()V"⟩, 4) := ⟨⟨by decide +kernel, by decide +kernel⟩, List.mem_of_getElem? (i := 149) (by decide +kernel), List.mem_of_getElem? (i := 516) (by decide +kernel), List.mem_of_getElem? (i := 517) (by decide +kernel)⟩
theorem lw_p6 : lw_okq (⟨"RegionPool$Marker", "reachFields", "(II)V"⟩, 4) := ⟨⟨by decide +kernel, by decide +kernel⟩, List.mem_of_getElem? (i := 149) (by decide +kernel), List.mem_of_getElem? (i := 524) (by decide +kernel), List.mem_of_getElem? (i := 525) (by decide +kernel)⟩
theorem lw_p7 : lw_okq (⟨"RegionPool$Marker", "reachByKeys", "()Z"⟩, 4) := ⟨⟨by decide +kernel, by decide +kernel⟩, List.mem_of_getElem? (i := 149) (by decide +kernel), List.mem_of_getElem? (i := 529) (by decide +kernel), List.mem_of_getElem? (i := 530) (by decide +kernel)⟩
theorem lw_p8 : lw_okq (⟨"RegionPool$Collector", "clearWeakFields", "()V"⟩, 5) := ⟨⟨by decide +kernel, by decide +kernel⟩, List.mem_of_getElem? (i := 143) (by decide +kernel), List.mem_of_getElem? (i := 537) (by decide +kernel), List.mem_of_getElem? (i := 538) (by decide +kernel)⟩
theorem lw_p9 : lw_okq (⟨"RegionPool$Collector", "isLiveOf", "(II)Z"⟩, 5) := ⟨⟨by decide +kernel, by decide +kernel⟩, List.mem_of_getElem? (i := 143) (by decide +kernel), List.mem_of_getElem? (i := 541) (by decide +kernel), List.mem_of_getElem? (i := 542) (by decide +kernel)⟩
theorem lw_p10 : lw_okq (⟨"RegionPool$Collector", "clearDeadFields", "(I)V"⟩, 5) := ⟨⟨by decide +kernel, by decide +kernel⟩, List.mem_of_getElem? (i := 143) (by decide +kernel), List.mem_of_getElem? (i := 550) (by decide +kernel), List.mem_of_getElem? (i := 551) (by decide +kernel)⟩
theorem lw_p11 : lw_okq (⟨"RegionPool$Collector", "clearKeyedFields", "()V"⟩, 5) := ⟨⟨by decide +kernel, by decide +kernel⟩, List.mem_of_getElem? (i := 143) (by decide +kernel), List.mem_of_getElem? (i := 566) (by decide +kernel), List.mem_of_getElem? (i := 567) (by decide +kernel)⟩
theorem lw_p12 : lw_okq (⟨"RegionPool$Collector", "slideRegion", "(I)V"⟩, 5) := ⟨⟨by decide +kernel, by decide +kernel⟩, List.mem_of_getElem? (i := 143) (by decide +kernel), List.mem_of_getElem? (i := 580) (by decide +kernel), List.mem_of_getElem? (i := 581) (by decide +kernel)⟩
theorem lw_p13 : lw_okq (⟨"RegionPool$Collector", "slideOrErase", "(II)V"⟩, 5) := ⟨⟨by decide +kernel, by decide +kernel⟩, List.mem_of_getElem? (i := 143) (by decide +kernel), List.mem_of_getElem? (i := 590) (by decide +kernel), List.mem_of_getElem? (i := 591) (by decide +kernel)⟩
theorem lw_p14 : lw_okq (⟨"RegionPool$Regions", "nextPlaces", "(II)I"⟩, 5) := ⟨⟨by decide +kernel, by decide +kernel⟩, List.mem_of_getElem? (i := 70) (by decide +kernel), List.mem_of_getElem? (i := 600) (by decide +kernel), List.mem_of_getElem? (i := 601) (by decide +kernel)⟩
theorem lw_p15 : lw_okq (⟨"RegionPool", "checkRoot", "(I)V"⟩, 6) := ⟨⟨by decide +kernel, by decide +kernel⟩, List.mem_of_getElem? (i := 20) (by decide +kernel), List.mem_of_getElem? (i := 637) (by decide +kernel), List.mem_of_getElem? (i := 638) (by decide +kernel)⟩
def lw_privs_1 : List (MethodName × Nat) := [(⟨"RegionPool$Regions", "emptyRow", "(I)V"⟩, 5), (⟨"RegionPool$Regions", "freePagesBehind", "(III)V"⟩, 5), (⟨"RegionPool", "checkRegion", "(I)V"⟩, 6), (⟨"java/lang/Throwable", "fillInStackTrace", "(I)Ljava/lang/Throwable;"⟩, 6), (⟨"RegionPool$Marker", "reach", "(I)V"⟩, 4), (⟨"RegionPool$Marker", "followPending", "()V"⟩, 4), (⟨"RegionPool$Marker", "reachFields", "(II)V"⟩, 4), (⟨"RegionPool$Marker", "reachByKeys", "()Z"⟩, 4), (⟨"RegionPool$Collector", "clearWeakFields", "()V"⟩, 5), (⟨"RegionPool$Collector", "isLiveOf", "(II)Z"⟩, 5), (⟨"RegionPool$Collector", "clearDeadFields", "(I)V"⟩, 5), (⟨"RegionPool$Collector", "clearKeyedFields", "()V"⟩, 5), (⟨"RegionPool$Collector", "slideRegion", "(I)V"⟩, 5), (⟨"RegionPool$Collector", "slideOrErase", "(II)V"⟩, 5), (⟨"RegionPool$Regions", "nextPlaces", "(II)I"⟩, 5), (⟨"RegionPool", "checkRoot", "(I)V"⟩, 6)]
theorem lw_r1 : ∀ q ∈ lw_privs_1, lw_okq q := List.forall_mem_cons.mpr ⟨lw_p0, List.forall_mem_cons.mpr ⟨lw_p1, List.forall_mem_cons.mpr ⟨lw_p2, List.forall_mem_cons.mpr ⟨lw_p3, List.forall_mem_cons.mpr ⟨lw_p4, List.forall_mem_cons.mpr ⟨lw_p5, List.forall_mem_cons.mpr ⟨lw_p6, List.forall_mem_cons.mpr ⟨lw_p7, List.forall_mem_cons.mpr ⟨lw_p8, List.forall_mem_cons.mpr ⟨lw_p9, List.forall_mem_cons.mpr ⟨lw_p10, List.forall_mem_cons.mpr ⟨lw_p11, List.forall_mem_cons.mpr ⟨lw_p12, List.forall_mem_cons.mpr ⟨lw_p13, List.forall_mem_cons.mpr ⟨lw_p14, List.forall_mem_cons.mpr ⟨lw_p15, fun _ h => absurd h List.not_mem_nil⟩⟩⟩⟩⟩⟩⟩⟩⟩⟩⟩⟩⟩⟩⟩⟩
theorem lw_p16 : lw_okq (⟨"RegionPool", "checkShape", "(III)V"⟩, 6) := ⟨⟨by decide +kernel, by decide +kernel⟩, List.mem_of_getElem? (i := 20) (by decide +kernel), List.mem_of_getElem? (i := 687) (by decide +kernel), List.mem_of_getElem? (i := 688) (by decide +kernel)⟩
theorem lw_p17 : lw_okq (⟨"RegionPool", "placesAfterCollecting", "(II)I"⟩, 6) := ⟨⟨by decide +kernel, by decide +kernel⟩, List.mem_of_getElem? (i := 20) (by decide +kernel), List.mem_of_getElem? (i := 694) (by decide +kernel), List.mem_of_getElem? (i := 695) (by decide +kernel)⟩
theorem lw_p18 : lw_okq (⟨"RegionPool$Regions", "addPage", "(I)Z"⟩, 5) := ⟨⟨by decide +kernel, by decide +kernel⟩, List.mem_of_getElem? (i := 70) (by decide +kernel), List.mem_of_getElem? (i := 702) (by decide +kernel), List.mem_of_getElem? (i := 703) (by decide +kernel)⟩
theorem lw_p19 : lw_okq (⟨"RegionPool$Regions", "leastFreePage", "()I"⟩, 5) := ⟨⟨by decide +kernel, by decide +kernel⟩, List.mem_of_getElem? (i := 70) (by decide +kernel), List.mem_of_getElem? (i := 706) (by decide +kernel), List.mem_of_getElem? (i := 707) (by decide +kernel)⟩
theorem lw_p20 : lw_okq (⟨"RegionPool", "checkReference", "(I)V"⟩, 6) := ⟨⟨by decide +kernel, by decide +kernel⟩, List.mem_of_getElem? (i := 20) (by decide +kernel), List.mem_of_getElem? (i := 727) (by decide +kernel), List.mem_of_getElem? (i := 728) (by decide +kernel)⟩
theorem lw_p21 : lw_okq (⟨"RegionPool$Parts", "addIfPart", "(LRegionPool$Values;II)V"⟩, 4) := ⟨⟨by decide +kernel, by decide +kernel⟩, List.mem_of_getElem? (i := 185) (by decide +kernel), List.mem_of_getElem? (i := 773) (by decide +kernel), List.mem_of_getElem? (i := 774) (by decide +kernel)⟩
theorem lw_p22 : lw_okq (⟨"RegionPool$Parts", "addFieldsOf", "(II)V"⟩, 4) := ⟨⟨by decide +kernel, by decide +kernel⟩, List.mem_of_getElem? (i := 185) (by decide +kernel), List.mem_of_getElem? (i := 779) (by decide +kernel), List.mem_of_getElem? (i := 780) (by decide +kernel)⟩
theorem lw_p23 : lw_okq (⟨"RegionPool$Parts", "placeAll", "(I)V"⟩, 4) := ⟨⟨by decide +kernel, by decide +kernel⟩, List.mem_of_getElem? (i := 185) (by decide +kernel), List.mem_of_getElem? (i := 798) (by decide +kernel), List.mem_of_getElem? (i := 799) (by decide +kernel)⟩
theorem lw_p24 : lw_okq (⟨"RegionPool$Parts", "followFieldsOf", "(I)V"⟩, 4) := ⟨⟨by decide +kernel, by decide +kernel⟩, List.mem_of_getElem? (i := 185) (by decide +kernel), List.mem_of_getElem? (i := 831) (by decide +kernel), List.mem_of_getElem? (i := 832) (by decide +kernel)⟩
theorem lw_p25 : lw_okq (⟨"RegionPool$Likeness", "mayBeAlike", "(LRegionPool$Values;II)Z"⟩, 5) := ⟨⟨by decide +kernel, by decide +kernel⟩, List.mem_of_getElem? (i := 204) (by decide +kernel), List.mem_of_getElem? (i := 876) (by decide +kernel), List.mem_of_getElem? (i := 877) (by decide +kernel)⟩
theorem lw_p26 : lw_okq (⟨"RegionPool$Likeness", "takeForAlike", "(II)Z"⟩, 5) := ⟨⟨by decide +kernel, by decide +kernel⟩, List.mem_of_getElem? (i := 204) (by decide +kernel), List.mem_of_getElem? (i := 883) (by decide +kernel), List.mem_of_getElem? (i := 884) (by decide +kernel)⟩
theorem lw_p27 : lw_okq (⟨"RegionPool$Likeness", "lastLeader", "(I)I"⟩, 5) := ⟨⟨by decide +kernel, by decide +kernel⟩, List.mem_of_getElem? (i := 204) (by decide +kernel), List.mem_of_getElem? (i := 887) (by decide +kernel), List.mem_of_getElem? (i := 888) (by decide +kernel)⟩
theorem lw_p28 : lw_okq (⟨"RegionPool$Likeness", "fieldsMayBeAlike", "(II)Z"⟩, 5) := ⟨⟨by decide +kernel, by decide +kernel⟩, List.mem_of_getElem? (i := 204) (by decide +kernel), List.mem_of_getElem? (i := 895) (by decide +kernel), List.mem_of_getElem? (i := 896) (by decide +kernel)⟩
theorem lw_p29 : lw_okq (⟨"RegionPool", "ofObject", "(II)I"⟩, 6) := ⟨⟨by decide +kernel, by decide +kernel⟩, List.mem_of_getElem? (i := 20) (by decide +kernel), List.mem_of_getElem? (i := 908) (by decide +kernel), List.mem_of_getElem? (i := 909) (by decide +kernel)⟩
theorem lw_p30 : lw_okq (⟨"RegionPool", "ofField", "(II)I"⟩, 6) := ⟨⟨by decide +kernel, by decide +kernel⟩, List.mem_of_getElem? (i := 20) (by decide +kernel), List.mem_of_getElem? (i := 921) (by decide +kernel), List.mem_of_getElem? (i := 922) (by decide +kernel)⟩
theorem lw_p31 : lw_okq (⟨"RegionPoolModel", "remove", "(I)V"⟩, 32) := ⟨⟨by decide +kernel, by decide +kernel⟩, List.mem_of_getElem? (i := 925) (by decide +kernel), List.mem_of_getElem? (i := 1042) (by decide +kernel), List.mem_of_getElem? (i := 1043) (by decide +kernel)⟩
def lw_privs_2 : List (MethodName × Nat) := [(⟨"RegionPool", "checkShape", "(III)V"⟩, 6), (⟨"RegionPool", "placesAfterCollecting", "(II)I"⟩, 6), (⟨"RegionPool$Regions", "addPage", "(I)Z"⟩, 5), (⟨"RegionPool$Regions", "leastFreePage", "()I"⟩, 5), (⟨"RegionPool", "checkReference", "(I)V"⟩, 6), (⟨"RegionPool$Parts", "addIfPart", "(LRegionPool$Values;II)V"⟩, 4), (⟨"RegionPool$Parts", "addFieldsOf", "(II)V"⟩, 4), (⟨"RegionPool$Parts", "placeAll", "(I)V"⟩, 4), (⟨"RegionPool$Parts", "followFieldsOf", "(I)V"⟩, 4), (⟨"RegionPool$Likeness", "mayBeAlike", "(LRegionPool$Values;II)Z"⟩, 5), (⟨"RegionPool$Likeness", "takeForAlike", "(II)Z"⟩, 5), (⟨"RegionPool$Likeness", "lastLeader", "(I)I"⟩, 5), (⟨"RegionPool$Likeness", "fieldsMayBeAlike", "(II)Z"⟩, 5), (⟨"RegionPool", "ofObject", "(II)I"⟩, 6), (⟨"RegionPool", "ofField", "(II)I"⟩, 6), (⟨"RegionPoolModel", "remove", "(I)V"⟩, 32)]
theorem lw_r2 : ∀ q ∈ lw_privs_2, lw_okq q := List.forall_mem_cons.mpr ⟨lw_p16, List.forall_mem_cons.mpr ⟨lw_p17, List.forall_mem_cons.mpr ⟨lw_p18, List.forall_mem_cons.mpr ⟨lw_p19, List.forall_mem_cons.mpr ⟨lw_p20, List.forall_mem_cons.mpr ⟨lw_p21, List.forall_mem_cons.mpr ⟨lw_p22, List.forall_mem_cons.mpr ⟨lw_p23, List.forall_mem_cons.mpr ⟨lw_p24, List.forall_mem_cons.mpr ⟨lw_p25, List.forall_mem_cons.mpr ⟨lw_p26, List.forall_mem_cons.mpr ⟨lw_p27, List.forall_mem_cons.mpr ⟨lw_p28, List.forall_mem_cons.mpr ⟨lw_p29, List.forall_mem_cons.mpr ⟨lw_p30, List.forall_mem_cons.mpr ⟨lw_p31, fun _ h => absurd h List.not_mem_nil⟩⟩⟩⟩⟩⟩⟩⟩⟩⟩⟩⟩⟩⟩⟩⟩
theorem lw_p32 : lw_okq (⟨"RegionPoolModel", "isRegion", "(I)Z"⟩, 32) := ⟨⟨by decide +kernel, by decide +kernel⟩, List.mem_of_getElem? (i := 925) (by decide +kernel), List.mem_of_getElem? (i := 1050) (by decide +kernel), List.mem_of_getElem? (i := 1051) (by decide +kernel)⟩
theorem lw_p33 : lw_okq (⟨"RegionPoolModel", "goes", "(ZZ)Z"⟩, 32) := ⟨⟨by decide +kernel, by decide +kernel⟩, List.mem_of_getElem? (i := 925) (by decide +kernel), List.mem_of_getElem? (i := 1054) (by decide +kernel), List.mem_of_getElem? (i := 1055) (by decide +kernel)⟩
theorem lw_p34 : lw_okq (⟨"RegionPoolModel", "collectFrom", "(I)I"⟩, 32) := ⟨⟨by decide +kernel, by decide +kernel⟩, List.mem_of_getElem? (i := 925) (by decide +kernel), List.mem_of_getElem? (i := 1058) (by decide +kernel), List.mem_of_getElem? (i := 1059) (by decide +kernel)⟩
theorem lw_p35 : lw_okq (⟨"RegionPoolModel", "findLive", "(I)V"⟩, 32) := ⟨⟨by decide +kernel, by decide +kernel⟩, List.mem_of_getElem? (i := 925) (by decide +kernel), List.mem_of_getElem? (i := 1062) (by decide +kernel), List.mem_of_getElem? (i := 1063) (by decide +kernel)⟩
theorem lw_p36 : lw_okq (⟨"RegionPoolModel", "holds", "(II)Z"⟩, 32) := ⟨⟨by decide +kernel, by decide +kernel⟩, List.mem_of_getElem? (i := 925) (by decide +kernel), List.mem_of_getElem? (i := 1066) (by decide +kernel), List.mem_of_getElem? (i := 1067) (by decide +kernel)⟩
theorem lw_p37 : lw_okq (⟨"RegionPoolModel", "isLive", "(II)Z"⟩, 32) := ⟨⟨by decide +kernel, by decide +kernel⟩, List.mem_of_getElem? (i := 925) (by decide +kernel), List.mem_of_getElem? (i := 1070) (by decide +kernel), List.mem_of_getElem? (i := 1071) (by decide +kernel)⟩
theorem lw_p38 : lw_okq (⟨"RegionPoolModel", "forget", "(I)V"⟩, 32) := ⟨⟨by decide +kernel, by decide +kernel⟩, List.mem_of_getElem? (i := 925) (by decide +kernel), List.mem_of_getElem? (i := 1074) (by decide +kernel), List.mem_of_getElem? (i := 1075) (by decide +kernel)⟩
theorem lw_p39 : lw_okq (⟨"RegionPoolModel", "isYoung", "(II)Z"⟩, 32) := ⟨⟨by decide +kernel, by decide +kernel⟩, List.mem_of_getElem? (i := 925) (by decide +kernel), List.mem_of_getElem? (i := 1078) (by decide +kernel), List.mem_of_getElem? (i := 1079) (by decide +kernel)⟩
theorem lw_p40 : lw_okq (⟨"RegionPoolModel", "empty", "(II)V"⟩, 32) := ⟨⟨by decide +kernel, by decide +kernel⟩, List.mem_of_getElem? (i := 925) (by decide +kernel), List.mem_of_getElem? (i := 1082) (by decide +kernel), List.mem_of_getElem? (i := 1083) (by decide +kernel)⟩
theorem lw_p41 : lw_okq (⟨"RegionPoolModel", "nextDue", "(I)I"⟩, 32) := ⟨⟨by decide +kernel, by decide +kernel⟩, List.mem_of_getElem? (i := 925) (by decide +kernel), List.mem_of_getElem? (i := 1086) (by decide +kernel), List.mem_of_getElem? (i := 1087) (by decide +kernel)⟩
theorem lw_p42 : lw_okq (⟨"RegionPoolModel", "slide", "(I)V"⟩, 32) := ⟨⟨by decide +kernel, by decide +kernel⟩, List.mem_of_getElem? (i := 925) (by decide +kernel), List.mem_of_getElem? (i := 1090) (by decide +kernel), List.mem_of_getElem? (i := 1091) (by decide +kernel)⟩
theorem lw_p43 : lw_okq (⟨"RegionPoolModel", "find", "(II)I"⟩, 32) := ⟨⟨by decide +kernel, by decide +kernel⟩, List.mem_of_getElem? (i := 925) (by decide +kernel), List.mem_of_getElem? (i := 1113) (by decide +kernel), List.mem_of_getElem? (i := 1114) (by decide +kernel)⟩
theorem lw_p44 : lw_okq (⟨"RegionPoolModel", "freePage", "()I"⟩, 32) := ⟨⟨by decide +kernel, by decide +kernel⟩, List.mem_of_getElem? (i := 925) (by decide +kernel), List.mem_of_getElem? (i := 1117) (by decide +kernel), List.mem_of_getElem? (i := 1118) (by decide +kernel)⟩
theorem lw_p45 : lw_okq (⟨"RegionPoolModel", "create", "(IIII)I"⟩, 32) := ⟨⟨by decide +kernel, by decide +kernel⟩, List.mem_of_getElem? (i := 925) (by decide +kernel), List.mem_of_getElem? (i := 1121) (by decide +kernel), List.mem_of_getElem? (i := 1122) (by decide +kernel)⟩
theorem lw_p46 : lw_okq (⟨"RegionPoolModel", "freeObject", "()I"⟩, 32) := ⟨⟨by decide +kernel, by decide +kernel⟩, List.mem_of_getElem? (i := 925) (by decide +kernel), List.mem_of_getElem? (i := 1125) (by decide +kernel), List.mem_of_getElem? (i := 1126) (by decide +kernel)⟩
theorem lw_p47 : lw_okq (⟨"RegionPoolModel", "take", "(II)I"⟩, 32) := ⟨⟨by decide +kernel, by decide +kernel⟩, List.mem_of_getElem? (i := 925) (by decide +kernel), List.mem_of_getElem? (i := 1129) (by decide +kernel), List.mem_of_getElem? (i := 1130) (by decide +kernel)⟩
def lw_privs_3 : List (MethodName × Nat) := [(⟨"RegionPoolModel", "isRegion", "(I)Z"⟩, 32), (⟨"RegionPoolModel", "goes", "(ZZ)Z"⟩, 32), (⟨"RegionPoolModel", "collectFrom", "(I)I"⟩, 32), (⟨"RegionPoolModel", "findLive", "(I)V"⟩, 32), (⟨"RegionPoolModel", "holds", "(II)Z"⟩, 32), (⟨"RegionPoolModel", "isLive", "(II)Z"⟩, 32), (⟨"RegionPoolModel", "forget", "(I)V"⟩, 32), (⟨"RegionPoolModel", "isYoung", "(II)Z"⟩, 32), (⟨"RegionPoolModel", "empty", "(II)V"⟩, 32), (⟨"RegionPoolModel", "nextDue", "(I)I"⟩, 32), (⟨"RegionPoolModel", "slide", "(I)V"⟩, 32), (⟨"RegionPoolModel", "find", "(II)I"⟩, 32), (⟨"RegionPoolModel", "freePage", "()I"⟩, 32), (⟨"RegionPoolModel", "create", "(IIII)I"⟩, 32), (⟨"RegionPoolModel", "freeObject", "()I"⟩, 32), (⟨"RegionPoolModel", "take", "(II)I"⟩, 32)]
theorem lw_r3 : ∀ q ∈ lw_privs_3, lw_okq q := List.forall_mem_cons.mpr ⟨lw_p32, List.forall_mem_cons.mpr ⟨lw_p33, List.forall_mem_cons.mpr ⟨lw_p34, List.forall_mem_cons.mpr ⟨lw_p35, List.forall_mem_cons.mpr ⟨lw_p36, List.forall_mem_cons.mpr ⟨lw_p37, List.forall_mem_cons.mpr ⟨lw_p38, List.forall_mem_cons.mpr ⟨lw_p39, List.forall_mem_cons.mpr ⟨lw_p40, List.forall_mem_cons.mpr ⟨lw_p41, List.forall_mem_cons.mpr ⟨lw_p42, List.forall_mem_cons.mpr ⟨lw_p43, List.forall_mem_cons.mpr ⟨lw_p44, List.forall_mem_cons.mpr ⟨lw_p45, List.forall_mem_cons.mpr ⟨lw_p46, List.forall_mem_cons.mpr ⟨lw_p47, fun _ h => absurd h List.not_mem_nil⟩⟩⟩⟩⟩⟩⟩⟩⟩⟩⟩⟩⟩⟩⟩⟩
theorem lw_p48 : lw_okq (⟨"RegionPoolModel", "refers", "(I)Z"⟩, 32) := ⟨⟨by decide +kernel, by decide +kernel⟩, List.mem_of_getElem? (i := 925) (by decide +kernel), List.mem_of_getElem? (i := 1137) (by decide +kernel), List.mem_of_getElem? (i := 1138) (by decide +kernel)⟩
theorem lw_p49 : lw_okq (⟨"RegionPoolModel", "findParts", "(II)V"⟩, 32) := ⟨⟨by decide +kernel, by decide +kernel⟩, List.mem_of_getElem? (i := 925) (by decide +kernel), List.mem_of_getElem? (i := 1149) (by decide +kernel), List.mem_of_getElem? (i := 1150) (by decide +kernel)⟩
theorem lw_p50 : lw_okq (⟨"RegionPoolModel", "addPart", "(III)V"⟩, 32) := ⟨⟨by decide +kernel, by decide +kernel⟩, List.mem_of_getElem? (i := 925) (by decide +kernel), List.mem_of_getElem? (i := 1153) (by decide +kernel), List.mem_of_getElem? (i := 1154) (by decide +kernel)⟩
theorem lw_p51 : lw_okq (⟨"RegionPoolModel", "haveRoom", "(I)Z"⟩, 32) := ⟨⟨by decide +kernel, by decide +kernel⟩, List.mem_of_getElem? (i := 925) (by decide +kernel), List.mem_of_getElem? (i := 1157) (by decide +kernel), List.mem_of_getElem? (i := 1158) (by decide +kernel)⟩
theorem lw_p52 : lw_okq (⟨"RegionPoolModel", "mayBe", "(IIII)Z"⟩, 32) := ⟨⟨by decide +kernel, by decide +kernel⟩, List.mem_of_getElem? (i := 925) (by decide +kernel), List.mem_of_getElem? (i := 1177) (by decide +kernel), List.mem_of_getElem? (i := 1178) (by decide +kernel)⟩
def lw_privs_4 : List (MethodName × Nat) := [(⟨"RegionPoolModel", "refers", "(I)Z"⟩, 32), (⟨"RegionPoolModel", "findParts", "(II)V"⟩, 32), (⟨"RegionPoolModel", "addPart", "(III)V"⟩, 32), (⟨"RegionPoolModel", "haveRoom", "(I)Z"⟩, 32), (⟨"RegionPoolModel", "mayBe", "(IIII)Z"⟩, 32)]
theorem lw_r4 : ∀ q ∈ lw_privs_4, lw_okq q := List.forall_mem_cons.mpr ⟨lw_p48, List.forall_mem_cons.mpr ⟨lw_p49, List.forall_mem_cons.mpr ⟨lw_p50, List.forall_mem_cons.mpr ⟨lw_p51, List.forall_mem_cons.mpr ⟨lw_p52, fun _ h => absurd h List.not_mem_nil⟩⟩⟩⟩⟩
def lw_privs : List (MethodName × Nat) := lw_privs_1 ++ (lw_privs_2 ++ (lw_privs_3 ++ (lw_privs_4)))
def lw_tbl : List Cond := k2_sels lw_privs ++ tables_1
theorem lw_privs_ok : ∀ q ∈ lw_privs, lw_okq q := by
  show ∀ q ∈ lw_privs_1 ++ (lw_privs_2 ++ (lw_privs_3 ++ (lw_privs_4))), lw_okq q
  exact List.forall_mem_append.mpr ⟨lw_r1, List.forall_mem_append.mpr ⟨lw_r2, List.forall_mem_append.mpr ⟨lw_r3, lw_r4⟩⟩⟩
end
section
/-- the words that stay good over calls -/
def xG : List Cond := lw_tbl.filter goodWord
theorem xG_mem {w : Cond} (i : Nat) (h : lw_tbl[i]? = some w) (hg : goodWord w = true) : w ∈ xG := List.mem_filter.mpr ⟨List.mem_of_getElem? h, hg⟩
theorem xG_tbl {w : Cond} (h : w ∈ xG) : w ∈ lw_tbl := (List.mem_filter.mp h).1
theorem xG_good {w : Cond} (h : w ∈ xG) : goodWord w = true := (List.mem_filter.mp h).2
def R_Rp : String := "RegionPool"
def T_Rp : u_T := fun k => match k with
  | 0 => ("RegionPool", "memory", "LRegionPool$Memory;", true)
  | 1 => ("RegionPool", "collector", "LRegionPool$Collector;", true)
  | 2 => ("RegionPool", "parts", "LRegionPool$Parts;", true)
  | 3 => ("RegionPool", "likeness", "LRegionPool$Likeness;", true)
  | 4 => ("RegionPool", "liftedParts", "I", false)
  | _ => ("RegionPool", "copiedParts", "I", false)
def t_Rp : Nat → FieldType := fun k => match k with
  | 0 => .object "RegionPool$Memory"
  | 1 => .object "RegionPool$Collector"
  | 2 => .object "RegionPool$Parts"
  | 3 => .object "RegionPool$Likeness"
  | 4 => .int
  | _ => .int
theorem nm_Rp : ∀ a, a < 6 → ∀ b, b < 6 → a ≠ b → (T_Rp a).2.1 ≠ (T_Rp b).2.1 := by decide +kernel
theorem tk_Rp : ∀ k, k < 6 → parseFieldDescriptor (T_Rp k).2.2.1 = some (t_Rp k) := by decide +kernel
theorem in_Rp : ∀ w ∈ u_ws R_Rp T_Rp 6, w ∈ xG := by
  show ∀ w ∈ [u_lay R_Rp T_Rp 0, u_lay R_Rp T_Rp 1, u_lay R_Rp T_Rp 2, u_lay R_Rp T_Rp 3, u_lay R_Rp T_Rp 4, u_lay R_Rp T_Rp 5], w ∈ xG
  exact List.forall_mem_cons.mpr ⟨xG_mem 284 (by decide +kernel) (by decide +kernel), List.forall_mem_cons.mpr ⟨xG_mem 286 (by decide +kernel) (by decide +kernel), List.forall_mem_cons.mpr ⟨xG_mem 288 (by decide +kernel) (by decide +kernel), List.forall_mem_cons.mpr ⟨xG_mem 290 (by decide +kernel) (by decide +kernel), List.forall_mem_cons.mpr ⟨xG_mem 292 (by decide +kernel) (by decide +kernel), List.forall_mem_cons.mpr ⟨xG_mem 294 (by decide +kernel) (by decide +kernel), fun _ h => absurd h List.not_mem_nil⟩⟩⟩⟩⟩⟩
def R_Mem : String := "RegionPool$Memory"
def T_Mem : u_T := fun k => match k with
  | 0 => ("RegionPool$Memory", "roots", "LRegionPool$Values;", true)
  | 1 => ("RegionPool$Memory", "heap", "LRegionPool$Heap;", true)
  | 2 => ("RegionPool$Memory", "regions", "LRegionPool$Regions;", true)
  | 3 => ("RegionPool$Memory", "queue", "LRegionPool$Line;", true)
  | 4 => ("RegionPool$Memory", "watched", "LRegionPool$Line;", true)
  | _ => ("RegionPool$Memory", "newPlaces", "[I", true)
def t_Mem : Nat → FieldType := fun k => match k with
  | 0 => .object "RegionPool$Values"
  | 1 => .object "RegionPool$Heap"
  | 2 => .object "RegionPool$Regions"
  | 3 => .object "RegionPool$Line"
  | 4 => .object "RegionPool$Line"
  | _ => .array .int
theorem nm_Mem : ∀ a, a < 6 → ∀ b, b < 6 → a ≠ b → (T_Mem a).2.1 ≠ (T_Mem b).2.1 := by decide +kernel
theorem tk_Mem : ∀ k, k < 6 → parseFieldDescriptor (T_Mem k).2.2.1 = some (t_Mem k) := by decide +kernel
theorem in_Mem : ∀ w ∈ u_ws R_Mem T_Mem 6, w ∈ xG := by
  show ∀ w ∈ [u_lay R_Mem T_Mem 0, u_lay R_Mem T_Mem 1, u_lay R_Mem T_Mem 2, u_lay R_Mem T_Mem 3, u_lay R_Mem T_Mem 4, u_lay R_Mem T_Mem 5], w ∈ xG
  exact List.forall_mem_cons.mpr ⟨xG_mem 182 (by decide +kernel) (by decide +kernel), List.forall_mem_cons.mpr ⟨xG_mem 184 (by decide +kernel) (by decide +kernel), List.forall_mem_cons.mpr ⟨xG_mem 186 (by decide +kernel) (by decide +kernel), List.forall_mem_cons.mpr ⟨xG_mem 188 (by decide +kernel) (by decide +kernel), List.forall_mem_cons.mpr ⟨xG_mem 190 (by decide +kernel) (by decide +kernel), List.forall_mem_cons.mpr ⟨xG_mem 192 (by decide +kernel) (by decide +kernel), fun _ h => absurd h List.not_mem_nil⟩⟩⟩⟩⟩⟩
def R_Col : String := "RegionPool$Collector"
def T_Col : u_T := fun k => match k with
  | 0 => ("RegionPool$Collector", "memory", "LRegionPool$Memory;", true)
  | 1 => ("RegionPool$Collector", "marker", "LRegionPool$Marker;", true)
  | 2 => ("RegionPool$Collector", "collections", "I", false)
  | 3 => ("RegionPool$Collector", "gone", "I", false)
  | _ => ("RegionPool$Collector", "moved", "I", false)
def t_Col : Nat → FieldType := fun k => match k with
  | 0 => .object "RegionPool$Memory"
  | 1 => .object "RegionPool$Marker"
  | 2 => .int
  | 3 => .int
  | _ => .int
theorem nm_Col : ∀ a, a < 5 → ∀ b, b < 5 → a ≠ b → (T_Col a).2.1 ≠ (T_Col b).2.1 := by decide +kernel
theorem tk_Col : ∀ k, k < 5 → parseFieldDescriptor (T_Col k).2.2.1 = some (t_Col k) := by decide +kernel
theorem in_Col : ∀ w ∈ u_ws R_Col T_Col 5, w ∈ xG := by
  show ∀ w ∈ [u_lay R_Col T_Col 0, u_lay R_Col T_Col 1, u_lay R_Col T_Col 2, u_lay R_Col T_Col 3, u_lay R_Col T_Col 4], w ∈ xG
  exact List.forall_mem_cons.mpr ⟨xG_mem 226 (by decide +kernel) (by decide +kernel), List.forall_mem_cons.mpr ⟨xG_mem 228 (by decide +kernel) (by decide +kernel), List.forall_mem_cons.mpr ⟨xG_mem 230 (by decide +kernel) (by decide +kernel), List.forall_mem_cons.mpr ⟨xG_mem 232 (by decide +kernel) (by decide +kernel), List.forall_mem_cons.mpr ⟨xG_mem 234 (by decide +kernel) (by decide +kernel), fun _ h => absurd h List.not_mem_nil⟩⟩⟩⟩⟩
def R_Par : String := "RegionPool$Parts"
def T_Par : u_T := fun k => match k with
  | 0 => ("RegionPool$Parts", "memory", "LRegionPool$Memory;", true)
  | 1 => ("RegionPool$Parts", "items", "[I", true)
  | 2 => ("RegionPool$Parts", "isPart", "[Z", true)
  | _ => ("RegionPool$Parts", "length", "I", false)
def t_Par : Nat → FieldType := fun k => match k with
  | 0 => .object "RegionPool$Memory"
  | 1 => .array .int
  | 2 => .array .boolean
  | _ => .int
theorem nm_Par : ∀ a, a < 4 → ∀ b, b < 4 → a ≠ b → (T_Par a).2.1 ≠ (T_Par b).2.1 := by decide +kernel
theorem tk_Par : ∀ k, k < 4 → parseFieldDescriptor (T_Par k).2.2.1 = some (t_Par k) := by decide +kernel
theorem in_Par : ∀ w ∈ u_ws R_Par T_Par 4, w ∈ xG := by
  show ∀ w ∈ [u_lay R_Par T_Par 0, u_lay R_Par T_Par 1, u_lay R_Par T_Par 2, u_lay R_Par T_Par 3], w ∈ xG
  exact List.forall_mem_cons.mpr ⟨xG_mem 247 (by decide +kernel) (by decide +kernel), List.forall_mem_cons.mpr ⟨xG_mem 249 (by decide +kernel) (by decide +kernel), List.forall_mem_cons.mpr ⟨xG_mem 251 (by decide +kernel) (by decide +kernel), List.forall_mem_cons.mpr ⟨xG_mem 253 (by decide +kernel) (by decide +kernel), fun _ h => absurd h List.not_mem_nil⟩⟩⟩⟩
def R_Lik : String := "RegionPool$Likeness"
def T_Lik : u_T := fun k => match k with
  | 0 => ("RegionPool$Likeness", "heap", "LRegionPool$Heap;", true)
  | 1 => ("RegionPool$Likeness", "leaders", "[I", true)
  | 2 => ("RegionPool$Likeness", "lefts", "[I", true)
  | 3 => ("RegionPool$Likeness", "rights", "[I", true)
  | _ => ("RegionPool$Likeness", "pairs", "I", false)
def t_Lik : Nat → FieldType := fun k => match k with
  | 0 => .object "RegionPool$Heap"
  | 1 => .array .int
  | 2 => .array .int
  | 3 => .array .int
  | _ => .int
theorem nm_Lik : ∀ a, a < 5 → ∀ b, b < 5 → a ≠ b → (T_Lik a).2.1 ≠ (T_Lik b).2.1 := by decide +kernel
theorem tk_Lik : ∀ k, k < 5 → parseFieldDescriptor (T_Lik k).2.2.1 = some (t_Lik k) := by decide +kernel
theorem in_Lik : ∀ w ∈ u_ws R_Lik T_Lik 5, w ∈ xG := by
  show ∀ w ∈ [u_lay R_Lik T_Lik 0, u_lay R_Lik T_Lik 1, u_lay R_Lik T_Lik 2, u_lay R_Lik T_Lik 3, u_lay R_Lik T_Lik 4], w ∈ xG
  exact List.forall_mem_cons.mpr ⟨xG_mem 267 (by decide +kernel) (by decide +kernel), List.forall_mem_cons.mpr ⟨xG_mem 269 (by decide +kernel) (by decide +kernel), List.forall_mem_cons.mpr ⟨xG_mem 271 (by decide +kernel) (by decide +kernel), List.forall_mem_cons.mpr ⟨xG_mem 273 (by decide +kernel) (by decide +kernel), List.forall_mem_cons.mpr ⟨xG_mem 275 (by decide +kernel) (by decide +kernel), fun _ h => absurd h List.not_mem_nil⟩⟩⟩⟩⟩
def R_Val : String := "RegionPool$Values"
def T_Val : u_T := fun k => match k with
  | 0 => ("RegionPool$Values", "sorts", "[I", true)
  | _ => ("RegionPool$Values", "contents", "[I", true)
def t_Val : Nat → FieldType := fun k => match k with
  | 0 => .array .int
  | _ => .array .int
theorem nm_Val : ∀ a, a < 2 → ∀ b, b < 2 → a ≠ b → (T_Val a).2.1 ≠ (T_Val b).2.1 := by decide +kernel
theorem tk_Val : ∀ k, k < 2 → parseFieldDescriptor (T_Val k).2.2.1 = some (t_Val k) := by decide +kernel
theorem in_Val : ∀ w ∈ u_ws R_Val T_Val 2, w ∈ xG := by
  show ∀ w ∈ [u_lay R_Val T_Val 0, u_lay R_Val T_Val 1], w ∈ xG
  exact List.forall_mem_cons.mpr ⟨xG_mem 95 (by decide +kernel) (by decide +kernel), List.forall_mem_cons.mpr ⟨xG_mem 97 (by decide +kernel) (by decide +kernel), fun _ h => absurd h List.not_mem_nil⟩⟩
def R_Hea : String := "RegionPool$Heap"
def T_Hea : u_T := fun k => match k with
  | _ => ("RegionPool$Heap", "cells", "LRegionPool$Values;", true)
def t_Hea : Nat → FieldType := fun k => match k with
  | _ => .object "RegionPool$Values"
theorem nm_Hea : ∀ a, a < 1 → ∀ b, b < 1 → a ≠ b → (T_Hea a).2.1 ≠ (T_Hea b).2.1 := by decide +kernel
theorem tk_Hea : ∀ k, k < 1 → parseFieldDescriptor (T_Hea k).2.2.1 = some (t_Hea k) := by decide +kernel
theorem in_Hea : ∀ w ∈ u_ws R_Hea T_Hea 1, w ∈ xG := by
  show ∀ w ∈ [u_lay R_Hea T_Hea 0], w ∈ xG
  exact List.forall_mem_cons.mpr ⟨xG_mem 119 (by decide +kernel) (by decide +kernel), fun _ h => absurd h List.not_mem_nil⟩
def R_Reg : String := "RegionPool$Regions"
def T_Reg : u_T := fun k => match k with
  | 0 => ("RegionPool$Regions", "owners", "[I", true)
  | 1 => ("RegionPool$Regions", "rows", "[[I", true)
  | 2 => ("RegionPool$Regions", "lengths", "[I", true)
  | 3 => ("RegionPool$Regions", "fills", "[I", true)
  | _ => ("RegionPool$Regions", "regions", "I", false)
def t_Reg : Nat → FieldType := fun k => match k with
  | 0 => .array .int
  | 1 => .array (.array .int)
  | 2 => .array .int
  | 3 => .array .int
  | _ => .int
theorem nm_Reg : ∀ a, a < 5 → ∀ b, b < 5 → a ≠ b → (T_Reg a).2.1 ≠ (T_Reg b).2.1 := by decide +kernel
theorem tk_Reg : ∀ k, k < 5 → parseFieldDescriptor (T_Reg k).2.2.1 = some (t_Reg k) := by decide +kernel
theorem in_Reg : ∀ w ∈ u_ws R_Reg T_Reg 5, w ∈ xG := by
  show ∀ w ∈ [u_lay R_Reg T_Reg 0, u_lay R_Reg T_Reg 1, u_lay R_Reg T_Reg 2, u_lay R_Reg T_Reg 3, u_lay R_Reg T_Reg 4], w ∈ xG
  exact List.forall_mem_cons.mpr ⟨xG_mem 136 (by decide +kernel) (by decide +kernel), List.forall_mem_cons.mpr ⟨xG_mem 138 (by decide +kernel) (by decide +kernel), List.forall_mem_cons.mpr ⟨xG_mem 140 (by decide +kernel) (by decide +kernel), List.forall_mem_cons.mpr ⟨xG_mem 142 (by decide +kernel) (by decide +kernel), List.forall_mem_cons.mpr ⟨xG_mem 144 (by decide +kernel) (by decide +kernel), fun _ h => absurd h List.not_mem_nil⟩⟩⟩⟩⟩
def R_Lin : String := "RegionPool$Line"
def T_Lin : u_T := fun k => match k with
  | 0 => ("RegionPool$Line", "items", "[I", true)
  | _ => ("RegionPool$Line", "length", "I", false)
def t_Lin : Nat → FieldType := fun k => match k with
  | 0 => .array .int
  | _ => .int
theorem nm_Lin : ∀ a, a < 2 → ∀ b, b < 2 → a ≠ b → (T_Lin a).2.1 ≠ (T_Lin b).2.1 := by decide +kernel
theorem tk_Lin : ∀ k, k < 2 → parseFieldDescriptor (T_Lin k).2.2.1 = some (t_Lin k) := by decide +kernel
theorem in_Lin : ∀ w ∈ u_ws R_Lin T_Lin 2, w ∈ xG := by
  show ∀ w ∈ [u_lay R_Lin T_Lin 0, u_lay R_Lin T_Lin 1], w ∈ xG
  exact List.forall_mem_cons.mpr ⟨xG_mem 155 (by decide +kernel) (by decide +kernel), List.forall_mem_cons.mpr ⟨xG_mem 157 (by decide +kernel) (by decide +kernel), fun _ h => absurd h List.not_mem_nil⟩⟩
def R_Mar : String := "RegionPool$Marker"
def T_Mar : u_T := fun k => match k with
  | 0 => ("RegionPool$Marker", "memory", "LRegionPool$Memory;", true)
  | 1 => ("RegionPool$Marker", "live", "[Z", true)
  | 2 => ("RegionPool$Marker", "pending", "[I", true)
  | _ => ("RegionPool$Marker", "pendings", "I", false)
def t_Mar : Nat → FieldType := fun k => match k with
  | 0 => .object "RegionPool$Memory"
  | 1 => .array .boolean
  | 2 => .array .int
  | _ => .int
theorem nm_Mar : ∀ a, a < 4 → ∀ b, b < 4 → a ≠ b → (T_Mar a).2.1 ≠ (T_Mar b).2.1 := by decide +kernel
theorem tk_Mar : ∀ k, k < 4 → parseFieldDescriptor (T_Mar k).2.2.1 = some (t_Mar k) := by decide +kernel
theorem in_Mar : ∀ w ∈ u_ws R_Mar T_Mar 4, w ∈ xG := by
  show ∀ w ∈ [u_lay R_Mar T_Mar 0, u_lay R_Mar T_Mar 1, u_lay R_Mar T_Mar 2, u_lay R_Mar T_Mar 3], w ∈ xG
  exact List.forall_mem_cons.mpr ⟨xG_mem 211 (by decide +kernel) (by decide +kernel), List.forall_mem_cons.mpr ⟨xG_mem 213 (by decide +kernel) (by decide +kernel), List.forall_mem_cons.mpr ⟨xG_mem 215 (by decide +kernel) (by decide +kernel), List.forall_mem_cons.mpr ⟨xG_mem 217 (by decide +kernel) (by decide +kernel), fun _ h => absurd h List.not_mem_nil⟩⟩⟩⟩
def R_Mod : String := "RegionPoolModel"
def T_Mod : u_T := fun k => match k with
  | 0 => ("RegionPoolModel", "thrown", "I", false)
  | 1 => ("RegionPoolModel", "kind", "[I", true)
  | 2 => ("RegionPoolModel", "tag", "[I", true)
  | 3 => ("RegionPoolModel", "many", "[I", true)
  | 4 => ("RegionPoolModel", "in", "[I", true)
  | 5 => ("RegionPoolModel", "place", "[I", true)
  | 6 => ("RegionPoolModel", "watched", "[I", true)
  | 7 => ("RegionPoolModel", "sort", "[I", true)
  | 8 => ("RegionPoolModel", "value", "[I", true)
  | 9 => ("RegionPoolModel", "live", "[Z", true)
  | 10 => ("RegionPoolModel", "watches", "I", false)
  | 11 => ("RegionPoolModel", "object", "[I", true)
  | 12 => ("RegionPoolModel", "taken", "[Z", true)
  | 13 => ("RegionPoolModel", "regions", "I", false)
  | 14 => ("RegionPoolModel", "pages", "[I", true)
  | 15 => ("RegionPoolModel", "row", "[I", true)
  | 16 => ("RegionPoolModel", "filled", "[I", true)
  | 17 => ("RegionPoolModel", "rootSort", "[I", true)
  | 18 => ("RegionPoolModel", "rootValue", "[I", true)
  | 19 => ("RegionPoolModel", "queued", "I", false)
  | 20 => ("RegionPoolModel", "queue", "[I", true)
  | 21 => ("RegionPoolModel", "collections", "I", false)
  | 22 => ("RegionPoolModel", "gone", "I", false)
  | 23 => ("RegionPoolModel", "moved", "I", false)
  | 24 => ("RegionPoolModel", "lifted", "I", false)
  | 25 => ("RegionPoolModel", "copied", "I", false)
  | 26 => ("RegionPoolModel", "parts", "I", false)
  | 27 => ("RegionPoolModel", "part", "[I", true)
  | 28 => ("RegionPoolModel", "partOf", "[I", true)
  | 29 => ("RegionPoolModel", "pairs", "[J", true)
  | 30 => ("RegionPoolModel", "asked", "[I", true)
  | _ => ("RegionPoolModel", "askedMany", "I", false)
def t_Mod : Nat → FieldType := fun k => match k with
  | 0 => .int
  | 1 => .array .int
  | 2 => .array .int
  | 3 => .array .int
  | 4 => .array .int
  | 5 => .array .int
  | 6 => .array .int
  | 7 => .array .int
  | 8 => .array .int
  | 9 => .array .boolean
  | 10 => .int
  | 11 => .array .int
  | 12 => .array .boolean
  | 13 => .int
  | 14 => .array .int
  | 15 => .array .int
  | 16 => .array .int
  | 17 => .array .int
  | 18 => .array .int
  | 19 => .int
  | 20 => .array .int
  | 21 => .int
  | 22 => .int
  | 23 => .int
  | 24 => .int
  | 25 => .int
  | 26 => .int
  | 27 => .array .int
  | 28 => .array .int
  | 29 => .array .long
  | 30 => .array .int
  | _ => .int
theorem nm_Mod : ∀ a, a < 32 → ∀ b, b < 32 → a ≠ b → (T_Mod a).2.1 ≠ (T_Mod b).2.1 := by decide +kernel
theorem tk_Mod : ∀ k, k < 32 → parseFieldDescriptor (T_Mod k).2.2.1 = some (t_Mod k) := by decide +kernel
theorem in_Mod : ∀ w ∈ u_ws R_Mod T_Mod 32, w ∈ xG := by
  show ∀ w ∈ [u_lay R_Mod T_Mod 0, u_lay R_Mod T_Mod 1, u_lay R_Mod T_Mod 2, u_lay R_Mod T_Mod 3, u_lay R_Mod T_Mod 4, u_lay R_Mod T_Mod 5, u_lay R_Mod T_Mod 6, u_lay R_Mod T_Mod 7, u_lay R_Mod T_Mod 8, u_lay R_Mod T_Mod 9, u_lay R_Mod T_Mod 10, u_lay R_Mod T_Mod 11, u_lay R_Mod T_Mod 12, u_lay R_Mod T_Mod 13, u_lay R_Mod T_Mod 14, u_lay R_Mod T_Mod 15, u_lay R_Mod T_Mod 16, u_lay R_Mod T_Mod 17, u_lay R_Mod T_Mod 18, u_lay R_Mod T_Mod 19, u_lay R_Mod T_Mod 20, u_lay R_Mod T_Mod 21, u_lay R_Mod T_Mod 22, u_lay R_Mod T_Mod 23, u_lay R_Mod T_Mod 24, u_lay R_Mod T_Mod 25, u_lay R_Mod T_Mod 26, u_lay R_Mod T_Mod 27, u_lay R_Mod T_Mod 28, u_lay R_Mod T_Mod 29, u_lay R_Mod T_Mod 30, u_lay R_Mod T_Mod 31], w ∈ xG
  exact List.forall_mem_cons.mpr ⟨xG_mem 1016 (by decide +kernel) (by decide +kernel), List.forall_mem_cons.mpr ⟨xG_mem 1018 (by decide +kernel) (by decide +kernel), List.forall_mem_cons.mpr ⟨xG_mem 1020 (by decide +kernel) (by decide +kernel), List.forall_mem_cons.mpr ⟨xG_mem 1022 (by decide +kernel) (by decide +kernel), List.forall_mem_cons.mpr ⟨xG_mem 1024 (by decide +kernel) (by decide +kernel), List.forall_mem_cons.mpr ⟨xG_mem 1026 (by decide +kernel) (by decide +kernel), List.forall_mem_cons.mpr ⟨xG_mem 1028 (by decide +kernel) (by decide +kernel), List.forall_mem_cons.mpr ⟨xG_mem 1030 (by decide +kernel) (by decide +kernel), List.forall_mem_cons.mpr ⟨xG_mem 1032 (by decide +kernel) (by decide +kernel), List.forall_mem_cons.mpr ⟨xG_mem 1034 (by decide +kernel) (by decide +kernel), List.forall_mem_cons.mpr ⟨xG_mem 1036 (by decide +kernel) (by decide +kernel), List.forall_mem_cons.mpr ⟨xG_mem 1038 (by decide +kernel) (by decide +kernel), List.forall_mem_cons.mpr ⟨xG_mem 1040 (by decide +kernel) (by decide +kernel), List.forall_mem_cons.mpr ⟨xG_mem 1042 (by decide +kernel) (by decide +kernel), List.forall_mem_cons.mpr ⟨xG_mem 1044 (by decide +kernel) (by decide +kernel), List.forall_mem_cons.mpr ⟨xG_mem 1046 (by decide +kernel) (by decide +kernel), List.forall_mem_cons.mpr ⟨xG_mem 1048 (by decide +kernel) (by decide +kernel), List.forall_mem_cons.mpr ⟨xG_mem 1050 (by decide +kernel) (by decide +kernel), List.forall_mem_cons.mpr ⟨xG_mem 1052 (by decide +kernel) (by decide +kernel), List.forall_mem_cons.mpr ⟨xG_mem 1054 (by decide +kernel) (by decide +kernel), List.forall_mem_cons.mpr ⟨xG_mem 1056 (by decide +kernel) (by decide +kernel), List.forall_mem_cons.mpr ⟨xG_mem 1058 (by decide +kernel) (by decide +kernel), List.forall_mem_cons.mpr ⟨xG_mem 1060 (by decide +kernel) (by decide +kernel), List.forall_mem_cons.mpr ⟨xG_mem 1062 (by decide +kernel) (by decide +kernel), List.forall_mem_cons.mpr ⟨xG_mem 1064 (by decide +kernel) (by decide +kernel), List.forall_mem_cons.mpr ⟨xG_mem 1066 (by decide +kernel) (by decide +kernel), List.forall_mem_cons.mpr ⟨xG_mem 1068 (by decide +kernel) (by decide +kernel), List.forall_mem_cons.mpr ⟨xG_mem 1070 (by decide +kernel) (by decide +kernel), List.forall_mem_cons.mpr ⟨xG_mem 1072 (by decide +kernel) (by decide +kernel), List.forall_mem_cons.mpr ⟨xG_mem 1074 (by decide +kernel) (by decide +kernel), List.forall_mem_cons.mpr ⟨xG_mem 1076 (by decide +kernel) (by decide +kernel), List.forall_mem_cons.mpr ⟨xG_mem 1078 (by decide +kernel) (by decide +kernel), fun _ h => absurd h List.not_mem_nil⟩⟩⟩⟩⟩⟩⟩⟩⟩⟩⟩⟩⟩⟩⟩⟩⟩⟩⟩⟩⟩⟩⟩⟩⟩⟩⟩⟩⟩⟩⟩⟩
abbrev xcl : List vw_C := [(R_Rp, T_Rp, 6), (R_Mem, T_Mem, 6), (R_Col, T_Col, 5), (R_Par, T_Par, 4), (R_Lik, T_Lik, 5), (R_Val, T_Val, 2), (R_Hea, T_Hea, 1), (R_Reg, T_Reg, 5), (R_Lin, T_Lin, 2), (R_Mar, T_Mar, 4), (R_Mod, T_Mod, 32)]
def R_Law : String := "RegionPoolLaw"
end
section
/-- the store: cell, place, number -/
abbrev xS : Type := Nat → Nat → Int32
/-- classes and slots; classes of arrays (ints, booleans, longs, rows of ints); addresses of the cells -/
abbrev xV : Type := va_G × (Nat → ClassId) × (Nat → Nat)
/-- a long lies in two places -/
def xL (f : Nat → Int32) (j : Nat) : Int64 := Int64.ofInt ((f (2 * j + 1)).toInt * 4294967296 + (f (2 * j)).toInt % 4294967296)
def xlo (x : Int64) : Int32 := Int32.ofInt x.toInt
def xhi (x : Int64) : Int32 := Int32.ofInt (x.toInt / 4294967296)
theorem xL_mk (x : Int64) : Int64.ofInt ((xhi x).toInt * 4294967296 + (xlo x).toInt % 4294967296) = x := by
  have h1 := Int64.le_toInt x
  have h2 := Int64.toInt_lt x
  have e1 : (xhi x).toInt = x.toInt / 4294967296 := by
    unfold xhi
    rw [Int32.toInt_ofInt]
    show Int.bmod (x.toInt / 4294967296) 4294967296 = _
    rw [Int.bmod_eq_of_le] <;> omega
  have e2 : (xlo x).toInt % 4294967296 = x.toInt % 4294967296 := by
    unfold xlo
    rw [Int32.toInt_ofInt]
    have : (x.toInt.bmod Int32.size) % (Int32.size : Nat) = x.toInt % (Int32.size : Nat) := Int.bmod_emod
    exact this
  rw [e1, e2, show x.toInt / 4294967296 * 4294967296 + x.toInt % 4294967296 = x.toInt by omega]
  exact Int64.ofInt_toInt x

/-- what each cell is -/
def xE (V : xV) (c : Nat) (f : Nat → Int32) : va_E := match c with
  | 0 => .inr (0, [.ref (V.2.2 1), .ref (V.2.2 2), .ref (V.2.2 3), .ref (V.2.2 4), .int (f 4), .int (f 5)])
  | 1 => .inr (1, [.ref (V.2.2 5), .ref (V.2.2 6), .ref (V.2.2 7), .ref (V.2.2 8), .ref (V.2.2 9), .ref (V.2.2 10)])
  | 2 => .inr (2, [.ref (V.2.2 1), .ref (V.2.2 11), .int (f 2), .int (f 3), .int (f 4)])
  | 3 => .inr (3, [.ref (V.2.2 1), .ref (V.2.2 12), .ref (V.2.2 13), .int (f 3)])
  | 4 => .inr (4, [.ref (V.2.2 6), .ref (V.2.2 14), .ref (V.2.2 15), .ref (V.2.2 16), .int (f 4)])
  | 5 => .inr (5, [.ref (V.2.2 17), .ref (V.2.2 18)])
  | 6 => .inr (6, [.ref (V.2.2 19)])
  | 7 => .inr (7, [.ref (V.2.2 20), .ref (V.2.2 21), .ref (V.2.2 22), .ref (V.2.2 23), .int (f 4)])
  | 8 => .inr (8, [.ref (V.2.2 24), .int (f 1)])
  | 9 => .inr (8, [.ref (V.2.2 25), .int (f 1)])
  | 10 => .inl (V.2.1 0, 640, .inl f)
  | 11 => .inr (9, [.ref (V.2.2 1), .ref (V.2.2 26), .ref (V.2.2 27), .int (f 3)])
  | 12 => .inl (V.2.1 0, 640, .inl f)
  | 13 => .inl (V.2.1 1, 640, .inl f)
  | 14 => .inl (V.2.1 0, 640, .inl f)
  | 15 => .inl (V.2.1 0, 640, .inl f)
  | 16 => .inl (V.2.1 0, 640, .inl f)
  | 17 => .inl (V.2.1 0, 16, .inl f)
  | 18 => .inl (V.2.1 0, 16, .inl f)
  | 19 => .inr (5, [.ref (V.2.2 28), .ref (V.2.2 29)])
  | 20 => .inl (V.2.1 0, 40, .inl f)
  | 21 => .inl (V.2.1 3, 8, .inr (.inr (.inr (.inr (fun i => if i < 8 then some (V.2.2 (32 + i)) else none)))))
  | 22 => .inl (V.2.1 0, 8, .inl f)
  | 23 => .inl (V.2.1 0, 8, .inl f)
  | 24 => .inl (V.2.1 0, 640, .inl f)
  | 25 => .inl (V.2.1 0, 640, .inl f)
  | 26 => .inl (V.2.1 1, 640, .inl f)
  | 27 => .inl (V.2.1 0, 640, .inl f)
  | 28 => .inl (V.2.1 0, 640, .inl f)
  | 29 => .inl (V.2.1 0, 640, .inl f)
  | 30 => .inl (V.2.1 2, 1, .inr (.inl (xL f)))
  | 31 => .inr (10, [.int (f 0), .ref (V.2.2 40), .ref (V.2.2 41), .ref (V.2.2 42), .ref (V.2.2 43), .ref (V.2.2 44), .ref (V.2.2 45), .ref (V.2.2 46), .ref (V.2.2 47), .ref (V.2.2 48), .int (f 10), .ref (V.2.2 49), .ref (V.2.2 50), .int (f 13), .ref (V.2.2 51), .ref (V.2.2 52), .ref (V.2.2 53), .ref (V.2.2 54), .ref (V.2.2 55), .int (f 19), .ref (V.2.2 56), .int (f 21), .int (f 22), .int (f 23), .int (f 24), .int (f 25), .int (f 26), .ref (V.2.2 57), .ref (V.2.2 58), .ref (V.2.2 59), .ref (V.2.2 60), .int (f 31)])
  | 32 => .inl (V.2.1 0, 40, .inl f)
  | 33 => .inl (V.2.1 0, 40, .inl f)
  | 34 => .inl (V.2.1 0, 40, .inl f)
  | 35 => .inl (V.2.1 0, 40, .inl f)
  | 36 => .inl (V.2.1 0, 40, .inl f)
  | 37 => .inl (V.2.1 0, 40, .inl f)
  | 38 => .inl (V.2.1 0, 40, .inl f)
  | 39 => .inl (V.2.1 0, 40, .inl f)
  | 40 => .inl (V.2.1 0, 640, .inl f)
  | 41 => .inl (V.2.1 0, 640, .inl f)
  | 42 => .inl (V.2.1 0, 640, .inl f)
  | 43 => .inl (V.2.1 0, 640, .inl f)
  | 44 => .inl (V.2.1 0, 640, .inl f)
  | 45 => .inl (V.2.1 0, 640, .inl f)
  | 46 => .inl (V.2.1 0, 9600, .inl f)
  | 47 => .inl (V.2.1 0, 9600, .inl f)
  | 48 => .inl (V.2.1 1, 640, .inl f)
  | 49 => .inl (V.2.1 0, 640, .inl f)
  | 50 => .inl (V.2.1 1, 40, .inl f)
  | 51 => .inl (V.2.1 0, 8, .inl f)
  | 52 => .inl (V.2.1 0, 320, .inl f)
  | 53 => .inl (V.2.1 0, 8, .inl f)
  | 54 => .inl (V.2.1 0, 16, .inl f)
  | 55 => .inl (V.2.1 0, 16, .inl f)
  | 56 => .inl (V.2.1 0, 1400, .inl f)
  | 57 => .inl (V.2.1 0, 640, .inl f)
  | 58 => .inl (V.2.1 0, 640, .inl f)
  | 59 => .inl (V.2.1 2, 6400, .inr (.inl (xL f)))
  | 60 => .inl (V.2.1 0, 409600, .inl f)
  | _ => .inr (99, [])
theorem xE0 (V : xV) (f : Nat → Int32) : xE V 0 f = .inr (0, [.ref (V.2.2 1), .ref (V.2.2 2), .ref (V.2.2 3), .ref (V.2.2 4), .int (f 4), .int (f 5)]) := rfl
theorem xE1 (V : xV) (f : Nat → Int32) : xE V 1 f = .inr (1, [.ref (V.2.2 5), .ref (V.2.2 6), .ref (V.2.2 7), .ref (V.2.2 8), .ref (V.2.2 9), .ref (V.2.2 10)]) := rfl
theorem xE2 (V : xV) (f : Nat → Int32) : xE V 2 f = .inr (2, [.ref (V.2.2 1), .ref (V.2.2 11), .int (f 2), .int (f 3), .int (f 4)]) := rfl
theorem xE3 (V : xV) (f : Nat → Int32) : xE V 3 f = .inr (3, [.ref (V.2.2 1), .ref (V.2.2 12), .ref (V.2.2 13), .int (f 3)]) := rfl
theorem xE4 (V : xV) (f : Nat → Int32) : xE V 4 f = .inr (4, [.ref (V.2.2 6), .ref (V.2.2 14), .ref (V.2.2 15), .ref (V.2.2 16), .int (f 4)]) := rfl
theorem xE5 (V : xV) (f : Nat → Int32) : xE V 5 f = .inr (5, [.ref (V.2.2 17), .ref (V.2.2 18)]) := rfl
theorem xE6 (V : xV) (f : Nat → Int32) : xE V 6 f = .inr (6, [.ref (V.2.2 19)]) := rfl
theorem xE7 (V : xV) (f : Nat → Int32) : xE V 7 f = .inr (7, [.ref (V.2.2 20), .ref (V.2.2 21), .ref (V.2.2 22), .ref (V.2.2 23), .int (f 4)]) := rfl
theorem xE8 (V : xV) (f : Nat → Int32) : xE V 8 f = .inr (8, [.ref (V.2.2 24), .int (f 1)]) := rfl
theorem xE9 (V : xV) (f : Nat → Int32) : xE V 9 f = .inr (8, [.ref (V.2.2 25), .int (f 1)]) := rfl
theorem xE10 (V : xV) (f : Nat → Int32) : xE V 10 f = .inl (V.2.1 0, 640, .inl f) := rfl
theorem xE11 (V : xV) (f : Nat → Int32) : xE V 11 f = .inr (9, [.ref (V.2.2 1), .ref (V.2.2 26), .ref (V.2.2 27), .int (f 3)]) := rfl
theorem xE12 (V : xV) (f : Nat → Int32) : xE V 12 f = .inl (V.2.1 0, 640, .inl f) := rfl
theorem xE13 (V : xV) (f : Nat → Int32) : xE V 13 f = .inl (V.2.1 1, 640, .inl f) := rfl
theorem xE14 (V : xV) (f : Nat → Int32) : xE V 14 f = .inl (V.2.1 0, 640, .inl f) := rfl
theorem xE15 (V : xV) (f : Nat → Int32) : xE V 15 f = .inl (V.2.1 0, 640, .inl f) := rfl
theorem xE16 (V : xV) (f : Nat → Int32) : xE V 16 f = .inl (V.2.1 0, 640, .inl f) := rfl
theorem xE17 (V : xV) (f : Nat → Int32) : xE V 17 f = .inl (V.2.1 0, 16, .inl f) := rfl
theorem xE18 (V : xV) (f : Nat → Int32) : xE V 18 f = .inl (V.2.1 0, 16, .inl f) := rfl
theorem xE19 (V : xV) (f : Nat → Int32) : xE V 19 f = .inr (5, [.ref (V.2.2 28), .ref (V.2.2 29)]) := rfl
theorem xE20 (V : xV) (f : Nat → Int32) : xE V 20 f = .inl (V.2.1 0, 40, .inl f) := rfl
theorem xE21 (V : xV) (f : Nat → Int32) : xE V 21 f = .inl (V.2.1 3, 8, .inr (.inr (.inr (.inr (fun i => if i < 8 then some (V.2.2 (32 + i)) else none))))) := rfl
theorem xE22 (V : xV) (f : Nat → Int32) : xE V 22 f = .inl (V.2.1 0, 8, .inl f) := rfl
theorem xE23 (V : xV) (f : Nat → Int32) : xE V 23 f = .inl (V.2.1 0, 8, .inl f) := rfl
theorem xE24 (V : xV) (f : Nat → Int32) : xE V 24 f = .inl (V.2.1 0, 640, .inl f) := rfl
theorem xE25 (V : xV) (f : Nat → Int32) : xE V 25 f = .inl (V.2.1 0, 640, .inl f) := rfl
theorem xE26 (V : xV) (f : Nat → Int32) : xE V 26 f = .inl (V.2.1 1, 640, .inl f) := rfl
theorem xE27 (V : xV) (f : Nat → Int32) : xE V 27 f = .inl (V.2.1 0, 640, .inl f) := rfl
theorem xE28 (V : xV) (f : Nat → Int32) : xE V 28 f = .inl (V.2.1 0, 640, .inl f) := rfl
theorem xE29 (V : xV) (f : Nat → Int32) : xE V 29 f = .inl (V.2.1 0, 640, .inl f) := rfl
theorem xE30 (V : xV) (f : Nat → Int32) : xE V 30 f = .inl (V.2.1 2, 1, .inr (.inl (xL f))) := rfl
theorem xE31 (V : xV) (f : Nat → Int32) : xE V 31 f = .inr (10, [.int (f 0), .ref (V.2.2 40), .ref (V.2.2 41), .ref (V.2.2 42), .ref (V.2.2 43), .ref (V.2.2 44), .ref (V.2.2 45), .ref (V.2.2 46), .ref (V.2.2 47), .ref (V.2.2 48), .int (f 10), .ref (V.2.2 49), .ref (V.2.2 50), .int (f 13), .ref (V.2.2 51), .ref (V.2.2 52), .ref (V.2.2 53), .ref (V.2.2 54), .ref (V.2.2 55), .int (f 19), .ref (V.2.2 56), .int (f 21), .int (f 22), .int (f 23), .int (f 24), .int (f 25), .int (f 26), .ref (V.2.2 57), .ref (V.2.2 58), .ref (V.2.2 59), .ref (V.2.2 60), .int (f 31)]) := rfl
theorem xE32 (V : xV) (f : Nat → Int32) : xE V 32 f = .inl (V.2.1 0, 40, .inl f) := rfl
theorem xE33 (V : xV) (f : Nat → Int32) : xE V 33 f = .inl (V.2.1 0, 40, .inl f) := rfl
theorem xE34 (V : xV) (f : Nat → Int32) : xE V 34 f = .inl (V.2.1 0, 40, .inl f) := rfl
theorem xE35 (V : xV) (f : Nat → Int32) : xE V 35 f = .inl (V.2.1 0, 40, .inl f) := rfl
theorem xE36 (V : xV) (f : Nat → Int32) : xE V 36 f = .inl (V.2.1 0, 40, .inl f) := rfl
theorem xE37 (V : xV) (f : Nat → Int32) : xE V 37 f = .inl (V.2.1 0, 40, .inl f) := rfl
theorem xE38 (V : xV) (f : Nat → Int32) : xE V 38 f = .inl (V.2.1 0, 40, .inl f) := rfl
theorem xE39 (V : xV) (f : Nat → Int32) : xE V 39 f = .inl (V.2.1 0, 40, .inl f) := rfl
theorem xE40 (V : xV) (f : Nat → Int32) : xE V 40 f = .inl (V.2.1 0, 640, .inl f) := rfl
theorem xE41 (V : xV) (f : Nat → Int32) : xE V 41 f = .inl (V.2.1 0, 640, .inl f) := rfl
theorem xE42 (V : xV) (f : Nat → Int32) : xE V 42 f = .inl (V.2.1 0, 640, .inl f) := rfl
theorem xE43 (V : xV) (f : Nat → Int32) : xE V 43 f = .inl (V.2.1 0, 640, .inl f) := rfl
theorem xE44 (V : xV) (f : Nat → Int32) : xE V 44 f = .inl (V.2.1 0, 640, .inl f) := rfl
theorem xE45 (V : xV) (f : Nat → Int32) : xE V 45 f = .inl (V.2.1 0, 640, .inl f) := rfl
theorem xE46 (V : xV) (f : Nat → Int32) : xE V 46 f = .inl (V.2.1 0, 9600, .inl f) := rfl
theorem xE47 (V : xV) (f : Nat → Int32) : xE V 47 f = .inl (V.2.1 0, 9600, .inl f) := rfl
theorem xE48 (V : xV) (f : Nat → Int32) : xE V 48 f = .inl (V.2.1 1, 640, .inl f) := rfl
theorem xE49 (V : xV) (f : Nat → Int32) : xE V 49 f = .inl (V.2.1 0, 640, .inl f) := rfl
theorem xE50 (V : xV) (f : Nat → Int32) : xE V 50 f = .inl (V.2.1 1, 40, .inl f) := rfl
theorem xE51 (V : xV) (f : Nat → Int32) : xE V 51 f = .inl (V.2.1 0, 8, .inl f) := rfl
theorem xE52 (V : xV) (f : Nat → Int32) : xE V 52 f = .inl (V.2.1 0, 320, .inl f) := rfl
theorem xE53 (V : xV) (f : Nat → Int32) : xE V 53 f = .inl (V.2.1 0, 8, .inl f) := rfl
theorem xE54 (V : xV) (f : Nat → Int32) : xE V 54 f = .inl (V.2.1 0, 16, .inl f) := rfl
theorem xE55 (V : xV) (f : Nat → Int32) : xE V 55 f = .inl (V.2.1 0, 16, .inl f) := rfl
theorem xE56 (V : xV) (f : Nat → Int32) : xE V 56 f = .inl (V.2.1 0, 1400, .inl f) := rfl
theorem xE57 (V : xV) (f : Nat → Int32) : xE V 57 f = .inl (V.2.1 0, 640, .inl f) := rfl
theorem xE58 (V : xV) (f : Nat → Int32) : xE V 58 f = .inl (V.2.1 0, 640, .inl f) := rfl
theorem xE59 (V : xV) (f : Nat → Int32) : xE V 59 f = .inl (V.2.1 2, 6400, .inr (.inl (xL f))) := rfl
theorem xE60 (V : xV) (f : Nat → Int32) : xE V 60 f = .inl (V.2.1 0, 409600, .inl f) := rfl
def xu (σ : xS) (c k : Nat) (v : Int32) : xS := va_up σ c (upd (σ c) k v)
/-- a long is written -/
def xul (σ : xS) (c k : Nat) (x : Int64) : xS := va_up σ c (upd (upd (σ c) (2 * k) (xlo x)) (2 * k + 1) (xhi x))
theorem xu_eq (σ : xS) (c k : Nat) (v : Int32) (d j : Nat) : xu σ c k v d j = if d = c then (if j = k then v else σ c j) else σ d j := by
  unfold xu va_up upd
  by_cases h : d = c <;> simp [h]
theorem xL_up (f : Nat → Int32) (k : Nat) (x : Int64) : xL (upd (upd f (2 * k) (xlo x)) (2 * k + 1) (xhi x)) = vp_updL (xL f) k x := by
  funext j
  unfold xL vp_updL upd
  by_cases h : j = k
  · subst h
    simp only [if_true, if_neg (show ¬ 2 * j = 2 * j + 1 by omega)]
    exact xL_mk x
  · simp only [if_neg h, if_neg (show ¬ 2 * j + 1 = 2 * k + 1 by omega), if_neg (show ¬ 2 * j + 1 = 2 * k by omega), if_neg (show ¬ 2 * j = 2 * k + 1 by omega), if_neg (show ¬ 2 * j = 2 * k by omega)]
def xw (V : xV) (σ : xS) : va_W := (List.range 61).map (fun c => (V.2.2 c, xE V c (σ c)))
theorem xw_get {V : xV} {σ : xS} {c : Nat} (h : c < 61) : (xw V σ)[c]? = some (V.2.2 c, xE V c (σ c)) := by
  simp [xw, h]
theorem xw_none {V : xV} {σ : xS} {c : Nat} (h : ¬ c < 61) : (xw V σ)[c]? = none := by
  simp [xw]; omega
theorem xw_lt {V : xV} {σ : xS} {c : Nat} {q : Nat × va_E} (h : (xw V σ)[c]? = some q) : c < 61 := by
  by_cases hl : c < 61
  · exact hl
  · rw [xw_none hl] at h; cases h
theorem xw_set {V : xV} {σ : xS} {c : Nat} (hc : c < 61) (g : Nat → Int32) : (xw V σ).set c (V.2.2 c, xE V c g) = xw V (va_up σ c g) := by
  refine List.ext_getElem? (fun i => ?_)
  by_cases hi : i = c
  · subst hi
    rw [List.getElem?_set_self (by simp [xw, hc]), xw_get hc, va_up_self]
  · rw [List.getElem?_set_ne (Ne.symm hi)]
    by_cases hl : i < 61
    · rw [xw_get hl, xw_get hl, va_up_ne _ _ hi]
    · rw [xw_none hl, xw_none hl]
/-- which cells a method may change -/
def xA (V : xV) (sz : Nat) : Nat → Prop := fun q => (∃ c, c < 61 ∧ q = V.2.2 c) ∨ sz ≤ q
abbrev xty (V : xV) : List (ClassId × FieldType) := [(V.2.1 0, .int), (V.2.1 1, .boolean), (V.2.1 2, .long), (V.2.1 3, .array .int)]
abbrev xnest : Cond := .fieldLinkNest "RegionPool$Heap" 30 "RegionPool$Values" "contents" "[I" "RegionPool"
/-- what the tables say -/
def xK (V : xV) (U : State) : Prop := va_K V.1 xcl (xty V) U ∧ va_Nw xnest U
theorem xK.moved {V : xV} {s U : State} (hW : s.WarmedH U.vm) (h : xK V s) : xK V U := ⟨va_K.moved hW.alike h.1, va_Nw.warmF hW h.2⟩
theorem xK.same {V : xV} {s U : State} (hv : s.vm = U.vm) (h : xK V s) : xK V U := ⟨va_K.moved (by rw [hv]; exact Vm.Alike.refl U.vm) h.1, va_Nw.same rfl hv h.2⟩
def xPre (V : xV) (sz : Nat) (σ : xS) (U : State) : Prop := U.heap.size = sz ∧ va_P V.1 xcl (xw V σ) U.heap ∧ va_D (fun _ => True) (xw V σ) ∧ xK V U
def xPost (V : xV) (u : xS) (t : State) : Prop := va_P V.1 xcl (xw V u) t.heap
theorem xBlind {V : xV} {sz : Nat} {σ : xS} {av : List Value} : FrameBlind (va_Pc av (xPre V sz σ)) := fun a U g mk q => by
  obtain ⟨q0, q1, q2, q3, q4⟩ := q
  exact ⟨q0, q1, q2, q3, q4.same rfl⟩
/-- contracts: an int, nothing -/
def xMi (l : Launch) (y : MethodName) (ws : List Cond) (rm : Room) (V : xV) (av : List Value) (σ : xS) (Q : Int32 → xS → Prop) : Prop :=
  ∀ sz : Nat, Met l y ws rm (va_Pc av (xPre V sz σ)) (va_Qi Q (xPost V) (xA V sz)) 0 0 (xA V sz)
def xMv (l : Launch) (y : MethodName) (ws : List Cond) (rm : Room) (V : xV) (av : List Value) (σ : xS) (Q : xS → Prop) : Prop :=
  ∀ sz : Nat, Met l y ws rm (va_Pc av (xPre V sz σ)) (va_Qv Q (xPost V) (xA V sz)) 0 0 (xA V sz)
/-- inside a method: the world now -/
def xI (V : xV) (H0 : Heap) (σ : xS) (H : Heap) (locs : List Loc) : Prop := va_P V.1 xcl (xw V σ) H ∧ va_D (xA V H0.size) (xw V σ) ∧ va_S (xA V H0.size) H0 H locs
/-- inside a method: what stays -/
def xC (p : Program) (s : State) (m : MethodId) (args : Array Value) (c : Code) (cc : ByteArray) (nL : Nat) (own : String) (V : xV) : Prop :=
  p.tables.exec = Jvm.exec ∧ c.code = cc ∧ c.maxLocals = nL ∧ s.vm.findClass own = some m.cls ∧ (∀ w ∈ xG, w.before args s = true) ∧ xK V s
abbrev xZi (below : List Frame) (V : xV) (args : Array Value) (s : State) (Q : Int32 → xS → Prop) : State → Prop := MQ below (va_Qi Q (xPost V) (xA V s.heap.size)) args s 0 0 (xA V s.heap.size)
abbrev xZv (below : List Frame) (V : xV) (args : Array Value) (s : State) (Q : xS → Prop) : State → Prop := MQ below (va_Qv Q (xPost V) (xA V s.heap.size)) args s 0 0 (xA V s.heap.size)
theorem xD_self {V : xV} {sz : Nat} {σ : xS} {A : Nat → Prop} (h : va_D A (xw V σ)) : va_D (xA V sz) (xw V σ) := ⟨h.1, fun k q hk => by
  have hl := xw_lt hk
  rw [xw_get hl] at hk
  cases hk
  exact Or.inl ⟨k, hl, rfl⟩⟩
theorem xD_any {V : xV} {σ τ : xS} {A : Nat → Prop} (h : va_D A (xw V σ)) : va_D A (xw V τ) := by
  refine ⟨fun i j p q hi hj e => ?_, fun k q hk => ?_⟩
  · have h1 := xw_lt hi
    have h2 := xw_lt hj
    rw [xw_get h1] at hi
    rw [xw_get h2] at hj
    cases hi; cases hj
    exact h.1 i j _ _ (xw_get h1) (xw_get h2) e
  · have h1 := xw_lt hk
    rw [xw_get h1] at hk
    cases hk
    have h2 := h.2 k _ (xw_get (V := V) (σ := σ) h1)
    exact h2
section XW
variable {p : Program} {l : Launch} {e : Env} {R : Room} {s : State} {m : MethodId} {args : Array Value} {below : List Frame} {meth : Method} {c : Code} {H : Heap} {locs : List Loc} {cells slots : Nat} {Z : State → Prop}
variable {cc : ByteArray} {nL pc : Nat} {own : String} {V : xV} {σ : xS} {ls : Array Slot} {rest : List Value}
theorem x_begini {y : MethodName} {bytes : ByteArray} {maxL : Nat} {ret : Option FieldType} {rm : Room} {av : List Value} {Q : Int32 → xS → Prop} (hy : plainName y.cls = true) (hav : (lg_sl av).length ≤ maxL)
    (body : ∀ (p : Program) (e : Env) (s : State) (m : MethodId) (below : List Frame) (meth : Method) (c : Code) (ls : Array Slot), xC p s m av.toArray c bytes maxL y.cls V → meth.locks = false → meth.sig.returnType = ret → xI V s.heap σ s.heap [] → lv_has ls maxL (lv_args 0 av) →
      W p l e rm s m av.toArray below meth c s.heap [] 0 0 (xZi below V av.toArray s Q) (F0 m 0 ls [])) : xMi l y (.code y bytes maxL ret :: xG) rm V av σ Q := by
  intro sz
  refine Met.ofW (cc := bytes) (maxL := maxL) (ret := ret) hy rfl ?_
  intro p e s m args below meth c s₁ B hml hv
  obtain ⟨rfl, hsz, hP, hD, hK⟩ := hv
  subst hsz
  have hts := atoms_spec (ws := .code y bytes maxL ret :: xG) B.pre
  have hl := lv_entry av (n := maxL) hav
  rw [lg_entry_eq]
  exact body p e s m below meth c _ ⟨B.exec, B.bytes, hml, findClass_of_methodNamed B.named, fun w h => hts w (List.mem_cons_of_mem _ h), hK⟩ B.notSynchronized B.returns ⟨hP, xD_self hD, va_S.rf⟩ hl
theorem x_beginv {y : MethodName} {bytes : ByteArray} {maxL : Nat} {ret : Option FieldType} {rm : Room} {av : List Value} {Q : xS → Prop} (hy : plainName y.cls = true) (hav : (lg_sl av).length ≤ maxL)
    (body : ∀ (p : Program) (e : Env) (s : State) (m : MethodId) (below : List Frame) (meth : Method) (c : Code) (ls : Array Slot), xC p s m av.toArray c bytes maxL y.cls V → meth.locks = false → meth.sig.returnType = ret → xI V s.heap σ s.heap [] → lv_has ls maxL (lv_args 0 av) →
      W p l e rm s m av.toArray below meth c s.heap [] 0 0 (xZv below V av.toArray s Q) (F0 m 0 ls [])) : xMv l y (.code y bytes maxL ret :: xG) rm V av σ Q := by
  intro sz
  refine Met.ofW (cc := bytes) (maxL := maxL) (ret := ret) hy rfl ?_
  intro p e s m args below meth c s₁ B hml hv
  obtain ⟨rfl, hsz, hP, hD, hK⟩ := hv
  subst hsz
  have hts := atoms_spec (ws := .code y bytes maxL ret :: xG) B.pre
  have hl := lv_entry av (n := maxL) hav
  rw [lg_entry_eq]
  exact body p e s m below meth c _ ⟨B.exec, B.bytes, hml, findClass_of_methodNamed B.named, fun w h => hts w (List.mem_cons_of_mem _ h), hK⟩ B.notSynchronized B.returns ⟨hP, xD_self hD, va_S.rf⟩ hl
theorem x_iret {Q : Int32 → xS → Prop} {v : Int32} (C : xC p s m args c cc nL own V) (hlocks : meth.locks = false) (hr : meth.sig.returnType = some .int) (hI : xI V s.heap σ H locs) (hQ : Q v σ) (hdg : decode cc pc = .ok (.ireturn, 1)) : W p l e R s m args below meth c H locs 0 0 (xZi below V args s Q) (F0 m pc ls [.int v]) :=
  W.iret (v := v) C.1 C.2.1 hr (fun t ht _ => ⟨⟨v, σ, rfl, hQ, by unfold xPost; rw [ht]; exact hI.1⟩, hI.2.2.F ht⟩) hI.2.2.2.2 hdg
theorem x_zret {Q : Int32 → xS → Prop} {v : Int32} (C : xC p s m args c cc nL own V) (hlocks : meth.locks = false) (hr : meth.sig.returnType = some .boolean) (hI : xI V s.heap σ H locs) (hQ : narrow .boolean (.int v) = .int v ∧ Q v σ) (hdg : decode cc pc = .ok (.ireturn, 1)) : W p l e R s m args below meth c H locs 0 0 (xZi below V args s Q) (F0 m pc ls [.int v]) :=
  W.zret (v := v) C.1 C.2.1 hr hQ.1 (fun t ht _ => ⟨⟨v, σ, rfl, hQ.2, by unfold xPost; rw [ht]; exact hI.1⟩, hI.2.2.F ht⟩) hI.2.2.2.2 hdg
theorem x_vret {Q : xS → Prop} (C : xC p s m args c cc nL own V) (hlocks : meth.locks = false) (hr : meth.sig.returnType = none) (hI : xI V s.heap σ H locs) (hQ : Q σ) (hdg : decode cc pc = .ok (.return_, 1)) : W p l e R s m args below meth c H locs 0 0 (xZv below V args s Q) (F0 m pc ls []) :=
  W.vret C.1 C.2.1 hr (fun t ht _ => ⟨⟨σ, rfl, hQ, by unfold xPost; rw [ht]; exact hI.1⟩, hI.2.2.F ht⟩) hI.2.2.2.2 hdg
/-- a field of a class, as an instruction of own names it -/
def xFd (own : String) (idx ci k : Nat) : Prop := ∃ (CN : String) (T : u_T) (N : Nat), xcl[ci]? = some (CN, T, N) ∧ (∀ w ∈ u_ws CN T N, w ∈ xG) ∧ k < N ∧ Cond.fieldLink own idx (T k).1 (T k).2.1 (T k).2.2.1 ∈ xG
/-- .. one that holds an int, and may be written -/
def xFw (own : String) (idx ci k : Nat) : Prop := ∃ (CN : String) (T : u_T) (N : Nat) (ty : Nat → FieldType), xcl[ci]? = some (CN, T, N) ∧ (∀ w ∈ u_ws CN T N, w ∈ xG) ∧ k < N ∧ Cond.fieldLink own idx (T k).1 (T k).2.1 (T k).2.2.1 ∈ xG ∧ (∀ k, k < N → parseFieldDescriptor (T k).2.2.1 = some (ty k)) ∧ (∀ a, a < N → ∀ b, b < N → a ≠ b → (T a).2.1 ≠ (T b).2.1) ∧ (T k).2.2.2 = false ∧ parseFieldDescriptor (T k).2.2.1 = some .int
theorem x_get (C : xC p s m args c cc nL own V) (hI : xI V s.heap σ H locs) {d : Nat} (hd : d < 61) {ci k idx : Nat} {fs : List Value} {v : Value} (hE : xE V d (σ d) = .inr (ci, fs)) (hF : xFd own idx ci k) (hv : fs[k]? = some v) (hdg : decode cc pc = .ok (.getfield idx, 3))
    (kk : W p l e R s m args below meth c H locs cells slots Z (F0 m (pc + 3) ls (v :: rest))) : W p l e R s m args below meth c H locs cells slots Z (F0 m pc ls (.ref (V.2.2 d) :: rest)) := by
  obtain ⟨CN, T, N, h1, h2, h3, h4⟩ := hF
  exact va_get C.1 C.2.1 C.2.2.2.2.1 h2 C.2.2.2.1 C.2.2.2.2.2.1 hI.1 d (by rw [xw_get hd, hE]) h1 k h3 (C.2.2.2.2.1 _ h4) (fun _ h => h) hv hdg kk
theorem x_getN (C : xC p s m args c cc nL "RegionPool$Heap" V) (hI : xI V s.heap σ H locs) {d : Nat} (hd : d < 61) {fs : List Value} {v : Value} (hE : xE V d (σ d) = .inr (5, fs)) (hv : fs[1]? = some v) (hdg : decode cc pc = .ok (.getfield 30, 3))
    (kk : W p l e R s m args below meth c H locs cells slots Z (F0 m (pc + 3) ls (v :: rest))) : W p l e R s m args below meth c H locs cells slots Z (F0 m pc ls (.ref (V.2.2 d) :: rest)) :=
  va_getN (C := R_Val) (T := T_Val) (N := 2) (host := "RegionPool") C.1 C.2.1 C.2.2.2.2.1 in_Val C.2.2.2.1 C.2.2.2.2.2.1 hI.1 d (by rw [xw_get hd, hE]) rfl 1 (by decide) (C.2.2.2.2.2.2.use rfl) (fun _ h => h) hv hdg kk
theorem x_put (C : xC p s m args c cc nL own V) (hI : xI V s.heap σ H locs) {d : Nat} (hd : d < 61) {ci k idx : Nat} {fs : List Value} {x : Int32} (hE : xE V d (σ d) = .inr (ci, fs)) (hE2 : xE V d (upd (σ d) k x) = .inr (ci, fs.set k (.int x))) (hF : xFw own idx ci k) (hk : k < fs.length) (hdg : decode cc pc = .ok (.putfield idx, 3))
    (kk : ∀ (H1 : Heap) (locs1 : List Loc), xI V s.heap (xu σ d k x) H1 locs1 → W p l e R s m args below meth c H1 locs1 cells slots Z (F0 m (pc + 3) ls rest)) : W p l e R s m args below meth c H locs cells slots Z (F0 m pc ls (.int x :: .ref (V.2.2 d) :: rest)) := by
  obtain ⟨CN, T, N, ty, h1, h2, h3, h4, h5, h6, h7, h8⟩ := hF
  have e := xw_set (V := V) (σ := σ) hd (upd (σ d) k x)
  rw [hE2] at e
  refine va_put (ty := .int) (v := .int x) C.1 C.2.1 C.2.2.2.2.1 h2 ty h5 h6 C.2.2.2.1 C.2.2.2.2.2.1 hI.1 hI.2.1 hI.2.2 d (by rw [xw_get hd, hE]) h1 k h3 (C.2.2.2.2.1 _ h4) (fun _ h => h) h7 h8 rfl rfl hk hdg (fun H1 locs1 a1 a2 a3 => ?_)
  rw [e] at a1 a2
  exact kk H1 locs1 ⟨a1, a2, a3⟩
theorem x_iald (C : xC p s m args c cc nL own V) (hI : xI V s.heap σ H locs) {d n : Nat} (hd : d < 61) (hE : ∀ f, xE V d f = .inl (V.2.1 0, n, .inl f)) {i : Int32} (hin : vp_in i n) (hdg : decode cc pc = .ok (.iaload, 1))
    (kk : W p l e R s m args below meth c H locs cells slots Z (F0 m (pc + 1) ls (.int (σ d i.toNatClampNeg) :: rest))) : W p l e R s m args below meth c H locs cells slots Z (F0 m pc ls (.int i :: .ref (V.2.2 d) :: rest)) :=
  va_iald C.1 C.2.1 C.2.2.2.2.2.1 hI.1 d 0 (by rw [xw_get hd, hE]) rfl hin hdg kk
theorem x_zald (C : xC p s m args c cc nL own V) (hI : xI V s.heap σ H locs) {d n : Nat} (hd : d < 61) (hE : ∀ f, xE V d f = .inl (V.2.1 1, n, .inl f)) {i : Int32} (hin : vp_in i n) (hdg : decode cc pc = .ok (.baload, 1))
    (kk : W p l e R s m args below meth c H locs cells slots Z (F0 m (pc + 1) ls (.int (σ d i.toNatClampNeg) :: rest))) : W p l e R s m args below meth c H locs cells slots Z (F0 m pc ls (.int i :: .ref (V.2.2 d) :: rest)) :=
  va_zald C.1 C.2.1 C.2.2.2.2.2.1 hI.1 d 1 (by rw [xw_get hd, hE]) rfl hin hdg kk
theorem x_lald (C : xC p s m args c cc nL own V) (hI : xI V s.heap σ H locs) {d n : Nat} (hd : d < 61) (hE : ∀ f, xE V d f = .inl (V.2.1 2, n, .inr (.inl (xL f)))) {i : Int32} (hin : vp_in i n) (hdg : decode cc pc = .ok (.laload, 1))
    (kk : W p l e R s m args below meth c H locs cells slots Z (F0 m (pc + 1) ls (.long (xL (σ d) i.toNatClampNeg) :: rest))) : W p l e R s m args below meth c H locs cells slots Z (F0 m pc ls (.int i :: .ref (V.2.2 d) :: rest)) :=
  va_lald C.1 C.2.1 C.2.2.2.2.2.1 hI.1 d 2 (by rw [xw_get hd, hE]) rfl hin hdg kk
theorem x_iast (C : xC p s m args c cc nL own V) (hI : xI V s.heap σ H locs) {d n : Nat} (hd : d < 61) (hE : ∀ f, xE V d f = .inl (V.2.1 0, n, .inl f)) {i x : Int32} (hin : vp_in i n) (hdg : decode cc pc = .ok (.iastore, 1))
    (kk : ∀ (H1 : Heap) (locs1 : List Loc), xI V s.heap (xu σ d i.toNatClampNeg x) H1 locs1 → W p l e R s m args below meth c H1 locs1 cells slots Z (F0 m (pc + 1) ls rest)) : W p l e R s m args below meth c H locs cells slots Z (F0 m pc ls (.int x :: .int i :: .ref (V.2.2 d) :: rest)) := by
  have e := xw_set (V := V) (σ := σ) hd (upd (σ d) i.toNatClampNeg x)
  rw [hE] at e
  refine va_iast C.1 C.2.1 C.2.2.2.2.2.1 hI.1 hI.2.1 hI.2.2 d 0 (by rw [xw_get hd, hE]) rfl hin hdg (fun H1 locs1 a1 a2 a3 => ?_)
  rw [e] at a1 a2
  exact kk H1 locs1 ⟨a1, a2, a3⟩
theorem x_zast (C : xC p s m args c cc nL own V) (hI : xI V s.heap σ H locs) {d n : Nat} (hd : d < 61) (hE : ∀ f, xE V d f = .inl (V.2.1 1, n, .inl f)) {i x : Int32} (hin : vp_in i n) (hdg : decode cc pc = .ok (.bastore, 1))
    (kk : ∀ (H1 : Heap) (locs1 : List Loc), xI V s.heap (xu σ d i.toNatClampNeg (vp_nar .boolean x)) H1 locs1 → W p l e R s m args below meth c H1 locs1 cells slots Z (F0 m (pc + 1) ls rest)) : W p l e R s m args below meth c H locs cells slots Z (F0 m pc ls (.int x :: .int i :: .ref (V.2.2 d) :: rest)) := by
  have e := xw_set (V := V) (σ := σ) hd (upd (σ d) i.toNatClampNeg (vp_nar .boolean x))
  rw [hE] at e
  refine va_zast C.1 C.2.1 C.2.2.2.2.2.1 hI.1 hI.2.1 hI.2.2 d 1 (by rw [xw_get hd, hE]) rfl hin hdg (fun H1 locs1 a1 a2 a3 => ?_)
  rw [e] at a1 a2
  exact kk H1 locs1 ⟨a1, a2, a3⟩
theorem x_last (C : xC p s m args c cc nL own V) (hI : xI V s.heap σ H locs) {d n : Nat} (hd : d < 61) (hE : ∀ f, xE V d f = .inl (V.2.1 2, n, .inr (.inl (xL f)))) {i : Int32} {x : Int64} (hin : vp_in i n) (hdg : decode cc pc = .ok (.lastore, 1))
    (kk : ∀ (H1 : Heap) (locs1 : List Loc), xI V s.heap (xul σ d i.toNatClampNeg x) H1 locs1 → W p l e R s m args below meth c H1 locs1 cells slots Z (F0 m (pc + 1) ls rest)) : W p l e R s m args below meth c H locs cells slots Z (F0 m pc ls (.long x :: .int i :: .ref (V.2.2 d) :: rest)) := by
  have e := xw_set (V := V) (σ := σ) hd (upd (upd (σ d) (2 * i.toNatClampNeg) (xlo x)) (2 * i.toNatClampNeg + 1) (xhi x))
  rw [hE, xL_up] at e
  refine va_last C.1 C.2.1 C.2.2.2.2.2.1 hI.1 hI.2.1 hI.2.2 d 2 (by rw [xw_get hd, hE]) rfl hin hdg (fun H1 locs1 a1 a2 a3 => ?_)
  rw [e] at a1 a2
  exact kk H1 locs1 ⟨a1, a2, a3⟩
theorem x_alen (C : xC p s m args c cc nL own V) (hI : xI V s.heap σ H locs) {d n k : Nat} (hd : d < 61) {ty : FieldType} (hk : (xty V)[k]? = some (V.2.1 k, ty)) {g : (Nat → Int32) ⊕ (Nat → Int64) ⊕ (Nat → UInt32) ⊕ (Nat → UInt64) ⊕ (Nat → Option Nat)} (hE : xE V d (σ d) = .inl (V.2.1 k, n, g)) {v : Int32} (hv : Int32.ofNat n = v) (hdg : decode cc pc = .ok (.arraylength, 1))
    (kk : W p l e R s m args below meth c H locs cells slots Z (F0 m (pc + 1) ls (.int v :: rest))) : W p l e R s m args below meth c H locs cells slots Z (F0 m pc ls (.ref (V.2.2 d) :: rest)) :=
  va_alen C.1 C.2.1 C.2.2.2.2.2.1 hI.1 d k (by rw [xw_get hd, hE]) hk hv hdg kk
/-- a method as a callee: its words -/
def xY (y : MethodName) (bytes : ByteArray) (maxL : Nat) (ret : Option FieldType) (n : Nat) : Prop :=
  Cond.instanceMethod y ∈ xG ∧ Cond.selects y.cls y y ∈ xG ∧ Cond.initialized y.cls ∈ xG ∧ Cond.code y bytes maxL ret ∈ xG ∧ y.cls ≠ "java/lang/invoke/MethodHandle" ∧ y.cls ≠ "java/lang/invoke/VarHandle" ∧ (parseMethodDescriptor y.desc).map (fun d => d.parameters.length) = some n
theorem x_cw {y : MethodName} {bytes : ByteArray} {maxL n idx : Nat} {ret : Option FieldType} {rm : Room} (hts : ∀ w ∈ xG, w.before args s = true) (hY : xY y bytes maxL ret n) (hl : Cond.methodLink own idx y ∈ xG) (hrc : rm.cells = 0) (hrs : rm.slots = 0) (hR : rm.frames + 1 ≤ R.frames ∧ 8 + (maxL + 11) + rm.locals ≤ R.locals) :
    CallW R s args own y.cls idx y bytes maxL ret (.code y bytes maxL ret :: xG) rm 0 0 n := by
  obtain ⟨h1, h2, h3, h4, h5, h6, h7⟩ := hY
  refine ⟨callB_of n hts (fun w h => ?_) rfl hrc hrs (hts _ h3) (hts _ hl) ⟨h5, h6, h7⟩ hR, hts _ h1, hts _ h2⟩
  rcases List.mem_cons.mp h with rfl | h
  · exact ⟨h4, good_of_word (xG_good h4)⟩
  · exact ⟨h, good_of_word (xG_good h)⟩
theorem x_recv (C : xC p s m args c cc nL own V) (hI : xI V s.heap σ H locs) {d : Nat} (hd : d < 61) {ci : Nat} {fs : List Value} {CN : String} {T : u_T} {N : Nat} (hE : xE V d (σ d) = .inr (ci, fs)) (hc : xcl[ci]? = some (CN, T, N)) : ∃ cell : Cell, H[V.2.2 d]? = some cell ∧ cell.vm.isStatics = false ∧ s.vm.findClass CN = some cell.cls :=
  va_recv (q := (CN, T, N)) C.2.2.2.2.2.1 hI.1 hc (by rw [xw_get hd, hE])
theorem x_free (hI : xI V s.heap σ H locs) : ∀ q, xA V H.size q → xA V s.heap.size q := fun q h => by
  rcases h with h | h
  · exact Or.inl h
  · exact Or.inr (Nat.le_trans hI.2.2.1 h)
theorem x_calli (C : xC p s m args c cc nL own V) (hI : xI V s.heap σ H locs) (hls : ls.size = nL) {d ci n idx maxL : Nat} (hd : d < 61) {fs : List Value} {T : u_T} {N : Nat} {y : MethodName} {bytes : ByteArray} {ret : Option FieldType} {rm : Room} {As : List Value} {Q : Int32 → xS → Prop} {g : List Value}
    (hM : xMi l y (.code y bytes maxL ret :: xG) rm V (.ref (V.2.2 d) :: As) σ Q) (hE : xE V d (σ d) = .inr (ci, fs)) (hc : xcl[ci]? = some (y.cls, T, N)) (hY : xY y bytes maxL ret n) (hl : Cond.methodLink own idx y ∈ xG) (hrc : rm.cells = 0) (hrs : rm.slots = 0) (hR : rm.frames + 1 ≤ R.frames ∧ 8 + (maxL + 11) + rm.locals ≤ R.locals)
    (hn : As.length = n) (hg : g = As.reverse ++ .ref (V.2.2 d) :: rest) (hw : (rest.map fun v => v.category).sum ≤ 8) (hdg : decode cc pc = .ok (.invokevirtual idx, 3)) (hf : cells ≤ R.cells ∧ slots ≤ R.slots)
    (kk : ∀ (r : Int32) (τ : xS) (H1 : Heap) (locs1 : List Loc), Q r τ → xI V s.heap τ H1 locs1 → W p l e R s m args below meth c H1 locs1 cells slots Z (F0 m (pc + 3) ls (.int r :: rest))) : W p l e R s m args below meth c H locs cells slots Z (F0 m pc ls g) := by
  subst hg
  refine va_calli (va_runV (As := As) (rest := rest) (Ts := xG) (nL := nL) ⟨C.1, C.2.1, C.2.2.1, C.2.2.2.1, C.2.2.2.2.1⟩ (hM H.size) (x_cw C.2.2.2.2.1 hY hl hrc hrs hR) ⟨xBlind, x_recv C hI hd hE hc, fun U hU hW => ⟨rfl, by rw [hU], by rw [hU]; exact hI.1, ⟨hI.2.1.1, fun _ _ _ => trivial⟩, C.2.2.2.2.2.moved hW⟩⟩ rfl hn hls rfl (lv_room hw) hdg hf) hI.2.2 (fun q _ h => x_free hI q h) (x_free hI) (fun r u t H1 locs1 ht hvm hq hB hz hk hS => ?_)
  exact kk r u H1 locs1 hq ⟨by rw [← ht]; exact hB, xD_any hI.2.1, hS⟩
theorem x_callv (C : xC p s m args c cc nL own V) (hI : xI V s.heap σ H locs) (hls : ls.size = nL) {d ci n idx maxL : Nat} (hd : d < 61) {fs : List Value} {T : u_T} {N : Nat} {y : MethodName} {bytes : ByteArray} {ret : Option FieldType} {rm : Room} {As : List Value} {Q : xS → Prop} {g : List Value}
    (hM : xMv l y (.code y bytes maxL ret :: xG) rm V (.ref (V.2.2 d) :: As) σ Q) (hE : xE V d (σ d) = .inr (ci, fs)) (hc : xcl[ci]? = some (y.cls, T, N)) (hY : xY y bytes maxL ret n) (hl : Cond.methodLink own idx y ∈ xG) (hrc : rm.cells = 0) (hrs : rm.slots = 0) (hR : rm.frames + 1 ≤ R.frames ∧ 8 + (maxL + 11) + rm.locals ≤ R.locals)
    (hn : As.length = n) (hg : g = As.reverse ++ .ref (V.2.2 d) :: rest) (hw : (rest.map fun v => v.category).sum ≤ 8) (hdg : decode cc pc = .ok (.invokevirtual idx, 3)) (hf : cells ≤ R.cells ∧ slots ≤ R.slots)
    (kk : ∀ (τ : xS) (H1 : Heap) (locs1 : List Loc), Q τ → xI V s.heap τ H1 locs1 → W p l e R s m args below meth c H1 locs1 cells slots Z (F0 m (pc + 3) ls rest)) : W p l e R s m args below meth c H locs cells slots Z (F0 m pc ls g) := by
  subst hg
  refine va_callv (va_runV (As := As) (rest := rest) (Ts := xG) (nL := nL) ⟨C.1, C.2.1, C.2.2.1, C.2.2.2.1, C.2.2.2.2.1⟩ (hM H.size) (x_cw C.2.2.2.2.1 hY hl hrc hrs hR) ⟨xBlind, x_recv C hI hd hE hc, fun U hU hW => ⟨rfl, by rw [hU], by rw [hU]; exact hI.1, ⟨hI.2.1.1, fun _ _ _ => trivial⟩, C.2.2.2.2.2.moved hW⟩⟩ rfl hn hls rfl (lv_room hw) hdg hf) hI.2.2 (fun q _ h => x_free hI q h) (x_free hI) (fun u t H1 locs1 ht hvm hq hB hz hk hS => ?_)
  exact kk u H1 locs1 hq ⟨by rw [← ht]; exact hB, xD_any hI.2.1, hS⟩
end XW

theorem xErow (V : xV) {r : Nat} (h : r < 8) (f : Nat → Int32) : xE V (32 + r) f = .inl (V.2.1 0, 40, .inl f) := by
  match r, h with
  | 0, _ => rfl
  | 1, _ => rfl
  | 2, _ => rfl
  | 3, _ => rfl
  | 4, _ => rfl
  | 5, _ => rfl
  | 6, _ => rfl
  | 7, _ => rfl
end
section
theorem x_rown {i : Int32} (h : vp_in i 8) : i.toNatClampNeg < 8 := Nat.not_le.mp fun q => h (Or.inr q)
theorem x_rowlt {i : Int32} (h : vp_in i 8) : 32 + i.toNatClampNeg < 61 := by
  have := x_rown h
  omega
theorem x_ne {x k : Int32} (h : ¬ x = k) {n : Int} (hn : k.toInt = n) : x.toInt ≠ n := fun e => h (Int32.toInt_inj.mp (e.trans hn.symm))
section XM
variable {p : Program} {l : Launch} {e : Env} {R : Room} {s : State} {m : MethodId} {args : Array Value} {below : List Frame} {meth : Method} {c : Code} {H : Heap} {locs : List Loc} {cells slots : Nat} {Z : State → Prop}
variable {cc : ByteArray} {nL pc : Nat} {own : String} {V : xV} {σ : xS} {ls : Array Slot} {rest : List Value}
/-- a row of the regions' table -/
theorem x_aald (C : xC p s m args c cc nL own V) (hI : xI V s.heap σ H locs) {i : Int32} (hin : vp_in i 8) (hdg : decode cc pc = .ok (.aaload, 1))
    (kk : W p l e R s m args below meth c H locs cells slots Z (F0 m (pc + 1) ls (.ref (V.2.2 (32 + i.toNatClampNeg)) :: rest))) : W p l e R s m args below meth c H locs cells slots Z (F0 m pc ls (.int i :: .ref (V.2.2 21) :: rest)) := by
  have hlt := x_rown hin
  have hc := hI.1 21 _ (xw_get (V := V) (σ := σ) (by decide))
  exact W.aald (v := .ref (V.2.2 (32 + i.toNatClampNeg))) (ty := .array .int) C.1 C.2.1 hc ((C.2.2.2.2.2.1.2 3 _ rfl).1 8 (fun j => va_rf (if j < 8 then some (V.2.2 (32 + j)) else none))) rfl (fun q => by cases q) (by show ¬ (i < 0 ∨ (arrV _ _ _).slots.size ≤ _); rw [arrV_size]; exact hin) (by show (arrV _ _ _).slots[_]? = _; rw [arrV_read _ _ hlt]; show some (va_rf (if i.toNatClampNeg < 8 then some (V.2.2 (32 + i.toNatClampNeg)) else none)) = _; rw [if_pos hlt]; rfl) rfl rfl hdg kk
/-- a static method as a callee -/
def xYs (y : MethodName) (bytes : ByteArray) (maxL : Nat) (ret : Option FieldType) (n : Nat) : Prop :=
  Cond.static y ∈ xG ∧ Cond.initialized y.cls ∈ xG ∧ Cond.code y bytes maxL ret ∈ xG ∧ y.cls ≠ "java/lang/invoke/MethodHandle" ∧ y.cls ≠ "java/lang/invoke/VarHandle" ∧ (parseMethodDescriptor y.desc).map (fun d => d.parameters.length) = some n
theorem x_cwS {y : MethodName} {bytes : ByteArray} {maxL n idx : Nat} {ret : Option FieldType} {rm : Room} (hts : ∀ w ∈ xG, w.before args s = true) (hY : xYs y bytes maxL ret n) (hl : Cond.methodLink own idx y ∈ xG) (hrc : rm.cells = 0) (hrs : rm.slots = 0) (hR : rm.frames + 1 ≤ R.frames ∧ 8 + (maxL + 11) + rm.locals ≤ R.locals) :
    CallB R s args own idx y bytes maxL ret (.code y bytes maxL ret :: xG) rm 0 0 n ∧ (Cond.static y).before args s = true := by
  obtain ⟨h1, h3, h4, h5, h6, h7⟩ := hY
  refine ⟨callB_of n hts (fun w h => ?_) rfl hrc hrs (hts _ h3) (hts _ hl) ⟨h5, h6, h7⟩ hR, hts _ h1⟩
  rcases List.mem_cons.mp h with rfl | h
  · exact ⟨h4, good_of_word (xG_good h4)⟩
  · exact ⟨h, good_of_word (xG_good h)⟩
theorem x_calliS (C : xC p s m args c cc nL own V) (hI : xI V s.heap σ H locs) (hls : ls.size = nL) {n idx maxL : Nat} {y : MethodName} {bytes : ByteArray} {ret : Option FieldType} {rm : Room} {As : List Value} {Q : Int32 → xS → Prop} {g : List Value}
    (hM : xMi l y (.code y bytes maxL ret :: xG) rm V As σ Q) (hY : xYs y bytes maxL ret n) (hl : Cond.methodLink own idx y ∈ xG) (hrc : rm.cells = 0) (hrs : rm.slots = 0) (hR : rm.frames + 1 ≤ R.frames ∧ 8 + (maxL + 11) + rm.locals ≤ R.locals)
    (hn : As.length = n) (hg : g = As.reverse ++ rest) (hw : (rest.map fun v => v.category).sum ≤ 8) (hdg : decode cc pc = .ok (.invokestatic idx, 3)) (hf : cells ≤ R.cells ∧ slots ≤ R.slots)
    (kk : ∀ (r : Int32) (τ : xS) (H1 : Heap) (locs1 : List Loc), Q r τ → xI V s.heap τ H1 locs1 → W p l e R s m args below meth c H1 locs1 cells slots Z (F0 m (pc + 3) ls (.int r :: rest))) : W p l e R s m args below meth c H locs cells slots Z (F0 m pc ls g) := by
  subst hg
  refine va_calli (va_runS (As := As) (rest := rest) (Ts := xG) (nL := nL) ⟨C.1, C.2.1, C.2.2.1, C.2.2.2.1, C.2.2.2.2.1⟩ (hM H.size) (x_cwS C.2.2.2.2.1 hY hl hrc hrs hR) ⟨xBlind, fun U hU hW => ⟨rfl, by rw [hU], by rw [hU]; exact hI.1, ⟨hI.2.1.1, fun _ _ _ => trivial⟩, C.2.2.2.2.2.moved hW⟩⟩ rfl hn hls rfl (lv_room hw) hdg hf) hI.2.2 (fun q _ h => x_free hI q h) (x_free hI) (fun r u t H1 locs1 ht hvm hq hB hz hk hS => ?_)
  exact kk r u H1 locs1 hq ⟨by rw [← ht]; exact hB, xD_any hI.2.1, hS⟩
end XM
end
section
def y_Val_sortOf : MethodName := ⟨"RegionPool$Values", "sortOf", "(I)I"⟩
abbrev cd_Val_sortOf : ByteArray := prog_10_method_2_code
theorem fd_Val_9 : xFd R_Val 9 5 0 := ⟨R_Val, T_Val, 2, rfl, in_Val, by decide, xG_mem 92 (by decide +kernel) (by decide +kernel)⟩
def p_Val_sortOf_5 (x1 : Int32) (σ : xS) (Q : Int32 → xS → Prop) : Prop :=
  (vp_in x1 16 ∧ Q (σ 17 x1.toNatClampNeg) σ)
abbrev rm_Val_sortOf_5 : Room := { frames := 0, cells := 0, slots := 0, locals := 0 }
theorem d_Val_sortOf_0 : decode cd_Val_sortOf 0 = .ok (.aload_n 0, 1) := by decide +kernel
theorem d_Val_sortOf_1 : decode cd_Val_sortOf 1 = .ok (.getfield 9, 3) := by decide +kernel
theorem d_Val_sortOf_4 : decode cd_Val_sortOf 4 = .ok (.iload_n 1, 1) := by decide +kernel
theorem d_Val_sortOf_5 : decode cd_Val_sortOf 5 = .ok (.iaload, 1) := by decide +kernel
theorem d_Val_sortOf_6 : decode cd_Val_sortOf 6 = .ok (.ireturn, 1) := by decide +kernel
set_option maxRecDepth 100000 in
set_option maxHeartbeats 4000000 in
theorem c_Val_sortOf_5 {l : Launch} {V : xV} {σ : xS} {x1 : Int32} {Q : Int32 → xS → Prop} (h : p_Val_sortOf_5 x1 σ Q) : xMi l y_Val_sortOf (.code y_Val_sortOf cd_Val_sortOf 2 (some .int) :: xG) rm_Val_sortOf_5 V [.ref (V.2.2 5), .int x1] σ Q := by
  refine x_begini (by decide) (Nat.le_of_ble_eq_true rfl) (fun p e s m below meth c ls C hlocks hr hI hl => ?_)
  have C : xC p s m _ c cd_Val_sortOf 2 R_Val V := C
  have hx := C.1
  have hb := C.2.1
  have hl : lv_has ls 2 [(0, .ref (V.2.2 5)), (1, .int x1)] := hl
  unfold p_Val_sortOf_5 at h
  refine lv_aload_n hx hb d_Val_sortOf_0 rfl (lv_at hl 0 rfl) ?_
  refine x_get C hI (d := 5) (by decide) (xE5 V _) fd_Val_9 rfl d_Val_sortOf_1 ?_
  refine lv_iload_n hx hb d_Val_sortOf_4 rfl (lv_at hl 1 rfl) ?_
  obtain ⟨i1, h⟩ := h
  refine x_iald C hI (d := 17) (by decide) (xE17 V) i1 d_Val_sortOf_5 ?_
  exact x_iret C hlocks hr hI h d_Val_sortOf_6
def y_Val_contentOf : MethodName := ⟨"RegionPool$Values", "contentOf", "(I)I"⟩
abbrev cd_Val_contentOf : ByteArray := prog_10_method_3_code
theorem fd_Val_15 : xFd R_Val 15 5 1 := ⟨R_Val, T_Val, 2, rfl, in_Val, by decide, xG_mem 93 (by decide +kernel) (by decide +kernel)⟩
def p_Val_contentOf_5 (x1 : Int32) (σ : xS) (Q : Int32 → xS → Prop) : Prop :=
  (vp_in x1 16 ∧ Q (σ 18 x1.toNatClampNeg) σ)
abbrev rm_Val_contentOf_5 : Room := { frames := 0, cells := 0, slots := 0, locals := 0 }
theorem d_Val_contentOf_0 : decode cd_Val_contentOf 0 = .ok (.aload_n 0, 1) := by decide +kernel
theorem d_Val_contentOf_1 : decode cd_Val_contentOf 1 = .ok (.getfield 15, 3) := by decide +kernel
theorem d_Val_contentOf_4 : decode cd_Val_contentOf 4 = .ok (.iload_n 1, 1) := by decide +kernel
theorem d_Val_contentOf_5 : decode cd_Val_contentOf 5 = .ok (.iaload, 1) := by decide +kernel
theorem d_Val_contentOf_6 : decode cd_Val_contentOf 6 = .ok (.ireturn, 1) := by decide +kernel
set_option maxRecDepth 100000 in
set_option maxHeartbeats 4000000 in
theorem c_Val_contentOf_5 {l : Launch} {V : xV} {σ : xS} {x1 : Int32} {Q : Int32 → xS → Prop} (h : p_Val_contentOf_5 x1 σ Q) : xMi l y_Val_contentOf (.code y_Val_contentOf cd_Val_contentOf 2 (some .int) :: xG) rm_Val_contentOf_5 V [.ref (V.2.2 5), .int x1] σ Q := by
  refine x_begini (by decide) (Nat.le_of_ble_eq_true rfl) (fun p e s m below meth c ls C hlocks hr hI hl => ?_)
  have C : xC p s m _ c cd_Val_contentOf 2 R_Val V := C
  have hx := C.1
  have hb := C.2.1
  have hl : lv_has ls 2 [(0, .ref (V.2.2 5)), (1, .int x1)] := hl
  unfold p_Val_contentOf_5 at h
  refine lv_aload_n hx hb d_Val_contentOf_0 rfl (lv_at hl 0 rfl) ?_
  refine x_get C hI (d := 5) (by decide) (xE5 V _) fd_Val_15 rfl d_Val_contentOf_1 ?_
  refine lv_iload_n hx hb d_Val_contentOf_4 rfl (lv_at hl 1 rfl) ?_
  obtain ⟨i1, h⟩ := h
  refine x_iald C hI (d := 18) (by decide) (xE18 V) i1 d_Val_contentOf_5 ?_
  exact x_iret C hlocks hr hI h d_Val_contentOf_6
def y_Val_isReference : MethodName := ⟨"RegionPool$Values", "isReference", "(I)Z"⟩
abbrev cd_Val_isReference : ByteArray := prog_10_method_4_code
def p_Val_isReference_5 (x1 : Int32) (σ : xS) (Q : Int32 → xS → Prop) : Prop :=
  (vp_in x1 16 ∧ ((¬ (σ 17 x1.toNatClampNeg) = 2 → Q 0 σ) ∧ ((σ 17 x1.toNatClampNeg) = 2 → Q 1 σ)))
abbrev rm_Val_isReference_5 : Room := { frames := 0, cells := 0, slots := 0, locals := 0 }
theorem d_Val_isReference_0 : decode cd_Val_isReference 0 = .ok (.aload_n 0, 1) := by decide +kernel
theorem d_Val_isReference_1 : decode cd_Val_isReference 1 = .ok (.getfield 9, 3) := by decide +kernel
theorem d_Val_isReference_4 : decode cd_Val_isReference 4 = .ok (.iload_n 1, 1) := by decide +kernel
theorem d_Val_isReference_5 : decode cd_Val_isReference 5 = .ok (.iaload, 1) := by decide +kernel
theorem d_Val_isReference_6 : decode cd_Val_isReference 6 = .ok (.iconst 2, 1) := by decide +kernel
theorem d_Val_isReference_7 : decode cd_Val_isReference 7 = .ok (.if_icmp .ne 7, 3) := by decide +kernel
theorem d_Val_isReference_10 : decode cd_Val_isReference 10 = .ok (.iconst 1, 1) := by decide +kernel
theorem d_Val_isReference_11 : decode cd_Val_isReference 11 = .ok (.goto 4, 3) := by decide +kernel
theorem d_Val_isReference_14 : decode cd_Val_isReference 14 = .ok (.iconst 0, 1) := by decide +kernel
theorem d_Val_isReference_15 : decode cd_Val_isReference 15 = .ok (.ireturn, 1) := by decide +kernel
set_option maxRecDepth 100000 in
set_option maxHeartbeats 4000000 in
theorem c_Val_isReference_5 {l : Launch} {V : xV} {σ : xS} {x1 : Int32} {Q : Int32 → xS → Prop} (h : p_Val_isReference_5 x1 σ Q) : xMi l y_Val_isReference (.code y_Val_isReference cd_Val_isReference 2 (some .boolean) :: xG) rm_Val_isReference_5 V [.ref (V.2.2 5), .int x1] σ Q := by
  refine x_begini (by decide) (Nat.le_of_ble_eq_true rfl) (fun p e s m below meth c ls C hlocks hr hI hl => ?_)
  have C : xC p s m _ c cd_Val_isReference 2 R_Val V := C
  have hx := C.1
  have hb := C.2.1
  have hl : lv_has ls 2 [(0, .ref (V.2.2 5)), (1, .int x1)] := hl
  unfold p_Val_isReference_5 at h
  refine lv_aload_n hx hb d_Val_isReference_0 rfl (lv_at hl 0 rfl) ?_
  refine x_get C hI (d := 5) (by decide) (xE5 V _) fd_Val_9 rfl d_Val_isReference_1 ?_
  refine lv_iload_n hx hb d_Val_isReference_4 rfl (lv_at hl 1 rfl) ?_
  obtain ⟨i1, h⟩ := h
  refine x_iald C hI (d := 17) (by decide) (xE17 V) i1 d_Val_isReference_5 ?_
  refine lv_iconst (v := 2) hx hb d_Val_isReference_6 (by decide) ?_
  refine lv_icmp_ne (tgt := 14) hx hb d_Val_isReference_7 (by decide) (fun c2 => ?_) (fun c2 => ?_)
  · have h := h.1 c2
    refine lv_iconst (v := 0) hx hb d_Val_isReference_14 (by decide) ?_
    exact x_zret C hlocks hr hI ⟨rfl, h⟩ d_Val_isReference_15
  · have h := h.2 c2
    refine lv_iconst (v := 1) hx hb d_Val_isReference_10 (by decide) ?_
    refine lv_goto (tgt := 15) hx hb d_Val_isReference_11 (by decide) ?_
    exact x_zret C hlocks hr hI ⟨rfl, h⟩ d_Val_isReference_15
def y_Val_assign : MethodName := ⟨"RegionPool$Values", "assign", "(III)V"⟩
abbrev cd_Val_assign : ByteArray := prog_10_method_5_code
def p_Val_assign_5 (x1 x2 x3 : Int32) (σ : xS) (Q : xS → Prop) : Prop :=
  (vp_in x1 16 ∧ (vp_in x1 16 ∧ Q (xu (xu σ 17 x1.toNatClampNeg x2) 18 x1.toNatClampNeg x3)))
abbrev rm_Val_assign_5 : Room := { frames := 0, cells := 0, slots := 0, locals := 0 }
theorem d_Val_assign_0 : decode cd_Val_assign 0 = .ok (.aload_n 0, 1) := by decide +kernel
theorem d_Val_assign_1 : decode cd_Val_assign 1 = .ok (.getfield 9, 3) := by decide +kernel
theorem d_Val_assign_4 : decode cd_Val_assign 4 = .ok (.iload_n 1, 1) := by decide +kernel
theorem d_Val_assign_5 : decode cd_Val_assign 5 = .ok (.iload_n 2, 1) := by decide +kernel
theorem d_Val_assign_6 : decode cd_Val_assign 6 = .ok (.iastore, 1) := by decide +kernel
theorem d_Val_assign_7 : decode cd_Val_assign 7 = .ok (.aload_n 0, 1) := by decide +kernel
theorem d_Val_assign_8 : decode cd_Val_assign 8 = .ok (.getfield 15, 3) := by decide +kernel
theorem d_Val_assign_11 : decode cd_Val_assign 11 = .ok (.iload_n 1, 1) := by decide +kernel
theorem d_Val_assign_12 : decode cd_Val_assign 12 = .ok (.iload_n 3, 1) := by decide +kernel
theorem d_Val_assign_13 : decode cd_Val_assign 13 = .ok (.iastore, 1) := by decide +kernel
theorem d_Val_assign_14 : decode cd_Val_assign 14 = .ok (.return_, 1) := by decide +kernel
set_option maxRecDepth 100000 in
set_option maxHeartbeats 4000000 in
theorem c_Val_assign_5 {l : Launch} {V : xV} {σ : xS} {x1 x2 x3 : Int32} {Q : xS → Prop} (h : p_Val_assign_5 x1 x2 x3 σ Q) : xMv l y_Val_assign (.code y_Val_assign cd_Val_assign 4 none :: xG) rm_Val_assign_5 V [.ref (V.2.2 5), .int x1, .int x2, .int x3] σ Q := by
  refine x_beginv (by decide) (Nat.le_of_ble_eq_true rfl) (fun p e s m below meth c ls C hlocks hr hI hl => ?_)
  have C : xC p s m _ c cd_Val_assign 4 R_Val V := C
  have hx := C.1
  have hb := C.2.1
  have hl : lv_has ls 4 [(0, .ref (V.2.2 5)), (1, .int x1), (2, .int x2), (3, .int x3)] := hl
  unfold p_Val_assign_5 at h
  refine lv_aload_n hx hb d_Val_assign_0 rfl (lv_at hl 0 rfl) ?_
  refine x_get C hI (d := 5) (by decide) (xE5 V _) fd_Val_9 rfl d_Val_assign_1 ?_
  refine lv_iload_n hx hb d_Val_assign_4 rfl (lv_at hl 1 rfl) ?_
  refine lv_iload_n hx hb d_Val_assign_5 rfl (lv_at hl 2 rfl) ?_
  obtain ⟨i1, h⟩ := h
  refine x_iast C hI (d := 17) (by decide) (xE17 V) i1 d_Val_assign_6 (fun H locs hI => ?_)
  refine lv_aload_n hx hb d_Val_assign_7 rfl (lv_at hl 0 rfl) ?_
  refine x_get C hI (d := 5) (by decide) (xE5 V _) fd_Val_15 rfl d_Val_assign_8 ?_
  refine lv_iload_n hx hb d_Val_assign_11 rfl (lv_at hl 1 rfl) ?_
  refine lv_iload_n hx hb d_Val_assign_12 rfl (lv_at hl 3 rfl) ?_
  obtain ⟨i2, h⟩ := h
  refine x_iast C hI (d := 18) (by decide) (xE18 V) i2 d_Val_assign_13 (fun H locs hI => ?_)
  exact x_vret C hlocks hr hI h d_Val_assign_14
def y_Val_setNil : MethodName := ⟨"RegionPool$Values", "setNil", "(I)V"⟩
abbrev cd_Val_setNil : ByteArray := prog_10_method_6_code
theorem yw_Val_assign : xY y_Val_assign cd_Val_assign 4 none 3 := ⟨xG_mem 342 (by decide +kernel) (by decide +kernel), xG_mem 343 (by decide +kernel) (by decide +kernel), xG_mem 56 (by decide +kernel) (by decide +kernel), xG_mem 344 (by decide +kernel) (by decide +kernel), by decide, by decide, by decide +kernel⟩
theorem ml_Val_18 : Cond.methodLink R_Val 18 y_Val_assign ∈ xG := xG_mem 341 (by decide +kernel) (by decide +kernel)
def p_Val_setNil_5 (x1 : Int32) (σ : xS) (Q : xS → Prop) : Prop :=
  p_Val_assign_5 x1 0 0 σ (fun σ1 => Q σ1)
abbrev rm_Val_setNil_5 : Room := { frames := 1, cells := 0, slots := 0, locals := 23 }
theorem d_Val_setNil_0 : decode cd_Val_setNil 0 = .ok (.aload_n 0, 1) := by decide +kernel
theorem d_Val_setNil_1 : decode cd_Val_setNil 1 = .ok (.iload_n 1, 1) := by decide +kernel
theorem d_Val_setNil_2 : decode cd_Val_setNil 2 = .ok (.iconst 0, 1) := by decide +kernel
theorem d_Val_setNil_3 : decode cd_Val_setNil 3 = .ok (.iconst 0, 1) := by decide +kernel
theorem d_Val_setNil_4 : decode cd_Val_setNil 4 = .ok (.invokevirtual 18, 3) := by decide +kernel
theorem d_Val_setNil_7 : decode cd_Val_setNil 7 = .ok (.return_, 1) := by decide +kernel
set_option maxRecDepth 100000 in
set_option maxHeartbeats 4000000 in
theorem c_Val_setNil_5 {l : Launch} {V : xV} {σ : xS} {x1 : Int32} {Q : xS → Prop} (h : p_Val_setNil_5 x1 σ Q) : xMv l y_Val_setNil (.code y_Val_setNil cd_Val_setNil 2 none :: xG) rm_Val_setNil_5 V [.ref (V.2.2 5), .int x1] σ Q := by
  refine x_beginv (by decide) (Nat.le_of_ble_eq_true rfl) (fun p e s m below meth c ls C hlocks hr hI hl => ?_)
  have C : xC p s m _ c cd_Val_setNil 2 R_Val V := C
  have hx := C.1
  have hb := C.2.1
  have hl : lv_has ls 2 [(0, .ref (V.2.2 5)), (1, .int x1)] := hl
  unfold p_Val_setNil_5 at h
  refine lv_aload_n hx hb d_Val_setNil_0 rfl (lv_at hl 0 rfl) ?_
  refine lv_iload_n hx hb d_Val_setNil_1 rfl (lv_at hl 1 rfl) ?_
  refine lv_iconst (v := 0) hx hb d_Val_setNil_2 (by decide) ?_
  refine lv_iconst (v := 0) hx hb d_Val_setNil_3 (by decide) ?_
  refine x_callv C hI hl.1 (d := 5) (As := [.int x1, .int 0, .int 0]) (rest := []) (by decide) (c_Val_assign_5 h) (xE5 V _) rfl yw_Val_assign ml_Val_18 rfl rfl ⟨Nat.le_of_ble_eq_true rfl, Nat.le_of_ble_eq_true rfl⟩ rfl rfl (Nat.le_of_ble_eq_true rfl) d_Val_setNil_4 ⟨Nat.zero_le _, Nat.zero_le _⟩ (fun σ1 H locs h hI => ?_)
  exact x_vret C hlocks hr hI h d_Val_setNil_7
def p_Val_sortOf_19 (x1 : Int32) (σ : xS) (Q : Int32 → xS → Prop) : Prop :=
  (vp_in x1 640 ∧ Q (σ 28 x1.toNatClampNeg) σ)
abbrev rm_Val_sortOf_19 : Room := { frames := 0, cells := 0, slots := 0, locals := 0 }
set_option maxRecDepth 100000 in
set_option maxHeartbeats 4000000 in
theorem c_Val_sortOf_19 {l : Launch} {V : xV} {σ : xS} {x1 : Int32} {Q : Int32 → xS → Prop} (h : p_Val_sortOf_19 x1 σ Q) : xMi l y_Val_sortOf (.code y_Val_sortOf cd_Val_sortOf 2 (some .int) :: xG) rm_Val_sortOf_19 V [.ref (V.2.2 19), .int x1] σ Q := by
  refine x_begini (by decide) (Nat.le_of_ble_eq_true rfl) (fun p e s m below meth c ls C hlocks hr hI hl => ?_)
  have C : xC p s m _ c cd_Val_sortOf 2 R_Val V := C
  have hx := C.1
  have hb := C.2.1
  have hl : lv_has ls 2 [(0, .ref (V.2.2 19)), (1, .int x1)] := hl
  unfold p_Val_sortOf_19 at h
  refine lv_aload_n hx hb d_Val_sortOf_0 rfl (lv_at hl 0 rfl) ?_
  refine x_get C hI (d := 19) (by decide) (xE19 V _) fd_Val_9 rfl d_Val_sortOf_1 ?_
  refine lv_iload_n hx hb d_Val_sortOf_4 rfl (lv_at hl 1 rfl) ?_
  obtain ⟨i1, h⟩ := h
  refine x_iald C hI (d := 28) (by decide) (xE28 V) i1 d_Val_sortOf_5 ?_
  exact x_iret C hlocks hr hI h d_Val_sortOf_6
def p_Val_contentOf_19 (x1 : Int32) (σ : xS) (Q : Int32 → xS → Prop) : Prop :=
  (vp_in x1 640 ∧ Q (σ 29 x1.toNatClampNeg) σ)
abbrev rm_Val_contentOf_19 : Room := { frames := 0, cells := 0, slots := 0, locals := 0 }
set_option maxRecDepth 100000 in
set_option maxHeartbeats 4000000 in
theorem c_Val_contentOf_19 {l : Launch} {V : xV} {σ : xS} {x1 : Int32} {Q : Int32 → xS → Prop} (h : p_Val_contentOf_19 x1 σ Q) : xMi l y_Val_contentOf (.code y_Val_contentOf cd_Val_contentOf 2 (some .int) :: xG) rm_Val_contentOf_19 V [.ref (V.2.2 19), .int x1] σ Q := by
  refine x_begini (by decide) (Nat.le_of_ble_eq_true rfl) (fun p e s m below meth c ls C hlocks hr hI hl => ?_)
  have C : xC p s m _ c cd_Val_contentOf 2 R_Val V := C
  have hx := C.1
  have hb := C.2.1
  have hl : lv_has ls 2 [(0, .ref (V.2.2 19)), (1, .int x1)] := hl
  unfold p_Val_contentOf_19 at h
  refine lv_aload_n hx hb d_Val_contentOf_0 rfl (lv_at hl 0 rfl) ?_
  refine x_get C hI (d := 19) (by decide) (xE19 V _) fd_Val_15 rfl d_Val_contentOf_1 ?_
  refine lv_iload_n hx hb d_Val_contentOf_4 rfl (lv_at hl 1 rfl) ?_
  obtain ⟨i1, h⟩ := h
  refine x_iald C hI (d := 29) (by decide) (xE29 V) i1 d_Val_contentOf_5 ?_
  exact x_iret C hlocks hr hI h d_Val_contentOf_6
def p_Val_isReference_19 (x1 : Int32) (σ : xS) (Q : Int32 → xS → Prop) : Prop :=
  (vp_in x1 640 ∧ ((¬ (σ 28 x1.toNatClampNeg) = 2 → Q 0 σ) ∧ ((σ 28 x1.toNatClampNeg) = 2 → Q 1 σ)))
abbrev rm_Val_isReference_19 : Room := { frames := 0, cells := 0, slots := 0, locals := 0 }
set_option maxRecDepth 100000 in
set_option maxHeartbeats 4000000 in
theorem c_Val_isReference_19 {l : Launch} {V : xV} {σ : xS} {x1 : Int32} {Q : Int32 → xS → Prop} (h : p_Val_isReference_19 x1 σ Q) : xMi l y_Val_isReference (.code y_Val_isReference cd_Val_isReference 2 (some .boolean) :: xG) rm_Val_isReference_19 V [.ref (V.2.2 19), .int x1] σ Q := by
  refine x_begini (by decide) (Nat.le_of_ble_eq_true rfl) (fun p e s m below meth c ls C hlocks hr hI hl => ?_)
  have C : xC p s m _ c cd_Val_isReference 2 R_Val V := C
  have hx := C.1
  have hb := C.2.1
  have hl : lv_has ls 2 [(0, .ref (V.2.2 19)), (1, .int x1)] := hl
  unfold p_Val_isReference_19 at h
  refine lv_aload_n hx hb d_Val_isReference_0 rfl (lv_at hl 0 rfl) ?_
  refine x_get C hI (d := 19) (by decide) (xE19 V _) fd_Val_9 rfl d_Val_isReference_1 ?_
  refine lv_iload_n hx hb d_Val_isReference_4 rfl (lv_at hl 1 rfl) ?_
  obtain ⟨i1, h⟩ := h
  refine x_iald C hI (d := 28) (by decide) (xE28 V) i1 d_Val_isReference_5 ?_
  refine lv_iconst (v := 2) hx hb d_Val_isReference_6 (by decide) ?_
  refine lv_icmp_ne (tgt := 14) hx hb d_Val_isReference_7 (by decide) (fun c2 => ?_) (fun c2 => ?_)
  · have h := h.1 c2
    refine lv_iconst (v := 0) hx hb d_Val_isReference_14 (by decide) ?_
    exact x_zret C hlocks hr hI ⟨rfl, h⟩ d_Val_isReference_15
  · have h := h.2 c2
    refine lv_iconst (v := 1) hx hb d_Val_isReference_10 (by decide) ?_
    refine lv_goto (tgt := 15) hx hb d_Val_isReference_11 (by decide) ?_
    exact x_zret C hlocks hr hI ⟨rfl, h⟩ d_Val_isReference_15
def p_Val_assign_19 (x1 x2 x3 : Int32) (σ : xS) (Q : xS → Prop) : Prop :=
  (vp_in x1 640 ∧ (vp_in x1 640 ∧ Q (xu (xu σ 28 x1.toNatClampNeg x2) 29 x1.toNatClampNeg x3)))
abbrev rm_Val_assign_19 : Room := { frames := 0, cells := 0, slots := 0, locals := 0 }
set_option maxRecDepth 100000 in
set_option maxHeartbeats 4000000 in
theorem c_Val_assign_19 {l : Launch} {V : xV} {σ : xS} {x1 x2 x3 : Int32} {Q : xS → Prop} (h : p_Val_assign_19 x1 x2 x3 σ Q) : xMv l y_Val_assign (.code y_Val_assign cd_Val_assign 4 none :: xG) rm_Val_assign_19 V [.ref (V.2.2 19), .int x1, .int x2, .int x3] σ Q := by
  refine x_beginv (by decide) (Nat.le_of_ble_eq_true rfl) (fun p e s m below meth c ls C hlocks hr hI hl => ?_)
  have C : xC p s m _ c cd_Val_assign 4 R_Val V := C
  have hx := C.1
  have hb := C.2.1
  have hl : lv_has ls 4 [(0, .ref (V.2.2 19)), (1, .int x1), (2, .int x2), (3, .int x3)] := hl
  unfold p_Val_assign_19 at h
  refine lv_aload_n hx hb d_Val_assign_0 rfl (lv_at hl 0 rfl) ?_
  refine x_get C hI (d := 19) (by decide) (xE19 V _) fd_Val_9 rfl d_Val_assign_1 ?_
  refine lv_iload_n hx hb d_Val_assign_4 rfl (lv_at hl 1 rfl) ?_
  refine lv_iload_n hx hb d_Val_assign_5 rfl (lv_at hl 2 rfl) ?_
  obtain ⟨i1, h⟩ := h
  refine x_iast C hI (d := 28) (by decide) (xE28 V) i1 d_Val_assign_6 (fun H locs hI => ?_)
  refine lv_aload_n hx hb d_Val_assign_7 rfl (lv_at hl 0 rfl) ?_
  refine x_get C hI (d := 19) (by decide) (xE19 V _) fd_Val_15 rfl d_Val_assign_8 ?_
  refine lv_iload_n hx hb d_Val_assign_11 rfl (lv_at hl 1 rfl) ?_
  refine lv_iload_n hx hb d_Val_assign_12 rfl (lv_at hl 3 rfl) ?_
  obtain ⟨i2, h⟩ := h
  refine x_iast C hI (d := 29) (by decide) (xE29 V) i2 d_Val_assign_13 (fun H locs hI => ?_)
  exact x_vret C hlocks hr hI h d_Val_assign_14
def p_Val_setNil_19 (x1 : Int32) (σ : xS) (Q : xS → Prop) : Prop :=
  p_Val_assign_19 x1 0 0 σ (fun σ1 => Q σ1)
abbrev rm_Val_setNil_19 : Room := { frames := 1, cells := 0, slots := 0, locals := 23 }
set_option maxRecDepth 100000 in
set_option maxHeartbeats 4000000 in
theorem c_Val_setNil_19 {l : Launch} {V : xV} {σ : xS} {x1 : Int32} {Q : xS → Prop} (h : p_Val_setNil_19 x1 σ Q) : xMv l y_Val_setNil (.code y_Val_setNil cd_Val_setNil 2 none :: xG) rm_Val_setNil_19 V [.ref (V.2.2 19), .int x1] σ Q := by
  refine x_beginv (by decide) (Nat.le_of_ble_eq_true rfl) (fun p e s m below meth c ls C hlocks hr hI hl => ?_)
  have C : xC p s m _ c cd_Val_setNil 2 R_Val V := C
  have hx := C.1
  have hb := C.2.1
  have hl : lv_has ls 2 [(0, .ref (V.2.2 19)), (1, .int x1)] := hl
  unfold p_Val_setNil_19 at h
  refine lv_aload_n hx hb d_Val_setNil_0 rfl (lv_at hl 0 rfl) ?_
  refine lv_iload_n hx hb d_Val_setNil_1 rfl (lv_at hl 1 rfl) ?_
  refine lv_iconst (v := 0) hx hb d_Val_setNil_2 (by decide) ?_
  refine lv_iconst (v := 0) hx hb d_Val_setNil_3 (by decide) ?_
  refine x_callv C hI hl.1 (d := 19) (As := [.int x1, .int 0, .int 0]) (rest := []) (by decide) (c_Val_assign_19 h) (xE19 V _) rfl yw_Val_assign ml_Val_18 rfl rfl ⟨Nat.le_of_ble_eq_true rfl, Nat.le_of_ble_eq_true rfl⟩ rfl rfl (Nat.le_of_ble_eq_true rfl) d_Val_setNil_4 ⟨Nat.zero_le _, Nat.zero_le _⟩ (fun σ1 H locs h hI => ?_)
  exact x_vret C hlocks hr hI h d_Val_setNil_7
def y_Val_setNumber : MethodName := ⟨"RegionPool$Values", "setNumber", "(II)V"⟩
abbrev cd_Val_setNumber : ByteArray := prog_10_method_7_code
def p_Val_setNumber_5 (x1 x2 : Int32) (σ : xS) (Q : xS → Prop) : Prop :=
  p_Val_assign_5 x1 1 x2 σ (fun σ1 => Q σ1)
abbrev rm_Val_setNumber_5 : Room := { frames := 1, cells := 0, slots := 0, locals := 23 }
theorem d_Val_setNumber_0 : decode cd_Val_setNumber 0 = .ok (.aload_n 0, 1) := by decide +kernel
theorem d_Val_setNumber_1 : decode cd_Val_setNumber 1 = .ok (.iload_n 1, 1) := by decide +kernel
theorem d_Val_setNumber_2 : decode cd_Val_setNumber 2 = .ok (.iconst 1, 1) := by decide +kernel
theorem d_Val_setNumber_3 : decode cd_Val_setNumber 3 = .ok (.iload_n 2, 1) := by decide +kernel
theorem d_Val_setNumber_4 : decode cd_Val_setNumber 4 = .ok (.invokevirtual 18, 3) := by decide +kernel
theorem d_Val_setNumber_7 : decode cd_Val_setNumber 7 = .ok (.return_, 1) := by decide +kernel
set_option maxRecDepth 100000 in
set_option maxHeartbeats 4000000 in
theorem c_Val_setNumber_5 {l : Launch} {V : xV} {σ : xS} {x1 x2 : Int32} {Q : xS → Prop} (h : p_Val_setNumber_5 x1 x2 σ Q) : xMv l y_Val_setNumber (.code y_Val_setNumber cd_Val_setNumber 3 none :: xG) rm_Val_setNumber_5 V [.ref (V.2.2 5), .int x1, .int x2] σ Q := by
  refine x_beginv (by decide) (Nat.le_of_ble_eq_true rfl) (fun p e s m below meth c ls C hlocks hr hI hl => ?_)
  have C : xC p s m _ c cd_Val_setNumber 3 R_Val V := C
  have hx := C.1
  have hb := C.2.1
  have hl : lv_has ls 3 [(0, .ref (V.2.2 5)), (1, .int x1), (2, .int x2)] := hl
  unfold p_Val_setNumber_5 at h
  refine lv_aload_n hx hb d_Val_setNumber_0 rfl (lv_at hl 0 rfl) ?_
  refine lv_iload_n hx hb d_Val_setNumber_1 rfl (lv_at hl 1 rfl) ?_
  refine lv_iconst (v := 1) hx hb d_Val_setNumber_2 (by decide) ?_
  refine lv_iload_n hx hb d_Val_setNumber_3 rfl (lv_at hl 2 rfl) ?_
  refine x_callv C hI hl.1 (d := 5) (As := [.int x1, .int 1, .int x2]) (rest := []) (by decide) (c_Val_assign_5 h) (xE5 V _) rfl yw_Val_assign ml_Val_18 rfl rfl ⟨Nat.le_of_ble_eq_true rfl, Nat.le_of_ble_eq_true rfl⟩ rfl rfl (Nat.le_of_ble_eq_true rfl) d_Val_setNumber_4 ⟨Nat.zero_le _, Nat.zero_le _⟩ (fun σ1 H locs h hI => ?_)
  exact x_vret C hlocks hr hI h d_Val_setNumber_7
def y_Val_setReference : MethodName := ⟨"RegionPool$Values", "setReference", "(II)V"⟩
abbrev cd_Val_setReference : ByteArray := prog_10_method_8_code
def p_Val_setReference_5 (x1 x2 : Int32) (σ : xS) (Q : xS → Prop) : Prop :=
  p_Val_assign_5 x1 2 x2 σ (fun σ1 => Q σ1)
abbrev rm_Val_setReference_5 : Room := { frames := 1, cells := 0, slots := 0, locals := 23 }
theorem d_Val_setReference_0 : decode cd_Val_setReference 0 = .ok (.aload_n 0, 1) := by decide +kernel
theorem d_Val_setReference_1 : decode cd_Val_setReference 1 = .ok (.iload_n 1, 1) := by decide +kernel
theorem d_Val_setReference_2 : decode cd_Val_setReference 2 = .ok (.iconst 2, 1) := by decide +kernel
theorem d_Val_setReference_3 : decode cd_Val_setReference 3 = .ok (.iload_n 2, 1) := by decide +kernel
theorem d_Val_setReference_4 : decode cd_Val_setReference 4 = .ok (.invokevirtual 18, 3) := by decide +kernel
theorem d_Val_setReference_7 : decode cd_Val_setReference 7 = .ok (.return_, 1) := by decide +kernel
set_option maxRecDepth 100000 in
set_option maxHeartbeats 4000000 in
theorem c_Val_setReference_5 {l : Launch} {V : xV} {σ : xS} {x1 x2 : Int32} {Q : xS → Prop} (h : p_Val_setReference_5 x1 x2 σ Q) : xMv l y_Val_setReference (.code y_Val_setReference cd_Val_setReference 3 none :: xG) rm_Val_setReference_5 V [.ref (V.2.2 5), .int x1, .int x2] σ Q := by
  refine x_beginv (by decide) (Nat.le_of_ble_eq_true rfl) (fun p e s m below meth c ls C hlocks hr hI hl => ?_)
  have C : xC p s m _ c cd_Val_setReference 3 R_Val V := C
  have hx := C.1
  have hb := C.2.1
  have hl : lv_has ls 3 [(0, .ref (V.2.2 5)), (1, .int x1), (2, .int x2)] := hl
  unfold p_Val_setReference_5 at h
  refine lv_aload_n hx hb d_Val_setReference_0 rfl (lv_at hl 0 rfl) ?_
  refine lv_iload_n hx hb d_Val_setReference_1 rfl (lv_at hl 1 rfl) ?_
  refine lv_iconst (v := 2) hx hb d_Val_setReference_2 (by decide) ?_
  refine lv_iload_n hx hb d_Val_setReference_3 rfl (lv_at hl 2 rfl) ?_
  refine x_callv C hI hl.1 (d := 5) (As := [.int x1, .int 2, .int x2]) (rest := []) (by decide) (c_Val_assign_5 h) (xE5 V _) rfl yw_Val_assign ml_Val_18 rfl rfl ⟨Nat.le_of_ble_eq_true rfl, Nat.le_of_ble_eq_true rfl⟩ rfl rfl (Nat.le_of_ble_eq_true rfl) d_Val_setReference_4 ⟨Nat.zero_le _, Nat.zero_le _⟩ (fun σ1 H locs h hI => ?_)
  exact x_vret C hlocks hr hI h d_Val_setReference_7
def p_Val_setReference_19 (x1 x2 : Int32) (σ : xS) (Q : xS → Prop) : Prop :=
  p_Val_assign_19 x1 2 x2 σ (fun σ1 => Q σ1)
abbrev rm_Val_setReference_19 : Room := { frames := 1, cells := 0, slots := 0, locals := 23 }
set_option maxRecDepth 100000 in
set_option maxHeartbeats 4000000 in
theorem c_Val_setReference_19 {l : Launch} {V : xV} {σ : xS} {x1 x2 : Int32} {Q : xS → Prop} (h : p_Val_setReference_19 x1 x2 σ Q) : xMv l y_Val_setReference (.code y_Val_setReference cd_Val_setReference 3 none :: xG) rm_Val_setReference_19 V [.ref (V.2.2 19), .int x1, .int x2] σ Q := by
  refine x_beginv (by decide) (Nat.le_of_ble_eq_true rfl) (fun p e s m below meth c ls C hlocks hr hI hl => ?_)
  have C : xC p s m _ c cd_Val_setReference 3 R_Val V := C
  have hx := C.1
  have hb := C.2.1
  have hl : lv_has ls 3 [(0, .ref (V.2.2 19)), (1, .int x1), (2, .int x2)] := hl
  unfold p_Val_setReference_19 at h
  refine lv_aload_n hx hb d_Val_setReference_0 rfl (lv_at hl 0 rfl) ?_
  refine lv_iload_n hx hb d_Val_setReference_1 rfl (lv_at hl 1 rfl) ?_
  refine lv_iconst (v := 2) hx hb d_Val_setReference_2 (by decide) ?_
  refine lv_iload_n hx hb d_Val_setReference_3 rfl (lv_at hl 2 rfl) ?_
  refine x_callv C hI hl.1 (d := 19) (As := [.int x1, .int 2, .int x2]) (rest := []) (by decide) (c_Val_assign_19 h) (xE19 V _) rfl yw_Val_assign ml_Val_18 rfl rfl ⟨Nat.le_of_ble_eq_true rfl, Nat.le_of_ble_eq_true rfl⟩ rfl rfl (Nat.le_of_ble_eq_true rfl) d_Val_setReference_4 ⟨Nat.zero_le _, Nat.zero_le _⟩ (fun σ1 H locs h hI => ?_)
  exact x_vret C hlocks hr hI h d_Val_setReference_7
def y_Val_take : MethodName := ⟨"RegionPool$Values", "take", "(ILRegionPool$Values;I)V"⟩
abbrev cd_Val_take : ByteArray := prog_10_method_9_code
def p_Val_take_5_5 (x1 x3 : Int32) (σ : xS) (Q : xS → Prop) : Prop :=
  (vp_in x3 16 ∧ (vp_in x3 16 ∧ p_Val_assign_5 x1 (σ 17 x3.toNatClampNeg) (σ 18 x3.toNatClampNeg) σ (fun σ3 => Q σ3)))
abbrev rm_Val_take_5_5 : Room := { frames := 1, cells := 0, slots := 0, locals := 23 }
theorem d_Val_take_0 : decode cd_Val_take 0 = .ok (.aload_n 0, 1) := by decide +kernel
theorem d_Val_take_1 : decode cd_Val_take 1 = .ok (.iload_n 1, 1) := by decide +kernel
theorem d_Val_take_2 : decode cd_Val_take 2 = .ok (.aload_n 2, 1) := by decide +kernel
theorem d_Val_take_3 : decode cd_Val_take 3 = .ok (.getfield 9, 3) := by decide +kernel
theorem d_Val_take_6 : decode cd_Val_take 6 = .ok (.iload_n 3, 1) := by decide +kernel
theorem d_Val_take_7 : decode cd_Val_take 7 = .ok (.iaload, 1) := by decide +kernel
theorem d_Val_take_8 : decode cd_Val_take 8 = .ok (.aload_n 2, 1) := by decide +kernel
theorem d_Val_take_9 : decode cd_Val_take 9 = .ok (.getfield 15, 3) := by decide +kernel
theorem d_Val_take_12 : decode cd_Val_take 12 = .ok (.iload_n 3, 1) := by decide +kernel
theorem d_Val_take_13 : decode cd_Val_take 13 = .ok (.iaload, 1) := by decide +kernel
theorem d_Val_take_14 : decode cd_Val_take 14 = .ok (.invokevirtual 18, 3) := by decide +kernel
theorem d_Val_take_17 : decode cd_Val_take 17 = .ok (.return_, 1) := by decide +kernel
set_option maxRecDepth 100000 in
set_option maxHeartbeats 4000000 in
theorem c_Val_take_5_5 {l : Launch} {V : xV} {σ : xS} {x1 x3 : Int32} {Q : xS → Prop} (h : p_Val_take_5_5 x1 x3 σ Q) : xMv l y_Val_take (.code y_Val_take cd_Val_take 4 none :: xG) rm_Val_take_5_5 V [.ref (V.2.2 5), .int x1, .ref (V.2.2 5), .int x3] σ Q := by
  refine x_beginv (by decide) (Nat.le_of_ble_eq_true rfl) (fun p e s m below meth c ls C hlocks hr hI hl => ?_)
  have C : xC p s m _ c cd_Val_take 4 R_Val V := C
  have hx := C.1
  have hb := C.2.1
  have hl : lv_has ls 4 [(0, .ref (V.2.2 5)), (1, .int x1), (2, .ref (V.2.2 5)), (3, .int x3)] := hl
  unfold p_Val_take_5_5 at h
  refine lv_aload_n hx hb d_Val_take_0 rfl (lv_at hl 0 rfl) ?_
  refine lv_iload_n hx hb d_Val_take_1 rfl (lv_at hl 1 rfl) ?_
  refine lv_aload_n hx hb d_Val_take_2 rfl (lv_at hl 2 rfl) ?_
  refine x_get C hI (d := 5) (by decide) (xE5 V _) fd_Val_9 rfl d_Val_take_3 ?_
  refine lv_iload_n hx hb d_Val_take_6 rfl (lv_at hl 3 rfl) ?_
  obtain ⟨i1, h⟩ := h
  refine x_iald C hI (d := 17) (by decide) (xE17 V) i1 d_Val_take_7 ?_
  refine lv_aload_n hx hb d_Val_take_8 rfl (lv_at hl 2 rfl) ?_
  refine x_get C hI (d := 5) (by decide) (xE5 V _) fd_Val_15 rfl d_Val_take_9 ?_
  refine lv_iload_n hx hb d_Val_take_12 rfl (lv_at hl 3 rfl) ?_
  obtain ⟨i2, h⟩ := h
  refine x_iald C hI (d := 18) (by decide) (xE18 V) i2 d_Val_take_13 ?_
  refine x_callv C hI hl.1 (d := 5) (As := [.int x1, .int (σ 17 x3.toNatClampNeg), .int (σ 18 x3.toNatClampNeg)]) (rest := []) (by decide) (c_Val_assign_5 h) (xE5 V _) rfl yw_Val_assign ml_Val_18 rfl rfl ⟨Nat.le_of_ble_eq_true rfl, Nat.le_of_ble_eq_true rfl⟩ rfl rfl (Nat.le_of_ble_eq_true rfl) d_Val_take_14 ⟨Nat.zero_le _, Nat.zero_le _⟩ (fun σ3 H locs h hI => ?_)
  exact x_vret C hlocks hr hI h d_Val_take_17
def p_Val_take_5_19 (x1 x3 : Int32) (σ : xS) (Q : xS → Prop) : Prop :=
  (vp_in x3 640 ∧ (vp_in x3 640 ∧ p_Val_assign_5 x1 (σ 28 x3.toNatClampNeg) (σ 29 x3.toNatClampNeg) σ (fun σ3 => Q σ3)))
abbrev rm_Val_take_5_19 : Room := { frames := 1, cells := 0, slots := 0, locals := 23 }
set_option maxRecDepth 100000 in
set_option maxHeartbeats 4000000 in
theorem c_Val_take_5_19 {l : Launch} {V : xV} {σ : xS} {x1 x3 : Int32} {Q : xS → Prop} (h : p_Val_take_5_19 x1 x3 σ Q) : xMv l y_Val_take (.code y_Val_take cd_Val_take 4 none :: xG) rm_Val_take_5_19 V [.ref (V.2.2 5), .int x1, .ref (V.2.2 19), .int x3] σ Q := by
  refine x_beginv (by decide) (Nat.le_of_ble_eq_true rfl) (fun p e s m below meth c ls C hlocks hr hI hl => ?_)
  have C : xC p s m _ c cd_Val_take 4 R_Val V := C
  have hx := C.1
  have hb := C.2.1
  have hl : lv_has ls 4 [(0, .ref (V.2.2 5)), (1, .int x1), (2, .ref (V.2.2 19)), (3, .int x3)] := hl
  unfold p_Val_take_5_19 at h
  refine lv_aload_n hx hb d_Val_take_0 rfl (lv_at hl 0 rfl) ?_
  refine lv_iload_n hx hb d_Val_take_1 rfl (lv_at hl 1 rfl) ?_
  refine lv_aload_n hx hb d_Val_take_2 rfl (lv_at hl 2 rfl) ?_
  refine x_get C hI (d := 19) (by decide) (xE19 V _) fd_Val_9 rfl d_Val_take_3 ?_
  refine lv_iload_n hx hb d_Val_take_6 rfl (lv_at hl 3 rfl) ?_
  obtain ⟨i1, h⟩ := h
  refine x_iald C hI (d := 28) (by decide) (xE28 V) i1 d_Val_take_7 ?_
  refine lv_aload_n hx hb d_Val_take_8 rfl (lv_at hl 2 rfl) ?_
  refine x_get C hI (d := 19) (by decide) (xE19 V _) fd_Val_15 rfl d_Val_take_9 ?_
  refine lv_iload_n hx hb d_Val_take_12 rfl (lv_at hl 3 rfl) ?_
  obtain ⟨i2, h⟩ := h
  refine x_iald C hI (d := 29) (by decide) (xE29 V) i2 d_Val_take_13 ?_
  refine x_callv C hI hl.1 (d := 5) (As := [.int x1, .int (σ 28 x3.toNatClampNeg), .int (σ 29 x3.toNatClampNeg)]) (rest := []) (by decide) (c_Val_assign_5 h) (xE5 V _) rfl yw_Val_assign ml_Val_18 rfl rfl ⟨Nat.le_of_ble_eq_true rfl, Nat.le_of_ble_eq_true rfl⟩ rfl rfl (Nat.le_of_ble_eq_true rfl) d_Val_take_14 ⟨Nat.zero_le _, Nat.zero_le _⟩ (fun σ3 H locs h hI => ?_)
  exact x_vret C hlocks hr hI h d_Val_take_17
def p_Val_take_19_5 (x1 x3 : Int32) (σ : xS) (Q : xS → Prop) : Prop :=
  (vp_in x3 16 ∧ (vp_in x3 16 ∧ p_Val_assign_19 x1 (σ 17 x3.toNatClampNeg) (σ 18 x3.toNatClampNeg) σ (fun σ3 => Q σ3)))
abbrev rm_Val_take_19_5 : Room := { frames := 1, cells := 0, slots := 0, locals := 23 }
set_option maxRecDepth 100000 in
set_option maxHeartbeats 4000000 in
theorem c_Val_take_19_5 {l : Launch} {V : xV} {σ : xS} {x1 x3 : Int32} {Q : xS → Prop} (h : p_Val_take_19_5 x1 x3 σ Q) : xMv l y_Val_take (.code y_Val_take cd_Val_take 4 none :: xG) rm_Val_take_19_5 V [.ref (V.2.2 19), .int x1, .ref (V.2.2 5), .int x3] σ Q := by
  refine x_beginv (by decide) (Nat.le_of_ble_eq_true rfl) (fun p e s m below meth c ls C hlocks hr hI hl => ?_)
  have C : xC p s m _ c cd_Val_take 4 R_Val V := C
  have hx := C.1
  have hb := C.2.1
  have hl : lv_has ls 4 [(0, .ref (V.2.2 19)), (1, .int x1), (2, .ref (V.2.2 5)), (3, .int x3)] := hl
  unfold p_Val_take_19_5 at h
  refine lv_aload_n hx hb d_Val_take_0 rfl (lv_at hl 0 rfl) ?_
  refine lv_iload_n hx hb d_Val_take_1 rfl (lv_at hl 1 rfl) ?_
  refine lv_aload_n hx hb d_Val_take_2 rfl (lv_at hl 2 rfl) ?_
  refine x_get C hI (d := 5) (by decide) (xE5 V _) fd_Val_9 rfl d_Val_take_3 ?_
  refine lv_iload_n hx hb d_Val_take_6 rfl (lv_at hl 3 rfl) ?_
  obtain ⟨i1, h⟩ := h
  refine x_iald C hI (d := 17) (by decide) (xE17 V) i1 d_Val_take_7 ?_
  refine lv_aload_n hx hb d_Val_take_8 rfl (lv_at hl 2 rfl) ?_
  refine x_get C hI (d := 5) (by decide) (xE5 V _) fd_Val_15 rfl d_Val_take_9 ?_
  refine lv_iload_n hx hb d_Val_take_12 rfl (lv_at hl 3 rfl) ?_
  obtain ⟨i2, h⟩ := h
  refine x_iald C hI (d := 18) (by decide) (xE18 V) i2 d_Val_take_13 ?_
  refine x_callv C hI hl.1 (d := 19) (As := [.int x1, .int (σ 17 x3.toNatClampNeg), .int (σ 18 x3.toNatClampNeg)]) (rest := []) (by decide) (c_Val_assign_19 h) (xE19 V _) rfl yw_Val_assign ml_Val_18 rfl rfl ⟨Nat.le_of_ble_eq_true rfl, Nat.le_of_ble_eq_true rfl⟩ rfl rfl (Nat.le_of_ble_eq_true rfl) d_Val_take_14 ⟨Nat.zero_le _, Nat.zero_le _⟩ (fun σ3 H locs h hI => ?_)
  exact x_vret C hlocks hr hI h d_Val_take_17
def p_Val_take_19_19 (x1 x3 : Int32) (σ : xS) (Q : xS → Prop) : Prop :=
  (vp_in x3 640 ∧ (vp_in x3 640 ∧ p_Val_assign_19 x1 (σ 28 x3.toNatClampNeg) (σ 29 x3.toNatClampNeg) σ (fun σ3 => Q σ3)))
abbrev rm_Val_take_19_19 : Room := { frames := 1, cells := 0, slots := 0, locals := 23 }
set_option maxRecDepth 100000 in
set_option maxHeartbeats 4000000 in
theorem c_Val_take_19_19 {l : Launch} {V : xV} {σ : xS} {x1 x3 : Int32} {Q : xS → Prop} (h : p_Val_take_19_19 x1 x3 σ Q) : xMv l y_Val_take (.code y_Val_take cd_Val_take 4 none :: xG) rm_Val_take_19_19 V [.ref (V.2.2 19), .int x1, .ref (V.2.2 19), .int x3] σ Q := by
  refine x_beginv (by decide) (Nat.le_of_ble_eq_true rfl) (fun p e s m below meth c ls C hlocks hr hI hl => ?_)
  have C : xC p s m _ c cd_Val_take 4 R_Val V := C
  have hx := C.1
  have hb := C.2.1
  have hl : lv_has ls 4 [(0, .ref (V.2.2 19)), (1, .int x1), (2, .ref (V.2.2 19)), (3, .int x3)] := hl
  unfold p_Val_take_19_19 at h
  refine lv_aload_n hx hb d_Val_take_0 rfl (lv_at hl 0 rfl) ?_
  refine lv_iload_n hx hb d_Val_take_1 rfl (lv_at hl 1 rfl) ?_
  refine lv_aload_n hx hb d_Val_take_2 rfl (lv_at hl 2 rfl) ?_
  refine x_get C hI (d := 19) (by decide) (xE19 V _) fd_Val_9 rfl d_Val_take_3 ?_
  refine lv_iload_n hx hb d_Val_take_6 rfl (lv_at hl 3 rfl) ?_
  obtain ⟨i1, h⟩ := h
  refine x_iald C hI (d := 28) (by decide) (xE28 V) i1 d_Val_take_7 ?_
  refine lv_aload_n hx hb d_Val_take_8 rfl (lv_at hl 2 rfl) ?_
  refine x_get C hI (d := 19) (by decide) (xE19 V _) fd_Val_15 rfl d_Val_take_9 ?_
  refine lv_iload_n hx hb d_Val_take_12 rfl (lv_at hl 3 rfl) ?_
  obtain ⟨i2, h⟩ := h
  refine x_iald C hI (d := 29) (by decide) (xE29 V) i2 d_Val_take_13 ?_
  refine x_callv C hI hl.1 (d := 19) (As := [.int x1, .int (σ 28 x3.toNatClampNeg), .int (σ 29 x3.toNatClampNeg)]) (rest := []) (by decide) (c_Val_assign_19 h) (xE19 V _) rfl yw_Val_assign ml_Val_18 rfl rfl ⟨Nat.le_of_ble_eq_true rfl, Nat.le_of_ble_eq_true rfl⟩ rfl rfl (Nat.le_of_ble_eq_true rfl) d_Val_take_14 ⟨Nat.zero_le _, Nat.zero_le _⟩ (fun σ3 H locs h hI => ?_)
  exact x_vret C hlocks hr hI h d_Val_take_17
def y_Val_follow : MethodName := ⟨"RegionPool$Values", "follow", "([I)V"⟩
abbrev cd_Val_follow : ByteArray := prog_10_method_10_code
def b_Val_follow_5_10_L2 (K2 : Int32 → xS → Prop) (Q : xS → Prop) (x2 : Int32) (σ : xS) : Prop :=
  ((16 ≤ x2 → Q σ) ∧ (¬ 16 ≤ x2 → (vp_in x2 16 ∧ ((¬ (σ 17 x2.toNatClampNeg) = 2 → (∀ z4 : Int32, z4 = x2 + 1 → K2 z4 σ)) ∧ ((σ 17 x2.toNatClampNeg) = 2 → (vp_in x2 16 ∧ (vp_in (σ 18 x2.toNatClampNeg) 640 ∧ (vp_in x2 16 ∧ (∀ z8 : Int32, z8 = x2 + 1 → K2 z8 (xu σ 18 x2.toNatClampNeg (σ 10 (σ 18 x2.toNatClampNeg).toNatClampNeg)))))))))))
def p_Val_follow_5_10_L2 (Q : xS → Prop) (n : Nat) : Int32 → xS → Prop := Nat.rec (motive := fun _ => Int32 → xS → Prop) (fun _ _ => False) (fun _ K x2 σ => b_Val_follow_5_10_L2 K Q x2 σ) n
def p_Val_follow_5_10 (σ : xS) (Q : xS → Prop) : Prop :=
  (∃ n, p_Val_follow_5_10_L2 Q n 0 σ)
abbrev rm_Val_follow_5_10 : Room := { frames := 0, cells := 0, slots := 0, locals := 0 }
theorem d_Val_follow_0 : decode cd_Val_follow 0 = .ok (.iconst 0, 1) := by decide +kernel
theorem d_Val_follow_1 : decode cd_Val_follow 1 = .ok (.istore_n 2, 1) := by decide +kernel
theorem d_Val_follow_2 : decode cd_Val_follow 2 = .ok (.iload_n 2, 1) := by decide +kernel
theorem d_Val_follow_3 : decode cd_Val_follow 3 = .ok (.aload_n 0, 1) := by decide +kernel
theorem d_Val_follow_4 : decode cd_Val_follow 4 = .ok (.getfield 9, 3) := by decide +kernel
theorem d_Val_follow_7 : decode cd_Val_follow 7 = .ok (.arraylength, 1) := by decide +kernel
theorem d_Val_follow_8 : decode cd_Val_follow 8 = .ok (.if_icmp .ge 33, 3) := by decide +kernel
theorem d_Val_follow_11 : decode cd_Val_follow 11 = .ok (.aload_n 0, 1) := by decide +kernel
theorem d_Val_follow_12 : decode cd_Val_follow 12 = .ok (.getfield 9, 3) := by decide +kernel
theorem d_Val_follow_15 : decode cd_Val_follow 15 = .ok (.iload_n 2, 1) := by decide +kernel
theorem d_Val_follow_16 : decode cd_Val_follow 16 = .ok (.iaload, 1) := by decide +kernel
theorem d_Val_follow_17 : decode cd_Val_follow 17 = .ok (.iconst 2, 1) := by decide +kernel
theorem d_Val_follow_18 : decode cd_Val_follow 18 = .ok (.if_icmp .ne 17, 3) := by decide +kernel
theorem d_Val_follow_21 : decode cd_Val_follow 21 = .ok (.aload_n 0, 1) := by decide +kernel
theorem d_Val_follow_22 : decode cd_Val_follow 22 = .ok (.getfield 15, 3) := by decide +kernel
theorem d_Val_follow_25 : decode cd_Val_follow 25 = .ok (.iload_n 2, 1) := by decide +kernel
theorem d_Val_follow_26 : decode cd_Val_follow 26 = .ok (.aload_n 1, 1) := by decide +kernel
theorem d_Val_follow_27 : decode cd_Val_follow 27 = .ok (.aload_n 0, 1) := by decide +kernel
theorem d_Val_follow_28 : decode cd_Val_follow 28 = .ok (.getfield 15, 3) := by decide +kernel
theorem d_Val_follow_31 : decode cd_Val_follow 31 = .ok (.iload_n 2, 1) := by decide +kernel
theorem d_Val_follow_32 : decode cd_Val_follow 32 = .ok (.iaload, 1) := by decide +kernel
theorem d_Val_follow_33 : decode cd_Val_follow 33 = .ok (.iaload, 1) := by decide +kernel
theorem d_Val_follow_34 : decode cd_Val_follow 34 = .ok (.iastore, 1) := by decide +kernel
theorem d_Val_follow_35 : decode cd_Val_follow 35 = .ok (.iinc 2 1, 3) := by decide +kernel
theorem d_Val_follow_38 : decode cd_Val_follow 38 = .ok (.goto (-36), 3) := by decide +kernel
theorem d_Val_follow_41 : decode cd_Val_follow 41 = .ok (.return_, 1) := by decide +kernel
set_option maxRecDepth 100000 in
set_option maxHeartbeats 4000000 in
theorem s_Val_follow_5_10_L2 {p : Program} {l : Launch} {e : Env} {s : State} {m : MethodId} {args : Array Value} {below : List Frame} {meth : Method} {c : Code} {V : xV} (C : xC p s m args c cd_Val_follow 3 R_Val V) (hlocks : meth.locks = false) (hr : meth.sig.returnType = none) {Q : xS → Prop} {K2 : Int32 → xS → Prop} (hK2 : ∀ (x2 : Int32) (σ : xS) (H : Heap) (locs : List Loc) (ls : Array Slot), K2 x2 σ → xI V s.heap σ H locs → lv_has ls 3 [(0, .ref (V.2.2 5)), (1, .ref (V.2.2 10)), (2, .int x2)] → W p l e rm_Val_follow_5_10 s m args below meth c H locs 0 0 (xZv below V args s Q) (F0 m 2 ls [])) {x2 : Int32} {σ : xS} {H : Heap} {locs : List Loc} {ls : Array Slot} (h : b_Val_follow_5_10_L2 K2 Q x2 σ) (hI : xI V s.heap σ H locs) (hl : lv_has ls 3 [(0, .ref (V.2.2 5)), (1, .ref (V.2.2 10)), (2, .int x2)]) : W p l e rm_Val_follow_5_10 s m args below meth c H locs 0 0 (xZv below V args s Q) (F0 m 2 ls []) := by
  have hx := C.1
  have hb := C.2.1
  unfold b_Val_follow_5_10_L2 at h
  refine lv_iload_n hx hb d_Val_follow_2 rfl (lv_at hl 2 rfl) ?_
  refine lv_aload_n hx hb d_Val_follow_3 rfl (lv_at hl 0 rfl) ?_
  refine x_get C hI (d := 5) (by decide) (xE5 V _) fd_Val_9 rfl d_Val_follow_4 ?_
  refine x_alen C hI (d := 17) (k := 0) (by decide) rfl (xE17 V _) (v := 16) (by decide) d_Val_follow_7 ?_
  refine lv_icmp_ge (tgt := 41) hx hb d_Val_follow_8 (by decide) (fun c1 => ?_) (fun c1 => ?_)
  · have h := h.1 c1
    exact x_vret C hlocks hr hI h d_Val_follow_41
  · have h := h.2 c1
    refine lv_aload_n hx hb d_Val_follow_11 rfl (lv_at hl 0 rfl) ?_
    refine x_get C hI (d := 5) (by decide) (xE5 V _) fd_Val_9 rfl d_Val_follow_12 ?_
    refine lv_iload_n hx hb d_Val_follow_15 rfl (lv_at hl 2 rfl) ?_
    obtain ⟨i2, h⟩ := h
    refine x_iald C hI (d := 17) (by decide) (xE17 V) i2 d_Val_follow_16 ?_
    refine lv_iconst (v := 2) hx hb d_Val_follow_17 (by decide) ?_
    refine lv_icmp_ne (tgt := 35) hx hb d_Val_follow_18 (by decide) (fun c3 => ?_) (fun c3 => ?_)
    · have h := h.1 c3
      obtain ⟨z4, ez4⟩ : ∃ y : Int32, y = x2 + 1 := ⟨_, rfl⟩
      have h := h z4 ez4
      refine lv_iinc (v := z4) (lv' := [(2, .int z4), (0, .ref (V.2.2 5)), (1, .ref (V.2.2 10))]) hx hb d_Val_follow_35 hl (k := 2) rfl (by rw [ez4]; rfl) (by decide) rfl (fun ls hl => ?_)
      refine lv_goto (tgt := 2) hx hb d_Val_follow_38 (by decide) ?_
      exact hK2 _ _ _ _ _ h hI (lv_sub hl [1, 2, 0] rfl)
    · have h := h.2 c3
      refine lv_aload_n hx hb d_Val_follow_21 rfl (lv_at hl 0 rfl) ?_
      refine x_get C hI (d := 5) (by decide) (xE5 V _) fd_Val_15 rfl d_Val_follow_22 ?_
      refine lv_iload_n hx hb d_Val_follow_25 rfl (lv_at hl 2 rfl) ?_
      refine lv_aload_n hx hb d_Val_follow_26 rfl (lv_at hl 1 rfl) ?_
      refine lv_aload_n hx hb d_Val_follow_27 rfl (lv_at hl 0 rfl) ?_
      refine x_get C hI (d := 5) (by decide) (xE5 V _) fd_Val_15 rfl d_Val_follow_28 ?_
      refine lv_iload_n hx hb d_Val_follow_31 rfl (lv_at hl 2 rfl) ?_
      obtain ⟨i5, h⟩ := h
      refine x_iald C hI (d := 18) (by decide) (xE18 V) i5 d_Val_follow_32 ?_
      obtain ⟨i6, h⟩ := h
      refine x_iald C hI (d := 10) (by decide) (xE10 V) i6 d_Val_follow_33 ?_
      obtain ⟨i7, h⟩ := h
      refine x_iast C hI (d := 18) (by decide) (xE18 V) i7 d_Val_follow_34 (fun H locs hI => ?_)
      obtain ⟨z8, ez8⟩ : ∃ y : Int32, y = x2 + 1 := ⟨_, rfl⟩
      have h := h z8 ez8
      refine lv_iinc (v := z8) (lv' := [(2, .int z8), (0, .ref (V.2.2 5)), (1, .ref (V.2.2 10))]) hx hb d_Val_follow_35 hl (k := 2) rfl (by rw [ez8]; rfl) (by decide) rfl (fun ls hl => ?_)
      refine lv_goto (tgt := 2) hx hb d_Val_follow_38 (by decide) ?_
      exact hK2 _ _ _ _ _ h hI (lv_sub hl [1, 2, 0] rfl)
theorem w_Val_follow_5_10_L2 {p : Program} {l : Launch} {e : Env} {s : State} {m : MethodId} {args : Array Value} {below : List Frame} {meth : Method} {c : Code} {V : xV} (C : xC p s m args c cd_Val_follow 3 R_Val V) (hlocks : meth.locks = false) (hr : meth.sig.returnType = none) {Q : xS → Prop} : ∀ (n : Nat) (x2 : Int32) (σ : xS) (H : Heap) (locs : List Loc) (ls : Array Slot), p_Val_follow_5_10_L2 Q n x2 σ → xI V s.heap σ H locs → lv_has ls 3 [(0, .ref (V.2.2 5)), (1, .ref (V.2.2 10)), (2, .int x2)] → W p l e rm_Val_follow_5_10 s m args below meth c H locs 0 0 (xZv below V args s Q) (F0 m 2 ls []) := by
  intro n
  induction n with
  | zero =>
    intro x2 σ H locs ls h
    exact False.elim h
  | succ n ih =>
    intro x2 σ H locs ls h hI hl
    exact s_Val_follow_5_10_L2 C hlocks hr (K2 := p_Val_follow_5_10_L2 Q n) (fun x2 σ H locs ls h hI hl => ih x2 σ H locs ls h hI hl) h hI hl
set_option maxRecDepth 100000 in
set_option maxHeartbeats 4000000 in
theorem c_Val_follow_5_10 {l : Launch} {V : xV} {σ : xS} {Q : xS → Prop} (h : p_Val_follow_5_10 σ Q) : xMv l y_Val_follow (.code y_Val_follow cd_Val_follow 3 none :: xG) rm_Val_follow_5_10 V [.ref (V.2.2 5), .ref (V.2.2 10)] σ Q := by
  refine x_beginv (by decide) (Nat.le_of_ble_eq_true rfl) (fun p e s m below meth c ls C hlocks hr hI hl => ?_)
  have C : xC p s m _ c cd_Val_follow 3 R_Val V := C
  have hx := C.1
  have hb := C.2.1
  have hl : lv_has ls 3 [(0, .ref (V.2.2 5)), (1, .ref (V.2.2 10))] := hl
  unfold p_Val_follow_5_10 at h
  refine lv_iconst (v := 0) hx hb d_Val_follow_0 (by decide) ?_
  refine lv_istore_n (lv' := [(2, .int 0), (0, .ref (V.2.2 5)), (1, .ref (V.2.2 10))]) hx hb d_Val_follow_1 rfl hl (by decide) rfl (fun ls hl => ?_)
  obtain ⟨n, h⟩ := h
  exact w_Val_follow_5_10_L2 C hlocks hr n _ _ _ _ _ h hI (lv_sub hl [1, 2, 0] rfl)
def b_Val_follow_19_10_L2 (K2 : Int32 → xS → Prop) (Q : xS → Prop) (x2 : Int32) (σ : xS) : Prop :=
  ((640 ≤ x2 → Q σ) ∧ (¬ 640 ≤ x2 → (vp_in x2 640 ∧ ((¬ (σ 28 x2.toNatClampNeg) = 2 → (∀ z4 : Int32, z4 = x2 + 1 → K2 z4 σ)) ∧ ((σ 28 x2.toNatClampNeg) = 2 → (vp_in x2 640 ∧ (vp_in (σ 29 x2.toNatClampNeg) 640 ∧ (vp_in x2 640 ∧ (∀ z8 : Int32, z8 = x2 + 1 → K2 z8 (xu σ 29 x2.toNatClampNeg (σ 10 (σ 29 x2.toNatClampNeg).toNatClampNeg)))))))))))
def p_Val_follow_19_10_L2 (Q : xS → Prop) (n : Nat) : Int32 → xS → Prop := Nat.rec (motive := fun _ => Int32 → xS → Prop) (fun _ _ => False) (fun _ K x2 σ => b_Val_follow_19_10_L2 K Q x2 σ) n
def p_Val_follow_19_10 (σ : xS) (Q : xS → Prop) : Prop :=
  (∃ n, p_Val_follow_19_10_L2 Q n 0 σ)
abbrev rm_Val_follow_19_10 : Room := { frames := 0, cells := 0, slots := 0, locals := 0 }
set_option maxRecDepth 100000 in
set_option maxHeartbeats 4000000 in
theorem s_Val_follow_19_10_L2 {p : Program} {l : Launch} {e : Env} {s : State} {m : MethodId} {args : Array Value} {below : List Frame} {meth : Method} {c : Code} {V : xV} (C : xC p s m args c cd_Val_follow 3 R_Val V) (hlocks : meth.locks = false) (hr : meth.sig.returnType = none) {Q : xS → Prop} {K2 : Int32 → xS → Prop} (hK2 : ∀ (x2 : Int32) (σ : xS) (H : Heap) (locs : List Loc) (ls : Array Slot), K2 x2 σ → xI V s.heap σ H locs → lv_has ls 3 [(0, .ref (V.2.2 19)), (1, .ref (V.2.2 10)), (2, .int x2)] → W p l e rm_Val_follow_19_10 s m args below meth c H locs 0 0 (xZv below V args s Q) (F0 m 2 ls [])) {x2 : Int32} {σ : xS} {H : Heap} {locs : List Loc} {ls : Array Slot} (h : b_Val_follow_19_10_L2 K2 Q x2 σ) (hI : xI V s.heap σ H locs) (hl : lv_has ls 3 [(0, .ref (V.2.2 19)), (1, .ref (V.2.2 10)), (2, .int x2)]) : W p l e rm_Val_follow_19_10 s m args below meth c H locs 0 0 (xZv below V args s Q) (F0 m 2 ls []) := by
  have hx := C.1
  have hb := C.2.1
  unfold b_Val_follow_19_10_L2 at h
  refine lv_iload_n hx hb d_Val_follow_2 rfl (lv_at hl 2 rfl) ?_
  refine lv_aload_n hx hb d_Val_follow_3 rfl (lv_at hl 0 rfl) ?_
  refine x_get C hI (d := 19) (by decide) (xE19 V _) fd_Val_9 rfl d_Val_follow_4 ?_
  refine x_alen C hI (d := 28) (k := 0) (by decide) rfl (xE28 V _) (v := 640) (by decide) d_Val_follow_7 ?_
  refine lv_icmp_ge (tgt := 41) hx hb d_Val_follow_8 (by decide) (fun c1 => ?_) (fun c1 => ?_)
  · have h := h.1 c1
    exact x_vret C hlocks hr hI h d_Val_follow_41
  · have h := h.2 c1
    refine lv_aload_n hx hb d_Val_follow_11 rfl (lv_at hl 0 rfl) ?_
    refine x_get C hI (d := 19) (by decide) (xE19 V _) fd_Val_9 rfl d_Val_follow_12 ?_
    refine lv_iload_n hx hb d_Val_follow_15 rfl (lv_at hl 2 rfl) ?_
    obtain ⟨i2, h⟩ := h
    refine x_iald C hI (d := 28) (by decide) (xE28 V) i2 d_Val_follow_16 ?_
    refine lv_iconst (v := 2) hx hb d_Val_follow_17 (by decide) ?_
    refine lv_icmp_ne (tgt := 35) hx hb d_Val_follow_18 (by decide) (fun c3 => ?_) (fun c3 => ?_)
    · have h := h.1 c3
      obtain ⟨z4, ez4⟩ : ∃ y : Int32, y = x2 + 1 := ⟨_, rfl⟩
      have h := h z4 ez4
      refine lv_iinc (v := z4) (lv' := [(2, .int z4), (0, .ref (V.2.2 19)), (1, .ref (V.2.2 10))]) hx hb d_Val_follow_35 hl (k := 2) rfl (by rw [ez4]; rfl) (by decide) rfl (fun ls hl => ?_)
      refine lv_goto (tgt := 2) hx hb d_Val_follow_38 (by decide) ?_
      exact hK2 _ _ _ _ _ h hI (lv_sub hl [1, 2, 0] rfl)
    · have h := h.2 c3
      refine lv_aload_n hx hb d_Val_follow_21 rfl (lv_at hl 0 rfl) ?_
      refine x_get C hI (d := 19) (by decide) (xE19 V _) fd_Val_15 rfl d_Val_follow_22 ?_
      refine lv_iload_n hx hb d_Val_follow_25 rfl (lv_at hl 2 rfl) ?_
      refine lv_aload_n hx hb d_Val_follow_26 rfl (lv_at hl 1 rfl) ?_
      refine lv_aload_n hx hb d_Val_follow_27 rfl (lv_at hl 0 rfl) ?_
      refine x_get C hI (d := 19) (by decide) (xE19 V _) fd_Val_15 rfl d_Val_follow_28 ?_
      refine lv_iload_n hx hb d_Val_follow_31 rfl (lv_at hl 2 rfl) ?_
      obtain ⟨i5, h⟩ := h
      refine x_iald C hI (d := 29) (by decide) (xE29 V) i5 d_Val_follow_32 ?_
      obtain ⟨i6, h⟩ := h
      refine x_iald C hI (d := 10) (by decide) (xE10 V) i6 d_Val_follow_33 ?_
      obtain ⟨i7, h⟩ := h
      refine x_iast C hI (d := 29) (by decide) (xE29 V) i7 d_Val_follow_34 (fun H locs hI => ?_)
      obtain ⟨z8, ez8⟩ : ∃ y : Int32, y = x2 + 1 := ⟨_, rfl⟩
      have h := h z8 ez8
      refine lv_iinc (v := z8) (lv' := [(2, .int z8), (0, .ref (V.2.2 19)), (1, .ref (V.2.2 10))]) hx hb d_Val_follow_35 hl (k := 2) rfl (by rw [ez8]; rfl) (by decide) rfl (fun ls hl => ?_)
      refine lv_goto (tgt := 2) hx hb d_Val_follow_38 (by decide) ?_
      exact hK2 _ _ _ _ _ h hI (lv_sub hl [1, 2, 0] rfl)
theorem w_Val_follow_19_10_L2 {p : Program} {l : Launch} {e : Env} {s : State} {m : MethodId} {args : Array Value} {below : List Frame} {meth : Method} {c : Code} {V : xV} (C : xC p s m args c cd_Val_follow 3 R_Val V) (hlocks : meth.locks = false) (hr : meth.sig.returnType = none) {Q : xS → Prop} : ∀ (n : Nat) (x2 : Int32) (σ : xS) (H : Heap) (locs : List Loc) (ls : Array Slot), p_Val_follow_19_10_L2 Q n x2 σ → xI V s.heap σ H locs → lv_has ls 3 [(0, .ref (V.2.2 19)), (1, .ref (V.2.2 10)), (2, .int x2)] → W p l e rm_Val_follow_19_10 s m args below meth c H locs 0 0 (xZv below V args s Q) (F0 m 2 ls []) := by
  intro n
  induction n with
  | zero =>
    intro x2 σ H locs ls h
    exact False.elim h
  | succ n ih =>
    intro x2 σ H locs ls h hI hl
    exact s_Val_follow_19_10_L2 C hlocks hr (K2 := p_Val_follow_19_10_L2 Q n) (fun x2 σ H locs ls h hI hl => ih x2 σ H locs ls h hI hl) h hI hl
set_option maxRecDepth 100000 in
set_option maxHeartbeats 4000000 in
theorem c_Val_follow_19_10 {l : Launch} {V : xV} {σ : xS} {Q : xS → Prop} (h : p_Val_follow_19_10 σ Q) : xMv l y_Val_follow (.code y_Val_follow cd_Val_follow 3 none :: xG) rm_Val_follow_19_10 V [.ref (V.2.2 19), .ref (V.2.2 10)] σ Q := by
  refine x_beginv (by decide) (Nat.le_of_ble_eq_true rfl) (fun p e s m below meth c ls C hlocks hr hI hl => ?_)
  have C : xC p s m _ c cd_Val_follow 3 R_Val V := C
  have hx := C.1
  have hb := C.2.1
  have hl : lv_has ls 3 [(0, .ref (V.2.2 19)), (1, .ref (V.2.2 10))] := hl
  unfold p_Val_follow_19_10 at h
  refine lv_iconst (v := 0) hx hb d_Val_follow_0 (by decide) ?_
  refine lv_istore_n (lv' := [(2, .int 0), (0, .ref (V.2.2 19)), (1, .ref (V.2.2 10))]) hx hb d_Val_follow_1 rfl hl (by decide) rfl (fun ls hl => ?_)
  obtain ⟨n, h⟩ := h
  exact w_Val_follow_19_10_L2 C hlocks hr n _ _ _ _ _ h hI (lv_sub hl [1, 2, 0] rfl)
end
