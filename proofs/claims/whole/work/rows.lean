section
-- ===== PART A: goes FIRST, ahead of the names: the tables' words, and 'selects' of the private methods out of them =====
/-- a private method of a class that the tables say can be made, by its rows of tables_1 -/
def lw_okq (q : MethodName × Nat) : Prop := (q.1.cls ≠ "java/lang/invoke/MethodHandle" ∧ q.1.cls ≠ "java/lang/invoke/VarHandle") ∧ Cond.instantiable q.1.cls q.2 ∈ tables_1 ∧ Cond.privateMethod q.1 ∈ tables_1 ∧ Cond.instanceMethod q.1 ∈ tables_1
theorem lw_p0 : lw_okq (⟨"java/lang/Throwable", "fillInStackTrace", "(I)Ljava/lang/Throwable;"⟩, 6) := ⟨⟨by decide +kernel, by decide +kernel⟩, List.mem_of_getElem? (i := 643) (by decide +kernel), List.mem_of_getElem? (i := 641) (by decide +kernel), List.mem_of_getElem? (i := 642) (by decide +kernel)⟩
theorem lw_p1 : lw_okq (⟨"TierMill$Machine", "openInvoked", "(I)V"⟩, 16) := ⟨⟨by decide +kernel, by decide +kernel⟩, List.mem_of_getElem? (i := 112) (by decide +kernel), List.mem_of_getElem? (i := 912) (by decide +kernel), List.mem_of_getElem? (i := 913) (by decide +kernel)⟩
theorem lw_p2 : lw_okq (⟨"TierMill$Tiers", "goThrough", "(II)V"⟩, 13) := ⟨⟨by decide +kernel, by decide +kernel⟩, List.mem_of_getElem? (i := 192) (by decide +kernel), List.mem_of_getElem? (i := 920) (by decide +kernel), List.mem_of_getElem? (i := 921) (by decide +kernel)⟩
theorem lw_p3 : lw_okq (⟨"TierMill$Tiers", "guardOf", "(I)I"⟩, 13) := ⟨⟨by decide +kernel, by decide +kernel⟩, List.mem_of_getElem? (i := 192) (by decide +kernel), List.mem_of_getElem? (i := 924) (by decide +kernel), List.mem_of_getElem? (i := 925) (by decide +kernel)⟩
theorem lw_p4 : lw_okq (⟨"TierMill$Tiers", "calleeOf", "(II)I"⟩, 13) := ⟨⟨by decide +kernel, by decide +kernel⟩, List.mem_of_getElem? (i := 192) (by decide +kernel), List.mem_of_getElem? (i := 928) (by decide +kernel), List.mem_of_getElem? (i := 929) (by decide +kernel)⟩
theorem lw_p5 : lw_okq (⟨"TierMill$Tiers", "fits", "(I)Z"⟩, 13) := ⟨⟨by decide +kernel, by decide +kernel⟩, List.mem_of_getElem? (i := 192) (by decide +kernel), List.mem_of_getElem? (i := 932) (by decide +kernel), List.mem_of_getElem? (i := 933) (by decide +kernel)⟩
theorem lw_p6 : lw_okq (⟨"TierMill$Tiers", "addRow", "(IIIII)I"⟩, 13) := ⟨⟨by decide +kernel, by decide +kernel⟩, List.mem_of_getElem? (i := 192) (by decide +kernel), List.mem_of_getElem? (i := 936) (by decide +kernel), List.mem_of_getElem? (i := 937) (by decide +kernel)⟩
theorem lw_p7 : lw_okq (⟨"TierMill$Reader", "readClasses", "()V"⟩, 3) := ⟨⟨by decide +kernel, by decide +kernel⟩, List.mem_of_getElem? (i := 41) (by decide +kernel), List.mem_of_getElem? (i := 1040) (by decide +kernel), List.mem_of_getElem? (i := 1041) (by decide +kernel)⟩
theorem lw_p8 : lw_okq (⟨"TierMill$Reader", "take", "(II)I"⟩, 3) := ⟨⟨by decide +kernel, by decide +kernel⟩, List.mem_of_getElem? (i := 41) (by decide +kernel), List.mem_of_getElem? (i := 1044) (by decide +kernel), List.mem_of_getElem? (i := 1045) (by decide +kernel)⟩
theorem lw_p9 : lw_okq (⟨"TierMill$Reader", "takeType", "(I)I"⟩, 3) := ⟨⟨by decide +kernel, by decide +kernel⟩, List.mem_of_getElem? (i := 41) (by decide +kernel), List.mem_of_getElem? (i := 1049) (by decide +kernel), List.mem_of_getElem? (i := 1050) (by decide +kernel)⟩
theorem lw_p10 : lw_okq (⟨"TierMill$Reader", "readSelectors", "()V"⟩, 3) := ⟨⟨by decide +kernel, by decide +kernel⟩, List.mem_of_getElem? (i := 41) (by decide +kernel), List.mem_of_getElem? (i := 1053) (by decide +kernel), List.mem_of_getElem? (i := 1054) (by decide +kernel)⟩
theorem lw_p11 : lw_okq (⟨"TierMill$Reader", "readShape", "(LTierMill$Shape;I)V"⟩, 3) := ⟨⟨by decide +kernel, by decide +kernel⟩, List.mem_of_getElem? (i := 41) (by decide +kernel), List.mem_of_getElem? (i := 1057) (by decide +kernel), List.mem_of_getElem? (i := 1058) (by decide +kernel)⟩
theorem lw_p12 : lw_okq (⟨"TierMill$Reader", "readMethods", "()V"⟩, 3) := ⟨⟨by decide +kernel, by decide +kernel⟩, List.mem_of_getElem? (i := 41) (by decide +kernel), List.mem_of_getElem? (i := 1061) (by decide +kernel), List.mem_of_getElem? (i := 1062) (by decide +kernel)⟩
theorem lw_p13 : lw_okq (⟨"TierMill$Reader", "readTable", "()V"⟩, 3) := ⟨⟨by decide +kernel, by decide +kernel⟩, List.mem_of_getElem? (i := 41) (by decide +kernel), List.mem_of_getElem? (i := 1065) (by decide +kernel), List.mem_of_getElem? (i := 1066) (by decide +kernel)⟩
theorem lw_p14 : lw_okq (⟨"TierMill$Reader", "suits", "(ILTierMill$Shape;LTierMill$Shape;)Z"⟩, 3) := ⟨⟨by decide +kernel, by decide +kernel⟩, List.mem_of_getElem? (i := 41) (by decide +kernel), List.mem_of_getElem? (i := 1069) (by decide +kernel), List.mem_of_getElem? (i := 1070) (by decide +kernel)⟩
theorem lw_p15 : lw_okq (⟨"TierMill", "keepFault", "(III)V"⟩, 11) := ⟨⟨by decide +kernel, by decide +kernel⟩, List.mem_of_getElem? (i := 33) (by decide +kernel), List.mem_of_getElem? (i := 1077) (by decide +kernel), List.mem_of_getElem? (i := 1078) (by decide +kernel)⟩
def lw_privs_1 : List (MethodName × Nat) := [(⟨"java/lang/Throwable", "fillInStackTrace", "(I)Ljava/lang/Throwable;"⟩, 6), (⟨"TierMill$Machine", "openInvoked", "(I)V"⟩, 16), (⟨"TierMill$Tiers", "goThrough", "(II)V"⟩, 13), (⟨"TierMill$Tiers", "guardOf", "(I)I"⟩, 13), (⟨"TierMill$Tiers", "calleeOf", "(II)I"⟩, 13), (⟨"TierMill$Tiers", "fits", "(I)Z"⟩, 13), (⟨"TierMill$Tiers", "addRow", "(IIIII)I"⟩, 13), (⟨"TierMill$Reader", "readClasses", "()V"⟩, 3), (⟨"TierMill$Reader", "take", "(II)I"⟩, 3), (⟨"TierMill$Reader", "takeType", "(I)I"⟩, 3), (⟨"TierMill$Reader", "readSelectors", "()V"⟩, 3), (⟨"TierMill$Reader", "readShape", "(LTierMill$Shape;I)V"⟩, 3), (⟨"TierMill$Reader", "readMethods", "()V"⟩, 3), (⟨"TierMill$Reader", "readTable", "()V"⟩, 3), (⟨"TierMill$Reader", "suits", "(ILTierMill$Shape;LTierMill$Shape;)Z"⟩, 3), (⟨"TierMill", "keepFault", "(III)V"⟩, 11)]
theorem lw_r1 : ∀ q ∈ lw_privs_1, lw_okq q := List.forall_mem_cons.mpr ⟨lw_p0, List.forall_mem_cons.mpr ⟨lw_p1, List.forall_mem_cons.mpr ⟨lw_p2, List.forall_mem_cons.mpr ⟨lw_p3, List.forall_mem_cons.mpr ⟨lw_p4, List.forall_mem_cons.mpr ⟨lw_p5, List.forall_mem_cons.mpr ⟨lw_p6, List.forall_mem_cons.mpr ⟨lw_p7, List.forall_mem_cons.mpr ⟨lw_p8, List.forall_mem_cons.mpr ⟨lw_p9, List.forall_mem_cons.mpr ⟨lw_p10, List.forall_mem_cons.mpr ⟨lw_p11, List.forall_mem_cons.mpr ⟨lw_p12, List.forall_mem_cons.mpr ⟨lw_p13, List.forall_mem_cons.mpr ⟨lw_p14, List.forall_mem_cons.mpr ⟨lw_p15, fun _ h => absurd h List.not_mem_nil⟩⟩⟩⟩⟩⟩⟩⟩⟩⟩⟩⟩⟩⟩⟩⟩
theorem lw_p16 : lw_okq (⟨"TierMill$Decoder", "markBegins", "(LTierMill$Shape;)V"⟩, 3) := ⟨⟨by decide +kernel, by decide +kernel⟩, List.mem_of_getElem? (i := 57) (by decide +kernel), List.mem_of_getElem? (i := 1085) (by decide +kernel), List.mem_of_getElem? (i := 1086) (by decide +kernel)⟩
theorem lw_p17 : lw_okq (⟨"TierMill$Decoder", "sizeAt", "(II)I"⟩, 3) := ⟨⟨by decide +kernel, by decide +kernel⟩, List.mem_of_getElem? (i := 57) (by decide +kernel), List.mem_of_getElem? (i := 1090) (by decide +kernel), List.mem_of_getElem? (i := 1091) (by decide +kernel)⟩
theorem lw_p18 : lw_okq (⟨"TierMill$Decoder", "isFaulty", "(LTierMill$Shape;I)Z"⟩, 3) := ⟨⟨by decide +kernel, by decide +kernel⟩, List.mem_of_getElem? (i := 57) (by decide +kernel), List.mem_of_getElem? (i := 1096) (by decide +kernel), List.mem_of_getElem? (i := 1097) (by decide +kernel)⟩
theorem lw_p19 : lw_okq (⟨"TierMill$Decoder", "namesWhatThereIs", "(LTierMill$Shape;II)Z"⟩, 3) := ⟨⟨by decide +kernel, by decide +kernel⟩, List.mem_of_getElem? (i := 57) (by decide +kernel), List.mem_of_getElem? (i := 1100) (by decide +kernel), List.mem_of_getElem? (i := 1101) (by decide +kernel)⟩
theorem lw_p20 : lw_okq (⟨"TierMill$Decoder", "choosesWell", "(LTierMill$Shape;I)Z"⟩, 3) := ⟨⟨by decide +kernel, by decide +kernel⟩, List.mem_of_getElem? (i := 57) (by decide +kernel), List.mem_of_getElem? (i := 1104) (by decide +kernel), List.mem_of_getElem? (i := 1105) (by decide +kernel)⟩
theorem lw_p21 : lw_okq (⟨"TierMill$Decoder", "begins", "(LTierMill$Shape;I)Z"⟩, 3) := ⟨⟨by decide +kernel, by decide +kernel⟩, List.mem_of_getElem? (i := 57) (by decide +kernel), List.mem_of_getElem? (i := 1108) (by decide +kernel), List.mem_of_getElem? (i := 1109) (by decide +kernel)⟩
theorem lw_p22 : lw_okq (⟨"TierMill$Verifier", "flow", "()V"⟩, 9) := ⟨⟨by decide +kernel, by decide +kernel⟩, List.mem_of_getElem? (i := 75) (by decide +kernel), List.mem_of_getElem? (i := 1116) (by decide +kernel), List.mem_of_getElem? (i := 1117) (by decide +kernel)⟩
theorem lw_p23 : lw_okq (⟨"TierMill$Verifier", "comeTo", "(I)V"⟩, 9) := ⟨⟨by decide +kernel, by decide +kernel⟩, List.mem_of_getElem? (i := 75) (by decide +kernel), List.mem_of_getElem? (i := 1121) (by decide +kernel), List.mem_of_getElem? (i := 1122) (by decide +kernel)⟩
theorem lw_p24 : lw_okq (⟨"TierMill$Verifier", "becomes", "(IIJJ)V"⟩, 9) := ⟨⟨by decide +kernel, by decide +kernel⟩, List.mem_of_getElem? (i := 75) (by decide +kernel), List.mem_of_getElem? (i := 1125) (by decide +kernel), List.mem_of_getElem? (i := 1126) (by decide +kernel)⟩
theorem lw_p25 : lw_okq (⟨"TierMill$Verifier", "joined", "(JJ)J"⟩, 9) := ⟨⟨by decide +kernel, by decide +kernel⟩, List.mem_of_getElem? (i := 75) (by decide +kernel), List.mem_of_getElem? (i := 1129) (by decide +kernel), List.mem_of_getElem? (i := 1130) (by decide +kernel)⟩
theorem lw_p26 : lw_okq (⟨"TierMill$Verifier", "join", "(II)I"⟩, 9) := ⟨⟨by decide +kernel, by decide +kernel⟩, List.mem_of_getElem? (i := 75) (by decide +kernel), List.mem_of_getElem? (i := 1134) (by decide +kernel), List.mem_of_getElem? (i := 1135) (by decide +kernel)⟩
theorem lw_p27 : lw_okq (⟨"TierMill$Verifier", "goBehind", "(I)V"⟩, 9) := ⟨⟨by decide +kernel, by decide +kernel⟩, List.mem_of_getElem? (i := 75) (by decide +kernel), List.mem_of_getElem? (i := 1142) (by decide +kernel), List.mem_of_getElem? (i := 1143) (by decide +kernel)⟩
theorem lw_p28 : lw_okq (⟨"TierMill$Verifier", "findBehind", "(II)V"⟩, 9) := ⟨⟨by decide +kernel, by decide +kernel⟩, List.mem_of_getElem? (i := 75) (by decide +kernel), List.mem_of_getElem? (i := 1146) (by decide +kernel), List.mem_of_getElem? (i := 1147) (by decide +kernel)⟩
theorem lw_p29 : lw_okq (⟨"TierMill$Verifier", "takesAt", "(II)I"⟩, 9) := ⟨⟨by decide +kernel, by decide +kernel⟩, List.mem_of_getElem? (i := 75) (by decide +kernel), List.mem_of_getElem? (i := 1150) (by decide +kernel), List.mem_of_getElem? (i := 1151) (by decide +kernel)⟩
theorem lw_p30 : lw_okq (⟨"TierMill$Verifier", "putsAt", "(II)I"⟩, 9) := ⟨⟨by decide +kernel, by decide +kernel⟩, List.mem_of_getElem? (i := 75) (by decide +kernel), List.mem_of_getElem? (i := 1156) (by decide +kernel), List.mem_of_getElem? (i := 1157) (by decide +kernel)⟩
theorem lw_p31 : lw_okq (⟨"TierMill$Verifier", "returnedAt", "(II)I"⟩, 9) := ⟨⟨by decide +kernel, by decide +kernel⟩, List.mem_of_getElem? (i := 75) (by decide +kernel), List.mem_of_getElem? (i := 1160) (by decide +kernel), List.mem_of_getElem? (i := 1161) (by decide +kernel)⟩
def lw_privs_2 : List (MethodName × Nat) := [(⟨"TierMill$Decoder", "markBegins", "(LTierMill$Shape;)V"⟩, 3), (⟨"TierMill$Decoder", "sizeAt", "(II)I"⟩, 3), (⟨"TierMill$Decoder", "isFaulty", "(LTierMill$Shape;I)Z"⟩, 3), (⟨"TierMill$Decoder", "namesWhatThereIs", "(LTierMill$Shape;II)Z"⟩, 3), (⟨"TierMill$Decoder", "choosesWell", "(LTierMill$Shape;I)Z"⟩, 3), (⟨"TierMill$Decoder", "begins", "(LTierMill$Shape;I)Z"⟩, 3), (⟨"TierMill$Verifier", "flow", "()V"⟩, 9), (⟨"TierMill$Verifier", "comeTo", "(I)V"⟩, 9), (⟨"TierMill$Verifier", "becomes", "(IIJJ)V"⟩, 9), (⟨"TierMill$Verifier", "joined", "(JJ)J"⟩, 9), (⟨"TierMill$Verifier", "join", "(II)I"⟩, 9), (⟨"TierMill$Verifier", "goBehind", "(I)V"⟩, 9), (⟨"TierMill$Verifier", "findBehind", "(II)V"⟩, 9), (⟨"TierMill$Verifier", "takesAt", "(II)I"⟩, 9), (⟨"TierMill$Verifier", "putsAt", "(II)I"⟩, 9), (⟨"TierMill$Verifier", "returnedAt", "(II)I"⟩, 9)]
theorem lw_r2 : ∀ q ∈ lw_privs_2, lw_okq q := List.forall_mem_cons.mpr ⟨lw_p16, List.forall_mem_cons.mpr ⟨lw_p17, List.forall_mem_cons.mpr ⟨lw_p18, List.forall_mem_cons.mpr ⟨lw_p19, List.forall_mem_cons.mpr ⟨lw_p20, List.forall_mem_cons.mpr ⟨lw_p21, List.forall_mem_cons.mpr ⟨lw_p22, List.forall_mem_cons.mpr ⟨lw_p23, List.forall_mem_cons.mpr ⟨lw_p24, List.forall_mem_cons.mpr ⟨lw_p25, List.forall_mem_cons.mpr ⟨lw_p26, List.forall_mem_cons.mpr ⟨lw_p27, List.forall_mem_cons.mpr ⟨lw_p28, List.forall_mem_cons.mpr ⟨lw_p29, List.forall_mem_cons.mpr ⟨lw_p30, List.forall_mem_cons.mpr ⟨lw_p31, fun _ h => absurd h List.not_mem_nil⟩⟩⟩⟩⟩⟩⟩⟩⟩⟩⟩⟩⟩⟩⟩⟩
theorem lw_p32 : lw_okq (⟨"TierMill$Verifier", "dropKind", "()V"⟩, 9) := ⟨⟨by decide +kernel, by decide +kernel⟩, List.mem_of_getElem? (i := 75) (by decide +kernel), List.mem_of_getElem? (i := 1166) (by decide +kernel), List.mem_of_getElem? (i := 1167) (by decide +kernel)⟩
theorem lw_p33 : lw_okq (⟨"TierMill$Verifier", "addKind", "(I)V"⟩, 9) := ⟨⟨by decide +kernel, by decide +kernel⟩, List.mem_of_getElem? (i := 75) (by decide +kernel), List.mem_of_getElem? (i := 1172) (by decide +kernel), List.mem_of_getElem? (i := 1173) (by decide +kernel)⟩
theorem lw_p34 : lw_okq (⟨"TierMill$Verifier", "kindPut", "(II)I"⟩, 9) := ⟨⟨by decide +kernel, by decide +kernel⟩, List.mem_of_getElem? (i := 75) (by decide +kernel), List.mem_of_getElem? (i := 1176) (by decide +kernel), List.mem_of_getElem? (i := 1177) (by decide +kernel)⟩
theorem lw_p35 : lw_okq (⟨"TierMill$Verifier", "isWrong", "(I)Z"⟩, 9) := ⟨⟨by decide +kernel, by decide +kernel⟩, List.mem_of_getElem? (i := 75) (by decide +kernel), List.mem_of_getElem? (i := 1180) (by decide +kernel), List.mem_of_getElem? (i := 1181) (by decide +kernel)⟩
theorem lw_p36 : lw_okq (⟨"TierMill$Verifier", "isFitPlain", "(II)Z"⟩, 9) := ⟨⟨by decide +kernel, by decide +kernel⟩, List.mem_of_getElem? (i := 75) (by decide +kernel), List.mem_of_getElem? (i := 1184) (by decide +kernel), List.mem_of_getElem? (i := 1185) (by decide +kernel)⟩
theorem lw_p37 : lw_okq (⟨"TierMill$Verifier", "fromTop", "(I)I"⟩, 9) := ⟨⟨by decide +kernel, by decide +kernel⟩, List.mem_of_getElem? (i := 75) (by decide +kernel), List.mem_of_getElem? (i := 1188) (by decide +kernel), List.mem_of_getElem? (i := 1189) (by decide +kernel)⟩
theorem lw_p38 : lw_okq (⟨"TierMill$Verifier", "isFitObject", "(II)Z"⟩, 9) := ⟨⟨by decide +kernel, by decide +kernel⟩, List.mem_of_getElem? (i := 75) (by decide +kernel), List.mem_of_getElem? (i := 1195) (by decide +kernel), List.mem_of_getElem? (i := 1196) (by decide +kernel)⟩
theorem lw_p39 : lw_okq (⟨"TierMill$Verifier", "isFit", "(II)Z"⟩, 9) := ⟨⟨by decide +kernel, by decide +kernel⟩, List.mem_of_getElem? (i := 75) (by decide +kernel), List.mem_of_getElem? (i := 1200) (by decide +kernel), List.mem_of_getElem? (i := 1201) (by decide +kernel)⟩
theorem lw_p40 : lw_okq (⟨"TierMill$Verifier", "areParamsFit", "(LTierMill$Shape;)Z"⟩, 9) := ⟨⟨by decide +kernel, by decide +kernel⟩, List.mem_of_getElem? (i := 75) (by decide +kernel), List.mem_of_getElem? (i := 1205) (by decide +kernel), List.mem_of_getElem? (i := 1206) (by decide +kernel)⟩
theorem lw_p41 : lw_okq (⟨"TierMill$Verifier", "hasMethod", "(I)Z"⟩, 9) := ⟨⟨by decide +kernel, by decide +kernel⟩, List.mem_of_getElem? (i := 75) (by decide +kernel), List.mem_of_getElem? (i := 1209) (by decide +kernel), List.mem_of_getElem? (i := 1210) (by decide +kernel)⟩
theorem lw_p42 : lw_okq (⟨"TierMill$Machine", "step", "(I)I"⟩, 16) := ⟨⟨by decide +kernel, by decide +kernel⟩, List.mem_of_getElem? (i := 112) (by decide +kernel), List.mem_of_getElem? (i := 1264) (by decide +kernel), List.mem_of_getElem? (i := 1265) (by decide +kernel)⟩
theorem lw_p43 : lw_okq (⟨"TierMill$Machine", "calculate", "(I)I"⟩, 16) := ⟨⟨by decide +kernel, by decide +kernel⟩, List.mem_of_getElem? (i := 112) (by decide +kernel), List.mem_of_getElem? (i := 1268) (by decide +kernel), List.mem_of_getElem? (i := 1269) (by decide +kernel)⟩
theorem lw_p44 : lw_okq (⟨"TierMill$Machine", "move", "(I)I"⟩, 16) := ⟨⟨by decide +kernel, by decide +kernel⟩, List.mem_of_getElem? (i := 112) (by decide +kernel), List.mem_of_getElem? (i := 1293) (by decide +kernel), List.mem_of_getElem? (i := 1294) (by decide +kernel)⟩
theorem lw_p45 : lw_okq (⟨"TierMill$Machine", "localNamed", "()I"⟩, 16) := ⟨⟨by decide +kernel, by decide +kernel⟩, List.mem_of_getElem? (i := 112) (by decide +kernel), List.mem_of_getElem? (i := 1297) (by decide +kernel), List.mem_of_getElem? (i := 1298) (by decide +kernel)⟩
theorem lw_p46 : lw_okq (⟨"TierMill$Machine", "swap", "()V"⟩, 16) := ⟨⟨by decide +kernel, by decide +kernel⟩, List.mem_of_getElem? (i := 112) (by decide +kernel), List.mem_of_getElem? (i := 1301) (by decide +kernel), List.mem_of_getElem? (i := 1302) (by decide +kernel)⟩
theorem lw_p47 : lw_okq (⟨"TierMill$Machine", "jump", "(I)I"⟩, 16) := ⟨⟨by decide +kernel, by decide +kernel⟩, List.mem_of_getElem? (i := 112) (by decide +kernel), List.mem_of_getElem? (i := 1305) (by decide +kernel), List.mem_of_getElem? (i := 1306) (by decide +kernel)⟩
def lw_privs_3 : List (MethodName × Nat) := [(⟨"TierMill$Verifier", "dropKind", "()V"⟩, 9), (⟨"TierMill$Verifier", "addKind", "(I)V"⟩, 9), (⟨"TierMill$Verifier", "kindPut", "(II)I"⟩, 9), (⟨"TierMill$Verifier", "isWrong", "(I)Z"⟩, 9), (⟨"TierMill$Verifier", "isFitPlain", "(II)Z"⟩, 9), (⟨"TierMill$Verifier", "fromTop", "(I)I"⟩, 9), (⟨"TierMill$Verifier", "isFitObject", "(II)Z"⟩, 9), (⟨"TierMill$Verifier", "isFit", "(II)Z"⟩, 9), (⟨"TierMill$Verifier", "areParamsFit", "(LTierMill$Shape;)Z"⟩, 9), (⟨"TierMill$Verifier", "hasMethod", "(I)Z"⟩, 9), (⟨"TierMill$Machine", "step", "(I)I"⟩, 16), (⟨"TierMill$Machine", "calculate", "(I)I"⟩, 16), (⟨"TierMill$Machine", "move", "(I)I"⟩, 16), (⟨"TierMill$Machine", "localNamed", "()I"⟩, 16), (⟨"TierMill$Machine", "swap", "()V"⟩, 16), (⟨"TierMill$Machine", "jump", "(I)I"⟩, 16)]
theorem lw_r3 : ∀ q ∈ lw_privs_3, lw_okq q := List.forall_mem_cons.mpr ⟨lw_p32, List.forall_mem_cons.mpr ⟨lw_p33, List.forall_mem_cons.mpr ⟨lw_p34, List.forall_mem_cons.mpr ⟨lw_p35, List.forall_mem_cons.mpr ⟨lw_p36, List.forall_mem_cons.mpr ⟨lw_p37, List.forall_mem_cons.mpr ⟨lw_p38, List.forall_mem_cons.mpr ⟨lw_p39, List.forall_mem_cons.mpr ⟨lw_p40, List.forall_mem_cons.mpr ⟨lw_p41, List.forall_mem_cons.mpr ⟨lw_p42, List.forall_mem_cons.mpr ⟨lw_p43, List.forall_mem_cons.mpr ⟨lw_p44, List.forall_mem_cons.mpr ⟨lw_p45, List.forall_mem_cons.mpr ⟨lw_p46, List.forall_mem_cons.mpr ⟨lw_p47, fun _ h => absurd h List.not_mem_nil⟩⟩⟩⟩⟩⟩⟩⟩⟩⟩⟩⟩⟩⟩⟩⟩
theorem lw_p48 : lw_okq (⟨"TierMill$Machine", "chosen", "()I"⟩, 16) := ⟨⟨by decide +kernel, by decide +kernel⟩, List.mem_of_getElem? (i := 112) (by decide +kernel), List.mem_of_getElem? (i := 1309) (by decide +kernel), List.mem_of_getElem? (i := 1310) (by decide +kernel)⟩
theorem lw_p49 : lw_okq (⟨"TierMill$Machine", "isTaken", "(I)Z"⟩, 16) := ⟨⟨by decide +kernel, by decide +kernel⟩, List.mem_of_getElem? (i := 112) (by decide +kernel), List.mem_of_getElem? (i := 1313) (by decide +kernel), List.mem_of_getElem? (i := 1314) (by decide +kernel)⟩
theorem lw_p50 : lw_okq (⟨"TierMill$Machine", "make", "(I)I"⟩, 16) := ⟨⟨by decide +kernel, by decide +kernel⟩, List.mem_of_getElem? (i := 112) (by decide +kernel), List.mem_of_getElem? (i := 1320) (by decide +kernel), List.mem_of_getElem? (i := 1321) (by decide +kernel)⟩
theorem lw_p51 : lw_okq (⟨"TierMill$Heap", "bringSlots", "(LTierMill$Program;[IJII)V"⟩, 5) := ⟨⟨by decide +kernel, by decide +kernel⟩, List.mem_of_getElem? (i := 166) (by decide +kernel), List.mem_of_getElem? (i := 1338) (by decide +kernel), List.mem_of_getElem? (i := 1339) (by decide +kernel)⟩
theorem lw_p52 : lw_okq (⟨"TierMill$Heap", "broughtOver", "(LTierMill$Program;I)I"⟩, 5) := ⟨⟨by decide +kernel, by decide +kernel⟩, List.mem_of_getElem? (i := 166) (by decide +kernel), List.mem_of_getElem? (i := 1345) (by decide +kernel), List.mem_of_getElem? (i := 1346) (by decide +kernel)⟩
theorem lw_p53 : lw_okq (⟨"TierMill$Heap", "bringFields", "(LTierMill$Program;II)V"⟩, 5) := ⟨⟨by decide +kernel, by decide +kernel⟩, List.mem_of_getElem? (i := 166) (by decide +kernel), List.mem_of_getElem? (i := 1354) (by decide +kernel), List.mem_of_getElem? (i := 1355) (by decide +kernel)⟩
theorem lw_p54 : lw_okq (⟨"TierMill$Machine", "useField", "(I)I"⟩, 16) := ⟨⟨by decide +kernel, by decide +kernel⟩, List.mem_of_getElem? (i := 112) (by decide +kernel), List.mem_of_getElem? (i := 1363) (by decide +kernel), List.mem_of_getElem? (i := 1364) (by decide +kernel)⟩
theorem lw_p55 : lw_okq (⟨"TierMill$Machine", "useArray", "(I)I"⟩, 16) := ⟨⟨by decide +kernel, by decide +kernel⟩, List.mem_of_getElem? (i := 112) (by decide +kernel), List.mem_of_getElem? (i := 1375) (by decide +kernel), List.mem_of_getElem? (i := 1376) (by decide +kernel)⟩
theorem lw_p56 : lw_okq (⟨"TierMill$Machine", "testClass", "(I)I"⟩, 16) := ⟨⟨by decide +kernel, by decide +kernel⟩, List.mem_of_getElem? (i := 112) (by decide +kernel), List.mem_of_getElem? (i := 1384) (by decide +kernel), List.mem_of_getElem? (i := 1385) (by decide +kernel)⟩
theorem lw_p57 : lw_okq (⟨"TierMill$Machine", "call", "(I)I"⟩, 16) := ⟨⟨by decide +kernel, by decide +kernel⟩, List.mem_of_getElem? (i := 112) (by decide +kernel), List.mem_of_getElem? (i := 1389) (by decide +kernel), List.mem_of_getElem? (i := 1390) (by decide +kernel)⟩
theorem lw_p58 : lw_okq (⟨"TierMill$Machine", "rowOfCall", "(III)I"⟩, 16) := ⟨⟨by decide +kernel, by decide +kernel⟩, List.mem_of_getElem? (i := 112) (by decide +kernel), List.mem_of_getElem? (i := 1393) (by decide +kernel), List.mem_of_getElem? (i := 1394) (by decide +kernel)⟩
theorem lw_p59 : lw_okq (⟨"TierMill$Machine", "failGuard", "(I)V"⟩, 16) := ⟨⟨by decide +kernel, by decide +kernel⟩, List.mem_of_getElem? (i := 112) (by decide +kernel), List.mem_of_getElem? (i := 1407) (by decide +kernel), List.mem_of_getElem? (i := 1408) (by decide +kernel)⟩
theorem lw_p60 : lw_okq (⟨"TierMill$Machine", "giveBack", "(I)I"⟩, 16) := ⟨⟨by decide +kernel, by decide +kernel⟩, List.mem_of_getElem? (i := 112) (by decide +kernel), List.mem_of_getElem? (i := 1423) (by decide +kernel), List.mem_of_getElem? (i := 1424) (by decide +kernel)⟩
theorem lw_p61 : lw_okq (⟨"TierMill$Machine", "passInt", "(I)I"⟩, 16) := ⟨⟨by decide +kernel, by decide +kernel⟩, List.mem_of_getElem? (i := 112) (by decide +kernel), List.mem_of_getElem? (i := 1427) (by decide +kernel), List.mem_of_getElem? (i := 1428) (by decide +kernel)⟩
theorem lw_p62 : lw_okq (⟨"TierMill$Machine", "nextInput", "()I"⟩, 16) := ⟨⟨by decide +kernel, by decide +kernel⟩, List.mem_of_getElem? (i := 112) (by decide +kernel), List.mem_of_getElem? (i := 1431) (by decide +kernel), List.mem_of_getElem? (i := 1432) (by decide +kernel)⟩
theorem lw_p63 : lw_okq (⟨"TierMill", "seenSlot", "(II)I"⟩, 11) := ⟨⟨by decide +kernel, by decide +kernel⟩, List.mem_of_getElem? (i := 33) (by decide +kernel), List.mem_of_getElem? (i := 1466) (by decide +kernel), List.mem_of_getElem? (i := 1467) (by decide +kernel)⟩
def lw_privs_4 : List (MethodName × Nat) := [(⟨"TierMill$Machine", "chosen", "()I"⟩, 16), (⟨"TierMill$Machine", "isTaken", "(I)Z"⟩, 16), (⟨"TierMill$Machine", "make", "(I)I"⟩, 16), (⟨"TierMill$Heap", "bringSlots", "(LTierMill$Program;[IJII)V"⟩, 5), (⟨"TierMill$Heap", "broughtOver", "(LTierMill$Program;I)I"⟩, 5), (⟨"TierMill$Heap", "bringFields", "(LTierMill$Program;II)V"⟩, 5), (⟨"TierMill$Machine", "useField", "(I)I"⟩, 16), (⟨"TierMill$Machine", "useArray", "(I)I"⟩, 16), (⟨"TierMill$Machine", "testClass", "(I)I"⟩, 16), (⟨"TierMill$Machine", "call", "(I)I"⟩, 16), (⟨"TierMill$Machine", "rowOfCall", "(III)I"⟩, 16), (⟨"TierMill$Machine", "failGuard", "(I)V"⟩, 16), (⟨"TierMill$Machine", "giveBack", "(I)I"⟩, 16), (⟨"TierMill$Machine", "passInt", "(I)I"⟩, 16), (⟨"TierMill$Machine", "nextInput", "()I"⟩, 16), (⟨"TierMill", "seenSlot", "(II)I"⟩, 11)]
theorem lw_r4 : ∀ q ∈ lw_privs_4, lw_okq q := List.forall_mem_cons.mpr ⟨lw_p48, List.forall_mem_cons.mpr ⟨lw_p49, List.forall_mem_cons.mpr ⟨lw_p50, List.forall_mem_cons.mpr ⟨lw_p51, List.forall_mem_cons.mpr ⟨lw_p52, List.forall_mem_cons.mpr ⟨lw_p53, List.forall_mem_cons.mpr ⟨lw_p54, List.forall_mem_cons.mpr ⟨lw_p55, List.forall_mem_cons.mpr ⟨lw_p56, List.forall_mem_cons.mpr ⟨lw_p57, List.forall_mem_cons.mpr ⟨lw_p58, List.forall_mem_cons.mpr ⟨lw_p59, List.forall_mem_cons.mpr ⟨lw_p60, List.forall_mem_cons.mpr ⟨lw_p61, List.forall_mem_cons.mpr ⟨lw_p62, List.forall_mem_cons.mpr ⟨lw_p63, fun _ h => absurd h List.not_mem_nil⟩⟩⟩⟩⟩⟩⟩⟩⟩⟩⟩⟩⟩⟩⟩⟩
theorem lw_p64 : lw_okq (⟨"TierMillModel", "isFine", "()Z"⟩, 92) := ⟨⟨by decide +kernel, by decide +kernel⟩, List.mem_of_getElem? (i := 1498) (by decide +kernel), List.mem_of_getElem? (i := 1796) (by decide +kernel), List.mem_of_getElem? (i := 1797) (by decide +kernel)⟩
theorem lw_p65 : lw_okq (⟨"TierMillModel", "takeApart", "()Z"⟩, 92) := ⟨⟨by decide +kernel, by decide +kernel⟩, List.mem_of_getElem? (i := 1498) (by decide +kernel), List.mem_of_getElem? (i := 1800) (by decide +kernel), List.mem_of_getElem? (i := 1801) (by decide +kernel)⟩
theorem lw_p66 : lw_okq (⟨"TierMillModel", "next", "(II)I"⟩, 92) := ⟨⟨by decide +kernel, by decide +kernel⟩, List.mem_of_getElem? (i := 1498) (by decide +kernel), List.mem_of_getElem? (i := 1804) (by decide +kernel), List.mem_of_getElem? (i := 1805) (by decide +kernel)⟩
theorem lw_p67 : lw_okq (⟨"TierMillModel", "readClass", "(I)V"⟩, 92) := ⟨⟨by decide +kernel, by decide +kernel⟩, List.mem_of_getElem? (i := 1498) (by decide +kernel), List.mem_of_getElem? (i := 1811) (by decide +kernel), List.mem_of_getElem? (i := 1812) (by decide +kernel)⟩
theorem lw_p68 : lw_okq (⟨"TierMillModel", "type", "(Z)I"⟩, 92) := ⟨⟨by decide +kernel, by decide +kernel⟩, List.mem_of_getElem? (i := 1498) (by decide +kernel), List.mem_of_getElem? (i := 1815) (by decide +kernel), List.mem_of_getElem? (i := 1816) (by decide +kernel)⟩
theorem lw_p69 : lw_okq (⟨"TierMillModel", "readSelector", "(I)V"⟩, 92) := ⟨⟨by decide +kernel, by decide +kernel⟩, List.mem_of_getElem? (i := 1498) (by decide +kernel), List.mem_of_getElem? (i := 1819) (by decide +kernel), List.mem_of_getElem? (i := 1820) (by decide +kernel)⟩
theorem lw_p70 : lw_okq (⟨"TierMillModel", "readMethod", "(I)V"⟩, 92) := ⟨⟨by decide +kernel, by decide +kernel⟩, List.mem_of_getElem? (i := 1498) (by decide +kernel), List.mem_of_getElem? (i := 1823) (by decide +kernel), List.mem_of_getElem? (i := 1824) (by decide +kernel)⟩
theorem lw_p71 : lw_okq (⟨"TierMillModel", "readTable", "(II)V"⟩, 92) := ⟨⟨by decide +kernel, by decide +kernel⟩, List.mem_of_getElem? (i := 1498) (by decide +kernel), List.mem_of_getElem? (i := 1827) (by decide +kernel), List.mem_of_getElem? (i := 1828) (by decide +kernel)⟩
theorem lw_p72 : lw_okq (⟨"TierMillModel", "mayStand", "(III)Z"⟩, 92) := ⟨⟨by decide +kernel, by decide +kernel⟩, List.mem_of_getElem? (i := 1498) (by decide +kernel), List.mem_of_getElem? (i := 1831) (by decide +kernel), List.mem_of_getElem? (i := 1832) (by decide +kernel)⟩
theorem lw_p73 : lw_okq (⟨"TierMillModel", "isOf", "(II)Z"⟩, 92) := ⟨⟨by decide +kernel, by decide +kernel⟩, List.mem_of_getElem? (i := 1498) (by decide +kernel), List.mem_of_getElem? (i := 1835) (by decide +kernel), List.mem_of_getElem? (i := 1836) (by decide +kernel)⟩
theorem lw_p74 : lw_okq (⟨"TierMillModel", "isBelow", "(II)Z"⟩, 92) := ⟨⟨by decide +kernel, by decide +kernel⟩, List.mem_of_getElem? (i := 1498) (by decide +kernel), List.mem_of_getElem? (i := 1839) (by decide +kernel), List.mem_of_getElem? (i := 1840) (by decide +kernel)⟩
theorem lw_p75 : lw_okq (⟨"TierMillModel", "findFault", "(III)Z"⟩, 92) := ⟨⟨by decide +kernel, by decide +kernel⟩, List.mem_of_getElem? (i := 1498) (by decide +kernel), List.mem_of_getElem? (i := 1843) (by decide +kernel), List.mem_of_getElem? (i := 1844) (by decide +kernel)⟩
theorem lw_p76 : lw_okq (⟨"TierMillModel", "findBegins", "(I)V"⟩, 92) := ⟨⟨by decide +kernel, by decide +kernel⟩, List.mem_of_getElem? (i := 1498) (by decide +kernel), List.mem_of_getElem? (i := 1847) (by decide +kernel), List.mem_of_getElem? (i := 1848) (by decide +kernel)⟩
theorem lw_p77 : lw_okq (⟨"TierMillModel", "longOf", "(II)I"⟩, 92) := ⟨⟨by decide +kernel, by decide +kernel⟩, List.mem_of_getElem? (i := 1498) (by decide +kernel), List.mem_of_getElem? (i := 1851) (by decide +kernel), List.mem_of_getElem? (i := 1852) (by decide +kernel)⟩
theorem lw_p78 : lw_okq (⟨"TierMillModel", "byteAt", "(II)I"⟩, 92) := ⟨⟨by decide +kernel, by decide +kernel⟩, List.mem_of_getElem? (i := 1498) (by decide +kernel), List.mem_of_getElem? (i := 1855) (by decide +kernel), List.mem_of_getElem? (i := 1856) (by decide +kernel)⟩
theorem lw_p79 : lw_okq (⟨"TierMillModel", "isGood", "(II)Z"⟩, 92) := ⟨⟨by decide +kernel, by decide +kernel⟩, List.mem_of_getElem? (i := 1498) (by decide +kernel), List.mem_of_getElem? (i := 1862) (by decide +kernel), List.mem_of_getElem? (i := 1863) (by decide +kernel)⟩
def lw_privs_5 : List (MethodName × Nat) := [(⟨"TierMillModel", "isFine", "()Z"⟩, 92), (⟨"TierMillModel", "takeApart", "()Z"⟩, 92), (⟨"TierMillModel", "next", "(II)I"⟩, 92), (⟨"TierMillModel", "readClass", "(I)V"⟩, 92), (⟨"TierMillModel", "type", "(Z)I"⟩, 92), (⟨"TierMillModel", "readSelector", "(I)V"⟩, 92), (⟨"TierMillModel", "readMethod", "(I)V"⟩, 92), (⟨"TierMillModel", "readTable", "(II)V"⟩, 92), (⟨"TierMillModel", "mayStand", "(III)Z"⟩, 92), (⟨"TierMillModel", "isOf", "(II)Z"⟩, 92), (⟨"TierMillModel", "isBelow", "(II)Z"⟩, 92), (⟨"TierMillModel", "findFault", "(III)Z"⟩, 92), (⟨"TierMillModel", "findBegins", "(I)V"⟩, 92), (⟨"TierMillModel", "longOf", "(II)I"⟩, 92), (⟨"TierMillModel", "byteAt", "(II)I"⟩, 92), (⟨"TierMillModel", "isGood", "(II)Z"⟩, 92)]
theorem lw_r5 : ∀ q ∈ lw_privs_5, lw_okq q := List.forall_mem_cons.mpr ⟨lw_p64, List.forall_mem_cons.mpr ⟨lw_p65, List.forall_mem_cons.mpr ⟨lw_p66, List.forall_mem_cons.mpr ⟨lw_p67, List.forall_mem_cons.mpr ⟨lw_p68, List.forall_mem_cons.mpr ⟨lw_p69, List.forall_mem_cons.mpr ⟨lw_p70, List.forall_mem_cons.mpr ⟨lw_p71, List.forall_mem_cons.mpr ⟨lw_p72, List.forall_mem_cons.mpr ⟨lw_p73, List.forall_mem_cons.mpr ⟨lw_p74, List.forall_mem_cons.mpr ⟨lw_p75, List.forall_mem_cons.mpr ⟨lw_p76, List.forall_mem_cons.mpr ⟨lw_p77, List.forall_mem_cons.mpr ⟨lw_p78, List.forall_mem_cons.mpr ⟨lw_p79, fun _ h => absurd h List.not_mem_nil⟩⟩⟩⟩⟩⟩⟩⟩⟩⟩⟩⟩⟩⟩⟩⟩
theorem lw_p80 : lw_okq (⟨"TierMillModel", "isPlace", "(II)Z"⟩, 92) := ⟨⟨by decide +kernel, by decide +kernel⟩, List.mem_of_getElem? (i := 1498) (by decide +kernel), List.mem_of_getElem? (i := 1866) (by decide +kernel), List.mem_of_getElem? (i := 1867) (by decide +kernel)⟩
theorem lw_p81 : lw_okq (⟨"TierMillModel", "flow", "(I)V"⟩, 92) := ⟨⟨by decide +kernel, by decide +kernel⟩, List.mem_of_getElem? (i := 1498) (by decide +kernel), List.mem_of_getElem? (i := 1870) (by decide +kernel), List.mem_of_getElem? (i := 1871) (by decide +kernel)⟩
theorem lw_p82 : lw_okq (⟨"TierMillModel", "merge", "(IIZ)Z"⟩, 92) := ⟨⟨by decide +kernel, by decide +kernel⟩, List.mem_of_getElem? (i := 1498) (by decide +kernel), List.mem_of_getElem? (i := 1874) (by decide +kernel), List.mem_of_getElem? (i := 1875) (by decide +kernel)⟩
theorem lw_p83 : lw_okq (⟨"TierMillModel", "joined", "(II)I"⟩, 92) := ⟨⟨by decide +kernel, by decide +kernel⟩, List.mem_of_getElem? (i := 1498) (by decide +kernel), List.mem_of_getElem? (i := 1878) (by decide +kernel), List.mem_of_getElem? (i := 1879) (by decide +kernel)⟩
theorem lw_p84 : lw_okq (⟨"TierMillModel", "goOn", "(II)Z"⟩, 92) := ⟨⟨by decide +kernel, by decide +kernel⟩, List.mem_of_getElem? (i := 1498) (by decide +kernel), List.mem_of_getElem? (i := 1882) (by decide +kernel), List.mem_of_getElem? (i := 1883) (by decide +kernel)⟩
theorem lw_p85 : lw_okq (⟨"TierMillModel", "behind", "(II)V"⟩, 92) := ⟨⟨by decide +kernel, by decide +kernel⟩, List.mem_of_getElem? (i := 1498) (by decide +kernel), List.mem_of_getElem? (i := 1886) (by decide +kernel), List.mem_of_getElem? (i := 1887) (by decide +kernel)⟩
theorem lw_p86 : lw_okq (⟨"TierMillModel", "takes", "(II)I"⟩, 92) := ⟨⟨by decide +kernel, by decide +kernel⟩, List.mem_of_getElem? (i := 1498) (by decide +kernel), List.mem_of_getElem? (i := 1890) (by decide +kernel), List.mem_of_getElem? (i := 1891) (by decide +kernel)⟩
theorem lw_p87 : lw_okq (⟨"TierMillModel", "drop", "(I)V"⟩, 92) := ⟨⟨by decide +kernel, by decide +kernel⟩, List.mem_of_getElem? (i := 1498) (by decide +kernel), List.mem_of_getElem? (i := 1894) (by decide +kernel), List.mem_of_getElem? (i := 1895) (by decide +kernel)⟩
theorem lw_p88 : lw_okq (⟨"TierMillModel", "popKind", "()I"⟩, 92) := ⟨⟨by decide +kernel, by decide +kernel⟩, List.mem_of_getElem? (i := 1498) (by decide +kernel), List.mem_of_getElem? (i := 1898) (by decide +kernel), List.mem_of_getElem? (i := 1899) (by decide +kernel)⟩
theorem lw_p89 : lw_okq (⟨"TierMillModel", "pushKind", "(I)V"⟩, 92) := ⟨⟨by decide +kernel, by decide +kernel⟩, List.mem_of_getElem? (i := 1498) (by decide +kernel), List.mem_of_getElem? (i := 1902) (by decide +kernel), List.mem_of_getElem? (i := 1903) (by decide +kernel)⟩
theorem lw_p90 : lw_okq (⟨"TierMillModel", "isWrong", "(II)Z"⟩, 92) := ⟨⟨by decide +kernel, by decide +kernel⟩, List.mem_of_getElem? (i := 1498) (by decide +kernel), List.mem_of_getElem? (i := 1906) (by decide +kernel), List.mem_of_getElem? (i := 1907) (by decide +kernel)⟩
theorem lw_p91 : lw_okq (⟨"TierMillModel", "fits", "(II)Z"⟩, 92) := ⟨⟨by decide +kernel, by decide +kernel⟩, List.mem_of_getElem? (i := 1498) (by decide +kernel), List.mem_of_getElem? (i := 1913) (by decide +kernel), List.mem_of_getElem? (i := 1914) (by decide +kernel)⟩
theorem lw_p92 : lw_okq (⟨"TierMillModel", "resolve", "(II)I"⟩, 92) := ⟨⟨by decide +kernel, by decide +kernel⟩, List.mem_of_getElem? (i := 1498) (by decide +kernel), List.mem_of_getElem? (i := 1917) (by decide +kernel), List.mem_of_getElem? (i := 1918) (by decide +kernel)⟩
theorem lw_p93 : lw_okq (⟨"TierMillModel", "again", "()V"⟩, 92) := ⟨⟨by decide +kernel, by decide +kernel⟩, List.mem_of_getElem? (i := 1498) (by decide +kernel), List.mem_of_getElem? (i := 1921) (by decide +kernel), List.mem_of_getElem? (i := 1922) (by decide +kernel)⟩
theorem lw_p94 : lw_okq (⟨"TierMillModel", "raise", "(I)I"⟩, 92) := ⟨⟨by decide +kernel, by decide +kernel⟩, List.mem_of_getElem? (i := 1498) (by decide +kernel), List.mem_of_getElem? (i := 1925) (by decide +kernel), List.mem_of_getElem? (i := 1926) (by decide +kernel)⟩
theorem lw_p95 : lw_okq (⟨"TierMillModel", "invoke", "(I)V"⟩, 92) := ⟨⟨by decide +kernel, by decide +kernel⟩, List.mem_of_getElem? (i := 1498) (by decide +kernel), List.mem_of_getElem? (i := 1953) (by decide +kernel), List.mem_of_getElem? (i := 1954) (by decide +kernel)⟩
def lw_privs_6 : List (MethodName × Nat) := [(⟨"TierMillModel", "isPlace", "(II)Z"⟩, 92), (⟨"TierMillModel", "flow", "(I)V"⟩, 92), (⟨"TierMillModel", "merge", "(IIZ)Z"⟩, 92), (⟨"TierMillModel", "joined", "(II)I"⟩, 92), (⟨"TierMillModel", "goOn", "(II)Z"⟩, 92), (⟨"TierMillModel", "behind", "(II)V"⟩, 92), (⟨"TierMillModel", "takes", "(II)I"⟩, 92), (⟨"TierMillModel", "drop", "(I)V"⟩, 92), (⟨"TierMillModel", "popKind", "()I"⟩, 92), (⟨"TierMillModel", "pushKind", "(I)V"⟩, 92), (⟨"TierMillModel", "isWrong", "(II)Z"⟩, 92), (⟨"TierMillModel", "fits", "(II)Z"⟩, 92), (⟨"TierMillModel", "resolve", "(II)I"⟩, 92), (⟨"TierMillModel", "again", "()V"⟩, 92), (⟨"TierMillModel", "raise", "(I)I"⟩, 92), (⟨"TierMillModel", "invoke", "(I)V"⟩, 92)]
theorem lw_r6 : ∀ q ∈ lw_privs_6, lw_okq q := List.forall_mem_cons.mpr ⟨lw_p80, List.forall_mem_cons.mpr ⟨lw_p81, List.forall_mem_cons.mpr ⟨lw_p82, List.forall_mem_cons.mpr ⟨lw_p83, List.forall_mem_cons.mpr ⟨lw_p84, List.forall_mem_cons.mpr ⟨lw_p85, List.forall_mem_cons.mpr ⟨lw_p86, List.forall_mem_cons.mpr ⟨lw_p87, List.forall_mem_cons.mpr ⟨lw_p88, List.forall_mem_cons.mpr ⟨lw_p89, List.forall_mem_cons.mpr ⟨lw_p90, List.forall_mem_cons.mpr ⟨lw_p91, List.forall_mem_cons.mpr ⟨lw_p92, List.forall_mem_cons.mpr ⟨lw_p93, List.forall_mem_cons.mpr ⟨lw_p94, List.forall_mem_cons.mpr ⟨lw_p95, fun _ h => absurd h List.not_mem_nil⟩⟩⟩⟩⟩⟩⟩⟩⟩⟩⟩⟩⟩⟩⟩⟩
theorem lw_p96 : lw_okq (⟨"TierMillModel", "lay", "(I)V"⟩, 92) := ⟨⟨by decide +kernel, by decide +kernel⟩, List.mem_of_getElem? (i := 1498) (by decide +kernel), List.mem_of_getElem? (i := 1957) (by decide +kernel), List.mem_of_getElem? (i := 1958) (by decide +kernel)⟩
theorem lw_p97 : lw_okq (⟨"TierMillModel", "isLaid", "(III)Z"⟩, 92) := ⟨⟨by decide +kernel, by decide +kernel⟩, List.mem_of_getElem? (i := 1498) (by decide +kernel), List.mem_of_getElem? (i := 1961) (by decide +kernel), List.mem_of_getElem? (i := 1962) (by decide +kernel)⟩
theorem lw_p98 : lw_okq (⟨"TierMillModel", "profileOf", "(III)I"⟩, 92) := ⟨⟨by decide +kernel, by decide +kernel⟩, List.mem_of_getElem? (i := 1498) (by decide +kernel), List.mem_of_getElem? (i := 1965) (by decide +kernel), List.mem_of_getElem? (i := 1966) (by decide +kernel)⟩
theorem lw_p99 : lw_okq (⟨"TierMillModel", "note", "(IIII)V"⟩, 92) := ⟨⟨by decide +kernel, by decide +kernel⟩, List.mem_of_getElem? (i := 1498) (by decide +kernel), List.mem_of_getElem? (i := 1969) (by decide +kernel), List.mem_of_getElem? (i := 1970) (by decide +kernel)⟩
theorem lw_p100 : lw_okq (⟨"TierMillModel", "newFrame", "(IIII)V"⟩, 92) := ⟨⟨by decide +kernel, by decide +kernel⟩, List.mem_of_getElem? (i := 1498) (by decide +kernel), List.mem_of_getElem? (i := 1973) (by decide +kernel), List.mem_of_getElem? (i := 1974) (by decide +kernel)⟩
theorem lw_p101 : lw_okq (⟨"TierMillModel", "step", "()Z"⟩, 92) := ⟨⟨by decide +kernel, by decide +kernel⟩, List.mem_of_getElem? (i := 1498) (by decide +kernel), List.mem_of_getElem? (i := 1982) (by decide +kernel), List.mem_of_getElem? (i := 1983) (by decide +kernel)⟩
theorem lw_p102 : lw_okq (⟨"TierMillModel", "trapOf", "(III)I"⟩, 92) := ⟨⟨by decide +kernel, by decide +kernel⟩, List.mem_of_getElem? (i := 1498) (by decide +kernel), List.mem_of_getElem? (i := 1986) (by decide +kernel), List.mem_of_getElem? (i := 1987) (by decide +kernel)⟩
theorem lw_p103 : lw_okq (⟨"TierMillModel", "peek", "(I)I"⟩, 92) := ⟨⟨by decide +kernel, by decide +kernel⟩, List.mem_of_getElem? (i := 1498) (by decide +kernel), List.mem_of_getElem? (i := 1990) (by decide +kernel), List.mem_of_getElem? (i := 1991) (by decide +kernel)⟩
theorem lw_p104 : lw_okq (⟨"TierMillModel", "objectOf", "(I)I"⟩, 92) := ⟨⟨by decide +kernel, by decide +kernel⟩, List.mem_of_getElem? (i := 1498) (by decide +kernel), List.mem_of_getElem? (i := 1994) (by decide +kernel), List.mem_of_getElem? (i := 1995) (by decide +kernel)⟩
theorem lw_p105 : lw_okq (⟨"TierMillModel", "make", "(II)I"⟩, 92) := ⟨⟨by decide +kernel, by decide +kernel⟩, List.mem_of_getElem? (i := 1498) (by decide +kernel), List.mem_of_getElem? (i := 1998) (by decide +kernel), List.mem_of_getElem? (i := 1999) (by decide +kernel)⟩
theorem lw_p106 : lw_okq (⟨"TierMillModel", "collect", "()V"⟩, 92) := ⟨⟨by decide +kernel, by decide +kernel⟩, List.mem_of_getElem? (i := 1498) (by decide +kernel), List.mem_of_getElem? (i := 2003) (by decide +kernel), List.mem_of_getElem? (i := 2004) (by decide +kernel)⟩
theorem lw_p107 : lw_okq (⟨"TierMillModel", "rowOf", "(I)I"⟩, 92) := ⟨⟨by decide +kernel, by decide +kernel⟩, List.mem_of_getElem? (i := 1498) (by decide +kernel), List.mem_of_getElem? (i := 2007) (by decide +kernel), List.mem_of_getElem? (i := 2008) (by decide +kernel)⟩
theorem lw_p108 : lw_okq (⟨"TierMillModel", "reach", "(I)V"⟩, 92) := ⟨⟨by decide +kernel, by decide +kernel⟩, List.mem_of_getElem? (i := 1498) (by decide +kernel), List.mem_of_getElem? (i := 2014) (by decide +kernel), List.mem_of_getElem? (i := 2015) (by decide +kernel)⟩
theorem lw_p109 : lw_okq (⟨"TierMillModel", "reachFields", "(I)V"⟩, 92) := ⟨⟨by decide +kernel, by decide +kernel⟩, List.mem_of_getElem? (i := 1498) (by decide +kernel), List.mem_of_getElem? (i := 2018) (by decide +kernel), List.mem_of_getElem? (i := 2019) (by decide +kernel)⟩
theorem lw_p110 : lw_okq (⟨"TierMillModel", "stop", "(I)V"⟩, 92) := ⟨⟨by decide +kernel, by decide +kernel⟩, List.mem_of_getElem? (i := 1498) (by decide +kernel), List.mem_of_getElem? (i := 2022) (by decide +kernel), List.mem_of_getElem? (i := 2023) (by decide +kernel)⟩
theorem lw_p111 : lw_okq (⟨"TierMillModel", "holds", "(I)Z"⟩, 92) := ⟨⟨by decide +kernel, by decide +kernel⟩, List.mem_of_getElem? (i := 1498) (by decide +kernel), List.mem_of_getElem? (i := 2026) (by decide +kernel), List.mem_of_getElem? (i := 2027) (by decide +kernel)⟩
def lw_privs_7 : List (MethodName × Nat) := [(⟨"TierMillModel", "lay", "(I)V"⟩, 92), (⟨"TierMillModel", "isLaid", "(III)Z"⟩, 92), (⟨"TierMillModel", "profileOf", "(III)I"⟩, 92), (⟨"TierMillModel", "note", "(IIII)V"⟩, 92), (⟨"TierMillModel", "newFrame", "(IIII)V"⟩, 92), (⟨"TierMillModel", "step", "()Z"⟩, 92), (⟨"TierMillModel", "trapOf", "(III)I"⟩, 92), (⟨"TierMillModel", "peek", "(I)I"⟩, 92), (⟨"TierMillModel", "objectOf", "(I)I"⟩, 92), (⟨"TierMillModel", "make", "(II)I"⟩, 92), (⟨"TierMillModel", "collect", "()V"⟩, 92), (⟨"TierMillModel", "rowOf", "(I)I"⟩, 92), (⟨"TierMillModel", "reach", "(I)V"⟩, 92), (⟨"TierMillModel", "reachFields", "(I)V"⟩, 92), (⟨"TierMillModel", "stop", "(I)V"⟩, 92), (⟨"TierMillModel", "holds", "(I)Z"⟩, 92)]
theorem lw_r7 : ∀ q ∈ lw_privs_7, lw_okq q := List.forall_mem_cons.mpr ⟨lw_p96, List.forall_mem_cons.mpr ⟨lw_p97, List.forall_mem_cons.mpr ⟨lw_p98, List.forall_mem_cons.mpr ⟨lw_p99, List.forall_mem_cons.mpr ⟨lw_p100, List.forall_mem_cons.mpr ⟨lw_p101, List.forall_mem_cons.mpr ⟨lw_p102, List.forall_mem_cons.mpr ⟨lw_p103, List.forall_mem_cons.mpr ⟨lw_p104, List.forall_mem_cons.mpr ⟨lw_p105, List.forall_mem_cons.mpr ⟨lw_p106, List.forall_mem_cons.mpr ⟨lw_p107, List.forall_mem_cons.mpr ⟨lw_p108, List.forall_mem_cons.mpr ⟨lw_p109, List.forall_mem_cons.mpr ⟨lw_p110, List.forall_mem_cons.mpr ⟨lw_p111, fun _ h => absurd h List.not_mem_nil⟩⟩⟩⟩⟩⟩⟩⟩⟩⟩⟩⟩⟩⟩⟩⟩
theorem lw_p112 : lw_okq (⟨"TierMillModel", "pop", "()I"⟩, 92) := ⟨⟨by decide +kernel, by decide +kernel⟩, List.mem_of_getElem? (i := 1498) (by decide +kernel), List.mem_of_getElem? (i := 2030) (by decide +kernel), List.mem_of_getElem? (i := 2031) (by decide +kernel)⟩
theorem lw_p113 : lw_okq (⟨"TierMillModel", "jump", "(I)V"⟩, 92) := ⟨⟨by decide +kernel, by decide +kernel⟩, List.mem_of_getElem? (i := 1498) (by decide +kernel), List.mem_of_getElem? (i := 2037) (by decide +kernel), List.mem_of_getElem? (i := 2038) (by decide +kernel)⟩
theorem lw_p114 : lw_okq (⟨"TierMillModel", "call", "(II)V"⟩, 92) := ⟨⟨by decide +kernel, by decide +kernel⟩, List.mem_of_getElem? (i := 1498) (by decide +kernel), List.mem_of_getElem? (i := 2041) (by decide +kernel), List.mem_of_getElem? (i := 2042) (by decide +kernel)⟩
theorem lw_p115 : lw_okq (⟨"TierMillModel", "siteAt", "(I)I"⟩, 92) := ⟨⟨by decide +kernel, by decide +kernel⟩, List.mem_of_getElem? (i := 1498) (by decide +kernel), List.mem_of_getElem? (i := 2045) (by decide +kernel), List.mem_of_getElem? (i := 2046) (by decide +kernel)⟩
theorem lw_p116 : lw_okq (⟨"TierMillModel", "fail", "(II)V"⟩, 92) := ⟨⟨by decide +kernel, by decide +kernel⟩, List.mem_of_getElem? (i := 1498) (by decide +kernel), List.mem_of_getElem? (i := 2049) (by decide +kernel), List.mem_of_getElem? (i := 2050) (by decide +kernel)⟩
theorem lw_p117 : lw_okq (⟨"TierMillModel", "leave", "(Z)V"⟩, 92) := ⟨⟨by decide +kernel, by decide +kernel⟩, List.mem_of_getElem? (i := 1498) (by decide +kernel), List.mem_of_getElem? (i := 2053) (by decide +kernel), List.mem_of_getElem? (i := 2054) (by decide +kernel)⟩
theorem lw_p118 : lw_okq (⟨"TierMillModel", "push", "(I)V"⟩, 92) := ⟨⟨by decide +kernel, by decide +kernel⟩, List.mem_of_getElem? (i := 1498) (by decide +kernel), List.mem_of_getElem? (i := 2057) (by decide +kernel), List.mem_of_getElem? (i := 2058) (by decide +kernel)⟩
theorem lw_p119 : lw_okq (⟨"TierMillModel", "act", "(IIIIII)V"⟩, 92) := ⟨⟨by decide +kernel, by decide +kernel⟩, List.mem_of_getElem? (i := 1498) (by decide +kernel), List.mem_of_getElem? (i := 2061) (by decide +kernel), List.mem_of_getElem? (i := 2062) (by decide +kernel)⟩
theorem lw_p120 : lw_okq (⟨"TierMillModel", "nextInput", "()I"⟩, 92) := ⟨⟨by decide +kernel, by decide +kernel⟩, List.mem_of_getElem? (i := 1498) (by decide +kernel), List.mem_of_getElem? (i := 2065) (by decide +kernel), List.mem_of_getElem? (i := 2066) (by decide +kernel)⟩
theorem lw_p121 : lw_okq (⟨"TierMillModel", "frameOf", "(I)I"⟩, 92) := ⟨⟨by decide +kernel, by decide +kernel⟩, List.mem_of_getElem? (i := 1498) (by decide +kernel), List.mem_of_getElem? (i := 2088) (by decide +kernel), List.mem_of_getElem? (i := 2089) (by decide +kernel)⟩
theorem lw_p122 : lw_okq (⟨"TierMillModel", "find", "(II)V"⟩, 92) := ⟨⟨by decide +kernel, by decide +kernel⟩, List.mem_of_getElem? (i := 1498) (by decide +kernel), List.mem_of_getElem? (i := 2096) (by decide +kernel), List.mem_of_getElem? (i := 2097) (by decide +kernel)⟩
theorem lw_p123 : lw_okq (⟨"TierMillModel", "isMethod", "(I)Z"⟩, 92) := ⟨⟨by decide +kernel, by decide +kernel⟩, List.mem_of_getElem? (i := 1498) (by decide +kernel), List.mem_of_getElem? (i := 2108) (by decide +kernel), List.mem_of_getElem? (i := 2109) (by decide +kernel)⟩
def lw_privs_8 : List (MethodName × Nat) := [(⟨"TierMillModel", "pop", "()I"⟩, 92), (⟨"TierMillModel", "jump", "(I)V"⟩, 92), (⟨"TierMillModel", "call", "(II)V"⟩, 92), (⟨"TierMillModel", "siteAt", "(I)I"⟩, 92), (⟨"TierMillModel", "fail", "(II)V"⟩, 92), (⟨"TierMillModel", "leave", "(Z)V"⟩, 92), (⟨"TierMillModel", "push", "(I)V"⟩, 92), (⟨"TierMillModel", "act", "(IIIIII)V"⟩, 92), (⟨"TierMillModel", "nextInput", "()I"⟩, 92), (⟨"TierMillModel", "frameOf", "(I)I"⟩, 92), (⟨"TierMillModel", "find", "(II)V"⟩, 92), (⟨"TierMillModel", "isMethod", "(I)Z"⟩, 92)]
theorem lw_r8 : ∀ q ∈ lw_privs_8, lw_okq q := List.forall_mem_cons.mpr ⟨lw_p112, List.forall_mem_cons.mpr ⟨lw_p113, List.forall_mem_cons.mpr ⟨lw_p114, List.forall_mem_cons.mpr ⟨lw_p115, List.forall_mem_cons.mpr ⟨lw_p116, List.forall_mem_cons.mpr ⟨lw_p117, List.forall_mem_cons.mpr ⟨lw_p118, List.forall_mem_cons.mpr ⟨lw_p119, List.forall_mem_cons.mpr ⟨lw_p120, List.forall_mem_cons.mpr ⟨lw_p121, List.forall_mem_cons.mpr ⟨lw_p122, List.forall_mem_cons.mpr ⟨lw_p123, fun _ h => absurd h List.not_mem_nil⟩⟩⟩⟩⟩⟩⟩⟩⟩⟩⟩⟩
def lw_privs : List (MethodName × Nat) := lw_privs_1 ++ (lw_privs_2 ++ (lw_privs_3 ++ (lw_privs_4 ++ (lw_privs_5 ++ (lw_privs_6 ++ (lw_privs_7 ++ (lw_privs_8)))))))
def lw_tbl : List Cond := k2_sels lw_privs ++ tables_1
theorem lw_privs_ok : ∀ q ∈ lw_privs, lw_okq q := by
  show ∀ q ∈ lw_privs_1 ++ (lw_privs_2 ++ (lw_privs_3 ++ (lw_privs_4 ++ (lw_privs_5 ++ (lw_privs_6 ++ (lw_privs_7 ++ (lw_privs_8))))))), lw_okq q
  exact List.forall_mem_append.mpr ⟨lw_r1, List.forall_mem_append.mpr ⟨lw_r2, List.forall_mem_append.mpr ⟨lw_r3, List.forall_mem_append.mpr ⟨lw_r4, List.forall_mem_append.mpr ⟨lw_r5, List.forall_mem_append.mpr ⟨lw_r6, List.forall_mem_append.mpr ⟨lw_r7, lw_r8⟩⟩⟩⟩⟩⟩⟩
-- ===== end of PART A; then your names; then what follows =====
end
section
def e_T0 : u_T := fun k => match k with
  | 0 => ("TierMill$Decoder", "faultMethod", "I", false)
  | 1 => ("TierMill$Decoder", "faultPlace", "I", false)
  | _ => ("TierMill$Decoder", "file", "LTierMill$Program;", false)
def e_y0 : Nat → FieldType := fun k => match k with
  | 0 => .int
  | 1 => .int
  | _ => .object "TierMill$Program"
def e_T1 : u_T := fun k => match k with
  | 0 => ("TierMill$Entries", "count", "I", false)
  | _ => ("TierMill$Entries", "rows", "[I", true)
def e_y1 : Nat → FieldType := fun k => match k with
  | 0 => .int
  | _ => .array .int
def e_T2 : u_T := fun k => match k with
  | 0 => ("TierMill$Frames", "depth", "I", false)
  | 1 => ("TierMill$Frames", "methodOf", "[I", true)
  | 2 => ("TierMill$Frames", "place", "[I", true)
  | 3 => ("TierMill$Frames", "tier", "[I", true)
  | 4 => ("TierMill$Frames", "plan", "[I", true)
  | 5 => ("TierMill$Frames", "row", "[I", true)
  | 6 => ("TierMill$Frames", "height", "[I", true)
  | _ => ("TierMill$Frames", "slots", "[I", true)
def e_y2 : Nat → FieldType := fun k => match k with
  | 0 => .int
  | 1 => .array .int
  | 2 => .array .int
  | 3 => .array .int
  | 4 => .array .int
  | 5 => .array .int
  | 6 => .array .int
  | _ => .array .int
def e_T3 : u_T := fun k => match k with
  | 0 => ("TierMill$Heap", "cellsMost", "I", false)
  | 1 => ("TierMill$Heap", "used", "I", false)
  | 2 => ("TierMill$Heap", "latest", "I", false)
  | 3 => ("TierMill$Heap", "cells", "[I", false)
  | _ => ("TierMill$Heap", "other", "[I", false)
def e_y3 : Nat → FieldType := fun k => match k with
  | 0 => .int
  | 1 => .int
  | 2 => .int
  | 3 => .array .int
  | _ => .array .int
def e_T4 : u_T := fun k => match k with
  | 0 => ("TierMill$Machine", "frames", "LTierMill$Frames;", true)
  | 1 => ("TierMill$Machine", "heap", "LTierMill$Heap;", true)
  | 2 => ("TierMill$Machine", "tiers", "LTierMill$Tiers;", true)
  | 3 => ("TierMill$Machine", "entries", "LTierMill$Entries;", true)
  | 4 => ("TierMill$Machine", "outputs", "[I", true)
  | 5 => ("TierMill$Machine", "outputCount", "I", false)
  | 6 => ("TierMill$Machine", "phase", "I", false)
  | 7 => ("TierMill$Machine", "trap", "I", false)
  | 8 => ("TierMill$Machine", "returned", "I", false)
  | 9 => ("TierMill$Machine", "steps", "I", false)
  | 10 => ("TierMill$Machine", "stepsInAll", "I", false)
  | 11 => ("TierMill$Machine", "inputCount", "I", false)
  | 12 => ("TierMill$Machine", "inputs", "[I", true)
  | 13 => ("TierMill$Machine", "firstInput", "I", false)
  | 14 => ("TierMill$Machine", "file", "LTierMill$Program;", false)
  | _ => ("TierMill$Machine", "at", "I", false)
def e_y4 : Nat → FieldType := fun k => match k with
  | 0 => .object "TierMill$Frames"
  | 1 => .object "TierMill$Heap"
  | 2 => .object "TierMill$Tiers"
  | 3 => .object "TierMill$Entries"
  | 4 => .array .int
  | 5 => .int
  | 6 => .int
  | 7 => .int
  | 8 => .int
  | 9 => .int
  | 10 => .int
  | 11 => .int
  | 12 => .array .int
  | 13 => .int
  | 14 => .object "TierMill$Program"
  | _ => .int
def e_T5 : u_T := fun k => match k with
  | 0 => ("TierMill$Plan", "count", "I", true)
  | 1 => ("TierMill$Plan", "allBytes", "I", true)
  | _ => ("TierMill$Plan", "rows", "[I", true)
def e_y5 : Nat → FieldType := fun k => match k with
  | 0 => .int
  | 1 => .int
  | _ => .array .int
def e_T6 : u_T := fun k => match k with
  | 0 => ("TierMill$Program", "bytes", "[I", true)
  | 1 => ("TierMill$Program", "length", "I", false)
  | 2 => ("TierMill$Program", "classCount", "I", false)
  | 3 => ("TierMill$Program", "superOf", "[I", true)
  | 4 => ("TierMill$Program", "above", "[I", true)
  | 5 => ("TierMill$Program", "fieldCount", "[I", true)
  | 6 => ("TierMill$Program", "fieldType", "[I", true)
  | 7 => ("TierMill$Program", "selectorCount", "I", false)
  | 8 => ("TierMill$Program", "selectors", "[LTierMill$Shape;", true)
  | 9 => ("TierMill$Program", "methodCount", "I", false)
  | 10 => ("TierMill$Program", "methods", "[LTierMill$Shape;", true)
  | 11 => ("TierMill$Program", "table", "[I", true)
  | 12 => ("TierMill$Program", "size", "[I", true)
  | 13 => ("TierMill$Program", "siteAt", "[I", true)
  | 14 => ("TierMill$Program", "siteCount", "I", false)
  | 15 => ("TierMill$Program", "height", "[I", true)
  | 16 => ("TierMill$Program", "localKinds", "[J", true)
  | _ => ("TierMill$Program", "stackKinds", "[J", true)
def e_y6 : Nat → FieldType := fun k => match k with
  | 0 => .array .int
  | 1 => .int
  | 2 => .int
  | 3 => .array .int
  | 4 => .array .int
  | 5 => .array .int
  | 6 => .array .int
  | 7 => .int
  | 8 => .array (.object "TierMill$Shape")
  | 9 => .int
  | 10 => .array (.object "TierMill$Shape")
  | 11 => .array .int
  | 12 => .array .int
  | 13 => .array .int
  | 14 => .int
  | 15 => .array .int
  | 16 => .array .long
  | _ => .array .long
def e_T7 : u_T := fun k => match k with
  | 0 => ("TierMill$Reader", "file", "LTierMill$Program;", false)
  | 1 => ("TierMill$Reader", "at", "I", false)
  | _ => ("TierMill$Reader", "wrongAt", "I", false)
def e_y7 : Nat → FieldType := fun k => match k with
  | 0 => .object "TierMill$Program"
  | 1 => .int
  | _ => .int
def e_T8 : u_T := fun k => match k with
  | 0 => ("TierMill$Shape", "types", "[I", true)
  | 1 => ("TierMill$Shape", "params", "I", false)
  | 2 => ("TierMill$Shape", "returns", "I", false)
  | 3 => ("TierMill$Shape", "locals", "I", false)
  | 4 => ("TierMill$Shape", "stackMost", "I", false)
  | 5 => ("TierMill$Shape", "codeAt", "I", false)
  | _ => ("TierMill$Shape", "codeLength", "I", false)
def e_y8 : Nat → FieldType := fun k => match k with
  | 0 => .array .int
  | 1 => .int
  | 2 => .int
  | 3 => .int
  | 4 => .int
  | 5 => .int
  | _ => .int
def e_T9 : u_T := fun k => match k with
  | 0 => ("TierMill$Tiers", "hot", "I", false)
  | 1 => ("TierMill$Tiers", "samples", "I", false)
  | 2 => ("TierMill$Tiers", "mostDeep", "I", false)
  | 3 => ("TierMill$Tiers", "mostSize", "I", false)
  | 4 => ("TierMill$Tiers", "counts", "[I", true)
  | 5 => ("TierMill$Tiers", "profiles", "[I", true)
  | 6 => ("TierMill$Tiers", "plans", "[LTierMill$Plan;", true)
  | 7 => ("TierMill$Tiers", "planCount", "I", false)
  | 8 => ("TierMill$Tiers", "planOf", "[I", true)
  | 9 => ("TierMill$Tiers", "rows", "[I", true)
  | 10 => ("TierMill$Tiers", "rowCount", "I", false)
  | 11 => ("TierMill$Tiers", "inlinedBytes", "I", false)
  | _ => ("TierMill$Tiers", "file", "LTierMill$Program;", false)
def e_y9 : Nat → FieldType := fun k => match k with
  | 0 => .int
  | 1 => .int
  | 2 => .int
  | 3 => .int
  | 4 => .array .int
  | 5 => .array .int
  | 6 => .array (.object "TierMill$Plan")
  | 7 => .int
  | 8 => .array .int
  | 9 => .array .int
  | 10 => .int
  | 11 => .int
  | _ => .object "TierMill$Program"
def e_T10 : u_T := fun k => match k with
  | 0 => ("TierMill$Verifier", "faultMethod", "I", false)
  | 1 => ("TierMill$Verifier", "faultPlace", "I", false)
  | 2 => ("TierMill$Verifier", "waits", "[I", true)
  | 3 => ("TierMill$Verifier", "file", "LTierMill$Program;", false)
  | 4 => ("TierMill$Verifier", "shape", "LTierMill$Shape;", false)
  | 5 => ("TierMill$Verifier", "changed", "Z", false)
  | 6 => ("TierMill$Verifier", "height", "I", false)
  | 7 => ("TierMill$Verifier", "locals", "J", false)
  | _ => ("TierMill$Verifier", "stack", "J", false)
def e_y10 : Nat → FieldType := fun k => match k with
  | 0 => .int
  | 1 => .int
  | 2 => .array .int
  | 3 => .object "TierMill$Program"
  | 4 => .object "TierMill$Shape"
  | 5 => .boolean
  | 6 => .int
  | 7 => .long
  | _ => .long
def e_T11 : u_T := fun k => match k with
  | 0 => ("TierMill", "reader", "LTierMill$Reader;", true)
  | 1 => ("TierMill", "decoder", "LTierMill$Decoder;", true)
  | 2 => ("TierMill", "verifier", "LTierMill$Verifier;", true)
  | 3 => ("TierMill", "machine", "LTierMill$Machine;", true)
  | 4 => ("TierMill", "hasFile", "Z", false)
  | 5 => ("TierMill", "file", "LTierMill$Program;", false)
  | 6 => ("TierMill", "next", "LTierMill$Program;", false)
  | 7 => ("TierMill", "faultKind", "I", false)
  | 8 => ("TierMill", "faultPlace", "I", false)
  | 9 => ("TierMill", "faultMethod", "I", false)
  | _ => ("TierMill", "roomToCome", "I", false)
def e_y11 : Nat → FieldType := fun k => match k with
  | 0 => .object "TierMill$Reader"
  | 1 => .object "TierMill$Decoder"
  | 2 => .object "TierMill$Verifier"
  | 3 => .object "TierMill$Machine"
  | 4 => .boolean
  | 5 => .object "TierMill$Program"
  | 6 => .object "TierMill$Program"
  | 7 => .int
  | 8 => .int
  | 9 => .int
  | _ => .int
def e_T12 : u_T := fun k => match k with
  | 0 => ("TierMillModel", "thrown", "I", false)
  | 1 => ("TierMillModel", "together", "I", false)
  | 2 => ("TierMillModel", "bytes", "[I", true)
  | 3 => ("TierMillModel", "read", "[I", true)
  | 4 => ("TierMillModel", "readLong", "I", false)
  | 5 => ("TierMillModel", "file", "[I", true)
  | 6 => ("TierMillModel", "fileLong", "I", false)
  | 7 => ("TierMillModel", "isFile", "Z", false)
  | 8 => ("TierMillModel", "fault", "I", false)
  | 9 => ("TierMillModel", "faultPlace", "I", false)
  | 10 => ("TierMillModel", "faultMethod", "I", false)
  | 11 => ("TierMillModel", "classes", "I", false)
  | 12 => ("TierMillModel", "above", "[I", true)
  | 13 => ("TierMillModel", "fields", "[I", true)
  | 14 => ("TierMillModel", "fieldType", "[I", true)
  | 15 => ("TierMillModel", "selectors", "I", false)
  | 16 => ("TierMillModel", "selParams", "[I", true)
  | 17 => ("TierMillModel", "selType", "[I", true)
  | 18 => ("TierMillModel", "selReturn", "[I", true)
  | 19 => ("TierMillModel", "methods", "I", false)
  | 20 => ("TierMillModel", "params", "[I", true)
  | 21 => ("TierMillModel", "paramType", "[I", true)
  | 22 => ("TierMillModel", "returns", "[I", true)
  | 23 => ("TierMillModel", "locals", "[I", true)
  | 24 => ("TierMillModel", "most", "[I", true)
  | 25 => ("TierMillModel", "size", "[I", true)
  | 26 => ("TierMillModel", "code", "[I", true)
  | 27 => ("TierMillModel", "begins", "[Z", true)
  | 28 => ("TierMillModel", "table", "[I", true)
  | 29 => ("TierMillModel", "height", "[I", true)
  | 30 => ("TierMillModel", "kinds", "[I", true)
  | 31 => ("TierMillModel", "next", "[I", true)
  | 32 => ("TierMillModel", "nextHeight", "I", false)
  | 33 => ("TierMillModel", "breaks", "Z", false)
  | 34 => ("TierMillModel", "hot", "I", false)
  | 35 => ("TierMillModel", "samples", "I", false)
  | 36 => ("TierMillModel", "depth", "I", false)
  | 37 => ("TierMillModel", "largest", "I", false)
  | 38 => ("TierMillModel", "nextRoom", "I", false)
  | 39 => ("TierMillModel", "inputs", "I", false)
  | 40 => ("TierMillModel", "input", "[I", true)
  | 41 => ("TierMillModel", "state", "I", false)
  | 42 => ("TierMillModel", "trap", "I", false)
  | 43 => ("TierMillModel", "returned", "I", false)
  | 44 => ("TierMillModel", "steps", "I", false)
  | 45 => ("TierMillModel", "allSteps", "I", false)
  | 46 => ("TierMillModel", "allCompiled", "I", false)
  | 47 => ("TierMillModel", "outs", "I", false)
  | 48 => ("TierMillModel", "output", "[I", true)
  | 49 => ("TierMillModel", "count", "[I", true)
  | 50 => ("TierMillModel", "planOf", "[I", true)
  | 51 => ("TierMillModel", "profile", "[I", true)
  | 52 => ("TierMillModel", "logs", "I", false)
  | 53 => ("TierMillModel", "log", "[I", true)
  | 54 => ("TierMillModel", "plans", "I", false)
  | 55 => ("TierMillModel", "planFrom", "[I", true)
  | 56 => ("TierMillModel", "planMany", "[I", true)
  | 57 => ("TierMillModel", "planBytes", "I", false)
  | 58 => ("TierMillModel", "sites", "I", false)
  | 59 => ("TierMillModel", "site", "[I", true)
  | 60 => ("TierMillModel", "frames", "I", false)
  | 61 => ("TierMillModel", "fMethod", "[I", true)
  | 62 => ("TierMillModel", "fPlace", "[I", true)
  | 63 => ("TierMillModel", "fCall", "[I", true)
  | 64 => ("TierMillModel", "fTier", "[I", true)
  | 65 => ("TierMillModel", "fPlan", "[I", true)
  | 66 => ("TierMillModel", "fSite", "[I", true)
  | 67 => ("TierMillModel", "fHeight", "[I", true)
  | 68 => ("TierMillModel", "fLocal", "[I", true)
  | 69 => ("TierMillModel", "fStack", "[I", true)
  | 70 => ("TierMillModel", "room", "I", false)
  | 71 => ("TierMillModel", "used", "I", false)
  | 72 => ("TierMillModel", "latest", "I", false)
  | 73 => ("TierMillModel", "objects", "I", false)
  | 74 => ("TierMillModel", "oNumber", "[I", true)
  | 75 => ("TierMillModel", "oClass", "[I", true)
  | 76 => ("TierMillModel", "oFrom", "[I", true)
  | 77 => ("TierMillModel", "oMany", "[I", true)
  | 78 => ("TierMillModel", "oReached", "[Z", true)
  | 79 => ("TierMillModel", "cells", "I", false)
  | 80 => ("TierMillModel", "cell", "[I", true)
  | 81 => ("TierMillModel", "at", "I", false)
  | 82 => ("TierMillModel", "bad", "Z", false)
  | 83 => ("TierMillModel", "layMethod", "[I", true)
  | 84 => ("TierMillModel", "layPlace", "[I", true)
  | 85 => ("TierMillModel", "laySite", "[I", true)
  | 86 => ("TierMillModel", "guard", "I", false)
  | 87 => ("TierMillModel", "called", "I", false)
  | 88 => ("TierMillModel", "found", "I", false)
  | 89 => ("TierMillModel", "toGo", "[I", true)
  | 90 => ("TierMillModel", "askedKind", "I", false)
  | _ => ("TierMillModel", "askedValue", "I", false)
def e_y12 : Nat → FieldType := fun k => match k with
  | 0 => .int
  | 1 => .int
  | 2 => .array .int
  | 3 => .array .int
  | 4 => .int
  | 5 => .array .int
  | 6 => .int
  | 7 => .boolean
  | 8 => .int
  | 9 => .int
  | 10 => .int
  | 11 => .int
  | 12 => .array .int
  | 13 => .array .int
  | 14 => .array .int
  | 15 => .int
  | 16 => .array .int
  | 17 => .array .int
  | 18 => .array .int
  | 19 => .int
  | 20 => .array .int
  | 21 => .array .int
  | 22 => .array .int
  | 23 => .array .int
  | 24 => .array .int
  | 25 => .array .int
  | 26 => .array .int
  | 27 => .array .boolean
  | 28 => .array .int
  | 29 => .array .int
  | 30 => .array .int
  | 31 => .array .int
  | 32 => .int
  | 33 => .boolean
  | 34 => .int
  | 35 => .int
  | 36 => .int
  | 37 => .int
  | 38 => .int
  | 39 => .int
  | 40 => .array .int
  | 41 => .int
  | 42 => .int
  | 43 => .int
  | 44 => .int
  | 45 => .int
  | 46 => .int
  | 47 => .int
  | 48 => .array .int
  | 49 => .array .int
  | 50 => .array .int
  | 51 => .array .int
  | 52 => .int
  | 53 => .array .int
  | 54 => .int
  | 55 => .array .int
  | 56 => .array .int
  | 57 => .int
  | 58 => .int
  | 59 => .array .int
  | 60 => .int
  | 61 => .array .int
  | 62 => .array .int
  | 63 => .array .int
  | 64 => .array .int
  | 65 => .array .int
  | 66 => .array .int
  | 67 => .array .int
  | 68 => .array .int
  | 69 => .array .int
  | 70 => .int
  | 71 => .int
  | 72 => .int
  | 73 => .int
  | 74 => .array .int
  | 75 => .array .int
  | 76 => .array .int
  | 77 => .array .int
  | 78 => .array .boolean
  | 79 => .int
  | 80 => .array .int
  | 81 => .int
  | 82 => .boolean
  | 83 => .array .int
  | 84 => .array .int
  | 85 => .array .int
  | 86 => .int
  | 87 => .int
  | 88 => .int
  | 89 => .array .int
  | 90 => .int
  | _ => .int
/-- the classes of the objects: name, fields, how many -/
def e_cl : List vw_C := [("TierMill$Decoder", e_T0, 3), ("TierMill$Entries", e_T1, 2), ("TierMill$Frames", e_T2, 8), ("TierMill$Heap", e_T3, 5), ("TierMill$Machine", e_T4, 16), ("TierMill$Plan", e_T5, 3), ("TierMill$Program", e_T6, 18), ("TierMill$Reader", e_T7, 3), ("TierMill$Shape", e_T8, 7), ("TierMill$Tiers", e_T9, 13), ("TierMill$Verifier", e_T10, 9), ("TierMill", e_T11, 11), ("TierMillModel", e_T12, 92)]
def e_ys : List (Nat → FieldType) := [e_y0, e_y1, e_y2, e_y3, e_y4, e_y5, e_y6, e_y7, e_y8, e_y9, e_y10, e_y11, e_y12]
/-- the kinds of the fields: 0 int, 1 long, 2 reference, 3 boolean -/
def e_fks : List (List Nat) := [[0, 0, 2], [0, 2], [0, 2, 2, 2, 2, 2, 2, 2], [0, 0, 0, 2, 2], [2, 2, 2, 2, 2, 0, 0, 0, 0, 0, 0, 0, 2, 0, 2, 0], [0, 0, 2], [2, 0, 0, 2, 2, 2, 2, 0, 2, 0, 2, 2, 2, 2, 0, 2, 2, 2], [2, 0, 0], [2, 0, 0, 0, 0, 0, 0], [0, 0, 0, 0, 2, 2, 2, 0, 2, 2, 0, 0, 2], [0, 0, 2, 2, 2, 3, 0, 1, 1], [2, 2, 2, 2, 3, 2, 2, 0, 0, 0, 0], [0, 0, 2, 2, 0, 2, 0, 3, 0, 0, 0, 0, 2, 2, 2, 0, 2, 2, 2, 0, 2, 2, 2, 2, 2, 2, 2, 2, 2, 2, 2, 2, 0, 3, 0, 0, 0, 0, 0, 0, 2, 0, 0, 0, 0, 0, 0, 0, 2, 2, 2, 2, 0, 2, 0, 2, 2, 0, 0, 2, 0, 2, 2, 2, 2, 2, 2, 2, 2, 2, 0, 0, 0, 0, 2, 2, 2, 2, 2, 0, 2, 0, 3, 2, 2, 2, 0, 0, 0, 2, 0, 0]]
/-- TierMill$Decoder.<init>()V -/
def e_d0 : List (Nat × Instr × Nat × Nat × Nat × Int) := [(0, .aload_n 0, 1, 0, 0, 0), (1, .invokespecial 3, 3, 900, 0, 0), (4, .return_, 1, 0, 0, 0)]
/-- TierMill$Decoder.findsFault(LTierMill$Program;)Z -/
def e_d1 : List (Nat × Instr × Nat × Nat × Nat × Int) := [(0, .aload_n 0, 1, 0, 0, 0), (1, .aload_n 1, 1, 0, 0, 0), (2, .putfield 9, 3, 0, 2, 0), (5, .aload_n 0, 1, 0, 0, 0), (6, .getfield 9, 3, 0, 2, 0), (9, .iconst 0, 1, 0, 0, 0), (10, .putfield 15, 3, 6, 14, 0), (13, .iconst 0, 1, 0, 0, 0), (14, .istore_n 2, 1, 0, 0, 0), (15, .iload_n 2, 1, 0, 0, 0), (16, .aload_n 0, 1, 0, 0, 0), (17, .getfield 9, 3, 0, 2, 0), (20, .getfield 21, 3, 6, 9, 0), (23, .if_icmp .ge 88, 3, 111, 0, 0), (26, .aload_n 0, 1, 0, 0, 0), (27, .getfield 9, 3, 0, 2, 0), (30, .getfield 24, 3, 6, 10, 0), (33, .iload_n 2, 1, 0, 0, 0), (34, .aaload, 1, 0, 0, 0), (35, .astore_n 3, 1, 0, 0, 0), (36, .aload_n 0, 1, 0, 0, 0), (37, .aload_n 3, 1, 0, 0, 0), (38, .invokevirtual 28, 3, 2, 0, 1), (41, .iconst 0, 1, 0, 0, 0), (42, .istore 4, 2, 0, 0, 0), (44, .iload 4, 2, 0, 0, 0), (46, .aload_n 3, 1, 0, 0, 0), (47, .getfield 32, 3, 8, 6, 0), (50, .if_icmp .ge 55, 3, 105, 0, 0), (53, .aload_n 0, 1, 0, 0, 0), (54, .getfield 9, 3, 0, 2, 0), (57, .getfield 37, 3, 6, 12, 0), (60, .aload_n 3, 1, 0, 0, 0), (61, .getfield 41, 3, 8, 5, 0), (64, .iload 4, 2, 0, 0, 0), (66, .iadd, 1, 0, 0, 0), (67, .iaload, 1, 0, 0, 0), (68, .ifCond .eq 31, 3, 99, 0, 0), (71, .aload_n 0, 1, 0, 0, 0), (72, .aload_n 3, 1, 0, 0, 0), (73, .aload_n 3, 1, 0, 0, 0), (74, .getfield 41, 3, 8, 5, 0), (77, .iload 4, 2, 0, 0, 0), (79, .iadd, 1, 0, 0, 0), (80, .invokevirtual 44, 3, 4, 0, 2), (83, .ifCond .eq 16, 3, 99, 0, 0), (86, .aload_n 0, 1, 0, 0, 0), (87, .iload_n 2, 1, 0, 0, 0), (88, .putfield 48, 3, 0, 0, 0), (91, .aload_n 0, 1, 0, 0, 0), (92, .iload 4, 2, 0, 0, 0), (94, .putfield 51, 3, 0, 1, 0), (97, .iconst 1, 1, 0, 0, 0), (98, .ireturn, 1, 0, 0, 0), (99, .iinc 4 1, 3, 0, 0, 0), (102, .goto (-58), 3, 44, 0, 0), (105, .iinc 2 1, 3, 0, 0, 0), (108, .goto (-93), 3, 15, 0, 0), (111, .iconst 0, 1, 0, 0, 0), (112, .ireturn, 1, 0, 0, 0)]
/-- TierMill$Decoder.markBegins(LTierMill$Shape;)V -/
def e_d2 : List (Nat × Instr × Nat × Nat × Nat × Int) := [(0, .aload_n 1, 1, 0, 0, 0), (1, .getfield 41, 3, 8, 5, 0), (4, .aload_n 1, 1, 0, 0, 0), (5, .getfield 32, 3, 8, 6, 0), (8, .iadd, 1, 0, 0, 0), (9, .istore_n 2, 1, 0, 0, 0), (10, .aload_n 0, 1, 0, 0, 0), (11, .getfield 9, 3, 0, 2, 0), (14, .getfield 37, 3, 6, 12, 0), (17, .aload_n 1, 1, 0, 0, 0), (18, .getfield 41, 3, 8, 5, 0), (21, .iload_n 2, 1, 0, 0, 0), (22, .iconst 0, 1, 0, 0, 0), (23, .invokestatic 54, 3, 234, 0, 4), (26, .aload_n 1, 1, 0, 0, 0), (27, .getfield 41, 3, 8, 5, 0), (30, .istore_n 3, 1, 0, 0, 0), (31, .iload_n 3, 1, 0, 0, 0), (32, .iload_n 2, 1, 0, 0, 0), (33, .if_icmp .ge 123, 3, 156, 0, 0), (36, .aload_n 0, 1, 0, 0, 0), (37, .getfield 9, 3, 0, 2, 0), (40, .getfield 60, 3, 6, 0, 0), (43, .iload_n 3, 1, 0, 0, 0), (44, .iaload, 1, 0, 0, 0), (45, .istore 4, 2, 0, 0, 0), (47, .aload_n 0, 1, 0, 0, 0), (48, .iload_n 3, 1, 0, 0, 0), (49, .iload_n 2, 1, 0, 0, 0), (50, .invokevirtual 63, 3, 3, 0, 2), (53, .istore 5, 2, 0, 0, 0), (55, .iload 5, 2, 0, 0, 0), (57, .iconst (-1), 1, 0, 0, 0), (58, .if_icmp .eq 11, 3, 69, 0, 0), (61, .iload_n 3, 1, 0, 0, 0), (62, .iload 5, 2, 0, 0, 0), (64, .iadd, 1, 0, 0, 0), (65, .iload_n 2, 1, 0, 0, 0), (66, .if_icmp .le 18, 3, 84, 0, 0), (69, .aload_n 0, 1, 0, 0, 0), (70, .getfield 9, 3, 0, 2, 0), (73, .getfield 37, 3, 6, 12, 0), (76, .iload_n 3, 1, 0, 0, 0), (77, .iconst (-1), 1, 0, 0, 0), (78, .iastore, 1, 0, 0, 0), (79, .iload_n 2, 1, 0, 0, 0), (80, .istore_n 3, 1, 0, 0, 0), (81, .goto 72, 3, 153, 0, 0), (84, .aload_n 0, 1, 0, 0, 0), (85, .getfield 9, 3, 0, 2, 0), (88, .getfield 37, 3, 6, 12, 0), (91, .iload_n 3, 1, 0, 0, 0), (92, .iload 5, 2, 0, 0, 0), (94, .iastore, 1, 0, 0, 0), (95, .aload_n 0, 1, 0, 0, 0), (96, .getfield 9, 3, 0, 2, 0), (99, .getfield 67, 3, 6, 13, 0), (102, .iload_n 3, 1, 0, 0, 0), (103, .iconst (-1), 1, 0, 0, 0), (104, .iastore, 1, 0, 0, 0), (105, .iload 4, 2, 0, 0, 0), (107, .bipush 47, 2, 0, 0, 0), (109, .if_icmp .eq 10, 3, 119, 0, 0), (112, .iload 4, 2, 0, 0, 0), (114, .bipush 48, 2, 0, 0, 0), (116, .if_icmp .ne 32, 3, 148, 0, 0), (119, .aload_n 0, 1, 0, 0, 0), (120, .getfield 9, 3, 0, 2, 0), (123, .getfield 67, 3, 6, 13, 0), (126, .iload_n 3, 1, 0, 0, 0), (127, .aload_n 0, 1, 0, 0, 0), (128, .getfield 9, 3, 0, 2, 0), (131, .getfield 15, 3, 6, 14, 0), (134, .iastore, 1, 0, 0, 0), (135, .aload_n 0, 1, 0, 0, 0), (136, .getfield 9, 3, 0, 2, 0), (139, .dup, 1, 0, 0, 0), (140, .getfield 15, 3, 6, 14, 0), (143, .iconst 1, 1, 0, 0, 0), (144, .iadd, 1, 0, 0, 0), (145, .putfield 15, 3, 6, 14, 0), (148, .iload_n 3, 1, 0, 0, 0), (149, .iload 5, 2, 0, 0, 0), (151, .iadd, 1, 0, 0, 0), (152, .istore_n 3, 1, 0, 0, 0), (153, .goto (-122), 3, 31, 0, 0), (156, .return_, 1, 0, 0, 0)]
/-- TierMill$Decoder.sizeAt(II)I -/
def e_d3 : List (Nat × Instr × Nat × Nat × Nat × Int) := [(0, .aload_n 0, 1, 0, 0, 0), (1, .getfield 9, 3, 0, 2, 0), (4, .getfield 60, 3, 6, 0, 0), (7, .iload_n 1, 1, 0, 0, 0), (8, .iaload, 1, 0, 0, 0), (9, .istore_n 3, 1, 0, 0, 0), (10, .iload_n 3, 1, 0, 0, 0), (11, .bipush 53, 2, 0, 0, 0), (13, .if_icmp .le 5, 3, 18, 0, 0), (16, .iconst (-1), 1, 0, 0, 0), (17, .ireturn, 1, 0, 0, 0), (18, .iload_n 3, 1, 0, 0, 0), (19, .bipush 53, 2, 0, 0, 0), (21, .if_icmp .ge 9, 3, 30, 0, 0), (24, .getstatic 70, 3, 2, 1, 0), (27, .iload_n 3, 1, 0, 0, 0), (28, .iaload, 1, 0, 0, 0), (29, .ireturn, 1, 0, 0, 0), (30, .iload_n 1, 1, 0, 0, 0), (31, .iconst 1, 1, 0, 0, 0), (32, .iadd, 1, 0, 0, 0), (33, .iload_n 2, 1, 0, 0, 0), (34, .if_icmp .ge 19, 3, 53, 0, 0), (37, .aload_n 0, 1, 0, 0, 0), (38, .getfield 9, 3, 0, 2, 0), (41, .getfield 60, 3, 6, 0, 0), (44, .iload_n 1, 1, 0, 0, 0), (45, .iconst 1, 1, 0, 0, 0), (46, .iadd, 1, 0, 0, 0), (47, .iaload, 1, 0, 0, 0), (48, .iconst 3, 1, 0, 0, 0), (49, .iadd, 1, 0, 0, 0), (50, .goto 4, 3, 54, 0, 0), (53, .iconst (-1), 1, 0, 0, 0), (54, .ireturn, 1, 0, 0, 0)]
/-- TierMill$Decoder.isFaulty(LTierMill$Shape;I)Z -/
def e_d4 : List (Nat × Instr × Nat × Nat × Nat × Int) := [(0, .aload_n 0, 1, 0, 0, 0), (1, .getfield 9, 3, 0, 2, 0), (4, .getfield 37, 3, 6, 12, 0), (7, .iload_n 2, 1, 0, 0, 0), (8, .iaload, 1, 0, 0, 0), (9, .istore_n 3, 1, 0, 0, 0), (10, .iload_n 3, 1, 0, 0, 0), (11, .iconst (-1), 1, 0, 0, 0), (12, .if_icmp .ne 5, 3, 17, 0, 0), (15, .iconst 1, 1, 0, 0, 0), (16, .ireturn, 1, 0, 0, 0), (17, .aload_n 0, 1, 0, 0, 0), (18, .getfield 9, 3, 0, 2, 0), (21, .getfield 60, 3, 6, 0, 0), (24, .iload_n 2, 1, 0, 0, 0), (25, .iaload, 1, 0, 0, 0), (26, .istore 4, 2, 0, 0, 0), (28, .iload 4, 2, 0, 0, 0), (30, .bipush 21, 2, 0, 0, 0), (32, .if_icmp .eq 28, 3, 60, 0, 0), (35, .iload 4, 2, 0, 0, 0), (37, .bipush 49, 2, 0, 0, 0), (39, .if_icmp .eq 21, 3, 60, 0, 0), (42, .iload 4, 2, 0, 0, 0), (44, .bipush 50, 2, 0, 0, 0), (46, .if_icmp .eq 14, 3, 60, 0, 0), (49, .iload 4, 2, 0, 0, 0), (51, .bipush 53, 2, 0, 0, 0), (53, .if_icmp .eq 7, 3, 60, 0, 0), (56, .iconst 1, 1, 0, 0, 0), (57, .goto 4, 3, 61, 0, 0), (60, .iconst 0, 1, 0, 0, 0), (61, .istore 5, 2, 0, 0, 0), (63, .iload 5, 2, 0, 0, 0), (65, .ifCond .eq 20, 3, 85, 0, 0), (68, .iload_n 2, 1, 0, 0, 0), (69, .iload_n 3, 1, 0, 0, 0), (70, .iadd, 1, 0, 0, 0), (71, .aload_n 1, 1, 0, 0, 0), (72, .getfield 41, 3, 8, 5, 0), (75, .aload_n 1, 1, 0, 0, 0), (76, .getfield 32, 3, 8, 6, 0), (79, .iadd, 1, 0, 0, 0), (80, .if_icmp .ne 5, 3, 85, 0, 0), (83, .iconst 1, 1, 0, 0, 0), (84, .ireturn, 1, 0, 0, 0), (85, .aload_n 0, 1, 0, 0, 0), (86, .aload_n 1, 1, 0, 0, 0), (87, .iload_n 2, 1, 0, 0, 0), (88, .iload 4, 2, 0, 0, 0), (90, .invokevirtual 73, 3, 5, 0, 3), (93, .ifCond .ne 7, 3, 100, 0, 0), (96, .iconst 1, 1, 0, 0, 0), (97, .goto 4, 3, 101, 0, 0), (100, .iconst 0, 1, 0, 0, 0), (101, .ireturn, 1, 0, 0, 0)]
/-- TierMill$Decoder.namesWhatThereIs(LTierMill$Shape;II)Z -/
def e_d5 : List (Nat × Instr × Nat × Nat × Nat × Int) := [(0, .iload_n 3, 1, 0, 0, 0), (1, .bipush 53, 2, 0, 0, 0), (3, .if_icmp .ne 10, 3, 13, 0, 0), (6, .aload_n 0, 1, 0, 0, 0), (7, .aload_n 1, 1, 0, 0, 0), (8, .iload_n 2, 1, 0, 0, 0), (9, .invokevirtual 77, 3, 6, 0, 2), (12, .ireturn, 1, 0, 0, 0), (13, .getstatic 70, 3, 2, 1, 0), (16, .iload_n 3, 1, 0, 0, 0), (17, .iaload, 1, 0, 0, 0), (18, .iconst 1, 1, 0, 0, 0), (19, .if_icmp .ne 5, 3, 24, 0, 0), (22, .iconst 1, 1, 0, 0, 0), (23, .ireturn, 1, 0, 0, 0), (24, .aload_n 0, 1, 0, 0, 0), (25, .getfield 9, 3, 0, 2, 0), (28, .getfield 60, 3, 6, 0, 0), (31, .iload_n 2, 1, 0, 0, 0), (32, .iconst 1, 1, 0, 0, 0), (33, .iadd, 1, 0, 0, 0), (34, .iaload, 1, 0, 0, 0), (35, .istore 4, 2, 0, 0, 0), (37, .iload_n 3, 1, 0, 0, 0), (38, .bipush 21, 2, 0, 0, 0), (40, .if_icmp .lt 17, 3, 57, 0, 0), (43, .iload_n 3, 1, 0, 0, 0), (44, .bipush 37, 2, 0, 0, 0), (46, .if_icmp .gt 11, 3, 57, 0, 0), (49, .aload_n 0, 1, 0, 0, 0), (50, .aload_n 1, 1, 0, 0, 0), (51, .iload 4, 2, 0, 0, 0), (53, .invokevirtual 80, 3, 7, 0, 2), (56, .ireturn, 1, 0, 0, 0), (57, .iload_n 3, 1, 0, 0, 0), (58, .lookupswitch 201 #[(3, 90), (4, 90), (20, 90), (38, 105), (39, 123), (40, 123), (45, 105), (46, 105), (47, 165), (48, 183)], 90, 0, 0, 0), (148, .iload 4, 2, 0, 0, 0), (150, .aload_n 1, 1, 0, 0, 0), (151, .getfield 83, 3, 8, 3, 0), (154, .if_icmp .ge 7, 3, 161, 0, 0), (157, .iconst 1, 1, 0, 0, 0), (158, .goto 4, 3, 162, 0, 0), (161, .iconst 0, 1, 0, 0, 0), (162, .ireturn, 1, 0, 0, 0), (163, .iload 4, 2, 0, 0, 0), (165, .aload_n 0, 1, 0, 0, 0), (166, .getfield 9, 3, 0, 2, 0), (169, .getfield 86, 3, 6, 2, 0), (172, .if_icmp .ge 7, 3, 179, 0, 0), (175, .iconst 1, 1, 0, 0, 0), (176, .goto 4, 3, 180, 0, 0), (179, .iconst 0, 1, 0, 0, 0), (180, .ireturn, 1, 0, 0, 0), (181, .iload 4, 2, 0, 0, 0), (183, .aload_n 0, 1, 0, 0, 0), (184, .getfield 9, 3, 0, 2, 0), (187, .getfield 86, 3, 6, 2, 0), (190, .if_icmp .ge 31, 3, 221, 0, 0), (193, .aload_n 0, 1, 0, 0, 0), (194, .getfield 9, 3, 0, 2, 0), (197, .getfield 60, 3, 6, 0, 0), (200, .iload_n 2, 1, 0, 0, 0), (201, .iconst 2, 1, 0, 0, 0), (202, .iadd, 1, 0, 0, 0), (203, .iaload, 1, 0, 0, 0), (204, .aload_n 0, 1, 0, 0, 0), (205, .getfield 9, 3, 0, 2, 0), (208, .getfield 89, 3, 6, 5, 0), (211, .iload 4, 2, 0, 0, 0), (213, .iaload, 1, 0, 0, 0), (214, .if_icmp .ge 7, 3, 221, 0, 0), (217, .iconst 1, 1, 0, 0, 0), (218, .goto 4, 3, 222, 0, 0), (221, .iconst 0, 1, 0, 0, 0), (222, .ireturn, 1, 0, 0, 0), (223, .iload 4, 2, 0, 0, 0), (225, .aload_n 0, 1, 0, 0, 0), (226, .getfield 9, 3, 0, 2, 0), (229, .getfield 21, 3, 6, 9, 0), (232, .if_icmp .ge 7, 3, 239, 0, 0), (235, .iconst 1, 1, 0, 0, 0), (236, .goto 4, 3, 240, 0, 0), (239, .iconst 0, 1, 0, 0, 0), (240, .ireturn, 1, 0, 0, 0), (241, .iload 4, 2, 0, 0, 0), (243, .aload_n 0, 1, 0, 0, 0), (244, .getfield 9, 3, 0, 2, 0), (247, .getfield 92, 3, 6, 7, 0), (250, .if_icmp .ge 7, 3, 257, 0, 0), (253, .iconst 1, 1, 0, 0, 0), (254, .goto 4, 3, 258, 0, 0), (257, .iconst 0, 1, 0, 0, 0), (258, .ireturn, 1, 0, 0, 0), (259, .iconst 1, 1, 0, 0, 0), (260, .ireturn, 1, 0, 0, 0)]
/-- TierMill$Decoder.choosesWell(LTierMill$Shape;I)Z -/
def e_d6 : List (Nat × Instr × Nat × Nat × Nat × Int) := [(0, .aload_n 0, 1, 0, 0, 0), (1, .getfield 9, 3, 0, 2, 0), (4, .getfield 60, 3, 6, 0, 0), (7, .iload_n 2, 1, 0, 0, 0), (8, .iconst 1, 1, 0, 0, 0), (9, .iadd, 1, 0, 0, 0), (10, .iaload, 1, 0, 0, 0), (11, .istore_n 3, 1, 0, 0, 0), (12, .iload_n 3, 1, 0, 0, 0), (13, .iconst 1, 1, 0, 0, 0), (14, .if_icmp .lt 9, 3, 23, 0, 0), (17, .iload_n 3, 1, 0, 0, 0), (18, .bipush 8, 2, 0, 0, 0), (20, .if_icmp .le 5, 3, 25, 0, 0), (23, .iconst 0, 1, 0, 0, 0), (24, .ireturn, 1, 0, 0, 0), (25, .iconst 0, 1, 0, 0, 0), (26, .istore 4, 2, 0, 0, 0), (28, .iload 4, 2, 0, 0, 0), (30, .iload_n 3, 1, 0, 0, 0), (31, .if_icmp .gt 33, 3, 64, 0, 0), (34, .aload_n 0, 1, 0, 0, 0), (35, .aload_n 1, 1, 0, 0, 0), (36, .aload_n 0, 1, 0, 0, 0), (37, .getfield 9, 3, 0, 2, 0), (40, .getfield 60, 3, 6, 0, 0), (43, .iload_n 2, 1, 0, 0, 0), (44, .iconst 2, 1, 0, 0, 0), (45, .iadd, 1, 0, 0, 0), (46, .iload 4, 2, 0, 0, 0), (48, .iadd, 1, 0, 0, 0), (49, .iaload, 1, 0, 0, 0), (50, .invokevirtual 80, 3, 7, 0, 2), (53, .ifCond .ne 5, 3, 58, 0, 0), (56, .iconst 0, 1, 0, 0, 0), (57, .ireturn, 1, 0, 0, 0), (58, .iinc 4 1, 3, 0, 0, 0), (61, .goto (-33), 3, 28, 0, 0), (64, .iconst 1, 1, 0, 0, 0), (65, .ireturn, 1, 0, 0, 0)]
/-- TierMill$Decoder.begins(LTierMill$Shape;I)Z -/
def e_d7 : List (Nat × Instr × Nat × Nat × Nat × Int) := [(0, .iload_n 2, 1, 0, 0, 0), (1, .aload_n 1, 1, 0, 0, 0), (2, .getfield 32, 3, 8, 6, 0), (5, .if_icmp .ge 24, 3, 29, 0, 0), (8, .aload_n 0, 1, 0, 0, 0), (9, .getfield 9, 3, 0, 2, 0), (12, .getfield 37, 3, 6, 12, 0), (15, .aload_n 1, 1, 0, 0, 0), (16, .getfield 41, 3, 8, 5, 0), (19, .iload_n 2, 1, 0, 0, 0), (20, .iadd, 1, 0, 0, 0), (21, .iaload, 1, 0, 0, 0), (22, .ifCond .eq 7, 3, 29, 0, 0), (25, .iconst 1, 1, 0, 0, 0), (26, .goto 4, 3, 30, 0, 0), (29, .iconst 0, 1, 0, 0, 0), (30, .ireturn, 1, 0, 0, 0)]
/-- TierMill$Entries.<init>()V -/
def e_d8 : List (Nat × Instr × Nat × Nat × Nat × Int) := [(0, .aload_n 0, 1, 0, 0, 0), (1, .invokespecial 3, 3, 900, 0, 0), (4, .aload_n 0, 1, 0, 0, 0), (5, .sipush 1500, 3, 0, 0, 0), (8, .newarray .int, 2, 20, 0, 0), (10, .putfield 11, 3, 1, 1, 0), (13, .return_, 1, 0, 0, 0)]
/-- TierMill$Entries.add(IIIII)V -/
def e_d9 : List (Nat × Instr × Nat × Nat × Nat × Int) := [(0, .aload_n 0, 1, 0, 0, 0), (1, .getfield 15, 3, 1, 0, 0), (4, .sipush 300, 3, 0, 0, 0), (7, .if_icmp .lt 4, 3, 11, 0, 0), (10, .return_, 1, 0, 0, 0), (11, .aload_n 0, 1, 0, 0, 0), (12, .getfield 15, 3, 1, 0, 0), (15, .iconst 5, 1, 0, 0, 0), (16, .imul, 1, 0, 0, 0), (17, .istore 6, 2, 0, 0, 0), (19, .aload_n 0, 1, 0, 0, 0), (20, .getfield 11, 3, 1, 1, 0), (23, .iload 6, 2, 0, 0, 0), (25, .iload_n 1, 1, 0, 0, 0), (26, .iastore, 1, 0, 0, 0), (27, .aload_n 0, 1, 0, 0, 0), (28, .getfield 11, 3, 1, 1, 0), (31, .iload 6, 2, 0, 0, 0), (33, .iconst 1, 1, 0, 0, 0), (34, .iadd, 1, 0, 0, 0), (35, .iload_n 2, 1, 0, 0, 0), (36, .iastore, 1, 0, 0, 0), (37, .aload_n 0, 1, 0, 0, 0), (38, .getfield 11, 3, 1, 1, 0), (41, .iload 6, 2, 0, 0, 0), (43, .iconst 2, 1, 0, 0, 0), (44, .iadd, 1, 0, 0, 0), (45, .iload_n 3, 1, 0, 0, 0), (46, .iastore, 1, 0, 0, 0), (47, .aload_n 0, 1, 0, 0, 0), (48, .getfield 11, 3, 1, 1, 0), (51, .iload 6, 2, 0, 0, 0), (53, .iconst 3, 1, 0, 0, 0), (54, .iadd, 1, 0, 0, 0), (55, .iload 4, 2, 0, 0, 0), (57, .iastore, 1, 0, 0, 0), (58, .aload_n 0, 1, 0, 0, 0), (59, .getfield 11, 3, 1, 1, 0), (62, .iload 6, 2, 0, 0, 0), (64, .iconst 4, 1, 0, 0, 0), (65, .iadd, 1, 0, 0, 0), (66, .iload 5, 2, 0, 0, 0), (68, .iastore, 1, 0, 0, 0), (69, .aload_n 0, 1, 0, 0, 0), (70, .dup, 1, 0, 0, 0), (71, .getfield 15, 3, 1, 0, 0), (74, .iconst 1, 1, 0, 0, 0), (75, .iadd, 1, 0, 0, 0), (76, .putfield 15, 3, 1, 0, 0), (79, .return_, 1, 0, 0, 0)]
/-- TierMill$Frames.<init>()V -/
def e_d10 : List (Nat × Instr × Nat × Nat × Nat × Int) := [(0, .aload_n 0, 1, 0, 0, 0), (1, .invokespecial 3, 3, 900, 0, 0), (4, .aload_n 0, 1, 0, 0, 0), (5, .bipush 64, 2, 0, 0, 0), (7, .newarray .int, 2, 20, 0, 0), (9, .putfield 9, 3, 2, 1, 0), (12, .aload_n 0, 1, 0, 0, 0), (13, .bipush 64, 2, 0, 0, 0), (15, .newarray .int, 2, 20, 0, 0), (17, .putfield 15, 3, 2, 2, 0), (20, .aload_n 0, 1, 0, 0, 0), (21, .bipush 64, 2, 0, 0, 0), (23, .newarray .int, 2, 20, 0, 0), (25, .putfield 18, 3, 2, 3, 0), (28, .aload_n 0, 1, 0, 0, 0), (29, .bipush 64, 2, 0, 0, 0), (31, .newarray .int, 2, 20, 0, 0), (33, .putfield 21, 3, 2, 4, 0), (36, .aload_n 0, 1, 0, 0, 0), (37, .bipush 64, 2, 0, 0, 0), (39, .newarray .int, 2, 20, 0, 0), (41, .putfield 24, 3, 2, 5, 0), (44, .aload_n 0, 1, 0, 0, 0), (45, .bipush 64, 2, 0, 0, 0), (47, .newarray .int, 2, 20, 0, 0), (49, .putfield 27, 3, 2, 6, 0), (52, .aload_n 0, 1, 0, 0, 0), (53, .sipush 1024, 3, 0, 0, 0), (56, .newarray .int, 2, 20, 0, 0), (58, .putfield 30, 3, 2, 7, 0), (61, .return_, 1, 0, 0, 0)]
/-- TierMill$Frames.fromLatest(I)I -/
def e_d11 : List (Nat × Instr × Nat × Nat × Nat × Int) := [(0, .iload_n 1, 1, 0, 0, 0), (1, .ifCond .lt 11, 3, 12, 0, 0), (4, .iload_n 1, 1, 0, 0, 0), (5, .aload_n 0, 1, 0, 0, 0), (6, .getfield 33, 3, 2, 0, 0), (9, .if_icmp .lt 7, 3, 16, 0, 0), (12, .iconst (-1), 1, 0, 0, 0), (13, .goto 11, 3, 24, 0, 0), (16, .aload_n 0, 1, 0, 0, 0), (17, .getfield 33, 3, 2, 0, 0), (20, .iconst 1, 1, 0, 0, 0), (21, .isub, 1, 0, 0, 0), (22, .iload_n 1, 1, 0, 0, 0), (23, .isub, 1, 0, 0, 0), (24, .ireturn, 1, 0, 0, 0)]
/-- TierMill$Frames.open(IIII)V -/
def e_d12 : List (Nat × Instr × Nat × Nat × Nat × Int) := [(0, .aload_n 0, 1, 0, 0, 0), (1, .getfield 33, 3, 2, 0, 0), (4, .istore 5, 2, 0, 0, 0), (6, .aload_n 0, 1, 0, 0, 0), (7, .getfield 9, 3, 2, 1, 0), (10, .iload 5, 2, 0, 0, 0), (12, .iload_n 1, 1, 0, 0, 0), (13, .iastore, 1, 0, 0, 0), (14, .aload_n 0, 1, 0, 0, 0), (15, .getfield 15, 3, 2, 2, 0), (18, .iload 5, 2, 0, 0, 0), (20, .iconst 0, 1, 0, 0, 0), (21, .iastore, 1, 0, 0, 0), (22, .aload_n 0, 1, 0, 0, 0), (23, .getfield 18, 3, 2, 3, 0), (26, .iload 5, 2, 0, 0, 0), (28, .iload_n 2, 1, 0, 0, 0), (29, .iastore, 1, 0, 0, 0), (30, .aload_n 0, 1, 0, 0, 0), (31, .getfield 21, 3, 2, 4, 0), (34, .iload 5, 2, 0, 0, 0), (36, .iload_n 3, 1, 0, 0, 0), (37, .iastore, 1, 0, 0, 0), (38, .aload_n 0, 1, 0, 0, 0), (39, .getfield 24, 3, 2, 5, 0), (42, .iload 5, 2, 0, 0, 0), (44, .iload 4, 2, 0, 0, 0), (46, .iastore, 1, 0, 0, 0), (47, .aload_n 0, 1, 0, 0, 0), (48, .getfield 27, 3, 2, 6, 0), (51, .iload 5, 2, 0, 0, 0), (53, .iconst 0, 1, 0, 0, 0), (54, .iastore, 1, 0, 0, 0), (55, .aload_n 0, 1, 0, 0, 0), (56, .dup, 1, 0, 0, 0), (57, .getfield 33, 3, 2, 0, 0), (60, .iconst 1, 1, 0, 0, 0), (61, .iadd, 1, 0, 0, 0), (62, .putfield 33, 3, 2, 0, 0), (65, .return_, 1, 0, 0, 0)]
/-- TierMill$Frames.becomePlain(I)V -/
def e_d13 : List (Nat × Instr × Nat × Nat × Nat × Int) := [(0, .aload_n 0, 1, 0, 0, 0), (1, .getfield 18, 3, 2, 3, 0), (4, .iload_n 1, 1, 0, 0, 0), (5, .iconst 0, 1, 0, 0, 0), (6, .iastore, 1, 0, 0, 0), (7, .aload_n 0, 1, 0, 0, 0), (8, .getfield 21, 3, 2, 4, 0), (11, .iload_n 1, 1, 0, 0, 0), (12, .iconst (-1), 1, 0, 0, 0), (13, .iastore, 1, 0, 0, 0), (14, .aload_n 0, 1, 0, 0, 0), (15, .getfield 24, 3, 2, 5, 0), (18, .iload_n 1, 1, 0, 0, 0), (19, .iconst (-1), 1, 0, 0, 0), (20, .iastore, 1, 0, 0, 0), (21, .return_, 1, 0, 0, 0)]
/-- TierMill$Frames.setArguments(IIII)V -/
def e_d14 : List (Nat × Instr × Nat × Nat × Nat × Int) := [(0, .aload_n 0, 1, 0, 0, 0), (1, .getfield 30, 3, 2, 7, 0), (4, .iconst 0, 1, 0, 0, 0), (5, .iload_n 1, 1, 0, 0, 0), (6, .iastore, 1, 0, 0, 0), (7, .aload_n 0, 1, 0, 0, 0), (8, .getfield 30, 3, 2, 7, 0), (11, .iconst 1, 1, 0, 0, 0), (12, .iload_n 2, 1, 0, 0, 0), (13, .iastore, 1, 0, 0, 0), (14, .aload_n 0, 1, 0, 0, 0), (15, .getfield 30, 3, 2, 7, 0), (18, .iconst 2, 1, 0, 0, 0), (19, .iload_n 3, 1, 0, 0, 0), (20, .iastore, 1, 0, 0, 0), (21, .aload_n 0, 1, 0, 0, 0), (22, .getfield 30, 3, 2, 7, 0), (25, .iconst 3, 1, 0, 0, 0), (26, .iload 4, 2, 0, 0, 0), (28, .iastore, 1, 0, 0, 0), (29, .return_, 1, 0, 0, 0)]
/-- TierMill$Frames.handOver(I)V -/
def e_d15 : List (Nat × Instr × Nat × Nat × Nat × Int) := [(0, .aload_n 0, 1, 0, 0, 0), (1, .getfield 33, 3, 2, 0, 0), (4, .iconst 2, 1, 0, 0, 0), (5, .isub, 1, 0, 0, 0), (6, .istore_n 2, 1, 0, 0, 0), (7, .aload_n 0, 1, 0, 0, 0), (8, .getfield 27, 3, 2, 6, 0), (11, .iload_n 2, 1, 0, 0, 0), (12, .dup2, 1, 0, 0, 0), (13, .iaload, 1, 0, 0, 0), (14, .iload_n 1, 1, 0, 0, 0), (15, .isub, 1, 0, 0, 0), (16, .iastore, 1, 0, 0, 0), (17, .iload_n 2, 1, 0, 0, 0), (18, .bipush 16, 2, 0, 0, 0), (20, .imul, 1, 0, 0, 0), (21, .bipush 8, 2, 0, 0, 0), (23, .iadd, 1, 0, 0, 0), (24, .aload_n 0, 1, 0, 0, 0), (25, .getfield 27, 3, 2, 6, 0), (28, .iload_n 2, 1, 0, 0, 0), (29, .iaload, 1, 0, 0, 0), (30, .iadd, 1, 0, 0, 0), (31, .istore_n 3, 1, 0, 0, 0), (32, .aload_n 0, 1, 0, 0, 0), (33, .getfield 33, 3, 2, 0, 0), (36, .iconst 1, 1, 0, 0, 0), (37, .isub, 1, 0, 0, 0), (38, .bipush 16, 2, 0, 0, 0), (40, .imul, 1, 0, 0, 0), (41, .istore 4, 2, 0, 0, 0), (43, .iconst 0, 1, 0, 0, 0), (44, .istore 5, 2, 0, 0, 0), (46, .iload 5, 2, 0, 0, 0), (48, .iload_n 1, 1, 0, 0, 0), (49, .if_icmp .ge 28, 3, 77, 0, 0), (52, .aload_n 0, 1, 0, 0, 0), (53, .getfield 30, 3, 2, 7, 0), (56, .iload 4, 2, 0, 0, 0), (58, .iload 5, 2, 0, 0, 0), (60, .iadd, 1, 0, 0, 0), (61, .aload_n 0, 1, 0, 0, 0), (62, .getfield 30, 3, 2, 7, 0), (65, .iload_n 3, 1, 0, 0, 0), (66, .iload 5, 2, 0, 0, 0), (68, .iadd, 1, 0, 0, 0), (69, .iaload, 1, 0, 0, 0), (70, .iastore, 1, 0, 0, 0), (71, .iinc 5 1, 3, 0, 0, 0), (74, .goto (-28), 3, 46, 0, 0), (77, .return_, 1, 0, 0, 0)]
/-- TierMill$Frames.peek(I)I -/
def e_d16 : List (Nat × Instr × Nat × Nat × Nat × Int) := [(0, .aload_n 0, 1, 0, 0, 0), (1, .getfield 33, 3, 2, 0, 0), (4, .iconst 1, 1, 0, 0, 0), (5, .isub, 1, 0, 0, 0), (6, .istore_n 2, 1, 0, 0, 0), (7, .aload_n 0, 1, 0, 0, 0), (8, .getfield 30, 3, 2, 7, 0), (11, .iload_n 2, 1, 0, 0, 0), (12, .bipush 16, 2, 0, 0, 0), (14, .imul, 1, 0, 0, 0), (15, .bipush 8, 2, 0, 0, 0), (17, .iadd, 1, 0, 0, 0), (18, .aload_n 0, 1, 0, 0, 0), (19, .getfield 27, 3, 2, 6, 0), (22, .iload_n 2, 1, 0, 0, 0), (23, .iaload, 1, 0, 0, 0), (24, .iadd, 1, 0, 0, 0), (25, .iconst 1, 1, 0, 0, 0), (26, .isub, 1, 0, 0, 0), (27, .iload_n 1, 1, 0, 0, 0), (28, .isub, 1, 0, 0, 0), (29, .iaload, 1, 0, 0, 0), (30, .ireturn, 1, 0, 0, 0)]
/-- TierMill$Frames.pop()I -/
def e_d17 : List (Nat × Instr × Nat × Nat × Nat × Int) := [(0, .aload_n 0, 1, 0, 0, 0), (1, .iconst 0, 1, 0, 0, 0), (2, .invokevirtual 37, 3, 16, 2, 1), (5, .istore_n 1, 1, 0, 0, 0), (6, .aload_n 0, 1, 0, 0, 0), (7, .getfield 27, 3, 2, 6, 0), (10, .aload_n 0, 1, 0, 0, 0), (11, .getfield 33, 3, 2, 0, 0), (14, .iconst 1, 1, 0, 0, 0), (15, .isub, 1, 0, 0, 0), (16, .dup2, 1, 0, 0, 0), (17, .iaload, 1, 0, 0, 0), (18, .iconst 1, 1, 0, 0, 0), (19, .isub, 1, 0, 0, 0), (20, .iastore, 1, 0, 0, 0), (21, .iload_n 1, 1, 0, 0, 0), (22, .ireturn, 1, 0, 0, 0)]
/-- TierMill$Frames.push(I)V -/
def e_d18 : List (Nat × Instr × Nat × Nat × Nat × Int) := [(0, .aload_n 0, 1, 0, 0, 0), (1, .getfield 33, 3, 2, 0, 0), (4, .iconst 1, 1, 0, 0, 0), (5, .isub, 1, 0, 0, 0), (6, .istore_n 2, 1, 0, 0, 0), (7, .aload_n 0, 1, 0, 0, 0), (8, .getfield 30, 3, 2, 7, 0), (11, .iload_n 2, 1, 0, 0, 0), (12, .bipush 16, 2, 0, 0, 0), (14, .imul, 1, 0, 0, 0), (15, .bipush 8, 2, 0, 0, 0), (17, .iadd, 1, 0, 0, 0), (18, .aload_n 0, 1, 0, 0, 0), (19, .getfield 27, 3, 2, 6, 0), (22, .iload_n 2, 1, 0, 0, 0), (23, .iaload, 1, 0, 0, 0), (24, .iadd, 1, 0, 0, 0), (25, .iload_n 1, 1, 0, 0, 0), (26, .iastore, 1, 0, 0, 0), (27, .aload_n 0, 1, 0, 0, 0), (28, .getfield 27, 3, 2, 6, 0), (31, .iload_n 2, 1, 0, 0, 0), (32, .dup2, 1, 0, 0, 0), (33, .iaload, 1, 0, 0, 0), (34, .iconst 1, 1, 0, 0, 0), (35, .iadd, 1, 0, 0, 0), (36, .iastore, 1, 0, 0, 0), (37, .return_, 1, 0, 0, 0)]
/-- TierMill$Frames.goOn(I)V -/
def e_d19 : List (Nat × Instr × Nat × Nat × Nat × Int) := [(0, .aload_n 0, 1, 0, 0, 0), (1, .getfield 15, 3, 2, 2, 0), (4, .aload_n 0, 1, 0, 0, 0), (5, .getfield 33, 3, 2, 0, 0), (8, .iconst 1, 1, 0, 0, 0), (9, .isub, 1, 0, 0, 0), (10, .dup2, 1, 0, 0, 0), (11, .iaload, 1, 0, 0, 0), (12, .iload_n 1, 1, 0, 0, 0), (13, .iadd, 1, 0, 0, 0), (14, .iastore, 1, 0, 0, 0), (15, .return_, 1, 0, 0, 0)]
/-- TierMill$Frames.kindsAt(LTierMill$Program;I)I -/
def e_d20 : List (Nat × Instr × Nat × Nat × Nat × Int) := [(0, .iload_n 2, 1, 0, 0, 0), (1, .aload_n 0, 1, 0, 0, 0), (2, .getfield 33, 3, 2, 0, 0), (5, .iconst 1, 1, 0, 0, 0), (6, .isub, 1, 0, 0, 0), (7, .if_icmp .ne 7, 3, 14, 0, 0), (10, .iconst 0, 1, 0, 0, 0), (11, .goto 9, 3, 20, 0, 0), (14, .getstatic 41, 3, 2, 1, 0), (17, .bipush 47, 2, 0, 0, 0), (19, .iaload, 1, 0, 0, 0), (20, .istore_n 3, 1, 0, 0, 0), (21, .aload_n 1, 1, 0, 0, 0), (22, .getfield 44, 3, 6, 10, 0), (25, .aload_n 0, 1, 0, 0, 0), (26, .getfield 9, 3, 2, 1, 0), (29, .iload_n 2, 1, 0, 0, 0), (30, .iaload, 1, 0, 0, 0), (31, .aaload, 1, 0, 0, 0), (32, .getfield 50, 3, 8, 5, 0), (35, .aload_n 0, 1, 0, 0, 0), (36, .getfield 15, 3, 2, 2, 0), (39, .iload_n 2, 1, 0, 0, 0), (40, .iaload, 1, 0, 0, 0), (41, .iadd, 1, 0, 0, 0), (42, .iload_n 3, 1, 0, 0, 0), (43, .isub, 1, 0, 0, 0), (44, .ireturn, 1, 0, 0, 0)]
/-- TierMill$Frames.kindOf(LTierMill$Program;II)I -/
def e_d21 : List (Nat × Instr × Nat × Nat × Nat × Int) := [(0, .aload_n 1, 1, 0, 0, 0), (1, .aload_n 0, 1, 0, 0, 0), (2, .aload_n 1, 1, 0, 0, 0), (3, .iload_n 2, 1, 0, 0, 0), (4, .invokevirtual 55, 3, 20, 2, 2), (7, .iload_n 3, 1, 0, 0, 0), (8, .invokevirtual 59, 3, 68, 6, 2), (11, .ireturn, 1, 0, 0, 0)]
/-- TierMill$Heap.<init>()V -/
def e_d22 : List (Nat × Instr × Nat × Nat × Nat × Int) := [(0, .aload_n 0, 1, 0, 0, 0), (1, .invokespecial 3, 3, 900, 0, 0), (4, .aload_n 0, 1, 0, 0, 0), (5, .sipush 4001, 3, 0, 0, 0), (8, .newarray .int, 2, 20, 0, 0), (10, .putfield 9, 3, 3, 3, 0), (13, .aload_n 0, 1, 0, 0, 0), (14, .sipush 4001, 3, 0, 0, 0), (17, .newarray .int, 2, 20, 0, 0), (19, .putfield 15, 3, 3, 4, 0), (22, .return_, 1, 0, 0, 0)]
/-- TierMill$Heap.clear(I)V -/
def e_d23 : List (Nat × Instr × Nat × Nat × Nat × Int) := [(0, .aload_n 0, 1, 0, 0, 0), (1, .iload_n 1, 1, 0, 0, 0), (2, .putfield 18, 3, 3, 0, 0), (5, .aload_n 0, 1, 0, 0, 0), (6, .iconst 0, 1, 0, 0, 0), (7, .putfield 22, 3, 3, 1, 0), (10, .aload_n 0, 1, 0, 0, 0), (11, .iconst 0, 1, 0, 0, 0), (12, .putfield 25, 3, 3, 2, 0), (15, .return_, 1, 0, 0, 0)]
/-- TierMill$Heap.hasRoom(J)Z -/
def e_d24 : List (Nat × Instr × Nat × Nat × Nat × Int) := [(0, .aload_n 0, 1, 0, 0, 0), (1, .getfield 22, 3, 3, 1, 0), (4, .i2l, 1, 0, 0, 0), (5, .lload_n 1, 1, 0, 0, 0), (6, .ladd, 1, 0, 0, 0), (7, .aload_n 0, 1, 0, 0, 0), (8, .getfield 18, 3, 3, 0, 0), (11, .i2l, 1, 0, 0, 0), (12, .lcmp, 1, 0, 0, 0), (13, .ifCond .gt 7, 3, 20, 0, 0), (16, .iconst 1, 1, 0, 0, 0), (17, .goto 4, 3, 21, 0, 0), (20, .iconst 0, 1, 0, 0, 0), (21, .ireturn, 1, 0, 0, 0)]
/-- TierMill$Heap.numberOf(I)I -/
def e_d25 : List (Nat × Instr × Nat × Nat × Nat × Int) := [(0, .aload_n 0, 1, 0, 0, 0), (1, .getfield 9, 3, 3, 3, 0), (4, .iload_n 1, 1, 0, 0, 0), (5, .iaload, 1, 0, 0, 0), (6, .ireturn, 1, 0, 0, 0)]
/-- TierMill$Heap.tagOf(I)I -/
def e_d26 : List (Nat × Instr × Nat × Nat × Nat × Int) := [(0, .aload_n 0, 1, 0, 0, 0), (1, .getfield 9, 3, 3, 3, 0), (4, .iload_n 1, 1, 0, 0, 0), (5, .iconst 1, 1, 0, 0, 0), (6, .iadd, 1, 0, 0, 0), (7, .iaload, 1, 0, 0, 0), (8, .ireturn, 1, 0, 0, 0)]
/-- TierMill$Heap.partsOf(LTierMill$Program;I)I -/
def e_d27 : List (Nat × Instr × Nat × Nat × Nat × Int) := [(0, .iload_n 2, 1, 0, 0, 0), (1, .bipush 16, 2, 0, 0, 0), (3, .if_icmp .lt 10, 3, 13, 0, 0), (6, .iload_n 2, 1, 0, 0, 0), (7, .bipush 16, 2, 0, 0, 0), (9, .isub, 1, 0, 0, 0), (10, .goto 9, 3, 19, 0, 0), (13, .aload_n 1, 1, 0, 0, 0), (14, .getfield 28, 3, 6, 5, 0), (17, .iload_n 2, 1, 0, 0, 0), (18, .iaload, 1, 0, 0, 0), (19, .ireturn, 1, 0, 0, 0)]
/-- TierMill$Heap.partOf(II)I -/
def e_d28 : List (Nat × Instr × Nat × Nat × Nat × Int) := [(0, .aload_n 0, 1, 0, 0, 0), (1, .getfield 9, 3, 3, 3, 0), (4, .iload_n 1, 1, 0, 0, 0), (5, .iconst 2, 1, 0, 0, 0), (6, .iadd, 1, 0, 0, 0), (7, .iload_n 2, 1, 0, 0, 0), (8, .iadd, 1, 0, 0, 0), (9, .iaload, 1, 0, 0, 0), (10, .ireturn, 1, 0, 0, 0)]
/-- TierMill$Heap.setPart(III)V -/
def e_d29 : List (Nat × Instr × Nat × Nat × Nat × Int) := [(0, .aload_n 0, 1, 0, 0, 0), (1, .getfield 9, 3, 3, 3, 0), (4, .iload_n 1, 1, 0, 0, 0), (5, .iconst 2, 1, 0, 0, 0), (6, .iadd, 1, 0, 0, 0), (7, .iload_n 2, 1, 0, 0, 0), (8, .iadd, 1, 0, 0, 0), (9, .iload_n 3, 1, 0, 0, 0), (10, .iastore, 1, 0, 0, 0), (11, .return_, 1, 0, 0, 0)]
/-- TierMill$Heap.make(II)I -/
def e_d30 : List (Nat × Instr × Nat × Nat × Nat × Int) := [(0, .aload_n 0, 1, 0, 0, 0), (1, .getfield 22, 3, 3, 1, 0), (4, .iconst 1, 1, 0, 0, 0), (5, .iadd, 1, 0, 0, 0), (6, .istore_n 3, 1, 0, 0, 0), (7, .aload_n 0, 1, 0, 0, 0), (8, .dup, 1, 0, 0, 0), (9, .getfield 25, 3, 3, 2, 0), (12, .iconst 1, 1, 0, 0, 0), (13, .iadd, 1, 0, 0, 0), (14, .putfield 25, 3, 3, 2, 0), (17, .aload_n 0, 1, 0, 0, 0), (18, .getfield 9, 3, 3, 3, 0), (21, .iload_n 3, 1, 0, 0, 0), (22, .aload_n 0, 1, 0, 0, 0), (23, .getfield 25, 3, 3, 2, 0), (26, .iastore, 1, 0, 0, 0), (27, .aload_n 0, 1, 0, 0, 0), (28, .getfield 9, 3, 3, 3, 0), (31, .iload_n 3, 1, 0, 0, 0), (32, .iconst 1, 1, 0, 0, 0), (33, .iadd, 1, 0, 0, 0), (34, .iload_n 1, 1, 0, 0, 0), (35, .iastore, 1, 0, 0, 0), (36, .aload_n 0, 1, 0, 0, 0), (37, .getfield 9, 3, 3, 3, 0), (40, .iload_n 3, 1, 0, 0, 0), (41, .iconst 2, 1, 0, 0, 0), (42, .iadd, 1, 0, 0, 0), (43, .iload_n 3, 1, 0, 0, 0), (44, .iconst 2, 1, 0, 0, 0), (45, .iadd, 1, 0, 0, 0), (46, .iload_n 2, 1, 0, 0, 0), (47, .iadd, 1, 0, 0, 0), (48, .iconst 0, 1, 0, 0, 0), (49, .invokestatic 33, 3, 234, 0, 4), (52, .aload_n 0, 1, 0, 0, 0), (53, .dup, 1, 0, 0, 0), (54, .getfield 22, 3, 3, 1, 0), (57, .iconst 2, 1, 0, 0, 0), (58, .iload_n 2, 1, 0, 0, 0), (59, .iadd, 1, 0, 0, 0), (60, .iadd, 1, 0, 0, 0), (61, .putfield 22, 3, 3, 1, 0), (64, .iload_n 3, 1, 0, 0, 0), (65, .ireturn, 1, 0, 0, 0)]
/-- TierMill$Heap.collect(LTierMill$Program;LTierMill$Frames;)V -/
def e_d31 : List (Nat × Instr × Nat × Nat × Nat × Int) := [(0, .aload_n 0, 1, 0, 0, 0), (1, .getfield 9, 3, 3, 3, 0), (4, .astore_n 3, 1, 0, 0, 0), (5, .aload_n 0, 1, 0, 0, 0), (6, .aload_n 0, 1, 0, 0, 0), (7, .getfield 15, 3, 3, 4, 0), (10, .putfield 9, 3, 3, 3, 0), (13, .aload_n 0, 1, 0, 0, 0), (14, .aload_n 3, 1, 0, 0, 0), (15, .putfield 15, 3, 3, 4, 0), (18, .aload_n 0, 1, 0, 0, 0), (19, .iconst 0, 1, 0, 0, 0), (20, .putfield 22, 3, 3, 1, 0), (23, .iconst 0, 1, 0, 0, 0), (24, .istore 4, 2, 0, 0, 0), (26, .iload 4, 2, 0, 0, 0), (28, .aload_n 2, 1, 0, 0, 0), (29, .getfield 39, 3, 2, 0, 0), (32, .if_icmp .ge 90, 3, 122, 0, 0), (35, .aload_n 2, 1, 0, 0, 0), (36, .aload_n 1, 1, 0, 0, 0), (37, .iload 4, 2, 0, 0, 0), (39, .invokevirtual 44, 3, 20, 2, 2), (42, .istore 5, 2, 0, 0, 0), (44, .iload 4, 2, 0, 0, 0), (46, .bipush 16, 2, 0, 0, 0), (48, .imul, 1, 0, 0, 0), (49, .istore 6, 2, 0, 0, 0), (51, .aload_n 1, 1, 0, 0, 0), (52, .getfield 48, 3, 6, 10, 0), (55, .aload_n 2, 1, 0, 0, 0), (56, .getfield 52, 3, 2, 1, 0), (59, .iload 4, 2, 0, 0, 0), (61, .iaload, 1, 0, 0, 0), (62, .aaload, 1, 0, 0, 0), (63, .getfield 55, 3, 8, 3, 0), (66, .istore 7, 2, 0, 0, 0), (68, .aload_n 0, 1, 0, 0, 0), (69, .aload_n 1, 1, 0, 0, 0), (70, .aload_n 2, 1, 0, 0, 0), (71, .getfield 60, 3, 2, 7, 0), (74, .aload_n 1, 1, 0, 0, 0), (75, .getfield 63, 3, 6, 16, 0), (78, .iload 5, 2, 0, 0, 0), (80, .laload, 1, 0, 0, 0), (81, .iload 6, 2, 0, 0, 0), (83, .iload 7, 2, 0, 0, 0), (85, .invokevirtual 67, 3, 32, 3, 5), (88, .aload_n 0, 1, 0, 0, 0), (89, .aload_n 1, 1, 0, 0, 0), (90, .aload_n 2, 1, 0, 0, 0), (91, .getfield 60, 3, 2, 7, 0), (94, .aload_n 1, 1, 0, 0, 0), (95, .getfield 71, 3, 6, 17, 0), (98, .iload 5, 2, 0, 0, 0), (100, .laload, 1, 0, 0, 0), (101, .iload 6, 2, 0, 0, 0), (103, .bipush 8, 2, 0, 0, 0), (105, .iadd, 1, 0, 0, 0), (106, .aload_n 2, 1, 0, 0, 0), (107, .getfield 74, 3, 2, 6, 0), (110, .iload 4, 2, 0, 0, 0), (112, .iaload, 1, 0, 0, 0), (113, .invokevirtual 67, 3, 32, 3, 5), (116, .iinc 4 1, 3, 0, 0, 0), (119, .goto (-93), 3, 26, 0, 0), (122, .iconst 1, 1, 0, 0, 0), (123, .istore 4, 2, 0, 0, 0), (125, .iload 4, 2, 0, 0, 0), (127, .aload_n 0, 1, 0, 0, 0), (128, .getfield 22, 3, 3, 1, 0), (131, .if_icmp .gt 55, 3, 186, 0, 0), (134, .iload 4, 2, 0, 0, 0), (136, .sipush 4000, 3, 0, 0, 0), (139, .if_icmp .ge 47, 3, 186, 0, 0), (142, .aload_n 0, 1, 0, 0, 0), (143, .getfield 9, 3, 3, 3, 0), (146, .iload 4, 2, 0, 0, 0), (148, .iconst 1, 1, 0, 0, 0), (149, .iadd, 1, 0, 0, 0), (150, .iaload, 1, 0, 0, 0), (151, .istore 5, 2, 0, 0, 0), (153, .iload 5, 2, 0, 0, 0), (155, .bipush 16, 2, 0, 0, 0), (157, .if_icmp .ge 12, 3, 169, 0, 0), (160, .aload_n 0, 1, 0, 0, 0), (161, .aload_n 1, 1, 0, 0, 0), (162, .iload 4, 2, 0, 0, 0), (164, .iload 5, 2, 0, 0, 0), (166, .invokevirtual 77, 3, 33, 3, 3), (169, .iload 4, 2, 0, 0, 0), (171, .iconst 2, 1, 0, 0, 0), (172, .aload_n 0, 1, 0, 0, 0), (173, .aload_n 1, 1, 0, 0, 0), (174, .iload 5, 2, 0, 0, 0), (176, .invokevirtual 81, 3, 27, 3, 2), (179, .iadd, 1, 0, 0, 0), (180, .iadd, 1, 0, 0, 0), (181, .istore 4, 2, 0, 0, 0), (183, .goto (-58), 3, 125, 0, 0), (186, .return_, 1, 0, 0, 0)]
/-- TierMill$Heap.bringSlots(LTierMill$Program;[IJII)V -/
def e_d32 : List (Nat × Instr × Nat × Nat × Nat × Int) := [(0, .lload_n 3, 1, 0, 0, 0), (1, .ldc2_w 84, 3, 0, 0, (-72340172838076674)), (4, .land, 1, 0, 0, 0), (5, .lconst 0, 1, 0, 0, 0), (6, .lcmp, 1, 0, 0, 0), (7, .ifCond .ne 4, 3, 11, 0, 0), (10, .return_, 1, 0, 0, 0), (11, .iconst 0, 1, 0, 0, 0), (12, .istore 7, 2, 0, 0, 0), (14, .iload 7, 2, 0, 0, 0), (16, .iload 6, 2, 0, 0, 0), (18, .if_icmp .ge 40, 3, 58, 0, 0), (21, .lload_n 3, 1, 0, 0, 0), (22, .iload 7, 2, 0, 0, 0), (24, .invokestatic 86, 3, 69, 0, 2), (27, .invokestatic 90, 3, 70, 0, 1), (30, .ifCond .eq 22, 3, 52, 0, 0), (33, .aload_n 2, 1, 0, 0, 0), (34, .iload 5, 2, 0, 0, 0), (36, .iload 7, 2, 0, 0, 0), (38, .iadd, 1, 0, 0, 0), (39, .aload_n 0, 1, 0, 0, 0), (40, .aload_n 1, 1, 0, 0, 0), (41, .aload_n 2, 1, 0, 0, 0), (42, .iload 5, 2, 0, 0, 0), (44, .iload 7, 2, 0, 0, 0), (46, .iadd, 1, 0, 0, 0), (47, .iaload, 1, 0, 0, 0), (48, .invokevirtual 94, 3, 34, 3, 2), (51, .iastore, 1, 0, 0, 0), (52, .iinc 7 1, 3, 0, 0, 0), (55, .goto (-41), 3, 14, 0, 0), (58, .return_, 1, 0, 0, 0)]
/-- TierMill$Heap.bringFields(LTierMill$Program;II)V -/
def e_d33 : List (Nat × Instr × Nat × Nat × Nat × Int) := [(0, .iconst 0, 1, 0, 0, 0), (1, .istore 4, 2, 0, 0, 0), (3, .iload 4, 2, 0, 0, 0), (5, .aload_n 1, 1, 0, 0, 0), (6, .getfield 28, 3, 6, 5, 0), (9, .iload_n 3, 1, 0, 0, 0), (10, .iaload, 1, 0, 0, 0), (11, .if_icmp .ge 52, 3, 63, 0, 0), (14, .aload_n 1, 1, 0, 0, 0), (15, .getfield 97, 3, 6, 6, 0), (18, .iload_n 3, 1, 0, 0, 0), (19, .bipush 8, 2, 0, 0, 0), (21, .imul, 1, 0, 0, 0), (22, .iload 4, 2, 0, 0, 0), (24, .iadd, 1, 0, 0, 0), (25, .iaload, 1, 0, 0, 0), (26, .iconst 1, 1, 0, 0, 0), (27, .if_icmp .eq 30, 3, 57, 0, 0), (30, .aload_n 0, 1, 0, 0, 0), (31, .getfield 9, 3, 3, 3, 0), (34, .iload_n 2, 1, 0, 0, 0), (35, .iconst 2, 1, 0, 0, 0), (36, .iadd, 1, 0, 0, 0), (37, .iload 4, 2, 0, 0, 0), (39, .iadd, 1, 0, 0, 0), (40, .aload_n 0, 1, 0, 0, 0), (41, .aload_n 1, 1, 0, 0, 0), (42, .aload_n 0, 1, 0, 0, 0), (43, .getfield 9, 3, 3, 3, 0), (46, .iload_n 2, 1, 0, 0, 0), (47, .iconst 2, 1, 0, 0, 0), (48, .iadd, 1, 0, 0, 0), (49, .iload 4, 2, 0, 0, 0), (51, .iadd, 1, 0, 0, 0), (52, .iaload, 1, 0, 0, 0), (53, .invokevirtual 94, 3, 34, 3, 2), (56, .iastore, 1, 0, 0, 0), (57, .iinc 4 1, 3, 0, 0, 0), (60, .goto (-57), 3, 3, 0, 0), (63, .return_, 1, 0, 0, 0)]
/-- TierMill$Heap.broughtOver(LTierMill$Program;I)I -/
def e_d34 : List (Nat × Instr × Nat × Nat × Nat × Int) := [(0, .iload_n 2, 1, 0, 0, 0), (1, .ifCond .ne 5, 3, 6, 0, 0), (4, .iconst 0, 1, 0, 0, 0), (5, .ireturn, 1, 0, 0, 0), (6, .aload_n 0, 1, 0, 0, 0), (7, .getfield 15, 3, 3, 4, 0), (10, .iload_n 2, 1, 0, 0, 0), (11, .iaload, 1, 0, 0, 0), (12, .ifCond .ge 11, 3, 23, 0, 0), (15, .aload_n 0, 1, 0, 0, 0), (16, .getfield 15, 3, 3, 4, 0), (19, .iload_n 2, 1, 0, 0, 0), (20, .iaload, 1, 0, 0, 0), (21, .ineg, 1, 0, 0, 0), (22, .ireturn, 1, 0, 0, 0), (23, .aload_n 0, 1, 0, 0, 0), (24, .getfield 22, 3, 3, 1, 0), (27, .iconst 1, 1, 0, 0, 0), (28, .iadd, 1, 0, 0, 0), (29, .istore_n 3, 1, 0, 0, 0), (30, .iconst 2, 1, 0, 0, 0), (31, .aload_n 0, 1, 0, 0, 0), (32, .aload_n 1, 1, 0, 0, 0), (33, .aload_n 0, 1, 0, 0, 0), (34, .getfield 15, 3, 3, 4, 0), (37, .iload_n 2, 1, 0, 0, 0), (38, .iconst 1, 1, 0, 0, 0), (39, .iadd, 1, 0, 0, 0), (40, .iaload, 1, 0, 0, 0), (41, .invokevirtual 81, 3, 27, 3, 2), (44, .iadd, 1, 0, 0, 0), (45, .istore 4, 2, 0, 0, 0), (47, .aload_n 0, 1, 0, 0, 0), (48, .getfield 15, 3, 3, 4, 0), (51, .iload_n 2, 1, 0, 0, 0), (52, .aload_n 0, 1, 0, 0, 0), (53, .getfield 9, 3, 3, 3, 0), (56, .iload_n 3, 1, 0, 0, 0), (57, .iload 4, 2, 0, 0, 0), (59, .invokestatic 100, 3, 901, 0, 5), (62, .aload_n 0, 1, 0, 0, 0), (63, .getfield 15, 3, 3, 4, 0), (66, .iload_n 2, 1, 0, 0, 0), (67, .iload_n 3, 1, 0, 0, 0), (68, .ineg, 1, 0, 0, 0), (69, .iastore, 1, 0, 0, 0), (70, .aload_n 0, 1, 0, 0, 0), (71, .dup, 1, 0, 0, 0), (72, .getfield 22, 3, 3, 1, 0), (75, .iload 4, 2, 0, 0, 0), (77, .iadd, 1, 0, 0, 0), (78, .putfield 22, 3, 3, 1, 0), (81, .iload_n 3, 1, 0, 0, 0), (82, .ireturn, 1, 0, 0, 0)]
/-- TierMill$Machine.<init>()V -/
def e_d35 : List (Nat × Instr × Nat × Nat × Nat × Int) := [(0, .aload_n 0, 1, 0, 0, 0), (1, .invokespecial 3, 3, 900, 0, 0), (4, .aload_n 0, 1, 0, 0, 0), (5, .new 9, 3, 2, 0, 0), (8, .dup, 1, 0, 0, 0), (9, .invokespecial 11, 3, 10, 0, 0), (12, .putfield 12, 3, 4, 0, 0), (15, .aload_n 0, 1, 0, 0, 0), (16, .new 18, 3, 3, 0, 0), (19, .dup, 1, 0, 0, 0), (20, .invokespecial 20, 3, 22, 0, 0), (23, .putfield 21, 3, 4, 1, 0), (26, .aload_n 0, 1, 0, 0, 0), (27, .new 25, 3, 9, 0, 0), (30, .dup, 1, 0, 0, 0), (31, .invokespecial 27, 3, 82, 0, 0), (34, .putfield 28, 3, 4, 2, 0), (37, .aload_n 0, 1, 0, 0, 0), (38, .new 32, 3, 1, 0, 0), (41, .dup, 1, 0, 0, 0), (42, .invokespecial 34, 3, 8, 0, 0), (45, .putfield 35, 3, 4, 3, 0), (48, .aload_n 0, 1, 0, 0, 0), (49, .sipush 500, 3, 0, 0, 0), (52, .newarray .int, 2, 20, 0, 0), (54, .putfield 39, 3, 4, 4, 0), (57, .aload_n 0, 1, 0, 0, 0), (58, .bipush 100, 2, 0, 0, 0), (60, .newarray .int, 2, 20, 0, 0), (62, .putfield 43, 3, 4, 12, 0), (65, .aload_n 0, 1, 0, 0, 0), (66, .getfield 28, 3, 4, 2, 0), (69, .invokevirtual 46, 3, 83, 9, 0), (72, .return_, 1, 0, 0, 0)]
/-- TierMill$Machine.takeInput(I)Z -/
def e_d36 : List (Nat × Instr × Nat × Nat × Nat × Int) := [(0, .aload_n 0, 1, 0, 0, 0), (1, .getfield 49, 3, 4, 11, 0), (4, .bipush 100, 2, 0, 0, 0), (6, .if_icmp .lt 5, 3, 11, 0, 0), (9, .iconst 0, 1, 0, 0, 0), (10, .ireturn, 1, 0, 0, 0), (11, .aload_n 0, 1, 0, 0, 0), (12, .getfield 43, 3, 4, 12, 0), (15, .aload_n 0, 1, 0, 0, 0), (16, .getfield 53, 3, 4, 13, 0), (19, .aload_n 0, 1, 0, 0, 0), (20, .getfield 49, 3, 4, 11, 0), (23, .iadd, 1, 0, 0, 0), (24, .bipush 100, 2, 0, 0, 0), (26, .irem, 1, 0, 0, 0), (27, .iload_n 1, 1, 0, 0, 0), (28, .iastore, 1, 0, 0, 0), (29, .aload_n 0, 1, 0, 0, 0), (30, .dup, 1, 0, 0, 0), (31, .getfield 49, 3, 4, 11, 0), (34, .iconst 1, 1, 0, 0, 0), (35, .iadd, 1, 0, 0, 0), (36, .putfield 49, 3, 4, 11, 0), (39, .iconst 1, 1, 0, 0, 0), (40, .ireturn, 1, 0, 0, 0)]
/-- TierMill$Machine.forget()V -/
def e_d37 : List (Nat × Instr × Nat × Nat × Nat × Int) := [(0, .aload_n 0, 1, 0, 0, 0), (1, .iconst 0, 1, 0, 0, 0), (2, .putfield 56, 3, 4, 6, 0), (5, .aload_n 0, 1, 0, 0, 0), (6, .iconst 0, 1, 0, 0, 0), (7, .putfield 59, 3, 4, 7, 0), (10, .aload_n 0, 1, 0, 0, 0), (11, .iconst 0, 1, 0, 0, 0), (12, .putfield 62, 3, 4, 8, 0), (15, .aload_n 0, 1, 0, 0, 0), (16, .iconst 0, 1, 0, 0, 0), (17, .putfield 65, 3, 4, 9, 0), (20, .aload_n 0, 1, 0, 0, 0), (21, .iconst 0, 1, 0, 0, 0), (22, .putfield 68, 3, 4, 5, 0), (25, .aload_n 0, 1, 0, 0, 0), (26, .getfield 12, 3, 4, 0, 0), (29, .iconst 0, 1, 0, 0, 0), (30, .putfield 71, 3, 2, 0, 0), (33, .aload_n 0, 1, 0, 0, 0), (34, .getfield 35, 3, 4, 3, 0), (37, .iconst 0, 1, 0, 0, 0), (38, .putfield 74, 3, 1, 0, 0), (41, .aload_n 0, 1, 0, 0, 0), (42, .getfield 21, 3, 4, 1, 0), (45, .iconst 0, 1, 0, 0, 0), (46, .invokevirtual 77, 3, 23, 3, 1), (49, .aload_n 0, 1, 0, 0, 0), (50, .getfield 28, 3, 4, 2, 0), (53, .invokevirtual 46, 3, 83, 9, 0), (56, .return_, 1, 0, 0, 0)]
/-- TierMill$Machine.begin(LTierMill$Program;I)V -/
def e_d38 : List (Nat × Instr × Nat × Nat × Nat × Int) := [(0, .aload_n 0, 1, 0, 0, 0), (1, .aload_n 1, 1, 0, 0, 0), (2, .putfield 80, 3, 4, 14, 0), (5, .aload_n 0, 1, 0, 0, 0), (6, .iconst 1, 1, 0, 0, 0), (7, .putfield 56, 3, 4, 6, 0), (10, .aload_n 0, 1, 0, 0, 0), (11, .getfield 21, 3, 4, 1, 0), (14, .iload_n 2, 1, 0, 0, 0), (15, .invokevirtual 77, 3, 23, 3, 1), (18, .aload_n 0, 1, 0, 0, 0), (19, .getfield 28, 3, 4, 2, 0), (22, .aload_n 0, 1, 0, 0, 0), (23, .getfield 80, 3, 4, 14, 0), (26, .invokevirtual 84, 3, 84, 9, 1), (29, .aload_n 0, 1, 0, 0, 0), (30, .iconst 0, 1, 0, 0, 0), (31, .invokevirtual 88, 3, 58, 4, 1), (34, .return_, 1, 0, 0, 0)]
/-- TierMill$Machine.seen(IZ)I -/
def e_d39 : List (Nat × Instr × Nat × Nat × Nat × Int) := [(0, .iload_n 2, 1, 0, 0, 0), (1, .ifCond .ne 7, 3, 8, 0, 0), (4, .iload_n 1, 1, 0, 0, 0), (5, .ifCond .ne 7, 3, 12, 0, 0), (8, .iload_n 1, 1, 0, 0, 0), (9, .goto 11, 3, 20, 0, 0), (12, .aload_n 0, 1, 0, 0, 0), (13, .getfield 21, 3, 4, 1, 0), (16, .iload_n 1, 1, 0, 0, 0), (17, .invokevirtual 91, 3, 25, 3, 1), (20, .ireturn, 1, 0, 0, 0)]
/-- TierMill$Machine.advance(I)I -/
def e_d40 : List (Nat × Instr × Nat × Nat × Nat × Int) := [(0, .iconst 0, 1, 0, 0, 0), (1, .istore_n 2, 1, 0, 0, 0), (2, .iload_n 2, 1, 0, 0, 0), (3, .iload_n 1, 1, 0, 0, 0), (4, .if_icmp .ge 115, 3, 119, 0, 0), (7, .aload_n 0, 1, 0, 0, 0), (8, .getfield 56, 3, 4, 6, 0), (11, .iconst 1, 1, 0, 0, 0), (12, .if_icmp .ne 107, 3, 119, 0, 0), (15, .aload_n 0, 1, 0, 0, 0), (16, .getfield 12, 3, 4, 0, 0), (19, .getfield 71, 3, 2, 0, 0), (22, .iconst 1, 1, 0, 0, 0), (23, .isub, 1, 0, 0, 0), (24, .istore_n 3, 1, 0, 0, 0), (25, .aload_n 0, 1, 0, 0, 0), (26, .aload_n 0, 1, 0, 0, 0), (27, .getfield 80, 3, 4, 14, 0), (30, .getfield 95, 3, 6, 10, 0), (33, .aload_n 0, 1, 0, 0, 0), (34, .getfield 12, 3, 4, 0, 0), (37, .getfield 101, 3, 2, 1, 0), (40, .iload_n 3, 1, 0, 0, 0), (41, .iaload, 1, 0, 0, 0), (42, .aaload, 1, 0, 0, 0), (43, .getfield 104, 3, 8, 5, 0), (46, .aload_n 0, 1, 0, 0, 0), (47, .getfield 12, 3, 4, 0, 0), (50, .getfield 109, 3, 2, 2, 0), (53, .iload_n 3, 1, 0, 0, 0), (54, .iaload, 1, 0, 0, 0), (55, .iadd, 1, 0, 0, 0), (56, .putfield 112, 3, 4, 15, 0), (59, .aload_n 0, 1, 0, 0, 0), (60, .aload_n 0, 1, 0, 0, 0), (61, .aload_n 0, 1, 0, 0, 0), (62, .getfield 80, 3, 4, 14, 0), (65, .getfield 115, 3, 6, 0, 0), (68, .aload_n 0, 1, 0, 0, 0), (69, .getfield 112, 3, 4, 15, 0), (72, .iaload, 1, 0, 0, 0), (73, .invokevirtual 118, 3, 41, 4, 1), (76, .putfield 59, 3, 4, 7, 0), (79, .aload_n 0, 1, 0, 0, 0), (80, .getfield 59, 3, 4, 7, 0), (83, .ifCond .eq 10, 3, 93, 0, 0), (86, .aload_n 0, 1, 0, 0, 0), (87, .iconst 3, 1, 0, 0, 0), (88, .putfield 56, 3, 4, 6, 0), (91, .iload_n 2, 1, 0, 0, 0), (92, .ireturn, 1, 0, 0, 0), (93, .iinc 2 1, 3, 0, 0, 0), (96, .aload_n 0, 1, 0, 0, 0), (97, .dup, 1, 0, 0, 0), (98, .getfield 65, 3, 4, 9, 0), (101, .iconst 1, 1, 0, 0, 0), (102, .iadd, 1, 0, 0, 0), (103, .putfield 65, 3, 4, 9, 0), (106, .aload_n 0, 1, 0, 0, 0), (107, .dup, 1, 0, 0, 0), (108, .getfield 121, 3, 4, 10, 0), (111, .iconst 1, 1, 0, 0, 0), (112, .iadd, 1, 0, 0, 0), (113, .putfield 121, 3, 4, 10, 0), (116, .goto (-114), 3, 2, 0, 0), (119, .iload_n 2, 1, 0, 0, 0), (120, .ireturn, 1, 0, 0, 0)]
/-- TierMill$Machine.step(I)I -/
def e_d41 : List (Nat × Instr × Nat × Nat × Nat × Int) := [(0, .iload_n 1, 1, 0, 0, 0), (1, .bipush 8, 2, 0, 0, 0), (3, .if_icmp .lt 15, 3, 18, 0, 0), (6, .iload_n 1, 1, 0, 0, 0), (7, .bipush 19, 2, 0, 0, 0), (9, .if_icmp .gt 9, 3, 18, 0, 0), (12, .aload_n 0, 1, 0, 0, 0), (13, .iload_n 1, 1, 0, 0, 0), (14, .invokevirtual 124, 3, 45, 4, 1), (17, .ireturn, 1, 0, 0, 0), (18, .iload_n 1, 1, 0, 0, 0), (19, .bipush 20, 2, 0, 0, 0), (21, .if_icmp .gt 9, 3, 30, 0, 0), (24, .aload_n 0, 1, 0, 0, 0), (25, .iload_n 1, 1, 0, 0, 0), (26, .invokevirtual 127, 3, 42, 4, 1), (29, .ireturn, 1, 0, 0, 0), (30, .iload_n 1, 1, 0, 0, 0), (31, .bipush 37, 2, 0, 0, 0), (33, .if_icmp .le 9, 3, 42, 0, 0), (36, .iload_n 1, 1, 0, 0, 0), (37, .bipush 53, 2, 0, 0, 0), (39, .if_icmp .ne 9, 3, 48, 0, 0), (42, .aload_n 0, 1, 0, 0, 0), (43, .iload_n 1, 1, 0, 0, 0), (44, .invokevirtual 130, 3, 47, 4, 1), (47, .ireturn, 1, 0, 0, 0), (48, .iload_n 1, 1, 0, 0, 0), (49, .bipush 38, 2, 0, 0, 0), (51, .if_icmp .eq 9, 3, 60, 0, 0), (54, .iload_n 1, 1, 0, 0, 0), (55, .bipush 41, 2, 0, 0, 0), (57, .if_icmp .ne 9, 3, 66, 0, 0), (60, .aload_n 0, 1, 0, 0, 0), (61, .iload_n 1, 1, 0, 0, 0), (62, .invokevirtual 133, 3, 51, 4, 1), (65, .ireturn, 1, 0, 0, 0), (66, .iload_n 1, 1, 0, 0, 0), (67, .bipush 40, 2, 0, 0, 0), (69, .if_icmp .gt 9, 3, 78, 0, 0), (72, .aload_n 0, 1, 0, 0, 0), (73, .iload_n 1, 1, 0, 0, 0), (74, .invokevirtual 136, 3, 52, 4, 1), (77, .ireturn, 1, 0, 0, 0), (78, .iload_n 1, 1, 0, 0, 0), (79, .bipush 44, 2, 0, 0, 0), (81, .if_icmp .gt 9, 3, 90, 0, 0), (84, .aload_n 0, 1, 0, 0, 0), (85, .iload_n 1, 1, 0, 0, 0), (86, .invokevirtual 139, 3, 53, 4, 1), (89, .ireturn, 1, 0, 0, 0), (90, .iload_n 1, 1, 0, 0, 0), (91, .bipush 46, 2, 0, 0, 0), (93, .if_icmp .gt 9, 3, 102, 0, 0), (96, .aload_n 0, 1, 0, 0, 0), (97, .iload_n 1, 1, 0, 0, 0), (98, .invokevirtual 142, 3, 54, 4, 1), (101, .ireturn, 1, 0, 0, 0), (102, .iload_n 1, 1, 0, 0, 0), (103, .bipush 48, 2, 0, 0, 0), (105, .if_icmp .gt 9, 3, 114, 0, 0), (108, .aload_n 0, 1, 0, 0, 0), (109, .iload_n 1, 1, 0, 0, 0), (110, .invokevirtual 145, 3, 55, 4, 1), (113, .ireturn, 1, 0, 0, 0), (114, .iload_n 1, 1, 0, 0, 0), (115, .bipush 50, 2, 0, 0, 0), (117, .if_icmp .gt 11, 3, 128, 0, 0), (120, .aload_n 0, 1, 0, 0, 0), (121, .iload_n 1, 1, 0, 0, 0), (122, .invokevirtual 148, 3, 59, 4, 1), (125, .goto 8, 3, 133, 0, 0), (128, .aload_n 0, 1, 0, 0, 0), (129, .iload_n 1, 1, 0, 0, 0), (130, .invokevirtual 151, 3, 60, 4, 1), (133, .ireturn, 1, 0, 0, 0)]
/-- TierMill$Machine.move(I)I -/
def e_d42 : List (Nat × Instr × Nat × Nat × Nat × Int) := [(0, .iload_n 1, 1, 0, 0, 0), (1, .tableswitch 206 0 7 #[47, 72, 115, 126, 148, 170, 181, 199], 47, 0, 0, 0), (48, .aload_n 0, 1, 0, 0, 0), (49, .getfield 12, 3, 4, 0, 0), (52, .aload_n 0, 1, 0, 0, 0), (53, .getfield 80, 3, 4, 14, 0), (56, .getfield 115, 3, 6, 0, 0), (59, .aload_n 0, 1, 0, 0, 0), (60, .getfield 112, 3, 4, 15, 0), (63, .iconst 1, 1, 0, 0, 0), (64, .iadd, 1, 0, 0, 0), (65, .iaload, 1, 0, 0, 0), (66, .i2b, 1, 0, 0, 0), (67, .invokevirtual 154, 3, 18, 2, 1), (70, .goto 167, 3, 237, 0, 0), (73, .aload_n 0, 1, 0, 0, 0), (74, .getfield 12, 3, 4, 0, 0), (77, .aload_n 0, 1, 0, 0, 0), (78, .getfield 80, 3, 4, 14, 0), (81, .getfield 115, 3, 6, 0, 0), (84, .aload_n 0, 1, 0, 0, 0), (85, .getfield 112, 3, 4, 15, 0), (88, .iconst 1, 1, 0, 0, 0), (89, .iadd, 1, 0, 0, 0), (90, .iaload, 1, 0, 0, 0), (91, .bipush 8, 2, 0, 0, 0), (93, .ishl, 1, 0, 0, 0), (94, .aload_n 0, 1, 0, 0, 0), (95, .getfield 80, 3, 4, 14, 0), (98, .getfield 115, 3, 6, 0, 0), (101, .aload_n 0, 1, 0, 0, 0), (102, .getfield 112, 3, 4, 15, 0), (105, .iconst 2, 1, 0, 0, 0), (106, .iadd, 1, 0, 0, 0), (107, .iaload, 1, 0, 0, 0), (108, .ior, 1, 0, 0, 0), (109, .i2s, 1, 0, 0, 0), (110, .invokevirtual 154, 3, 18, 2, 1), (113, .goto 124, 3, 237, 0, 0), (116, .aload_n 0, 1, 0, 0, 0), (117, .getfield 12, 3, 4, 0, 0), (120, .iconst 0, 1, 0, 0, 0), (121, .invokevirtual 154, 3, 18, 2, 1), (124, .goto 113, 3, 237, 0, 0), (127, .aload_n 0, 1, 0, 0, 0), (128, .getfield 12, 3, 4, 0, 0), (131, .aload_n 0, 1, 0, 0, 0), (132, .getfield 12, 3, 4, 0, 0), (135, .getfield 157, 3, 2, 7, 0), (138, .aload_n 0, 1, 0, 0, 0), (139, .invokevirtual 160, 3, 43, 4, 0), (142, .iaload, 1, 0, 0, 0), (143, .invokevirtual 154, 3, 18, 2, 1), (146, .goto 91, 3, 237, 0, 0), (149, .aload_n 0, 1, 0, 0, 0), (150, .getfield 12, 3, 4, 0, 0), (153, .getfield 157, 3, 2, 7, 0), (156, .aload_n 0, 1, 0, 0, 0), (157, .invokevirtual 160, 3, 43, 4, 0), (160, .aload_n 0, 1, 0, 0, 0), (161, .getfield 12, 3, 4, 0, 0), (164, .invokevirtual 164, 3, 17, 2, 0), (167, .iastore, 1, 0, 0, 0), (168, .goto 69, 3, 237, 0, 0), (171, .aload_n 0, 1, 0, 0, 0), (172, .getfield 12, 3, 4, 0, 0), (175, .invokevirtual 164, 3, 17, 2, 0), (178, .pop, 1, 0, 0, 0), (179, .goto 58, 3, 237, 0, 0), (182, .aload_n 0, 1, 0, 0, 0), (183, .getfield 12, 3, 4, 0, 0), (186, .aload_n 0, 1, 0, 0, 0), (187, .getfield 12, 3, 4, 0, 0), (190, .iconst 0, 1, 0, 0, 0), (191, .invokevirtual 167, 3, 16, 2, 1), (194, .invokevirtual 154, 3, 18, 2, 1), (197, .goto 40, 3, 237, 0, 0), (200, .aload_n 0, 1, 0, 0, 0), (201, .invokevirtual 170, 3, 44, 4, 0), (204, .goto 33, 3, 237, 0, 0), (207, .aload_n 0, 1, 0, 0, 0), (208, .getfield 12, 3, 4, 0, 0), (211, .getfield 157, 3, 2, 7, 0), (214, .aload_n 0, 1, 0, 0, 0), (215, .invokevirtual 160, 3, 43, 4, 0), (218, .dup2, 1, 0, 0, 0), (219, .iaload, 1, 0, 0, 0), (220, .aload_n 0, 1, 0, 0, 0), (221, .getfield 80, 3, 4, 14, 0), (224, .getfield 115, 3, 6, 0, 0), (227, .aload_n 0, 1, 0, 0, 0), (228, .getfield 112, 3, 4, 15, 0), (231, .iconst 2, 1, 0, 0, 0), (232, .iadd, 1, 0, 0, 0), (233, .iaload, 1, 0, 0, 0), (234, .i2b, 1, 0, 0, 0), (235, .iadd, 1, 0, 0, 0), (236, .iastore, 1, 0, 0, 0), (237, .aload_n 0, 1, 0, 0, 0), (238, .getfield 12, 3, 4, 0, 0), (241, .getstatic 173, 3, 2, 1, 0), (244, .iload_n 1, 1, 0, 0, 0), (245, .iaload, 1, 0, 0, 0), (246, .invokevirtual 176, 3, 19, 2, 1), (249, .iconst 0, 1, 0, 0, 0), (250, .ireturn, 1, 0, 0, 0)]
/-- TierMill$Machine.localNamed()I -/
def e_d43 : List (Nat × Instr × Nat × Nat × Nat × Int) := [(0, .aload_n 0, 1, 0, 0, 0), (1, .getfield 12, 3, 4, 0, 0), (4, .getfield 71, 3, 2, 0, 0), (7, .iconst 1, 1, 0, 0, 0), (8, .isub, 1, 0, 0, 0), (9, .bipush 16, 2, 0, 0, 0), (11, .imul, 1, 0, 0, 0), (12, .aload_n 0, 1, 0, 0, 0), (13, .getfield 80, 3, 4, 14, 0), (16, .getfield 115, 3, 6, 0, 0), (19, .aload_n 0, 1, 0, 0, 0), (20, .getfield 112, 3, 4, 15, 0), (23, .iconst 1, 1, 0, 0, 0), (24, .iadd, 1, 0, 0, 0), (25, .iaload, 1, 0, 0, 0), (26, .iadd, 1, 0, 0, 0), (27, .ireturn, 1, 0, 0, 0)]
/-- TierMill$Machine.swap()V -/
def e_d44 : List (Nat × Instr × Nat × Nat × Nat × Int) := [(0, .aload_n 0, 1, 0, 0, 0), (1, .getfield 12, 3, 4, 0, 0), (4, .invokevirtual 164, 3, 17, 2, 0), (7, .istore_n 1, 1, 0, 0, 0), (8, .aload_n 0, 1, 0, 0, 0), (9, .getfield 12, 3, 4, 0, 0), (12, .invokevirtual 164, 3, 17, 2, 0), (15, .istore_n 2, 1, 0, 0, 0), (16, .aload_n 0, 1, 0, 0, 0), (17, .getfield 12, 3, 4, 0, 0), (20, .iload_n 1, 1, 0, 0, 0), (21, .invokevirtual 154, 3, 18, 2, 1), (24, .aload_n 0, 1, 0, 0, 0), (25, .getfield 12, 3, 4, 0, 0), (28, .iload_n 2, 1, 0, 0, 0), (29, .invokevirtual 154, 3, 18, 2, 1), (32, .return_, 1, 0, 0, 0)]
/-- TierMill$Machine.calculate(I)I -/
def e_d45 : List (Nat × Instr × Nat × Nat × Nat × Int) := [(0, .aload_n 0, 1, 0, 0, 0), (1, .getfield 12, 3, 4, 0, 0), (4, .iconst 0, 1, 0, 0, 0), (5, .invokevirtual 167, 3, 16, 2, 1), (8, .istore_n 2, 1, 0, 0, 0), (9, .iload_n 2, 1, 0, 0, 0), (10, .ifCond .ne 17, 3, 27, 0, 0), (13, .iload_n 1, 1, 0, 0, 0), (14, .bipush 11, 2, 0, 0, 0), (16, .if_icmp .eq 9, 3, 25, 0, 0), (19, .iload_n 1, 1, 0, 0, 0), (20, .bipush 12, 2, 0, 0, 0), (22, .if_icmp .ne 5, 3, 27, 0, 0), (25, .iconst 1, 1, 0, 0, 0), (26, .ireturn, 1, 0, 0, 0), (27, .aload_n 0, 1, 0, 0, 0), (28, .getfield 12, 3, 4, 0, 0), (31, .invokevirtual 164, 3, 17, 2, 0), (34, .pop, 1, 0, 0, 0), (35, .aload_n 0, 1, 0, 0, 0), (36, .getfield 12, 3, 4, 0, 0), (39, .iload_n 1, 1, 0, 0, 0), (40, .bipush 19, 2, 0, 0, 0), (42, .if_icmp .ne 8, 3, 50, 0, 0), (45, .iload_n 2, 1, 0, 0, 0), (46, .ineg, 1, 0, 0, 0), (47, .goto 15, 3, 62, 0, 0), (50, .iload_n 1, 1, 0, 0, 0), (51, .aload_n 0, 1, 0, 0, 0), (52, .getfield 12, 3, 4, 0, 0), (55, .invokevirtual 164, 3, 17, 2, 0), (58, .iload_n 2, 1, 0, 0, 0), (59, .invokestatic 179, 3, 46, 0, 3), (62, .invokevirtual 154, 3, 18, 2, 1), (65, .aload_n 0, 1, 0, 0, 0), (66, .getfield 12, 3, 4, 0, 0), (69, .getstatic 173, 3, 2, 1, 0), (72, .iload_n 1, 1, 0, 0, 0), (73, .iaload, 1, 0, 0, 0), (74, .invokevirtual 176, 3, 19, 2, 1), (77, .iconst 0, 1, 0, 0, 0), (78, .ireturn, 1, 0, 0, 0)]
/-- TierMill$Machine.calculated(III)I -/
def e_d46 : List (Nat × Instr × Nat × Nat × Nat × Int) := [(0, .iload_n 0, 1, 0, 0, 0), (1, .tableswitch 111 8 17 #[55, 59, 63, 67, 79, 91, 95, 99, 103, 107], 55, 0, 0, 0), (56, .iload_n 1, 1, 0, 0, 0), (57, .iload_n 2, 1, 0, 0, 0), (58, .iadd, 1, 0, 0, 0), (59, .ireturn, 1, 0, 0, 0), (60, .iload_n 1, 1, 0, 0, 0), (61, .iload_n 2, 1, 0, 0, 0), (62, .isub, 1, 0, 0, 0), (63, .ireturn, 1, 0, 0, 0), (64, .iload_n 1, 1, 0, 0, 0), (65, .iload_n 2, 1, 0, 0, 0), (66, .imul, 1, 0, 0, 0), (67, .ireturn, 1, 0, 0, 0), (68, .iload_n 2, 1, 0, 0, 0), (69, .ifCond .ne 7, 3, 76, 0, 0), (72, .iconst 0, 1, 0, 0, 0), (73, .goto 6, 3, 79, 0, 0), (76, .iload_n 1, 1, 0, 0, 0), (77, .iload_n 2, 1, 0, 0, 0), (78, .idiv, 1, 0, 0, 0), (79, .ireturn, 1, 0, 0, 0), (80, .iload_n 2, 1, 0, 0, 0), (81, .ifCond .ne 7, 3, 88, 0, 0), (84, .iconst 0, 1, 0, 0, 0), (85, .goto 6, 3, 91, 0, 0), (88, .iload_n 1, 1, 0, 0, 0), (89, .iload_n 2, 1, 0, 0, 0), (90, .irem, 1, 0, 0, 0), (91, .ireturn, 1, 0, 0, 0), (92, .iload_n 1, 1, 0, 0, 0), (93, .iload_n 2, 1, 0, 0, 0), (94, .iand, 1, 0, 0, 0), (95, .ireturn, 1, 0, 0, 0), (96, .iload_n 1, 1, 0, 0, 0), (97, .iload_n 2, 1, 0, 0, 0), (98, .ior, 1, 0, 0, 0), (99, .ireturn, 1, 0, 0, 0), (100, .iload_n 1, 1, 0, 0, 0), (101, .iload_n 2, 1, 0, 0, 0), (102, .ixor, 1, 0, 0, 0), (103, .ireturn, 1, 0, 0, 0), (104, .iload_n 1, 1, 0, 0, 0), (105, .iload_n 2, 1, 0, 0, 0), (106, .ishl, 1, 0, 0, 0), (107, .ireturn, 1, 0, 0, 0), (108, .iload_n 1, 1, 0, 0, 0), (109, .iload_n 2, 1, 0, 0, 0), (110, .ishr, 1, 0, 0, 0), (111, .ireturn, 1, 0, 0, 0), (112, .iload_n 1, 1, 0, 0, 0), (113, .iload_n 2, 1, 0, 0, 0), (114, .iushr, 1, 0, 0, 0), (115, .ireturn, 1, 0, 0, 0)]
/-- TierMill$Machine.jump(I)I -/
def e_d47 : List (Nat × Instr × Nat × Nat × Nat × Int) := [(0, .aload_n 0, 1, 0, 0, 0), (1, .getfield 12, 3, 4, 0, 0), (4, .getfield 71, 3, 2, 0, 0), (7, .iconst 1, 1, 0, 0, 0), (8, .isub, 1, 0, 0, 0), (9, .istore_n 2, 1, 0, 0, 0), (10, .aload_n 0, 1, 0, 0, 0), (11, .getfield 12, 3, 4, 0, 0), (14, .getfield 109, 3, 2, 2, 0), (17, .iload_n 2, 1, 0, 0, 0), (18, .iaload, 1, 0, 0, 0), (19, .istore_n 3, 1, 0, 0, 0), (20, .iload_n 1, 1, 0, 0, 0), (21, .bipush 53, 2, 0, 0, 0), (23, .if_icmp .ne 10, 3, 33, 0, 0), (26, .aload_n 0, 1, 0, 0, 0), (27, .invokevirtual 183, 3, 48, 4, 0), (30, .goto 17, 3, 47, 0, 0), (33, .aload_n 0, 1, 0, 0, 0), (34, .getfield 80, 3, 4, 14, 0), (37, .getfield 115, 3, 6, 0, 0), (40, .aload_n 0, 1, 0, 0, 0), (41, .getfield 112, 3, 4, 15, 0), (44, .iconst 1, 1, 0, 0, 0), (45, .iadd, 1, 0, 0, 0), (46, .iaload, 1, 0, 0, 0), (47, .istore 4, 2, 0, 0, 0), (49, .iload_n 1, 1, 0, 0, 0), (50, .bipush 53, 2, 0, 0, 0), (52, .if_icmp .eq 25, 3, 77, 0, 0), (55, .aload_n 0, 1, 0, 0, 0), (56, .iload_n 1, 1, 0, 0, 0), (57, .invokevirtual 186, 3, 49, 4, 1), (60, .ifCond .ne 17, 3, 77, 0, 0), (63, .aload_n 0, 1, 0, 0, 0), (64, .getfield 12, 3, 4, 0, 0), (67, .getstatic 173, 3, 2, 1, 0), (70, .iload_n 1, 1, 0, 0, 0), (71, .iaload, 1, 0, 0, 0), (72, .invokevirtual 176, 3, 19, 2, 1), (75, .iconst 0, 1, 0, 0, 0), (76, .ireturn, 1, 0, 0, 0), (77, .aload_n 0, 1, 0, 0, 0), (78, .getfield 12, 3, 4, 0, 0), (81, .getfield 190, 3, 2, 3, 0), (84, .iload_n 2, 1, 0, 0, 0), (85, .iaload, 1, 0, 0, 0), (86, .ifCond .ne 30, 3, 116, 0, 0), (89, .iload 4, 2, 0, 0, 0), (91, .iload_n 3, 1, 0, 0, 0), (92, .if_icmp .gt 24, 3, 116, 0, 0), (95, .aload_n 0, 1, 0, 0, 0), (96, .getfield 28, 3, 4, 2, 0), (99, .getfield 193, 3, 9, 4, 0), (102, .aload_n 0, 1, 0, 0, 0), (103, .getfield 12, 3, 4, 0, 0), (106, .getfield 101, 3, 2, 1, 0), (109, .iload_n 2, 1, 0, 0, 0), (110, .iaload, 1, 0, 0, 0), (111, .dup2, 1, 0, 0, 0), (112, .iaload, 1, 0, 0, 0), (113, .iconst 1, 1, 0, 0, 0), (114, .iadd, 1, 0, 0, 0), (115, .iastore, 1, 0, 0, 0), (116, .aload_n 0, 1, 0, 0, 0), (117, .getfield 12, 3, 4, 0, 0), (120, .getfield 109, 3, 2, 2, 0), (123, .iload_n 2, 1, 0, 0, 0), (124, .iload 4, 2, 0, 0, 0), (126, .iastore, 1, 0, 0, 0), (127, .iconst 0, 1, 0, 0, 0), (128, .ireturn, 1, 0, 0, 0)]
/-- TierMill$Machine.chosen()I -/
def e_d48 : List (Nat × Instr × Nat × Nat × Nat × Int) := [(0, .aload_n 0, 1, 0, 0, 0), (1, .getfield 80, 3, 4, 14, 0), (4, .getfield 115, 3, 6, 0, 0), (7, .aload_n 0, 1, 0, 0, 0), (8, .getfield 112, 3, 4, 15, 0), (11, .iconst 1, 1, 0, 0, 0), (12, .iadd, 1, 0, 0, 0), (13, .iaload, 1, 0, 0, 0), (14, .istore_n 1, 1, 0, 0, 0), (15, .aload_n 0, 1, 0, 0, 0), (16, .getfield 12, 3, 4, 0, 0), (19, .invokevirtual 164, 3, 17, 2, 0), (22, .istore_n 2, 1, 0, 0, 0), (23, .aload_n 0, 1, 0, 0, 0), (24, .getfield 80, 3, 4, 14, 0), (27, .getfield 115, 3, 6, 0, 0), (30, .aload_n 0, 1, 0, 0, 0), (31, .getfield 112, 3, 4, 15, 0), (34, .iconst 2, 1, 0, 0, 0), (35, .iadd, 1, 0, 0, 0), (36, .iload_n 2, 1, 0, 0, 0), (37, .ifCond .lt 12, 3, 49, 0, 0), (40, .iload_n 2, 1, 0, 0, 0), (41, .iload_n 1, 1, 0, 0, 0), (42, .if_icmp .ge 7, 3, 49, 0, 0), (45, .iload_n 2, 1, 0, 0, 0), (46, .goto 4, 3, 50, 0, 0), (49, .iload_n 1, 1, 0, 0, 0), (50, .iadd, 1, 0, 0, 0), (51, .iaload, 1, 0, 0, 0), (52, .ireturn, 1, 0, 0, 0)]
/-- TierMill$Machine.isTaken(I)Z -/
def e_d49 : List (Nat × Instr × Nat × Nat × Nat × Int) := [(0, .iload_n 1, 1, 0, 0, 0), (1, .bipush 21, 2, 0, 0, 0), (3, .if_icmp .ne 5, 3, 8, 0, 0), (6, .iconst 1, 1, 0, 0, 0), (7, .ireturn, 1, 0, 0, 0), (8, .aload_n 0, 1, 0, 0, 0), (9, .getfield 12, 3, 4, 0, 0), (12, .invokevirtual 164, 3, 17, 2, 0), (15, .istore_n 2, 1, 0, 0, 0), (16, .iload_n 1, 1, 0, 0, 0), (17, .bipush 28, 2, 0, 0, 0), (19, .if_icmp .ge 13, 3, 32, 0, 0), (22, .iload_n 1, 1, 0, 0, 0), (23, .bipush 22, 2, 0, 0, 0), (25, .isub, 1, 0, 0, 0), (26, .iload_n 2, 1, 0, 0, 0), (27, .iconst 0, 1, 0, 0, 0), (28, .invokestatic 196, 3, 50, 0, 3), (31, .ireturn, 1, 0, 0, 0), (32, .iload_n 1, 1, 0, 0, 0), (33, .bipush 34, 2, 0, 0, 0), (35, .if_icmp .eq 9, 3, 44, 0, 0), (38, .iload_n 1, 1, 0, 0, 0), (39, .bipush 35, 2, 0, 0, 0), (41, .if_icmp .ne 32, 3, 73, 0, 0), (44, .iload_n 2, 1, 0, 0, 0), (45, .ifCond .ne 7, 3, 52, 0, 0), (48, .iconst 1, 1, 0, 0, 0), (49, .goto 4, 3, 53, 0, 0), (52, .iconst 0, 1, 0, 0, 0), (53, .iload_n 1, 1, 0, 0, 0), (54, .bipush 34, 2, 0, 0, 0), (56, .if_icmp .ne 7, 3, 63, 0, 0), (59, .iconst 1, 1, 0, 0, 0), (60, .goto 4, 3, 64, 0, 0), (63, .iconst 0, 1, 0, 0, 0), (64, .if_icmp .ne 7, 3, 71, 0, 0), (67, .iconst 1, 1, 0, 0, 0), (68, .goto 4, 3, 72, 0, 0), (71, .iconst 0, 1, 0, 0, 0), (72, .ireturn, 1, 0, 0, 0), (73, .aload_n 0, 1, 0, 0, 0), (74, .getfield 12, 3, 4, 0, 0), (77, .invokevirtual 164, 3, 17, 2, 0), (80, .istore_n 3, 1, 0, 0, 0), (81, .iload_n 1, 1, 0, 0, 0), (82, .bipush 34, 2, 0, 0, 0), (84, .if_icmp .ge 13, 3, 97, 0, 0), (87, .iload_n 1, 1, 0, 0, 0), (88, .bipush 28, 2, 0, 0, 0), (90, .isub, 1, 0, 0, 0), (91, .iload_n 3, 1, 0, 0, 0), (92, .iload_n 2, 1, 0, 0, 0), (93, .invokestatic 196, 3, 50, 0, 3), (96, .ireturn, 1, 0, 0, 0), (97, .iload_n 3, 1, 0, 0, 0), (98, .iload_n 2, 1, 0, 0, 0), (99, .if_icmp .ne 7, 3, 106, 0, 0), (102, .iconst 1, 1, 0, 0, 0), (103, .goto 4, 3, 107, 0, 0), (106, .iconst 0, 1, 0, 0, 0), (107, .iload_n 1, 1, 0, 0, 0), (108, .bipush 36, 2, 0, 0, 0), (110, .if_icmp .ne 7, 3, 117, 0, 0), (113, .iconst 1, 1, 0, 0, 0), (114, .goto 4, 3, 118, 0, 0), (117, .iconst 0, 1, 0, 0, 0), (118, .if_icmp .ne 7, 3, 125, 0, 0), (121, .iconst 1, 1, 0, 0, 0), (122, .goto 4, 3, 126, 0, 0), (125, .iconst 0, 1, 0, 0, 0), (126, .ireturn, 1, 0, 0, 0)]
/-- TierMill$Machine.compares(III)Z -/
def e_d50 : List (Nat × Instr × Nat × Nat × Nat × Int) := [(0, .iload_n 0, 1, 0, 0, 0), (1, .tableswitch 90 0 4 #[35, 46, 57, 68, 79], 35, 0, 0, 0), (36, .iload_n 1, 1, 0, 0, 0), (37, .iload_n 2, 1, 0, 0, 0), (38, .if_icmp .ne 7, 3, 45, 0, 0), (41, .iconst 1, 1, 0, 0, 0), (42, .goto 4, 3, 46, 0, 0), (45, .iconst 0, 1, 0, 0, 0), (46, .ireturn, 1, 0, 0, 0), (47, .iload_n 1, 1, 0, 0, 0), (48, .iload_n 2, 1, 0, 0, 0), (49, .if_icmp .eq 7, 3, 56, 0, 0), (52, .iconst 1, 1, 0, 0, 0), (53, .goto 4, 3, 57, 0, 0), (56, .iconst 0, 1, 0, 0, 0), (57, .ireturn, 1, 0, 0, 0), (58, .iload_n 1, 1, 0, 0, 0), (59, .iload_n 2, 1, 0, 0, 0), (60, .if_icmp .ge 7, 3, 67, 0, 0), (63, .iconst 1, 1, 0, 0, 0), (64, .goto 4, 3, 68, 0, 0), (67, .iconst 0, 1, 0, 0, 0), (68, .ireturn, 1, 0, 0, 0), (69, .iload_n 1, 1, 0, 0, 0), (70, .iload_n 2, 1, 0, 0, 0), (71, .if_icmp .lt 7, 3, 78, 0, 0), (74, .iconst 1, 1, 0, 0, 0), (75, .goto 4, 3, 79, 0, 0), (78, .iconst 0, 1, 0, 0, 0), (79, .ireturn, 1, 0, 0, 0), (80, .iload_n 1, 1, 0, 0, 0), (81, .iload_n 2, 1, 0, 0, 0), (82, .if_icmp .le 7, 3, 89, 0, 0), (85, .iconst 1, 1, 0, 0, 0), (86, .goto 4, 3, 90, 0, 0), (89, .iconst 0, 1, 0, 0, 0), (90, .ireturn, 1, 0, 0, 0), (91, .iload_n 1, 1, 0, 0, 0), (92, .iload_n 2, 1, 0, 0, 0), (93, .if_icmp .gt 7, 3, 100, 0, 0), (96, .iconst 1, 1, 0, 0, 0), (97, .goto 4, 3, 101, 0, 0), (100, .iconst 0, 1, 0, 0, 0), (101, .ireturn, 1, 0, 0, 0)]
/-- TierMill$Machine.make(I)I -/
def e_d51 : List (Nat × Instr × Nat × Nat × Nat × Int) := [(0, .iload_n 1, 1, 0, 0, 0), (1, .bipush 38, 2, 0, 0, 0), (3, .if_icmp .ne 20, 3, 23, 0, 0), (6, .aload_n 0, 1, 0, 0, 0), (7, .getfield 80, 3, 4, 14, 0), (10, .getfield 115, 3, 6, 0, 0), (13, .aload_n 0, 1, 0, 0, 0), (14, .getfield 112, 3, 4, 15, 0), (17, .iconst 1, 1, 0, 0, 0), (18, .iadd, 1, 0, 0, 0), (19, .iaload, 1, 0, 0, 0), (20, .goto 5, 3, 25, 0, 0), (23, .bipush 16, 2, 0, 0, 0), (25, .istore_n 2, 1, 0, 0, 0), (26, .iload_n 1, 1, 0, 0, 0), (27, .bipush 38, 2, 0, 0, 0), (29, .if_icmp .ne 15, 3, 44, 0, 0), (32, .aload_n 0, 1, 0, 0, 0), (33, .getfield 80, 3, 4, 14, 0), (36, .getfield 200, 3, 6, 5, 0), (39, .iload_n 2, 1, 0, 0, 0), (40, .iaload, 1, 0, 0, 0), (41, .goto 11, 3, 52, 0, 0), (44, .aload_n 0, 1, 0, 0, 0), (45, .getfield 12, 3, 4, 0, 0), (48, .iconst 0, 1, 0, 0, 0), (49, .invokevirtual 167, 3, 16, 2, 1), (52, .istore_n 3, 1, 0, 0, 0), (53, .iload_n 3, 1, 0, 0, 0), (54, .ifCond .ge 5, 3, 59, 0, 0), (57, .iconst 4, 1, 0, 0, 0), (58, .ireturn, 1, 0, 0, 0), (59, .ldc2_w 203, 3, 0, 0, 2), (62, .iload_n 3, 1, 0, 0, 0), (63, .i2l, 1, 0, 0, 0), (64, .ladd, 1, 0, 0, 0), (65, .lstore 4, 2, 0, 0, 0), (67, .aload_n 0, 1, 0, 0, 0), (68, .getfield 21, 3, 4, 1, 0), (71, .lload 4, 2, 0, 0, 0), (73, .invokevirtual 205, 3, 24, 3, 1), (76, .ifCond .ne 65, 3, 141, 0, 0), (79, .aload_n 0, 1, 0, 0, 0), (80, .getfield 21, 3, 4, 1, 0), (83, .getfield 209, 3, 3, 1, 0), (86, .istore 6, 2, 0, 0, 0), (88, .aload_n 0, 1, 0, 0, 0), (89, .getfield 21, 3, 4, 1, 0), (92, .aload_n 0, 1, 0, 0, 0), (93, .getfield 80, 3, 4, 14, 0), (96, .aload_n 0, 1, 0, 0, 0), (97, .getfield 12, 3, 4, 0, 0), (100, .invokevirtual 212, 3, 31, 3, 2), (103, .aload_n 0, 1, 0, 0, 0), (104, .getfield 35, 3, 4, 3, 0), (107, .iconst 3, 1, 0, 0, 0), (108, .aload_n 0, 1, 0, 0, 0), (109, .getfield 65, 3, 4, 9, 0), (112, .aload_n 0, 1, 0, 0, 0), (113, .getfield 12, 3, 4, 0, 0), (116, .getfield 101, 3, 2, 1, 0), (119, .aload_n 0, 1, 0, 0, 0), (120, .getfield 12, 3, 4, 0, 0), (123, .getfield 71, 3, 2, 0, 0), (126, .iconst 1, 1, 0, 0, 0), (127, .isub, 1, 0, 0, 0), (128, .iaload, 1, 0, 0, 0), (129, .iload 6, 2, 0, 0, 0), (131, .aload_n 0, 1, 0, 0, 0), (132, .getfield 21, 3, 4, 1, 0), (135, .getfield 209, 3, 3, 1, 0), (138, .invokevirtual 216, 3, 9, 1, 5), (141, .aload_n 0, 1, 0, 0, 0), (142, .getfield 21, 3, 4, 1, 0), (145, .lload 4, 2, 0, 0, 0), (147, .invokevirtual 205, 3, 24, 3, 1), (150, .ifCond .ne 6, 3, 156, 0, 0), (153, .bipush 6, 2, 0, 0, 0), (155, .ireturn, 1, 0, 0, 0), (156, .iload_n 1, 1, 0, 0, 0), (157, .bipush 41, 2, 0, 0, 0), (159, .if_icmp .ne 15, 3, 174, 0, 0), (162, .aload_n 0, 1, 0, 0, 0), (163, .getfield 12, 3, 4, 0, 0), (166, .invokevirtual 164, 3, 17, 2, 0), (169, .pop, 1, 0, 0, 0), (170, .iload_n 2, 1, 0, 0, 0), (171, .iload_n 3, 1, 0, 0, 0), (172, .iadd, 1, 0, 0, 0), (173, .istore_n 2, 1, 0, 0, 0), (174, .aload_n 0, 1, 0, 0, 0), (175, .getfield 12, 3, 4, 0, 0), (178, .aload_n 0, 1, 0, 0, 0), (179, .getfield 21, 3, 4, 1, 0), (182, .iload_n 2, 1, 0, 0, 0), (183, .iload_n 3, 1, 0, 0, 0), (184, .invokevirtual 220, 3, 30, 3, 2), (187, .invokevirtual 154, 3, 18, 2, 1), (190, .aload_n 0, 1, 0, 0, 0), (191, .getfield 12, 3, 4, 0, 0), (194, .getstatic 173, 3, 2, 1, 0), (197, .iload_n 1, 1, 0, 0, 0), (198, .iaload, 1, 0, 0, 0), (199, .invokevirtual 176, 3, 19, 2, 1), (202, .iconst 0, 1, 0, 0, 0), (203, .ireturn, 1, 0, 0, 0)]
/-- TierMill$Machine.useField(I)I -/
def e_d52 : List (Nat × Instr × Nat × Nat × Nat × Int) := [(0, .aload_n 0, 1, 0, 0, 0), (1, .getfield 80, 3, 4, 14, 0), (4, .getfield 115, 3, 6, 0, 0), (7, .aload_n 0, 1, 0, 0, 0), (8, .getfield 112, 3, 4, 15, 0), (11, .iconst 2, 1, 0, 0, 0), (12, .iadd, 1, 0, 0, 0), (13, .iaload, 1, 0, 0, 0), (14, .istore_n 2, 1, 0, 0, 0), (15, .aload_n 0, 1, 0, 0, 0), (16, .getfield 12, 3, 4, 0, 0), (19, .iload_n 1, 1, 0, 0, 0), (20, .bipush 40, 2, 0, 0, 0), (22, .if_icmp .ne 7, 3, 29, 0, 0), (25, .iconst 1, 1, 0, 0, 0), (26, .goto 4, 3, 30, 0, 0), (29, .iconst 0, 1, 0, 0, 0), (30, .invokevirtual 167, 3, 16, 2, 1), (33, .istore_n 3, 1, 0, 0, 0), (34, .iload_n 3, 1, 0, 0, 0), (35, .ifCond .ne 5, 3, 40, 0, 0), (38, .iconst 2, 1, 0, 0, 0), (39, .ireturn, 1, 0, 0, 0), (40, .iload_n 1, 1, 0, 0, 0), (41, .bipush 40, 2, 0, 0, 0), (43, .if_icmp .ne 30, 3, 73, 0, 0), (46, .aload_n 0, 1, 0, 0, 0), (47, .getfield 21, 3, 4, 1, 0), (50, .iload_n 3, 1, 0, 0, 0), (51, .iload_n 2, 1, 0, 0, 0), (52, .aload_n 0, 1, 0, 0, 0), (53, .getfield 12, 3, 4, 0, 0), (56, .invokevirtual 164, 3, 17, 2, 0), (59, .invokevirtual 223, 3, 29, 3, 3), (62, .aload_n 0, 1, 0, 0, 0), (63, .getfield 12, 3, 4, 0, 0), (66, .invokevirtual 164, 3, 17, 2, 0), (69, .pop, 1, 0, 0, 0), (70, .goto 27, 3, 97, 0, 0), (73, .aload_n 0, 1, 0, 0, 0), (74, .getfield 12, 3, 4, 0, 0), (77, .invokevirtual 164, 3, 17, 2, 0), (80, .pop, 1, 0, 0, 0), (81, .aload_n 0, 1, 0, 0, 0), (82, .getfield 12, 3, 4, 0, 0), (85, .aload_n 0, 1, 0, 0, 0), (86, .getfield 21, 3, 4, 1, 0), (89, .iload_n 3, 1, 0, 0, 0), (90, .iload_n 2, 1, 0, 0, 0), (91, .invokevirtual 227, 3, 28, 3, 2), (94, .invokevirtual 154, 3, 18, 2, 1), (97, .aload_n 0, 1, 0, 0, 0), (98, .getfield 12, 3, 4, 0, 0), (101, .getstatic 173, 3, 2, 1, 0), (104, .iload_n 1, 1, 0, 0, 0), (105, .iaload, 1, 0, 0, 0), (106, .invokevirtual 176, 3, 19, 2, 1), (109, .iconst 0, 1, 0, 0, 0), (110, .ireturn, 1, 0, 0, 0)]
/-- TierMill$Machine.useArray(I)I -/
def e_d53 : List (Nat × Instr × Nat × Nat × Nat × Int) := [(0, .aload_n 0, 1, 0, 0, 0), (1, .getfield 12, 3, 4, 0, 0), (4, .iload_n 1, 1, 0, 0, 0), (5, .bipush 43, 2, 0, 0, 0), (7, .if_icmp .ne 7, 3, 14, 0, 0), (10, .iconst 2, 1, 0, 0, 0), (11, .goto 14, 3, 25, 0, 0), (14, .iload_n 1, 1, 0, 0, 0), (15, .bipush 42, 2, 0, 0, 0), (17, .if_icmp .ne 7, 3, 24, 0, 0), (20, .iconst 1, 1, 0, 0, 0), (21, .goto 4, 3, 25, 0, 0), (24, .iconst 0, 1, 0, 0, 0), (25, .invokevirtual 167, 3, 16, 2, 1), (28, .istore_n 2, 1, 0, 0, 0), (29, .iload_n 2, 1, 0, 0, 0), (30, .ifCond .ne 5, 3, 35, 0, 0), (33, .iconst 2, 1, 0, 0, 0), (34, .ireturn, 1, 0, 0, 0), (35, .aload_n 0, 1, 0, 0, 0), (36, .getfield 21, 3, 4, 1, 0), (39, .aload_n 0, 1, 0, 0, 0), (40, .getfield 80, 3, 4, 14, 0), (43, .aload_n 0, 1, 0, 0, 0), (44, .getfield 21, 3, 4, 1, 0), (47, .iload_n 2, 1, 0, 0, 0), (48, .invokevirtual 230, 3, 26, 3, 1), (51, .invokevirtual 233, 3, 27, 3, 2), (54, .istore_n 3, 1, 0, 0, 0), (55, .iload_n 1, 1, 0, 0, 0), (56, .bipush 44, 2, 0, 0, 0), (58, .if_icmp .ne 33, 3, 91, 0, 0), (61, .aload_n 0, 1, 0, 0, 0), (62, .getfield 12, 3, 4, 0, 0), (65, .invokevirtual 164, 3, 17, 2, 0), (68, .pop, 1, 0, 0, 0), (69, .aload_n 0, 1, 0, 0, 0), (70, .getfield 12, 3, 4, 0, 0), (73, .iload_n 3, 1, 0, 0, 0), (74, .invokevirtual 154, 3, 18, 2, 1), (77, .aload_n 0, 1, 0, 0, 0), (78, .getfield 12, 3, 4, 0, 0), (81, .getstatic 173, 3, 2, 1, 0), (84, .iload_n 1, 1, 0, 0, 0), (85, .iaload, 1, 0, 0, 0), (86, .invokevirtual 176, 3, 19, 2, 1), (89, .iconst 0, 1, 0, 0, 0), (90, .ireturn, 1, 0, 0, 0), (91, .aload_n 0, 1, 0, 0, 0), (92, .getfield 12, 3, 4, 0, 0), (95, .iload_n 1, 1, 0, 0, 0), (96, .bipush 43, 2, 0, 0, 0), (98, .if_icmp .ne 7, 3, 105, 0, 0), (101, .iconst 1, 1, 0, 0, 0), (102, .goto 4, 3, 106, 0, 0), (105, .iconst 0, 1, 0, 0, 0), (106, .invokevirtual 167, 3, 16, 2, 1), (109, .istore 4, 2, 0, 0, 0), (111, .iload 4, 2, 0, 0, 0), (113, .ifCond .lt 9, 3, 122, 0, 0), (116, .iload 4, 2, 0, 0, 0), (118, .iload_n 3, 1, 0, 0, 0), (119, .if_icmp .lt 5, 3, 124, 0, 0), (122, .iconst 3, 1, 0, 0, 0), (123, .ireturn, 1, 0, 0, 0), (124, .aload_n 0, 1, 0, 0, 0), (125, .getfield 12, 3, 4, 0, 0), (128, .invokevirtual 164, 3, 17, 2, 0), (131, .istore 5, 2, 0, 0, 0), (133, .aload_n 0, 1, 0, 0, 0), (134, .getfield 12, 3, 4, 0, 0), (137, .invokevirtual 164, 3, 17, 2, 0), (140, .pop, 1, 0, 0, 0), (141, .iload_n 1, 1, 0, 0, 0), (142, .bipush 43, 2, 0, 0, 0), (144, .if_icmp .ne 26, 3, 170, 0, 0), (147, .aload_n 0, 1, 0, 0, 0), (148, .getfield 21, 3, 4, 1, 0), (151, .iload_n 2, 1, 0, 0, 0), (152, .iload 4, 2, 0, 0, 0), (154, .iload 5, 2, 0, 0, 0), (156, .invokevirtual 223, 3, 29, 3, 3), (159, .aload_n 0, 1, 0, 0, 0), (160, .getfield 12, 3, 4, 0, 0), (163, .invokevirtual 164, 3, 17, 2, 0), (166, .pop, 1, 0, 0, 0), (167, .goto 20, 3, 187, 0, 0), (170, .aload_n 0, 1, 0, 0, 0), (171, .getfield 12, 3, 4, 0, 0), (174, .aload_n 0, 1, 0, 0, 0), (175, .getfield 21, 3, 4, 1, 0), (178, .iload_n 2, 1, 0, 0, 0), (179, .iload 4, 2, 0, 0, 0), (181, .invokevirtual 227, 3, 28, 3, 2), (184, .invokevirtual 154, 3, 18, 2, 1), (187, .aload_n 0, 1, 0, 0, 0), (188, .getfield 12, 3, 4, 0, 0), (191, .getstatic 173, 3, 2, 1, 0), (194, .iload_n 1, 1, 0, 0, 0), (195, .iaload, 1, 0, 0, 0), (196, .invokevirtual 176, 3, 19, 2, 1), (199, .iconst 0, 1, 0, 0, 0), (200, .ireturn, 1, 0, 0, 0)]
/-- TierMill$Machine.testClass(I)I -/
def e_d54 : List (Nat × Instr × Nat × Nat × Nat × Int) := [(0, .aload_n 0, 1, 0, 0, 0), (1, .getfield 12, 3, 4, 0, 0), (4, .iconst 0, 1, 0, 0, 0), (5, .invokevirtual 167, 3, 16, 2, 1), (8, .istore_n 2, 1, 0, 0, 0), (9, .iload_n 2, 1, 0, 0, 0), (10, .ifCond .eq 39, 3, 49, 0, 0), (13, .aload_n 0, 1, 0, 0, 0), (14, .getfield 80, 3, 4, 14, 0), (17, .aload_n 0, 1, 0, 0, 0), (18, .getfield 21, 3, 4, 1, 0), (21, .iload_n 2, 1, 0, 0, 0), (22, .invokevirtual 230, 3, 26, 3, 1), (25, .aload_n 0, 1, 0, 0, 0), (26, .getfield 80, 3, 4, 14, 0), (29, .getfield 115, 3, 6, 0, 0), (32, .aload_n 0, 1, 0, 0, 0), (33, .getfield 112, 3, 4, 15, 0), (36, .iconst 1, 1, 0, 0, 0), (37, .iadd, 1, 0, 0, 0), (38, .iaload, 1, 0, 0, 0), (39, .invokevirtual 237, 3, 66, 6, 2), (42, .ifCond .eq 7, 3, 49, 0, 0), (45, .iconst 1, 1, 0, 0, 0), (46, .goto 4, 3, 50, 0, 0), (49, .iconst 0, 1, 0, 0, 0), (50, .istore_n 3, 1, 0, 0, 0), (51, .iload_n 1, 1, 0, 0, 0), (52, .bipush 46, 2, 0, 0, 0), (54, .if_icmp .ne 13, 3, 67, 0, 0), (57, .iload_n 2, 1, 0, 0, 0), (58, .ifCond .eq 9, 3, 67, 0, 0), (61, .iload_n 3, 1, 0, 0, 0), (62, .ifCond .ne 5, 3, 67, 0, 0), (65, .iconst 5, 1, 0, 0, 0), (66, .ireturn, 1, 0, 0, 0), (67, .iload_n 1, 1, 0, 0, 0), (68, .bipush 45, 2, 0, 0, 0), (70, .if_icmp .ne 27, 3, 97, 0, 0), (73, .aload_n 0, 1, 0, 0, 0), (74, .getfield 12, 3, 4, 0, 0), (77, .invokevirtual 164, 3, 17, 2, 0), (80, .pop, 1, 0, 0, 0), (81, .aload_n 0, 1, 0, 0, 0), (82, .getfield 12, 3, 4, 0, 0), (85, .iload_n 3, 1, 0, 0, 0), (86, .ifCond .eq 7, 3, 93, 0, 0), (89, .iconst 1, 1, 0, 0, 0), (90, .goto 4, 3, 94, 0, 0), (93, .iconst 0, 1, 0, 0, 0), (94, .invokevirtual 154, 3, 18, 2, 1), (97, .aload_n 0, 1, 0, 0, 0), (98, .getfield 12, 3, 4, 0, 0), (101, .getstatic 173, 3, 2, 1, 0), (104, .iload_n 1, 1, 0, 0, 0), (105, .iaload, 1, 0, 0, 0), (106, .invokevirtual 176, 3, 19, 2, 1), (109, .iconst 0, 1, 0, 0, 0), (110, .ireturn, 1, 0, 0, 0)]
/-- TierMill$Machine.call(I)I -/
def e_d55 : List (Nat × Instr × Nat × Nat × Nat × Int) := [(0, .aload_n 0, 1, 0, 0, 0), (1, .getfield 80, 3, 4, 14, 0), (4, .getfield 115, 3, 6, 0, 0), (7, .aload_n 0, 1, 0, 0, 0), (8, .getfield 112, 3, 4, 15, 0), (11, .iconst 1, 1, 0, 0, 0), (12, .iadd, 1, 0, 0, 0), (13, .iaload, 1, 0, 0, 0), (14, .istore_n 2, 1, 0, 0, 0), (15, .iload_n 2, 1, 0, 0, 0), (16, .istore_n 3, 1, 0, 0, 0), (17, .iconst 0, 1, 0, 0, 0), (18, .istore 4, 2, 0, 0, 0), (20, .iload_n 1, 1, 0, 0, 0), (21, .bipush 48, 2, 0, 0, 0), (23, .if_icmp .ne 58, 3, 81, 0, 0), (26, .aload_n 0, 1, 0, 0, 0), (27, .getfield 12, 3, 4, 0, 0), (30, .aload_n 0, 1, 0, 0, 0), (31, .getfield 80, 3, 4, 14, 0), (34, .getfield 241, 3, 6, 8, 0), (37, .iload_n 2, 1, 0, 0, 0), (38, .aaload, 1, 0, 0, 0), (39, .getfield 244, 3, 8, 1, 0), (42, .invokevirtual 167, 3, 16, 2, 1), (45, .istore 5, 2, 0, 0, 0), (47, .iload 5, 2, 0, 0, 0), (49, .ifCond .ne 5, 3, 54, 0, 0), (52, .iconst 2, 1, 0, 0, 0), (53, .ireturn, 1, 0, 0, 0), (54, .aload_n 0, 1, 0, 0, 0), (55, .getfield 21, 3, 4, 1, 0), (58, .iload 5, 2, 0, 0, 0), (60, .invokevirtual 230, 3, 26, 3, 1), (63, .istore 4, 2, 0, 0, 0), (65, .aload_n 0, 1, 0, 0, 0), (66, .getfield 80, 3, 4, 14, 0), (69, .getfield 247, 3, 6, 11, 0), (72, .iload 4, 2, 0, 0, 0), (74, .bipush 8, 2, 0, 0, 0), (76, .imul, 1, 0, 0, 0), (77, .iload_n 2, 1, 0, 0, 0), (78, .iadd, 1, 0, 0, 0), (79, .iaload, 1, 0, 0, 0), (80, .istore_n 3, 1, 0, 0, 0), (81, .aload_n 0, 1, 0, 0, 0), (82, .getfield 12, 3, 4, 0, 0), (85, .getfield 71, 3, 2, 0, 0), (88, .bipush 64, 2, 0, 0, 0), (90, .if_icmp .lt 6, 3, 96, 0, 0), (93, .bipush 7, 2, 0, 0, 0), (95, .ireturn, 1, 0, 0, 0), (96, .aload_n 0, 1, 0, 0, 0), (97, .getfield 12, 3, 4, 0, 0), (100, .getfield 71, 3, 2, 0, 0), (103, .iconst 1, 1, 0, 0, 0), (104, .isub, 1, 0, 0, 0), (105, .istore 5, 2, 0, 0, 0), (107, .aload_n 0, 1, 0, 0, 0), (108, .iload 5, 2, 0, 0, 0), (110, .iload_n 1, 1, 0, 0, 0), (111, .iload 4, 2, 0, 0, 0), (113, .invokevirtual 250, 3, 56, 4, 3), (116, .istore 6, 2, 0, 0, 0), (118, .aload_n 0, 1, 0, 0, 0), (119, .getfield 12, 3, 4, 0, 0), (122, .getfield 190, 3, 2, 3, 0), (125, .iload 5, 2, 0, 0, 0), (127, .iaload, 1, 0, 0, 0), (128, .ifCond .ne 33, 3, 161, 0, 0), (131, .aload_n 0, 1, 0, 0, 0), (132, .getfield 28, 3, 4, 2, 0), (135, .getfield 253, 3, 9, 5, 0), (138, .aload_n 0, 1, 0, 0, 0), (139, .getfield 80, 3, 4, 14, 0), (142, .getfield 256, 3, 6, 13, 0), (145, .aload_n 0, 1, 0, 0, 0), (146, .getfield 112, 3, 4, 15, 0), (149, .iaload, 1, 0, 0, 0), (150, .bipush 8, 2, 0, 0, 0), (152, .imul, 1, 0, 0, 0), (153, .iload 4, 2, 0, 0, 0), (155, .iadd, 1, 0, 0, 0), (156, .dup2, 1, 0, 0, 0), (157, .iaload, 1, 0, 0, 0), (158, .iconst 1, 1, 0, 0, 0), (159, .iadd, 1, 0, 0, 0), (160, .iastore, 1, 0, 0, 0), (161, .aload_n 0, 1, 0, 0, 0), (162, .getfield 12, 3, 4, 0, 0), (165, .getstatic 173, 3, 2, 1, 0), (168, .iload_n 1, 1, 0, 0, 0), (169, .iaload, 1, 0, 0, 0), (170, .invokevirtual 176, 3, 19, 2, 1), (173, .iload 6, 2, 0, 0, 0), (175, .iconst (-1), 1, 0, 0, 0), (176, .if_icmp .ne 11, 3, 187, 0, 0), (179, .aload_n 0, 1, 0, 0, 0), (180, .iload_n 3, 1, 0, 0, 0), (181, .invokevirtual 88, 3, 58, 4, 1), (184, .goto 24, 3, 208, 0, 0), (187, .aload_n 0, 1, 0, 0, 0), (188, .getfield 12, 3, 4, 0, 0), (191, .iload_n 3, 1, 0, 0, 0), (192, .iconst 2, 1, 0, 0, 0), (193, .aload_n 0, 1, 0, 0, 0), (194, .getfield 12, 3, 4, 0, 0), (197, .getfield 259, 3, 2, 4, 0), (200, .iload 5, 2, 0, 0, 0), (202, .iaload, 1, 0, 0, 0), (203, .iload 6, 2, 0, 0, 0), (205, .invokevirtual 262, 3, 12, 2, 4), (208, .aload_n 0, 1, 0, 0, 0), (209, .getfield 12, 3, 4, 0, 0), (212, .aload_n 0, 1, 0, 0, 0), (213, .getfield 80, 3, 4, 14, 0), (216, .getfield 95, 3, 6, 10, 0), (219, .iload_n 3, 1, 0, 0, 0), (220, .aaload, 1, 0, 0, 0), (221, .getfield 244, 3, 8, 1, 0), (224, .invokevirtual 266, 3, 15, 2, 1), (227, .iconst 0, 1, 0, 0, 0), (228, .ireturn, 1, 0, 0, 0)]
/-- TierMill$Machine.rowOfCall(III)I -/
def e_d56 : List (Nat × Instr × Nat × Nat × Nat × Int) := [(0, .aload_n 0, 1, 0, 0, 0), (1, .getfield 28, 3, 4, 2, 0), (4, .aload_n 0, 1, 0, 0, 0), (5, .getfield 12, 3, 4, 0, 0), (8, .getfield 259, 3, 2, 4, 0), (11, .iload_n 1, 1, 0, 0, 0), (12, .iaload, 1, 0, 0, 0), (13, .invokevirtual 269, 3, 87, 9, 1), (16, .astore 4, 2, 0, 0, 0), (18, .aload_n 0, 1, 0, 0, 0), (19, .getfield 12, 3, 4, 0, 0), (22, .getfield 190, 3, 2, 3, 0), (25, .iload_n 1, 1, 0, 0, 0), (26, .iaload, 1, 0, 0, 0), (27, .ifCond .eq 8, 3, 35, 0, 0), (30, .aload 4, 2, 0, 0, 0), (32, .ifnonnull 5, 3, 37, 0, 0), (35, .iconst (-1), 1, 0, 0, 0), (36, .ireturn, 1, 0, 0, 0), (37, .aload 4, 2, 0, 0, 0), (39, .aload_n 0, 1, 0, 0, 0), (40, .getfield 12, 3, 4, 0, 0), (43, .getfield 273, 3, 2, 5, 0), (46, .iload_n 1, 1, 0, 0, 0), (47, .iaload, 1, 0, 0, 0), (48, .aload_n 0, 1, 0, 0, 0), (49, .getfield 12, 3, 4, 0, 0), (52, .getfield 109, 3, 2, 2, 0), (55, .iload_n 1, 1, 0, 0, 0), (56, .iaload, 1, 0, 0, 0), (57, .invokevirtual 276, 3, 63, 5, 2), (60, .istore 5, 2, 0, 0, 0), (62, .iload 5, 2, 0, 0, 0), (64, .iconst (-1), 1, 0, 0, 0), (65, .if_icmp .eq 27, 3, 92, 0, 0), (68, .iload_n 2, 1, 0, 0, 0), (69, .bipush 48, 2, 0, 0, 0), (71, .if_icmp .ne 21, 3, 92, 0, 0), (74, .aload 4, 2, 0, 0, 0), (76, .iload 5, 2, 0, 0, 0), (78, .invokevirtual 281, 3, 64, 5, 1), (81, .iload_n 3, 1, 0, 0, 0), (82, .if_icmp .eq 10, 3, 92, 0, 0), (85, .aload_n 0, 1, 0, 0, 0), (86, .iload_n 1, 1, 0, 0, 0), (87, .invokevirtual 284, 3, 57, 4, 1), (90, .iconst (-1), 1, 0, 0, 0), (91, .ireturn, 1, 0, 0, 0), (92, .iload 5, 2, 0, 0, 0), (94, .ireturn, 1, 0, 0, 0)]
/-- TierMill$Machine.failGuard(I)V -/
def e_d57 : List (Nat × Instr × Nat × Nat × Nat × Int) := [(0, .iload_n 1, 1, 0, 0, 0), (1, .istore_n 2, 1, 0, 0, 0), (2, .iload_n 2, 1, 0, 0, 0), (3, .ifCond .le 22, 3, 25, 0, 0), (6, .aload_n 0, 1, 0, 0, 0), (7, .getfield 12, 3, 4, 0, 0), (10, .getfield 190, 3, 2, 3, 0), (13, .iload_n 2, 1, 0, 0, 0), (14, .iaload, 1, 0, 0, 0), (15, .iconst 2, 1, 0, 0, 0), (16, .if_icmp .ne 9, 3, 25, 0, 0), (19, .iinc 2 (-1), 3, 0, 0, 0), (22, .goto (-20), 3, 2, 0, 0), (25, .aload_n 0, 1, 0, 0, 0), (26, .getfield 12, 3, 4, 0, 0), (29, .getfield 101, 3, 2, 1, 0), (32, .iload_n 2, 1, 0, 0, 0), (33, .iaload, 1, 0, 0, 0), (34, .istore_n 3, 1, 0, 0, 0), (35, .aload_n 0, 1, 0, 0, 0), (36, .getfield 35, 3, 4, 3, 0), (39, .iconst 2, 1, 0, 0, 0), (40, .aload_n 0, 1, 0, 0, 0), (41, .getfield 65, 3, 4, 9, 0), (44, .iload_n 3, 1, 0, 0, 0), (45, .aload_n 0, 1, 0, 0, 0), (46, .getfield 12, 3, 4, 0, 0), (49, .getfield 101, 3, 2, 1, 0), (52, .iload_n 1, 1, 0, 0, 0), (53, .iaload, 1, 0, 0, 0), (54, .aload_n 0, 1, 0, 0, 0), (55, .getfield 12, 3, 4, 0, 0), (58, .getfield 109, 3, 2, 2, 0), (61, .iload_n 1, 1, 0, 0, 0), (62, .iaload, 1, 0, 0, 0), (63, .invokevirtual 216, 3, 9, 1, 5), (66, .aload_n 0, 1, 0, 0, 0), (67, .getfield 28, 3, 4, 2, 0), (70, .iload_n 3, 1, 0, 0, 0), (71, .aload_n 0, 1, 0, 0, 0), (72, .getfield 12, 3, 4, 0, 0), (75, .getfield 259, 3, 2, 4, 0), (78, .iload_n 2, 1, 0, 0, 0), (79, .iaload, 1, 0, 0, 0), (80, .invokevirtual 287, 3, 89, 9, 2), (83, .iload_n 2, 1, 0, 0, 0), (84, .istore 4, 2, 0, 0, 0), (86, .iload 4, 2, 0, 0, 0), (88, .iload_n 1, 1, 0, 0, 0), (89, .if_icmp .gt 18, 3, 107, 0, 0), (92, .aload_n 0, 1, 0, 0, 0), (93, .getfield 12, 3, 4, 0, 0), (96, .iload 4, 2, 0, 0, 0), (98, .invokevirtual 291, 3, 13, 2, 1), (101, .iinc 4 1, 3, 0, 0, 0), (104, .goto (-18), 3, 86, 0, 0), (107, .return_, 1, 0, 0, 0)]
/-- TierMill$Machine.openInvoked(I)V -/
def e_d58 : List (Nat × Instr × Nat × Nat × Nat × Int) := [(0, .aload_n 0, 1, 0, 0, 0), (1, .getfield 28, 3, 4, 2, 0), (4, .iload_n 1, 1, 0, 0, 0), (5, .invokevirtual 294, 3, 88, 9, 1), (8, .astore_n 2, 1, 0, 0, 0), (9, .aload_n 2, 1, 0, 0, 0), (10, .ifnull 24, 3, 34, 0, 0), (13, .aload_n 0, 1, 0, 0, 0), (14, .getfield 35, 3, 4, 3, 0), (17, .iconst 1, 1, 0, 0, 0), (18, .aload_n 0, 1, 0, 0, 0), (19, .getfield 65, 3, 4, 9, 0), (22, .iload_n 1, 1, 0, 0, 0), (23, .aload_n 2, 1, 0, 0, 0), (24, .getfield 297, 3, 5, 0, 0), (27, .aload_n 2, 1, 0, 0, 0), (28, .getfield 298, 3, 5, 1, 0), (31, .invokevirtual 216, 3, 9, 1, 5), (34, .aload_n 0, 1, 0, 0, 0), (35, .getfield 28, 3, 4, 2, 0), (38, .iload_n 1, 1, 0, 0, 0), (39, .invokevirtual 301, 3, 85, 9, 1), (42, .istore_n 3, 1, 0, 0, 0), (43, .aload_n 0, 1, 0, 0, 0), (44, .getfield 12, 3, 4, 0, 0), (47, .iload_n 1, 1, 0, 0, 0), (48, .iload_n 3, 1, 0, 0, 0), (49, .iconst (-1), 1, 0, 0, 0), (50, .if_icmp .ne 7, 3, 57, 0, 0), (53, .iconst 0, 1, 0, 0, 0), (54, .goto 4, 3, 58, 0, 0), (57, .iconst 1, 1, 0, 0, 0), (58, .iload_n 3, 1, 0, 0, 0), (59, .iconst (-1), 1, 0, 0, 0), (60, .invokevirtual 262, 3, 12, 2, 4), (63, .return_, 1, 0, 0, 0)]
/-- TierMill$Machine.giveBack(I)I -/
def e_d59 : List (Nat × Instr × Nat × Nat × Nat × Int) := [(0, .iload_n 1, 1, 0, 0, 0), (1, .bipush 50, 2, 0, 0, 0), (3, .if_icmp .ne 13, 3, 16, 0, 0), (6, .aload_n 0, 1, 0, 0, 0), (7, .getfield 12, 3, 4, 0, 0), (10, .invokevirtual 164, 3, 17, 2, 0), (13, .goto 4, 3, 17, 0, 0), (16, .iconst 0, 1, 0, 0, 0), (17, .istore_n 2, 1, 0, 0, 0), (18, .aload_n 0, 1, 0, 0, 0), (19, .getfield 12, 3, 4, 0, 0), (22, .dup, 1, 0, 0, 0), (23, .getfield 71, 3, 2, 0, 0), (26, .iconst 1, 1, 0, 0, 0), (27, .isub, 1, 0, 0, 0), (28, .putfield 71, 3, 2, 0, 0), (31, .aload_n 0, 1, 0, 0, 0), (32, .getfield 12, 3, 4, 0, 0), (35, .getfield 71, 3, 2, 0, 0), (38, .ifCond .le 19, 3, 57, 0, 0), (41, .iload_n 1, 1, 0, 0, 0), (42, .bipush 50, 2, 0, 0, 0), (44, .if_icmp .ne 11, 3, 55, 0, 0), (47, .aload_n 0, 1, 0, 0, 0), (48, .getfield 12, 3, 4, 0, 0), (51, .iload_n 2, 1, 0, 0, 0), (52, .invokevirtual 154, 3, 18, 2, 1), (55, .iconst 0, 1, 0, 0, 0), (56, .ireturn, 1, 0, 0, 0), (57, .aload_n 0, 1, 0, 0, 0), (58, .iconst 2, 1, 0, 0, 0), (59, .putfield 56, 3, 4, 6, 0), (62, .aload_n 0, 1, 0, 0, 0), (63, .aload_n 0, 1, 0, 0, 0), (64, .getfield 80, 3, 4, 14, 0), (67, .getfield 95, 3, 6, 10, 0), (70, .iconst 0, 1, 0, 0, 0), (71, .aaload, 1, 0, 0, 0), (72, .getfield 304, 3, 8, 2, 0), (75, .iconst 1, 1, 0, 0, 0), (76, .if_icmp .ne 7, 3, 83, 0, 0), (79, .iload_n 2, 1, 0, 0, 0), (80, .goto 4, 3, 84, 0, 0), (83, .iconst 0, 1, 0, 0, 0), (84, .putfield 62, 3, 4, 8, 0), (87, .iconst 0, 1, 0, 0, 0), (88, .ireturn, 1, 0, 0, 0)]
/-- TierMill$Machine.passInt(I)I -/
def e_d60 : List (Nat × Instr × Nat × Nat × Nat × Int) := [(0, .iload_n 1, 1, 0, 0, 0), (1, .bipush 51, 2, 0, 0, 0), (3, .if_icmp .ne 44, 3, 47, 0, 0), (6, .aload_n 0, 1, 0, 0, 0), (7, .getfield 12, 3, 4, 0, 0), (10, .invokevirtual 164, 3, 17, 2, 0), (13, .istore_n 2, 1, 0, 0, 0), (14, .aload_n 0, 1, 0, 0, 0), (15, .getfield 68, 3, 4, 5, 0), (18, .sipush 500, 3, 0, 0, 0), (21, .if_icmp .ge 13, 3, 34, 0, 0), (24, .aload_n 0, 1, 0, 0, 0), (25, .getfield 39, 3, 4, 4, 0), (28, .aload_n 0, 1, 0, 0, 0), (29, .getfield 68, 3, 4, 5, 0), (32, .iload_n 2, 1, 0, 0, 0), (33, .iastore, 1, 0, 0, 0), (34, .aload_n 0, 1, 0, 0, 0), (35, .dup, 1, 0, 0, 0), (36, .getfield 68, 3, 4, 5, 0), (39, .iconst 1, 1, 0, 0, 0), (40, .iadd, 1, 0, 0, 0), (41, .putfield 68, 3, 4, 5, 0), (44, .goto 14, 3, 58, 0, 0), (47, .aload_n 0, 1, 0, 0, 0), (48, .getfield 12, 3, 4, 0, 0), (51, .aload_n 0, 1, 0, 0, 0), (52, .invokevirtual 307, 3, 61, 4, 0), (55, .invokevirtual 154, 3, 18, 2, 1), (58, .aload_n 0, 1, 0, 0, 0), (59, .getfield 12, 3, 4, 0, 0), (62, .getstatic 173, 3, 2, 1, 0), (65, .iload_n 1, 1, 0, 0, 0), (66, .iaload, 1, 0, 0, 0), (67, .invokevirtual 176, 3, 19, 2, 1), (70, .iconst 0, 1, 0, 0, 0), (71, .ireturn, 1, 0, 0, 0)]
/-- TierMill$Machine.nextInput()I -/
def e_d61 : List (Nat × Instr × Nat × Nat × Nat × Int) := [(0, .aload_n 0, 1, 0, 0, 0), (1, .getfield 49, 3, 4, 11, 0), (4, .ifCond .ne 5, 3, 9, 0, 0), (7, .iconst 0, 1, 0, 0, 0), (8, .ireturn, 1, 0, 0, 0), (9, .aload_n 0, 1, 0, 0, 0), (10, .getfield 43, 3, 4, 12, 0), (13, .aload_n 0, 1, 0, 0, 0), (14, .getfield 53, 3, 4, 13, 0), (17, .iaload, 1, 0, 0, 0), (18, .istore_n 1, 1, 0, 0, 0), (19, .aload_n 0, 1, 0, 0, 0), (20, .aload_n 0, 1, 0, 0, 0), (21, .getfield 53, 3, 4, 13, 0), (24, .iconst 1, 1, 0, 0, 0), (25, .iadd, 1, 0, 0, 0), (26, .bipush 100, 2, 0, 0, 0), (28, .irem, 1, 0, 0, 0), (29, .putfield 53, 3, 4, 13, 0), (32, .aload_n 0, 1, 0, 0, 0), (33, .dup, 1, 0, 0, 0), (34, .getfield 49, 3, 4, 11, 0), (37, .iconst 1, 1, 0, 0, 0), (38, .isub, 1, 0, 0, 0), (39, .putfield 49, 3, 4, 11, 0), (42, .iload_n 1, 1, 0, 0, 0), (43, .ireturn, 1, 0, 0, 0)]
/-- TierMill$Plan.<init>([III)V -/
def e_d62 : List (Nat × Instr × Nat × Nat × Nat × Int) := [(0, .aload_n 0, 1, 0, 0, 0), (1, .invokespecial 3, 3, 900, 0, 0), (4, .aload_n 0, 1, 0, 0, 0), (5, .iload_n 2, 1, 0, 0, 0), (6, .putfield 9, 3, 5, 0, 0), (9, .aload_n 0, 1, 0, 0, 0), (10, .iload_n 3, 1, 0, 0, 0), (11, .putfield 15, 3, 5, 1, 0), (14, .aload_n 0, 1, 0, 0, 0), (15, .aload_n 1, 1, 0, 0, 0), (16, .iload_n 2, 1, 0, 0, 0), (17, .bipush 6, 2, 0, 0, 0), (19, .imul, 1, 0, 0, 0), (20, .invokestatic 18, 3, 235, 0, 2), (23, .putfield 24, 3, 5, 2, 0), (26, .return_, 1, 0, 0, 0)]
/-- TierMill$Plan.find(II)I -/
def e_d63 : List (Nat × Instr × Nat × Nat × Nat × Int) := [(0, .iload_n 1, 1, 0, 0, 0), (1, .iconst (-1), 1, 0, 0, 0), (2, .if_icmp .ne 10, 3, 12, 0, 0), (5, .aload_n 0, 1, 0, 0, 0), (6, .getfield 9, 3, 5, 0, 0), (9, .goto 14, 3, 23, 0, 0), (12, .aload_n 0, 1, 0, 0, 0), (13, .getfield 24, 3, 5, 2, 0), (16, .iload_n 1, 1, 0, 0, 0), (17, .bipush 6, 2, 0, 0, 0), (19, .imul, 1, 0, 0, 0), (20, .iconst 5, 1, 0, 0, 0), (21, .iadd, 1, 0, 0, 0), (22, .iaload, 1, 0, 0, 0), (23, .istore_n 3, 1, 0, 0, 0), (24, .iload_n 1, 1, 0, 0, 0), (25, .iconst 1, 1, 0, 0, 0), (26, .iadd, 1, 0, 0, 0), (27, .istore 4, 2, 0, 0, 0), (29, .iload 4, 2, 0, 0, 0), (31, .iload_n 3, 1, 0, 0, 0), (32, .if_icmp .ge 46, 3, 78, 0, 0), (35, .aload_n 0, 1, 0, 0, 0), (36, .getfield 24, 3, 5, 2, 0), (39, .iload 4, 2, 0, 0, 0), (41, .bipush 6, 2, 0, 0, 0), (43, .imul, 1, 0, 0, 0), (44, .iconst 2, 1, 0, 0, 0), (45, .iadd, 1, 0, 0, 0), (46, .iaload, 1, 0, 0, 0), (47, .iload_n 2, 1, 0, 0, 0), (48, .if_icmp .ne 6, 3, 54, 0, 0), (51, .iload 4, 2, 0, 0, 0), (53, .ireturn, 1, 0, 0, 0), (54, .iload 4, 2, 0, 0, 0), (56, .iconst 1, 1, 0, 0, 0), (57, .iadd, 1, 0, 0, 0), (58, .aload_n 0, 1, 0, 0, 0), (59, .getfield 24, 3, 5, 2, 0), (62, .iload 4, 2, 0, 0, 0), (64, .bipush 6, 2, 0, 0, 0), (66, .imul, 1, 0, 0, 0), (67, .iconst 5, 1, 0, 0, 0), (68, .iadd, 1, 0, 0, 0), (69, .iaload, 1, 0, 0, 0), (70, .invokestatic 28, 3, 230, 0, 2), (73, .istore 4, 2, 0, 0, 0), (75, .goto (-46), 3, 29, 0, 0), (78, .iconst (-1), 1, 0, 0, 0), (79, .ireturn, 1, 0, 0, 0)]
/-- TierMill$Plan.guardOf(I)I -/
def e_d64 : List (Nat × Instr × Nat × Nat × Nat × Int) := [(0, .aload_n 0, 1, 0, 0, 0), (1, .getfield 24, 3, 5, 2, 0), (4, .iload_n 1, 1, 0, 0, 0), (5, .bipush 6, 2, 0, 0, 0), (7, .imul, 1, 0, 0, 0), (8, .iconst 3, 1, 0, 0, 0), (9, .iadd, 1, 0, 0, 0), (10, .iaload, 1, 0, 0, 0), (11, .ireturn, 1, 0, 0, 0)]
/-- TierMill$Program.<init>()V -/
def e_d65 : List (Nat × Instr × Nat × Nat × Nat × Int) := [(0, .aload_n 0, 1, 0, 0, 0), (1, .invokespecial 3, 3, 900, 0, 0), (4, .aload_n 0, 1, 0, 0, 0), (5, .sipush 1500, 3, 0, 0, 0), (8, .newarray .int, 2, 20, 0, 0), (10, .putfield 9, 3, 6, 0, 0), (13, .aload_n 0, 1, 0, 0, 0), (14, .bipush 8, 2, 0, 0, 0), (16, .newarray .int, 2, 20, 0, 0), (18, .putfield 15, 3, 6, 3, 0), (21, .aload_n 0, 1, 0, 0, 0), (22, .bipush 8, 2, 0, 0, 0), (24, .newarray .int, 2, 20, 0, 0), (26, .putfield 18, 3, 6, 4, 0), (29, .aload_n 0, 1, 0, 0, 0), (30, .bipush 8, 2, 0, 0, 0), (32, .newarray .int, 2, 20, 0, 0), (34, .putfield 21, 3, 6, 5, 0), (37, .aload_n 0, 1, 0, 0, 0), (38, .bipush 64, 2, 0, 0, 0), (40, .newarray .int, 2, 20, 0, 0), (42, .putfield 24, 3, 6, 6, 0), (45, .aload_n 0, 1, 0, 0, 0), (46, .bipush 8, 2, 0, 0, 0), (48, .anewarray 27, 3, 24, 0, 0), (51, .putfield 29, 3, 6, 8, 0), (54, .iconst 0, 1, 0, 0, 0), (55, .istore_n 1, 1, 0, 0, 0), (56, .iload_n 1, 1, 0, 0, 0), (57, .bipush 8, 2, 0, 0, 0), (59, .if_icmp .ge 22, 3, 81, 0, 0), (62, .aload_n 0, 1, 0, 0, 0), (63, .getfield 29, 3, 6, 8, 0), (66, .iload_n 1, 1, 0, 0, 0), (67, .new 27, 3, 8, 0, 0), (70, .dup, 1, 0, 0, 0), (71, .invokespecial 33, 3, 81, 0, 0), (74, .aastore, 1, 0, 0, 0), (75, .iinc 1 1, 3, 0, 0, 0), (78, .goto (-22), 3, 56, 0, 0), (81, .aload_n 0, 1, 0, 0, 0), (82, .bipush 16, 2, 0, 0, 0), (84, .anewarray 27, 3, 24, 0, 0), (87, .putfield 34, 3, 6, 10, 0), (90, .iconst 0, 1, 0, 0, 0), (91, .istore_n 1, 1, 0, 0, 0), (92, .iload_n 1, 1, 0, 0, 0), (93, .bipush 16, 2, 0, 0, 0), (95, .if_icmp .ge 22, 3, 117, 0, 0), (98, .aload_n 0, 1, 0, 0, 0), (99, .getfield 34, 3, 6, 10, 0), (102, .iload_n 1, 1, 0, 0, 0), (103, .new 27, 3, 8, 0, 0), (106, .dup, 1, 0, 0, 0), (107, .invokespecial 33, 3, 81, 0, 0), (110, .aastore, 1, 0, 0, 0), (111, .iinc 1 1, 3, 0, 0, 0), (114, .goto (-22), 3, 92, 0, 0), (117, .aload_n 0, 1, 0, 0, 0), (118, .bipush 64, 2, 0, 0, 0), (120, .newarray .int, 2, 20, 0, 0), (122, .putfield 37, 3, 6, 11, 0), (125, .aload_n 0, 1, 0, 0, 0), (126, .sipush 1500, 3, 0, 0, 0), (129, .newarray .int, 2, 20, 0, 0), (131, .putfield 40, 3, 6, 12, 0), (134, .aload_n 0, 1, 0, 0, 0), (135, .sipush 1500, 3, 0, 0, 0), (138, .newarray .int, 2, 20, 0, 0), (140, .putfield 43, 3, 6, 13, 0), (143, .aload_n 0, 1, 0, 0, 0), (144, .sipush 1500, 3, 0, 0, 0), (147, .newarray .int, 2, 20, 0, 0), (149, .putfield 46, 3, 6, 15, 0), (152, .aload_n 0, 1, 0, 0, 0), (153, .sipush 1500, 3, 0, 0, 0), (156, .newarray .long, 2, 21, 0, 0), (158, .putfield 49, 3, 6, 16, 0), (161, .aload_n 0, 1, 0, 0, 0), (162, .sipush 1500, 3, 0, 0, 0), (165, .newarray .long, 2, 21, 0, 0), (167, .putfield 53, 3, 6, 17, 0), (170, .return_, 1, 0, 0, 0)]
/-- TierMill$Program.isOrBelow(II)Z -/
def e_d66 : List (Nat × Instr × Nat × Nat × Nat × Int) := [(0, .aload_n 0, 1, 0, 0, 0), (1, .getfield 18, 3, 6, 4, 0), (4, .iload_n 1, 1, 0, 0, 0), (5, .iaload, 1, 0, 0, 0), (6, .iload_n 2, 1, 0, 0, 0), (7, .ishr, 1, 0, 0, 0), (8, .iconst 1, 1, 0, 0, 0), (9, .iand, 1, 0, 0, 0), (10, .ifCond .eq 7, 3, 17, 0, 0), (13, .iconst 1, 1, 0, 0, 0), (14, .goto 4, 3, 18, 0, 0), (17, .iconst 0, 1, 0, 0, 0), (18, .ireturn, 1, 0, 0, 0)]
/-- TierMill$Program.begins(II)Z -/
def e_d67 : List (Nat × Instr × Nat × Nat × Nat × Int) := [(0, .iload_n 1, 1, 0, 0, 0), (1, .ifCond .lt 11, 3, 12, 0, 0), (4, .iload_n 1, 1, 0, 0, 0), (5, .aload_n 0, 1, 0, 0, 0), (6, .getfield 56, 3, 6, 9, 0), (9, .if_icmp .lt 5, 3, 14, 0, 0), (12, .iconst 0, 1, 0, 0, 0), (13, .ireturn, 1, 0, 0, 0), (14, .aload_n 0, 1, 0, 0, 0), (15, .getfield 34, 3, 6, 10, 0), (18, .iload_n 1, 1, 0, 0, 0), (19, .aaload, 1, 0, 0, 0), (20, .astore_n 3, 1, 0, 0, 0), (21, .iload_n 2, 1, 0, 0, 0), (22, .ifCond .lt 29, 3, 51, 0, 0), (25, .iload_n 2, 1, 0, 0, 0), (26, .aload_n 3, 1, 0, 0, 0), (27, .getfield 60, 3, 8, 6, 0), (30, .if_icmp .ge 21, 3, 51, 0, 0), (33, .aload_n 0, 1, 0, 0, 0), (34, .getfield 40, 3, 6, 12, 0), (37, .aload_n 3, 1, 0, 0, 0), (38, .getfield 63, 3, 8, 5, 0), (41, .iload_n 2, 1, 0, 0, 0), (42, .iadd, 1, 0, 0, 0), (43, .iaload, 1, 0, 0, 0), (44, .ifCond .eq 7, 3, 51, 0, 0), (47, .iconst 1, 1, 0, 0, 0), (48, .goto 4, 3, 52, 0, 0), (51, .iconst 0, 1, 0, 0, 0), (52, .ireturn, 1, 0, 0, 0)]
/-- TierMill$Program.kindAt(II)I -/
def e_d68 : List (Nat × Instr × Nat × Nat × Nat × Int) := [(0, .iload_n 2, 1, 0, 0, 0), (1, .bipush 8, 2, 0, 0, 0), (3, .if_icmp .ge 16, 3, 19, 0, 0), (6, .aload_n 0, 1, 0, 0, 0), (7, .getfield 49, 3, 6, 16, 0), (10, .iload_n 1, 1, 0, 0, 0), (11, .laload, 1, 0, 0, 0), (12, .iload_n 2, 1, 0, 0, 0), (13, .invokestatic 66, 3, 69, 0, 2), (16, .goto 16, 3, 32, 0, 0), (19, .aload_n 0, 1, 0, 0, 0), (20, .getfield 53, 3, 6, 17, 0), (23, .iload_n 1, 1, 0, 0, 0), (24, .laload, 1, 0, 0, 0), (25, .iload_n 2, 1, 0, 0, 0), (26, .bipush 8, 2, 0, 0, 0), (28, .isub, 1, 0, 0, 0), (29, .invokestatic 66, 3, 69, 0, 2), (32, .ireturn, 1, 0, 0, 0)]
/-- TierMill$Program.kindIn(JI)I -/
def e_d69 : List (Nat × Instr × Nat × Nat × Nat × Int) := [(0, .lload_n 0, 1, 0, 0, 0), (1, .bipush 8, 2, 0, 0, 0), (3, .iload_n 2, 1, 0, 0, 0), (4, .imul, 1, 0, 0, 0), (5, .lushr, 1, 0, 0, 0), (6, .l2i, 1, 0, 0, 0), (7, .sipush 255, 3, 0, 0, 0), (10, .iand, 1, 0, 0, 0), (11, .ireturn, 1, 0, 0, 0)]
/-- TierMill$Program.isReference(I)Z -/
def e_d70 : List (Nat × Instr × Nat × Nat × Nat × Int) := [(0, .iload_n 0, 1, 0, 0, 0), (1, .iconst 2, 1, 0, 0, 0), (2, .if_icmp .eq 9, 3, 11, 0, 0), (5, .iload_n 0, 1, 0, 0, 0), (6, .bipush 15, 2, 0, 0, 0), (8, .if_icmp .lt 7, 3, 15, 0, 0), (11, .iconst 1, 1, 0, 0, 0), (12, .goto 4, 3, 16, 0, 0), (15, .iconst 0, 1, 0, 0, 0), (16, .ireturn, 1, 0, 0, 0)]
/-- TierMill$Reader.<init>()V -/
def e_d71 : List (Nat × Instr × Nat × Nat × Nat × Int) := [(0, .aload_n 0, 1, 0, 0, 0), (1, .invokespecial 3, 3, 900, 0, 0), (4, .return_, 1, 0, 0, 0)]
/-- TierMill$Reader.firstWrong(LTierMill$Program;)I -/
def e_d72 : List (Nat × Instr × Nat × Nat × Nat × Int) := [(0, .aload_n 0, 1, 0, 0, 0), (1, .aload_n 1, 1, 0, 0, 0), (2, .putfield 9, 3, 7, 0, 0), (5, .aload_n 0, 1, 0, 0, 0), (6, .iconst 0, 1, 0, 0, 0), (7, .putfield 15, 3, 7, 1, 0), (10, .aload_n 0, 1, 0, 0, 0), (11, .iconst (-1), 1, 0, 0, 0), (12, .putfield 19, 3, 7, 2, 0), (15, .aload_n 0, 1, 0, 0, 0), (16, .invokevirtual 22, 3, 75, 7, 0), (19, .aload_n 0, 1, 0, 0, 0), (20, .invokevirtual 25, 3, 76, 7, 0), (23, .aload_n 0, 1, 0, 0, 0), (24, .invokevirtual 28, 3, 78, 7, 0), (27, .aload_n 0, 1, 0, 0, 0), (28, .invokevirtual 31, 3, 79, 7, 0), (31, .aload_n 0, 1, 0, 0, 0), (32, .getfield 19, 3, 7, 2, 0), (35, .iconst (-1), 1, 0, 0, 0), (36, .if_icmp .ne 25, 3, 61, 0, 0), (39, .aload_n 0, 1, 0, 0, 0), (40, .getfield 15, 3, 7, 1, 0), (43, .aload_n 0, 1, 0, 0, 0), (44, .getfield 9, 3, 7, 0, 0), (47, .getfield 34, 3, 6, 1, 0), (50, .if_icmp .ge 11, 3, 61, 0, 0), (53, .aload_n 0, 1, 0, 0, 0), (54, .aload_n 0, 1, 0, 0, 0), (55, .getfield 15, 3, 7, 1, 0), (58, .putfield 19, 3, 7, 2, 0), (61, .aload_n 0, 1, 0, 0, 0), (62, .getfield 19, 3, 7, 2, 0), (65, .ireturn, 1, 0, 0, 0)]
/-- TierMill$Reader.take(II)I -/
def e_d73 : List (Nat × Instr × Nat × Nat × Nat × Int) := [(0, .aload_n 0, 1, 0, 0, 0), (1, .getfield 19, 3, 7, 2, 0), (4, .iconst (-1), 1, 0, 0, 0), (5, .if_icmp .eq 5, 3, 10, 0, 0), (8, .iload_n 1, 1, 0, 0, 0), (9, .ireturn, 1, 0, 0, 0), (10, .aload_n 0, 1, 0, 0, 0), (11, .getfield 15, 3, 7, 1, 0), (14, .aload_n 0, 1, 0, 0, 0), (15, .getfield 9, 3, 7, 0, 0), (18, .getfield 34, 3, 6, 1, 0), (21, .if_icmp .lt 16, 3, 37, 0, 0), (24, .aload_n 0, 1, 0, 0, 0), (25, .aload_n 0, 1, 0, 0, 0), (26, .getfield 9, 3, 7, 0, 0), (29, .getfield 34, 3, 6, 1, 0), (32, .putfield 19, 3, 7, 2, 0), (35, .iload_n 1, 1, 0, 0, 0), (36, .ireturn, 1, 0, 0, 0), (37, .aload_n 0, 1, 0, 0, 0), (38, .getfield 9, 3, 7, 0, 0), (41, .getfield 39, 3, 6, 0, 0), (44, .aload_n 0, 1, 0, 0, 0), (45, .getfield 15, 3, 7, 1, 0), (48, .iaload, 1, 0, 0, 0), (49, .istore_n 3, 1, 0, 0, 0), (50, .iload_n 3, 1, 0, 0, 0), (51, .iload_n 1, 1, 0, 0, 0), (52, .if_icmp .lt 8, 3, 60, 0, 0), (55, .iload_n 3, 1, 0, 0, 0), (56, .iload_n 2, 1, 0, 0, 0), (57, .if_icmp .le 13, 3, 70, 0, 0), (60, .aload_n 0, 1, 0, 0, 0), (61, .aload_n 0, 1, 0, 0, 0), (62, .getfield 15, 3, 7, 1, 0), (65, .putfield 19, 3, 7, 2, 0), (68, .iload_n 1, 1, 0, 0, 0), (69, .ireturn, 1, 0, 0, 0), (70, .aload_n 0, 1, 0, 0, 0), (71, .dup, 1, 0, 0, 0), (72, .getfield 15, 3, 7, 1, 0), (75, .iconst 1, 1, 0, 0, 0), (76, .iadd, 1, 0, 0, 0), (77, .putfield 15, 3, 7, 1, 0), (80, .iload_n 3, 1, 0, 0, 0), (81, .ireturn, 1, 0, 0, 0)]
/-- TierMill$Reader.takeType(I)I -/
def e_d74 : List (Nat × Instr × Nat × Nat × Nat × Int) := [(0, .aload_n 0, 1, 0, 0, 0), (1, .iload_n 1, 1, 0, 0, 0), (2, .bipush 16, 2, 0, 0, 0), (4, .aload_n 0, 1, 0, 0, 0), (5, .getfield 9, 3, 7, 0, 0), (8, .getfield 43, 3, 6, 2, 0), (11, .iadd, 1, 0, 0, 0), (12, .iconst 1, 1, 0, 0, 0), (13, .isub, 1, 0, 0, 0), (14, .invokevirtual 46, 3, 73, 7, 2), (17, .istore_n 2, 1, 0, 0, 0), (18, .iload_n 2, 1, 0, 0, 0), (19, .iconst 2, 1, 0, 0, 0), (20, .if_icmp .le 19, 3, 39, 0, 0), (23, .iload_n 2, 1, 0, 0, 0), (24, .bipush 16, 2, 0, 0, 0), (26, .if_icmp .ge 13, 3, 39, 0, 0), (29, .aload_n 0, 1, 0, 0, 0), (30, .aload_n 0, 1, 0, 0, 0), (31, .getfield 15, 3, 7, 1, 0), (34, .iconst 1, 1, 0, 0, 0), (35, .isub, 1, 0, 0, 0), (36, .putfield 19, 3, 7, 2, 0), (39, .iload_n 2, 1, 0, 0, 0), (40, .ireturn, 1, 0, 0, 0)]
/-- TierMill$Reader.readClasses()V -/
def e_d75 : List (Nat × Instr × Nat × Nat × Nat × Int) := [(0, .aload_n 0, 1, 0, 0, 0), (1, .getfield 9, 3, 7, 0, 0), (4, .aload_n 0, 1, 0, 0, 0), (5, .iconst 0, 1, 0, 0, 0), (6, .bipush 8, 2, 0, 0, 0), (8, .invokevirtual 46, 3, 73, 7, 2), (11, .putfield 43, 3, 6, 2, 0), (14, .iconst 0, 1, 0, 0, 0), (15, .istore_n 1, 1, 0, 0, 0), (16, .iload_n 1, 1, 0, 0, 0), (17, .aload_n 0, 1, 0, 0, 0), (18, .getfield 9, 3, 7, 0, 0), (21, .getfield 43, 3, 6, 2, 0), (24, .if_icmp .ge 187, 3, 211, 0, 0), (27, .aload_n 0, 1, 0, 0, 0), (28, .iconst 0, 1, 0, 0, 0), (29, .iload_n 1, 1, 0, 0, 0), (30, .invokevirtual 46, 3, 73, 7, 2), (33, .iconst 1, 1, 0, 0, 0), (34, .isub, 1, 0, 0, 0), (35, .istore_n 2, 1, 0, 0, 0), (36, .iload_n 2, 1, 0, 0, 0), (37, .iconst (-1), 1, 0, 0, 0), (38, .if_icmp .ne 7, 3, 45, 0, 0), (41, .iconst 0, 1, 0, 0, 0), (42, .goto 12, 3, 54, 0, 0), (45, .aload_n 0, 1, 0, 0, 0), (46, .getfield 9, 3, 7, 0, 0), (49, .getfield 50, 3, 6, 5, 0), (52, .iload_n 2, 1, 0, 0, 0), (53, .iaload, 1, 0, 0, 0), (54, .istore_n 3, 1, 0, 0, 0), (55, .aload_n 0, 1, 0, 0, 0), (56, .getfield 9, 3, 7, 0, 0), (59, .getfield 53, 3, 6, 3, 0), (62, .iload_n 1, 1, 0, 0, 0), (63, .iload_n 2, 1, 0, 0, 0), (64, .iastore, 1, 0, 0, 0), (65, .aload_n 0, 1, 0, 0, 0), (66, .getfield 9, 3, 7, 0, 0), (69, .getfield 56, 3, 6, 4, 0), (72, .iload_n 1, 1, 0, 0, 0), (73, .iconst 1, 1, 0, 0, 0), (74, .iload_n 1, 1, 0, 0, 0), (75, .ishl, 1, 0, 0, 0), (76, .iload_n 2, 1, 0, 0, 0), (77, .iconst (-1), 1, 0, 0, 0), (78, .if_icmp .ne 7, 3, 85, 0, 0), (81, .iconst 0, 1, 0, 0, 0), (82, .goto 12, 3, 94, 0, 0), (85, .aload_n 0, 1, 0, 0, 0), (86, .getfield 9, 3, 7, 0, 0), (89, .getfield 56, 3, 6, 4, 0), (92, .iload_n 2, 1, 0, 0, 0), (93, .iaload, 1, 0, 0, 0), (94, .ior, 1, 0, 0, 0), (95, .iastore, 1, 0, 0, 0), (96, .iconst 0, 1, 0, 0, 0), (97, .istore 4, 2, 0, 0, 0), (99, .iload 4, 2, 0, 0, 0), (101, .iload_n 3, 1, 0, 0, 0), (102, .if_icmp .ge 39, 3, 141, 0, 0), (105, .aload_n 0, 1, 0, 0, 0), (106, .getfield 9, 3, 7, 0, 0), (109, .getfield 59, 3, 6, 6, 0), (112, .iload_n 1, 1, 0, 0, 0), (113, .bipush 8, 2, 0, 0, 0), (115, .imul, 1, 0, 0, 0), (116, .iload 4, 2, 0, 0, 0), (118, .iadd, 1, 0, 0, 0), (119, .aload_n 0, 1, 0, 0, 0), (120, .getfield 9, 3, 7, 0, 0), (123, .getfield 59, 3, 6, 6, 0), (126, .iload_n 2, 1, 0, 0, 0), (127, .bipush 8, 2, 0, 0, 0), (129, .imul, 1, 0, 0, 0), (130, .iload 4, 2, 0, 0, 0), (132, .iadd, 1, 0, 0, 0), (133, .iaload, 1, 0, 0, 0), (134, .iastore, 1, 0, 0, 0), (135, .iinc 4 1, 3, 0, 0, 0), (138, .goto (-39), 3, 99, 0, 0), (141, .iload_n 3, 1, 0, 0, 0), (142, .aload_n 0, 1, 0, 0, 0), (143, .iconst 0, 1, 0, 0, 0), (144, .iconst 4, 1, 0, 0, 0), (145, .bipush 8, 2, 0, 0, 0), (147, .iload_n 3, 1, 0, 0, 0), (148, .isub, 1, 0, 0, 0), (149, .invokestatic 62, 3, 231, 0, 2), (152, .invokevirtual 46, 3, 73, 7, 2), (155, .iadd, 1, 0, 0, 0), (156, .istore 4, 2, 0, 0, 0), (158, .iload_n 3, 1, 0, 0, 0), (159, .istore 5, 2, 0, 0, 0), (161, .iload 5, 2, 0, 0, 0), (163, .iload 4, 2, 0, 0, 0), (165, .if_icmp .ge 29, 3, 194, 0, 0), (168, .aload_n 0, 1, 0, 0, 0), (169, .getfield 9, 3, 7, 0, 0), (172, .getfield 59, 3, 6, 6, 0), (175, .iload_n 1, 1, 0, 0, 0), (176, .bipush 8, 2, 0, 0, 0), (178, .imul, 1, 0, 0, 0), (179, .iload 5, 2, 0, 0, 0), (181, .iadd, 1, 0, 0, 0), (182, .aload_n 0, 1, 0, 0, 0), (183, .iconst 1, 1, 0, 0, 0), (184, .invokevirtual 67, 3, 74, 7, 1), (187, .iastore, 1, 0, 0, 0), (188, .iinc 5 1, 3, 0, 0, 0), (191, .goto (-30), 3, 161, 0, 0), (194, .aload_n 0, 1, 0, 0, 0), (195, .getfield 9, 3, 7, 0, 0), (198, .getfield 50, 3, 6, 5, 0), (201, .iload_n 1, 1, 0, 0, 0), (202, .iload 4, 2, 0, 0, 0), (204, .iastore, 1, 0, 0, 0), (205, .iinc 1 1, 3, 0, 0, 0), (208, .goto (-192), 3, 16, 0, 0), (211, .return_, 1, 0, 0, 0)]
/-- TierMill$Reader.readSelectors()V -/
def e_d76 : List (Nat × Instr × Nat × Nat × Nat × Int) := [(0, .aload_n 0, 1, 0, 0, 0), (1, .getfield 9, 3, 7, 0, 0), (4, .aload_n 0, 1, 0, 0, 0), (5, .iconst 0, 1, 0, 0, 0), (6, .bipush 8, 2, 0, 0, 0), (8, .invokevirtual 46, 3, 73, 7, 2), (11, .putfield 71, 3, 6, 7, 0), (14, .iconst 0, 1, 0, 0, 0), (15, .istore_n 1, 1, 0, 0, 0), (16, .iload_n 1, 1, 0, 0, 0), (17, .aload_n 0, 1, 0, 0, 0), (18, .getfield 9, 3, 7, 0, 0), (21, .getfield 71, 3, 6, 7, 0), (24, .if_icmp .ge 23, 3, 47, 0, 0), (27, .aload_n 0, 1, 0, 0, 0), (28, .aload_n 0, 1, 0, 0, 0), (29, .getfield 9, 3, 7, 0, 0), (32, .getfield 74, 3, 6, 8, 0), (35, .iload_n 1, 1, 0, 0, 0), (36, .aaload, 1, 0, 0, 0), (37, .iconst 3, 1, 0, 0, 0), (38, .invokevirtual 78, 3, 77, 7, 2), (41, .iinc 1 1, 3, 0, 0, 0), (44, .goto (-28), 3, 16, 0, 0), (47, .return_, 1, 0, 0, 0)]
/-- TierMill$Reader.readShape(LTierMill$Shape;I)V -/
def e_d77 : List (Nat × Instr × Nat × Nat × Nat × Int) := [(0, .aload_n 1, 1, 0, 0, 0), (1, .aload_n 0, 1, 0, 0, 0), (2, .iconst 0, 1, 0, 0, 0), (3, .iload_n 2, 1, 0, 0, 0), (4, .invokevirtual 46, 3, 73, 7, 2), (7, .putfield 82, 3, 8, 1, 0), (10, .iconst 0, 1, 0, 0, 0), (11, .istore_n 3, 1, 0, 0, 0), (12, .iload_n 3, 1, 0, 0, 0), (13, .aload_n 1, 1, 0, 0, 0), (14, .getfield 82, 3, 8, 1, 0), (17, .if_icmp .ge 20, 3, 37, 0, 0), (20, .aload_n 1, 1, 0, 0, 0), (21, .getfield 87, 3, 8, 0, 0), (24, .iload_n 3, 1, 0, 0, 0), (25, .aload_n 0, 1, 0, 0, 0), (26, .iconst 1, 1, 0, 0, 0), (27, .invokevirtual 67, 3, 74, 7, 1), (30, .iastore, 1, 0, 0, 0), (31, .iinc 3 1, 3, 0, 0, 0), (34, .goto (-22), 3, 12, 0, 0), (37, .aload_n 1, 1, 0, 0, 0), (38, .aload_n 0, 1, 0, 0, 0), (39, .iconst 0, 1, 0, 0, 0), (40, .invokevirtual 67, 3, 74, 7, 1), (43, .putfield 90, 3, 8, 2, 0), (46, .return_, 1, 0, 0, 0)]
/-- TierMill$Reader.readMethods()V -/
def e_d78 : List (Nat × Instr × Nat × Nat × Nat × Int) := [(0, .aload_n 0, 1, 0, 0, 0), (1, .getfield 9, 3, 7, 0, 0), (4, .aload_n 0, 1, 0, 0, 0), (5, .iconst 1, 1, 0, 0, 0), (6, .bipush 16, 2, 0, 0, 0), (8, .invokevirtual 46, 3, 73, 7, 2), (11, .putfield 93, 3, 6, 9, 0), (14, .iconst 0, 1, 0, 0, 0), (15, .istore_n 1, 1, 0, 0, 0), (16, .iload_n 1, 1, 0, 0, 0), (17, .aload_n 0, 1, 0, 0, 0), (18, .getfield 9, 3, 7, 0, 0), (21, .getfield 93, 3, 6, 9, 0), (24, .if_icmp .ge 120, 3, 144, 0, 0), (27, .aload_n 0, 1, 0, 0, 0), (28, .getfield 9, 3, 7, 0, 0), (31, .getfield 96, 3, 6, 10, 0), (34, .iload_n 1, 1, 0, 0, 0), (35, .aaload, 1, 0, 0, 0), (36, .astore_n 2, 1, 0, 0, 0), (37, .aload_n 0, 1, 0, 0, 0), (38, .aload_n 2, 1, 0, 0, 0), (39, .iconst 4, 1, 0, 0, 0), (40, .invokevirtual 78, 3, 77, 7, 2), (43, .aload_n 2, 1, 0, 0, 0), (44, .aload_n 0, 1, 0, 0, 0), (45, .aload_n 2, 1, 0, 0, 0), (46, .getfield 82, 3, 8, 1, 0), (49, .bipush 8, 2, 0, 0, 0), (51, .invokevirtual 46, 3, 73, 7, 2), (54, .putfield 99, 3, 8, 3, 0), (57, .aload_n 2, 1, 0, 0, 0), (58, .aload_n 0, 1, 0, 0, 0), (59, .iconst 0, 1, 0, 0, 0), (60, .bipush 8, 2, 0, 0, 0), (62, .invokevirtual 46, 3, 73, 7, 2), (65, .putfield 102, 3, 8, 4, 0), (68, .aload_n 2, 1, 0, 0, 0), (69, .aload_n 0, 1, 0, 0, 0), (70, .iconst 1, 1, 0, 0, 0), (71, .bipush 120, 2, 0, 0, 0), (73, .invokevirtual 46, 3, 73, 7, 2), (76, .putfield 105, 3, 8, 6, 0), (79, .aload_n 2, 1, 0, 0, 0), (80, .aload_n 0, 1, 0, 0, 0), (81, .getfield 15, 3, 7, 1, 0), (84, .putfield 108, 3, 8, 5, 0), (87, .aload_n 0, 1, 0, 0, 0), (88, .getfield 19, 3, 7, 2, 0), (91, .iconst (-1), 1, 0, 0, 0), (92, .if_icmp .ne 33, 3, 125, 0, 0), (95, .aload_n 0, 1, 0, 0, 0), (96, .getfield 15, 3, 7, 1, 0), (99, .aload_n 2, 1, 0, 0, 0), (100, .getfield 105, 3, 8, 6, 0), (103, .iadd, 1, 0, 0, 0), (104, .aload_n 0, 1, 0, 0, 0), (105, .getfield 9, 3, 7, 0, 0), (108, .getfield 34, 3, 6, 1, 0), (111, .if_icmp .le 14, 3, 125, 0, 0), (114, .aload_n 0, 1, 0, 0, 0), (115, .aload_n 0, 1, 0, 0, 0), (116, .getfield 9, 3, 7, 0, 0), (119, .getfield 34, 3, 6, 1, 0), (122, .putfield 19, 3, 7, 2, 0), (125, .aload_n 0, 1, 0, 0, 0), (126, .dup, 1, 0, 0, 0), (127, .getfield 15, 3, 7, 1, 0), (130, .aload_n 2, 1, 0, 0, 0), (131, .getfield 105, 3, 8, 6, 0), (134, .iadd, 1, 0, 0, 0), (135, .putfield 15, 3, 7, 1, 0), (138, .iinc 1 1, 3, 0, 0, 0), (141, .goto (-125), 3, 16, 0, 0), (144, .return_, 1, 0, 0, 0)]
/-- TierMill$Reader.readTable()V -/
def e_d79 : List (Nat × Instr × Nat × Nat × Nat × Int) := [(0, .iconst 0, 1, 0, 0, 0), (1, .istore_n 1, 1, 0, 0, 0), (2, .iload_n 1, 1, 0, 0, 0), (3, .aload_n 0, 1, 0, 0, 0), (4, .getfield 9, 3, 7, 0, 0), (7, .getfield 43, 3, 6, 2, 0), (10, .if_icmp .ge 137, 3, 147, 0, 0), (13, .iconst 0, 1, 0, 0, 0), (14, .istore_n 2, 1, 0, 0, 0), (15, .iload_n 2, 1, 0, 0, 0), (16, .aload_n 0, 1, 0, 0, 0), (17, .getfield 9, 3, 7, 0, 0), (20, .getfield 71, 3, 6, 7, 0), (23, .if_icmp .ge 118, 3, 141, 0, 0), (26, .aload_n 0, 1, 0, 0, 0), (27, .iconst 0, 1, 0, 0, 0), (28, .aload_n 0, 1, 0, 0, 0), (29, .getfield 9, 3, 7, 0, 0), (32, .getfield 93, 3, 6, 9, 0), (35, .invokevirtual 46, 3, 73, 7, 2), (38, .iconst 1, 1, 0, 0, 0), (39, .isub, 1, 0, 0, 0), (40, .istore_n 3, 1, 0, 0, 0), (41, .iload_n 3, 1, 0, 0, 0), (42, .iconst (-1), 1, 0, 0, 0), (43, .if_icmp .eq 39, 3, 82, 0, 0), (46, .aload_n 0, 1, 0, 0, 0), (47, .iload_n 1, 1, 0, 0, 0), (48, .aload_n 0, 1, 0, 0, 0), (49, .getfield 9, 3, 7, 0, 0), (52, .getfield 74, 3, 6, 8, 0), (55, .iload_n 2, 1, 0, 0, 0), (56, .aaload, 1, 0, 0, 0), (57, .aload_n 0, 1, 0, 0, 0), (58, .getfield 9, 3, 7, 0, 0), (61, .getfield 96, 3, 6, 10, 0), (64, .iload_n 3, 1, 0, 0, 0), (65, .aaload, 1, 0, 0, 0), (66, .invokevirtual 111, 3, 80, 7, 3), (69, .ifCond .ne 13, 3, 82, 0, 0), (72, .aload_n 0, 1, 0, 0, 0), (73, .aload_n 0, 1, 0, 0, 0), (74, .getfield 15, 3, 7, 1, 0), (77, .iconst 1, 1, 0, 0, 0), (78, .isub, 1, 0, 0, 0), (79, .putfield 19, 3, 7, 2, 0), (82, .aload_n 0, 1, 0, 0, 0), (83, .getfield 9, 3, 7, 0, 0), (86, .getfield 53, 3, 6, 3, 0), (89, .iload_n 1, 1, 0, 0, 0), (90, .iaload, 1, 0, 0, 0), (91, .istore 4, 2, 0, 0, 0), (93, .iload_n 3, 1, 0, 0, 0), (94, .iconst (-1), 1, 0, 0, 0), (95, .if_icmp .ne 25, 3, 120, 0, 0), (98, .iload 4, 2, 0, 0, 0), (100, .iconst (-1), 1, 0, 0, 0), (101, .if_icmp .eq 19, 3, 120, 0, 0), (104, .aload_n 0, 1, 0, 0, 0), (105, .getfield 9, 3, 7, 0, 0), (108, .getfield 115, 3, 6, 11, 0), (111, .iload 4, 2, 0, 0, 0), (113, .bipush 8, 2, 0, 0, 0), (115, .imul, 1, 0, 0, 0), (116, .iload_n 2, 1, 0, 0, 0), (117, .iadd, 1, 0, 0, 0), (118, .iaload, 1, 0, 0, 0), (119, .istore_n 3, 1, 0, 0, 0), (120, .aload_n 0, 1, 0, 0, 0), (121, .getfield 9, 3, 7, 0, 0), (124, .getfield 115, 3, 6, 11, 0), (127, .iload_n 1, 1, 0, 0, 0), (128, .bipush 8, 2, 0, 0, 0), (130, .imul, 1, 0, 0, 0), (131, .iload_n 2, 1, 0, 0, 0), (132, .iadd, 1, 0, 0, 0), (133, .iload_n 3, 1, 0, 0, 0), (134, .iastore, 1, 0, 0, 0), (135, .iinc 2 1, 3, 0, 0, 0), (138, .goto (-123), 3, 15, 0, 0), (141, .iinc 1 1, 3, 0, 0, 0), (144, .goto (-142), 3, 2, 0, 0), (147, .return_, 1, 0, 0, 0)]
/-- TierMill$Reader.suits(ILTierMill$Shape;LTierMill$Shape;)Z -/
def e_d80 : List (Nat × Instr × Nat × Nat × Nat × Int) := [(0, .aload_n 3, 1, 0, 0, 0), (1, .getfield 82, 3, 8, 1, 0), (4, .aload_n 2, 1, 0, 0, 0), (5, .getfield 82, 3, 8, 1, 0), (8, .iconst 1, 1, 0, 0, 0), (9, .iadd, 1, 0, 0, 0), (10, .if_icmp .ne 14, 3, 24, 0, 0), (13, .aload_n 3, 1, 0, 0, 0), (14, .getfield 90, 3, 8, 2, 0), (17, .aload_n 2, 1, 0, 0, 0), (18, .getfield 90, 3, 8, 2, 0), (21, .if_icmp .eq 5, 3, 26, 0, 0), (24, .iconst 0, 1, 0, 0, 0), (25, .ireturn, 1, 0, 0, 0), (26, .aload_n 3, 1, 0, 0, 0), (27, .getfield 87, 3, 8, 0, 0), (30, .iconst 0, 1, 0, 0, 0), (31, .iaload, 1, 0, 0, 0), (32, .istore 4, 2, 0, 0, 0), (34, .iload 4, 2, 0, 0, 0), (36, .bipush 16, 2, 0, 0, 0), (38, .if_icmp .lt 19, 3, 57, 0, 0), (41, .aload_n 0, 1, 0, 0, 0), (42, .getfield 9, 3, 7, 0, 0), (45, .iload_n 1, 1, 0, 0, 0), (46, .iload 4, 2, 0, 0, 0), (48, .bipush 16, 2, 0, 0, 0), (50, .isub, 1, 0, 0, 0), (51, .invokevirtual 118, 3, 66, 6, 2), (54, .ifCond .ne 5, 3, 59, 0, 0), (57, .iconst 0, 1, 0, 0, 0), (58, .ireturn, 1, 0, 0, 0), (59, .iconst 0, 1, 0, 0, 0), (60, .istore 5, 2, 0, 0, 0), (62, .iload 5, 2, 0, 0, 0), (64, .aload_n 2, 1, 0, 0, 0), (65, .getfield 82, 3, 8, 1, 0), (68, .if_icmp .ge 30, 3, 98, 0, 0), (71, .aload_n 3, 1, 0, 0, 0), (72, .getfield 87, 3, 8, 0, 0), (75, .iload 5, 2, 0, 0, 0), (77, .iconst 1, 1, 0, 0, 0), (78, .iadd, 1, 0, 0, 0), (79, .iaload, 1, 0, 0, 0), (80, .aload_n 2, 1, 0, 0, 0), (81, .getfield 87, 3, 8, 0, 0), (84, .iload 5, 2, 0, 0, 0), (86, .iaload, 1, 0, 0, 0), (87, .if_icmp .eq 5, 3, 92, 0, 0), (90, .iconst 0, 1, 0, 0, 0), (91, .ireturn, 1, 0, 0, 0), (92, .iinc 5 1, 3, 0, 0, 0), (95, .goto (-33), 3, 62, 0, 0), (98, .iconst 1, 1, 0, 0, 0), (99, .ireturn, 1, 0, 0, 0)]
/-- TierMill$Shape.<init>()V -/
def e_d81 : List (Nat × Instr × Nat × Nat × Nat × Int) := [(0, .aload_n 0, 1, 0, 0, 0), (1, .invokespecial 3, 3, 900, 0, 0), (4, .aload_n 0, 1, 0, 0, 0), (5, .iconst 4, 1, 0, 0, 0), (6, .newarray .int, 2, 20, 0, 0), (8, .putfield 9, 3, 8, 0, 0), (11, .return_, 1, 0, 0, 0)]
/-- TierMill$Tiers.<init>()V -/
def e_d82 : List (Nat × Instr × Nat × Nat × Nat × Int) := [(0, .aload_n 0, 1, 0, 0, 0), (1, .invokespecial 3, 3, 900, 0, 0), (4, .aload_n 0, 1, 0, 0, 0), (5, .iconst 3, 1, 0, 0, 0), (6, .putfield 9, 3, 9, 0, 0), (9, .aload_n 0, 1, 0, 0, 0), (10, .iconst 2, 1, 0, 0, 0), (11, .putfield 15, 3, 9, 1, 0), (14, .aload_n 0, 1, 0, 0, 0), (15, .iconst 2, 1, 0, 0, 0), (16, .putfield 18, 3, 9, 2, 0), (19, .aload_n 0, 1, 0, 0, 0), (20, .bipush 40, 2, 0, 0, 0), (22, .putfield 21, 3, 9, 3, 0), (25, .aload_n 0, 1, 0, 0, 0), (26, .bipush 16, 2, 0, 0, 0), (28, .newarray .int, 2, 20, 0, 0), (30, .putfield 24, 3, 9, 4, 0), (33, .aload_n 0, 1, 0, 0, 0), (34, .sipush 6000, 3, 0, 0, 0), (37, .newarray .int, 2, 20, 0, 0), (39, .putfield 28, 3, 9, 5, 0), (42, .aload_n 0, 1, 0, 0, 0), (43, .bipush 30, 2, 0, 0, 0), (45, .anewarray 31, 3, 23, 0, 0), (48, .putfield 33, 3, 9, 6, 0), (51, .aload_n 0, 1, 0, 0, 0), (52, .bipush 16, 2, 0, 0, 0), (54, .newarray .int, 2, 20, 0, 0), (56, .putfield 37, 3, 9, 8, 0), (59, .aload_n 0, 1, 0, 0, 0), (60, .sipush 1800, 3, 0, 0, 0), (63, .newarray .int, 2, 20, 0, 0), (65, .putfield 40, 3, 9, 9, 0), (68, .return_, 1, 0, 0, 0)]
/-- TierMill$Tiers.clear()V -/
def e_d83 : List (Nat × Instr × Nat × Nat × Nat × Int) := [(0, .aload_n 0, 1, 0, 0, 0), (1, .getfield 24, 3, 9, 4, 0), (4, .iconst 0, 1, 0, 0, 0), (5, .invokestatic 43, 3, 233, 0, 2), (8, .aload_n 0, 1, 0, 0, 0), (9, .getfield 37, 3, 9, 8, 0), (12, .iconst (-1), 1, 0, 0, 0), (13, .invokestatic 43, 3, 233, 0, 2), (16, .return_, 1, 0, 0, 0)]
/-- TierMill$Tiers.clearFor(LTierMill$Program;)V -/
def e_d84 : List (Nat × Instr × Nat × Nat × Nat × Int) := [(0, .aload_n 0, 1, 0, 0, 0), (1, .aload_n 1, 1, 0, 0, 0), (2, .putfield 49, 3, 9, 12, 0), (5, .aload_n 0, 1, 0, 0, 0), (6, .getfield 28, 3, 9, 5, 0), (9, .iconst 0, 1, 0, 0, 0), (10, .aload_n 0, 1, 0, 0, 0), (11, .getfield 49, 3, 9, 12, 0), (14, .getfield 53, 3, 6, 14, 0), (17, .bipush 8, 2, 0, 0, 0), (19, .imul, 1, 0, 0, 0), (20, .iconst 0, 1, 0, 0, 0), (21, .invokestatic 58, 3, 234, 0, 4), (24, .return_, 1, 0, 0, 0)]
/-- TierMill$Tiers.planNumber(I)I -/
def e_d85 : List (Nat × Instr × Nat × Nat × Nat × Int) := [(0, .aload_n 0, 1, 0, 0, 0), (1, .getfield 37, 3, 9, 8, 0), (4, .iload_n 1, 1, 0, 0, 0), (5, .iaload, 1, 0, 0, 0), (6, .ireturn, 1, 0, 0, 0)]
/-- TierMill$Tiers.planOfMethod(I)LTierMill$Plan; -/
def e_d86 : List (Nat × Instr × Nat × Nat × Nat × Int) := [(0, .aload_n 0, 1, 0, 0, 0), (1, .aload_n 0, 1, 0, 0, 0), (2, .getfield 37, 3, 9, 8, 0), (5, .iload_n 1, 1, 0, 0, 0), (6, .iaload, 1, 0, 0, 0), (7, .invokevirtual 61, 3, 87, 9, 1), (10, .areturn, 1, 0, 0, 0)]
/-- TierMill$Tiers.planNumbered(I)LTierMill$Plan; -/
def e_d87 : List (Nat × Instr × Nat × Nat × Nat × Int) := [(0, .iload_n 1, 1, 0, 0, 0), (1, .ifCond .lt 11, 3, 12, 0, 0), (4, .iload_n 1, 1, 0, 0, 0), (5, .aload_n 0, 1, 0, 0, 0), (6, .getfield 65, 3, 9, 7, 0), (9, .if_icmp .lt 7, 3, 16, 0, 0), (12, .aconst_null, 1, 0, 0, 0), (13, .goto 9, 3, 22, 0, 0), (16, .aload_n 0, 1, 0, 0, 0), (17, .getfield 33, 3, 9, 6, 0), (20, .iload_n 1, 1, 0, 0, 0), (21, .aaload, 1, 0, 0, 0), (22, .areturn, 1, 0, 0, 0)]
/-- TierMill$Tiers.invoke(I)LTierMill$Plan; -/
def e_d88 : List (Nat × Instr × Nat × Nat × Nat × Int) := [(0, .aload_n 0, 1, 0, 0, 0), (1, .getfield 24, 3, 9, 4, 0), (4, .iload_n 1, 1, 0, 0, 0), (5, .dup2, 1, 0, 0, 0), (6, .iaload, 1, 0, 0, 0), (7, .iconst 1, 1, 0, 0, 0), (8, .iadd, 1, 0, 0, 0), (9, .iastore, 1, 0, 0, 0), (10, .aload_n 0, 1, 0, 0, 0), (11, .getfield 24, 3, 9, 4, 0), (14, .iload_n 1, 1, 0, 0, 0), (15, .iaload, 1, 0, 0, 0), (16, .aload_n 0, 1, 0, 0, 0), (17, .getfield 9, 3, 9, 0, 0), (20, .if_icmp .lt 22, 3, 42, 0, 0), (23, .aload_n 0, 1, 0, 0, 0), (24, .getfield 37, 3, 9, 8, 0), (27, .iload_n 1, 1, 0, 0, 0), (28, .iaload, 1, 0, 0, 0), (29, .iconst (-1), 1, 0, 0, 0), (30, .if_icmp .ne 12, 3, 42, 0, 0), (33, .aload_n 0, 1, 0, 0, 0), (34, .getfield 65, 3, 9, 7, 0), (37, .bipush 30, 2, 0, 0, 0), (39, .if_icmp .lt 5, 3, 44, 0, 0), (42, .aconst_null, 1, 0, 0, 0), (43, .areturn, 1, 0, 0, 0), (44, .aload_n 0, 1, 0, 0, 0), (45, .iconst 0, 1, 0, 0, 0), (46, .putfield 68, 3, 9, 10, 0), (49, .aload_n 0, 1, 0, 0, 0), (50, .iconst 0, 1, 0, 0, 0), (51, .putfield 71, 3, 9, 11, 0), (54, .aload_n 0, 1, 0, 0, 0), (55, .iload_n 1, 1, 0, 0, 0), (56, .iconst 0, 1, 0, 0, 0), (57, .invokevirtual 74, 3, 90, 9, 2), (60, .new 31, 3, 5, 0, 0), (63, .dup, 1, 0, 0, 0), (64, .aload_n 0, 1, 0, 0, 0), (65, .getfield 40, 3, 9, 9, 0), (68, .aload_n 0, 1, 0, 0, 0), (69, .getfield 68, 3, 9, 10, 0), (72, .aload_n 0, 1, 0, 0, 0), (73, .getfield 71, 3, 9, 11, 0), (76, .aload_n 0, 1, 0, 0, 0), (77, .getfield 49, 3, 9, 12, 0), (80, .getfield 78, 3, 6, 10, 0), (83, .iload_n 1, 1, 0, 0, 0), (84, .aaload, 1, 0, 0, 0), (85, .getfield 82, 3, 8, 6, 0), (88, .iadd, 1, 0, 0, 0), (89, .invokespecial 87, 3, 62, 0, 3), (92, .astore_n 2, 1, 0, 0, 0), (93, .aload_n 0, 1, 0, 0, 0), (94, .getfield 33, 3, 9, 6, 0), (97, .aload_n 0, 1, 0, 0, 0), (98, .getfield 65, 3, 9, 7, 0), (101, .aload_n 2, 1, 0, 0, 0), (102, .aastore, 1, 0, 0, 0), (103, .aload_n 0, 1, 0, 0, 0), (104, .getfield 37, 3, 9, 8, 0), (107, .iload_n 1, 1, 0, 0, 0), (108, .aload_n 0, 1, 0, 0, 0), (109, .getfield 65, 3, 9, 7, 0), (112, .iastore, 1, 0, 0, 0), (113, .aload_n 0, 1, 0, 0, 0), (114, .dup, 1, 0, 0, 0), (115, .getfield 65, 3, 9, 7, 0), (118, .iconst 1, 1, 0, 0, 0), (119, .iadd, 1, 0, 0, 0), (120, .putfield 65, 3, 9, 7, 0), (123, .aload_n 2, 1, 0, 0, 0), (124, .areturn, 1, 0, 0, 0)]
/-- TierMill$Tiers.giveUp(II)V -/
def e_d89 : List (Nat × Instr × Nat × Nat × Nat × Int) := [(0, .aload_n 0, 1, 0, 0, 0), (1, .getfield 37, 3, 9, 8, 0), (4, .iload_n 1, 1, 0, 0, 0), (5, .iaload, 1, 0, 0, 0), (6, .iload_n 2, 1, 0, 0, 0), (7, .if_icmp .ne 17, 3, 24, 0, 0), (10, .aload_n 0, 1, 0, 0, 0), (11, .getfield 37, 3, 9, 8, 0), (14, .iload_n 1, 1, 0, 0, 0), (15, .iconst (-1), 1, 0, 0, 0), (16, .iastore, 1, 0, 0, 0), (17, .aload_n 0, 1, 0, 0, 0), (18, .getfield 24, 3, 9, 4, 0), (21, .iload_n 1, 1, 0, 0, 0), (22, .iconst 0, 1, 0, 0, 0), (23, .iastore, 1, 0, 0, 0), (24, .return_, 1, 0, 0, 0)]
/-- TierMill$Tiers.goThrough(II)V -/
def e_d90 : List (Nat × Instr × Nat × Nat × Nat × Int) := [(0, .iload_n 2, 1, 0, 0, 0), (1, .aload_n 0, 1, 0, 0, 0), (2, .getfield 18, 3, 9, 2, 0), (5, .if_icmp .lt 4, 3, 9, 0, 0), (8, .return_, 1, 0, 0, 0), (9, .aload_n 0, 1, 0, 0, 0), (10, .getfield 49, 3, 9, 12, 0), (13, .getfield 78, 3, 6, 10, 0), (16, .iload_n 1, 1, 0, 0, 0), (17, .aaload, 1, 0, 0, 0), (18, .astore_n 3, 1, 0, 0, 0), (19, .iconst 0, 1, 0, 0, 0), (20, .istore 4, 2, 0, 0, 0), (22, .iload 4, 2, 0, 0, 0), (24, .aload_n 3, 1, 0, 0, 0), (25, .getfield 82, 3, 8, 6, 0), (28, .if_icmp .ge 108, 3, 136, 0, 0), (31, .aload_n 3, 1, 0, 0, 0), (32, .getfield 90, 3, 8, 5, 0), (35, .iload 4, 2, 0, 0, 0), (37, .iadd, 1, 0, 0, 0), (38, .istore 5, 2, 0, 0, 0), (40, .aload_n 0, 1, 0, 0, 0), (41, .iload 5, 2, 0, 0, 0), (43, .invokevirtual 93, 3, 91, 9, 1), (46, .istore 6, 2, 0, 0, 0), (48, .aload_n 0, 1, 0, 0, 0), (49, .iload 5, 2, 0, 0, 0), (51, .iload 6, 2, 0, 0, 0), (53, .invokevirtual 97, 3, 92, 9, 2), (56, .istore 7, 2, 0, 0, 0), (58, .iload 7, 2, 0, 0, 0), (60, .iconst (-1), 1, 0, 0, 0), (61, .if_icmp .eq 48, 3, 109, 0, 0), (64, .aload_n 0, 1, 0, 0, 0), (65, .iload 7, 2, 0, 0, 0), (67, .invokevirtual 101, 3, 93, 9, 1), (70, .ifCond .eq 39, 3, 109, 0, 0), (73, .aload_n 0, 1, 0, 0, 0), (74, .iload_n 2, 1, 0, 0, 0), (75, .iload_n 1, 1, 0, 0, 0), (76, .iload 4, 2, 0, 0, 0), (78, .iload 6, 2, 0, 0, 0), (80, .iload 7, 2, 0, 0, 0), (82, .invokevirtual 105, 3, 94, 9, 5), (85, .istore 8, 2, 0, 0, 0), (87, .aload_n 0, 1, 0, 0, 0), (88, .iload 7, 2, 0, 0, 0), (90, .iload_n 2, 1, 0, 0, 0), (91, .iconst 1, 1, 0, 0, 0), (92, .iadd, 1, 0, 0, 0), (93, .invokevirtual 74, 3, 90, 9, 2), (96, .aload_n 0, 1, 0, 0, 0), (97, .getfield 40, 3, 9, 9, 0), (100, .iload 8, 2, 0, 0, 0), (102, .iconst 5, 1, 0, 0, 0), (103, .iadd, 1, 0, 0, 0), (104, .aload_n 0, 1, 0, 0, 0), (105, .getfield 68, 3, 9, 10, 0), (108, .iastore, 1, 0, 0, 0), (109, .iload 4, 2, 0, 0, 0), (111, .iconst 1, 1, 0, 0, 0), (112, .aload_n 0, 1, 0, 0, 0), (113, .getfield 49, 3, 9, 12, 0), (116, .getfield 109, 3, 6, 12, 0), (119, .aload_n 3, 1, 0, 0, 0), (120, .getfield 90, 3, 8, 5, 0), (123, .iload 4, 2, 0, 0, 0), (125, .iadd, 1, 0, 0, 0), (126, .iaload, 1, 0, 0, 0), (127, .invokestatic 112, 3, 230, 0, 2), (130, .iadd, 1, 0, 0, 0), (131, .istore 4, 2, 0, 0, 0), (133, .goto (-111), 3, 22, 0, 0), (136, .return_, 1, 0, 0, 0)]
/-- TierMill$Tiers.guardOf(I)I -/
def e_d91 : List (Nat × Instr × Nat × Nat × Nat × Int) := [(0, .aload_n 0, 1, 0, 0, 0), (1, .getfield 49, 3, 9, 12, 0), (4, .getfield 117, 3, 6, 0, 0), (7, .iload_n 1, 1, 0, 0, 0), (8, .iaload, 1, 0, 0, 0), (9, .bipush 48, 2, 0, 0, 0), (11, .if_icmp .eq 5, 3, 16, 0, 0), (14, .iconst (-1), 1, 0, 0, 0), (15, .ireturn, 1, 0, 0, 0), (16, .aload_n 0, 1, 0, 0, 0), (17, .getfield 49, 3, 9, 12, 0), (20, .getfield 120, 3, 6, 13, 0), (23, .iload_n 1, 1, 0, 0, 0), (24, .iaload, 1, 0, 0, 0), (25, .bipush 8, 2, 0, 0, 0), (27, .imul, 1, 0, 0, 0), (28, .istore_n 2, 1, 0, 0, 0), (29, .iconst (-1), 1, 0, 0, 0), (30, .istore_n 3, 1, 0, 0, 0), (31, .iconst 0, 1, 0, 0, 0), (32, .istore 4, 2, 0, 0, 0), (34, .iload 4, 2, 0, 0, 0), (36, .aload_n 0, 1, 0, 0, 0), (37, .getfield 49, 3, 9, 12, 0), (40, .getfield 123, 3, 6, 2, 0), (43, .if_icmp .ge 31, 3, 74, 0, 0), (46, .aload_n 0, 1, 0, 0, 0), (47, .getfield 28, 3, 9, 5, 0), (50, .iload_n 2, 1, 0, 0, 0), (51, .iload 4, 2, 0, 0, 0), (53, .iadd, 1, 0, 0, 0), (54, .iaload, 1, 0, 0, 0), (55, .ifCond .le 13, 3, 68, 0, 0), (58, .iload_n 3, 1, 0, 0, 0), (59, .iconst (-1), 1, 0, 0, 0), (60, .if_icmp .eq 5, 3, 65, 0, 0), (63, .iconst (-1), 1, 0, 0, 0), (64, .ireturn, 1, 0, 0, 0), (65, .iload 4, 2, 0, 0, 0), (67, .istore_n 3, 1, 0, 0, 0), (68, .iinc 4 1, 3, 0, 0, 0), (71, .goto (-37), 3, 34, 0, 0), (74, .iload_n 3, 1, 0, 0, 0), (75, .iconst (-1), 1, 0, 0, 0), (76, .if_icmp .eq 22, 3, 98, 0, 0), (79, .aload_n 0, 1, 0, 0, 0), (80, .getfield 28, 3, 9, 5, 0), (83, .iload_n 2, 1, 0, 0, 0), (84, .iload_n 3, 1, 0, 0, 0), (85, .iadd, 1, 0, 0, 0), (86, .iaload, 1, 0, 0, 0), (87, .aload_n 0, 1, 0, 0, 0), (88, .getfield 15, 3, 9, 1, 0), (91, .if_icmp .lt 7, 3, 98, 0, 0), (94, .iload_n 3, 1, 0, 0, 0), (95, .goto 4, 3, 99, 0, 0), (98, .iconst (-1), 1, 0, 0, 0), (99, .ireturn, 1, 0, 0, 0)]
/-- TierMill$Tiers.calleeOf(II)I -/
def e_d92 : List (Nat × Instr × Nat × Nat × Nat × Int) := [(0, .aload_n 0, 1, 0, 0, 0), (1, .getfield 49, 3, 9, 12, 0), (4, .getfield 117, 3, 6, 0, 0), (7, .iload_n 1, 1, 0, 0, 0), (8, .iaload, 1, 0, 0, 0), (9, .istore_n 3, 1, 0, 0, 0), (10, .iload_n 3, 1, 0, 0, 0), (11, .bipush 47, 2, 0, 0, 0), (13, .if_icmp .ne 39, 3, 52, 0, 0), (16, .aload_n 0, 1, 0, 0, 0), (17, .getfield 28, 3, 9, 5, 0), (20, .aload_n 0, 1, 0, 0, 0), (21, .getfield 49, 3, 9, 12, 0), (24, .getfield 120, 3, 6, 13, 0), (27, .iload_n 1, 1, 0, 0, 0), (28, .iaload, 1, 0, 0, 0), (29, .bipush 8, 2, 0, 0, 0), (31, .imul, 1, 0, 0, 0), (32, .iaload, 1, 0, 0, 0), (33, .aload_n 0, 1, 0, 0, 0), (34, .getfield 15, 3, 9, 1, 0), (37, .if_icmp .lt 15, 3, 52, 0, 0), (40, .aload_n 0, 1, 0, 0, 0), (41, .getfield 49, 3, 9, 12, 0), (44, .getfield 117, 3, 6, 0, 0), (47, .iload_n 1, 1, 0, 0, 0), (48, .iconst 1, 1, 0, 0, 0), (49, .iadd, 1, 0, 0, 0), (50, .iaload, 1, 0, 0, 0), (51, .ireturn, 1, 0, 0, 0), (52, .iload_n 3, 1, 0, 0, 0), (53, .bipush 48, 2, 0, 0, 0), (55, .if_icmp .ne 33, 3, 88, 0, 0), (58, .iload_n 2, 1, 0, 0, 0), (59, .iconst (-1), 1, 0, 0, 0), (60, .if_icmp .eq 28, 3, 88, 0, 0), (63, .aload_n 0, 1, 0, 0, 0), (64, .getfield 49, 3, 9, 12, 0), (67, .getfield 126, 3, 6, 11, 0), (70, .iload_n 2, 1, 0, 0, 0), (71, .bipush 8, 2, 0, 0, 0), (73, .imul, 1, 0, 0, 0), (74, .aload_n 0, 1, 0, 0, 0), (75, .getfield 49, 3, 9, 12, 0), (78, .getfield 117, 3, 6, 0, 0), (81, .iload_n 1, 1, 0, 0, 0), (82, .iconst 1, 1, 0, 0, 0), (83, .iadd, 1, 0, 0, 0), (84, .iaload, 1, 0, 0, 0), (85, .iadd, 1, 0, 0, 0), (86, .iaload, 1, 0, 0, 0), (87, .ireturn, 1, 0, 0, 0), (88, .iconst (-1), 1, 0, 0, 0), (89, .ireturn, 1, 0, 0, 0)]
/-- TierMill$Tiers.fits(I)Z -/
def e_d93 : List (Nat × Instr × Nat × Nat × Nat × Int) := [(0, .aload_n 0, 1, 0, 0, 0), (1, .getfield 49, 3, 9, 12, 0), (4, .getfield 78, 3, 6, 10, 0), (7, .iload_n 1, 1, 0, 0, 0), (8, .aaload, 1, 0, 0, 0), (9, .getfield 82, 3, 8, 6, 0), (12, .istore_n 2, 1, 0, 0, 0), (13, .iload_n 2, 1, 0, 0, 0), (14, .aload_n 0, 1, 0, 0, 0), (15, .getfield 21, 3, 9, 3, 0), (18, .if_icmp .gt 19, 3, 37, 0, 0), (21, .aload_n 0, 1, 0, 0, 0), (22, .getfield 71, 3, 9, 11, 0), (25, .iload_n 2, 1, 0, 0, 0), (26, .iadd, 1, 0, 0, 0), (27, .sipush 300, 3, 0, 0, 0), (30, .if_icmp .gt 7, 3, 37, 0, 0), (33, .iconst 1, 1, 0, 0, 0), (34, .goto 4, 3, 38, 0, 0), (37, .iconst 0, 1, 0, 0, 0), (38, .ireturn, 1, 0, 0, 0)]
/-- TierMill$Tiers.addRow(IIIII)I -/
def e_d94 : List (Nat × Instr × Nat × Nat × Nat × Int) := [(0, .aload_n 0, 1, 0, 0, 0), (1, .getfield 68, 3, 9, 10, 0), (4, .bipush 6, 2, 0, 0, 0), (6, .imul, 1, 0, 0, 0), (7, .istore 6, 2, 0, 0, 0), (9, .aload_n 0, 1, 0, 0, 0), (10, .getfield 40, 3, 9, 9, 0), (13, .iload 6, 2, 0, 0, 0), (15, .iconst 0, 1, 0, 0, 0), (16, .iadd, 1, 0, 0, 0), (17, .iload_n 1, 1, 0, 0, 0), (18, .iastore, 1, 0, 0, 0), (19, .aload_n 0, 1, 0, 0, 0), (20, .getfield 40, 3, 9, 9, 0), (23, .iload 6, 2, 0, 0, 0), (25, .iconst 1, 1, 0, 0, 0), (26, .iadd, 1, 0, 0, 0), (27, .iload_n 2, 1, 0, 0, 0), (28, .iastore, 1, 0, 0, 0), (29, .aload_n 0, 1, 0, 0, 0), (30, .getfield 40, 3, 9, 9, 0), (33, .iload 6, 2, 0, 0, 0), (35, .iconst 2, 1, 0, 0, 0), (36, .iadd, 1, 0, 0, 0), (37, .iload_n 3, 1, 0, 0, 0), (38, .iastore, 1, 0, 0, 0), (39, .aload_n 0, 1, 0, 0, 0), (40, .getfield 40, 3, 9, 9, 0), (43, .iload 6, 2, 0, 0, 0), (45, .iconst 3, 1, 0, 0, 0), (46, .iadd, 1, 0, 0, 0), (47, .iload 4, 2, 0, 0, 0), (49, .iastore, 1, 0, 0, 0), (50, .aload_n 0, 1, 0, 0, 0), (51, .getfield 40, 3, 9, 9, 0), (54, .iload 6, 2, 0, 0, 0), (56, .iconst 4, 1, 0, 0, 0), (57, .iadd, 1, 0, 0, 0), (58, .iload 5, 2, 0, 0, 0), (60, .iastore, 1, 0, 0, 0), (61, .aload_n 0, 1, 0, 0, 0), (62, .dup, 1, 0, 0, 0), (63, .getfield 68, 3, 9, 10, 0), (66, .iconst 1, 1, 0, 0, 0), (67, .iadd, 1, 0, 0, 0), (68, .putfield 68, 3, 9, 10, 0), (71, .aload_n 0, 1, 0, 0, 0), (72, .dup, 1, 0, 0, 0), (73, .getfield 71, 3, 9, 11, 0), (76, .aload_n 0, 1, 0, 0, 0), (77, .getfield 49, 3, 9, 12, 0), (80, .getfield 78, 3, 6, 10, 0), (83, .iload 5, 2, 0, 0, 0), (85, .aaload, 1, 0, 0, 0), (86, .getfield 82, 3, 8, 6, 0), (89, .iadd, 1, 0, 0, 0), (90, .putfield 71, 3, 9, 11, 0), (93, .iload 6, 2, 0, 0, 0), (95, .ireturn, 1, 0, 0, 0)]
/-- TierMill$Verifier.<init>()V -/
def e_d95 : List (Nat × Instr × Nat × Nat × Nat × Int) := [(0, .aload_n 0, 1, 0, 0, 0), (1, .invokespecial 3, 3, 900, 0, 0), (4, .aload_n 0, 1, 0, 0, 0), (5, .sipush 1500, 3, 0, 0, 0), (8, .newarray .int, 2, 20, 0, 0), (10, .putfield 9, 3, 10, 2, 0), (13, .return_, 1, 0, 0, 0)]
/-- TierMill$Verifier.findsFault(LTierMill$Program;)Z -/
def e_d96 : List (Nat × Instr × Nat × Nat × Nat × Int) := [(0, .aload_n 0, 1, 0, 0, 0), (1, .aload_n 1, 1, 0, 0, 0), (2, .putfield 15, 3, 10, 3, 0), (5, .iconst 0, 1, 0, 0, 0), (6, .istore_n 2, 1, 0, 0, 0), (7, .iload_n 2, 1, 0, 0, 0), (8, .aload_n 0, 1, 0, 0, 0), (9, .getfield 15, 3, 10, 3, 0), (12, .getfield 19, 3, 6, 9, 0), (15, .if_icmp .ge 93, 3, 108, 0, 0), (18, .aload_n 0, 1, 0, 0, 0), (19, .aload_n 0, 1, 0, 0, 0), (20, .getfield 15, 3, 10, 3, 0), (23, .getfield 25, 3, 6, 10, 0), (26, .iload_n 2, 1, 0, 0, 0), (27, .aaload, 1, 0, 0, 0), (28, .putfield 29, 3, 10, 4, 0), (31, .aload_n 0, 1, 0, 0, 0), (32, .invokevirtual 33, 3, 97, 10, 0), (35, .iconst 0, 1, 0, 0, 0), (36, .istore_n 3, 1, 0, 0, 0), (37, .iload_n 3, 1, 0, 0, 0), (38, .aload_n 0, 1, 0, 0, 0), (39, .getfield 29, 3, 10, 4, 0), (42, .getfield 36, 3, 8, 6, 0), (45, .if_icmp .ge 57, 3, 102, 0, 0), (48, .aload_n 0, 1, 0, 0, 0), (49, .getfield 15, 3, 10, 3, 0), (52, .getfield 41, 3, 6, 12, 0), (55, .aload_n 0, 1, 0, 0, 0), (56, .getfield 29, 3, 10, 4, 0), (59, .getfield 44, 3, 8, 5, 0), (62, .iload_n 3, 1, 0, 0, 0), (63, .iadd, 1, 0, 0, 0), (64, .iaload, 1, 0, 0, 0), (65, .ifCond .eq 31, 3, 96, 0, 0), (68, .aload_n 0, 1, 0, 0, 0), (69, .aload_n 0, 1, 0, 0, 0), (70, .getfield 29, 3, 10, 4, 0), (73, .getfield 44, 3, 8, 5, 0), (76, .iload_n 3, 1, 0, 0, 0), (77, .iadd, 1, 0, 0, 0), (78, .invokevirtual 47, 3, 110, 10, 1), (81, .ifCond .eq 15, 3, 96, 0, 0), (84, .aload_n 0, 1, 0, 0, 0), (85, .iload_n 2, 1, 0, 0, 0), (86, .putfield 51, 3, 10, 0, 0), (89, .aload_n 0, 1, 0, 0, 0), (90, .iload_n 3, 1, 0, 0, 0), (91, .putfield 54, 3, 10, 1, 0), (94, .iconst 1, 1, 0, 0, 0), (95, .ireturn, 1, 0, 0, 0), (96, .iinc 3 1, 3, 0, 0, 0), (99, .goto (-62), 3, 37, 0, 0), (102, .iinc 2 1, 3, 0, 0, 0), (105, .goto (-98), 3, 7, 0, 0), (108, .iconst 0, 1, 0, 0, 0), (109, .ireturn, 1, 0, 0, 0)]
/-- TierMill$Verifier.flow()V -/
def e_d97 : List (Nat × Instr × Nat × Nat × Nat × Int) := [(0, .aload_n 0, 1, 0, 0, 0), (1, .getfield 29, 3, 10, 4, 0), (4, .getfield 44, 3, 8, 5, 0), (7, .istore_n 1, 1, 0, 0, 0), (8, .iload_n 1, 1, 0, 0, 0), (9, .aload_n 0, 1, 0, 0, 0), (10, .getfield 29, 3, 10, 4, 0), (13, .getfield 36, 3, 8, 6, 0), (16, .iadd, 1, 0, 0, 0), (17, .istore_n 2, 1, 0, 0, 0), (18, .aload_n 0, 1, 0, 0, 0), (19, .getfield 15, 3, 10, 3, 0), (22, .getfield 57, 3, 6, 15, 0), (25, .iload_n 1, 1, 0, 0, 0), (26, .iload_n 2, 1, 0, 0, 0), (27, .iconst (-1), 1, 0, 0, 0), (28, .invokestatic 60, 3, 234, 0, 4), (31, .aload_n 0, 1, 0, 0, 0), (32, .getfield 9, 3, 10, 2, 0), (35, .iload_n 1, 1, 0, 0, 0), (36, .iload_n 2, 1, 0, 0, 0), (37, .iconst 0, 1, 0, 0, 0), (38, .invokestatic 60, 3, 234, 0, 4), (41, .aload_n 0, 1, 0, 0, 0), (42, .lconst 0, 1, 0, 0, 0), (43, .putfield 66, 3, 10, 7, 0), (46, .iconst 0, 1, 0, 0, 0), (47, .istore_n 3, 1, 0, 0, 0), (48, .iload_n 3, 1, 0, 0, 0), (49, .aload_n 0, 1, 0, 0, 0), (50, .getfield 29, 3, 10, 4, 0), (53, .getfield 70, 3, 8, 1, 0), (56, .if_icmp .ge 33, 3, 89, 0, 0), (59, .aload_n 0, 1, 0, 0, 0), (60, .dup, 1, 0, 0, 0), (61, .getfield 66, 3, 10, 7, 0), (64, .aload_n 0, 1, 0, 0, 0), (65, .getfield 29, 3, 10, 4, 0), (68, .getfield 73, 3, 8, 0, 0), (71, .iload_n 3, 1, 0, 0, 0), (72, .iaload, 1, 0, 0, 0), (73, .i2l, 1, 0, 0, 0), (74, .bipush 8, 2, 0, 0, 0), (76, .iload_n 3, 1, 0, 0, 0), (77, .imul, 1, 0, 0, 0), (78, .lshl, 1, 0, 0, 0), (79, .lor, 1, 0, 0, 0), (80, .putfield 66, 3, 10, 7, 0), (83, .iinc 3 1, 3, 0, 0, 0), (86, .goto (-38), 3, 48, 0, 0), (89, .aload_n 0, 1, 0, 0, 0), (90, .lconst 0, 1, 0, 0, 0), (91, .putfield 76, 3, 10, 8, 0), (94, .aload_n 0, 1, 0, 0, 0), (95, .iconst 0, 1, 0, 0, 0), (96, .putfield 79, 3, 10, 6, 0), (99, .aload_n 0, 1, 0, 0, 0), (100, .iload_n 1, 1, 0, 0, 0), (101, .invokevirtual 81, 3, 106, 10, 1), (104, .iconst 0, 1, 0, 0, 0), (105, .istore_n 3, 1, 0, 0, 0), (106, .aload_n 0, 1, 0, 0, 0), (107, .getfield 85, 3, 10, 5, 0), (110, .ifCond .eq 59, 3, 169, 0, 0), (113, .iload_n 3, 1, 0, 0, 0), (114, .ldc 89, 2, 0, 0, 1000000), (116, .if_icmp .ge 53, 3, 169, 0, 0), (119, .aload_n 0, 1, 0, 0, 0), (120, .iconst 0, 1, 0, 0, 0), (121, .putfield 85, 3, 10, 5, 0), (124, .iload_n 1, 1, 0, 0, 0), (125, .istore 4, 2, 0, 0, 0), (127, .iload 4, 2, 0, 0, 0), (129, .iload_n 2, 1, 0, 0, 0), (130, .if_icmp .ge 33, 3, 163, 0, 0), (133, .aload_n 0, 1, 0, 0, 0), (134, .getfield 9, 3, 10, 2, 0), (137, .iload 4, 2, 0, 0, 0), (139, .iaload, 1, 0, 0, 0), (140, .ifCond .eq 17, 3, 157, 0, 0), (143, .aload_n 0, 1, 0, 0, 0), (144, .getfield 9, 3, 10, 2, 0), (147, .iload 4, 2, 0, 0, 0), (149, .iconst 0, 1, 0, 0, 0), (150, .iastore, 1, 0, 0, 0), (151, .aload_n 0, 1, 0, 0, 0), (152, .iload 4, 2, 0, 0, 0), (154, .invokevirtual 90, 3, 98, 10, 1), (157, .iinc 4 1, 3, 0, 0, 0), (160, .goto (-33), 3, 127, 0, 0), (163, .iinc 3 1, 3, 0, 0, 0), (166, .goto (-60), 3, 106, 0, 0), (169, .return_, 1, 0, 0, 0)]
/-- TierMill$Verifier.goBehind(I)V -/
def e_d98 : List (Nat × Instr × Nat × Nat × Nat × Int) := [(0, .aload_n 0, 1, 0, 0, 0), (1, .getfield 15, 3, 10, 3, 0), (4, .getfield 93, 3, 6, 0, 0), (7, .iload_n 1, 1, 0, 0, 0), (8, .iaload, 1, 0, 0, 0), (9, .istore_n 2, 1, 0, 0, 0), (10, .aload_n 0, 1, 0, 0, 0), (11, .iload_n 1, 1, 0, 0, 0), (12, .iload_n 2, 1, 0, 0, 0), (13, .invokevirtual 96, 3, 99, 10, 2), (16, .iload_n 2, 1, 0, 0, 0), (17, .bipush 49, 2, 0, 0, 0), (19, .if_icmp .eq 9, 3, 28, 0, 0), (22, .iload_n 2, 1, 0, 0, 0), (23, .bipush 50, 2, 0, 0, 0), (25, .if_icmp .ne 4, 3, 29, 0, 0), (28, .return_, 1, 0, 0, 0), (29, .iload_n 2, 1, 0, 0, 0), (30, .bipush 53, 2, 0, 0, 0), (32, .if_icmp .ne 57, 3, 89, 0, 0), (35, .aload_n 0, 1, 0, 0, 0), (36, .getfield 15, 3, 10, 3, 0), (39, .getfield 93, 3, 6, 0, 0), (42, .iload_n 1, 1, 0, 0, 0), (43, .iconst 1, 1, 0, 0, 0), (44, .iadd, 1, 0, 0, 0), (45, .iaload, 1, 0, 0, 0), (46, .istore_n 3, 1, 0, 0, 0), (47, .iconst 0, 1, 0, 0, 0), (48, .istore 4, 2, 0, 0, 0), (50, .iload 4, 2, 0, 0, 0), (52, .iload_n 3, 1, 0, 0, 0), (53, .if_icmp .gt 35, 3, 88, 0, 0), (56, .aload_n 0, 1, 0, 0, 0), (57, .aload_n 0, 1, 0, 0, 0), (58, .getfield 29, 3, 10, 4, 0), (61, .getfield 44, 3, 8, 5, 0), (64, .aload_n 0, 1, 0, 0, 0), (65, .getfield 15, 3, 10, 3, 0), (68, .getfield 93, 3, 6, 0, 0), (71, .iload_n 1, 1, 0, 0, 0), (72, .iconst 2, 1, 0, 0, 0), (73, .iadd, 1, 0, 0, 0), (74, .iload 4, 2, 0, 0, 0), (76, .iadd, 1, 0, 0, 0), (77, .iaload, 1, 0, 0, 0), (78, .iadd, 1, 0, 0, 0), (79, .invokevirtual 81, 3, 106, 10, 1), (82, .iinc 4 1, 3, 0, 0, 0), (85, .goto (-35), 3, 50, 0, 0), (88, .return_, 1, 0, 0, 0), (89, .iload_n 2, 1, 0, 0, 0), (90, .bipush 21, 2, 0, 0, 0), (92, .if_icmp .lt 32, 3, 124, 0, 0), (95, .iload_n 2, 1, 0, 0, 0), (96, .bipush 37, 2, 0, 0, 0), (98, .if_icmp .gt 26, 3, 124, 0, 0), (101, .aload_n 0, 1, 0, 0, 0), (102, .aload_n 0, 1, 0, 0, 0), (103, .getfield 29, 3, 10, 4, 0), (106, .getfield 44, 3, 8, 5, 0), (109, .aload_n 0, 1, 0, 0, 0), (110, .getfield 15, 3, 10, 3, 0), (113, .getfield 93, 3, 6, 0, 0), (116, .iload_n 1, 1, 0, 0, 0), (117, .iconst 1, 1, 0, 0, 0), (118, .iadd, 1, 0, 0, 0), (119, .iaload, 1, 0, 0, 0), (120, .iadd, 1, 0, 0, 0), (121, .invokevirtual 81, 3, 106, 10, 1), (124, .iload_n 2, 1, 0, 0, 0), (125, .bipush 21, 2, 0, 0, 0), (127, .if_icmp .eq 18, 3, 145, 0, 0), (130, .aload_n 0, 1, 0, 0, 0), (131, .iload_n 1, 1, 0, 0, 0), (132, .aload_n 0, 1, 0, 0, 0), (133, .getfield 15, 3, 10, 3, 0), (136, .getfield 41, 3, 6, 12, 0), (139, .iload_n 1, 1, 0, 0, 0), (140, .iaload, 1, 0, 0, 0), (141, .iadd, 1, 0, 0, 0), (142, .invokevirtual 81, 3, 106, 10, 1), (145, .return_, 1, 0, 0, 0)]
/-- TierMill$Verifier.findBehind(II)V -/
def e_d99 : List (Nat × Instr × Nat × Nat × Nat × Int) := [(0, .aload_n 0, 1, 0, 0, 0), (1, .getfield 15, 3, 10, 3, 0), (4, .getfield 57, 3, 6, 15, 0), (7, .iload_n 1, 1, 0, 0, 0), (8, .iaload, 1, 0, 0, 0), (9, .istore_n 3, 1, 0, 0, 0), (10, .aload_n 0, 1, 0, 0, 0), (11, .iload_n 1, 1, 0, 0, 0), (12, .iload_n 2, 1, 0, 0, 0), (13, .invokevirtual 100, 3, 102, 10, 2), (16, .istore 4, 2, 0, 0, 0), (18, .aload_n 0, 1, 0, 0, 0), (19, .iload_n 1, 1, 0, 0, 0), (20, .iload_n 2, 1, 0, 0, 0), (21, .invokevirtual 104, 3, 103, 10, 2), (24, .istore 5, 2, 0, 0, 0), (26, .aload_n 0, 1, 0, 0, 0), (27, .aload_n 0, 1, 0, 0, 0), (28, .getfield 15, 3, 10, 3, 0), (31, .getfield 107, 3, 6, 16, 0), (34, .iload_n 1, 1, 0, 0, 0), (35, .laload, 1, 0, 0, 0), (36, .putfield 66, 3, 10, 7, 0), (39, .aload_n 0, 1, 0, 0, 0), (40, .aload_n 0, 1, 0, 0, 0), (41, .getfield 15, 3, 10, 3, 0), (44, .getfield 111, 3, 6, 17, 0), (47, .iload_n 1, 1, 0, 0, 0), (48, .laload, 1, 0, 0, 0), (49, .putfield 76, 3, 10, 8, 0), (52, .iload_n 3, 1, 0, 0, 0), (53, .iload 4, 2, 0, 0, 0), (55, .if_icmp .lt 20, 3, 75, 0, 0), (58, .iload_n 3, 1, 0, 0, 0), (59, .iload 4, 2, 0, 0, 0), (61, .isub, 1, 0, 0, 0), (62, .iload 5, 2, 0, 0, 0), (64, .iadd, 1, 0, 0, 0), (65, .aload_n 0, 1, 0, 0, 0), (66, .getfield 29, 3, 10, 4, 0), (69, .getfield 114, 3, 8, 4, 0), (72, .if_icmp .le 10, 3, 82, 0, 0), (75, .aload_n 0, 1, 0, 0, 0), (76, .bipush (-2), 2, 0, 0, 0), (78, .putfield 79, 3, 10, 6, 0), (81, .return_, 1, 0, 0, 0), (82, .aload_n 0, 1, 0, 0, 0), (83, .iload_n 3, 1, 0, 0, 0), (84, .putfield 79, 3, 10, 6, 0), (87, .iload_n 3, 1, 0, 0, 0), (88, .ifCond .le 16, 3, 104, 0, 0), (91, .aload_n 0, 1, 0, 0, 0), (92, .getfield 76, 3, 10, 8, 0), (95, .iload_n 3, 1, 0, 0, 0), (96, .iconst 1, 1, 0, 0, 0), (97, .isub, 1, 0, 0, 0), (98, .invokestatic 117, 3, 69, 0, 2), (101, .goto 4, 3, 105, 0, 0), (104, .iconst 0, 1, 0, 0, 0), (105, .istore 6, 2, 0, 0, 0), (107, .iload_n 3, 1, 0, 0, 0), (108, .iconst 1, 1, 0, 0, 0), (109, .if_icmp .le 16, 3, 125, 0, 0), (112, .aload_n 0, 1, 0, 0, 0), (113, .getfield 76, 3, 10, 8, 0), (116, .iload_n 3, 1, 0, 0, 0), (117, .iconst 2, 1, 0, 0, 0), (118, .isub, 1, 0, 0, 0), (119, .invokestatic 117, 3, 69, 0, 2), (122, .goto 4, 3, 126, 0, 0), (125, .iconst 0, 1, 0, 0, 0), (126, .istore 7, 2, 0, 0, 0), (128, .iconst 0, 1, 0, 0, 0), (129, .istore 8, 2, 0, 0, 0), (131, .iload 8, 2, 0, 0, 0), (133, .iload 4, 2, 0, 0, 0), (135, .if_icmp .ge 13, 3, 148, 0, 0), (138, .aload_n 0, 1, 0, 0, 0), (139, .invokevirtual 121, 3, 100, 10, 0), (142, .iinc 8 1, 3, 0, 0, 0), (145, .goto (-14), 3, 131, 0, 0), (148, .iload_n 2, 1, 0, 0, 0), (149, .iconst 3, 1, 0, 0, 0), (150, .if_icmp .ne 28, 3, 178, 0, 0), (153, .aload_n 0, 1, 0, 0, 0), (154, .aload_n 0, 1, 0, 0, 0), (155, .getfield 66, 3, 10, 7, 0), (158, .aload_n 0, 1, 0, 0, 0), (159, .getfield 15, 3, 10, 3, 0), (162, .getfield 93, 3, 6, 0, 0), (165, .iload_n 1, 1, 0, 0, 0), (166, .iconst 1, 1, 0, 0, 0), (167, .iadd, 1, 0, 0, 0), (168, .iaload, 1, 0, 0, 0), (169, .invokestatic 117, 3, 69, 0, 2), (172, .invokevirtual 124, 3, 101, 10, 1), (175, .goto 111, 3, 286, 0, 0), (178, .iload_n 2, 1, 0, 0, 0), (179, .iconst 4, 1, 0, 0, 0), (180, .if_icmp .ne 48, 3, 228, 0, 0), (183, .bipush 8, 2, 0, 0, 0), (185, .aload_n 0, 1, 0, 0, 0), (186, .getfield 15, 3, 10, 3, 0), (189, .getfield 93, 3, 6, 0, 0), (192, .iload_n 1, 1, 0, 0, 0), (193, .iconst 1, 1, 0, 0, 0), (194, .iadd, 1, 0, 0, 0), (195, .iaload, 1, 0, 0, 0), (196, .imul, 1, 0, 0, 0), (197, .istore 8, 2, 0, 0, 0), (199, .aload_n 0, 1, 0, 0, 0), (200, .aload_n 0, 1, 0, 0, 0), (201, .getfield 66, 3, 10, 7, 0), (204, .ldc2_w 127, 3, 0, 0, 255), (207, .iload 8, 2, 0, 0, 0), (209, .lshl, 1, 0, 0, 0), (210, .ldc2_w 129, 3, 0, 0, (-1)), (213, .lxor, 1, 0, 0, 0), (214, .land, 1, 0, 0, 0), (215, .iload 6, 2, 0, 0, 0), (217, .i2l, 1, 0, 0, 0), (218, .iload 8, 2, 0, 0, 0), (220, .lshl, 1, 0, 0, 0), (221, .lor, 1, 0, 0, 0), (222, .putfield 66, 3, 10, 7, 0), (225, .goto 61, 3, 286, 0, 0), (228, .iload_n 2, 1, 0, 0, 0), (229, .bipush 6, 2, 0, 0, 0), (231, .if_icmp .ne 18, 3, 249, 0, 0), (234, .aload_n 0, 1, 0, 0, 0), (235, .iload 6, 2, 0, 0, 0), (237, .invokevirtual 124, 3, 101, 10, 1), (240, .aload_n 0, 1, 0, 0, 0), (241, .iload 6, 2, 0, 0, 0), (243, .invokevirtual 124, 3, 101, 10, 1), (246, .goto 40, 3, 286, 0, 0), (249, .iload_n 2, 1, 0, 0, 0), (250, .bipush 7, 2, 0, 0, 0), (252, .if_icmp .ne 18, 3, 270, 0, 0), (255, .aload_n 0, 1, 0, 0, 0), (256, .iload 6, 2, 0, 0, 0), (258, .invokevirtual 124, 3, 101, 10, 1), (261, .aload_n 0, 1, 0, 0, 0), (262, .iload 7, 2, 0, 0, 0), (264, .invokevirtual 124, 3, 101, 10, 1), (267, .goto 19, 3, 286, 0, 0), (270, .iload 5, 2, 0, 0, 0), (272, .iconst 1, 1, 0, 0, 0), (273, .if_icmp .ne 13, 3, 286, 0, 0), (276, .aload_n 0, 1, 0, 0, 0), (277, .aload_n 0, 1, 0, 0, 0), (278, .iload_n 1, 1, 0, 0, 0), (279, .iload_n 2, 1, 0, 0, 0), (280, .invokevirtual 131, 3, 105, 10, 2), (283, .invokevirtual 124, 3, 101, 10, 1), (286, .return_, 1, 0, 0, 0)]
/-- TierMill$Verifier.dropKind()V -/
def e_d100 : List (Nat × Instr × Nat × Nat × Nat × Int) := [(0, .aload_n 0, 1, 0, 0, 0), (1, .dup, 1, 0, 0, 0), (2, .getfield 79, 3, 10, 6, 0), (5, .iconst 1, 1, 0, 0, 0), (6, .isub, 1, 0, 0, 0), (7, .putfield 79, 3, 10, 6, 0), (10, .aload_n 0, 1, 0, 0, 0), (11, .dup, 1, 0, 0, 0), (12, .getfield 76, 3, 10, 8, 0), (15, .ldc2_w 127, 3, 0, 0, 255), (18, .bipush 8, 2, 0, 0, 0), (20, .aload_n 0, 1, 0, 0, 0), (21, .getfield 79, 3, 10, 6, 0), (24, .imul, 1, 0, 0, 0), (25, .lshl, 1, 0, 0, 0), (26, .ldc2_w 129, 3, 0, 0, (-1)), (29, .lxor, 1, 0, 0, 0), (30, .land, 1, 0, 0, 0), (31, .putfield 76, 3, 10, 8, 0), (34, .return_, 1, 0, 0, 0)]
/-- TierMill$Verifier.addKind(I)V -/
def e_d101 : List (Nat × Instr × Nat × Nat × Nat × Int) := [(0, .aload_n 0, 1, 0, 0, 0), (1, .dup, 1, 0, 0, 0), (2, .getfield 76, 3, 10, 8, 0), (5, .iload_n 1, 1, 0, 0, 0), (6, .i2l, 1, 0, 0, 0), (7, .bipush 8, 2, 0, 0, 0), (9, .aload_n 0, 1, 0, 0, 0), (10, .getfield 79, 3, 10, 6, 0), (13, .imul, 1, 0, 0, 0), (14, .lshl, 1, 0, 0, 0), (15, .lor, 1, 0, 0, 0), (16, .putfield 76, 3, 10, 8, 0), (19, .aload_n 0, 1, 0, 0, 0), (20, .dup, 1, 0, 0, 0), (21, .getfield 79, 3, 10, 6, 0), (24, .iconst 1, 1, 0, 0, 0), (25, .iadd, 1, 0, 0, 0), (26, .putfield 79, 3, 10, 6, 0), (29, .return_, 1, 0, 0, 0)]
/-- TierMill$Verifier.takesAt(II)I -/
def e_d102 : List (Nat × Instr × Nat × Nat × Nat × Int) := [(0, .iload_n 2, 1, 0, 0, 0), (1, .bipush 47, 2, 0, 0, 0), (3, .if_icmp .ne 26, 3, 29, 0, 0), (6, .aload_n 0, 1, 0, 0, 0), (7, .getfield 15, 3, 10, 3, 0), (10, .getfield 25, 3, 6, 10, 0), (13, .aload_n 0, 1, 0, 0, 0), (14, .getfield 15, 3, 10, 3, 0), (17, .getfield 93, 3, 6, 0, 0), (20, .iload_n 1, 1, 0, 0, 0), (21, .iconst 1, 1, 0, 0, 0), (22, .iadd, 1, 0, 0, 0), (23, .iaload, 1, 0, 0, 0), (24, .aaload, 1, 0, 0, 0), (25, .getfield 70, 3, 8, 1, 0), (28, .ireturn, 1, 0, 0, 0), (29, .iload_n 2, 1, 0, 0, 0), (30, .bipush 48, 2, 0, 0, 0), (32, .if_icmp .ne 28, 3, 60, 0, 0), (35, .aload_n 0, 1, 0, 0, 0), (36, .getfield 15, 3, 10, 3, 0), (39, .getfield 134, 3, 6, 8, 0), (42, .aload_n 0, 1, 0, 0, 0), (43, .getfield 15, 3, 10, 3, 0), (46, .getfield 93, 3, 6, 0, 0), (49, .iload_n 1, 1, 0, 0, 0), (50, .iconst 1, 1, 0, 0, 0), (51, .iadd, 1, 0, 0, 0), (52, .iaload, 1, 0, 0, 0), (53, .aaload, 1, 0, 0, 0), (54, .getfield 70, 3, 8, 1, 0), (57, .iconst 1, 1, 0, 0, 0), (58, .iadd, 1, 0, 0, 0), (59, .ireturn, 1, 0, 0, 0), (60, .getstatic 137, 3, 3, 1, 0), (63, .iload_n 2, 1, 0, 0, 0), (64, .iaload, 1, 0, 0, 0), (65, .ireturn, 1, 0, 0, 0)]
/-- TierMill$Verifier.putsAt(II)I -/
def e_d103 : List (Nat × Instr × Nat × Nat × Nat × Int) := [(0, .iload_n 2, 1, 0, 0, 0), (1, .bipush 47, 2, 0, 0, 0), (3, .if_icmp .eq 9, 3, 12, 0, 0), (6, .iload_n 2, 1, 0, 0, 0), (7, .bipush 48, 2, 0, 0, 0), (9, .if_icmp .ne 18, 3, 27, 0, 0), (12, .aload_n 0, 1, 0, 0, 0), (13, .iload_n 1, 1, 0, 0, 0), (14, .iload_n 2, 1, 0, 0, 0), (15, .invokevirtual 140, 3, 104, 10, 2), (18, .ifCond .ne 7, 3, 25, 0, 0), (21, .iconst 0, 1, 0, 0, 0), (22, .goto 4, 3, 26, 0, 0), (25, .iconst 1, 1, 0, 0, 0), (26, .ireturn, 1, 0, 0, 0), (27, .getstatic 143, 3, 4, 1, 0), (30, .iload_n 2, 1, 0, 0, 0), (31, .iaload, 1, 0, 0, 0), (32, .ireturn, 1, 0, 0, 0)]
/-- TierMill$Verifier.returnedAt(II)I -/
def e_d104 : List (Nat × Instr × Nat × Nat × Nat × Int) := [(0, .aload_n 0, 1, 0, 0, 0), (1, .getfield 15, 3, 10, 3, 0), (4, .getfield 93, 3, 6, 0, 0), (7, .iload_n 1, 1, 0, 0, 0), (8, .iconst 1, 1, 0, 0, 0), (9, .iadd, 1, 0, 0, 0), (10, .iaload, 1, 0, 0, 0), (11, .istore_n 3, 1, 0, 0, 0), (12, .iload_n 2, 1, 0, 0, 0), (13, .bipush 47, 2, 0, 0, 0), (15, .if_icmp .ne 18, 3, 33, 0, 0), (18, .aload_n 0, 1, 0, 0, 0), (19, .getfield 15, 3, 10, 3, 0), (22, .getfield 25, 3, 6, 10, 0), (25, .iload_n 3, 1, 0, 0, 0), (26, .aaload, 1, 0, 0, 0), (27, .getfield 146, 3, 8, 2, 0), (30, .goto 15, 3, 45, 0, 0), (33, .aload_n 0, 1, 0, 0, 0), (34, .getfield 15, 3, 10, 3, 0), (37, .getfield 134, 3, 6, 8, 0), (40, .iload_n 3, 1, 0, 0, 0), (41, .aaload, 1, 0, 0, 0), (42, .getfield 146, 3, 8, 2, 0), (45, .ireturn, 1, 0, 0, 0)]
/-- TierMill$Verifier.kindPut(II)I -/
def e_d105 : List (Nat × Instr × Nat × Nat × Nat × Int) := [(0, .iload_n 2, 1, 0, 0, 0), (1, .lookupswitch 128 #[(2, 67), (38, 69), (39, 84), (41, 119), (46, 69), (47, 121), (48, 121)], 67, 0, 0, 0), (68, .iconst 3, 1, 0, 0, 0), (69, .ireturn, 1, 0, 0, 0), (70, .bipush 16, 2, 0, 0, 0), (72, .aload_n 0, 1, 0, 0, 0), (73, .getfield 15, 3, 10, 3, 0), (76, .getfield 93, 3, 6, 0, 0), (79, .iload_n 1, 1, 0, 0, 0), (80, .iconst 1, 1, 0, 0, 0), (81, .iadd, 1, 0, 0, 0), (82, .iaload, 1, 0, 0, 0), (83, .iadd, 1, 0, 0, 0), (84, .ireturn, 1, 0, 0, 0), (85, .aload_n 0, 1, 0, 0, 0), (86, .getfield 15, 3, 10, 3, 0), (89, .getfield 149, 3, 6, 6, 0), (92, .aload_n 0, 1, 0, 0, 0), (93, .getfield 15, 3, 10, 3, 0), (96, .getfield 93, 3, 6, 0, 0), (99, .iload_n 1, 1, 0, 0, 0), (100, .iconst 1, 1, 0, 0, 0), (101, .iadd, 1, 0, 0, 0), (102, .iaload, 1, 0, 0, 0), (103, .bipush 8, 2, 0, 0, 0), (105, .imul, 1, 0, 0, 0), (106, .aload_n 0, 1, 0, 0, 0), (107, .getfield 15, 3, 10, 3, 0), (110, .getfield 93, 3, 6, 0, 0), (113, .iload_n 1, 1, 0, 0, 0), (114, .iconst 2, 1, 0, 0, 0), (115, .iadd, 1, 0, 0, 0), (116, .iaload, 1, 0, 0, 0), (117, .iadd, 1, 0, 0, 0), (118, .iaload, 1, 0, 0, 0), (119, .ireturn, 1, 0, 0, 0), (120, .iconst 2, 1, 0, 0, 0), (121, .ireturn, 1, 0, 0, 0), (122, .aload_n 0, 1, 0, 0, 0), (123, .iload_n 1, 1, 0, 0, 0), (124, .iload_n 2, 1, 0, 0, 0), (125, .invokevirtual 140, 3, 104, 10, 2), (128, .ireturn, 1, 0, 0, 0), (129, .iconst 1, 1, 0, 0, 0), (130, .ireturn, 1, 0, 0, 0)]
/-- TierMill$Verifier.comeTo(I)V -/
def e_d106 : List (Nat × Instr × Nat × Nat × Nat × Int) := [(0, .aload_n 0, 1, 0, 0, 0), (1, .getfield 15, 3, 10, 3, 0), (4, .getfield 57, 3, 6, 15, 0), (7, .iload_n 1, 1, 0, 0, 0), (8, .iaload, 1, 0, 0, 0), (9, .istore_n 2, 1, 0, 0, 0), (10, .iload_n 2, 1, 0, 0, 0), (11, .iconst (-1), 1, 0, 0, 0), (12, .if_icmp .ne 23, 3, 35, 0, 0), (15, .aload_n 0, 1, 0, 0, 0), (16, .iload_n 1, 1, 0, 0, 0), (17, .aload_n 0, 1, 0, 0, 0), (18, .getfield 79, 3, 10, 6, 0), (21, .aload_n 0, 1, 0, 0, 0), (22, .getfield 66, 3, 10, 7, 0), (25, .aload_n 0, 1, 0, 0, 0), (26, .getfield 76, 3, 10, 8, 0), (29, .invokevirtual 152, 3, 107, 10, 4), (32, .goto 110, 3, 142, 0, 0), (35, .iload_n 2, 1, 0, 0, 0), (36, .bipush (-2), 2, 0, 0, 0), (38, .if_icmp .eq 23, 3, 61, 0, 0), (41, .iload_n 2, 1, 0, 0, 0), (42, .aload_n 0, 1, 0, 0, 0), (43, .getfield 79, 3, 10, 6, 0), (46, .if_icmp .eq 15, 3, 61, 0, 0), (49, .aload_n 0, 1, 0, 0, 0), (50, .iload_n 1, 1, 0, 0, 0), (51, .bipush (-2), 2, 0, 0, 0), (53, .lconst 0, 1, 0, 0, 0), (54, .lconst 0, 1, 0, 0, 0), (55, .invokevirtual 152, 3, 107, 10, 4), (58, .goto 84, 3, 142, 0, 0), (61, .iload_n 2, 1, 0, 0, 0), (62, .bipush (-2), 2, 0, 0, 0), (64, .if_icmp .eq 78, 3, 142, 0, 0), (67, .aload_n 0, 1, 0, 0, 0), (68, .aload_n 0, 1, 0, 0, 0), (69, .getfield 15, 3, 10, 3, 0), (72, .getfield 107, 3, 6, 16, 0), (75, .iload_n 1, 1, 0, 0, 0), (76, .laload, 1, 0, 0, 0), (77, .aload_n 0, 1, 0, 0, 0), (78, .getfield 66, 3, 10, 7, 0), (81, .invokevirtual 156, 3, 108, 10, 2), (84, .lstore_n 3, 1, 0, 0, 0), (85, .aload_n 0, 1, 0, 0, 0), (86, .aload_n 0, 1, 0, 0, 0), (87, .getfield 15, 3, 10, 3, 0), (90, .getfield 111, 3, 6, 17, 0), (93, .iload_n 1, 1, 0, 0, 0), (94, .laload, 1, 0, 0, 0), (95, .aload_n 0, 1, 0, 0, 0), (96, .getfield 76, 3, 10, 8, 0), (99, .invokevirtual 156, 3, 108, 10, 2), (102, .lstore 5, 2, 0, 0, 0), (104, .lload_n 3, 1, 0, 0, 0), (105, .aload_n 0, 1, 0, 0, 0), (106, .getfield 15, 3, 10, 3, 0), (109, .getfield 107, 3, 6, 16, 0), (112, .iload_n 1, 1, 0, 0, 0), (113, .laload, 1, 0, 0, 0), (114, .lcmp, 1, 0, 0, 0), (115, .ifCond .ne 18, 3, 133, 0, 0), (118, .lload 5, 2, 0, 0, 0), (120, .aload_n 0, 1, 0, 0, 0), (121, .getfield 15, 3, 10, 3, 0), (124, .getfield 111, 3, 6, 17, 0), (127, .iload_n 1, 1, 0, 0, 0), (128, .laload, 1, 0, 0, 0), (129, .lcmp, 1, 0, 0, 0), (130, .ifCond .eq 12, 3, 142, 0, 0), (133, .aload_n 0, 1, 0, 0, 0), (134, .iload_n 1, 1, 0, 0, 0), (135, .iload_n 2, 1, 0, 0, 0), (136, .lload_n 3, 1, 0, 0, 0), (137, .lload 5, 2, 0, 0, 0), (139, .invokevirtual 152, 3, 107, 10, 4), (142, .return_, 1, 0, 0, 0)]
/-- TierMill$Verifier.becomes(IIJJ)V -/
def e_d107 : List (Nat × Instr × Nat × Nat × Nat × Int) := [(0, .aload_n 0, 1, 0, 0, 0), (1, .getfield 15, 3, 10, 3, 0), (4, .getfield 57, 3, 6, 15, 0), (7, .iload_n 1, 1, 0, 0, 0), (8, .iload_n 2, 1, 0, 0, 0), (9, .iastore, 1, 0, 0, 0), (10, .aload_n 0, 1, 0, 0, 0), (11, .getfield 15, 3, 10, 3, 0), (14, .getfield 107, 3, 6, 16, 0), (17, .iload_n 1, 1, 0, 0, 0), (18, .lload_n 3, 1, 0, 0, 0), (19, .lastore, 1, 0, 0, 0), (20, .aload_n 0, 1, 0, 0, 0), (21, .getfield 15, 3, 10, 3, 0), (24, .getfield 111, 3, 6, 17, 0), (27, .iload_n 1, 1, 0, 0, 0), (28, .lload 5, 2, 0, 0, 0), (30, .lastore, 1, 0, 0, 0), (31, .aload_n 0, 1, 0, 0, 0), (32, .getfield 9, 3, 10, 2, 0), (35, .iload_n 1, 1, 0, 0, 0), (36, .iconst 1, 1, 0, 0, 0), (37, .iastore, 1, 0, 0, 0), (38, .aload_n 0, 1, 0, 0, 0), (39, .iconst 1, 1, 0, 0, 0), (40, .putfield 85, 3, 10, 5, 0), (43, .return_, 1, 0, 0, 0)]
/-- TierMill$Verifier.joined(JJ)J -/
def e_d108 : List (Nat × Instr × Nat × Nat × Nat × Int) := [(0, .lload_n 1, 1, 0, 0, 0), (1, .lload_n 3, 1, 0, 0, 0), (2, .lcmp, 1, 0, 0, 0), (3, .ifCond .ne 5, 3, 8, 0, 0), (6, .lload_n 1, 1, 0, 0, 0), (7, .lreturn, 1, 0, 0, 0), (8, .lconst 0, 1, 0, 0, 0), (9, .lstore 5, 2, 0, 0, 0), (11, .iconst 0, 1, 0, 0, 0), (12, .istore 7, 2, 0, 0, 0), (14, .iload 7, 2, 0, 0, 0), (16, .bipush 8, 2, 0, 0, 0), (18, .if_icmp .ge 37, 3, 55, 0, 0), (21, .lload 5, 2, 0, 0, 0), (23, .aload_n 0, 1, 0, 0, 0), (24, .lload_n 1, 1, 0, 0, 0), (25, .iload 7, 2, 0, 0, 0), (27, .invokestatic 117, 3, 69, 0, 2), (30, .lload_n 3, 1, 0, 0, 0), (31, .iload 7, 2, 0, 0, 0), (33, .invokestatic 117, 3, 69, 0, 2), (36, .invokevirtual 160, 3, 109, 10, 2), (39, .i2l, 1, 0, 0, 0), (40, .bipush 8, 2, 0, 0, 0), (42, .iload 7, 2, 0, 0, 0), (44, .imul, 1, 0, 0, 0), (45, .lshl, 1, 0, 0, 0), (46, .lor, 1, 0, 0, 0), (47, .lstore 5, 2, 0, 0, 0), (49, .iinc 7 1, 3, 0, 0, 0), (52, .goto (-38), 3, 14, 0, 0), (55, .lload 5, 2, 0, 0, 0), (57, .lreturn, 1, 0, 0, 0)]
/-- TierMill$Verifier.join(II)I -/
def e_d109 : List (Nat × Instr × Nat × Nat × Nat × Int) := [(0, .iload_n 1, 1, 0, 0, 0), (1, .iload_n 2, 1, 0, 0, 0), (2, .if_icmp .eq 15, 3, 17, 0, 0), (5, .iload_n 1, 1, 0, 0, 0), (6, .iconst 3, 1, 0, 0, 0), (7, .if_icmp .ne 12, 3, 19, 0, 0), (10, .iload_n 2, 1, 0, 0, 0), (11, .invokestatic 163, 3, 70, 0, 1), (14, .ifCond .eq 5, 3, 19, 0, 0), (17, .iload_n 2, 1, 0, 0, 0), (18, .ireturn, 1, 0, 0, 0), (19, .iload_n 2, 1, 0, 0, 0), (20, .iconst 3, 1, 0, 0, 0), (21, .if_icmp .ne 12, 3, 33, 0, 0), (24, .iload_n 1, 1, 0, 0, 0), (25, .invokestatic 163, 3, 70, 0, 1), (28, .ifCond .eq 5, 3, 33, 0, 0), (31, .iload_n 1, 1, 0, 0, 0), (32, .ireturn, 1, 0, 0, 0), (33, .iload_n 1, 1, 0, 0, 0), (34, .bipush 15, 2, 0, 0, 0), (36, .if_icmp .lt 9, 3, 45, 0, 0), (39, .iload_n 2, 1, 0, 0, 0), (40, .bipush 15, 2, 0, 0, 0), (42, .if_icmp .ge 5, 3, 47, 0, 0), (45, .iconst 0, 1, 0, 0, 0), (46, .ireturn, 1, 0, 0, 0), (47, .iload_n 1, 1, 0, 0, 0), (48, .bipush 15, 2, 0, 0, 0), (50, .if_icmp .eq 9, 3, 59, 0, 0), (53, .iload_n 2, 1, 0, 0, 0), (54, .bipush 15, 2, 0, 0, 0), (56, .if_icmp .ne 7, 3, 63, 0, 0), (59, .iconst 0, 1, 0, 0, 0), (60, .goto 28, 3, 88, 0, 0), (63, .aload_n 0, 1, 0, 0, 0), (64, .getfield 15, 3, 10, 3, 0), (67, .getfield 166, 3, 6, 4, 0), (70, .iload_n 1, 1, 0, 0, 0), (71, .bipush 16, 2, 0, 0, 0), (73, .isub, 1, 0, 0, 0), (74, .iaload, 1, 0, 0, 0), (75, .aload_n 0, 1, 0, 0, 0), (76, .getfield 15, 3, 10, 3, 0), (79, .getfield 166, 3, 6, 4, 0), (82, .iload_n 2, 1, 0, 0, 0), (83, .bipush 16, 2, 0, 0, 0), (85, .isub, 1, 0, 0, 0), (86, .iaload, 1, 0, 0, 0), (87, .iand, 1, 0, 0, 0), (88, .istore_n 3, 1, 0, 0, 0), (89, .bipush 7, 2, 0, 0, 0), (91, .istore 4, 2, 0, 0, 0), (93, .iload 4, 2, 0, 0, 0), (95, .ifCond .lt 24, 3, 119, 0, 0), (98, .iload_n 3, 1, 0, 0, 0), (99, .iload 4, 2, 0, 0, 0), (101, .ishr, 1, 0, 0, 0), (102, .iconst 1, 1, 0, 0, 0), (103, .iand, 1, 0, 0, 0), (104, .ifCond .eq 9, 3, 113, 0, 0), (107, .bipush 16, 2, 0, 0, 0), (109, .iload 4, 2, 0, 0, 0), (111, .iadd, 1, 0, 0, 0), (112, .ireturn, 1, 0, 0, 0), (113, .iinc 4 (-1), 3, 0, 0, 0), (116, .goto (-23), 3, 93, 0, 0), (119, .bipush 15, 2, 0, 0, 0), (121, .ireturn, 1, 0, 0, 0)]
/-- TierMill$Verifier.isWrong(I)Z -/
def e_d110 : List (Nat × Instr × Nat × Nat × Nat × Int) := [(0, .aload_n 0, 1, 0, 0, 0), (1, .getfield 15, 3, 10, 3, 0), (4, .getfield 57, 3, 6, 15, 0), (7, .iload_n 1, 1, 0, 0, 0), (8, .iaload, 1, 0, 0, 0), (9, .istore_n 2, 1, 0, 0, 0), (10, .iload_n 2, 1, 0, 0, 0), (11, .iconst (-1), 1, 0, 0, 0), (12, .if_icmp .ne 5, 3, 17, 0, 0), (15, .iconst 0, 1, 0, 0, 0), (16, .ireturn, 1, 0, 0, 0), (17, .aload_n 0, 1, 0, 0, 0), (18, .getfield 15, 3, 10, 3, 0), (21, .getfield 93, 3, 6, 0, 0), (24, .iload_n 1, 1, 0, 0, 0), (25, .iaload, 1, 0, 0, 0), (26, .istore_n 3, 1, 0, 0, 0), (27, .aload_n 0, 1, 0, 0, 0), (28, .iload_n 1, 1, 0, 0, 0), (29, .iload_n 3, 1, 0, 0, 0), (30, .invokevirtual 100, 3, 102, 10, 2), (33, .istore 4, 2, 0, 0, 0), (35, .iload_n 2, 1, 0, 0, 0), (36, .iload 4, 2, 0, 0, 0), (38, .if_icmp .lt 24, 3, 62, 0, 0), (41, .iload_n 2, 1, 0, 0, 0), (42, .iload 4, 2, 0, 0, 0), (44, .isub, 1, 0, 0, 0), (45, .aload_n 0, 1, 0, 0, 0), (46, .iload_n 1, 1, 0, 0, 0), (47, .iload_n 3, 1, 0, 0, 0), (48, .invokevirtual 104, 3, 103, 10, 2), (51, .iadd, 1, 0, 0, 0), (52, .aload_n 0, 1, 0, 0, 0), (53, .getfield 29, 3, 10, 4, 0), (56, .getfield 114, 3, 8, 4, 0), (59, .if_icmp .le 5, 3, 64, 0, 0), (62, .iconst 1, 1, 0, 0, 0), (63, .ireturn, 1, 0, 0, 0), (64, .aload_n 0, 1, 0, 0, 0), (65, .aload_n 0, 1, 0, 0, 0), (66, .getfield 15, 3, 10, 3, 0), (69, .getfield 111, 3, 6, 17, 0), (72, .iload_n 1, 1, 0, 0, 0), (73, .laload, 1, 0, 0, 0), (74, .putfield 76, 3, 10, 8, 0), (77, .aload_n 0, 1, 0, 0, 0), (78, .aload_n 0, 1, 0, 0, 0), (79, .getfield 15, 3, 10, 3, 0), (82, .getfield 107, 3, 6, 16, 0), (85, .iload_n 1, 1, 0, 0, 0), (86, .laload, 1, 0, 0, 0), (87, .putfield 66, 3, 10, 7, 0), (90, .aload_n 0, 1, 0, 0, 0), (91, .iload_n 2, 1, 0, 0, 0), (92, .putfield 79, 3, 10, 6, 0), (95, .iload_n 3, 1, 0, 0, 0), (96, .bipush 37, 2, 0, 0, 0), (98, .if_icmp .le 9, 3, 107, 0, 0), (101, .iload_n 3, 1, 0, 0, 0), (102, .bipush 51, 2, 0, 0, 0), (104, .if_icmp .lt 20, 3, 124, 0, 0), (107, .aload_n 0, 1, 0, 0, 0), (108, .iload_n 1, 1, 0, 0, 0), (109, .iload_n 3, 1, 0, 0, 0), (110, .invokevirtual 169, 3, 112, 10, 2), (113, .ifCond .ne 7, 3, 120, 0, 0), (116, .iconst 1, 1, 0, 0, 0), (117, .goto 21, 3, 138, 0, 0), (120, .iconst 0, 1, 0, 0, 0), (121, .goto 17, 3, 138, 0, 0), (124, .aload_n 0, 1, 0, 0, 0), (125, .iload_n 1, 1, 0, 0, 0), (126, .iload_n 3, 1, 0, 0, 0), (127, .invokevirtual 173, 3, 114, 10, 2), (130, .ifCond .ne 7, 3, 137, 0, 0), (133, .iconst 1, 1, 0, 0, 0), (134, .goto 4, 3, 138, 0, 0), (137, .iconst 0, 1, 0, 0, 0), (138, .ireturn, 1, 0, 0, 0)]
/-- TierMill$Verifier.fromTop(I)I -/
def e_d111 : List (Nat × Instr × Nat × Nat × Nat × Int) := [(0, .aload_n 0, 1, 0, 0, 0), (1, .getfield 79, 3, 10, 6, 0), (4, .iload_n 1, 1, 0, 0, 0), (5, .if_icmp .le 21, 3, 26, 0, 0), (8, .aload_n 0, 1, 0, 0, 0), (9, .getfield 76, 3, 10, 8, 0), (12, .aload_n 0, 1, 0, 0, 0), (13, .getfield 79, 3, 10, 6, 0), (16, .iconst 1, 1, 0, 0, 0), (17, .isub, 1, 0, 0, 0), (18, .iload_n 1, 1, 0, 0, 0), (19, .isub, 1, 0, 0, 0), (20, .invokestatic 117, 3, 69, 0, 2), (23, .goto 4, 3, 27, 0, 0), (26, .iconst 0, 1, 0, 0, 0), (27, .ireturn, 1, 0, 0, 0)]
/-- TierMill$Verifier.isFitPlain(II)Z -/
def e_d112 : List (Nat × Instr × Nat × Nat × Nat × Int) := [(0, .aload_n 0, 1, 0, 0, 0), (1, .iconst 0, 1, 0, 0, 0), (2, .invokevirtual 176, 3, 111, 10, 1), (5, .istore_n 3, 1, 0, 0, 0), (6, .aload_n 0, 1, 0, 0, 0), (7, .iconst 1, 1, 0, 0, 0), (8, .invokevirtual 176, 3, 111, 10, 1), (11, .istore 4, 2, 0, 0, 0), (13, .iload_n 2, 1, 0, 0, 0), (14, .tableswitch 330 0 52 #[226, 226, 226, 228, 255, 255, 255, 265, 330, 330, 330, 330, 330, 330, 330, 330, 330, 330, 330, 330, 280, 226, 330, 330, 330, 330, 330, 330, 330, 330, 330, 330, 330, 330, 308, 308, 323, 323, 330, 330, 330, 330, 330, 330, 330, 330, 330, 330, 330, 330, 330, 330, 226], 226, 0, 0, 0), (240, .iconst 1, 1, 0, 0, 0), (241, .ireturn, 1, 0, 0, 0), (242, .aload_n 0, 1, 0, 0, 0), (243, .getfield 66, 3, 10, 7, 0), (246, .aload_n 0, 1, 0, 0, 0), (247, .getfield 15, 3, 10, 3, 0), (250, .getfield 93, 3, 6, 0, 0), (253, .iload_n 1, 1, 0, 0, 0), (254, .iconst 1, 1, 0, 0, 0), (255, .iadd, 1, 0, 0, 0), (256, .iaload, 1, 0, 0, 0), (257, .invokestatic 117, 3, 69, 0, 2), (260, .ifCond .eq 7, 3, 267, 0, 0), (263, .iconst 1, 1, 0, 0, 0), (264, .goto 4, 3, 268, 0, 0), (267, .iconst 0, 1, 0, 0, 0), (268, .ireturn, 1, 0, 0, 0), (269, .iload_n 3, 1, 0, 0, 0), (270, .ifCond .eq 7, 3, 277, 0, 0), (273, .iconst 1, 1, 0, 0, 0), (274, .goto 4, 3, 278, 0, 0), (277, .iconst 0, 1, 0, 0, 0), (278, .ireturn, 1, 0, 0, 0), (279, .iload_n 3, 1, 0, 0, 0), (280, .ifCond .eq 12, 3, 292, 0, 0), (283, .iload 4, 2, 0, 0, 0), (285, .ifCond .eq 7, 3, 292, 0, 0), (288, .iconst 1, 1, 0, 0, 0), (289, .goto 4, 3, 293, 0, 0), (292, .iconst 0, 1, 0, 0, 0), (293, .ireturn, 1, 0, 0, 0), (294, .aload_n 0, 1, 0, 0, 0), (295, .getfield 66, 3, 10, 7, 0), (298, .aload_n 0, 1, 0, 0, 0), (299, .getfield 15, 3, 10, 3, 0), (302, .getfield 93, 3, 6, 0, 0), (305, .iload_n 1, 1, 0, 0, 0), (306, .iconst 1, 1, 0, 0, 0), (307, .iadd, 1, 0, 0, 0), (308, .iaload, 1, 0, 0, 0), (309, .invokestatic 117, 3, 69, 0, 2), (312, .iconst 1, 1, 0, 0, 0), (313, .if_icmp .ne 7, 3, 320, 0, 0), (316, .iconst 1, 1, 0, 0, 0), (317, .goto 4, 3, 321, 0, 0), (320, .iconst 0, 1, 0, 0, 0), (321, .ireturn, 1, 0, 0, 0), (322, .iload_n 3, 1, 0, 0, 0), (323, .iconst 1, 1, 0, 0, 0), (324, .if_icmp .eq 11, 3, 335, 0, 0), (327, .iload_n 3, 1, 0, 0, 0), (328, .ifCond .eq 7, 3, 335, 0, 0), (331, .iconst 1, 1, 0, 0, 0), (332, .goto 4, 3, 336, 0, 0), (335, .iconst 0, 1, 0, 0, 0), (336, .ireturn, 1, 0, 0, 0), (337, .iload_n 3, 1, 0, 0, 0), (338, .iload 4, 2, 0, 0, 0), (340, .invokestatic 180, 3, 113, 0, 2), (343, .ireturn, 1, 0, 0, 0), (344, .iload_n 3, 1, 0, 0, 0), (345, .iconst 1, 1, 0, 0, 0), (346, .if_icmp .ne 22, 3, 368, 0, 0), (349, .getstatic 137, 3, 3, 1, 0), (352, .iload_n 2, 1, 0, 0, 0), (353, .iaload, 1, 0, 0, 0), (354, .iconst 1, 1, 0, 0, 0), (355, .if_icmp .eq 9, 3, 364, 0, 0), (358, .iload 4, 2, 0, 0, 0), (360, .iconst 1, 1, 0, 0, 0), (361, .if_icmp .ne 7, 3, 368, 0, 0), (364, .iconst 1, 1, 0, 0, 0), (365, .goto 4, 3, 369, 0, 0), (368, .iconst 0, 1, 0, 0, 0), (369, .ireturn, 1, 0, 0, 0)]
/-- TierMill$Verifier.areAlike(II)Z -/
def e_d113 : List (Nat × Instr × Nat × Nat × Nat × Int) := [(0, .iload_n 0, 1, 0, 0, 0), (1, .iconst 1, 1, 0, 0, 0), (2, .if_icmp .eq 16, 3, 18, 0, 0), (5, .iload_n 1, 1, 0, 0, 0), (6, .iconst 1, 1, 0, 0, 0), (7, .if_icmp .eq 11, 3, 18, 0, 0), (10, .iload_n 0, 1, 0, 0, 0), (11, .ifCond .eq 7, 3, 18, 0, 0), (14, .iload_n 1, 1, 0, 0, 0), (15, .ifCond .ne 5, 3, 20, 0, 0), (18, .iconst 0, 1, 0, 0, 0), (19, .ireturn, 1, 0, 0, 0), (20, .iload_n 0, 1, 0, 0, 0), (21, .iconst 2, 1, 0, 0, 0), (22, .if_icmp .ne 9, 3, 31, 0, 0), (25, .iload_n 1, 1, 0, 0, 0), (26, .bipush 15, 2, 0, 0, 0), (28, .if_icmp .ge 18, 3, 46, 0, 0), (31, .iload_n 1, 1, 0, 0, 0), (32, .iconst 2, 1, 0, 0, 0), (33, .if_icmp .ne 9, 3, 42, 0, 0), (36, .iload_n 0, 1, 0, 0, 0), (37, .bipush 15, 2, 0, 0, 0), (39, .if_icmp .ge 7, 3, 46, 0, 0), (42, .iconst 1, 1, 0, 0, 0), (43, .goto 4, 3, 47, 0, 0), (46, .iconst 0, 1, 0, 0, 0), (47, .ireturn, 1, 0, 0, 0)]
/-- TierMill$Verifier.isFitObject(II)Z -/
def e_d114 : List (Nat × Instr × Nat × Nat × Nat × Int) := [(0, .aload_n 0, 1, 0, 0, 0), (1, .iconst 0, 1, 0, 0, 0), (2, .invokevirtual 176, 3, 111, 10, 1), (5, .istore_n 3, 1, 0, 0, 0), (6, .aload_n 0, 1, 0, 0, 0), (7, .iconst 1, 1, 0, 0, 0), (8, .invokevirtual 176, 3, 111, 10, 1), (11, .istore 4, 2, 0, 0, 0), (13, .getstatic 183, 3, 2, 1, 0), (16, .iload_n 2, 1, 0, 0, 0), (17, .iaload, 1, 0, 0, 0), (18, .iconst 1, 1, 0, 0, 0), (19, .if_icmp .le 17, 3, 36, 0, 0), (22, .aload_n 0, 1, 0, 0, 0), (23, .getfield 15, 3, 10, 3, 0), (26, .getfield 93, 3, 6, 0, 0), (29, .iload_n 1, 1, 0, 0, 0), (30, .iconst 1, 1, 0, 0, 0), (31, .iadd, 1, 0, 0, 0), (32, .iaload, 1, 0, 0, 0), (33, .goto 4, 3, 37, 0, 0), (36, .iconst 0, 1, 0, 0, 0), (37, .istore 5, 2, 0, 0, 0), (39, .iload_n 2, 1, 0, 0, 0), (40, .tableswitch 308 39 50 #[64, 75, 128, 139, 160, 190, 197, 197, 214, 229, 261, 277], 64, 0, 0, 0), (104, .aload_n 0, 1, 0, 0, 0), (105, .iload_n 3, 1, 0, 0, 0), (106, .bipush 16, 2, 0, 0, 0), (108, .iload 5, 2, 0, 0, 0), (110, .iadd, 1, 0, 0, 0), (111, .invokevirtual 186, 3, 117, 10, 2), (114, .ireturn, 1, 0, 0, 0), (115, .aload_n 0, 1, 0, 0, 0), (116, .iload 4, 2, 0, 0, 0), (118, .bipush 16, 2, 0, 0, 0), (120, .iload 5, 2, 0, 0, 0), (122, .iadd, 1, 0, 0, 0), (123, .invokevirtual 186, 3, 117, 10, 2), (126, .ifCond .eq 40, 3, 166, 0, 0), (129, .aload_n 0, 1, 0, 0, 0), (130, .iload_n 3, 1, 0, 0, 0), (131, .aload_n 0, 1, 0, 0, 0), (132, .getfield 15, 3, 10, 3, 0), (135, .getfield 149, 3, 6, 6, 0), (138, .iload 5, 2, 0, 0, 0), (140, .bipush 8, 2, 0, 0, 0), (142, .imul, 1, 0, 0, 0), (143, .aload_n 0, 1, 0, 0, 0), (144, .getfield 15, 3, 10, 3, 0), (147, .getfield 93, 3, 6, 0, 0), (150, .iload_n 1, 1, 0, 0, 0), (151, .iconst 2, 1, 0, 0, 0), (152, .iadd, 1, 0, 0, 0), (153, .iaload, 1, 0, 0, 0), (154, .iadd, 1, 0, 0, 0), (155, .iaload, 1, 0, 0, 0), (156, .invokevirtual 186, 3, 117, 10, 2), (159, .ifCond .eq 7, 3, 166, 0, 0), (162, .iconst 1, 1, 0, 0, 0), (163, .goto 4, 3, 167, 0, 0), (166, .iconst 0, 1, 0, 0, 0), (167, .ireturn, 1, 0, 0, 0), (168, .iload_n 3, 1, 0, 0, 0), (169, .iconst 1, 1, 0, 0, 0), (170, .if_icmp .ne 7, 3, 177, 0, 0), (173, .iconst 1, 1, 0, 0, 0), (174, .goto 4, 3, 178, 0, 0), (177, .iconst 0, 1, 0, 0, 0), (178, .ireturn, 1, 0, 0, 0), (179, .aload_n 0, 1, 0, 0, 0), (180, .iload 4, 2, 0, 0, 0), (182, .iconst 2, 1, 0, 0, 0), (183, .invokevirtual 186, 3, 117, 10, 2), (186, .ifCond .eq 12, 3, 198, 0, 0), (189, .iload_n 3, 1, 0, 0, 0), (190, .iconst 1, 1, 0, 0, 0), (191, .if_icmp .ne 7, 3, 198, 0, 0), (194, .iconst 1, 1, 0, 0, 0), (195, .goto 4, 3, 199, 0, 0), (198, .iconst 0, 1, 0, 0, 0), (199, .ireturn, 1, 0, 0, 0), (200, .aload_n 0, 1, 0, 0, 0), (201, .aload_n 0, 1, 0, 0, 0), (202, .iconst 2, 1, 0, 0, 0), (203, .invokevirtual 176, 3, 111, 10, 1), (206, .iconst 2, 1, 0, 0, 0), (207, .invokevirtual 186, 3, 117, 10, 2), (210, .ifCond .eq 18, 3, 228, 0, 0), (213, .iload 4, 2, 0, 0, 0), (215, .iconst 1, 1, 0, 0, 0), (216, .if_icmp .ne 12, 3, 228, 0, 0), (219, .iload_n 3, 1, 0, 0, 0), (220, .iconst 1, 1, 0, 0, 0), (221, .if_icmp .ne 7, 3, 228, 0, 0), (224, .iconst 1, 1, 0, 0, 0), (225, .goto 4, 3, 229, 0, 0), (228, .iconst 0, 1, 0, 0, 0), (229, .ireturn, 1, 0, 0, 0), (230, .aload_n 0, 1, 0, 0, 0), (231, .iload_n 3, 1, 0, 0, 0), (232, .iconst 2, 1, 0, 0, 0), (233, .invokevirtual 186, 3, 117, 10, 2), (236, .ireturn, 1, 0, 0, 0), (237, .iload_n 3, 1, 0, 0, 0), (238, .iconst 3, 1, 0, 0, 0), (239, .if_icmp .eq 9, 3, 248, 0, 0), (242, .iload_n 3, 1, 0, 0, 0), (243, .bipush 15, 2, 0, 0, 0), (245, .if_icmp .lt 7, 3, 252, 0, 0), (248, .iconst 1, 1, 0, 0, 0), (249, .goto 4, 3, 253, 0, 0), (252, .iconst 0, 1, 0, 0, 0), (253, .ireturn, 1, 0, 0, 0), (254, .aload_n 0, 1, 0, 0, 0), (255, .aload_n 0, 1, 0, 0, 0), (256, .getfield 15, 3, 10, 3, 0), (259, .getfield 25, 3, 6, 10, 0), (262, .iload 5, 2, 0, 0, 0), (264, .aaload, 1, 0, 0, 0), (265, .invokevirtual 189, 3, 115, 10, 1), (268, .ireturn, 1, 0, 0, 0), (269, .aload_n 0, 1, 0, 0, 0), (270, .aload_n 0, 1, 0, 0, 0), (271, .getfield 15, 3, 10, 3, 0), (274, .getfield 134, 3, 6, 8, 0), (277, .iload 5, 2, 0, 0, 0), (279, .aaload, 1, 0, 0, 0), (280, .invokevirtual 189, 3, 115, 10, 1), (283, .ifCond .eq 16, 3, 299, 0, 0), (286, .aload_n 0, 1, 0, 0, 0), (287, .iload 5, 2, 0, 0, 0), (289, .invokevirtual 193, 3, 116, 10, 1), (292, .ifCond .eq 7, 3, 299, 0, 0), (295, .iconst 1, 1, 0, 0, 0), (296, .goto 4, 3, 300, 0, 0), (299, .iconst 0, 1, 0, 0, 0), (300, .ireturn, 1, 0, 0, 0), (301, .aload_n 0, 1, 0, 0, 0), (302, .getfield 29, 3, 10, 4, 0), (305, .getfield 146, 3, 8, 2, 0), (308, .ifCond .ne 7, 3, 315, 0, 0), (311, .iconst 1, 1, 0, 0, 0), (312, .goto 4, 3, 316, 0, 0), (315, .iconst 0, 1, 0, 0, 0), (316, .ireturn, 1, 0, 0, 0), (317, .aload_n 0, 1, 0, 0, 0), (318, .getfield 29, 3, 10, 4, 0), (321, .getfield 146, 3, 8, 2, 0), (324, .ifCond .eq 22, 3, 346, 0, 0), (327, .aload_n 0, 1, 0, 0, 0), (328, .iload_n 3, 1, 0, 0, 0), (329, .aload_n 0, 1, 0, 0, 0), (330, .getfield 29, 3, 10, 4, 0), (333, .getfield 146, 3, 8, 2, 0), (336, .invokevirtual 186, 3, 117, 10, 2), (339, .ifCond .eq 7, 3, 346, 0, 0), (342, .iconst 1, 1, 0, 0, 0), (343, .goto 4, 3, 347, 0, 0), (346, .iconst 0, 1, 0, 0, 0), (347, .ireturn, 1, 0, 0, 0), (348, .iconst 1, 1, 0, 0, 0), (349, .ireturn, 1, 0, 0, 0)]
/-- TierMill$Verifier.areParamsFit(LTierMill$Shape;)Z -/
def e_d115 : List (Nat × Instr × Nat × Nat × Nat × Int) := [(0, .iconst 0, 1, 0, 0, 0), (1, .istore_n 2, 1, 0, 0, 0), (2, .iload_n 2, 1, 0, 0, 0), (3, .aload_n 1, 1, 0, 0, 0), (4, .getfield 70, 3, 8, 1, 0), (7, .if_icmp .ge 36, 3, 43, 0, 0), (10, .aload_n 0, 1, 0, 0, 0), (11, .aload_n 0, 1, 0, 0, 0), (12, .aload_n 1, 1, 0, 0, 0), (13, .getfield 70, 3, 8, 1, 0), (16, .iconst 1, 1, 0, 0, 0), (17, .isub, 1, 0, 0, 0), (18, .iload_n 2, 1, 0, 0, 0), (19, .isub, 1, 0, 0, 0), (20, .invokevirtual 176, 3, 111, 10, 1), (23, .aload_n 1, 1, 0, 0, 0), (24, .getfield 73, 3, 8, 0, 0), (27, .iload_n 2, 1, 0, 0, 0), (28, .iaload, 1, 0, 0, 0), (29, .invokevirtual 186, 3, 117, 10, 2), (32, .ifCond .ne 5, 3, 37, 0, 0), (35, .iconst 0, 1, 0, 0, 0), (36, .ireturn, 1, 0, 0, 0), (37, .iinc 2 1, 3, 0, 0, 0), (40, .goto (-38), 3, 2, 0, 0), (43, .iconst 1, 1, 0, 0, 0), (44, .ireturn, 1, 0, 0, 0)]
/-- TierMill$Verifier.hasMethod(I)Z -/
def e_d116 : List (Nat × Instr × Nat × Nat × Nat × Int) := [(0, .aload_n 0, 1, 0, 0, 0), (1, .aload_n 0, 1, 0, 0, 0), (2, .getfield 15, 3, 10, 3, 0), (5, .getfield 134, 3, 6, 8, 0), (8, .iload_n 1, 1, 0, 0, 0), (9, .aaload, 1, 0, 0, 0), (10, .getfield 70, 3, 8, 1, 0), (13, .invokevirtual 176, 3, 111, 10, 1), (16, .istore_n 2, 1, 0, 0, 0), (17, .iload_n 2, 1, 0, 0, 0), (18, .bipush 16, 2, 0, 0, 0), (20, .if_icmp .lt 28, 3, 48, 0, 0), (23, .aload_n 0, 1, 0, 0, 0), (24, .getfield 15, 3, 10, 3, 0), (27, .getfield 196, 3, 6, 11, 0), (30, .iload_n 2, 1, 0, 0, 0), (31, .bipush 16, 2, 0, 0, 0), (33, .isub, 1, 0, 0, 0), (34, .bipush 8, 2, 0, 0, 0), (36, .imul, 1, 0, 0, 0), (37, .iload_n 1, 1, 0, 0, 0), (38, .iadd, 1, 0, 0, 0), (39, .iaload, 1, 0, 0, 0), (40, .iconst (-1), 1, 0, 0, 0), (41, .if_icmp .eq 7, 3, 48, 0, 0), (44, .iconst 1, 1, 0, 0, 0), (45, .goto 4, 3, 49, 0, 0), (48, .iconst 0, 1, 0, 0, 0), (49, .ireturn, 1, 0, 0, 0)]
/-- TierMill$Verifier.isFit(II)Z -/
def e_d117 : List (Nat × Instr × Nat × Nat × Nat × Int) := [(0, .iload_n 1, 1, 0, 0, 0), (1, .iload_n 2, 1, 0, 0, 0), (2, .if_icmp .eq 13, 3, 15, 0, 0), (5, .iload_n 1, 1, 0, 0, 0), (6, .iconst 3, 1, 0, 0, 0), (7, .if_icmp .ne 10, 3, 17, 0, 0), (10, .iload_n 2, 1, 0, 0, 0), (11, .iconst 1, 1, 0, 0, 0), (12, .if_icmp .eq 5, 3, 17, 0, 0), (15, .iconst 1, 1, 0, 0, 0), (16, .ireturn, 1, 0, 0, 0), (17, .iload_n 1, 1, 0, 0, 0), (18, .bipush 16, 2, 0, 0, 0), (20, .if_icmp .lt 31, 3, 51, 0, 0), (23, .iload_n 2, 1, 0, 0, 0), (24, .bipush 16, 2, 0, 0, 0), (26, .if_icmp .lt 25, 3, 51, 0, 0), (29, .aload_n 0, 1, 0, 0, 0), (30, .getfield 15, 3, 10, 3, 0), (33, .iload_n 1, 1, 0, 0, 0), (34, .bipush 16, 2, 0, 0, 0), (36, .isub, 1, 0, 0, 0), (37, .iload_n 2, 1, 0, 0, 0), (38, .bipush 16, 2, 0, 0, 0), (40, .isub, 1, 0, 0, 0), (41, .invokevirtual 199, 3, 66, 6, 2), (44, .ifCond .eq 7, 3, 51, 0, 0), (47, .iconst 1, 1, 0, 0, 0), (48, .goto 4, 3, 52, 0, 0), (51, .iconst 0, 1, 0, 0, 0), (52, .ireturn, 1, 0, 0, 0)]
/-- TierMill.<init>()V -/
def e_d118 : List (Nat × Instr × Nat × Nat × Nat × Int) := [(0, .aload_n 0, 1, 0, 0, 0), (1, .invokespecial 1, 3, 900, 0, 0), (4, .aload_n 0, 1, 0, 0, 0), (5, .new 7, 3, 7, 0, 0), (8, .dup, 1, 0, 0, 0), (9, .invokespecial 9, 3, 71, 1, 0), (12, .putfield 10, 3, 11, 0, 0), (15, .aload_n 0, 1, 0, 0, 0), (16, .new 16, 3, 0, 0, 0), (19, .dup, 1, 0, 0, 0), (20, .invokespecial 18, 3, 0, 1, 0), (23, .putfield 19, 3, 11, 1, 0), (26, .aload_n 0, 1, 0, 0, 0), (27, .new 23, 3, 10, 0, 0), (30, .dup, 1, 0, 0, 0), (31, .invokespecial 25, 3, 95, 0, 0), (34, .putfield 26, 3, 11, 2, 0), (37, .aload_n 0, 1, 0, 0, 0), (38, .new 30, 3, 4, 0, 0), (41, .dup, 1, 0, 0, 0), (42, .invokespecial 32, 3, 35, 0, 0), (45, .putfield 33, 3, 11, 3, 0), (48, .aload_n 0, 1, 0, 0, 0), (49, .new 37, 3, 6, 0, 0), (52, .dup, 1, 0, 0, 0), (53, .invokespecial 39, 3, 65, 0, 0), (56, .putfield 40, 3, 11, 5, 0), (59, .aload_n 0, 1, 0, 0, 0), (60, .new 37, 3, 6, 0, 0), (63, .dup, 1, 0, 0, 0), (64, .invokespecial 39, 3, 65, 0, 0), (67, .putfield 44, 3, 11, 6, 0), (70, .aload_n 0, 1, 0, 0, 0), (71, .sipush 500, 3, 0, 0, 0), (74, .putfield 47, 3, 11, 10, 0), (77, .return_, 1, 0, 0, 0)]
/-- TierMill.put(JI)Z -/
def e_d119 : List (Nat × Instr × Nat × Nat × Nat × Int) := [(0, .iload_n 3, 1, 0, 0, 0), (1, .iconst 1, 1, 0, 0, 0), (2, .if_icmp .lt 24, 3, 26, 0, 0), (5, .iload_n 3, 1, 0, 0, 0), (6, .bipush 8, 2, 0, 0, 0), (8, .if_icmp .gt 18, 3, 26, 0, 0), (11, .aload_n 0, 1, 0, 0, 0), (12, .getfield 44, 3, 11, 6, 0), (15, .getfield 51, 3, 6, 1, 0), (18, .iload_n 3, 1, 0, 0, 0), (19, .iadd, 1, 0, 0, 0), (20, .sipush 1500, 3, 0, 0, 0), (23, .if_icmp .le 5, 3, 28, 0, 0), (26, .iconst 0, 1, 0, 0, 0), (27, .ireturn, 1, 0, 0, 0), (28, .iload_n 3, 1, 0, 0, 0), (29, .iconst 1, 1, 0, 0, 0), (30, .isub, 1, 0, 0, 0), (31, .istore 4, 2, 0, 0, 0), (33, .iload 4, 2, 0, 0, 0), (35, .ifCond .lt 49, 3, 84, 0, 0), (38, .aload_n 0, 1, 0, 0, 0), (39, .getfield 44, 3, 11, 6, 0), (42, .getfield 54, 3, 6, 0, 0), (45, .aload_n 0, 1, 0, 0, 0), (46, .getfield 44, 3, 11, 6, 0), (49, .getfield 51, 3, 6, 1, 0), (52, .lload_n 1, 1, 0, 0, 0), (53, .bipush 8, 2, 0, 0, 0), (55, .iload 4, 2, 0, 0, 0), (57, .imul, 1, 0, 0, 0), (58, .lushr, 1, 0, 0, 0), (59, .l2i, 1, 0, 0, 0), (60, .sipush 255, 3, 0, 0, 0), (63, .iand, 1, 0, 0, 0), (64, .iastore, 1, 0, 0, 0), (65, .aload_n 0, 1, 0, 0, 0), (66, .getfield 44, 3, 11, 6, 0), (69, .dup, 1, 0, 0, 0), (70, .getfield 51, 3, 6, 1, 0), (73, .iconst 1, 1, 0, 0, 0), (74, .iadd, 1, 0, 0, 0), (75, .putfield 51, 3, 6, 1, 0), (78, .iinc 4 (-1), 3, 0, 0, 0), (81, .goto (-48), 3, 33, 0, 0), (84, .iconst 1, 1, 0, 0, 0), (85, .ireturn, 1, 0, 0, 0)]
/-- TierMill.load()I -/
def e_d120 : List (Nat × Instr × Nat × Nat × Nat × Int) := [(0, .aload_n 0, 1, 0, 0, 0), (1, .getfield 10, 3, 11, 0, 0), (4, .aload_n 0, 1, 0, 0, 0), (5, .getfield 44, 3, 11, 6, 0), (8, .invokevirtual 58, 3, 72, 7, 1), (11, .istore_n 1, 1, 0, 0, 0), (12, .iload_n 1, 1, 0, 0, 0), (13, .iconst (-1), 1, 0, 0, 0), (14, .if_icmp .eq 13, 3, 27, 0, 0), (17, .aload_n 0, 1, 0, 0, 0), (18, .iconst 1, 1, 0, 0, 0), (19, .iload_n 1, 1, 0, 0, 0), (20, .iconst 0, 1, 0, 0, 0), (21, .invokevirtual 62, 3, 121, 11, 3), (24, .goto 82, 3, 106, 0, 0), (27, .aload_n 0, 1, 0, 0, 0), (28, .getfield 19, 3, 11, 1, 0), (31, .aload_n 0, 1, 0, 0, 0), (32, .getfield 44, 3, 11, 6, 0), (35, .invokevirtual 66, 3, 1, 0, 1), (38, .ifCond .eq 25, 3, 63, 0, 0), (41, .aload_n 0, 1, 0, 0, 0), (42, .iconst 2, 1, 0, 0, 0), (43, .aload_n 0, 1, 0, 0, 0), (44, .getfield 19, 3, 11, 1, 0), (47, .getfield 70, 3, 0, 1, 0), (50, .aload_n 0, 1, 0, 0, 0), (51, .getfield 19, 3, 11, 1, 0), (54, .getfield 73, 3, 0, 0, 0), (57, .invokevirtual 62, 3, 121, 11, 3), (60, .goto 46, 3, 106, 0, 0), (63, .aload_n 0, 1, 0, 0, 0), (64, .getfield 26, 3, 11, 2, 0), (67, .aload_n 0, 1, 0, 0, 0), (68, .getfield 44, 3, 11, 6, 0), (71, .invokevirtual 76, 3, 96, 10, 1), (74, .ifCond .eq 25, 3, 99, 0, 0), (77, .aload_n 0, 1, 0, 0, 0), (78, .iconst 3, 1, 0, 0, 0), (79, .aload_n 0, 1, 0, 0, 0), (80, .getfield 26, 3, 11, 2, 0), (83, .getfield 77, 3, 10, 1, 0), (86, .aload_n 0, 1, 0, 0, 0), (87, .getfield 26, 3, 11, 2, 0), (90, .getfield 78, 3, 10, 0, 0), (93, .invokevirtual 62, 3, 121, 11, 3), (96, .goto 10, 3, 106, 0, 0), (99, .aload_n 0, 1, 0, 0, 0), (100, .iconst 0, 1, 0, 0, 0), (101, .iconst 0, 1, 0, 0, 0), (102, .iconst 0, 1, 0, 0, 0), (103, .invokevirtual 62, 3, 121, 11, 3), (106, .aload_n 0, 1, 0, 0, 0), (107, .getfield 79, 3, 11, 7, 0), (110, .ifCond .eq 21, 3, 131, 0, 0), (113, .aload_n 0, 1, 0, 0, 0), (114, .getfield 44, 3, 11, 6, 0), (117, .iconst 0, 1, 0, 0, 0), (118, .putfield 51, 3, 6, 1, 0), (121, .new 82, 3, 91, 0, 0), (124, .dup, 1, 0, 0, 0), (125, .ldc 84, 2, 1, 0, 0), (127, .invokespecial 86, 3, 999, 0, 1), (130, .athrow, 1, 0, 0, 0), (131, .aload_n 0, 1, 0, 0, 0), (132, .getfield 40, 3, 11, 5, 0), (135, .astore_n 2, 1, 0, 0, 0), (136, .aload_n 0, 1, 0, 0, 0), (137, .aload_n 0, 1, 0, 0, 0), (138, .getfield 44, 3, 11, 6, 0), (141, .putfield 40, 3, 11, 5, 0), (144, .aload_n 0, 1, 0, 0, 0), (145, .aload_n 2, 1, 0, 0, 0), (146, .putfield 44, 3, 11, 6, 0), (149, .aload_n 0, 1, 0, 0, 0), (150, .getfield 44, 3, 11, 6, 0), (153, .iconst 0, 1, 0, 0, 0), (154, .putfield 51, 3, 6, 1, 0), (157, .aload_n 0, 1, 0, 0, 0), (158, .iconst 1, 1, 0, 0, 0), (159, .putfield 89, 3, 11, 4, 0), (162, .aload_n 0, 1, 0, 0, 0), (163, .getfield 33, 3, 11, 3, 0), (166, .invokevirtual 93, 3, 37, 4, 0), (169, .aload_n 0, 1, 0, 0, 0), (170, .getfield 40, 3, 11, 5, 0), (173, .getfield 96, 3, 6, 9, 0), (176, .ireturn, 1, 0, 0, 0)]
/-- TierMill.keepFault(III)V -/
def e_d121 : List (Nat × Instr × Nat × Nat × Nat × Int) := [(0, .aload_n 0, 1, 0, 0, 0), (1, .iload_n 1, 1, 0, 0, 0), (2, .putfield 79, 3, 11, 7, 0), (5, .aload_n 0, 1, 0, 0, 0), (6, .iload_n 2, 1, 0, 0, 0), (7, .putfield 99, 3, 11, 8, 0), (10, .aload_n 0, 1, 0, 0, 0), (11, .iload_n 3, 1, 0, 0, 0), (12, .putfield 100, 3, 11, 9, 0), (15, .return_, 1, 0, 0, 0)]
/-- TierMill.fault(I)I -/
def e_d122 : List (Nat × Instr × Nat × Nat × Nat × Int) := [(0, .iload_n 1, 1, 0, 0, 0), (1, .tableswitch 42 0 2 #[27, 32, 37], 27, 0, 0, 0), (28, .aload_n 0, 1, 0, 0, 0), (29, .getfield 79, 3, 11, 7, 0), (32, .ireturn, 1, 0, 0, 0), (33, .aload_n 0, 1, 0, 0, 0), (34, .getfield 99, 3, 11, 8, 0), (37, .ireturn, 1, 0, 0, 0), (38, .aload_n 0, 1, 0, 0, 0), (39, .getfield 100, 3, 11, 9, 0), (42, .ireturn, 1, 0, 0, 0), (43, .iconst (-1), 1, 0, 0, 0), (44, .ireturn, 1, 0, 0, 0)]
/-- TierMill.kind(III)I -/
def e_d123 : List (Nat × Instr × Nat × Nat × Nat × Int) := [(0, .aload_n 0, 1, 0, 0, 0), (1, .getfield 89, 3, 11, 4, 0), (4, .ifCond .eq 15, 3, 19, 0, 0), (7, .aload_n 0, 1, 0, 0, 0), (8, .getfield 40, 3, 11, 5, 0), (11, .iload_n 1, 1, 0, 0, 0), (12, .iload_n 2, 1, 0, 0, 0), (13, .invokevirtual 101, 3, 67, 6, 2), (16, .ifCond .ne 5, 3, 21, 0, 0), (19, .iconst (-1), 1, 0, 0, 0), (20, .ireturn, 1, 0, 0, 0), (21, .aload_n 0, 1, 0, 0, 0), (22, .getfield 40, 3, 11, 5, 0), (25, .getfield 105, 3, 6, 10, 0), (28, .iload_n 1, 1, 0, 0, 0), (29, .aaload, 1, 0, 0, 0), (30, .astore 4, 2, 0, 0, 0), (32, .aload 4, 2, 0, 0, 0), (34, .getfield 109, 3, 8, 5, 0), (37, .iload_n 2, 1, 0, 0, 0), (38, .iadd, 1, 0, 0, 0), (39, .istore 5, 2, 0, 0, 0), (41, .aload_n 0, 1, 0, 0, 0), (42, .getfield 40, 3, 11, 5, 0), (45, .getfield 114, 3, 6, 15, 0), (48, .iload 5, 2, 0, 0, 0), (50, .iaload, 1, 0, 0, 0), (51, .ifCond .ge 5, 3, 56, 0, 0), (54, .iconst (-1), 1, 0, 0, 0), (55, .ireturn, 1, 0, 0, 0), (56, .iload_n 3, 1, 0, 0, 0), (57, .aload 4, 2, 0, 0, 0), (59, .getfield 117, 3, 8, 3, 0), (62, .aload_n 0, 1, 0, 0, 0), (63, .getfield 40, 3, 11, 5, 0), (66, .getfield 114, 3, 6, 15, 0), (69, .iload 5, 2, 0, 0, 0), (71, .iaload, 1, 0, 0, 0), (72, .invokestatic 120, 3, 124, 0, 3), (75, .istore 6, 2, 0, 0, 0), (77, .iload 6, 2, 0, 0, 0), (79, .iconst (-1), 1, 0, 0, 0), (80, .if_icmp .ne 7, 3, 87, 0, 0), (83, .iconst (-1), 1, 0, 0, 0), (84, .goto 14, 3, 98, 0, 0), (87, .aload_n 0, 1, 0, 0, 0), (88, .getfield 40, 3, 11, 5, 0), (91, .iload 5, 2, 0, 0, 0), (93, .iload 6, 2, 0, 0, 0), (95, .invokevirtual 124, 3, 68, 6, 2), (98, .ireturn, 1, 0, 0, 0)]
/-- TierMill.slotNumber(III)I -/
def e_d124 : List (Nat × Instr × Nat × Nat × Nat × Int) := [(0, .iload_n 0, 1, 0, 0, 0), (1, .ifCond .lt 10, 3, 11, 0, 0), (4, .iload_n 0, 1, 0, 0, 0), (5, .iload_n 1, 1, 0, 0, 0), (6, .if_icmp .ge 5, 3, 11, 0, 0), (9, .iload_n 0, 1, 0, 0, 0), (10, .ireturn, 1, 0, 0, 0), (11, .iload_n 0, 1, 0, 0, 0), (12, .bipush 100, 2, 0, 0, 0), (14, .if_icmp .lt 19, 3, 33, 0, 0), (17, .iload_n 0, 1, 0, 0, 0), (18, .bipush 100, 2, 0, 0, 0), (20, .isub, 1, 0, 0, 0), (21, .iload_n 2, 1, 0, 0, 0), (22, .if_icmp .ge 11, 3, 33, 0, 0), (25, .bipush 8, 2, 0, 0, 0), (27, .iload_n 0, 1, 0, 0, 0), (28, .iadd, 1, 0, 0, 0), (29, .bipush 100, 2, 0, 0, 0), (31, .isub, 1, 0, 0, 0), (32, .ireturn, 1, 0, 0, 0), (33, .iconst (-1), 1, 0, 0, 0), (34, .ireturn, 1, 0, 0, 0)]
/-- TierMill.tiers(IIII)Z -/
def e_d125 : List (Nat × Instr × Nat × Nat × Nat × Int) := [(0, .iload_n 1, 1, 0, 0, 0), (1, .iconst 1, 1, 0, 0, 0), (2, .if_icmp .lt 22, 3, 24, 0, 0), (5, .iload_n 1, 1, 0, 0, 0), (6, .sipush 1000, 3, 0, 0, 0), (9, .if_icmp .gt 15, 3, 24, 0, 0), (12, .iload_n 2, 1, 0, 0, 0), (13, .iconst 1, 1, 0, 0, 0), (14, .if_icmp .lt 10, 3, 24, 0, 0), (17, .iload_n 2, 1, 0, 0, 0), (18, .sipush 1000, 3, 0, 0, 0), (21, .if_icmp .le 5, 3, 26, 0, 0), (24, .iconst 0, 1, 0, 0, 0), (25, .ireturn, 1, 0, 0, 0), (26, .iload_n 3, 1, 0, 0, 0), (27, .ifCond .lt 20, 3, 47, 0, 0), (30, .iload_n 3, 1, 0, 0, 0), (31, .iconst 4, 1, 0, 0, 0), (32, .if_icmp .gt 15, 3, 47, 0, 0), (35, .iload 4, 2, 0, 0, 0), (37, .ifCond .lt 10, 3, 47, 0, 0), (40, .iload 4, 2, 0, 0, 0), (42, .bipush 120, 2, 0, 0, 0), (44, .if_icmp .le 5, 3, 49, 0, 0), (47, .iconst 0, 1, 0, 0, 0), (48, .ireturn, 1, 0, 0, 0), (49, .aload_n 0, 1, 0, 0, 0), (50, .getfield 33, 3, 11, 3, 0), (53, .getfield 128, 3, 4, 2, 0), (56, .astore 5, 2, 0, 0, 0), (58, .aload 5, 2, 0, 0, 0), (60, .iload_n 1, 1, 0, 0, 0), (61, .putfield 132, 3, 9, 0, 0), (64, .aload 5, 2, 0, 0, 0), (66, .iload_n 2, 1, 0, 0, 0), (67, .putfield 137, 3, 9, 1, 0), (70, .aload 5, 2, 0, 0, 0), (72, .iload_n 3, 1, 0, 0, 0), (73, .putfield 140, 3, 9, 2, 0), (76, .aload 5, 2, 0, 0, 0), (78, .iload 4, 2, 0, 0, 0), (80, .putfield 143, 3, 9, 3, 0), (83, .iconst 1, 1, 0, 0, 0), (84, .ireturn, 1, 0, 0, 0)]
/-- TierMill.room(I)Z -/
def e_d126 : List (Nat × Instr × Nat × Nat × Nat × Int) := [(0, .iload_n 1, 1, 0, 0, 0), (1, .bipush 8, 2, 0, 0, 0), (3, .if_icmp .lt 10, 3, 13, 0, 0), (6, .iload_n 1, 1, 0, 0, 0), (7, .sipush 4000, 3, 0, 0, 0), (10, .if_icmp .le 5, 3, 15, 0, 0), (13, .iconst 0, 1, 0, 0, 0), (14, .ireturn, 1, 0, 0, 0), (15, .aload_n 0, 1, 0, 0, 0), (16, .iload_n 1, 1, 0, 0, 0), (17, .putfield 47, 3, 11, 10, 0), (20, .iconst 1, 1, 0, 0, 0), (21, .ireturn, 1, 0, 0, 0)]
/-- TierMill.give(I)Z -/
def e_d127 : List (Nat × Instr × Nat × Nat × Nat × Int) := [(0, .aload_n 0, 1, 0, 0, 0), (1, .getfield 33, 3, 11, 3, 0), (4, .iload_n 1, 1, 0, 0, 0), (5, .invokevirtual 146, 3, 36, 4, 1), (8, .ireturn, 1, 0, 0, 0)]
/-- TierMill.start(IIII)Z -/
def e_d128 : List (Nat × Instr × Nat × Nat × Nat × Int) := [(0, .aload_n 0, 1, 0, 0, 0), (1, .getfield 89, 3, 11, 4, 0), (4, .ifCond .ne 5, 3, 9, 0, 0), (7, .iconst 0, 1, 0, 0, 0), (8, .ireturn, 1, 0, 0, 0), (9, .aload_n 0, 1, 0, 0, 0), (10, .getfield 40, 3, 11, 5, 0), (13, .getfield 105, 3, 6, 10, 0), (16, .iconst 0, 1, 0, 0, 0), (17, .aaload, 1, 0, 0, 0), (18, .astore 5, 2, 0, 0, 0), (20, .iconst 0, 1, 0, 0, 0), (21, .istore 6, 2, 0, 0, 0), (23, .iload 6, 2, 0, 0, 0), (25, .aload 5, 2, 0, 0, 0), (27, .getfield 150, 3, 8, 1, 0), (30, .if_icmp .ge 23, 3, 53, 0, 0), (33, .aload 5, 2, 0, 0, 0), (35, .getfield 153, 3, 8, 0, 0), (38, .iload 6, 2, 0, 0, 0), (40, .iaload, 1, 0, 0, 0), (41, .iconst 1, 1, 0, 0, 0), (42, .if_icmp .eq 5, 3, 47, 0, 0), (45, .iconst 0, 1, 0, 0, 0), (46, .ireturn, 1, 0, 0, 0), (47, .iinc 6 1, 3, 0, 0, 0), (50, .goto (-27), 3, 23, 0, 0), (53, .aload_n 0, 1, 0, 0, 0), (54, .getfield 33, 3, 11, 3, 0), (57, .invokevirtual 93, 3, 37, 4, 0), (60, .aload_n 0, 1, 0, 0, 0), (61, .getfield 33, 3, 11, 3, 0), (64, .aload_n 0, 1, 0, 0, 0), (65, .getfield 40, 3, 11, 5, 0), (68, .aload_n 0, 1, 0, 0, 0), (69, .getfield 47, 3, 11, 10, 0), (72, .invokevirtual 156, 3, 38, 4, 2), (75, .aload_n 0, 1, 0, 0, 0), (76, .getfield 33, 3, 11, 3, 0), (79, .getfield 160, 3, 4, 0, 0), (82, .iload_n 1, 1, 0, 0, 0), (83, .iload_n 2, 1, 0, 0, 0), (84, .iload_n 3, 1, 0, 0, 0), (85, .iload 4, 2, 0, 0, 0), (87, .invokevirtual 164, 3, 14, 2, 4), (90, .iconst 1, 1, 0, 0, 0), (91, .ireturn, 1, 0, 0, 0)]
/-- TierMill.run(I)I -/
def e_d129 : List (Nat × Instr × Nat × Nat × Nat × Int) := [(0, .iload_n 1, 1, 0, 0, 0), (1, .iconst 1, 1, 0, 0, 0), (2, .if_icmp .lt 10, 3, 12, 0, 0), (5, .iload_n 1, 1, 0, 0, 0), (6, .sipush 2000, 3, 0, 0, 0), (9, .if_icmp .le 13, 3, 22, 0, 0), (12, .new 82, 3, 91, 0, 0), (15, .dup, 1, 0, 0, 0), (16, .ldc 170, 2, 1, 0, 0), (18, .invokespecial 86, 3, 999, 0, 1), (21, .athrow, 1, 0, 0, 0), (22, .aload_n 0, 1, 0, 0, 0), (23, .getfield 33, 3, 11, 3, 0), (26, .getfield 172, 3, 4, 6, 0), (29, .iconst 1, 1, 0, 0, 0), (30, .if_icmp .eq 13, 3, 43, 0, 0), (33, .new 175, 3, 92, 0, 0), (36, .dup, 1, 0, 0, 0), (37, .ldc 177, 2, 1, 0, 0), (39, .invokespecial 179, 3, 999, 0, 1), (42, .athrow, 1, 0, 0, 0), (43, .ldc 180, 2, 0, 0, 60000), (45, .aload_n 0, 1, 0, 0, 0), (46, .getfield 33, 3, 11, 3, 0), (49, .getfield 181, 3, 4, 10, 0), (52, .isub, 1, 0, 0, 0), (53, .istore_n 2, 1, 0, 0, 0), (54, .iload_n 2, 1, 0, 0, 0), (55, .ifCond .gt 13, 3, 68, 0, 0), (58, .new 184, 3, 93, 0, 0), (61, .dup, 1, 0, 0, 0), (62, .ldc 186, 2, 1, 0, 0), (64, .invokespecial 188, 3, 999, 0, 1), (67, .athrow, 1, 0, 0, 0), (68, .aload_n 0, 1, 0, 0, 0), (69, .getfield 33, 3, 11, 3, 0), (72, .iload_n 1, 1, 0, 0, 0), (73, .iload_n 2, 1, 0, 0, 0), (74, .invokestatic 189, 3, 231, 0, 2), (77, .invokevirtual 194, 3, 40, 4, 1), (80, .ireturn, 1, 0, 0, 0)]
/-- TierMill.state()I -/
def e_d130 : List (Nat × Instr × Nat × Nat × Nat × Int) := [(0, .aload_n 0, 1, 0, 0, 0), (1, .getfield 33, 3, 11, 3, 0), (4, .getfield 172, 3, 4, 6, 0), (7, .ireturn, 1, 0, 0, 0)]
/-- TierMill.result(I)I -/
def e_d131 : List (Nat × Instr × Nat × Nat × Nat × Int) := [(0, .iload_n 1, 1, 0, 0, 0), (1, .lookupswitch 43 #[(0, 27), (1, 35)], 27, 0, 0, 0), (28, .aload_n 0, 1, 0, 0, 0), (29, .getfield 33, 3, 11, 3, 0), (32, .getfield 198, 3, 4, 7, 0), (35, .ireturn, 1, 0, 0, 0), (36, .aload_n 0, 1, 0, 0, 0), (37, .getfield 33, 3, 11, 3, 0), (40, .getfield 201, 3, 4, 8, 0), (43, .ireturn, 1, 0, 0, 0), (44, .iconst (-1), 1, 0, 0, 0), (45, .ireturn, 1, 0, 0, 0)]
/-- TierMill.output(I)I -/
def e_d132 : List (Nat × Instr × Nat × Nat × Nat × Int) := [(0, .iload_n 1, 1, 0, 0, 0), (1, .ifCond .lt 21, 3, 22, 0, 0), (4, .iload_n 1, 1, 0, 0, 0), (5, .aload_n 0, 1, 0, 0, 0), (6, .getfield 33, 3, 11, 3, 0), (9, .getfield 204, 3, 4, 5, 0), (12, .if_icmp .ge 10, 3, 22, 0, 0), (15, .iload_n 1, 1, 0, 0, 0), (16, .sipush 500, 3, 0, 0, 0), (19, .if_icmp .lt 13, 3, 32, 0, 0), (22, .new 207, 3, 94, 0, 0), (25, .dup, 1, 0, 0, 0), (26, .ldc 209, 2, 1, 0, 0), (28, .invokespecial 211, 3, 999, 0, 1), (31, .athrow, 1, 0, 0, 0), (32, .aload_n 0, 1, 0, 0, 0), (33, .getfield 33, 3, 11, 3, 0), (36, .getfield 212, 3, 4, 4, 0), (39, .iload_n 1, 1, 0, 0, 0), (40, .iaload, 1, 0, 0, 0), (41, .ireturn, 1, 0, 0, 0)]
/-- TierMill.frame(II)I -/
def e_d133 : List (Nat × Instr × Nat × Nat × Nat × Int) := [(0, .aload_n 0, 1, 0, 0, 0), (1, .getfield 33, 3, 11, 3, 0), (4, .getfield 160, 3, 4, 0, 0), (7, .astore_n 3, 1, 0, 0, 0), (8, .aload_n 3, 1, 0, 0, 0), (9, .iload_n 1, 1, 0, 0, 0), (10, .invokevirtual 215, 3, 11, 2, 1), (13, .istore 4, 2, 0, 0, 0), (15, .iload 4, 2, 0, 0, 0), (17, .iconst (-1), 1, 0, 0, 0), (18, .if_icmp .ne 5, 3, 23, 0, 0), (21, .iconst (-1), 1, 0, 0, 0), (22, .ireturn, 1, 0, 0, 0), (23, .iload_n 2, 1, 0, 0, 0), (24, .tableswitch 64 0 3 #[32, 40, 48, 56], 32, 0, 0, 0), (56, .aload_n 3, 1, 0, 0, 0), (57, .getfield 218, 3, 2, 1, 0), (60, .iload 4, 2, 0, 0, 0), (62, .iaload, 1, 0, 0, 0), (63, .ireturn, 1, 0, 0, 0), (64, .aload_n 3, 1, 0, 0, 0), (65, .getfield 221, 3, 2, 2, 0), (68, .iload 4, 2, 0, 0, 0), (70, .iaload, 1, 0, 0, 0), (71, .ireturn, 1, 0, 0, 0), (72, .aload_n 3, 1, 0, 0, 0), (73, .getfield 224, 3, 2, 3, 0), (76, .iload 4, 2, 0, 0, 0), (78, .iaload, 1, 0, 0, 0), (79, .ireturn, 1, 0, 0, 0), (80, .aload_n 3, 1, 0, 0, 0), (81, .getfield 227, 3, 2, 6, 0), (84, .iload 4, 2, 0, 0, 0), (86, .iaload, 1, 0, 0, 0), (87, .ireturn, 1, 0, 0, 0), (88, .iconst (-1), 1, 0, 0, 0), (89, .ireturn, 1, 0, 0, 0)]
/-- TierMill.local(II)I -/
def e_d134 : List (Nat × Instr × Nat × Nat × Nat × Int) := [(0, .aload_n 0, 1, 0, 0, 0), (1, .getfield 33, 3, 11, 3, 0), (4, .getfield 160, 3, 4, 0, 0), (7, .iload_n 1, 1, 0, 0, 0), (8, .invokevirtual 215, 3, 11, 2, 1), (11, .istore_n 3, 1, 0, 0, 0), (12, .aload_n 0, 1, 0, 0, 0), (13, .iload_n 3, 1, 0, 0, 0), (14, .iload_n 2, 1, 0, 0, 0), (15, .invokevirtual 228, 3, 136, 11, 2), (18, .istore 4, 2, 0, 0, 0), (20, .iload 4, 2, 0, 0, 0), (22, .iconst (-1), 1, 0, 0, 0), (23, .if_icmp .ne 13, 3, 36, 0, 0), (26, .new 207, 3, 94, 0, 0), (29, .dup, 1, 0, 0, 0), (30, .ldc 231, 2, 1, 0, 0), (32, .invokespecial 211, 3, 999, 0, 1), (35, .athrow, 1, 0, 0, 0), (36, .aload_n 0, 1, 0, 0, 0), (37, .getfield 33, 3, 11, 3, 0), (40, .getfield 160, 3, 4, 0, 0), (43, .getfield 233, 3, 2, 7, 0), (46, .iload_n 3, 1, 0, 0, 0), (47, .bipush 16, 2, 0, 0, 0), (49, .imul, 1, 0, 0, 0), (50, .iload 4, 2, 0, 0, 0), (52, .iadd, 1, 0, 0, 0), (53, .iaload, 1, 0, 0, 0), (54, .istore 5, 2, 0, 0, 0), (56, .aload_n 0, 1, 0, 0, 0), (57, .getfield 33, 3, 11, 3, 0), (60, .iload 5, 2, 0, 0, 0), (62, .aload_n 0, 1, 0, 0, 0), (63, .getfield 33, 3, 11, 3, 0), (66, .getfield 160, 3, 4, 0, 0), (69, .aload_n 0, 1, 0, 0, 0), (70, .getfield 40, 3, 11, 5, 0), (73, .iload_n 3, 1, 0, 0, 0), (74, .iload 4, 2, 0, 0, 0), (76, .invokevirtual 236, 3, 21, 2, 3), (79, .iconst 1, 1, 0, 0, 0), (80, .if_icmp .ne 7, 3, 87, 0, 0), (83, .iconst 1, 1, 0, 0, 0), (84, .goto 4, 3, 88, 0, 0), (87, .iconst 0, 1, 0, 0, 0), (88, .invokevirtual 240, 3, 39, 4, 2), (91, .ireturn, 1, 0, 0, 0)]
/-- TierMill.part(III)I -/
def e_d135 : List (Nat × Instr × Nat × Nat × Nat × Int) := [(0, .aload_n 0, 1, 0, 0, 0), (1, .getfield 33, 3, 11, 3, 0), (4, .getfield 160, 3, 4, 0, 0), (7, .iload_n 1, 1, 0, 0, 0), (8, .invokevirtual 215, 3, 11, 2, 1), (11, .istore 4, 2, 0, 0, 0), (13, .aload_n 0, 1, 0, 0, 0), (14, .iload 4, 2, 0, 0, 0), (16, .iload_n 2, 1, 0, 0, 0), (17, .invokevirtual 228, 3, 136, 11, 2), (20, .istore 5, 2, 0, 0, 0), (22, .iload 5, 2, 0, 0, 0), (24, .iconst (-1), 1, 0, 0, 0), (25, .if_icmp .eq 25, 3, 50, 0, 0), (28, .aload_n 0, 1, 0, 0, 0), (29, .getfield 33, 3, 11, 3, 0), (32, .getfield 160, 3, 4, 0, 0), (35, .aload_n 0, 1, 0, 0, 0), (36, .getfield 40, 3, 11, 5, 0), (39, .iload 4, 2, 0, 0, 0), (41, .iload 5, 2, 0, 0, 0), (43, .invokevirtual 236, 3, 21, 2, 3), (46, .iconst 1, 1, 0, 0, 0), (47, .if_icmp .ne 13, 3, 60, 0, 0), (50, .new 207, 3, 94, 0, 0), (53, .dup, 1, 0, 0, 0), (54, .ldc 244, 2, 1, 0, 0), (56, .invokespecial 211, 3, 999, 0, 1), (59, .athrow, 1, 0, 0, 0), (60, .aload_n 0, 1, 0, 0, 0), (61, .getfield 33, 3, 11, 3, 0), (64, .getfield 160, 3, 4, 0, 0), (67, .getfield 233, 3, 2, 7, 0), (70, .iload 4, 2, 0, 0, 0), (72, .bipush 16, 2, 0, 0, 0), (74, .imul, 1, 0, 0, 0), (75, .iload 5, 2, 0, 0, 0), (77, .iadd, 1, 0, 0, 0), (78, .iaload, 1, 0, 0, 0), (79, .istore 6, 2, 0, 0, 0), (81, .iload 6, 2, 0, 0, 0), (83, .ifCond .ne 13, 3, 96, 0, 0), (86, .new 207, 3, 94, 0, 0), (89, .dup, 1, 0, 0, 0), (90, .ldc 246, 2, 1, 0, 0), (92, .invokespecial 211, 3, 999, 0, 1), (95, .athrow, 1, 0, 0, 0), (96, .aload_n 0, 1, 0, 0, 0), (97, .getfield 33, 3, 11, 3, 0), (100, .getfield 248, 3, 4, 1, 0), (103, .iload 6, 2, 0, 0, 0), (105, .invokevirtual 252, 3, 26, 3, 1), (108, .istore 7, 2, 0, 0, 0), (110, .aload_n 0, 1, 0, 0, 0), (111, .getfield 33, 3, 11, 3, 0), (114, .getfield 248, 3, 4, 1, 0), (117, .aload_n 0, 1, 0, 0, 0), (118, .getfield 40, 3, 11, 5, 0), (121, .iload 7, 2, 0, 0, 0), (123, .invokevirtual 257, 3, 27, 3, 2), (126, .istore 8, 2, 0, 0, 0), (128, .iload_n 3, 1, 0, 0, 0), (129, .ifCond .lt 11, 3, 140, 0, 0), (132, .iload_n 3, 1, 0, 0, 0), (133, .iconst 2, 1, 0, 0, 0), (134, .isub, 1, 0, 0, 0), (135, .iload 8, 2, 0, 0, 0), (137, .if_icmp .lt 14, 3, 151, 0, 0), (140, .new 207, 3, 94, 0, 0), (143, .dup, 1, 0, 0, 0), (144, .ldc_w 261, 3, 1, 0, 0), (147, .invokespecial 211, 3, 999, 0, 1), (150, .athrow, 1, 0, 0, 0), (151, .iload_n 3, 1, 0, 0, 0), (152, .ifCond .ne 11, 3, 163, 0, 0), (155, .iload 7, 2, 0, 0, 0), (157, .bipush 16, 2, 0, 0, 0), (159, .invokestatic 189, 3, 231, 0, 2), (162, .ireturn, 1, 0, 0, 0), (163, .iload_n 3, 1, 0, 0, 0), (164, .iconst 1, 1, 0, 0, 0), (165, .if_icmp .ne 6, 3, 171, 0, 0), (168, .iload 8, 2, 0, 0, 0), (170, .ireturn, 1, 0, 0, 0), (171, .aload_n 0, 1, 0, 0, 0), (172, .getfield 33, 3, 11, 3, 0), (175, .getfield 248, 3, 4, 1, 0), (178, .iload 6, 2, 0, 0, 0), (180, .iload_n 3, 1, 0, 0, 0), (181, .iconst 2, 1, 0, 0, 0), (182, .isub, 1, 0, 0, 0), (183, .invokevirtual 263, 3, 28, 3, 2), (186, .istore 9, 2, 0, 0, 0), (188, .aload_n 0, 1, 0, 0, 0), (189, .getfield 33, 3, 11, 3, 0), (192, .iload 9, 2, 0, 0, 0), (194, .iload 7, 2, 0, 0, 0), (196, .bipush 16, 2, 0, 0, 0), (198, .if_icmp .ge 24, 3, 222, 0, 0), (201, .aload_n 0, 1, 0, 0, 0), (202, .getfield 40, 3, 11, 5, 0), (205, .getfield 266, 3, 6, 6, 0), (208, .iload 7, 2, 0, 0, 0), (210, .bipush 8, 2, 0, 0, 0), (212, .imul, 1, 0, 0, 0), (213, .iload_n 3, 1, 0, 0, 0), (214, .iadd, 1, 0, 0, 0), (215, .iconst 2, 1, 0, 0, 0), (216, .isub, 1, 0, 0, 0), (217, .iaload, 1, 0, 0, 0), (218, .iconst 1, 1, 0, 0, 0), (219, .if_icmp .ne 7, 3, 226, 0, 0), (222, .iconst 1, 1, 0, 0, 0), (223, .goto 4, 3, 227, 0, 0), (226, .iconst 0, 1, 0, 0, 0), (227, .invokevirtual 240, 3, 39, 4, 2), (230, .ireturn, 1, 0, 0, 0)]
/-- TierMill.seenSlot(II)I -/
def e_d136 : List (Nat × Instr × Nat × Nat × Nat × Int) := [(0, .iload_n 1, 1, 0, 0, 0), (1, .iconst (-1), 1, 0, 0, 0), (2, .if_icmp .ne 5, 3, 7, 0, 0), (5, .iconst (-1), 1, 0, 0, 0), (6, .ireturn, 1, 0, 0, 0), (7, .aload_n 0, 1, 0, 0, 0), (8, .getfield 33, 3, 11, 3, 0), (11, .getfield 160, 3, 4, 0, 0), (14, .astore_n 3, 1, 0, 0, 0), (15, .iload_n 2, 1, 0, 0, 0), (16, .aload_n 0, 1, 0, 0, 0), (17, .getfield 40, 3, 11, 5, 0), (20, .getfield 105, 3, 6, 10, 0), (23, .aload_n 3, 1, 0, 0, 0), (24, .getfield 218, 3, 2, 1, 0), (27, .iload_n 1, 1, 0, 0, 0), (28, .iaload, 1, 0, 0, 0), (29, .aaload, 1, 0, 0, 0), (30, .getfield 117, 3, 8, 3, 0), (33, .aload_n 3, 1, 0, 0, 0), (34, .getfield 227, 3, 2, 6, 0), (37, .iload_n 1, 1, 0, 0, 0), (38, .iaload, 1, 0, 0, 0), (39, .invokestatic 120, 3, 124, 0, 3), (42, .istore 4, 2, 0, 0, 0), (44, .iload 4, 2, 0, 0, 0), (46, .iconst (-1), 1, 0, 0, 0), (47, .if_icmp .eq 17, 3, 64, 0, 0), (50, .aload_n 3, 1, 0, 0, 0), (51, .aload_n 0, 1, 0, 0, 0), (52, .getfield 40, 3, 11, 5, 0), (55, .iload_n 1, 1, 0, 0, 0), (56, .iload 4, 2, 0, 0, 0), (58, .invokevirtual 236, 3, 21, 2, 3), (61, .ifCond .ne 5, 3, 66, 0, 0), (64, .iconst (-1), 1, 0, 0, 0), (65, .ireturn, 1, 0, 0, 0), (66, .iload 4, 2, 0, 0, 0), (68, .ireturn, 1, 0, 0, 0)]
/-- TierMill.method(II)I -/
def e_d137 : List (Nat × Instr × Nat × Nat × Nat × Int) := [(0, .aload_n 0, 1, 0, 0, 0), (1, .getfield 89, 3, 11, 4, 0), (4, .ifCond .eq 18, 3, 22, 0, 0), (7, .iload_n 1, 1, 0, 0, 0), (8, .ifCond .lt 14, 3, 22, 0, 0), (11, .iload_n 1, 1, 0, 0, 0), (12, .aload_n 0, 1, 0, 0, 0), (13, .getfield 40, 3, 11, 5, 0), (16, .getfield 96, 3, 6, 9, 0), (19, .if_icmp .lt 5, 3, 24, 0, 0), (22, .iconst (-1), 1, 0, 0, 0), (23, .ireturn, 1, 0, 0, 0), (24, .aload_n 0, 1, 0, 0, 0), (25, .getfield 33, 3, 11, 3, 0), (28, .getfield 128, 3, 4, 2, 0), (31, .iload_n 1, 1, 0, 0, 0), (32, .invokevirtual 269, 3, 86, 9, 1), (35, .astore_n 3, 1, 0, 0, 0), (36, .iload_n 2, 1, 0, 0, 0), (37, .tableswitch 63 0 2 #[27, 40, 50], 27, 0, 0, 0), (64, .aload_n 0, 1, 0, 0, 0), (65, .getfield 33, 3, 11, 3, 0), (68, .getfield 128, 3, 4, 2, 0), (71, .getfield 273, 3, 9, 4, 0), (74, .iload_n 1, 1, 0, 0, 0), (75, .iaload, 1, 0, 0, 0), (76, .ireturn, 1, 0, 0, 0), (77, .aload_n 3, 1, 0, 0, 0), (78, .ifnonnull 7, 3, 85, 0, 0), (81, .iconst 0, 1, 0, 0, 0), (82, .goto 4, 3, 86, 0, 0), (85, .iconst 1, 1, 0, 0, 0), (86, .ireturn, 1, 0, 0, 0), (87, .aload_n 3, 1, 0, 0, 0), (88, .ifnonnull 7, 3, 95, 0, 0), (91, .iconst 0, 1, 0, 0, 0), (92, .goto 7, 3, 99, 0, 0), (95, .aload_n 3, 1, 0, 0, 0), (96, .getfield 276, 3, 5, 0, 0), (99, .ireturn, 1, 0, 0, 0), (100, .iconst (-1), 1, 0, 0, 0), (101, .ireturn, 1, 0, 0, 0)]
/-- TierMill.inlined(III)I -/
def e_d138 : List (Nat × Instr × Nat × Nat × Nat × Int) := [(0, .aload_n 0, 1, 0, 0, 0), (1, .getfield 89, 3, 11, 4, 0), (4, .ifCond .eq 27, 3, 31, 0, 0), (7, .iload_n 1, 1, 0, 0, 0), (8, .ifCond .lt 23, 3, 31, 0, 0), (11, .iload_n 1, 1, 0, 0, 0), (12, .aload_n 0, 1, 0, 0, 0), (13, .getfield 40, 3, 11, 5, 0), (16, .getfield 96, 3, 6, 9, 0), (19, .if_icmp .ge 12, 3, 31, 0, 0), (22, .iload_n 3, 1, 0, 0, 0), (23, .ifCond .lt 8, 3, 31, 0, 0), (26, .iload_n 3, 1, 0, 0, 0), (27, .iconst 4, 1, 0, 0, 0), (28, .if_icmp .le 5, 3, 33, 0, 0), (31, .iconst (-1), 1, 0, 0, 0), (32, .ireturn, 1, 0, 0, 0), (33, .aload_n 0, 1, 0, 0, 0), (34, .getfield 33, 3, 11, 3, 0), (37, .getfield 128, 3, 4, 2, 0), (40, .iload_n 1, 1, 0, 0, 0), (41, .invokevirtual 269, 3, 86, 9, 1), (44, .astore 4, 2, 0, 0, 0), (46, .aload 4, 2, 0, 0, 0), (48, .ifnull 16, 3, 64, 0, 0), (51, .iload_n 2, 1, 0, 0, 0), (52, .ifCond .lt 12, 3, 64, 0, 0), (55, .iload_n 2, 1, 0, 0, 0), (56, .aload 4, 2, 0, 0, 0), (58, .getfield 276, 3, 5, 0, 0), (61, .if_icmp .lt 5, 3, 66, 0, 0), (64, .iconst (-1), 1, 0, 0, 0), (65, .ireturn, 1, 0, 0, 0), (66, .aload 4, 2, 0, 0, 0), (68, .getfield 281, 3, 5, 2, 0), (71, .iload_n 2, 1, 0, 0, 0), (72, .bipush 6, 2, 0, 0, 0), (74, .imul, 1, 0, 0, 0), (75, .iload_n 3, 1, 0, 0, 0), (76, .iadd, 1, 0, 0, 0), (77, .iaload, 1, 0, 0, 0), (78, .ireturn, 1, 0, 0, 0)]
/-- TierMill.profile(III)I -/
def e_d139 : List (Nat × Instr × Nat × Nat × Nat × Int) := [(0, .aload_n 0, 1, 0, 0, 0), (1, .getfield 33, 3, 11, 3, 0), (4, .getfield 172, 3, 4, 6, 0), (7, .ifCond .eq 15, 3, 22, 0, 0), (10, .aload_n 0, 1, 0, 0, 0), (11, .getfield 40, 3, 11, 5, 0), (14, .iload_n 1, 1, 0, 0, 0), (15, .iload_n 2, 1, 0, 0, 0), (16, .invokevirtual 101, 3, 67, 6, 2), (19, .ifCond .ne 5, 3, 24, 0, 0), (22, .iconst (-1), 1, 0, 0, 0), (23, .ireturn, 1, 0, 0, 0), (24, .aload_n 0, 1, 0, 0, 0), (25, .getfield 40, 3, 11, 5, 0), (28, .getfield 105, 3, 6, 10, 0), (31, .iload_n 1, 1, 0, 0, 0), (32, .aaload, 1, 0, 0, 0), (33, .getfield 109, 3, 8, 5, 0), (36, .iload_n 2, 1, 0, 0, 0), (37, .iadd, 1, 0, 0, 0), (38, .istore 4, 2, 0, 0, 0), (40, .aload_n 0, 1, 0, 0, 0), (41, .getfield 40, 3, 11, 5, 0), (44, .getfield 284, 3, 6, 13, 0), (47, .iload 4, 2, 0, 0, 0), (49, .iaload, 1, 0, 0, 0), (50, .istore 5, 2, 0, 0, 0), (52, .iload 5, 2, 0, 0, 0), (54, .iconst (-1), 1, 0, 0, 0), (55, .if_icmp .ne 5, 3, 60, 0, 0), (58, .iconst (-1), 1, 0, 0, 0), (59, .ireturn, 1, 0, 0, 0), (60, .aload_n 0, 1, 0, 0, 0), (61, .getfield 40, 3, 11, 5, 0), (64, .getfield 54, 3, 6, 0, 0), (67, .iload 4, 2, 0, 0, 0), (69, .iaload, 1, 0, 0, 0), (70, .bipush 47, 2, 0, 0, 0), (72, .if_icmp .ne 7, 3, 79, 0, 0), (75, .iconst 1, 1, 0, 0, 0), (76, .goto 10, 3, 86, 0, 0), (79, .aload_n 0, 1, 0, 0, 0), (80, .getfield 40, 3, 11, 5, 0), (83, .getfield 287, 3, 6, 2, 0), (86, .istore 6, 2, 0, 0, 0), (88, .iload_n 3, 1, 0, 0, 0), (89, .ifCond .lt 9, 3, 98, 0, 0), (92, .iload_n 3, 1, 0, 0, 0), (93, .iload 6, 2, 0, 0, 0), (95, .if_icmp .lt 7, 3, 102, 0, 0), (98, .iconst (-1), 1, 0, 0, 0), (99, .goto 21, 3, 120, 0, 0), (102, .aload_n 0, 1, 0, 0, 0), (103, .getfield 33, 3, 11, 3, 0), (106, .getfield 128, 3, 4, 2, 0), (109, .getfield 290, 3, 9, 5, 0), (112, .iload 5, 2, 0, 0, 0), (114, .bipush 8, 2, 0, 0, 0), (116, .imul, 1, 0, 0, 0), (117, .iload_n 3, 1, 0, 0, 0), (118, .iadd, 1, 0, 0, 0), (119, .iaload, 1, 0, 0, 0), (120, .ireturn, 1, 0, 0, 0)]
/-- TierMill.log(II)I -/
def e_d140 : List (Nat × Instr × Nat × Nat × Nat × Int) := [(0, .aload_n 0, 1, 0, 0, 0), (1, .getfield 33, 3, 11, 3, 0), (4, .getfield 293, 3, 4, 3, 0), (7, .astore_n 3, 1, 0, 0, 0), (8, .iload_n 1, 1, 0, 0, 0), (9, .ifCond .lt 20, 3, 29, 0, 0), (12, .iload_n 1, 1, 0, 0, 0), (13, .aload_n 3, 1, 0, 0, 0), (14, .getfield 297, 3, 1, 0, 0), (17, .if_icmp .ge 12, 3, 29, 0, 0), (20, .iload_n 2, 1, 0, 0, 0), (21, .ifCond .lt 8, 3, 29, 0, 0), (24, .iload_n 2, 1, 0, 0, 0), (25, .iconst 5, 1, 0, 0, 0), (26, .if_icmp .lt 5, 3, 31, 0, 0), (29, .iconst (-1), 1, 0, 0, 0), (30, .ireturn, 1, 0, 0, 0), (31, .aload_n 3, 1, 0, 0, 0), (32, .getfield 300, 3, 1, 1, 0), (35, .iload_n 1, 1, 0, 0, 0), (36, .iconst 5, 1, 0, 0, 0), (37, .imul, 1, 0, 0, 0), (38, .iload_n 2, 1, 0, 0, 0), (39, .iadd, 1, 0, 0, 0), (40, .iaload, 1, 0, 0, 0), (41, .ireturn, 1, 0, 0, 0)]
/-- TierMill.total(I)I -/
def e_d141 : List (Nat × Instr × Nat × Nat × Nat × Int) := [(0, .iload_n 1, 1, 0, 0, 0), (1, .tableswitch 153 0 9 #[55, 63, 71, 79, 90, 101, 112, 123, 134, 142], 55, 0, 0, 0), (56, .aload_n 0, 1, 0, 0, 0), (57, .getfield 33, 3, 11, 3, 0), (60, .getfield 301, 3, 4, 9, 0), (63, .ireturn, 1, 0, 0, 0), (64, .aload_n 0, 1, 0, 0, 0), (65, .getfield 33, 3, 11, 3, 0), (68, .getfield 181, 3, 4, 10, 0), (71, .ireturn, 1, 0, 0, 0), (72, .aload_n 0, 1, 0, 0, 0), (73, .getfield 33, 3, 11, 3, 0), (76, .getfield 204, 3, 4, 5, 0), (79, .ireturn, 1, 0, 0, 0), (80, .aload_n 0, 1, 0, 0, 0), (81, .getfield 33, 3, 11, 3, 0), (84, .getfield 160, 3, 4, 0, 0), (87, .getfield 304, 3, 2, 0, 0), (90, .ireturn, 1, 0, 0, 0), (91, .aload_n 0, 1, 0, 0, 0), (92, .getfield 33, 3, 11, 3, 0), (95, .getfield 293, 3, 4, 3, 0), (98, .getfield 297, 3, 1, 0, 0), (101, .ireturn, 1, 0, 0, 0), (102, .aload_n 0, 1, 0, 0, 0), (103, .getfield 33, 3, 11, 3, 0), (106, .getfield 248, 3, 4, 1, 0), (109, .getfield 307, 3, 3, 1, 0), (112, .ireturn, 1, 0, 0, 0), (113, .aload_n 0, 1, 0, 0, 0), (114, .getfield 33, 3, 11, 3, 0), (117, .getfield 248, 3, 4, 1, 0), (120, .getfield 310, 3, 3, 2, 0), (123, .ireturn, 1, 0, 0, 0), (124, .aload_n 0, 1, 0, 0, 0), (125, .getfield 33, 3, 11, 3, 0), (128, .getfield 128, 3, 4, 2, 0), (131, .getfield 313, 3, 9, 7, 0), (134, .ireturn, 1, 0, 0, 0), (135, .aload_n 0, 1, 0, 0, 0), (136, .getfield 33, 3, 11, 3, 0), (139, .getfield 316, 3, 4, 11, 0), (142, .ireturn, 1, 0, 0, 0), (143, .aload_n 0, 1, 0, 0, 0), (144, .getfield 33, 3, 11, 3, 0), (147, .getfield 248, 3, 4, 1, 0), (150, .getfield 319, 3, 3, 0, 0), (153, .ireturn, 1, 0, 0, 0), (154, .iconst (-1), 1, 0, 0, 0), (155, .ireturn, 1, 0, 0, 0)]
/-- TierMillModel.<init>()V -/
def e_d142 : List (Nat × Instr × Nat × Nat × Nat × Int) := [(0, .aload_n 0, 1, 0, 0, 0), (1, .invokespecial 1, 3, 900, 0, 0), (4, .aload_n 0, 1, 0, 0, 0), (5, .sipush 1500, 3, 0, 0, 0), (8, .newarray .int, 2, 20, 0, 0), (10, .putfield 7, 3, 12, 2, 0), (13, .aload_n 0, 1, 0, 0, 0), (14, .sipush 1500, 3, 0, 0, 0), (17, .newarray .int, 2, 20, 0, 0), (19, .putfield 13, 3, 12, 3, 0), (22, .aload_n 0, 1, 0, 0, 0), (23, .sipush 1500, 3, 0, 0, 0), (26, .newarray .int, 2, 20, 0, 0), (28, .putfield 16, 3, 12, 5, 0), (31, .aload_n 0, 1, 0, 0, 0), (32, .bipush 8, 2, 0, 0, 0), (34, .newarray .int, 2, 20, 0, 0), (36, .putfield 19, 3, 12, 12, 0), (39, .aload_n 0, 1, 0, 0, 0), (40, .bipush 8, 2, 0, 0, 0), (42, .newarray .int, 2, 20, 0, 0), (44, .putfield 22, 3, 12, 13, 0), (47, .aload_n 0, 1, 0, 0, 0), (48, .bipush 64, 2, 0, 0, 0), (50, .newarray .int, 2, 20, 0, 0), (52, .putfield 25, 3, 12, 14, 0), (55, .aload_n 0, 1, 0, 0, 0), (56, .bipush 8, 2, 0, 0, 0), (58, .newarray .int, 2, 20, 0, 0), (60, .putfield 28, 3, 12, 16, 0), (63, .aload_n 0, 1, 0, 0, 0), (64, .bipush 24, 2, 0, 0, 0), (66, .newarray .int, 2, 20, 0, 0), (68, .putfield 31, 3, 12, 17, 0), (71, .aload_n 0, 1, 0, 0, 0), (72, .bipush 8, 2, 0, 0, 0), (74, .newarray .int, 2, 20, 0, 0), (76, .putfield 34, 3, 12, 18, 0), (79, .aload_n 0, 1, 0, 0, 0), (80, .bipush 16, 2, 0, 0, 0), (82, .newarray .int, 2, 20, 0, 0), (84, .putfield 37, 3, 12, 20, 0), (87, .aload_n 0, 1, 0, 0, 0), (88, .bipush 64, 2, 0, 0, 0), (90, .newarray .int, 2, 20, 0, 0), (92, .putfield 40, 3, 12, 21, 0), (95, .aload_n 0, 1, 0, 0, 0), (96, .bipush 16, 2, 0, 0, 0), (98, .newarray .int, 2, 20, 0, 0), (100, .putfield 43, 3, 12, 22, 0), (103, .aload_n 0, 1, 0, 0, 0), (104, .bipush 16, 2, 0, 0, 0), (106, .newarray .int, 2, 20, 0, 0), (108, .putfield 46, 3, 12, 23, 0), (111, .aload_n 0, 1, 0, 0, 0), (112, .bipush 16, 2, 0, 0, 0), (114, .newarray .int, 2, 20, 0, 0), (116, .putfield 49, 3, 12, 24, 0), (119, .aload_n 0, 1, 0, 0, 0), (120, .bipush 16, 2, 0, 0, 0), (122, .newarray .int, 2, 20, 0, 0), (124, .putfield 52, 3, 12, 25, 0), (127, .aload_n 0, 1, 0, 0, 0), (128, .sipush 1920, 3, 0, 0, 0), (131, .newarray .int, 2, 20, 0, 0), (133, .putfield 55, 3, 12, 26, 0), (136, .aload_n 0, 1, 0, 0, 0), (137, .sipush 1920, 3, 0, 0, 0), (140, .newarray .boolean, 2, 22, 0, 0), (142, .putfield 58, 3, 12, 27, 0), (145, .aload_n 0, 1, 0, 0, 0), (146, .bipush 64, 2, 0, 0, 0), (148, .newarray .int, 2, 20, 0, 0), (150, .putfield 62, 3, 12, 28, 0), (153, .aload_n 0, 1, 0, 0, 0), (154, .sipush 1920, 3, 0, 0, 0), (157, .newarray .int, 2, 20, 0, 0), (159, .putfield 65, 3, 12, 29, 0), (162, .aload_n 0, 1, 0, 0, 0), (163, .sipush 30720, 3, 0, 0, 0), (166, .newarray .int, 2, 20, 0, 0), (168, .putfield 68, 3, 12, 30, 0), (171, .aload_n 0, 1, 0, 0, 0), (172, .bipush 16, 2, 0, 0, 0), (174, .newarray .int, 2, 20, 0, 0), (176, .putfield 71, 3, 12, 31, 0), (179, .aload_n 0, 1, 0, 0, 0), (180, .iconst 3, 1, 0, 0, 0), (181, .putfield 74, 3, 12, 34, 0), (184, .aload_n 0, 1, 0, 0, 0), (185, .iconst 2, 1, 0, 0, 0), (186, .putfield 78, 3, 12, 35, 0), (189, .aload_n 0, 1, 0, 0, 0), (190, .iconst 2, 1, 0, 0, 0), (191, .putfield 81, 3, 12, 36, 0), (194, .aload_n 0, 1, 0, 0, 0), (195, .bipush 40, 2, 0, 0, 0), (197, .putfield 84, 3, 12, 37, 0), (200, .aload_n 0, 1, 0, 0, 0), (201, .sipush 500, 3, 0, 0, 0), (204, .putfield 87, 3, 12, 38, 0), (207, .aload_n 0, 1, 0, 0, 0), (208, .bipush 100, 2, 0, 0, 0), (210, .newarray .int, 2, 20, 0, 0), (212, .putfield 90, 3, 12, 40, 0), (215, .aload_n 0, 1, 0, 0, 0), (216, .sipush 500, 3, 0, 0, 0), (219, .newarray .int, 2, 20, 0, 0), (221, .putfield 93, 3, 12, 48, 0), (224, .aload_n 0, 1, 0, 0, 0), (225, .bipush 16, 2, 0, 0, 0), (227, .newarray .int, 2, 20, 0, 0), (229, .putfield 96, 3, 12, 49, 0), (232, .aload_n 0, 1, 0, 0, 0), (233, .bipush 16, 2, 0, 0, 0), (235, .newarray .int, 2, 20, 0, 0), (237, .putfield 99, 3, 12, 50, 0), (240, .aload_n 0, 1, 0, 0, 0), (241, .sipush 15360, 3, 0, 0, 0), (244, .newarray .int, 2, 20, 0, 0), (246, .putfield 102, 3, 12, 51, 0), (249, .aload_n 0, 1, 0, 0, 0), (250, .sipush 1500, 3, 0, 0, 0), (253, .newarray .int, 2, 20, 0, 0), (255, .putfield 105, 3, 12, 53, 0), (258, .aload_n 0, 1, 0, 0, 0), (259, .bipush 101, 2, 0, 0, 0), (261, .newarray .int, 2, 20, 0, 0), (263, .putfield 108, 3, 12, 55, 0), (266, .aload_n 0, 1, 0, 0, 0), (267, .bipush 101, 2, 0, 0, 0), (269, .newarray .int, 2, 20, 0, 0), (271, .putfield 111, 3, 12, 56, 0), (274, .aload_n 0, 1, 0, 0, 0), (275, .ldc 114, 2, 0, 0, 180600), (277, .newarray .int, 2, 20, 0, 0), (279, .putfield 115, 3, 12, 59, 0), (282, .aload_n 0, 1, 0, 0, 0), (283, .bipush 64, 2, 0, 0, 0), (285, .newarray .int, 2, 20, 0, 0), (287, .putfield 118, 3, 12, 61, 0), (290, .aload_n 0, 1, 0, 0, 0), (291, .bipush 64, 2, 0, 0, 0), (293, .newarray .int, 2, 20, 0, 0), (295, .putfield 121, 3, 12, 62, 0), (298, .aload_n 0, 1, 0, 0, 0), (299, .bipush 64, 2, 0, 0, 0), (301, .newarray .int, 2, 20, 0, 0), (303, .putfield 124, 3, 12, 63, 0), (306, .aload_n 0, 1, 0, 0, 0), (307, .bipush 64, 2, 0, 0, 0), (309, .newarray .int, 2, 20, 0, 0), (311, .putfield 127, 3, 12, 64, 0), (314, .aload_n 0, 1, 0, 0, 0), (315, .bipush 64, 2, 0, 0, 0), (317, .newarray .int, 2, 20, 0, 0), (319, .putfield 130, 3, 12, 65, 0), (322, .aload_n 0, 1, 0, 0, 0), (323, .bipush 64, 2, 0, 0, 0), (325, .newarray .int, 2, 20, 0, 0), (327, .putfield 133, 3, 12, 66, 0), (330, .aload_n 0, 1, 0, 0, 0), (331, .bipush 64, 2, 0, 0, 0), (333, .newarray .int, 2, 20, 0, 0), (335, .putfield 136, 3, 12, 67, 0), (338, .aload_n 0, 1, 0, 0, 0), (339, .sipush 512, 3, 0, 0, 0), (342, .newarray .int, 2, 20, 0, 0), (344, .putfield 139, 3, 12, 68, 0), (347, .aload_n 0, 1, 0, 0, 0), (348, .sipush 512, 3, 0, 0, 0), (351, .newarray .int, 2, 20, 0, 0), (353, .putfield 142, 3, 12, 69, 0), (356, .aload_n 0, 1, 0, 0, 0), (357, .sipush 2100, 3, 0, 0, 0), (360, .newarray .int, 2, 20, 0, 0), (362, .putfield 145, 3, 12, 74, 0), (365, .aload_n 0, 1, 0, 0, 0), (366, .sipush 2100, 3, 0, 0, 0), (369, .newarray .int, 2, 20, 0, 0), (371, .putfield 148, 3, 12, 75, 0), (374, .aload_n 0, 1, 0, 0, 0), (375, .sipush 2100, 3, 0, 0, 0), (378, .newarray .int, 2, 20, 0, 0), (380, .putfield 151, 3, 12, 76, 0), (383, .aload_n 0, 1, 0, 0, 0), (384, .sipush 2100, 3, 0, 0, 0), (387, .newarray .int, 2, 20, 0, 0), (389, .putfield 154, 3, 12, 77, 0), (392, .aload_n 0, 1, 0, 0, 0), (393, .sipush 2100, 3, 0, 0, 0), (396, .newarray .boolean, 2, 22, 0, 0), (398, .putfield 157, 3, 12, 78, 0), (401, .aload_n 0, 1, 0, 0, 0), (402, .sipush 4100, 3, 0, 0, 0), (405, .newarray .int, 2, 20, 0, 0), (407, .putfield 160, 3, 12, 80, 0), (410, .aload_n 0, 1, 0, 0, 0), (411, .bipush 6, 2, 0, 0, 0), (413, .newarray .int, 2, 20, 0, 0), (415, .putfield 163, 3, 12, 83, 0), (418, .aload_n 0, 1, 0, 0, 0), (419, .bipush 6, 2, 0, 0, 0), (421, .newarray .int, 2, 20, 0, 0), (423, .putfield 166, 3, 12, 84, 0), (426, .aload_n 0, 1, 0, 0, 0), (427, .bipush 6, 2, 0, 0, 0), (429, .newarray .int, 2, 20, 0, 0), (431, .putfield 169, 3, 12, 85, 0), (434, .aload_n 0, 1, 0, 0, 0), (435, .sipush 2100, 3, 0, 0, 0), (438, .newarray .int, 2, 20, 0, 0), (440, .putfield 172, 3, 12, 89, 0), (443, .return_, 1, 0, 0, 0)]
/-- TierMillModel.thrown()I -/
def e_d143 : List (Nat × Instr × Nat × Nat × Nat × Int) := [(0, .aload_n 0, 1, 0, 0, 0), (1, .getfield 175, 3, 12, 0, 0), (4, .ireturn, 1, 0, 0, 0)]
/-- TierMillModel.raise(I)I -/
def e_d144 : List (Nat × Instr × Nat × Nat × Nat × Int) := [(0, .aload_n 0, 1, 0, 0, 0), (1, .iload_n 1, 1, 0, 0, 0), (2, .putfield 175, 3, 12, 0, 0), (5, .iconst 0, 1, 0, 0, 0), (6, .ireturn, 1, 0, 0, 0)]
/-- TierMillModel.within(III)Z -/
def e_d145 : List (Nat × Instr × Nat × Nat × Nat × Int) := [(0, .iload_n 0, 1, 0, 0, 0), (1, .iload_n 1, 1, 0, 0, 0), (2, .if_icmp .lt 12, 3, 14, 0, 0), (5, .iload_n 0, 1, 0, 0, 0), (6, .iload_n 2, 1, 0, 0, 0), (7, .if_icmp .gt 7, 3, 14, 0, 0), (10, .iconst 1, 1, 0, 0, 0), (11, .goto 4, 3, 15, 0, 0), (14, .iconst 0, 1, 0, 0, 0), (15, .ireturn, 1, 0, 0, 0)]
/-- TierMillModel.put(JI)Z -/
def e_d146 : List (Nat × Instr × Nat × Nat × Nat × Int) := [(0, .aload_n 0, 1, 0, 0, 0), (1, .iconst 0, 1, 0, 0, 0), (2, .putfield 175, 3, 12, 0, 0), (5, .iload_n 3, 1, 0, 0, 0), (6, .iconst 1, 1, 0, 0, 0), (7, .if_icmp .lt 21, 3, 28, 0, 0), (10, .iload_n 3, 1, 0, 0, 0), (11, .bipush 8, 2, 0, 0, 0), (13, .if_icmp .gt 15, 3, 28, 0, 0), (16, .aload_n 0, 1, 0, 0, 0), (17, .getfield 178, 3, 12, 1, 0), (20, .iload_n 3, 1, 0, 0, 0), (21, .iadd, 1, 0, 0, 0), (22, .sipush 1500, 3, 0, 0, 0), (25, .if_icmp .le 5, 3, 30, 0, 0), (28, .iconst 0, 1, 0, 0, 0), (29, .ireturn, 1, 0, 0, 0), (30, .iload_n 3, 1, 0, 0, 0), (31, .iconst 1, 1, 0, 0, 0), (32, .isub, 1, 0, 0, 0), (33, .istore 4, 2, 0, 0, 0), (35, .iload 4, 2, 0, 0, 0), (37, .ifCond .lt 40, 3, 77, 0, 0), (40, .aload_n 0, 1, 0, 0, 0), (41, .getfield 7, 3, 12, 2, 0), (44, .aload_n 0, 1, 0, 0, 0), (45, .getfield 178, 3, 12, 1, 0), (48, .lload_n 1, 1, 0, 0, 0), (49, .bipush 8, 2, 0, 0, 0), (51, .iload 4, 2, 0, 0, 0), (53, .imul, 1, 0, 0, 0), (54, .lshr, 1, 0, 0, 0), (55, .ldc2_w 181, 3, 0, 0, 255), (58, .land, 1, 0, 0, 0), (59, .l2i, 1, 0, 0, 0), (60, .iastore, 1, 0, 0, 0), (61, .aload_n 0, 1, 0, 0, 0), (62, .dup, 1, 0, 0, 0), (63, .getfield 178, 3, 12, 1, 0), (66, .iconst 1, 1, 0, 0, 0), (67, .iadd, 1, 0, 0, 0), (68, .putfield 178, 3, 12, 1, 0), (71, .iinc 4 (-1), 3, 0, 0, 0), (74, .goto (-39), 3, 35, 0, 0), (77, .iconst 1, 1, 0, 0, 0), (78, .ireturn, 1, 0, 0, 0)]
/-- TierMillModel.next(II)I -/
def e_d147 : List (Nat × Instr × Nat × Nat × Nat × Int) := [(0, .aload_n 0, 1, 0, 0, 0), (1, .getfield 183, 3, 12, 82, 0), (4, .ifCond .eq 5, 3, 9, 0, 0), (7, .iconst 0, 1, 0, 0, 0), (8, .ireturn, 1, 0, 0, 0), (9, .aload_n 0, 1, 0, 0, 0), (10, .getfield 187, 3, 12, 81, 0), (13, .aload_n 0, 1, 0, 0, 0), (14, .getfield 190, 3, 12, 4, 0), (17, .if_icmp .ge 20, 3, 37, 0, 0), (20, .aload_n 0, 1, 0, 0, 0), (21, .getfield 13, 3, 12, 3, 0), (24, .aload_n 0, 1, 0, 0, 0), (25, .getfield 187, 3, 12, 81, 0), (28, .iaload, 1, 0, 0, 0), (29, .iload_n 1, 1, 0, 0, 0), (30, .iload_n 2, 1, 0, 0, 0), (31, .invokestatic 193, 3, 145, 0, 3), (34, .ifCond .ne 10, 3, 44, 0, 0), (37, .aload_n 0, 1, 0, 0, 0), (38, .iconst 1, 1, 0, 0, 0), (39, .putfield 183, 3, 12, 82, 0), (42, .iconst 0, 1, 0, 0, 0), (43, .ireturn, 1, 0, 0, 0), (44, .aload_n 0, 1, 0, 0, 0), (45, .dup, 1, 0, 0, 0), (46, .getfield 187, 3, 12, 81, 0), (49, .iconst 1, 1, 0, 0, 0), (50, .iadd, 1, 0, 0, 0), (51, .putfield 187, 3, 12, 81, 0), (54, .aload_n 0, 1, 0, 0, 0), (55, .getfield 13, 3, 12, 3, 0), (58, .aload_n 0, 1, 0, 0, 0), (59, .getfield 187, 3, 12, 81, 0), (62, .iconst 1, 1, 0, 0, 0), (63, .isub, 1, 0, 0, 0), (64, .iaload, 1, 0, 0, 0), (65, .ireturn, 1, 0, 0, 0)]
/-- TierMillModel.type(Z)I -/
def e_d148 : List (Nat × Instr × Nat × Nat × Nat × Int) := [(0, .aload_n 0, 1, 0, 0, 0), (1, .getfield 183, 3, 12, 82, 0), (4, .ifCond .eq 5, 3, 9, 0, 0), (7, .iconst 0, 1, 0, 0, 0), (8, .ireturn, 1, 0, 0, 0), (9, .aload_n 0, 1, 0, 0, 0), (10, .getfield 187, 3, 12, 81, 0), (13, .aload_n 0, 1, 0, 0, 0), (14, .getfield 190, 3, 12, 4, 0), (17, .if_icmp .ge 15, 3, 32, 0, 0), (20, .aload_n 0, 1, 0, 0, 0), (21, .getfield 13, 3, 12, 3, 0), (24, .aload_n 0, 1, 0, 0, 0), (25, .getfield 187, 3, 12, 81, 0), (28, .iaload, 1, 0, 0, 0), (29, .goto 4, 3, 33, 0, 0), (32, .iconst (-1), 1, 0, 0, 0), (33, .istore_n 2, 1, 0, 0, 0), (34, .iload_n 2, 1, 0, 0, 0), (35, .iconst 1, 1, 0, 0, 0), (36, .if_icmp .eq 33, 3, 69, 0, 0), (39, .iload_n 2, 1, 0, 0, 0), (40, .iconst 2, 1, 0, 0, 0), (41, .if_icmp .eq 28, 3, 69, 0, 0), (44, .iload_n 2, 1, 0, 0, 0), (45, .bipush 16, 2, 0, 0, 0), (47, .if_icmp .lt 14, 3, 61, 0, 0), (50, .iload_n 2, 1, 0, 0, 0), (51, .bipush 16, 2, 0, 0, 0), (53, .aload_n 0, 1, 0, 0, 0), (54, .getfield 197, 3, 12, 11, 0), (57, .iadd, 1, 0, 0, 0), (58, .if_icmp .lt 11, 3, 69, 0, 0), (61, .iload_n 1, 1, 0, 0, 0), (62, .ifCond .eq 11, 3, 73, 0, 0), (65, .iload_n 2, 1, 0, 0, 0), (66, .ifCond .ne 7, 3, 73, 0, 0), (69, .iconst 1, 1, 0, 0, 0), (70, .goto 4, 3, 74, 0, 0), (73, .iconst 0, 1, 0, 0, 0), (74, .istore_n 3, 1, 0, 0, 0), (75, .iload_n 3, 1, 0, 0, 0), (76, .ifCond .ne 10, 3, 86, 0, 0), (79, .aload_n 0, 1, 0, 0, 0), (80, .iconst 1, 1, 0, 0, 0), (81, .putfield 183, 3, 12, 82, 0), (84, .iconst 0, 1, 0, 0, 0), (85, .ireturn, 1, 0, 0, 0), (86, .aload_n 0, 1, 0, 0, 0), (87, .dup, 1, 0, 0, 0), (88, .getfield 187, 3, 12, 81, 0), (91, .iconst 1, 1, 0, 0, 0), (92, .iadd, 1, 0, 0, 0), (93, .putfield 187, 3, 12, 81, 0), (96, .iload_n 2, 1, 0, 0, 0), (97, .ireturn, 1, 0, 0, 0)]
/-- TierMillModel.readClass(I)V -/
def e_d149 : List (Nat × Instr × Nat × Nat × Nat × Int) := [(0, .aload_n 0, 1, 0, 0, 0), (1, .iconst 0, 1, 0, 0, 0), (2, .iload_n 1, 1, 0, 0, 0), (3, .invokevirtual 200, 3, 147, 12, 2), (6, .istore_n 2, 1, 0, 0, 0), (7, .aload_n 0, 1, 0, 0, 0), (8, .getfield 19, 3, 12, 12, 0), (11, .iload_n 1, 1, 0, 0, 0), (12, .iload_n 2, 1, 0, 0, 0), (13, .iconst 1, 1, 0, 0, 0), (14, .isub, 1, 0, 0, 0), (15, .iastore, 1, 0, 0, 0), (16, .iload_n 2, 1, 0, 0, 0), (17, .ifCond .ne 7, 3, 24, 0, 0), (20, .iconst 0, 1, 0, 0, 0), (21, .goto 11, 3, 32, 0, 0), (24, .aload_n 0, 1, 0, 0, 0), (25, .getfield 22, 3, 12, 13, 0), (28, .iload_n 2, 1, 0, 0, 0), (29, .iconst 1, 1, 0, 0, 0), (30, .isub, 1, 0, 0, 0), (31, .iaload, 1, 0, 0, 0), (32, .istore_n 3, 1, 0, 0, 0), (33, .bipush 8, 2, 0, 0, 0), (35, .iload_n 3, 1, 0, 0, 0), (36, .isub, 1, 0, 0, 0), (37, .istore 4, 2, 0, 0, 0), (39, .aload_n 0, 1, 0, 0, 0), (40, .iconst 0, 1, 0, 0, 0), (41, .iload 4, 2, 0, 0, 0), (43, .iconst 4, 1, 0, 0, 0), (44, .if_icmp .ge 8, 3, 52, 0, 0), (47, .iload 4, 2, 0, 0, 0), (49, .goto 4, 3, 53, 0, 0), (52, .iconst 4, 1, 0, 0, 0), (53, .invokevirtual 200, 3, 147, 12, 2), (56, .istore 5, 2, 0, 0, 0), (58, .aload_n 0, 1, 0, 0, 0), (59, .getfield 22, 3, 12, 13, 0), (62, .iload_n 1, 1, 0, 0, 0), (63, .iload_n 3, 1, 0, 0, 0), (64, .iload 5, 2, 0, 0, 0), (66, .iadd, 1, 0, 0, 0), (67, .iastore, 1, 0, 0, 0), (68, .iconst 0, 1, 0, 0, 0), (69, .istore 6, 2, 0, 0, 0), (71, .iload 6, 2, 0, 0, 0), (73, .iload_n 3, 1, 0, 0, 0), (74, .if_icmp .ge 35, 3, 109, 0, 0), (77, .aload_n 0, 1, 0, 0, 0), (78, .getfield 25, 3, 12, 14, 0), (81, .bipush 8, 2, 0, 0, 0), (83, .iload_n 1, 1, 0, 0, 0), (84, .imul, 1, 0, 0, 0), (85, .iload 6, 2, 0, 0, 0), (87, .iadd, 1, 0, 0, 0), (88, .aload_n 0, 1, 0, 0, 0), (89, .getfield 25, 3, 12, 14, 0), (92, .bipush 8, 2, 0, 0, 0), (94, .iload_n 2, 1, 0, 0, 0), (95, .iconst 1, 1, 0, 0, 0), (96, .isub, 1, 0, 0, 0), (97, .imul, 1, 0, 0, 0), (98, .iload 6, 2, 0, 0, 0), (100, .iadd, 1, 0, 0, 0), (101, .iaload, 1, 0, 0, 0), (102, .iastore, 1, 0, 0, 0), (103, .iinc 6 1, 3, 0, 0, 0), (106, .goto (-35), 3, 71, 0, 0), (109, .iload_n 3, 1, 0, 0, 0), (110, .istore 6, 2, 0, 0, 0), (112, .iload 6, 2, 0, 0, 0), (114, .iload_n 3, 1, 0, 0, 0), (115, .iload 5, 2, 0, 0, 0), (117, .iadd, 1, 0, 0, 0), (118, .if_icmp .ge 26, 3, 144, 0, 0), (121, .aload_n 0, 1, 0, 0, 0), (122, .getfield 25, 3, 12, 14, 0), (125, .bipush 8, 2, 0, 0, 0), (127, .iload_n 1, 1, 0, 0, 0), (128, .imul, 1, 0, 0, 0), (129, .iload 6, 2, 0, 0, 0), (131, .iadd, 1, 0, 0, 0), (132, .aload_n 0, 1, 0, 0, 0), (133, .iconst 0, 1, 0, 0, 0), (134, .invokevirtual 203, 3, 148, 12, 1), (137, .iastore, 1, 0, 0, 0), (138, .iinc 6 1, 3, 0, 0, 0), (141, .goto (-29), 3, 112, 0, 0), (144, .return_, 1, 0, 0, 0)]
/-- TierMillModel.readSelector(I)V -/
def e_d150 : List (Nat × Instr × Nat × Nat × Nat × Int) := [(0, .aload_n 0, 1, 0, 0, 0), (1, .getfield 28, 3, 12, 16, 0), (4, .iload_n 1, 1, 0, 0, 0), (5, .aload_n 0, 1, 0, 0, 0), (6, .iconst 0, 1, 0, 0, 0), (7, .iconst 3, 1, 0, 0, 0), (8, .invokevirtual 200, 3, 147, 12, 2), (11, .iastore, 1, 0, 0, 0), (12, .iconst 0, 1, 0, 0, 0), (13, .istore_n 2, 1, 0, 0, 0), (14, .iload_n 2, 1, 0, 0, 0), (15, .aload_n 0, 1, 0, 0, 0), (16, .getfield 28, 3, 12, 16, 0), (19, .iload_n 1, 1, 0, 0, 0), (20, .iaload, 1, 0, 0, 0), (21, .if_icmp .ge 24, 3, 45, 0, 0), (24, .aload_n 0, 1, 0, 0, 0), (25, .getfield 31, 3, 12, 17, 0), (28, .iconst 3, 1, 0, 0, 0), (29, .iload_n 1, 1, 0, 0, 0), (30, .imul, 1, 0, 0, 0), (31, .iload_n 2, 1, 0, 0, 0), (32, .iadd, 1, 0, 0, 0), (33, .aload_n 0, 1, 0, 0, 0), (34, .iconst 0, 1, 0, 0, 0), (35, .invokevirtual 203, 3, 148, 12, 1), (38, .iastore, 1, 0, 0, 0), (39, .iinc 2 1, 3, 0, 0, 0), (42, .goto (-28), 3, 14, 0, 0), (45, .aload_n 0, 1, 0, 0, 0), (46, .getfield 34, 3, 12, 18, 0), (49, .iload_n 1, 1, 0, 0, 0), (50, .aload_n 0, 1, 0, 0, 0), (51, .iconst 1, 1, 0, 0, 0), (52, .invokevirtual 203, 3, 148, 12, 1), (55, .iastore, 1, 0, 0, 0), (56, .return_, 1, 0, 0, 0)]
/-- TierMillModel.readMethod(I)V -/
def e_d151 : List (Nat × Instr × Nat × Nat × Nat × Int) := [(0, .aload_n 0, 1, 0, 0, 0), (1, .getfield 37, 3, 12, 20, 0), (4, .iload_n 1, 1, 0, 0, 0), (5, .aload_n 0, 1, 0, 0, 0), (6, .iconst 0, 1, 0, 0, 0), (7, .iconst 4, 1, 0, 0, 0), (8, .invokevirtual 200, 3, 147, 12, 2), (11, .iastore, 1, 0, 0, 0), (12, .iconst 0, 1, 0, 0, 0), (13, .istore_n 2, 1, 0, 0, 0), (14, .iload_n 2, 1, 0, 0, 0), (15, .aload_n 0, 1, 0, 0, 0), (16, .getfield 37, 3, 12, 20, 0), (19, .iload_n 1, 1, 0, 0, 0), (20, .iaload, 1, 0, 0, 0), (21, .if_icmp .ge 24, 3, 45, 0, 0), (24, .aload_n 0, 1, 0, 0, 0), (25, .getfield 40, 3, 12, 21, 0), (28, .iconst 4, 1, 0, 0, 0), (29, .iload_n 1, 1, 0, 0, 0), (30, .imul, 1, 0, 0, 0), (31, .iload_n 2, 1, 0, 0, 0), (32, .iadd, 1, 0, 0, 0), (33, .aload_n 0, 1, 0, 0, 0), (34, .iconst 0, 1, 0, 0, 0), (35, .invokevirtual 203, 3, 148, 12, 1), (38, .iastore, 1, 0, 0, 0), (39, .iinc 2 1, 3, 0, 0, 0), (42, .goto (-28), 3, 14, 0, 0), (45, .aload_n 0, 1, 0, 0, 0), (46, .getfield 43, 3, 12, 22, 0), (49, .iload_n 1, 1, 0, 0, 0), (50, .aload_n 0, 1, 0, 0, 0), (51, .iconst 1, 1, 0, 0, 0), (52, .invokevirtual 203, 3, 148, 12, 1), (55, .iastore, 1, 0, 0, 0), (56, .aload_n 0, 1, 0, 0, 0), (57, .getfield 46, 3, 12, 23, 0), (60, .iload_n 1, 1, 0, 0, 0), (61, .aload_n 0, 1, 0, 0, 0), (62, .aload_n 0, 1, 0, 0, 0), (63, .getfield 37, 3, 12, 20, 0), (66, .iload_n 1, 1, 0, 0, 0), (67, .iaload, 1, 0, 0, 0), (68, .bipush 8, 2, 0, 0, 0), (70, .invokevirtual 200, 3, 147, 12, 2), (73, .iastore, 1, 0, 0, 0), (74, .aload_n 0, 1, 0, 0, 0), (75, .getfield 49, 3, 12, 24, 0), (78, .iload_n 1, 1, 0, 0, 0), (79, .aload_n 0, 1, 0, 0, 0), (80, .iconst 0, 1, 0, 0, 0), (81, .bipush 8, 2, 0, 0, 0), (83, .invokevirtual 200, 3, 147, 12, 2), (86, .iastore, 1, 0, 0, 0), (87, .aload_n 0, 1, 0, 0, 0), (88, .getfield 52, 3, 12, 25, 0), (91, .iload_n 1, 1, 0, 0, 0), (92, .aload_n 0, 1, 0, 0, 0), (93, .iconst 1, 1, 0, 0, 0), (94, .bipush 120, 2, 0, 0, 0), (96, .invokevirtual 200, 3, 147, 12, 2), (99, .iastore, 1, 0, 0, 0), (100, .iconst 0, 1, 0, 0, 0), (101, .istore_n 2, 1, 0, 0, 0), (102, .iload_n 2, 1, 0, 0, 0), (103, .aload_n 0, 1, 0, 0, 0), (104, .getfield 52, 3, 12, 25, 0), (107, .iload_n 1, 1, 0, 0, 0), (108, .iaload, 1, 0, 0, 0), (109, .if_icmp .ge 28, 3, 137, 0, 0), (112, .aload_n 0, 1, 0, 0, 0), (113, .getfield 55, 3, 12, 26, 0), (116, .bipush 120, 2, 0, 0, 0), (118, .iload_n 1, 1, 0, 0, 0), (119, .imul, 1, 0, 0, 0), (120, .iload_n 2, 1, 0, 0, 0), (121, .iadd, 1, 0, 0, 0), (122, .aload_n 0, 1, 0, 0, 0), (123, .iconst 0, 1, 0, 0, 0), (124, .sipush 255, 3, 0, 0, 0), (127, .invokevirtual 200, 3, 147, 12, 2), (130, .iastore, 1, 0, 0, 0), (131, .iinc 2 1, 3, 0, 0, 0), (134, .goto (-32), 3, 102, 0, 0), (137, .return_, 1, 0, 0, 0)]
/-- TierMillModel.isBelow(II)Z -/
def e_d152 : List (Nat × Instr × Nat × Nat × Nat × Int) := [(0, .aload_n 0, 1, 0, 0, 0), (1, .getfield 19, 3, 12, 12, 0), (4, .iload_n 1, 1, 0, 0, 0), (5, .iaload, 1, 0, 0, 0), (6, .istore_n 3, 1, 0, 0, 0), (7, .iload_n 3, 1, 0, 0, 0), (8, .ifCond .lt 18, 3, 26, 0, 0), (11, .iload_n 3, 1, 0, 0, 0), (12, .iload_n 2, 1, 0, 0, 0), (13, .if_icmp .eq 13, 3, 26, 0, 0), (16, .aload_n 0, 1, 0, 0, 0), (17, .getfield 19, 3, 12, 12, 0), (20, .iload_n 3, 1, 0, 0, 0), (21, .iaload, 1, 0, 0, 0), (22, .istore_n 3, 1, 0, 0, 0), (23, .goto (-16), 3, 7, 0, 0), (26, .iload_n 3, 1, 0, 0, 0), (27, .ifCond .lt 7, 3, 34, 0, 0), (30, .iconst 1, 1, 0, 0, 0), (31, .goto 4, 3, 35, 0, 0), (34, .iconst 0, 1, 0, 0, 0), (35, .ireturn, 1, 0, 0, 0)]
/-- TierMillModel.isOf(II)Z -/
def e_d153 : List (Nat × Instr × Nat × Nat × Nat × Int) := [(0, .iload_n 1, 1, 0, 0, 0), (1, .iload_n 2, 1, 0, 0, 0), (2, .if_icmp .eq 12, 3, 14, 0, 0), (5, .aload_n 0, 1, 0, 0, 0), (6, .iload_n 1, 1, 0, 0, 0), (7, .iload_n 2, 1, 0, 0, 0), (8, .invokevirtual 207, 3, 152, 12, 2), (11, .ifCond .eq 7, 3, 18, 0, 0), (14, .iconst 1, 1, 0, 0, 0), (15, .goto 4, 3, 19, 0, 0), (18, .iconst 0, 1, 0, 0, 0), (19, .ireturn, 1, 0, 0, 0)]
/-- TierMillModel.mayStand(III)Z -/
def e_d154 : List (Nat × Instr × Nat × Nat × Nat × Int) := [(0, .aload_n 0, 1, 0, 0, 0), (1, .getfield 37, 3, 12, 20, 0), (4, .iload_n 3, 1, 0, 0, 0), (5, .iaload, 1, 0, 0, 0), (6, .aload_n 0, 1, 0, 0, 0), (7, .getfield 28, 3, 12, 16, 0), (10, .iload_n 2, 1, 0, 0, 0), (11, .iaload, 1, 0, 0, 0), (12, .iconst 1, 1, 0, 0, 0), (13, .iadd, 1, 0, 0, 0), (14, .if_icmp .ne 50, 3, 64, 0, 0), (17, .aload_n 0, 1, 0, 0, 0), (18, .getfield 43, 3, 12, 22, 0), (21, .iload_n 3, 1, 0, 0, 0), (22, .iaload, 1, 0, 0, 0), (23, .aload_n 0, 1, 0, 0, 0), (24, .getfield 34, 3, 12, 18, 0), (27, .iload_n 2, 1, 0, 0, 0), (28, .iaload, 1, 0, 0, 0), (29, .if_icmp .ne 35, 3, 64, 0, 0), (32, .aload_n 0, 1, 0, 0, 0), (33, .getfield 40, 3, 12, 21, 0), (36, .iconst 4, 1, 0, 0, 0), (37, .iload_n 3, 1, 0, 0, 0), (38, .imul, 1, 0, 0, 0), (39, .iaload, 1, 0, 0, 0), (40, .bipush 16, 2, 0, 0, 0), (42, .if_icmp .lt 22, 3, 64, 0, 0), (45, .aload_n 0, 1, 0, 0, 0), (46, .iload_n 1, 1, 0, 0, 0), (47, .aload_n 0, 1, 0, 0, 0), (48, .getfield 40, 3, 12, 21, 0), (51, .iconst 4, 1, 0, 0, 0), (52, .iload_n 3, 1, 0, 0, 0), (53, .imul, 1, 0, 0, 0), (54, .iaload, 1, 0, 0, 0), (55, .bipush 16, 2, 0, 0, 0), (57, .isub, 1, 0, 0, 0), (58, .invokevirtual 211, 3, 153, 12, 2), (61, .ifCond .ne 5, 3, 66, 0, 0), (64, .iconst 0, 1, 0, 0, 0), (65, .ireturn, 1, 0, 0, 0), (66, .iconst 0, 1, 0, 0, 0), (67, .istore 4, 2, 0, 0, 0), (69, .iload 4, 2, 0, 0, 0), (71, .aload_n 0, 1, 0, 0, 0), (72, .getfield 28, 3, 12, 16, 0), (75, .iload_n 2, 1, 0, 0, 0), (76, .iaload, 1, 0, 0, 0), (77, .if_icmp .ge 38, 3, 115, 0, 0), (80, .aload_n 0, 1, 0, 0, 0), (81, .getfield 40, 3, 12, 21, 0), (84, .iconst 4, 1, 0, 0, 0), (85, .iload_n 3, 1, 0, 0, 0), (86, .imul, 1, 0, 0, 0), (87, .iconst 1, 1, 0, 0, 0), (88, .iadd, 1, 0, 0, 0), (89, .iload 4, 2, 0, 0, 0), (91, .iadd, 1, 0, 0, 0), (92, .iaload, 1, 0, 0, 0), (93, .aload_n 0, 1, 0, 0, 0), (94, .getfield 31, 3, 12, 17, 0), (97, .iconst 3, 1, 0, 0, 0), (98, .iload_n 2, 1, 0, 0, 0), (99, .imul, 1, 0, 0, 0), (100, .iload 4, 2, 0, 0, 0), (102, .iadd, 1, 0, 0, 0), (103, .iaload, 1, 0, 0, 0), (104, .if_icmp .eq 5, 3, 109, 0, 0), (107, .iconst 0, 1, 0, 0, 0), (108, .ireturn, 1, 0, 0, 0), (109, .iinc 4 1, 3, 0, 0, 0), (112, .goto (-43), 3, 69, 0, 0), (115, .iconst 1, 1, 0, 0, 0), (116, .ireturn, 1, 0, 0, 0)]
/-- TierMillModel.readTable(II)V -/
def e_d155 : List (Nat × Instr × Nat × Nat × Nat × Int) := [(0, .aload_n 0, 1, 0, 0, 0), (1, .iconst 0, 1, 0, 0, 0), (2, .aload_n 0, 1, 0, 0, 0), (3, .getfield 214, 3, 12, 19, 0), (6, .invokevirtual 200, 3, 147, 12, 2), (9, .istore_n 3, 1, 0, 0, 0), (10, .aload_n 0, 1, 0, 0, 0), (11, .getfield 62, 3, 12, 28, 0), (14, .bipush 8, 2, 0, 0, 0), (16, .iload_n 1, 1, 0, 0, 0), (17, .imul, 1, 0, 0, 0), (18, .iload_n 2, 1, 0, 0, 0), (19, .iadd, 1, 0, 0, 0), (20, .iload_n 3, 1, 0, 0, 0), (21, .iastore, 1, 0, 0, 0), (22, .aload_n 0, 1, 0, 0, 0), (23, .getfield 183, 3, 12, 82, 0), (26, .ifCond .ne 19, 3, 45, 0, 0), (29, .iload_n 3, 1, 0, 0, 0), (30, .ifCond .eq 15, 3, 45, 0, 0), (33, .aload_n 0, 1, 0, 0, 0), (34, .iload_n 1, 1, 0, 0, 0), (35, .iload_n 2, 1, 0, 0, 0), (36, .iload_n 3, 1, 0, 0, 0), (37, .iconst 1, 1, 0, 0, 0), (38, .isub, 1, 0, 0, 0), (39, .invokevirtual 217, 3, 154, 12, 3), (42, .ifCond .eq 4, 3, 46, 0, 0), (45, .return_, 1, 0, 0, 0), (46, .aload_n 0, 1, 0, 0, 0), (47, .dup, 1, 0, 0, 0), (48, .getfield 187, 3, 12, 81, 0), (51, .iconst 1, 1, 0, 0, 0), (52, .isub, 1, 0, 0, 0), (53, .putfield 187, 3, 12, 81, 0), (56, .aload_n 0, 1, 0, 0, 0), (57, .iconst 1, 1, 0, 0, 0), (58, .putfield 183, 3, 12, 82, 0), (61, .return_, 1, 0, 0, 0)]
/-- TierMillModel.takeApart()Z -/
def e_d156 : List (Nat × Instr × Nat × Nat × Nat × Int) := [(0, .aload_n 0, 1, 0, 0, 0), (1, .iconst 0, 1, 0, 0, 0), (2, .putfield 187, 3, 12, 81, 0), (5, .aload_n 0, 1, 0, 0, 0), (6, .iconst 0, 1, 0, 0, 0), (7, .putfield 183, 3, 12, 82, 0), (10, .aload_n 0, 1, 0, 0, 0), (11, .iconst 0, 1, 0, 0, 0), (12, .putfield 197, 3, 12, 11, 0), (15, .aload_n 0, 1, 0, 0, 0), (16, .aload_n 0, 1, 0, 0, 0), (17, .iconst 0, 1, 0, 0, 0), (18, .bipush 8, 2, 0, 0, 0), (20, .invokevirtual 200, 3, 147, 12, 2), (23, .putfield 197, 3, 12, 11, 0), (26, .iconst 0, 1, 0, 0, 0), (27, .istore_n 1, 1, 0, 0, 0), (28, .iload_n 1, 1, 0, 0, 0), (29, .aload_n 0, 1, 0, 0, 0), (30, .getfield 197, 3, 12, 11, 0), (33, .if_icmp .ge 21, 3, 54, 0, 0), (36, .aload_n 0, 1, 0, 0, 0), (37, .getfield 183, 3, 12, 82, 0), (40, .ifCond .ne 14, 3, 54, 0, 0), (43, .aload_n 0, 1, 0, 0, 0), (44, .iload_n 1, 1, 0, 0, 0), (45, .invokevirtual 220, 3, 149, 12, 1), (48, .iinc 1 1, 3, 0, 0, 0), (51, .goto (-23), 3, 28, 0, 0), (54, .aload_n 0, 1, 0, 0, 0), (55, .aload_n 0, 1, 0, 0, 0), (56, .iconst 0, 1, 0, 0, 0), (57, .bipush 8, 2, 0, 0, 0), (59, .invokevirtual 200, 3, 147, 12, 2), (62, .putfield 224, 3, 12, 15, 0), (65, .iconst 0, 1, 0, 0, 0), (66, .istore_n 1, 1, 0, 0, 0), (67, .iload_n 1, 1, 0, 0, 0), (68, .aload_n 0, 1, 0, 0, 0), (69, .getfield 224, 3, 12, 15, 0), (72, .if_icmp .ge 21, 3, 93, 0, 0), (75, .aload_n 0, 1, 0, 0, 0), (76, .getfield 183, 3, 12, 82, 0), (79, .ifCond .ne 14, 3, 93, 0, 0), (82, .aload_n 0, 1, 0, 0, 0), (83, .iload_n 1, 1, 0, 0, 0), (84, .invokevirtual 227, 3, 150, 12, 1), (87, .iinc 1 1, 3, 0, 0, 0), (90, .goto (-23), 3, 67, 0, 0), (93, .aload_n 0, 1, 0, 0, 0), (94, .aload_n 0, 1, 0, 0, 0), (95, .iconst 1, 1, 0, 0, 0), (96, .bipush 16, 2, 0, 0, 0), (98, .invokevirtual 200, 3, 147, 12, 2), (101, .putfield 214, 3, 12, 19, 0), (104, .iconst 0, 1, 0, 0, 0), (105, .istore_n 1, 1, 0, 0, 0), (106, .iload_n 1, 1, 0, 0, 0), (107, .aload_n 0, 1, 0, 0, 0), (108, .getfield 214, 3, 12, 19, 0), (111, .if_icmp .ge 21, 3, 132, 0, 0), (114, .aload_n 0, 1, 0, 0, 0), (115, .getfield 183, 3, 12, 82, 0), (118, .ifCond .ne 14, 3, 132, 0, 0), (121, .aload_n 0, 1, 0, 0, 0), (122, .iload_n 1, 1, 0, 0, 0), (123, .invokevirtual 230, 3, 151, 12, 1), (126, .iinc 1 1, 3, 0, 0, 0), (129, .goto (-23), 3, 106, 0, 0), (132, .iconst 0, 1, 0, 0, 0), (133, .istore_n 1, 1, 0, 0, 0), (134, .iload_n 1, 1, 0, 0, 0), (135, .aload_n 0, 1, 0, 0, 0), (136, .getfield 197, 3, 12, 11, 0), (139, .aload_n 0, 1, 0, 0, 0), (140, .getfield 224, 3, 12, 15, 0), (143, .imul, 1, 0, 0, 0), (144, .if_icmp .ge 32, 3, 176, 0, 0), (147, .aload_n 0, 1, 0, 0, 0), (148, .getfield 183, 3, 12, 82, 0), (151, .ifCond .ne 25, 3, 176, 0, 0), (154, .aload_n 0, 1, 0, 0, 0), (155, .iload_n 1, 1, 0, 0, 0), (156, .aload_n 0, 1, 0, 0, 0), (157, .getfield 224, 3, 12, 15, 0), (160, .idiv, 1, 0, 0, 0), (161, .iload_n 1, 1, 0, 0, 0), (162, .aload_n 0, 1, 0, 0, 0), (163, .getfield 224, 3, 12, 15, 0), (166, .irem, 1, 0, 0, 0), (167, .invokevirtual 233, 3, 155, 12, 2), (170, .iinc 1 1, 3, 0, 0, 0), (173, .goto (-39), 3, 134, 0, 0), (176, .aload_n 0, 1, 0, 0, 0), (177, .getfield 183, 3, 12, 82, 0), (180, .ifCond .ne 19, 3, 199, 0, 0), (183, .aload_n 0, 1, 0, 0, 0), (184, .getfield 187, 3, 12, 81, 0), (187, .aload_n 0, 1, 0, 0, 0), (188, .getfield 190, 3, 12, 4, 0), (191, .if_icmp .ge 8, 3, 199, 0, 0), (194, .aload_n 0, 1, 0, 0, 0), (195, .iconst 1, 1, 0, 0, 0), (196, .putfield 183, 3, 12, 82, 0), (199, .aload_n 0, 1, 0, 0, 0), (200, .getfield 183, 3, 12, 82, 0), (203, .ifCond .ne 7, 3, 210, 0, 0), (206, .iconst 1, 1, 0, 0, 0), (207, .goto 4, 3, 211, 0, 0), (210, .iconst 0, 1, 0, 0, 0), (211, .ireturn, 1, 0, 0, 0)]
/-- TierMillModel.opLong(I)I -/
def e_d157 : List (Nat × Instr × Nat × Nat × Nat × Int) := [(0, .iload_n 0, 1, 0, 0, 0), (1, .tableswitch 215 0 48 #[213, 211, 215, 213, 213, 215, 215, 215, 215, 215, 215, 215, 215, 215, 215, 215, 215, 215, 215, 215, 211, 215, 215, 215, 215, 215, 215, 215, 215, 215, 215, 215, 215, 215, 215, 215, 215, 215, 213, 211, 211, 215, 215, 215, 215, 213, 213, 213, 213], 211, 0, 0, 0), (212, .iconst 3, 1, 0, 0, 0), (213, .ireturn, 1, 0, 0, 0), (214, .iconst 2, 1, 0, 0, 0), (215, .ireturn, 1, 0, 0, 0), (216, .iload_n 0, 1, 0, 0, 0), (217, .bipush 21, 2, 0, 0, 0), (219, .if_icmp .lt 13, 3, 232, 0, 0), (222, .iload_n 0, 1, 0, 0, 0), (223, .bipush 37, 2, 0, 0, 0), (225, .if_icmp .gt 7, 3, 232, 0, 0), (228, .iconst 2, 1, 0, 0, 0), (229, .goto 4, 3, 233, 0, 0), (232, .iconst 1, 1, 0, 0, 0), (233, .ireturn, 1, 0, 0, 0)]
/-- TierMillModel.byteAt(II)I -/
def e_d158 : List (Nat × Instr × Nat × Nat × Nat × Int) := [(0, .aload_n 0, 1, 0, 0, 0), (1, .getfield 55, 3, 12, 26, 0), (4, .bipush 120, 2, 0, 0, 0), (6, .iload_n 1, 1, 0, 0, 0), (7, .imul, 1, 0, 0, 0), (8, .iload_n 2, 1, 0, 0, 0), (9, .iadd, 1, 0, 0, 0), (10, .iaload, 1, 0, 0, 0), (11, .ireturn, 1, 0, 0, 0)]
/-- TierMillModel.longOf(II)I -/
def e_d159 : List (Nat × Instr × Nat × Nat × Nat × Int) := [(0, .aload_n 0, 1, 0, 0, 0), (1, .iload_n 1, 1, 0, 0, 0), (2, .iload_n 2, 1, 0, 0, 0), (3, .invokevirtual 237, 3, 158, 12, 2), (6, .istore_n 3, 1, 0, 0, 0), (7, .iload_n 3, 1, 0, 0, 0), (8, .bipush 53, 2, 0, 0, 0), (10, .if_icmp .gt 21, 3, 31, 0, 0), (13, .iload_n 3, 1, 0, 0, 0), (14, .bipush 53, 2, 0, 0, 0), (16, .if_icmp .ne 17, 3, 33, 0, 0), (19, .iload_n 2, 1, 0, 0, 0), (20, .iconst 1, 1, 0, 0, 0), (21, .iadd, 1, 0, 0, 0), (22, .aload_n 0, 1, 0, 0, 0), (23, .getfield 52, 3, 12, 25, 0), (26, .iload_n 1, 1, 0, 0, 0), (27, .iaload, 1, 0, 0, 0), (28, .if_icmp .lt 5, 3, 33, 0, 0), (31, .iconst (-1), 1, 0, 0, 0), (32, .ireturn, 1, 0, 0, 0), (33, .iload_n 3, 1, 0, 0, 0), (34, .bipush 53, 2, 0, 0, 0), (36, .if_icmp .ne 16, 3, 52, 0, 0), (39, .iconst 3, 1, 0, 0, 0), (40, .aload_n 0, 1, 0, 0, 0), (41, .iload_n 1, 1, 0, 0, 0), (42, .iload_n 2, 1, 0, 0, 0), (43, .iconst 1, 1, 0, 0, 0), (44, .iadd, 1, 0, 0, 0), (45, .invokevirtual 237, 3, 158, 12, 2), (48, .iadd, 1, 0, 0, 0), (49, .goto 7, 3, 56, 0, 0), (52, .iload_n 3, 1, 0, 0, 0), (53, .invokestatic 240, 3, 157, 0, 1), (56, .istore 4, 2, 0, 0, 0), (58, .iload_n 2, 1, 0, 0, 0), (59, .iload 4, 2, 0, 0, 0), (61, .iadd, 1, 0, 0, 0), (62, .aload_n 0, 1, 0, 0, 0), (63, .getfield 52, 3, 12, 25, 0), (66, .iload_n 1, 1, 0, 0, 0), (67, .iaload, 1, 0, 0, 0), (68, .if_icmp .le 7, 3, 75, 0, 0), (71, .iconst (-1), 1, 0, 0, 0), (72, .goto 5, 3, 77, 0, 0), (75, .iload 4, 2, 0, 0, 0), (77, .ireturn, 1, 0, 0, 0)]
/-- TierMillModel.findBegins(I)V -/
def e_d160 : List (Nat × Instr × Nat × Nat × Nat × Int) := [(0, .iconst 0, 1, 0, 0, 0), (1, .istore_n 2, 1, 0, 0, 0), (2, .iload_n 2, 1, 0, 0, 0), (3, .bipush 120, 2, 0, 0, 0), (5, .if_icmp .ge 21, 3, 26, 0, 0), (8, .aload_n 0, 1, 0, 0, 0), (9, .getfield 58, 3, 12, 27, 0), (12, .bipush 120, 2, 0, 0, 0), (14, .iload_n 1, 1, 0, 0, 0), (15, .imul, 1, 0, 0, 0), (16, .iload_n 2, 1, 0, 0, 0), (17, .iadd, 1, 0, 0, 0), (18, .iconst 0, 1, 0, 0, 0), (19, .bastore, 1, 0, 0, 0), (20, .iinc 2 1, 3, 0, 0, 0), (23, .goto (-21), 3, 2, 0, 0), (26, .iconst 0, 1, 0, 0, 0), (27, .istore_n 2, 1, 0, 0, 0), (28, .iload_n 2, 1, 0, 0, 0), (29, .ifCond .lt 48, 3, 77, 0, 0), (32, .iload_n 2, 1, 0, 0, 0), (33, .aload_n 0, 1, 0, 0, 0), (34, .getfield 52, 3, 12, 25, 0), (37, .iload_n 1, 1, 0, 0, 0), (38, .iaload, 1, 0, 0, 0), (39, .if_icmp .ge 38, 3, 77, 0, 0), (42, .aload_n 0, 1, 0, 0, 0), (43, .getfield 58, 3, 12, 27, 0), (46, .bipush 120, 2, 0, 0, 0), (48, .iload_n 1, 1, 0, 0, 0), (49, .imul, 1, 0, 0, 0), (50, .iload_n 2, 1, 0, 0, 0), (51, .iadd, 1, 0, 0, 0), (52, .iconst 1, 1, 0, 0, 0), (53, .bastore, 1, 0, 0, 0), (54, .aload_n 0, 1, 0, 0, 0), (55, .iload_n 1, 1, 0, 0, 0), (56, .iload_n 2, 1, 0, 0, 0), (57, .invokevirtual 244, 3, 159, 12, 2), (60, .istore_n 3, 1, 0, 0, 0), (61, .iload_n 3, 1, 0, 0, 0), (62, .iconst (-1), 1, 0, 0, 0), (63, .if_icmp .ne 7, 3, 70, 0, 0), (66, .iconst (-1), 1, 0, 0, 0), (67, .goto 6, 3, 73, 0, 0), (70, .iload_n 2, 1, 0, 0, 0), (71, .iload_n 3, 1, 0, 0, 0), (72, .iadd, 1, 0, 0, 0), (73, .istore_n 2, 1, 0, 0, 0), (74, .goto (-46), 3, 28, 0, 0), (77, .return_, 1, 0, 0, 0)]
/-- TierMillModel.isPlace(II)Z -/
def e_d161 : List (Nat × Instr × Nat × Nat × Nat × Int) := [(0, .iload_n 2, 1, 0, 0, 0), (1, .aload_n 0, 1, 0, 0, 0), (2, .getfield 52, 3, 12, 25, 0), (5, .iload_n 1, 1, 0, 0, 0), (6, .iaload, 1, 0, 0, 0), (7, .if_icmp .ge 21, 3, 28, 0, 0), (10, .aload_n 0, 1, 0, 0, 0), (11, .getfield 58, 3, 12, 27, 0), (14, .bipush 120, 2, 0, 0, 0), (16, .iload_n 1, 1, 0, 0, 0), (17, .imul, 1, 0, 0, 0), (18, .iload_n 2, 1, 0, 0, 0), (19, .iadd, 1, 0, 0, 0), (20, .baload, 1, 0, 0, 0), (21, .ifCond .eq 7, 3, 28, 0, 0), (24, .iconst 1, 1, 0, 0, 0), (25, .goto 4, 3, 29, 0, 0), (28, .iconst 0, 1, 0, 0, 0), (29, .ireturn, 1, 0, 0, 0)]
/-- TierMillModel.isGood(II)Z -/
def e_d162 : List (Nat × Instr × Nat × Nat × Nat × Int) := [(0, .aload_n 0, 1, 0, 0, 0), (1, .iload_n 1, 1, 0, 0, 0), (2, .iload_n 2, 1, 0, 0, 0), (3, .invokevirtual 244, 3, 159, 12, 2), (6, .istore_n 3, 1, 0, 0, 0), (7, .iload_n 3, 1, 0, 0, 0), (8, .iconst (-1), 1, 0, 0, 0), (9, .if_icmp .ne 5, 3, 14, 0, 0), (12, .iconst 0, 1, 0, 0, 0), (13, .ireturn, 1, 0, 0, 0), (14, .aload_n 0, 1, 0, 0, 0), (15, .iload_n 1, 1, 0, 0, 0), (16, .iload_n 2, 1, 0, 0, 0), (17, .invokevirtual 237, 3, 158, 12, 2), (20, .istore 4, 2, 0, 0, 0), (22, .iload_n 3, 1, 0, 0, 0), (23, .iconst 1, 1, 0, 0, 0), (24, .if_icmp .le 14, 3, 38, 0, 0), (27, .aload_n 0, 1, 0, 0, 0), (28, .iload_n 1, 1, 0, 0, 0), (29, .iload_n 2, 1, 0, 0, 0), (30, .iconst 1, 1, 0, 0, 0), (31, .iadd, 1, 0, 0, 0), (32, .invokevirtual 237, 3, 158, 12, 2), (35, .goto 4, 3, 39, 0, 0), (38, .iconst 0, 1, 0, 0, 0), (39, .istore 5, 2, 0, 0, 0), (41, .iload_n 2, 1, 0, 0, 0), (42, .iload_n 3, 1, 0, 0, 0), (43, .iadd, 1, 0, 0, 0), (44, .aload_n 0, 1, 0, 0, 0), (45, .getfield 52, 3, 12, 25, 0), (48, .iload_n 1, 1, 0, 0, 0), (49, .iaload, 1, 0, 0, 0), (50, .if_icmp .ne 33, 3, 83, 0, 0), (53, .iload 4, 2, 0, 0, 0), (55, .bipush 21, 2, 0, 0, 0), (57, .if_icmp .eq 26, 3, 83, 0, 0), (60, .iload 4, 2, 0, 0, 0), (62, .bipush 49, 2, 0, 0, 0), (64, .if_icmp .eq 19, 3, 83, 0, 0), (67, .iload 4, 2, 0, 0, 0), (69, .bipush 50, 2, 0, 0, 0), (71, .if_icmp .eq 12, 3, 83, 0, 0), (74, .iload 4, 2, 0, 0, 0), (76, .bipush 53, 2, 0, 0, 0), (78, .if_icmp .eq 5, 3, 83, 0, 0), (81, .iconst 0, 1, 0, 0, 0), (82, .ireturn, 1, 0, 0, 0), (83, .iload 4, 2, 0, 0, 0), (85, .lookupswitch 248 #[(3, 99), (4, 99), (20, 99), (38, 116), (39, 131), (40, 131), (45, 116), (46, 116), (47, 164), (48, 179), (53, 194)], 99, 0, 0, 0), (184, .iload 5, 2, 0, 0, 0), (186, .aload_n 0, 1, 0, 0, 0), (187, .getfield 46, 3, 12, 23, 0), (190, .iload_n 1, 1, 0, 0, 0), (191, .iaload, 1, 0, 0, 0), (192, .if_icmp .ge 7, 3, 199, 0, 0), (195, .iconst 1, 1, 0, 0, 0), (196, .goto 4, 3, 200, 0, 0), (199, .iconst 0, 1, 0, 0, 0), (200, .ireturn, 1, 0, 0, 0), (201, .iload 5, 2, 0, 0, 0), (203, .aload_n 0, 1, 0, 0, 0), (204, .getfield 197, 3, 12, 11, 0), (207, .if_icmp .ge 7, 3, 214, 0, 0), (210, .iconst 1, 1, 0, 0, 0), (211, .goto 4, 3, 215, 0, 0), (214, .iconst 0, 1, 0, 0, 0), (215, .ireturn, 1, 0, 0, 0), (216, .iload 5, 2, 0, 0, 0), (218, .aload_n 0, 1, 0, 0, 0), (219, .getfield 197, 3, 12, 11, 0), (222, .if_icmp .ge 25, 3, 247, 0, 0), (225, .aload_n 0, 1, 0, 0, 0), (226, .iload_n 1, 1, 0, 0, 0), (227, .iload_n 2, 1, 0, 0, 0), (228, .iconst 2, 1, 0, 0, 0), (229, .iadd, 1, 0, 0, 0), (230, .invokevirtual 237, 3, 158, 12, 2), (233, .aload_n 0, 1, 0, 0, 0), (234, .getfield 22, 3, 12, 13, 0), (237, .iload 5, 2, 0, 0, 0), (239, .iaload, 1, 0, 0, 0), (240, .if_icmp .ge 7, 3, 247, 0, 0), (243, .iconst 1, 1, 0, 0, 0), (244, .goto 4, 3, 248, 0, 0), (247, .iconst 0, 1, 0, 0, 0), (248, .ireturn, 1, 0, 0, 0), (249, .iload 5, 2, 0, 0, 0), (251, .aload_n 0, 1, 0, 0, 0), (252, .getfield 214, 3, 12, 19, 0), (255, .if_icmp .ge 7, 3, 262, 0, 0), (258, .iconst 1, 1, 0, 0, 0), (259, .goto 4, 3, 263, 0, 0), (262, .iconst 0, 1, 0, 0, 0), (263, .ireturn, 1, 0, 0, 0), (264, .iload 5, 2, 0, 0, 0), (266, .aload_n 0, 1, 0, 0, 0), (267, .getfield 224, 3, 12, 15, 0), (270, .if_icmp .ge 7, 3, 277, 0, 0), (273, .iconst 1, 1, 0, 0, 0), (274, .goto 4, 3, 278, 0, 0), (277, .iconst 0, 1, 0, 0, 0), (278, .ireturn, 1, 0, 0, 0), (279, .iload 5, 2, 0, 0, 0), (281, .iconst 1, 1, 0, 0, 0), (282, .if_icmp .lt 10, 3, 292, 0, 0), (285, .iload 5, 2, 0, 0, 0), (287, .bipush 8, 2, 0, 0, 0), (289, .if_icmp .le 5, 3, 294, 0, 0), (292, .iconst 0, 1, 0, 0, 0), (293, .ireturn, 1, 0, 0, 0), (294, .iconst 0, 1, 0, 0, 0), (295, .istore 6, 2, 0, 0, 0), (297, .iload 6, 2, 0, 0, 0), (299, .iload 5, 2, 0, 0, 0), (301, .if_icmp .gt 30, 3, 331, 0, 0), (304, .aload_n 0, 1, 0, 0, 0), (305, .iload_n 1, 1, 0, 0, 0), (306, .aload_n 0, 1, 0, 0, 0), (307, .iload_n 1, 1, 0, 0, 0), (308, .iload_n 2, 1, 0, 0, 0), (309, .iconst 2, 1, 0, 0, 0), (310, .iadd, 1, 0, 0, 0), (311, .iload 6, 2, 0, 0, 0), (313, .iadd, 1, 0, 0, 0), (314, .invokevirtual 237, 3, 158, 12, 2), (317, .invokevirtual 247, 3, 161, 12, 2), (320, .ifCond .ne 5, 3, 325, 0, 0), (323, .iconst 0, 1, 0, 0, 0), (324, .ireturn, 1, 0, 0, 0), (325, .iinc 6 1, 3, 0, 0, 0), (328, .goto (-31), 3, 297, 0, 0), (331, .iconst 1, 1, 0, 0, 0), (332, .ireturn, 1, 0, 0, 0), (333, .iload 4, 2, 0, 0, 0), (335, .bipush 21, 2, 0, 0, 0), (337, .if_icmp .lt 20, 3, 357, 0, 0), (340, .iload 4, 2, 0, 0, 0), (342, .bipush 37, 2, 0, 0, 0), (344, .if_icmp .gt 13, 3, 357, 0, 0), (347, .aload_n 0, 1, 0, 0, 0), (348, .iload_n 1, 1, 0, 0, 0), (349, .iload 5, 2, 0, 0, 0), (351, .invokevirtual 247, 3, 161, 12, 2), (354, .ifCond .eq 7, 3, 361, 0, 0), (357, .iconst 1, 1, 0, 0, 0), (358, .goto 4, 3, 362, 0, 0), (361, .iconst 0, 1, 0, 0, 0), (362, .ireturn, 1, 0, 0, 0)]
/-- TierMillModel.findFault(III)Z -/
def e_d163 : List (Nat × Instr × Nat × Nat × Nat × Int) := [(0, .aload_n 0, 1, 0, 0, 0), (1, .iload_n 1, 1, 0, 0, 0), (2, .putfield 250, 3, 12, 8, 0), (5, .aload_n 0, 1, 0, 0, 0), (6, .iload_n 2, 1, 0, 0, 0), (7, .putfield 253, 3, 12, 10, 0), (10, .aload_n 0, 1, 0, 0, 0), (11, .iload_n 3, 1, 0, 0, 0), (12, .putfield 256, 3, 12, 9, 0), (15, .iconst 0, 1, 0, 0, 0), (16, .ireturn, 1, 0, 0, 0)]
/-- TierMillModel.isFine()Z -/
def e_d164 : List (Nat × Instr × Nat × Nat × Nat × Int) := [(0, .aload_n 0, 1, 0, 0, 0), (1, .invokevirtual 259, 3, 156, 12, 0), (4, .ifCond .ne 14, 3, 18, 0, 0), (7, .aload_n 0, 1, 0, 0, 0), (8, .iconst 1, 1, 0, 0, 0), (9, .iconst 0, 1, 0, 0, 0), (10, .aload_n 0, 1, 0, 0, 0), (11, .getfield 187, 3, 12, 81, 0), (14, .invokevirtual 263, 3, 163, 12, 3), (17, .ireturn, 1, 0, 0, 0), (18, .iconst 0, 1, 0, 0, 0), (19, .istore_n 1, 1, 0, 0, 0), (20, .iload_n 1, 1, 0, 0, 0), (21, .aload_n 0, 1, 0, 0, 0), (22, .getfield 214, 3, 12, 19, 0), (25, .if_icmp .ge 14, 3, 39, 0, 0), (28, .aload_n 0, 1, 0, 0, 0), (29, .iload_n 1, 1, 0, 0, 0), (30, .invokevirtual 266, 3, 160, 12, 1), (33, .iinc 1 1, 3, 0, 0, 0), (36, .goto (-16), 3, 20, 0, 0), (39, .iconst 0, 1, 0, 0, 0), (40, .istore_n 1, 1, 0, 0, 0), (41, .iload_n 1, 1, 0, 0, 0), (42, .aload_n 0, 1, 0, 0, 0), (43, .getfield 214, 3, 12, 19, 0), (46, .if_icmp .ge 58, 3, 104, 0, 0), (49, .iconst 0, 1, 0, 0, 0), (50, .istore_n 2, 1, 0, 0, 0), (51, .iload_n 2, 1, 0, 0, 0), (52, .aload_n 0, 1, 0, 0, 0), (53, .getfield 52, 3, 12, 25, 0), (56, .iload_n 1, 1, 0, 0, 0), (57, .iaload, 1, 0, 0, 0), (58, .if_icmp .ge 40, 3, 98, 0, 0), (61, .aload_n 0, 1, 0, 0, 0), (62, .getfield 58, 3, 12, 27, 0), (65, .bipush 120, 2, 0, 0, 0), (67, .iload_n 1, 1, 0, 0, 0), (68, .imul, 1, 0, 0, 0), (69, .iload_n 2, 1, 0, 0, 0), (70, .iadd, 1, 0, 0, 0), (71, .baload, 1, 0, 0, 0), (72, .ifCond .eq 20, 3, 92, 0, 0), (75, .aload_n 0, 1, 0, 0, 0), (76, .iload_n 1, 1, 0, 0, 0), (77, .iload_n 2, 1, 0, 0, 0), (78, .invokevirtual 269, 3, 162, 12, 2), (81, .ifCond .ne 11, 3, 92, 0, 0), (84, .aload_n 0, 1, 0, 0, 0), (85, .iconst 2, 1, 0, 0, 0), (86, .iload_n 1, 1, 0, 0, 0), (87, .iload_n 2, 1, 0, 0, 0), (88, .invokevirtual 263, 3, 163, 12, 3), (91, .ireturn, 1, 0, 0, 0), (92, .iinc 2 1, 3, 0, 0, 0), (95, .goto (-44), 3, 51, 0, 0), (98, .iinc 1 1, 3, 0, 0, 0), (101, .goto (-60), 3, 41, 0, 0), (104, .iconst 0, 1, 0, 0, 0), (105, .istore_n 1, 1, 0, 0, 0), (106, .iload_n 1, 1, 0, 0, 0), (107, .aload_n 0, 1, 0, 0, 0), (108, .getfield 214, 3, 12, 19, 0), (111, .if_icmp .ge 64, 3, 175, 0, 0), (114, .aload_n 0, 1, 0, 0, 0), (115, .iload_n 1, 1, 0, 0, 0), (116, .invokevirtual 272, 3, 171, 12, 1), (119, .iconst 0, 1, 0, 0, 0), (120, .istore_n 2, 1, 0, 0, 0), (121, .iload_n 2, 1, 0, 0, 0), (122, .aload_n 0, 1, 0, 0, 0), (123, .getfield 52, 3, 12, 25, 0), (126, .iload_n 1, 1, 0, 0, 0), (127, .iaload, 1, 0, 0, 0), (128, .if_icmp .ge 41, 3, 169, 0, 0), (131, .aload_n 0, 1, 0, 0, 0), (132, .getfield 65, 3, 12, 29, 0), (135, .bipush 120, 2, 0, 0, 0), (137, .iload_n 1, 1, 0, 0, 0), (138, .imul, 1, 0, 0, 0), (139, .iload_n 2, 1, 0, 0, 0), (140, .iadd, 1, 0, 0, 0), (141, .iaload, 1, 0, 0, 0), (142, .iconst (-1), 1, 0, 0, 0), (143, .if_icmp .eq 20, 3, 163, 0, 0), (146, .aload_n 0, 1, 0, 0, 0), (147, .iload_n 1, 1, 0, 0, 0), (148, .iload_n 2, 1, 0, 0, 0), (149, .invokevirtual 275, 3, 180, 12, 2), (152, .ifCond .eq 11, 3, 163, 0, 0), (155, .aload_n 0, 1, 0, 0, 0), (156, .iconst 3, 1, 0, 0, 0), (157, .iload_n 1, 1, 0, 0, 0), (158, .iload_n 2, 1, 0, 0, 0), (159, .invokevirtual 263, 3, 163, 12, 3), (162, .ireturn, 1, 0, 0, 0), (163, .iinc 2 1, 3, 0, 0, 0), (166, .goto (-45), 3, 121, 0, 0), (169, .iinc 1 1, 3, 0, 0, 0), (172, .goto (-66), 3, 106, 0, 0), (175, .iconst 1, 1, 0, 0, 0), (176, .ireturn, 1, 0, 0, 0)]
/-- TierMillModel.load()I -/
def e_d165 : List (Nat × Instr × Nat × Nat × Nat × Int) := [(0, .aload_n 0, 1, 0, 0, 0), (1, .aload_n 0, 1, 0, 0, 0), (2, .getfield 178, 3, 12, 1, 0), (5, .putfield 190, 3, 12, 4, 0), (8, .iconst 0, 1, 0, 0, 0), (9, .istore_n 1, 1, 0, 0, 0), (10, .iload_n 1, 1, 0, 0, 0), (11, .aload_n 0, 1, 0, 0, 0), (12, .getfield 178, 3, 12, 1, 0), (15, .if_icmp .ge 21, 3, 36, 0, 0), (18, .aload_n 0, 1, 0, 0, 0), (19, .getfield 13, 3, 12, 3, 0), (22, .iload_n 1, 1, 0, 0, 0), (23, .aload_n 0, 1, 0, 0, 0), (24, .getfield 7, 3, 12, 2, 0), (27, .iload_n 1, 1, 0, 0, 0), (28, .iaload, 1, 0, 0, 0), (29, .iastore, 1, 0, 0, 0), (30, .iinc 1 1, 3, 0, 0, 0), (33, .goto (-23), 3, 10, 0, 0), (36, .aload_n 0, 1, 0, 0, 0), (37, .iconst 0, 1, 0, 0, 0), (38, .putfield 178, 3, 12, 1, 0), (41, .aload_n 0, 1, 0, 0, 0), (42, .invokevirtual 278, 3, 164, 12, 0), (45, .istore_n 1, 1, 0, 0, 0), (46, .iload_n 1, 1, 0, 0, 0), (47, .ifCond .eq 74, 3, 121, 0, 0), (50, .aload_n 0, 1, 0, 0, 0), (51, .iconst 0, 1, 0, 0, 0), (52, .putfield 250, 3, 12, 8, 0), (55, .aload_n 0, 1, 0, 0, 0), (56, .iconst 0, 1, 0, 0, 0), (57, .putfield 256, 3, 12, 9, 0), (60, .aload_n 0, 1, 0, 0, 0), (61, .iconst 0, 1, 0, 0, 0), (62, .putfield 253, 3, 12, 10, 0), (65, .iconst 0, 1, 0, 0, 0), (66, .istore_n 2, 1, 0, 0, 0), (67, .iload_n 2, 1, 0, 0, 0), (68, .aload_n 0, 1, 0, 0, 0), (69, .getfield 190, 3, 12, 4, 0), (72, .if_icmp .ge 21, 3, 93, 0, 0), (75, .aload_n 0, 1, 0, 0, 0), (76, .getfield 16, 3, 12, 5, 0), (79, .iload_n 2, 1, 0, 0, 0), (80, .aload_n 0, 1, 0, 0, 0), (81, .getfield 13, 3, 12, 3, 0), (84, .iload_n 2, 1, 0, 0, 0), (85, .iaload, 1, 0, 0, 0), (86, .iastore, 1, 0, 0, 0), (87, .iinc 2 1, 3, 0, 0, 0), (90, .goto (-23), 3, 67, 0, 0), (93, .aload_n 0, 1, 0, 0, 0), (94, .aload_n 0, 1, 0, 0, 0), (95, .getfield 190, 3, 12, 4, 0), (98, .putfield 281, 3, 12, 6, 0), (101, .aload_n 0, 1, 0, 0, 0), (102, .iconst 1, 1, 0, 0, 0), (103, .putfield 284, 3, 12, 7, 0), (106, .aload_n 0, 1, 0, 0, 0), (107, .iconst 0, 1, 0, 0, 0), (108, .putfield 287, 3, 12, 41, 0), (111, .aload_n 0, 1, 0, 0, 0), (112, .iconst 0, 1, 0, 0, 0), (113, .putfield 175, 3, 12, 0, 0), (116, .aload_n 0, 1, 0, 0, 0), (117, .getfield 214, 3, 12, 19, 0), (120, .ireturn, 1, 0, 0, 0), (121, .aload_n 0, 1, 0, 0, 0), (122, .getfield 284, 3, 12, 7, 0), (125, .ifCond .eq 7, 3, 132, 0, 0), (128, .aload_n 0, 1, 0, 0, 0), (129, .invokevirtual 290, 3, 166, 12, 0), (132, .aload_n 0, 1, 0, 0, 0), (133, .iconst 1, 1, 0, 0, 0), (134, .invokevirtual 293, 3, 144, 12, 1), (137, .ireturn, 1, 0, 0, 0)]
/-- TierMillModel.again()V -/
def e_d166 : List (Nat × Instr × Nat × Nat × Nat × Int) := [(0, .aload_n 0, 1, 0, 0, 0), (1, .getfield 250, 3, 12, 8, 0), (4, .istore_n 1, 1, 0, 0, 0), (5, .aload_n 0, 1, 0, 0, 0), (6, .getfield 253, 3, 12, 10, 0), (9, .istore_n 2, 1, 0, 0, 0), (10, .aload_n 0, 1, 0, 0, 0), (11, .getfield 256, 3, 12, 9, 0), (14, .istore_n 3, 1, 0, 0, 0), (15, .aload_n 0, 1, 0, 0, 0), (16, .aload_n 0, 1, 0, 0, 0), (17, .getfield 281, 3, 12, 6, 0), (20, .putfield 190, 3, 12, 4, 0), (23, .iconst 0, 1, 0, 0, 0), (24, .istore 4, 2, 0, 0, 0), (26, .iload 4, 2, 0, 0, 0), (28, .aload_n 0, 1, 0, 0, 0), (29, .getfield 281, 3, 12, 6, 0), (32, .if_icmp .ge 23, 3, 55, 0, 0), (35, .aload_n 0, 1, 0, 0, 0), (36, .getfield 13, 3, 12, 3, 0), (39, .iload 4, 2, 0, 0, 0), (41, .aload_n 0, 1, 0, 0, 0), (42, .getfield 16, 3, 12, 5, 0), (45, .iload 4, 2, 0, 0, 0), (47, .iaload, 1, 0, 0, 0), (48, .iastore, 1, 0, 0, 0), (49, .iinc 4 1, 3, 0, 0, 0), (52, .goto (-26), 3, 26, 0, 0), (55, .aload_n 0, 1, 0, 0, 0), (56, .invokevirtual 278, 3, 164, 12, 0), (59, .istore 4, 2, 0, 0, 0), (61, .aload_n 0, 1, 0, 0, 0), (62, .iload_n 1, 1, 0, 0, 0), (63, .putfield 250, 3, 12, 8, 0), (66, .aload_n 0, 1, 0, 0, 0), (67, .iload_n 2, 1, 0, 0, 0), (68, .putfield 253, 3, 12, 10, 0), (71, .aload_n 0, 1, 0, 0, 0), (72, .iload_n 3, 1, 0, 0, 0), (73, .putfield 256, 3, 12, 9, 0), (76, .return_, 1, 0, 0, 0)]
/-- TierMillModel.fault(I)I -/
def e_d167 : List (Nat × Instr × Nat × Nat × Nat × Int) := [(0, .aload_n 0, 1, 0, 0, 0), (1, .iconst 0, 1, 0, 0, 0), (2, .putfield 175, 3, 12, 0, 0), (5, .iload_n 1, 1, 0, 0, 0), (6, .ifCond .ne 10, 3, 16, 0, 0), (9, .aload_n 0, 1, 0, 0, 0), (10, .getfield 250, 3, 12, 8, 0), (13, .goto 28, 3, 41, 0, 0), (16, .iload_n 1, 1, 0, 0, 0), (17, .iconst 1, 1, 0, 0, 0), (18, .if_icmp .ne 10, 3, 28, 0, 0), (21, .aload_n 0, 1, 0, 0, 0), (22, .getfield 256, 3, 12, 9, 0), (25, .goto 16, 3, 41, 0, 0), (28, .iload_n 1, 1, 0, 0, 0), (29, .iconst 2, 1, 0, 0, 0), (30, .if_icmp .ne 10, 3, 40, 0, 0), (33, .aload_n 0, 1, 0, 0, 0), (34, .getfield 253, 3, 12, 10, 0), (37, .goto 4, 3, 41, 0, 0), (40, .iconst (-1), 1, 0, 0, 0), (41, .ireturn, 1, 0, 0, 0)]
/-- TierMillModel.resolve(II)I -/
def e_d168 : List (Nat × Instr × Nat × Nat × Nat × Int) := [(0, .iload_n 1, 1, 0, 0, 0), (1, .istore_n 3, 1, 0, 0, 0), (2, .iload_n 3, 1, 0, 0, 0), (3, .ifCond .lt 41, 3, 44, 0, 0), (6, .aload_n 0, 1, 0, 0, 0), (7, .getfield 62, 3, 12, 28, 0), (10, .bipush 8, 2, 0, 0, 0), (12, .iload_n 3, 1, 0, 0, 0), (13, .imul, 1, 0, 0, 0), (14, .iload_n 2, 1, 0, 0, 0), (15, .iadd, 1, 0, 0, 0), (16, .iaload, 1, 0, 0, 0), (17, .ifCond .le 17, 3, 34, 0, 0), (20, .aload_n 0, 1, 0, 0, 0), (21, .getfield 62, 3, 12, 28, 0), (24, .bipush 8, 2, 0, 0, 0), (26, .iload_n 3, 1, 0, 0, 0), (27, .imul, 1, 0, 0, 0), (28, .iload_n 2, 1, 0, 0, 0), (29, .iadd, 1, 0, 0, 0), (30, .iaload, 1, 0, 0, 0), (31, .iconst 1, 1, 0, 0, 0), (32, .isub, 1, 0, 0, 0), (33, .ireturn, 1, 0, 0, 0), (34, .aload_n 0, 1, 0, 0, 0), (35, .getfield 19, 3, 12, 12, 0), (38, .iload_n 3, 1, 0, 0, 0), (39, .iaload, 1, 0, 0, 0), (40, .istore_n 3, 1, 0, 0, 0), (41, .goto (-39), 3, 2, 0, 0), (44, .iconst (-1), 1, 0, 0, 0), (45, .ireturn, 1, 0, 0, 0)]
/-- TierMillModel.joined(II)I -/
def e_d169 : List (Nat × Instr × Nat × Nat × Nat × Int) := [(0, .iload_n 1, 1, 0, 0, 0), (1, .iload_n 2, 1, 0, 0, 0), (2, .if_icmp .ne 5, 3, 7, 0, 0), (5, .iload_n 1, 1, 0, 0, 0), (6, .ireturn, 1, 0, 0, 0), (7, .iload_n 1, 1, 0, 0, 0), (8, .iconst 3, 1, 0, 0, 0), (9, .if_icmp .ne 16, 3, 25, 0, 0), (12, .iload_n 2, 1, 0, 0, 0), (13, .iconst 2, 1, 0, 0, 0), (14, .if_icmp .eq 9, 3, 23, 0, 0), (17, .iload_n 2, 1, 0, 0, 0), (18, .bipush 15, 2, 0, 0, 0), (20, .if_icmp .lt 5, 3, 25, 0, 0), (23, .iload_n 2, 1, 0, 0, 0), (24, .ireturn, 1, 0, 0, 0), (25, .iload_n 2, 1, 0, 0, 0), (26, .iconst 3, 1, 0, 0, 0), (27, .if_icmp .ne 16, 3, 43, 0, 0), (30, .iload_n 1, 1, 0, 0, 0), (31, .iconst 2, 1, 0, 0, 0), (32, .if_icmp .eq 9, 3, 41, 0, 0), (35, .iload_n 1, 1, 0, 0, 0), (36, .bipush 15, 2, 0, 0, 0), (38, .if_icmp .lt 5, 3, 43, 0, 0), (41, .iload_n 1, 1, 0, 0, 0), (42, .ireturn, 1, 0, 0, 0), (43, .iload_n 1, 1, 0, 0, 0), (44, .bipush 15, 2, 0, 0, 0), (46, .if_icmp .lt 9, 3, 55, 0, 0), (49, .iload_n 2, 1, 0, 0, 0), (50, .bipush 15, 2, 0, 0, 0), (52, .if_icmp .ge 5, 3, 57, 0, 0), (55, .iconst 0, 1, 0, 0, 0), (56, .ireturn, 1, 0, 0, 0), (57, .iload_n 1, 1, 0, 0, 0), (58, .bipush 15, 2, 0, 0, 0), (60, .if_icmp .eq 9, 3, 69, 0, 0), (63, .iload_n 2, 1, 0, 0, 0), (64, .bipush 15, 2, 0, 0, 0), (66, .if_icmp .ne 6, 3, 72, 0, 0), (69, .bipush 15, 2, 0, 0, 0), (71, .ireturn, 1, 0, 0, 0), (72, .iload_n 1, 1, 0, 0, 0), (73, .bipush 16, 2, 0, 0, 0), (75, .isub, 1, 0, 0, 0), (76, .istore_n 3, 1, 0, 0, 0), (77, .iload_n 3, 1, 0, 0, 0), (78, .ifCond .lt 30, 3, 108, 0, 0), (81, .aload_n 0, 1, 0, 0, 0), (82, .iload_n 2, 1, 0, 0, 0), (83, .bipush 16, 2, 0, 0, 0), (85, .isub, 1, 0, 0, 0), (86, .iload_n 3, 1, 0, 0, 0), (87, .invokevirtual 211, 3, 153, 12, 2), (90, .ifCond .eq 8, 3, 98, 0, 0), (93, .bipush 16, 2, 0, 0, 0), (95, .iload_n 3, 1, 0, 0, 0), (96, .iadd, 1, 0, 0, 0), (97, .ireturn, 1, 0, 0, 0), (98, .aload_n 0, 1, 0, 0, 0), (99, .getfield 19, 3, 12, 12, 0), (102, .iload_n 3, 1, 0, 0, 0), (103, .iaload, 1, 0, 0, 0), (104, .istore_n 3, 1, 0, 0, 0), (105, .goto (-28), 3, 77, 0, 0), (108, .bipush 15, 2, 0, 0, 0), (110, .ireturn, 1, 0, 0, 0)]
/-- TierMillModel.merge(IIZ)Z -/
def e_d170 : List (Nat × Instr × Nat × Nat × Nat × Int) := [(0, .bipush 120, 2, 0, 0, 0), (2, .iload_n 1, 1, 0, 0, 0), (3, .imul, 1, 0, 0, 0), (4, .iload_n 2, 1, 0, 0, 0), (5, .iadd, 1, 0, 0, 0), (6, .istore 4, 2, 0, 0, 0), (8, .aload_n 0, 1, 0, 0, 0), (9, .getfield 65, 3, 12, 29, 0), (12, .iload 4, 2, 0, 0, 0), (14, .iaload, 1, 0, 0, 0), (15, .bipush (-2), 2, 0, 0, 0), (17, .if_icmp .ne 5, 3, 22, 0, 0), (20, .iconst 0, 1, 0, 0, 0), (21, .ireturn, 1, 0, 0, 0), (22, .iload_n 3, 1, 0, 0, 0), (23, .ifCond .ne 28, 3, 51, 0, 0), (26, .aload_n 0, 1, 0, 0, 0), (27, .getfield 65, 3, 12, 29, 0), (30, .iload 4, 2, 0, 0, 0), (32, .iaload, 1, 0, 0, 0), (33, .iconst (-1), 1, 0, 0, 0), (34, .if_icmp .eq 28, 3, 62, 0, 0), (37, .aload_n 0, 1, 0, 0, 0), (38, .getfield 65, 3, 12, 29, 0), (41, .iload 4, 2, 0, 0, 0), (43, .iaload, 1, 0, 0, 0), (44, .aload_n 0, 1, 0, 0, 0), (45, .getfield 296, 3, 12, 32, 0), (48, .if_icmp .eq 14, 3, 62, 0, 0), (51, .aload_n 0, 1, 0, 0, 0), (52, .getfield 65, 3, 12, 29, 0), (55, .iload 4, 2, 0, 0, 0), (57, .bipush (-2), 2, 0, 0, 0), (59, .iastore, 1, 0, 0, 0), (60, .iconst 1, 1, 0, 0, 0), (61, .ireturn, 1, 0, 0, 0), (62, .aload_n 0, 1, 0, 0, 0), (63, .getfield 65, 3, 12, 29, 0), (66, .iload 4, 2, 0, 0, 0), (68, .iaload, 1, 0, 0, 0), (69, .iconst (-1), 1, 0, 0, 0), (70, .if_icmp .ne 7, 3, 77, 0, 0), (73, .iconst 1, 1, 0, 0, 0), (74, .goto 4, 3, 78, 0, 0), (77, .iconst 0, 1, 0, 0, 0), (78, .istore 5, 2, 0, 0, 0), (80, .iconst 0, 1, 0, 0, 0), (81, .istore 6, 2, 0, 0, 0), (83, .iload 6, 2, 0, 0, 0), (85, .bipush 16, 2, 0, 0, 0), (87, .if_icmp .ge 110, 3, 197, 0, 0), (90, .iload 5, 2, 0, 0, 0), (92, .ifCond .eq 13, 3, 105, 0, 0), (95, .aload_n 0, 1, 0, 0, 0), (96, .getfield 71, 3, 12, 31, 0), (99, .iload 6, 2, 0, 0, 0), (101, .iaload, 1, 0, 0, 0), (102, .goto 27, 3, 129, 0, 0), (105, .aload_n 0, 1, 0, 0, 0), (106, .aload_n 0, 1, 0, 0, 0), (107, .getfield 68, 3, 12, 30, 0), (110, .bipush 16, 2, 0, 0, 0), (112, .iload 4, 2, 0, 0, 0), (114, .imul, 1, 0, 0, 0), (115, .iload 6, 2, 0, 0, 0), (117, .iadd, 1, 0, 0, 0), (118, .iaload, 1, 0, 0, 0), (119, .aload_n 0, 1, 0, 0, 0), (120, .getfield 71, 3, 12, 31, 0), (123, .iload 6, 2, 0, 0, 0), (125, .iaload, 1, 0, 0, 0), (126, .invokevirtual 299, 3, 169, 12, 2), (129, .istore 7, 2, 0, 0, 0), (131, .iload 6, 2, 0, 0, 0), (133, .bipush 8, 2, 0, 0, 0), (135, .aload_n 0, 1, 0, 0, 0), (136, .getfield 296, 3, 12, 32, 0), (139, .iadd, 1, 0, 0, 0), (140, .if_icmp .lt 6, 3, 146, 0, 0), (143, .iconst 0, 1, 0, 0, 0), (144, .istore 7, 2, 0, 0, 0), (146, .iload 5, 2, 0, 0, 0), (148, .ifCond .ne 21, 3, 169, 0, 0), (151, .iload 7, 2, 0, 0, 0), (153, .aload_n 0, 1, 0, 0, 0), (154, .getfield 68, 3, 12, 30, 0), (157, .bipush 16, 2, 0, 0, 0), (159, .iload 4, 2, 0, 0, 0), (161, .imul, 1, 0, 0, 0), (162, .iload 6, 2, 0, 0, 0), (164, .iadd, 1, 0, 0, 0), (165, .iaload, 1, 0, 0, 0), (166, .if_icmp .eq 7, 3, 173, 0, 0), (169, .iconst 1, 1, 0, 0, 0), (170, .goto 4, 3, 174, 0, 0), (173, .iconst 0, 1, 0, 0, 0), (174, .istore 5, 2, 0, 0, 0), (176, .aload_n 0, 1, 0, 0, 0), (177, .getfield 68, 3, 12, 30, 0), (180, .bipush 16, 2, 0, 0, 0), (182, .iload 4, 2, 0, 0, 0), (184, .imul, 1, 0, 0, 0), (185, .iload 6, 2, 0, 0, 0), (187, .iadd, 1, 0, 0, 0), (188, .iload 7, 2, 0, 0, 0), (190, .iastore, 1, 0, 0, 0), (191, .iinc 6 1, 3, 0, 0, 0), (194, .goto (-111), 3, 83, 0, 0), (197, .aload_n 0, 1, 0, 0, 0), (198, .getfield 65, 3, 12, 29, 0), (201, .iload 4, 2, 0, 0, 0), (203, .aload_n 0, 1, 0, 0, 0), (204, .getfield 296, 3, 12, 32, 0), (207, .iastore, 1, 0, 0, 0), (208, .iload 5, 2, 0, 0, 0), (210, .ireturn, 1, 0, 0, 0)]
/-- TierMillModel.flow(I)V -/
def e_d171 : List (Nat × Instr × Nat × Nat × Nat × Int) := [(0, .iconst 0, 1, 0, 0, 0), (1, .istore_n 2, 1, 0, 0, 0), (2, .iload_n 2, 1, 0, 0, 0), (3, .bipush 120, 2, 0, 0, 0), (5, .if_icmp .ge 21, 3, 26, 0, 0), (8, .aload_n 0, 1, 0, 0, 0), (9, .getfield 65, 3, 12, 29, 0), (12, .bipush 120, 2, 0, 0, 0), (14, .iload_n 1, 1, 0, 0, 0), (15, .imul, 1, 0, 0, 0), (16, .iload_n 2, 1, 0, 0, 0), (17, .iadd, 1, 0, 0, 0), (18, .iconst (-1), 1, 0, 0, 0), (19, .iastore, 1, 0, 0, 0), (20, .iinc 2 1, 3, 0, 0, 0), (23, .goto (-21), 3, 2, 0, 0), (26, .iconst 0, 1, 0, 0, 0), (27, .istore_n 2, 1, 0, 0, 0), (28, .iload_n 2, 1, 0, 0, 0), (29, .bipush 16, 2, 0, 0, 0), (31, .if_icmp .ge 39, 3, 70, 0, 0), (34, .aload_n 0, 1, 0, 0, 0), (35, .getfield 71, 3, 12, 31, 0), (38, .iload_n 2, 1, 0, 0, 0), (39, .iload_n 2, 1, 0, 0, 0), (40, .aload_n 0, 1, 0, 0, 0), (41, .getfield 37, 3, 12, 20, 0), (44, .iload_n 1, 1, 0, 0, 0), (45, .iaload, 1, 0, 0, 0), (46, .if_icmp .ge 16, 3, 62, 0, 0), (49, .aload_n 0, 1, 0, 0, 0), (50, .getfield 40, 3, 12, 21, 0), (53, .iconst 4, 1, 0, 0, 0), (54, .iload_n 1, 1, 0, 0, 0), (55, .imul, 1, 0, 0, 0), (56, .iload_n 2, 1, 0, 0, 0), (57, .iadd, 1, 0, 0, 0), (58, .iaload, 1, 0, 0, 0), (59, .goto 4, 3, 63, 0, 0), (62, .iconst 0, 1, 0, 0, 0), (63, .iastore, 1, 0, 0, 0), (64, .iinc 2 1, 3, 0, 0, 0), (67, .goto (-39), 3, 28, 0, 0), (70, .aload_n 0, 1, 0, 0, 0), (71, .iconst 0, 1, 0, 0, 0), (72, .putfield 296, 3, 12, 32, 0), (75, .aload_n 0, 1, 0, 0, 0), (76, .iload_n 1, 1, 0, 0, 0), (77, .iconst 0, 1, 0, 0, 0), (78, .iconst 0, 1, 0, 0, 0), (79, .invokevirtual 302, 3, 170, 12, 3), (82, .istore_n 2, 1, 0, 0, 0), (83, .iload_n 2, 1, 0, 0, 0), (84, .ifCond .eq 67, 3, 151, 0, 0), (87, .iconst 0, 1, 0, 0, 0), (88, .istore_n 2, 1, 0, 0, 0), (89, .iconst 0, 1, 0, 0, 0), (90, .istore_n 3, 1, 0, 0, 0), (91, .iload_n 3, 1, 0, 0, 0), (92, .aload_n 0, 1, 0, 0, 0), (93, .getfield 52, 3, 12, 25, 0), (96, .iload_n 1, 1, 0, 0, 0), (97, .iaload, 1, 0, 0, 0), (98, .if_icmp .ge 50, 3, 148, 0, 0), (101, .aload_n 0, 1, 0, 0, 0), (102, .getfield 65, 3, 12, 29, 0), (105, .bipush 120, 2, 0, 0, 0), (107, .iload_n 1, 1, 0, 0, 0), (108, .imul, 1, 0, 0, 0), (109, .iload_n 3, 1, 0, 0, 0), (110, .iadd, 1, 0, 0, 0), (111, .iaload, 1, 0, 0, 0), (112, .iconst (-1), 1, 0, 0, 0), (113, .if_icmp .ne 6, 3, 119, 0, 0), (116, .goto 26, 3, 142, 0, 0), (119, .aload_n 0, 1, 0, 0, 0), (120, .iload_n 1, 1, 0, 0, 0), (121, .iload_n 3, 1, 0, 0, 0), (122, .invokevirtual 306, 3, 172, 12, 2), (125, .istore 4, 2, 0, 0, 0), (127, .iload_n 2, 1, 0, 0, 0), (128, .ifCond .ne 8, 3, 136, 0, 0), (131, .iload 4, 2, 0, 0, 0), (133, .ifCond .eq 7, 3, 140, 0, 0), (136, .iconst 1, 1, 0, 0, 0), (137, .goto 4, 3, 141, 0, 0), (140, .iconst 0, 1, 0, 0, 0), (141, .istore_n 2, 1, 0, 0, 0), (142, .iinc 3 1, 3, 0, 0, 0), (145, .goto (-54), 3, 91, 0, 0), (148, .goto (-65), 3, 83, 0, 0), (151, .return_, 1, 0, 0, 0)]
/-- TierMillModel.goOn(II)Z -/
def e_d172 : List (Nat × Instr × Nat × Nat × Nat × Int) := [(0, .aload_n 0, 1, 0, 0, 0), (1, .iload_n 1, 1, 0, 0, 0), (2, .iload_n 2, 1, 0, 0, 0), (3, .invokevirtual 237, 3, 158, 12, 2), (6, .istore_n 3, 1, 0, 0, 0), (7, .aload_n 0, 1, 0, 0, 0), (8, .getfield 65, 3, 12, 29, 0), (11, .bipush 120, 2, 0, 0, 0), (13, .iload_n 1, 1, 0, 0, 0), (14, .imul, 1, 0, 0, 0), (15, .iload_n 2, 1, 0, 0, 0), (16, .iadd, 1, 0, 0, 0), (17, .iaload, 1, 0, 0, 0), (18, .bipush (-2), 2, 0, 0, 0), (20, .if_icmp .ne 7, 3, 27, 0, 0), (23, .iconst 1, 1, 0, 0, 0), (24, .goto 4, 3, 28, 0, 0), (27, .iconst 0, 1, 0, 0, 0), (28, .istore 4, 2, 0, 0, 0), (30, .iload 4, 2, 0, 0, 0), (32, .ifCond .ne 36, 3, 68, 0, 0), (35, .aload_n 0, 1, 0, 0, 0), (36, .iload_n 1, 1, 0, 0, 0), (37, .iload_n 2, 1, 0, 0, 0), (38, .invokevirtual 309, 3, 177, 12, 2), (41, .aload_n 0, 1, 0, 0, 0), (42, .getfield 312, 3, 12, 33, 0), (45, .ifCond .ne 16, 3, 61, 0, 0), (48, .aload_n 0, 1, 0, 0, 0), (49, .getfield 296, 3, 12, 32, 0), (52, .aload_n 0, 1, 0, 0, 0), (53, .getfield 49, 3, 12, 24, 0), (56, .iload_n 1, 1, 0, 0, 0), (57, .iaload, 1, 0, 0, 0), (58, .if_icmp .le 7, 3, 65, 0, 0), (61, .iconst 1, 1, 0, 0, 0), (62, .goto 4, 3, 66, 0, 0), (65, .iconst 0, 1, 0, 0, 0), (66, .istore 4, 2, 0, 0, 0), (68, .iconst 0, 1, 0, 0, 0), (69, .istore 5, 2, 0, 0, 0), (71, .iload_n 3, 1, 0, 0, 0), (72, .bipush 21, 2, 0, 0, 0), (74, .if_icmp .lt 26, 3, 100, 0, 0), (77, .iload_n 3, 1, 0, 0, 0), (78, .bipush 37, 2, 0, 0, 0), (80, .if_icmp .gt 20, 3, 100, 0, 0), (83, .aload_n 0, 1, 0, 0, 0), (84, .iload_n 1, 1, 0, 0, 0), (85, .aload_n 0, 1, 0, 0, 0), (86, .iload_n 1, 1, 0, 0, 0), (87, .iload_n 2, 1, 0, 0, 0), (88, .iconst 1, 1, 0, 0, 0), (89, .iadd, 1, 0, 0, 0), (90, .invokevirtual 237, 3, 158, 12, 2), (93, .iload 4, 2, 0, 0, 0), (95, .invokevirtual 302, 3, 170, 12, 3), (98, .istore 5, 2, 0, 0, 0), (100, .iconst 0, 1, 0, 0, 0), (101, .istore 6, 2, 0, 0, 0), (103, .iload_n 3, 1, 0, 0, 0), (104, .bipush 53, 2, 0, 0, 0), (106, .if_icmp .ne 59, 3, 165, 0, 0), (109, .iload 6, 2, 0, 0, 0), (111, .aload_n 0, 1, 0, 0, 0), (112, .iload_n 1, 1, 0, 0, 0), (113, .iload_n 2, 1, 0, 0, 0), (114, .iconst 1, 1, 0, 0, 0), (115, .iadd, 1, 0, 0, 0), (116, .invokevirtual 237, 3, 158, 12, 2), (119, .if_icmp .gt 46, 3, 165, 0, 0), (122, .aload_n 0, 1, 0, 0, 0), (123, .iload_n 1, 1, 0, 0, 0), (124, .aload_n 0, 1, 0, 0, 0), (125, .iload_n 1, 1, 0, 0, 0), (126, .iload_n 2, 1, 0, 0, 0), (127, .iconst 2, 1, 0, 0, 0), (128, .iadd, 1, 0, 0, 0), (129, .iload 6, 2, 0, 0, 0), (131, .iadd, 1, 0, 0, 0), (132, .invokevirtual 237, 3, 158, 12, 2), (135, .iload 4, 2, 0, 0, 0), (137, .invokevirtual 302, 3, 170, 12, 3), (140, .istore 7, 2, 0, 0, 0), (142, .iload 5, 2, 0, 0, 0), (144, .ifCond .ne 8, 3, 152, 0, 0), (147, .iload 7, 2, 0, 0, 0), (149, .ifCond .eq 7, 3, 156, 0, 0), (152, .iconst 1, 1, 0, 0, 0), (153, .goto 4, 3, 157, 0, 0), (156, .iconst 0, 1, 0, 0, 0), (157, .istore 5, 2, 0, 0, 0), (159, .iinc 6 1, 3, 0, 0, 0), (162, .goto (-59), 3, 103, 0, 0), (165, .iload_n 3, 1, 0, 0, 0), (166, .bipush 21, 2, 0, 0, 0), (168, .if_icmp .eq 55, 3, 223, 0, 0), (171, .iload_n 3, 1, 0, 0, 0), (172, .bipush 49, 2, 0, 0, 0), (174, .if_icmp .eq 49, 3, 223, 0, 0), (177, .iload_n 3, 1, 0, 0, 0), (178, .bipush 50, 2, 0, 0, 0), (180, .if_icmp .eq 43, 3, 223, 0, 0), (183, .iload_n 3, 1, 0, 0, 0), (184, .bipush 53, 2, 0, 0, 0), (186, .if_icmp .eq 37, 3, 223, 0, 0), (189, .aload_n 0, 1, 0, 0, 0), (190, .iload_n 1, 1, 0, 0, 0), (191, .iload_n 2, 1, 0, 0, 0), (192, .aload_n 0, 1, 0, 0, 0), (193, .iload_n 1, 1, 0, 0, 0), (194, .iload_n 2, 1, 0, 0, 0), (195, .invokevirtual 244, 3, 159, 12, 2), (198, .iadd, 1, 0, 0, 0), (199, .iload 4, 2, 0, 0, 0), (201, .invokevirtual 302, 3, 170, 12, 3), (204, .istore 6, 2, 0, 0, 0), (206, .iload 5, 2, 0, 0, 0), (208, .ifCond .ne 8, 3, 216, 0, 0), (211, .iload 6, 2, 0, 0, 0), (213, .ifCond .eq 7, 3, 220, 0, 0), (216, .iconst 1, 1, 0, 0, 0), (217, .goto 4, 3, 221, 0, 0), (220, .iconst 0, 1, 0, 0, 0), (221, .istore 5, 2, 0, 0, 0), (223, .iload 5, 2, 0, 0, 0), (225, .ireturn, 1, 0, 0, 0)]
/-- TierMillModel.popKind()I -/
def e_d173 : List (Nat × Instr × Nat × Nat × Nat × Int) := [(0, .aload_n 0, 1, 0, 0, 0), (1, .getfield 296, 3, 12, 32, 0), (4, .ifCond .ne 10, 3, 14, 0, 0), (7, .aload_n 0, 1, 0, 0, 0), (8, .iconst 1, 1, 0, 0, 0), (9, .putfield 312, 3, 12, 33, 0), (12, .iconst 0, 1, 0, 0, 0), (13, .ireturn, 1, 0, 0, 0), (14, .aload_n 0, 1, 0, 0, 0), (15, .dup, 1, 0, 0, 0), (16, .getfield 296, 3, 12, 32, 0), (19, .iconst 1, 1, 0, 0, 0), (20, .isub, 1, 0, 0, 0), (21, .putfield 296, 3, 12, 32, 0), (24, .aload_n 0, 1, 0, 0, 0), (25, .getfield 71, 3, 12, 31, 0), (28, .bipush 8, 2, 0, 0, 0), (30, .aload_n 0, 1, 0, 0, 0), (31, .getfield 296, 3, 12, 32, 0), (34, .iadd, 1, 0, 0, 0), (35, .iaload, 1, 0, 0, 0), (36, .ireturn, 1, 0, 0, 0)]
/-- TierMillModel.pushKind(I)V -/
def e_d174 : List (Nat × Instr × Nat × Nat × Nat × Int) := [(0, .aload_n 0, 1, 0, 0, 0), (1, .getfield 296, 3, 12, 32, 0), (4, .bipush 8, 2, 0, 0, 0), (6, .if_icmp .ge 16, 3, 22, 0, 0), (9, .aload_n 0, 1, 0, 0, 0), (10, .getfield 71, 3, 12, 31, 0), (13, .bipush 8, 2, 0, 0, 0), (15, .aload_n 0, 1, 0, 0, 0), (16, .getfield 296, 3, 12, 32, 0), (19, .iadd, 1, 0, 0, 0), (20, .iload_n 1, 1, 0, 0, 0), (21, .iastore, 1, 0, 0, 0), (22, .aload_n 0, 1, 0, 0, 0), (23, .dup, 1, 0, 0, 0), (24, .getfield 296, 3, 12, 32, 0), (27, .iconst 1, 1, 0, 0, 0), (28, .iadd, 1, 0, 0, 0), (29, .putfield 296, 3, 12, 32, 0), (32, .return_, 1, 0, 0, 0)]
/-- TierMillModel.drop(I)V -/
def e_d175 : List (Nat × Instr × Nat × Nat × Nat × Int) := [(0, .iconst 0, 1, 0, 0, 0), (1, .istore_n 2, 1, 0, 0, 0), (2, .iload_n 2, 1, 0, 0, 0), (3, .iload_n 1, 1, 0, 0, 0), (4, .if_icmp .ge 14, 3, 18, 0, 0), (7, .aload_n 0, 1, 0, 0, 0), (8, .invokevirtual 315, 3, 173, 12, 0), (11, .pop, 1, 0, 0, 0), (12, .iinc 2 1, 3, 0, 0, 0), (15, .goto (-13), 3, 2, 0, 0), (18, .return_, 1, 0, 0, 0)]
/-- TierMillModel.takes(II)I -/
def e_d176 : List (Nat × Instr × Nat × Nat × Nat × Int) := [(0, .aload_n 0, 1, 0, 0, 0), (1, .iload_n 1, 1, 0, 0, 0), (2, .iload_n 2, 1, 0, 0, 0), (3, .invokevirtual 237, 3, 158, 12, 2), (6, .istore_n 3, 1, 0, 0, 0), (7, .iload_n 3, 1, 0, 0, 0), (8, .tableswitch 252 4 53 #[216, 216, 216, 218, 252, 252, 252, 252, 252, 252, 252, 252, 252, 252, 252, 216, 252, 252, 252, 252, 252, 252, 252, 252, 252, 252, 252, 252, 252, 252, 216, 216, 218, 218, 252, 216, 218, 216, 218, 220, 216, 216, 216, 222, 236, 252, 216, 216, 252, 216], 216, 0, 0, 0), (224, .iconst 1, 1, 0, 0, 0), (225, .ireturn, 1, 0, 0, 0), (226, .iconst 2, 1, 0, 0, 0), (227, .ireturn, 1, 0, 0, 0), (228, .iconst 3, 1, 0, 0, 0), (229, .ireturn, 1, 0, 0, 0), (230, .aload_n 0, 1, 0, 0, 0), (231, .getfield 37, 3, 12, 20, 0), (234, .aload_n 0, 1, 0, 0, 0), (235, .iload_n 1, 1, 0, 0, 0), (236, .iload_n 2, 1, 0, 0, 0), (237, .iconst 1, 1, 0, 0, 0), (238, .iadd, 1, 0, 0, 0), (239, .invokevirtual 237, 3, 158, 12, 2), (242, .iaload, 1, 0, 0, 0), (243, .ireturn, 1, 0, 0, 0), (244, .iconst 1, 1, 0, 0, 0), (245, .aload_n 0, 1, 0, 0, 0), (246, .getfield 28, 3, 12, 16, 0), (249, .aload_n 0, 1, 0, 0, 0), (250, .iload_n 1, 1, 0, 0, 0), (251, .iload_n 2, 1, 0, 0, 0), (252, .iconst 1, 1, 0, 0, 0), (253, .iadd, 1, 0, 0, 0), (254, .invokevirtual 237, 3, 158, 12, 2), (257, .iaload, 1, 0, 0, 0), (258, .iadd, 1, 0, 0, 0), (259, .ireturn, 1, 0, 0, 0), (260, .iload_n 3, 1, 0, 0, 0), (261, .bipush 8, 2, 0, 0, 0), (263, .if_icmp .lt 9, 3, 272, 0, 0), (266, .iload_n 3, 1, 0, 0, 0), (267, .bipush 18, 2, 0, 0, 0), (269, .if_icmp .le 15, 3, 284, 0, 0), (272, .iload_n 3, 1, 0, 0, 0), (273, .bipush 28, 2, 0, 0, 0), (275, .if_icmp .lt 13, 3, 288, 0, 0), (278, .iload_n 3, 1, 0, 0, 0), (279, .bipush 33, 2, 0, 0, 0), (281, .if_icmp .gt 7, 3, 288, 0, 0), (284, .iconst 2, 1, 0, 0, 0), (285, .goto 20, 3, 305, 0, 0), (288, .iload_n 3, 1, 0, 0, 0), (289, .bipush 22, 2, 0, 0, 0), (291, .if_icmp .lt 13, 3, 304, 0, 0), (294, .iload_n 3, 1, 0, 0, 0), (295, .bipush 27, 2, 0, 0, 0), (297, .if_icmp .gt 7, 3, 304, 0, 0), (300, .iconst 1, 1, 0, 0, 0), (301, .goto 4, 3, 305, 0, 0), (304, .iconst 0, 1, 0, 0, 0), (305, .ireturn, 1, 0, 0, 0)]
/-- TierMillModel.behind(II)V -/
def e_d177 : List (Nat × Instr × Nat × Nat × Nat × Int) := [(0, .bipush 120, 2, 0, 0, 0), (2, .iload_n 1, 1, 0, 0, 0), (3, .imul, 1, 0, 0, 0), (4, .iload_n 2, 1, 0, 0, 0), (5, .iadd, 1, 0, 0, 0), (6, .istore_n 3, 1, 0, 0, 0), (7, .aload_n 0, 1, 0, 0, 0), (8, .iload_n 1, 1, 0, 0, 0), (9, .iload_n 2, 1, 0, 0, 0), (10, .invokevirtual 237, 3, 158, 12, 2), (13, .istore 4, 2, 0, 0, 0), (15, .aload_n 0, 1, 0, 0, 0), (16, .getfield 52, 3, 12, 25, 0), (19, .iload_n 1, 1, 0, 0, 0), (20, .iaload, 1, 0, 0, 0), (21, .iload_n 2, 1, 0, 0, 0), (22, .iconst 1, 1, 0, 0, 0), (23, .iadd, 1, 0, 0, 0), (24, .if_icmp .le 14, 3, 38, 0, 0), (27, .aload_n 0, 1, 0, 0, 0), (28, .iload_n 1, 1, 0, 0, 0), (29, .iload_n 2, 1, 0, 0, 0), (30, .iconst 1, 1, 0, 0, 0), (31, .iadd, 1, 0, 0, 0), (32, .invokevirtual 237, 3, 158, 12, 2), (35, .goto 4, 3, 39, 0, 0), (38, .iconst 0, 1, 0, 0, 0), (39, .istore 5, 2, 0, 0, 0), (41, .iconst 0, 1, 0, 0, 0), (42, .istore 6, 2, 0, 0, 0), (44, .iload 6, 2, 0, 0, 0), (46, .bipush 16, 2, 0, 0, 0), (48, .if_icmp .ge 28, 3, 76, 0, 0), (51, .aload_n 0, 1, 0, 0, 0), (52, .getfield 71, 3, 12, 31, 0), (55, .iload 6, 2, 0, 0, 0), (57, .aload_n 0, 1, 0, 0, 0), (58, .getfield 68, 3, 12, 30, 0), (61, .bipush 16, 2, 0, 0, 0), (63, .iload_n 3, 1, 0, 0, 0), (64, .imul, 1, 0, 0, 0), (65, .iload 6, 2, 0, 0, 0), (67, .iadd, 1, 0, 0, 0), (68, .iaload, 1, 0, 0, 0), (69, .iastore, 1, 0, 0, 0), (70, .iinc 6 1, 3, 0, 0, 0), (73, .goto (-29), 3, 44, 0, 0), (76, .aload_n 0, 1, 0, 0, 0), (77, .aload_n 0, 1, 0, 0, 0), (78, .getfield 65, 3, 12, 29, 0), (81, .iload_n 3, 1, 0, 0, 0), (82, .iaload, 1, 0, 0, 0), (83, .putfield 296, 3, 12, 32, 0), (86, .aload_n 0, 1, 0, 0, 0), (87, .iconst 0, 1, 0, 0, 0), (88, .putfield 312, 3, 12, 33, 0), (91, .aload_n 0, 1, 0, 0, 0), (92, .getfield 296, 3, 12, 32, 0), (95, .ifCond .le 18, 3, 113, 0, 0), (98, .aload_n 0, 1, 0, 0, 0), (99, .getfield 71, 3, 12, 31, 0), (102, .bipush 7, 2, 0, 0, 0), (104, .aload_n 0, 1, 0, 0, 0), (105, .getfield 296, 3, 12, 32, 0), (108, .iadd, 1, 0, 0, 0), (109, .iaload, 1, 0, 0, 0), (110, .goto 4, 3, 114, 0, 0), (113, .iconst 0, 1, 0, 0, 0), (114, .istore 6, 2, 0, 0, 0), (116, .aload_n 0, 1, 0, 0, 0), (117, .getfield 296, 3, 12, 32, 0), (120, .iconst 1, 1, 0, 0, 0), (121, .if_icmp .le 18, 3, 139, 0, 0), (124, .aload_n 0, 1, 0, 0, 0), (125, .getfield 71, 3, 12, 31, 0), (128, .bipush 6, 2, 0, 0, 0), (130, .aload_n 0, 1, 0, 0, 0), (131, .getfield 296, 3, 12, 32, 0), (134, .iadd, 1, 0, 0, 0), (135, .iaload, 1, 0, 0, 0), (136, .goto 4, 3, 140, 0, 0), (139, .iconst 0, 1, 0, 0, 0), (140, .istore 7, 2, 0, 0, 0), (142, .aload_n 0, 1, 0, 0, 0), (143, .aload_n 0, 1, 0, 0, 0), (144, .iload_n 1, 1, 0, 0, 0), (145, .iload_n 2, 1, 0, 0, 0), (146, .invokevirtual 319, 3, 176, 12, 2), (149, .invokevirtual 322, 3, 175, 12, 1), (152, .iload 4, 2, 0, 0, 0), (154, .tableswitch 392 0 52 #[226, 226, 234, 242, 256, 392, 268, 283, 392, 392, 392, 392, 392, 392, 392, 392, 392, 392, 392, 392, 392, 392, 392, 392, 392, 392, 392, 392, 392, 392, 392, 392, 392, 392, 392, 392, 392, 392, 298, 310, 392, 336, 226, 392, 226, 226, 298, 344, 368, 392, 392, 392, 226], 226, 0, 0, 0), (380, .aload_n 0, 1, 0, 0, 0), (381, .iconst 1, 1, 0, 0, 0), (382, .invokevirtual 325, 3, 174, 12, 1), (385, .goto 180, 3, 565, 0, 0), (388, .aload_n 0, 1, 0, 0, 0), (389, .iconst 3, 1, 0, 0, 0), (390, .invokevirtual 325, 3, 174, 12, 1), (393, .goto 172, 3, 565, 0, 0), (396, .aload_n 0, 1, 0, 0, 0), (397, .aload_n 0, 1, 0, 0, 0), (398, .getfield 71, 3, 12, 31, 0), (401, .iload 5, 2, 0, 0, 0), (403, .iaload, 1, 0, 0, 0), (404, .invokevirtual 325, 3, 174, 12, 1), (407, .goto 158, 3, 565, 0, 0), (410, .aload_n 0, 1, 0, 0, 0), (411, .getfield 71, 3, 12, 31, 0), (414, .iload 5, 2, 0, 0, 0), (416, .iload 6, 2, 0, 0, 0), (418, .iastore, 1, 0, 0, 0), (419, .goto 146, 3, 565, 0, 0), (422, .aload_n 0, 1, 0, 0, 0), (423, .iload 6, 2, 0, 0, 0), (425, .invokevirtual 325, 3, 174, 12, 1), (428, .aload_n 0, 1, 0, 0, 0), (429, .iload 6, 2, 0, 0, 0), (431, .invokevirtual 325, 3, 174, 12, 1), (434, .goto 131, 3, 565, 0, 0), (437, .aload_n 0, 1, 0, 0, 0), (438, .iload 6, 2, 0, 0, 0), (440, .invokevirtual 325, 3, 174, 12, 1), (443, .aload_n 0, 1, 0, 0, 0), (444, .iload 7, 2, 0, 0, 0), (446, .invokevirtual 325, 3, 174, 12, 1), (449, .goto 116, 3, 565, 0, 0), (452, .aload_n 0, 1, 0, 0, 0), (453, .bipush 16, 2, 0, 0, 0), (455, .iload 5, 2, 0, 0, 0), (457, .iadd, 1, 0, 0, 0), (458, .invokevirtual 325, 3, 174, 12, 1), (461, .goto 104, 3, 565, 0, 0), (464, .aload_n 0, 1, 0, 0, 0), (465, .aload_n 0, 1, 0, 0, 0), (466, .getfield 25, 3, 12, 14, 0), (469, .bipush 8, 2, 0, 0, 0), (471, .iload 5, 2, 0, 0, 0), (473, .imul, 1, 0, 0, 0), (474, .aload_n 0, 1, 0, 0, 0), (475, .iload_n 1, 1, 0, 0, 0), (476, .iload_n 2, 1, 0, 0, 0), (477, .iconst 2, 1, 0, 0, 0), (478, .iadd, 1, 0, 0, 0), (479, .invokevirtual 237, 3, 158, 12, 2), (482, .iadd, 1, 0, 0, 0), (483, .iaload, 1, 0, 0, 0), (484, .invokevirtual 325, 3, 174, 12, 1), (487, .goto 78, 3, 565, 0, 0), (490, .aload_n 0, 1, 0, 0, 0), (491, .iconst 2, 1, 0, 0, 0), (492, .invokevirtual 325, 3, 174, 12, 1), (495, .goto 70, 3, 565, 0, 0), (498, .aload_n 0, 1, 0, 0, 0), (499, .getfield 43, 3, 12, 22, 0), (502, .iload 5, 2, 0, 0, 0), (504, .iaload, 1, 0, 0, 0), (505, .ifCond .le 60, 3, 565, 0, 0), (508, .aload_n 0, 1, 0, 0, 0), (509, .aload_n 0, 1, 0, 0, 0), (510, .getfield 43, 3, 12, 22, 0), (513, .iload 5, 2, 0, 0, 0), (515, .iaload, 1, 0, 0, 0), (516, .invokevirtual 325, 3, 174, 12, 1), (519, .goto 46, 3, 565, 0, 0), (522, .aload_n 0, 1, 0, 0, 0), (523, .getfield 34, 3, 12, 18, 0), (526, .iload 5, 2, 0, 0, 0), (528, .iaload, 1, 0, 0, 0), (529, .ifCond .le 36, 3, 565, 0, 0), (532, .aload_n 0, 1, 0, 0, 0), (533, .aload_n 0, 1, 0, 0, 0), (534, .getfield 34, 3, 12, 18, 0), (537, .iload 5, 2, 0, 0, 0), (539, .iaload, 1, 0, 0, 0), (540, .invokevirtual 325, 3, 174, 12, 1), (543, .goto 22, 3, 565, 0, 0), (546, .iload 4, 2, 0, 0, 0), (548, .bipush 8, 2, 0, 0, 0), (550, .if_icmp .lt 15, 3, 565, 0, 0), (553, .iload 4, 2, 0, 0, 0), (555, .bipush 19, 2, 0, 0, 0), (557, .if_icmp .gt 8, 3, 565, 0, 0), (560, .aload_n 0, 1, 0, 0, 0), (561, .iconst 1, 1, 0, 0, 0), (562, .invokevirtual 325, 3, 174, 12, 1), (565, .return_, 1, 0, 0, 0)]
/-- TierMillModel.fits(II)Z -/
def e_d178 : List (Nat × Instr × Nat × Nat × Nat × Int) := [(0, .iload_n 1, 1, 0, 0, 0), (1, .iload_n 2, 1, 0, 0, 0), (2, .if_icmp .eq 40, 3, 42, 0, 0), (5, .iload_n 1, 1, 0, 0, 0), (6, .iconst 3, 1, 0, 0, 0), (7, .if_icmp .ne 8, 3, 15, 0, 0), (10, .iload_n 2, 1, 0, 0, 0), (11, .iconst 1, 1, 0, 0, 0), (12, .if_icmp .ne 30, 3, 42, 0, 0), (15, .iload_n 1, 1, 0, 0, 0), (16, .bipush 16, 2, 0, 0, 0), (18, .if_icmp .lt 28, 3, 46, 0, 0), (21, .iload_n 2, 1, 0, 0, 0), (22, .bipush 16, 2, 0, 0, 0), (24, .if_icmp .lt 22, 3, 46, 0, 0), (27, .aload_n 0, 1, 0, 0, 0), (28, .iload_n 1, 1, 0, 0, 0), (29, .bipush 16, 2, 0, 0, 0), (31, .isub, 1, 0, 0, 0), (32, .iload_n 2, 1, 0, 0, 0), (33, .bipush 16, 2, 0, 0, 0), (35, .isub, 1, 0, 0, 0), (36, .invokevirtual 207, 3, 152, 12, 2), (39, .ifCond .eq 7, 3, 46, 0, 0), (42, .iconst 1, 1, 0, 0, 0), (43, .goto 4, 3, 47, 0, 0), (46, .iconst 0, 1, 0, 0, 0), (47, .ireturn, 1, 0, 0, 0)]
/-- TierMillModel.isThing(I)Z -/
def e_d179 : List (Nat × Instr × Nat × Nat × Nat × Int) := [(0, .iload_n 0, 1, 0, 0, 0), (1, .iconst 1, 1, 0, 0, 0), (2, .if_icmp .eq 11, 3, 13, 0, 0), (5, .iload_n 0, 1, 0, 0, 0), (6, .ifCond .eq 7, 3, 13, 0, 0), (9, .iconst 1, 1, 0, 0, 0), (10, .goto 4, 3, 14, 0, 0), (13, .iconst 0, 1, 0, 0, 0), (14, .ireturn, 1, 0, 0, 0)]
/-- TierMillModel.isWrong(II)Z -/
def e_d180 : List (Nat × Instr × Nat × Nat × Nat × Int) := [(0, .bipush 120, 2, 0, 0, 0), (2, .iload_n 1, 1, 0, 0, 0), (3, .imul, 1, 0, 0, 0), (4, .iload_n 2, 1, 0, 0, 0), (5, .iadd, 1, 0, 0, 0), (6, .istore_n 3, 1, 0, 0, 0), (7, .aload_n 0, 1, 0, 0, 0), (8, .getfield 65, 3, 12, 29, 0), (11, .iload_n 3, 1, 0, 0, 0), (12, .iaload, 1, 0, 0, 0), (13, .bipush (-2), 2, 0, 0, 0), (15, .if_icmp .ne 5, 3, 20, 0, 0), (18, .iconst 1, 1, 0, 0, 0), (19, .ireturn, 1, 0, 0, 0), (20, .aload_n 0, 1, 0, 0, 0), (21, .iload_n 1, 1, 0, 0, 0), (22, .iload_n 2, 1, 0, 0, 0), (23, .invokevirtual 309, 3, 177, 12, 2), (26, .aload_n 0, 1, 0, 0, 0), (27, .getfield 312, 3, 12, 33, 0), (30, .ifCond .ne 16, 3, 46, 0, 0), (33, .aload_n 0, 1, 0, 0, 0), (34, .getfield 296, 3, 12, 32, 0), (37, .aload_n 0, 1, 0, 0, 0), (38, .getfield 49, 3, 12, 24, 0), (41, .iload_n 1, 1, 0, 0, 0), (42, .iaload, 1, 0, 0, 0), (43, .if_icmp .le 5, 3, 48, 0, 0), (46, .iconst 1, 1, 0, 0, 0), (47, .ireturn, 1, 0, 0, 0), (48, .bipush 16, 2, 0, 0, 0), (50, .iload_n 3, 1, 0, 0, 0), (51, .imul, 1, 0, 0, 0), (52, .bipush 8, 2, 0, 0, 0), (54, .iadd, 1, 0, 0, 0), (55, .aload_n 0, 1, 0, 0, 0), (56, .getfield 65, 3, 12, 29, 0), (59, .iload_n 3, 1, 0, 0, 0), (60, .iaload, 1, 0, 0, 0), (61, .iadd, 1, 0, 0, 0), (62, .istore 4, 2, 0, 0, 0), (64, .aload_n 0, 1, 0, 0, 0), (65, .iload_n 1, 1, 0, 0, 0), (66, .iload_n 2, 1, 0, 0, 0), (67, .invokevirtual 237, 3, 158, 12, 2), (70, .istore 5, 2, 0, 0, 0), (72, .aload_n 0, 1, 0, 0, 0), (73, .getfield 52, 3, 12, 25, 0), (76, .iload_n 1, 1, 0, 0, 0), (77, .iaload, 1, 0, 0, 0), (78, .iload_n 2, 1, 0, 0, 0), (79, .iconst 1, 1, 0, 0, 0), (80, .iadd, 1, 0, 0, 0), (81, .if_icmp .le 14, 3, 95, 0, 0), (84, .aload_n 0, 1, 0, 0, 0), (85, .iload_n 1, 1, 0, 0, 0), (86, .iload_n 2, 1, 0, 0, 0), (87, .iconst 1, 1, 0, 0, 0), (88, .iadd, 1, 0, 0, 0), (89, .invokevirtual 237, 3, 158, 12, 2), (92, .goto 4, 3, 96, 0, 0), (95, .iconst 0, 1, 0, 0, 0), (96, .istore 6, 2, 0, 0, 0), (98, .aload_n 0, 1, 0, 0, 0), (99, .getfield 65, 3, 12, 29, 0), (102, .iload_n 3, 1, 0, 0, 0), (103, .iaload, 1, 0, 0, 0), (104, .ifCond .le 15, 3, 119, 0, 0), (107, .aload_n 0, 1, 0, 0, 0), (108, .getfield 68, 3, 12, 30, 0), (111, .iload 4, 2, 0, 0, 0), (113, .iconst 1, 1, 0, 0, 0), (114, .isub, 1, 0, 0, 0), (115, .iaload, 1, 0, 0, 0), (116, .goto 4, 3, 120, 0, 0), (119, .iconst 0, 1, 0, 0, 0), (120, .istore 7, 2, 0, 0, 0), (122, .aload_n 0, 1, 0, 0, 0), (123, .getfield 65, 3, 12, 29, 0), (126, .iload_n 3, 1, 0, 0, 0), (127, .iaload, 1, 0, 0, 0), (128, .iconst 1, 1, 0, 0, 0), (129, .if_icmp .le 15, 3, 144, 0, 0), (132, .aload_n 0, 1, 0, 0, 0), (133, .getfield 68, 3, 12, 30, 0), (136, .iload 4, 2, 0, 0, 0), (138, .iconst 2, 1, 0, 0, 0), (139, .isub, 1, 0, 0, 0), (140, .iaload, 1, 0, 0, 0), (141, .goto 4, 3, 145, 0, 0), (144, .iconst 0, 1, 0, 0, 0), (145, .istore 8, 2, 0, 0, 0), (147, .iload 5, 2, 0, 0, 0), (149, .tableswitch 738 3 53 #[219, 240, 240, 240, 251, 738, 738, 738, 738, 738, 738, 738, 738, 738, 738, 738, 267, 279, 738, 738, 738, 738, 738, 738, 738, 738, 738, 738, 738, 738, 738, 301, 301, 315, 315, 738, 363, 383, 267, 431, 453, 488, 504, 504, 524, 586, 693, 708, 267, 738, 267], 219, 0, 0, 0), (368, .aload_n 0, 1, 0, 0, 0), (369, .getfield 68, 3, 12, 30, 0), (372, .bipush 16, 2, 0, 0, 0), (374, .iload_n 3, 1, 0, 0, 0), (375, .imul, 1, 0, 0, 0), (376, .iload 6, 2, 0, 0, 0), (378, .iadd, 1, 0, 0, 0), (379, .iaload, 1, 0, 0, 0), (380, .ifCond .ne 7, 3, 387, 0, 0), (383, .iconst 1, 1, 0, 0, 0), (384, .goto 4, 3, 388, 0, 0), (387, .iconst 0, 1, 0, 0, 0), (388, .ireturn, 1, 0, 0, 0), (389, .iload 7, 2, 0, 0, 0), (391, .ifCond .ne 7, 3, 398, 0, 0), (394, .iconst 1, 1, 0, 0, 0), (395, .goto 4, 3, 399, 0, 0), (398, .iconst 0, 1, 0, 0, 0), (399, .ireturn, 1, 0, 0, 0), (400, .iload 7, 2, 0, 0, 0), (402, .ifCond .eq 8, 3, 410, 0, 0), (405, .iload 8, 2, 0, 0, 0), (407, .ifCond .ne 7, 3, 414, 0, 0), (410, .iconst 1, 1, 0, 0, 0), (411, .goto 4, 3, 415, 0, 0), (414, .iconst 0, 1, 0, 0, 0), (415, .ireturn, 1, 0, 0, 0), (416, .iload 7, 2, 0, 0, 0), (418, .iconst 1, 1, 0, 0, 0), (419, .if_icmp .eq 7, 3, 426, 0, 0), (422, .iconst 1, 1, 0, 0, 0), (423, .goto 4, 3, 427, 0, 0), (426, .iconst 0, 1, 0, 0, 0), (427, .ireturn, 1, 0, 0, 0), (428, .aload_n 0, 1, 0, 0, 0), (429, .getfield 68, 3, 12, 30, 0), (432, .bipush 16, 2, 0, 0, 0), (434, .iload_n 3, 1, 0, 0, 0), (435, .imul, 1, 0, 0, 0), (436, .iload 6, 2, 0, 0, 0), (438, .iadd, 1, 0, 0, 0), (439, .iaload, 1, 0, 0, 0), (440, .iconst 1, 1, 0, 0, 0), (441, .if_icmp .eq 7, 3, 448, 0, 0), (444, .iconst 1, 1, 0, 0, 0), (445, .goto 4, 3, 449, 0, 0), (448, .iconst 0, 1, 0, 0, 0), (449, .ireturn, 1, 0, 0, 0), (450, .iload 7, 2, 0, 0, 0), (452, .invokestatic 328, 3, 179, 0, 1), (455, .ifCond .ne 7, 3, 462, 0, 0), (458, .iconst 1, 1, 0, 0, 0), (459, .goto 4, 3, 463, 0, 0), (462, .iconst 0, 1, 0, 0, 0), (463, .ireturn, 1, 0, 0, 0), (464, .iload 7, 2, 0, 0, 0), (466, .invokestatic 328, 3, 179, 0, 1), (469, .ifCond .eq 37, 3, 506, 0, 0), (472, .iload 8, 2, 0, 0, 0), (474, .invokestatic 328, 3, 179, 0, 1), (477, .ifCond .eq 29, 3, 506, 0, 0), (480, .iload 7, 2, 0, 0, 0), (482, .iconst 2, 1, 0, 0, 0), (483, .if_icmp .ne 10, 3, 493, 0, 0), (486, .iload 8, 2, 0, 0, 0), (488, .bipush 15, 2, 0, 0, 0), (490, .if_icmp .ge 16, 3, 506, 0, 0), (493, .iload 8, 2, 0, 0, 0), (495, .iconst 2, 1, 0, 0, 0), (496, .if_icmp .ne 14, 3, 510, 0, 0), (499, .iload 7, 2, 0, 0, 0), (501, .bipush 15, 2, 0, 0, 0), (503, .if_icmp .lt 7, 3, 510, 0, 0), (506, .iconst 1, 1, 0, 0, 0), (507, .goto 4, 3, 511, 0, 0), (510, .iconst 0, 1, 0, 0, 0), (511, .ireturn, 1, 0, 0, 0), (512, .aload_n 0, 1, 0, 0, 0), (513, .iload 7, 2, 0, 0, 0), (515, .bipush 16, 2, 0, 0, 0), (517, .iload 6, 2, 0, 0, 0), (519, .iadd, 1, 0, 0, 0), (520, .invokevirtual 332, 3, 178, 12, 2), (523, .ifCond .ne 7, 3, 530, 0, 0), (526, .iconst 1, 1, 0, 0, 0), (527, .goto 4, 3, 531, 0, 0), (530, .iconst 0, 1, 0, 0, 0), (531, .ireturn, 1, 0, 0, 0), (532, .aload_n 0, 1, 0, 0, 0), (533, .iload 8, 2, 0, 0, 0), (535, .bipush 16, 2, 0, 0, 0), (537, .iload 6, 2, 0, 0, 0), (539, .iadd, 1, 0, 0, 0), (540, .invokevirtual 332, 3, 178, 12, 2), (543, .ifCond .eq 31, 3, 574, 0, 0), (546, .aload_n 0, 1, 0, 0, 0), (547, .iload 7, 2, 0, 0, 0), (549, .aload_n 0, 1, 0, 0, 0), (550, .getfield 25, 3, 12, 14, 0), (553, .bipush 8, 2, 0, 0, 0), (555, .iload 6, 2, 0, 0, 0), (557, .imul, 1, 0, 0, 0), (558, .aload_n 0, 1, 0, 0, 0), (559, .iload_n 1, 1, 0, 0, 0), (560, .iload_n 2, 1, 0, 0, 0), (561, .iconst 2, 1, 0, 0, 0), (562, .iadd, 1, 0, 0, 0), (563, .invokevirtual 237, 3, 158, 12, 2), (566, .iadd, 1, 0, 0, 0), (567, .iaload, 1, 0, 0, 0), (568, .invokevirtual 332, 3, 178, 12, 2), (571, .ifCond .ne 7, 3, 578, 0, 0), (574, .iconst 1, 1, 0, 0, 0), (575, .goto 4, 3, 579, 0, 0), (578, .iconst 0, 1, 0, 0, 0), (579, .ireturn, 1, 0, 0, 0), (580, .iload 7, 2, 0, 0, 0), (582, .iconst 1, 1, 0, 0, 0), (583, .if_icmp .ne 13, 3, 596, 0, 0), (586, .aload_n 0, 1, 0, 0, 0), (587, .iload 8, 2, 0, 0, 0), (589, .iconst 2, 1, 0, 0, 0), (590, .invokevirtual 332, 3, 178, 12, 2), (593, .ifCond .ne 7, 3, 600, 0, 0), (596, .iconst 1, 1, 0, 0, 0), (597, .goto 4, 3, 601, 0, 0), (600, .iconst 0, 1, 0, 0, 0), (601, .ireturn, 1, 0, 0, 0), (602, .iload 7, 2, 0, 0, 0), (604, .iconst 1, 1, 0, 0, 0), (605, .if_icmp .ne 26, 3, 631, 0, 0), (608, .iload 8, 2, 0, 0, 0), (610, .iconst 1, 1, 0, 0, 0), (611, .if_icmp .ne 20, 3, 631, 0, 0), (614, .aload_n 0, 1, 0, 0, 0), (615, .aload_n 0, 1, 0, 0, 0), (616, .getfield 68, 3, 12, 30, 0), (619, .iload 4, 2, 0, 0, 0), (621, .iconst 3, 1, 0, 0, 0), (622, .isub, 1, 0, 0, 0), (623, .iaload, 1, 0, 0, 0), (624, .iconst 2, 1, 0, 0, 0), (625, .invokevirtual 332, 3, 178, 12, 2), (628, .ifCond .ne 7, 3, 635, 0, 0), (631, .iconst 1, 1, 0, 0, 0), (632, .goto 4, 3, 636, 0, 0), (635, .iconst 0, 1, 0, 0, 0), (636, .ireturn, 1, 0, 0, 0), (637, .aload_n 0, 1, 0, 0, 0), (638, .iload 7, 2, 0, 0, 0), (640, .iconst 2, 1, 0, 0, 0), (641, .invokevirtual 332, 3, 178, 12, 2), (644, .ifCond .ne 7, 3, 651, 0, 0), (647, .iconst 1, 1, 0, 0, 0), (648, .goto 4, 3, 652, 0, 0), (651, .iconst 0, 1, 0, 0, 0), (652, .ireturn, 1, 0, 0, 0), (653, .iload 7, 2, 0, 0, 0), (655, .invokestatic 328, 3, 179, 0, 1), (658, .ifCond .eq 9, 3, 667, 0, 0), (661, .iload 7, 2, 0, 0, 0), (663, .iconst 2, 1, 0, 0, 0), (664, .if_icmp .ne 7, 3, 671, 0, 0), (667, .iconst 1, 1, 0, 0, 0), (668, .goto 4, 3, 672, 0, 0), (671, .iconst 0, 1, 0, 0, 0), (672, .ireturn, 1, 0, 0, 0), (673, .iconst 0, 1, 0, 0, 0), (674, .istore 9, 2, 0, 0, 0), (676, .iload 9, 2, 0, 0, 0), (678, .aload_n 0, 1, 0, 0, 0), (679, .getfield 37, 3, 12, 20, 0), (682, .iload 6, 2, 0, 0, 0), (684, .iaload, 1, 0, 0, 0), (685, .if_icmp .ge 48, 3, 733, 0, 0), (688, .aload_n 0, 1, 0, 0, 0), (689, .aload_n 0, 1, 0, 0, 0), (690, .getfield 68, 3, 12, 30, 0), (693, .iload 4, 2, 0, 0, 0), (695, .aload_n 0, 1, 0, 0, 0), (696, .getfield 37, 3, 12, 20, 0), (699, .iload 6, 2, 0, 0, 0), (701, .iaload, 1, 0, 0, 0), (702, .isub, 1, 0, 0, 0), (703, .iload 9, 2, 0, 0, 0), (705, .iadd, 1, 0, 0, 0), (706, .iaload, 1, 0, 0, 0), (707, .aload_n 0, 1, 0, 0, 0), (708, .getfield 40, 3, 12, 21, 0), (711, .iconst 4, 1, 0, 0, 0), (712, .iload 6, 2, 0, 0, 0), (714, .imul, 1, 0, 0, 0), (715, .iload 9, 2, 0, 0, 0), (717, .iadd, 1, 0, 0, 0), (718, .iaload, 1, 0, 0, 0), (719, .invokevirtual 332, 3, 178, 12, 2), (722, .ifCond .ne 5, 3, 727, 0, 0), (725, .iconst 1, 1, 0, 0, 0), (726, .ireturn, 1, 0, 0, 0), (727, .iinc 9 1, 3, 0, 0, 0), (730, .goto (-54), 3, 676, 0, 0), (733, .iconst 0, 1, 0, 0, 0), (734, .ireturn, 1, 0, 0, 0), (735, .aload_n 0, 1, 0, 0, 0), (736, .getfield 68, 3, 12, 30, 0), (739, .iload 4, 2, 0, 0, 0), (741, .iconst 1, 1, 0, 0, 0), (742, .isub, 1, 0, 0, 0), (743, .aload_n 0, 1, 0, 0, 0), (744, .getfield 28, 3, 12, 16, 0), (747, .iload 6, 2, 0, 0, 0), (749, .iaload, 1, 0, 0, 0), (750, .isub, 1, 0, 0, 0), (751, .iaload, 1, 0, 0, 0), (752, .istore 9, 2, 0, 0, 0), (754, .iconst 0, 1, 0, 0, 0), (755, .istore 10, 2, 0, 0, 0), (757, .iload 10, 2, 0, 0, 0), (759, .aload_n 0, 1, 0, 0, 0), (760, .getfield 28, 3, 12, 16, 0), (763, .iload 6, 2, 0, 0, 0), (765, .iaload, 1, 0, 0, 0), (766, .if_icmp .ge 48, 3, 814, 0, 0), (769, .aload_n 0, 1, 0, 0, 0), (770, .aload_n 0, 1, 0, 0, 0), (771, .getfield 68, 3, 12, 30, 0), (774, .iload 4, 2, 0, 0, 0), (776, .aload_n 0, 1, 0, 0, 0), (777, .getfield 28, 3, 12, 16, 0), (780, .iload 6, 2, 0, 0, 0), (782, .iaload, 1, 0, 0, 0), (783, .isub, 1, 0, 0, 0), (784, .iload 10, 2, 0, 0, 0), (786, .iadd, 1, 0, 0, 0), (787, .iaload, 1, 0, 0, 0), (788, .aload_n 0, 1, 0, 0, 0), (789, .getfield 31, 3, 12, 17, 0), (792, .iconst 3, 1, 0, 0, 0), (793, .iload 6, 2, 0, 0, 0), (795, .imul, 1, 0, 0, 0), (796, .iload 10, 2, 0, 0, 0), (798, .iadd, 1, 0, 0, 0), (799, .iaload, 1, 0, 0, 0), (800, .invokevirtual 332, 3, 178, 12, 2), (803, .ifCond .ne 5, 3, 808, 0, 0), (806, .iconst 1, 1, 0, 0, 0), (807, .ireturn, 1, 0, 0, 0), (808, .iinc 10 1, 3, 0, 0, 0), (811, .goto (-54), 3, 757, 0, 0), (814, .iload 9, 2, 0, 0, 0), (816, .bipush 16, 2, 0, 0, 0), (818, .if_icmp .lt 18, 3, 836, 0, 0), (821, .aload_n 0, 1, 0, 0, 0), (822, .iload 9, 2, 0, 0, 0), (824, .bipush 16, 2, 0, 0, 0), (826, .isub, 1, 0, 0, 0), (827, .iload 6, 2, 0, 0, 0), (829, .invokevirtual 335, 3, 168, 12, 2), (832, .iconst (-1), 1, 0, 0, 0), (833, .if_icmp .ne 7, 3, 840, 0, 0), (836, .iconst 1, 1, 0, 0, 0), (837, .goto 4, 3, 841, 0, 0), (840, .iconst 0, 1, 0, 0, 0), (841, .ireturn, 1, 0, 0, 0), (842, .aload_n 0, 1, 0, 0, 0), (843, .getfield 43, 3, 12, 22, 0), (846, .iload_n 1, 1, 0, 0, 0), (847, .iaload, 1, 0, 0, 0), (848, .ifCond .eq 7, 3, 855, 0, 0), (851, .iconst 1, 1, 0, 0, 0), (852, .goto 4, 3, 856, 0, 0), (855, .iconst 0, 1, 0, 0, 0), (856, .ireturn, 1, 0, 0, 0), (857, .aload_n 0, 1, 0, 0, 0), (858, .getfield 43, 3, 12, 22, 0), (861, .iload_n 1, 1, 0, 0, 0), (862, .iaload, 1, 0, 0, 0), (863, .ifCond .eq 18, 3, 881, 0, 0), (866, .aload_n 0, 1, 0, 0, 0), (867, .iload 7, 2, 0, 0, 0), (869, .aload_n 0, 1, 0, 0, 0), (870, .getfield 43, 3, 12, 22, 0), (873, .iload_n 1, 1, 0, 0, 0), (874, .iaload, 1, 0, 0, 0), (875, .invokevirtual 332, 3, 178, 12, 2), (878, .ifCond .ne 7, 3, 885, 0, 0), (881, .iconst 1, 1, 0, 0, 0), (882, .goto 4, 3, 886, 0, 0), (885, .iconst 0, 1, 0, 0, 0), (886, .ireturn, 1, 0, 0, 0), (887, .iload 5, 2, 0, 0, 0), (889, .bipush 8, 2, 0, 0, 0), (891, .if_icmp .lt 47, 3, 938, 0, 0), (894, .iload 5, 2, 0, 0, 0), (896, .bipush 33, 2, 0, 0, 0), (898, .if_icmp .gt 40, 3, 938, 0, 0), (901, .iload 5, 2, 0, 0, 0), (903, .bipush 21, 2, 0, 0, 0), (905, .if_icmp .eq 33, 3, 938, 0, 0), (908, .iload 7, 2, 0, 0, 0), (910, .iconst 1, 1, 0, 0, 0), (911, .if_icmp .ne 23, 3, 934, 0, 0), (914, .iload 5, 2, 0, 0, 0), (916, .bipush 19, 2, 0, 0, 0), (918, .if_icmp .lt 10, 3, 928, 0, 0), (921, .iload 5, 2, 0, 0, 0), (923, .bipush 27, 2, 0, 0, 0), (925, .if_icmp .le 13, 3, 938, 0, 0), (928, .iload 8, 2, 0, 0, 0), (930, .iconst 1, 1, 0, 0, 0), (931, .if_icmp .eq 7, 3, 938, 0, 0), (934, .iconst 1, 1, 0, 0, 0), (935, .goto 4, 3, 939, 0, 0), (938, .iconst 0, 1, 0, 0, 0), (939, .ireturn, 1, 0, 0, 0)]
/-- TierMillModel.kind(III)I -/
def e_d181 : List (Nat × Instr × Nat × Nat × Nat × Int) := [(0, .aload_n 0, 1, 0, 0, 0), (1, .iconst 0, 1, 0, 0, 0), (2, .putfield 175, 3, 12, 0, 0), (5, .aload_n 0, 1, 0, 0, 0), (6, .getfield 284, 3, 12, 7, 0), (9, .ifCond .eq 62, 3, 71, 0, 0), (12, .iload_n 1, 1, 0, 0, 0), (13, .iconst 0, 1, 0, 0, 0), (14, .aload_n 0, 1, 0, 0, 0), (15, .getfield 214, 3, 12, 19, 0), (18, .iconst 1, 1, 0, 0, 0), (19, .isub, 1, 0, 0, 0), (20, .invokestatic 193, 3, 145, 0, 3), (23, .ifCond .eq 48, 3, 71, 0, 0), (26, .iload_n 2, 1, 0, 0, 0), (27, .iconst 0, 1, 0, 0, 0), (28, .aload_n 0, 1, 0, 0, 0), (29, .getfield 52, 3, 12, 25, 0), (32, .iload_n 1, 1, 0, 0, 0), (33, .iaload, 1, 0, 0, 0), (34, .iconst 1, 1, 0, 0, 0), (35, .isub, 1, 0, 0, 0), (36, .invokestatic 193, 3, 145, 0, 3), (39, .ifCond .eq 32, 3, 71, 0, 0), (42, .aload_n 0, 1, 0, 0, 0), (43, .getfield 65, 3, 12, 29, 0), (46, .bipush 120, 2, 0, 0, 0), (48, .iload_n 1, 1, 0, 0, 0), (49, .imul, 1, 0, 0, 0), (50, .iload_n 2, 1, 0, 0, 0), (51, .iadd, 1, 0, 0, 0), (52, .iaload, 1, 0, 0, 0), (53, .iconst (-1), 1, 0, 0, 0), (54, .if_icmp .eq 17, 3, 71, 0, 0), (57, .aload_n 0, 1, 0, 0, 0), (58, .getfield 58, 3, 12, 27, 0), (61, .bipush 120, 2, 0, 0, 0), (63, .iload_n 1, 1, 0, 0, 0), (64, .imul, 1, 0, 0, 0), (65, .iload_n 2, 1, 0, 0, 0), (66, .iadd, 1, 0, 0, 0), (67, .baload, 1, 0, 0, 0), (68, .ifCond .ne 5, 3, 73, 0, 0), (71, .iconst (-1), 1, 0, 0, 0), (72, .ireturn, 1, 0, 0, 0), (73, .bipush 120, 2, 0, 0, 0), (75, .iload_n 1, 1, 0, 0, 0), (76, .imul, 1, 0, 0, 0), (77, .iload_n 2, 1, 0, 0, 0), (78, .iadd, 1, 0, 0, 0), (79, .istore 4, 2, 0, 0, 0), (81, .iload_n 3, 1, 0, 0, 0), (82, .iconst 0, 1, 0, 0, 0), (83, .aload_n 0, 1, 0, 0, 0), (84, .getfield 46, 3, 12, 23, 0), (87, .iload_n 1, 1, 0, 0, 0), (88, .iaload, 1, 0, 0, 0), (89, .iconst 1, 1, 0, 0, 0), (90, .isub, 1, 0, 0, 0), (91, .invokestatic 193, 3, 145, 0, 3), (94, .ifCond .eq 16, 3, 110, 0, 0), (97, .aload_n 0, 1, 0, 0, 0), (98, .getfield 68, 3, 12, 30, 0), (101, .bipush 16, 2, 0, 0, 0), (103, .iload 4, 2, 0, 0, 0), (105, .imul, 1, 0, 0, 0), (106, .iload_n 3, 1, 0, 0, 0), (107, .iadd, 1, 0, 0, 0), (108, .iaload, 1, 0, 0, 0), (109, .ireturn, 1, 0, 0, 0), (110, .iload_n 3, 1, 0, 0, 0), (111, .bipush 100, 2, 0, 0, 0), (113, .bipush 99, 2, 0, 0, 0), (115, .aload_n 0, 1, 0, 0, 0), (116, .getfield 65, 3, 12, 29, 0), (119, .iload 4, 2, 0, 0, 0), (121, .iaload, 1, 0, 0, 0), (122, .iadd, 1, 0, 0, 0), (123, .invokestatic 193, 3, 145, 0, 3), (126, .ifCond .eq 21, 3, 147, 0, 0), (129, .aload_n 0, 1, 0, 0, 0), (130, .getfield 68, 3, 12, 30, 0), (133, .bipush 16, 2, 0, 0, 0), (135, .iload 4, 2, 0, 0, 0), (137, .imul, 1, 0, 0, 0), (138, .iload_n 3, 1, 0, 0, 0), (139, .iadd, 1, 0, 0, 0), (140, .bipush 92, 2, 0, 0, 0), (142, .isub, 1, 0, 0, 0), (143, .iaload, 1, 0, 0, 0), (144, .goto 4, 3, 148, 0, 0), (147, .iconst (-1), 1, 0, 0, 0), (148, .ireturn, 1, 0, 0, 0)]
/-- TierMillModel.tiers(IIII)Z -/
def e_d182 : List (Nat × Instr × Nat × Nat × Nat × Int) := [(0, .aload_n 0, 1, 0, 0, 0), (1, .iconst 0, 1, 0, 0, 0), (2, .putfield 175, 3, 12, 0, 0), (5, .iload_n 1, 1, 0, 0, 0), (6, .iconst 1, 1, 0, 0, 0), (7, .sipush 1000, 3, 0, 0, 0), (10, .invokestatic 193, 3, 145, 0, 3), (13, .ifCond .eq 34, 3, 47, 0, 0), (16, .iload_n 2, 1, 0, 0, 0), (17, .iconst 1, 1, 0, 0, 0), (18, .sipush 1000, 3, 0, 0, 0), (21, .invokestatic 193, 3, 145, 0, 3), (24, .ifCond .eq 23, 3, 47, 0, 0), (27, .iload_n 3, 1, 0, 0, 0), (28, .iconst 0, 1, 0, 0, 0), (29, .iconst 4, 1, 0, 0, 0), (30, .invokestatic 193, 3, 145, 0, 3), (33, .ifCond .eq 14, 3, 47, 0, 0), (36, .iload 4, 2, 0, 0, 0), (38, .iconst 0, 1, 0, 0, 0), (39, .bipush 120, 2, 0, 0, 0), (41, .invokestatic 193, 3, 145, 0, 3), (44, .ifCond .ne 5, 3, 49, 0, 0), (47, .iconst 0, 1, 0, 0, 0), (48, .ireturn, 1, 0, 0, 0), (49, .aload_n 0, 1, 0, 0, 0), (50, .iload_n 1, 1, 0, 0, 0), (51, .putfield 74, 3, 12, 34, 0), (54, .aload_n 0, 1, 0, 0, 0), (55, .iload_n 2, 1, 0, 0, 0), (56, .putfield 78, 3, 12, 35, 0), (59, .aload_n 0, 1, 0, 0, 0), (60, .iload_n 3, 1, 0, 0, 0), (61, .putfield 81, 3, 12, 36, 0), (64, .aload_n 0, 1, 0, 0, 0), (65, .iload 4, 2, 0, 0, 0), (67, .putfield 84, 3, 12, 37, 0), (70, .iconst 1, 1, 0, 0, 0), (71, .ireturn, 1, 0, 0, 0)]
/-- TierMillModel.room(I)Z -/
def e_d183 : List (Nat × Instr × Nat × Nat × Nat × Int) := [(0, .aload_n 0, 1, 0, 0, 0), (1, .iconst 0, 1, 0, 0, 0), (2, .putfield 175, 3, 12, 0, 0), (5, .iload_n 1, 1, 0, 0, 0), (6, .bipush 8, 2, 0, 0, 0), (8, .sipush 4000, 3, 0, 0, 0), (11, .invokestatic 193, 3, 145, 0, 3), (14, .ifCond .ne 5, 3, 19, 0, 0), (17, .iconst 0, 1, 0, 0, 0), (18, .ireturn, 1, 0, 0, 0), (19, .aload_n 0, 1, 0, 0, 0), (20, .iload_n 1, 1, 0, 0, 0), (21, .putfield 87, 3, 12, 38, 0), (24, .iconst 1, 1, 0, 0, 0), (25, .ireturn, 1, 0, 0, 0)]
/-- TierMillModel.give(I)Z -/
def e_d184 : List (Nat × Instr × Nat × Nat × Nat × Int) := [(0, .aload_n 0, 1, 0, 0, 0), (1, .iconst 0, 1, 0, 0, 0), (2, .putfield 175, 3, 12, 0, 0), (5, .aload_n 0, 1, 0, 0, 0), (6, .getfield 338, 3, 12, 39, 0), (9, .bipush 100, 2, 0, 0, 0), (11, .if_icmp .ne 5, 3, 16, 0, 0), (14, .iconst 0, 1, 0, 0, 0), (15, .ireturn, 1, 0, 0, 0), (16, .aload_n 0, 1, 0, 0, 0), (17, .getfield 90, 3, 12, 40, 0), (20, .aload_n 0, 1, 0, 0, 0), (21, .getfield 338, 3, 12, 39, 0), (24, .iload_n 1, 1, 0, 0, 0), (25, .iastore, 1, 0, 0, 0), (26, .aload_n 0, 1, 0, 0, 0), (27, .dup, 1, 0, 0, 0), (28, .getfield 338, 3, 12, 39, 0), (31, .iconst 1, 1, 0, 0, 0), (32, .iadd, 1, 0, 0, 0), (33, .putfield 338, 3, 12, 39, 0), (36, .iconst 1, 1, 0, 0, 0), (37, .ireturn, 1, 0, 0, 0)]
/-- TierMillModel.start(IIII)Z -/
def e_d185 : List (Nat × Instr × Nat × Nat × Nat × Int) := [(0, .aload_n 0, 1, 0, 0, 0), (1, .iconst 0, 1, 0, 0, 0), (2, .putfield 175, 3, 12, 0, 0), (5, .aload_n 0, 1, 0, 0, 0), (6, .getfield 284, 3, 12, 7, 0), (9, .ifCond .ne 5, 3, 14, 0, 0), (12, .iconst 0, 1, 0, 0, 0), (13, .ireturn, 1, 0, 0, 0), (14, .iconst 0, 1, 0, 0, 0), (15, .istore 5, 2, 0, 0, 0), (17, .iload 5, 2, 0, 0, 0), (19, .aload_n 0, 1, 0, 0, 0), (20, .getfield 37, 3, 12, 20, 0), (23, .iconst 0, 1, 0, 0, 0), (24, .iaload, 1, 0, 0, 0), (25, .if_icmp .ge 22, 3, 47, 0, 0), (28, .aload_n 0, 1, 0, 0, 0), (29, .getfield 40, 3, 12, 21, 0), (32, .iload 5, 2, 0, 0, 0), (34, .iaload, 1, 0, 0, 0), (35, .iconst 1, 1, 0, 0, 0), (36, .if_icmp .eq 5, 3, 41, 0, 0), (39, .iconst 0, 1, 0, 0, 0), (40, .ireturn, 1, 0, 0, 0), (41, .iinc 5 1, 3, 0, 0, 0), (44, .goto (-27), 3, 17, 0, 0), (47, .aload_n 0, 1, 0, 0, 0), (48, .iconst 1, 1, 0, 0, 0), (49, .putfield 287, 3, 12, 41, 0), (52, .aload_n 0, 1, 0, 0, 0), (53, .iconst 0, 1, 0, 0, 0), (54, .putfield 341, 3, 12, 42, 0), (57, .aload_n 0, 1, 0, 0, 0), (58, .iconst 0, 1, 0, 0, 0), (59, .putfield 344, 3, 12, 43, 0), (62, .aload_n 0, 1, 0, 0, 0), (63, .iconst 0, 1, 0, 0, 0), (64, .putfield 347, 3, 12, 44, 0), (67, .aload_n 0, 1, 0, 0, 0), (68, .iconst 0, 1, 0, 0, 0), (69, .putfield 350, 3, 12, 47, 0), (72, .aload_n 0, 1, 0, 0, 0), (73, .iconst 0, 1, 0, 0, 0), (74, .putfield 353, 3, 12, 52, 0), (77, .aload_n 0, 1, 0, 0, 0), (78, .iconst 0, 1, 0, 0, 0), (79, .putfield 356, 3, 12, 54, 0), (82, .aload_n 0, 1, 0, 0, 0), (83, .iconst 0, 1, 0, 0, 0), (84, .putfield 359, 3, 12, 58, 0), (87, .aload_n 0, 1, 0, 0, 0), (88, .iconst 0, 1, 0, 0, 0), (89, .putfield 362, 3, 12, 60, 0), (92, .aload_n 0, 1, 0, 0, 0), (93, .iconst 0, 1, 0, 0, 0), (94, .putfield 365, 3, 12, 71, 0), (97, .aload_n 0, 1, 0, 0, 0), (98, .iconst 0, 1, 0, 0, 0), (99, .putfield 368, 3, 12, 72, 0), (102, .aload_n 0, 1, 0, 0, 0), (103, .iconst 0, 1, 0, 0, 0), (104, .putfield 371, 3, 12, 73, 0), (107, .aload_n 0, 1, 0, 0, 0), (108, .iconst 0, 1, 0, 0, 0), (109, .putfield 374, 3, 12, 79, 0), (112, .aload_n 0, 1, 0, 0, 0), (113, .aload_n 0, 1, 0, 0, 0), (114, .getfield 87, 3, 12, 38, 0), (117, .putfield 377, 3, 12, 70, 0), (120, .iconst 0, 1, 0, 0, 0), (121, .istore 5, 2, 0, 0, 0), (123, .iload 5, 2, 0, 0, 0), (125, .bipush 16, 2, 0, 0, 0), (127, .if_icmp .ge 25, 3, 152, 0, 0), (130, .aload_n 0, 1, 0, 0, 0), (131, .getfield 96, 3, 12, 49, 0), (134, .iload 5, 2, 0, 0, 0), (136, .iconst 0, 1, 0, 0, 0), (137, .iastore, 1, 0, 0, 0), (138, .aload_n 0, 1, 0, 0, 0), (139, .getfield 99, 3, 12, 50, 0), (142, .iload 5, 2, 0, 0, 0), (144, .iconst (-1), 1, 0, 0, 0), (145, .iastore, 1, 0, 0, 0), (146, .iinc 5 1, 3, 0, 0, 0), (149, .goto (-26), 3, 123, 0, 0), (152, .iconst 0, 1, 0, 0, 0), (153, .istore 5, 2, 0, 0, 0), (155, .iload 5, 2, 0, 0, 0), (157, .sipush 15360, 3, 0, 0, 0), (160, .if_icmp .ge 17, 3, 177, 0, 0), (163, .aload_n 0, 1, 0, 0, 0), (164, .getfield 102, 3, 12, 51, 0), (167, .iload 5, 2, 0, 0, 0), (169, .iconst 0, 1, 0, 0, 0), (170, .iastore, 1, 0, 0, 0), (171, .iinc 5 1, 3, 0, 0, 0), (174, .goto (-19), 3, 155, 0, 0), (177, .aload_n 0, 1, 0, 0, 0), (178, .iconst 0, 1, 0, 0, 0), (179, .invokevirtual 380, 3, 188, 12, 1), (182, .iconst 0, 1, 0, 0, 0), (183, .istore 5, 2, 0, 0, 0), (185, .iload 5, 2, 0, 0, 0), (187, .aload_n 0, 1, 0, 0, 0), (188, .getfield 37, 3, 12, 20, 0), (191, .iconst 0, 1, 0, 0, 0), (192, .iaload, 1, 0, 0, 0), (193, .if_icmp .ge 47, 3, 240, 0, 0), (196, .aload_n 0, 1, 0, 0, 0), (197, .getfield 139, 3, 12, 68, 0), (200, .iload 5, 2, 0, 0, 0), (202, .iload 5, 2, 0, 0, 0), (204, .ifCond .ne 7, 3, 211, 0, 0), (207, .iload_n 1, 1, 0, 0, 0), (208, .goto 25, 3, 233, 0, 0), (211, .iload 5, 2, 0, 0, 0), (213, .iconst 1, 1, 0, 0, 0), (214, .if_icmp .ne 7, 3, 221, 0, 0), (217, .iload_n 2, 1, 0, 0, 0), (218, .goto 15, 3, 233, 0, 0), (221, .iload 5, 2, 0, 0, 0), (223, .iconst 2, 1, 0, 0, 0), (224, .if_icmp .ne 7, 3, 231, 0, 0), (227, .iload_n 3, 1, 0, 0, 0), (228, .goto 5, 3, 233, 0, 0), (231, .iload 4, 2, 0, 0, 0), (233, .iastore, 1, 0, 0, 0), (234, .iinc 5 1, 3, 0, 0, 0), (237, .goto (-52), 3, 185, 0, 0), (240, .iconst 1, 1, 0, 0, 0), (241, .ireturn, 1, 0, 0, 0)]
/-- TierMillModel.newFrame(IIII)V -/
def e_d186 : List (Nat × Instr × Nat × Nat × Nat × Int) := [(0, .aload_n 0, 1, 0, 0, 0), (1, .getfield 362, 3, 12, 60, 0), (4, .istore 5, 2, 0, 0, 0), (6, .aload_n 0, 1, 0, 0, 0), (7, .dup, 1, 0, 0, 0), (8, .getfield 362, 3, 12, 60, 0), (11, .iconst 1, 1, 0, 0, 0), (12, .iadd, 1, 0, 0, 0), (13, .putfield 362, 3, 12, 60, 0), (16, .aload_n 0, 1, 0, 0, 0), (17, .getfield 118, 3, 12, 61, 0), (20, .iload 5, 2, 0, 0, 0), (22, .iload_n 1, 1, 0, 0, 0), (23, .iastore, 1, 0, 0, 0), (24, .aload_n 0, 1, 0, 0, 0), (25, .getfield 121, 3, 12, 62, 0), (28, .iload 5, 2, 0, 0, 0), (30, .iconst 0, 1, 0, 0, 0), (31, .iastore, 1, 0, 0, 0), (32, .aload_n 0, 1, 0, 0, 0), (33, .getfield 124, 3, 12, 63, 0), (36, .iload 5, 2, 0, 0, 0), (38, .iconst 0, 1, 0, 0, 0), (39, .iastore, 1, 0, 0, 0), (40, .aload_n 0, 1, 0, 0, 0), (41, .getfield 127, 3, 12, 64, 0), (44, .iload 5, 2, 0, 0, 0), (46, .iload_n 2, 1, 0, 0, 0), (47, .iastore, 1, 0, 0, 0), (48, .aload_n 0, 1, 0, 0, 0), (49, .getfield 130, 3, 12, 65, 0), (52, .iload 5, 2, 0, 0, 0), (54, .iload_n 3, 1, 0, 0, 0), (55, .iastore, 1, 0, 0, 0), (56, .aload_n 0, 1, 0, 0, 0), (57, .getfield 133, 3, 12, 66, 0), (60, .iload 5, 2, 0, 0, 0), (62, .iload 4, 2, 0, 0, 0), (64, .iastore, 1, 0, 0, 0), (65, .aload_n 0, 1, 0, 0, 0), (66, .getfield 136, 3, 12, 67, 0), (69, .iload 5, 2, 0, 0, 0), (71, .iconst 0, 1, 0, 0, 0), (72, .iastore, 1, 0, 0, 0), (73, .iconst 0, 1, 0, 0, 0), (74, .istore 6, 2, 0, 0, 0), (76, .iload 6, 2, 0, 0, 0), (78, .bipush 8, 2, 0, 0, 0), (80, .if_icmp .ge 23, 3, 103, 0, 0), (83, .aload_n 0, 1, 0, 0, 0), (84, .getfield 139, 3, 12, 68, 0), (87, .bipush 8, 2, 0, 0, 0), (89, .iload 5, 2, 0, 0, 0), (91, .imul, 1, 0, 0, 0), (92, .iload 6, 2, 0, 0, 0), (94, .iadd, 1, 0, 0, 0), (95, .iconst 0, 1, 0, 0, 0), (96, .iastore, 1, 0, 0, 0), (97, .iinc 6 1, 3, 0, 0, 0), (100, .goto (-24), 3, 76, 0, 0), (103, .return_, 1, 0, 0, 0)]
/-- TierMillModel.note(IIII)V -/
def e_d187 : List (Nat × Instr × Nat × Nat × Nat × Int) := [(0, .aload_n 0, 1, 0, 0, 0), (1, .getfield 353, 3, 12, 52, 0), (4, .sipush 300, 3, 0, 0, 0), (7, .if_icmp .ge 75, 3, 82, 0, 0), (10, .aload_n 0, 1, 0, 0, 0), (11, .getfield 105, 3, 12, 53, 0), (14, .iconst 5, 1, 0, 0, 0), (15, .aload_n 0, 1, 0, 0, 0), (16, .getfield 353, 3, 12, 52, 0), (19, .imul, 1, 0, 0, 0), (20, .iload_n 1, 1, 0, 0, 0), (21, .iastore, 1, 0, 0, 0), (22, .aload_n 0, 1, 0, 0, 0), (23, .getfield 105, 3, 12, 53, 0), (26, .iconst 5, 1, 0, 0, 0), (27, .aload_n 0, 1, 0, 0, 0), (28, .getfield 353, 3, 12, 52, 0), (31, .imul, 1, 0, 0, 0), (32, .iconst 1, 1, 0, 0, 0), (33, .iadd, 1, 0, 0, 0), (34, .aload_n 0, 1, 0, 0, 0), (35, .getfield 347, 3, 12, 44, 0), (38, .iastore, 1, 0, 0, 0), (39, .aload_n 0, 1, 0, 0, 0), (40, .getfield 105, 3, 12, 53, 0), (43, .iconst 5, 1, 0, 0, 0), (44, .aload_n 0, 1, 0, 0, 0), (45, .getfield 353, 3, 12, 52, 0), (48, .imul, 1, 0, 0, 0), (49, .iconst 2, 1, 0, 0, 0), (50, .iadd, 1, 0, 0, 0), (51, .iload_n 2, 1, 0, 0, 0), (52, .iastore, 1, 0, 0, 0), (53, .aload_n 0, 1, 0, 0, 0), (54, .getfield 105, 3, 12, 53, 0), (57, .iconst 5, 1, 0, 0, 0), (58, .aload_n 0, 1, 0, 0, 0), (59, .getfield 353, 3, 12, 52, 0), (62, .imul, 1, 0, 0, 0), (63, .iconst 3, 1, 0, 0, 0), (64, .iadd, 1, 0, 0, 0), (65, .iload_n 3, 1, 0, 0, 0), (66, .iastore, 1, 0, 0, 0), (67, .aload_n 0, 1, 0, 0, 0), (68, .getfield 105, 3, 12, 53, 0), (71, .iconst 5, 1, 0, 0, 0), (72, .aload_n 0, 1, 0, 0, 0), (73, .getfield 353, 3, 12, 52, 0), (76, .imul, 1, 0, 0, 0), (77, .iconst 4, 1, 0, 0, 0), (78, .iadd, 1, 0, 0, 0), (79, .iload 4, 2, 0, 0, 0), (81, .iastore, 1, 0, 0, 0), (82, .aload_n 0, 1, 0, 0, 0), (83, .dup, 1, 0, 0, 0), (84, .getfield 353, 3, 12, 52, 0), (87, .aload_n 0, 1, 0, 0, 0), (88, .getfield 353, 3, 12, 52, 0), (91, .sipush 300, 3, 0, 0, 0), (94, .if_icmp .ge 7, 3, 101, 0, 0), (97, .iconst 1, 1, 0, 0, 0), (98, .goto 4, 3, 102, 0, 0), (101, .iconst 0, 1, 0, 0, 0), (102, .iadd, 1, 0, 0, 0), (103, .putfield 353, 3, 12, 52, 0), (106, .return_, 1, 0, 0, 0)]
/-- TierMillModel.invoke(I)V -/
def e_d188 : List (Nat × Instr × Nat × Nat × Nat × Int) := [(0, .aload_n 0, 1, 0, 0, 0), (1, .getfield 96, 3, 12, 49, 0), (4, .iload_n 1, 1, 0, 0, 0), (5, .dup2, 1, 0, 0, 0), (6, .iaload, 1, 0, 0, 0), (7, .iconst 1, 1, 0, 0, 0), (8, .iadd, 1, 0, 0, 0), (9, .iastore, 1, 0, 0, 0), (10, .aload_n 0, 1, 0, 0, 0), (11, .getfield 96, 3, 12, 49, 0), (14, .iload_n 1, 1, 0, 0, 0), (15, .iaload, 1, 0, 0, 0), (16, .aload_n 0, 1, 0, 0, 0), (17, .getfield 74, 3, 12, 34, 0), (20, .if_icmp .lt 124, 3, 144, 0, 0), (23, .aload_n 0, 1, 0, 0, 0), (24, .getfield 99, 3, 12, 50, 0), (27, .iload_n 1, 1, 0, 0, 0), (28, .iaload, 1, 0, 0, 0), (29, .iconst (-1), 1, 0, 0, 0), (30, .if_icmp .ne 114, 3, 144, 0, 0), (33, .aload_n 0, 1, 0, 0, 0), (34, .getfield 383, 3, 12, 46, 0), (37, .bipush 30, 2, 0, 0, 0), (39, .if_icmp .ge 105, 3, 144, 0, 0), (42, .aload_n 0, 1, 0, 0, 0), (43, .getfield 99, 3, 12, 50, 0), (46, .iload_n 1, 1, 0, 0, 0), (47, .aload_n 0, 1, 0, 0, 0), (48, .getfield 356, 3, 12, 54, 0), (51, .iastore, 1, 0, 0, 0), (52, .aload_n 0, 1, 0, 0, 0), (53, .getfield 108, 3, 12, 55, 0), (56, .aload_n 0, 1, 0, 0, 0), (57, .getfield 356, 3, 12, 54, 0), (60, .aload_n 0, 1, 0, 0, 0), (61, .getfield 359, 3, 12, 58, 0), (64, .iastore, 1, 0, 0, 0), (65, .aload_n 0, 1, 0, 0, 0), (66, .iconst 0, 1, 0, 0, 0), (67, .putfield 386, 3, 12, 57, 0), (70, .aload_n 0, 1, 0, 0, 0), (71, .iload_n 1, 1, 0, 0, 0), (72, .invokevirtual 389, 3, 190, 12, 1), (75, .aload_n 0, 1, 0, 0, 0), (76, .getfield 111, 3, 12, 56, 0), (79, .aload_n 0, 1, 0, 0, 0), (80, .getfield 356, 3, 12, 54, 0), (83, .aload_n 0, 1, 0, 0, 0), (84, .getfield 359, 3, 12, 58, 0), (87, .aload_n 0, 1, 0, 0, 0), (88, .getfield 108, 3, 12, 55, 0), (91, .aload_n 0, 1, 0, 0, 0), (92, .getfield 356, 3, 12, 54, 0), (95, .iaload, 1, 0, 0, 0), (96, .isub, 1, 0, 0, 0), (97, .iastore, 1, 0, 0, 0), (98, .aload_n 0, 1, 0, 0, 0), (99, .iconst 1, 1, 0, 0, 0), (100, .iload_n 1, 1, 0, 0, 0), (101, .aload_n 0, 1, 0, 0, 0), (102, .getfield 111, 3, 12, 56, 0), (105, .aload_n 0, 1, 0, 0, 0), (106, .getfield 356, 3, 12, 54, 0), (109, .iaload, 1, 0, 0, 0), (110, .aload_n 0, 1, 0, 0, 0), (111, .getfield 52, 3, 12, 25, 0), (114, .iload_n 1, 1, 0, 0, 0), (115, .iaload, 1, 0, 0, 0), (116, .aload_n 0, 1, 0, 0, 0), (117, .getfield 386, 3, 12, 57, 0), (120, .iadd, 1, 0, 0, 0), (121, .invokevirtual 392, 3, 187, 12, 4), (124, .aload_n 0, 1, 0, 0, 0), (125, .dup, 1, 0, 0, 0), (126, .getfield 356, 3, 12, 54, 0), (129, .iconst 1, 1, 0, 0, 0), (130, .iadd, 1, 0, 0, 0), (131, .putfield 356, 3, 12, 54, 0), (134, .aload_n 0, 1, 0, 0, 0), (135, .dup, 1, 0, 0, 0), (136, .getfield 383, 3, 12, 46, 0), (139, .iconst 1, 1, 0, 0, 0), (140, .iadd, 1, 0, 0, 0), (141, .putfield 383, 3, 12, 46, 0), (144, .aload_n 0, 1, 0, 0, 0), (145, .iload_n 1, 1, 0, 0, 0), (146, .aload_n 0, 1, 0, 0, 0), (147, .getfield 99, 3, 12, 50, 0), (150, .iload_n 1, 1, 0, 0, 0), (151, .iaload, 1, 0, 0, 0), (152, .iconst (-1), 1, 0, 0, 0), (153, .if_icmp .ne 7, 3, 160, 0, 0), (156, .iconst 0, 1, 0, 0, 0), (157, .goto 4, 3, 161, 0, 0), (160, .iconst 1, 1, 0, 0, 0), (161, .aload_n 0, 1, 0, 0, 0), (162, .getfield 99, 3, 12, 50, 0), (165, .iload_n 1, 1, 0, 0, 0), (166, .iaload, 1, 0, 0, 0), (167, .iconst (-1), 1, 0, 0, 0), (168, .invokevirtual 396, 3, 186, 12, 4), (171, .return_, 1, 0, 0, 0)]
/-- TierMillModel.profileOf(III)I -/
def e_d189 : List (Nat × Instr × Nat × Nat × Nat × Int) := [(0, .aload_n 0, 1, 0, 0, 0), (1, .getfield 102, 3, 12, 51, 0), (4, .bipush 8, 2, 0, 0, 0), (6, .bipush 120, 2, 0, 0, 0), (8, .iload_n 1, 1, 0, 0, 0), (9, .imul, 1, 0, 0, 0), (10, .iload_n 2, 1, 0, 0, 0), (11, .iadd, 1, 0, 0, 0), (12, .imul, 1, 0, 0, 0), (13, .iload_n 3, 1, 0, 0, 0), (14, .iadd, 1, 0, 0, 0), (15, .iaload, 1, 0, 0, 0), (16, .ireturn, 1, 0, 0, 0)]
/-- TierMillModel.lay(I)V -/
def e_d190 : List (Nat × Instr × Nat × Nat × Nat × Int) := [(0, .iconst 0, 1, 0, 0, 0), (1, .istore_n 2, 1, 0, 0, 0), (2, .aload_n 0, 1, 0, 0, 0), (3, .getfield 163, 3, 12, 83, 0), (6, .iconst 0, 1, 0, 0, 0), (7, .iload_n 1, 1, 0, 0, 0), (8, .iastore, 1, 0, 0, 0), (9, .aload_n 0, 1, 0, 0, 0), (10, .getfield 166, 3, 12, 84, 0), (13, .iconst 0, 1, 0, 0, 0), (14, .iconst 0, 1, 0, 0, 0), (15, .iastore, 1, 0, 0, 0), (16, .aload_n 0, 1, 0, 0, 0), (17, .getfield 169, 3, 12, 85, 0), (20, .iconst 0, 1, 0, 0, 0), (21, .iconst (-1), 1, 0, 0, 0), (22, .iastore, 1, 0, 0, 0), (23, .iload_n 2, 1, 0, 0, 0), (24, .ifCond .lt 269, 3, 293, 0, 0), (27, .aload_n 0, 1, 0, 0, 0), (28, .getfield 166, 3, 12, 84, 0), (31, .iload_n 2, 1, 0, 0, 0), (32, .iaload, 1, 0, 0, 0), (33, .istore_n 3, 1, 0, 0, 0), (34, .aload_n 0, 1, 0, 0, 0), (35, .getfield 163, 3, 12, 83, 0), (38, .iload_n 2, 1, 0, 0, 0), (39, .iaload, 1, 0, 0, 0), (40, .istore 4, 2, 0, 0, 0), (42, .iload_n 3, 1, 0, 0, 0), (43, .aload_n 0, 1, 0, 0, 0), (44, .getfield 52, 3, 12, 25, 0), (47, .iload 4, 2, 0, 0, 0), (49, .iaload, 1, 0, 0, 0), (50, .if_icmp .eq 11, 3, 61, 0, 0), (53, .iload_n 2, 1, 0, 0, 0), (54, .aload_n 0, 1, 0, 0, 0), (55, .getfield 81, 3, 12, 36, 0), (58, .if_icmp .lt 9, 3, 67, 0, 0), (61, .iinc 2 (-1), 3, 0, 0, 0), (64, .goto (-41), 3, 23, 0, 0), (67, .aload_n 0, 1, 0, 0, 0), (68, .getfield 166, 3, 12, 84, 0), (71, .iload_n 2, 1, 0, 0, 0), (72, .dup2, 1, 0, 0, 0), (73, .iaload, 1, 0, 0, 0), (74, .iconst 1, 1, 0, 0, 0), (75, .iadd, 1, 0, 0, 0), (76, .iastore, 1, 0, 0, 0), (77, .aload_n 0, 1, 0, 0, 0), (78, .iload 4, 2, 0, 0, 0), (80, .iload_n 3, 1, 0, 0, 0), (81, .invokevirtual 237, 3, 158, 12, 2), (84, .istore 5, 2, 0, 0, 0), (86, .aload_n 0, 1, 0, 0, 0), (87, .getfield 58, 3, 12, 27, 0), (90, .bipush 120, 2, 0, 0, 0), (92, .iload 4, 2, 0, 0, 0), (94, .imul, 1, 0, 0, 0), (95, .iload_n 3, 1, 0, 0, 0), (96, .iadd, 1, 0, 0, 0), (97, .baload, 1, 0, 0, 0), (98, .ifCond .eq 33, 3, 131, 0, 0), (101, .iload 5, 2, 0, 0, 0), (103, .bipush 47, 2, 0, 0, 0), (105, .if_icmp .eq 10, 3, 115, 0, 0), (108, .iload 5, 2, 0, 0, 0), (110, .bipush 48, 2, 0, 0, 0), (112, .if_icmp .ne 19, 3, 131, 0, 0), (115, .aload_n 0, 1, 0, 0, 0), (116, .iload 4, 2, 0, 0, 0), (118, .iload_n 3, 1, 0, 0, 0), (119, .iload 5, 2, 0, 0, 0), (121, .invokevirtual 399, 3, 191, 12, 3), (124, .ifCond .eq 7, 3, 131, 0, 0), (127, .iconst 1, 1, 0, 0, 0), (128, .goto 4, 3, 132, 0, 0), (131, .iconst 0, 1, 0, 0, 0), (132, .istore 6, 2, 0, 0, 0), (134, .iload 6, 2, 0, 0, 0), (136, .ifCond .ne 6, 3, 142, 0, 0), (139, .goto (-116), 3, 23, 0, 0), (142, .bipush 6, 2, 0, 0, 0), (144, .aload_n 0, 1, 0, 0, 0), (145, .getfield 359, 3, 12, 58, 0), (148, .imul, 1, 0, 0, 0), (149, .istore 7, 2, 0, 0, 0), (151, .aload_n 0, 1, 0, 0, 0), (152, .getfield 115, 3, 12, 59, 0), (155, .iload 7, 2, 0, 0, 0), (157, .iload_n 2, 1, 0, 0, 0), (158, .iastore, 1, 0, 0, 0), (159, .aload_n 0, 1, 0, 0, 0), (160, .getfield 115, 3, 12, 59, 0), (163, .iload 7, 2, 0, 0, 0), (165, .iconst 1, 1, 0, 0, 0), (166, .iadd, 1, 0, 0, 0), (167, .iload 4, 2, 0, 0, 0), (169, .iastore, 1, 0, 0, 0), (170, .aload_n 0, 1, 0, 0, 0), (171, .getfield 115, 3, 12, 59, 0), (174, .iload 7, 2, 0, 0, 0), (176, .iconst 2, 1, 0, 0, 0), (177, .iadd, 1, 0, 0, 0), (178, .iload_n 3, 1, 0, 0, 0), (179, .iastore, 1, 0, 0, 0), (180, .aload_n 0, 1, 0, 0, 0), (181, .getfield 115, 3, 12, 59, 0), (184, .iload 7, 2, 0, 0, 0), (186, .iconst 3, 1, 0, 0, 0), (187, .iadd, 1, 0, 0, 0), (188, .iload 5, 2, 0, 0, 0), (190, .bipush 48, 2, 0, 0, 0), (192, .if_icmp .ne 10, 3, 202, 0, 0), (195, .aload_n 0, 1, 0, 0, 0), (196, .getfield 402, 3, 12, 86, 0), (199, .goto 4, 3, 203, 0, 0), (202, .iconst (-1), 1, 0, 0, 0), (203, .iastore, 1, 0, 0, 0), (204, .aload_n 0, 1, 0, 0, 0), (205, .getfield 115, 3, 12, 59, 0), (208, .iload 7, 2, 0, 0, 0), (210, .iconst 4, 1, 0, 0, 0), (211, .iadd, 1, 0, 0, 0), (212, .aload_n 0, 1, 0, 0, 0), (213, .getfield 405, 3, 12, 87, 0), (216, .iastore, 1, 0, 0, 0), (217, .aload_n 0, 1, 0, 0, 0), (218, .getfield 115, 3, 12, 59, 0), (221, .iload 7, 2, 0, 0, 0), (223, .iconst 5, 1, 0, 0, 0), (224, .iadd, 1, 0, 0, 0), (225, .aload_n 0, 1, 0, 0, 0), (226, .getfield 169, 3, 12, 85, 0), (229, .iload_n 2, 1, 0, 0, 0), (230, .iaload, 1, 0, 0, 0), (231, .iastore, 1, 0, 0, 0), (232, .aload_n 0, 1, 0, 0, 0), (233, .dup, 1, 0, 0, 0), (234, .getfield 386, 3, 12, 57, 0), (237, .aload_n 0, 1, 0, 0, 0), (238, .getfield 52, 3, 12, 25, 0), (241, .aload_n 0, 1, 0, 0, 0), (242, .getfield 405, 3, 12, 87, 0), (245, .iaload, 1, 0, 0, 0), (246, .iadd, 1, 0, 0, 0), (247, .putfield 386, 3, 12, 57, 0), (250, .iinc 2 1, 3, 0, 0, 0), (253, .aload_n 0, 1, 0, 0, 0), (254, .getfield 163, 3, 12, 83, 0), (257, .iload_n 2, 1, 0, 0, 0), (258, .aload_n 0, 1, 0, 0, 0), (259, .getfield 405, 3, 12, 87, 0), (262, .iastore, 1, 0, 0, 0), (263, .aload_n 0, 1, 0, 0, 0), (264, .getfield 166, 3, 12, 84, 0), (267, .iload_n 2, 1, 0, 0, 0), (268, .iconst 0, 1, 0, 0, 0), (269, .iastore, 1, 0, 0, 0), (270, .aload_n 0, 1, 0, 0, 0), (271, .getfield 169, 3, 12, 85, 0), (274, .iload_n 2, 1, 0, 0, 0), (275, .aload_n 0, 1, 0, 0, 0), (276, .getfield 359, 3, 12, 58, 0), (279, .iastore, 1, 0, 0, 0), (280, .aload_n 0, 1, 0, 0, 0), (281, .dup, 1, 0, 0, 0), (282, .getfield 359, 3, 12, 58, 0), (285, .iconst 1, 1, 0, 0, 0), (286, .iadd, 1, 0, 0, 0), (287, .putfield 359, 3, 12, 58, 0), (290, .goto (-267), 3, 23, 0, 0), (293, .return_, 1, 0, 0, 0)]
/-- TierMillModel.isLaid(III)Z -/
def e_d191 : List (Nat × Instr × Nat × Nat × Nat × Int) := [(0, .iconst 0, 1, 0, 0, 0), (1, .istore 4, 2, 0, 0, 0), (3, .iconst 0, 1, 0, 0, 0), (4, .istore 5, 2, 0, 0, 0), (6, .aload_n 0, 1, 0, 0, 0), (7, .iconst (-1), 1, 0, 0, 0), (8, .putfield 402, 3, 12, 86, 0), (11, .iconst 0, 1, 0, 0, 0), (12, .istore 6, 2, 0, 0, 0), (14, .iload 6, 2, 0, 0, 0), (16, .bipush 8, 2, 0, 0, 0), (18, .if_icmp .ge 59, 3, 77, 0, 0), (21, .aload_n 0, 1, 0, 0, 0), (22, .iload_n 1, 1, 0, 0, 0), (23, .iload_n 2, 1, 0, 0, 0), (24, .iload 6, 2, 0, 0, 0), (26, .invokevirtual 408, 3, 189, 12, 3), (29, .istore 7, 2, 0, 0, 0), (31, .iload 4, 2, 0, 0, 0), (33, .iload 7, 2, 0, 0, 0), (35, .iadd, 1, 0, 0, 0), (36, .istore 4, 2, 0, 0, 0), (38, .iload 5, 2, 0, 0, 0), (40, .iload 7, 2, 0, 0, 0), (42, .ifCond .le 7, 3, 49, 0, 0), (45, .iconst 1, 1, 0, 0, 0), (46, .goto 4, 3, 50, 0, 0), (49, .iconst 0, 1, 0, 0, 0), (50, .iadd, 1, 0, 0, 0), (51, .istore 5, 2, 0, 0, 0), (53, .aload_n 0, 1, 0, 0, 0), (54, .iload 7, 2, 0, 0, 0), (56, .ifCond .le 8, 3, 64, 0, 0), (59, .iload 6, 2, 0, 0, 0), (61, .goto 7, 3, 68, 0, 0), (64, .aload_n 0, 1, 0, 0, 0), (65, .getfield 402, 3, 12, 86, 0), (68, .putfield 402, 3, 12, 86, 0), (71, .iinc 6 1, 3, 0, 0, 0), (74, .goto (-60), 3, 14, 0, 0), (77, .iload 4, 2, 0, 0, 0), (79, .aload_n 0, 1, 0, 0, 0), (80, .getfield 78, 3, 12, 35, 0), (83, .if_icmp .lt 15, 3, 98, 0, 0), (86, .iload_n 3, 1, 0, 0, 0), (87, .bipush 48, 2, 0, 0, 0), (89, .if_icmp .ne 11, 3, 100, 0, 0), (92, .iload 5, 2, 0, 0, 0), (94, .iconst 1, 1, 0, 0, 0), (95, .if_icmp .eq 5, 3, 100, 0, 0), (98, .iconst 0, 1, 0, 0, 0), (99, .ireturn, 1, 0, 0, 0), (100, .aload_n 0, 1, 0, 0, 0), (101, .iload_n 3, 1, 0, 0, 0), (102, .bipush 47, 2, 0, 0, 0), (104, .if_icmp .ne 14, 3, 118, 0, 0), (107, .aload_n 0, 1, 0, 0, 0), (108, .iload_n 1, 1, 0, 0, 0), (109, .iload_n 2, 1, 0, 0, 0), (110, .iconst 1, 1, 0, 0, 0), (111, .iadd, 1, 0, 0, 0), (112, .invokevirtual 237, 3, 158, 12, 2), (115, .goto 19, 3, 134, 0, 0), (118, .aload_n 0, 1, 0, 0, 0), (119, .aload_n 0, 1, 0, 0, 0), (120, .getfield 402, 3, 12, 86, 0), (123, .aload_n 0, 1, 0, 0, 0), (124, .iload_n 1, 1, 0, 0, 0), (125, .iload_n 2, 1, 0, 0, 0), (126, .iconst 1, 1, 0, 0, 0), (127, .iadd, 1, 0, 0, 0), (128, .invokevirtual 237, 3, 158, 12, 2), (131, .invokevirtual 335, 3, 168, 12, 2), (134, .putfield 405, 3, 12, 87, 0), (137, .aload_n 0, 1, 0, 0, 0), (138, .getfield 52, 3, 12, 25, 0), (141, .aload_n 0, 1, 0, 0, 0), (142, .getfield 405, 3, 12, 87, 0), (145, .iaload, 1, 0, 0, 0), (146, .aload_n 0, 1, 0, 0, 0), (147, .getfield 84, 3, 12, 37, 0), (150, .if_icmp .gt 27, 3, 177, 0, 0), (153, .aload_n 0, 1, 0, 0, 0), (154, .getfield 386, 3, 12, 57, 0), (157, .aload_n 0, 1, 0, 0, 0), (158, .getfield 52, 3, 12, 25, 0), (161, .aload_n 0, 1, 0, 0, 0), (162, .getfield 405, 3, 12, 87, 0), (165, .iaload, 1, 0, 0, 0), (166, .iadd, 1, 0, 0, 0), (167, .sipush 300, 3, 0, 0, 0), (170, .if_icmp .gt 7, 3, 177, 0, 0), (173, .iconst 1, 1, 0, 0, 0), (174, .goto 4, 3, 178, 0, 0), (177, .iconst 0, 1, 0, 0, 0), (178, .ireturn, 1, 0, 0, 0)]
/-- TierMillModel.siteAt(I)I -/
def e_d192 : List (Nat × Instr × Nat × Nat × Nat × Int) := [(0, .aload_n 0, 1, 0, 0, 0), (1, .getfield 127, 3, 12, 64, 0), (4, .iload_n 1, 1, 0, 0, 0), (5, .iaload, 1, 0, 0, 0), (6, .ifCond .ne 5, 3, 11, 0, 0), (9, .iconst (-1), 1, 0, 0, 0), (10, .ireturn, 1, 0, 0, 0), (11, .aload_n 0, 1, 0, 0, 0), (12, .getfield 130, 3, 12, 65, 0), (15, .iload_n 1, 1, 0, 0, 0), (16, .iaload, 1, 0, 0, 0), (17, .istore_n 2, 1, 0, 0, 0), (18, .aload_n 0, 1, 0, 0, 0), (19, .getfield 108, 3, 12, 55, 0), (22, .iload_n 2, 1, 0, 0, 0), (23, .iaload, 1, 0, 0, 0), (24, .istore_n 3, 1, 0, 0, 0), (25, .iload_n 3, 1, 0, 0, 0), (26, .aload_n 0, 1, 0, 0, 0), (27, .getfield 108, 3, 12, 55, 0), (30, .iload_n 2, 1, 0, 0, 0), (31, .iaload, 1, 0, 0, 0), (32, .aload_n 0, 1, 0, 0, 0), (33, .getfield 111, 3, 12, 56, 0), (36, .iload_n 2, 1, 0, 0, 0), (37, .iaload, 1, 0, 0, 0), (38, .iadd, 1, 0, 0, 0), (39, .if_icmp .ge 51, 3, 90, 0, 0), (42, .aload_n 0, 1, 0, 0, 0), (43, .getfield 115, 3, 12, 59, 0), (46, .bipush 6, 2, 0, 0, 0), (48, .iload_n 3, 1, 0, 0, 0), (49, .imul, 1, 0, 0, 0), (50, .iconst 5, 1, 0, 0, 0), (51, .iadd, 1, 0, 0, 0), (52, .iaload, 1, 0, 0, 0), (53, .aload_n 0, 1, 0, 0, 0), (54, .getfield 133, 3, 12, 66, 0), (57, .iload_n 1, 1, 0, 0, 0), (58, .iaload, 1, 0, 0, 0), (59, .if_icmp .ne 25, 3, 84, 0, 0), (62, .aload_n 0, 1, 0, 0, 0), (63, .getfield 115, 3, 12, 59, 0), (66, .bipush 6, 2, 0, 0, 0), (68, .iload_n 3, 1, 0, 0, 0), (69, .imul, 1, 0, 0, 0), (70, .iconst 2, 1, 0, 0, 0), (71, .iadd, 1, 0, 0, 0), (72, .iaload, 1, 0, 0, 0), (73, .aload_n 0, 1, 0, 0, 0), (74, .getfield 121, 3, 12, 62, 0), (77, .iload_n 1, 1, 0, 0, 0), (78, .iaload, 1, 0, 0, 0), (79, .if_icmp .ne 5, 3, 84, 0, 0), (82, .iload_n 3, 1, 0, 0, 0), (83, .ireturn, 1, 0, 0, 0), (84, .iinc 3 1, 3, 0, 0, 0), (87, .goto (-62), 3, 25, 0, 0), (90, .iconst (-1), 1, 0, 0, 0), (91, .ireturn, 1, 0, 0, 0)]
/-- TierMillModel.fail(II)V -/
def e_d193 : List (Nat × Instr × Nat × Nat × Nat × Int) := [(0, .iload_n 1, 1, 0, 0, 0), (1, .istore_n 3, 1, 0, 0, 0), (2, .aload_n 0, 1, 0, 0, 0), (3, .getfield 127, 3, 12, 64, 0), (6, .iload_n 3, 1, 0, 0, 0), (7, .iaload, 1, 0, 0, 0), (8, .iconst 2, 1, 0, 0, 0), (9, .if_icmp .ne 16, 3, 25, 0, 0), (12, .aload_n 0, 1, 0, 0, 0), (13, .getfield 127, 3, 12, 64, 0), (16, .iload_n 3, 1, 0, 0, 0), (17, .iconst 0, 1, 0, 0, 0), (18, .iastore, 1, 0, 0, 0), (19, .iinc 3 (-1), 3, 0, 0, 0), (22, .goto (-20), 3, 2, 0, 0), (25, .aload_n 0, 1, 0, 0, 0), (26, .getfield 127, 3, 12, 64, 0), (29, .iload_n 3, 1, 0, 0, 0), (30, .iconst 0, 1, 0, 0, 0), (31, .iastore, 1, 0, 0, 0), (32, .aload_n 0, 1, 0, 0, 0), (33, .getfield 118, 3, 12, 61, 0), (36, .iload_n 3, 1, 0, 0, 0), (37, .iaload, 1, 0, 0, 0), (38, .istore 4, 2, 0, 0, 0), (40, .aload_n 0, 1, 0, 0, 0), (41, .iconst 2, 1, 0, 0, 0), (42, .iload 4, 2, 0, 0, 0), (44, .aload_n 0, 1, 0, 0, 0), (45, .getfield 118, 3, 12, 61, 0), (48, .iload_n 1, 1, 0, 0, 0), (49, .iaload, 1, 0, 0, 0), (50, .iload_n 2, 1, 0, 0, 0), (51, .invokevirtual 392, 3, 187, 12, 4), (54, .aload_n 0, 1, 0, 0, 0), (55, .getfield 99, 3, 12, 50, 0), (58, .iload 4, 2, 0, 0, 0), (60, .iaload, 1, 0, 0, 0), (61, .aload_n 0, 1, 0, 0, 0), (62, .getfield 130, 3, 12, 65, 0), (65, .iload_n 3, 1, 0, 0, 0), (66, .iaload, 1, 0, 0, 0), (67, .if_icmp .eq 4, 3, 71, 0, 0), (70, .return_, 1, 0, 0, 0), (71, .aload_n 0, 1, 0, 0, 0), (72, .getfield 99, 3, 12, 50, 0), (75, .iload 4, 2, 0, 0, 0), (77, .iconst (-1), 1, 0, 0, 0), (78, .iastore, 1, 0, 0, 0), (79, .aload_n 0, 1, 0, 0, 0), (80, .getfield 96, 3, 12, 49, 0), (83, .iload 4, 2, 0, 0, 0), (85, .iconst 0, 1, 0, 0, 0), (86, .iastore, 1, 0, 0, 0), (87, .return_, 1, 0, 0, 0)]
/-- TierMillModel.call(II)V -/
def e_d194 : List (Nat × Instr × Nat × Nat × Nat × Int) := [(0, .aload_n 0, 1, 0, 0, 0), (1, .getfield 362, 3, 12, 60, 0), (4, .iconst 1, 1, 0, 0, 0), (5, .isub, 1, 0, 0, 0), (6, .istore_n 3, 1, 0, 0, 0), (7, .aload_n 0, 1, 0, 0, 0), (8, .getfield 121, 3, 12, 62, 0), (11, .iload_n 3, 1, 0, 0, 0), (12, .iaload, 1, 0, 0, 0), (13, .istore 4, 2, 0, 0, 0), (15, .aload_n 0, 1, 0, 0, 0), (16, .iload_n 3, 1, 0, 0, 0), (17, .invokevirtual 412, 3, 192, 12, 1), (20, .istore 5, 2, 0, 0, 0), (22, .iload 5, 2, 0, 0, 0), (24, .iconst (-1), 1, 0, 0, 0), (25, .if_icmp .eq 45, 3, 70, 0, 0), (28, .aload_n 0, 1, 0, 0, 0), (29, .getfield 115, 3, 12, 59, 0), (32, .bipush 6, 2, 0, 0, 0), (34, .iload 5, 2, 0, 0, 0), (36, .imul, 1, 0, 0, 0), (37, .iconst 3, 1, 0, 0, 0), (38, .iadd, 1, 0, 0, 0), (39, .iaload, 1, 0, 0, 0), (40, .iconst (-1), 1, 0, 0, 0), (41, .if_icmp .eq 29, 3, 70, 0, 0), (44, .aload_n 0, 1, 0, 0, 0), (45, .getfield 115, 3, 12, 59, 0), (48, .bipush 6, 2, 0, 0, 0), (50, .iload 5, 2, 0, 0, 0), (52, .imul, 1, 0, 0, 0), (53, .iconst 3, 1, 0, 0, 0), (54, .iadd, 1, 0, 0, 0), (55, .iaload, 1, 0, 0, 0), (56, .iload_n 2, 1, 0, 0, 0), (57, .if_icmp .eq 13, 3, 70, 0, 0), (60, .aload_n 0, 1, 0, 0, 0), (61, .iload_n 3, 1, 0, 0, 0), (62, .iload 4, 2, 0, 0, 0), (64, .invokevirtual 415, 3, 193, 12, 2), (67, .iconst (-1), 1, 0, 0, 0), (68, .istore 5, 2, 0, 0, 0), (70, .aload_n 0, 1, 0, 0, 0), (71, .getfield 127, 3, 12, 64, 0), (74, .iload_n 3, 1, 0, 0, 0), (75, .iaload, 1, 0, 0, 0), (76, .ifCond .ne 29, 3, 105, 0, 0), (79, .aload_n 0, 1, 0, 0, 0), (80, .getfield 102, 3, 12, 51, 0), (83, .bipush 8, 2, 0, 0, 0), (85, .bipush 120, 2, 0, 0, 0), (87, .aload_n 0, 1, 0, 0, 0), (88, .getfield 118, 3, 12, 61, 0), (91, .iload_n 3, 1, 0, 0, 0), (92, .iaload, 1, 0, 0, 0), (93, .imul, 1, 0, 0, 0), (94, .iload 4, 2, 0, 0, 0), (96, .iadd, 1, 0, 0, 0), (97, .imul, 1, 0, 0, 0), (98, .iload_n 2, 1, 0, 0, 0), (99, .iadd, 1, 0, 0, 0), (100, .dup2, 1, 0, 0, 0), (101, .iaload, 1, 0, 0, 0), (102, .iconst 1, 1, 0, 0, 0), (103, .iadd, 1, 0, 0, 0), (104, .iastore, 1, 0, 0, 0), (105, .aload_n 0, 1, 0, 0, 0), (106, .getfield 124, 3, 12, 63, 0), (109, .iload_n 3, 1, 0, 0, 0), (110, .iload 4, 2, 0, 0, 0), (112, .iastore, 1, 0, 0, 0), (113, .aload_n 0, 1, 0, 0, 0), (114, .getfield 121, 3, 12, 62, 0), (117, .iload_n 3, 1, 0, 0, 0), (118, .iload 4, 2, 0, 0, 0), (120, .iconst 2, 1, 0, 0, 0), (121, .iadd, 1, 0, 0, 0), (122, .iastore, 1, 0, 0, 0), (123, .aload_n 0, 1, 0, 0, 0), (124, .getfield 136, 3, 12, 67, 0), (127, .iload_n 3, 1, 0, 0, 0), (128, .dup2, 1, 0, 0, 0), (129, .iaload, 1, 0, 0, 0), (130, .aload_n 0, 1, 0, 0, 0), (131, .getfield 37, 3, 12, 20, 0), (134, .iload_n 1, 1, 0, 0, 0), (135, .iaload, 1, 0, 0, 0), (136, .isub, 1, 0, 0, 0), (137, .iastore, 1, 0, 0, 0), (138, .iload 5, 2, 0, 0, 0), (140, .iconst (-1), 1, 0, 0, 0), (141, .if_icmp .ne 11, 3, 152, 0, 0), (144, .aload_n 0, 1, 0, 0, 0), (145, .iload_n 1, 1, 0, 0, 0), (146, .invokevirtual 380, 3, 188, 12, 1), (149, .goto 17, 3, 166, 0, 0), (152, .aload_n 0, 1, 0, 0, 0), (153, .iload_n 1, 1, 0, 0, 0), (154, .iconst 2, 1, 0, 0, 0), (155, .aload_n 0, 1, 0, 0, 0), (156, .getfield 130, 3, 12, 65, 0), (159, .iload_n 3, 1, 0, 0, 0), (160, .iaload, 1, 0, 0, 0), (161, .iload 5, 2, 0, 0, 0), (163, .invokevirtual 396, 3, 186, 12, 4), (166, .iconst 0, 1, 0, 0, 0), (167, .istore 6, 2, 0, 0, 0), (169, .iload 6, 2, 0, 0, 0), (171, .aload_n 0, 1, 0, 0, 0), (172, .getfield 37, 3, 12, 20, 0), (175, .iload_n 1, 1, 0, 0, 0), (176, .iaload, 1, 0, 0, 0), (177, .if_icmp .ge 43, 3, 220, 0, 0), (180, .aload_n 0, 1, 0, 0, 0), (181, .getfield 139, 3, 12, 68, 0), (184, .bipush 8, 2, 0, 0, 0), (186, .iload_n 3, 1, 0, 0, 0), (187, .imul, 1, 0, 0, 0), (188, .bipush 8, 2, 0, 0, 0), (190, .iadd, 1, 0, 0, 0), (191, .iload 6, 2, 0, 0, 0), (193, .iadd, 1, 0, 0, 0), (194, .aload_n 0, 1, 0, 0, 0), (195, .getfield 142, 3, 12, 69, 0), (198, .bipush 8, 2, 0, 0, 0), (200, .iload_n 3, 1, 0, 0, 0), (201, .imul, 1, 0, 0, 0), (202, .aload_n 0, 1, 0, 0, 0), (203, .getfield 136, 3, 12, 67, 0), (206, .iload_n 3, 1, 0, 0, 0), (207, .iaload, 1, 0, 0, 0), (208, .iadd, 1, 0, 0, 0), (209, .iload 6, 2, 0, 0, 0), (211, .iadd, 1, 0, 0, 0), (212, .iaload, 1, 0, 0, 0), (213, .iastore, 1, 0, 0, 0), (214, .iinc 6 1, 3, 0, 0, 0), (217, .goto (-48), 3, 169, 0, 0), (220, .return_, 1, 0, 0, 0)]
/-- TierMillModel.objectOf(I)I -/
def e_d195 : List (Nat × Instr × Nat × Nat × Nat × Int) := [(0, .iconst 0, 1, 0, 0, 0), (1, .istore_n 2, 1, 0, 0, 0), (2, .aload_n 0, 1, 0, 0, 0), (3, .getfield 371, 3, 12, 73, 0), (6, .iconst 1, 1, 0, 0, 0), (7, .isub, 1, 0, 0, 0), (8, .istore_n 3, 1, 0, 0, 0), (9, .iload_n 2, 1, 0, 0, 0), (10, .iload_n 3, 1, 0, 0, 0), (11, .if_icmp .ge 35, 3, 46, 0, 0), (14, .iload_n 2, 1, 0, 0, 0), (15, .iload_n 3, 1, 0, 0, 0), (16, .iadd, 1, 0, 0, 0), (17, .iconst 2, 1, 0, 0, 0), (18, .idiv, 1, 0, 0, 0), (19, .istore 4, 2, 0, 0, 0), (21, .aload_n 0, 1, 0, 0, 0), (22, .getfield 145, 3, 12, 74, 0), (25, .iload 4, 2, 0, 0, 0), (27, .iaload, 1, 0, 0, 0), (28, .iload_n 1, 1, 0, 0, 0), (29, .if_icmp .ge 11, 3, 40, 0, 0), (32, .iload 4, 2, 0, 0, 0), (34, .iconst 1, 1, 0, 0, 0), (35, .iadd, 1, 0, 0, 0), (36, .istore_n 2, 1, 0, 0, 0), (37, .goto 6, 3, 43, 0, 0), (40, .iload 4, 2, 0, 0, 0), (42, .istore_n 3, 1, 0, 0, 0), (43, .goto (-34), 3, 9, 0, 0), (46, .iload_n 2, 1, 0, 0, 0), (47, .ireturn, 1, 0, 0, 0)]
/-- TierMillModel.reach(I)V -/
def e_d196 : List (Nat × Instr × Nat × Nat × Nat × Int) := [(0, .iload_n 1, 1, 0, 0, 0), (1, .ifCond .ne 4, 3, 5, 0, 0), (4, .return_, 1, 0, 0, 0), (5, .aload_n 0, 1, 0, 0, 0), (6, .iload_n 1, 1, 0, 0, 0), (7, .invokevirtual 418, 3, 195, 12, 1), (10, .istore_n 2, 1, 0, 0, 0), (11, .aload_n 0, 1, 0, 0, 0), (12, .getfield 157, 3, 12, 78, 0), (15, .iload_n 2, 1, 0, 0, 0), (16, .baload, 1, 0, 0, 0), (17, .ifCond .eq 4, 3, 21, 0, 0), (20, .return_, 1, 0, 0, 0), (21, .aload_n 0, 1, 0, 0, 0), (22, .getfield 157, 3, 12, 78, 0), (25, .iload_n 2, 1, 0, 0, 0), (26, .iconst 1, 1, 0, 0, 0), (27, .bastore, 1, 0, 0, 0), (28, .aload_n 0, 1, 0, 0, 0), (29, .getfield 172, 3, 12, 89, 0), (32, .aload_n 0, 1, 0, 0, 0), (33, .getfield 421, 3, 12, 88, 0), (36, .iload_n 2, 1, 0, 0, 0), (37, .iastore, 1, 0, 0, 0), (38, .aload_n 0, 1, 0, 0, 0), (39, .dup, 1, 0, 0, 0), (40, .getfield 421, 3, 12, 88, 0), (43, .iconst 1, 1, 0, 0, 0), (44, .iadd, 1, 0, 0, 0), (45, .putfield 421, 3, 12, 88, 0), (48, .return_, 1, 0, 0, 0)]
/-- TierMillModel.reachFields(I)V -/
def e_d197 : List (Nat × Instr × Nat × Nat × Nat × Int) := [(0, .iconst 0, 1, 0, 0, 0), (1, .istore_n 2, 1, 0, 0, 0), (2, .aload_n 0, 1, 0, 0, 0), (3, .getfield 148, 3, 12, 75, 0), (6, .iload_n 1, 1, 0, 0, 0), (7, .iaload, 1, 0, 0, 0), (8, .bipush 16, 2, 0, 0, 0), (10, .if_icmp .ge 56, 3, 66, 0, 0), (13, .iload_n 2, 1, 0, 0, 0), (14, .aload_n 0, 1, 0, 0, 0), (15, .getfield 154, 3, 12, 77, 0), (18, .iload_n 1, 1, 0, 0, 0), (19, .iaload, 1, 0, 0, 0), (20, .if_icmp .ge 46, 3, 66, 0, 0), (23, .aload_n 0, 1, 0, 0, 0), (24, .getfield 25, 3, 12, 14, 0), (27, .bipush 8, 2, 0, 0, 0), (29, .aload_n 0, 1, 0, 0, 0), (30, .getfield 148, 3, 12, 75, 0), (33, .iload_n 1, 1, 0, 0, 0), (34, .iaload, 1, 0, 0, 0), (35, .imul, 1, 0, 0, 0), (36, .iload_n 2, 1, 0, 0, 0), (37, .iadd, 1, 0, 0, 0), (38, .iaload, 1, 0, 0, 0), (39, .iconst 1, 1, 0, 0, 0), (40, .if_icmp .eq 20, 3, 60, 0, 0), (43, .aload_n 0, 1, 0, 0, 0), (44, .aload_n 0, 1, 0, 0, 0), (45, .getfield 160, 3, 12, 80, 0), (48, .aload_n 0, 1, 0, 0, 0), (49, .getfield 151, 3, 12, 76, 0), (52, .iload_n 1, 1, 0, 0, 0), (53, .iaload, 1, 0, 0, 0), (54, .iload_n 2, 1, 0, 0, 0), (55, .iadd, 1, 0, 0, 0), (56, .iaload, 1, 0, 0, 0), (57, .invokevirtual 424, 3, 196, 12, 1), (60, .iinc 2 1, 3, 0, 0, 0), (63, .goto (-61), 3, 2, 0, 0), (66, .return_, 1, 0, 0, 0)]
/-- TierMillModel.isRef(I)Z -/
def e_d198 : List (Nat × Instr × Nat × Nat × Nat × Int) := [(0, .iload_n 0, 1, 0, 0, 0), (1, .iconst 2, 1, 0, 0, 0), (2, .if_icmp .eq 9, 3, 11, 0, 0), (5, .iload_n 0, 1, 0, 0, 0), (6, .bipush 15, 2, 0, 0, 0), (8, .if_icmp .lt 7, 3, 15, 0, 0), (11, .iconst 1, 1, 0, 0, 0), (12, .goto 4, 3, 16, 0, 0), (15, .iconst 0, 1, 0, 0, 0), (16, .ireturn, 1, 0, 0, 0)]
/-- TierMillModel.rowOf(I)I -/
def e_d199 : List (Nat × Instr × Nat × Nat × Nat × Int) := [(0, .bipush 120, 2, 0, 0, 0), (2, .aload_n 0, 1, 0, 0, 0), (3, .getfield 118, 3, 12, 61, 0), (6, .iload_n 1, 1, 0, 0, 0), (7, .iaload, 1, 0, 0, 0), (8, .imul, 1, 0, 0, 0), (9, .iload_n 1, 1, 0, 0, 0), (10, .aload_n 0, 1, 0, 0, 0), (11, .getfield 362, 3, 12, 60, 0), (14, .iconst 1, 1, 0, 0, 0), (15, .isub, 1, 0, 0, 0), (16, .if_icmp .ne 12, 3, 28, 0, 0), (19, .aload_n 0, 1, 0, 0, 0), (20, .getfield 121, 3, 12, 62, 0), (23, .iload_n 1, 1, 0, 0, 0), (24, .iaload, 1, 0, 0, 0), (25, .goto 9, 3, 34, 0, 0), (28, .aload_n 0, 1, 0, 0, 0), (29, .getfield 124, 3, 12, 63, 0), (32, .iload_n 1, 1, 0, 0, 0), (33, .iaload, 1, 0, 0, 0), (34, .iadd, 1, 0, 0, 0), (35, .ireturn, 1, 0, 0, 0)]
/-- TierMillModel.collect()V -/
def e_d200 : List (Nat × Instr × Nat × Nat × Nat × Int) := [(0, .aload_n 0, 1, 0, 0, 0), (1, .getfield 365, 3, 12, 71, 0), (4, .istore_n 1, 1, 0, 0, 0), (5, .iconst 0, 1, 0, 0, 0), (6, .istore_n 2, 1, 0, 0, 0), (7, .iload_n 2, 1, 0, 0, 0), (8, .aload_n 0, 1, 0, 0, 0), (9, .getfield 371, 3, 12, 73, 0), (12, .if_icmp .ge 16, 3, 28, 0, 0), (15, .aload_n 0, 1, 0, 0, 0), (16, .getfield 157, 3, 12, 78, 0), (19, .iload_n 2, 1, 0, 0, 0), (20, .iconst 0, 1, 0, 0, 0), (21, .bastore, 1, 0, 0, 0), (22, .iinc 2 1, 3, 0, 0, 0), (25, .goto (-18), 3, 7, 0, 0), (28, .aload_n 0, 1, 0, 0, 0), (29, .iconst 0, 1, 0, 0, 0), (30, .putfield 421, 3, 12, 88, 0), (33, .iconst 0, 1, 0, 0, 0), (34, .istore_n 2, 1, 0, 0, 0), (35, .iload_n 2, 1, 0, 0, 0), (36, .aload_n 0, 1, 0, 0, 0), (37, .getfield 362, 3, 12, 60, 0), (40, .if_icmp .ge 128, 3, 168, 0, 0), (43, .bipush 16, 2, 0, 0, 0), (45, .aload_n 0, 1, 0, 0, 0), (46, .iload_n 2, 1, 0, 0, 0), (47, .invokevirtual 427, 3, 199, 12, 1), (50, .imul, 1, 0, 0, 0), (51, .istore_n 3, 1, 0, 0, 0), (52, .iconst 0, 1, 0, 0, 0), (53, .istore 4, 2, 0, 0, 0), (55, .iload 4, 2, 0, 0, 0), (57, .aload_n 0, 1, 0, 0, 0), (58, .getfield 46, 3, 12, 23, 0), (61, .aload_n 0, 1, 0, 0, 0), (62, .getfield 118, 3, 12, 61, 0), (65, .iload_n 2, 1, 0, 0, 0), (66, .iaload, 1, 0, 0, 0), (67, .iaload, 1, 0, 0, 0), (68, .if_icmp .ge 40, 3, 108, 0, 0), (71, .aload_n 0, 1, 0, 0, 0), (72, .getfield 68, 3, 12, 30, 0), (75, .iload_n 3, 1, 0, 0, 0), (76, .iload 4, 2, 0, 0, 0), (78, .iadd, 1, 0, 0, 0), (79, .iaload, 1, 0, 0, 0), (80, .invokestatic 430, 3, 198, 0, 1), (83, .ifCond .eq 19, 3, 102, 0, 0), (86, .aload_n 0, 1, 0, 0, 0), (87, .aload_n 0, 1, 0, 0, 0), (88, .getfield 139, 3, 12, 68, 0), (91, .bipush 8, 2, 0, 0, 0), (93, .iload_n 2, 1, 0, 0, 0), (94, .imul, 1, 0, 0, 0), (95, .iload 4, 2, 0, 0, 0), (97, .iadd, 1, 0, 0, 0), (98, .iaload, 1, 0, 0, 0), (99, .invokevirtual 424, 3, 196, 12, 1), (102, .iinc 4 1, 3, 0, 0, 0), (105, .goto (-50), 3, 55, 0, 0), (108, .iconst 0, 1, 0, 0, 0), (109, .istore 4, 2, 0, 0, 0), (111, .iload 4, 2, 0, 0, 0), (113, .aload_n 0, 1, 0, 0, 0), (114, .getfield 136, 3, 12, 67, 0), (117, .iload_n 2, 1, 0, 0, 0), (118, .iaload, 1, 0, 0, 0), (119, .if_icmp .ge 43, 3, 162, 0, 0), (122, .aload_n 0, 1, 0, 0, 0), (123, .getfield 68, 3, 12, 30, 0), (126, .iload_n 3, 1, 0, 0, 0), (127, .bipush 8, 2, 0, 0, 0), (129, .iadd, 1, 0, 0, 0), (130, .iload 4, 2, 0, 0, 0), (132, .iadd, 1, 0, 0, 0), (133, .iaload, 1, 0, 0, 0), (134, .invokestatic 430, 3, 198, 0, 1), (137, .ifCond .eq 19, 3, 156, 0, 0), (140, .aload_n 0, 1, 0, 0, 0), (141, .aload_n 0, 1, 0, 0, 0), (142, .getfield 142, 3, 12, 69, 0), (145, .bipush 8, 2, 0, 0, 0), (147, .iload_n 2, 1, 0, 0, 0), (148, .imul, 1, 0, 0, 0), (149, .iload 4, 2, 0, 0, 0), (151, .iadd, 1, 0, 0, 0), (152, .iaload, 1, 0, 0, 0), (153, .invokevirtual 424, 3, 196, 12, 1), (156, .iinc 4 1, 3, 0, 0, 0), (159, .goto (-48), 3, 111, 0, 0), (162, .iinc 2 1, 3, 0, 0, 0), (165, .goto (-130), 3, 35, 0, 0), (168, .iconst 0, 1, 0, 0, 0), (169, .istore_n 2, 1, 0, 0, 0), (170, .iload_n 2, 1, 0, 0, 0), (171, .aload_n 0, 1, 0, 0, 0), (172, .getfield 421, 3, 12, 88, 0), (175, .if_icmp .ge 19, 3, 194, 0, 0), (178, .aload_n 0, 1, 0, 0, 0), (179, .aload_n 0, 1, 0, 0, 0), (180, .getfield 172, 3, 12, 89, 0), (183, .iload_n 2, 1, 0, 0, 0), (184, .iaload, 1, 0, 0, 0), (185, .invokevirtual 433, 3, 197, 12, 1), (188, .iinc 2 1, 3, 0, 0, 0), (191, .goto (-21), 3, 170, 0, 0), (194, .iconst 0, 1, 0, 0, 0), (195, .istore_n 2, 1, 0, 0, 0), (196, .iconst 0, 1, 0, 0, 0), (197, .istore_n 3, 1, 0, 0, 0), (198, .aload_n 0, 1, 0, 0, 0), (199, .iconst 0, 1, 0, 0, 0), (200, .putfield 365, 3, 12, 71, 0), (203, .iconst 0, 1, 0, 0, 0), (204, .istore 4, 2, 0, 0, 0), (206, .iload 4, 2, 0, 0, 0), (208, .aload_n 0, 1, 0, 0, 0), (209, .getfield 371, 3, 12, 73, 0), (212, .if_icmp .ge 144, 3, 356, 0, 0), (215, .aload_n 0, 1, 0, 0, 0), (216, .getfield 157, 3, 12, 78, 0), (219, .iload 4, 2, 0, 0, 0), (221, .baload, 1, 0, 0, 0), (222, .ifCond .ne 6, 3, 228, 0, 0), (225, .goto 125, 3, 350, 0, 0), (228, .iconst 0, 1, 0, 0, 0), (229, .istore 5, 2, 0, 0, 0), (231, .iload 5, 2, 0, 0, 0), (233, .aload_n 0, 1, 0, 0, 0), (234, .getfield 154, 3, 12, 77, 0), (237, .iload 4, 2, 0, 0, 0), (239, .iaload, 1, 0, 0, 0), (240, .if_icmp .ge 33, 3, 273, 0, 0), (243, .aload_n 0, 1, 0, 0, 0), (244, .getfield 160, 3, 12, 80, 0), (247, .iload_n 3, 1, 0, 0, 0), (248, .iload 5, 2, 0, 0, 0), (250, .iadd, 1, 0, 0, 0), (251, .aload_n 0, 1, 0, 0, 0), (252, .getfield 160, 3, 12, 80, 0), (255, .aload_n 0, 1, 0, 0, 0), (256, .getfield 151, 3, 12, 76, 0), (259, .iload 4, 2, 0, 0, 0), (261, .iaload, 1, 0, 0, 0), (262, .iload 5, 2, 0, 0, 0), (264, .iadd, 1, 0, 0, 0), (265, .iaload, 1, 0, 0, 0), (266, .iastore, 1, 0, 0, 0), (267, .iinc 5 1, 3, 0, 0, 0), (270, .goto (-39), 3, 231, 0, 0), (273, .aload_n 0, 1, 0, 0, 0), (274, .getfield 145, 3, 12, 74, 0), (277, .iload_n 2, 1, 0, 0, 0), (278, .aload_n 0, 1, 0, 0, 0), (279, .getfield 145, 3, 12, 74, 0), (282, .iload 4, 2, 0, 0, 0), (284, .iaload, 1, 0, 0, 0), (285, .iastore, 1, 0, 0, 0), (286, .aload_n 0, 1, 0, 0, 0), (287, .getfield 148, 3, 12, 75, 0), (290, .iload_n 2, 1, 0, 0, 0), (291, .aload_n 0, 1, 0, 0, 0), (292, .getfield 148, 3, 12, 75, 0), (295, .iload 4, 2, 0, 0, 0), (297, .iaload, 1, 0, 0, 0), (298, .iastore, 1, 0, 0, 0), (299, .aload_n 0, 1, 0, 0, 0), (300, .getfield 154, 3, 12, 77, 0), (303, .iload_n 2, 1, 0, 0, 0), (304, .aload_n 0, 1, 0, 0, 0), (305, .getfield 154, 3, 12, 77, 0), (308, .iload 4, 2, 0, 0, 0), (310, .iaload, 1, 0, 0, 0), (311, .iastore, 1, 0, 0, 0), (312, .aload_n 0, 1, 0, 0, 0), (313, .getfield 151, 3, 12, 76, 0), (316, .iload_n 2, 1, 0, 0, 0), (317, .iload_n 3, 1, 0, 0, 0), (318, .iastore, 1, 0, 0, 0), (319, .iload_n 3, 1, 0, 0, 0), (320, .aload_n 0, 1, 0, 0, 0), (321, .getfield 154, 3, 12, 77, 0), (324, .iload 4, 2, 0, 0, 0), (326, .iaload, 1, 0, 0, 0), (327, .iadd, 1, 0, 0, 0), (328, .istore_n 3, 1, 0, 0, 0), (329, .aload_n 0, 1, 0, 0, 0), (330, .dup, 1, 0, 0, 0), (331, .getfield 365, 3, 12, 71, 0), (334, .iconst 2, 1, 0, 0, 0), (335, .aload_n 0, 1, 0, 0, 0), (336, .getfield 154, 3, 12, 77, 0), (339, .iload 4, 2, 0, 0, 0), (341, .iaload, 1, 0, 0, 0), (342, .iadd, 1, 0, 0, 0), (343, .iadd, 1, 0, 0, 0), (344, .putfield 365, 3, 12, 71, 0), (347, .iinc 2 1, 3, 0, 0, 0), (350, .iinc 4 1, 3, 0, 0, 0), (353, .goto (-147), 3, 206, 0, 0), (356, .aload_n 0, 1, 0, 0, 0), (357, .iload_n 2, 1, 0, 0, 0), (358, .putfield 371, 3, 12, 73, 0), (361, .aload_n 0, 1, 0, 0, 0), (362, .iload_n 3, 1, 0, 0, 0), (363, .putfield 374, 3, 12, 79, 0), (366, .aload_n 0, 1, 0, 0, 0), (367, .iconst 3, 1, 0, 0, 0), (368, .aload_n 0, 1, 0, 0, 0), (369, .getfield 118, 3, 12, 61, 0), (372, .aload_n 0, 1, 0, 0, 0), (373, .getfield 362, 3, 12, 60, 0), (376, .iconst 1, 1, 0, 0, 0), (377, .isub, 1, 0, 0, 0), (378, .iaload, 1, 0, 0, 0), (379, .iload_n 1, 1, 0, 0, 0), (380, .aload_n 0, 1, 0, 0, 0), (381, .getfield 365, 3, 12, 71, 0), (384, .invokevirtual 392, 3, 187, 12, 4), (387, .return_, 1, 0, 0, 0)]
/-- TierMillModel.make(II)I -/
def e_d201 : List (Nat × Instr × Nat × Nat × Nat × Int) := [(0, .aload_n 0, 1, 0, 0, 0), (1, .getfield 365, 3, 12, 71, 0), (4, .i2l, 1, 0, 0, 0), (5, .ldc2_w 436, 3, 0, 0, 2), (8, .ladd, 1, 0, 0, 0), (9, .iload_n 2, 1, 0, 0, 0), (10, .i2l, 1, 0, 0, 0), (11, .ladd, 1, 0, 0, 0), (12, .aload_n 0, 1, 0, 0, 0), (13, .getfield 377, 3, 12, 70, 0), (16, .i2l, 1, 0, 0, 0), (17, .lcmp, 1, 0, 0, 0), (18, .ifCond .le 7, 3, 25, 0, 0), (21, .aload_n 0, 1, 0, 0, 0), (22, .invokevirtual 438, 3, 200, 12, 0), (25, .aload_n 0, 1, 0, 0, 0), (26, .getfield 365, 3, 12, 71, 0), (29, .i2l, 1, 0, 0, 0), (30, .ldc2_w 436, 3, 0, 0, 2), (33, .ladd, 1, 0, 0, 0), (34, .iload_n 2, 1, 0, 0, 0), (35, .i2l, 1, 0, 0, 0), (36, .ladd, 1, 0, 0, 0), (37, .aload_n 0, 1, 0, 0, 0), (38, .getfield 377, 3, 12, 70, 0), (41, .i2l, 1, 0, 0, 0), (42, .lcmp, 1, 0, 0, 0), (43, .ifCond .le 5, 3, 48, 0, 0), (46, .iconst (-1), 1, 0, 0, 0), (47, .ireturn, 1, 0, 0, 0), (48, .aload_n 0, 1, 0, 0, 0), (49, .dup, 1, 0, 0, 0), (50, .getfield 365, 3, 12, 71, 0), (53, .iconst 2, 1, 0, 0, 0), (54, .iload_n 2, 1, 0, 0, 0), (55, .iadd, 1, 0, 0, 0), (56, .iadd, 1, 0, 0, 0), (57, .putfield 365, 3, 12, 71, 0), (60, .aload_n 0, 1, 0, 0, 0), (61, .dup, 1, 0, 0, 0), (62, .getfield 368, 3, 12, 72, 0), (65, .iconst 1, 1, 0, 0, 0), (66, .iadd, 1, 0, 0, 0), (67, .putfield 368, 3, 12, 72, 0), (70, .aload_n 0, 1, 0, 0, 0), (71, .getfield 145, 3, 12, 74, 0), (74, .aload_n 0, 1, 0, 0, 0), (75, .getfield 371, 3, 12, 73, 0), (78, .aload_n 0, 1, 0, 0, 0), (79, .getfield 368, 3, 12, 72, 0), (82, .iastore, 1, 0, 0, 0), (83, .aload_n 0, 1, 0, 0, 0), (84, .getfield 148, 3, 12, 75, 0), (87, .aload_n 0, 1, 0, 0, 0), (88, .getfield 371, 3, 12, 73, 0), (91, .iload_n 1, 1, 0, 0, 0), (92, .iastore, 1, 0, 0, 0), (93, .aload_n 0, 1, 0, 0, 0), (94, .getfield 154, 3, 12, 77, 0), (97, .aload_n 0, 1, 0, 0, 0), (98, .getfield 371, 3, 12, 73, 0), (101, .iload_n 2, 1, 0, 0, 0), (102, .iastore, 1, 0, 0, 0), (103, .aload_n 0, 1, 0, 0, 0), (104, .getfield 151, 3, 12, 76, 0), (107, .aload_n 0, 1, 0, 0, 0), (108, .getfield 371, 3, 12, 73, 0), (111, .aload_n 0, 1, 0, 0, 0), (112, .getfield 374, 3, 12, 79, 0), (115, .iastore, 1, 0, 0, 0), (116, .iconst 0, 1, 0, 0, 0), (117, .istore_n 3, 1, 0, 0, 0), (118, .iload_n 3, 1, 0, 0, 0), (119, .iload_n 2, 1, 0, 0, 0), (120, .if_icmp .ge 21, 3, 141, 0, 0), (123, .aload_n 0, 1, 0, 0, 0), (124, .getfield 160, 3, 12, 80, 0), (127, .aload_n 0, 1, 0, 0, 0), (128, .getfield 374, 3, 12, 79, 0), (131, .iload_n 3, 1, 0, 0, 0), (132, .iadd, 1, 0, 0, 0), (133, .iconst 0, 1, 0, 0, 0), (134, .iastore, 1, 0, 0, 0), (135, .iinc 3 1, 3, 0, 0, 0), (138, .goto (-20), 3, 118, 0, 0), (141, .aload_n 0, 1, 0, 0, 0), (142, .dup, 1, 0, 0, 0), (143, .getfield 374, 3, 12, 79, 0), (146, .iload_n 2, 1, 0, 0, 0), (147, .iadd, 1, 0, 0, 0), (148, .putfield 374, 3, 12, 79, 0), (151, .aload_n 0, 1, 0, 0, 0), (152, .dup, 1, 0, 0, 0), (153, .getfield 371, 3, 12, 73, 0), (156, .iconst 1, 1, 0, 0, 0), (157, .iadd, 1, 0, 0, 0), (158, .putfield 371, 3, 12, 73, 0), (161, .aload_n 0, 1, 0, 0, 0), (162, .getfield 368, 3, 12, 72, 0), (165, .ireturn, 1, 0, 0, 0)]
/-- TierMillModel.pop()I -/
def e_d202 : List (Nat × Instr × Nat × Nat × Nat × Int) := [(0, .aload_n 0, 1, 0, 0, 0), (1, .getfield 362, 3, 12, 60, 0), (4, .iconst 1, 1, 0, 0, 0), (5, .isub, 1, 0, 0, 0), (6, .istore_n 1, 1, 0, 0, 0), (7, .aload_n 0, 1, 0, 0, 0), (8, .getfield 136, 3, 12, 67, 0), (11, .iload_n 1, 1, 0, 0, 0), (12, .dup2, 1, 0, 0, 0), (13, .iaload, 1, 0, 0, 0), (14, .iconst 1, 1, 0, 0, 0), (15, .isub, 1, 0, 0, 0), (16, .iastore, 1, 0, 0, 0), (17, .aload_n 0, 1, 0, 0, 0), (18, .getfield 142, 3, 12, 69, 0), (21, .bipush 8, 2, 0, 0, 0), (23, .iload_n 1, 1, 0, 0, 0), (24, .imul, 1, 0, 0, 0), (25, .aload_n 0, 1, 0, 0, 0), (26, .getfield 136, 3, 12, 67, 0), (29, .iload_n 1, 1, 0, 0, 0), (30, .iaload, 1, 0, 0, 0), (31, .iadd, 1, 0, 0, 0), (32, .iaload, 1, 0, 0, 0), (33, .ireturn, 1, 0, 0, 0)]
/-- TierMillModel.push(I)V -/
def e_d203 : List (Nat × Instr × Nat × Nat × Nat × Int) := [(0, .aload_n 0, 1, 0, 0, 0), (1, .getfield 362, 3, 12, 60, 0), (4, .iconst 1, 1, 0, 0, 0), (5, .isub, 1, 0, 0, 0), (6, .istore_n 2, 1, 0, 0, 0), (7, .aload_n 0, 1, 0, 0, 0), (8, .getfield 142, 3, 12, 69, 0), (11, .bipush 8, 2, 0, 0, 0), (13, .iload_n 2, 1, 0, 0, 0), (14, .imul, 1, 0, 0, 0), (15, .aload_n 0, 1, 0, 0, 0), (16, .getfield 136, 3, 12, 67, 0), (19, .iload_n 2, 1, 0, 0, 0), (20, .iaload, 1, 0, 0, 0), (21, .iadd, 1, 0, 0, 0), (22, .iload_n 1, 1, 0, 0, 0), (23, .iastore, 1, 0, 0, 0), (24, .aload_n 0, 1, 0, 0, 0), (25, .getfield 136, 3, 12, 67, 0), (28, .iload_n 2, 1, 0, 0, 0), (29, .dup2, 1, 0, 0, 0), (30, .iaload, 1, 0, 0, 0), (31, .iconst 1, 1, 0, 0, 0), (32, .iadd, 1, 0, 0, 0), (33, .iastore, 1, 0, 0, 0), (34, .return_, 1, 0, 0, 0)]
/-- TierMillModel.peek(I)I -/
def e_d204 : List (Nat × Instr × Nat × Nat × Nat × Int) := [(0, .aload_n 0, 1, 0, 0, 0), (1, .getfield 142, 3, 12, 69, 0), (4, .bipush 8, 2, 0, 0, 0), (6, .aload_n 0, 1, 0, 0, 0), (7, .getfield 362, 3, 12, 60, 0), (10, .iconst 1, 1, 0, 0, 0), (11, .isub, 1, 0, 0, 0), (12, .imul, 1, 0, 0, 0), (13, .aload_n 0, 1, 0, 0, 0), (14, .getfield 136, 3, 12, 67, 0), (17, .aload_n 0, 1, 0, 0, 0), (18, .getfield 362, 3, 12, 60, 0), (21, .iconst 1, 1, 0, 0, 0), (22, .isub, 1, 0, 0, 0), (23, .iaload, 1, 0, 0, 0), (24, .iadd, 1, 0, 0, 0), (25, .iload_n 1, 1, 0, 0, 0), (26, .isub, 1, 0, 0, 0), (27, .iaload, 1, 0, 0, 0), (28, .ireturn, 1, 0, 0, 0)]
/-- TierMillModel.jump(I)V -/
def e_d205 : List (Nat × Instr × Nat × Nat × Nat × Int) := [(0, .aload_n 0, 1, 0, 0, 0), (1, .getfield 362, 3, 12, 60, 0), (4, .iconst 1, 1, 0, 0, 0), (5, .isub, 1, 0, 0, 0), (6, .istore_n 2, 1, 0, 0, 0), (7, .aload_n 0, 1, 0, 0, 0), (8, .getfield 127, 3, 12, 64, 0), (11, .iload_n 2, 1, 0, 0, 0), (12, .iaload, 1, 0, 0, 0), (13, .ifCond .ne 28, 3, 41, 0, 0), (16, .iload_n 1, 1, 0, 0, 0), (17, .aload_n 0, 1, 0, 0, 0), (18, .getfield 121, 3, 12, 62, 0), (21, .iload_n 2, 1, 0, 0, 0), (22, .iaload, 1, 0, 0, 0), (23, .if_icmp .gt 18, 3, 41, 0, 0), (26, .aload_n 0, 1, 0, 0, 0), (27, .getfield 96, 3, 12, 49, 0), (30, .aload_n 0, 1, 0, 0, 0), (31, .getfield 118, 3, 12, 61, 0), (34, .iload_n 2, 1, 0, 0, 0), (35, .iaload, 1, 0, 0, 0), (36, .dup2, 1, 0, 0, 0), (37, .iaload, 1, 0, 0, 0), (38, .iconst 1, 1, 0, 0, 0), (39, .iadd, 1, 0, 0, 0), (40, .iastore, 1, 0, 0, 0), (41, .aload_n 0, 1, 0, 0, 0), (42, .getfield 121, 3, 12, 62, 0), (45, .iload_n 2, 1, 0, 0, 0), (46, .iload_n 1, 1, 0, 0, 0), (47, .iastore, 1, 0, 0, 0), (48, .return_, 1, 0, 0, 0)]
/-- TierMillModel.reckon(III)I -/
def e_d206 : List (Nat × Instr × Nat × Nat × Nat × Int) := [(0, .iload_n 0, 1, 0, 0, 0), (1, .tableswitch 120 8 17 #[55, 59, 63, 67, 81, 94, 98, 102, 106, 113], 55, 0, 0, 0), (56, .iload_n 1, 1, 0, 0, 0), (57, .iload_n 2, 1, 0, 0, 0), (58, .iadd, 1, 0, 0, 0), (59, .ireturn, 1, 0, 0, 0), (60, .iload_n 1, 1, 0, 0, 0), (61, .iload_n 2, 1, 0, 0, 0), (62, .isub, 1, 0, 0, 0), (63, .ireturn, 1, 0, 0, 0), (64, .iload_n 1, 1, 0, 0, 0), (65, .iload_n 2, 1, 0, 0, 0), (66, .imul, 1, 0, 0, 0), (67, .ireturn, 1, 0, 0, 0), (68, .iload_n 2, 1, 0, 0, 0), (69, .iconst (-1), 1, 0, 0, 0), (70, .if_icmp .ne 8, 3, 78, 0, 0), (73, .iload_n 1, 1, 0, 0, 0), (74, .ineg, 1, 0, 0, 0), (75, .goto 6, 3, 81, 0, 0), (78, .iload_n 1, 1, 0, 0, 0), (79, .iload_n 2, 1, 0, 0, 0), (80, .idiv, 1, 0, 0, 0), (81, .ireturn, 1, 0, 0, 0), (82, .iload_n 2, 1, 0, 0, 0), (83, .iconst (-1), 1, 0, 0, 0), (84, .if_icmp .ne 7, 3, 91, 0, 0), (87, .iconst 0, 1, 0, 0, 0), (88, .goto 6, 3, 94, 0, 0), (91, .iload_n 1, 1, 0, 0, 0), (92, .iload_n 2, 1, 0, 0, 0), (93, .irem, 1, 0, 0, 0), (94, .ireturn, 1, 0, 0, 0), (95, .iload_n 1, 1, 0, 0, 0), (96, .iload_n 2, 1, 0, 0, 0), (97, .iand, 1, 0, 0, 0), (98, .ireturn, 1, 0, 0, 0), (99, .iload_n 1, 1, 0, 0, 0), (100, .iload_n 2, 1, 0, 0, 0), (101, .ior, 1, 0, 0, 0), (102, .ireturn, 1, 0, 0, 0), (103, .iload_n 1, 1, 0, 0, 0), (104, .iload_n 2, 1, 0, 0, 0), (105, .ixor, 1, 0, 0, 0), (106, .ireturn, 1, 0, 0, 0), (107, .iload_n 1, 1, 0, 0, 0), (108, .iload_n 2, 1, 0, 0, 0), (109, .bipush 31, 2, 0, 0, 0), (111, .iand, 1, 0, 0, 0), (112, .ishl, 1, 0, 0, 0), (113, .ireturn, 1, 0, 0, 0), (114, .iload_n 1, 1, 0, 0, 0), (115, .iload_n 2, 1, 0, 0, 0), (116, .bipush 31, 2, 0, 0, 0), (118, .iand, 1, 0, 0, 0), (119, .ishr, 1, 0, 0, 0), (120, .ireturn, 1, 0, 0, 0), (121, .iload_n 1, 1, 0, 0, 0), (122, .iload_n 2, 1, 0, 0, 0), (123, .bipush 31, 2, 0, 0, 0), (125, .iand, 1, 0, 0, 0), (126, .iushr, 1, 0, 0, 0), (127, .ireturn, 1, 0, 0, 0)]
/-- TierMillModel.compares(III)Z -/
def e_d207 : List (Nat × Instr × Nat × Nat × Nat × Int) := [(0, .iload_n 0, 1, 0, 0, 0), (1, .tableswitch 90 0 4 #[35, 46, 57, 68, 79], 35, 0, 0, 0), (36, .iload_n 1, 1, 0, 0, 0), (37, .iload_n 2, 1, 0, 0, 0), (38, .if_icmp .ne 7, 3, 45, 0, 0), (41, .iconst 1, 1, 0, 0, 0), (42, .goto 4, 3, 46, 0, 0), (45, .iconst 0, 1, 0, 0, 0), (46, .ireturn, 1, 0, 0, 0), (47, .iload_n 1, 1, 0, 0, 0), (48, .iload_n 2, 1, 0, 0, 0), (49, .if_icmp .eq 7, 3, 56, 0, 0), (52, .iconst 1, 1, 0, 0, 0), (53, .goto 4, 3, 57, 0, 0), (56, .iconst 0, 1, 0, 0, 0), (57, .ireturn, 1, 0, 0, 0), (58, .iload_n 1, 1, 0, 0, 0), (59, .iload_n 2, 1, 0, 0, 0), (60, .if_icmp .ge 7, 3, 67, 0, 0), (63, .iconst 1, 1, 0, 0, 0), (64, .goto 4, 3, 68, 0, 0), (67, .iconst 0, 1, 0, 0, 0), (68, .ireturn, 1, 0, 0, 0), (69, .iload_n 1, 1, 0, 0, 0), (70, .iload_n 2, 1, 0, 0, 0), (71, .if_icmp .lt 7, 3, 78, 0, 0), (74, .iconst 1, 1, 0, 0, 0), (75, .goto 4, 3, 79, 0, 0), (78, .iconst 0, 1, 0, 0, 0), (79, .ireturn, 1, 0, 0, 0), (80, .iload_n 1, 1, 0, 0, 0), (81, .iload_n 2, 1, 0, 0, 0), (82, .if_icmp .le 7, 3, 89, 0, 0), (85, .iconst 1, 1, 0, 0, 0), (86, .goto 4, 3, 90, 0, 0), (89, .iconst 0, 1, 0, 0, 0), (90, .ireturn, 1, 0, 0, 0), (91, .iload_n 1, 1, 0, 0, 0), (92, .iload_n 2, 1, 0, 0, 0), (93, .if_icmp .gt 7, 3, 100, 0, 0), (96, .iconst 1, 1, 0, 0, 0), (97, .goto 4, 3, 101, 0, 0), (100, .iconst 0, 1, 0, 0, 0), (101, .ireturn, 1, 0, 0, 0)]
/-- TierMillModel.holds(I)Z -/
def e_d208 : List (Nat × Instr × Nat × Nat × Nat × Int) := [(0, .iload_n 1, 1, 0, 0, 0), (1, .bipush 21, 2, 0, 0, 0), (3, .if_icmp .ne 5, 3, 8, 0, 0), (6, .iconst 1, 1, 0, 0, 0), (7, .ireturn, 1, 0, 0, 0), (8, .iload_n 1, 1, 0, 0, 0), (9, .bipush 27, 2, 0, 0, 0), (11, .if_icmp .gt 16, 3, 27, 0, 0), (14, .iload_n 1, 1, 0, 0, 0), (15, .bipush 22, 2, 0, 0, 0), (17, .isub, 1, 0, 0, 0), (18, .aload_n 0, 1, 0, 0, 0), (19, .invokevirtual 441, 3, 202, 12, 0), (22, .iconst 0, 1, 0, 0, 0), (23, .invokestatic 444, 3, 207, 0, 3), (26, .ireturn, 1, 0, 0, 0), (27, .iload_n 1, 1, 0, 0, 0), (28, .bipush 33, 2, 0, 0, 0), (30, .if_icmp .gt 23, 3, 53, 0, 0), (33, .aload_n 0, 1, 0, 0, 0), (34, .invokevirtual 441, 3, 202, 12, 0), (37, .istore_n 2, 1, 0, 0, 0), (38, .aload_n 0, 1, 0, 0, 0), (39, .invokevirtual 441, 3, 202, 12, 0), (42, .istore_n 3, 1, 0, 0, 0), (43, .iload_n 1, 1, 0, 0, 0), (44, .bipush 28, 2, 0, 0, 0), (46, .isub, 1, 0, 0, 0), (47, .iload_n 3, 1, 0, 0, 0), (48, .iload_n 2, 1, 0, 0, 0), (49, .invokestatic 444, 3, 207, 0, 3), (52, .ireturn, 1, 0, 0, 0), (53, .iload_n 1, 1, 0, 0, 0), (54, .bipush 35, 2, 0, 0, 0), (56, .if_icmp .gt 35, 3, 91, 0, 0), (59, .aload_n 0, 1, 0, 0, 0), (60, .invokevirtual 441, 3, 202, 12, 0), (63, .ifCond .ne 7, 3, 70, 0, 0), (66, .iconst 1, 1, 0, 0, 0), (67, .goto 4, 3, 71, 0, 0), (70, .iconst 0, 1, 0, 0, 0), (71, .iload_n 1, 1, 0, 0, 0), (72, .bipush 34, 2, 0, 0, 0), (74, .if_icmp .ne 7, 3, 81, 0, 0), (77, .iconst 1, 1, 0, 0, 0), (78, .goto 4, 3, 82, 0, 0), (81, .iconst 0, 1, 0, 0, 0), (82, .if_icmp .ne 7, 3, 89, 0, 0), (85, .iconst 1, 1, 0, 0, 0), (86, .goto 4, 3, 90, 0, 0), (89, .iconst 0, 1, 0, 0, 0), (90, .ireturn, 1, 0, 0, 0), (91, .aload_n 0, 1, 0, 0, 0), (92, .invokevirtual 441, 3, 202, 12, 0), (95, .istore_n 2, 1, 0, 0, 0), (96, .aload_n 0, 1, 0, 0, 0), (97, .invokevirtual 441, 3, 202, 12, 0), (100, .istore_n 3, 1, 0, 0, 0), (101, .iload_n 3, 1, 0, 0, 0), (102, .iload_n 2, 1, 0, 0, 0), (103, .if_icmp .ne 7, 3, 110, 0, 0), (106, .iconst 1, 1, 0, 0, 0), (107, .goto 4, 3, 111, 0, 0), (110, .iconst 0, 1, 0, 0, 0), (111, .iload_n 1, 1, 0, 0, 0), (112, .bipush 36, 2, 0, 0, 0), (114, .if_icmp .ne 7, 3, 121, 0, 0), (117, .iconst 1, 1, 0, 0, 0), (118, .goto 4, 3, 122, 0, 0), (121, .iconst 0, 1, 0, 0, 0), (122, .if_icmp .ne 7, 3, 129, 0, 0), (125, .iconst 1, 1, 0, 0, 0), (126, .goto 4, 3, 130, 0, 0), (129, .iconst 0, 1, 0, 0, 0), (130, .ireturn, 1, 0, 0, 0)]
/-- TierMillModel.trapOf(III)I -/
def e_d209 : List (Nat × Instr × Nat × Nat × Nat × Int) := [(0, .iload_n 1, 1, 0, 0, 0), (1, .tableswitch 383 11 48 #[167, 167, 383, 383, 383, 383, 383, 383, 383, 383, 383, 383, 383, 383, 383, 383, 383, 383, 383, 383, 383, 383, 383, 383, 383, 383, 383, 383, 181, 195, 209, 223, 223, 181, 383, 278, 327, 343], 167, 0, 0, 0), (168, .aload_n 0, 1, 0, 0, 0), (169, .iconst 1, 1, 0, 0, 0), (170, .invokevirtual 447, 3, 204, 12, 1), (173, .ifCond .ne 7, 3, 180, 0, 0), (176, .iconst 1, 1, 0, 0, 0), (177, .goto 4, 3, 181, 0, 0), (180, .iconst 0, 1, 0, 0, 0), (181, .ireturn, 1, 0, 0, 0), (182, .aload_n 0, 1, 0, 0, 0), (183, .iconst 1, 1, 0, 0, 0), (184, .invokevirtual 447, 3, 204, 12, 1), (187, .ifCond .ne 7, 3, 194, 0, 0), (190, .iconst 2, 1, 0, 0, 0), (191, .goto 4, 3, 195, 0, 0), (194, .iconst 0, 1, 0, 0, 0), (195, .ireturn, 1, 0, 0, 0), (196, .aload_n 0, 1, 0, 0, 0), (197, .iconst 2, 1, 0, 0, 0), (198, .invokevirtual 447, 3, 204, 12, 1), (201, .ifCond .ne 7, 3, 208, 0, 0), (204, .iconst 2, 1, 0, 0, 0), (205, .goto 4, 3, 209, 0, 0), (208, .iconst 0, 1, 0, 0, 0), (209, .ireturn, 1, 0, 0, 0), (210, .aload_n 0, 1, 0, 0, 0), (211, .iconst 1, 1, 0, 0, 0), (212, .invokevirtual 447, 3, 204, 12, 1), (215, .ifCond .ge 7, 3, 222, 0, 0), (218, .iconst 4, 1, 0, 0, 0), (219, .goto 4, 3, 223, 0, 0), (222, .iconst 0, 1, 0, 0, 0), (223, .ireturn, 1, 0, 0, 0), (224, .aload_n 0, 1, 0, 0, 0), (225, .iload_n 1, 1, 0, 0, 0), (226, .bipush 40, 2, 0, 0, 0), (228, .isub, 1, 0, 0, 0), (229, .invokevirtual 447, 3, 204, 12, 1), (232, .istore 5, 2, 0, 0, 0), (234, .aload_n 0, 1, 0, 0, 0), (235, .iload_n 1, 1, 0, 0, 0), (236, .bipush 41, 2, 0, 0, 0), (238, .isub, 1, 0, 0, 0), (239, .invokevirtual 447, 3, 204, 12, 1), (242, .istore 6, 2, 0, 0, 0), (244, .iload 5, 2, 0, 0, 0), (246, .ifCond .ne 5, 3, 251, 0, 0), (249, .iconst 2, 1, 0, 0, 0), (250, .ireturn, 1, 0, 0, 0), (251, .iload 6, 2, 0, 0, 0), (253, .iconst 0, 1, 0, 0, 0), (254, .aload_n 0, 1, 0, 0, 0), (255, .getfield 154, 3, 12, 77, 0), (258, .aload_n 0, 1, 0, 0, 0), (259, .iload 5, 2, 0, 0, 0), (261, .invokevirtual 418, 3, 195, 12, 1), (264, .iaload, 1, 0, 0, 0), (265, .iconst 1, 1, 0, 0, 0), (266, .isub, 1, 0, 0, 0), (267, .invokestatic 193, 3, 145, 0, 3), (270, .ifCond .eq 7, 3, 277, 0, 0), (273, .iconst 0, 1, 0, 0, 0), (274, .goto 4, 3, 278, 0, 0), (277, .iconst 3, 1, 0, 0, 0), (278, .ireturn, 1, 0, 0, 0), (279, .aload_n 0, 1, 0, 0, 0), (280, .iconst 1, 1, 0, 0, 0), (281, .invokevirtual 447, 3, 204, 12, 1), (284, .ifCond .ne 5, 3, 289, 0, 0), (287, .iconst 0, 1, 0, 0, 0), (288, .ireturn, 1, 0, 0, 0), (289, .aload_n 0, 1, 0, 0, 0), (290, .aload_n 0, 1, 0, 0, 0), (291, .iconst 1, 1, 0, 0, 0), (292, .invokevirtual 447, 3, 204, 12, 1), (295, .invokevirtual 418, 3, 195, 12, 1), (298, .istore 4, 2, 0, 0, 0), (300, .aload_n 0, 1, 0, 0, 0), (301, .aload_n 0, 1, 0, 0, 0), (302, .getfield 148, 3, 12, 75, 0), (305, .iload 4, 2, 0, 0, 0), (307, .iaload, 1, 0, 0, 0), (308, .aload_n 0, 1, 0, 0, 0), (309, .iload_n 2, 1, 0, 0, 0), (310, .iload_n 3, 1, 0, 0, 0), (311, .iconst 1, 1, 0, 0, 0), (312, .iadd, 1, 0, 0, 0), (313, .invokevirtual 237, 3, 158, 12, 2), (316, .invokevirtual 211, 3, 153, 12, 2), (319, .ifCond .eq 7, 3, 326, 0, 0), (322, .iconst 0, 1, 0, 0, 0), (323, .goto 4, 3, 327, 0, 0), (326, .iconst 5, 1, 0, 0, 0), (327, .ireturn, 1, 0, 0, 0), (328, .aload_n 0, 1, 0, 0, 0), (329, .getfield 362, 3, 12, 60, 0), (332, .bipush 64, 2, 0, 0, 0), (334, .if_icmp .ne 8, 3, 342, 0, 0), (337, .bipush 7, 2, 0, 0, 0), (339, .goto 4, 3, 343, 0, 0), (342, .iconst 0, 1, 0, 0, 0), (343, .ireturn, 1, 0, 0, 0), (344, .aload_n 0, 1, 0, 0, 0), (345, .iconst 1, 1, 0, 0, 0), (346, .aload_n 0, 1, 0, 0, 0), (347, .getfield 28, 3, 12, 16, 0), (350, .aload_n 0, 1, 0, 0, 0), (351, .iload_n 2, 1, 0, 0, 0), (352, .iload_n 3, 1, 0, 0, 0), (353, .iconst 1, 1, 0, 0, 0), (354, .iadd, 1, 0, 0, 0), (355, .invokevirtual 237, 3, 158, 12, 2), (358, .iaload, 1, 0, 0, 0), (359, .iadd, 1, 0, 0, 0), (360, .invokevirtual 447, 3, 204, 12, 1), (363, .ifCond .ne 5, 3, 368, 0, 0), (366, .iconst 2, 1, 0, 0, 0), (367, .ireturn, 1, 0, 0, 0), (368, .aload_n 0, 1, 0, 0, 0), (369, .getfield 362, 3, 12, 60, 0), (372, .bipush 64, 2, 0, 0, 0), (374, .if_icmp .ne 8, 3, 382, 0, 0), (377, .bipush 7, 2, 0, 0, 0), (379, .goto 4, 3, 383, 0, 0), (382, .iconst 0, 1, 0, 0, 0), (383, .ireturn, 1, 0, 0, 0), (384, .iconst 0, 1, 0, 0, 0), (385, .ireturn, 1, 0, 0, 0)]
/-- TierMillModel.stop(I)V -/
def e_d210 : List (Nat × Instr × Nat × Nat × Nat × Int) := [(0, .aload_n 0, 1, 0, 0, 0), (1, .iload_n 1, 1, 0, 0, 0), (2, .putfield 341, 3, 12, 42, 0), (5, .aload_n 0, 1, 0, 0, 0), (6, .iconst 3, 1, 0, 0, 0), (7, .putfield 287, 3, 12, 41, 0), (10, .return_, 1, 0, 0, 0)]
/-- TierMillModel.step()Z -/
def e_d211 : List (Nat × Instr × Nat × Nat × Nat × Int) := [(0, .aload_n 0, 1, 0, 0, 0), (1, .getfield 362, 3, 12, 60, 0), (4, .iconst 1, 1, 0, 0, 0), (5, .isub, 1, 0, 0, 0), (6, .istore_n 1, 1, 0, 0, 0), (7, .aload_n 0, 1, 0, 0, 0), (8, .getfield 118, 3, 12, 61, 0), (11, .iload_n 1, 1, 0, 0, 0), (12, .iaload, 1, 0, 0, 0), (13, .istore_n 2, 1, 0, 0, 0), (14, .aload_n 0, 1, 0, 0, 0), (15, .getfield 121, 3, 12, 62, 0), (18, .iload_n 1, 1, 0, 0, 0), (19, .iaload, 1, 0, 0, 0), (20, .istore_n 3, 1, 0, 0, 0), (21, .aload_n 0, 1, 0, 0, 0), (22, .iload_n 2, 1, 0, 0, 0), (23, .iload_n 3, 1, 0, 0, 0), (24, .invokevirtual 237, 3, 158, 12, 2), (27, .istore 4, 2, 0, 0, 0), (29, .aload_n 0, 1, 0, 0, 0), (30, .getfield 52, 3, 12, 25, 0), (33, .iload_n 2, 1, 0, 0, 0), (34, .iaload, 1, 0, 0, 0), (35, .iload_n 3, 1, 0, 0, 0), (36, .iconst 1, 1, 0, 0, 0), (37, .iadd, 1, 0, 0, 0), (38, .if_icmp .le 14, 3, 52, 0, 0), (41, .aload_n 0, 1, 0, 0, 0), (42, .iload_n 2, 1, 0, 0, 0), (43, .iload_n 3, 1, 0, 0, 0), (44, .iconst 1, 1, 0, 0, 0), (45, .iadd, 1, 0, 0, 0), (46, .invokevirtual 237, 3, 158, 12, 2), (49, .goto 4, 3, 53, 0, 0), (52, .iconst 0, 1, 0, 0, 0), (53, .istore 5, 2, 0, 0, 0), (55, .aload_n 0, 1, 0, 0, 0), (56, .iload 4, 2, 0, 0, 0), (58, .iload_n 2, 1, 0, 0, 0), (59, .iload_n 3, 1, 0, 0, 0), (60, .invokevirtual 450, 3, 209, 12, 3), (63, .istore 6, 2, 0, 0, 0), (65, .iconst 0, 1, 0, 0, 0), (66, .istore 7, 2, 0, 0, 0), (68, .iload 6, 2, 0, 0, 0), (70, .ifCond .ne 73, 3, 143, 0, 0), (73, .iload 4, 2, 0, 0, 0), (75, .bipush 38, 2, 0, 0, 0), (77, .if_icmp .eq 10, 3, 87, 0, 0), (80, .iload 4, 2, 0, 0, 0), (82, .bipush 41, 2, 0, 0, 0), (84, .if_icmp .ne 59, 3, 143, 0, 0), (87, .aload_n 0, 1, 0, 0, 0), (88, .iload 4, 2, 0, 0, 0), (90, .bipush 38, 2, 0, 0, 0), (92, .if_icmp .ne 8, 3, 100, 0, 0), (95, .iload 5, 2, 0, 0, 0), (97, .goto 5, 3, 102, 0, 0), (100, .bipush 16, 2, 0, 0, 0), (102, .iload 4, 2, 0, 0, 0), (104, .bipush 38, 2, 0, 0, 0), (106, .if_icmp .ne 13, 3, 119, 0, 0), (109, .aload_n 0, 1, 0, 0, 0), (110, .getfield 22, 3, 12, 13, 0), (113, .iload 5, 2, 0, 0, 0), (115, .iaload, 1, 0, 0, 0), (116, .goto 8, 3, 124, 0, 0), (119, .aload_n 0, 1, 0, 0, 0), (120, .iconst 1, 1, 0, 0, 0), (121, .invokevirtual 447, 3, 204, 12, 1), (124, .invokevirtual 453, 3, 201, 12, 2), (127, .istore 7, 2, 0, 0, 0), (129, .iload 7, 2, 0, 0, 0), (131, .iconst (-1), 1, 0, 0, 0), (132, .if_icmp .ne 8, 3, 140, 0, 0), (135, .bipush 6, 2, 0, 0, 0), (137, .goto 4, 3, 141, 0, 0), (140, .iconst 0, 1, 0, 0, 0), (141, .istore 6, 2, 0, 0, 0), (143, .iload 6, 2, 0, 0, 0), (145, .ifCond .le 11, 3, 156, 0, 0), (148, .aload_n 0, 1, 0, 0, 0), (149, .iload 6, 2, 0, 0, 0), (151, .invokevirtual 456, 3, 210, 12, 1), (154, .iconst 0, 1, 0, 0, 0), (155, .ireturn, 1, 0, 0, 0), (156, .iload 4, 2, 0, 0, 0), (158, .bipush 21, 2, 0, 0, 0), (160, .if_icmp .lt 39, 3, 199, 0, 0), (163, .iload 4, 2, 0, 0, 0), (165, .bipush 37, 2, 0, 0, 0), (167, .if_icmp .gt 32, 3, 199, 0, 0), (170, .aload_n 0, 1, 0, 0, 0), (171, .iload 4, 2, 0, 0, 0), (173, .invokevirtual 459, 3, 208, 12, 1), (176, .ifCond .eq 12, 3, 188, 0, 0), (179, .aload_n 0, 1, 0, 0, 0), (180, .iload 5, 2, 0, 0, 0), (182, .invokevirtual 462, 3, 205, 12, 1), (185, .goto 12, 3, 197, 0, 0), (188, .aload_n 0, 1, 0, 0, 0), (189, .getfield 121, 3, 12, 62, 0), (192, .iload_n 1, 1, 0, 0, 0), (193, .iload_n 3, 1, 0, 0, 0), (194, .iconst 2, 1, 0, 0, 0), (195, .iadd, 1, 0, 0, 0), (196, .iastore, 1, 0, 0, 0), (197, .iconst 1, 1, 0, 0, 0), (198, .ireturn, 1, 0, 0, 0), (199, .iload 4, 2, 0, 0, 0), (201, .bipush 53, 2, 0, 0, 0), (203, .if_icmp .ne 43, 3, 246, 0, 0), (206, .aload_n 0, 1, 0, 0, 0), (207, .invokevirtual 441, 3, 202, 12, 0), (210, .istore 8, 2, 0, 0, 0), (212, .aload_n 0, 1, 0, 0, 0), (213, .aload_n 0, 1, 0, 0, 0), (214, .iload_n 2, 1, 0, 0, 0), (215, .iload_n 3, 1, 0, 0, 0), (216, .iconst 2, 1, 0, 0, 0), (217, .iadd, 1, 0, 0, 0), (218, .iload 8, 2, 0, 0, 0), (220, .ifCond .lt 15, 3, 235, 0, 0), (223, .iload 8, 2, 0, 0, 0), (225, .iload 5, 2, 0, 0, 0), (227, .if_icmp .ge 8, 3, 235, 0, 0), (230, .iload 8, 2, 0, 0, 0), (232, .goto 5, 3, 237, 0, 0), (235, .iload 5, 2, 0, 0, 0), (237, .iadd, 1, 0, 0, 0), (238, .invokevirtual 237, 3, 158, 12, 2), (241, .invokevirtual 462, 3, 205, 12, 1), (244, .iconst 1, 1, 0, 0, 0), (245, .ireturn, 1, 0, 0, 0), (246, .iload 4, 2, 0, 0, 0), (248, .bipush 47, 2, 0, 0, 0), (250, .if_icmp .ne 12, 3, 262, 0, 0), (253, .aload_n 0, 1, 0, 0, 0), (254, .iload 5, 2, 0, 0, 0), (256, .iconst 0, 1, 0, 0, 0), (257, .invokevirtual 465, 3, 194, 12, 2), (260, .iconst 1, 1, 0, 0, 0), (261, .ireturn, 1, 0, 0, 0), (262, .iload 4, 2, 0, 0, 0), (264, .bipush 48, 2, 0, 0, 0), (266, .if_icmp .ne 43, 3, 309, 0, 0), (269, .aload_n 0, 1, 0, 0, 0), (270, .getfield 148, 3, 12, 75, 0), (273, .aload_n 0, 1, 0, 0, 0), (274, .aload_n 0, 1, 0, 0, 0), (275, .iconst 1, 1, 0, 0, 0), (276, .aload_n 0, 1, 0, 0, 0), (277, .getfield 28, 3, 12, 16, 0), (280, .iload 5, 2, 0, 0, 0), (282, .iaload, 1, 0, 0, 0), (283, .iadd, 1, 0, 0, 0), (284, .invokevirtual 447, 3, 204, 12, 1), (287, .invokevirtual 418, 3, 195, 12, 1), (290, .iaload, 1, 0, 0, 0), (291, .istore 8, 2, 0, 0, 0), (293, .aload_n 0, 1, 0, 0, 0), (294, .aload_n 0, 1, 0, 0, 0), (295, .iload 8, 2, 0, 0, 0), (297, .iload 5, 2, 0, 0, 0), (299, .invokevirtual 335, 3, 168, 12, 2), (302, .iload 8, 2, 0, 0, 0), (304, .invokevirtual 465, 3, 194, 12, 2), (307, .iconst 1, 1, 0, 0, 0), (308, .ireturn, 1, 0, 0, 0), (309, .iload 4, 2, 0, 0, 0), (311, .bipush 49, 2, 0, 0, 0), (313, .if_icmp .eq 10, 3, 323, 0, 0), (316, .iload 4, 2, 0, 0, 0), (318, .bipush 50, 2, 0, 0, 0), (320, .if_icmp .ne 21, 3, 341, 0, 0), (323, .aload_n 0, 1, 0, 0, 0), (324, .iload 4, 2, 0, 0, 0), (326, .bipush 50, 2, 0, 0, 0), (328, .if_icmp .ne 7, 3, 335, 0, 0), (331, .iconst 1, 1, 0, 0, 0), (332, .goto 4, 3, 336, 0, 0), (335, .iconst 0, 1, 0, 0, 0), (336, .invokevirtual 468, 3, 212, 12, 1), (339, .iconst 1, 1, 0, 0, 0), (340, .ireturn, 1, 0, 0, 0), (341, .aload_n 0, 1, 0, 0, 0), (342, .iload_n 1, 1, 0, 0, 0), (343, .iload_n 2, 1, 0, 0, 0), (344, .iload_n 3, 1, 0, 0, 0), (345, .iload 4, 2, 0, 0, 0), (347, .iload 5, 2, 0, 0, 0), (349, .iload 7, 2, 0, 0, 0), (351, .invokevirtual 472, 3, 213, 12, 6), (354, .aload_n 0, 1, 0, 0, 0), (355, .getfield 121, 3, 12, 62, 0), (358, .iload_n 1, 1, 0, 0, 0), (359, .iload_n 3, 1, 0, 0, 0), (360, .aload_n 0, 1, 0, 0, 0), (361, .iload_n 2, 1, 0, 0, 0), (362, .iload_n 3, 1, 0, 0, 0), (363, .invokevirtual 244, 3, 159, 12, 2), (366, .iadd, 1, 0, 0, 0), (367, .iastore, 1, 0, 0, 0), (368, .iconst 1, 1, 0, 0, 0), (369, .ireturn, 1, 0, 0, 0)]
/-- TierMillModel.leave(Z)V -/
def e_d212 : List (Nat × Instr × Nat × Nat × Nat × Int) := [(0, .iload_n 1, 1, 0, 0, 0), (1, .ifCond .eq 10, 3, 11, 0, 0), (4, .aload_n 0, 1, 0, 0, 0), (5, .invokevirtual 441, 3, 202, 12, 0), (8, .goto 4, 3, 12, 0, 0), (11, .iconst 0, 1, 0, 0, 0), (12, .istore_n 2, 1, 0, 0, 0), (13, .aload_n 0, 1, 0, 0, 0), (14, .dup, 1, 0, 0, 0), (15, .getfield 362, 3, 12, 60, 0), (18, .iconst 1, 1, 0, 0, 0), (19, .isub, 1, 0, 0, 0), (20, .putfield 362, 3, 12, 60, 0), (23, .aload_n 0, 1, 0, 0, 0), (24, .getfield 362, 3, 12, 60, 0), (27, .ifCond .le 13, 3, 40, 0, 0), (30, .iload_n 1, 1, 0, 0, 0), (31, .ifCond .eq 8, 3, 39, 0, 0), (34, .aload_n 0, 1, 0, 0, 0), (35, .iload_n 2, 1, 0, 0, 0), (36, .invokevirtual 476, 3, 203, 12, 1), (39, .return_, 1, 0, 0, 0), (40, .aload_n 0, 1, 0, 0, 0), (41, .iconst 2, 1, 0, 0, 0), (42, .putfield 287, 3, 12, 41, 0), (45, .aload_n 0, 1, 0, 0, 0), (46, .iload_n 1, 1, 0, 0, 0), (47, .ifCond .eq 17, 3, 64, 0, 0), (50, .aload_n 0, 1, 0, 0, 0), (51, .getfield 43, 3, 12, 22, 0), (54, .iconst 0, 1, 0, 0, 0), (55, .iaload, 1, 0, 0, 0), (56, .iconst 1, 1, 0, 0, 0), (57, .if_icmp .ne 7, 3, 64, 0, 0), (60, .iload_n 2, 1, 0, 0, 0), (61, .goto 4, 3, 65, 0, 0), (64, .iconst 0, 1, 0, 0, 0), (65, .putfield 344, 3, 12, 43, 0), (68, .return_, 1, 0, 0, 0)]
/-- TierMillModel.act(IIIIII)V -/
def e_d213 : List (Nat × Instr × Nat × Nat × Nat × Int) := [(0, .iload 4, 2, 0, 0, 0), (2, .tableswitch 676 0 52 #[226, 236, 258, 266, 285, 304, 313, 325, 676, 676, 676, 676, 676, 676, 676, 676, 676, 676, 676, 352, 364, 676, 676, 676, 676, 676, 676, 676, 676, 676, 676, 676, 676, 676, 676, 676, 676, 676, 391, 400, 434, 472, 487, 521, 559, 579, 622, 676, 676, 676, 676, 625, 665], 226, 0, 0, 0), (228, .aload_n 0, 1, 0, 0, 0), (229, .iload 5, 2, 0, 0, 0), (231, .i2b, 1, 0, 0, 0), (232, .invokevirtual 476, 3, 203, 12, 1), (235, .goto 468, 3, 703, 0, 0), (238, .aload_n 0, 1, 0, 0, 0), (239, .iload 5, 2, 0, 0, 0), (241, .bipush 8, 2, 0, 0, 0), (243, .ishl, 1, 0, 0, 0), (244, .aload_n 0, 1, 0, 0, 0), (245, .iload_n 2, 1, 0, 0, 0), (246, .iload_n 3, 1, 0, 0, 0), (247, .iconst 2, 1, 0, 0, 0), (248, .iadd, 1, 0, 0, 0), (249, .invokevirtual 237, 3, 158, 12, 2), (252, .ior, 1, 0, 0, 0), (253, .i2s, 1, 0, 0, 0), (254, .invokevirtual 476, 3, 203, 12, 1), (257, .goto 446, 3, 703, 0, 0), (260, .aload_n 0, 1, 0, 0, 0), (261, .iconst 0, 1, 0, 0, 0), (262, .invokevirtual 476, 3, 203, 12, 1), (265, .goto 438, 3, 703, 0, 0), (268, .aload_n 0, 1, 0, 0, 0), (269, .aload_n 0, 1, 0, 0, 0), (270, .getfield 139, 3, 12, 68, 0), (273, .bipush 8, 2, 0, 0, 0), (275, .iload_n 1, 1, 0, 0, 0), (276, .imul, 1, 0, 0, 0), (277, .iload 5, 2, 0, 0, 0), (279, .iadd, 1, 0, 0, 0), (280, .iaload, 1, 0, 0, 0), (281, .invokevirtual 476, 3, 203, 12, 1), (284, .goto 419, 3, 703, 0, 0), (287, .aload_n 0, 1, 0, 0, 0), (288, .getfield 139, 3, 12, 68, 0), (291, .bipush 8, 2, 0, 0, 0), (293, .iload_n 1, 1, 0, 0, 0), (294, .imul, 1, 0, 0, 0), (295, .iload 5, 2, 0, 0, 0), (297, .iadd, 1, 0, 0, 0), (298, .aload_n 0, 1, 0, 0, 0), (299, .invokevirtual 441, 3, 202, 12, 0), (302, .iastore, 1, 0, 0, 0), (303, .goto 400, 3, 703, 0, 0), (306, .aload_n 0, 1, 0, 0, 0), (307, .invokevirtual 441, 3, 202, 12, 0), (310, .istore 8, 2, 0, 0, 0), (312, .goto 391, 3, 703, 0, 0), (315, .aload_n 0, 1, 0, 0, 0), (316, .aload_n 0, 1, 0, 0, 0), (317, .iconst 1, 1, 0, 0, 0), (318, .invokevirtual 447, 3, 204, 12, 1), (321, .invokevirtual 476, 3, 203, 12, 1), (324, .goto 379, 3, 703, 0, 0), (327, .aload_n 0, 1, 0, 0, 0), (328, .invokevirtual 441, 3, 202, 12, 0), (331, .istore 7, 2, 0, 0, 0), (333, .aload_n 0, 1, 0, 0, 0), (334, .invokevirtual 441, 3, 202, 12, 0), (337, .istore 8, 2, 0, 0, 0), (339, .aload_n 0, 1, 0, 0, 0), (340, .iload 7, 2, 0, 0, 0), (342, .invokevirtual 476, 3, 203, 12, 1), (345, .aload_n 0, 1, 0, 0, 0), (346, .iload 8, 2, 0, 0, 0), (348, .invokevirtual 476, 3, 203, 12, 1), (351, .goto 352, 3, 703, 0, 0), (354, .aload_n 0, 1, 0, 0, 0), (355, .aload_n 0, 1, 0, 0, 0), (356, .invokevirtual 441, 3, 202, 12, 0), (359, .ineg, 1, 0, 0, 0), (360, .invokevirtual 476, 3, 203, 12, 1), (363, .goto 340, 3, 703, 0, 0), (366, .aload_n 0, 1, 0, 0, 0), (367, .getfield 139, 3, 12, 68, 0), (370, .bipush 8, 2, 0, 0, 0), (372, .iload_n 1, 1, 0, 0, 0), (373, .imul, 1, 0, 0, 0), (374, .iload 5, 2, 0, 0, 0), (376, .iadd, 1, 0, 0, 0), (377, .dup2, 1, 0, 0, 0), (378, .iaload, 1, 0, 0, 0), (379, .aload_n 0, 1, 0, 0, 0), (380, .iload_n 2, 1, 0, 0, 0), (381, .iload_n 3, 1, 0, 0, 0), (382, .iconst 2, 1, 0, 0, 0), (383, .iadd, 1, 0, 0, 0), (384, .invokevirtual 237, 3, 158, 12, 2), (387, .i2b, 1, 0, 0, 0), (388, .iadd, 1, 0, 0, 0), (389, .iastore, 1, 0, 0, 0), (390, .goto 313, 3, 703, 0, 0), (393, .aload_n 0, 1, 0, 0, 0), (394, .iload 6, 2, 0, 0, 0), (396, .invokevirtual 476, 3, 203, 12, 1), (399, .goto 304, 3, 703, 0, 0), (402, .aload_n 0, 1, 0, 0, 0), (403, .aload_n 0, 1, 0, 0, 0), (404, .getfield 160, 3, 12, 80, 0), (407, .aload_n 0, 1, 0, 0, 0), (408, .getfield 151, 3, 12, 76, 0), (411, .aload_n 0, 1, 0, 0, 0), (412, .aload_n 0, 1, 0, 0, 0), (413, .invokevirtual 441, 3, 202, 12, 0), (416, .invokevirtual 418, 3, 195, 12, 1), (419, .iaload, 1, 0, 0, 0), (420, .aload_n 0, 1, 0, 0, 0), (421, .iload_n 2, 1, 0, 0, 0), (422, .iload_n 3, 1, 0, 0, 0), (423, .iconst 2, 1, 0, 0, 0), (424, .iadd, 1, 0, 0, 0), (425, .invokevirtual 237, 3, 158, 12, 2), (428, .iadd, 1, 0, 0, 0), (429, .iaload, 1, 0, 0, 0), (430, .invokevirtual 476, 3, 203, 12, 1), (433, .goto 270, 3, 703, 0, 0), (436, .aload_n 0, 1, 0, 0, 0), (437, .invokevirtual 441, 3, 202, 12, 0), (440, .istore 7, 2, 0, 0, 0), (442, .aload_n 0, 1, 0, 0, 0), (443, .getfield 160, 3, 12, 80, 0), (446, .aload_n 0, 1, 0, 0, 0), (447, .getfield 151, 3, 12, 76, 0), (450, .aload_n 0, 1, 0, 0, 0), (451, .aload_n 0, 1, 0, 0, 0), (452, .invokevirtual 441, 3, 202, 12, 0), (455, .invokevirtual 418, 3, 195, 12, 1), (458, .iaload, 1, 0, 0, 0), (459, .aload_n 0, 1, 0, 0, 0), (460, .iload_n 2, 1, 0, 0, 0), (461, .iload_n 3, 1, 0, 0, 0), (462, .iconst 2, 1, 0, 0, 0), (463, .iadd, 1, 0, 0, 0), (464, .invokevirtual 237, 3, 158, 12, 2), (467, .iadd, 1, 0, 0, 0), (468, .iload 7, 2, 0, 0, 0), (470, .iastore, 1, 0, 0, 0), (471, .goto 232, 3, 703, 0, 0), (474, .aload_n 0, 1, 0, 0, 0), (475, .invokevirtual 441, 3, 202, 12, 0), (478, .istore 8, 2, 0, 0, 0), (480, .aload_n 0, 1, 0, 0, 0), (481, .iload 6, 2, 0, 0, 0), (483, .invokevirtual 476, 3, 203, 12, 1), (486, .goto 217, 3, 703, 0, 0), (489, .aload_n 0, 1, 0, 0, 0), (490, .invokevirtual 441, 3, 202, 12, 0), (493, .istore 9, 2, 0, 0, 0), (495, .aload_n 0, 1, 0, 0, 0), (496, .aload_n 0, 1, 0, 0, 0), (497, .getfield 160, 3, 12, 80, 0), (500, .aload_n 0, 1, 0, 0, 0), (501, .getfield 151, 3, 12, 76, 0), (504, .aload_n 0, 1, 0, 0, 0), (505, .aload_n 0, 1, 0, 0, 0), (506, .invokevirtual 441, 3, 202, 12, 0), (509, .invokevirtual 418, 3, 195, 12, 1), (512, .iaload, 1, 0, 0, 0), (513, .iload 9, 2, 0, 0, 0), (515, .iadd, 1, 0, 0, 0), (516, .iaload, 1, 0, 0, 0), (517, .invokevirtual 476, 3, 203, 12, 1), (520, .goto 183, 3, 703, 0, 0), (523, .aload_n 0, 1, 0, 0, 0), (524, .invokevirtual 441, 3, 202, 12, 0), (527, .istore 7, 2, 0, 0, 0), (529, .aload_n 0, 1, 0, 0, 0), (530, .invokevirtual 441, 3, 202, 12, 0), (533, .istore 9, 2, 0, 0, 0), (535, .aload_n 0, 1, 0, 0, 0), (536, .getfield 160, 3, 12, 80, 0), (539, .aload_n 0, 1, 0, 0, 0), (540, .getfield 151, 3, 12, 76, 0), (543, .aload_n 0, 1, 0, 0, 0), (544, .aload_n 0, 1, 0, 0, 0), (545, .invokevirtual 441, 3, 202, 12, 0), (548, .invokevirtual 418, 3, 195, 12, 1), (551, .iaload, 1, 0, 0, 0), (552, .iload 9, 2, 0, 0, 0), (554, .iadd, 1, 0, 0, 0), (555, .iload 7, 2, 0, 0, 0), (557, .iastore, 1, 0, 0, 0), (558, .goto 145, 3, 703, 0, 0), (561, .aload_n 0, 1, 0, 0, 0), (562, .aload_n 0, 1, 0, 0, 0), (563, .getfield 154, 3, 12, 77, 0), (566, .aload_n 0, 1, 0, 0, 0), (567, .aload_n 0, 1, 0, 0, 0), (568, .invokevirtual 441, 3, 202, 12, 0), (571, .invokevirtual 418, 3, 195, 12, 1), (574, .iaload, 1, 0, 0, 0), (575, .invokevirtual 476, 3, 203, 12, 1), (578, .goto 125, 3, 703, 0, 0), (581, .aload_n 0, 1, 0, 0, 0), (582, .invokevirtual 441, 3, 202, 12, 0), (585, .istore 8, 2, 0, 0, 0), (587, .aload_n 0, 1, 0, 0, 0), (588, .iload 8, 2, 0, 0, 0), (590, .ifCond .eq 27, 3, 617, 0, 0), (593, .aload_n 0, 1, 0, 0, 0), (594, .aload_n 0, 1, 0, 0, 0), (595, .getfield 148, 3, 12, 75, 0), (598, .aload_n 0, 1, 0, 0, 0), (599, .iload 8, 2, 0, 0, 0), (601, .invokevirtual 418, 3, 195, 12, 1), (604, .iaload, 1, 0, 0, 0), (605, .iload 5, 2, 0, 0, 0), (607, .invokevirtual 211, 3, 153, 12, 2), (610, .ifCond .eq 7, 3, 617, 0, 0), (613, .iconst 1, 1, 0, 0, 0), (614, .goto 4, 3, 618, 0, 0), (617, .iconst 0, 1, 0, 0, 0), (618, .invokevirtual 476, 3, 203, 12, 1), (621, .goto 82, 3, 703, 0, 0), (624, .goto 79, 3, 703, 0, 0), (627, .aload_n 0, 1, 0, 0, 0), (628, .invokevirtual 441, 3, 202, 12, 0), (631, .istore 8, 2, 0, 0, 0), (633, .aload_n 0, 1, 0, 0, 0), (634, .getfield 350, 3, 12, 47, 0), (637, .sipush 500, 3, 0, 0, 0), (640, .if_icmp .ge 14, 3, 654, 0, 0), (643, .aload_n 0, 1, 0, 0, 0), (644, .getfield 93, 3, 12, 48, 0), (647, .aload_n 0, 1, 0, 0, 0), (648, .getfield 350, 3, 12, 47, 0), (651, .iload 8, 2, 0, 0, 0), (653, .iastore, 1, 0, 0, 0), (654, .aload_n 0, 1, 0, 0, 0), (655, .dup, 1, 0, 0, 0), (656, .getfield 350, 3, 12, 47, 0), (659, .iconst 1, 1, 0, 0, 0), (660, .iadd, 1, 0, 0, 0), (661, .putfield 350, 3, 12, 47, 0), (664, .goto 39, 3, 703, 0, 0), (667, .aload_n 0, 1, 0, 0, 0), (668, .aload_n 0, 1, 0, 0, 0), (669, .invokevirtual 479, 3, 214, 12, 0), (672, .invokevirtual 476, 3, 203, 12, 1), (675, .goto 28, 3, 703, 0, 0), (678, .aload_n 0, 1, 0, 0, 0), (679, .invokevirtual 441, 3, 202, 12, 0), (682, .istore 7, 2, 0, 0, 0), (684, .aload_n 0, 1, 0, 0, 0), (685, .invokevirtual 441, 3, 202, 12, 0), (688, .istore 8, 2, 0, 0, 0), (690, .aload_n 0, 1, 0, 0, 0), (691, .iload 4, 2, 0, 0, 0), (693, .iload 8, 2, 0, 0, 0), (695, .iload 7, 2, 0, 0, 0), (697, .invokestatic 482, 3, 206, 0, 3), (700, .invokevirtual 476, 3, 203, 12, 1), (703, .return_, 1, 0, 0, 0)]
/-- TierMillModel.nextInput()I -/
def e_d214 : List (Nat × Instr × Nat × Nat × Nat × Int) := [(0, .aload_n 0, 1, 0, 0, 0), (1, .getfield 338, 3, 12, 39, 0), (4, .ifCond .ne 5, 3, 9, 0, 0), (7, .iconst 0, 1, 0, 0, 0), (8, .ireturn, 1, 0, 0, 0), (9, .aload_n 0, 1, 0, 0, 0), (10, .getfield 90, 3, 12, 40, 0), (13, .iconst 0, 1, 0, 0, 0), (14, .iaload, 1, 0, 0, 0), (15, .istore_n 1, 1, 0, 0, 0), (16, .aload_n 0, 1, 0, 0, 0), (17, .dup, 1, 0, 0, 0), (18, .getfield 338, 3, 12, 39, 0), (21, .iconst 1, 1, 0, 0, 0), (22, .isub, 1, 0, 0, 0), (23, .putfield 338, 3, 12, 39, 0), (26, .iconst 0, 1, 0, 0, 0), (27, .istore_n 2, 1, 0, 0, 0), (28, .iload_n 2, 1, 0, 0, 0), (29, .aload_n 0, 1, 0, 0, 0), (30, .getfield 338, 3, 12, 39, 0), (33, .if_icmp .ge 23, 3, 56, 0, 0), (36, .aload_n 0, 1, 0, 0, 0), (37, .getfield 90, 3, 12, 40, 0), (40, .iload_n 2, 1, 0, 0, 0), (41, .aload_n 0, 1, 0, 0, 0), (42, .getfield 90, 3, 12, 40, 0), (45, .iload_n 2, 1, 0, 0, 0), (46, .iconst 1, 1, 0, 0, 0), (47, .iadd, 1, 0, 0, 0), (48, .iaload, 1, 0, 0, 0), (49, .iastore, 1, 0, 0, 0), (50, .iinc 2 1, 3, 0, 0, 0), (53, .goto (-25), 3, 28, 0, 0), (56, .iload_n 1, 1, 0, 0, 0), (57, .ireturn, 1, 0, 0, 0)]
/-- TierMillModel.run(I)I -/
def e_d215 : List (Nat × Instr × Nat × Nat × Nat × Int) := [(0, .iload_n 1, 1, 0, 0, 0), (1, .iconst 1, 1, 0, 0, 0), (2, .sipush 2000, 3, 0, 0, 0), (5, .invokestatic 193, 3, 145, 0, 3), (8, .ifCond .ne 9, 3, 17, 0, 0), (11, .aload_n 0, 1, 0, 0, 0), (12, .iconst 1, 1, 0, 0, 0), (13, .invokevirtual 293, 3, 144, 12, 1), (16, .ireturn, 1, 0, 0, 0), (17, .aload_n 0, 1, 0, 0, 0), (18, .getfield 287, 3, 12, 41, 0), (21, .iconst 1, 1, 0, 0, 0), (22, .if_icmp .eq 9, 3, 31, 0, 0), (25, .aload_n 0, 1, 0, 0, 0), (26, .iconst 2, 1, 0, 0, 0), (27, .invokevirtual 293, 3, 144, 12, 1), (30, .ireturn, 1, 0, 0, 0), (31, .aload_n 0, 1, 0, 0, 0), (32, .getfield 485, 3, 12, 45, 0), (35, .ldc_w 488, 3, 0, 0, 60000), (38, .if_icmp .ne 9, 3, 47, 0, 0), (41, .aload_n 0, 1, 0, 0, 0), (42, .iconst 3, 1, 0, 0, 0), (43, .invokevirtual 293, 3, 144, 12, 1), (46, .ireturn, 1, 0, 0, 0), (47, .aload_n 0, 1, 0, 0, 0), (48, .iconst 0, 1, 0, 0, 0), (49, .putfield 175, 3, 12, 0, 0), (52, .iconst 0, 1, 0, 0, 0), (53, .istore_n 2, 1, 0, 0, 0), (54, .iconst 1, 1, 0, 0, 0), (55, .istore_n 3, 1, 0, 0, 0), (56, .iload_n 3, 1, 0, 0, 0), (57, .ifCond .eq 92, 3, 149, 0, 0), (60, .aload_n 0, 1, 0, 0, 0), (61, .invokevirtual 489, 3, 211, 12, 0), (64, .istore 4, 2, 0, 0, 0), (66, .iload_n 2, 1, 0, 0, 0), (67, .iload 4, 2, 0, 0, 0), (69, .ifCond .eq 7, 3, 76, 0, 0), (72, .iconst 1, 1, 0, 0, 0), (73, .goto 4, 3, 77, 0, 0), (76, .iconst 0, 1, 0, 0, 0), (77, .iadd, 1, 0, 0, 0), (78, .istore_n 2, 1, 0, 0, 0), (79, .aload_n 0, 1, 0, 0, 0), (80, .dup, 1, 0, 0, 0), (81, .getfield 347, 3, 12, 44, 0), (84, .iload 4, 2, 0, 0, 0), (86, .ifCond .eq 7, 3, 93, 0, 0), (89, .iconst 1, 1, 0, 0, 0), (90, .goto 4, 3, 94, 0, 0), (93, .iconst 0, 1, 0, 0, 0), (94, .iadd, 1, 0, 0, 0), (95, .putfield 347, 3, 12, 44, 0), (98, .aload_n 0, 1, 0, 0, 0), (99, .dup, 1, 0, 0, 0), (100, .getfield 485, 3, 12, 45, 0), (103, .iload 4, 2, 0, 0, 0), (105, .ifCond .eq 7, 3, 112, 0, 0), (108, .iconst 1, 1, 0, 0, 0), (109, .goto 4, 3, 113, 0, 0), (112, .iconst 0, 1, 0, 0, 0), (113, .iadd, 1, 0, 0, 0), (114, .putfield 485, 3, 12, 45, 0), (117, .aload_n 0, 1, 0, 0, 0), (118, .getfield 287, 3, 12, 41, 0), (121, .iconst 1, 1, 0, 0, 0), (122, .if_icmp .ne 22, 3, 144, 0, 0), (125, .iload_n 2, 1, 0, 0, 0), (126, .iload_n 1, 1, 0, 0, 0), (127, .if_icmp .ge 17, 3, 144, 0, 0), (130, .aload_n 0, 1, 0, 0, 0), (131, .getfield 485, 3, 12, 45, 0), (134, .ldc_w 488, 3, 0, 0, 60000), (137, .if_icmp .ge 7, 3, 144, 0, 0), (140, .iconst 1, 1, 0, 0, 0), (141, .goto 4, 3, 145, 0, 0), (144, .iconst 0, 1, 0, 0, 0), (145, .istore_n 3, 1, 0, 0, 0), (146, .goto (-90), 3, 56, 0, 0), (149, .iload_n 2, 1, 0, 0, 0), (150, .ireturn, 1, 0, 0, 0)]
/-- TierMillModel.state()I -/
def e_d216 : List (Nat × Instr × Nat × Nat × Nat × Int) := [(0, .aload_n 0, 1, 0, 0, 0), (1, .iconst 0, 1, 0, 0, 0), (2, .putfield 175, 3, 12, 0, 0), (5, .aload_n 0, 1, 0, 0, 0), (6, .getfield 287, 3, 12, 41, 0), (9, .ireturn, 1, 0, 0, 0)]
/-- TierMillModel.result(I)I -/
def e_d217 : List (Nat × Instr × Nat × Nat × Nat × Int) := [(0, .aload_n 0, 1, 0, 0, 0), (1, .iconst 0, 1, 0, 0, 0), (2, .putfield 175, 3, 12, 0, 0), (5, .iload_n 1, 1, 0, 0, 0), (6, .ifCond .eq 10, 3, 16, 0, 0), (9, .iload_n 1, 1, 0, 0, 0), (10, .iconst 1, 1, 0, 0, 0), (11, .if_icmp .eq 5, 3, 16, 0, 0), (14, .iconst (-1), 1, 0, 0, 0), (15, .ireturn, 1, 0, 0, 0), (16, .aload_n 0, 1, 0, 0, 0), (17, .getfield 287, 3, 12, 41, 0), (20, .iconst 2, 1, 0, 0, 0), (21, .if_icmp .eq 13, 3, 34, 0, 0), (24, .aload_n 0, 1, 0, 0, 0), (25, .getfield 287, 3, 12, 41, 0), (28, .iconst 3, 1, 0, 0, 0), (29, .if_icmp .eq 5, 3, 34, 0, 0), (32, .iconst 0, 1, 0, 0, 0), (33, .ireturn, 1, 0, 0, 0), (34, .iload_n 1, 1, 0, 0, 0), (35, .ifCond .ne 10, 3, 45, 0, 0), (38, .aload_n 0, 1, 0, 0, 0), (39, .getfield 341, 3, 12, 42, 0), (42, .goto 7, 3, 49, 0, 0), (45, .aload_n 0, 1, 0, 0, 0), (46, .getfield 344, 3, 12, 43, 0), (49, .ireturn, 1, 0, 0, 0)]
/-- TierMillModel.output(I)I -/
def e_d218 : List (Nat × Instr × Nat × Nat × Nat × Int) := [(0, .aload_n 0, 1, 0, 0, 0), (1, .aload_n 0, 1, 0, 0, 0), (2, .getfield 287, 3, 12, 41, 0), (5, .ifCond .eq 26, 3, 31, 0, 0), (8, .iload_n 1, 1, 0, 0, 0), (9, .ifCond .lt 22, 3, 31, 0, 0), (12, .iload_n 1, 1, 0, 0, 0), (13, .aload_n 0, 1, 0, 0, 0), (14, .getfield 350, 3, 12, 47, 0), (17, .if_icmp .ge 14, 3, 31, 0, 0), (20, .iload_n 1, 1, 0, 0, 0), (21, .sipush 500, 3, 0, 0, 0), (24, .if_icmp .ge 7, 3, 31, 0, 0), (27, .iconst 0, 1, 0, 0, 0), (28, .goto 4, 3, 32, 0, 0), (31, .iconst 1, 1, 0, 0, 0), (32, .putfield 175, 3, 12, 0, 0), (35, .aload_n 0, 1, 0, 0, 0), (36, .getfield 175, 3, 12, 0, 0), (39, .ifCond .ne 12, 3, 51, 0, 0), (42, .aload_n 0, 1, 0, 0, 0), (43, .getfield 93, 3, 12, 48, 0), (46, .iload_n 1, 1, 0, 0, 0), (47, .iaload, 1, 0, 0, 0), (48, .goto 4, 3, 52, 0, 0), (51, .iconst 0, 1, 0, 0, 0), (52, .ireturn, 1, 0, 0, 0)]
/-- TierMillModel.frameOf(I)I -/
def e_d219 : List (Nat × Instr × Nat × Nat × Nat × Int) := [(0, .aload_n 0, 1, 0, 0, 0), (1, .getfield 287, 3, 12, 41, 0), (4, .ifCond .eq 17, 3, 21, 0, 0), (7, .iload_n 1, 1, 0, 0, 0), (8, .iconst 0, 1, 0, 0, 0), (9, .aload_n 0, 1, 0, 0, 0), (10, .getfield 362, 3, 12, 60, 0), (13, .iconst 1, 1, 0, 0, 0), (14, .isub, 1, 0, 0, 0), (15, .invokestatic 193, 3, 145, 0, 3), (18, .ifCond .ne 7, 3, 25, 0, 0), (21, .iconst (-1), 1, 0, 0, 0), (22, .goto 11, 3, 33, 0, 0), (25, .aload_n 0, 1, 0, 0, 0), (26, .getfield 362, 3, 12, 60, 0), (29, .iconst 1, 1, 0, 0, 0), (30, .isub, 1, 0, 0, 0), (31, .iload_n 1, 1, 0, 0, 0), (32, .isub, 1, 0, 0, 0), (33, .ireturn, 1, 0, 0, 0)]
/-- TierMillModel.frame(II)I -/
def e_d220 : List (Nat × Instr × Nat × Nat × Nat × Int) := [(0, .aload_n 0, 1, 0, 0, 0), (1, .iconst 0, 1, 0, 0, 0), (2, .putfield 175, 3, 12, 0, 0), (5, .aload_n 0, 1, 0, 0, 0), (6, .iload_n 1, 1, 0, 0, 0), (7, .invokevirtual 492, 3, 219, 12, 1), (10, .istore_n 3, 1, 0, 0, 0), (11, .iload_n 3, 1, 0, 0, 0), (12, .iconst (-1), 1, 0, 0, 0), (13, .if_icmp .ne 5, 3, 18, 0, 0), (16, .iconst (-1), 1, 0, 0, 0), (17, .ireturn, 1, 0, 0, 0), (18, .iload_n 2, 1, 0, 0, 0), (19, .tableswitch 57 0 3 #[29, 36, 43, 50], 29, 0, 0, 0), (48, .aload_n 0, 1, 0, 0, 0), (49, .getfield 118, 3, 12, 61, 0), (52, .iload_n 3, 1, 0, 0, 0), (53, .iaload, 1, 0, 0, 0), (54, .ireturn, 1, 0, 0, 0), (55, .aload_n 0, 1, 0, 0, 0), (56, .getfield 121, 3, 12, 62, 0), (59, .iload_n 3, 1, 0, 0, 0), (60, .iaload, 1, 0, 0, 0), (61, .ireturn, 1, 0, 0, 0), (62, .aload_n 0, 1, 0, 0, 0), (63, .getfield 127, 3, 12, 64, 0), (66, .iload_n 3, 1, 0, 0, 0), (67, .iaload, 1, 0, 0, 0), (68, .ireturn, 1, 0, 0, 0), (69, .aload_n 0, 1, 0, 0, 0), (70, .getfield 136, 3, 12, 67, 0), (73, .iload_n 3, 1, 0, 0, 0), (74, .iaload, 1, 0, 0, 0), (75, .ireturn, 1, 0, 0, 0), (76, .iconst (-1), 1, 0, 0, 0), (77, .ireturn, 1, 0, 0, 0)]
/-- TierMillModel.find(II)V -/
def e_d221 : List (Nat × Instr × Nat × Nat × Nat × Int) := [(0, .aload_n 0, 1, 0, 0, 0), (1, .iload_n 1, 1, 0, 0, 0), (2, .invokevirtual 492, 3, 219, 12, 1), (5, .istore_n 3, 1, 0, 0, 0), (6, .aload_n 0, 1, 0, 0, 0), (7, .iconst 0, 1, 0, 0, 0), (8, .putfield 495, 3, 12, 90, 0), (11, .iload_n 3, 1, 0, 0, 0), (12, .iconst (-1), 1, 0, 0, 0), (13, .if_icmp .ne 4, 3, 17, 0, 0), (16, .return_, 1, 0, 0, 0), (17, .bipush 16, 2, 0, 0, 0), (19, .aload_n 0, 1, 0, 0, 0), (20, .iload_n 3, 1, 0, 0, 0), (21, .invokevirtual 427, 3, 199, 12, 1), (24, .imul, 1, 0, 0, 0), (25, .istore 4, 2, 0, 0, 0), (27, .iload_n 2, 1, 0, 0, 0), (28, .iconst 0, 1, 0, 0, 0), (29, .aload_n 0, 1, 0, 0, 0), (30, .getfield 46, 3, 12, 23, 0), (33, .aload_n 0, 1, 0, 0, 0), (34, .getfield 118, 3, 12, 61, 0), (37, .iload_n 3, 1, 0, 0, 0), (38, .iaload, 1, 0, 0, 0), (39, .iaload, 1, 0, 0, 0), (40, .iconst 1, 1, 0, 0, 0), (41, .isub, 1, 0, 0, 0), (42, .invokestatic 193, 3, 145, 0, 3), (45, .ifCond .eq 34, 3, 79, 0, 0), (48, .aload_n 0, 1, 0, 0, 0), (49, .aload_n 0, 1, 0, 0, 0), (50, .getfield 68, 3, 12, 30, 0), (53, .iload 4, 2, 0, 0, 0), (55, .iload_n 2, 1, 0, 0, 0), (56, .iadd, 1, 0, 0, 0), (57, .iaload, 1, 0, 0, 0), (58, .putfield 495, 3, 12, 90, 0), (61, .aload_n 0, 1, 0, 0, 0), (62, .aload_n 0, 1, 0, 0, 0), (63, .getfield 139, 3, 12, 68, 0), (66, .bipush 8, 2, 0, 0, 0), (68, .iload_n 3, 1, 0, 0, 0), (69, .imul, 1, 0, 0, 0), (70, .iload_n 2, 1, 0, 0, 0), (71, .iadd, 1, 0, 0, 0), (72, .iaload, 1, 0, 0, 0), (73, .putfield 498, 3, 12, 91, 0), (76, .goto 55, 3, 131, 0, 0), (79, .iload_n 2, 1, 0, 0, 0), (80, .bipush 100, 2, 0, 0, 0), (82, .bipush 99, 2, 0, 0, 0), (84, .aload_n 0, 1, 0, 0, 0), (85, .getfield 136, 3, 12, 67, 0), (88, .iload_n 3, 1, 0, 0, 0), (89, .iaload, 1, 0, 0, 0), (90, .iadd, 1, 0, 0, 0), (91, .invokestatic 193, 3, 145, 0, 3), (94, .ifCond .eq 37, 3, 131, 0, 0), (97, .aload_n 0, 1, 0, 0, 0), (98, .aload_n 0, 1, 0, 0, 0), (99, .getfield 68, 3, 12, 30, 0), (102, .iload 4, 2, 0, 0, 0), (104, .iload_n 2, 1, 0, 0, 0), (105, .iadd, 1, 0, 0, 0), (106, .bipush 92, 2, 0, 0, 0), (108, .isub, 1, 0, 0, 0), (109, .iaload, 1, 0, 0, 0), (110, .putfield 495, 3, 12, 90, 0), (113, .aload_n 0, 1, 0, 0, 0), (114, .aload_n 0, 1, 0, 0, 0), (115, .getfield 142, 3, 12, 69, 0), (118, .bipush 8, 2, 0, 0, 0), (120, .iload_n 3, 1, 0, 0, 0), (121, .imul, 1, 0, 0, 0), (122, .iload_n 2, 1, 0, 0, 0), (123, .iadd, 1, 0, 0, 0), (124, .bipush 100, 2, 0, 0, 0), (126, .isub, 1, 0, 0, 0), (127, .iaload, 1, 0, 0, 0), (128, .putfield 498, 3, 12, 91, 0), (131, .return_, 1, 0, 0, 0)]
/-- TierMillModel.local(II)I -/
def e_d222 : List (Nat × Instr × Nat × Nat × Nat × Int) := [(0, .aload_n 0, 1, 0, 0, 0), (1, .iload_n 1, 1, 0, 0, 0), (2, .iload_n 2, 1, 0, 0, 0), (3, .invokevirtual 501, 3, 221, 12, 2), (6, .aload_n 0, 1, 0, 0, 0), (7, .aload_n 0, 1, 0, 0, 0), (8, .getfield 495, 3, 12, 90, 0), (11, .ifCond .ne 7, 3, 18, 0, 0), (14, .iconst 1, 1, 0, 0, 0), (15, .goto 4, 3, 19, 0, 0), (18, .iconst 0, 1, 0, 0, 0), (19, .putfield 175, 3, 12, 0, 0), (22, .aload_n 0, 1, 0, 0, 0), (23, .getfield 175, 3, 12, 0, 0), (26, .ifCond .ne 10, 3, 36, 0, 0), (29, .aload_n 0, 1, 0, 0, 0), (30, .getfield 498, 3, 12, 91, 0), (33, .goto 4, 3, 37, 0, 0), (36, .iconst 0, 1, 0, 0, 0), (37, .ireturn, 1, 0, 0, 0)]
/-- TierMillModel.part(III)I -/
def e_d223 : List (Nat × Instr × Nat × Nat × Nat × Int) := [(0, .aload_n 0, 1, 0, 0, 0), (1, .iload_n 1, 1, 0, 0, 0), (2, .iload_n 2, 1, 0, 0, 0), (3, .invokevirtual 501, 3, 221, 12, 2), (6, .aload_n 0, 1, 0, 0, 0), (7, .iconst 1, 1, 0, 0, 0), (8, .putfield 175, 3, 12, 0, 0), (11, .aload_n 0, 1, 0, 0, 0), (12, .getfield 495, 3, 12, 90, 0), (15, .invokestatic 430, 3, 198, 0, 1), (18, .ifCond .eq 14, 3, 32, 0, 0), (21, .aload_n 0, 1, 0, 0, 0), (22, .getfield 498, 3, 12, 91, 0), (25, .ifCond .eq 7, 3, 32, 0, 0), (28, .iload_n 3, 1, 0, 0, 0), (29, .ifCond .ge 5, 3, 34, 0, 0), (32, .iconst 0, 1, 0, 0, 0), (33, .ireturn, 1, 0, 0, 0), (34, .aload_n 0, 1, 0, 0, 0), (35, .aload_n 0, 1, 0, 0, 0), (36, .getfield 498, 3, 12, 91, 0), (39, .invokevirtual 418, 3, 195, 12, 1), (42, .istore 4, 2, 0, 0, 0), (44, .iload_n 3, 1, 0, 0, 0), (45, .iconst 1, 1, 0, 0, 0), (46, .if_icmp .le 18, 3, 64, 0, 0), (49, .iload_n 3, 1, 0, 0, 0), (50, .iconst 2, 1, 0, 0, 0), (51, .isub, 1, 0, 0, 0), (52, .aload_n 0, 1, 0, 0, 0), (53, .getfield 154, 3, 12, 77, 0), (56, .iload 4, 2, 0, 0, 0), (58, .iaload, 1, 0, 0, 0), (59, .if_icmp .lt 5, 3, 64, 0, 0), (62, .iconst 0, 1, 0, 0, 0), (63, .ireturn, 1, 0, 0, 0), (64, .aload_n 0, 1, 0, 0, 0), (65, .iconst 0, 1, 0, 0, 0), (66, .putfield 175, 3, 12, 0, 0), (69, .iload_n 3, 1, 0, 0, 0), (70, .ifCond .ne 13, 3, 83, 0, 0), (73, .aload_n 0, 1, 0, 0, 0), (74, .getfield 148, 3, 12, 75, 0), (77, .iload 4, 2, 0, 0, 0), (79, .iaload, 1, 0, 0, 0), (80, .goto 34, 3, 114, 0, 0), (83, .iload_n 3, 1, 0, 0, 0), (84, .iconst 1, 1, 0, 0, 0), (85, .if_icmp .ne 13, 3, 98, 0, 0), (88, .aload_n 0, 1, 0, 0, 0), (89, .getfield 154, 3, 12, 77, 0), (92, .iload 4, 2, 0, 0, 0), (94, .iaload, 1, 0, 0, 0), (95, .goto 19, 3, 114, 0, 0), (98, .aload_n 0, 1, 0, 0, 0), (99, .getfield 160, 3, 12, 80, 0), (102, .aload_n 0, 1, 0, 0, 0), (103, .getfield 151, 3, 12, 76, 0), (106, .iload 4, 2, 0, 0, 0), (108, .iaload, 1, 0, 0, 0), (109, .iload_n 3, 1, 0, 0, 0), (110, .iadd, 1, 0, 0, 0), (111, .iconst 2, 1, 0, 0, 0), (112, .isub, 1, 0, 0, 0), (113, .iaload, 1, 0, 0, 0), (114, .ireturn, 1, 0, 0, 0)]
/-- TierMillModel.isMethod(I)Z -/
def e_d224 : List (Nat × Instr × Nat × Nat × Nat × Int) := [(0, .aload_n 0, 1, 0, 0, 0), (1, .getfield 284, 3, 12, 7, 0), (4, .ifCond .eq 21, 3, 25, 0, 0), (7, .iload_n 1, 1, 0, 0, 0), (8, .iconst 0, 1, 0, 0, 0), (9, .aload_n 0, 1, 0, 0, 0), (10, .getfield 214, 3, 12, 19, 0), (13, .iconst 1, 1, 0, 0, 0), (14, .isub, 1, 0, 0, 0), (15, .invokestatic 193, 3, 145, 0, 3), (18, .ifCond .eq 7, 3, 25, 0, 0), (21, .iconst 1, 1, 0, 0, 0), (22, .goto 4, 3, 26, 0, 0), (25, .iconst 0, 1, 0, 0, 0), (26, .ireturn, 1, 0, 0, 0)]
/-- TierMillModel.method(II)I -/
def e_d225 : List (Nat × Instr × Nat × Nat × Nat × Int) := [(0, .aload_n 0, 1, 0, 0, 0), (1, .iconst 0, 1, 0, 0, 0), (2, .putfield 175, 3, 12, 0, 0), (5, .aload_n 0, 1, 0, 0, 0), (6, .iload_n 1, 1, 0, 0, 0), (7, .invokevirtual 504, 3, 224, 12, 1), (10, .ifCond .eq 12, 3, 22, 0, 0), (13, .iload_n 2, 1, 0, 0, 0), (14, .iconst 0, 1, 0, 0, 0), (15, .iconst 2, 1, 0, 0, 0), (16, .invokestatic 193, 3, 145, 0, 3), (19, .ifCond .ne 5, 3, 24, 0, 0), (22, .iconst (-1), 1, 0, 0, 0), (23, .ireturn, 1, 0, 0, 0), (24, .aload_n 0, 1, 0, 0, 0), (25, .getfield 287, 3, 12, 41, 0), (28, .ifCond .ne 5, 3, 33, 0, 0), (31, .iconst 0, 1, 0, 0, 0), (32, .ireturn, 1, 0, 0, 0), (33, .iload_n 2, 1, 0, 0, 0), (34, .ifCond .ne 10, 3, 44, 0, 0), (37, .aload_n 0, 1, 0, 0, 0), (38, .getfield 96, 3, 12, 49, 0), (41, .iload_n 1, 1, 0, 0, 0), (42, .iaload, 1, 0, 0, 0), (43, .ireturn, 1, 0, 0, 0), (44, .aload_n 0, 1, 0, 0, 0), (45, .getfield 99, 3, 12, 50, 0), (48, .iload_n 1, 1, 0, 0, 0), (49, .iaload, 1, 0, 0, 0), (50, .iconst (-1), 1, 0, 0, 0), (51, .if_icmp .ne 7, 3, 58, 0, 0), (54, .iconst 0, 1, 0, 0, 0), (55, .goto 23, 3, 78, 0, 0), (58, .iload_n 2, 1, 0, 0, 0), (59, .iconst 1, 1, 0, 0, 0), (60, .if_icmp .ne 7, 3, 67, 0, 0), (63, .iconst 1, 1, 0, 0, 0), (64, .goto 14, 3, 78, 0, 0), (67, .aload_n 0, 1, 0, 0, 0), (68, .getfield 111, 3, 12, 56, 0), (71, .aload_n 0, 1, 0, 0, 0), (72, .getfield 99, 3, 12, 50, 0), (75, .iload_n 1, 1, 0, 0, 0), (76, .iaload, 1, 0, 0, 0), (77, .iaload, 1, 0, 0, 0), (78, .ireturn, 1, 0, 0, 0)]
/-- TierMillModel.inlined(III)I -/
def e_d226 : List (Nat × Instr × Nat × Nat × Nat × Int) := [(0, .aload_n 0, 1, 0, 0, 0), (1, .iconst 0, 1, 0, 0, 0), (2, .putfield 175, 3, 12, 0, 0), (5, .aload_n 0, 1, 0, 0, 0), (6, .iload_n 1, 1, 0, 0, 0), (7, .invokevirtual 504, 3, 224, 12, 1), (10, .ifCond .eq 50, 3, 60, 0, 0), (13, .aload_n 0, 1, 0, 0, 0), (14, .getfield 287, 3, 12, 41, 0), (17, .ifCond .eq 43, 3, 60, 0, 0), (20, .aload_n 0, 1, 0, 0, 0), (21, .getfield 99, 3, 12, 50, 0), (24, .iload_n 1, 1, 0, 0, 0), (25, .iaload, 1, 0, 0, 0), (26, .iconst (-1), 1, 0, 0, 0), (27, .if_icmp .eq 33, 3, 60, 0, 0), (30, .iload_n 2, 1, 0, 0, 0), (31, .iconst 0, 1, 0, 0, 0), (32, .aload_n 0, 1, 0, 0, 0), (33, .getfield 111, 3, 12, 56, 0), (36, .aload_n 0, 1, 0, 0, 0), (37, .getfield 99, 3, 12, 50, 0), (40, .iload_n 1, 1, 0, 0, 0), (41, .iaload, 1, 0, 0, 0), (42, .iaload, 1, 0, 0, 0), (43, .iconst 1, 1, 0, 0, 0), (44, .isub, 1, 0, 0, 0), (45, .invokestatic 193, 3, 145, 0, 3), (48, .ifCond .eq 12, 3, 60, 0, 0), (51, .iload_n 3, 1, 0, 0, 0), (52, .iconst 0, 1, 0, 0, 0), (53, .iconst 4, 1, 0, 0, 0), (54, .invokestatic 193, 3, 145, 0, 3), (57, .ifCond .ne 5, 3, 62, 0, 0), (60, .iconst (-1), 1, 0, 0, 0), (61, .ireturn, 1, 0, 0, 0), (62, .aload_n 0, 1, 0, 0, 0), (63, .getfield 115, 3, 12, 59, 0), (66, .bipush 6, 2, 0, 0, 0), (68, .aload_n 0, 1, 0, 0, 0), (69, .getfield 108, 3, 12, 55, 0), (72, .aload_n 0, 1, 0, 0, 0), (73, .getfield 99, 3, 12, 50, 0), (76, .iload_n 1, 1, 0, 0, 0), (77, .iaload, 1, 0, 0, 0), (78, .iaload, 1, 0, 0, 0), (79, .iload_n 2, 1, 0, 0, 0), (80, .iadd, 1, 0, 0, 0), (81, .imul, 1, 0, 0, 0), (82, .iload_n 3, 1, 0, 0, 0), (83, .iadd, 1, 0, 0, 0), (84, .iaload, 1, 0, 0, 0), (85, .ireturn, 1, 0, 0, 0)]
/-- TierMillModel.profile(III)I -/
def e_d227 : List (Nat × Instr × Nat × Nat × Nat × Int) := [(0, .aload_n 0, 1, 0, 0, 0), (1, .iconst 0, 1, 0, 0, 0), (2, .putfield 175, 3, 12, 0, 0), (5, .aload_n 0, 1, 0, 0, 0), (6, .iload_n 1, 1, 0, 0, 0), (7, .invokevirtual 504, 3, 224, 12, 1), (10, .ifCond .eq 40, 3, 50, 0, 0), (13, .aload_n 0, 1, 0, 0, 0), (14, .getfield 287, 3, 12, 41, 0), (17, .ifCond .eq 33, 3, 50, 0, 0), (20, .iload_n 2, 1, 0, 0, 0), (21, .iconst 0, 1, 0, 0, 0), (22, .aload_n 0, 1, 0, 0, 0), (23, .getfield 52, 3, 12, 25, 0), (26, .iload_n 1, 1, 0, 0, 0), (27, .iaload, 1, 0, 0, 0), (28, .iconst 1, 1, 0, 0, 0), (29, .isub, 1, 0, 0, 0), (30, .invokestatic 193, 3, 145, 0, 3), (33, .ifCond .eq 17, 3, 50, 0, 0), (36, .aload_n 0, 1, 0, 0, 0), (37, .getfield 58, 3, 12, 27, 0), (40, .bipush 120, 2, 0, 0, 0), (42, .iload_n 1, 1, 0, 0, 0), (43, .imul, 1, 0, 0, 0), (44, .iload_n 2, 1, 0, 0, 0), (45, .iadd, 1, 0, 0, 0), (46, .baload, 1, 0, 0, 0), (47, .ifCond .ne 5, 3, 52, 0, 0), (50, .iconst (-1), 1, 0, 0, 0), (51, .ireturn, 1, 0, 0, 0), (52, .aload_n 0, 1, 0, 0, 0), (53, .iload_n 1, 1, 0, 0, 0), (54, .iload_n 2, 1, 0, 0, 0), (55, .invokevirtual 237, 3, 158, 12, 2), (58, .istore 4, 2, 0, 0, 0), (60, .iload 4, 2, 0, 0, 0), (62, .bipush 47, 2, 0, 0, 0), (64, .if_icmp .ne 7, 3, 71, 0, 0), (67, .iload_n 3, 1, 0, 0, 0), (68, .ifCond .eq 24, 3, 92, 0, 0), (71, .iload 4, 2, 0, 0, 0), (73, .bipush 48, 2, 0, 0, 0), (75, .if_icmp .ne 21, 3, 96, 0, 0), (78, .iload_n 3, 1, 0, 0, 0), (79, .iconst 0, 1, 0, 0, 0), (80, .aload_n 0, 1, 0, 0, 0), (81, .getfield 197, 3, 12, 11, 0), (84, .iconst 1, 1, 0, 0, 0), (85, .isub, 1, 0, 0, 0), (86, .invokestatic 193, 3, 145, 0, 3), (89, .ifCond .eq 7, 3, 96, 0, 0), (92, .iconst 1, 1, 0, 0, 0), (93, .goto 4, 3, 97, 0, 0), (96, .iconst 0, 1, 0, 0, 0), (97, .istore 5, 2, 0, 0, 0), (99, .iload 5, 2, 0, 0, 0), (101, .ifCond .eq 13, 3, 114, 0, 0), (104, .aload_n 0, 1, 0, 0, 0), (105, .iload_n 1, 1, 0, 0, 0), (106, .iload_n 2, 1, 0, 0, 0), (107, .iload_n 3, 1, 0, 0, 0), (108, .invokevirtual 408, 3, 189, 12, 3), (111, .goto 4, 3, 115, 0, 0), (114, .iconst (-1), 1, 0, 0, 0), (115, .ireturn, 1, 0, 0, 0)]
/-- TierMillModel.log(II)I -/
def e_d228 : List (Nat × Instr × Nat × Nat × Nat × Int) := [(0, .aload_n 0, 1, 0, 0, 0), (1, .iconst 0, 1, 0, 0, 0), (2, .putfield 175, 3, 12, 0, 0), (5, .aload_n 0, 1, 0, 0, 0), (6, .getfield 287, 3, 12, 41, 0), (9, .ifCond .eq 26, 3, 35, 0, 0), (12, .iload_n 1, 1, 0, 0, 0), (13, .iconst 0, 1, 0, 0, 0), (14, .aload_n 0, 1, 0, 0, 0), (15, .getfield 353, 3, 12, 52, 0), (18, .iconst 1, 1, 0, 0, 0), (19, .isub, 1, 0, 0, 0), (20, .invokestatic 193, 3, 145, 0, 3), (23, .ifCond .eq 12, 3, 35, 0, 0), (26, .iload_n 2, 1, 0, 0, 0), (27, .iconst 0, 1, 0, 0, 0), (28, .iconst 4, 1, 0, 0, 0), (29, .invokestatic 193, 3, 145, 0, 3), (32, .ifCond .ne 7, 3, 39, 0, 0), (35, .iconst (-1), 1, 0, 0, 0), (36, .goto 13, 3, 49, 0, 0), (39, .aload_n 0, 1, 0, 0, 0), (40, .getfield 105, 3, 12, 53, 0), (43, .iconst 5, 1, 0, 0, 0), (44, .iload_n 1, 1, 0, 0, 0), (45, .imul, 1, 0, 0, 0), (46, .iload_n 2, 1, 0, 0, 0), (47, .iadd, 1, 0, 0, 0), (48, .iaload, 1, 0, 0, 0), (49, .ireturn, 1, 0, 0, 0)]
/-- TierMillModel.total(I)I -/
def e_d229 : List (Nat × Instr × Nat × Nat × Nat × Int) := [(0, .aload_n 0, 1, 0, 0, 0), (1, .iconst 0, 1, 0, 0, 0), (2, .putfield 175, 3, 12, 0, 0), (5, .aload_n 0, 1, 0, 0, 0), (6, .getfield 287, 3, 12, 41, 0), (9, .ifCond .eq 7, 3, 16, 0, 0), (12, .iconst 1, 1, 0, 0, 0), (13, .goto 4, 3, 17, 0, 0), (16, .iconst 0, 1, 0, 0, 0), (17, .istore_n 2, 1, 0, 0, 0), (18, .iload_n 1, 1, 0, 0, 0), (19, .tableswitch 159 0 9 #[53, 66, 71, 84, 97, 110, 123, 136, 141, 146], 53, 0, 0, 0), (72, .iload_n 2, 1, 0, 0, 0), (73, .ifCond .eq 10, 3, 83, 0, 0), (76, .aload_n 0, 1, 0, 0, 0), (77, .getfield 347, 3, 12, 44, 0), (80, .goto 4, 3, 84, 0, 0), (83, .iconst 0, 1, 0, 0, 0), (84, .ireturn, 1, 0, 0, 0), (85, .aload_n 0, 1, 0, 0, 0), (86, .getfield 485, 3, 12, 45, 0), (89, .ireturn, 1, 0, 0, 0), (90, .iload_n 2, 1, 0, 0, 0), (91, .ifCond .eq 10, 3, 101, 0, 0), (94, .aload_n 0, 1, 0, 0, 0), (95, .getfield 350, 3, 12, 47, 0), (98, .goto 4, 3, 102, 0, 0), (101, .iconst 0, 1, 0, 0, 0), (102, .ireturn, 1, 0, 0, 0), (103, .iload_n 2, 1, 0, 0, 0), (104, .ifCond .eq 10, 3, 114, 0, 0), (107, .aload_n 0, 1, 0, 0, 0), (108, .getfield 362, 3, 12, 60, 0), (111, .goto 4, 3, 115, 0, 0), (114, .iconst 0, 1, 0, 0, 0), (115, .ireturn, 1, 0, 0, 0), (116, .iload_n 2, 1, 0, 0, 0), (117, .ifCond .eq 10, 3, 127, 0, 0), (120, .aload_n 0, 1, 0, 0, 0), (121, .getfield 353, 3, 12, 52, 0), (124, .goto 4, 3, 128, 0, 0), (127, .iconst 0, 1, 0, 0, 0), (128, .ireturn, 1, 0, 0, 0), (129, .iload_n 2, 1, 0, 0, 0), (130, .ifCond .eq 10, 3, 140, 0, 0), (133, .aload_n 0, 1, 0, 0, 0), (134, .getfield 365, 3, 12, 71, 0), (137, .goto 4, 3, 141, 0, 0), (140, .iconst 0, 1, 0, 0, 0), (141, .ireturn, 1, 0, 0, 0), (142, .iload_n 2, 1, 0, 0, 0), (143, .ifCond .eq 10, 3, 153, 0, 0), (146, .aload_n 0, 1, 0, 0, 0), (147, .getfield 368, 3, 12, 72, 0), (150, .goto 4, 3, 154, 0, 0), (153, .iconst 0, 1, 0, 0, 0), (154, .ireturn, 1, 0, 0, 0), (155, .aload_n 0, 1, 0, 0, 0), (156, .getfield 383, 3, 12, 46, 0), (159, .ireturn, 1, 0, 0, 0), (160, .aload_n 0, 1, 0, 0, 0), (161, .getfield 338, 3, 12, 39, 0), (164, .ireturn, 1, 0, 0, 0), (165, .iload_n 2, 1, 0, 0, 0), (166, .ifCond .eq 10, 3, 176, 0, 0), (169, .aload_n 0, 1, 0, 0, 0), (170, .getfield 377, 3, 12, 70, 0), (173, .goto 4, 3, 177, 0, 0), (176, .iconst 0, 1, 0, 0, 0), (177, .ireturn, 1, 0, 0, 0), (178, .iconst (-1), 1, 0, 0, 0), (179, .ireturn, 1, 0, 0, 0)]
/-- java/lang/Math.max(II)I -/
def e_d230 : List (Nat × Instr × Nat × Nat × Nat × Int) := [(0, .iload_n 0, 1, 0, 0, 0), (1, .iload_n 1, 1, 0, 0, 0), (2, .if_icmp .lt 7, 3, 9, 0, 0), (5, .iload_n 0, 1, 0, 0, 0), (6, .goto 4, 3, 10, 0, 0), (9, .iload_n 1, 1, 0, 0, 0), (10, .ireturn, 1, 0, 0, 0)]
/-- java/lang/Math.min(II)I -/
def e_d231 : List (Nat × Instr × Nat × Nat × Nat × Int) := [(0, .iload_n 0, 1, 0, 0, 0), (1, .iload_n 1, 1, 0, 0, 0), (2, .if_icmp .gt 7, 3, 9, 0, 0), (5, .iload_n 0, 1, 0, 0, 0), (6, .goto 4, 3, 10, 0, 0), (9, .iload_n 1, 1, 0, 0, 0), (10, .ireturn, 1, 0, 0, 0)]
/-- java/util/Arrays.rangeCheck(III)V -/
def e_d232 : List (Nat × Instr × Nat × Nat × Nat × Int) := [(0, .iload_n 1, 1, 0, 0, 0), (1, .iload_n 2, 1, 0, 0, 0), (2, .if_icmp .le 44, 3, 46, 0, 0), (5, .new 43, 3, 99, 0, 0), (8, .dup, 1, 0, 0, 0), (9, .new 45, 3, 99, 0, 0), (12, .dup, 1, 0, 0, 0), (13, .invokespecial 47, 3, 999, 0, 0), (16, .ldc 48, 2, 1, 0, 0), (18, .invokevirtual 50, 3, 999, 99, 1), (21, .iload_n 1, 1, 0, 0, 0), (22, .invokevirtual 54, 3, 999, 99, 1), (25, .ldc 57, 2, 1, 0, 0), (27, .invokevirtual 50, 3, 999, 99, 1), (30, .iload_n 2, 1, 0, 0, 0), (31, .invokevirtual 54, 3, 999, 99, 1), (34, .ldc 59, 2, 1, 0, 0), (36, .invokevirtual 50, 3, 999, 99, 1), (39, .invokevirtual 61, 3, 999, 99, 0), (42, .invokespecial 65, 3, 999, 0, 1), (45, .athrow, 1, 0, 0, 0), (46, .iload_n 1, 1, 0, 0, 0), (47, .ifCond .ge 12, 3, 59, 0, 0), (50, .new 68, 3, 99, 0, 0), (53, .dup, 1, 0, 0, 0), (54, .iload_n 1, 1, 0, 0, 0), (55, .invokespecial 70, 3, 999, 0, 0), (58, .athrow, 1, 0, 0, 0), (59, .iload_n 2, 1, 0, 0, 0), (60, .iload_n 0, 1, 0, 0, 0), (61, .if_icmp .le 12, 3, 73, 0, 0), (64, .new 68, 3, 99, 0, 0), (67, .dup, 1, 0, 0, 0), (68, .iload_n 2, 1, 0, 0, 0), (69, .invokespecial 70, 3, 999, 0, 0), (72, .athrow, 1, 0, 0, 0), (73, .return_, 1, 0, 0, 0)]
/-- java/util/Arrays.fill([II)V -/
def e_d233 : List (Nat × Instr × Nat × Nat × Nat × Int) := [(0, .iconst 0, 1, 0, 0, 0), (1, .istore_n 2, 1, 0, 0, 0), (2, .aload_n 0, 1, 0, 0, 0), (3, .arraylength, 1, 0, 0, 0), (4, .istore_n 3, 1, 0, 0, 0), (5, .iload_n 2, 1, 0, 0, 0), (6, .iload_n 3, 1, 0, 0, 0), (7, .if_icmp .ge 13, 3, 20, 0, 0), (10, .aload_n 0, 1, 0, 0, 0), (11, .iload_n 2, 1, 0, 0, 0), (12, .iload_n 1, 1, 0, 0, 0), (13, .iastore, 1, 0, 0, 0), (14, .iinc 2 1, 3, 0, 0, 0), (17, .goto (-12), 3, 5, 0, 0), (20, .return_, 1, 0, 0, 0)]
/-- java/util/Arrays.fill([IIII)V -/
def e_d234 : List (Nat × Instr × Nat × Nat × Nat × Int) := [(0, .aload_n 0, 1, 0, 0, 0), (1, .arraylength, 1, 0, 0, 0), (2, .iload_n 1, 1, 0, 0, 0), (3, .iload_n 2, 1, 0, 0, 0), (4, .invokestatic 13, 3, 232, 0, 3), (7, .iload_n 1, 1, 0, 0, 0), (8, .istore 4, 2, 0, 0, 0), (10, .iload 4, 2, 0, 0, 0), (12, .iload_n 2, 1, 0, 0, 0), (13, .if_icmp .ge 14, 3, 27, 0, 0), (16, .aload_n 0, 1, 0, 0, 0), (17, .iload 4, 2, 0, 0, 0), (19, .iload_n 3, 1, 0, 0, 0), (20, .iastore, 1, 0, 0, 0), (21, .iinc 4 1, 3, 0, 0, 0), (24, .goto (-14), 3, 10, 0, 0), (27, .return_, 1, 0, 0, 0)]
/-- java/util/Arrays.copyOf([II)[I -/
def e_d235 : List (Nat × Instr × Nat × Nat × Nat × Int) := [(0, .iload_n 1, 1, 0, 0, 0), (1, .aload_n 0, 1, 0, 0, 0), (2, .arraylength, 1, 0, 0, 0), (3, .if_icmp .ne 11, 3, 14, 0, 0), (6, .aload_n 0, 1, 0, 0, 0), (7, .invokevirtual 316, 3, 902, 0, 0), (10, .checkcast 317, 3, 0, 0, 0), (13, .areturn, 1, 0, 0, 0), (14, .iload_n 1, 1, 0, 0, 0), (15, .newarray .int, 2, 20, 0, 0), (17, .astore_n 2, 1, 0, 0, 0), (18, .aload_n 0, 1, 0, 0, 0), (19, .iconst 0, 1, 0, 0, 0), (20, .aload_n 2, 1, 0, 0, 0), (21, .iconst 0, 1, 0, 0, 0), (22, .aload_n 0, 1, 0, 0, 0), (23, .arraylength, 1, 0, 0, 0), (24, .iload_n 1, 1, 0, 0, 0), (25, .invokestatic 304, 3, 231, 0, 2), (28, .invokestatic 150, 3, 901, 0, 5), (31, .aload_n 2, 1, 0, 0, 0), (32, .areturn, 1, 0, 0, 0)]
/-- TierMillLaw.load(LTierMill;[J)I -/
def e_d236 : List (Nat × Instr × Nat × Nat × Nat × Int) := [(0, .aload_n 1, 1, 0, 0, 0), (1, .iconst 0, 1, 0, 0, 0), (2, .aload_n 0, 1, 0, 0, 0), (3, .invokevirtual 7, 3, 120, 11, 0), (6, .i2l, 1, 0, 0, 0), (7, .lastore, 1, 0, 0, 0), (8, .goto 6, 3, 14, 0, 0), (11, .astore_n 2, 1, 0, 0, 0), (12, .iconst 1, 1, 0, 0, 0), (13, .ireturn, 1, 0, 0, 0), (14, .iconst 0, 1, 0, 0, 0), (15, .ireturn, 1, 0, 0, 0)]
/-- TierMillLaw.run(LTierMill;I[J)I -/
def e_d237 : List (Nat × Instr × Nat × Nat × Nat × Int) := [(0, .aload_n 2, 1, 0, 0, 0), (1, .iconst 0, 1, 0, 0, 0), (2, .aload_n 0, 1, 0, 0, 0), (3, .iload_n 1, 1, 0, 0, 0), (4, .invokevirtual 15, 3, 129, 11, 1), (7, .i2l, 1, 0, 0, 0), (8, .lastore, 1, 0, 0, 0), (9, .goto 12, 3, 21, 0, 0), (12, .astore_n 3, 1, 0, 0, 0), (13, .iconst 1, 1, 0, 0, 0), (14, .ireturn, 1, 0, 0, 0), (15, .astore_n 3, 1, 0, 0, 0), (16, .iconst 2, 1, 0, 0, 0), (17, .ireturn, 1, 0, 0, 0), (18, .astore_n 3, 1, 0, 0, 0), (19, .iconst 3, 1, 0, 0, 0), (20, .ireturn, 1, 0, 0, 0), (21, .iconst 0, 1, 0, 0, 0), (22, .ireturn, 1, 0, 0, 0)]
/-- TierMillLaw.output(LTierMill;I[J)I -/
def e_d238 : List (Nat × Instr × Nat × Nat × Nat × Int) := [(0, .aload_n 2, 1, 0, 0, 0), (1, .iconst 0, 1, 0, 0, 0), (2, .aload_n 0, 1, 0, 0, 0), (3, .iload_n 1, 1, 0, 0, 0), (4, .invokevirtual 23, 3, 132, 11, 1), (7, .i2l, 1, 0, 0, 0), (8, .lastore, 1, 0, 0, 0), (9, .goto 6, 3, 15, 0, 0), (12, .astore_n 3, 1, 0, 0, 0), (13, .iconst 1, 1, 0, 0, 0), (14, .ireturn, 1, 0, 0, 0), (15, .iconst 0, 1, 0, 0, 0), (16, .ireturn, 1, 0, 0, 0)]
/-- TierMillLaw.local(LTierMill;II[J)I -/
def e_d239 : List (Nat × Instr × Nat × Nat × Nat × Int) := [(0, .aload_n 3, 1, 0, 0, 0), (1, .iconst 0, 1, 0, 0, 0), (2, .aload_n 0, 1, 0, 0, 0), (3, .iload_n 1, 1, 0, 0, 0), (4, .iload_n 2, 1, 0, 0, 0), (5, .invokevirtual 28, 3, 134, 11, 2), (8, .i2l, 1, 0, 0, 0), (9, .lastore, 1, 0, 0, 0), (10, .goto 7, 3, 17, 0, 0), (13, .astore 4, 2, 0, 0, 0), (15, .iconst 1, 1, 0, 0, 0), (16, .ireturn, 1, 0, 0, 0), (17, .iconst 0, 1, 0, 0, 0), (18, .ireturn, 1, 0, 0, 0)]
/-- TierMillLaw.part(LTierMill;III[J)I -/
def e_d240 : List (Nat × Instr × Nat × Nat × Nat × Int) := [(0, .aload 4, 2, 0, 0, 0), (2, .iconst 0, 1, 0, 0, 0), (3, .aload_n 0, 1, 0, 0, 0), (4, .iload_n 1, 1, 0, 0, 0), (5, .iload_n 2, 1, 0, 0, 0), (6, .iload_n 3, 1, 0, 0, 0), (7, .invokevirtual 32, 3, 135, 11, 3), (10, .i2l, 1, 0, 0, 0), (11, .lastore, 1, 0, 0, 0), (12, .goto 7, 3, 19, 0, 0), (15, .astore 5, 2, 0, 0, 0), (17, .iconst 1, 1, 0, 0, 0), (18, .ireturn, 1, 0, 0, 0), (19, .iconst 0, 1, 0, 0, 0), (20, .ireturn, 1, 0, 0, 0)]
/-- TierMillLaw.law([I)Z -/
def e_d241 : List (Nat × Instr × Nat × Nat × Nat × Int) := [(0, .new 8, 3, 11, 0, 0), (3, .dup, 1, 0, 0, 0), (4, .invokespecial 36, 3, 118, 0, 0), (7, .astore_n 1, 1, 0, 0, 0), (8, .new 37, 3, 12, 0, 0), (11, .dup, 1, 0, 0, 0), (12, .invokespecial 39, 3, 142, 0, 0), (15, .astore_n 2, 1, 0, 0, 0), (16, .iconst 1, 1, 0, 0, 0), (17, .newarray .long, 2, 21, 0, 0), (19, .astore_n 3, 1, 0, 0, 0), (20, .iconst 0, 1, 0, 0, 0), (21, .istore 4, 2, 0, 0, 0), (23, .iload 4, 2, 0, 0, 0), (25, .aload_n 0, 1, 0, 0, 0), (26, .arraylength, 1, 0, 0, 0), (27, .iconst 5, 1, 0, 0, 0), (28, .isub, 1, 0, 0, 0), (29, .if_icmp .gt 1000, 3, 1029, 0, 0), (32, .aload_n 0, 1, 0, 0, 0), (33, .iload 4, 2, 0, 0, 0), (35, .iaload, 1, 0, 0, 0), (36, .bipush 31, 2, 0, 0, 0), (38, .iand, 1, 0, 0, 0), (39, .tableswitch 984 0 19 #[93, 162, 206, 231, 280, 341, 366, 391, 452, 508, 521, 546, 602, 639, 707, 787, 824, 873, 922, 959], 93, 0, 0, 0), (132, .aload_n 1, 1, 0, 0, 0), (133, .aload_n 0, 1, 0, 0, 0), (134, .iload 4, 2, 0, 0, 0), (136, .iconst 1, 1, 0, 0, 0), (137, .iadd, 1, 0, 0, 0), (138, .iaload, 1, 0, 0, 0), (139, .i2l, 1, 0, 0, 0), (140, .bipush 32, 2, 0, 0, 0), (142, .lshl, 1, 0, 0, 0), (143, .aload_n 0, 1, 0, 0, 0), (144, .iload 4, 2, 0, 0, 0), (146, .iconst 2, 1, 0, 0, 0), (147, .iadd, 1, 0, 0, 0), (148, .iaload, 1, 0, 0, 0), (149, .i2l, 1, 0, 0, 0), (150, .ldc2_w 40, 3, 0, 0, 4294967295), (153, .land, 1, 0, 0, 0), (154, .lor, 1, 0, 0, 0), (155, .aload_n 0, 1, 0, 0, 0), (156, .iload 4, 2, 0, 0, 0), (158, .iconst 3, 1, 0, 0, 0), (159, .iadd, 1, 0, 0, 0), (160, .iaload, 1, 0, 0, 0), (161, .invokevirtual 42, 3, 119, 11, 2), (164, .aload_n 2, 1, 0, 0, 0), (165, .aload_n 0, 1, 0, 0, 0), (166, .iload 4, 2, 0, 0, 0), (168, .iconst 1, 1, 0, 0, 0), (169, .iadd, 1, 0, 0, 0), (170, .iaload, 1, 0, 0, 0), (171, .i2l, 1, 0, 0, 0), (172, .bipush 32, 2, 0, 0, 0), (174, .lshl, 1, 0, 0, 0), (175, .aload_n 0, 1, 0, 0, 0), (176, .iload 4, 2, 0, 0, 0), (178, .iconst 2, 1, 0, 0, 0), (179, .iadd, 1, 0, 0, 0), (180, .iaload, 1, 0, 0, 0), (181, .i2l, 1, 0, 0, 0), (182, .ldc2_w 40, 3, 0, 0, 4294967295), (185, .land, 1, 0, 0, 0), (186, .lor, 1, 0, 0, 0), (187, .aload_n 0, 1, 0, 0, 0), (188, .iload 4, 2, 0, 0, 0), (190, .iconst 3, 1, 0, 0, 0), (191, .iadd, 1, 0, 0, 0), (192, .iaload, 1, 0, 0, 0), (193, .invokevirtual 46, 3, 146, 12, 2), (196, .if_icmp .eq 827, 3, 1023, 0, 0), (199, .iconst 0, 1, 0, 0, 0), (200, .ireturn, 1, 0, 0, 0), (201, .aload_n 1, 1, 0, 0, 0), (202, .aload_n 3, 1, 0, 0, 0), (203, .invokestatic 47, 3, 236, 0, 2), (206, .istore 5, 2, 0, 0, 0), (208, .aload_n 2, 1, 0, 0, 0), (209, .invokevirtual 52, 3, 165, 12, 0), (212, .istore 6, 2, 0, 0, 0), (214, .aload_n 2, 1, 0, 0, 0), (215, .invokevirtual 53, 3, 143, 12, 0), (218, .iload 5, 2, 0, 0, 0), (220, .if_icmp .eq 5, 3, 225, 0, 0), (223, .iconst 0, 1, 0, 0, 0), (224, .ireturn, 1, 0, 0, 0), (225, .iload 5, 2, 0, 0, 0), (227, .ifCond .ne 15, 3, 242, 0, 0), (230, .aload_n 3, 1, 0, 0, 0), (231, .iconst 0, 1, 0, 0, 0), (232, .laload, 1, 0, 0, 0), (233, .iload 6, 2, 0, 0, 0), (235, .i2l, 1, 0, 0, 0), (236, .lcmp, 1, 0, 0, 0), (237, .ifCond .eq 5, 3, 242, 0, 0), (240, .iconst 0, 1, 0, 0, 0), (241, .ireturn, 1, 0, 0, 0), (242, .goto 781, 3, 1023, 0, 0), (245, .aload_n 1, 1, 0, 0, 0), (246, .aload_n 0, 1, 0, 0, 0), (247, .iload 4, 2, 0, 0, 0), (249, .iconst 1, 1, 0, 0, 0), (250, .iadd, 1, 0, 0, 0), (251, .iaload, 1, 0, 0, 0), (252, .invokevirtual 56, 3, 122, 11, 1), (255, .aload_n 2, 1, 0, 0, 0), (256, .aload_n 0, 1, 0, 0, 0), (257, .iload 4, 2, 0, 0, 0), (259, .iconst 1, 1, 0, 0, 0), (260, .iadd, 1, 0, 0, 0), (261, .iaload, 1, 0, 0, 0), (262, .invokevirtual 59, 3, 167, 12, 1), (265, .if_icmp .eq 758, 3, 1023, 0, 0), (268, .iconst 0, 1, 0, 0, 0), (269, .ireturn, 1, 0, 0, 0), (270, .aload_n 1, 1, 0, 0, 0), (271, .aload_n 0, 1, 0, 0, 0), (272, .iload 4, 2, 0, 0, 0), (274, .iconst 1, 1, 0, 0, 0), (275, .iadd, 1, 0, 0, 0), (276, .iaload, 1, 0, 0, 0), (277, .aload_n 0, 1, 0, 0, 0), (278, .iload 4, 2, 0, 0, 0), (280, .iconst 2, 1, 0, 0, 0), (281, .iadd, 1, 0, 0, 0), (282, .iaload, 1, 0, 0, 0), (283, .aload_n 0, 1, 0, 0, 0), (284, .iload 4, 2, 0, 0, 0), (286, .iconst 3, 1, 0, 0, 0), (287, .iadd, 1, 0, 0, 0), (288, .iaload, 1, 0, 0, 0), (289, .invokevirtual 60, 3, 123, 11, 3), (292, .aload_n 2, 1, 0, 0, 0), (293, .aload_n 0, 1, 0, 0, 0), (294, .iload 4, 2, 0, 0, 0), (296, .iconst 1, 1, 0, 0, 0), (297, .iadd, 1, 0, 0, 0), (298, .iaload, 1, 0, 0, 0), (299, .aload_n 0, 1, 0, 0, 0), (300, .iload 4, 2, 0, 0, 0), (302, .iconst 2, 1, 0, 0, 0), (303, .iadd, 1, 0, 0, 0), (304, .iaload, 1, 0, 0, 0), (305, .aload_n 0, 1, 0, 0, 0), (306, .iload 4, 2, 0, 0, 0), (308, .iconst 3, 1, 0, 0, 0), (309, .iadd, 1, 0, 0, 0), (310, .iaload, 1, 0, 0, 0), (311, .invokevirtual 63, 3, 181, 12, 3), (314, .if_icmp .eq 709, 3, 1023, 0, 0), (317, .iconst 0, 1, 0, 0, 0), (318, .ireturn, 1, 0, 0, 0), (319, .aload_n 1, 1, 0, 0, 0), (320, .aload_n 0, 1, 0, 0, 0), (321, .iload 4, 2, 0, 0, 0), (323, .iconst 1, 1, 0, 0, 0), (324, .iadd, 1, 0, 0, 0), (325, .iaload, 1, 0, 0, 0), (326, .aload_n 0, 1, 0, 0, 0), (327, .iload 4, 2, 0, 0, 0), (329, .iconst 2, 1, 0, 0, 0), (330, .iadd, 1, 0, 0, 0), (331, .iaload, 1, 0, 0, 0), (332, .aload_n 0, 1, 0, 0, 0), (333, .iload 4, 2, 0, 0, 0), (335, .iconst 3, 1, 0, 0, 0), (336, .iadd, 1, 0, 0, 0), (337, .iaload, 1, 0, 0, 0), (338, .aload_n 0, 1, 0, 0, 0), (339, .iload 4, 2, 0, 0, 0), (341, .iconst 4, 1, 0, 0, 0), (342, .iadd, 1, 0, 0, 0), (343, .iaload, 1, 0, 0, 0), (344, .invokevirtual 64, 3, 125, 11, 4), (347, .aload_n 2, 1, 0, 0, 0), (348, .aload_n 0, 1, 0, 0, 0), (349, .iload 4, 2, 0, 0, 0), (351, .iconst 1, 1, 0, 0, 0), (352, .iadd, 1, 0, 0, 0), (353, .iaload, 1, 0, 0, 0), (354, .aload_n 0, 1, 0, 0, 0), (355, .iload 4, 2, 0, 0, 0), (357, .iconst 2, 1, 0, 0, 0), (358, .iadd, 1, 0, 0, 0), (359, .iaload, 1, 0, 0, 0), (360, .aload_n 0, 1, 0, 0, 0), (361, .iload 4, 2, 0, 0, 0), (363, .iconst 3, 1, 0, 0, 0), (364, .iadd, 1, 0, 0, 0), (365, .iaload, 1, 0, 0, 0), (366, .aload_n 0, 1, 0, 0, 0), (367, .iload 4, 2, 0, 0, 0), (369, .iconst 4, 1, 0, 0, 0), (370, .iadd, 1, 0, 0, 0), (371, .iaload, 1, 0, 0, 0), (372, .invokevirtual 68, 3, 182, 12, 4), (375, .if_icmp .eq 648, 3, 1023, 0, 0), (378, .iconst 0, 1, 0, 0, 0), (379, .ireturn, 1, 0, 0, 0), (380, .aload_n 1, 1, 0, 0, 0), (381, .aload_n 0, 1, 0, 0, 0), (382, .iload 4, 2, 0, 0, 0), (384, .iconst 1, 1, 0, 0, 0), (385, .iadd, 1, 0, 0, 0), (386, .iaload, 1, 0, 0, 0), (387, .invokevirtual 69, 3, 126, 11, 1), (390, .aload_n 2, 1, 0, 0, 0), (391, .aload_n 0, 1, 0, 0, 0), (392, .iload 4, 2, 0, 0, 0), (394, .iconst 1, 1, 0, 0, 0), (395, .iadd, 1, 0, 0, 0), (396, .iaload, 1, 0, 0, 0), (397, .invokevirtual 73, 3, 183, 12, 1), (400, .if_icmp .eq 623, 3, 1023, 0, 0), (403, .iconst 0, 1, 0, 0, 0), (404, .ireturn, 1, 0, 0, 0), (405, .aload_n 1, 1, 0, 0, 0), (406, .aload_n 0, 1, 0, 0, 0), (407, .iload 4, 2, 0, 0, 0), (409, .iconst 1, 1, 0, 0, 0), (410, .iadd, 1, 0, 0, 0), (411, .iaload, 1, 0, 0, 0), (412, .invokevirtual 74, 3, 127, 11, 1), (415, .aload_n 2, 1, 0, 0, 0), (416, .aload_n 0, 1, 0, 0, 0), (417, .iload 4, 2, 0, 0, 0), (419, .iconst 1, 1, 0, 0, 0), (420, .iadd, 1, 0, 0, 0), (421, .iaload, 1, 0, 0, 0), (422, .invokevirtual 77, 3, 184, 12, 1), (425, .if_icmp .eq 598, 3, 1023, 0, 0), (428, .iconst 0, 1, 0, 0, 0), (429, .ireturn, 1, 0, 0, 0), (430, .aload_n 1, 1, 0, 0, 0), (431, .aload_n 0, 1, 0, 0, 0), (432, .iload 4, 2, 0, 0, 0), (434, .iconst 1, 1, 0, 0, 0), (435, .iadd, 1, 0, 0, 0), (436, .iaload, 1, 0, 0, 0), (437, .aload_n 0, 1, 0, 0, 0), (438, .iload 4, 2, 0, 0, 0), (440, .iconst 2, 1, 0, 0, 0), (441, .iadd, 1, 0, 0, 0), (442, .iaload, 1, 0, 0, 0), (443, .aload_n 0, 1, 0, 0, 0), (444, .iload 4, 2, 0, 0, 0), (446, .iconst 3, 1, 0, 0, 0), (447, .iadd, 1, 0, 0, 0), (448, .iaload, 1, 0, 0, 0), (449, .aload_n 0, 1, 0, 0, 0), (450, .iload 4, 2, 0, 0, 0), (452, .iconst 4, 1, 0, 0, 0), (453, .iadd, 1, 0, 0, 0), (454, .iaload, 1, 0, 0, 0), (455, .invokevirtual 78, 3, 128, 11, 4), (458, .aload_n 2, 1, 0, 0, 0), (459, .aload_n 0, 1, 0, 0, 0), (460, .iload 4, 2, 0, 0, 0), (462, .iconst 1, 1, 0, 0, 0), (463, .iadd, 1, 0, 0, 0), (464, .iaload, 1, 0, 0, 0), (465, .aload_n 0, 1, 0, 0, 0), (466, .iload 4, 2, 0, 0, 0), (468, .iconst 2, 1, 0, 0, 0), (469, .iadd, 1, 0, 0, 0), (470, .iaload, 1, 0, 0, 0), (471, .aload_n 0, 1, 0, 0, 0), (472, .iload 4, 2, 0, 0, 0), (474, .iconst 3, 1, 0, 0, 0), (475, .iadd, 1, 0, 0, 0), (476, .iaload, 1, 0, 0, 0), (477, .aload_n 0, 1, 0, 0, 0), (478, .iload 4, 2, 0, 0, 0), (480, .iconst 4, 1, 0, 0, 0), (481, .iadd, 1, 0, 0, 0), (482, .iaload, 1, 0, 0, 0), (483, .invokevirtual 81, 3, 185, 12, 4), (486, .if_icmp .eq 537, 3, 1023, 0, 0), (489, .iconst 0, 1, 0, 0, 0), (490, .ireturn, 1, 0, 0, 0), (491, .aload_n 1, 1, 0, 0, 0), (492, .aload_n 0, 1, 0, 0, 0), (493, .iload 4, 2, 0, 0, 0), (495, .iconst 1, 1, 0, 0, 0), (496, .iadd, 1, 0, 0, 0), (497, .iaload, 1, 0, 0, 0), (498, .aload_n 3, 1, 0, 0, 0), (499, .invokestatic 82, 3, 237, 0, 3), (502, .istore 5, 2, 0, 0, 0), (504, .aload_n 2, 1, 0, 0, 0), (505, .aload_n 0, 1, 0, 0, 0), (506, .iload 4, 2, 0, 0, 0), (508, .iconst 1, 1, 0, 0, 0), (509, .iadd, 1, 0, 0, 0), (510, .iaload, 1, 0, 0, 0), (511, .invokevirtual 85, 3, 215, 12, 1), (514, .istore 6, 2, 0, 0, 0), (516, .aload_n 2, 1, 0, 0, 0), (517, .invokevirtual 53, 3, 143, 12, 0), (520, .iload 5, 2, 0, 0, 0), (522, .if_icmp .eq 5, 3, 527, 0, 0), (525, .iconst 0, 1, 0, 0, 0), (526, .ireturn, 1, 0, 0, 0), (527, .iload 5, 2, 0, 0, 0), (529, .ifCond .ne 15, 3, 544, 0, 0), (532, .aload_n 3, 1, 0, 0, 0), (533, .iconst 0, 1, 0, 0, 0), (534, .laload, 1, 0, 0, 0), (535, .iload 6, 2, 0, 0, 0), (537, .i2l, 1, 0, 0, 0), (538, .lcmp, 1, 0, 0, 0), (539, .ifCond .eq 5, 3, 544, 0, 0), (542, .iconst 0, 1, 0, 0, 0), (543, .ireturn, 1, 0, 0, 0), (544, .goto 479, 3, 1023, 0, 0), (547, .aload_n 1, 1, 0, 0, 0), (548, .invokevirtual 86, 3, 130, 11, 0), (551, .aload_n 2, 1, 0, 0, 0), (552, .invokevirtual 89, 3, 216, 12, 0), (555, .if_icmp .eq 468, 3, 1023, 0, 0), (558, .iconst 0, 1, 0, 0, 0), (559, .ireturn, 1, 0, 0, 0), (560, .aload_n 1, 1, 0, 0, 0), (561, .aload_n 0, 1, 0, 0, 0), (562, .iload 4, 2, 0, 0, 0), (564, .iconst 1, 1, 0, 0, 0), (565, .iadd, 1, 0, 0, 0), (566, .iaload, 1, 0, 0, 0), (567, .invokevirtual 90, 3, 131, 11, 1), (570, .aload_n 2, 1, 0, 0, 0), (571, .aload_n 0, 1, 0, 0, 0), (572, .iload 4, 2, 0, 0, 0), (574, .iconst 1, 1, 0, 0, 0), (575, .iadd, 1, 0, 0, 0), (576, .iaload, 1, 0, 0, 0), (577, .invokevirtual 93, 3, 217, 12, 1), (580, .if_icmp .eq 443, 3, 1023, 0, 0), (583, .iconst 0, 1, 0, 0, 0), (584, .ireturn, 1, 0, 0, 0), (585, .aload_n 1, 1, 0, 0, 0), (586, .aload_n 0, 1, 0, 0, 0), (587, .iload 4, 2, 0, 0, 0), (589, .iconst 1, 1, 0, 0, 0), (590, .iadd, 1, 0, 0, 0), (591, .iaload, 1, 0, 0, 0), (592, .aload_n 3, 1, 0, 0, 0), (593, .invokestatic 94, 3, 238, 0, 3), (596, .istore 5, 2, 0, 0, 0), (598, .aload_n 2, 1, 0, 0, 0), (599, .aload_n 0, 1, 0, 0, 0), (600, .iload 4, 2, 0, 0, 0), (602, .iconst 1, 1, 0, 0, 0), (603, .iadd, 1, 0, 0, 0), (604, .iaload, 1, 0, 0, 0), (605, .invokevirtual 96, 3, 218, 12, 1), (608, .istore 6, 2, 0, 0, 0), (610, .aload_n 2, 1, 0, 0, 0), (611, .invokevirtual 53, 3, 143, 12, 0), (614, .iload 5, 2, 0, 0, 0), (616, .if_icmp .eq 5, 3, 621, 0, 0), (619, .iconst 0, 1, 0, 0, 0), (620, .ireturn, 1, 0, 0, 0), (621, .iload 5, 2, 0, 0, 0), (623, .ifCond .ne 15, 3, 638, 0, 0), (626, .aload_n 3, 1, 0, 0, 0), (627, .iconst 0, 1, 0, 0, 0), (628, .laload, 1, 0, 0, 0), (629, .iload 6, 2, 0, 0, 0), (631, .i2l, 1, 0, 0, 0), (632, .lcmp, 1, 0, 0, 0), (633, .ifCond .eq 5, 3, 638, 0, 0), (636, .iconst 0, 1, 0, 0, 0), (637, .ireturn, 1, 0, 0, 0), (638, .goto 385, 3, 1023, 0, 0), (641, .aload_n 1, 1, 0, 0, 0), (642, .aload_n 0, 1, 0, 0, 0), (643, .iload 4, 2, 0, 0, 0), (645, .iconst 1, 1, 0, 0, 0), (646, .iadd, 1, 0, 0, 0), (647, .iaload, 1, 0, 0, 0), (648, .aload_n 0, 1, 0, 0, 0), (649, .iload 4, 2, 0, 0, 0), (651, .iconst 2, 1, 0, 0, 0), (652, .iadd, 1, 0, 0, 0), (653, .iaload, 1, 0, 0, 0), (654, .invokevirtual 97, 3, 133, 11, 2), (657, .aload_n 2, 1, 0, 0, 0), (658, .aload_n 0, 1, 0, 0, 0), (659, .iload 4, 2, 0, 0, 0), (661, .iconst 1, 1, 0, 0, 0), (662, .iadd, 1, 0, 0, 0), (663, .iaload, 1, 0, 0, 0), (664, .aload_n 0, 1, 0, 0, 0), (665, .iload 4, 2, 0, 0, 0), (667, .iconst 2, 1, 0, 0, 0), (668, .iadd, 1, 0, 0, 0), (669, .iaload, 1, 0, 0, 0), (670, .invokevirtual 100, 3, 220, 12, 2), (673, .if_icmp .eq 350, 3, 1023, 0, 0), (676, .iconst 0, 1, 0, 0, 0), (677, .ireturn, 1, 0, 0, 0), (678, .aload_n 1, 1, 0, 0, 0), (679, .aload_n 0, 1, 0, 0, 0), (680, .iload 4, 2, 0, 0, 0), (682, .iconst 1, 1, 0, 0, 0), (683, .iadd, 1, 0, 0, 0), (684, .iaload, 1, 0, 0, 0), (685, .aload_n 0, 1, 0, 0, 0), (686, .iload 4, 2, 0, 0, 0), (688, .iconst 2, 1, 0, 0, 0), (689, .iadd, 1, 0, 0, 0), (690, .iaload, 1, 0, 0, 0), (691, .aload_n 3, 1, 0, 0, 0), (692, .invokestatic 101, 3, 239, 0, 4), (695, .istore 5, 2, 0, 0, 0), (697, .aload_n 2, 1, 0, 0, 0), (698, .aload_n 0, 1, 0, 0, 0), (699, .iload 4, 2, 0, 0, 0), (701, .iconst 1, 1, 0, 0, 0), (702, .iadd, 1, 0, 0, 0), (703, .iaload, 1, 0, 0, 0), (704, .aload_n 0, 1, 0, 0, 0), (705, .iload 4, 2, 0, 0, 0), (707, .iconst 2, 1, 0, 0, 0), (708, .iadd, 1, 0, 0, 0), (709, .iaload, 1, 0, 0, 0), (710, .invokevirtual 104, 3, 222, 12, 2), (713, .istore 6, 2, 0, 0, 0), (715, .aload_n 2, 1, 0, 0, 0), (716, .invokevirtual 53, 3, 143, 12, 0), (719, .iload 5, 2, 0, 0, 0), (721, .if_icmp .eq 5, 3, 726, 0, 0), (724, .iconst 0, 1, 0, 0, 0), (725, .ireturn, 1, 0, 0, 0), (726, .iload 5, 2, 0, 0, 0), (728, .ifCond .ne 15, 3, 743, 0, 0), (731, .aload_n 3, 1, 0, 0, 0), (732, .iconst 0, 1, 0, 0, 0), (733, .laload, 1, 0, 0, 0), (734, .iload 6, 2, 0, 0, 0), (736, .i2l, 1, 0, 0, 0), (737, .lcmp, 1, 0, 0, 0), (738, .ifCond .eq 5, 3, 743, 0, 0), (741, .iconst 0, 1, 0, 0, 0), (742, .ireturn, 1, 0, 0, 0), (743, .goto 280, 3, 1023, 0, 0), (746, .aload_n 1, 1, 0, 0, 0), (747, .aload_n 0, 1, 0, 0, 0), (748, .iload 4, 2, 0, 0, 0), (750, .iconst 1, 1, 0, 0, 0), (751, .iadd, 1, 0, 0, 0), (752, .iaload, 1, 0, 0, 0), (753, .aload_n 0, 1, 0, 0, 0), (754, .iload 4, 2, 0, 0, 0), (756, .iconst 2, 1, 0, 0, 0), (757, .iadd, 1, 0, 0, 0), (758, .iaload, 1, 0, 0, 0), (759, .aload_n 0, 1, 0, 0, 0), (760, .iload 4, 2, 0, 0, 0), (762, .iconst 3, 1, 0, 0, 0), (763, .iadd, 1, 0, 0, 0), (764, .iaload, 1, 0, 0, 0), (765, .aload_n 3, 1, 0, 0, 0), (766, .invokestatic 105, 3, 240, 0, 5), (769, .istore 5, 2, 0, 0, 0), (771, .aload_n 2, 1, 0, 0, 0), (772, .aload_n 0, 1, 0, 0, 0), (773, .iload 4, 2, 0, 0, 0), (775, .iconst 1, 1, 0, 0, 0), (776, .iadd, 1, 0, 0, 0), (777, .iaload, 1, 0, 0, 0), (778, .aload_n 0, 1, 0, 0, 0), (779, .iload 4, 2, 0, 0, 0), (781, .iconst 2, 1, 0, 0, 0), (782, .iadd, 1, 0, 0, 0), (783, .iaload, 1, 0, 0, 0), (784, .aload_n 0, 1, 0, 0, 0), (785, .iload 4, 2, 0, 0, 0), (787, .iconst 3, 1, 0, 0, 0), (788, .iadd, 1, 0, 0, 0), (789, .iaload, 1, 0, 0, 0), (790, .invokevirtual 108, 3, 223, 12, 3), (793, .istore 6, 2, 0, 0, 0), (795, .aload_n 2, 1, 0, 0, 0), (796, .invokevirtual 53, 3, 143, 12, 0), (799, .iload 5, 2, 0, 0, 0), (801, .if_icmp .eq 5, 3, 806, 0, 0), (804, .iconst 0, 1, 0, 0, 0), (805, .ireturn, 1, 0, 0, 0), (806, .iload 5, 2, 0, 0, 0), (808, .ifCond .ne 15, 3, 823, 0, 0), (811, .aload_n 3, 1, 0, 0, 0), (812, .iconst 0, 1, 0, 0, 0), (813, .laload, 1, 0, 0, 0), (814, .iload 6, 2, 0, 0, 0), (816, .i2l, 1, 0, 0, 0), (817, .lcmp, 1, 0, 0, 0), (818, .ifCond .eq 5, 3, 823, 0, 0), (821, .iconst 0, 1, 0, 0, 0), (822, .ireturn, 1, 0, 0, 0), (823, .goto 200, 3, 1023, 0, 0), (826, .aload_n 1, 1, 0, 0, 0), (827, .aload_n 0, 1, 0, 0, 0), (828, .iload 4, 2, 0, 0, 0), (830, .iconst 1, 1, 0, 0, 0), (831, .iadd, 1, 0, 0, 0), (832, .iaload, 1, 0, 0, 0), (833, .aload_n 0, 1, 0, 0, 0), (834, .iload 4, 2, 0, 0, 0), (836, .iconst 2, 1, 0, 0, 0), (837, .iadd, 1, 0, 0, 0), (838, .iaload, 1, 0, 0, 0), (839, .invokevirtual 109, 3, 137, 11, 2), (842, .aload_n 2, 1, 0, 0, 0), (843, .aload_n 0, 1, 0, 0, 0), (844, .iload 4, 2, 0, 0, 0), (846, .iconst 1, 1, 0, 0, 0), (847, .iadd, 1, 0, 0, 0), (848, .iaload, 1, 0, 0, 0), (849, .aload_n 0, 1, 0, 0, 0), (850, .iload 4, 2, 0, 0, 0), (852, .iconst 2, 1, 0, 0, 0), (853, .iadd, 1, 0, 0, 0), (854, .iaload, 1, 0, 0, 0), (855, .invokevirtual 112, 3, 225, 12, 2), (858, .if_icmp .eq 165, 3, 1023, 0, 0), (861, .iconst 0, 1, 0, 0, 0), (862, .ireturn, 1, 0, 0, 0), (863, .aload_n 1, 1, 0, 0, 0), (864, .aload_n 0, 1, 0, 0, 0), (865, .iload 4, 2, 0, 0, 0), (867, .iconst 1, 1, 0, 0, 0), (868, .iadd, 1, 0, 0, 0), (869, .iaload, 1, 0, 0, 0), (870, .aload_n 0, 1, 0, 0, 0), (871, .iload 4, 2, 0, 0, 0), (873, .iconst 2, 1, 0, 0, 0), (874, .iadd, 1, 0, 0, 0), (875, .iaload, 1, 0, 0, 0), (876, .aload_n 0, 1, 0, 0, 0), (877, .iload 4, 2, 0, 0, 0), (879, .iconst 3, 1, 0, 0, 0), (880, .iadd, 1, 0, 0, 0), (881, .iaload, 1, 0, 0, 0), (882, .invokevirtual 113, 3, 138, 11, 3), (885, .aload_n 2, 1, 0, 0, 0), (886, .aload_n 0, 1, 0, 0, 0), (887, .iload 4, 2, 0, 0, 0), (889, .iconst 1, 1, 0, 0, 0), (890, .iadd, 1, 0, 0, 0), (891, .iaload, 1, 0, 0, 0), (892, .aload_n 0, 1, 0, 0, 0), (893, .iload 4, 2, 0, 0, 0), (895, .iconst 2, 1, 0, 0, 0), (896, .iadd, 1, 0, 0, 0), (897, .iaload, 1, 0, 0, 0), (898, .aload_n 0, 1, 0, 0, 0), (899, .iload 4, 2, 0, 0, 0), (901, .iconst 3, 1, 0, 0, 0), (902, .iadd, 1, 0, 0, 0), (903, .iaload, 1, 0, 0, 0), (904, .invokevirtual 116, 3, 226, 12, 3), (907, .if_icmp .eq 116, 3, 1023, 0, 0), (910, .iconst 0, 1, 0, 0, 0), (911, .ireturn, 1, 0, 0, 0), (912, .aload_n 1, 1, 0, 0, 0), (913, .aload_n 0, 1, 0, 0, 0), (914, .iload 4, 2, 0, 0, 0), (916, .iconst 1, 1, 0, 0, 0), (917, .iadd, 1, 0, 0, 0), (918, .iaload, 1, 0, 0, 0), (919, .aload_n 0, 1, 0, 0, 0), (920, .iload 4, 2, 0, 0, 0), (922, .iconst 2, 1, 0, 0, 0), (923, .iadd, 1, 0, 0, 0), (924, .iaload, 1, 0, 0, 0), (925, .aload_n 0, 1, 0, 0, 0), (926, .iload 4, 2, 0, 0, 0), (928, .iconst 3, 1, 0, 0, 0), (929, .iadd, 1, 0, 0, 0), (930, .iaload, 1, 0, 0, 0), (931, .invokevirtual 117, 3, 139, 11, 3), (934, .aload_n 2, 1, 0, 0, 0), (935, .aload_n 0, 1, 0, 0, 0), (936, .iload 4, 2, 0, 0, 0), (938, .iconst 1, 1, 0, 0, 0), (939, .iadd, 1, 0, 0, 0), (940, .iaload, 1, 0, 0, 0), (941, .aload_n 0, 1, 0, 0, 0), (942, .iload 4, 2, 0, 0, 0), (944, .iconst 2, 1, 0, 0, 0), (945, .iadd, 1, 0, 0, 0), (946, .iaload, 1, 0, 0, 0), (947, .aload_n 0, 1, 0, 0, 0), (948, .iload 4, 2, 0, 0, 0), (950, .iconst 3, 1, 0, 0, 0), (951, .iadd, 1, 0, 0, 0), (952, .iaload, 1, 0, 0, 0), (953, .invokevirtual 120, 3, 227, 12, 3), (956, .if_icmp .eq 67, 3, 1023, 0, 0), (959, .iconst 0, 1, 0, 0, 0), (960, .ireturn, 1, 0, 0, 0), (961, .aload_n 1, 1, 0, 0, 0), (962, .aload_n 0, 1, 0, 0, 0), (963, .iload 4, 2, 0, 0, 0), (965, .iconst 1, 1, 0, 0, 0), (966, .iadd, 1, 0, 0, 0), (967, .iaload, 1, 0, 0, 0), (968, .aload_n 0, 1, 0, 0, 0), (969, .iload 4, 2, 0, 0, 0), (971, .iconst 2, 1, 0, 0, 0), (972, .iadd, 1, 0, 0, 0), (973, .iaload, 1, 0, 0, 0), (974, .invokevirtual 121, 3, 140, 11, 2), (977, .aload_n 2, 1, 0, 0, 0), (978, .aload_n 0, 1, 0, 0, 0), (979, .iload 4, 2, 0, 0, 0), (981, .iconst 1, 1, 0, 0, 0), (982, .iadd, 1, 0, 0, 0), (983, .iaload, 1, 0, 0, 0), (984, .aload_n 0, 1, 0, 0, 0), (985, .iload 4, 2, 0, 0, 0), (987, .iconst 2, 1, 0, 0, 0), (988, .iadd, 1, 0, 0, 0), (989, .iaload, 1, 0, 0, 0), (990, .invokevirtual 124, 3, 228, 12, 2), (993, .if_icmp .eq 30, 3, 1023, 0, 0), (996, .iconst 0, 1, 0, 0, 0), (997, .ireturn, 1, 0, 0, 0), (998, .aload_n 1, 1, 0, 0, 0), (999, .aload_n 0, 1, 0, 0, 0), (1000, .iload 4, 2, 0, 0, 0), (1002, .iconst 1, 1, 0, 0, 0), (1003, .iadd, 1, 0, 0, 0), (1004, .iaload, 1, 0, 0, 0), (1005, .invokevirtual 125, 3, 141, 11, 1), (1008, .aload_n 2, 1, 0, 0, 0), (1009, .aload_n 0, 1, 0, 0, 0), (1010, .iload 4, 2, 0, 0, 0), (1012, .iconst 1, 1, 0, 0, 0), (1013, .iadd, 1, 0, 0, 0), (1014, .iaload, 1, 0, 0, 0), (1015, .invokevirtual 128, 3, 229, 12, 1), (1018, .if_icmp .eq 5, 3, 1023, 0, 0), (1021, .iconst 0, 1, 0, 0, 0), (1022, .ireturn, 1, 0, 0, 0), (1023, .iinc 4 5, 3, 0, 0, 0), (1026, .goto (-1003), 3, 23, 0, 0), (1029, .iconst 1, 1, 0, 0, 0), (1030, .ireturn, 1, 0, 0, 0)]
/-- the methods: name, bytes, locals, what it returns, its instructions -/
def e_ms : List (MethodName × ByteArray × Nat × Option FieldType × List (Nat × Instr × Nat × Nat × Nat × Int)) := [
  (⟨"TierMill$Decoder", "<init>", "()V"⟩, prog_2_method_1_code, 1, none, e_d0),
  (⟨"TierMill$Decoder", "findsFault", "(LTierMill$Program;)Z"⟩, prog_2_method_2_code, 5, (some .boolean), e_d1),
  (⟨"TierMill$Decoder", "markBegins", "(LTierMill$Shape;)V"⟩, prog_2_method_3_code, 6, none, e_d2),
  (⟨"TierMill$Decoder", "sizeAt", "(II)I"⟩, prog_2_method_4_code, 4, (some .int), e_d3),
  (⟨"TierMill$Decoder", "isFaulty", "(LTierMill$Shape;I)Z"⟩, prog_2_method_5_code, 6, (some .boolean), e_d4),
  (⟨"TierMill$Decoder", "namesWhatThereIs", "(LTierMill$Shape;II)Z"⟩, prog_2_method_6_code, 5, (some .boolean), e_d5),
  (⟨"TierMill$Decoder", "choosesWell", "(LTierMill$Shape;I)Z"⟩, prog_2_method_7_code, 5, (some .boolean), e_d6),
  (⟨"TierMill$Decoder", "begins", "(LTierMill$Shape;I)Z"⟩, prog_2_method_8_code, 3, (some .boolean), e_d7),
  (⟨"TierMill$Entries", "<init>", "()V"⟩, prog_3_method_1_code, 1, none, e_d8),
  (⟨"TierMill$Entries", "add", "(IIIII)V"⟩, prog_3_method_2_code, 7, none, e_d9),
  (⟨"TierMill$Frames", "<init>", "()V"⟩, prog_4_method_1_code, 1, none, e_d10),
  (⟨"TierMill$Frames", "fromLatest", "(I)I"⟩, prog_4_method_2_code, 2, (some .int), e_d11),
  (⟨"TierMill$Frames", "open", "(IIII)V"⟩, prog_4_method_3_code, 6, none, e_d12),
  (⟨"TierMill$Frames", "becomePlain", "(I)V"⟩, prog_4_method_4_code, 2, none, e_d13),
  (⟨"TierMill$Frames", "setArguments", "(IIII)V"⟩, prog_4_method_5_code, 5, none, e_d14),
  (⟨"TierMill$Frames", "handOver", "(I)V"⟩, prog_4_method_6_code, 6, none, e_d15),
  (⟨"TierMill$Frames", "peek", "(I)I"⟩, prog_4_method_7_code, 3, (some .int), e_d16),
  (⟨"TierMill$Frames", "pop", "()I"⟩, prog_4_method_8_code, 2, (some .int), e_d17),
  (⟨"TierMill$Frames", "push", "(I)V"⟩, prog_4_method_9_code, 3, none, e_d18),
  (⟨"TierMill$Frames", "goOn", "(I)V"⟩, prog_4_method_10_code, 2, none, e_d19),
  (⟨"TierMill$Frames", "kindsAt", "(LTierMill$Program;I)I"⟩, prog_4_method_11_code, 4, (some .int), e_d20),
  (⟨"TierMill$Frames", "kindOf", "(LTierMill$Program;II)I"⟩, prog_4_method_12_code, 4, (some .int), e_d21),
  (⟨"TierMill$Heap", "<init>", "()V"⟩, prog_5_method_1_code, 1, none, e_d22),
  (⟨"TierMill$Heap", "clear", "(I)V"⟩, prog_5_method_2_code, 2, none, e_d23),
  (⟨"TierMill$Heap", "hasRoom", "(J)Z"⟩, prog_5_method_3_code, 3, (some .boolean), e_d24),
  (⟨"TierMill$Heap", "numberOf", "(I)I"⟩, prog_5_method_4_code, 2, (some .int), e_d25),
  (⟨"TierMill$Heap", "tagOf", "(I)I"⟩, prog_5_method_5_code, 2, (some .int), e_d26),
  (⟨"TierMill$Heap", "partsOf", "(LTierMill$Program;I)I"⟩, prog_5_method_6_code, 3, (some .int), e_d27),
  (⟨"TierMill$Heap", "partOf", "(II)I"⟩, prog_5_method_7_code, 3, (some .int), e_d28),
  (⟨"TierMill$Heap", "setPart", "(III)V"⟩, prog_5_method_8_code, 4, none, e_d29),
  (⟨"TierMill$Heap", "make", "(II)I"⟩, prog_5_method_9_code, 4, (some .int), e_d30),
  (⟨"TierMill$Heap", "collect", "(LTierMill$Program;LTierMill$Frames;)V"⟩, prog_5_method_10_code, 8, none, e_d31),
  (⟨"TierMill$Heap", "bringSlots", "(LTierMill$Program;[IJII)V"⟩, prog_5_method_11_code, 8, none, e_d32),
  (⟨"TierMill$Heap", "bringFields", "(LTierMill$Program;II)V"⟩, prog_5_method_12_code, 5, none, e_d33),
  (⟨"TierMill$Heap", "broughtOver", "(LTierMill$Program;I)I"⟩, prog_5_method_13_code, 5, (some .int), e_d34),
  (⟨"TierMill$Machine", "<init>", "()V"⟩, prog_6_method_1_code, 1, none, e_d35),
  (⟨"TierMill$Machine", "takeInput", "(I)Z"⟩, prog_6_method_2_code, 2, (some .boolean), e_d36),
  (⟨"TierMill$Machine", "forget", "()V"⟩, prog_6_method_3_code, 1, none, e_d37),
  (⟨"TierMill$Machine", "begin", "(LTierMill$Program;I)V"⟩, prog_6_method_4_code, 3, none, e_d38),
  (⟨"TierMill$Machine", "seen", "(IZ)I"⟩, prog_6_method_5_code, 3, (some .int), e_d39),
  (⟨"TierMill$Machine", "advance", "(I)I"⟩, prog_6_method_6_code, 4, (some .int), e_d40),
  (⟨"TierMill$Machine", "step", "(I)I"⟩, prog_6_method_7_code, 2, (some .int), e_d41),
  (⟨"TierMill$Machine", "move", "(I)I"⟩, prog_6_method_8_code, 2, (some .int), e_d42),
  (⟨"TierMill$Machine", "localNamed", "()I"⟩, prog_6_method_9_code, 1, (some .int), e_d43),
  (⟨"TierMill$Machine", "swap", "()V"⟩, prog_6_method_10_code, 3, none, e_d44),
  (⟨"TierMill$Machine", "calculate", "(I)I"⟩, prog_6_method_11_code, 3, (some .int), e_d45),
  (⟨"TierMill$Machine", "calculated", "(III)I"⟩, prog_6_method_12_code, 3, (some .int), e_d46),
  (⟨"TierMill$Machine", "jump", "(I)I"⟩, prog_6_method_13_code, 5, (some .int), e_d47),
  (⟨"TierMill$Machine", "chosen", "()I"⟩, prog_6_method_14_code, 3, (some .int), e_d48),
  (⟨"TierMill$Machine", "isTaken", "(I)Z"⟩, prog_6_method_15_code, 4, (some .boolean), e_d49),
  (⟨"TierMill$Machine", "compares", "(III)Z"⟩, prog_6_method_16_code, 3, (some .boolean), e_d50),
  (⟨"TierMill$Machine", "make", "(I)I"⟩, prog_6_method_17_code, 7, (some .int), e_d51),
  (⟨"TierMill$Machine", "useField", "(I)I"⟩, prog_6_method_18_code, 4, (some .int), e_d52),
  (⟨"TierMill$Machine", "useArray", "(I)I"⟩, prog_6_method_19_code, 6, (some .int), e_d53),
  (⟨"TierMill$Machine", "testClass", "(I)I"⟩, prog_6_method_20_code, 4, (some .int), e_d54),
  (⟨"TierMill$Machine", "call", "(I)I"⟩, prog_6_method_21_code, 7, (some .int), e_d55),
  (⟨"TierMill$Machine", "rowOfCall", "(III)I"⟩, prog_6_method_22_code, 6, (some .int), e_d56),
  (⟨"TierMill$Machine", "failGuard", "(I)V"⟩, prog_6_method_23_code, 5, none, e_d57),
  (⟨"TierMill$Machine", "openInvoked", "(I)V"⟩, prog_6_method_24_code, 4, none, e_d58),
  (⟨"TierMill$Machine", "giveBack", "(I)I"⟩, prog_6_method_25_code, 3, (some .int), e_d59),
  (⟨"TierMill$Machine", "passInt", "(I)I"⟩, prog_6_method_26_code, 3, (some .int), e_d60),
  (⟨"TierMill$Machine", "nextInput", "()I"⟩, prog_6_method_27_code, 2, (some .int), e_d61),
  (⟨"TierMill$Plan", "<init>", "([III)V"⟩, prog_7_method_1_code, 4, none, e_d62),
  (⟨"TierMill$Plan", "find", "(II)I"⟩, prog_7_method_2_code, 5, (some .int), e_d63),
  (⟨"TierMill$Plan", "guardOf", "(I)I"⟩, prog_7_method_3_code, 2, (some .int), e_d64),
  (⟨"TierMill$Program", "<init>", "()V"⟩, prog_8_method_1_code, 2, none, e_d65),
  (⟨"TierMill$Program", "isOrBelow", "(II)Z"⟩, prog_8_method_2_code, 3, (some .boolean), e_d66),
  (⟨"TierMill$Program", "begins", "(II)Z"⟩, prog_8_method_3_code, 4, (some .boolean), e_d67),
  (⟨"TierMill$Program", "kindAt", "(II)I"⟩, prog_8_method_4_code, 3, (some .int), e_d68),
  (⟨"TierMill$Program", "kindIn", "(JI)I"⟩, prog_8_method_5_code, 3, (some .int), e_d69),
  (⟨"TierMill$Program", "isReference", "(I)Z"⟩, prog_8_method_6_code, 1, (some .boolean), e_d70),
  (⟨"TierMill$Reader", "<init>", "()V"⟩, prog_9_method_1_code, 1, none, e_d71),
  (⟨"TierMill$Reader", "firstWrong", "(LTierMill$Program;)I"⟩, prog_9_method_2_code, 2, (some .int), e_d72),
  (⟨"TierMill$Reader", "take", "(II)I"⟩, prog_9_method_3_code, 4, (some .int), e_d73),
  (⟨"TierMill$Reader", "takeType", "(I)I"⟩, prog_9_method_4_code, 3, (some .int), e_d74),
  (⟨"TierMill$Reader", "readClasses", "()V"⟩, prog_9_method_5_code, 6, none, e_d75),
  (⟨"TierMill$Reader", "readSelectors", "()V"⟩, prog_9_method_6_code, 2, none, e_d76),
  (⟨"TierMill$Reader", "readShape", "(LTierMill$Shape;I)V"⟩, prog_9_method_7_code, 4, none, e_d77),
  (⟨"TierMill$Reader", "readMethods", "()V"⟩, prog_9_method_8_code, 3, none, e_d78),
  (⟨"TierMill$Reader", "readTable", "()V"⟩, prog_9_method_9_code, 5, none, e_d79),
  (⟨"TierMill$Reader", "suits", "(ILTierMill$Shape;LTierMill$Shape;)Z"⟩, prog_9_method_10_code, 6, (some .boolean), e_d80),
  (⟨"TierMill$Shape", "<init>", "()V"⟩, prog_10_method_1_code, 1, none, e_d81),
  (⟨"TierMill$Tiers", "<init>", "()V"⟩, prog_11_method_1_code, 1, none, e_d82),
  (⟨"TierMill$Tiers", "clear", "()V"⟩, prog_11_method_2_code, 1, none, e_d83),
  (⟨"TierMill$Tiers", "clearFor", "(LTierMill$Program;)V"⟩, prog_11_method_3_code, 2, none, e_d84),
  (⟨"TierMill$Tiers", "planNumber", "(I)I"⟩, prog_11_method_4_code, 2, (some .int), e_d85),
  (⟨"TierMill$Tiers", "planOfMethod", "(I)LTierMill$Plan;"⟩, prog_11_method_5_code, 2, (some (.object "TierMill$Plan")), e_d86),
  (⟨"TierMill$Tiers", "planNumbered", "(I)LTierMill$Plan;"⟩, prog_11_method_6_code, 2, (some (.object "TierMill$Plan")), e_d87),
  (⟨"TierMill$Tiers", "invoke", "(I)LTierMill$Plan;"⟩, prog_11_method_7_code, 3, (some (.object "TierMill$Plan")), e_d88),
  (⟨"TierMill$Tiers", "giveUp", "(II)V"⟩, prog_11_method_8_code, 3, none, e_d89),
  (⟨"TierMill$Tiers", "goThrough", "(II)V"⟩, prog_11_method_9_code, 9, none, e_d90),
  (⟨"TierMill$Tiers", "guardOf", "(I)I"⟩, prog_11_method_10_code, 5, (some .int), e_d91),
  (⟨"TierMill$Tiers", "calleeOf", "(II)I"⟩, prog_11_method_11_code, 4, (some .int), e_d92),
  (⟨"TierMill$Tiers", "fits", "(I)Z"⟩, prog_11_method_12_code, 3, (some .boolean), e_d93),
  (⟨"TierMill$Tiers", "addRow", "(IIIII)I"⟩, prog_11_method_13_code, 7, (some .int), e_d94),
  (⟨"TierMill$Verifier", "<init>", "()V"⟩, prog_12_method_1_code, 1, none, e_d95),
  (⟨"TierMill$Verifier", "findsFault", "(LTierMill$Program;)Z"⟩, prog_12_method_2_code, 4, (some .boolean), e_d96),
  (⟨"TierMill$Verifier", "flow", "()V"⟩, prog_12_method_3_code, 5, none, e_d97),
  (⟨"TierMill$Verifier", "goBehind", "(I)V"⟩, prog_12_method_4_code, 5, none, e_d98),
  (⟨"TierMill$Verifier", "findBehind", "(II)V"⟩, prog_12_method_5_code, 9, none, e_d99),
  (⟨"TierMill$Verifier", "dropKind", "()V"⟩, prog_12_method_6_code, 1, none, e_d100),
  (⟨"TierMill$Verifier", "addKind", "(I)V"⟩, prog_12_method_7_code, 2, none, e_d101),
  (⟨"TierMill$Verifier", "takesAt", "(II)I"⟩, prog_12_method_8_code, 3, (some .int), e_d102),
  (⟨"TierMill$Verifier", "putsAt", "(II)I"⟩, prog_12_method_9_code, 3, (some .int), e_d103),
  (⟨"TierMill$Verifier", "returnedAt", "(II)I"⟩, prog_12_method_10_code, 4, (some .int), e_d104),
  (⟨"TierMill$Verifier", "kindPut", "(II)I"⟩, prog_12_method_11_code, 3, (some .int), e_d105),
  (⟨"TierMill$Verifier", "comeTo", "(I)V"⟩, prog_12_method_12_code, 7, none, e_d106),
  (⟨"TierMill$Verifier", "becomes", "(IIJJ)V"⟩, prog_12_method_13_code, 7, none, e_d107),
  (⟨"TierMill$Verifier", "joined", "(JJ)J"⟩, prog_12_method_14_code, 8, (some .long), e_d108),
  (⟨"TierMill$Verifier", "join", "(II)I"⟩, prog_12_method_15_code, 5, (some .int), e_d109),
  (⟨"TierMill$Verifier", "isWrong", "(I)Z"⟩, prog_12_method_16_code, 5, (some .boolean), e_d110),
  (⟨"TierMill$Verifier", "fromTop", "(I)I"⟩, prog_12_method_17_code, 2, (some .int), e_d111),
  (⟨"TierMill$Verifier", "isFitPlain", "(II)Z"⟩, prog_12_method_18_code, 5, (some .boolean), e_d112),
  (⟨"TierMill$Verifier", "areAlike", "(II)Z"⟩, prog_12_method_19_code, 2, (some .boolean), e_d113),
  (⟨"TierMill$Verifier", "isFitObject", "(II)Z"⟩, prog_12_method_20_code, 6, (some .boolean), e_d114),
  (⟨"TierMill$Verifier", "areParamsFit", "(LTierMill$Shape;)Z"⟩, prog_12_method_21_code, 3, (some .boolean), e_d115),
  (⟨"TierMill$Verifier", "hasMethod", "(I)Z"⟩, prog_12_method_22_code, 3, (some .boolean), e_d116),
  (⟨"TierMill$Verifier", "isFit", "(II)Z"⟩, prog_12_method_23_code, 3, (some .boolean), e_d117),
  (⟨"TierMill", "<init>", "()V"⟩, prog_1_method_1_code, 1, none, e_d118),
  (⟨"TierMill", "put", "(JI)Z"⟩, prog_1_method_2_code, 5, (some .boolean), e_d119),
  (⟨"TierMill", "load", "()I"⟩, prog_1_method_3_code, 3, (some .int), e_d120),
  (⟨"TierMill", "keepFault", "(III)V"⟩, prog_1_method_4_code, 4, none, e_d121),
  (⟨"TierMill", "fault", "(I)I"⟩, prog_1_method_5_code, 2, (some .int), e_d122),
  (⟨"TierMill", "kind", "(III)I"⟩, prog_1_method_6_code, 7, (some .int), e_d123),
  (⟨"TierMill", "slotNumber", "(III)I"⟩, prog_1_method_7_code, 3, (some .int), e_d124),
  (⟨"TierMill", "tiers", "(IIII)Z"⟩, prog_1_method_8_code, 6, (some .boolean), e_d125),
  (⟨"TierMill", "room", "(I)Z"⟩, prog_1_method_9_code, 2, (some .boolean), e_d126),
  (⟨"TierMill", "give", "(I)Z"⟩, prog_1_method_10_code, 2, (some .boolean), e_d127),
  (⟨"TierMill", "start", "(IIII)Z"⟩, prog_1_method_11_code, 7, (some .boolean), e_d128),
  (⟨"TierMill", "run", "(I)I"⟩, prog_1_method_12_code, 3, (some .int), e_d129),
  (⟨"TierMill", "state", "()I"⟩, prog_1_method_13_code, 1, (some .int), e_d130),
  (⟨"TierMill", "result", "(I)I"⟩, prog_1_method_14_code, 2, (some .int), e_d131),
  (⟨"TierMill", "output", "(I)I"⟩, prog_1_method_15_code, 2, (some .int), e_d132),
  (⟨"TierMill", "frame", "(II)I"⟩, prog_1_method_16_code, 5, (some .int), e_d133),
  (⟨"TierMill", "local", "(II)I"⟩, prog_1_method_17_code, 6, (some .int), e_d134),
  (⟨"TierMill", "part", "(III)I"⟩, prog_1_method_18_code, 10, (some .int), e_d135),
  (⟨"TierMill", "seenSlot", "(II)I"⟩, prog_1_method_19_code, 5, (some .int), e_d136),
  (⟨"TierMill", "method", "(II)I"⟩, prog_1_method_20_code, 4, (some .int), e_d137),
  (⟨"TierMill", "inlined", "(III)I"⟩, prog_1_method_21_code, 5, (some .int), e_d138),
  (⟨"TierMill", "profile", "(III)I"⟩, prog_1_method_22_code, 7, (some .int), e_d139),
  (⟨"TierMill", "log", "(II)I"⟩, prog_1_method_23_code, 4, (some .int), e_d140),
  (⟨"TierMill", "total", "(I)I"⟩, prog_1_method_24_code, 2, (some .int), e_d141),
  (⟨"TierMillModel", "<init>", "()V"⟩, prog_14_method_1_code, 1, none, e_d142),
  (⟨"TierMillModel", "thrown", "()I"⟩, prog_14_method_2_code, 1, (some .int), e_d143),
  (⟨"TierMillModel", "raise", "(I)I"⟩, prog_14_method_3_code, 2, (some .int), e_d144),
  (⟨"TierMillModel", "within", "(III)Z"⟩, prog_14_method_4_code, 3, (some .boolean), e_d145),
  (⟨"TierMillModel", "put", "(JI)Z"⟩, prog_14_method_5_code, 5, (some .boolean), e_d146),
  (⟨"TierMillModel", "next", "(II)I"⟩, prog_14_method_6_code, 3, (some .int), e_d147),
  (⟨"TierMillModel", "type", "(Z)I"⟩, prog_14_method_7_code, 4, (some .int), e_d148),
  (⟨"TierMillModel", "readClass", "(I)V"⟩, prog_14_method_8_code, 7, none, e_d149),
  (⟨"TierMillModel", "readSelector", "(I)V"⟩, prog_14_method_9_code, 3, none, e_d150),
  (⟨"TierMillModel", "readMethod", "(I)V"⟩, prog_14_method_10_code, 3, none, e_d151),
  (⟨"TierMillModel", "isBelow", "(II)Z"⟩, prog_14_method_11_code, 4, (some .boolean), e_d152),
  (⟨"TierMillModel", "isOf", "(II)Z"⟩, prog_14_method_12_code, 3, (some .boolean), e_d153),
  (⟨"TierMillModel", "mayStand", "(III)Z"⟩, prog_14_method_13_code, 5, (some .boolean), e_d154),
  (⟨"TierMillModel", "readTable", "(II)V"⟩, prog_14_method_14_code, 4, none, e_d155),
  (⟨"TierMillModel", "takeApart", "()Z"⟩, prog_14_method_15_code, 2, (some .boolean), e_d156),
  (⟨"TierMillModel", "opLong", "(I)I"⟩, prog_14_method_16_code, 1, (some .int), e_d157),
  (⟨"TierMillModel", "byteAt", "(II)I"⟩, prog_14_method_17_code, 3, (some .int), e_d158),
  (⟨"TierMillModel", "longOf", "(II)I"⟩, prog_14_method_18_code, 5, (some .int), e_d159),
  (⟨"TierMillModel", "findBegins", "(I)V"⟩, prog_14_method_19_code, 4, none, e_d160),
  (⟨"TierMillModel", "isPlace", "(II)Z"⟩, prog_14_method_20_code, 3, (some .boolean), e_d161),
  (⟨"TierMillModel", "isGood", "(II)Z"⟩, prog_14_method_21_code, 7, (some .boolean), e_d162),
  (⟨"TierMillModel", "findFault", "(III)Z"⟩, prog_14_method_22_code, 4, (some .boolean), e_d163),
  (⟨"TierMillModel", "isFine", "()Z"⟩, prog_14_method_23_code, 3, (some .boolean), e_d164),
  (⟨"TierMillModel", "load", "()I"⟩, prog_14_method_24_code, 3, (some .int), e_d165),
  (⟨"TierMillModel", "again", "()V"⟩, prog_14_method_25_code, 5, none, e_d166),
  (⟨"TierMillModel", "fault", "(I)I"⟩, prog_14_method_26_code, 2, (some .int), e_d167),
  (⟨"TierMillModel", "resolve", "(II)I"⟩, prog_14_method_27_code, 4, (some .int), e_d168),
  (⟨"TierMillModel", "joined", "(II)I"⟩, prog_14_method_28_code, 4, (some .int), e_d169),
  (⟨"TierMillModel", "merge", "(IIZ)Z"⟩, prog_14_method_29_code, 8, (some .boolean), e_d170),
  (⟨"TierMillModel", "flow", "(I)V"⟩, prog_14_method_30_code, 5, none, e_d171),
  (⟨"TierMillModel", "goOn", "(II)Z"⟩, prog_14_method_31_code, 8, (some .boolean), e_d172),
  (⟨"TierMillModel", "popKind", "()I"⟩, prog_14_method_32_code, 1, (some .int), e_d173),
  (⟨"TierMillModel", "pushKind", "(I)V"⟩, prog_14_method_33_code, 2, none, e_d174),
  (⟨"TierMillModel", "drop", "(I)V"⟩, prog_14_method_34_code, 3, none, e_d175),
  (⟨"TierMillModel", "takes", "(II)I"⟩, prog_14_method_35_code, 4, (some .int), e_d176),
  (⟨"TierMillModel", "behind", "(II)V"⟩, prog_14_method_36_code, 8, none, e_d177),
  (⟨"TierMillModel", "fits", "(II)Z"⟩, prog_14_method_37_code, 3, (some .boolean), e_d178),
  (⟨"TierMillModel", "isThing", "(I)Z"⟩, prog_14_method_38_code, 1, (some .boolean), e_d179),
  (⟨"TierMillModel", "isWrong", "(II)Z"⟩, prog_14_method_39_code, 11, (some .boolean), e_d180),
  (⟨"TierMillModel", "kind", "(III)I"⟩, prog_14_method_40_code, 5, (some .int), e_d181),
  (⟨"TierMillModel", "tiers", "(IIII)Z"⟩, prog_14_method_41_code, 5, (some .boolean), e_d182),
  (⟨"TierMillModel", "room", "(I)Z"⟩, prog_14_method_42_code, 2, (some .boolean), e_d183),
  (⟨"TierMillModel", "give", "(I)Z"⟩, prog_14_method_43_code, 2, (some .boolean), e_d184),
  (⟨"TierMillModel", "start", "(IIII)Z"⟩, prog_14_method_44_code, 6, (some .boolean), e_d185),
  (⟨"TierMillModel", "newFrame", "(IIII)V"⟩, prog_14_method_45_code, 7, none, e_d186),
  (⟨"TierMillModel", "note", "(IIII)V"⟩, prog_14_method_46_code, 5, none, e_d187),
  (⟨"TierMillModel", "invoke", "(I)V"⟩, prog_14_method_47_code, 2, none, e_d188),
  (⟨"TierMillModel", "profileOf", "(III)I"⟩, prog_14_method_48_code, 4, (some .int), e_d189),
  (⟨"TierMillModel", "lay", "(I)V"⟩, prog_14_method_49_code, 8, none, e_d190),
  (⟨"TierMillModel", "isLaid", "(III)Z"⟩, prog_14_method_50_code, 8, (some .boolean), e_d191),
  (⟨"TierMillModel", "siteAt", "(I)I"⟩, prog_14_method_51_code, 4, (some .int), e_d192),
  (⟨"TierMillModel", "fail", "(II)V"⟩, prog_14_method_52_code, 5, none, e_d193),
  (⟨"TierMillModel", "call", "(II)V"⟩, prog_14_method_53_code, 7, none, e_d194),
  (⟨"TierMillModel", "objectOf", "(I)I"⟩, prog_14_method_54_code, 5, (some .int), e_d195),
  (⟨"TierMillModel", "reach", "(I)V"⟩, prog_14_method_55_code, 3, none, e_d196),
  (⟨"TierMillModel", "reachFields", "(I)V"⟩, prog_14_method_56_code, 3, none, e_d197),
  (⟨"TierMillModel", "isRef", "(I)Z"⟩, prog_14_method_57_code, 1, (some .boolean), e_d198),
  (⟨"TierMillModel", "rowOf", "(I)I"⟩, prog_14_method_58_code, 2, (some .int), e_d199),
  (⟨"TierMillModel", "collect", "()V"⟩, prog_14_method_59_code, 6, none, e_d200),
  (⟨"TierMillModel", "make", "(II)I"⟩, prog_14_method_60_code, 4, (some .int), e_d201),
  (⟨"TierMillModel", "pop", "()I"⟩, prog_14_method_61_code, 2, (some .int), e_d202),
  (⟨"TierMillModel", "push", "(I)V"⟩, prog_14_method_62_code, 3, none, e_d203),
  (⟨"TierMillModel", "peek", "(I)I"⟩, prog_14_method_63_code, 2, (some .int), e_d204),
  (⟨"TierMillModel", "jump", "(I)V"⟩, prog_14_method_64_code, 3, none, e_d205),
  (⟨"TierMillModel", "reckon", "(III)I"⟩, prog_14_method_65_code, 3, (some .int), e_d206),
  (⟨"TierMillModel", "compares", "(III)Z"⟩, prog_14_method_66_code, 3, (some .boolean), e_d207),
  (⟨"TierMillModel", "holds", "(I)Z"⟩, prog_14_method_67_code, 4, (some .boolean), e_d208),
  (⟨"TierMillModel", "trapOf", "(III)I"⟩, prog_14_method_68_code, 7, (some .int), e_d209),
  (⟨"TierMillModel", "stop", "(I)V"⟩, prog_14_method_69_code, 2, none, e_d210),
  (⟨"TierMillModel", "step", "()Z"⟩, prog_14_method_70_code, 9, (some .boolean), e_d211),
  (⟨"TierMillModel", "leave", "(Z)V"⟩, prog_14_method_71_code, 3, none, e_d212),
  (⟨"TierMillModel", "act", "(IIIIII)V"⟩, prog_14_method_72_code, 10, none, e_d213),
  (⟨"TierMillModel", "nextInput", "()I"⟩, prog_14_method_73_code, 3, (some .int), e_d214),
  (⟨"TierMillModel", "run", "(I)I"⟩, prog_14_method_74_code, 5, (some .int), e_d215),
  (⟨"TierMillModel", "state", "()I"⟩, prog_14_method_75_code, 1, (some .int), e_d216),
  (⟨"TierMillModel", "result", "(I)I"⟩, prog_14_method_76_code, 2, (some .int), e_d217),
  (⟨"TierMillModel", "output", "(I)I"⟩, prog_14_method_77_code, 2, (some .int), e_d218),
  (⟨"TierMillModel", "frameOf", "(I)I"⟩, prog_14_method_78_code, 2, (some .int), e_d219),
  (⟨"TierMillModel", "frame", "(II)I"⟩, prog_14_method_79_code, 4, (some .int), e_d220),
  (⟨"TierMillModel", "find", "(II)V"⟩, prog_14_method_80_code, 5, none, e_d221),
  (⟨"TierMillModel", "local", "(II)I"⟩, prog_14_method_81_code, 3, (some .int), e_d222),
  (⟨"TierMillModel", "part", "(III)I"⟩, prog_14_method_82_code, 5, (some .int), e_d223),
  (⟨"TierMillModel", "isMethod", "(I)Z"⟩, prog_14_method_83_code, 2, (some .boolean), e_d224),
  (⟨"TierMillModel", "method", "(II)I"⟩, prog_14_method_84_code, 3, (some .int), e_d225),
  (⟨"TierMillModel", "inlined", "(III)I"⟩, prog_14_method_85_code, 4, (some .int), e_d226),
  (⟨"TierMillModel", "profile", "(III)I"⟩, prog_14_method_86_code, 6, (some .int), e_d227),
  (⟨"TierMillModel", "log", "(II)I"⟩, prog_14_method_87_code, 3, (some .int), e_d228),
  (⟨"TierMillModel", "total", "(I)I"⟩, prog_14_method_88_code, 3, (some .int), e_d229),
  (⟨"java/lang/Math", "max", "(II)I"⟩, prog_22_method_65_code, 2, (some .int), e_d230),
  (⟨"java/lang/Math", "min", "(II)I"⟩, prog_22_method_69_code, 2, (some .int), e_d231),
  (⟨"java/util/Arrays", "rangeCheck", "(III)V"⟩, prog_30_method_30_code, 3, none, e_d232),
  (⟨"java/util/Arrays", "fill", "([II)V"⟩, prog_30_method_103_code, 4, none, e_d233),
  (⟨"java/util/Arrays", "fill", "([IIII)V"⟩, prog_30_method_104_code, 5, none, e_d234),
  (⟨"java/util/Arrays", "copyOf", "([II)[I"⟩, prog_30_method_123_code, 3, (some (.array .int)), e_d235),
  (⟨"TierMillLaw", "load", "(LTierMill;[J)I"⟩, method_3_code, 3, (some .int), e_d236),
  (⟨"TierMillLaw", "run", "(LTierMill;I[J)I"⟩, method_4_code, 4, (some .int), e_d237),
  (⟨"TierMillLaw", "output", "(LTierMill;I[J)I"⟩, method_5_code, 4, (some .int), e_d238),
  (⟨"TierMillLaw", "local", "(LTierMill;II[J)I"⟩, method_6_code, 5, (some .int), e_d239),
  (⟨"TierMillLaw", "part", "(LTierMill;III[J)I"⟩, method_7_code, 6, (some .int), e_d240),
  (⟨"TierMillLaw", "law", "([I)Z"⟩, code, 7, (some .boolean), e_d241)]
/-- how many each takes, its own object apart -/
def e_pns : List Nat := [0, 1, 1, 2, 2, 3, 2, 2, 0, 5, 0, 1, 4, 1, 4, 1, 1, 0, 1, 1, 2, 3, 0, 1, 1, 1, 1, 2, 2, 3, 2, 2, 5, 3, 2, 0, 1, 0, 2, 2, 1, 1, 1, 0, 0, 1, 3, 1, 0, 1, 3, 1, 1, 1, 1, 1, 3, 1, 1, 1, 1, 0, 3, 2, 1, 0, 2, 2, 2, 2, 1, 0, 1, 2, 1, 0, 0, 2, 0, 0, 3, 0, 0, 0, 1, 1, 1, 1, 1, 2, 2, 1, 2, 1, 5, 0, 1, 0, 1, 2, 0, 1, 2, 2, 2, 2, 1, 4, 2, 2, 1, 1, 2, 2, 2, 1, 1, 2, 0, 2, 0, 3, 1, 3, 3, 4, 1, 1, 4, 1, 0, 1, 1, 2, 2, 3, 2, 2, 3, 3, 2, 1, 0, 0, 1, 3, 2, 2, 1, 1, 1, 1, 2, 2, 3, 2, 0, 1, 2, 2, 1, 2, 2, 3, 0, 0, 0, 1, 2, 2, 3, 1, 2, 0, 1, 1, 2, 2, 2, 1, 2, 3, 4, 1, 1, 4, 4, 4, 1, 3, 1, 3, 1, 2, 2, 1, 1, 1, 1, 1, 0, 2, 0, 1, 1, 1, 3, 3, 1, 3, 1, 0, 1, 6, 0, 1, 0, 1, 1, 1, 2, 2, 2, 3, 1, 2, 3, 3, 2, 1, 2, 2, 3, 2, 4, 2, 2, 3, 3, 4, 5, 1]
end
section
/-- the words that every method is given -/
def e_big : List Cond := lw_tbl.filter goodWord
def e_in (w : Cond) : Bool := decide (w ∈ lw_tbl) && goodWord w
theorem e_in_big {w : Cond} (h : e_in w = true) : w ∈ e_big := by
  unfold e_in at h
  rw [Bool.and_eq_true, decide_eq_true_eq] at h
  exact List.mem_filter.mpr h
theorem e_big_good : GoodIn e_big e_big := fun w hw => ⟨hw, good_of_word (List.mem_filter.mp hw).2⟩
theorem e_test1 : e_in (.fieldLink "TierMill$Decoder" 9 "TierMill$Decoder" "file" "LTierMill$Program;") = true := by decide +kernel
end
section
-- out of the claim's NAMES.whole.lean.txt (its rows on exceptions), names of Bundle written out
/-! ===== BEGIN exceptions that leave a method, and their catching by the caller (launches without stack traces) ===== -/
section VXA
/-! The laws vx_back, vx_callV, vx_callS, vx_callSW, vx_throw0, vx_throwS follow proofs of the library, with one case more: JvmDerived/Free/Laws.lean (Back.of_free), Shelf42/LK1.lean (callV, callS), Shelf/KitTraced.lean (throwNew0V, throwNewS). -/
/-- where a method has thrown q: the class by its name, the cell, what was written, the world -/
def vx_T (XC : String → State → State → Prop) (st : State) (q : Addr) (t : State) (mc ms : Nat) (free : Addr → Prop) : Prop :=
  ∃ (E : String) (ce : Cell) (L : List Loc), XC E st t ∧ t.heap[q]? = some ce ∧ ce.vm = .none ∧ st.vm.findClass E = some ce.cls ∧ st.WarmedH t.vm ∧ st.sameButNew ({ t with vm := st.vm } : State) L mc ms ∧ ∀ z ∈ L, free z.base
def vx_Q (Qc : Array Value → State → Outcome → State → Prop) (XC : String → State → State → Prop) (mc ms : Nat) (free : Addr → Prop) : Array Value → State → Outcome → State → Prop := fun a st o t =>
  (Qc a st o t ∧ ∃ L, FrameEnd st o t L mc ms ∧ ∀ q ∈ L, free q.base) ∨ ∃ q, o = .threw q ∧ vx_T XC st q t mc ms free
/-- a callee that returns or throws -/
def vx_Met (l : Launch) (y : MethodName) (ws : List Cond) (rm : Room) (Pc : Array Value → State → Prop) (Qc : Array Value → State → Outcome → State → Prop) (XC : String → State → State → Prop) (mc ms : Nat) (free : Addr → Prop) : Prop :=
  MetFree l y (headSpec ws rm) Pc (fun _ _ _ _ _ => True) (vx_Q Qc XC mc ms free)
def vx_Post (XC : String → State → State → Prop) (mc ms : Nat) (free : Addr → Prop) : Pt → Array Value → Addr → Pt → Prop := fun A a q B =>
  ∃ (g : JFrame) (mk : MethodId) (t : State) (L : List Loc) (E : String) (ce : Cell), B.U.heap = t.heap ∧ B.U.vm = t.vm ∧ XC E (A.U.calling g mk a) t ∧ t.heap[q]? = some ce ∧ ce.vm = .none ∧ A.U.vm.findClass E = some ce.cls ∧ B.locs = A.locs ++ L ∧ (∀ z ∈ L, free z.base) ∧ B.cells = A.cells + mc ∧ B.slots = A.slots + ms
def vx_Back (l : Launch) (R : Room) (p : Program) (e : Env) (below : List Frame) (s : State) (sargs : Array Value) (y : MethodName) (len W9 : Nat)
    (Pre : Pt → Array Value → Prop) (Post : Pt → Array Value → Option Value → Pt → Prop) (PostX : Pt → Array Value → Addr → Pt → Prop) : Prop :=
  ∀ (m : MethodId) (meth : Method) (c : Code) (A : Pt) (g : JFrame) (ig : Instr) (mk : MethodId) (a : Array Value),
    Stand p l e R s m sargs below meth c A.U A.locs A.cells A.slots → g.method = m → g.locals.size = c.maxLocals → decode c.code g.pc = .ok (ig, len) →
    2 * g.monitorRoom + (g.stack.map fun v => v.category).sum ≤ W9 → A.U.methodNamed? y = some mk → Pre A a →
    (∃ (v : Option Value) (B : Pt), Stand p l e R s m sargs below meth c B.U B.locs B.cells B.slots ∧ Post A a v B ∧
      Steps p.tables e below (doInvoke e (A.U.setTop g) [] mk a).1 (B.U.setTop { g with pc := g.pc + len, stack := v.toList ++ g.stack })) ∨
    (∃ (q : Addr) (B : Pt), Stand p l e R s m sargs below meth c B.U B.locs B.cells B.slots ∧ PostX A a q B ∧
      Steps p.tables e below (doInvoke e (A.U.setTop g) [] mk a).1 ((B.U.setTop g).pushFrame (.throwing q)))
section Payer
variable {l : Launch} {R : Room} {p : Program} {e : Env} {below : List Frame} {s : State} {sargs : Array Value} {y : MethodName} {len W9 : Nat}
theorem vx_back {ws : List Cond} {rm : Room} {Pc : Array Value → State → Prop} {Qc : Array Value → State → Outcome → State → Prop} {XC : String → State → State → Prop} {mc ms : Nat} {free : Addr → Prop} {bytes : ByteArray} {maxL : Nat} {ret : Option FieldType}
    (hM : vx_Met l y ws rm Pc Qc XC mc ms free) (hblind : FrameBlind Pc) (hrc : rm.cells = mc) (hrs : rm.slots = ms)
    (hframes : rm.frames + 1 ≤ R.frames) (hlocals : W9 + (maxL + 11) + rm.locals ≤ R.locals)
    (hws : ∀ w ∈ ws, ∀ a' U, s.WarmedH U.vm → w.before a' U = true) (hcode : Cond.code y bytes maxL ret ∈ ws) (hinit : ∀ a' U, s.WarmedH U.vm → (Cond.initialized y.cls).before a' U = true) :
    vx_Back l R p e below s sargs y len W9 (PreOf R mc ms Pc) (PostOf Qc mc ms free) (vx_Post XC mc ms free) := by
  intro m meth c A g ig mk a X hg hsize hdg hW hn hp
  have h1 : (headSpec ws rm).pre.before a A.U = true := atoms_intro fun w hw => hws w hw _ _ X.warmed
  have h2 : (Cond.code y bytes maxL ret).before a A.U = true := hws _ hcode _ _ X.warmed
  have h3 : (Cond.initialized y.cls).before a A.U = true := hinit _ _ X.warmed
  have h4 : A.cells + (headSpec ws rm).room.cells ≤ R.cells := by rw [show (headSpec ws rm).room.cells = mc from hrc]; exact hp.1
  have h5 : A.slots + (headSpec ws rm).room.slots ≤ R.slots := by rw [show (headSpec ws rm).room.slots = ms from hrs]; exact hp.2.1
  have hPc : Pc a (A.U.calling g mk a) := hblind _ _ _ _ hp.2.2
  obtain ⟨U, Ls, c0, s0⟩ := A
  dsimp only [Pt.U, Pt.locs, Pt.cells, Pt.slots] at h1 h2 h3 h4 h5 X hn hPc ⊢
  obtain ⟨methY, cY, hmY, hcY, -, hlY, -, -, -, -⟩ := Cond.code_spec hn h2
  obtain ⟨kY, hkY, -⟩ := className_of_methodNamed hn
  have hinitY : kY.init = .initialized := Cond.initialized_spec (findClass_of_methodNamed hn) hkY h3
  have h : At U g.method c below := by rw [hg]; exact X.here
  have hlocals9 : W9 + (maxL + 11) + (headSpec ws rm).room.locals ≤ R.locals := hlocals
  have happ : (headSpec ws rm).appliesLoose y e.platform (U.calling g mk a) = true :=
    Spec.appliesLoose_calling (g := g) h hdg hn hkY hinitY
      (X.room_calling (g := g) (R' := (headSpec ws rm).room) hsize hmY hcY hframes (by rw [hlY]; omega) h4 h5) h1
  obtain ⟨mid, hmid⟩ := h.above
  have hfr : (U.setTop g).frames = (.java g :: mid) ++ below := by rw [State.frames_setTop' g h.top, hmid]; rfl
  obtain ⟨o, s₂, hsteps, -, hend, hq⟩ := Steps.callFree hM p X.admits X.cas X.clock (acts := []) hfr happ hPc trivial
  have hq' : vx_Q Qc XC mc ms free a (U.calling g mk a) o s₂ := hq
  rw [State.frames_setTop' g h.top] at hend
  obtain ⟨g₀, hg0⟩ := Option.isSome_iff_exists.mp h.top
  obtain ⟨r, hr⟩ := State.topJava?_eq_some.mp hg0
  have hr' : (({ U with heap := s₂.heap, slotsUsed := s₂.slotsUsed } : State).setVm s₂.vm).frames = .java g₀ :: r := hr
  rcases hq' with ⟨hqc, L, hfe, hL⟩ | ⟨q, rfl, E, ce, L, hx, hce, hcv, hcl, hW₂, hsm, hL⟩
  · obtain ⟨⟨v, rfl⟩, hW₂, e2, q2, q3, q4, q5, q6⟩ := id hfe
    have e3 : s₂ = ({ (U.calling g mk a).setFrames s₂.frames with heap := s₂.heap, slotsUsed := s₂.slotsUsed } : State).setVm s₂.vm := by
      have : s₂ = ({ s₂ with vm := (U.calling g mk a).vm } : State).setVm s₂.vm := rfl
      rw [e2] at this
      exact this
    obtain ⟨c₂, i₂, len₂, hc₂, hd₂, hf₂⟩ := hend
    have hW' : U.WarmedH s₂.vm := hW₂
    have hcc : c₂ = c := by
      have h1 : s₂.code? g.method = U.code? g.method := by
        rw [State.code?_eq, State.code?_eq, hW'.alike.method?]
      exact Option.some.inj (hc₂.symm.trans (h1.trans h.code))
    subst hcc
    have hlen : len₂ = len := by rw [hdg] at hd₂; cases hd₂; rfl
    subst hlen
    have hs₂ : s₂ = (({ U with heap := s₂.heap, slotsUsed := s₂.slotsUsed } : State).setVm s₂.vm).setTop { g with pc := g.pc + len₂, stack := v.toList ++ g.stack } := by
      refine e3.trans ?_
      rw [hf₂, State.calling_eq h.top, State.setFrames_setFrames, State.setTop_of_frames _ hr', hr]
      rfl
    have hsame : U.sameButNew ({ U with heap := s₂.heap, slotsUsed := s₂.slotsUsed } : State) L mc ms := by
      refine ⟨?_, q2, q3, q4, q5, q6⟩
      obtain ⟨t, ht, -⟩ := State.frames_cons hr
      show ({ U with heap := s₂.heap, slotsUsed := s₂.slotsUsed } : State) = { U.setFrames U.frames with heap := s₂.heap, slotsUsed := s₂.slotsUsed }
      rw [State.setFrames_self ht]
    subst hg
    refine Or.inl ⟨v, ⟨(({ U with heap := s₂.heap, slotsUsed := s₂.slotsUsed } : State).setVm s₂.vm), Ls ++ L, c0 + mc, s0 + ms⟩,
      ⟨X.admits, X.cas, X.clock, X.frames, X.room, X.hears, X.method, X.code, (X.here.setHeapUsed s₂.heap s₂.slotsUsed).setVm hW'.alike, X.tail, State.WarmedH.trans X.warmed hW', X.limits, X.bytes, X.same.trans (hsame.setVm s.vm)⟩,
      ⟨g, mk, s₂, L, rfl, rfl, hqc, rfl, hL, rfl, rfl⟩, ?_⟩
    show Steps p.tables e below _ ((({ U with heap := s₂.heap, slotsUsed := s₂.slotsUsed } : State).setVm s₂.vm).setTop { g with pc := g.pc + len₂, stack := v.toList ++ g.stack })
    rw [← hs₂]
    exact hsteps
  · obtain ⟨e2, q2, q3, q4, q5, q6⟩ := id hsm
    have e3 : s₂ = ({ (U.calling g mk a).setFrames s₂.frames with heap := s₂.heap, slotsUsed := s₂.slotsUsed } : State).setVm s₂.vm := by
      have : s₂ = ({ s₂ with vm := (U.calling g mk a).vm } : State).setVm s₂.vm := rfl
      rw [e2] at this
      exact this
    have hf₂ : s₂.frames = .throwing q :: .java g :: U.frames.tail := hend
    have hW' : U.WarmedH s₂.vm := hW₂
    have hs₂ : s₂ = ((({ U with heap := s₂.heap, slotsUsed := s₂.slotsUsed } : State).setVm s₂.vm).setTop g).pushFrame (.throwing q) := by
      refine e3.trans ?_
      rw [hf₂, State.calling_eq h.top, State.setFrames_setFrames, State.pushFrame, State.frames_setTop _ hr', State.setTop_of_frames _ hr', State.setFrames_setFrames, hr]
      rfl
    have hsame : U.sameButNew ({ U with heap := s₂.heap, slotsUsed := s₂.slotsUsed } : State) L mc ms := by
      refine ⟨?_, q2, q3, q4, q5, q6⟩
      obtain ⟨t, ht, -⟩ := State.frames_cons hr
      show ({ U with heap := s₂.heap, slotsUsed := s₂.slotsUsed } : State) = { U.setFrames U.frames with heap := s₂.heap, slotsUsed := s₂.slotsUsed }
      rw [State.setFrames_self ht]
    subst hg
    refine Or.inr ⟨q, ⟨(({ U with heap := s₂.heap, slotsUsed := s₂.slotsUsed } : State).setVm s₂.vm), Ls ++ L, c0 + mc, s0 + ms⟩,
      ⟨X.admits, X.cas, X.clock, X.frames, X.room, X.hears, X.method, X.code, (X.here.setHeapUsed s₂.heap s₂.slotsUsed).setVm hW'.alike, X.tail, State.WarmedH.trans X.warmed hW', X.limits, X.bytes, X.same.trans (hsame.setVm s.vm)⟩,
      ⟨g, mk, s₂, L, E, ce, rfl, rfl, hx, hce, hcv, hcl, rfl, hL, rfl, rfl⟩, ?_⟩
    show Steps p.tables e below _ (((({ U with heap := s₂.heap, slotsUsed := s₂.slotsUsed } : State).setVm s₂.vm).setTop g).pushFrame (.throwing q))
    rw [← hs₂]
    exact hsteps
end Payer
section Calls
variable {p : Program} {l : Launch} {e : Env} {R : Room} {s : State} {m : MethodId} {args : Array Value} {below : List Frame} {meth : Method} {c : Code} {T : State} {locs : List Loc} {cells slots : Nat}
theorem vx_callV (X : Stand p l e R s m args below meth c T locs cells slots) (hexec : p.tables.exec = Jvm.exec) {own C : String} {index : Nat} {y : MethodName} {bytes : ByteArray} {maxL : Nat} {ret : Option FieldType}
    (hown : s.vm.findClass own = some m.cls) (hlink : (Cond.methodLink own index y).before args s = true) (hinst : (Cond.instanceMethod y).before args s = true) (hsel : (Cond.selects C y y).before args s = true)
    (hcode : (Cond.code y bytes maxL ret).before args s = true) (hy : y.cls ≠ "java/lang/invoke/MethodHandle" ∧ y.cls ≠ "java/lang/invoke/VarHandle")
    {W9 : Nat} {Pre : Pt → Array Value → Prop} {Post : Pt → Array Value → Option Value → Pt → Prop} {PostX : Pt → Array Value → Addr → Pt → Prop} (hK : vx_Back l R p e below s args y 3 W9 Pre Post PostX)
    {b : Addr} {cellB : Cell} (hcell : T.heap[b]? = some cellB) (hobj : cellB.vm.isStatics = false) (hcls : s.vm.findClass C = some cellB.cls)
    {g : JFrame} (hg : g.method = m) (hsize : g.locals.size = c.maxLocals) {argsL rest : List Value} (hlen : ∀ sig, parseMethodDescriptor y.desc = some sig → argsL.length = sig.parameters.length)
    (hstack : g.stack = argsL.reverse ++ .ref b :: rest) (hW : 2 * g.monitorRoom + (rest.map fun v => v.category).sum ≤ W9) (hdg : decode c.code g.pc = .ok (.invokevirtual index, 3))
    (hpre : ∀ vm₁, s.WarmedH vm₁ → Pre ⟨T.setVm vm₁, locs, cells, slots⟩ (Value.ref b :: argsL).toArray) :
    (∃ (v : Option Value) (vm₁ : Vm) (B : Pt), s.WarmedH vm₁ ∧ Stand p l e R s m args below meth c B.U B.locs B.cells B.slots ∧ Post ⟨T.setVm vm₁, locs, cells, slots⟩ (Value.ref b :: argsL).toArray v B ∧
      ∀ target, Steps p.tables e below (B.U.setTop { g with pc := g.pc + 3, stack := v.toList ++ rest }) target → Steps p.tables e below (T.setTop g) target) ∨
    (∃ (q : Addr) (vm₁ : Vm) (B : Pt), s.WarmedH vm₁ ∧ Stand p l e R s m args below meth c B.U B.locs B.cells B.slots ∧ PostX ⟨T.setVm vm₁, locs, cells, slots⟩ (Value.ref b :: argsL).toArray q B ∧
      Steps p.tables e below (T.setTop g) ((B.U.setTop { g with stack := rest }).pushFrame (.throwing q))) := by
  obtain ⟨mk, methM, hnamed, hmethM, hstM, habM⟩ := Cond.instanceMethod_spec hinst
  obtain ⟨methM', cM, hmethM', -, -, -, -, -, -, hsigM⟩ := Cond.code_spec hnamed hcode
  cases hmethM.symm.trans hmethM'
  obtain ⟨c2, r2, m2, q1, q2, q3, q4, kP, hkP, hkPi⟩ := Cond.selects_spec hsel
  cases hcls.symm.trans q1
  cases (State.methodFound?_of_named hnamed hy).symm.trans q2
  cases hnamed.symm.trans q3
  have hselP : selectMethod e.platform s.vm cellB.cls mk = .method mk := by rw [Launch.admits_selectMethod X.admits]; exact q4
  obtain ⟨vm₁, X₁, hstep₁⟩ := X.invokevirtual hexec hown hlink hnamed hmethM hstM hkP hkPi hy (a := b) (cell := cellB) hcell
    (fun z h => by rw [h] at hobj; cases hobj) hselP hmethM habM hkP hkPi (g := g) hg (argsL := argsL) (rest := rest) (hlen _ hsigM) hstack hdg
  rcases hK m meth c ⟨T.setVm vm₁, locs, cells, slots⟩ { g with stack := rest } (.invokevirtual index) mk (Value.ref b :: argsL).toArray X₁ hg hsize hdg hW (X₁.named hnamed) (hpre vm₁ X₁.warmed) with ⟨v, B, X', hpost, hsteps⟩ | ⟨q, B, X', hpost, hsteps⟩
  · exact Or.inl ⟨v, vm₁, B, X₁.warmed, X', hpost, fun target h => hstep₁ _ fun acts => by rw [doInvoke_state]; exact hsteps.trans h⟩
  · exact Or.inr ⟨q, vm₁, B, X₁.warmed, X', hpost, hstep₁ _ fun acts => by rw [doInvoke_state]; exact hsteps⟩
theorem vx_callS (X : Stand p l e R s m args below meth c T locs cells slots) (hexec : p.tables.exec = Jvm.exec) {own : String} {index : Nat} {y : MethodName} {bytes : ByteArray} {maxL : Nat} {ret : Option FieldType}
    (hown : s.vm.findClass own = some m.cls) (hlink : (Cond.methodLink own index y).before args s = true) (hstat : (Cond.static y).before args s = true) (hinit : (Cond.initialized y.cls).before args s = true)
    (hcode : (Cond.code y bytes maxL ret).before args s = true) (hy : y.cls ≠ "java/lang/invoke/MethodHandle" ∧ y.cls ≠ "java/lang/invoke/VarHandle")
    {W9 : Nat} {Pre : Pt → Array Value → Prop} {Post : Pt → Array Value → Option Value → Pt → Prop} {PostX : Pt → Array Value → Addr → Pt → Prop} (hK : vx_Back l R p e below s args y 3 W9 Pre Post PostX)
    {g : JFrame} (hg : g.method = m) (hsize : g.locals.size = c.maxLocals) {argsL rest : List Value} (hlen : ∀ sig, parseMethodDescriptor y.desc = some sig → argsL.length = sig.parameters.length)
    (hstack : g.stack = argsL.reverse ++ rest) (hW : 2 * g.monitorRoom + (rest.map fun v => v.category).sum ≤ W9) (hdg : decode c.code g.pc = .ok (.invokestatic index, 3))
    (hpre : ∀ vm₁, s.WarmedH vm₁ → Pre ⟨T.setVm vm₁, locs, cells, slots⟩ argsL.toArray) :
    (∃ (v : Option Value) (vm₁ : Vm) (B : Pt), s.WarmedH vm₁ ∧ Stand p l e R s m args below meth c B.U B.locs B.cells B.slots ∧ Post ⟨T.setVm vm₁, locs, cells, slots⟩ argsL.toArray v B ∧
      ∀ target, Steps p.tables e below (B.U.setTop { g with pc := g.pc + 3, stack := v.toList ++ rest }) target → Steps p.tables e below (T.setTop g) target) ∨
    (∃ (q : Addr) (vm₁ : Vm) (B : Pt), s.WarmedH vm₁ ∧ Stand p l e R s m args below meth c B.U B.locs B.cells B.slots ∧ PostX ⟨T.setVm vm₁, locs, cells, slots⟩ argsL.toArray q B ∧
      Steps p.tables e below (T.setTop g) ((B.U.setTop { g with stack := rest }).pushFrame (.throwing q))) := by
  obtain ⟨mk, hnamed⟩ := Cond.code_named hcode
  obtain ⟨methM, cM, hmethM, -, -, -, -, -, -, hsigM⟩ := Cond.code_spec hnamed hcode
  have hstatic : methM.isStatic = true := Cond.static_spec hnamed hmethM hstat
  obtain ⟨kP, hkP, -⟩ := className_of_methodNamed hnamed
  have hinitP : kP.init = .initialized := Cond.initialized_spec (findClass_of_methodNamed hnamed) hkP hinit
  obtain ⟨vm₁, X₁, hstep₁⟩ := X.invokestatic hexec hown hlink hnamed hmethM hstatic hkP hinitP hy (g := g) hg (argsL := argsL) (rest := rest) (hlen _ hsigM) hstack hdg
  rcases hK m meth c ⟨T.setVm vm₁, locs, cells, slots⟩ { g with stack := rest } (.invokestatic index) mk argsL.toArray X₁ hg hsize hdg hW (X₁.named hnamed) (hpre vm₁ X₁.warmed) with ⟨v, B, X', hpost, hsteps⟩ | ⟨q, B, X', hpost, hsteps⟩
  · exact Or.inl ⟨v, vm₁, B, X₁.warmed, X', hpost, fun target h => hstep₁ _ fun acts => by rw [doInvoke_state]; exact hsteps.trans h⟩
  · exact Or.inr ⟨q, vm₁, B, X₁.warmed, X', hpost, hstep₁ _ fun acts => by rw [doInvoke_state]; exact hsteps⟩
end Calls
theorem vx_cls {s : State} {T : State} {vm₁ : Vm} {E : String} {k : ClassId} (hW : s.WarmedH vm₁) (h : (T.setVm vm₁).vm.findClass E = some k) : s.vm.findClass E = some k := by
  have h1 : vm₁.findClass E = some k := h
  rw [hW.alike.findClass] at h1
  exact h1
/-- the method's frame g, with q thrown over it -/
def vx_W (p : Program) (l : Launch) (e : Env) (R : Room) (s : State) (m : MethodId) (args : Array Value) (below : List Frame) (meth : Method) (c : Code) (H : Heap) (locs : List Loc) (cells slots : Nat) (Q : State → Prop) (g : JFrame) (q : Addr) : Prop :=
  ∀ T : State, T.heap = H → Stand p l e R s m args below meth c T locs cells slots → ∃ t, Steps p.tables e below ((T.setTop g).pushFrame (.throwing q)) t ∧ Q t
def vx_Run (p : Program) (l : Launch) (e : Env) (R : Room) (s : State) (m : MethodId) (args : Array Value) (below : List Frame) (meth : Method) (c : Code) (H : Heap) (locs : List Loc) (cells slots mc ms : Nat) (g : JFrame) (rest : List Value) (Qa : State → Outcome → State → Prop) (XC : String → State → State → Prop) (free : Addr → Prop) : Prop :=
  ∀ T : State, T.heap = H → Stand p l e R s m args below meth c T locs cells slots →
    (∃ (v : Option Value) (st₀ t T' : State) (L : List Loc), st₀.heap = H ∧ Stand p l e R s m args below meth c T' (locs ++ L) (cells + mc) (slots + ms) ∧ (∀ q ∈ L, free q.base) ∧ T'.heap = t.heap ∧ T'.vm = t.vm ∧ Qa st₀ (.returned v) t ∧
      Goes p e below T g T' { g with pc := g.pc + 3, stack := v.toList ++ rest }) ∨
    (∃ (q : Addr) (st₀ t T' : State) (L : List Loc) (E : String) (ce : Cell), st₀.heap = H ∧ Stand p l e R s m args below meth c T' (locs ++ L) (cells + mc) (slots + ms) ∧ (∀ z ∈ L, free z.base) ∧ T'.heap = t.heap ∧ T'.vm = t.vm ∧ XC E st₀ t ∧ t.heap[q]? = some ce ∧ ce.vm = .none ∧ s.vm.findClass E = some ce.cls ∧
      Steps p.tables e below (T.setTop g) ((T'.setTop { g with stack := rest }).pushFrame (.throwing q)))
def vx_X {S : Type} (px : S → Prop) (B : String → S → State → Prop) (A : Nat → Prop) : String → State → State → Prop := fun E st t => ∃ u : S, px u ∧ B E u t ∧ va_F A st t
section Runs
variable {p : Program} {l : Launch} {e : Env} {R : Room} {s : State} {m : MethodId} {args : Array Value} {below : List Frame} {meth : Method} {c : Code} {H : Heap} {locs : List Loc} {cells slots : Nat}
variable {y : MethodName} {bytes cc : ByteArray} {maxL nL mc ms n index : Nat} {ret : Option FieldType} {ws : List Cond} {rm : Room} {Pc : Array Value → State → Prop} {Qc : Array Value → State → Outcome → State → Prop} {XC : String → State → State → Prop} {free : Addr → Prop} {Ts : List Cond} {own C : String} {b : Addr} {As rest : List Value} {g : JFrame}
theorem vx_callBack (cb : CallB R s args own index y bytes maxL ret ws rm mc ms n) (hM : vx_Met l y ws rm Pc Qc XC mc ms free) (hbl : FrameBlind Pc) : vx_Back l R p e below s args y 3 8 (PreOf R mc ms Pc) (PostOf Qc mc ms free) (vx_Post XC mc ms free) := by
  obtain ⟨hrc, hrs, hfr, hlo, hws, hcw, -, hini, -⟩ := cb
  exact vx_back (bytes := bytes) (maxL := maxL) (ret := ret) hM hbl hrc hrs hfr hlo hws hcw (fun a' U hW => word_at hW (Or.inl (by first | rfl | simp [Cond.onTables, Cond.keeps, Cond.steady])) hini)
theorem vx_runV (S : CallFix p m c cc nL s args Ts own) (hM : vx_Met l y ws rm Pc Qc XC mc ms free) (cw : CallW R s args own C index y bytes maxL ret ws rm mc ms n) (hp : PreV s H C b Pc As)
    (hg : g.method = m) (hn : As.length = n) (hsize : g.locals.size = nL) (hstack : g.stack = As.reverse ++ .ref b :: rest) (hW : 2 * g.monitorRoom + (rest.map fun v => v.category).sum ≤ 8) (hdg : decode cc g.pc = .ok (.invokevirtual index, 3)) (hf : cells + mc ≤ R.cells ∧ slots + ms ≤ R.slots) :
    vx_Run p l e R s m args below meth c H locs cells slots mc ms g rest (Qc (Value.ref b :: As).toArray) XC free := by
  have hK : vx_Back l R p e below s args y 3 8 (PreOf R mc ms Pc) (PostOf Qc mc ms free) (vx_Post XC mc ms free) := vx_callBack cw.1 hM hp.1
  obtain ⟨⟨-, -, -, -, -, -, hcode, -, hy, hlen, hl⟩, hin, hse⟩ := cw
  obtain ⟨hx, hb, hml, ho, -⟩ := S
  obtain ⟨-, ⟨cellB, hcB, hoB, hclB⟩, hPc⟩ := hp
  intro T hT X
  rcases vx_callV X hx (C := C) (bytes := bytes) (maxL := maxL) (ret := ret) ho hl hin hse hcode hy hK (by rw [hT]; exact hcB) hoB hclB hg (hsize.trans hml.symm) (argsL := As) (rest := rest) (fun sig h => hn.trans (hlen sig h)) hstack hW (by rw [hb]; exact hdg)
    (fun vm₁ hW₁ => ⟨hf.1, hf.2, hPc (T.setVm vm₁) hT hW₁⟩) with ⟨v, vm₁, ⟨U', l2, c2, s2⟩, hW₁, X', ⟨g', mk, t, L, e1, e2, hq, h1, hL, h2, h3⟩, st⟩ | ⟨q, vm₁, ⟨U', l2, c2, s2⟩, hW₁, X', ⟨g', mk, t, L, E, ce, e1, e2, hq, hce, hcv, hcl, h1, hL, h2, h3⟩, st⟩
  · dsimp only [Pt.U, Pt.locs, Pt.cells, Pt.slots] at X' e1 e2 h1 h2 h3 st
    subst h1; subst h2; subst h3
    exact Or.inl ⟨v, (T.setVm vm₁).calling g' mk (Value.ref b :: As).toArray, t, U', L, hT, X', hL, e1, e2, hq, st⟩
  · dsimp only [Pt.U, Pt.locs, Pt.cells, Pt.slots] at X' e1 e2 h1 h2 h3 st hcl
    subst h1; subst h2; subst h3
    exact Or.inr ⟨q, (T.setVm vm₁).calling g' mk (Value.ref b :: As).toArray, t, U', L, E, ce, hT, X', hL, e1, e2, hq, hce, hcv, vx_cls hW₁ hcl, st⟩
theorem vx_runS (S : CallFix p m c cc nL s args Ts own) (hM : vx_Met l y ws rm Pc Qc XC mc ms free) (cw : CallB R s args own index y bytes maxL ret ws rm mc ms n ∧ (Cond.static y).before args s = true) (hp : PreS s H Pc As)
    (hg : g.method = m) (hn : As.length = n) (hsize : g.locals.size = nL) (hstack : g.stack = As.reverse ++ rest) (hW : 2 * g.monitorRoom + (rest.map fun v => v.category).sum ≤ 8) (hdg : decode cc g.pc = .ok (.invokestatic index, 3)) (hf : cells + mc ≤ R.cells ∧ slots + ms ≤ R.slots) :
    vx_Run p l e R s m args below meth c H locs cells slots mc ms g rest (Qc As.toArray) XC free := by
  have hK : vx_Back l R p e below s args y 3 8 (PreOf R mc ms Pc) (PostOf Qc mc ms free) (vx_Post XC mc ms free) := vx_callBack cw.1 hM hp.1
  obtain ⟨⟨-, -, -, -, -, -, hcode, hini, hy, hlen, hl⟩, hstt⟩ := cw
  obtain ⟨hx, hb, hml, ho, -⟩ := S
  intro T hT X
  rcases vx_callS X hx (bytes := bytes) (maxL := maxL) (ret := ret) ho hl hstt hini hcode hy hK hg (hsize.trans hml.symm) (argsL := As) (rest := rest) (fun sig h => hn.trans (hlen sig h)) hstack hW (by rw [hb]; exact hdg)
    (fun vm₁ hW₁ => ⟨hf.1, hf.2, hp.2 (T.setVm vm₁) hT hW₁⟩) with ⟨v, vm₁, ⟨U', l2, c2, s2⟩, hW₁, X', ⟨g', mk, t, L, e1, e2, hq, h1, hL, h2, h3⟩, st⟩ | ⟨q, vm₁, ⟨U', l2, c2, s2⟩, hW₁, X', ⟨g', mk, t, L, E, ce, e1, e2, hq, hce, hcv, hcl, h1, hL, h2, h3⟩, st⟩
  · dsimp only [Pt.U, Pt.locs, Pt.cells, Pt.slots] at X' e1 e2 h1 h2 h3 st
    subst h1; subst h2; subst h3
    exact Or.inl ⟨v, (T.setVm vm₁).calling g' mk As.toArray, t, U', L, hT, X', hL, e1, e2, hq, st⟩
  · dsimp only [Pt.U, Pt.locs, Pt.cells, Pt.slots] at X' e1 e2 h1 h2 h3 st hcl
    subst h1; subst h2; subst h3
    exact Or.inr ⟨q, (T.setVm vm₁).calling g' mk As.toArray, t, U', L, E, ce, hT, X', hL, e1, e2, hq, hce, hcv, vx_cls hW₁ hcl, st⟩
end Runs
section Rows
variable {p : Program} {l : Launch} {e : Env} {R : Room} {s : State} {m : MethodId} {args : Array Value} {below : List Frame} {meth : Method} {c : Code} {H : Heap} {locs : List Loc} {cells slots : Nat} {Q : State → Prop}
variable {mc ms : Nat} {free : Addr → Prop} {A0 A1 : Nat → Prop} {H0 : Heap} {a : Array Value} {pc : Nat} {ls : Array Slot} {st0 rest : List Value}
theorem vx_keep {st₀ t T' : State} {L : List Loc} (h0 : st₀.heap = H) (e1 : T'.heap = t.heap) (hS : va_S A0 H0 H locs) (hA : ∀ q, q < H.size → A1 q → A0 q) (hf : ∀ q, free q → A0 q) (hL : ∀ q ∈ L, free q.base) (hF : va_F A1 st₀ t) :
    H.size ≤ T'.heap.size ∧ (∀ q : Nat, q < H.size → ¬ A1 q → T'.heap[q]? = H[q]?) ∧ va_S A0 H0 T'.heap (locs ++ L) := by
  obtain ⟨hz, hk⟩ := hF
  rw [h0] at hz hk
  exact ⟨by rw [e1]; exact hz, fun q h1 h2 => by rw [e1]; exact hk q h1 h2,
    ⟨Nat.le_trans hS.1 (by rw [e1]; exact hz), fun q h1 h2 => by rw [e1, hk q (Nat.lt_of_lt_of_le h1 hS.1) (fun z => h2 (hA q (Nat.lt_of_lt_of_le h1 hS.1) z))]; exact hS.2.1 q h1 h2, fun q hq => by
      rcases List.mem_append.mp hq with h | h
      · exact hS.2.2 q h
      · exact hf _ (hL q h)⟩⟩
theorem vx_calli {S SX : Type} {post : Int32 → S → Prop} {px : SX → Prop} {B : S → State → Prop} {BX : String → SX → State → Prop} {AX : Nat → Prop} (hr : vx_Run p l e R s m args below meth c H locs cells slots mc ms (F0 m pc ls st0) rest (va_Qi post B A1 a) (vx_X px BX AX) free) (hS : va_S A0 H0 H locs) (hA : ∀ q, q < H.size → A1 q → A0 q) (hf : ∀ q, free q → A0 q) (hAX : ∀ q, q < H.size → AX q → A0 q)
    (kx : ∀ (E : String) (ce : Cell) (q9 : Addr) (u : SX) (t : State) (H1 : Heap) (locs1 : List Loc), t.heap = H1 → s.vm.Alike t.vm → px u → BX E u t → H.size ≤ H1.size → (∀ q : Nat, q < H.size → ¬ AX q → H1[q]? = H[q]?) → va_S A0 H0 H1 locs1 → H1[q9]? = some ce → ce.vm = .none → s.vm.findClass E = some ce.cls → vx_W p l e R s m args below meth c H1 locs1 (cells + mc) (slots + ms) Q (F0 m pc ls rest) q9)
    (kk : ∀ (r : Int32) (u : S) (t : State) (H1 : Heap) (locs1 : List Loc), t.heap = H1 → s.vm.Alike t.vm → post r u → B u t → H.size ≤ H1.size → (∀ q : Nat, q < H.size → ¬ A1 q → H1[q]? = H[q]?) → va_S A0 H0 H1 locs1 → W p l e R s m args below meth c H1 locs1 (cells + mc) (slots + ms) Q (F0 m (pc + 3) ls (.int r :: rest))) : W p l e R s m args below meth c H locs cells slots Q (F0 m pc ls st0) := by
  intro T hT X
  rcases hr T hT X with ⟨v, st₀, t, T', L, h0, X', hL, e1, e2, ⟨⟨r, u, hv, hp, hb⟩, hF⟩, st⟩ | ⟨q, st₀, t, T', L, E, ce, h0, X', hL, e1, e2, ⟨u, hp, hb, hF⟩, hce, hcv, hcl, st⟩
  · cases hv
    obtain ⟨k1, k2, k3⟩ := vx_keep h0 e1 hS hA hf hL hF
    obtain ⟨t2, a1, b1⟩ := kk r u t T'.heap (locs ++ L) e1.symm (by rw [← e2]; exact X'.warmed.alike) hp hb k1 k2 k3 T' rfl X'
    exact ⟨t2, st t2 a1, b1⟩
  · obtain ⟨k1, k2, k3⟩ := vx_keep h0 e1 hS hAX hf hL hF
    obtain ⟨t2, a1, b1⟩ := kx E ce q u t T'.heap (locs ++ L) e1.symm (by rw [← e2]; exact X'.warmed.alike) hp hb k1 k2 k3 (by rw [e1]; exact hce) hcv hcl T' rfl X'
    exact ⟨t2, st.trans a1, b1⟩
theorem vx_calll {S SX : Type} {post : Int64 → S → Prop} {px : SX → Prop} {B : S → State → Prop} {BX : String → SX → State → Prop} {AX : Nat → Prop} (hr : vx_Run p l e R s m args below meth c H locs cells slots mc ms (F0 m pc ls st0) rest (va_Ql post B A1 a) (vx_X px BX AX) free) (hS : va_S A0 H0 H locs) (hA : ∀ q, q < H.size → A1 q → A0 q) (hf : ∀ q, free q → A0 q) (hAX : ∀ q, q < H.size → AX q → A0 q)
    (kx : ∀ (E : String) (ce : Cell) (q9 : Addr) (u : SX) (t : State) (H1 : Heap) (locs1 : List Loc), t.heap = H1 → s.vm.Alike t.vm → px u → BX E u t → H.size ≤ H1.size → (∀ q : Nat, q < H.size → ¬ AX q → H1[q]? = H[q]?) → va_S A0 H0 H1 locs1 → H1[q9]? = some ce → ce.vm = .none → s.vm.findClass E = some ce.cls → vx_W p l e R s m args below meth c H1 locs1 (cells + mc) (slots + ms) Q (F0 m pc ls rest) q9)
    (kk : ∀ (r : Int64) (u : S) (t : State) (H1 : Heap) (locs1 : List Loc), t.heap = H1 → s.vm.Alike t.vm → post r u → B u t → H.size ≤ H1.size → (∀ q : Nat, q < H.size → ¬ A1 q → H1[q]? = H[q]?) → va_S A0 H0 H1 locs1 → W p l e R s m args below meth c H1 locs1 (cells + mc) (slots + ms) Q (F0 m (pc + 3) ls (.long r :: rest))) : W p l e R s m args below meth c H locs cells slots Q (F0 m pc ls st0) := by
  intro T hT X
  rcases hr T hT X with ⟨v, st₀, t, T', L, h0, X', hL, e1, e2, ⟨⟨r, u, hv, hp, hb⟩, hF⟩, st⟩ | ⟨q, st₀, t, T', L, E, ce, h0, X', hL, e1, e2, ⟨u, hp, hb, hF⟩, hce, hcv, hcl, st⟩
  · cases hv
    obtain ⟨k1, k2, k3⟩ := vx_keep h0 e1 hS hA hf hL hF
    obtain ⟨t2, a1, b1⟩ := kk r u t T'.heap (locs ++ L) e1.symm (by rw [← e2]; exact X'.warmed.alike) hp hb k1 k2 k3 T' rfl X'
    exact ⟨t2, st t2 a1, b1⟩
  · obtain ⟨k1, k2, k3⟩ := vx_keep h0 e1 hS hAX hf hL hF
    obtain ⟨t2, a1, b1⟩ := kx E ce q u t T'.heap (locs ++ L) e1.symm (by rw [← e2]; exact X'.warmed.alike) hp hb k1 k2 k3 (by rw [e1]; exact hce) hcv hcl T' rfl X'
    exact ⟨t2, st.trans a1, b1⟩
theorem vx_callf {S SX : Type} {post : UInt32 → S → Prop} {px : SX → Prop} {B : S → State → Prop} {BX : String → SX → State → Prop} {AX : Nat → Prop} (hr : vx_Run p l e R s m args below meth c H locs cells slots mc ms (F0 m pc ls st0) rest (va_Qf post B A1 a) (vx_X px BX AX) free) (hS : va_S A0 H0 H locs) (hA : ∀ q, q < H.size → A1 q → A0 q) (hf : ∀ q, free q → A0 q) (hAX : ∀ q, q < H.size → AX q → A0 q)
    (kx : ∀ (E : String) (ce : Cell) (q9 : Addr) (u : SX) (t : State) (H1 : Heap) (locs1 : List Loc), t.heap = H1 → s.vm.Alike t.vm → px u → BX E u t → H.size ≤ H1.size → (∀ q : Nat, q < H.size → ¬ AX q → H1[q]? = H[q]?) → va_S A0 H0 H1 locs1 → H1[q9]? = some ce → ce.vm = .none → s.vm.findClass E = some ce.cls → vx_W p l e R s m args below meth c H1 locs1 (cells + mc) (slots + ms) Q (F0 m pc ls rest) q9)
    (kk : ∀ (r : UInt32) (u : S) (t : State) (H1 : Heap) (locs1 : List Loc), t.heap = H1 → s.vm.Alike t.vm → post r u → B u t → H.size ≤ H1.size → (∀ q : Nat, q < H.size → ¬ A1 q → H1[q]? = H[q]?) → va_S A0 H0 H1 locs1 → W p l e R s m args below meth c H1 locs1 (cells + mc) (slots + ms) Q (F0 m (pc + 3) ls (.float r :: rest))) : W p l e R s m args below meth c H locs cells slots Q (F0 m pc ls st0) := by
  intro T hT X
  rcases hr T hT X with ⟨v, st₀, t, T', L, h0, X', hL, e1, e2, ⟨⟨r, u, hv, hp, hb⟩, hF⟩, st⟩ | ⟨q, st₀, t, T', L, E, ce, h0, X', hL, e1, e2, ⟨u, hp, hb, hF⟩, hce, hcv, hcl, st⟩
  · cases hv
    obtain ⟨k1, k2, k3⟩ := vx_keep h0 e1 hS hA hf hL hF
    obtain ⟨t2, a1, b1⟩ := kk r u t T'.heap (locs ++ L) e1.symm (by rw [← e2]; exact X'.warmed.alike) hp hb k1 k2 k3 T' rfl X'
    exact ⟨t2, st t2 a1, b1⟩
  · obtain ⟨k1, k2, k3⟩ := vx_keep h0 e1 hS hAX hf hL hF
    obtain ⟨t2, a1, b1⟩ := kx E ce q u t T'.heap (locs ++ L) e1.symm (by rw [← e2]; exact X'.warmed.alike) hp hb k1 k2 k3 (by rw [e1]; exact hce) hcv hcl T' rfl X'
    exact ⟨t2, st.trans a1, b1⟩
theorem vx_calld {S SX : Type} {post : UInt64 → S → Prop} {px : SX → Prop} {B : S → State → Prop} {BX : String → SX → State → Prop} {AX : Nat → Prop} (hr : vx_Run p l e R s m args below meth c H locs cells slots mc ms (F0 m pc ls st0) rest (va_Qd post B A1 a) (vx_X px BX AX) free) (hS : va_S A0 H0 H locs) (hA : ∀ q, q < H.size → A1 q → A0 q) (hf : ∀ q, free q → A0 q) (hAX : ∀ q, q < H.size → AX q → A0 q)
    (kx : ∀ (E : String) (ce : Cell) (q9 : Addr) (u : SX) (t : State) (H1 : Heap) (locs1 : List Loc), t.heap = H1 → s.vm.Alike t.vm → px u → BX E u t → H.size ≤ H1.size → (∀ q : Nat, q < H.size → ¬ AX q → H1[q]? = H[q]?) → va_S A0 H0 H1 locs1 → H1[q9]? = some ce → ce.vm = .none → s.vm.findClass E = some ce.cls → vx_W p l e R s m args below meth c H1 locs1 (cells + mc) (slots + ms) Q (F0 m pc ls rest) q9)
    (kk : ∀ (r : UInt64) (u : S) (t : State) (H1 : Heap) (locs1 : List Loc), t.heap = H1 → s.vm.Alike t.vm → post r u → B u t → H.size ≤ H1.size → (∀ q : Nat, q < H.size → ¬ A1 q → H1[q]? = H[q]?) → va_S A0 H0 H1 locs1 → W p l e R s m args below meth c H1 locs1 (cells + mc) (slots + ms) Q (F0 m (pc + 3) ls (.double r :: rest))) : W p l e R s m args below meth c H locs cells slots Q (F0 m pc ls st0) := by
  intro T hT X
  rcases hr T hT X with ⟨v, st₀, t, T', L, h0, X', hL, e1, e2, ⟨⟨r, u, hv, hp, hb⟩, hF⟩, st⟩ | ⟨q, st₀, t, T', L, E, ce, h0, X', hL, e1, e2, ⟨u, hp, hb, hF⟩, hce, hcv, hcl, st⟩
  · cases hv
    obtain ⟨k1, k2, k3⟩ := vx_keep h0 e1 hS hA hf hL hF
    obtain ⟨t2, a1, b1⟩ := kk r u t T'.heap (locs ++ L) e1.symm (by rw [← e2]; exact X'.warmed.alike) hp hb k1 k2 k3 T' rfl X'
    exact ⟨t2, st t2 a1, b1⟩
  · obtain ⟨k1, k2, k3⟩ := vx_keep h0 e1 hS hAX hf hL hF
    obtain ⟨t2, a1, b1⟩ := kx E ce q u t T'.heap (locs ++ L) e1.symm (by rw [← e2]; exact X'.warmed.alike) hp hb k1 k2 k3 (by rw [e1]; exact hce) hcv hcl T' rfl X'
    exact ⟨t2, st.trans a1, b1⟩
theorem vx_callv {S SX : Type} {post : S → Prop} {px : SX → Prop} {B : S → State → Prop} {BX : String → SX → State → Prop} {AX : Nat → Prop} (hr : vx_Run p l e R s m args below meth c H locs cells slots mc ms (F0 m pc ls st0) rest (va_Qv post B A1 a) (vx_X px BX AX) free) (hS : va_S A0 H0 H locs) (hA : ∀ q, q < H.size → A1 q → A0 q) (hf : ∀ q, free q → A0 q) (hAX : ∀ q, q < H.size → AX q → A0 q)
    (kx : ∀ (E : String) (ce : Cell) (q9 : Addr) (u : SX) (t : State) (H1 : Heap) (locs1 : List Loc), t.heap = H1 → s.vm.Alike t.vm → px u → BX E u t → H.size ≤ H1.size → (∀ q : Nat, q < H.size → ¬ AX q → H1[q]? = H[q]?) → va_S A0 H0 H1 locs1 → H1[q9]? = some ce → ce.vm = .none → s.vm.findClass E = some ce.cls → vx_W p l e R s m args below meth c H1 locs1 (cells + mc) (slots + ms) Q (F0 m pc ls rest) q9)
    (kk : ∀ (u : S) (t : State) (H1 : Heap) (locs1 : List Loc), t.heap = H1 → s.vm.Alike t.vm → post u → B u t → H.size ≤ H1.size → (∀ q : Nat, q < H.size → ¬ A1 q → H1[q]? = H[q]?) → va_S A0 H0 H1 locs1 → W p l e R s m args below meth c H1 locs1 (cells + mc) (slots + ms) Q (F0 m (pc + 3) ls (rest))) : W p l e R s m args below meth c H locs cells slots Q (F0 m pc ls st0) := by
  intro T hT X
  rcases hr T hT X with ⟨v, st₀, t, T', L, h0, X', hL, e1, e2, ⟨⟨u, hv, hp, hb⟩, hF⟩, st⟩ | ⟨q, st₀, t, T', L, E, ce, h0, X', hL, e1, e2, ⟨u, hp, hb, hF⟩, hce, hcv, hcl, st⟩
  · cases hv
    obtain ⟨k1, k2, k3⟩ := vx_keep h0 e1 hS hA hf hL hF
    obtain ⟨t2, a1, b1⟩ := kk u t T'.heap (locs ++ L) e1.symm (by rw [← e2]; exact X'.warmed.alike) hp hb k1 k2 k3 T' rfl X'
    exact ⟨t2, st t2 a1, b1⟩
  · obtain ⟨k1, k2, k3⟩ := vx_keep h0 e1 hS hAX hf hL hF
    obtain ⟨t2, a1, b1⟩ := kx E ce q u t T'.heap (locs ++ L) e1.symm (by rw [← e2]; exact X'.warmed.alike) hp hb k1 k2 k3 (by rw [e1]; exact hce) hcv hcl T' rfl X'
    exact ⟨t2, st.trans a1, b1⟩
end Rows
section Ends
variable {p : Program} {l : Launch} {e : Env} {R : Room} {s : State} {m : MethodId} {args : Array Value} {below : List Frame} {meth : Method} {c : Code} {H : Heap} {locs : List Loc} {cells slots : Nat} {Q : State → Prop}
variable {mc ms : Nat} {free : Addr → Prop} {A0 A1 : Nat → Prop} {H0 : Heap} {a : Array Value} {ls : Array Slot} {st0 rest : List Value}
variable {Qc : Array Value → State → Outcome → State → Prop} {XC : String → State → State → Prop}
/-- what a body that may throw owes at its end -/
def vx_MQ (below : List Frame) (Qc : Array Value → State → Outcome → State → Prop) (XC : String → State → State → Prop) (a : Array Value) (s : State) (mc ms : Nat) (free : Addr → Prop) : State → Prop := fun t =>
  ∃ o, t.status = .running ∧ Ended t below o ∧ vx_Q Qc XC mc ms free a s o t
theorem vx_ret {g : JFrame} {mc ms : Nat} (k : W p l e R s m args below meth c H locs cells slots (MQ below Qc args s mc ms free) g) : W p l e R s m args below meth c H locs cells slots (vx_MQ below Qc XC args s mc ms free) g := by
  intro T hT X
  obtain ⟨t, a1, o, b1, b2, b3, b4⟩ := k T hT X
  exact ⟨t, a1, o, b1, b2, Or.inl ⟨b3, b4⟩⟩
/-- not caught here: it goes on to the caller -/
theorem vx_widen {g : JFrame} {q : Addr} {k n : Nat} (h1 : cells ≤ k) (h2 : slots ≤ n) (kk : vx_W p l e R s m args below meth c H locs k n Q g q) : vx_W p l e R s m args below meth c H locs cells slots Q g q := fun T hT X => kk T hT (stand_widen X h1 h2)
theorem vx_out {pc : Nat} {E : String} {ce : Cell} {q : Addr} {mc ms : Nat} (hout : ∀ x ∈ c.exceptionTable.toList, covers x pc = false) (hlocks : meth.locks = false) (hcell : H[q]? = some ce) (hv : ce.vm = .none) (hcl : s.vm.findClass E = some ce.cls)
    (hx : ∀ t : State, t.heap = H → s.vm.Alike t.vm → XC E s t) (hf : ∀ z ∈ locs, free z.base) (hc : cells ≤ mc) (hs : slots ≤ ms) :
    vx_W p l e R s m args below meth c H locs cells slots (vx_MQ below Qc XC args s mc ms free) (F0 m pc ls rest) q := by
  intro T hT X
  obtain ⟨st1, hrun, hend, hW, hsm⟩ := X.leaveThrown q (g := F0 m pc ls rest) rfl rfl rfl hout hlocks
  have hcell9 : (T.setFrames (.throwing q :: below)).heap[q]? = some ce := by
    show T.heap[q]? = some ce
    rw [hT]; exact hcell
  exact ⟨_, st1, .threw q, hrun, hend, Or.inr ⟨q, rfl, E, ce, locs, hx _ hT hW.alike, hcell9, hv, hcl, hW, hsm.mono hc hs, hf⟩⟩
theorem vx_frame {U : State} {k n : Nat} (h : s.sameButNew ({ U with vm := s.vm } : State) locs k n) : s.heap.size ≤ U.heap.size ∧ ∀ q : Nat, q < s.heap.size → (∀ z ∈ locs, z.base ≠ q) → U.heap[q]? = s.heap[q]? := by
  obtain ⟨-, h2, -, -, -, h6⟩ := h
  refine ⟨h2, fun q hq hz => ?_⟩
  obtain ⟨c9, e1, e2, e3, e4⟩ := h6 q _ (Array.getElem?_eq_getElem hq)
  have hs : c9.slots = (s.heap[q]).slots := Array.ext_getElem? fun i => e4 i fun hm => hz _ hm rfl
  have h9 : c9 = s.heap[q] := by
    rw [hs] at e2
    exact e2
  have e5 : U.heap[q]? = some c9 := e1
  rw [e5, h9, Array.getElem?_eq_getElem hq]
/-- the words of a throw but the four that speak of the heap -/
def vx_no (w : Cond) : Bool := decide (w ≠ .isRef (.static Bundle.tN "UNASSIGNED_STACK" Bundle.steD)) && decide (w ≠ .isRef (.static Bundle.tN "SUPPRESSED_SENTINEL" Bundle.listD)) && decide (w ≠ .laysStatic Bundle.tN "UNASSIGNED_STACK" Bundle.steD) && decide (w ≠ .laysStatic Bundle.tN "SUPPRESSED_SENTINEL" Bundle.listD)
def vx_at0 (own : String) (ic : Nat) (X : String) (names : List String) : List Cond := (Bundle.ownAtoms0 own ic X names).filter vx_no
def vx_atS (own : String) (ic : Nat) (X : String) (names : List String) : List Cond := (Bundle.ownAtoms own ic X names).filter vx_no
/-- a word that the tables alone decide, or a good one -/
def vx_ot (w : Cond) : Bool := w.onTables || goodWord w
theorem vx_ot_at {args a' : Array Value} {s U : State} {w : Cond} (hW : s.WarmedH U.vm) (hvm : s.vm = U.vm) (hg : vx_ot w = true) (h : w.before args s = true) : w.before a' U = true := by
  simp only [vx_ot, Bool.or_eq_true] at hg
  rcases hg with hg | hg
  · exact va_tabs hg hvm h
  · exact word_at hW (good_of_word hg) h
/-- a list's words: the good ones out of the method's own list, the others by premises of their own -/
theorem vx_hat {args : Array Value} {s : State} {L B : List Cond} (h1 : ∀ w ∈ L.filter goodWord, w.before args s = true) (h2 : ∀ w ∈ L.filter (fun w => !goodWord w), w ∈ B) (h3 : ∀ w ∈ B, w.before args s = true) : ∀ w ∈ L, w.before args s = true := by
  intro w hw
  by_cases g : goodWord w = true
  · exact h1 w (List.mem_filter.mpr ⟨hw, g⟩)
  · refine h3 w (h2 w (List.mem_filter.mpr ⟨hw, ?_⟩))
    show (!goodWord w) = true
    cases hgw : goodWord w
    · rfl
    · exact absurd hgw g
theorem vx_c {args : Array Value} {s : State} {w : Cond} {B : List Cond} (h : w.before args s = true) (t : ∀ w ∈ B, w.before args s = true) : ∀ w' ∈ w :: B, w'.before args s = true := fun w' h' => (List.mem_cons.mp h').elim (fun e => by rw [e]; exact h) (t w')
theorem vx_n {args : Array Value} {s : State} : ∀ w ∈ ([] : List Cond), w.before args s = true := fun _ h => nomatch h
theorem vx_own {args : Array Value} {s : State} {L : List Cond} (h1 : ∀ w ∈ L.filter vx_no, w.before args s = true)
    (hU : (Cond.isRef (.static Bundle.tN "UNASSIGNED_STACK" Bundle.steD)).before args s = true) (hN : (Cond.isRef (.static Bundle.tN "SUPPRESSED_SENTINEL" Bundle.listD)).before args s = true)
    (lU : (Cond.laysStatic Bundle.tN "UNASSIGNED_STACK" Bundle.steD).before args s = true) (lN : (Cond.laysStatic Bundle.tN "SUPPRESSED_SENTINEL" Bundle.listD).before args s = true) : ∀ w ∈ L, w.before args s = true := by
  intro w hw
  by_cases e1 : w = .isRef (.static Bundle.tN "UNASSIGNED_STACK" Bundle.steD)
  · rw [e1]; exact hU
  · by_cases e2 : w = .isRef (.static Bundle.tN "SUPPRESSED_SENTINEL" Bundle.listD)
    · rw [e2]; exact hN
    · by_cases e3 : w = .laysStatic Bundle.tN "UNASSIGNED_STACK" Bundle.steD
      · rw [e3]; exact lU
      · by_cases e4 : w = .laysStatic Bundle.tN "SUPPRESSED_SENTINEL" Bundle.listD
        · rw [e4]; exact lN
        · exact h1 w (List.mem_filter.mpr ⟨hw, by unfold vx_no; rw [decide_eq_true e1, decide_eq_true e2, decide_eq_true e3, decide_eq_true e4]; rfl⟩)
/-- where a static field lies, its class's statics cell in H -/
def vx_L (C n d : String) (A : Nat → Prop) (U : State) (H : Heap) : Prop := ∃ (c : ClassId) (k : Class) (i : Nat) (f : Field) (a : Nat) (cell : Cell), U.vm.findClass C = some c ∧ U.fieldFound? C n d = some (c, k, i, f) ∧ f.isStatic = true ∧ k.statics = some a ∧ H[a]? = some cell ∧ cell.vm.isStatics = true ∧ cell.cls = c ∧ f.slot < cell.slots.size ∧ k.staticTypes[f.slot]? = some f.type ∧ ¬ A a
theorem vx_L.moved {C n d : String} {A : Nat → Prop} {u U : State} {H : Heap} (hvm : u.vm.Alike U.vm) (h : vx_L C n d A u H) : vx_L C n d A U H := by
  obtain ⟨c, k, i, f, a, cell, h1, h2, h3, h4, h5, h6, h7, h8, h9, h10⟩ := h
  obtain ⟨k', hi', he⟩ := State.fieldFound?_setVm hvm h2
  exact ⟨c, k', i, f, a, cell, by rw [hvm.findClass]; exact h1, hi', h3, by rw [he]; exact h4, h5, h6, h7, h8, by rw [he]; exact h9, h10⟩
theorem vx_L.kept {C n d : String} {A : Nat → Prop} {U : State} {H H1 : Heap} (h : vx_L C n d A U H) (hq : ∀ a : Nat, a < H.size → ¬ A a → H1[a]? = H[a]?) : vx_L C n d A U H1 := by
  obtain ⟨c, k, i, f, a, cell, h1, h2, h3, h4, h5, h6, h7, h8, h9, h10⟩ := h
  exact ⟨c, k, i, f, a, cell, h1, h2, h3, h4, by rw [hq a (Array.getElem?_eq_some_iff.mp h5).1 h10]; exact h5, h6, h7, h8, h9, h10⟩
theorem vx_L.narrow {C n d : String} {A B : Nat → Prop} {U : State} {H : Heap} (h : vx_L C n d A U H) (hAB : ∀ q, B q → A q) : vx_L C n d B U H := by
  obtain ⟨c, k, i, f, a, cell, h1, h2, h3, h4, h5, h6, h7, h8, h9, h10⟩ := h
  exact ⟨c, k, i, f, a, cell, h1, h2, h3, h4, h5, h6, h7, h8, h9, fun z => h10 (hAB _ z)⟩
theorem vx_L.word {C n d : String} {A : Nat → Prop} {s : State} {args : Array Value} (h : vx_L C n d A s s.heap) : (Cond.laysStatic C n d).before args s = true := by
  obtain ⟨c, k, i, f, a, cell, h1, h2, h3, h4, h5, h6, h7, h8, h9, -⟩ := h
  show (Cond.laysStatic C n d).holds args s none s [] = true
  exact Cond.laysStatic_of h1 h2 h3 h4 h5 h6 h7 h8 h9
/-- .. and what it holds: null or some reference -/
def vx_Zq (C n d : String) (A : Nat → Prop) (U : State) (H : Heap) : Prop := va_Zq C n d A U H ∧ vx_L C n d A U H
theorem vx_Zq.moved {C n d : String} {A : Nat → Prop} {u U : State} {H : Heap} (hvm : u.vm.Alike U.vm) (h : vx_Zq C n d A u H) : vx_Zq C n d A U H := ⟨va_Zq.moved hvm h.1, vx_L.moved hvm h.2⟩
theorem vx_Zq.kept {C n d : String} {A : Nat → Prop} {U : State} {H H1 : Heap} (h : vx_Zq C n d A U H) (hq : ∀ a : Nat, a < H.size → ¬ A a → H1[a]? = H[a]?) : vx_Zq C n d A U H1 := ⟨va_Zq.kept h.1 hq, vx_L.kept h.2 hq⟩
theorem vx_Zq.narrow {C n d : String} {A B : Nat → Prop} {U : State} {H : Heap} (h : vx_Zq C n d A U H) (hAB : ∀ q, B q → A q) : vx_Zq C n d B U H := ⟨va_Zq.narrow h.1 hAB, vx_L.narrow h.2 hAB⟩
theorem vx_Zqof {args : Array Value} {s : State} {C n d : String} {A : Nat → Prop} (hl : (Cond.laysStatic C n d).before args s = true) (hini : (Cond.initialized C).before args s = true) (h : (Cond.isRef (.static C n d)).before args s = true) (hA : ∀ a : Nat, a < s.heap.size → ¬ A a) : vx_Zq C n d A s s.heap := by
  refine ⟨va_Zqof hl hini h hA, ?_⟩
  obtain ⟨c, k, i, f, a, cell, h1, h2, h3, h4, h5, h6, h7, h8, h9⟩ := Cond.laysStatic_spec hl
  exact ⟨c, k, i, f, a, cell, h1, h2, h3, h4, h5, h6, h7, h8, h9, hA a (Array.getElem?_eq_some_iff.mp h5).1⟩
theorem vx_isRef {C n d : String} {v : Value} {A : Nat → Prop} {s : State} {args : Array Value} (h : va_Z C n d v A s s.heap) (hv : v.isRef = true) : (Cond.isRef (.static C n d)).before args s = true := by
  obtain ⟨cf, kf, fi, f, a, cell, h1, h2, h3, h4, h5, h6, h7, -⟩ := h
  have he : (Term.static C n d).eval args s none [] s = some v := by
    simp [Term.eval, State.fieldNamed?, h1, h2, h4, h5, h6, h7]
  simp only [Cond.before, Cond.holds, Cond.value, he]
  cases v <;> simp_all [Value.isRef]
theorem vx_isRefq {C n d : String} {A : Nat → Prop} {s : State} {args : Array Value} (h : va_Zq C n d A s s.heap) : (Cond.isRef (.static C n d)).before args s = true := by
  rcases h with h | ⟨t, h⟩
  · exact vx_isRef h rfl
  · exact vx_isRef h rfl
/-- the same frame, seen from here: as if the method were called anew in this heap -/
theorem vx_rebase {T : State} (X : Stand p l e R s m args below meth c T locs cells slots) {R' : Room} (hf : R'.frames ≤ R.frames) (hl : R'.locals ≤ R.locals) (hc : cells + R'.cells ≤ R.cells) (hs : slots + R'.slots ≤ R.slots) :
    Stand p l e R' ((T.setVm s.vm).setFrames (.invoking m args :: below)) m args below meth c T [] 0 0 := by
  have htop : (T.setVm s.vm).topJava?.isSome := X.here.top
  have hF : ((T.setVm s.vm).setFrames (.invoking m args :: below)).frames = .invoking m args :: below := State.frames_setFrames _ (State.cur_lt_of_top htop)
  obtain ⟨g₀, hg0⟩ := Option.isSome_iff_exists.mp htop
  obtain ⟨r, hr⟩ := State.topJava?_eq_some.mp hg0
  have hl9 : e.platform.stackLimits (T.setVm s.vm).me = e.platform.stackLimits s.me := X.limits
  have hb9 : (T.setVm s.vm).me.stackBytes = s.me.stackBytes := X.bytes
  refine ⟨X.admits, X.cas, X.clock, hF, ?_, X.hears, X.method, X.code, X.here, X.tail, X.warmed, ?_, ?_, ?_⟩
  · have h := X.room
    have hU : ((T.setVm s.vm).setFrames (.invoking m args :: below)).localsInUse = s.localsInUse := by
      rw [State.localsInUse_invoking hF (meth := meth) (c := c) X.method X.code, State.localsInUse_invoking X.frames X.method X.code]
    simp only [State.hasRoom, Bool.and_eq_true, decide_eq_true_eq] at h ⊢
    obtain ⟨⟨⟨⟨h1, h2, h3, h4, h5, h6⟩, h7⟩, h8⟩, h9⟩ := h
    rw [X.frames, List.length_cons] at h2 h3
    have q1 := X.heapSize
    have q2 := X.used
    simp only [hF, hU, List.length_cons, State.stackLimits_setFrames, State.stackBytes_setFrames, hl9, hb9]
    refine ⟨⟨⟨⟨by omega, by omega, by omega, by omega, by omega, h6⟩, ?_⟩, ?_⟩, X.book⟩
    · show T.heap.size + R'.cells ≤ e.platform.maxCells
      omega
    · show T.slotsUsed + R'.slots ≤ e.platform.maxSlots
      omega
  · rw [State.stackLimits_setFrames]; rfl
  · rw [State.stackBytes_setFrames]; rfl
  · refine ⟨?_, Nat.le_refl _, Nat.le_refl _, ?_, ?_, fun a c9 h9 => ⟨c9, h9, rfl, rfl, fun _ _ => rfl⟩⟩
    · obtain ⟨t, ht, -⟩ := State.frames_cons hr
      show T.setVm s.vm = { ((T.setVm s.vm).setFrames (.invoking m args :: below)).setFrames (T.setVm s.vm).frames with heap := T.heap, slotsUsed := T.slotsUsed }
      rw [State.setFrames_setFrames, State.setFrames_self ht]
      rfl
    · show T.slotsUsed = T.slotsUsed + ((T.heap.toList.drop T.heap.size).map (·.slots.size)).sum
      rw [List.drop_eq_nil_of_le (Nat.le_of_eq Array.length_toList)]
      rfl
    · show ((T.heap.toList.drop T.heap.size).map (·.slots.size)).sum ≤ 0
      rw [List.drop_eq_nil_of_le (Nat.le_of_eq Array.length_toList)]
      exact Nat.le_refl _
/-- 'throw new E()': new; dup; invokespecial; athrow -/
theorem vx_throw0 {cc : ByteArray} {pc : Nat} (hexec : p.tables.exec = Jvm.exec) (hb : c.code = cc) (hl : l.stackTraces = false) {own cls : String} {names : List String} {ik ic mc ms : Nat} {A : Nat → Prop}
    (hown : s.vm.findClass own = some m.cls) (hcls : Bundle.fit cls = true) (hnames : ∀ n ∈ names, Bundle.fit n = true)
    (hk : (Cond.classLink own ik cls).before args s = true) (hini : (Cond.initialized cls).before args s = true) (hat : ∀ w ∈ vx_at0 own ic cls names, w.before args s = true)
    (hgood : ∀ w ∈ Cond.classLink own ik cls :: Cond.initialized cls :: vx_at0 own ic cls names, vx_ot w = true)
    (hU : vx_Zq Bundle.tN "UNASSIGNED_STACK" Bundle.steD A s s.heap) (hN : vx_Zq Bundle.tN "SUPPRESSED_SENTINEL" Bundle.listD A s s.heap) (hS : va_S A s.heap H locs) (hsize : ls.size = c.maxLocals)
    (d0 : decode cc pc = .ok (.new ik, 3)) (d3 : decode cc (pc + 3) = .ok (.dup, 1)) (d4 : decode cc (pc + 4) = .ok (.invokespecial ic, 3)) (d7 : decode cc (pc + 7) = .ok (.athrow, 1))
    (hout : ∀ x ∈ c.exceptionTable.toList, covers x (pc + 7) = false)
    (hRframes : names.length + 3 < R.frames) (hRlocals : (rest.map fun v => v.category).sum + (13 * (names.length + 1) + 42) ≤ R.locals) (hRcells : cells + 1 ≤ R.cells) (hRslots : slots + 6 ≤ R.slots) (hlocks : meth.locks = false)
    (hx : ∀ t : State, s.vm.Alike t.vm → H.size ≤ t.heap.size → (∀ q : Nat, q < H.size → t.heap[q]? = H[q]?) → XC cls s t)
    (hf : ∀ z ∈ locs, free z.base) (hc : cells + 1 ≤ mc) (hs : slots + 6 ≤ ms) :
    W p l e R s m args below meth c H locs cells slots (vx_MQ below Qc XC args s mc ms free) (F0 m pc ls rest) := by
  intro T hT X
  have htr : e.platform.stackTraces = false := (show e.platform.stackTraces = l.stackTraces by rw [X.admits.platform]).trans hl
  have Y := vx_rebase X (R' := { frames := R.frames, locals := R.locals, cells := 1, slots := 6 }) (Nat.le_refl _) (Nat.le_refl _) hRcells hRslots
  obtain ⟨s', hA⟩ : ∃ z, z = (T.setVm s.vm).setFrames (.invoking m args :: below) := ⟨_, rfl⟩
  rw [← hA] at Y
  have hvm : s'.vm = s.vm := by rw [hA]; rfl
  have hhp : s'.heap = H := by rw [hA]; exact hT
  have hW0 : s.WarmedH s'.vm := by rw [hvm]; exact State.WarmedH.refl s
  have hat' : ∀ w ∈ vx_at0 own ic cls names, w.before args s' = true := fun w hw => vx_ot_at hW0 hvm.symm (hgood w (List.mem_cons_of_mem _ (List.mem_cons_of_mem _ hw))) (hat w hw)
  have hk' : (Cond.classLink own ik cls).before args s' = true := vx_ot_at hW0 hvm.symm (hgood _ List.mem_cons_self) hk
  have hini' : (Cond.initialized cls).before args s' = true := vx_ot_at hW0 hvm.symm (hgood _ (List.mem_cons_of_mem _ List.mem_cons_self)) hini
  have hU' : vx_Zq Bundle.tN "UNASSIGNED_STACK" Bundle.steD A s' s'.heap := by rw [hhp]; exact vx_Zq.moved hW0.alike (hU.kept hS.2.1)
  have hN' : vx_Zq Bundle.tN "SUPPRESSED_SENTINEL" Bundle.listD A s' s'.heap := by rw [hhp]; exact vx_Zq.moved hW0.alike (hN.kept hS.2.1)
  have h : ∀ w ∈ Bundle.ownAtoms0 own ic cls names, w.before args s' = true := vx_own hat' (vx_isRefq hU'.1) (vx_isRefq hN'.1) hU'.2.word hN'.2.word
  have hown' : s'.vm.findClass own = some m.cls := by rw [hvm]; exact hown
  have hins : (Cond.instantiable cls 6).before args s' = true := h _ (by simp [Bundle.ownAtoms0])
  obtain ⟨vm₁, cX, kX, hfX, hkX, -, -, X₁, st1⟩ := Y.newCold hexec (own := own) (C := cls) (index := ik) (n := 6) hown' hk' hins hini'
    (g := F0 m pc ls rest) rfl (by rw [hb]; exact d0) (Nat.le_refl _) (Nat.le_refl _)
  generalize hT1 : (T.setVm vm₁).pushCell { cls := cX, slots := kX.instanceTypes.map defaultValue, vm := .none } = T1 at X₁ st1
  have hcat : (Value.ref T.heap.size).category = 1 := rfl
  have hcellA : T1.heap[T.heap.size]? = some (freshCell cX kX) := by rw [← hT1]; exact State.heap_pushCell_size _ _
  have d3' : decode c.code (pc + 3) = .ok (.dup, 1) := by rw [hb]; exact d3
  obtain ⟨U, hsteps, hrun, hend, hW, hsame, ce, hce, hO⟩ := X₁.ctorThrow0 hexec htr (own := own) (cls := cls) (names := names) (ic := ic) hown' hcls hnames h (fun x hx => nomatch hx) hfX hkX hcellA (by rw [hhp, hT]; exact Nat.le_refl _)
    (g := { method := m, pc := pc + 4, locals := ls, stack := .ref T.heap.size :: .ref T.heap.size :: rest, locked := none }) rfl hsize rfl rfl (rest := rest) rfl
    (by rw [hb]; exact d4) (by rw [hb]; exact d7) hout hRframes (by simp only [List.map_cons, List.sum_cons, hcat]; omega) hlocks
  obtain ⟨f1, f2⟩ := vx_frame hsame
  rw [hhp] at f1 f2
  have hWs : s.WarmedH U.vm := State.WarmedH.trans hW0 hW
  have hcl : s.vm.findClass cls = some ce.cls := by
    have h9 := hO.cls
    rw [hvm] at h9
    exact h9
  have hall : s.sameButNew ({ U with vm := s.vm } : State) locs mc ms := by
    subst hA
    obtain ⟨e1, e2⟩ := hsame
    rw [State.setFrames_setFrames] at e1
    have h2 : (T.setVm s.vm).sameButNew ({ U with vm := s.vm } : State) [] (0 + 1) (0 + 6) := ⟨e1, e2⟩
    have h3 := X.same.trans h2
    rw [List.append_nil] at h3
    exact h3.mono hc hs
  refine ⟨U, ?_, .threw T.heap.size, hrun, hend, Or.inr ⟨T.heap.size, rfl, cls, ce, locs, hx U hWs.alike f1 (fun q hq => f2 q hq (fun z hz => nomatch hz)), hce, hO.vm, hcl, hWs, hall, hf⟩⟩
  refine st1 _ ?_
  show Steps p.tables e below (T1.setTop { method := m, pc := pc + 3, locals := ls, stack := .ref T.heap.size :: rest, locked := none }) _
  jvm_step X₁.here [X₁.here.top, hexec, d3', Value.category]
  exact hsteps
/-- 'throw new E("text")': new; dup; ldc; invokespecial; athrow -/
theorem vx_throwS {cc : ByteArray} {pc : Nat} (hexec : p.tables.exec = Jvm.exec) (hb : c.code = cc) (hl : l.stackTraces = false) {own cls text : String} {names : List String} {ik is ic mc ms sa : Nat} {A : Nat → Prop}
    (hown : s.vm.findClass own = some m.cls) (hcls : Bundle.fit cls = true) (hnames : ∀ n ∈ names, Bundle.fit n = true)
    (hk : (Cond.classLink own ik cls).before args s = true) (hini : (Cond.initialized cls).before args s = true) (hstr : vk_R own is text sa s) (hat : ∀ w ∈ vx_atS own ic cls names, w.before args s = true)
    (hgood : ∀ w ∈ Cond.classLink own ik cls :: Cond.initialized cls :: vx_atS own ic cls names, vx_ot w = true)
    (hU : vx_Zq Bundle.tN "UNASSIGNED_STACK" Bundle.steD A s s.heap) (hN : vx_Zq Bundle.tN "SUPPRESSED_SENTINEL" Bundle.listD A s s.heap) (hS : va_S A s.heap H locs) (hsize : ls.size = c.maxLocals)
    (d0 : decode cc pc = .ok (.new ik, 3)) (d3 : decode cc (pc + 3) = .ok (.dup, 1)) (d4 : decode cc (pc + 4) = .ok (.ldc is, 2)) (d6 : decode cc (pc + 6) = .ok (.invokespecial ic, 3)) (d9 : decode cc (pc + 9) = .ok (.athrow, 1))
    (hout : ∀ x ∈ c.exceptionTable.toList, covers x (pc + 9) = false)
    (hRframes : names.length + 3 < R.frames) (hRlocals : (rest.map fun v => v.category).sum + (13 * (names.length + 1) + 43) ≤ R.locals) (hRcells : cells + 1 ≤ R.cells) (hRslots : slots + 6 ≤ R.slots) (hlocks : meth.locks = false)
    (hx : ∀ t : State, s.vm.Alike t.vm → H.size ≤ t.heap.size → (∀ q : Nat, q < H.size → t.heap[q]? = H[q]?) → XC cls s t)
    (hf : ∀ z ∈ locs, free z.base) (hc : cells + 1 ≤ mc) (hs : slots + 6 ≤ ms) :
    W p l e R s m args below meth c H locs cells slots (vx_MQ below Qc XC args s mc ms free) (F0 m pc ls rest) := by
  intro T hT X
  have htr : e.platform.stackTraces = false := (show e.platform.stackTraces = l.stackTraces by rw [X.admits.platform]).trans hl
  have Y := vx_rebase X (R' := { frames := R.frames, locals := R.locals, cells := 1, slots := 6 }) (Nat.le_refl _) (Nat.le_refl _) hRcells hRslots
  obtain ⟨s', hA⟩ : ∃ z, z = (T.setVm s.vm).setFrames (.invoking m args :: below) := ⟨_, rfl⟩
  rw [← hA] at Y
  have hvm : s'.vm = s.vm := by rw [hA]; rfl
  have hhp : s'.heap = H := by rw [hA]; exact hT
  have hW0 : s.WarmedH s'.vm := by rw [hvm]; exact State.WarmedH.refl s
  have hat' : ∀ w ∈ vx_atS own ic cls names, w.before args s' = true := fun w hw => vx_ot_at hW0 hvm.symm (hgood w (List.mem_cons_of_mem _ (List.mem_cons_of_mem _ hw))) (hat w hw)
  have hk' : (Cond.classLink own ik cls).before args s' = true := vx_ot_at hW0 hvm.symm (hgood _ List.mem_cons_self) hk
  have hini' : (Cond.initialized cls).before args s' = true := vx_ot_at hW0 hvm.symm (hgood _ (List.mem_cons_of_mem _ List.mem_cons_self)) hini
  have hU' : vx_Zq Bundle.tN "UNASSIGNED_STACK" Bundle.steD A s' s'.heap := by rw [hhp]; exact vx_Zq.moved hW0.alike (hU.kept hS.2.1)
  have hN' : vx_Zq Bundle.tN "SUPPRESSED_SENTINEL" Bundle.listD A s' s'.heap := by rw [hhp]; exact vx_Zq.moved hW0.alike (hN.kept hS.2.1)
  have h : ∀ w ∈ Bundle.ownAtoms own ic cls names, w.before args s' = true := vx_own hat' (vx_isRefq hU'.1) (vx_isRefq hN'.1) hU'.2.word hN'.2.word
  have hown' : s'.vm.findClass own = some m.cls := by rw [hvm]; exact hown
  have hins : (Cond.instantiable cls 6).before args s' = true := h _ (by simp [Bundle.ownAtoms])
  obtain ⟨vm₁, cX, kX, hfX, hkX, -, -, X₁, st1⟩ := Y.newCold hexec (own := own) (C := cls) (index := ik) (n := 6) hown' hk' hins hini'
    (g := F0 m pc ls rest) rfl (by rw [hb]; exact d0) (Nat.le_refl _) (Nat.le_refl _)
  generalize hT1 : (T.setVm vm₁).pushCell { cls := cX, slots := kX.instanceTypes.map defaultValue, vm := .none } = T1 at X₁ st1
  have hcat : (Value.ref T.heap.size).category = 1 := rfl
  have hcellA : T1.heap[T.heap.size]? = some (freshCell cX kX) := by rw [← hT1]; exact State.heap_pushCell_size _ _
  have d3' : decode c.code (pc + 3) = .ok (.dup, 1) := by rw [hb]; exact d3
  have d4' : decode c.code (pc + 4) = .ok (.ldc is, 2) := by rw [hb]; exact d4
  have hstr' : vk_R own is text sa s' := vk_R.warm hW0 hstr
  obtain ⟨U, hsteps, hrun, hend, hW, hsame, ce, hce, hO⟩ := X₁.ctorThrowS hexec htr (own := own) (cls := cls) (names := names) (ic := ic) hown' hcls hnames h (fun x hx => nomatch hx) hfX hkX hcellA (by rw [hhp, hT]; exact Nat.le_refl _) (msg := .ref sa) rfl
    (g := { method := m, pc := pc + 6, locals := ls, stack := .ref sa :: .ref T.heap.size :: .ref T.heap.size :: rest, locked := none }) rfl hsize rfl rfl (rest := rest) rfl
    (by rw [hb]; exact d6) (by rw [hb]; exact d9) hout hRframes (by simp only [List.map_cons, List.sum_cons, hcat]; omega) hlocks
  obtain ⟨f1, f2⟩ := vx_frame hsame
  rw [hhp] at f1 f2
  have hWs : s.WarmedH U.vm := State.WarmedH.trans hW0 hW
  have hcl : s.vm.findClass cls = some ce.cls := by
    have h9 := hO.cls
    rw [hvm] at h9
    exact h9
  have hall : s.sameButNew ({ U with vm := s.vm } : State) locs mc ms := by
    subst hA
    obtain ⟨e1, e2⟩ := hsame
    rw [State.setFrames_setFrames] at e1
    have h2 : (T.setVm s.vm).sameButNew ({ U with vm := s.vm } : State) [] (0 + 1) (0 + 6) := ⟨e1, e2⟩
    have h3 := X.same.trans h2
    rw [List.append_nil] at h3
    exact h3.mono hc hs
  refine ⟨U, ?_, .threw T.heap.size, hrun, hend, Or.inr ⟨T.heap.size, rfl, cls, ce, locs, hx U hWs.alike f1 (fun q hq => f2 q hq (fun z hz => nomatch hz)), hce, hO.vm, hcl, hWs, hall, hf⟩⟩
  refine st1 _ ?_
  show Steps p.tables e below (T1.setTop { method := m, pc := pc + 3, locals := ls, stack := .ref T.heap.size :: rest, locked := none }) _
  jvm_step X₁.here [X₁.here.top, hexec, d3', Value.category]
  exact X₁.ldcString hexec (own := own) (text := text) (index := is) (a := sa) hown' hstr'.1 hstr'.2
    (g := { method := m, pc := pc + 4, locals := ls, stack := .ref T.heap.size :: .ref T.heap.size :: rest, locked := none }) rfl d4' _ hsteps
/-- 'throw new E("text")', the text by a wide index -/
theorem vx_throwSW {cc : ByteArray} {pc : Nat} (hexec : p.tables.exec = Jvm.exec) (hb : c.code = cc) (hl : l.stackTraces = false) {own cls text : String} {names : List String} {ik is ic mc ms sa : Nat} {A : Nat → Prop}
    (hown : s.vm.findClass own = some m.cls) (hcls : Bundle.fit cls = true) (hnames : ∀ n ∈ names, Bundle.fit n = true)
    (hk : (Cond.classLink own ik cls).before args s = true) (hini : (Cond.initialized cls).before args s = true) (hstr : vk_R own is text sa s) (hat : ∀ w ∈ vx_atS own ic cls names, w.before args s = true)
    (hgood : ∀ w ∈ Cond.classLink own ik cls :: Cond.initialized cls :: vx_atS own ic cls names, vx_ot w = true)
    (hU : vx_Zq Bundle.tN "UNASSIGNED_STACK" Bundle.steD A s s.heap) (hN : vx_Zq Bundle.tN "SUPPRESSED_SENTINEL" Bundle.listD A s s.heap) (hS : va_S A s.heap H locs) (hsize : ls.size = c.maxLocals)
    (d0 : decode cc pc = .ok (.new ik, 3)) (d3 : decode cc (pc + 3) = .ok (.dup, 1)) (d4 : decode cc (pc + 4) = .ok (.ldc_w is, 3)) (d7 : decode cc (pc + 7) = .ok (.invokespecial ic, 3)) (d10 : decode cc (pc + 10) = .ok (.athrow, 1))
    (hout : ∀ x ∈ c.exceptionTable.toList, covers x (pc + 10) = false)
    (hRframes : names.length + 3 < R.frames) (hRlocals : (rest.map fun v => v.category).sum + (13 * (names.length + 1) + 43) ≤ R.locals) (hRcells : cells + 1 ≤ R.cells) (hRslots : slots + 6 ≤ R.slots) (hlocks : meth.locks = false)
    (hx : ∀ t : State, s.vm.Alike t.vm → H.size ≤ t.heap.size → (∀ q : Nat, q < H.size → t.heap[q]? = H[q]?) → XC cls s t)
    (hf : ∀ z ∈ locs, free z.base) (hc : cells + 1 ≤ mc) (hs : slots + 6 ≤ ms) :
    W p l e R s m args below meth c H locs cells slots (vx_MQ below Qc XC args s mc ms free) (F0 m pc ls rest) := by
  intro T hT X
  have htr : e.platform.stackTraces = false := (show e.platform.stackTraces = l.stackTraces by rw [X.admits.platform]).trans hl
  have Y := vx_rebase X (R' := { frames := R.frames, locals := R.locals, cells := 1, slots := 6 }) (Nat.le_refl _) (Nat.le_refl _) hRcells hRslots
  obtain ⟨s', hA⟩ : ∃ z, z = (T.setVm s.vm).setFrames (.invoking m args :: below) := ⟨_, rfl⟩
  rw [← hA] at Y
  have hvm : s'.vm = s.vm := by rw [hA]; rfl
  have hhp : s'.heap = H := by rw [hA]; exact hT
  have hW0 : s.WarmedH s'.vm := by rw [hvm]; exact State.WarmedH.refl s
  have hat' : ∀ w ∈ vx_atS own ic cls names, w.before args s' = true := fun w hw => vx_ot_at hW0 hvm.symm (hgood w (List.mem_cons_of_mem _ (List.mem_cons_of_mem _ hw))) (hat w hw)
  have hk' : (Cond.classLink own ik cls).before args s' = true := vx_ot_at hW0 hvm.symm (hgood _ List.mem_cons_self) hk
  have hini' : (Cond.initialized cls).before args s' = true := vx_ot_at hW0 hvm.symm (hgood _ (List.mem_cons_of_mem _ List.mem_cons_self)) hini
  have hU' : vx_Zq Bundle.tN "UNASSIGNED_STACK" Bundle.steD A s' s'.heap := by rw [hhp]; exact vx_Zq.moved hW0.alike (hU.kept hS.2.1)
  have hN' : vx_Zq Bundle.tN "SUPPRESSED_SENTINEL" Bundle.listD A s' s'.heap := by rw [hhp]; exact vx_Zq.moved hW0.alike (hN.kept hS.2.1)
  have h : ∀ w ∈ Bundle.ownAtoms own ic cls names, w.before args s' = true := vx_own hat' (vx_isRefq hU'.1) (vx_isRefq hN'.1) hU'.2.word hN'.2.word
  have hown' : s'.vm.findClass own = some m.cls := by rw [hvm]; exact hown
  have hins : (Cond.instantiable cls 6).before args s' = true := h _ (by simp [Bundle.ownAtoms])
  obtain ⟨vm₁, cX, kX, hfX, hkX, -, -, X₁, st1⟩ := Y.newCold hexec (own := own) (C := cls) (index := ik) (n := 6) hown' hk' hins hini'
    (g := F0 m pc ls rest) rfl (by rw [hb]; exact d0) (Nat.le_refl _) (Nat.le_refl _)
  generalize hT1 : (T.setVm vm₁).pushCell { cls := cX, slots := kX.instanceTypes.map defaultValue, vm := .none } = T1 at X₁ st1
  have hcat : (Value.ref T.heap.size).category = 1 := rfl
  have hcellA : T1.heap[T.heap.size]? = some (freshCell cX kX) := by rw [← hT1]; exact State.heap_pushCell_size _ _
  have d3' : decode c.code (pc + 3) = .ok (.dup, 1) := by rw [hb]; exact d3
  have d4' : decode c.code (pc + 4) = .ok (.ldc_w is, 3) := by rw [hb]; exact d4
  have hstr' : vk_R own is text sa s' := vk_R.warm hW0 hstr
  obtain ⟨U, hsteps, hrun, hend, hW, hsame, ce, hce, hO⟩ := X₁.ctorThrowS hexec htr (own := own) (cls := cls) (names := names) (ic := ic) hown' hcls hnames h (fun x hx => nomatch hx) hfX hkX hcellA (by rw [hhp, hT]; exact Nat.le_refl _) (msg := .ref sa) rfl
    (g := { method := m, pc := pc + 7, locals := ls, stack := .ref sa :: .ref T.heap.size :: .ref T.heap.size :: rest, locked := none }) rfl hsize rfl rfl (rest := rest) rfl
    (by rw [hb]; exact d7) (by rw [hb]; exact d10) hout hRframes (by simp only [List.map_cons, List.sum_cons, hcat]; omega) hlocks
  obtain ⟨f1, f2⟩ := vx_frame hsame
  rw [hhp] at f1 f2
  have hWs : s.WarmedH U.vm := State.WarmedH.trans hW0 hW
  have hcl : s.vm.findClass cls = some ce.cls := by
    have h9 := hO.cls
    rw [hvm] at h9
    exact h9
  have hall : s.sameButNew ({ U with vm := s.vm } : State) locs mc ms := by
    subst hA
    obtain ⟨e1, e2⟩ := hsame
    rw [State.setFrames_setFrames] at e1
    have h2 : (T.setVm s.vm).sameButNew ({ U with vm := s.vm } : State) [] (0 + 1) (0 + 6) := ⟨e1, e2⟩
    have h3 := X.same.trans h2
    rw [List.append_nil] at h3
    exact h3.mono hc hs
  refine ⟨U, ?_, .threw T.heap.size, hrun, hend, Or.inr ⟨T.heap.size, rfl, cls, ce, locs, hx U hWs.alike f1 (fun q hq => f2 q hq (fun z hz => nomatch hz)), hce, hO.vm, hcl, hWs, hall, hf⟩⟩
  refine st1 _ ?_
  show Steps p.tables e below (T1.setTop { method := m, pc := pc + 3, locals := ls, stack := .ref T.heap.size :: rest, locked := none }) _
  jvm_step X₁.here [X₁.here.top, hexec, d3', Value.category]
  exact X₁.ldcStringW hexec (own := own) (text := text) (index := is) (a := sa) hown' hstr'.1 hstr'.2
    (g := { method := m, pc := pc + 4, locals := ls, stack := .ref T.heap.size :: .ref T.heap.size :: rest, locked := none }) rfl d4' _ hsteps
end Ends
section Bodies
variable {l : Launch}
theorem vx_ofW {y : MethodName} {ws ws' : List Cond} {rm : Room} {Pc : Array Value → State → Prop} {Qc : Array Value → State → Outcome → State → Prop} {XC : String → State → State → Prop} {mc ms : Nat} {free : Addr → Prop} {cc : ByteArray} {maxL : Nat} {ret : Option FieldType}
    (hy : plainName y.cls = true) (hw : ws = Cond.code y cc maxL ret :: ws')
    (body : ∀ p e s m args below meth c s₁, BodyLoose p l y (headSpec ws rm) cc maxL ret e s m args below meth c s₁ → c.maxLocals = maxL → (∀ x ∈ c.exceptionTable.toList, False) → Pc args s →
      W p l e (headSpec ws rm).room s m args below meth c s.heap [] 0 0 (vx_MQ below Qc XC args s mc ms free) (entryFrame m args maxL)) : vx_Met l y ws rm Pc Qc XC mc ms free := by
  refine MetFree.of_bodyS (code := cc) (maxLocals := maxL) (ret := ret) hy ?_ ?_
  · intro args s m h hn
    obtain ⟨meth, c, h1, h2, h3, h4, h5, h6, -, -⟩ := Cond.code_spec hn (atoms_spec (ws := ws) h _ (by rw [hw]; exact List.mem_cons_self))
    exact ⟨meth, c, h1, h2, h3, h4, h5, h6⟩
  · intro p e s m args below meth c s₁ B hml hP _
    have hh0 : s₁.heap = s.heap := by rw [B.state]; rfl
    have ht : ∀ x ∈ c.exceptionTable.toList, False := by
      obtain ⟨meth9, c9, h1, h2, -, -, -, -, h7, -⟩ := Cond.code_spec B.named (atoms_spec (ws := ws) B.pre _ (by rw [hw]; exact List.mem_cons_self))
      cases Option.some.inj (h1.symm.trans B.method)
      cases Option.some.inj (h2.symm.trans (Stand.of_body B).code)
      intro x hx
      rw [Array.isEmpty_iff.mp h7] at hx
      cases hx
    obtain ⟨t, a1, o, b1, b2, b3⟩ := body p e s m args below meth c s₁ B hml ht hP s₁ hh0 (Stand.of_body B)
    exact ⟨t, o, a1, b1, b2, b3⟩
/-- the table of a body with handlers -/
theorem vx_table {p : Program} {x y : MethodName} {S : Spec} {cc bytes : ByteArray} {maxL maxL' : Nat} {ret ret' : Option FieldType} {e : Env} {s s₁ : State} {m : MethodId} {args : Array Value} {below : List Frame} {meth : Method} {c : Code} {hh : List (Nat × Nat × Nat × Nat)}
    (B : BodyLoose p l y S cc maxL ret e s m args below meth c s₁) (h : (Cond.codeWith y bytes maxL' ret' hh).before args s = true) : c.exceptionTable.toList = tableOf hh := by
  obtain ⟨m9, meth9, c9, hn9, h1, h2, -, -, h6, -⟩ := Cond.codeWith_spec h
  cases Option.some.inj (hn9.symm.trans B.named)
  cases Option.some.inj (h1.symm.trans B.method)
  cases Option.some.inj (h2.symm.trans (Stand.of_body B).code)
  rw [← h6, table_eq]
end Bodies
end VXA
/-! ===== END ===== -/
end
section
/-! ===== THE MACHINE OF NUMBERED CELLS: cells have numbers (0 is null; 1 .. 7 stand for old int arrays that nobody writes; from 8 on all that is made) ===== -/
/-- the next number; of each cell its kind and length; ints, longs, references by cell and place -/
abbrev eM : Type := Nat × (Nat → Nat × Nat) × (Nat → Nat → Int32) × (Nat → Nat → Int64) × (Nat → Nat → Nat)
abbrev eL : Type := List (Nat × Value)
def e_c0 : Nat := 8
def e_u {α : Type} (f : Nat → Nat → α) (a j : Nat) (x : α) : Nat → Nat → α := fun b k => if b = a ∧ k = j then x else f b k
def e_si (M : eM) (a j : Nat) (x : Int32) : eM := (M.1, M.2.1, e_u M.2.2.1 a j x, M.2.2.2.1, M.2.2.2.2)
def e_sl (M : eM) (a j : Nat) (x : Int64) : eM := (M.1, M.2.1, M.2.2.1, e_u M.2.2.2.1 a j x, M.2.2.2.2)
def e_sr (M : eM) (a j : Nat) (x : Nat) : eM := (M.1, M.2.1, M.2.2.1, M.2.2.2.1, e_u M.2.2.2.2 a j x)
def e_new (M : eM) (t n : Nat) : eM := (M.1 + 1, va_up M.2.1 M.1 (t, n), va_up M.2.2.1 M.1 (fun _ => 0), va_up M.2.2.2.1 M.1 (fun _ => 0), va_up M.2.2.2.2 M.1 (fun _ => 0))
def e_fk (t : Nat) : List Nat := e_fks.getD t []
/-- a field's or a place's content, by its kind -/
def e_gv (M : eM) (a j kind : Nat) : Value := if kind = 1 then .long (M.2.2.2.1 a j) else if kind = 2 then .ref (M.2.2.2.2 a j) else .int (M.2.2.1 a j)
/-- an object of a class -/
def e_ob (M : eM) (o ci : Nat) : Prop := e_c0 ≤ o ∧ o < M.1 ∧ (M.2.1 o).1 = ci
/-- an array of a kind that may be written -/
def e_ar (M : eM) (a t : Nat) (i : Int32) : Prop := e_c0 ≤ a ∧ a < M.1 ∧ (M.2.1 a).1 = t ∧ vp_in i (M.2.1 a).2
/-- an int array, old ones too -/
def e_ai (M : eM) (a : Nat) (i : Int32) : Prop := 0 < a ∧ a < M.1 ∧ (M.2.1 a).1 = 20 ∧ vp_in i (M.2.1 a).2
def e_i1 (st : List Value) (k : Int32 → List Value → Prop) : Prop := match st with | .int x :: r => k x r | _ => False
def e_i2 (st : List Value) (k : Int32 → Int32 → List Value → Prop) : Prop := match st with | .int y :: .int x :: r => k x y r | _ => False
def e_l1 (st : List Value) (k : Int64 → List Value → Prop) : Prop := match st with | .long x :: r => k x r | _ => False
def e_l2 (st : List Value) (k : Int64 → Int64 → List Value → Prop) : Prop := match st with | .long y :: .long x :: r => k x y r | _ => False
def e_li (st : List Value) (k : Int64 → Int32 → List Value → Prop) : Prop := match st with | .int y :: .long x :: r => k x y r | _ => False
def e_r1 (st : List Value) (k : Nat → List Value → Prop) : Prop := match st with | .ref a :: r => k a r | _ => False
def e_ri (st : List Value) (k : Nat → Int32 → List Value → Prop) : Prop := match st with | .int i :: .ref a :: r => k a i r | _ => False
def e_rii (st : List Value) (k : Nat → Int32 → Int32 → List Value → Prop) : Prop := match st with | .int x :: .int i :: .ref a :: r => k a i x r | _ => False
def e_ril (st : List Value) (k : Nat → Int32 → Int64 → List Value → Prop) : Prop := match st with | .long x :: .int i :: .ref a :: r => k a i x r | _ => False
def e_rir (st : List Value) (k : Nat → Int32 → Nat → List Value → Prop) : Prop := match st with | .ref x :: .int i :: .ref a :: r => k a i x r | _ => False
def e_rpi (st : List Value) (k : Nat → Int32 → List Value → Prop) : Prop := match st with | .int x :: .ref a :: r => k a x r | _ => False
def e_rpl (st : List Value) (k : Nat → Int64 → List Value → Prop) : Prop := match st with | .long x :: .ref a :: r => k a x r | _ => False
def e_rpr (st : List Value) (k : Nat → Nat → List Value → Prop) : Prop := match st with | .ref x :: .ref a :: r => k a x r | _ => False
theorem e_i1_inv {st : List Value} {k} (h : e_i1 st k) : ∃ x r, st = .int x :: r ∧ k x r := by unfold e_i1 at h; split at h <;> first | exact ⟨_, _, rfl, h⟩ | exact h.elim
theorem e_i2_inv {st : List Value} {k} (h : e_i2 st k) : ∃ x y r, st = .int y :: .int x :: r ∧ k x y r := by unfold e_i2 at h; split at h <;> first | exact ⟨_, _, _, rfl, h⟩ | exact h.elim
theorem e_l1_inv {st : List Value} {k} (h : e_l1 st k) : ∃ x r, st = .long x :: r ∧ k x r := by unfold e_l1 at h; split at h <;> first | exact ⟨_, _, rfl, h⟩ | exact h.elim
theorem e_l2_inv {st : List Value} {k} (h : e_l2 st k) : ∃ x y r, st = .long y :: .long x :: r ∧ k x y r := by unfold e_l2 at h; split at h <;> first | exact ⟨_, _, _, rfl, h⟩ | exact h.elim
theorem e_li_inv {st : List Value} {k} (h : e_li st k) : ∃ x y r, st = .int y :: .long x :: r ∧ k x y r := by unfold e_li at h; split at h <;> first | exact ⟨_, _, _, rfl, h⟩ | exact h.elim
theorem e_r1_inv {st : List Value} {k} (h : e_r1 st k) : ∃ x r, st = .ref x :: r ∧ k x r := by unfold e_r1 at h; split at h <;> first | exact ⟨_, _, rfl, h⟩ | exact h.elim
theorem e_ri_inv {st : List Value} {k} (h : e_ri st k) : ∃ a i r, st = .int i :: .ref a :: r ∧ k a i r := by unfold e_ri at h; split at h <;> first | exact ⟨_, _, _, rfl, h⟩ | exact h.elim
theorem e_rii_inv {st : List Value} {k} (h : e_rii st k) : ∃ a i x r, st = .int x :: .int i :: .ref a :: r ∧ k a i x r := by unfold e_rii at h; split at h <;> first | exact ⟨_, _, _, _, rfl, h⟩ | exact h.elim
theorem e_ril_inv {st : List Value} {k} (h : e_ril st k) : ∃ a i x r, st = .long x :: .int i :: .ref a :: r ∧ k a i x r := by unfold e_ril at h; split at h <;> first | exact ⟨_, _, _, _, rfl, h⟩ | exact h.elim
theorem e_rir_inv {st : List Value} {k} (h : e_rir st k) : ∃ a i x r, st = .ref x :: .int i :: .ref a :: r ∧ k a i x r := by unfold e_rir at h; split at h <;> first | exact ⟨_, _, _, _, rfl, h⟩ | exact h.elim
theorem e_rpi_inv {st : List Value} {k} (h : e_rpi st k) : ∃ a x r, st = .int x :: .ref a :: r ∧ k a x r := by unfold e_rpi at h; split at h <;> first | exact ⟨_, _, _, rfl, h⟩ | exact h.elim
theorem e_rpl_inv {st : List Value} {k} (h : e_rpl st k) : ∃ a x r, st = .long x :: .ref a :: r ∧ k a x r := by unfold e_rpl at h; split at h <;> first | exact ⟨_, _, _, rfl, h⟩ | exact h.elim
theorem e_rpr_inv {st : List Value} {k} (h : e_rpr st k) : ∃ a x r, st = .ref x :: .ref a :: r ∧ k a x r := by unfold e_rpr at h; split at h <;> first | exact ⟨_, _, _, rfl, h⟩ | exact h.elim
/-- a local, read -/
def e_lk (lv : eL) (j : Nat) (k : Value → Prop) : Prop := match lv.lookup j with | some v => k v | none => False
theorem e_lk_inv {lv : eL} {j : Nat} {k} (h : e_lk lv j k) : ∃ v, lv.lookup j = some v ∧ k v := by unfold e_lk at h; split at h <;> first | exact ⟨_, by assumption, h⟩ | exact h.elim
def e_ld (lv : eL) (j : Nat) (p : Value → Bool) (k : Value → Prop) : Prop := e_lk lv j (fun v => p v = true ∧ k v)
def e_isI : Value → Bool | .int _ => true | _ => false
def e_isL : Value → Bool | .long _ => true | _ => false
def e_isR : Value → Bool | .ref _ => true | _ => false
def e_s1 (lv : eL) (j : Nat) (v : Value) : eL := (j, v) :: lv.filter (fun q => !(q.1 == j) && !(q.1 + 1 == j && q.2.category == 2))
def e_s2 (lv : eL) (j : Nat) (v : Value) : eL := (j, v) :: lv.filter (fun q => !(q.1 == j) && (!(q.1 == j + 1) && !(q.1 + 1 == j && q.2.category == 2)))
/-- what goes on: cells and slots that are left, place, locals, stack, memory -/
abbrev eK : Type := Nat → Nat → Nat → eL → List Value → eM → Prop
abbrev eQ : Type := Option Value → eM → Prop
abbrev eI : Type := Instr × Nat × Nat × Nat × Int
def e_put (k : eK) (kc ks pc : Nat) (a b : Nat) (lv : eL) (st : List Value) (M : eM) : Prop :=
  if (e_fk a).getD b 0 = 1 then e_rpl st fun o x r => e_ob M o a ∧ k kc ks pc lv r (e_sl M o b x)
  else if (e_fk a).getD b 0 = 2 then e_rpr st fun o x r => e_ob M o a ∧ k kc ks pc lv r (e_sr M o b x)
  else e_rpi st fun o x r => e_ob M o a ∧ ((e_fk a).getD b 0 = 3 → x = 0 ∨ x = 1) ∧ k kc ks pc lv r (e_si M o b x)
/-- a call: the callee's number, its budget, its arguments, the memory, what is wanted behind it -/
abbrev eC : Type := Nat → Nat → Nat → List Value → eM → eQ → Prop
def e_cal (k : eK) (cal : eC) (j kc ks pc : Nat) (av : List Value) (lv : eL) (rest : List Value) (M : eM) : Prop :=
  (rest.map fun v => v.category).sum ≤ 8 ∧ ∃ mc ms : Nat, mc ≤ kc ∧ ms ≤ ks ∧ cal j mc ms av M (fun v M' => k (kc - mc) (ks - ms) pc lv (v.toList ++ rest) M')
/-- arraycopy of ints -/
def e_cp (st : List Value) (k : Nat → Int32 → Nat → Int32 → Int32 → List Value → Prop) : Prop := match st with | .int n :: .int dp :: .ref b :: .int sp :: .ref a :: r => k a sp b dp n r | _ => False
theorem e_cp_inv {st : List Value} {k} (h : e_cp st k) : ∃ a sp b dp n r, st = .int n :: .int dp :: .ref b :: .int sp :: .ref a :: r ∧ k a sp b dp n r := by unfold e_cp at h; split at h <;> first | exact ⟨_, _, _, _, _, _, rfl, h⟩ | exact h.elim
def e_cg (M : eM) (a : Nat) (sp : Int32) (b : Nat) (dp n : Int32) : Prop := (e_c0 ≤ a ∧ a < M.1 ∧ (M.2.1 a).1 = 20) ∧ (e_c0 ≤ b ∧ b < M.1 ∧ (M.2.1 b).1 = 20) ∧ ¬ sp < 0 ∧ ¬ dp < 0 ∧ ¬ n < 0 ∧ sp.toNatClampNeg + n.toNatClampNeg ≤ (M.2.1 a).2 ∧ dp.toNatClampNeg + n.toNatClampNeg ≤ (M.2.1 b).2
def e_cpy (M : eM) (a : Nat) (sp : Int32) (b : Nat) (dp n : Int32) : eM := (M.1, M.2.1, va_up M.2.2.1 b (va_cpy (M.2.2.1 a) (M.2.2.1 b) sp.toNatClampNeg dp.toNatClampNeg n.toNatClampNeg), M.2.2.2.1, M.2.2.2.2)
def e_tgt (pc : Nat) (o : Int) : Nat := ((pc : Int) + o).toNat
/-- what an instruction does, apart from returns -/
def e_ins (L : Nat) (k : eK) (cal : eC) (Q : eQ) (ret : Option FieldType) (kc ks pc : Nat) (q : eI) (lv : eL) (st : List Value) (M : eM) : Prop :=
  match q.1 with
  | .iconst n => k kc ks (pc + 1) lv (.int (Int32.ofInt n) :: st) M
  | .bipush n => k kc ks (pc + 2) lv (.int (Int8.ofInt n).toInt32 :: st) M
  | .sipush n => k kc ks (pc + 3) lv (.int (Int16.ofInt n).toInt32 :: st) M
  | .lconst n => k kc ks (pc + 1) lv (.long (Int64.ofNat (n : Nat)) :: st) M
  | .ldc _ => q.2.2.1 = 0 ∧ k kc ks (pc + 2) lv (.int (Int32.ofInt q.2.2.2.2) :: st) M
  | .ldc_w _ => q.2.2.1 = 0 ∧ k kc ks (pc + 3) lv (.int (Int32.ofInt q.2.2.2.2) :: st) M
  | .ldc2_w _ => k kc ks (pc + 3) lv (.long (Int64.ofInt q.2.2.2.2) :: st) M
  | .aconst_null => k kc ks (pc + 1) lv (.ref 0 :: st) M
  | .iload_n j => e_ld lv j e_isI fun v => k kc ks (pc + 1) lv (v :: st) M
  | .iload j => e_ld lv j e_isI fun v => k kc ks (pc + 2) lv (v :: st) M
  | .lload_n j => e_ld lv j e_isL fun v => k kc ks (pc + 1) lv (v :: st) M
  | .lload j => e_ld lv j e_isL fun v => k kc ks (pc + 2) lv (v :: st) M
  | .aload_n j => e_ld lv j e_isR fun v => k kc ks (pc + 1) lv (v :: st) M
  | .aload j => e_ld lv j e_isR fun v => k kc ks (pc + 2) lv (v :: st) M
  | .istore_n j => e_i1 st fun x r => (j : Nat) < L ∧ k kc ks (pc + 1) (e_s1 lv j (.int x)) r M
  | .istore j => e_i1 st fun x r => j < L ∧ k kc ks (pc + 2) (e_s1 lv j (.int x)) r M
  | .lstore_n j => e_l1 st fun x r => (j : Nat) + 1 < L ∧ k kc ks (pc + 1) (e_s2 lv j (.long x)) r M
  | .lstore j => e_l1 st fun x r => j + 1 < L ∧ k kc ks (pc + 2) (e_s2 lv j (.long x)) r M
  | .astore_n j => e_r1 st fun x r => (j : Nat) < L ∧ k kc ks (pc + 1) (e_s1 lv j (.ref x)) r M
  | .astore j => e_r1 st fun x r => j < L ∧ k kc ks (pc + 2) (e_s1 lv j (.ref x)) r M
  | .iinc j n => e_lk lv j fun v => match v with | .int x => j < L ∧ k kc ks (pc + 3) (e_s1 lv j (.int (x + Int32.ofInt n))) st M | _ => False
  | .iadd => e_i2 st fun x y r => k kc ks (pc + 1) lv (.int (x + y) :: r) M
  | .isub => e_i2 st fun x y r => k kc ks (pc + 1) lv (.int (x - y) :: r) M
  | .imul => e_i2 st fun x y r => k kc ks (pc + 1) lv (.int (x * y) :: r) M
  | .idiv => e_i2 st fun x y r => ¬ y = 0 ∧ k kc ks (pc + 1) lv (.int (x / y) :: r) M
  | .irem => e_i2 st fun x y r => ¬ y = 0 ∧ k kc ks (pc + 1) lv (.int (x - x / y * y) :: r) M
  | .ineg => e_i1 st fun x r => k kc ks (pc + 1) lv (.int (-x) :: r) M
  | .iand => e_i2 st fun x y r => k kc ks (pc + 1) lv (.int (x &&& y) :: r) M
  | .ior => e_i2 st fun x y r => k kc ks (pc + 1) lv (.int (x ||| y) :: r) M
  | .ixor => e_i2 st fun x y r => k kc ks (pc + 1) lv (.int (x ^^^ y) :: r) M
  | .ishl => e_i2 st fun x y r => k kc ks (pc + 1) lv (.int (x <<< (y &&& 31)) :: r) M
  | .ishr => e_i2 st fun x y r => k kc ks (pc + 1) lv (.int (x >>> (y &&& 31)) :: r) M
  | .iushr => e_i2 st fun x y r => k kc ks (pc + 1) lv (.int (x.toUInt32 >>> (y.toUInt32 &&& Int32.toUInt32 31)).toInt32 :: r) M
  | .ladd => e_l2 st fun x y r => k kc ks (pc + 1) lv (.long (x + y) :: r) M
  | .land => e_l2 st fun x y r => k kc ks (pc + 1) lv (.long (x &&& y) :: r) M
  | .lor => e_l2 st fun x y r => k kc ks (pc + 1) lv (.long (x ||| y) :: r) M
  | .lxor => e_l2 st fun x y r => k kc ks (pc + 1) lv (.long (x ^^^ y) :: r) M
  | .lshl => e_li st fun x y r => k kc ks (pc + 1) lv (.long (x <<< (y.toInt64 &&& 63)) :: r) M
  | .lshr => e_li st fun x y r => k kc ks (pc + 1) lv (.long (x >>> (y.toInt64 &&& 63)) :: r) M
  | .lushr => e_li st fun x y r => k kc ks (pc + 1) lv (.long (x.toUInt64 >>> (y.toInt64.toUInt64 &&& Int64.toUInt64 63)).toInt64 :: r) M
  | .lcmp => e_l2 st fun x y r => k kc ks (pc + 1) lv (.int (lg_cmp x y) :: r) M
  | .i2l => e_i1 st fun x r => k kc ks (pc + 1) lv (.long x.toInt64 :: r) M
  | .l2i => e_l1 st fun x r => k kc ks (pc + 1) lv (.int x.toInt32 :: r) M
  | .i2b => e_i1 st fun x r => k kc ks (pc + 1) lv (.int x.toInt8.toInt32 :: r) M
  | .i2s => e_i1 st fun x r => k kc ks (pc + 1) lv (.int x.toInt16.toInt32 :: r) M
  | .dup => match st with | v :: r => v.category = 1 ∧ k kc ks (pc + 1) lv (v :: v :: r) M | _ => False
  | .dup2 => match st with | v :: u :: r => v.category = 1 ∧ u.category = 1 ∧ k kc ks (pc + 1) lv (v :: u :: v :: u :: r) M | _ => False
  | .pop => match st with | v :: r => v.category = 1 ∧ k kc ks (pc + 1) lv r M | _ => False
  | .goto _ => k kc ks q.2.2.1 lv st M
  | .ifCond .eq _ => e_i1 st fun x r => (x = 0 → k kc ks q.2.2.1 lv r M) ∧ (¬ x = 0 → k kc ks (pc + 3) lv r M)
  | .ifCond .ne _ => e_i1 st fun x r => (¬ x = 0 → k kc ks q.2.2.1 lv r M) ∧ (x = 0 → k kc ks (pc + 3) lv r M)
  | .ifCond .lt _ => e_i1 st fun x r => (x < 0 → k kc ks q.2.2.1 lv r M) ∧ (¬ x < 0 → k kc ks (pc + 3) lv r M)
  | .ifCond .ge _ => e_i1 st fun x r => (0 ≤ x → k kc ks q.2.2.1 lv r M) ∧ (¬ 0 ≤ x → k kc ks (pc + 3) lv r M)
  | .ifCond .gt _ => e_i1 st fun x r => (0 < x → k kc ks q.2.2.1 lv r M) ∧ (¬ 0 < x → k kc ks (pc + 3) lv r M)
  | .ifCond .le _ => e_i1 st fun x r => (x ≤ 0 → k kc ks q.2.2.1 lv r M) ∧ (¬ x ≤ 0 → k kc ks (pc + 3) lv r M)
  | .if_icmp .eq _ => e_i2 st fun x y r => (x = y → k kc ks q.2.2.1 lv r M) ∧ (¬ x = y → k kc ks (pc + 3) lv r M)
  | .if_icmp .ne _ => e_i2 st fun x y r => (¬ x = y → k kc ks q.2.2.1 lv r M) ∧ (x = y → k kc ks (pc + 3) lv r M)
  | .if_icmp .lt _ => e_i2 st fun x y r => (x < y → k kc ks q.2.2.1 lv r M) ∧ (¬ x < y → k kc ks (pc + 3) lv r M)
  | .if_icmp .ge _ => e_i2 st fun x y r => (y ≤ x → k kc ks q.2.2.1 lv r M) ∧ (¬ y ≤ x → k kc ks (pc + 3) lv r M)
  | .if_icmp .gt _ => e_i2 st fun x y r => (y < x → k kc ks q.2.2.1 lv r M) ∧ (¬ y < x → k kc ks (pc + 3) lv r M)
  | .if_icmp .le _ => e_i2 st fun x y r => (x ≤ y → k kc ks q.2.2.1 lv r M) ∧ (¬ x ≤ y → k kc ks (pc + 3) lv r M)
  | .ifnull _ => e_r1 st fun x r => (x = 0 → k kc ks q.2.2.1 lv r M) ∧ (¬ x = 0 → k kc ks (pc + 3) lv r M)
  | .ifnonnull _ => e_r1 st fun x r => (¬ x = 0 → k kc ks q.2.2.1 lv r M) ∧ (x = 0 → k kc ks (pc + 3) lv r M)
  | .tableswitch d lo hi offs => e_i1 st fun x r => ((x.toInt < lo ∨ hi < x.toInt) → k kc ks (e_tgt pc d) lv r M) ∧ (¬ x.toInt < lo → ¬ hi < x.toInt → ∃ o, offs[(x.toInt - lo).toNat]? = some o ∧ k kc ks (e_tgt pc o) lv r M)
  | .lookupswitch d ps => e_i1 st fun x r => k kc ks (e_tgt pc (Op.lookupswitch.offset ps.toList d x.toInt)) lv r M
  | .getfield _ => q.2.2.1 < 20 ∧ e_r1 st fun o r => e_ob M o q.2.2.1 ∧ k kc ks (pc + 3) lv (e_gv M o q.2.2.2.1 ((e_fk q.2.2.1).getD q.2.2.2.1 0) :: r) M
  | .putfield _ => q.2.2.1 < 20 ∧ e_put k kc ks (pc + 3) q.2.2.1 q.2.2.2.1 lv st M
  | .getstatic _ => (q.2.2.1 = 2 ∨ q.2.2.1 = 3 ∨ q.2.2.1 = 4) ∧ k kc ks (pc + 3) lv (.ref q.2.2.1 :: st) M
  | .iaload => e_ri st fun a i r => e_ai M a i ∧ k kc ks (pc + 1) lv (.int (M.2.2.1 a i.toNatClampNeg) :: r) M
  | .baload => e_ri st fun a i r => e_ar M a 22 i ∧ k kc ks (pc + 1) lv (.int (M.2.2.1 a i.toNatClampNeg) :: r) M
  | .laload => e_ri st fun a i r => e_ar M a 21 i ∧ k kc ks (pc + 1) lv (.long (M.2.2.2.1 a i.toNatClampNeg) :: r) M
  | .aaload => e_ri st fun a i r => (e_ar M a 23 i ∨ e_ar M a 24 i) ∧ k kc ks (pc + 1) lv (.ref (M.2.2.2.2 a i.toNatClampNeg) :: r) M
  | .iastore => e_rii st fun a i x r => e_ar M a 20 i ∧ k kc ks (pc + 1) lv r (e_si M a i.toNatClampNeg x)
  | .bastore => e_rii st fun a i x r => e_ar M a 22 i ∧ k kc ks (pc + 1) lv r (e_si M a i.toNatClampNeg (vp_nar .boolean x))
  | .lastore => e_ril st fun a i x r => e_ar M a 21 i ∧ k kc ks (pc + 1) lv r (e_sl M a i.toNatClampNeg x)
  | .aastore => e_rir st fun a i x r => ((e_ar M a 23 i ∧ e_ob M x 5) ∨ (e_ar M a 24 i ∧ e_ob M x 8)) ∧ k kc ks (pc + 1) lv r (e_sr M a i.toNatClampNeg x)
  | .arraylength => e_r1 st fun a r => ((0 < a ∧ a < M.1 ∧ (M.2.1 a).1 = 20) ∨ (e_c0 ≤ a ∧ a < M.1 ∧ 20 ≤ (M.2.1 a).1 ∧ (M.2.1 a).1 ≤ 24)) ∧ k kc ks (pc + 1) lv (.int (Int32.ofNat (M.2.1 a).2) :: r) M
  | .new _ => if 91 ≤ q.2.2.1 then q.2.2.1 ≤ 94 ∧ 1 ≤ kc ∧ 6 ≤ ks ∧ Q (some (.retAddr q.2.2.1)) M else q.2.2.1 < 20 ∧ 1 ≤ kc ∧ (e_fk q.2.2.1).length ≤ ks ∧ k (kc - 1) (ks - (e_fk q.2.2.1).length) (pc + 3) lv (.ref M.1 :: st) (e_new M q.2.2.1 0)
  | .newarray _ => e_i1 st fun n r => (q.2.2.1 = 20 ∨ q.2.2.1 = 21 ∨ q.2.2.1 = 22) ∧ ¬ n < 0 ∧ n.toNatClampNeg ≤ 60000 ∧ 1 ≤ kc ∧ n.toNatClampNeg ≤ ks ∧ k (kc - 1) (ks - n.toNatClampNeg) (pc + 2) lv (.ref M.1 :: r) (e_new M q.2.2.1 n.toNatClampNeg)
  | .anewarray _ => e_i1 st fun n r => (q.2.2.1 = 23 ∨ q.2.2.1 = 24) ∧ ¬ n < 0 ∧ n.toNatClampNeg ≤ 60000 ∧ 1 ≤ kc ∧ n.toNatClampNeg ≤ ks ∧ k (kc - 1) (ks - n.toNatClampNeg) (pc + 3) lv (.ref M.1 :: r) (e_new M q.2.2.1 n.toNatClampNeg)
  | .invokevirtual _ => q.2.2.1 < 900 ∧ q.2.2.2.2.toNat ≤ st.length ∧ e_r1 (st.drop q.2.2.2.2.toNat) fun o r => e_ob M o q.2.2.2.1 ∧ e_cal k cal q.2.2.1 kc ks (pc + 3) (.ref o :: (st.take q.2.2.2.2.toNat).reverse) lv r M
  | .invokespecial _ => if q.2.2.1 = 900 then e_r1 st fun o r => e_c0 ≤ o ∧ (r.map fun v => v.category).sum ≤ 8 ∧ k kc ks (pc + 3) lv r M else
      q.2.2.1 < 900 ∧ q.2.2.2.2.toNat ≤ st.length ∧ e_r1 (st.drop q.2.2.2.2.toNat) fun o r => e_c0 ≤ o ∧ e_cal k cal q.2.2.1 kc ks (pc + 3) (.ref o :: (st.take q.2.2.2.2.toNat).reverse) lv r M
  | .invokestatic _ => if q.2.2.1 = 901 then e_cp st fun a sp b dp n r => e_cg M a sp b dp n ∧ (r.map fun v => v.category).sum ≤ 8 ∧ k kc ks (pc + 3) lv r (e_cpy M a sp b dp n) else
      q.2.2.1 < 900 ∧ q.2.2.2.2.toNat ≤ st.length ∧ e_cal k cal q.2.2.1 kc ks (pc + 3) (st.take q.2.2.2.2.toNat).reverse lv (st.drop q.2.2.2.2.toNat) M
  | .return_ => st = [] ∧ ret = none ∧ Q none M
  | .ireturn => e_i1 st fun x r => r = [] ∧ (ret = some .int ∨ (ret = some .boolean ∧ (x = 0 ∨ x = 1))) ∧ Q (some (.int x)) M
  | .lreturn => e_l1 st fun x r => r = [] ∧ ret = some .long ∧ Q (some (.long x)) M
  | .areturn => e_r1 st fun x r => r = [] ∧ ((∃ n, ret = some (.object n)) ∨ ∃ t, ret = some (.array t)) ∧ Q (some (.ref x)) M
  | _ => False
end
section
/-! ===== what the numbered cells are on the machine's heap ===== -/
/-- classes' and slots' numbers; the array classes by kind; the addresses of the old arrays; where the new cells begin -/
abbrev eW : Type := va_G × (Nat → ClassId) × (Nat → Nat) × Nat
def e_ad (w : eW) (k : Nat) : Nat := if k < e_c0 then w.2.2.1 k else w.2.2.2 + (k - e_c0)
def e_rv (w : eW) (r : Nat) : Value := if r = 0 then .null else .ref (e_ad w r)
def e_cv (w : eW) (v : Value) : Value := match v with
  | .ref r => e_rv w r
  | v => v
def e_cq (w : eW) (q : Nat × Value) : Nat × Value := (q.1, e_cv w q.2)
def e_ro (w : eW) (r : Nat) : Option Nat := if r = 0 then none else some (e_ad w r)
theorem e_ro_rf (w : eW) (r : Nat) : va_rf (e_ro w r) = e_rv w r := by unfold e_ro e_rv; split <;> rfl
def e_fs (w : eW) (M : eM) (a : Nat) (ks : List Nat) : List Value := (List.range ks.length).map (fun j => e_cv w (e_gv M a j (ks.getD j 0)))
def e_cell (w : eW) (M : eM) (a : Nat) : va_E :=
  if (M.2.1 a).1 < 20 then .inr ((M.2.1 a).1, e_fs w M a (e_fk (M.2.1 a).1))
  else if (M.2.1 a).1 = 21 then .inl (w.2.1 21, (M.2.1 a).2, .inr (.inl (M.2.2.2.1 a)))
  else if (M.2.1 a).1 < 23 then .inl (w.2.1 (M.2.1 a).1, (M.2.1 a).2, .inl (M.2.2.1 a))
  else .inl (w.2.1 (M.2.1 a).1, (M.2.1 a).2, .inr (.inr (.inr (.inr (fun j => e_ro w (M.2.2.2.2 a j))))))
def e_tys (w : eW) : List (ClassId × FieldType) := [(w.2.1 20, .int), (w.2.1 21, .long), (w.2.1 22, .boolean), (w.2.1 23, .object "TierMill$Plan"), (w.2.1 24, .object "TierMill$Shape")]
/-- an old int array -/
def e_X (b N : Nat) (f : Nat → Int32) (U : State) (H : Heap) : Prop := ∃ cell : Cell, H[b]? = some cell ∧ U.isArrayOf cell .int ∧ cell.vm ≠ .unknown ∧ N ≤ cell.slots.size ∧ cell.slots.size.toInt32 = Int32.ofNat N ∧ ∀ j : Nat, j < N → cell.slots[j]? = some (.int (f j))
def e_sts : List (String × String × String × Nat) := [("TierMill", "SIZES", "[I", 2), ("TierMill", "TAKES", "[I", 3), ("TierMill", "PUTS", "[I", 4)]
def e_nsF : List (String × Nat × String × Nat) := [("TierMill$Decoder", 70, "SIZES", 2), ("TierMill$Verifier", 137, "TAKES", 3), ("TierMill$Verifier", 143, "PUTS", 4), ("TierMill$Verifier", 183, "SIZES", 2), ("TierMill$Machine", 173, "SIZES", 2), ("TierMill$Frames", 41, "SIZES", 2)]
def e_nsM : List (String × Nat × MethodName) := [("TierMill", 9, ⟨"TierMill$Reader", "<init>", "()V"⟩), ("TierMill", 18, ⟨"TierMill$Decoder", "<init>", "()V"⟩)]
/-- the texts of the exceptions; which exception isn't which -/
def e_strs : List (Nat × String) := [(84, "the FILE has a FAULT"), (170, "n is not 1 .. 2000"), (177, "no RUN is under way"), (186, "60000 STEPS have been done"), (209, "no such number was put out or kept"), (231, "no such LOCAL, or its KIND is NO"), (244, "no such LOCAL, its KIND is NO, or it is an INT"), (246, "it is null"), (261, "no such what")]
def e_ncs : List (String × String) := [("java/lang/IllegalStateException", "java/lang/IllegalArgumentException"), ("java/lang/ArithmeticException", "java/lang/IllegalArgumentException"), ("java/lang/ArithmeticException", "java/lang/IllegalStateException")]
/-- where new cells are -/
def e_A (w : eW) : Nat → Prop := fun x => w.2.2.2 ≤ x
/-- what the tables say -/
def e_G (w : eW) (U : State) : Prop := va_K w.1 e_cl (e_tys w) U ∧ (∀ q ∈ e_nsF, va_Nw (.fieldLinkNest q.1 q.2.1 "TierMill" q.2.2.1 "[I" "TierMill") U) ∧ (∀ q ∈ e_nsM, va_Nw (.methodLinkNest q.1 q.2.1 q.2.2 "TierMill") U) ∧ va_AO "TierMill$Plan" U ∧ va_AO "TierMill$Shape" U ∧ (∀ q ∈ e_strs, ∃ sa, vk_R "TierMill" q.1 q.2 sa U) ∧ ∀ q ∈ e_ncs, va_Nc q.1 q.2 U
/-- what the heap holds -/
def e_H (w : eW) (M : eM) (U : State) (H : Heap) : Prop :=
  e_c0 ≤ M.1 ∧ H.size = w.2.2.2 + (M.1 - e_c0) ∧ (∀ k, e_c0 ≤ k → k < M.1 → (M.2.1 k).1 < 50 → va_at w.1 e_cl (e_ad w k, e_cell w M k) H) ∧
  (∀ k, 0 < k → k < e_c0 → (M.2.1 k).1 = 20 → w.2.2.1 k < w.2.2.2 ∧ e_X (w.2.2.1 k) (M.2.1 k).2 (M.2.2.1 k) U H) ∧
  (∀ q ∈ e_sts, va_Z q.1 q.2.1 q.2.2.1 (.ref (w.2.2.1 q.2.2.2)) (e_A w) U H) ∧ vx_Zq Bundle.tN "UNASSIGNED_STACK" Bundle.steD (e_A w) U H ∧ vx_Zq Bundle.tN "SUPPRESSED_SENTINEL" Bundle.listD (e_A w) U H
theorem e_cv_cat (w : eW) (v : Value) : (e_cv w v).category = v.category := by
  cases v with
  | ref r => show (e_rv w r).category = 1; unfold e_rv; split <;> rfl
  | _ => rfl
theorem e_sum (w : eW) (st : List Value) : ((st.map (e_cv w)).map fun v => v.category).sum = (st.map fun v => v.category).sum := by
  rw [List.map_map]
  congr 1
  exact List.map_congr_left fun v _ => e_cv_cat w v
theorem e_s1_map (w : eW) (lv : eL) (j : Nat) (v : Value) : (j, e_cv w v) :: (lv.map (e_cq w)).filter (fun q => !(q.1 == j) && !(q.1 + 1 == j && q.2.category == 2)) = (e_s1 lv j v).map (e_cq w) := by
  unfold e_s1
  rw [List.map_cons, List.filter_map]
  congr 2
  apply List.filter_congr
  intro q _
  simp [e_cq, e_cv_cat]
theorem e_s2_map (w : eW) (lv : eL) (j : Nat) (v : Value) : (j, e_cv w v) :: (lv.map (e_cq w)).filter (fun q => !(q.1 == j) && (!(q.1 == j + 1) && !(q.1 + 1 == j && q.2.category == 2))) = (e_s2 lv j v).map (e_cq w) := by
  unfold e_s2
  rw [List.map_cons, List.filter_map]
  congr 2
  apply List.filter_congr
  intro q _
  simp [e_cq, e_cv_cat]
theorem e_lu : ∀ {lv : eL} {j : Nat} {v : Value}, lv.lookup j = some v → (j, v) ∈ lv
  | [], j, v, h => by simp at h
  | (i, u) :: lv, j, v, h => by
    rw [List.lookup_cons] at h
    split at h
    · rename_i hb
      have := eq_of_beq hb
      subst this
      cases h
      exact List.mem_cons_self
    · exact List.mem_cons_of_mem _ (e_lu h)
theorem e_lv_at {w : eW} {lv : eL} {ls : Array Slot} {n j : Nat} {v : Value} (hl : lv_has ls n (lv.map (e_cq w))) (h : lv.lookup j = some v) : ls[j]? = some (.val (e_cv w v)) :=
  hl.2.2 (j, e_cv w v) (List.mem_map.mpr ⟨(j, v), e_lu h, rfl⟩)
theorem e_u_ne {α : Type} {f : Nat → Nat → α} {a j : Nat} {x : α} {b : Nat} (h : b ≠ a) : e_u f a j x b = f b := by
  funext k
  simp [e_u, h]
theorem e_u_i {f : Nat → Nat → Int32} {a j : Nat} {x : Int32} : e_u f a j x a = upd (f a) j x := by
  funext k
  simp [e_u, upd]
theorem e_u_l {f : Nat → Nat → Int64} {a j : Nat} {x : Int64} : e_u f a j x a = vp_updL (f a) j x := by
  funext k
  simp [e_u, vp_updL]
theorem e_u_r {f : Nat → Nat → Nat} {a j : Nat} {x : Nat} : e_u f a j x a = va_up (f a) j x := by
  funext k
  simp [e_u, va_up]
theorem e_cell_si {w : eW} {M : eM} {a j k : Nat} {x : Int32} (h : k ≠ a) : e_cell w (e_si M a j x) k = e_cell w M k := by
  simp only [e_cell, e_si, e_fs, e_gv, e_u_ne h]
theorem e_cell_sl {w : eW} {M : eM} {a j k : Nat} {x : Int64} (h : k ≠ a) : e_cell w (e_sl M a j x) k = e_cell w M k := by
  simp only [e_cell, e_sl, e_fs, e_gv, e_u_ne h]
  rfl
theorem e_cell_sr {w : eW} {M : eM} {a j k : Nat} {x : Nat} (h : k ≠ a) : e_cell w (e_sr M a j x) k = e_cell w M k := by
  simp only [e_cell, e_sr, e_fs, e_gv, e_u_ne h]
theorem e_cell_new {w : eW} {M : eM} {t n k : Nat} (h : k < M.1) : e_cell w (e_new M t n) k = e_cell w M k := by
  have h1 : k ≠ M.1 := Nat.ne_of_lt h
  simp only [e_cell, e_new, e_fs, e_gv, va_up_ne _ _ h1]
theorem e_ad_ge {w : eW} {k : Nat} (h : e_c0 ≤ k) : e_ad w k = w.2.2.2 + (k - e_c0) := if_neg (Nat.not_lt.mpr h)
theorem e_ad_A {w : eW} {k : Nat} (h : e_c0 ≤ k) : e_A w (e_ad w k) := by
  rw [e_ad_ge h]
  exact Nat.le_add_right _ _
theorem e_ad_ne {w : eW} {k a : Nat} (hk : e_c0 ≤ k) (ha : e_c0 ≤ a) (h : k ≠ a) : e_ad w k ≠ e_ad w a := by
  rw [e_ad_ge hk, e_ad_ge ha]
  omega
theorem e_X.kept {b N : Nat} {f : Nat → Int32} {U : State} {H H1 : Heap} (h : e_X b N f U H) (hq : H1[b]? = H[b]?) : e_X b N f U H1 := by
  obtain ⟨cell, h1, h2⟩ := h
  exact ⟨cell, by rw [hq]; exact h1, h2⟩
theorem e_X.moved {b N : Nat} {f : Nat → Int32} {u U : State} {H : Heap} (hvm : u.vm.Alike U.vm) (h : e_X b N f u H) : e_X b N f U H := by
  obtain ⟨cell, h1, h2, h3⟩ := h
  exact ⟨cell, h1, State.isArrayOf_alike hvm h2, h3⟩
theorem e_H.moved {w : eW} {M : eM} {u U : State} {H : Heap} (hvm : u.vm.Alike U.vm) (h : e_H w M u H) : e_H w M U H :=
  ⟨h.1, h.2.1, h.2.2.1, fun k h0 h1 h2 => ⟨(h.2.2.2.1 k h0 h1 h2).1, (h.2.2.2.1 k h0 h1 h2).2.moved hvm⟩, fun q hq => (h.2.2.2.2.1 q hq).moved hvm, h.2.2.2.2.2.1.moved hvm, h.2.2.2.2.2.2.moved hvm⟩
theorem e_G.warm {w : eW} {s U : State} (hW : s.WarmedH U.vm) (h : e_G w s) : e_G w U :=
  ⟨va_K.moved hW.alike h.1, fun q hq => va_Nw.warmF hW (h.2.1 q hq), fun q hq => va_Nw.warmM hW (h.2.2.1 q hq), va_AO.moved hW.alike h.2.2.2.1, va_AO.moved hW.alike h.2.2.2.2.1, fun q hq => (h.2.2.2.2.2.1 q hq).imp (fun _ z => z.warm hW), fun q hq => (h.2.2.2.2.2.2 q hq).moved hW.alike⟩
theorem e_G.same {w : eW} {s U : State} (hvm : s.vm = U.vm) (h : e_G w s) : e_G w U :=
  ⟨va_K.moved (by rw [hvm]; exact Vm.Alike.refl _) h.1, fun q hq => va_Nw.same rfl hvm (h.2.1 q hq), fun q hq => va_Nw.same rfl hvm (h.2.2.1 q hq), va_AO.moved (by rw [hvm]; exact Vm.Alike.refl _) h.2.2.2.1, va_AO.moved (by rw [hvm]; exact Vm.Alike.refl _) h.2.2.2.2.1, fun q hq => (h.2.2.2.2.2.1 q hq).imp (fun _ z => z.same hvm.symm), fun q hq => (h.2.2.2.2.2.2 q hq).moved (by rw [hvm]; exact Vm.Alike.refl _)⟩
theorem e_H.put {w : eW} {M M' : eM} {U : State} {H H1 : Heap} {a : Nat} (h : e_H w M U H) (ha : e_c0 ≤ a) (h1 : M'.1 = M.1) (h2 : M'.2.1 = M.2.1) (ho : ∀ k, k ≠ a → M'.2.2.1 k = M.2.2.1 k) (hc : ∀ k, k ≠ a → e_cell w M' k = e_cell w M k) (hat : va_at w.1 e_cl (e_ad w a, e_cell w M' a) H1) (z : H1.size = H.size) (oq : ∀ q, q ≠ e_ad w a → H1[q]? = H[q]?) : e_H w M' U H1 := by
  obtain ⟨g1, g2, g3, g4, g5, g6, g7⟩ := h
  have hA := e_ad_A (w := w) ha
  have hkp : ∀ x : Nat, x < H.size → ¬ e_A w x → H1[x]? = H[x]? := fun x _ hx => oq x fun e => hx (by rw [e]; exact hA)
  refine ⟨by rw [h1]; exact g1, by rw [z, h1]; exact g2, fun k k0 k1 k2 => ?_, fun k k0 k1 k2 => ?_, fun q hq => ?_, g6.kept hkp, g7.kept hkp⟩
  · by_cases hk : k = a
    · subst hk; exact hat
    · rw [hc k hk]
      rw [h1] at k1; rw [h2] at k2
      exact (g3 k k0 k1 k2).kept (oq _ (e_ad_ne k0 ha hk))
  · rw [h2] at k2
    obtain ⟨q1, q2⟩ := g4 k k0 k1 k2
    have hka : k ≠ a := by omega
    rw [h2, ho k hka]
    refine ⟨q1, q2.kept (oq _ fun e => ?_)⟩
    rw [e] at q1
    exact absurd hA (Nat.not_le.mpr q1)
  · exact (g5 q hq).kept (fun x _ hx => oq x fun e => hx (by rw [e]; exact hA))
theorem e_H.new {w : eW} {M : eM} {U : State} {H H1 : Heap} {t n : Nat} (h : e_H w M U H) (hat : va_at w.1 e_cl (e_ad w M.1, e_cell w (e_new M t n) M.1) H1) (z : H1.size = H.size + 1) (oq : ∀ q, q < H.size → H1[q]? = H[q]?) : e_H w (e_new M t n) U H1 := by
  obtain ⟨g1, g2, g3, g4, g5, g6, g7⟩ := h
  refine ⟨Nat.le_succ_of_le g1, by rw [z, g2]; show _ = w.2.2.2 + (M.1 + 1 - e_c0); omega, fun k k0 k1 k2 => ?_, fun k k0 k1 k2 => ?_, fun q hq => ?_, g6.kept (fun x hx _ => oq x hx), g7.kept (fun x hx _ => oq x hx)⟩
  · rcases Nat.lt_or_eq_of_le (Nat.le_of_lt_succ k1) with hk | hk
    · rw [e_cell_new hk]
      have k2' : (M.2.1 k).1 < 50 := by
        have := k2
        simp only [e_new, va_up_ne _ _ (Nat.ne_of_lt hk)] at this
        exact this
      exact (g3 k k0 hk k2').kept (oq _ ((g3 k k0 hk k2').lt))
    · subst hk; exact hat
  · have hne : k ≠ M.1 := by omega
    simp only [e_new, va_up_ne _ _ hne] at k2 ⊢
    obtain ⟨q1, q2⟩ := g4 k k0 k1 k2
    exact ⟨q1, q2.kept (oq _ (by rw [g2]; omega))⟩
  · exact (g5 q hq).kept (fun x hx _ => oq x hx)
/-- cells came that nobody looks into -/
def e_gap (M : eM) (g : Nat) : eM := (M.1 + g, (fun k => if k < M.1 then M.2.1 k else (99, 0)), M.2.2.1, M.2.2.2.1, M.2.2.2.2)
theorem e_H.gap {w : eW} {M : eM} {U : State} {H H1 : Heap} (h : e_H w M U H) (z : H.size ≤ H1.size) (oq : ∀ q, q < H.size → H1[q]? = H[q]?) : e_H w (e_gap M (H1.size - H.size)) U H1 := by
  obtain ⟨g1, g2, g3, g4, g5, g6, g7⟩ := h
  refine ⟨Nat.le_trans g1 (Nat.le_add_right _ _), by show H1.size = w.2.2.2 + (M.1 + (H1.size - H.size) - e_c0); omega, fun k k0 k1 k2 => ?_, fun k k0 k1 k2 => ?_, fun q hq => ?_, g6.kept (fun x hx _ => oq x hx), g7.kept (fun x hx _ => oq x hx)⟩
  · by_cases hk : k < M.1
    · have e1 : (e_gap M (H1.size - H.size)).2.1 k = M.2.1 k := if_pos hk
      have e2 : e_cell w (e_gap M (H1.size - H.size)) k = e_cell w M k := by
        unfold e_cell e_fs e_gv
        rw [e1]
        rfl
      rw [e1] at k2
      rw [e2]
      exact (g3 k k0 hk k2).kept (oq _ ((g3 k k0 hk k2).lt))
    · have e1 : (e_gap M (H1.size - H.size)).2.1 k = (99, 0) := if_neg hk
      rw [e1] at k2
      exact absurd k2 (by decide)
  · have hk : k < M.1 := Nat.lt_of_lt_of_le k1 g1
    have e1 : (e_gap M (H1.size - H.size)).2.1 k = M.2.1 k := if_pos hk
    rw [e1] at k2 ⊢
    obtain ⟨q1, q2⟩ := g4 k k0 k1 k2
    exact ⟨q1, q2.kept (oq _ (by rw [g2]; omega))⟩
  · exact (g5 q hq).kept (fun x hx _ => oq x hx)
theorem e_H.lt {w : eW} {M : eM} {U : State} {H : Heap} (h : e_H w M U H) : H.size = e_ad w M.1 := by rw [e_ad_ge h.1]; exact h.2.1
theorem e_P1 {D : va_G} {cl : List vw_C} {q : Nat × va_E} {H : Heap} (h : va_at D cl q H) : va_P D cl [q] H := by
  intro k x hx
  cases k with
  | zero => cases hx; exact h
  | succ k => simp at hx
theorem e_cell_ob {w : eW} {M : eM} {o ci : Nat} (h : (M.2.1 o).1 = ci) (hc : ci < 20) : e_cell w M o = .inr (ci, e_fs w M o (e_fk ci)) := by
  unfold e_cell
  rw [h, if_pos hc]
theorem e_fs_get (w : eW) (M : eM) (a : Nat) {ks : List Nat} {j : Nat} (h : j < ks.length) : (e_fs w M a ks)[j]? = some (e_cv w (e_gv M a j (ks.getD j 0))) := by
  simp [e_fs, h]
theorem e_fs_len (w : eW) (M : eM) (a : Nat) (ks : List Nat) : (e_fs w M a ks).length = ks.length := by simp [e_fs]
theorem e_fs_si (w : eW) (M : eM) (a : Nat) {ks : List Nat} {j : Nat} (x : Int32) (h1 : ks.getD j 0 ≠ 1) (h2 : ks.getD j 0 ≠ 2) : e_fs w (e_si M a j x) a ks = (e_fs w M a ks).set j (.int x) := by
  apply List.ext_getElem?
  intro i
  rw [List.getElem?_set]
  by_cases hi : i < ks.length
  · rw [e_fs_get w _ a hi, e_fs_get w _ a hi]
    by_cases hij : j = i
    · subst hij
      rw [if_pos rfl, if_pos (by rw [e_fs_len]; exact hi)]
      unfold e_gv
      rw [if_neg h1, if_neg h2]
      simp [e_si, e_u, e_cv]
    · rw [if_neg hij]
      have : i ≠ j := fun e => hij e.symm
      simp [e_gv, e_si, e_u, this]
  · have h3 : (e_fs w (e_si M a j x) a ks)[i]? = none := by rw [List.getElem?_eq_none_iff, e_fs_len]; omega
    have h4 : (e_fs w M a ks)[i]? = none := by rw [List.getElem?_eq_none_iff, e_fs_len]; omega
    rw [h3, h4]
    by_cases hij : j = i
    · rw [if_pos hij, if_neg (by rw [e_fs_len]; omega)]
    · rw [if_neg hij]
theorem e_fs_sl (w : eW) (M : eM) (a : Nat) {ks : List Nat} {j : Nat} (x : Int64) (h1 : ks.getD j 0 = 1) : e_fs w (e_sl M a j x) a ks = (e_fs w M a ks).set j (.long x) := by
  apply List.ext_getElem?
  intro i
  rw [List.getElem?_set]
  by_cases hi : i < ks.length
  · rw [e_fs_get w _ a hi, e_fs_get w _ a hi]
    by_cases hij : j = i
    · subst hij
      rw [if_pos rfl, if_pos (by rw [e_fs_len]; exact hi)]
      unfold e_gv
      rw [if_pos h1]
      simp [e_sl, e_u, e_cv]
    · rw [if_neg hij]
      have : i ≠ j := fun e => hij e.symm
      simp [e_gv, e_sl, e_u, this]
  · have h3 : (e_fs w (e_sl M a j x) a ks)[i]? = none := by rw [List.getElem?_eq_none_iff, e_fs_len]; omega
    have h4 : (e_fs w M a ks)[i]? = none := by rw [List.getElem?_eq_none_iff, e_fs_len]; omega
    rw [h3, h4]
    by_cases hij : j = i
    · rw [if_pos hij, if_neg (by rw [e_fs_len]; omega)]
    · rw [if_neg hij]
theorem e_fs_sr (w : eW) (M : eM) (a : Nat) {ks : List Nat} {j : Nat} (x : Nat) (h1 : ks.getD j 0 = 2) : e_fs w (e_sr M a j x) a ks = (e_fs w M a ks).set j (e_rv w x) := by
  apply List.ext_getElem?
  intro i
  rw [List.getElem?_set]
  by_cases hi : i < ks.length
  · rw [e_fs_get w _ a hi, e_fs_get w _ a hi]
    by_cases hij : j = i
    · subst hij
      rw [if_pos rfl, if_pos (by rw [e_fs_len]; exact hi)]
      unfold e_gv
      rw [if_neg (by rw [h1]; decide), if_pos h1]
      simp [e_sr, e_u, e_cv]
    · rw [if_neg hij]
      have : i ≠ j := fun e => hij e.symm
      simp [e_gv, e_sr, e_u, this]
  · have h3 : (e_fs w (e_sr M a j x) a ks)[i]? = none := by rw [List.getElem?_eq_none_iff, e_fs_len]; omega
    have h4 : (e_fs w M a ks)[i]? = none := by rw [List.getElem?_eq_none_iff, e_fs_len]; omega
    rw [h3, h4]
    by_cases hij : j = i
    · rw [if_pos hij, if_neg (by rw [e_fs_len]; omega)]
    · rw [if_neg hij]
end
section
/-! ===== the tables' rows, looked at by program: each word by its place ===== -/
def e_at (p : Nat) (w : Cond) : Bool := decide (lw_tbl[p]? = some w) && goodWord w
theorem e_at_big {p : Nat} {w : Cond} (h : e_at p w = true) : w ∈ e_big := by
  unfold e_at at h
  rw [Bool.and_eq_true, decide_eq_true_eq] at h
  exact List.mem_filter.mpr ⟨List.mem_of_getElem? h.1, h.2⟩
def e_ln : Instr → Nat
  | .aload _ | .iload _ | .lload _ | .istore _ | .astore _ | .lstore _ | .bipush _ | .ldc _ | .newarray _ => 2
  | .sipush _ | .ldc_w _ | .ldc2_w _ | .getfield _ | .putfield _ | .getstatic _ | .new _ | .anewarray _ | .invokevirtual _ | .invokespecial _ | .invokestatic _ => 3
  | .goto _ | .ifCond _ _ | .if_icmp _ _ | .ifnull _ | .ifnonnull _ | .iinc _ _ => 3
  | .tableswitch _ _ _ _ | .lookupswitch _ _ => 0
  | _ => 1
def e_kty (kind : Nat) (ty : FieldType) : Bool := match ty with
  | .int => kind == 0
  | .long => kind == 1
  | .boolean => kind == 3
  | .object _ | .array _ => kind == 2
  | _ => false
def e_ats : List Cond → List Nat → Bool
  | [], _ => true
  | w :: ws, p :: ps => e_at p w && e_ats ws ps
  | _ :: _, [] => false
theorem e_ats_big : ∀ {ws : List Cond} {ps : List Nat}, e_ats ws ps = true → ∀ w ∈ ws, w ∈ e_big
  | [], _, _, w, hw => by cases hw
  | v :: ws, [], h, w, hw => by cases h
  | v :: ws, p :: ps, h, w, hw => by
    unfold e_ats at h
    rw [Bool.and_eq_true] at h
    rcases List.mem_cons.mp hw with rfl | hw
    · exact e_at_big h.1
    · exact e_ats_big h.2 w hw
def e_clokW (ci : Nat) (ps : List Nat) : Bool := match e_cl[ci]? with
  | some q => e_ats (u_ws q.1 q.2.1 q.2.2) ps
  | none => false
def e_clokT (ci : Nat) : Bool := match e_cl[ci]?, e_ys[ci]? with
  | some q, some y => (List.range q.2.2).all (fun k => decide (parseFieldDescriptor (q.2.1 k).2.2.1 = some (y k)) && e_kty ((e_fk ci).getD k 0) (y k)) && decide ((e_fk ci).length = q.2.2)
  | _, _ => false
def e_nd : List String → Bool
  | [] => true
  | a :: l => !(l.contains a) && e_nd l
def e_clokN (ci : Nat) : Bool := match e_cl[ci]? with
  | some q => e_nd ((List.range q.2.2).map (fun k => (q.2.1 k).2.1))
  | none => false
theorem e_nd_ne : ∀ {l : List String}, e_nd l = true → ∀ (i j : Nat) (a b : String), l[i]? = some a → l[j]? = some b → i ≠ j → a ≠ b
  | [], _, i, j, a, b, h, _, _ => by simp at h
  | c :: l, hn, i, j, a, b, h1, h2, hij => by
    unfold e_nd at hn
    simp only [Bool.and_eq_true, Bool.not_eq_true', List.contains_eq_mem, decide_eq_false_iff_not] at hn
    cases i with
    | zero =>
      cases j with
      | zero => exact absurd rfl hij
      | succ j =>
        rw [List.getElem?_cons_zero] at h1
        rw [List.getElem?_cons_succ] at h2
        cases h1
        exact fun e => hn.1 (by rw [e]; exact List.mem_of_getElem? h2)
    | succ i =>
      rw [List.getElem?_cons_succ] at h1
      cases j with
      | zero =>
        rw [List.getElem?_cons_zero] at h2
        cases h2
        exact fun e => hn.1 (by rw [← e]; exact List.mem_of_getElem? h1)
      | succ j =>
        rw [List.getElem?_cons_succ] at h2
        exact e_nd_ne hn.2 i j a b h1 h2 (fun e => hij (by rw [e]))

theorem e_cp0 : e_clokW 0 [191, 193, 195] = true := by decide +kernel
theorem e_ct0 : e_clokT 0 = true := by decide +kernel
theorem e_cn0 : e_clokN 0 = true := by decide +kernel
theorem e_cp1 : e_clokW 1 [383, 385] = true := by decide +kernel
theorem e_ct1 : e_clokT 1 = true := by decide +kernel
theorem e_cn1 : e_clokN 1 = true := by decide +kernel
theorem e_cp2 : e_clokW 2 [272, 274, 276, 278, 280, 282, 284, 286] = true := by decide +kernel
theorem e_ct2 : e_clokT 2 = true := by decide +kernel
theorem e_cn2 : e_clokN 2 = true := by decide +kernel
theorem e_cp3 : e_clokW 3 [304, 306, 308, 310, 312] = true := by decide +kernel
theorem e_ct3 : e_clokT 3 = true := by decide +kernel
theorem e_cn3 : e_clokN 3 = true := by decide +kernel
theorem e_cp4 : e_clokW 4 [423, 425, 427, 429, 431, 433, 435, 437, 439, 441, 443, 445, 447, 449, 451, 453] = true := by decide +kernel
theorem e_ct4 : e_clokT 4 = true := by decide +kernel
theorem e_cn4 : e_clokN 4 = true := by decide +kernel
theorem e_cp5 : e_clokW 5 [1084, 1086, 1088] = true := by decide +kernel
theorem e_ct5 : e_clokT 5 = true := by decide +kernel
theorem e_cn5 : e_clokN 5 = true := by decide +kernel
theorem e_cp6 : e_clokW 6 [587, 589, 591, 593, 595, 597, 599, 601, 603, 605, 607, 609, 611, 613, 615, 617, 619, 621] = true := by decide +kernel
theorem e_ct6 : e_clokT 6 = true := by decide +kernel
theorem e_cn6 : e_clokN 6 = true := by decide +kernel
theorem e_cp7 : e_clokW 7 [173, 175, 177] = true := by decide +kernel
theorem e_ct7 : e_clokT 7 = true := by decide +kernel
theorem e_cn7 : e_clokN 7 = true := by decide +kernel
theorem e_cp8 : e_clokW 8 [499, 501, 503, 505, 507, 509, 511] = true := by decide +kernel
theorem e_ct8 : e_clokT 8 = true := by decide +kernel
theorem e_cn8 : e_clokN 8 = true := by decide +kernel
theorem e_cp9 : e_clokW 9 [345, 347, 349, 351, 353, 355, 357, 359, 361, 363, 365, 367, 369] = true := by decide +kernel
theorem e_ct9 : e_clokT 9 = true := by decide +kernel
theorem e_cn9 : e_clokN 9 = true := by decide +kernel
theorem e_cp10 : e_clokW 10 [215, 217, 219, 221, 223, 225, 227, 229, 231] = true := by decide +kernel
theorem e_ct10 : e_clokT 10 = true := by decide +kernel
theorem e_cn10 : e_clokN 10 = true := by decide +kernel
theorem e_cp11 : e_clokW 11 [636, 638, 640, 642, 644, 646, 648, 650, 652, 654, 656] = true := by decide +kernel
theorem e_ct11 : e_clokT 11 = true := by decide +kernel
theorem e_cn11 : e_clokN 11 = true := by decide +kernel
theorem e_cp12 : e_clokW 12 [1720, 1722, 1724, 1726, 1728, 1730, 1732, 1734, 1736, 1738, 1740, 1742, 1744, 1746, 1748, 1750, 1752, 1754, 1756, 1758, 1760, 1762, 1764, 1766, 1768, 1770, 1772, 1774, 1776, 1778, 1780, 1782, 1784, 1786, 1788, 1790, 1792, 1794, 1796, 1798, 1800, 1802, 1804, 1806, 1808, 1810, 1812, 1814, 1816, 1818, 1820, 1822, 1824, 1826, 1828, 1830, 1832, 1834, 1836, 1838, 1840, 1842, 1844, 1846, 1848, 1850, 1852, 1854, 1856, 1858, 1860, 1862, 1864, 1866, 1868, 1870, 1872, 1874, 1876, 1878, 1880, 1882, 1884, 1886, 1888, 1890, 1892, 1894, 1896, 1898, 1900, 1902] = true := by decide +kernel
theorem e_ct12 : e_clokT 12 = true := by decide +kernel
theorem e_cn12 : e_clokN 12 = true := by decide +kernel
theorem e_cl_ok : ∀ (ci : Nat) (q : vw_C), e_cl[ci]? = some q → (∃ ps, e_clokW ci ps = true) ∧ e_clokT ci = true ∧ e_clokN ci = true
  | 0, _, _ => ⟨⟨_, e_cp0⟩, e_ct0, e_cn0⟩
  | 1, _, _ => ⟨⟨_, e_cp1⟩, e_ct1, e_cn1⟩
  | 2, _, _ => ⟨⟨_, e_cp2⟩, e_ct2, e_cn2⟩
  | 3, _, _ => ⟨⟨_, e_cp3⟩, e_ct3, e_cn3⟩
  | 4, _, _ => ⟨⟨_, e_cp4⟩, e_ct4, e_cn4⟩
  | 5, _, _ => ⟨⟨_, e_cp5⟩, e_ct5, e_cn5⟩
  | 6, _, _ => ⟨⟨_, e_cp6⟩, e_ct6, e_cn6⟩
  | 7, _, _ => ⟨⟨_, e_cp7⟩, e_ct7, e_cn7⟩
  | 8, _, _ => ⟨⟨_, e_cp8⟩, e_ct8, e_cn8⟩
  | 9, _, _ => ⟨⟨_, e_cp9⟩, e_ct9, e_cn9⟩
  | 10, _, _ => ⟨⟨_, e_cp10⟩, e_ct10, e_cn10⟩
  | 11, _, _ => ⟨⟨_, e_cp11⟩, e_ct11, e_cn11⟩
  | 12, _, _ => ⟨⟨_, e_cp12⟩, e_ct12, e_cn12⟩
  | n + 13, q, h => by simp [e_cl] at h
theorem e_cl_f {ci : Nat} {q : vw_C} (h : e_cl[ci]? = some q) : ∃ y : Nat → FieldType, (∀ w ∈ u_ws q.1 q.2.1 q.2.2, w ∈ e_big) ∧ (∀ k, k < q.2.2 → parseFieldDescriptor (q.2.1 k).2.2.1 = some (y k)) ∧ (∀ k, k < q.2.2 → e_kty ((e_fk ci).getD k 0) (y k) = true) ∧ (e_fk ci).length = q.2.2 ∧ ∀ a, a < q.2.2 → ∀ b, b < q.2.2 → a ≠ b → (q.2.1 a).2.1 ≠ (q.2.1 b).2.1 := by
  obtain ⟨⟨ps, h1⟩, h2, h3⟩ := e_cl_ok ci q h
  unfold e_clokW at h1
  unfold e_clokT at h2
  unfold e_clokN at h3
  rw [h] at h1 h2 h3
  cases hy : e_ys[ci]? with
  | none => rw [hy] at h2; cases h2
  | some y =>
    rw [hy] at h2
    simp only [Bool.and_eq_true, List.all_eq_true, decide_eq_true_eq, List.mem_range] at h2
    refine ⟨y, e_ats_big h1, fun k hk => (h2.1 k hk).1, fun k hk => (h2.1 k hk).2, h2.2, fun a ha b hb hab => ?_⟩
    exact e_nd_ne h3 a b _ _ (by rw [List.getElem?_map, List.getElem?_range ha]; rfl) (by rw [List.getElem?_map, List.getElem?_range hb]; rfl) hab
/-- the five methods that throw -/
def e_thn (own nm : String) : Bool := own == "TierMill" && ["load", "run", "output", "local", "part"].contains nm
/-- a field's link, by its class and place -/
def e_okF (own : String) (x a b : Nat) (ps : List Nat) : Bool := match e_cl[a]? with
  | some q => decide (b < q.2.2) && e_ats [.fieldLink own x (q.2.1 b).1 (q.2.1 b).2.1 (q.2.1 b).2.2.1] ps
  | none => false
def e_m (j : Nat) : MethodName × ByteArray × Nat × Option FieldType × List (Nat × Instr × Nat × Nat × Nat × Int) := e_ms.getD j (⟨"", "", ""⟩, .empty, 0, none, [])
def e_pn (j : Nat) : Nat := e_pns.getD j 999
/-- a callee: its code, its class, how many it takes -/
def e_okM (j na : Nat) (ps : List Nat) : Bool := e_ats [.code (e_m j).1 (e_m j).2.1 (e_m j).2.2.1 (e_m j).2.2.2.1, .initialized (e_m j).1.cls] ps && (decide ((e_m j).1.cls ≠ "java/lang/invoke/MethodHandle") && (decide ((e_m j).1.cls ≠ "java/lang/invoke/VarHandle") && (decide ((parseMethodDescriptor (e_m j).1.desc).map (fun d => d.parameters.length) = some na) && (decide ((e_m j).2.2.1 ≤ 45) && plainName (e_m j).1.cls))))
def e_okI (own nm : String) (pc : Nat) (q : eI) (ps : List Nat) : Bool :=
  (e_ln q.1 == 0 || q.2.1 == e_ln q.1) && match q.1 with
  | .getfield x => decide (20 ≤ q.2.2.1) || e_okF own x q.2.2.1 q.2.2.2.1 ps
  | .putfield x => decide (20 ≤ q.2.2.1) || (e_okF own x q.2.2.1 q.2.2.2.1 ps && (match e_cl[q.2.2.1]? with | some r => (!(r.2.1 q.2.2.2.1).2.2.2) || (nm == "<init>" && (r.2.1 q.2.2.2.1).1 == own) | none => false))
  | .getstatic x => decide (q.2.2.1 = 0) || decide ((own, x, (if q.2.2.1 = 2 then "SIZES" else if q.2.2.1 = 3 then "TAKES" else "PUTS"), q.2.2.1) ∈ e_nsF)
  | .ldc x => q.2.2.1 != 0 || e_ats [.constant own x (Int32.ofInt q.2.2.2.2)] ps
  | .ldc_w x => q.2.2.1 != 0 || e_ats [.constant own x (Int32.ofInt q.2.2.2.2)] ps
  | .ldc2_w x => e_ats [.constantLong own x (Int64.ofInt q.2.2.2.2)] ps
  | .new x => (decide (20 ≤ q.2.2.1) && (!(decide (91 ≤ q.2.2.1 ∧ q.2.2.1 ≤ 94)) || e_thn own nm)) || (match e_cl[q.2.2.1]? with | some r => e_ats [.classLink own x r.1, .instantiable r.1 r.2.2, .initialized r.1] ps | none => false)
  | .newarray t => (q.2.2.1 == 20 && (t == .int && e_ats [.arrayClass .int] ps)) || ((q.2.2.1 == 21 && (t == .long && e_ats [.arrayClass .long] ps)) || ((q.2.2.1 == 22 && (t == .boolean && e_ats [.arrayClass .boolean] ps)) || q.2.2.1 == 99))
  | .anewarray x => (q.2.2.1 == 23 && e_ats [.classLink own x "TierMill$Plan"] ps) || (q.2.2.1 == 24 && e_ats [.classLink own x "TierMill$Shape"] ps)
  | .invokevirtual x => decide (900 ≤ q.2.2.1) || (decide (q.2.2.1 < 236 ∧ q.2.2.2.2.toNat = e_pn q.2.2.1) && (e_ats [.methodLink own x (e_m q.2.2.1).1, .instanceMethod (e_m q.2.2.1).1, .selects (e_m q.2.2.1).1.cls (e_m q.2.2.1).1 (e_m q.2.2.1).1] ps && (match e_cl[q.2.2.2.1]? with | some r => r.1 == (e_m q.2.2.1).1.cls | none => false)))
  | .invokespecial x => if q.2.2.1 = 900 then e_ats [.methodLink own x objectInit, .instanceMethod objectInit, .code objectInit ⟨#[0xb1]⟩ 1 none] ps else decide (900 < q.2.2.1) || (decide (q.2.2.1 < 236 ∧ q.2.2.2.2.toNat = e_pn q.2.2.1) && ((e_m q.2.2.1).2.2.2.1 == none && ((e_m q.2.2.1).1.name == "<init>" && (if q.2.2.2.1 = 1 then e_ats [.instanceMethod (e_m q.2.2.1).1] ps && decide ((own, x, (e_m q.2.2.1).1) ∈ e_nsM) else e_ats [.instanceMethod (e_m q.2.2.1).1, .methodLink own x (e_m q.2.2.1).1] ps))))
  | .invokestatic x => if q.2.2.1 = 901 then e_ats [.methodLink own x arraycopyName, .native arraycopyName, .static arraycopyName, .initialized "java/lang/System"] ps else decide (900 ≤ q.2.2.1) || (decide (q.2.2.1 < 236 ∧ q.2.2.2.2.toNat = e_pn q.2.2.1) && e_ats [.methodLink own x (e_m q.2.2.1).1, .static (e_m q.2.2.1).1] ps)
  | .goto o => (pc : Int) + o == (q.2.2.1 : Int)
  | .ifCond _ o => (pc : Int) + o == (q.2.2.1 : Int)
  | .if_icmp _ o => (pc : Int) + o == (q.2.2.1 : Int)
  | .ifnull o => (pc : Int) + o == (q.2.2.1 : Int)
  | .ifnonnull o => (pc : Int) + o == (q.2.2.1 : Int)
  | .tableswitch d _ _ offs => decide (0 ≤ (pc : Int) + d) && offs.toList.all (fun o => decide (0 ≤ (pc : Int) + o))
  | .lookupswitch d ps => (ps.toList.zip (ps.toList.drop 1)).all (fun (a, next) => a.1 < next.1) && (decide (0 ≤ (pc : Int) + d) && ps.toList.all (fun o => decide (0 ≤ (pc : Int) + o.2)))
  | _ => true
theorem e_len {n k : Nat} (h : n + 1 = 0 ∨ k = n + 1) : k = n + 1 := h.resolve_left (Nat.succ_ne_zero n)
/-- an instruction of a method: its bytes, its links -/
def e_okD (own nm : String) (cc : ByteArray) : List (Nat × Instr × Nat × Nat × Nat × Int) → List (List Nat) → Bool
  | [], _ => true
  | q :: qs, p :: ps => decide (decode cc q.1 = .ok (q.2.1, q.2.2.1)) && (e_okI own nm q.1 q.2 p && e_okD own nm cc qs ps)
  | _ :: _, [] => false
theorem e_okD_f {own nm : String} {cc : ByteArray} : ∀ {qs : List (Nat × Instr × Nat × Nat × Nat × Int)} {ps : List (List Nat)}, e_okD own nm cc qs ps = true → ∀ {pc : Nat} {q : eI}, (pc, q) ∈ qs → decode cc pc = .ok (q.1, q.2.1) ∧ ∃ p, e_okI own nm pc q p = true
  | [], _, _, pc, q, hq => by cases hq
  | x :: qs, [], h, pc, q, hq => by cases h
  | x :: qs, p :: ps, h, pc, q, hq => by
    unfold e_okD at h
    rw [Bool.and_eq_true, Bool.and_eq_true, decide_eq_true_eq] at h
    rcases List.mem_cons.mp hq with e | hq
    · cases e
      exact ⟨h.1, p, h.2.1⟩
    · exact e_okD_f h.2.2 hq
end
section
/-! ===== each instruction of the machine of numbered cells is one of the real machine ===== -/
section SND
variable {p : Program} {l : Launch} {e : Env} {R : Room} {s : State} {m : MethodId} {args : Array Value} {below : List Frame} {meth : Method} {c : Code} {Qf : State → Prop} {w : eW}
/-- where k holds, the real machine comes to its end -/
def e_Go (p : Program) (l : Launch) (e : Env) (R : Room) (s : State) (m : MethodId) (args : Array Value) (below : List Frame) (meth : Method) (c : Code) (Qf : State → Prop) (w : eW) (nL : Nat) (k : eK) : Prop :=
  ∀ (kc ks pc : Nat) (lv : eL) (st : List Value) (M : eM), k kc ks pc lv st M → ∀ (H : Heap) (locs : List Loc) (cells slots : Nat) (ls : Array Slot), e_H w M s H → va_S (e_A w) s.heap H locs → cells + kc ≤ R.cells → slots + ks ≤ R.slots → lv_has ls nL (lv.map (e_cq w)) → W p l e R s m args below meth c H locs cells slots Qf (F0 m pc ls (st.map (e_cv w)))
variable {cc : ByteArray} {nL : Nat} {k : eK} {H : Heap} {locs : List Loc} {cells slots kc ks pc : Nat} {ls : Array Slot} {lv : eL} {M : eM}

theorem es_iconst (hx : p.tables.exec = Jvm.exec) (hb : c.code = cc) (hgo : e_Go p l e R s m args below meth c Qf w nL k) (hH : e_H w M s H) (hS : va_S (e_A w) s.heap H locs) (hc : cells + kc ≤ R.cells) (hs : slots + ks ≤ R.slots) (hl : lv_has ls nL (lv.map (e_cq w))) {st : List Value} {n : Int} (d : decode cc pc = .ok (.iconst n, 1)) (h : k kc ks (pc + 1) lv (.int (Int32.ofInt n) :: st) M) : W p l e R s m args below meth c H locs cells slots Qf (F0 m pc ls (st.map (e_cv w))) := by
  exact lv_iconst hx hb d rfl (hgo _ _ _ _ _ _ h H locs cells slots ls hH hS hc hs hl)
theorem es_bipush (hx : p.tables.exec = Jvm.exec) (hb : c.code = cc) (hgo : e_Go p l e R s m args below meth c Qf w nL k) (hH : e_H w M s H) (hS : va_S (e_A w) s.heap H locs) (hc : cells + kc ≤ R.cells) (hs : slots + ks ≤ R.slots) (hl : lv_has ls nL (lv.map (e_cq w))) {st : List Value} {n : Int} (d : decode cc pc = .ok (.bipush n, 2)) (h : k kc ks (pc + 2) lv (.int (Int8.ofInt n).toInt32 :: st) M) : W p l e R s m args below meth c H locs cells slots Qf (F0 m pc ls (st.map (e_cv w))) := by
  exact lv_bipush hx hb d rfl (hgo _ _ _ _ _ _ h H locs cells slots ls hH hS hc hs hl)
theorem es_sipush (hx : p.tables.exec = Jvm.exec) (hb : c.code = cc) (hgo : e_Go p l e R s m args below meth c Qf w nL k) (hH : e_H w M s H) (hS : va_S (e_A w) s.heap H locs) (hc : cells + kc ≤ R.cells) (hs : slots + ks ≤ R.slots) (hl : lv_has ls nL (lv.map (e_cq w))) {st : List Value} {n : Int} (d : decode cc pc = .ok (.sipush n, 3)) (h : k kc ks (pc + 3) lv (.int (Int16.ofInt n).toInt32 :: st) M) : W p l e R s m args below meth c H locs cells slots Qf (F0 m pc ls (st.map (e_cv w))) := by
  exact lv_sipush hx hb d rfl (hgo _ _ _ _ _ _ h H locs cells slots ls hH hS hc hs hl)
theorem es_lconst (hx : p.tables.exec = Jvm.exec) (hb : c.code = cc) (hgo : e_Go p l e R s m args below meth c Qf w nL k) (hH : e_H w M s H) (hS : va_S (e_A w) s.heap H locs) (hc : cells + kc ≤ R.cells) (hs : slots + ks ≤ R.slots) (hl : lv_has ls nL (lv.map (e_cq w))) {st : List Value} {n : Fin 2} (d : decode cc pc = .ok (.lconst n, 1)) (h : k kc ks (pc + 1) lv (.long (Int64.ofNat (n : Nat)) :: st) M) : W p l e R s m args below meth c H locs cells slots Qf (F0 m pc ls (st.map (e_cv w))) := by
  exact lv_lconst hx hb d rfl (hgo _ _ _ _ _ _ h H locs cells slots ls hH hS hc hs hl)
theorem es_null (hx : p.tables.exec = Jvm.exec) (hb : c.code = cc) (hgo : e_Go p l e R s m args below meth c Qf w nL k) (hH : e_H w M s H) (hS : va_S (e_A w) s.heap H locs) (hc : cells + kc ≤ R.cells) (hs : slots + ks ≤ R.slots) (hl : lv_has ls nL (lv.map (e_cq w))) {st : List Value} (d : decode cc pc = .ok (.aconst_null, 1)) (h : k kc ks (pc + 1) lv (.ref 0 :: st) M) : W p l e R s m args below meth c H locs cells slots Qf (F0 m pc ls (st.map (e_cv w))) := by
  exact lv_null hx hb d (hgo _ _ _ _ _ _ h H locs cells slots ls hH hS hc hs hl)
theorem es_ldc (hx : p.tables.exec = Jvm.exec) (hb : c.code = cc) (hgo : e_Go p l e R s m args below meth c Qf w nL k) (hH : e_H w M s H) (hS : va_S (e_A w) s.heap H locs) (hc : cells + kc ≤ R.cells) (hs : slots + ks ≤ R.slots) (hl : lv_has ls nL (lv.map (e_cq w))) {st : List Value} {x : Nat} {z : Int} {own : String} (ho : s.vm.findClass own = some m.cls) (d : decode cc pc = .ok (.ldc x, 2)) (hk : (Cond.constant own x (Int32.ofInt z)).before args s = true) (h : k kc ks (pc + 2) lv (.int (Int32.ofInt z) :: st) M) : W p l e R s m args below meth c H locs cells slots Qf (F0 m pc ls (st.map (e_cv w))) := by
  exact lv_ldc hx hb ho hk d (hgo _ _ _ _ _ _ h H locs cells slots ls hH hS hc hs hl)
theorem es_ldc_w (hx : p.tables.exec = Jvm.exec) (hb : c.code = cc) (hgo : e_Go p l e R s m args below meth c Qf w nL k) (hH : e_H w M s H) (hS : va_S (e_A w) s.heap H locs) (hc : cells + kc ≤ R.cells) (hs : slots + ks ≤ R.slots) (hl : lv_has ls nL (lv.map (e_cq w))) {st : List Value} {x : Nat} {z : Int} {own : String} (ho : s.vm.findClass own = some m.cls) (d : decode cc pc = .ok (.ldc_w x, 3)) (hk : (Cond.constant own x (Int32.ofInt z)).before args s = true) (h : k kc ks (pc + 3) lv (.int (Int32.ofInt z) :: st) M) : W p l e R s m args below meth c H locs cells slots Qf (F0 m pc ls (st.map (e_cv w))) := by
  exact lv_ldcw hx hb ho hk d (hgo _ _ _ _ _ _ h H locs cells slots ls hH hS hc hs hl)
theorem es_ldc2 (hx : p.tables.exec = Jvm.exec) (hb : c.code = cc) (hgo : e_Go p l e R s m args below meth c Qf w nL k) (hH : e_H w M s H) (hS : va_S (e_A w) s.heap H locs) (hc : cells + kc ≤ R.cells) (hs : slots + ks ≤ R.slots) (hl : lv_has ls nL (lv.map (e_cq w))) {st : List Value} {x : Nat} {z : Int} {own : String} (ho : s.vm.findClass own = some m.cls) (d : decode cc pc = .ok (.ldc2_w x, 3)) (hk : (Cond.constantLong own x (Int64.ofInt z)).before args s = true) (h : k kc ks (pc + 3) lv (.long (Int64.ofInt z) :: st) M) : W p l e R s m args below meth c H locs cells slots Qf (F0 m pc ls (st.map (e_cv w))) := by
  exact lv_ldc2 hx hb ho hk d (hgo _ _ _ _ _ _ h H locs cells slots ls hH hS hc hs hl)
theorem es_iload_n (hx : p.tables.exec = Jvm.exec) (hb : c.code = cc) (hgo : e_Go p l e R s m args below meth c Qf w nL k) (hH : e_H w M s H) (hS : va_S (e_A w) s.heap H locs) (hc : cells + kc ≤ R.cells) (hs : slots + ks ≤ R.slots) (hl : lv_has ls nL (lv.map (e_cq w))) {st : List Value} {j : Fin 4} (d : decode cc pc = .ok (.iload_n j, 1)) (h : e_ld lv j e_isI fun v => k kc ks (pc + 1) lv (v :: st) M) : W p l e R s m args below meth c H locs cells slots Qf (F0 m pc ls (st.map (e_cv w))) := by
  obtain ⟨v, h1, h2, h⟩ := e_lk_inv h
  cases v with
  | int x => exact lv_iload_n hx hb d rfl (e_lv_at hl h1) (hgo _ _ _ _ _ _ h H locs cells slots ls hH hS hc hs hl)
  | _ => cases h2
theorem es_iload (hx : p.tables.exec = Jvm.exec) (hb : c.code = cc) (hgo : e_Go p l e R s m args below meth c Qf w nL k) (hH : e_H w M s H) (hS : va_S (e_A w) s.heap H locs) (hc : cells + kc ≤ R.cells) (hs : slots + ks ≤ R.slots) (hl : lv_has ls nL (lv.map (e_cq w))) {st : List Value} {j : Nat} (d : decode cc pc = .ok (.iload j, 2)) (h : e_ld lv j e_isI fun v => k kc ks (pc + 2) lv (v :: st) M) : W p l e R s m args below meth c H locs cells slots Qf (F0 m pc ls (st.map (e_cv w))) := by
  obtain ⟨v, h1, h2, h⟩ := e_lk_inv h
  cases v with
  | int x => exact lv_iload hx hb d (e_lv_at hl h1) (hgo _ _ _ _ _ _ h H locs cells slots ls hH hS hc hs hl)
  | _ => cases h2
theorem es_lload_n (hx : p.tables.exec = Jvm.exec) (hb : c.code = cc) (hgo : e_Go p l e R s m args below meth c Qf w nL k) (hH : e_H w M s H) (hS : va_S (e_A w) s.heap H locs) (hc : cells + kc ≤ R.cells) (hs : slots + ks ≤ R.slots) (hl : lv_has ls nL (lv.map (e_cq w))) {st : List Value} {j : Fin 4} (d : decode cc pc = .ok (.lload_n j, 1)) (h : e_ld lv j e_isL fun v => k kc ks (pc + 1) lv (v :: st) M) : W p l e R s m args below meth c H locs cells slots Qf (F0 m pc ls (st.map (e_cv w))) := by
  obtain ⟨v, h1, h2, h⟩ := e_lk_inv h
  cases v with
  | long x => exact lv_lload_n hx hb d rfl (e_lv_at hl h1) (hgo _ _ _ _ _ _ h H locs cells slots ls hH hS hc hs hl)
  | _ => cases h2
theorem es_lload (hx : p.tables.exec = Jvm.exec) (hb : c.code = cc) (hgo : e_Go p l e R s m args below meth c Qf w nL k) (hH : e_H w M s H) (hS : va_S (e_A w) s.heap H locs) (hc : cells + kc ≤ R.cells) (hs : slots + ks ≤ R.slots) (hl : lv_has ls nL (lv.map (e_cq w))) {st : List Value} {j : Nat} (d : decode cc pc = .ok (.lload j, 2)) (h : e_ld lv j e_isL fun v => k kc ks (pc + 2) lv (v :: st) M) : W p l e R s m args below meth c H locs cells slots Qf (F0 m pc ls (st.map (e_cv w))) := by
  obtain ⟨v, h1, h2, h⟩ := e_lk_inv h
  cases v with
  | long x => exact lv_lload hx hb d (e_lv_at hl h1) (hgo _ _ _ _ _ _ h H locs cells slots ls hH hS hc hs hl)
  | _ => cases h2
theorem es_aload_n (hx : p.tables.exec = Jvm.exec) (hb : c.code = cc) (hgo : e_Go p l e R s m args below meth c Qf w nL k) (hH : e_H w M s H) (hS : va_S (e_A w) s.heap H locs) (hc : cells + kc ≤ R.cells) (hs : slots + ks ≤ R.slots) (hl : lv_has ls nL (lv.map (e_cq w))) {st : List Value} {j : Fin 4} (d : decode cc pc = .ok (.aload_n j, 1)) (h : e_ld lv j e_isR fun v => k kc ks (pc + 1) lv (v :: st) M) : W p l e R s m args below meth c H locs cells slots Qf (F0 m pc ls (st.map (e_cv w))) := by
  obtain ⟨v, h1, h2, h⟩ := e_lk_inv h
  cases v with
  | ref x =>
    have h3 := e_lv_at hl h1
    have h4 := hgo _ _ _ _ _ _ h H locs cells slots ls hH hS hc hs hl
    have e1 : e_cv w (.ref x) = e_rv w x := rfl
    rw [List.map_cons, e1] at h4
    rw [e1] at h3
    unfold e_rv at h3 h4
    split at h3
    · rw [if_pos (by assumption)] at h4; exact lv_aload_nN hx hb d rfl h3 h4
    · rw [if_neg (by assumption)] at h4; exact lv_aload_n hx hb d rfl h3 h4
  | _ => cases h2
theorem es_aload (hx : p.tables.exec = Jvm.exec) (hb : c.code = cc) (hgo : e_Go p l e R s m args below meth c Qf w nL k) (hH : e_H w M s H) (hS : va_S (e_A w) s.heap H locs) (hc : cells + kc ≤ R.cells) (hs : slots + ks ≤ R.slots) (hl : lv_has ls nL (lv.map (e_cq w))) {st : List Value} {j : Nat} (d : decode cc pc = .ok (.aload j, 2)) (h : e_ld lv j e_isR fun v => k kc ks (pc + 2) lv (v :: st) M) : W p l e R s m args below meth c H locs cells slots Qf (F0 m pc ls (st.map (e_cv w))) := by
  obtain ⟨v, h1, h2, h⟩ := e_lk_inv h
  cases v with
  | ref x =>
    have h3 := e_lv_at hl h1
    have h4 := hgo _ _ _ _ _ _ h H locs cells slots ls hH hS hc hs hl
    have e1 : e_cv w (.ref x) = e_rv w x := rfl
    rw [List.map_cons, e1] at h4
    rw [e1] at h3
    unfold e_rv at h3 h4
    split at h3
    · rw [if_pos (by assumption)] at h4; exact lv_aloadN hx hb d h3 h4
    · rw [if_neg (by assumption)] at h4; exact lv_aload hx hb d h3 h4
  | _ => cases h2
theorem es_istore_n (hx : p.tables.exec = Jvm.exec) (hb : c.code = cc) (hgo : e_Go p l e R s m args below meth c Qf w nL k) (hH : e_H w M s H) (hS : va_S (e_A w) s.heap H locs) (hc : cells + kc ≤ R.cells) (hs : slots + ks ≤ R.slots) (hl : lv_has ls nL (lv.map (e_cq w))) {r : List Value} {j : Fin 4} {x : Int32} (d : decode cc pc = .ok (.istore_n j, 1)) (h1 : (j : Nat) < nL) (h : k kc ks (pc + 1) (e_s1 lv j (.int x)) r M) : W p l e R s m args below meth c H locs cells slots Qf (F0 m pc ls ((.int x :: r).map (e_cv w))) := by
  exact lv_istore_n hx hb d rfl hl h1 (e_s1_map w lv j (.int x)) fun ls hl => hgo _ _ _ _ _ _ h H locs cells slots ls hH hS hc hs hl
theorem es_istore (hx : p.tables.exec = Jvm.exec) (hb : c.code = cc) (hgo : e_Go p l e R s m args below meth c Qf w nL k) (hH : e_H w M s H) (hS : va_S (e_A w) s.heap H locs) (hc : cells + kc ≤ R.cells) (hs : slots + ks ≤ R.slots) (hl : lv_has ls nL (lv.map (e_cq w))) {r : List Value} {j : Nat} {x : Int32} (d : decode cc pc = .ok (.istore j, 2)) (h1 : (j : Nat) < nL) (h : k kc ks (pc + 2) (e_s1 lv j (.int x)) r M) : W p l e R s m args below meth c H locs cells slots Qf (F0 m pc ls ((.int x :: r).map (e_cv w))) := by
  exact lv_istore hx hb d hl h1 (e_s1_map w lv j (.int x)) fun ls hl => hgo _ _ _ _ _ _ h H locs cells slots ls hH hS hc hs hl
theorem es_lstore_n (hx : p.tables.exec = Jvm.exec) (hb : c.code = cc) (hgo : e_Go p l e R s m args below meth c Qf w nL k) (hH : e_H w M s H) (hS : va_S (e_A w) s.heap H locs) (hc : cells + kc ≤ R.cells) (hs : slots + ks ≤ R.slots) (hl : lv_has ls nL (lv.map (e_cq w))) {r : List Value} {j : Fin 4} {x : Int64} (d : decode cc pc = .ok (.lstore_n j, 1)) (h1 : (j : Nat) + 1 < nL) (h : k kc ks (pc + 1) (e_s2 lv j (.long x)) r M) : W p l e R s m args below meth c H locs cells slots Qf (F0 m pc ls ((.long x :: r).map (e_cv w))) := by
  exact lv_lstore_n hx hb d rfl hl h1 (e_s2_map w lv j (.long x)) fun ls hl => hgo _ _ _ _ _ _ h H locs cells slots ls hH hS hc hs hl
theorem es_lstore (hx : p.tables.exec = Jvm.exec) (hb : c.code = cc) (hgo : e_Go p l e R s m args below meth c Qf w nL k) (hH : e_H w M s H) (hS : va_S (e_A w) s.heap H locs) (hc : cells + kc ≤ R.cells) (hs : slots + ks ≤ R.slots) (hl : lv_has ls nL (lv.map (e_cq w))) {r : List Value} {j : Nat} {x : Int64} (d : decode cc pc = .ok (.lstore j, 2)) (h1 : (j : Nat) + 1 < nL) (h : k kc ks (pc + 2) (e_s2 lv j (.long x)) r M) : W p l e R s m args below meth c H locs cells slots Qf (F0 m pc ls ((.long x :: r).map (e_cv w))) := by
  exact lv_lstore hx hb d hl h1 (e_s2_map w lv j (.long x)) fun ls hl => hgo _ _ _ _ _ _ h H locs cells slots ls hH hS hc hs hl
theorem es_astore_n (hx : p.tables.exec = Jvm.exec) (hb : c.code = cc) (hgo : e_Go p l e R s m args below meth c Qf w nL k) (hH : e_H w M s H) (hS : va_S (e_A w) s.heap H locs) (hc : cells + kc ≤ R.cells) (hs : slots + ks ≤ R.slots) (hl : lv_has ls nL (lv.map (e_cq w))) {r : List Value} {j : Fin 4} {x : Nat} (d : decode cc pc = .ok (.astore_n j, 1)) (h1 : (j : Nat) < nL) (h : k kc ks (pc + 1) (e_s1 lv j (.ref x)) r M) : W p l e R s m args below meth c H locs cells slots Qf (F0 m pc ls ((.ref x :: r).map (e_cv w))) := by
  have e2 := e_s1_map w lv j (.ref x)
  have e1 : e_cv w (.ref x) = e_rv w x := rfl
  rw [List.map_cons, e1]
  rw [e1] at e2
  unfold e_rv at e2 ⊢
  split
  · rw [if_pos (by assumption)] at e2; exact lv_astore_nN hx hb d rfl hl h1 e2 fun ls hl => hgo _ _ _ _ _ _ h H locs cells slots ls hH hS hc hs hl
  · rw [if_neg (by assumption)] at e2; exact lv_astore_n hx hb d rfl hl h1 e2 fun ls hl => hgo _ _ _ _ _ _ h H locs cells slots ls hH hS hc hs hl
theorem es_astore (hx : p.tables.exec = Jvm.exec) (hb : c.code = cc) (hgo : e_Go p l e R s m args below meth c Qf w nL k) (hH : e_H w M s H) (hS : va_S (e_A w) s.heap H locs) (hc : cells + kc ≤ R.cells) (hs : slots + ks ≤ R.slots) (hl : lv_has ls nL (lv.map (e_cq w))) {r : List Value} {j : Nat} {x : Nat} (d : decode cc pc = .ok (.astore j, 2)) (h1 : (j : Nat) < nL) (h : k kc ks (pc + 2) (e_s1 lv j (.ref x)) r M) : W p l e R s m args below meth c H locs cells slots Qf (F0 m pc ls ((.ref x :: r).map (e_cv w))) := by
  have e2 := e_s1_map w lv j (.ref x)
  have e1 : e_cv w (.ref x) = e_rv w x := rfl
  rw [List.map_cons, e1]
  rw [e1] at e2
  unfold e_rv at e2 ⊢
  split
  · rw [if_pos (by assumption)] at e2; exact lv_astoreN hx hb d hl h1 e2 fun ls hl => hgo _ _ _ _ _ _ h H locs cells slots ls hH hS hc hs hl
  · rw [if_neg (by assumption)] at e2; exact lv_astore hx hb d hl h1 e2 fun ls hl => hgo _ _ _ _ _ _ h H locs cells slots ls hH hS hc hs hl
theorem es_iinc (hx : p.tables.exec = Jvm.exec) (hb : c.code = cc) (hgo : e_Go p l e R s m args below meth c Qf w nL k) (hH : e_H w M s H) (hS : va_S (e_A w) s.heap H locs) (hc : cells + kc ≤ R.cells) (hs : slots + ks ≤ R.slots) (hl : lv_has ls nL (lv.map (e_cq w))) {st : List Value} {j : Nat} {n : Int} {x : Int32} (d : decode cc pc = .ok (.iinc j n, 3)) (h0 : lv.lookup j = some (.int x)) (h1 : j < nL) (h : k kc ks (pc + 3) (e_s1 lv j (.int (x + Int32.ofInt n))) st M) : W p l e R s m args below meth c H locs cells slots Qf (F0 m pc ls (st.map (e_cv w))) := by
  obtain ⟨i, hi⟩ := List.getElem?_of_mem (List.mem_map.mpr ⟨(j, .int x), e_lu h0, rfl⟩ : e_cq w (j, .int x) ∈ lv.map (e_cq w))
  exact lv_iinc hx hb d hl hi rfl h1 (e_s1_map w lv j (.int (x + Int32.ofInt n))) fun ls hl => hgo _ _ _ _ _ _ h H locs cells slots ls hH hS hc hs hl
theorem es_iadd (hx : p.tables.exec = Jvm.exec) (hb : c.code = cc) (hgo : e_Go p l e R s m args below meth c Qf w nL k) (hH : e_H w M s H) (hS : va_S (e_A w) s.heap H locs) (hc : cells + kc ≤ R.cells) (hs : slots + ks ≤ R.slots) (hl : lv_has ls nL (lv.map (e_cq w))) {r : List Value} {x y : Int32} (d : decode cc pc = .ok (.iadd, 1)) (h : k kc ks (pc + 1) lv (.int (x + y) :: r) M) : W p l e R s m args below meth c H locs cells slots Qf (F0 m pc ls ((.int y :: .int x :: r).map (e_cv w))) := by
  exact lv_iadd hx hb d (hgo _ _ _ _ _ _ h H locs cells slots ls hH hS hc hs hl)
theorem es_isub (hx : p.tables.exec = Jvm.exec) (hb : c.code = cc) (hgo : e_Go p l e R s m args below meth c Qf w nL k) (hH : e_H w M s H) (hS : va_S (e_A w) s.heap H locs) (hc : cells + kc ≤ R.cells) (hs : slots + ks ≤ R.slots) (hl : lv_has ls nL (lv.map (e_cq w))) {r : List Value} {x y : Int32} (d : decode cc pc = .ok (.isub, 1)) (h : k kc ks (pc + 1) lv (.int (x - y) :: r) M) : W p l e R s m args below meth c H locs cells slots Qf (F0 m pc ls ((.int y :: .int x :: r).map (e_cv w))) := by
  exact lv_isub hx hb d (hgo _ _ _ _ _ _ h H locs cells slots ls hH hS hc hs hl)
theorem es_imul (hx : p.tables.exec = Jvm.exec) (hb : c.code = cc) (hgo : e_Go p l e R s m args below meth c Qf w nL k) (hH : e_H w M s H) (hS : va_S (e_A w) s.heap H locs) (hc : cells + kc ≤ R.cells) (hs : slots + ks ≤ R.slots) (hl : lv_has ls nL (lv.map (e_cq w))) {r : List Value} {x y : Int32} (d : decode cc pc = .ok (.imul, 1)) (h : k kc ks (pc + 1) lv (.int (x * y) :: r) M) : W p l e R s m args below meth c H locs cells slots Qf (F0 m pc ls ((.int y :: .int x :: r).map (e_cv w))) := by
  exact lv_imul hx hb d (hgo _ _ _ _ _ _ h H locs cells slots ls hH hS hc hs hl)
theorem es_iand (hx : p.tables.exec = Jvm.exec) (hb : c.code = cc) (hgo : e_Go p l e R s m args below meth c Qf w nL k) (hH : e_H w M s H) (hS : va_S (e_A w) s.heap H locs) (hc : cells + kc ≤ R.cells) (hs : slots + ks ≤ R.slots) (hl : lv_has ls nL (lv.map (e_cq w))) {r : List Value} {x y : Int32} (d : decode cc pc = .ok (.iand, 1)) (h : k kc ks (pc + 1) lv (.int (x &&& y) :: r) M) : W p l e R s m args below meth c H locs cells slots Qf (F0 m pc ls ((.int y :: .int x :: r).map (e_cv w))) := by
  exact lv_iand hx hb d (hgo _ _ _ _ _ _ h H locs cells slots ls hH hS hc hs hl)
theorem es_ior (hx : p.tables.exec = Jvm.exec) (hb : c.code = cc) (hgo : e_Go p l e R s m args below meth c Qf w nL k) (hH : e_H w M s H) (hS : va_S (e_A w) s.heap H locs) (hc : cells + kc ≤ R.cells) (hs : slots + ks ≤ R.slots) (hl : lv_has ls nL (lv.map (e_cq w))) {r : List Value} {x y : Int32} (d : decode cc pc = .ok (.ior, 1)) (h : k kc ks (pc + 1) lv (.int (x ||| y) :: r) M) : W p l e R s m args below meth c H locs cells slots Qf (F0 m pc ls ((.int y :: .int x :: r).map (e_cv w))) := by
  exact lv_ior hx hb d (hgo _ _ _ _ _ _ h H locs cells slots ls hH hS hc hs hl)
theorem es_ixor (hx : p.tables.exec = Jvm.exec) (hb : c.code = cc) (hgo : e_Go p l e R s m args below meth c Qf w nL k) (hH : e_H w M s H) (hS : va_S (e_A w) s.heap H locs) (hc : cells + kc ≤ R.cells) (hs : slots + ks ≤ R.slots) (hl : lv_has ls nL (lv.map (e_cq w))) {r : List Value} {x y : Int32} (d : decode cc pc = .ok (.ixor, 1)) (h : k kc ks (pc + 1) lv (.int (x ^^^ y) :: r) M) : W p l e R s m args below meth c H locs cells slots Qf (F0 m pc ls ((.int y :: .int x :: r).map (e_cv w))) := by
  exact lv_ixor hx hb d (hgo _ _ _ _ _ _ h H locs cells slots ls hH hS hc hs hl)
theorem es_ishl (hx : p.tables.exec = Jvm.exec) (hb : c.code = cc) (hgo : e_Go p l e R s m args below meth c Qf w nL k) (hH : e_H w M s H) (hS : va_S (e_A w) s.heap H locs) (hc : cells + kc ≤ R.cells) (hs : slots + ks ≤ R.slots) (hl : lv_has ls nL (lv.map (e_cq w))) {r : List Value} {x y : Int32} (d : decode cc pc = .ok (.ishl, 1)) (h : k kc ks (pc + 1) lv (.int (x <<< (y &&& 31)) :: r) M) : W p l e R s m args below meth c H locs cells slots Qf (F0 m pc ls ((.int y :: .int x :: r).map (e_cv w))) := by
  exact lv_ishl hx hb d (hgo _ _ _ _ _ _ h H locs cells slots ls hH hS hc hs hl)
theorem es_ishr (hx : p.tables.exec = Jvm.exec) (hb : c.code = cc) (hgo : e_Go p l e R s m args below meth c Qf w nL k) (hH : e_H w M s H) (hS : va_S (e_A w) s.heap H locs) (hc : cells + kc ≤ R.cells) (hs : slots + ks ≤ R.slots) (hl : lv_has ls nL (lv.map (e_cq w))) {r : List Value} {x y : Int32} (d : decode cc pc = .ok (.ishr, 1)) (h : k kc ks (pc + 1) lv (.int (x >>> (y &&& 31)) :: r) M) : W p l e R s m args below meth c H locs cells slots Qf (F0 m pc ls ((.int y :: .int x :: r).map (e_cv w))) := by
  exact lv_ishr hx hb d (hgo _ _ _ _ _ _ h H locs cells slots ls hH hS hc hs hl)
theorem es_iushr (hx : p.tables.exec = Jvm.exec) (hb : c.code = cc) (hgo : e_Go p l e R s m args below meth c Qf w nL k) (hH : e_H w M s H) (hS : va_S (e_A w) s.heap H locs) (hc : cells + kc ≤ R.cells) (hs : slots + ks ≤ R.slots) (hl : lv_has ls nL (lv.map (e_cq w))) {r : List Value} {x y : Int32} (d : decode cc pc = .ok (.iushr, 1)) (h : k kc ks (pc + 1) lv (.int (x.toUInt32 >>> (y.toUInt32 &&& Int32.toUInt32 31)).toInt32 :: r) M) : W p l e R s m args below meth c H locs cells slots Qf (F0 m pc ls ((.int y :: .int x :: r).map (e_cv w))) := by
  exact lv_iushr hx hb d rfl (hgo _ _ _ _ _ _ h H locs cells slots ls hH hS hc hs hl)
theorem es_idiv (hx : p.tables.exec = Jvm.exec) (hb : c.code = cc) (hgo : e_Go p l e R s m args below meth c Qf w nL k) (hH : e_H w M s H) (hS : va_S (e_A w) s.heap H locs) (hc : cells + kc ≤ R.cells) (hs : slots + ks ≤ R.slots) (hl : lv_has ls nL (lv.map (e_cq w))) {r : List Value} {x y : Int32} (d : decode cc pc = .ok (.idiv, 1)) (h0 : ¬ y = 0) (h : k kc ks (pc + 1) lv (.int (x / y) :: r) M) : W p l e R s m args below meth c H locs cells slots Qf (F0 m pc ls ((.int y :: .int x :: r).map (e_cv w))) := by
  exact lv_idiv hx hb d h0 (hgo _ _ _ _ _ _ h H locs cells slots ls hH hS hc hs hl)
theorem es_irem (hx : p.tables.exec = Jvm.exec) (hb : c.code = cc) (hgo : e_Go p l e R s m args below meth c Qf w nL k) (hH : e_H w M s H) (hS : va_S (e_A w) s.heap H locs) (hc : cells + kc ≤ R.cells) (hs : slots + ks ≤ R.slots) (hl : lv_has ls nL (lv.map (e_cq w))) {r : List Value} {x y : Int32} (d : decode cc pc = .ok (.irem, 1)) (h0 : ¬ y = 0) (h : k kc ks (pc + 1) lv (.int (x - x / y * y) :: r) M) : W p l e R s m args below meth c H locs cells slots Qf (F0 m pc ls ((.int y :: .int x :: r).map (e_cv w))) := by
  exact lv_irem hx hb d h0 (hgo _ _ _ _ _ _ h H locs cells slots ls hH hS hc hs hl)
theorem es_ineg (hx : p.tables.exec = Jvm.exec) (hb : c.code = cc) (hgo : e_Go p l e R s m args below meth c Qf w nL k) (hH : e_H w M s H) (hS : va_S (e_A w) s.heap H locs) (hc : cells + kc ≤ R.cells) (hs : slots + ks ≤ R.slots) (hl : lv_has ls nL (lv.map (e_cq w))) {r : List Value} {x : Int32} (d : decode cc pc = .ok (.ineg, 1)) (h : k kc ks (pc + 1) lv (.int (-x) :: r) M) : W p l e R s m args below meth c H locs cells slots Qf (F0 m pc ls ((.int x :: r).map (e_cv w))) := by
  exact lv_ineg hx hb d (hgo _ _ _ _ _ _ h H locs cells slots ls hH hS hc hs hl)
theorem es_ladd (hx : p.tables.exec = Jvm.exec) (hb : c.code = cc) (hgo : e_Go p l e R s m args below meth c Qf w nL k) (hH : e_H w M s H) (hS : va_S (e_A w) s.heap H locs) (hc : cells + kc ≤ R.cells) (hs : slots + ks ≤ R.slots) (hl : lv_has ls nL (lv.map (e_cq w))) {r : List Value} {x y : Int64} (d : decode cc pc = .ok (.ladd, 1)) (h : k kc ks (pc + 1) lv (.long (x + y) :: r) M) : W p l e R s m args below meth c H locs cells slots Qf (F0 m pc ls ((.long y :: .long x :: r).map (e_cv w))) := by
  exact lv_ladd hx hb d (hgo _ _ _ _ _ _ h H locs cells slots ls hH hS hc hs hl)
theorem es_land (hx : p.tables.exec = Jvm.exec) (hb : c.code = cc) (hgo : e_Go p l e R s m args below meth c Qf w nL k) (hH : e_H w M s H) (hS : va_S (e_A w) s.heap H locs) (hc : cells + kc ≤ R.cells) (hs : slots + ks ≤ R.slots) (hl : lv_has ls nL (lv.map (e_cq w))) {r : List Value} {x y : Int64} (d : decode cc pc = .ok (.land, 1)) (h : k kc ks (pc + 1) lv (.long (x &&& y) :: r) M) : W p l e R s m args below meth c H locs cells slots Qf (F0 m pc ls ((.long y :: .long x :: r).map (e_cv w))) := by
  exact lv_land hx hb d (hgo _ _ _ _ _ _ h H locs cells slots ls hH hS hc hs hl)
theorem es_lor (hx : p.tables.exec = Jvm.exec) (hb : c.code = cc) (hgo : e_Go p l e R s m args below meth c Qf w nL k) (hH : e_H w M s H) (hS : va_S (e_A w) s.heap H locs) (hc : cells + kc ≤ R.cells) (hs : slots + ks ≤ R.slots) (hl : lv_has ls nL (lv.map (e_cq w))) {r : List Value} {x y : Int64} (d : decode cc pc = .ok (.lor, 1)) (h : k kc ks (pc + 1) lv (.long (x ||| y) :: r) M) : W p l e R s m args below meth c H locs cells slots Qf (F0 m pc ls ((.long y :: .long x :: r).map (e_cv w))) := by
  exact lv_lor hx hb d (hgo _ _ _ _ _ _ h H locs cells slots ls hH hS hc hs hl)
theorem es_lxor (hx : p.tables.exec = Jvm.exec) (hb : c.code = cc) (hgo : e_Go p l e R s m args below meth c Qf w nL k) (hH : e_H w M s H) (hS : va_S (e_A w) s.heap H locs) (hc : cells + kc ≤ R.cells) (hs : slots + ks ≤ R.slots) (hl : lv_has ls nL (lv.map (e_cq w))) {r : List Value} {x y : Int64} (d : decode cc pc = .ok (.lxor, 1)) (h : k kc ks (pc + 1) lv (.long (x ^^^ y) :: r) M) : W p l e R s m args below meth c H locs cells slots Qf (F0 m pc ls ((.long y :: .long x :: r).map (e_cv w))) := by
  exact lv_lxor hx hb d (hgo _ _ _ _ _ _ h H locs cells slots ls hH hS hc hs hl)
theorem es_lshl (hx : p.tables.exec = Jvm.exec) (hb : c.code = cc) (hgo : e_Go p l e R s m args below meth c Qf w nL k) (hH : e_H w M s H) (hS : va_S (e_A w) s.heap H locs) (hc : cells + kc ≤ R.cells) (hs : slots + ks ≤ R.slots) (hl : lv_has ls nL (lv.map (e_cq w))) {r : List Value} {x : Int64} {y : Int32} (d : decode cc pc = .ok (.lshl, 1)) (h : k kc ks (pc + 1) lv (.long (x <<< (y.toInt64 &&& 63)) :: r) M) : W p l e R s m args below meth c H locs cells slots Qf (F0 m pc ls ((.int y :: .long x :: r).map (e_cv w))) := by
  exact lv_lshl hx hb d rfl (hgo _ _ _ _ _ _ h H locs cells slots ls hH hS hc hs hl)
theorem es_lshr (hx : p.tables.exec = Jvm.exec) (hb : c.code = cc) (hgo : e_Go p l e R s m args below meth c Qf w nL k) (hH : e_H w M s H) (hS : va_S (e_A w) s.heap H locs) (hc : cells + kc ≤ R.cells) (hs : slots + ks ≤ R.slots) (hl : lv_has ls nL (lv.map (e_cq w))) {r : List Value} {x : Int64} {y : Int32} (d : decode cc pc = .ok (.lshr, 1)) (h : k kc ks (pc + 1) lv (.long (x >>> (y.toInt64 &&& 63)) :: r) M) : W p l e R s m args below meth c H locs cells slots Qf (F0 m pc ls ((.int y :: .long x :: r).map (e_cv w))) := by
  exact lv_lshr hx hb d rfl (hgo _ _ _ _ _ _ h H locs cells slots ls hH hS hc hs hl)
theorem es_lushr (hx : p.tables.exec = Jvm.exec) (hb : c.code = cc) (hgo : e_Go p l e R s m args below meth c Qf w nL k) (hH : e_H w M s H) (hS : va_S (e_A w) s.heap H locs) (hc : cells + kc ≤ R.cells) (hs : slots + ks ≤ R.slots) (hl : lv_has ls nL (lv.map (e_cq w))) {r : List Value} {x : Int64} {y : Int32} (d : decode cc pc = .ok (.lushr, 1)) (h : k kc ks (pc + 1) lv (.long ((x.toUInt64 >>> (y.toInt64.toUInt64 &&& Int64.toUInt64 63)).toInt64) :: r) M) : W p l e R s m args below meth c H locs cells slots Qf (F0 m pc ls ((.int y :: .long x :: r).map (e_cv w))) := by
  exact lv_lushr hx hb d rfl (hgo _ _ _ _ _ _ h H locs cells slots ls hH hS hc hs hl)
theorem es_lcmp (hx : p.tables.exec = Jvm.exec) (hb : c.code = cc) (hgo : e_Go p l e R s m args below meth c Qf w nL k) (hH : e_H w M s H) (hS : va_S (e_A w) s.heap H locs) (hc : cells + kc ≤ R.cells) (hs : slots + ks ≤ R.slots) (hl : lv_has ls nL (lv.map (e_cq w))) {r : List Value} {x y : Int64} (d : decode cc pc = .ok (.lcmp, 1)) (h : k kc ks (pc + 1) lv (.int (lg_cmp x y) :: r) M) : W p l e R s m args below meth c H locs cells slots Qf (F0 m pc ls ((.long y :: .long x :: r).map (e_cv w))) := by
  exact W.lcmp hx hb d (hgo _ _ _ _ _ _ h H locs cells slots ls hH hS hc hs hl)
theorem es_i2l (hx : p.tables.exec = Jvm.exec) (hb : c.code = cc) (hgo : e_Go p l e R s m args below meth c Qf w nL k) (hH : e_H w M s H) (hS : va_S (e_A w) s.heap H locs) (hc : cells + kc ≤ R.cells) (hs : slots + ks ≤ R.slots) (hl : lv_has ls nL (lv.map (e_cq w))) {r : List Value} {x : Int32} (d : decode cc pc = .ok (.i2l, 1)) (h : k kc ks (pc + 1) lv (.long x.toInt64 :: r) M) : W p l e R s m args below meth c H locs cells slots Qf (F0 m pc ls ((.int x :: r).map (e_cv w))) := by
  exact lv_i2l hx hb d rfl (hgo _ _ _ _ _ _ h H locs cells slots ls hH hS hc hs hl)
theorem es_l2i (hx : p.tables.exec = Jvm.exec) (hb : c.code = cc) (hgo : e_Go p l e R s m args below meth c Qf w nL k) (hH : e_H w M s H) (hS : va_S (e_A w) s.heap H locs) (hc : cells + kc ≤ R.cells) (hs : slots + ks ≤ R.slots) (hl : lv_has ls nL (lv.map (e_cq w))) {r : List Value} {x : Int64} (d : decode cc pc = .ok (.l2i, 1)) (h : k kc ks (pc + 1) lv (.int x.toInt32 :: r) M) : W p l e R s m args below meth c H locs cells slots Qf (F0 m pc ls ((.long x :: r).map (e_cv w))) := by
  exact lv_l2i hx hb d rfl (hgo _ _ _ _ _ _ h H locs cells slots ls hH hS hc hs hl)
theorem es_i2b (hx : p.tables.exec = Jvm.exec) (hb : c.code = cc) (hgo : e_Go p l e R s m args below meth c Qf w nL k) (hH : e_H w M s H) (hS : va_S (e_A w) s.heap H locs) (hc : cells + kc ≤ R.cells) (hs : slots + ks ≤ R.slots) (hl : lv_has ls nL (lv.map (e_cq w))) {r : List Value} {x : Int32} (d : decode cc pc = .ok (.i2b, 1)) (h : k kc ks (pc + 1) lv (.int x.toInt8.toInt32 :: r) M) : W p l e R s m args below meth c H locs cells slots Qf (F0 m pc ls ((.int x :: r).map (e_cv w))) := by
  exact lv_i2b hx hb d rfl (hgo _ _ _ _ _ _ h H locs cells slots ls hH hS hc hs hl)
theorem es_i2s (hx : p.tables.exec = Jvm.exec) (hb : c.code = cc) (hgo : e_Go p l e R s m args below meth c Qf w nL k) (hH : e_H w M s H) (hS : va_S (e_A w) s.heap H locs) (hc : cells + kc ≤ R.cells) (hs : slots + ks ≤ R.slots) (hl : lv_has ls nL (lv.map (e_cq w))) {r : List Value} {x : Int32} (d : decode cc pc = .ok (.i2s, 1)) (h : k kc ks (pc + 1) lv (.int x.toInt16.toInt32 :: r) M) : W p l e R s m args below meth c H locs cells slots Qf (F0 m pc ls ((.int x :: r).map (e_cv w))) := by
  exact lv_i2s hx hb d rfl (hgo _ _ _ _ _ _ h H locs cells slots ls hH hS hc hs hl)
theorem es_dup (hx : p.tables.exec = Jvm.exec) (hb : c.code = cc) (hgo : e_Go p l e R s m args below meth c Qf w nL k) (hH : e_H w M s H) (hS : va_S (e_A w) s.heap H locs) (hc : cells + kc ≤ R.cells) (hs : slots + ks ≤ R.slots) (hl : lv_has ls nL (lv.map (e_cq w))) {r : List Value} {v : Value} (d : decode cc pc = .ok (.dup, 1)) (h0 : v.category = 1) (h : k kc ks (pc + 1) lv (v :: v :: r) M) : W p l e R s m args below meth c H locs cells slots Qf (F0 m pc ls ((v :: r).map (e_cv w))) := by
  exact lv_dup hx hb d (by rw [e_cv_cat]; exact h0) (hgo _ _ _ _ _ _ h H locs cells slots ls hH hS hc hs hl)
theorem es_dup2 (hx : p.tables.exec = Jvm.exec) (hb : c.code = cc) (hgo : e_Go p l e R s m args below meth c Qf w nL k) (hH : e_H w M s H) (hS : va_S (e_A w) s.heap H locs) (hc : cells + kc ≤ R.cells) (hs : slots + ks ≤ R.slots) (hl : lv_has ls nL (lv.map (e_cq w))) {r : List Value} {v u : Value} (d : decode cc pc = .ok (.dup2, 1)) (h0 : v.category = 1) (h1 : u.category = 1) (h : k kc ks (pc + 1) lv (v :: u :: v :: u :: r) M) : W p l e R s m args below meth c H locs cells slots Qf (F0 m pc ls ((v :: u :: r).map (e_cv w))) := by
  exact lv_dup2_11 hx hb d (by rw [e_cv_cat]; exact h0) (by rw [e_cv_cat]; exact h1) (hgo _ _ _ _ _ _ h H locs cells slots ls hH hS hc hs hl)
theorem es_pop (hx : p.tables.exec = Jvm.exec) (hb : c.code = cc) (hgo : e_Go p l e R s m args below meth c Qf w nL k) (hH : e_H w M s H) (hS : va_S (e_A w) s.heap H locs) (hc : cells + kc ≤ R.cells) (hs : slots + ks ≤ R.slots) (hl : lv_has ls nL (lv.map (e_cq w))) {r : List Value} {v : Value} (d : decode cc pc = .ok (.pop, 1)) (h0 : v.category = 1) (h : k kc ks (pc + 1) lv r M) : W p l e R s m args below meth c H locs cells slots Qf (F0 m pc ls ((v :: r).map (e_cv w))) := by
  exact lv_pop hx hb d (by rw [e_cv_cat]; exact h0) (hgo _ _ _ _ _ _ h H locs cells slots ls hH hS hc hs hl)
theorem es_goto (hx : p.tables.exec = Jvm.exec) (hb : c.code = cc) (hgo : e_Go p l e R s m args below meth c Qf w nL k) (hH : e_H w M s H) (hS : va_S (e_A w) s.heap H locs) (hc : cells + kc ≤ R.cells) (hs : slots + ks ≤ R.slots) (hl : lv_has ls nL (lv.map (e_cq w))) {st : List Value} {o : Int} {t : Nat} (d : decode cc pc = .ok (.goto o, 3)) (ht : (pc : Int) + o = (t : Int)) (h : k kc ks t lv st M) : W p l e R s m args below meth c H locs cells slots Qf (F0 m pc ls (st.map (e_cv w))) := by
  exact lv_goto hx hb d ht (hgo _ _ _ _ _ _ h H locs cells slots ls hH hS hc hs hl)
theorem es_if_eq (hx : p.tables.exec = Jvm.exec) (hb : c.code = cc) (hgo : e_Go p l e R s m args below meth c Qf w nL k) (hH : e_H w M s H) (hS : va_S (e_A w) s.heap H locs) (hc : cells + kc ≤ R.cells) (hs : slots + ks ≤ R.slots) (hl : lv_has ls nL (lv.map (e_cq w))) {r : List Value} {x : Int32} {o : Int} {t : Nat} (d : decode cc pc = .ok (.ifCond .eq o, 3)) (ht : (pc : Int) + o = (t : Int)) (h : (x = 0 → k kc ks t lv r M) ∧ (¬ x = 0 → k kc ks (pc + 3) lv r M)) : W p l e R s m args below meth c H locs cells slots Qf (F0 m pc ls ((.int x :: r).map (e_cv w))) := by
  exact lv_if_eq hx hb d ht (fun q => hgo _ _ _ _ _ _ (h.1 q) H locs cells slots ls hH hS hc hs hl) (fun q => hgo _ _ _ _ _ _ (h.2 q) H locs cells slots ls hH hS hc hs hl)
theorem es_if_ne (hx : p.tables.exec = Jvm.exec) (hb : c.code = cc) (hgo : e_Go p l e R s m args below meth c Qf w nL k) (hH : e_H w M s H) (hS : va_S (e_A w) s.heap H locs) (hc : cells + kc ≤ R.cells) (hs : slots + ks ≤ R.slots) (hl : lv_has ls nL (lv.map (e_cq w))) {r : List Value} {x : Int32} {o : Int} {t : Nat} (d : decode cc pc = .ok (.ifCond .ne o, 3)) (ht : (pc : Int) + o = (t : Int)) (h : (¬ x = 0 → k kc ks t lv r M) ∧ (x = 0 → k kc ks (pc + 3) lv r M)) : W p l e R s m args below meth c H locs cells slots Qf (F0 m pc ls ((.int x :: r).map (e_cv w))) := by
  exact lv_if_ne hx hb d ht (fun q => hgo _ _ _ _ _ _ (h.1 q) H locs cells slots ls hH hS hc hs hl) (fun q => hgo _ _ _ _ _ _ (h.2 q) H locs cells slots ls hH hS hc hs hl)
theorem es_if_lt (hx : p.tables.exec = Jvm.exec) (hb : c.code = cc) (hgo : e_Go p l e R s m args below meth c Qf w nL k) (hH : e_H w M s H) (hS : va_S (e_A w) s.heap H locs) (hc : cells + kc ≤ R.cells) (hs : slots + ks ≤ R.slots) (hl : lv_has ls nL (lv.map (e_cq w))) {r : List Value} {x : Int32} {o : Int} {t : Nat} (d : decode cc pc = .ok (.ifCond .lt o, 3)) (ht : (pc : Int) + o = (t : Int)) (h : (x < 0 → k kc ks t lv r M) ∧ (¬ x < 0 → k kc ks (pc + 3) lv r M)) : W p l e R s m args below meth c H locs cells slots Qf (F0 m pc ls ((.int x :: r).map (e_cv w))) := by
  exact lv_if_lt hx hb d ht (fun q => hgo _ _ _ _ _ _ (h.1 q) H locs cells slots ls hH hS hc hs hl) (fun q => hgo _ _ _ _ _ _ (h.2 q) H locs cells slots ls hH hS hc hs hl)
theorem es_if_ge (hx : p.tables.exec = Jvm.exec) (hb : c.code = cc) (hgo : e_Go p l e R s m args below meth c Qf w nL k) (hH : e_H w M s H) (hS : va_S (e_A w) s.heap H locs) (hc : cells + kc ≤ R.cells) (hs : slots + ks ≤ R.slots) (hl : lv_has ls nL (lv.map (e_cq w))) {r : List Value} {x : Int32} {o : Int} {t : Nat} (d : decode cc pc = .ok (.ifCond .ge o, 3)) (ht : (pc : Int) + o = (t : Int)) (h : (0 ≤ x → k kc ks t lv r M) ∧ (¬ 0 ≤ x → k kc ks (pc + 3) lv r M)) : W p l e R s m args below meth c H locs cells slots Qf (F0 m pc ls ((.int x :: r).map (e_cv w))) := by
  exact lv_if_ge hx hb d ht (fun q => hgo _ _ _ _ _ _ (h.1 q) H locs cells slots ls hH hS hc hs hl) (fun q => hgo _ _ _ _ _ _ (h.2 q) H locs cells slots ls hH hS hc hs hl)
theorem es_if_gt (hx : p.tables.exec = Jvm.exec) (hb : c.code = cc) (hgo : e_Go p l e R s m args below meth c Qf w nL k) (hH : e_H w M s H) (hS : va_S (e_A w) s.heap H locs) (hc : cells + kc ≤ R.cells) (hs : slots + ks ≤ R.slots) (hl : lv_has ls nL (lv.map (e_cq w))) {r : List Value} {x : Int32} {o : Int} {t : Nat} (d : decode cc pc = .ok (.ifCond .gt o, 3)) (ht : (pc : Int) + o = (t : Int)) (h : (0 < x → k kc ks t lv r M) ∧ (¬ 0 < x → k kc ks (pc + 3) lv r M)) : W p l e R s m args below meth c H locs cells slots Qf (F0 m pc ls ((.int x :: r).map (e_cv w))) := by
  exact lv_if_gt hx hb d ht (fun q => hgo _ _ _ _ _ _ (h.1 q) H locs cells slots ls hH hS hc hs hl) (fun q => hgo _ _ _ _ _ _ (h.2 q) H locs cells slots ls hH hS hc hs hl)
theorem es_if_le (hx : p.tables.exec = Jvm.exec) (hb : c.code = cc) (hgo : e_Go p l e R s m args below meth c Qf w nL k) (hH : e_H w M s H) (hS : va_S (e_A w) s.heap H locs) (hc : cells + kc ≤ R.cells) (hs : slots + ks ≤ R.slots) (hl : lv_has ls nL (lv.map (e_cq w))) {r : List Value} {x : Int32} {o : Int} {t : Nat} (d : decode cc pc = .ok (.ifCond .le o, 3)) (ht : (pc : Int) + o = (t : Int)) (h : (x ≤ 0 → k kc ks t lv r M) ∧ (¬ x ≤ 0 → k kc ks (pc + 3) lv r M)) : W p l e R s m args below meth c H locs cells slots Qf (F0 m pc ls ((.int x :: r).map (e_cv w))) := by
  exact lv_if_le hx hb d ht (fun q => hgo _ _ _ _ _ _ (h.1 q) H locs cells slots ls hH hS hc hs hl) (fun q => hgo _ _ _ _ _ _ (h.2 q) H locs cells slots ls hH hS hc hs hl)
theorem es_icmp_eq (hx : p.tables.exec = Jvm.exec) (hb : c.code = cc) (hgo : e_Go p l e R s m args below meth c Qf w nL k) (hH : e_H w M s H) (hS : va_S (e_A w) s.heap H locs) (hc : cells + kc ≤ R.cells) (hs : slots + ks ≤ R.slots) (hl : lv_has ls nL (lv.map (e_cq w))) {r : List Value} {x y : Int32} {o : Int} {t : Nat} (d : decode cc pc = .ok (.if_icmp .eq o, 3)) (ht : (pc : Int) + o = (t : Int)) (h : (x = y → k kc ks t lv r M) ∧ (¬ x = y → k kc ks (pc + 3) lv r M)) : W p l e R s m args below meth c H locs cells slots Qf (F0 m pc ls ((.int y :: .int x :: r).map (e_cv w))) := by
  exact lv_icmp_eq hx hb d ht (fun q => hgo _ _ _ _ _ _ (h.1 q) H locs cells slots ls hH hS hc hs hl) (fun q => hgo _ _ _ _ _ _ (h.2 q) H locs cells slots ls hH hS hc hs hl)
theorem es_icmp_ne (hx : p.tables.exec = Jvm.exec) (hb : c.code = cc) (hgo : e_Go p l e R s m args below meth c Qf w nL k) (hH : e_H w M s H) (hS : va_S (e_A w) s.heap H locs) (hc : cells + kc ≤ R.cells) (hs : slots + ks ≤ R.slots) (hl : lv_has ls nL (lv.map (e_cq w))) {r : List Value} {x y : Int32} {o : Int} {t : Nat} (d : decode cc pc = .ok (.if_icmp .ne o, 3)) (ht : (pc : Int) + o = (t : Int)) (h : (¬ x = y → k kc ks t lv r M) ∧ (x = y → k kc ks (pc + 3) lv r M)) : W p l e R s m args below meth c H locs cells slots Qf (F0 m pc ls ((.int y :: .int x :: r).map (e_cv w))) := by
  exact lv_icmp_ne hx hb d ht (fun q => hgo _ _ _ _ _ _ (h.1 q) H locs cells slots ls hH hS hc hs hl) (fun q => hgo _ _ _ _ _ _ (h.2 q) H locs cells slots ls hH hS hc hs hl)
theorem es_icmp_lt (hx : p.tables.exec = Jvm.exec) (hb : c.code = cc) (hgo : e_Go p l e R s m args below meth c Qf w nL k) (hH : e_H w M s H) (hS : va_S (e_A w) s.heap H locs) (hc : cells + kc ≤ R.cells) (hs : slots + ks ≤ R.slots) (hl : lv_has ls nL (lv.map (e_cq w))) {r : List Value} {x y : Int32} {o : Int} {t : Nat} (d : decode cc pc = .ok (.if_icmp .lt o, 3)) (ht : (pc : Int) + o = (t : Int)) (h : (x < y → k kc ks t lv r M) ∧ (¬ x < y → k kc ks (pc + 3) lv r M)) : W p l e R s m args below meth c H locs cells slots Qf (F0 m pc ls ((.int y :: .int x :: r).map (e_cv w))) := by
  exact lv_icmp_lt hx hb d ht (fun q => hgo _ _ _ _ _ _ (h.1 q) H locs cells slots ls hH hS hc hs hl) (fun q => hgo _ _ _ _ _ _ (h.2 q) H locs cells slots ls hH hS hc hs hl)
theorem es_icmp_ge (hx : p.tables.exec = Jvm.exec) (hb : c.code = cc) (hgo : e_Go p l e R s m args below meth c Qf w nL k) (hH : e_H w M s H) (hS : va_S (e_A w) s.heap H locs) (hc : cells + kc ≤ R.cells) (hs : slots + ks ≤ R.slots) (hl : lv_has ls nL (lv.map (e_cq w))) {r : List Value} {x y : Int32} {o : Int} {t : Nat} (d : decode cc pc = .ok (.if_icmp .ge o, 3)) (ht : (pc : Int) + o = (t : Int)) (h : (y ≤ x → k kc ks t lv r M) ∧ (¬ y ≤ x → k kc ks (pc + 3) lv r M)) : W p l e R s m args below meth c H locs cells slots Qf (F0 m pc ls ((.int y :: .int x :: r).map (e_cv w))) := by
  exact lv_icmp_ge hx hb d ht (fun q => hgo _ _ _ _ _ _ (h.1 q) H locs cells slots ls hH hS hc hs hl) (fun q => hgo _ _ _ _ _ _ (h.2 q) H locs cells slots ls hH hS hc hs hl)
theorem es_icmp_gt (hx : p.tables.exec = Jvm.exec) (hb : c.code = cc) (hgo : e_Go p l e R s m args below meth c Qf w nL k) (hH : e_H w M s H) (hS : va_S (e_A w) s.heap H locs) (hc : cells + kc ≤ R.cells) (hs : slots + ks ≤ R.slots) (hl : lv_has ls nL (lv.map (e_cq w))) {r : List Value} {x y : Int32} {o : Int} {t : Nat} (d : decode cc pc = .ok (.if_icmp .gt o, 3)) (ht : (pc : Int) + o = (t : Int)) (h : (y < x → k kc ks t lv r M) ∧ (¬ y < x → k kc ks (pc + 3) lv r M)) : W p l e R s m args below meth c H locs cells slots Qf (F0 m pc ls ((.int y :: .int x :: r).map (e_cv w))) := by
  exact lv_icmp_gt hx hb d ht (fun q => hgo _ _ _ _ _ _ (h.1 q) H locs cells slots ls hH hS hc hs hl) (fun q => hgo _ _ _ _ _ _ (h.2 q) H locs cells slots ls hH hS hc hs hl)
theorem es_icmp_le (hx : p.tables.exec = Jvm.exec) (hb : c.code = cc) (hgo : e_Go p l e R s m args below meth c Qf w nL k) (hH : e_H w M s H) (hS : va_S (e_A w) s.heap H locs) (hc : cells + kc ≤ R.cells) (hs : slots + ks ≤ R.slots) (hl : lv_has ls nL (lv.map (e_cq w))) {r : List Value} {x y : Int32} {o : Int} {t : Nat} (d : decode cc pc = .ok (.if_icmp .le o, 3)) (ht : (pc : Int) + o = (t : Int)) (h : (x ≤ y → k kc ks t lv r M) ∧ (¬ x ≤ y → k kc ks (pc + 3) lv r M)) : W p l e R s m args below meth c H locs cells slots Qf (F0 m pc ls ((.int y :: .int x :: r).map (e_cv w))) := by
  exact lv_icmp_le hx hb d ht (fun q => hgo _ _ _ _ _ _ (h.1 q) H locs cells slots ls hH hS hc hs hl) (fun q => hgo _ _ _ _ _ _ (h.2 q) H locs cells slots ls hH hS hc hs hl)
theorem es_ifnull (hx : p.tables.exec = Jvm.exec) (hb : c.code = cc) (hgo : e_Go p l e R s m args below meth c Qf w nL k) (hH : e_H w M s H) (hS : va_S (e_A w) s.heap H locs) (hc : cells + kc ≤ R.cells) (hs : slots + ks ≤ R.slots) (hl : lv_has ls nL (lv.map (e_cq w))) {r : List Value} {x : Nat} {o : Int} {t : Nat} (d : decode cc pc = .ok (.ifnull o, 3)) (ht : (pc : Int) + o = (t : Int)) (h : (x = 0 → k kc ks t lv r M) ∧ (¬ x = 0 → k kc ks (pc + 3) lv r M)) : W p l e R s m args below meth c H locs cells slots Qf (F0 m pc ls ((.ref x :: r).map (e_cv w))) := by
  show W p l e R s m args below meth c H locs cells slots Qf (F0 m pc ls (e_rv w x :: r.map (e_cv w)))
  unfold e_rv
  split
  · exact lv_ifnullN hx hb d ht (hgo _ _ _ _ _ _ (h.1 (by assumption)) H locs cells slots ls hH hS hc hs hl)
  · exact lv_ifnull hx hb d (hgo _ _ _ _ _ _ (h.2 (by assumption)) H locs cells slots ls hH hS hc hs hl)
theorem es_ifnonnull (hx : p.tables.exec = Jvm.exec) (hb : c.code = cc) (hgo : e_Go p l e R s m args below meth c Qf w nL k) (hH : e_H w M s H) (hS : va_S (e_A w) s.heap H locs) (hc : cells + kc ≤ R.cells) (hs : slots + ks ≤ R.slots) (hl : lv_has ls nL (lv.map (e_cq w))) {r : List Value} {x : Nat} {o : Int} {t : Nat} (d : decode cc pc = .ok (.ifnonnull o, 3)) (ht : (pc : Int) + o = (t : Int)) (h : (¬ x = 0 → k kc ks t lv r M) ∧ (x = 0 → k kc ks (pc + 3) lv r M)) : W p l e R s m args below meth c H locs cells slots Qf (F0 m pc ls ((.ref x :: r).map (e_cv w))) := by
  show W p l e R s m args below meth c H locs cells slots Qf (F0 m pc ls (e_rv w x :: r.map (e_cv w)))
  unfold e_rv
  split
  · exact lv_ifnonnullN hx hb d (hgo _ _ _ _ _ _ (h.2 (by assumption)) H locs cells slots ls hH hS hc hs hl)
  · exact lv_ifnonnull hx hb d ht (hgo _ _ _ _ _ _ (h.1 (by assumption)) H locs cells slots ls hH hS hc hs hl)
theorem es_tsw (hx : p.tables.exec = Jvm.exec) (hb : c.code = cc) (hgo : e_Go p l e R s m args below meth c Qf w nL k) (hH : e_H w M s H) (hS : va_S (e_A w) s.heap H locs) (hc : cells + kc ≤ R.cells) (hs : slots + ks ≤ R.slots) (hl : lv_has ls nL (lv.map (e_cq w))) {r : List Value} {x : Int32} {dd lo hi : Int} {offs : Array Int} {len : Nat} (d : decode cc pc = .ok (.tableswitch dd lo hi offs, len)) (h0 : 0 ≤ (pc : Int) + dd) (h1 : ∀ o ∈ offs.toList, 0 ≤ (pc : Int) + o) (h : ((x.toInt < lo ∨ hi < x.toInt) → k kc ks (e_tgt pc dd) lv r M) ∧ (¬ x.toInt < lo → ¬ hi < x.toInt → ∃ o, offs[(x.toInt - lo).toNat]? = some o ∧ k kc ks (e_tgt pc o) lv r M)) : W p l e R s m args below meth c H locs cells slots Qf (F0 m pc ls ((.int x :: r).map (e_cv w))) := by
  by_cases q : x.toInt < lo ∨ hi < x.toInt
  · exact lv_tableOut hx hb d q (Int.toNat_of_nonneg h0).symm (hgo _ _ _ _ _ _ (h.1 q) H locs cells slots ls hH hS hc hs hl)
  · obtain ⟨o, ho, hk⟩ := h.2 (fun z => q (Or.inl z)) (fun z => q (Or.inr z))
    have hm : o ∈ offs.toList := by
      rw [← Array.getElem?_toList] at ho
      exact List.mem_of_getElem? ho
    exact lv_tableIn hx hb d (fun z => q (Or.inl z)) (fun z => q (Or.inr z)) ho (Int.toNat_of_nonneg (h1 o hm)).symm (hgo _ _ _ _ _ _ (hk) H locs cells slots ls hH hS hc hs hl)
theorem e_lsw {pc : Nat} {dd x : Int} (h0 : 0 ≤ (pc : Int) + dd) : ∀ {ps : List (Int × Int)}, (∀ q ∈ ps, 0 ≤ (pc : Int) + q.2) → 0 ≤ (pc : Int) + Op.lookupswitch.offset ps dd x
  | [], _ => by simpa [Op.lookupswitch.offset] using h0
  | q :: ps, h => by
    have h1 := h q List.mem_cons_self
    have h2 := e_lsw h0 (x := x) (fun r hr => h r (List.mem_cons_of_mem _ hr))
    obtain ⟨a, b⟩ := q
    unfold Op.lookupswitch.offset
    split
    · exact h1
    · first | exact h2 | (split; exact h0; exact h2) | (split; exact h2; exact h0)
theorem es_lsw (hx : p.tables.exec = Jvm.exec) (hb : c.code = cc) (hgo : e_Go p l e R s m args below meth c Qf w nL k) (hH : e_H w M s H) (hS : va_S (e_A w) s.heap H locs) (hc : cells + kc ≤ R.cells) (hs : slots + ks ≤ R.slots) (hl : lv_has ls nL (lv.map (e_cq w))) {r : List Value} {x : Int32} {dd : Int} {ps : Array (Int × Int)} {len : Nat} (d : decode cc pc = .ok (.lookupswitch dd ps, len)) (hp : (ps.toList.zip (ps.toList.drop 1)).all (fun (a, next) => a.1 < next.1) = true) (h0 : 0 ≤ (pc : Int) + dd) (h1 : ∀ q ∈ ps.toList, 0 ≤ (pc : Int) + q.2) (h : k kc ks (e_tgt pc (Op.lookupswitch.offset ps.toList dd x.toInt)) lv r M) : W p l e R s m args below meth c H locs cells slots Qf (F0 m pc ls ((.int x :: r).map (e_cv w))) := by
  exact lv_lookup hx hb d hp rfl (Int.toNat_of_nonneg (e_lsw h0 h1)).symm (hgo _ _ _ _ _ _ h H locs cells slots ls hH hS hc hs hl)
end SND
end
section
/-! ===== instructions that look into the heap ===== -/
section HEA
variable {p : Program} {l : Launch} {e : Env} {R : Room} {s : State} {m : MethodId} {args : Array Value} {below : List Frame} {meth : Method} {c : Code} {Qf : State → Prop} {w : eW}
variable {cc : ByteArray} {nL : Nat} {k : eK} {H : Heap} {locs : List Loc} {cells slots kc ks pc : Nat} {ls : Array Slot} {lv : eL} {M : eM}
theorem e_cl_lt {a : Nat} {q : vw_C} (h : e_cl[a]? = some q) : a < 20 := by
  have h1 := (List.getElem?_eq_some_iff.mp h).1
  have h2 : e_cl.length = 13 := rfl
  omega
theorem e_cv_ref {w : eW} {o : Nat} (h : 0 < o) : e_cv w (.ref o) = .ref (e_ad w o) := if_neg (Nat.ne_of_gt h)
theorem e_c0_pos {o : Nat} (h : e_c0 ≤ o) : 0 < o := Nat.lt_of_lt_of_le (by decide) h
theorem e_at_ob {U : State} {o a : Nat} (hH : e_H w M U H) (h : e_ob M o a) (ha : a < 20) : va_at w.1 e_cl (e_ad w o, .inr (a, e_fs w M o (e_fk a))) H := by
  obtain ⟨h1, h2, h3⟩ := h
  have := hH.2.2.1 o h1 h2 (by rw [h3]; omega)
  rwa [e_cell_ob h3 ha] at this
theorem es_getfield (hx : p.tables.exec = Jvm.exec) (hb : c.code = cc) (hgo : e_Go p l e R s m args below meth c Qf w nL k) (hH : e_H w M s H) (hS : va_S (e_A w) s.heap H locs) (hc : cells + kc ≤ R.cells) (hs : slots + ks ≤ R.slots) (hl : lv_has ls nL (lv.map (e_cq w)))
    (hG : e_G w s) (hts : ∀ v ∈ e_big, v.before args s = true) {own : String} (ho : s.vm.findClass own = some m.cls) {r : List Value} {o a b x : Nat} {q : vw_C} (hob : e_ob M o a) (hq : e_cl[a]? = some q) (hbq : b < q.2.2) (hlk : Cond.fieldLink own x (q.2.1 b).1 (q.2.1 b).2.1 (q.2.1 b).2.2.1 ∈ e_big) (d : decode cc pc = .ok (.getfield x, 3))
    (h : k kc ks (pc + 3) lv (e_gv M o b ((e_fk a).getD b 0) :: r) M) : W p l e R s m args below meth c H locs cells slots Qf (F0 m pc ls ((.ref o :: r).map (e_cv w))) := by
  obtain ⟨y, f1, f2, f3, f4, f5⟩ := e_cl_f hq
  have hat := e_at_ob hH hob (e_cl_lt hq)
  obtain ⟨C, T, N⟩ := q
  rw [List.map_cons, e_cv_ref (e_c0_pos hob.1)]
  exact va_get hx hb hts f1 ho hG.1 (e_P1 hat) 0 rfl hq b hbq (hts _ hlk) (fun _ z => z) (e_fs_get w M o (by rw [f4]; exact hbq)) d (hgo _ _ _ _ _ _ h H locs cells slots ls hH hS hc hs hl)
/-- a field is written: as va_put and va_putF, with what stays -/
theorem e_putR {D : va_G} {cl : List vw_C} {A : Nat → Prop} {a : Nat} {tys : List (ClassId × FieldType)} {H0 : Heap} {rest : List Value} (hexec : p.tables.exec = Jvm.exec) (hb : c.code = cc) {own C : String} {T : u_T} {N ci index : Nat} {Ts : List Cond} (hts : ∀ w ∈ Ts, w.before args s = true) (hin : ∀ w ∈ u_ws C T N, w ∈ Ts) (ty0 : Nat → FieldType) (hty : ∀ k, k < N → parseFieldDescriptor (T k).2.2.1 = some (ty0 k)) (hnm : ∀ a, a < N → ∀ b, b < N → a ≠ b → (T a).2.1 ≠ (T b).2.1) (hown : s.vm.findClass own = some m.cls) (hK : va_K D cl tys s) {fs : List Value} (hat : va_at D cl (a, .inr (ci, fs)) H) (ha : A a) (hS0 : va_S A H0 H locs) (hc : cl[ci]? = some (C, T, N)) (k : Nat) (hk : k < N) (hlink : (Cond.fieldLink own index (T k).1 (T k).2.1 (T k).2.2.1).before args s = true) (hfin : (T k).2.2.2 = false ∨ (meth.name = "<init>" ∧ (T k).1 = own)) {ty : FieldType} {v : Value} (hd : parseFieldDescriptor (T k).2.2.1 = some ty) (hn : narrow ty v = v) (hfit : fits ty v = true) (hl : k < fs.length)
    (hdg : decode cc pc = .ok (.putfield index, 3)) (kk : ∀ (H1 : Heap) (locs1 : List Loc), va_at D cl (a, .inr (ci, fs.set k v)) H1 → H1.size = H.size → (∀ q, q ≠ a → H1[q]? = H[q]?) → va_S A H0 H1 locs1 → W p l e R s m args below meth c H1 locs1 cells slots Qf (F0 m (pc + 3) ls rest)) : W p l e R s m args below meth c H locs cells slots Qf (F0 m pc ls (v :: .ref a :: rest)) := by
  have hap := va_apart (own := own) hts hin ty0 hty hnm hK hc
  obtain ⟨r, h1, cell, q1, q2, q3, q4⟩ := hat
  have hr : r = (C, T, N) := Option.some.inj (h1.symm.trans hc)
  subst hr
  obtain ⟨hS, hfc, kC, hkC, hkind⟩ := hK.1 ci _ hc
  obtain ⟨cf, kf, fi, f, hi, hsl⟩ := hS k hk
  have hlay := hts _ (hin _ (u_in_lay hk))
  unfold u_lay at hlay
  have hst := (u_facts hfc hkC (u_lays hts hin hk) hi).1
  cases hf : (T k).2.2.2 with
  | false =>
    rw [if_neg (by rw [hf]; decide)] at hlay
    have h6 := u_store hfc hkC hkind hlay hi hd hn hfit
    refine W.putK hexec hb (f := f) ⟨hown, hlink, ⟨_, _, _, hi⟩, hst⟩ (by rw [q2]; exact h6) q1 q3 (by rw [hsl]; exact k2_hasslot (q4 k hk)) rfl rfl hdg fun H' e1 e2 e3 => ?_
    rw [hsl] at e1 ⊢
    exact kk H' _ ⟨_, hc, t_OB.to (V := updV (vp_V fs) k v) ⟨_, e1, q2, q3, t_set q4 hap hk v⟩ (fun j _ => vp_updV_set hl v j)⟩ e2 e3 (hS0.put e2 e3 ha)
  | true =>
    rw [if_pos hf] at hlay
    obtain ⟨hin2, hdecl⟩ := hfin.resolve_left (by rw [hf]; decide)
    have hcf : m.cls = cf := by
      obtain ⟨_, _, c', _, _, _, -, -, hf', -, -, -, hown2, -⟩ := Cond.laysFinal_spec hlay
      have e1 : c' = cf := by have := hi.symm.trans hf'; simp at this; exact this.1.symm
      rw [hdecl] at hown2
      rw [← e1]; exact Option.some.inj (hown.symm.trans hown2)
    have h6 := u_fits hfc hkC hkind (Or.inr hlay) hi hd hn hfit
    refine W.putFinK hexec hb hown hlink hi hst hcf hin2 (by rw [q2]; exact h6) q1 q3 (by rw [hsl]; exact k2_hasslot (q4 k hk)) rfl rfl hdg fun H' e1 e2 e3 => ?_
    rw [hsl] at e1 ⊢
    exact kk H' _ ⟨_, hc, t_OB.to (V := updV (vp_V fs) k v) ⟨_, e1, q2, q3, t_set q4 hap hk v⟩ (fun j _ => vp_updV_set hl v j)⟩ e2 e3 (hS0.put e2 e3 ha)
theorem e_kty_i {kind : Nat} {ty : FieldType} {x : Int32} (h : e_kty kind ty = true) (h1 : kind ≠ 1) (h2 : kind ≠ 2) (h3 : kind = 3 → x = 0 ∨ x = 1) : narrow ty (.int x) = .int x ∧ fits ty (.int x) = true := by
  cases ty with
  | int => exact ⟨rfl, rfl⟩
  | boolean =>
    have : kind = 3 := by simpa [e_kty] using h
    rcases h3 this with rfl | rfl <;> exact ⟨by decide, by decide⟩
  | long => exact absurd (by simpa [e_kty] using h) h1
  | object n => exact absurd (by simpa [e_kty] using h) h2
  | array t => exact absurd (by simpa [e_kty] using h) h2
  | _ => cases h
theorem e_kty_l {kind : Nat} {ty : FieldType} {x : Int64} (h : e_kty kind ty = true) (h1 : kind = 1) : narrow ty (.long x) = .long x ∧ fits ty (.long x) = true := by
  subst h1
  cases ty with
  | long => exact ⟨rfl, rfl⟩
  | _ => cases h
theorem e_kty_r {kind : Nat} {ty : FieldType} {w : eW} {x : Nat} (h : e_kty kind ty = true) (h1 : kind = 2) : narrow ty (e_rv w x) = e_rv w x ∧ fits ty (e_rv w x) = true := by
  subst h1
  unfold e_rv
  cases ty with
  | object n => split <;> exact ⟨rfl, rfl⟩
  | array n => split <;> exact ⟨rfl, rfl⟩
  | _ => cases h
theorem es_put (hx : p.tables.exec = Jvm.exec) (hb : c.code = cc) (hgo : e_Go p l e R s m args below meth c Qf w nL k) (hH : e_H w M s H) (hS : va_S (e_A w) s.heap H locs) (hc : cells + kc ≤ R.cells) (hs : slots + ks ≤ R.slots) (hl : lv_has ls nL (lv.map (e_cq w)))
    (hG : e_G w s) (hts : ∀ v ∈ e_big, v.before args s = true) {own : String} (ho : s.vm.findClass own = some m.cls) {st : List Value} {a b x : Nat} {q : vw_C} (hq : e_cl[a]? = some q) (hbq : b < q.2.2) (hlk : Cond.fieldLink own x (q.2.1 b).1 (q.2.1 b).2.1 (q.2.1 b).2.2.1 ∈ e_big) (hfin : (q.2.1 b).2.2.2 = false ∨ (meth.name = "<init>" ∧ (q.2.1 b).1 = own)) (d : decode cc pc = .ok (.putfield x, 3))
    (h : e_put k kc ks (pc + 3) a b lv st M) : W p l e R s m args below meth c H locs cells slots Qf (F0 m pc ls (st.map (e_cv w))) := by
  obtain ⟨y, f1, f2, f3, f4, f5⟩ := e_cl_f hq
  have ha := e_cl_lt hq
  obtain ⟨C, T, N⟩ := q
  have hk := f3 b hbq
  unfold e_put at h
  by_cases g1 : (e_fk a).getD b 0 = 1
  · rw [if_pos g1] at h
    obtain ⟨o, v, r, rfl, hob, h⟩ := e_rpl_inv h
    have hat := e_at_ob hH hob ha
    rw [List.map_cons, List.map_cons, e_cv_ref (e_c0_pos hob.1)]
    obtain ⟨n1, n2⟩ := e_kty_l (x := v) hk g1
    refine e_putR hx hb hts f1 y f2 f5 ho hG.1 hat (e_ad_A hob.1) hS hq b hbq (hts _ hlk) hfin (f2 b hbq) (v := .long v) n1 n2 (by rw [e_fs_len, f4]; exact hbq) d fun H1 locs1 hat1 z oq hS1 => ?_
    rw [← e_fs_sl w M o v g1] at hat1
    refine hgo _ _ _ _ _ _ h H1 locs1 cells slots ls (hH.put hob.1 rfl rfl (fun _ _ => rfl) (fun j hj => e_cell_sl hj) ?_ z oq) hS1 hc hs hl
    rw [e_cell_ob (w := w) (M := e_sl M o b v) (ci := a) hob.2.2 ha]
    exact hat1
  · rw [if_neg g1] at h
    by_cases g2 : (e_fk a).getD b 0 = 2
    · rw [if_pos g2] at h
      obtain ⟨o, v, r, rfl, hob, h⟩ := e_rpr_inv h
      have hat := e_at_ob hH hob ha
      rw [List.map_cons, List.map_cons, e_cv_ref (e_c0_pos hob.1)]
      obtain ⟨n1, n2⟩ := e_kty_r (w := w) (x := v) hk g2
      refine e_putR hx hb hts f1 y f2 f5 ho hG.1 hat (e_ad_A hob.1) hS hq b hbq (hts _ hlk) hfin (f2 b hbq) (v := e_rv w v) n1 n2 (by rw [e_fs_len, f4]; exact hbq) d fun H1 locs1 hat1 z oq hS1 => ?_
      rw [← e_fs_sr w M o v g2] at hat1
      refine hgo _ _ _ _ _ _ h H1 locs1 cells slots ls (hH.put hob.1 rfl rfl (fun _ _ => rfl) (fun j hj => e_cell_sr hj) ?_ z oq) hS1 hc hs hl
      rw [e_cell_ob (w := w) (M := e_sr M o b v) (ci := a) hob.2.2 ha]
      exact hat1
    · rw [if_neg g2] at h
      obtain ⟨o, v, r, rfl, hob, h3, h⟩ := e_rpi_inv h
      have hat := e_at_ob hH hob ha
      rw [List.map_cons, List.map_cons, e_cv_ref (e_c0_pos hob.1)]
      obtain ⟨n1, n2⟩ := e_kty_i (x := v) hk g1 g2 h3
      refine e_putR hx hb hts f1 y f2 f5 ho hG.1 hat (e_ad_A hob.1) hS hq b hbq (hts _ hlk) hfin (f2 b hbq) (v := .int v) n1 n2 (by rw [e_fs_len, f4]; exact hbq) d fun H1 locs1 hat1 z oq hS1 => ?_
      rw [← e_fs_si w M o v g1 g2] at hat1
      refine hgo _ _ _ _ _ _ h H1 locs1 cells slots ls (hH.put hob.1 rfl rfl (fun j hj => e_u_ne hj) (fun j hj => e_cell_si hj) ?_ z oq) hS1 hc hs hl
      rw [e_cell_ob (w := w) (M := e_si M o b v) (ci := a) hob.2.2 ha]
      exact hat1
end HEA
end
section
/-! ===== arrays, statics, new cells ===== -/
section ARR
variable {p : Program} {l : Launch} {e : Env} {R : Room} {s : State} {m : MethodId} {args : Array Value} {below : List Frame} {meth : Method} {c : Code} {Qf : State → Prop} {w : eW}
variable {cc : ByteArray} {nL : Nat} {k : eK} {H : Heap} {locs : List Loc} {cells slots kc ks pc : Nat} {ls : Array Slot} {lv : eL} {M : eM}
theorem e_cell_20 {a : Nat} (h : (M.2.1 a).1 = 20) : e_cell w M a = .inl (w.2.1 20, (M.2.1 a).2, .inl (M.2.2.1 a)) := by simp [e_cell, h]
theorem e_cell_21 {a : Nat} (h : (M.2.1 a).1 = 21) : e_cell w M a = .inl (w.2.1 21, (M.2.1 a).2, .inr (.inl (M.2.2.2.1 a))) := by simp [e_cell, h]
theorem e_cell_22 {a : Nat} (h : (M.2.1 a).1 = 22) : e_cell w M a = .inl (w.2.1 22, (M.2.1 a).2, .inl (M.2.2.1 a)) := by simp [e_cell, h]
theorem e_cell_23 {a : Nat} (h : (M.2.1 a).1 = 23) : e_cell w M a = .inl (w.2.1 23, (M.2.1 a).2, .inr (.inr (.inr (.inr (fun j => e_ro w (M.2.2.2.2 a j)))))) := by simp [e_cell, h]
theorem e_cell_24 {a : Nat} (h : (M.2.1 a).1 = 24) : e_cell w M a = .inl (w.2.1 24, (M.2.1 a).2, .inr (.inr (.inr (.inr (fun j => e_ro w (M.2.2.2.2 a j)))))) := by simp [e_cell, h]
theorem e_at_ar {U : State} {a t : Nat} {i : Int32} (hH : e_H w M U H) (h : e_ar M a t i) (ht : t < 50) : va_at w.1 e_cl (e_ad w a, e_cell w M a) H := hH.2.2.1 a h.1 h.2.1 (by rw [h.2.2.1]; exact ht)
theorem es_getstatic (hx : p.tables.exec = Jvm.exec) (hb : c.code = cc) (hgo : e_Go p l e R s m args below meth c Qf w nL k) (hH : e_H w M s H) (hS : va_S (e_A w) s.heap H locs) (hc : cells + kc ≤ R.cells) (hs : slots + ks ≤ R.slots) (hl : lv_has ls nL (lv.map (e_cq w)))
    (hG : e_G w s) {own : String} (ho : s.vm.findClass own = some m.cls) {st : List Value} {a x : Nat} {n : String} (hn : (own, x, n, a) ∈ e_nsF) (hz : ("TierMill", n, "[I", a) ∈ e_sts) (d : decode cc pc = .ok (.getstatic x, 3))
    (h : k kc ks (pc + 3) lv (.ref a :: st) M) : W p l e R s m args below meth c H locs cells slots Qf (F0 m pc ls (st.map (e_cv w))) := by
  have hlt : 0 < a ∧ a < e_c0 := by
    simp only [e_sts, List.mem_cons, List.not_mem_nil, or_false, Prod.mk.injEq] at hz
    unfold e_c0
    omega
  have hr : e_cv w (.ref a) = .ref (w.2.2.1 a) := by
    rw [e_cv_ref hlt.1]
    unfold e_ad
    rw [if_pos hlt.2]
  have h2 := hgo _ _ _ _ _ _ h H locs cells slots ls hH hS hc hs hl
  rw [List.map_cons, hr] at h2
  obtain ⟨cf, kf, fi, f, a1, cell, h3, h4, h5, h6, h7, h8, h9, h10⟩ := hH.2.2.2.2.1 _ hz
  exact va_WgetsN hx hb ho (va_Nw.use rfl (hG.2.1 _ hn)) h3 h4 h5 h6 h7 (fun e => by rw [e] at h8; cases h8) h9 rfl d h2
theorem es_iaload (hx : p.tables.exec = Jvm.exec) (hb : c.code = cc) (hgo : e_Go p l e R s m args below meth c Qf w nL k) (hH : e_H w M s H) (hS : va_S (e_A w) s.heap H locs) (hc : cells + kc ≤ R.cells) (hs : slots + ks ≤ R.slots) (hl : lv_has ls nL (lv.map (e_cq w)))
    (hG : e_G w s) {r : List Value} {a : Nat} {i : Int32} (ha : e_ai M a i) (d : decode cc pc = .ok (.iaload, 1)) (h : k kc ks (pc + 1) lv (.int (M.2.2.1 a i.toNatClampNeg) :: r) M) : W p l e R s m args below meth c H locs cells slots Qf (F0 m pc ls ((.int i :: .ref a :: r).map (e_cv w))) := by
  obtain ⟨h1, h2, h3, h4⟩ := ha
  have h5 := hgo _ _ _ _ _ _ h H locs cells slots ls hH hS hc hs hl
  rw [List.map_cons, List.map_cons, e_cv_ref h1]
  by_cases hlt : a < e_c0
  · obtain ⟨g1, cell, g2, g3, g4, g5, g6, g7⟩ := hH.2.2.2.1 a h1 hlt h3
    have hi : i.toNatClampNeg < (M.2.1 a).2 := Nat.not_le.mp fun q => h4 (Or.inr q)
    have hj : e_ad w a = w.2.2.1 a := if_pos hlt
    rw [hj]
    refine W.iald (v := .int (M.2.2.1 a i.toNatClampNeg)) hx hb g2 g3 g4 (fun q => ?_) (g7 _ hi) rfl rfl d h5
    rcases q with q | q
    · exact h4 (Or.inl q)
    · omega
  · have hat := hH.2.2.1 a (Nat.not_lt.mp hlt) h2 (by rw [h3]; decide)
    rw [e_cell_20 h3] at hat
    exact va_iald hx hb hG.1 (e_P1 hat) 0 0 rfl rfl h4 d h5
theorem es_baload (hx : p.tables.exec = Jvm.exec) (hb : c.code = cc) (hgo : e_Go p l e R s m args below meth c Qf w nL k) (hH : e_H w M s H) (hS : va_S (e_A w) s.heap H locs) (hc : cells + kc ≤ R.cells) (hs : slots + ks ≤ R.slots) (hl : lv_has ls nL (lv.map (e_cq w)))
    (hG : e_G w s) {r : List Value} {a : Nat} {i : Int32} (ha : e_ar M a 22 i) (d : decode cc pc = .ok (.baload, 1)) (h : k kc ks (pc + 1) lv (.int (M.2.2.1 a i.toNatClampNeg) :: r) M) : W p l e R s m args below meth c H locs cells slots Qf (F0 m pc ls ((.int i :: .ref a :: r).map (e_cv w))) := by
  have hat := e_at_ar hH ha (by decide)
  rw [e_cell_22 ha.2.2.1] at hat
  rw [List.map_cons, List.map_cons, e_cv_ref (e_c0_pos ha.1)]
  exact va_zald hx hb hG.1 (e_P1 hat) 0 2 rfl rfl ha.2.2.2 d (hgo _ _ _ _ _ _ h H locs cells slots ls hH hS hc hs hl)
theorem es_laload (hx : p.tables.exec = Jvm.exec) (hb : c.code = cc) (hgo : e_Go p l e R s m args below meth c Qf w nL k) (hH : e_H w M s H) (hS : va_S (e_A w) s.heap H locs) (hc : cells + kc ≤ R.cells) (hs : slots + ks ≤ R.slots) (hl : lv_has ls nL (lv.map (e_cq w)))
    (hG : e_G w s) {r : List Value} {a : Nat} {i : Int32} (ha : e_ar M a 21 i) (d : decode cc pc = .ok (.laload, 1)) (h : k kc ks (pc + 1) lv (.long (M.2.2.2.1 a i.toNatClampNeg) :: r) M) : W p l e R s m args below meth c H locs cells slots Qf (F0 m pc ls ((.int i :: .ref a :: r).map (e_cv w))) := by
  have hat := e_at_ar hH ha (by decide)
  rw [e_cell_21 ha.2.2.1] at hat
  rw [List.map_cons, List.map_cons, e_cv_ref (e_c0_pos ha.1)]
  exact va_lald hx hb hG.1 (e_P1 hat) 0 1 rfl rfl ha.2.2.2 d (hgo _ _ _ _ _ _ h H locs cells slots ls hH hS hc hs hl)
theorem es_aaload (hx : p.tables.exec = Jvm.exec) (hb : c.code = cc) (hgo : e_Go p l e R s m args below meth c Qf w nL k) (hH : e_H w M s H) (hS : va_S (e_A w) s.heap H locs) (hc : cells + kc ≤ R.cells) (hs : slots + ks ≤ R.slots) (hl : lv_has ls nL (lv.map (e_cq w)))
    (hG : e_G w s) {r : List Value} {a : Nat} {i : Int32} (ha : e_ar M a 23 i ∨ e_ar M a 24 i) (d : decode cc pc = .ok (.aaload, 1)) (h : k kc ks (pc + 1) lv (.ref (M.2.2.2.2 a i.toNatClampNeg) :: r) M) : W p l e R s m args below meth c H locs cells slots Qf (F0 m pc ls ((.int i :: .ref a :: r).map (e_cv w))) := by
  have h5 := hgo _ _ _ _ _ _ h H locs cells slots ls hH hS hc hs hl
  have e1 : e_cv w (.ref (M.2.2.2.2 a i.toNatClampNeg)) = va_rf (e_ro w (M.2.2.2.2 a i.toNatClampNeg)) := (e_ro_rf w _).symm
  rw [List.map_cons, e1] at h5
  rcases ha with ha | ha
  · have hat := e_at_ar hH ha (by decide)
    rw [e_cell_23 ha.2.2.1] at hat
    rw [List.map_cons, List.map_cons, e_cv_ref (e_c0_pos ha.1)]
    exact va_aldq hx hb hG.1 (e_P1 hat) 0 3 rfl rfl ha.2.2.2 d h5
  · have hat := e_at_ar hH ha (by decide)
    rw [e_cell_24 ha.2.2.1] at hat
    rw [List.map_cons, List.map_cons, e_cv_ref (e_c0_pos ha.1)]
    exact va_aldq hx hb hG.1 (e_P1 hat) 0 4 rfl rfl ha.2.2.2 d h5
theorem es_iastore (hx : p.tables.exec = Jvm.exec) (hb : c.code = cc) (hgo : e_Go p l e R s m args below meth c Qf w nL k) (hH : e_H w M s H) (hS : va_S (e_A w) s.heap H locs) (hc : cells + kc ≤ R.cells) (hs : slots + ks ≤ R.slots) (hl : lv_has ls nL (lv.map (e_cq w)))
    (hG : e_G w s) {r : List Value} {a : Nat} {i x : Int32} (ha : e_ar M a 20 i) (d : decode cc pc = .ok (.iastore, 1)) (h : k kc ks (pc + 1) lv r (e_si M a i.toNatClampNeg x)) : W p l e R s m args below meth c H locs cells slots Qf (F0 m pc ls ((.int x :: .int i :: .ref a :: r).map (e_cv w))) := by
  have hat := e_at_ar hH ha (by decide)
  rw [e_cell_20 ha.2.2.1] at hat
  rw [List.map_cons, List.map_cons, List.map_cons, e_cv_ref (e_c0_pos ha.1)]
  refine W.iast hx hb hat ((hG.1.2 0 _ rfl).1 _ (fun j => .int (M.2.2.1 a j))) (fun q => by cases q) (by show ¬ (i < 0 ∨ (arrV _ _ _).slots.size ≤ _); rw [arrV_size]; exact ha.2.2.2) rfl rfl d fun H1 e1 z oq => ?_
  refine hgo _ _ _ _ _ _ h H1 _ cells slots ls (hH.put ha.1 rfl rfl (fun j hj => e_u_ne hj) (fun j hj => e_cell_si hj) ?_ z oq) (hS.put z oq (e_ad_A ha.1)) hc hs hl
  rw [e_cell_20 (w := w) (M := e_si M a i.toNatClampNeg x) ha.2.2.1]
  show H1[_]? = some (vp_cell _ _)
  rw [e1, vp_cell_i, vp_cell_i, arrV_store]
  show some (arrV _ _ _) = some (arrV _ _ (fun j => .int (e_u M.2.2.1 a i.toNatClampNeg x a j)))
  rw [e_u_i]
  congr 2
  funext q
  by_cases hq : q = i.toNatClampNeg
  · subst hq; simp [updV, upd]
  · simp [updV, upd, hq]
theorem es_bastore (hx : p.tables.exec = Jvm.exec) (hb : c.code = cc) (hgo : e_Go p l e R s m args below meth c Qf w nL k) (hH : e_H w M s H) (hS : va_S (e_A w) s.heap H locs) (hc : cells + kc ≤ R.cells) (hs : slots + ks ≤ R.slots) (hl : lv_has ls nL (lv.map (e_cq w)))
    (hG : e_G w s) {r : List Value} {a : Nat} {i x : Int32} (ha : e_ar M a 22 i) (d : decode cc pc = .ok (.bastore, 1)) (h : k kc ks (pc + 1) lv r (e_si M a i.toNatClampNeg (vp_nar .boolean x))) : W p l e R s m args below meth c H locs cells slots Qf (F0 m pc ls ((.int x :: .int i :: .ref a :: r).map (e_cv w))) := by
  have hat := e_at_ar hH ha (by decide)
  rw [e_cell_22 ha.2.2.1] at hat
  rw [List.map_cons, List.map_cons, List.map_cons, e_cv_ref (e_c0_pos ha.1)]
  refine W.zast hx hb hat ((hG.1.2 2 _ rfl).1 _ (fun j => .int (M.2.2.1 a j))) (fun q => by cases q) (by show ¬ (i < 0 ∨ (arrV _ _ _).slots.size ≤ _); rw [arrV_size]; exact ha.2.2.2) rfl rfl d fun H1 e1 z oq => ?_
  refine hgo _ _ _ _ _ _ h H1 _ cells slots ls (hH.put ha.1 rfl rfl (fun j hj => e_u_ne hj) (fun j hj => e_cell_si hj) ?_ z oq) (hS.put z oq (e_ad_A ha.1)) hc hs hl
  rw [e_cell_22 (w := w) (M := e_si M a i.toNatClampNeg (vp_nar .boolean x)) ha.2.2.1]
  show H1[_]? = some (vp_cell _ _)
  rw [e1, vp_cell_i, vp_cell_i, arrV_store]
  show some (arrV _ _ _) = some (arrV _ _ (fun j => .int (e_u M.2.2.1 a i.toNatClampNeg (vp_nar .boolean x) a j)))
  rw [e_u_i]
  congr 2
  funext q
  by_cases hq : q = i.toNatClampNeg
  · subst hq; simp [updV, upd, vp_nar]; try rfl
  · simp [updV, upd, hq]
theorem es_lastore (hx : p.tables.exec = Jvm.exec) (hb : c.code = cc) (hgo : e_Go p l e R s m args below meth c Qf w nL k) (hH : e_H w M s H) (hS : va_S (e_A w) s.heap H locs) (hc : cells + kc ≤ R.cells) (hs : slots + ks ≤ R.slots) (hl : lv_has ls nL (lv.map (e_cq w)))
    (hG : e_G w s) {r : List Value} {a : Nat} {i : Int32} {x : Int64} (ha : e_ar M a 21 i) (d : decode cc pc = .ok (.lastore, 1)) (h : k kc ks (pc + 1) lv r (e_sl M a i.toNatClampNeg x)) : W p l e R s m args below meth c H locs cells slots Qf (F0 m pc ls ((.long x :: .int i :: .ref a :: r).map (e_cv w))) := by
  have hat := e_at_ar hH ha (by decide)
  rw [e_cell_21 ha.2.2.1] at hat
  rw [List.map_cons, List.map_cons, List.map_cons, e_cv_ref (e_c0_pos ha.1)]
  refine W.last hx hb hat ((hG.1.2 1 _ rfl).1 _ (fun j => .long (M.2.2.2.1 a j))) (fun q => by cases q) (by show ¬ (i < 0 ∨ (arrV _ _ _).slots.size ≤ _); rw [arrV_size]; exact ha.2.2.2) rfl rfl d fun H1 e1 z oq => ?_
  refine hgo _ _ _ _ _ _ h H1 _ cells slots ls (hH.put ha.1 rfl rfl (fun _ _ => rfl) (fun j hj => e_cell_sl hj) ?_ z oq) (hS.put z oq (e_ad_A ha.1)) hc hs hl
  rw [e_cell_21 (w := w) (M := e_sl M a i.toNatClampNeg x) ha.2.2.1]
  show H1[_]? = some (vp_cell _ _)
  rw [e1, vp_cell_l, vp_cell_l, arrV_store]
  show some (arrV _ _ _) = some (arrV _ _ (fun j => .long (e_u M.2.2.2.1 a i.toNatClampNeg x a j)))
  rw [e_u_l]
  congr 2
  funext q
  by_cases hq : q = i.toNatClampNeg
  · subst hq; simp [updV, vp_updL]
  · simp [updV, vp_updL, hq]
theorem e_aastR (hx : p.tables.exec = Jvm.exec) (hb : c.code = cc) (hgo : e_Go p l e R s m args below meth c Qf w nL k) (hH : e_H w M s H) (hS : va_S (e_A w) s.heap H locs) (hc : cells + kc ≤ R.cells) (hs : slots + ks ≤ R.slots) (hl : lv_has ls nL (lv.map (e_cq w)))
    (hG : e_G w s) {r : List Value} {a x t t0 ci : Nat} {i : Int32} {q : vw_C} (ha : e_ar M a t i) (ht : t < 50) (hce : ∀ M' : eM, (M'.2.1 a).1 = t → e_cell w M' a = .inl (w.2.1 t, (M'.2.1 a).2, .inr (.inr (.inr (.inr (fun j => e_ro w (M'.2.2.2.2 a j))))))) (hty : (e_tys w)[t0]? = some (w.2.1 t, .object q.1)) (hci : ci < 20) (hq : e_cl[ci]? = some q) (hob : e_ob M x ci) (d : decode cc pc = .ok (.aastore, 1)) (h : k kc ks (pc + 1) lv r (e_sr M a i.toNatClampNeg x)) : W p l e R s m args below meth c H locs cells slots Qf (F0 m pc ls ((.ref x :: .int i :: .ref a :: r).map (e_cv w))) := by
  have hat := e_at_ar hH ha ht
  rw [hce M ha.2.2.1] at hat
  rw [List.map_cons, List.map_cons, List.map_cons, e_cv_ref (e_c0_pos ha.1), e_cv_ref (e_c0_pos hob.1)]
  have hlt : i.toNatClampNeg < (M.2.1 a).2 := Nat.not_le.mp fun q => ha.2.2.2 (Or.inr q)
  have h0 : ¬ i < 0 := fun q => ha.2.2.2 (Or.inl q)
  obtain ⟨r', hr', cellV, g1, g2, g3, -⟩ := e_at_ob hH hob hci
  have hcls := (hG.1.1 ci q hq).2
  obtain ⟨kA, comp, k1, k2, k3, -⟩ := (hG.1.2 t0 _ hty).2
  have hcomp : comp = w.1.1 ci := Option.some.inj (k3.symm.trans hcls.1)
  subst hcomp
  obtain ⟨kC, hkC, -⟩ := hcls.2
  refine W.aast hx hb hat (fun q h => by cases h) (fun h => by cases h) k1 k2 rfl hkC ⟨h0, by show _ < (arrV _ _ _).slots.size; rw [arrV_size]; exact hlt⟩ g1 (fun q h => by rw [g3] at h; cases h) (by rw [g2]; exact hkC) (by rw [g2]; exact va_assign hcls) rfl rfl d fun H1 e1 z oq => ?_
  refine hgo _ _ _ _ _ _ h H1 _ cells slots ls (hH.put ha.1 rfl rfl (fun _ _ => rfl) (fun j hj => e_cell_sr hj) ?_ z oq) (hS.put z oq (e_ad_A ha.1)) hc hs hl
  rw [hce (e_sr M a i.toNatClampNeg x) ha.2.2.1]
  show H1[_]? = some (vp_cell _ _)
  rw [e1, vp_cell_q, vp_cell_q, arrV_store]
  show some (arrV _ _ _) = some (arrV _ _ (fun j => va_rf (e_ro w (e_u M.2.2.2.2 a i.toNatClampNeg x a j))))
  rw [e_u_r]
  congr 2
  funext q
  by_cases hq : q = i.toNatClampNeg
  · subst hq
    have : x ≠ 0 := Nat.ne_of_gt (e_c0_pos hob.1)
    simp [updV, va_up, e_ro, this, va_rf]
  · simp [updV, va_up, hq]
theorem es_aastore (hx : p.tables.exec = Jvm.exec) (hb : c.code = cc) (hgo : e_Go p l e R s m args below meth c Qf w nL k) (hH : e_H w M s H) (hS : va_S (e_A w) s.heap H locs) (hc : cells + kc ≤ R.cells) (hs : slots + ks ≤ R.slots) (hl : lv_has ls nL (lv.map (e_cq w)))
    (hG : e_G w s) {r : List Value} {a x : Nat} {i : Int32} (ha : (e_ar M a 23 i ∧ e_ob M x 5) ∨ (e_ar M a 24 i ∧ e_ob M x 8)) (d : decode cc pc = .ok (.aastore, 1)) (h : k kc ks (pc + 1) lv r (e_sr M a i.toNatClampNeg x)) : W p l e R s m args below meth c H locs cells slots Qf (F0 m pc ls ((.ref x :: .int i :: .ref a :: r).map (e_cv w))) := by
  rcases ha with ⟨h1, h2⟩ | ⟨h1, h2⟩
  · exact e_aastR hx hb hgo hH hS hc hs hl hG h1 (by decide) (fun M' h => e_cell_23 h) (t0 := 3) rfl (by decide) rfl h2 d h
  · exact e_aastR hx hb hgo hH hS hc hs hl hG h1 (by decide) (fun M' h => e_cell_24 h) (t0 := 4) rfl (by decide) rfl h2 d h
theorem es_alen (hx : p.tables.exec = Jvm.exec) (hb : c.code = cc) (hgo : e_Go p l e R s m args below meth c Qf w nL k) (hH : e_H w M s H) (hS : va_S (e_A w) s.heap H locs) (hc : cells + kc ≤ R.cells) (hs : slots + ks ≤ R.slots) (hl : lv_has ls nL (lv.map (e_cq w)))
    (hG : e_G w s) {r : List Value} {a : Nat} (ha : (0 < a ∧ a < M.1 ∧ (M.2.1 a).1 = 20) ∨ (e_c0 ≤ a ∧ a < M.1 ∧ 20 ≤ (M.2.1 a).1 ∧ (M.2.1 a).1 ≤ 24)) (d : decode cc pc = .ok (.arraylength, 1)) (h : k kc ks (pc + 1) lv (.int (Int32.ofNat (M.2.1 a).2) :: r) M) : W p l e R s m args below meth c H locs cells slots Qf (F0 m pc ls ((.ref a :: r).map (e_cv w))) := by
  have h5 := hgo _ _ _ _ _ _ h H locs cells slots ls hH hS hc hs hl
  have h0 : 0 < a := by
    rcases ha with h | h
    · exact h.1
    · exact e_c0_pos h.1
  rw [List.map_cons, e_cv_ref h0]
  by_cases hlt : a < e_c0
  · have h3 : (M.2.1 a).1 = 20 := by
      rcases ha with h | h
      · exact h.2.2
      · omega
    obtain ⟨g1, cell, g2, g3, g4, g5, g6, g7⟩ := hH.2.2.2.1 a h0 hlt h3
    have hj : e_ad w a = w.2.2.1 a := if_pos hlt
    rw [hj]
    exact W.alen hx hb g2 g3 g6 rfl rfl d h5
  · have h1 := Nat.not_lt.mp hlt
    have h2 : a < M.1 ∧ ((M.2.1 a).1 = 20 ∨ (M.2.1 a).1 = 21 ∨ (M.2.1 a).1 = 22 ∨ (M.2.1 a).1 = 23 ∨ (M.2.1 a).1 = 24) := by
      rcases ha with h | h
      · exact ⟨h.2.1, Or.inl h.2.2⟩
      · exact ⟨h.2.1, by omega⟩
    have hat := hH.2.2.1 a h1 h2.1 (by omega)
    rcases h2.2 with g | g | g | g | g
    · rw [e_cell_20 g] at hat
      exact va_alen hx hb hG.1 (e_P1 hat) 0 0 rfl rfl rfl d h5
    · rw [e_cell_21 g] at hat
      exact va_alen hx hb hG.1 (e_P1 hat) 0 1 rfl rfl rfl d h5
    · rw [e_cell_22 g] at hat
      exact va_alen hx hb hG.1 (e_P1 hat) 0 2 rfl rfl rfl d h5
    · rw [e_cell_23 g] at hat
      exact va_alen hx hb hG.1 (e_P1 hat) 0 3 rfl rfl rfl d h5
    · rw [e_cell_24 g] at hat
      exact va_alen hx hb hG.1 (e_P1 hat) 0 4 rfl rfl rfl d h5
end ARR
end
section
/-! ===== new cells, calls, returns ===== -/
section CAL
variable {p : Program} {l : Launch} {e : Env} {R : Room} {s : State} {m : MethodId} {args : Array Value} {below : List Frame} {meth : Method} {c : Code} {Qf : State → Prop} {w : eW}
variable {cc : ByteArray} {nL : Nat} {k : eK} {H : Heap} {locs : List Loc} {cells slots kc ks pc : Nat} {ls : Array Slot} {lv : eL} {M : eM}
theorem e_S_new {H1 : Heap} (hS : va_S (e_A w) s.heap H locs) (z : H1.size = H.size + 1) (oq : ∀ q, q < H.size → H1[q]? = H[q]?) : va_S (e_A w) s.heap H1 locs :=
  ⟨Nat.le_trans hS.1 (by omega), fun x h1 h2 => (oq x (Nat.lt_of_lt_of_le h1 hS.1)).trans (hS.2.1 x h1 h2), hS.2.2⟩
theorem e_new_t (M : eM) (t n : Nat) : (e_new M t n).2.1 M.1 = (t, n) := va_up_self _ _ _
theorem e_new_i (M : eM) (t n : Nat) : (e_new M t n).2.2.1 M.1 = fun _ => 0 := va_up_self _ _ _
theorem e_new_l (M : eM) (t n : Nat) : (e_new M t n).2.2.2.1 M.1 = fun _ => 0 := va_up_self _ _ _
theorem e_new_r (M : eM) (t n : Nat) : (e_new M t n).2.2.2.2 M.1 = fun _ => 0 := va_up_self _ _ _
theorem e_def {kind : Nat} {ty : FieldType} (h : e_kty kind ty = true) (t n j : Nat) : defaultValue ty = e_cv w (e_gv (e_new M t n) M.1 j kind) := by
  unfold e_gv
  rw [e_new_i, e_new_l, e_new_r]
  cases ty with
  | int => have : kind = 0 := by simpa [e_kty] using h
           subst this; rfl
  | boolean => have : kind = 3 := by simpa [e_kty] using h
               subst this; rfl
  | long => have : kind = 1 := by simpa [e_kty] using h
            subst this; rfl
  | object n => have : kind = 2 := by simpa [e_kty] using h
                subst this; rfl
  | array n => have : kind = 2 := by simpa [e_kty] using h
               subst this; rfl
  | _ => cases h
theorem es_new (hx : p.tables.exec = Jvm.exec) (hb : c.code = cc) (hgo : e_Go p l e R s m args below meth c Qf w nL k) (hH : e_H w M s H) (hS : va_S (e_A w) s.heap H locs) (hc : cells + kc ≤ R.cells) (hs : slots + ks ≤ R.slots) (hl : lv_has ls nL (lv.map (e_cq w)))
    (hG : e_G w s) (hts : ∀ v ∈ e_big, v.before args s = true) {own : String} (ho : s.vm.findClass own = some m.cls) {st : List Value} {a x : Nat} {q : vw_C} (hq : e_cl[a]? = some q) (w1 : Cond.classLink own x q.1 ∈ e_big) (w2 : Cond.instantiable q.1 q.2.2 ∈ e_big) (w3 : Cond.initialized q.1 ∈ e_big) (d : decode cc pc = .ok (.new x, 3)) (h1 : 1 ≤ kc) (h2 : (e_fk a).length ≤ ks)
    (h : k (kc - 1) (ks - (e_fk a).length) (pc + 3) lv (.ref M.1 :: st) (e_new M a 0)) : W p l e R s m args below meth c H locs cells slots Qf (F0 m pc ls (st.map (e_cv w))) := by
  obtain ⟨y, f1, f2, f3, f4, f5⟩ := e_cl_f hq
  have ha := e_cl_lt hq
  obtain ⟨C, T, N⟩ := q
  have hN : (e_fk a).length = N := f4
  rw [hN] at h h2
  have hKn := hG.1.1 a _ hq
  have hsz := hH.lt
  have hpos := e_c0_pos hH.1
  refine W.newcK hx hb ho (hts _ w1) (hts _ w2) (hts _ w3) rfl d (by omega) (show slots + N ≤ R.slots by omega) hKn.2.1 rfl fun H1 kC hkC e1 z1 o1 => ?_
  have h5 := hgo _ _ _ _ _ _ h H1 locs (cells + 1) (slots + N) ls (hH.new (t := a) (n := 0) (by
      rw [e_cell_ob (w := w) (M := e_new M a 0) (ci := a) (by rw [e_new_t]) ha, ← hsz]
      refine ⟨_, hq, (u_born y hts f1 hKn hkC e1 f2).to fun j hj => ?_⟩
      have h6 := e_fs_get w (e_new M a 0) M.1 (ks := e_fk a) (j := j) (by rw [hN]; exact hj)
      show _ = (e_fs w (e_new M a 0) M.1 (e_fk a)).getD j .null
      rw [List.getD_eq_getElem?_getD, h6]
      exact e_def (f3 j hj) a 0 j) z1 o1) (e_S_new hS z1 o1) (by omega) (by omega) hl
  rw [List.map_cons, e_cv_ref hpos, ← hsz] at h5
  exact h5
theorem e_newaR (hx : p.tables.exec = Jvm.exec) (hb : c.code = cc) (hgo : e_Go p l e R s m args below meth c Qf w nL k) (hH : e_H w M s H) (hS : va_S (e_A w) s.heap H locs) (hc : cells + kc ≤ R.cells) (hs : slots + ks ≤ R.slots) (hl : lv_has ls nL (lv.map (e_cq w)))
    (hG : e_G w s) (hts : ∀ v ∈ e_big, v.before args s = true) {r : List Value} {t t0 : Nat} {at_ : ArrayType} {ty : FieldType} {n : Int32} (hat : newarray.typeOf at_ = ty) (hty : (e_tys w)[t0]? = some (w.2.1 t, ty)) (hra : va_RA s (w.2.1 t) ty → s.vm.findClass ("[" ++ ty.toString) = some (w.2.1 t)) (hby : componentBytes ty ≤ 8) (hce : ∀ N : Nat, va_at w.1 e_cl (e_ad w M.1, e_cell w (e_new M t N) M.1) = fun H' => H'[e_ad w M.1]? = some (arrV (w.2.1 t) N (fun _ => defaultValue ty)))
    (w1 : Cond.arrayClass ty ∈ e_big) (d : decode cc pc = .ok (.newarray at_, 2)) (h0 : ¬ n < 0) (h3 : n.toNatClampNeg ≤ 60000) (h1 : 1 ≤ kc) (h2 : n.toNatClampNeg ≤ ks)
    (h : k (kc - 1) (ks - n.toNatClampNeg) (pc + 2) lv (.ref M.1 :: r) (e_new M t n.toNatClampNeg)) : W p l e R s m args below meth c H locs cells slots Qf (F0 m pc ls ((.int n :: r).map (e_cv w))) := by
  subst hat
  have hsz := hH.lt
  have hpos := e_c0_pos hH.1
  have hB : n.toNatClampNeg * componentBytes (newarray.typeOf at_) ≤ 536870912 := Nat.le_trans (Nat.mul_le_mul h3 hby) (by decide)
  refine va_newaK hx hb (hts _ w1) rfl d rfl h0 rfl hB (by omega) (by omega) rfl fun H1 cA e1 z1 o1 hAr hNm => ?_
  have hcA : cA = w.2.1 t := Option.some.inj (hNm.symm.trans (hra (hG.1.2 t0 _ hty).2))
  subst hcA
  have h5 := hgo _ _ _ _ _ _ h H1 locs (cells + 1) (slots + n.toNatClampNeg) ls (hH.new (t := t) (n := n.toNatClampNeg) (by rw [hce, ← hsz]; exact e1) z1 o1) (e_S_new hS z1 o1) (by omega) (by omega) hl
  rw [List.map_cons, e_cv_ref hpos, ← hsz] at h5
  exact h5
theorem es_newarray (hx : p.tables.exec = Jvm.exec) (hb : c.code = cc) (hgo : e_Go p l e R s m args below meth c Qf w nL k) (hH : e_H w M s H) (hS : va_S (e_A w) s.heap H locs) (hc : cells + kc ≤ R.cells) (hs : slots + ks ≤ R.slots) (hl : lv_has ls nL (lv.map (e_cq w)))
    (hG : e_G w s) (hts : ∀ v ∈ e_big, v.before args s = true) {r : List Value} {t : Nat} {at_ : ArrayType} {n : Int32} (ht : (t = 20 ∧ at_ = .int ∧ Cond.arrayClass .int ∈ e_big) ∨ (t = 21 ∧ at_ = .long ∧ Cond.arrayClass .long ∈ e_big) ∨ (t = 22 ∧ at_ = .boolean ∧ Cond.arrayClass .boolean ∈ e_big)) (d : decode cc pc = .ok (.newarray at_, 2)) (h0 : ¬ n < 0) (h3 : n.toNatClampNeg ≤ 60000) (h1 : 1 ≤ kc) (h2 : n.toNatClampNeg ≤ ks)
    (h : k (kc - 1) (ks - n.toNatClampNeg) (pc + 2) lv (.ref M.1 :: r) (e_new M t n.toNatClampNeg)) : W p l e R s m args below meth c H locs cells slots Qf (F0 m pc ls ((.int n :: r).map (e_cv w))) := by
  rcases ht with ⟨rfl, rfl, w1⟩ | ⟨rfl, rfl, w1⟩ | ⟨rfl, rfl, w1⟩
  · refine e_newaR hx hb hgo hH hS hc hs hl hG hts (t := 20) (t0 := 0) (at_ := .int) (ty := .int) rfl rfl (fun z => z) (by decide) (fun N => ?_) w1 d h0 h3 h1 h2 h
    rw [e_cell_20 (by rw [e_new_t]), e_new_t, e_new_i]
    funext H'
    rfl
  · refine e_newaR hx hb hgo hH hS hc hs hl hG hts (t := 21) (t0 := 1) (at_ := .long) (ty := .long) rfl rfl (fun z => z) (by decide) (fun N => ?_) w1 d h0 h3 h1 h2 h
    rw [e_cell_21 (by rw [e_new_t]), e_new_t, e_new_l]
    funext H'
    rfl
  · refine e_newaR hx hb hgo hH hS hc hs hl hG hts (t := 22) (t0 := 2) (at_ := .boolean) (ty := .boolean) rfl rfl (fun z => z) (by decide) (fun N => ?_) w1 d h0 h3 h1 h2 h
    rw [e_cell_22 (by rw [e_new_t]), e_new_t, e_new_i]
    funext H'
    rfl
theorem e_anewR (hx : p.tables.exec = Jvm.exec) (hb : c.code = cc) (hgo : e_Go p l e R s m args below meth c Qf w nL k) (hH : e_H w M s H) (hS : va_S (e_A w) s.heap H locs) (hc : cells + kc ≤ R.cells) (hs : slots + ks ≤ R.slots) (hl : lv_has ls nL (lv.map (e_cq w)))
    (hG : e_G w s) (hts : ∀ v ∈ e_big, v.before args s = true) {own : String} (ho : s.vm.findClass own = some m.cls) {r : List Value} {t t0 x : Nat} {C : String} {n : Int32} (hty : (e_tys w)[t0]? = some (w.2.1 t, .object C)) (hov : va_AO C s) (hce : ∀ N : Nat, va_at w.1 e_cl (e_ad w M.1, e_cell w (e_new M t N) M.1) = fun H' => H'[e_ad w M.1]? = some (arrV (w.2.1 t) N (fun _ => .null)))
    (w1 : Cond.classLink own x C ∈ e_big) (d : decode cc pc = .ok (.anewarray x, 3)) (h0 : ¬ n < 0) (h3 : n.toNatClampNeg ≤ 60000) (h1 : 1 ≤ kc) (h2 : n.toNatClampNeg ≤ ks)
    (h : k (kc - 1) (ks - n.toNatClampNeg) (pc + 3) lv (.ref M.1 :: r) (e_new M t n.toNatClampNeg)) : W p l e R s m args below meth c H locs cells slots Qf (F0 m pc ls ((.int n :: r).map (e_cv w))) := by
  have hsz := hH.lt
  have hpos := e_c0_pos hH.1
  refine W.anew hx hb ho (hts _ w1) (va_AO.use hov) rfl d rfl h0 (by omega) (by omega) (by omega) fun cA kA comp f1 f2 f3 f4 => ?_
  generalize hH1 : H.push ({ cls := cA, slots := Array.replicate n.toNatClampNeg .null, vm := .none } : Cell) = H1
  have z1 : H1.size = H.size + 1 := by rw [← hH1, Array.size_push]
  have e1 : H1[H.size]? = some (arrV cA n.toNatClampNeg (fun _ => .null)) := by rw [← hH1, Array.getElem?_push_size, ← arrV_new]
  have o1 : ∀ q : Nat, q < H.size → H1[q]? = H[q]? := fun q hq => by rw [← hH1, Array.getElem?_push, if_neg (Nat.ne_of_lt hq)]
  obtain ⟨kA', comp', k1, k2, k3, k4⟩ := (hG.1.2 t0 _ hty).2
  have hcA : cA = w.2.1 t := Option.some.inj (f1.symm.trans k4)
  subst hcA
  have h5 := hgo _ _ _ _ _ _ h H1 locs (cells + 1) (slots + n.toNatClampNeg) ls (hH.new (t := t) (n := n.toNatClampNeg) (by rw [hce, ← hsz]; exact e1) z1 o1) (e_S_new hS z1 o1) (by omega) (by omega) hl
  rw [List.map_cons, e_cv_ref hpos, ← hsz] at h5
  exact h5
theorem es_anewarray (hx : p.tables.exec = Jvm.exec) (hb : c.code = cc) (hgo : e_Go p l e R s m args below meth c Qf w nL k) (hH : e_H w M s H) (hS : va_S (e_A w) s.heap H locs) (hc : cells + kc ≤ R.cells) (hs : slots + ks ≤ R.slots) (hl : lv_has ls nL (lv.map (e_cq w)))
    (hG : e_G w s) (hts : ∀ v ∈ e_big, v.before args s = true) {own : String} (ho : s.vm.findClass own = some m.cls) {r : List Value} {t x : Nat} {n : Int32} (ht : (t = 23 ∧ Cond.classLink own x "TierMill$Plan" ∈ e_big) ∨ (t = 24 ∧ Cond.classLink own x "TierMill$Shape" ∈ e_big)) (d : decode cc pc = .ok (.anewarray x, 3)) (h0 : ¬ n < 0) (h3 : n.toNatClampNeg ≤ 60000) (h1 : 1 ≤ kc) (h2 : n.toNatClampNeg ≤ ks)
    (h : k (kc - 1) (ks - n.toNatClampNeg) (pc + 3) lv (.ref M.1 :: r) (e_new M t n.toNatClampNeg)) : W p l e R s m args below meth c H locs cells slots Qf (F0 m pc ls ((.int n :: r).map (e_cv w))) := by
  rcases ht with ⟨rfl, w1⟩ | ⟨rfl, w1⟩
  · refine e_anewR hx hb hgo hH hS hc hs hl hG hts ho (t0 := 3) rfl hG.2.2.2.1 (fun N => ?_) w1 d h0 h3 h1 h2 h
    rw [e_cell_23 (by rw [e_new_t]), e_new_t, e_new_r]
    funext H'
    rfl
  · refine e_anewR hx hb hgo hH hS hc hs hl hG hts ho (t0 := 4) rfl hG.2.2.2.2.1 (fun N => ?_) w1 d h0 h3 h1 h2 h
    rw [e_cell_24 (by rw [e_new_t]), e_new_t, e_new_r]
    funext H'
    rfl
/-- a method's start and end -/
def e_Pc (w : eW) (av : List Value) (M : eM) : Array Value → State → Prop := va_Pc (av.map (e_cv w)) (fun U => e_G w U ∧ e_H w M U U.heap)
def e_Qc (w : eW) (K : eQ) : Array Value → State → Outcome → State → Prop := fun _ st oc t => (∃ (v : Option Value) (M' : eM), oc = .returned (v.map (e_cv w)) ∧ K v M' ∧ e_H w M' t t.heap) ∧ va_F (e_A w) st t
def e_ws (j : Nat) : List Cond := Cond.code (e_m j).1 (e_m j).2.1 (e_m j).2.2.1 (e_m j).2.2.2.1 :: e_big
def e_rm (d mc ms : Nat) : Room := { frames := d + 1, cells := mc, slots := ms, locals := 64 * (d + 1) }
def e_Cal (l : Launch) (R : Room) (w : eW) (cal : eC) : Prop := ∀ (j mc ms : Nat) (av : List Value) (M : eM) (K : eQ), cal j mc ms av M K → ∃ d' : Nat, Met l (e_m j).1 (e_ws j) (e_rm d' mc ms) (e_Pc w av M) (e_Qc w K) mc ms (e_A w) ∧ d' + 2 ≤ R.frames ∧ 64 * (d' + 2) ≤ R.locals
theorem e_Pc_blind (w : eW) (av : List Value) (M : eM) : FrameBlind (e_Pc w av M) := fun a U g mk q => ⟨q.1, e_G.same (s := U) rfl q.2.1, e_H.moved (Vm.Alike.refl U.vm) q.2.2⟩
theorem e_goodIn {X : List Cond} (h : ∀ w ∈ X, w ∈ e_big) : GoodIn e_big X := fun w hw => e_big_good w (h w hw)
theorem e_after (hgo : e_Go p l e R s m args below meth c Qf w nL k) (hS : va_S (e_A w) s.heap H locs) (hc : cells + kc ≤ R.cells) (hs : slots + ks ≤ R.slots) (hl : lv_has ls nL (lv.map (e_cq w))) {rest st0 : List Value} {mc ms : Nat} {a : Array Value} (h1 : mc ≤ kc) (h2 : ms ≤ ks)
    (hr : va_Run p l e R s m args below meth c H locs cells slots mc ms (F0 m pc ls st0) (rest.map (e_cv w)) (e_Qc w (fun v M' => k (kc - mc) (ks - ms) (pc + 3) lv (v.toList ++ rest) M') a) (e_A w)) : W p l e R s m args below meth c H locs cells slots Qf (F0 m pc ls st0) := by
  intro T hT X
  obtain ⟨v, st₀, t, T', L, h0, X', hL, e1, e2, ⟨⟨v', M', hv, hK, hH1⟩, hz, hk⟩, st⟩ := hr T hT X
  cases hv
  rw [h0] at hz hk
  have hH' : e_H w M' s T'.heap := by
    rw [e1]
    exact hH1.moved (by rw [← e2]; exact X'.warmed.alike.symm)
  have hS' : va_S (e_A w) s.heap T'.heap (locs ++ L) := ⟨Nat.le_trans hS.1 (by rw [e1]; exact hz), fun q g1 g2 => by rw [e1, hk q (Nat.lt_of_lt_of_le g1 hS.1) g2]; exact hS.2.1 q g1 g2, fun q hq => by
      rcases List.mem_append.mp hq with h | h
      · exact hS.2.2 q h
      · exact hL q h⟩
  obtain ⟨t2, a1, b1⟩ := hgo _ _ _ _ _ _ hK T'.heap (locs ++ L) (cells + mc) (slots + ms) ls hH' hS' (by omega) (by omega) hl T' rfl X'
  refine ⟨t2, st t2 ?_, b1⟩
  have e3 : (v'.toList ++ rest).map (e_cv w) = (v'.map (e_cv w)).toList ++ rest.map (e_cv w) := by cases v' <;> simp
  rw [e3] at a1
  exact a1
theorem e_okM_f {j na : Nat} {ps : List Nat} (h : e_okM j na ps = true) : Cond.code (e_m j).1 (e_m j).2.1 (e_m j).2.2.1 (e_m j).2.2.2.1 ∈ e_big ∧ Cond.initialized (e_m j).1.cls ∈ e_big ∧ (e_m j).1.cls ≠ "java/lang/invoke/MethodHandle" ∧ (e_m j).1.cls ≠ "java/lang/invoke/VarHandle" ∧ (parseMethodDescriptor (e_m j).1.desc).map (fun d => d.parameters.length) = some na ∧ (e_m j).2.2.1 ≤ 45 ∧ plainName (e_m j).1.cls = true := by
  unfold e_okM at h
  simp only [Bool.and_eq_true, decide_eq_true_eq] at h
  obtain ⟨h1, h2, h3, h4, h5⟩ := h
  have := e_ats_big h1
  exact ⟨this _ (by simp), this _ (by simp), h2, h3, h4, h5⟩
theorem e_ws_big {j : Nat} (h : Cond.code (e_m j).1 (e_m j).2.1 (e_m j).2.2.1 (e_m j).2.2.2.1 ∈ e_big) : ∀ w ∈ e_ws j, w ∈ e_big := by
  intro v hv
  rcases List.mem_cons.mp hv with rfl | hv
  · exact h
  · exact hv
theorem es_callV (hx : p.tables.exec = Jvm.exec) (hb : c.code = cc) (hml : c.maxLocals = nL) (hgo : e_Go p l e R s m args below meth c Qf w nL k) (hH : e_H w M s H) (hS : va_S (e_A w) s.heap H locs) (hc : cells + kc ≤ R.cells) (hs : slots + ks ≤ R.slots) (hl : lv_has ls nL (lv.map (e_cq w)))
    (hG : e_G w s) (hts : ∀ v ∈ e_big, v.before args s = true) {own : String} (ho : s.vm.findClass own = some m.cls) {cal : eC} (hcal : e_Cal l R w cal) {st r : List Value} {j na x o ci : Nat} {ps : List Nat} {q : vw_C} (hM : e_okM j na ps = true) (w1 : Cond.methodLink own x (e_m j).1 ∈ e_big) (w2 : Cond.instanceMethod (e_m j).1 ∈ e_big) (w3 : Cond.selects (e_m j).1.cls (e_m j).1 (e_m j).1 ∈ e_big) (hq : e_cl[ci]? = some q) (hqn : q.1 = (e_m j).1.cls) (hob : e_ob M o ci)
    (hst : st.drop na = .ref o :: r) (hna : na ≤ st.length) (d : decode cc pc = .ok (.invokevirtual x, 3)) (h : e_cal k cal j kc ks (pc + 3) (.ref o :: (st.take na).reverse) lv r M) : W p l e R s m args below meth c H locs cells slots Qf (F0 m pc ls (st.map (e_cv w))) := by
  obtain ⟨h8, mc, ms, h1, h2, hK⟩ := h
  obtain ⟨d', hMet, hf, hlo⟩ := hcal _ _ _ _ _ _ hK
  obtain ⟨m1, m2, m3, m4, m5, m6, -⟩ := e_okM_f hM
  have hws := e_ws_big m1
  have hgd : GoodIn e_big (wsV own x (e_m j).1.cls (e_m j).1 (e_ws j)) := e_goodIn fun v hv => by
    unfold wsV at hv
    rcases List.mem_append.mp hv with hv | hv
    · simp only [List.mem_cons, List.not_mem_nil, or_false] at hv
      rcases hv with rfl | rfl | rfl | rfl <;> assumption
    · exact hws v hv
  have hat := e_at_ob hH hob (e_cl_lt hq)
  have hrec := va_recv hG.1 (e_P1 hat) hq (q0 := 0) rfl
  rw [hqn] at hrec
  have hav : (Value.ref (e_ad w o) :: (st.take na).reverse.map (e_cv w)).toArray = ((Value.ref o :: (st.take na).reverse).map (e_cv w)).toArray := by rw [List.map_cons, e_cv_ref (e_c0_pos hob.1)]
  refine e_after hgo hS hc hs hl h1 h2 (va_runV (As := (st.take na).reverse.map (e_cv w)) (b := e_ad w o) (C := (e_m j).1.cls) (n := na) ⟨hx, hb, hml, ho, hts⟩ hMet (cwV na hts hgd rfl rfl rfl ⟨rfl, m3, m4, m5⟩ ⟨hf, by show 8 + ((e_m j).2.2.1 + 11) + 64 * (d' + 1) ≤ R.locals; omega⟩) ⟨e_Pc_blind _ _ _, hrec, fun U hU hW => ⟨hav, hG.warm hW, by rw [hU]; exact hH.moved hW.alike⟩⟩ rfl (by simp; omega) hl.1 ?_ (lv_room (by rw [e_sum]; exact h8)) d ⟨by omega, by omega⟩)
  show st.map (e_cv w) = _
  rw [← List.map_reverse, List.reverse_reverse, ← e_cv_ref (e_c0_pos hob.1), ← List.map_cons, ← hst, ← List.map_append, List.take_append_drop]
theorem es_callS (hx : p.tables.exec = Jvm.exec) (hb : c.code = cc) (hml : c.maxLocals = nL) (hgo : e_Go p l e R s m args below meth c Qf w nL k) (hH : e_H w M s H) (hS : va_S (e_A w) s.heap H locs) (hc : cells + kc ≤ R.cells) (hs : slots + ks ≤ R.slots) (hl : lv_has ls nL (lv.map (e_cq w)))
    (hG : e_G w s) (hts : ∀ v ∈ e_big, v.before args s = true) {own : String} (ho : s.vm.findClass own = some m.cls) {cal : eC} (hcal : e_Cal l R w cal) {st : List Value} {j na x : Nat} {ps : List Nat} (hM : e_okM j na ps = true) (w1 : Cond.methodLink own x (e_m j).1 ∈ e_big) (w2 : Cond.static (e_m j).1 ∈ e_big)
    (hna : na ≤ st.length) (d : decode cc pc = .ok (.invokestatic x, 3)) (h : e_cal k cal j kc ks (pc + 3) (st.take na).reverse lv (st.drop na) M) : W p l e R s m args below meth c H locs cells slots Qf (F0 m pc ls (st.map (e_cv w))) := by
  obtain ⟨h8, mc, ms, h1, h2, hK⟩ := h
  obtain ⟨d', hMet, hf, hlo⟩ := hcal _ _ _ _ _ _ hK
  obtain ⟨m1, m2, m3, m4, m5, m6, -⟩ := e_okM_f hM
  have hws := e_ws_big m1
  have hgd : GoodIn e_big (va_wsS own x (e_m j).1 (e_ws j)) := e_goodIn fun v hv => by
    unfold va_wsS at hv
    rcases List.mem_append.mp hv with hv | hv
    · simp only [List.mem_cons, List.not_mem_nil, or_false] at hv
      rcases hv with rfl | rfl | rfl <;> assumption
    · exact hws v hv
  refine e_after hgo hS hc hs hl h1 h2 (va_runS (As := (st.take na).reverse.map (e_cv w)) (n := na) ⟨hx, hb, hml, ho, hts⟩ hMet (va_cwS na hts hgd rfl rfl rfl ⟨m3, m4, m5⟩ ⟨hf, by show 8 + ((e_m j).2.2.1 + 11) + 64 * (d' + 1) ≤ R.locals; omega⟩) ⟨e_Pc_blind _ _ _, fun U hU hW => ⟨rfl, hG.warm hW, by rw [hU]; exact hH.moved hW.alike⟩⟩ rfl (by simp; omega) hl.1 ?_ (lv_room (by rw [e_sum]; exact h8)) d ⟨by omega, by omega⟩)
  show st.map (e_cv w) = _
  rw [← List.map_reverse, List.reverse_reverse, ← List.map_append, List.take_append_drop]
theorem es_callI (hx : p.tables.exec = Jvm.exec) (hb : c.code = cc) (hml : c.maxLocals = nL) (hgo : e_Go p l e R s m args below meth c Qf w nL k) (hH : e_H w M s H) (hS : va_S (e_A w) s.heap H locs) (hc : cells + kc ≤ R.cells) (hs : slots + ks ≤ R.slots) (hl : lv_has ls nL (lv.map (e_cq w)))
    (hG : e_G w s) (hts : ∀ v ∈ e_big, v.before args s = true) {own : String} (ho : s.vm.findClass own = some m.cls) {cal : eC} (hcal : e_Cal l R w cal) {st r : List Value} {j na x o : Nat} {ps : List Nat} (hM : e_okM j na ps = true) (hret : (e_m j).2.2.2.1 = none) (hnm : (e_m j).1.name = "<init>") (w2 : Cond.instanceMethod (e_m j).1 ∈ e_big) (w1 : Cond.methodLink own x (e_m j).1 ∈ e_big ∨ (own, x, (e_m j).1) ∈ e_nsM) (hoc : e_c0 ≤ o)
    (hst : st.drop na = .ref o :: r) (hna : na ≤ st.length) (d : decode cc pc = .ok (.invokespecial x, 3)) (h : e_cal k cal j kc ks (pc + 3) (.ref o :: (st.take na).reverse) lv r M) : W p l e R s m args below meth c H locs cells slots Qf (F0 m pc ls (st.map (e_cv w))) := by
  obtain ⟨h8, mc, ms, h1, h2, hK⟩ := h
  obtain ⟨d', hMet, hf, hlo⟩ := hcal _ _ _ _ _ _ hK
  obtain ⟨m1, m2, m3, m4, m5, m6, -⟩ := e_okM_f hM
  have hws := e_ws_big m1
  have hgd : GoodIn e_big (e_ws j) := e_goodIn hws
  have hw0 : e_ws j = Cond.code (e_m j).1 (e_m j).2.1 (e_m j).2.2.1 none :: e_big := by unfold e_ws; rw [hret]
  have hav : (Value.ref (e_ad w o) :: (st.take na).reverse.map (e_cv w)).toArray = ((Value.ref o :: (st.take na).reverse).map (e_cv w)).toArray := by rw [List.map_cons, e_cv_ref (e_c0_pos hoc)]
  have hstk : st.map (e_cv w) = ((st.take na).reverse.map (e_cv w)).reverse ++ Value.ref (e_ad w o) :: r.map (e_cv w) := by
    rw [← List.map_reverse, List.reverse_reverse, ← e_cv_ref (e_c0_pos hoc), ← List.map_cons, ← hst, ← List.map_append, List.take_append_drop]
  have hR : d' + 1 + 1 ≤ R.frames ∧ 8 + ((e_m j).2.2.1 + 11) + 64 * (d' + 1) ≤ R.locals := ⟨hf, by omega⟩
  rcases w1 with w1 | w1
  · exact e_after hgo hS hc hs hl h1 h2 (va_runI (As := (st.take na).reverse.map (e_cv w)) (b := e_ad w o) (n := na) ⟨hx, hb, hml, ho, hts⟩ hMet (cwI na hts hgd hw0 rfl rfl (hts _ m2) (hts _ w1) (hts _ w2) hnm ⟨m3, m4, m5⟩ hR) ⟨e_Pc_blind _ _ _, fun U hU hW => ⟨hav, hG.warm hW, by rw [hU]; exact hH.moved hW.alike⟩⟩ rfl (by simp; omega) hl.1 hstk (lv_room (by rw [e_sum]; exact h8)) d ⟨by omega, by omega⟩)
  · exact e_after hgo hS hc hs hl h1 h2 (va_runIN (As := (st.take na).reverse.map (e_cv w)) (b := e_ad w o) (n := na) ⟨hx, hb, hml, ho, hts⟩ hMet ⟨va_cnB na hts hgd hw0 rfl rfl (hG.2.2.1 _ w1) (hts _ m2) ⟨m3, m4, m5⟩ hR, hnm, hts _ w2⟩ ⟨e_Pc_blind _ _ _, fun U hU hW => ⟨hav, hG.warm hW, by rw [hU]; exact hH.moved hW.alike⟩⟩ rfl (by simp; omega) hl.1 hstk (lv_room (by rw [e_sum]; exact h8)) d ⟨by omega, by omega⟩)
theorem es_objInit (hx : p.tables.exec = Jvm.exec) (hb : c.code = cc) (hml : c.maxLocals = nL) (hgo : e_Go p l e R s m args below meth c Qf w nL k) (hH : e_H w M s H) (hS : va_S (e_A w) s.heap H locs) (hc : cells + kc ≤ R.cells) (hs : slots + ks ≤ R.slots) (hl : lv_has ls nL (lv.map (e_cq w)))
    (hts : ∀ v ∈ e_big, v.before args s = true) {own : String} (ho : s.vm.findClass own = some m.cls) (hR : 1 ≤ R.frames ∧ 64 ≤ R.locals) {r : List Value} {x o : Nat} (w1 : Cond.methodLink own x objectInit ∈ e_big) (w2 : Cond.instanceMethod objectInit ∈ e_big) (w3 : Cond.code objectInit ⟨#[0xb1]⟩ 1 none ∈ e_big) (hoc : e_c0 ≤ o) (h8 : (r.map fun v => v.category).sum ≤ 8) (d : decode cc pc = .ok (.invokespecial x, 3))
    (h : k kc ks (pc + 3) lv r M) : W p l e R s m args below meth c H locs cells slots Qf (F0 m pc ls ((.ref o :: r).map (e_cv w))) := by
  rw [List.map_cons, e_cv_ref (e_c0_pos hoc)]
  have hr := lv_room (m := m) (pc := pc) (ls := ls) (rest := Value.ref (e_ad w o) :: r.map (e_cv w)) (st := r.map (e_cv w)) (by rw [e_sum]; exact h8)
  exact W.objInit hx hb ho (hts _ w1) (hts _ w2) (hts _ w3) rfl (by rw [hml]; exact hl.1) rfl d hR.1 (by omega) (hgo _ _ _ _ _ _ h H locs cells slots ls hH hS hc hs hl)
theorem e_cell_cpy {a b j : Nat} {sp dp n : Int32} (h : j ≠ b) : e_cell w (e_cpy M a sp b dp n) j = e_cell w M j := by
  simp only [e_cell, e_cpy, e_fs, e_gv, va_up_ne _ _ h]
theorem es_copy (hx : p.tables.exec = Jvm.exec) (hb : c.code = cc) (hml : c.maxLocals = nL) (hgo : e_Go p l e R s m args below meth c Qf w nL k) (hH : e_H w M s H) (hS : va_S (e_A w) s.heap H locs) (hc : cells + kc ≤ R.cells) (hs : slots + ks ≤ R.slots) (hl : lv_has ls nL (lv.map (e_cq w)))
    (hG : e_G w s) (hts : ∀ v ∈ e_big, v.before args s = true) {own : String} (ho : s.vm.findClass own = some m.cls) (hR : 1 ≤ R.frames ∧ 64 ≤ R.locals) {r : List Value} {x a b : Nat} {sp dp n : Int32} (w1 : Cond.methodLink own x arraycopyName ∈ e_big) (w2 : Cond.native arraycopyName ∈ e_big) (w3 : Cond.static arraycopyName ∈ e_big) (w4 : Cond.initialized "java/lang/System" ∈ e_big) (g : e_cg M a sp b dp n) (h8 : (r.map fun v => v.category).sum ≤ 8) (d : decode cc pc = .ok (.invokestatic x, 3))
    (h : k kc ks (pc + 3) lv r (e_cpy M a sp b dp n)) : W p l e R s m args below meth c H locs cells slots Qf (F0 m pc ls ((.int n :: .int dp :: .ref b :: .int sp :: .ref a :: r).map (e_cv w))) := by
  obtain ⟨⟨a1, a2, a3⟩, ⟨b1, b2, b3⟩, h1, h2, h3, h4, h5⟩ := g
  have nn : ∀ z : Int32, ¬ z < 0 → z.toInt = (z.toNatClampNeg : Int) := by
    intro z hz
    have hz0 : (0 : Int) ≤ z.toInt := by
      have := Int32.not_lt.mp hz
      simpa using Int32.le_iff_toInt_le.mp this
    show z.toInt = ((z.toInt.toNat : Nat) : Int)
    omega
  have hc0 := hH.2.2.1 a a1 a2 (by rw [a3]; decide)
  have hc1 := hH.2.2.1 b b1 b2 (by rw [b3]; decide)
  rw [e_cell_20 a3] at hc0
  rw [e_cell_20 b3] at hc1
  have hc0 : H[e_ad w a]? = some (vp_cell (w.2.1 20) ((M.2.1 a).2, .inl (M.2.2.1 a))) := hc0
  have hc1 : H[e_ad w b]? = some (vp_cell (w.2.1 20) ((M.2.1 b).2, .inl (M.2.2.1 b))) := hc1
  rw [List.map_cons, List.map_cons, List.map_cons, List.map_cons, List.map_cons, e_cv_ref (e_c0_pos a1), e_cv_ref (e_c0_pos b1)]
  intro T hT X
  obtain ⟨-, k0, hk0, cm0, hkk0⟩ := (hG.1.2 0 _ rfl).1 (M.2.1 a).2 (fun j => .int (M.2.2.1 a j))
  obtain ⟨-, k1, hk1, cm1, hkk1⟩ := (hG.1.2 0 _ rfl).1 (M.2.1 b).2 (fun j => .int (M.2.2.1 b j))
  have hsum : ((r.map (e_cv w)).map fun v => v.category).sum ≤ 8 := by rw [e_sum]; exact h8
  have hnw : nativeFrameWords "java/lang/System" "arraycopy" 5 = 7 := by decide +kernel
  obtain ⟨vm', X', step⟩ := X.arraycopy hx ho (hts _ w1) (hts _ w2) (hts _ w3) (hts _ w4) (src := e_ad w a) (dst := e_ad w b) (cs := vp_cell (w.2.1 20) ((M.2.1 a).2, .inl (M.2.2.1 a))) (cd := vp_cell (w.2.1 20) ((M.2.1 b).2, .inl (M.2.2.1 b))) (srcPos := sp) (destPos := dp) (n := n) (by rw [hT]; exact hc0) (by rw [hT]; exact hc1)
    (fun _ h => by cases h) (fun _ h => by cases h) (fun h => by cases h) (fun h => by cases h) hk0 hk1 hkk0 hkk1 (by simp [refKind]) h1 h2 h3
    (by rw [nn sp h1, nn n h3]; show ¬ _ > ((arrV (w.2.1 20) (M.2.1 a).2 (fun j => .int (M.2.2.1 a j))).slots.size : Int); rw [arrV_size]; omega)
    (by rw [nn dp h2, nn n h3]; show ¬ _ > ((arrV (w.2.1 20) (M.2.1 b).2 (fun j => .int (M.2.2.1 b j))).slots.size : Int); rw [arrV_size]; omega)
    (fun vm₁ _ i hi => by
      have e : (vp_cell (w.2.1 20) ((M.2.1 a).2, .inl (M.2.2.1 a))).slots.getD (sp.toNatClampNeg + i) .null = .int (M.2.2.1 a (sp.toNatClampNeg + i)) := by
        show (arrV (w.2.1 20) (M.2.1 a).2 (fun j => .int (M.2.2.1 a j))).slots.getD _ _ = _
        rw [Array.getD_eq_getD_getElem?, arrV_read _ _ (by omega)]
        rfl
      refine ⟨?_, ?_⟩
      · rw [e]; rfl
      · rw [e]; exact trivial)
    (g := F0 m pc ls (.int n :: .int dp :: .ref (e_ad w b) :: .int sp :: .ref (e_ad w a) :: r.map (e_cv w))) rfl (by rw [hml]; exact hl.1) (rest := r.map (e_cv w)) rfl (by rw [hb]; exact d) hR.1 (by show 2 * 0 + _ + _ ≤ _; omega)
  have e1 : copied (vp_cell (w.2.1 20) ((M.2.1 a).2, .inl (M.2.2.1 a))) (vp_cell (w.2.1 20) ((M.2.1 b).2, .inl (M.2.2.1 b))) sp dp n = vp_cell (w.2.1 20) ((M.2.1 b).2, .inl (va_cpy (M.2.2.1 a) (M.2.2.1 b) sp.toNatClampNeg dp.toNatClampNeg n.toNatClampNeg)) := va_copied (fun z => .int z) (w.2.1 20) (w.2.1 20) (M.2.2.1 a) (M.2.2.1 b) h4
  rw [e1] at X' step
  have hlt : e_ad w b < H.size := (Array.getElem?_eq_some_iff.mp hc1).1
  have hheap : ((T.setVm vm').setCell (e_ad w b) (vp_cell (w.2.1 20) ((M.2.1 b).2, .inl (va_cpy (M.2.2.1 a) (M.2.2.1 b) sp.toNatClampNeg dp.toNatClampNeg n.toNatClampNeg)))).heap = H.setIfInBounds (e_ad w b) (vp_cell (w.2.1 20) ((M.2.1 b).2, .inl (va_cpy (M.2.2.1 a) (M.2.2.1 b) sp.toNatClampNeg dp.toNatClampNeg n.toNatClampNeg))) := by rw [← hT]; rfl
  have oq : ∀ q : Nat, q ≠ e_ad w b → (H.setIfInBounds (e_ad w b) (vp_cell (w.2.1 20) ((M.2.1 b).2, .inl (va_cpy (M.2.2.1 a) (M.2.2.1 b) sp.toNatClampNeg dp.toNatClampNeg n.toNatClampNeg))))[q]? = H[q]? := fun q hq => by simp [Array.getElem?_setIfInBounds, Ne.symm hq]
  have hb2 : va_at w.1 e_cl (e_ad w b, e_cell w (e_cpy M a sp b dp n) b) (H.setIfInBounds (e_ad w b) (vp_cell (w.2.1 20) ((M.2.1 b).2, .inl (va_cpy (M.2.2.1 a) (M.2.2.1 b) sp.toNatClampNeg dp.toNatClampNeg n.toNatClampNeg)))) := by
    rw [e_cell_20 (w := w) (M := e_cpy M a sp b dp n) b3]
    show (H.setIfInBounds (e_ad w b) _)[e_ad w b]? = some (vp_cell (w.2.1 20) ((M.2.1 b).2, .inl (va_up M.2.2.1 b _ b)))
    rw [va_up_self]
    simp [Array.getElem?_setIfInBounds, hlt]
  obtain ⟨t, q1, q2⟩ := hgo _ _ _ _ _ _ h _ _ cells slots ls (hH.put b1 rfl rfl (fun j hj => va_up_ne _ _ hj) (fun j hj => e_cell_cpy hj) hb2 (by simp) oq) ⟨by simp; exact hS.1, fun q g1 g2 => by
      rw [oq q (fun e => g2 (by rw [e]; exact e_ad_A b1))]
      exact hS.2.1 q g1 g2, fun q hq => by
      rcases List.mem_append.mp hq with h | h
      · exact hS.2.2 q h
      · obtain ⟨z, -, hz⟩ := List.mem_map.mp h
        rw [← hz]
        exact e_ad_A b1⟩ hc hs hl _ hheap X'
  exact ⟨t, step t q1, q2⟩
end CAL
section RET
variable {p : Program} {l : Launch} {e : Env} {R : Room} {s : State} {m : MethodId} {args : Array Value} {below : List Frame} {meth : Method} {c : Code} {w : eW}
variable {cc : ByteArray} {H : Heap} {locs : List Loc} {cells slots pc : Nat} {ls : Array Slot} {M : eM} {Q : eQ}
theorem es_ret (hx : p.tables.exec = Jvm.exec) (hb : c.code = cc) (hH : e_H w M s H) (hS : va_S (e_A w) s.heap H locs) (hc : cells ≤ R.cells) (hs : slots ≤ R.slots) (hlo : meth.locks = false) (hr : meth.sig.returnType = none) (d : decode cc pc = .ok (.return_, 1)) (h : Q none M) : W p l e R s m args below meth c H locs cells slots (MQ below (e_Qc w Q) args s R.cells R.slots (e_A w)) (F0 m pc ls []) := by
  refine W.widen hc hs ?_
  exact W.vret hx hb hr (fun t ht hW => ⟨⟨none, M, rfl, h, by rw [ht]; exact hH.moved hW.alike⟩, hS.F ht⟩) hS.2.2 d hlo
theorem es_iret (hx : p.tables.exec = Jvm.exec) (hb : c.code = cc) (hH : e_H w M s H) (hS : va_S (e_A w) s.heap H locs) (hc : cells ≤ R.cells) (hs : slots ≤ R.slots) (hlo : meth.locks = false) {x : Int32} (hr : meth.sig.returnType = some .int ∨ (meth.sig.returnType = some .boolean ∧ (x = 0 ∨ x = 1))) (d : decode cc pc = .ok (.ireturn, 1)) (h : Q (some (.int x)) M) : W p l e R s m args below meth c H locs cells slots (MQ below (e_Qc w Q) args s R.cells R.slots (e_A w)) (F0 m pc ls [.int x]) := by
  refine W.widen hc hs ?_
  rcases hr with hr | ⟨hr, hxx⟩
  · exact W.iret hx hb hr (fun t ht hW => ⟨⟨some (.int x), M, rfl, h, by rw [ht]; exact hH.moved hW.alike⟩, hS.F ht⟩) hS.2.2 d hlo
  · exact W.zret hx hb hr (by rcases hxx with rfl | rfl <;> decide) (fun t ht hW => ⟨⟨some (.int x), M, rfl, h, by rw [ht]; exact hH.moved hW.alike⟩, hS.F ht⟩) hS.2.2 d hlo
theorem es_lret (hx : p.tables.exec = Jvm.exec) (hb : c.code = cc) (hH : e_H w M s H) (hS : va_S (e_A w) s.heap H locs) (hc : cells ≤ R.cells) (hs : slots ≤ R.slots) (hlo : meth.locks = false) {x : Int64} (hr : meth.sig.returnType = some .long) (d : decode cc pc = .ok (.lreturn, 1)) (h : Q (some (.long x)) M) : W p l e R s m args below meth c H locs cells slots (MQ below (e_Qc w Q) args s R.cells R.slots (e_A w)) (F0 m pc ls [.long x]) := by
  refine W.widen hc hs ?_
  exact W.lret hx hb hr (fun t ht hW => ⟨⟨some (.long x), M, rfl, h, by rw [ht]; exact hH.moved hW.alike⟩, hS.F ht⟩) hS.2.2 d hlo
theorem es_aret (hx : p.tables.exec = Jvm.exec) (hb : c.code = cc) (hH : e_H w M s H) (hS : va_S (e_A w) s.heap H locs) (hc : cells ≤ R.cells) (hs : slots ≤ R.slots) (hlo : meth.locks = false) {x : Nat} (hr : (∃ n, meth.sig.returnType = some (.object n)) ∨ ∃ t, meth.sig.returnType = some (.array t)) (d : decode cc pc = .ok (.areturn, 1)) (h : Q (some (.ref x)) M) : W p l e R s m args below meth c H locs cells slots (MQ below (e_Qc w Q) args s R.cells R.slots (e_A w)) (F0 m pc ls [e_cv w (.ref x)]) := by
  refine W.widen hc hs ?_
  have hv : e_cv w (.ref x) = .null ∨ ∃ a, e_cv w (.ref x) = .ref a := by
    show e_rv w x = .null ∨ ∃ a, e_rv w x = .ref a
    unfold e_rv
    split
    · exact Or.inl rfl
    · exact Or.inr ⟨_, rfl⟩
  rcases hr with ⟨n, hr⟩ | ⟨n, hr⟩
  · exact W.aret hx hb hr (Or.inl ⟨n, rfl⟩) hv (fun t ht hW => ⟨⟨some (.ref x), M, rfl, h, by rw [ht]; exact hH.moved hW.alike⟩, hS.F ht⟩) hS.2.2 d hlo
  · exact W.aret hx hb hr (Or.inr ⟨n, rfl⟩) hv (fun t ht hW => ⟨⟨some (.ref x), M, rfl, h, by rw [ht]; exact hH.moved hW.alike⟩, hS.F ht⟩) hS.2.2 d hlo
end RET
end
section
/-! ===== one instruction, and a whole method ===== -/
/-- not one of the five that throw -/
def e_nf (j : Nat) : Bool := !([120, 129, 132, 134, 135].contains j)
theorem e_five0 : (List.range 236).all (fun j => !(e_nf j) || !(e_thn (e_m j).1.cls (e_m j).1.name)) = true := by decide +kernel
theorem e_five {j : Nat} (hj : j < 236) (h : e_nf j = true) : e_thn (e_m j).1.cls (e_m j).1.name = false := by
  have := List.all_eq_true.mp e_five0 j (List.mem_range.mpr hj)
  rw [h] at this
  simpa using this
def e_dec (i pc : Nat) : Option eI := (e_m i).2.2.2.2.lookup pc
/-- from this place on: the method returns, and Q holds of what it returns and of the memory then (at most n steps; d: how deep calls may go; cells and slots that may be made) -/
def e_wp : Nat → Nat → Nat → Nat → Nat → Nat → eL → List Value → eM → eQ → Prop
  | 0, _, _, _, _, _, _, _, _, _ => False
  | n + 1, i, d, kc, ks, pc, lv, st, M, Q => match e_dec i pc with
    | none => False
    | some q => e_ins (e_m i).2.2.1 (fun kc' ks' pc' lv' st' M' => e_wp n i d kc' ks' pc' lv' st' M' Q) (fun j mc ms av M' K => ∃ d', d = d' + 1 ∧ j < 236 ∧ e_nf j = true ∧ (lg_sl av).length ≤ (e_m j).2.2.1 ∧ e_wp n j d' mc ms 0 (lv_args 0 av) [] M' K) Q (e_m i).2.2.2.1 kc ks pc q lv st M
/-- a method's rows are as the tables have them -/
def e_Ok (i : Nat) : Prop := ∃ ps, e_okD (e_m i).1.cls (e_m i).1.name (e_m i).2.1 (e_m i).2.2.2.2 ps = true
def e_OkM (j : Nat) : Prop := ∃ ps, e_okM j (e_pn j) ps = true
theorem e_aty {t u : ArrayType} (h : (t == u) = true) : t = u := by cases t <;> cases u <;> first | rfl | cases h
section ONE
variable {p : Program} {l : Launch} {e : Env} {R : Room} {s : State} {m : MethodId} {args : Array Value} {below : List Frame} {meth : Method} {c : Code} {Qf : State → Prop} {w : eW}
variable {cc : ByteArray} {nL : Nat} {k : eK} {H : Heap} {locs : List Loc} {cells slots kc ks pc : Nat} {ls : Array Slot} {lv : eL} {M : eM}
set_option maxHeartbeats 4000000 in
theorem e_one (hOkM : ∀ j, j < 236 → e_OkM j) (hx : p.tables.exec = Jvm.exec) (hb : c.code = cc) (hml : c.maxLocals = nL) (hgo : e_Go p l e R s m args below meth c Qf w nL k) (hH : e_H w M s H) (hS : va_S (e_A w) s.heap H locs) (hc : cells + kc ≤ R.cells) (hs : slots + ks ≤ R.slots) (hl : lv_has ls nL (lv.map (e_cq w)))
    (hG : e_G w s) (hts : ∀ v ∈ e_big, v.before args s = true) {own nm : String} (ho : s.vm.findClass own = some m.cls) (hnm : meth.name = nm) {cal : eC} (hcal : e_Cal l R w cal) (hR : 1 ≤ R.frames ∧ 64 ≤ R.locals) {Q : eQ} (hlo : meth.locks = false) {ret : Option FieldType} (hret : meth.sig.returnType = ret)
    (hmq : ∀ (H : Heap) (locs : List Loc) (cells slots : Nat) (g : JFrame), W p l e R s m args below meth c H locs cells slots (MQ below (e_Qc w Q) args s R.cells R.slots (e_A w)) g → W p l e R s m args below meth c H locs cells slots Qf g)
    {q : eI} {ps : List Nat} {st : List Value} (hthr : ∀ (x a b : Nat) (z : Int), q = (.new x, 3, a, b, z) → e_thn own nm = true → 91 ≤ a → a ≤ 94 → 1 ≤ kc → 6 ≤ ks → Q (some (.retAddr a)) M → W p l e R s m args below meth c H locs cells slots Qf (F0 m pc ls (st.map (e_cv w))))
    (d : decode cc pc = .ok (q.1, q.2.1)) (hok : e_okI own nm pc q ps = true) (h : e_ins nL k cal Q ret kc ks pc q lv st M) : W p l e R s m args below meth c H locs cells slots Qf (F0 m pc ls (st.map (e_cv w))) := by
  obtain ⟨ins, len, a, b, z⟩ := q
  unfold e_okI at hok
  rw [Bool.and_eq_true, Bool.or_eq_true, beq_iff_eq, beq_iff_eq] at hok
  obtain ⟨hln, hok⟩ := hok
  have hc' : cells ≤ R.cells := by omega
  have hs' : slots ≤ R.slots := by omega
  cases ins with
  | iconst n =>
    obtain rfl : len = 1 := e_len hln
    exact es_iconst hx hb hgo hH hS hc hs hl d h
  | bipush n =>
    obtain rfl : len = 2 := e_len hln
    exact es_bipush hx hb hgo hH hS hc hs hl d h
  | sipush n =>
    obtain rfl : len = 3 := e_len hln
    exact es_sipush hx hb hgo hH hS hc hs hl d h
  | lconst n =>
    obtain rfl : len = 1 := e_len hln
    exact es_lconst hx hb hgo hH hS hc hs hl d h
  | aconst_null =>
    obtain rfl : len = 1 := e_len hln
    exact es_null hx hb hgo hH hS hc hs hl d h
  | ldc x =>
    obtain rfl : len = 2 := e_len hln
    obtain ⟨h0, h⟩ := h
    have h0 : a = 0 := h0
    subst h0
    exact es_ldc hx hb hgo hH hS hc hs hl ho d (hts _ (e_ats_big (by simpa using hok) _ (by simp))) h
  | ldc_w x =>
    obtain rfl : len = 3 := e_len hln
    obtain ⟨h0, h⟩ := h
    have h0 : a = 0 := h0
    subst h0
    exact es_ldc_w hx hb hgo hH hS hc hs hl ho d (hts _ (e_ats_big (by simpa using hok) _ (by simp))) h
  | ldc2_w x =>
    obtain rfl : len = 3 := e_len hln
    exact es_ldc2 hx hb hgo hH hS hc hs hl ho d (hts _ (e_ats_big hok _ (by simp))) h
  | iload_n j =>
    obtain rfl : len = 1 := e_len hln
    exact es_iload_n hx hb hgo hH hS hc hs hl d h
  | iload j =>
    obtain rfl : len = 2 := e_len hln
    exact es_iload hx hb hgo hH hS hc hs hl d h
  | lload_n j =>
    obtain rfl : len = 1 := e_len hln
    exact es_lload_n hx hb hgo hH hS hc hs hl d h
  | lload j =>
    obtain rfl : len = 2 := e_len hln
    exact es_lload hx hb hgo hH hS hc hs hl d h
  | aload_n j =>
    obtain rfl : len = 1 := e_len hln
    exact es_aload_n hx hb hgo hH hS hc hs hl d h
  | aload j =>
    obtain rfl : len = 2 := e_len hln
    exact es_aload hx hb hgo hH hS hc hs hl d h
  | istore_n j =>
    obtain rfl : len = 1 := e_len hln
    obtain ⟨x, r, rfl, h1, h⟩ := e_i1_inv h
    exact es_istore_n hx hb hgo hH hS hc hs hl d h1 h
  | istore j =>
    obtain rfl : len = 2 := e_len hln
    obtain ⟨x, r, rfl, h1, h⟩ := e_i1_inv h
    exact es_istore hx hb hgo hH hS hc hs hl d h1 h
  | lstore_n j =>
    obtain rfl : len = 1 := e_len hln
    obtain ⟨x, r, rfl, h1, h⟩ := e_l1_inv h
    exact es_lstore_n hx hb hgo hH hS hc hs hl d h1 h
  | lstore j =>
    obtain rfl : len = 2 := e_len hln
    obtain ⟨x, r, rfl, h1, h⟩ := e_l1_inv h
    exact es_lstore hx hb hgo hH hS hc hs hl d h1 h
  | astore_n j =>
    obtain rfl : len = 1 := e_len hln
    obtain ⟨x, r, rfl, h1, h⟩ := e_r1_inv h
    exact es_astore_n hx hb hgo hH hS hc hs hl d h1 h
  | astore j =>
    obtain rfl : len = 2 := e_len hln
    obtain ⟨x, r, rfl, h1, h⟩ := e_r1_inv h
    exact es_astore hx hb hgo hH hS hc hs hl d h1 h
  | iinc j n =>
    obtain rfl : len = 3 := e_len hln
    obtain ⟨v, h0, h⟩ := e_lk_inv h
    cases v with
    | int x => exact es_iinc hx hb hgo hH hS hc hs hl d h0 h.1 h.2
    | _ => exact False.elim h
  | iadd =>
    obtain rfl : len = 1 := e_len hln
    obtain ⟨x, y, r, rfl, h⟩ := e_i2_inv h
    exact es_iadd hx hb hgo hH hS hc hs hl d h
  | isub =>
    obtain rfl : len = 1 := e_len hln
    obtain ⟨x, y, r, rfl, h⟩ := e_i2_inv h
    exact es_isub hx hb hgo hH hS hc hs hl d h
  | imul =>
    obtain rfl : len = 1 := e_len hln
    obtain ⟨x, y, r, rfl, h⟩ := e_i2_inv h
    exact es_imul hx hb hgo hH hS hc hs hl d h
  | iand =>
    obtain rfl : len = 1 := e_len hln
    obtain ⟨x, y, r, rfl, h⟩ := e_i2_inv h
    exact es_iand hx hb hgo hH hS hc hs hl d h
  | ior =>
    obtain rfl : len = 1 := e_len hln
    obtain ⟨x, y, r, rfl, h⟩ := e_i2_inv h
    exact es_ior hx hb hgo hH hS hc hs hl d h
  | ixor =>
    obtain rfl : len = 1 := e_len hln
    obtain ⟨x, y, r, rfl, h⟩ := e_i2_inv h
    exact es_ixor hx hb hgo hH hS hc hs hl d h
  | ishl =>
    obtain rfl : len = 1 := e_len hln
    obtain ⟨x, y, r, rfl, h⟩ := e_i2_inv h
    exact es_ishl hx hb hgo hH hS hc hs hl d h
  | ishr =>
    obtain rfl : len = 1 := e_len hln
    obtain ⟨x, y, r, rfl, h⟩ := e_i2_inv h
    exact es_ishr hx hb hgo hH hS hc hs hl d h
  | iushr =>
    obtain rfl : len = 1 := e_len hln
    obtain ⟨x, y, r, rfl, h⟩ := e_i2_inv h
    exact es_iushr hx hb hgo hH hS hc hs hl d h
  | idiv =>
    obtain rfl : len = 1 := e_len hln
    obtain ⟨x, y, r, rfl, h0, h⟩ := e_i2_inv h
    exact es_idiv hx hb hgo hH hS hc hs hl d h0 h
  | irem =>
    obtain rfl : len = 1 := e_len hln
    obtain ⟨x, y, r, rfl, h0, h⟩ := e_i2_inv h
    exact es_irem hx hb hgo hH hS hc hs hl d h0 h
  | ineg =>
    obtain rfl : len = 1 := e_len hln
    obtain ⟨x, r, rfl, h⟩ := e_i1_inv h
    exact es_ineg hx hb hgo hH hS hc hs hl d h
  | ladd =>
    obtain rfl : len = 1 := e_len hln
    obtain ⟨x, y, r, rfl, h⟩ := e_l2_inv h
    exact es_ladd hx hb hgo hH hS hc hs hl d h
  | land =>
    obtain rfl : len = 1 := e_len hln
    obtain ⟨x, y, r, rfl, h⟩ := e_l2_inv h
    exact es_land hx hb hgo hH hS hc hs hl d h
  | lor =>
    obtain rfl : len = 1 := e_len hln
    obtain ⟨x, y, r, rfl, h⟩ := e_l2_inv h
    exact es_lor hx hb hgo hH hS hc hs hl d h
  | lxor =>
    obtain rfl : len = 1 := e_len hln
    obtain ⟨x, y, r, rfl, h⟩ := e_l2_inv h
    exact es_lxor hx hb hgo hH hS hc hs hl d h
  | lcmp =>
    obtain rfl : len = 1 := e_len hln
    obtain ⟨x, y, r, rfl, h⟩ := e_l2_inv h
    exact es_lcmp hx hb hgo hH hS hc hs hl d h
  | lshl =>
    obtain rfl : len = 1 := e_len hln
    obtain ⟨x, y, r, rfl, h⟩ := e_li_inv h
    exact es_lshl hx hb hgo hH hS hc hs hl d h
  | lshr =>
    obtain rfl : len = 1 := e_len hln
    obtain ⟨x, y, r, rfl, h⟩ := e_li_inv h
    exact es_lshr hx hb hgo hH hS hc hs hl d h
  | lushr =>
    obtain rfl : len = 1 := e_len hln
    obtain ⟨x, y, r, rfl, h⟩ := e_li_inv h
    exact es_lushr hx hb hgo hH hS hc hs hl d h
  | i2l =>
    obtain rfl : len = 1 := e_len hln
    obtain ⟨x, r, rfl, h⟩ := e_i1_inv h
    exact es_i2l hx hb hgo hH hS hc hs hl d h
  | l2i =>
    obtain rfl : len = 1 := e_len hln
    obtain ⟨x, r, rfl, h⟩ := e_l1_inv h
    exact es_l2i hx hb hgo hH hS hc hs hl d h
  | i2b =>
    obtain rfl : len = 1 := e_len hln
    obtain ⟨x, r, rfl, h⟩ := e_i1_inv h
    exact es_i2b hx hb hgo hH hS hc hs hl d h
  | i2s =>
    obtain rfl : len = 1 := e_len hln
    obtain ⟨x, r, rfl, h⟩ := e_i1_inv h
    exact es_i2s hx hb hgo hH hS hc hs hl d h
  | dup =>
    obtain rfl : len = 1 := e_len hln
    cases st with
    | nil => exact False.elim h
    | cons v r => exact es_dup hx hb hgo hH hS hc hs hl d h.1 h.2
  | dup2 =>
    obtain rfl : len = 1 := e_len hln
    cases st with
    | nil => exact False.elim h
    | cons v r =>
      cases r with
      | nil => exact False.elim h
      | cons u r => exact es_dup2 hx hb hgo hH hS hc hs hl d h.1 h.2.1 h.2.2
  | pop =>
    obtain rfl : len = 1 := e_len hln
    cases st with
    | nil => exact False.elim h
    | cons v r => exact es_pop hx hb hgo hH hS hc hs hl d h.1 h.2
  | goto t =>
    obtain rfl : len = 3 := e_len hln
    exact es_goto hx hb hgo hH hS hc hs hl d (eq_of_beq hok) h
  | ifCond cnd t =>
    obtain rfl : len = 3 := e_len hln
    cases cnd with
    | eq => (obtain ⟨x, r, rfl, h⟩ := e_i1_inv h; exact es_if_eq hx hb hgo hH hS hc hs hl d (eq_of_beq hok) h)
    | ne => (obtain ⟨x, r, rfl, h⟩ := e_i1_inv h; exact es_if_ne hx hb hgo hH hS hc hs hl d (eq_of_beq hok) h)
    | lt => (obtain ⟨x, r, rfl, h⟩ := e_i1_inv h; exact es_if_lt hx hb hgo hH hS hc hs hl d (eq_of_beq hok) h)
    | ge => (obtain ⟨x, r, rfl, h⟩ := e_i1_inv h; exact es_if_ge hx hb hgo hH hS hc hs hl d (eq_of_beq hok) h)
    | gt => (obtain ⟨x, r, rfl, h⟩ := e_i1_inv h; exact es_if_gt hx hb hgo hH hS hc hs hl d (eq_of_beq hok) h)
    | le => (obtain ⟨x, r, rfl, h⟩ := e_i1_inv h; exact es_if_le hx hb hgo hH hS hc hs hl d (eq_of_beq hok) h)
  | if_icmp cnd t =>
    obtain rfl : len = 3 := e_len hln
    cases cnd with
    | eq => (obtain ⟨x, y, r, rfl, h⟩ := e_i2_inv h; exact es_icmp_eq hx hb hgo hH hS hc hs hl d (eq_of_beq hok) h)
    | ne => (obtain ⟨x, y, r, rfl, h⟩ := e_i2_inv h; exact es_icmp_ne hx hb hgo hH hS hc hs hl d (eq_of_beq hok) h)
    | lt => (obtain ⟨x, y, r, rfl, h⟩ := e_i2_inv h; exact es_icmp_lt hx hb hgo hH hS hc hs hl d (eq_of_beq hok) h)
    | ge => (obtain ⟨x, y, r, rfl, h⟩ := e_i2_inv h; exact es_icmp_ge hx hb hgo hH hS hc hs hl d (eq_of_beq hok) h)
    | gt => (obtain ⟨x, y, r, rfl, h⟩ := e_i2_inv h; exact es_icmp_gt hx hb hgo hH hS hc hs hl d (eq_of_beq hok) h)
    | le => (obtain ⟨x, y, r, rfl, h⟩ := e_i2_inv h; exact es_icmp_le hx hb hgo hH hS hc hs hl d (eq_of_beq hok) h)
  | ifnull t =>
    obtain rfl : len = 3 := e_len hln
    obtain ⟨x, r, rfl, h⟩ := e_r1_inv h
    exact es_ifnull hx hb hgo hH hS hc hs hl d (eq_of_beq hok) h
  | ifnonnull t =>
    obtain rfl : len = 3 := e_len hln
    obtain ⟨x, r, rfl, h⟩ := e_r1_inv h
    exact es_ifnonnull hx hb hgo hH hS hc hs hl d (eq_of_beq hok) h
  | tableswitch dd lo hi offs =>
    obtain ⟨x, r, rfl, h⟩ := e_i1_inv h
    rw [Bool.and_eq_true, decide_eq_true_eq, List.all_eq_true] at hok
    exact es_tsw hx hb hgo hH hS hc hs hl d hok.1 (fun o ho => of_decide_eq_true (hok.2 o ho)) h
  | lookupswitch dd prs =>
    obtain ⟨x, r, rfl, h⟩ := e_i1_inv h
    rw [Bool.and_eq_true, Bool.and_eq_true, decide_eq_true_eq] at hok
    obtain ⟨k1, k2, k3⟩ := hok
    have k3 := List.all_eq_true.mp k3
    exact es_lsw hx hb hgo hH hS hc hs hl d k1 k2 (fun o ho => of_decide_eq_true (k3 o ho)) h
  | getfield x =>
    obtain rfl : len = 3 := e_len hln
    obtain ⟨ha, h⟩ := h
    have ha : a < 20 := ha
    obtain ⟨o, r, rfl, hob, h⟩ := e_r1_inv h
    have hok : e_okF own x a b ps = true := by
      rcases (Bool.or_eq_true _ _).mp hok with q | q
      · exact absurd (of_decide_eq_true q) (Nat.not_le.mpr ha)
      · exact q
    unfold e_okF at hok
    cases hq : e_cl[a]? with
    | none => rw [hq] at hok; cases hok
    | some q =>
      rw [hq] at hok
      rw [Bool.and_eq_true, decide_eq_true_eq] at hok
      exact es_getfield hx hb hgo hH hS hc hs hl hG hts ho hob hq hok.1 (e_ats_big hok.2 _ (by simp)) d h
  | putfield x =>
    obtain rfl : len = 3 := e_len hln
    obtain ⟨ha, h⟩ := h
    have ha : a < 20 := ha
    have hok := (Bool.or_eq_true _ _).mp hok |>.resolve_left (fun q => absurd (of_decide_eq_true q) (Nat.not_le.mpr ha))
    rw [Bool.and_eq_true] at hok
    obtain ⟨hok, hfi⟩ := hok
    unfold e_okF at hok
    cases hq : e_cl[a]? with
    | none => rw [hq] at hok; cases hok
    | some q =>
      rw [hq] at hok hfi
      rw [Bool.and_eq_true, decide_eq_true_eq] at hok
      rw [Bool.or_eq_true, Bool.not_eq_true', Bool.and_eq_true, beq_iff_eq, beq_iff_eq] at hfi
      exact es_put hx hb hgo hH hS hc hs hl hG hts ho hq hok.1 (e_ats_big hok.2 _ (by simp)) (hfi.imp id (fun z => ⟨hnm.trans z.1, z.2⟩)) d h
  | getstatic x =>
    obtain rfl : len = 3 := e_len hln
    obtain ⟨ha, h⟩ := h
    rcases ha with ha | ha | ha
    · have ha : a = 2 := ha; subst ha; exact es_getstatic hx hb hgo hH hS hc hs hl hG ho (a := 2) (n := "SIZES") (of_decide_eq_true hok) (by decide) d h
    · have ha : a = 3 := ha; subst ha; exact es_getstatic hx hb hgo hH hS hc hs hl hG ho (a := 3) (n := "TAKES") (of_decide_eq_true hok) (by decide) d h
    · have ha : a = 4 := ha; subst ha; exact es_getstatic hx hb hgo hH hS hc hs hl hG ho (a := 4) (n := "PUTS") (of_decide_eq_true hok) (by decide) d h
  | iaload =>
    obtain rfl : len = 1 := e_len hln
    obtain ⟨a, i, r, rfl, ha, h⟩ := e_ri_inv h
    exact es_iaload hx hb hgo hH hS hc hs hl hG ha d h
  | baload =>
    obtain rfl : len = 1 := e_len hln
    obtain ⟨a, i, r, rfl, ha, h⟩ := e_ri_inv h
    exact es_baload hx hb hgo hH hS hc hs hl hG ha d h
  | laload =>
    obtain rfl : len = 1 := e_len hln
    obtain ⟨a, i, r, rfl, ha, h⟩ := e_ri_inv h
    exact es_laload hx hb hgo hH hS hc hs hl hG ha d h
  | aaload =>
    obtain rfl : len = 1 := e_len hln
    obtain ⟨a, i, r, rfl, ha, h⟩ := e_ri_inv h
    exact es_aaload hx hb hgo hH hS hc hs hl hG ha d h
  | iastore =>
    obtain rfl : len = 1 := e_len hln
    obtain ⟨a, i, x, r, rfl, ha, h⟩ := e_rii_inv h
    exact es_iastore hx hb hgo hH hS hc hs hl hG ha d h
  | bastore =>
    obtain rfl : len = 1 := e_len hln
    obtain ⟨a, i, x, r, rfl, ha, h⟩ := e_rii_inv h
    exact es_bastore hx hb hgo hH hS hc hs hl hG ha d h
  | lastore =>
    obtain rfl : len = 1 := e_len hln
    obtain ⟨a, i, x, r, rfl, ha, h⟩ := e_ril_inv h
    exact es_lastore hx hb hgo hH hS hc hs hl hG ha d h
  | aastore =>
    obtain rfl : len = 1 := e_len hln
    obtain ⟨a, i, x, r, rfl, ha, h⟩ := e_rir_inv h
    exact es_aastore hx hb hgo hH hS hc hs hl hG ha d h
  | arraylength =>
    obtain rfl : len = 1 := e_len hln
    obtain ⟨a, r, rfl, ha, h⟩ := e_r1_inv h
    exact es_alen hx hb hgo hH hS hc hs hl hG ha d h
  | new x =>
    obtain rfl : len = 3 := e_len hln
    by_cases h9 : 91 ≤ a
    · have h : a ≤ 94 ∧ 1 ≤ kc ∧ 6 ≤ ks ∧ Q (some (.retAddr a)) M := by
        have h := h
        unfold e_ins at h
        simp only [if_pos h9] at h
        exact h
      refine hthr x a b z rfl ?_ h9 h.1 h.2.1 h.2.2.1 h.2.2.2
      rcases (Bool.or_eq_true _ _).mp hok with q | q
      · rw [Bool.and_eq_true] at q
        rcases (Bool.or_eq_true _ _).mp q.2 with q2 | q2
        · have q3 : a < 91 ∨ 94 < a := by simpa using q2
          have := h.1
          omega
        · exact q2
      · exfalso
        have hq : e_cl[a]? = none := by
          rw [List.getElem?_eq_none_iff]
          have : e_cl.length = 13 := rfl
          omega
        simp only [hq] at q
        cases q
    · have h : a < 20 ∧ 1 ≤ kc ∧ (e_fk a).length ≤ ks ∧ k (kc - 1) (ks - (e_fk a).length) (pc + 3) lv (.ref M.1 :: st) (e_new M a 0) := by
        have h := h
        unfold e_ins at h
        simp only [if_neg h9] at h
        exact h
      obtain ⟨ha, h1, h2, h⟩ := h
      have hok := (Bool.or_eq_true _ _).mp hok |>.resolve_left (fun q => absurd (of_decide_eq_true ((Bool.and_eq_true _ _).mp q).1) (Nat.not_le.mpr ha))
      cases hq : e_cl[a]? with
      | none => simp only [hq] at hok; cases hok
      | some q =>
        simp only [hq] at hok
        have hw := e_ats_big hok
        exact es_new hx hb hgo hH hS hc hs hl hG hts ho hq (hw _ (by simp)) (hw _ (by simp)) (hw _ (by simp)) d h1 h2 h
  | newarray t =>
    obtain rfl : len = 2 := e_len hln
    obtain ⟨n, r, rfl, ha, h0, h3, h1, h2, h⟩ := e_i1_inv h
    have ha : a = 20 ∨ a = 21 ∨ a = 22 := ha
    simp only [Bool.or_eq_true, Bool.and_eq_true, beq_iff_eq] at hok
    refine es_newarray hx hb hgo hH hS hc hs hl hG hts (t := a) ?_ d h0 h3 h1 h2 h
    rcases hok with ⟨g1, g2, g3⟩ | ⟨g1, g2, g3⟩ | ⟨g1, g2, g3⟩ | g
    · exact Or.inl ⟨g1, e_aty g2, e_ats_big g3 _ (by simp)⟩
    · exact Or.inr (Or.inl ⟨g1, e_aty g2, e_ats_big g3 _ (by simp)⟩)
    · exact Or.inr (Or.inr ⟨g1, e_aty g2, e_ats_big g3 _ (by simp)⟩)
    · omega
  | anewarray x =>
    obtain rfl : len = 3 := e_len hln
    obtain ⟨n, r, rfl, ha, h0, h3, h1, h2, h⟩ := e_i1_inv h
    simp only [Bool.or_eq_true, Bool.and_eq_true, beq_iff_eq] at hok
    refine es_anewarray hx hb hgo hH hS hc hs hl hG hts ho (t := a) ?_ d h0 h3 h1 h2 h
    rcases hok with ⟨g1, g3⟩ | ⟨g1, g3⟩
    · exact Or.inl ⟨g1, e_ats_big g3 _ (by simp)⟩
    · exact Or.inr ⟨g1, e_ats_big g3 _ (by simp)⟩
  | invokevirtual x =>
    obtain rfl : len = 3 := e_len hln
    obtain ⟨ha, h0, h⟩ := h
    have ha : a < 900 := ha
    obtain ⟨o, r, hst, hob, h⟩ := e_r1_inv h
    have hok := (Bool.or_eq_true _ _).mp hok |>.resolve_left (fun q => absurd (of_decide_eq_true q) (Nat.not_le.mpr ha))
    rw [Bool.and_eq_true, Bool.and_eq_true, decide_eq_true_eq] at hok
    obtain ⟨⟨hj, hna⟩, hw, hcl⟩ := hok
    have hw := e_ats_big hw
    obtain ⟨ps9, hM⟩ := hOkM a hj
    have hna : z.toNat = e_pn a := hna
    rw [← hna] at hM
    cases hq : e_cl[b]? with
    | none => simp only [hq] at hcl; cases hcl
    | some q =>
      simp only [hq] at hcl
      exact es_callV hx hb hml hgo hH hS hc hs hl hG hts ho hcal hM (hw _ (by simp)) (hw _ (by simp)) (hw _ (by simp)) hq (eq_of_beq hcl) hob hst h0 d h
  | invokestatic x =>
    obtain rfl : len = 3 := e_len hln
    by_cases h9 : a = 901
    · subst h9
      have hok : e_ats [.methodLink own x arraycopyName, .native arraycopyName, .static arraycopyName, .initialized "java/lang/System"] ps = true := hok
      have hw := e_ats_big hok
      have h : e_cp st fun a sp b dp n r => e_cg M a sp b dp n ∧ (r.map fun v => v.category).sum ≤ 8 ∧ k kc ks (pc + 3) lv r (e_cpy M a sp b dp n) := h
      obtain ⟨a0, sp, b0, dp, n, r, rfl, hg, h8, h⟩ := e_cp_inv h
      exact es_copy hx hb hml hgo hH hS hc hs hl hG hts ho hR (hw _ (by simp)) (hw _ (by simp)) (hw _ (by simp)) (hw _ (by simp)) hg h8 d h
    · have h : a < 900 ∧ z.toNat ≤ st.length ∧ e_cal k cal a kc ks (pc + 3) (st.take z.toNat).reverse lv (st.drop z.toNat) M := by
        have h := h
        unfold e_ins at h
        simp only [if_neg h9] at h
        exact h
      obtain ⟨ha, h0, h⟩ := h
      simp only [if_neg h9] at hok
      have hok := (Bool.or_eq_true _ _).mp hok |>.resolve_left (fun q => absurd (of_decide_eq_true q) (Nat.not_le.mpr ha))
      rw [Bool.and_eq_true, decide_eq_true_eq] at hok
      obtain ⟨⟨hj, hna⟩, hw⟩ := hok
      have hw := e_ats_big hw
      obtain ⟨ps9, hM⟩ := hOkM a hj
      have hna : z.toNat = e_pn a := hna
      rw [← hna] at hM
      exact es_callS hx hb hml hgo hH hS hc hs hl hG hts ho hcal hM (hw _ (by simp)) (hw _ (by simp)) h0 d h
  | invokespecial x =>
    obtain rfl : len = 3 := e_len hln
    by_cases h9 : a = 900
    · subst h9
      have hok : e_ats [.methodLink own x objectInit, .instanceMethod objectInit, .code objectInit ⟨#[0xb1]⟩ 1 none] ps = true := hok
      have hw := e_ats_big hok
      have h : e_r1 st fun o r => e_c0 ≤ o ∧ (r.map fun v => v.category).sum ≤ 8 ∧ k kc ks (pc + 3) lv r M := h
      obtain ⟨o, r, rfl, hoc, h8, h⟩ := e_r1_inv h
      exact es_objInit hx hb hml hgo hH hS hc hs hl hts ho hR (hw _ (by simp)) (hw _ (by simp)) (hw _ (by simp)) hoc h8 d h
    · have h : a < 900 ∧ z.toNat ≤ st.length ∧ e_r1 (st.drop z.toNat) fun o r => e_c0 ≤ o ∧ e_cal k cal a kc ks (pc + 3) (.ref o :: (st.take z.toNat).reverse) lv r M := by
        have h := h
        unfold e_ins at h
        simp only [if_neg h9] at h
        exact h
      obtain ⟨ha, h0, h⟩ := h
      obtain ⟨o, r, hst, hoc, h⟩ := e_r1_inv h
      simp only [if_neg h9] at hok
      have hok := (Bool.or_eq_true _ _).mp hok |>.resolve_left (fun q => absurd (of_decide_eq_true q) (by omega))
      rw [Bool.and_eq_true, Bool.and_eq_true, Bool.and_eq_true, decide_eq_true_eq, beq_iff_eq, beq_iff_eq] at hok
      obtain ⟨⟨hj, hna⟩, hrt, hni, hw⟩ := hok
      obtain ⟨ps9, hM⟩ := hOkM a hj
      have hna : z.toNat = e_pn a := hna
      rw [← hna] at hM
      by_cases hb1 : b = 1
      · simp only [if_pos hb1, Bool.and_eq_true, decide_eq_true_eq] at hw
        exact es_callI hx hb hml hgo hH hS hc hs hl hG hts ho hcal hM hrt hni (e_ats_big hw.1 _ (by simp)) (Or.inr hw.2) hoc hst h0 d h
      · simp only [if_neg hb1] at hw
        have hw := e_ats_big hw
        exact es_callI hx hb hml hgo hH hS hc hs hl hG hts ho hcal hM hrt hni (hw _ (by simp)) (Or.inl (hw _ (by simp))) hoc hst h0 d h
  | return_ =>
    obtain rfl : len = 1 := e_len hln
    obtain ⟨rfl, h1, h⟩ := h
    exact hmq _ _ _ _ _ (es_ret hx hb hH hS hc' hs' hlo (hret.trans h1) d h)
  | ireturn =>
    obtain rfl : len = 1 := e_len hln
    obtain ⟨x, r, rfl, rfl, h1, h⟩ := e_i1_inv h
    exact hmq _ _ _ _ _ (es_iret hx hb hH hS hc' hs' hlo (by rw [hret]; exact h1) d h)
  | lreturn =>
    obtain rfl : len = 1 := e_len hln
    obtain ⟨x, r, rfl, rfl, h1, h⟩ := e_l1_inv h
    exact hmq _ _ _ _ _ (es_lret hx hb hH hS hc' hs' hlo (hret.trans h1) d h)
  | areturn =>
    obtain rfl : len = 1 := e_len hln
    obtain ⟨x, r, rfl, rfl, h1, h⟩ := e_r1_inv h
    exact hmq _ _ _ _ _ (es_aret hx hb hH hS hc' hs' hlo (by rw [hret]; exact h1) d h)
  | _ => exact False.elim h
end ONE
end
section
/-! ===== a whole method: what holds on the machine of numbered cells holds on the real one ===== -/
theorem e_sl_len (w : eW) (av : List Value) : (lg_sl (av.map (e_cv w))).length = (lg_sl av).length := by
  induction av with
  | nil => rfl
  | cons v av ih =>
    unfold lg_sl at ih ⊢
    rw [List.map_cons, List.flatMap_cons, List.flatMap_cons, List.length_append, List.length_append, ih, e_cv_cat]
    congr 1
    split <;> rfl
theorem e_args_map (w : eW) : ∀ (av : List Value) (i : Nat), (lv_args i av).map (e_cq w) = lv_args i (av.map (e_cv w))
  | [], _ => rfl
  | v :: av, i => by
    rw [List.map_cons, lv_args, lv_args, List.map_cons, e_args_map w av, e_cv_cat]
    rfl
theorem e_dec_mem {i pc : Nat} {q : eI} : ∀ {l : List (Nat × eI)}, l.lookup pc = some q → (pc, q) ∈ l
  | [], h => by simp at h
  | (j, u) :: l, h => by
    rw [List.lookup_cons] at h
    split at h
    · rename_i hb
      have := eq_of_beq hb
      subst this
      cases h
      exact List.mem_cons_self
    · exact List.mem_cons_of_mem _ (e_dec_mem (i := i) h)
set_option maxHeartbeats 1000000 in
theorem e_run (hOk : ∀ i, i < 236 → e_Ok i) (hOkM : ∀ j, j < 236 → e_OkM j) (l : Launch) (w : eW) : ∀ (n i d : Nat) (Q : eQ), i < 236 → ∀ (p : Program) (e : Env) (R : Room) (s : State) (m : MethodId) (args : Array Value) (below : List Frame) (meth : Method) (c : Code) (Qf : State → Prop), p.tables.exec = Jvm.exec → c.code = (e_m i).2.1 → c.maxLocals = (e_m i).2.2.1 → s.vm.findClass (e_m i).1.cls = some m.cls → (∀ v ∈ e_big, v.before args s = true) → meth.name = (e_m i).1.name → meth.locks = false → meth.sig.returnType = (e_m i).2.2.2.1 → e_G w s → d + 1 ≤ R.frames → 64 * (d + 1) ≤ R.locals →
    (∀ (x a b : Nat) (z : Int) (kc ks pc : Nat) (st : List Value) (M : eM) (H : Heap) (locs : List Loc) (cells slots : Nat) (ls : Array Slot), e_dec i pc = some (.new x, 3, a, b, z) → e_thn (e_m i).1.cls (e_m i).1.name = true → 91 ≤ a → a ≤ 94 → 1 ≤ kc → 6 ≤ ks → Q (some (.retAddr a)) M → e_H w M s H → va_S (e_A w) s.heap H locs → cells + kc ≤ R.cells → slots + ks ≤ R.slots → ls.size = (e_m i).2.2.1 → W p l e R s m args below meth c H locs cells slots Qf (F0 m pc ls (st.map (e_cv w)))) →
    (∀ (H : Heap) (locs : List Loc) (cells slots : Nat) (g : JFrame), W p l e R s m args below meth c H locs cells slots (MQ below (e_Qc w Q) args s R.cells R.slots (e_A w)) g → W p l e R s m args below meth c H locs cells slots Qf g) →
    e_Go p l e R s m args below meth c Qf w (e_m i).2.2.1 (fun kc ks pc lv st M => e_wp n i d kc ks pc lv st M Q) := by
  intro n
  induction n with
  | zero =>
    intro i d Q hi p e R s m args below meth c Qf hx hb hml ho hts hnm hlo hret hG hf hlc hthr hmq kc ks pc lv st M h
    exact False.elim h
  | succ n ih =>
    intro i d Q hi p e R s m args below meth c Qf hx hb hml ho hts hnm hlo hret hG hf hlc hthr hmq kc ks pc lv st M h H locs cells slots ls hH hS hc hs hl
    have hgo := ih i d Q hi p e R s m args below meth c Qf hx hb hml ho hts hnm hlo hret hG hf hlc hthr hmq
    have hcal : e_Cal l R w (fun j mc ms av M' K => ∃ d', d = d' + 1 ∧ j < 236 ∧ e_nf j = true ∧ (lg_sl av).length ≤ (e_m j).2.2.1 ∧ e_wp n j d' mc ms 0 (lv_args 0 av) [] M' K) := by
      intro j mc ms av M' K hK
      obtain ⟨d', rfl, hj, hnf, hlen, hwp⟩ := hK
      refine ⟨d', ?_, by omega, by omega⟩
      obtain ⟨ps, hM⟩ := hOkM j hj
      have hpl := (e_okM_f hM).2.2.2.2.2.2
      refine Met.ofW (cc := (e_m j).2.1) (maxL := (e_m j).2.2.1) (ret := (e_m j).2.2.2.1) hpl rfl ?_
      intro p2 e2 s2 m2 args2 below2 meth2 c2 s₁ B hml2 hv
      obtain ⟨rfl, hG2, hH2⟩ := hv
      have hts2 := atoms_spec (ws := e_ws j) B.pre
      have hl2 := lv_entry (av.map (e_cv w)) (n := (e_m j).2.2.1) (by rw [e_sl_len]; exact hlen)
      rw [lg_entry_eq]
      generalize (lg_sl (av.map (e_cv w)) ++ List.replicate ((e_m j).2.2.1 - (lg_sl (av.map (e_cv w))).length) Slot.unset).toArray = ls2 at hl2 ⊢
      exact ih j d' K hj p2 e2 _ s2 m2 _ below2 meth2 c2 _ B.exec B.bytes hml2 (findClass_of_methodNamed B.named) (fun v hv => hts2 v (List.mem_cons_of_mem _ hv)) (name_of_methodNamed B.named B.method).1 B.notSynchronized B.returns hG2 (Nat.le_refl _) (Nat.le_refl _) (fun _ _ _ _ _ _ _ _ _ _ _ _ _ _ _ z => absurd z (by rw [e_five hj hnf]; decide)) (fun _ _ _ _ _ z => z) mc ms 0 (lv_args 0 av) [] M' hwp s2.heap [] 0 0 ls2 hH2 va_S.rf (by show 0 + mc ≤ mc; omega) (by show 0 + ms ≤ ms; omega) (by rw [e_args_map]; exact hl2)
    have h : (match e_dec i pc with
      | none => False
      | some q => e_ins (e_m i).2.2.1 (fun kc' ks' pc' lv' st' M' => e_wp n i d kc' ks' pc' lv' st' M' Q) (fun j mc ms av M' K => ∃ d', d = d' + 1 ∧ j < 236 ∧ e_nf j = true ∧ (lg_sl av).length ≤ (e_m j).2.2.1 ∧ e_wp n j d' mc ms 0 (lv_args 0 av) [] M' K) Q (e_m i).2.2.2.1 kc ks pc q lv st M) := h
    cases hq : e_dec i pc with
    | none => rw [hq] at h; exact False.elim h
    | some q =>
      rw [hq] at h
      obtain ⟨ps, hok⟩ := hOk i hi
      obtain ⟨hdg, ps1, hok1⟩ := e_okD_f hok (e_dec_mem (i := i) hq)
      exact e_one hOkM hx hb hml hgo hH hS hc hs hl hG hts ho hnm hcal ⟨by omega, by omega⟩ hlo hret hmq (fun x a b z e h1 h2 h3 h4 h5 h6 => hthr x a b z kc ks pc st M H locs cells slots ls (by rw [hq, e]) h1 h2 h3 h4 h5 h6 hH hS hc hs hl.1) hdg hok1 h
/-- a method's contract on the real machine, out of its run on the machine of numbered cells -/
theorem e_met (hOk : ∀ i, i < 236 → e_Ok i) (hOkM : ∀ j, j < 236 → e_OkM j) (l : Launch) (w : eW) {n j d mc ms : Nat} {av : List Value} {M : eM} {K : eQ} (hj : j < 236) (hnf : e_nf j = true) (hlen : (lg_sl av).length ≤ (e_m j).2.2.1) (hwp : e_wp n j d mc ms 0 (lv_args 0 av) [] M K) : Met l (e_m j).1 (e_ws j) (e_rm d mc ms) (e_Pc w av M) (e_Qc w K) mc ms (e_A w) := by
  obtain ⟨ps, hM⟩ := hOkM j hj
  have hpl := (e_okM_f hM).2.2.2.2.2.2
  refine Met.ofW (cc := (e_m j).2.1) (maxL := (e_m j).2.2.1) (ret := (e_m j).2.2.2.1) hpl rfl ?_
  intro p2 e2 s2 m2 args2 below2 meth2 c2 s₁ B hml2 hv
  obtain ⟨rfl, hG2, hH2⟩ := hv
  have hts2 := atoms_spec (ws := e_ws j) B.pre
  have hl2 := lv_entry (av.map (e_cv w)) (n := (e_m j).2.2.1) (by rw [e_sl_len]; exact hlen)
  rw [lg_entry_eq]
  generalize (lg_sl (av.map (e_cv w)) ++ List.replicate ((e_m j).2.2.1 - (lg_sl (av.map (e_cv w))).length) Slot.unset).toArray = ls2 at hl2 ⊢
  exact e_run hOk hOkM l w n j d K hj p2 e2 _ s2 m2 _ below2 meth2 c2 _ B.exec B.bytes hml2 (findClass_of_methodNamed B.named) (fun v hv => hts2 v (List.mem_cons_of_mem _ hv)) (name_of_methodNamed B.named B.method).1 B.notSynchronized B.returns hG2 (Nat.le_refl _) (Nat.le_refl _) (fun _ _ _ _ _ _ _ _ _ _ _ _ _ _ _ z => absurd z (by rw [e_five hj hnf]; decide)) (fun _ _ _ _ _ z => z) mc ms 0 (lv_args 0 av) [] M hwp s2.heap [] 0 0 ls2 hH2 va_S.rf (by show 0 + mc ≤ mc; omega) (by show 0 + ms ≤ ms; omega) (by rw [e_args_map]; exact hl2)
end
section
/-! ===== what an instruction goes on with; more locals do no harm; steps enough ===== -/
def e_sub (lv lv2 : eL) : Prop := ∀ q ∈ lv, q ∈ lv2
def e_fun (lv : eL) : Prop := ∀ (j : Nat) (v u : Value), (j, v) ∈ lv → (j, u) ∈ lv → v = u
theorem e_lk_sub {lv lv2 : eL} (hs : e_sub lv lv2) (hf : e_fun lv2) {j : Nat} {v : Value} (h : lv.lookup j = some v) : lv2.lookup j = some v := by
  have h1 := hs _ (e_lu h)
  cases h2 : lv2.lookup j with
  | none =>
    exfalso
    rw [List.lookup_eq_none_iff] at h2
    have := h2 _ h1
    simp at this
  | some u => rw [hf j u v (e_lu h2) h1]
theorem e_s1_sub {lv lv2 : eL} (hs : e_sub lv lv2) (j : Nat) (v : Value) : e_sub (e_s1 lv j v) (e_s1 lv2 j v) := by
  intro q hq
  rcases List.mem_cons.mp hq with rfl | hq
  · exact List.mem_cons_self
  · obtain ⟨h1, h2⟩ := List.mem_filter.mp hq
    exact List.mem_cons_of_mem _ (List.mem_filter.mpr ⟨hs _ h1, h2⟩)
theorem e_s2_sub {lv lv2 : eL} (hs : e_sub lv lv2) (j : Nat) (v : Value) : e_sub (e_s2 lv j v) (e_s2 lv2 j v) := by
  intro q hq
  rcases List.mem_cons.mp hq with rfl | hq
  · exact List.mem_cons_self
  · obtain ⟨h1, h2⟩ := List.mem_filter.mp hq
    exact List.mem_cons_of_mem _ (List.mem_filter.mpr ⟨hs _ h1, h2⟩)
theorem e_s1_fun {lv : eL} (hf : e_fun lv) (j : Nat) (v : Value) : e_fun (e_s1 lv j v) := by
  intro i x y h1 h2
  rcases List.mem_cons.mp h1 with e1 | h1
  · rcases List.mem_cons.mp h2 with e2 | h2
    · cases e1; cases e2; rfl
    · cases e1
      have := (List.mem_filter.mp h2).2
      simp at this
  · rcases List.mem_cons.mp h2 with e2 | h2
    · cases e2
      have := (List.mem_filter.mp h1).2
      simp at this
    · exact hf i x y (List.mem_filter.mp h1).1 (List.mem_filter.mp h2).1
theorem e_s2_fun {lv : eL} (hf : e_fun lv) (j : Nat) (v : Value) : e_fun (e_s2 lv j v) := by
  intro i x y h1 h2
  rcases List.mem_cons.mp h1 with e1 | h1
  · rcases List.mem_cons.mp h2 with e2 | h2
    · cases e1; cases e2; rfl
    · cases e1
      have := (List.mem_filter.mp h2).2
      simp at this
  · rcases List.mem_cons.mp h2 with e2 | h2
    · cases e2
      have := (List.mem_filter.mp h1).2
      simp at this
    · exact hf i x y (List.mem_filter.mp h1).1 (List.mem_filter.mp h2).1
/-- an instruction goes on at one place, or calls, or returns; lv2 has what lv has -/
def e_Pick (L : Nat) (k : eK) (cal : eC) (Q : eQ) (ret : Option FieldType) (kc ks pc : Nat) (q : eI) (lv : eL) (st : List Value) (M : eM) (lv2 : eL) : Prop :=
  (∃ kc' ks' pc' lv' st' M' lv2', k kc' ks' pc' lv' st' M' ∧ (e_fun lv → e_fun lv') ∧ e_sub lv' lv2' ∧ e_fun lv2' ∧ ∀ (k2 : eK) (cal2 : eC) (Q2 : eQ), k2 kc' ks' pc' lv2' st' M' → e_ins L k2 cal2 Q2 ret kc ks pc q lv2 st M) ∨
  (∃ j mc ms av M' rest, cal j mc ms av M' (fun v M'' => k (kc - mc) (ks - ms) (pc + 3) lv (v.toList ++ rest) M'') ∧ ∀ (k2 : eK) (cal2 : eC) (Q2 : eQ), cal2 j mc ms av M' (fun v M'' => k2 (kc - mc) (ks - ms) (pc + 3) lv2 (v.toList ++ rest) M'') → e_ins L k2 cal2 Q2 ret kc ks pc q lv2 st M) ∨
  (∃ v, Q v M ∧ ∀ (k2 : eK) (cal2 : eC) (Q2 : eQ), Q2 v M → e_ins L k2 cal2 Q2 ret kc ks pc q lv2 st M)
set_option maxHeartbeats 4000000 in
theorem e_pick {L : Nat} {k : eK} {cal : eC} {Q : eQ} {ret : Option FieldType} {kc ks pc : Nat} {q : eI} {lv : eL} {st : List Value} {M : eM} (h : e_ins L k cal Q ret kc ks pc q lv st M) {lv2 : eL} (hs : e_sub lv lv2) (hf : e_fun lv2) : e_Pick L k cal Q ret kc ks pc q lv st M lv2 := by
  obtain ⟨ins, len, a, b, z⟩ := q
  cases ins with
  | iconst n =>
    exact Or.inl ⟨_, _, _, _, _, _, lv2, h, id, hs, hf, fun k2 cal2 Q2 g => g⟩
  | bipush n =>
    exact Or.inl ⟨_, _, _, _, _, _, lv2, h, id, hs, hf, fun k2 cal2 Q2 g => g⟩
  | sipush n =>
    exact Or.inl ⟨_, _, _, _, _, _, lv2, h, id, hs, hf, fun k2 cal2 Q2 g => g⟩
  | lconst n =>
    exact Or.inl ⟨_, _, _, _, _, _, lv2, h, id, hs, hf, fun k2 cal2 Q2 g => g⟩
  | aconst_null =>
    exact Or.inl ⟨_, _, _, _, _, _, lv2, h, id, hs, hf, fun k2 cal2 Q2 g => g⟩
  | ldc2_w x =>
    exact Or.inl ⟨_, _, _, _, _, _, lv2, h, id, hs, hf, fun k2 cal2 Q2 g => g⟩
  | ldc x =>
    obtain ⟨h0, h⟩ := h
    exact Or.inl ⟨_, _, _, _, _, _, lv2, h, id, hs, hf, fun k2 cal2 Q2 g => ⟨h0, g⟩⟩
  | ldc_w x =>
    obtain ⟨h0, h⟩ := h
    exact Or.inl ⟨_, _, _, _, _, _, lv2, h, id, hs, hf, fun k2 cal2 Q2 g => ⟨h0, g⟩⟩
  | iload_n j =>
    obtain ⟨v, h1, h2, h⟩ := e_lk_inv h
    have h3 := e_lk_sub hs hf h1
    refine Or.inl ⟨_, _, _, _, _, _, lv2, h, id, hs, hf, fun k2 cal2 Q2 g => ?_⟩
    show e_lk _ _ _
    unfold e_lk
    rw [h3]
    exact ⟨h2, g⟩
  | iload j =>
    obtain ⟨v, h1, h2, h⟩ := e_lk_inv h
    have h3 := e_lk_sub hs hf h1
    refine Or.inl ⟨_, _, _, _, _, _, lv2, h, id, hs, hf, fun k2 cal2 Q2 g => ?_⟩
    show e_lk _ _ _
    unfold e_lk
    rw [h3]
    exact ⟨h2, g⟩
  | lload_n j =>
    obtain ⟨v, h1, h2, h⟩ := e_lk_inv h
    have h3 := e_lk_sub hs hf h1
    refine Or.inl ⟨_, _, _, _, _, _, lv2, h, id, hs, hf, fun k2 cal2 Q2 g => ?_⟩
    show e_lk _ _ _
    unfold e_lk
    rw [h3]
    exact ⟨h2, g⟩
  | lload j =>
    obtain ⟨v, h1, h2, h⟩ := e_lk_inv h
    have h3 := e_lk_sub hs hf h1
    refine Or.inl ⟨_, _, _, _, _, _, lv2, h, id, hs, hf, fun k2 cal2 Q2 g => ?_⟩
    show e_lk _ _ _
    unfold e_lk
    rw [h3]
    exact ⟨h2, g⟩
  | aload_n j =>
    obtain ⟨v, h1, h2, h⟩ := e_lk_inv h
    have h3 := e_lk_sub hs hf h1
    refine Or.inl ⟨_, _, _, _, _, _, lv2, h, id, hs, hf, fun k2 cal2 Q2 g => ?_⟩
    show e_lk _ _ _
    unfold e_lk
    rw [h3]
    exact ⟨h2, g⟩
  | aload j =>
    obtain ⟨v, h1, h2, h⟩ := e_lk_inv h
    have h3 := e_lk_sub hs hf h1
    refine Or.inl ⟨_, _, _, _, _, _, lv2, h, id, hs, hf, fun k2 cal2 Q2 g => ?_⟩
    show e_lk _ _ _
    unfold e_lk
    rw [h3]
    exact ⟨h2, g⟩
  | istore_n j =>
    obtain ⟨x, r, rfl, h1, h⟩ := e_i1_inv h
    exact Or.inl ⟨_, _, _, _, _, _, e_s1 lv2 j (.int x), h, fun z => e_s1_fun z j (.int x), e_s1_sub hs j (.int x), e_s1_fun hf j (.int x), fun k2 cal2 Q2 g => ⟨h1, g⟩⟩
  | istore j =>
    obtain ⟨x, r, rfl, h1, h⟩ := e_i1_inv h
    exact Or.inl ⟨_, _, _, _, _, _, e_s1 lv2 j (.int x), h, fun z => e_s1_fun z j (.int x), e_s1_sub hs j (.int x), e_s1_fun hf j (.int x), fun k2 cal2 Q2 g => ⟨h1, g⟩⟩
  | astore_n j =>
    obtain ⟨x, r, rfl, h1, h⟩ := e_r1_inv h
    exact Or.inl ⟨_, _, _, _, _, _, e_s1 lv2 j (.ref x), h, fun z => e_s1_fun z j (.ref x), e_s1_sub hs j (.ref x), e_s1_fun hf j (.ref x), fun k2 cal2 Q2 g => ⟨h1, g⟩⟩
  | astore j =>
    obtain ⟨x, r, rfl, h1, h⟩ := e_r1_inv h
    exact Or.inl ⟨_, _, _, _, _, _, e_s1 lv2 j (.ref x), h, fun z => e_s1_fun z j (.ref x), e_s1_sub hs j (.ref x), e_s1_fun hf j (.ref x), fun k2 cal2 Q2 g => ⟨h1, g⟩⟩
  | lstore_n j =>
    obtain ⟨x, r, rfl, h1, h⟩ := e_l1_inv h
    exact Or.inl ⟨_, _, _, _, _, _, e_s2 lv2 j (.long x), h, fun z => e_s2_fun z j (.long x), e_s2_sub hs j (.long x), e_s2_fun hf j (.long x), fun k2 cal2 Q2 g => ⟨h1, g⟩⟩
  | lstore j =>
    obtain ⟨x, r, rfl, h1, h⟩ := e_l1_inv h
    exact Or.inl ⟨_, _, _, _, _, _, e_s2 lv2 j (.long x), h, fun z => e_s2_fun z j (.long x), e_s2_sub hs j (.long x), e_s2_fun hf j (.long x), fun k2 cal2 Q2 g => ⟨h1, g⟩⟩
  | iinc j n =>
    obtain ⟨v, h1, h⟩ := e_lk_inv h
    have h3 := e_lk_sub hs hf h1
    cases v with
    | int x =>
      refine Or.inl ⟨_, _, _, _, _, _, e_s1 lv2 j (.int (x + Int32.ofInt n)), h.2, fun z => e_s1_fun z j _, e_s1_sub hs j _, e_s1_fun hf j _, fun k2 cal2 Q2 g => ?_⟩
      show e_lk _ _ _
      unfold e_lk
      rw [h3]
      exact ⟨h.1, g⟩
    | _ => exact False.elim h
  | iadd =>
    obtain ⟨x, y, r, rfl, h⟩ := e_i2_inv h
    exact Or.inl ⟨_, _, _, _, _, _, lv2, h, id, hs, hf, fun k2 cal2 Q2 g => g⟩
  | isub =>
    obtain ⟨x, y, r, rfl, h⟩ := e_i2_inv h
    exact Or.inl ⟨_, _, _, _, _, _, lv2, h, id, hs, hf, fun k2 cal2 Q2 g => g⟩
  | imul =>
    obtain ⟨x, y, r, rfl, h⟩ := e_i2_inv h
    exact Or.inl ⟨_, _, _, _, _, _, lv2, h, id, hs, hf, fun k2 cal2 Q2 g => g⟩
  | iand =>
    obtain ⟨x, y, r, rfl, h⟩ := e_i2_inv h
    exact Or.inl ⟨_, _, _, _, _, _, lv2, h, id, hs, hf, fun k2 cal2 Q2 g => g⟩
  | ior =>
    obtain ⟨x, y, r, rfl, h⟩ := e_i2_inv h
    exact Or.inl ⟨_, _, _, _, _, _, lv2, h, id, hs, hf, fun k2 cal2 Q2 g => g⟩
  | ixor =>
    obtain ⟨x, y, r, rfl, h⟩ := e_i2_inv h
    exact Or.inl ⟨_, _, _, _, _, _, lv2, h, id, hs, hf, fun k2 cal2 Q2 g => g⟩
  | ishl =>
    obtain ⟨x, y, r, rfl, h⟩ := e_i2_inv h
    exact Or.inl ⟨_, _, _, _, _, _, lv2, h, id, hs, hf, fun k2 cal2 Q2 g => g⟩
  | ishr =>
    obtain ⟨x, y, r, rfl, h⟩ := e_i2_inv h
    exact Or.inl ⟨_, _, _, _, _, _, lv2, h, id, hs, hf, fun k2 cal2 Q2 g => g⟩
  | iushr =>
    obtain ⟨x, y, r, rfl, h⟩ := e_i2_inv h
    exact Or.inl ⟨_, _, _, _, _, _, lv2, h, id, hs, hf, fun k2 cal2 Q2 g => g⟩
  | ladd =>
    obtain ⟨x, y, r, rfl, h⟩ := e_l2_inv h
    exact Or.inl ⟨_, _, _, _, _, _, lv2, h, id, hs, hf, fun k2 cal2 Q2 g => g⟩
  | land =>
    obtain ⟨x, y, r, rfl, h⟩ := e_l2_inv h
    exact Or.inl ⟨_, _, _, _, _, _, lv2, h, id, hs, hf, fun k2 cal2 Q2 g => g⟩
  | lor =>
    obtain ⟨x, y, r, rfl, h⟩ := e_l2_inv h
    exact Or.inl ⟨_, _, _, _, _, _, lv2, h, id, hs, hf, fun k2 cal2 Q2 g => g⟩
  | lxor =>
    obtain ⟨x, y, r, rfl, h⟩ := e_l2_inv h
    exact Or.inl ⟨_, _, _, _, _, _, lv2, h, id, hs, hf, fun k2 cal2 Q2 g => g⟩
  | lcmp =>
    obtain ⟨x, y, r, rfl, h⟩ := e_l2_inv h
    exact Or.inl ⟨_, _, _, _, _, _, lv2, h, id, hs, hf, fun k2 cal2 Q2 g => g⟩
  | lshl =>
    obtain ⟨x, y, r, rfl, h⟩ := e_li_inv h
    exact Or.inl ⟨_, _, _, _, _, _, lv2, h, id, hs, hf, fun k2 cal2 Q2 g => g⟩
  | lshr =>
    obtain ⟨x, y, r, rfl, h⟩ := e_li_inv h
    exact Or.inl ⟨_, _, _, _, _, _, lv2, h, id, hs, hf, fun k2 cal2 Q2 g => g⟩
  | lushr =>
    obtain ⟨x, y, r, rfl, h⟩ := e_li_inv h
    exact Or.inl ⟨_, _, _, _, _, _, lv2, h, id, hs, hf, fun k2 cal2 Q2 g => g⟩
  | ineg =>
    obtain ⟨x, r, rfl, h⟩ := e_i1_inv h
    exact Or.inl ⟨_, _, _, _, _, _, lv2, h, id, hs, hf, fun k2 cal2 Q2 g => g⟩
  | i2l =>
    obtain ⟨x, r, rfl, h⟩ := e_i1_inv h
    exact Or.inl ⟨_, _, _, _, _, _, lv2, h, id, hs, hf, fun k2 cal2 Q2 g => g⟩
  | l2i =>
    obtain ⟨x, r, rfl, h⟩ := e_l1_inv h
    exact Or.inl ⟨_, _, _, _, _, _, lv2, h, id, hs, hf, fun k2 cal2 Q2 g => g⟩
  | i2b =>
    obtain ⟨x, r, rfl, h⟩ := e_i1_inv h
    exact Or.inl ⟨_, _, _, _, _, _, lv2, h, id, hs, hf, fun k2 cal2 Q2 g => g⟩
  | i2s =>
    obtain ⟨x, r, rfl, h⟩ := e_i1_inv h
    exact Or.inl ⟨_, _, _, _, _, _, lv2, h, id, hs, hf, fun k2 cal2 Q2 g => g⟩
  | idiv =>
    obtain ⟨x, y, r, rfl, h0, h⟩ := e_i2_inv h
    exact Or.inl ⟨_, _, _, _, _, _, lv2, h, id, hs, hf, fun k2 cal2 Q2 g => ⟨h0, g⟩⟩
  | irem =>
    obtain ⟨x, y, r, rfl, h0, h⟩ := e_i2_inv h
    exact Or.inl ⟨_, _, _, _, _, _, lv2, h, id, hs, hf, fun k2 cal2 Q2 g => ⟨h0, g⟩⟩
  | dup =>
    cases st with
    | nil => exact False.elim h
    | cons v r => exact Or.inl ⟨_, _, _, _, _, _, lv2, h.2, id, hs, hf, fun k2 cal2 Q2 g => ⟨h.1, g⟩⟩
  | dup2 =>
    cases st with
    | nil => exact False.elim h
    | cons v r =>
      cases r with
      | nil => exact False.elim h
      | cons u r => exact Or.inl ⟨_, _, _, _, _, _, lv2, h.2.2, id, hs, hf, fun k2 cal2 Q2 g => ⟨h.1, h.2.1, g⟩⟩
  | pop =>
    cases st with
    | nil => exact False.elim h
    | cons v r => exact Or.inl ⟨_, _, _, _, _, _, lv2, h.2, id, hs, hf, fun k2 cal2 Q2 g => ⟨h.1, g⟩⟩
  | goto t =>
    exact Or.inl ⟨_, _, _, _, _, _, lv2, h, id, hs, hf, fun k2 cal2 Q2 g => g⟩
  | ifCond cnd t =>
    cases cnd with
    | eq =>
      obtain ⟨x, r, rfl, h⟩ := e_i1_inv h
      by_cases hcnd : x = 0
      · exact Or.inl ⟨_, _, _, _, _, _, lv2, h.1 hcnd, id, hs, hf, fun k2 cal2 Q2 g => ⟨fun _ => g, fun z => absurd hcnd z⟩⟩
      · exact Or.inl ⟨_, _, _, _, _, _, lv2, h.2 hcnd, id, hs, hf, fun k2 cal2 Q2 g => ⟨fun z => absurd z hcnd, fun _ => g⟩⟩
    | ne =>
      obtain ⟨x, r, rfl, h⟩ := e_i1_inv h
      by_cases hcnd : x = 0
      · exact Or.inl ⟨_, _, _, _, _, _, lv2, h.2 hcnd, id, hs, hf, fun k2 cal2 Q2 g => ⟨fun z => absurd hcnd z, fun _ => g⟩⟩
      · exact Or.inl ⟨_, _, _, _, _, _, lv2, h.1 hcnd, id, hs, hf, fun k2 cal2 Q2 g => ⟨fun _ => g, fun z => absurd z hcnd⟩⟩
    | lt =>
      obtain ⟨x, r, rfl, h⟩ := e_i1_inv h
      by_cases hcnd : x < 0
      · exact Or.inl ⟨_, _, _, _, _, _, lv2, h.1 hcnd, id, hs, hf, fun k2 cal2 Q2 g => ⟨fun _ => g, fun z => absurd hcnd z⟩⟩
      · exact Or.inl ⟨_, _, _, _, _, _, lv2, h.2 hcnd, id, hs, hf, fun k2 cal2 Q2 g => ⟨fun z => absurd z hcnd, fun _ => g⟩⟩
    | ge =>
      obtain ⟨x, r, rfl, h⟩ := e_i1_inv h
      by_cases hcnd : 0 ≤ x
      · exact Or.inl ⟨_, _, _, _, _, _, lv2, h.1 hcnd, id, hs, hf, fun k2 cal2 Q2 g => ⟨fun _ => g, fun z => absurd hcnd z⟩⟩
      · exact Or.inl ⟨_, _, _, _, _, _, lv2, h.2 hcnd, id, hs, hf, fun k2 cal2 Q2 g => ⟨fun z => absurd z hcnd, fun _ => g⟩⟩
    | gt =>
      obtain ⟨x, r, rfl, h⟩ := e_i1_inv h
      by_cases hcnd : 0 < x
      · exact Or.inl ⟨_, _, _, _, _, _, lv2, h.1 hcnd, id, hs, hf, fun k2 cal2 Q2 g => ⟨fun _ => g, fun z => absurd hcnd z⟩⟩
      · exact Or.inl ⟨_, _, _, _, _, _, lv2, h.2 hcnd, id, hs, hf, fun k2 cal2 Q2 g => ⟨fun z => absurd z hcnd, fun _ => g⟩⟩
    | le =>
      obtain ⟨x, r, rfl, h⟩ := e_i1_inv h
      by_cases hcnd : x ≤ 0
      · exact Or.inl ⟨_, _, _, _, _, _, lv2, h.1 hcnd, id, hs, hf, fun k2 cal2 Q2 g => ⟨fun _ => g, fun z => absurd hcnd z⟩⟩
      · exact Or.inl ⟨_, _, _, _, _, _, lv2, h.2 hcnd, id, hs, hf, fun k2 cal2 Q2 g => ⟨fun z => absurd z hcnd, fun _ => g⟩⟩
  | if_icmp cnd t =>
    cases cnd with
    | eq =>
      obtain ⟨x, y, r, rfl, h⟩ := e_i2_inv h
      by_cases hcnd : x = y
      · exact Or.inl ⟨_, _, _, _, _, _, lv2, h.1 hcnd, id, hs, hf, fun k2 cal2 Q2 g => ⟨fun _ => g, fun z => absurd hcnd z⟩⟩
      · exact Or.inl ⟨_, _, _, _, _, _, lv2, h.2 hcnd, id, hs, hf, fun k2 cal2 Q2 g => ⟨fun z => absurd z hcnd, fun _ => g⟩⟩
    | ne =>
      obtain ⟨x, y, r, rfl, h⟩ := e_i2_inv h
      by_cases hcnd : x = y
      · exact Or.inl ⟨_, _, _, _, _, _, lv2, h.2 hcnd, id, hs, hf, fun k2 cal2 Q2 g => ⟨fun z => absurd hcnd z, fun _ => g⟩⟩
      · exact Or.inl ⟨_, _, _, _, _, _, lv2, h.1 hcnd, id, hs, hf, fun k2 cal2 Q2 g => ⟨fun _ => g, fun z => absurd z hcnd⟩⟩
    | lt =>
      obtain ⟨x, y, r, rfl, h⟩ := e_i2_inv h
      by_cases hcnd : x < y
      · exact Or.inl ⟨_, _, _, _, _, _, lv2, h.1 hcnd, id, hs, hf, fun k2 cal2 Q2 g => ⟨fun _ => g, fun z => absurd hcnd z⟩⟩
      · exact Or.inl ⟨_, _, _, _, _, _, lv2, h.2 hcnd, id, hs, hf, fun k2 cal2 Q2 g => ⟨fun z => absurd z hcnd, fun _ => g⟩⟩
    | ge =>
      obtain ⟨x, y, r, rfl, h⟩ := e_i2_inv h
      by_cases hcnd : y ≤ x
      · exact Or.inl ⟨_, _, _, _, _, _, lv2, h.1 hcnd, id, hs, hf, fun k2 cal2 Q2 g => ⟨fun _ => g, fun z => absurd hcnd z⟩⟩
      · exact Or.inl ⟨_, _, _, _, _, _, lv2, h.2 hcnd, id, hs, hf, fun k2 cal2 Q2 g => ⟨fun z => absurd z hcnd, fun _ => g⟩⟩
    | gt =>
      obtain ⟨x, y, r, rfl, h⟩ := e_i2_inv h
      by_cases hcnd : y < x
      · exact Or.inl ⟨_, _, _, _, _, _, lv2, h.1 hcnd, id, hs, hf, fun k2 cal2 Q2 g => ⟨fun _ => g, fun z => absurd hcnd z⟩⟩
      · exact Or.inl ⟨_, _, _, _, _, _, lv2, h.2 hcnd, id, hs, hf, fun k2 cal2 Q2 g => ⟨fun z => absurd z hcnd, fun _ => g⟩⟩
    | le =>
      obtain ⟨x, y, r, rfl, h⟩ := e_i2_inv h
      by_cases hcnd : x ≤ y
      · exact Or.inl ⟨_, _, _, _, _, _, lv2, h.1 hcnd, id, hs, hf, fun k2 cal2 Q2 g => ⟨fun _ => g, fun z => absurd hcnd z⟩⟩
      · exact Or.inl ⟨_, _, _, _, _, _, lv2, h.2 hcnd, id, hs, hf, fun k2 cal2 Q2 g => ⟨fun z => absurd z hcnd, fun _ => g⟩⟩
  | ifnull t =>
    obtain ⟨x, r, rfl, h⟩ := e_r1_inv h
    by_cases hcnd : x = 0
    · exact Or.inl ⟨_, _, _, _, _, _, lv2, h.1 hcnd, id, hs, hf, fun k2 cal2 Q2 g => ⟨fun _ => g, fun z => absurd hcnd z⟩⟩
    · exact Or.inl ⟨_, _, _, _, _, _, lv2, h.2 hcnd, id, hs, hf, fun k2 cal2 Q2 g => ⟨fun z => absurd z hcnd, fun _ => g⟩⟩
  | ifnonnull t =>
    obtain ⟨x, r, rfl, h⟩ := e_r1_inv h
    by_cases hcnd : x = 0
    · exact Or.inl ⟨_, _, _, _, _, _, lv2, h.2 hcnd, id, hs, hf, fun k2 cal2 Q2 g => ⟨fun z => absurd hcnd z, fun _ => g⟩⟩
    · exact Or.inl ⟨_, _, _, _, _, _, lv2, h.1 hcnd, id, hs, hf, fun k2 cal2 Q2 g => ⟨fun _ => g, fun z => absurd z hcnd⟩⟩
  | tableswitch dd lo hi offs =>
    obtain ⟨x, r, rfl, h⟩ := e_i1_inv h
    by_cases hcnd : x.toInt < lo ∨ hi < x.toInt
    · exact Or.inl ⟨_, _, _, _, _, _, lv2, h.1 hcnd, id, hs, hf, fun k2 cal2 Q2 g => ⟨fun _ => g, fun z1 z2 => absurd hcnd (fun z => z.elim z1 z2)⟩⟩
    · obtain ⟨t, ht, h9⟩ := h.2 (fun z => hcnd (Or.inl z)) (fun z => hcnd (Or.inr z))
      exact Or.inl ⟨_, _, _, _, _, _, lv2, h9, id, hs, hf, fun k2 cal2 Q2 g => ⟨fun z => absurd z hcnd, fun _ _ => ⟨t, ht, g⟩⟩⟩
  | lookupswitch dd prs =>
    obtain ⟨x, r, rfl, h⟩ := e_i1_inv h
    exact Or.inl ⟨_, _, _, _, _, _, lv2, h, id, hs, hf, fun k2 cal2 Q2 g => g⟩
  | getfield x =>
    obtain ⟨ha, h⟩ := h
    obtain ⟨t, r, rfl, h1, h⟩ := e_r1_inv h
    exact Or.inl ⟨_, _, _, _, _, _, lv2, h, id, hs, hf, fun k2 cal2 Q2 g => ⟨ha, h1, g⟩⟩
  | putfield x =>
    obtain ⟨ha, h⟩ := h
    have h : e_put k kc ks (pc + 3) a b lv st M := h
    unfold e_put at h
    by_cases g1 : (e_fk a).getD b 0 = 1
    · rw [if_pos g1] at h
      obtain ⟨t, v, r, rfl, h1, h⟩ := e_rpl_inv h
      refine Or.inl ⟨_, _, _, _, _, _, lv2, h, id, hs, hf, fun k2 cal2 Q2 g => ⟨ha, ?_⟩⟩
      show e_put k2 kc ks (pc + 3) a b lv2 _ M
      unfold e_put
      rw [if_pos g1]
      exact ⟨h1, g⟩
    · rw [if_neg g1] at h
      by_cases g2 : (e_fk a).getD b 0 = 2
      · rw [if_pos g2] at h
        obtain ⟨t, v, r, rfl, h1, h⟩ := e_rpr_inv h
        refine Or.inl ⟨_, _, _, _, _, _, lv2, h, id, hs, hf, fun k2 cal2 Q2 g => ⟨ha, ?_⟩⟩
        show e_put k2 kc ks (pc + 3) a b lv2 _ M
        unfold e_put
        rw [if_neg g1, if_pos g2]
        exact ⟨h1, g⟩
      · rw [if_neg g2] at h
        obtain ⟨t, v, r, rfl, h1, h3, h⟩ := e_rpi_inv h
        refine Or.inl ⟨_, _, _, _, _, _, lv2, h, id, hs, hf, fun k2 cal2 Q2 g => ⟨ha, ?_⟩⟩
        show e_put k2 kc ks (pc + 3) a b lv2 _ M
        unfold e_put
        rw [if_neg g1, if_neg g2]
        exact ⟨h1, h3, g⟩
  | getstatic x =>
    obtain ⟨ha, h⟩ := h
    exact Or.inl ⟨_, _, _, _, _, _, lv2, h, id, hs, hf, fun k2 cal2 Q2 g => ⟨ha, g⟩⟩
  | iaload =>
    obtain ⟨t, i, r, rfl, h1, h⟩ := e_ri_inv h
    exact Or.inl ⟨_, _, _, _, _, _, lv2, h, id, hs, hf, fun k2 cal2 Q2 g => ⟨h1, g⟩⟩
  | baload =>
    obtain ⟨t, i, r, rfl, h1, h⟩ := e_ri_inv h
    exact Or.inl ⟨_, _, _, _, _, _, lv2, h, id, hs, hf, fun k2 cal2 Q2 g => ⟨h1, g⟩⟩
  | laload =>
    obtain ⟨t, i, r, rfl, h1, h⟩ := e_ri_inv h
    exact Or.inl ⟨_, _, _, _, _, _, lv2, h, id, hs, hf, fun k2 cal2 Q2 g => ⟨h1, g⟩⟩
  | aaload =>
    obtain ⟨t, i, r, rfl, h1, h⟩ := e_ri_inv h
    exact Or.inl ⟨_, _, _, _, _, _, lv2, h, id, hs, hf, fun k2 cal2 Q2 g => ⟨h1, g⟩⟩
  | iastore =>
    obtain ⟨t, i, x, r, rfl, h1, h⟩ := e_rii_inv h
    exact Or.inl ⟨_, _, _, _, _, _, lv2, h, id, hs, hf, fun k2 cal2 Q2 g => ⟨h1, g⟩⟩
  | bastore =>
    obtain ⟨t, i, x, r, rfl, h1, h⟩ := e_rii_inv h
    exact Or.inl ⟨_, _, _, _, _, _, lv2, h, id, hs, hf, fun k2 cal2 Q2 g => ⟨h1, g⟩⟩
  | lastore =>
    obtain ⟨t, i, x, r, rfl, h1, h⟩ := e_ril_inv h
    exact Or.inl ⟨_, _, _, _, _, _, lv2, h, id, hs, hf, fun k2 cal2 Q2 g => ⟨h1, g⟩⟩
  | aastore =>
    obtain ⟨t, i, x, r, rfl, h1, h⟩ := e_rir_inv h
    exact Or.inl ⟨_, _, _, _, _, _, lv2, h, id, hs, hf, fun k2 cal2 Q2 g => ⟨h1, g⟩⟩
  | arraylength =>
    obtain ⟨t, r, rfl, h1, h⟩ := e_r1_inv h
    exact Or.inl ⟨_, _, _, _, _, _, lv2, h, id, hs, hf, fun k2 cal2 Q2 g => ⟨h1, g⟩⟩
  | new x =>
    by_cases h9 : 91 ≤ a
    · have key : ∀ (k : eK) (cal : eC) (Q : eQ) (lv : eL), e_ins L k cal Q ret kc ks pc (.new x, len, a, b, z) lv st M ↔ (a ≤ 94 ∧ 1 ≤ kc ∧ 6 ≤ ks ∧ Q (some (.retAddr a)) M) := by
        intro k cal Q lv
        unfold e_ins
        simp only [if_pos h9]
      obtain ⟨h1, h2, h3, h⟩ := (key _ _ _ _).mp h
      exact Or.inr (Or.inr ⟨_, h, fun k2 cal2 Q2 g => (key _ _ _ _).mpr ⟨h1, h2, h3, g⟩⟩)
    · have key : ∀ (k : eK) (cal : eC) (Q : eQ) (lv : eL), e_ins L k cal Q ret kc ks pc (.new x, len, a, b, z) lv st M ↔ (a < 20 ∧ 1 ≤ kc ∧ (e_fk a).length ≤ ks ∧ k (kc - 1) (ks - (e_fk a).length) (pc + 3) lv (.ref M.1 :: st) (e_new M a 0)) := by
        intro k cal Q lv
        unfold e_ins
        simp only [if_neg h9]
      obtain ⟨h1, h2, h3, h⟩ := (key _ _ _ _).mp h
      exact Or.inl ⟨_, _, _, _, _, _, lv2, h, id, hs, hf, fun k2 cal2 Q2 g => (key _ _ _ _).mpr ⟨h1, h2, h3, g⟩⟩
  | newarray t =>
    obtain ⟨n, r, rfl, h1, h2, h3, h4, h5, h⟩ := e_i1_inv h
    exact Or.inl ⟨_, _, _, _, _, _, lv2, h, id, hs, hf, fun k2 cal2 Q2 g => ⟨h1, h2, h3, h4, h5, g⟩⟩
  | anewarray x =>
    obtain ⟨n, r, rfl, h1, h2, h3, h4, h5, h⟩ := e_i1_inv h
    exact Or.inl ⟨_, _, _, _, _, _, lv2, h, id, hs, hf, fun k2 cal2 Q2 g => ⟨h1, h2, h3, h4, h5, g⟩⟩
  | invokevirtual x =>
    obtain ⟨h1, h2, h⟩ := h
    obtain ⟨t, r, hst, h3, h8, mc, ms, h4, h5, h⟩ := e_r1_inv h
    refine Or.inr (Or.inl ⟨_, mc, ms, _, _, r, h, fun k2 cal2 Q2 g => ⟨h1, h2, ?_⟩⟩)
    show e_r1 (st.drop z.toNat) _
    rw [show st.drop z.toNat = .ref t :: r from hst]
    exact ⟨h3, h8, mc, ms, h4, h5, g⟩
  | invokestatic x =>
    by_cases h9 : a = 901
    · subst h9
      have h : e_cp st fun a sp b dp n r => e_cg M a sp b dp n ∧ (r.map fun v => v.category).sum ≤ 8 ∧ k kc ks (pc + 3) lv r (e_cpy M a sp b dp n) := h
      obtain ⟨a0, sp, b0, dp, n, r, rfl, h1, h2, h⟩ := e_cp_inv h
      exact Or.inl ⟨_, _, _, _, _, _, lv2, h, id, hs, hf, fun k2 cal2 Q2 g => ⟨h1, h2, g⟩⟩
    · have key : ∀ (k : eK) (cal : eC) (Q : eQ) (lv : eL), e_ins L k cal Q ret kc ks pc (.invokestatic x, len, a, b, z) lv st M ↔ (a < 900 ∧ z.toNat ≤ st.length ∧ e_cal k cal a kc ks (pc + 3) (st.take z.toNat).reverse lv (st.drop z.toNat) M) := by
        intro k cal Q lv
        unfold e_ins
        simp only [if_neg h9]
      obtain ⟨h1, h2, h8, mc, ms, h4, h5, h⟩ := (key _ _ _ _).mp h
      exact Or.inr (Or.inl ⟨_, mc, ms, _, _, _, h, fun k2 cal2 Q2 g => (key _ _ _ _).mpr ⟨h1, h2, h8, mc, ms, h4, h5, g⟩⟩)
  | invokespecial x =>
    by_cases h9 : a = 900
    · subst h9
      have h : e_r1 st fun o r => e_c0 ≤ o ∧ (r.map fun v => v.category).sum ≤ 8 ∧ k kc ks (pc + 3) lv r M := h
      obtain ⟨t, r, rfl, h1, h2, h⟩ := e_r1_inv h
      exact Or.inl ⟨_, _, _, _, _, _, lv2, h, id, hs, hf, fun k2 cal2 Q2 g => ⟨h1, h2, g⟩⟩
    · have key : ∀ (k : eK) (cal : eC) (Q : eQ) (lv : eL), e_ins L k cal Q ret kc ks pc (.invokespecial x, len, a, b, z) lv st M ↔ (a < 900 ∧ z.toNat ≤ st.length ∧ e_r1 (st.drop z.toNat) fun o r => e_c0 ≤ o ∧ e_cal k cal a kc ks (pc + 3) (.ref o :: (st.take z.toNat).reverse) lv r M) := by
        intro k cal Q lv
        unfold e_ins
        simp only [if_neg h9]
      obtain ⟨h1, h2, h⟩ := (key _ _ _ _).mp h
      obtain ⟨t, r, hst, h3, h8, mc, ms, h4, h5, h⟩ := e_r1_inv h
      refine Or.inr (Or.inl ⟨_, mc, ms, _, _, r, h, fun k2 cal2 Q2 g => (key _ _ _ _).mpr ⟨h1, h2, ?_⟩⟩)
      rw [hst]
      exact ⟨h3, h8, mc, ms, h4, h5, g⟩
  | return_ =>
    obtain ⟨h1, h2, h⟩ := h
    exact Or.inr (Or.inr ⟨_, h, fun k2 cal2 Q2 g => ⟨h1, h2, g⟩⟩)
  | ireturn =>
    obtain ⟨x, r, rfl, h1, h2, h⟩ := e_i1_inv h
    exact Or.inr (Or.inr ⟨_, h, fun k2 cal2 Q2 g => ⟨h1, h2, g⟩⟩)
  | lreturn =>
    obtain ⟨x, r, rfl, h1, h2, h⟩ := e_l1_inv h
    exact Or.inr (Or.inr ⟨_, h, fun k2 cal2 Q2 g => ⟨h1, h2, g⟩⟩)
  | areturn =>
    obtain ⟨x, r, rfl, h1, h2, h⟩ := e_r1_inv h
    exact Or.inr (Or.inr ⟨_, h, fun k2 cal2 Q2 g => ⟨h1, h2, g⟩⟩)
  | _ => exact False.elim h
end
section
/-! ===== steps enough: a run without their number ===== -/
theorem e_args_ge : ∀ (av : List Value) (i j : Nat) (v : Value), (j, v) ∈ lv_args i av → i ≤ j
  | [], _, _, _, h => by cases h
  | u :: av, i, j, v, h => by
    rw [lv_args] at h
    rcases List.mem_cons.mp h with e | h
    · cases e; exact Nat.le_refl _
    · have := e_args_ge av _ j v h
      split at this <;> omega
theorem e_args_fun : ∀ (av : List Value) (i : Nat), e_fun (lv_args i av)
  | [], _ => fun _ _ _ h => by cases h
  | u :: av, i => by
    intro j v x h1 h2
    rw [lv_args] at h1 h2
    rcases List.mem_cons.mp h1 with e1 | h1
    · rcases List.mem_cons.mp h2 with e2 | h2
      · cases e1; cases e2; rfl
      · cases e1
        have := e_args_ge av _ i x h2
        split at this <;> omega
    · rcases List.mem_cons.mp h2 with e2 | h2
      · cases e2
        have := e_args_ge av _ i v h1
        split at this <;> omega
      · exact e_args_fun av _ j v x h1 h2
theorem e_wk : ∀ (n i d kc ks pc : Nat) (lv : eL) (st : List Value) (M : eM) (Q : eQ), e_wp n i d kc ks pc lv st M Q → ∀ (n2 : Nat), n ≤ n2 → ∀ (lv2 : eL), e_sub lv lv2 → e_fun lv2 → ∀ (Q2 : eQ), (∀ v M, Q v M → Q2 v M) → e_wp n2 i d kc ks pc lv2 st M Q2 := by
  intro n
  induction n with
  | zero => intro i d kc ks pc lv st M Q h; exact False.elim h
  | succ n ih =>
    intro i d kc ks pc lv st M Q h n2 hn lv2 hs hf Q2 hQ
    obtain ⟨n3, rfl⟩ : ∃ n3, n2 = n3 + 1 := ⟨n2 - 1, by omega⟩
    have hn3 : n ≤ n3 := by omega
    unfold e_wp at h ⊢
    cases hq : e_dec i pc with
    | none => rw [hq] at h; exact False.elim h
    | some q =>
      rw [hq] at h
      rcases e_pick h hs hf with ⟨kc', ks', pc', lv', st', M', lv2', hk, -, hs', hf', mk⟩ | ⟨j, mc, ms, av, M', rest, hk, mk⟩ | ⟨v, hv, mk⟩
      · exact mk _ _ _ (ih _ _ _ _ _ _ _ _ _ hk n3 hn3 lv2' hs' hf' Q2 hQ)
      · obtain ⟨d', hd, hj, hnf, hlen, hw⟩ := hk
        exact mk _ _ _ ⟨d', hd, hj, hnf, hlen, ih _ _ _ _ _ _ _ _ _ hw n3 hn3 _ (fun _ z => z) (e_args_fun av 0) _ (fun v M'' g => ih _ _ _ _ _ _ _ _ _ g n3 hn3 lv2 hs hf Q2 hQ)⟩
      · exact mk _ _ _ (hQ _ _ hv)
theorem e_ex : ∀ (n i d kc ks pc : Nat) (lv : eL) (st : List Value) (M : eM) (P : Nat → eQ), (∀ N N' v M, N ≤ N' → P N v M → P N' v M) → e_fun lv → e_wp n i d kc ks pc lv st M (fun v M' => ∃ N, P N v M') → ∃ N, e_wp n i d kc ks pc lv st M (P N) := by
  intro n
  induction n with
  | zero => intro i d kc ks pc lv st M P _ _ h; exact False.elim h
  | succ n ih =>
    intro i d kc ks pc lv st M P hP hf h
    unfold e_wp at h ⊢
    cases hq : e_dec i pc with
    | none => rw [hq] at h; exact False.elim h
    | some q =>
      rw [hq] at h
      rcases e_pick h (fun _ z => z) hf with ⟨kc', ks', pc', lv', st', M', lv2', hk, hff, hs', hf', mk⟩ | ⟨j, mc, ms, av, M', rest, hk, mk⟩ | ⟨v, ⟨N, hv⟩, mk⟩
      · have h1 := e_wk _ _ _ _ _ _ _ _ _ _ hk n (Nat.le_refl _) lv2' hs' hf' _ (fun _ _ z => z)
        obtain ⟨N, hN⟩ := ih _ _ _ _ _ _ _ _ P hP hf' h1
        exact ⟨N, mk _ _ _ hN⟩
      · obtain ⟨d', hd, hj, hnf, hlen, hw⟩ := hk
        have h1 := e_wk _ _ _ _ _ _ _ _ _ _ hw n (Nat.le_refl _) _ (fun _ z => z) (e_args_fun av 0) (fun v M'' => ∃ N, e_wp n i d (kc - mc) (ks - ms) (pc + 3) lv (v.toList ++ rest) M'' (P N)) (fun v M'' g => ih _ _ _ _ _ _ _ _ P hP hf g)
        obtain ⟨N, hN⟩ := ih _ _ _ _ _ _ _ _ (fun N v M'' => e_wp n i d (kc - mc) (ks - ms) (pc + 3) lv (v.toList ++ rest) M'' (P N)) (fun N N' v M'' hNN g => e_wk _ _ _ _ _ _ _ _ _ _ g n (Nat.le_refl _) lv (fun _ z => z) hf _ (fun v M z => hP N N' v M hNN z)) (e_args_fun av 0) h1
        exact ⟨N, mk _ _ _ ⟨d', hd, hj, hnf, hlen, hN⟩⟩
      · exact ⟨N, mk _ _ _ hv⟩
/-- from this place on the method returns, and Q holds then -/
def e_E (i d kc ks pc : Nat) (lv : eL) (st : List Value) (M : eM) (Q : eQ) : Prop := e_fun lv → ∃ n, e_wp n i d kc ks pc lv st M Q
/-- a whole call -/
def e_C (j d mc ms : Nat) (av : List Value) (M : eM) (K : eQ) : Prop := e_E j d mc ms 0 (lv_args 0 av) [] M K
/-- an instruction of a run -/
theorem e_st {i d kc ks pc : Nat} {lv : eL} {st : List Value} {M : eM} {Q : eQ} {q : eI} (hq : e_dec i pc = some q)
    (h : e_ins (e_m i).2.2.1 (fun kc' ks' pc' lv' st' M' => e_E i d kc' ks' pc' lv' st' M' Q) (fun j mc ms av M' K => ∃ d', d = d' + 1 ∧ j < 236 ∧ e_nf j = true ∧ (lg_sl av).length ≤ (e_m j).2.2.1 ∧ e_C j d' mc ms av M' K) Q (e_m i).2.2.2.1 kc ks pc q lv st M) : e_E i d kc ks pc lv st M Q := by
  intro hf
  rcases e_pick h (fun _ z => z) hf with ⟨kc', ks', pc', lv', st', M', lv2', hk, hff, hs', hf', mk⟩ | ⟨j, mc, ms, av, M', rest, hk, mk⟩ | ⟨v, hv, mk⟩
  · obtain ⟨n, hn⟩ := hk (hff hf)
    refine ⟨n + 1, ?_⟩
    unfold e_wp
    rw [hq]
    exact mk _ _ _ (e_wk _ _ _ _ _ _ _ _ _ _ hn n (Nat.le_refl _) lv2' hs' hf' _ (fun _ _ z => z))
  · obtain ⟨d', hd, hj, hnf, hlen, hw⟩ := hk
    obtain ⟨n1, hw⟩ := hw (e_args_fun av 0)
    have h1 := e_wk _ _ _ _ _ _ _ _ _ _ hw n1 (Nat.le_refl _) _ (fun _ z => z) (e_args_fun av 0) (fun v M'' => ∃ N, e_wp N i d (kc - mc) (ks - ms) (pc + 3) lv (v.toList ++ rest) M'' Q) (fun v M'' g => g hf)
    obtain ⟨N, hN⟩ := e_ex _ _ _ _ _ _ _ _ _ (fun N v M'' => e_wp N i d (kc - mc) (ks - ms) (pc + 3) lv (v.toList ++ rest) M'' Q) (fun N N' v M'' hNN g => e_wk _ _ _ _ _ _ _ _ _ _ g N' hNN lv (fun _ z => z) hf _ (fun _ _ z => z)) (e_args_fun av 0) h1
    refine ⟨max n1 N + 1, ?_⟩
    unfold e_wp
    rw [hq]
    exact mk _ _ _ ⟨d', hd, hj, hnf, hlen, e_wk _ _ _ _ _ _ _ _ _ _ hN _ (Nat.le_max_left _ _) _ (fun _ z => z) (e_args_fun av 0) _ (fun v M'' g => e_wk _ _ _ _ _ _ _ _ _ _ g _ (Nat.le_max_right _ _) lv (fun _ z => z) hf _ (fun _ _ z => z))⟩
  · refine ⟨1, ?_⟩
    unfold e_wp
    rw [hq]
    exact mk _ _ _ hv
/-- fewer locals are enough -/
theorem e_E.less {i d kc ks pc : Nat} {lv lv2 : eL} {st : List Value} {M : eM} {Q : eQ} (h : e_E i d kc ks pc lv st M Q) (hs : e_sub lv lv2) : e_E i d kc ks pc lv2 st M Q := by
  intro hf
  obtain ⟨n, hn⟩ := h (fun j v u h1 h2 => hf j v u (hs _ h1) (hs _ h2))
  exact ⟨n, e_wk _ _ _ _ _ _ _ _ _ _ hn n (Nat.le_refl _) lv2 hs hf _ (fun _ _ z => z)⟩
theorem e_E.post {i d kc ks pc : Nat} {lv : eL} {st : List Value} {M : eM} {Q Q2 : eQ} (h : e_E i d kc ks pc lv st M Q) (hQ : ∀ v M, Q v M → Q2 v M) : e_E i d kc ks pc lv st M Q2 := by
  intro hf
  obtain ⟨n, hn⟩ := h hf
  exact ⟨n, e_wk _ _ _ _ _ _ _ _ _ _ hn n (Nat.le_refl _) lv (fun _ z => z) hf _ hQ⟩
/-- the contract on the real machine -/
theorem e_C.met (hOk : ∀ i, i < 236 → e_Ok i) (hOkM : ∀ j, j < 236 → e_OkM j) (l : Launch) (w : eW) {j d mc ms : Nat} {av : List Value} {M : eM} {K : eQ} (hj : j < 236) (hnf : e_nf j = true) (hlen : (lg_sl av).length ≤ (e_m j).2.2.1) (h : e_C j d mc ms av M K) : Met l (e_m j).1 (e_ws j) (e_rm d mc ms) (e_Pc w av M) (e_Qc w K) mc ms (e_A w) := by
  obtain ⟨n, hn⟩ := h (e_args_fun av 0)
  exact e_met hOk hOkM l w hj hnf hlen hn
end
section
/-! ===== a row an instruction, on numbered cells ===== -/
abbrev gi (M : eM) (a j : Nat) : Int32 := M.2.2.1 a j
abbrev gl (M : eM) (a j : Nat) : Int64 := M.2.2.2.1 a j
abbrev gr (M : eM) (a j : Nat) : Nat := M.2.2.2.2 a j
abbrev gt (M : eM) (a : Nat) : Nat := (M.2.1 a).1
abbrev gn (M : eM) (a : Nat) : Nat := (M.2.1 a).2
def e_CI (j d mc ms : Nat) (av : List Value) (M : eM) (Q : Int32 → eM → Prop) : Prop := e_C j d mc ms av M (fun v M' => ∃ x, v = some (.int x) ∧ Q x M')
def e_CL (j d mc ms : Nat) (av : List Value) (M : eM) (Q : Int64 → eM → Prop) : Prop := e_C j d mc ms av M (fun v M' => ∃ x, v = some (.long x) ∧ Q x M')
def e_CR (j d mc ms : Nat) (av : List Value) (M : eM) (Q : Nat → eM → Prop) : Prop := e_C j d mc ms av M (fun v M' => ∃ x, v = some (.ref x) ∧ Q x M')
def e_CV (j d mc ms : Nat) (av : List Value) (M : eM) (Q : eM → Prop) : Prop := e_C j d mc ms av M (fun v M' => v = none ∧ Q M')
def e_QI (Q : Int32 → eM → Prop) : eQ := fun v M' => ∃ x, v = some (.int x) ∧ Q x M'
def e_QL (Q : Int64 → eM → Prop) : eQ := fun v M' => ∃ x, v = some (.long x) ∧ Q x M'
def e_QR (Q : Nat → eM → Prop) : eQ := fun v M' => ∃ x, v = some (.ref x) ∧ Q x M'
def e_QV (Q : eM → Prop) : eQ := fun v M' => v = none ∧ Q M'
theorem e_sn {lv : eL} : e_sub [] lv := fun _ h => by cases h
theorem e_sc {lv lv2 : eL} {q : Nat × Value} (h : q ∈ lv2) (hs : e_sub lv lv2) : e_sub (q :: lv) lv2 := fun x hx => (List.mem_cons.mp hx).elim (fun e => e ▸ h) (hs x)
section ROW
variable {i d kc ks pc pc' : Nat} {lv lv' : eL} {r : List Value} {M : eM} {Q : eQ}
theorem r_iconst {n : Int} {y : Int32} (hq : e_dec i pc = some (.iconst n, 1, 0, 0, 0)) (hv : Int32.ofInt n = y) (hp : pc + 1 = pc') (h : e_E i d kc ks pc' lv (.int y :: r) M Q) : e_E i d kc ks pc lv r M Q := by subst hp; subst hv; exact e_st hq h
theorem r_bipush {n : Int} {y : Int32} (hq : e_dec i pc = some (.bipush n, 2, 0, 0, 0)) (hv : (Int8.ofInt n).toInt32 = y) (hp : pc + 2 = pc') (h : e_E i d kc ks pc' lv (.int y :: r) M Q) : e_E i d kc ks pc lv r M Q := by subst hp; subst hv; exact e_st hq h
theorem r_sipush {n : Int} {y : Int32} (hq : e_dec i pc = some (.sipush n, 3, 0, 0, 0)) (hv : (Int16.ofInt n).toInt32 = y) (hp : pc + 3 = pc') (h : e_E i d kc ks pc' lv (.int y :: r) M Q) : e_E i d kc ks pc lv r M Q := by subst hp; subst hv; exact e_st hq h
theorem r_lconst {n : Fin 2} {y : Int64} (hq : e_dec i pc = some (.lconst n, 1, 0, 0, 0)) (hv : Int64.ofNat (n : Nat) = y) (hp : pc + 1 = pc') (h : e_E i d kc ks pc' lv (.long y :: r) M Q) : e_E i d kc ks pc lv r M Q := by subst hp; subst hv; exact e_st hq h
theorem r_ldc {x : Nat} {z : Int} {y : Int32} (hq : e_dec i pc = some (.ldc x, 2, 0, 0, z)) (hv : Int32.ofInt z = y) (hp : pc + 2 = pc') (h : e_E i d kc ks pc' lv (.int y :: r) M Q) : e_E i d kc ks pc lv r M Q := by subst hp; subst hv; exact e_st hq ⟨rfl, h⟩
theorem r_ldc_w {x : Nat} {z : Int} {y : Int32} (hq : e_dec i pc = some (.ldc_w x, 3, 0, 0, z)) (hv : Int32.ofInt z = y) (hp : pc + 3 = pc') (h : e_E i d kc ks pc' lv (.int y :: r) M Q) : e_E i d kc ks pc lv r M Q := by subst hp; subst hv; exact e_st hq ⟨rfl, h⟩
theorem r_ldc2_w {x : Nat} {z : Int} {y : Int64} (hq : e_dec i pc = some (.ldc2_w x, 3, 0, 0, z)) (hv : Int64.ofInt z = y) (hp : pc + 3 = pc') (h : e_E i d kc ks pc' lv (.long y :: r) M Q) : e_E i d kc ks pc lv r M Q := by subst hp; subst hv; exact e_st hq h
theorem r_aconst_null (hq : e_dec i pc = some (.aconst_null, 1, 0, 0, 0)) (hp : pc + 1 = pc') (h : e_E i d kc ks pc' lv (.ref 0 :: r) M Q) : e_E i d kc ks pc lv r M Q := by subst hp; exact e_st hq h
theorem r_iload_n {j : Fin 4} {x : Int32} (hq : e_dec i pc = some (.iload_n j, 1, 0, 0, 0)) (hl : lv.lookup (j : Nat) = some (.int x)) (hp : pc + 1 = pc') (h : e_E i d kc ks pc' lv (.int x :: r) M Q) : e_E i d kc ks pc lv r M Q := by
  subst hp
  refine e_st hq ?_
  show e_lk _ _ _
  unfold e_lk
  rw [hl]
  exact ⟨rfl, h⟩
theorem r_iload {j : Nat} {x : Int32} (hq : e_dec i pc = some (.iload j, 2, 0, 0, 0)) (hl : lv.lookup (j : Nat) = some (.int x)) (hp : pc + 2 = pc') (h : e_E i d kc ks pc' lv (.int x :: r) M Q) : e_E i d kc ks pc lv r M Q := by
  subst hp
  refine e_st hq ?_
  show e_lk _ _ _
  unfold e_lk
  rw [hl]
  exact ⟨rfl, h⟩
theorem r_lload_n {j : Fin 4} {x : Int64} (hq : e_dec i pc = some (.lload_n j, 1, 0, 0, 0)) (hl : lv.lookup (j : Nat) = some (.long x)) (hp : pc + 1 = pc') (h : e_E i d kc ks pc' lv (.long x :: r) M Q) : e_E i d kc ks pc lv r M Q := by
  subst hp
  refine e_st hq ?_
  show e_lk _ _ _
  unfold e_lk
  rw [hl]
  exact ⟨rfl, h⟩
theorem r_lload {j : Nat} {x : Int64} (hq : e_dec i pc = some (.lload j, 2, 0, 0, 0)) (hl : lv.lookup (j : Nat) = some (.long x)) (hp : pc + 2 = pc') (h : e_E i d kc ks pc' lv (.long x :: r) M Q) : e_E i d kc ks pc lv r M Q := by
  subst hp
  refine e_st hq ?_
  show e_lk _ _ _
  unfold e_lk
  rw [hl]
  exact ⟨rfl, h⟩
theorem r_aload_n {j : Fin 4} {x : Nat} (hq : e_dec i pc = some (.aload_n j, 1, 0, 0, 0)) (hl : lv.lookup (j : Nat) = some (.ref x)) (hp : pc + 1 = pc') (h : e_E i d kc ks pc' lv (.ref x :: r) M Q) : e_E i d kc ks pc lv r M Q := by
  subst hp
  refine e_st hq ?_
  show e_lk _ _ _
  unfold e_lk
  rw [hl]
  exact ⟨rfl, h⟩
theorem r_aload {j : Nat} {x : Nat} (hq : e_dec i pc = some (.aload j, 2, 0, 0, 0)) (hl : lv.lookup (j : Nat) = some (.ref x)) (hp : pc + 2 = pc') (h : e_E i d kc ks pc' lv (.ref x :: r) M Q) : e_E i d kc ks pc lv r M Q := by
  subst hp
  refine e_st hq ?_
  show e_lk _ _ _
  unfold e_lk
  rw [hl]
  exact ⟨rfl, h⟩
theorem r_istore_n {j : Fin 4} {x : Int32} {nL : Nat} (hq : e_dec i pc = some (.istore_n j, 1, 0, 0, 0)) (hL : (e_m i).2.2.1 = nL) (hj : (j : Nat) < nL) (hl : e_s1 lv j (.int x) = lv') (hp : pc + 1 = pc') (h : e_E i d kc ks pc' lv' r M Q) : e_E i d kc ks pc lv (.int x :: r) M Q := by subst hp; subst hl; subst hL; exact e_st hq ⟨hj, h⟩
theorem r_istore {j : Nat} {x : Int32} {nL : Nat} (hq : e_dec i pc = some (.istore j, 2, 0, 0, 0)) (hL : (e_m i).2.2.1 = nL) (hj : (j : Nat) < nL) (hl : e_s1 lv j (.int x) = lv') (hp : pc + 2 = pc') (h : e_E i d kc ks pc' lv' r M Q) : e_E i d kc ks pc lv (.int x :: r) M Q := by subst hp; subst hl; subst hL; exact e_st hq ⟨hj, h⟩
theorem r_lstore_n {j : Fin 4} {x : Int64} {nL : Nat} (hq : e_dec i pc = some (.lstore_n j, 1, 0, 0, 0)) (hL : (e_m i).2.2.1 = nL) (hj : (j : Nat) + 1 < nL) (hl : e_s2 lv j (.long x) = lv') (hp : pc + 1 = pc') (h : e_E i d kc ks pc' lv' r M Q) : e_E i d kc ks pc lv (.long x :: r) M Q := by subst hp; subst hl; subst hL; exact e_st hq ⟨hj, h⟩
theorem r_lstore {j : Nat} {x : Int64} {nL : Nat} (hq : e_dec i pc = some (.lstore j, 2, 0, 0, 0)) (hL : (e_m i).2.2.1 = nL) (hj : (j : Nat) + 1 < nL) (hl : e_s2 lv j (.long x) = lv') (hp : pc + 2 = pc') (h : e_E i d kc ks pc' lv' r M Q) : e_E i d kc ks pc lv (.long x :: r) M Q := by subst hp; subst hl; subst hL; exact e_st hq ⟨hj, h⟩
theorem r_astore_n {j : Fin 4} {x : Nat} {nL : Nat} (hq : e_dec i pc = some (.astore_n j, 1, 0, 0, 0)) (hL : (e_m i).2.2.1 = nL) (hj : (j : Nat) < nL) (hl : e_s1 lv j (.ref x) = lv') (hp : pc + 1 = pc') (h : e_E i d kc ks pc' lv' r M Q) : e_E i d kc ks pc lv (.ref x :: r) M Q := by subst hp; subst hl; subst hL; exact e_st hq ⟨hj, h⟩
theorem r_astore {j : Nat} {x : Nat} {nL : Nat} (hq : e_dec i pc = some (.astore j, 2, 0, 0, 0)) (hL : (e_m i).2.2.1 = nL) (hj : (j : Nat) < nL) (hl : e_s1 lv j (.ref x) = lv') (hp : pc + 2 = pc') (h : e_E i d kc ks pc' lv' r M Q) : e_E i d kc ks pc lv (.ref x :: r) M Q := by subst hp; subst hl; subst hL; exact e_st hq ⟨hj, h⟩
theorem r_iinc {j nL : Nat} {n : Int} {x y : Int32} (hq : e_dec i pc = some (.iinc j n, 3, 0, 0, 0)) (hl : lv.lookup j = some (.int x)) (hv : Int32.ofInt n = y) (hL : (e_m i).2.2.1 = nL) (hj : j < nL) (hw : e_s1 lv j (.int (x + y)) = lv') (hp : pc + 3 = pc') (h : e_E i d kc ks pc' lv' r M Q) : e_E i d kc ks pc lv r M Q := by
  subst hp; subst hw; subst hv; subst hL
  refine e_st hq ?_
  show e_lk _ _ _
  unfold e_lk
  rw [hl]
  exact ⟨hj, h⟩
theorem r_iadd {x y : Int32} (hq : e_dec i pc = some (.iadd, 1, 0, 0, 0)) (hp : pc + 1 = pc') (h : e_E i d kc ks pc' lv (.int (x + y) :: r) M Q) : e_E i d kc ks pc lv (.int y :: .int x :: r) M Q := by subst hp; exact e_st hq h
theorem r_isub {x y : Int32} (hq : e_dec i pc = some (.isub, 1, 0, 0, 0)) (hp : pc + 1 = pc') (h : e_E i d kc ks pc' lv (.int (x - y) :: r) M Q) : e_E i d kc ks pc lv (.int y :: .int x :: r) M Q := by subst hp; exact e_st hq h
theorem r_imul {x y : Int32} (hq : e_dec i pc = some (.imul, 1, 0, 0, 0)) (hp : pc + 1 = pc') (h : e_E i d kc ks pc' lv (.int (x * y) :: r) M Q) : e_E i d kc ks pc lv (.int y :: .int x :: r) M Q := by subst hp; exact e_st hq h
theorem r_iand {x y : Int32} (hq : e_dec i pc = some (.iand, 1, 0, 0, 0)) (hp : pc + 1 = pc') (h : e_E i d kc ks pc' lv (.int (x &&& y) :: r) M Q) : e_E i d kc ks pc lv (.int y :: .int x :: r) M Q := by subst hp; exact e_st hq h
theorem r_ior {x y : Int32} (hq : e_dec i pc = some (.ior, 1, 0, 0, 0)) (hp : pc + 1 = pc') (h : e_E i d kc ks pc' lv (.int (x ||| y) :: r) M Q) : e_E i d kc ks pc lv (.int y :: .int x :: r) M Q := by subst hp; exact e_st hq h
theorem r_ixor {x y : Int32} (hq : e_dec i pc = some (.ixor, 1, 0, 0, 0)) (hp : pc + 1 = pc') (h : e_E i d kc ks pc' lv (.int (x ^^^ y) :: r) M Q) : e_E i d kc ks pc lv (.int y :: .int x :: r) M Q := by subst hp; exact e_st hq h
theorem r_ishl {x y : Int32} (hq : e_dec i pc = some (.ishl, 1, 0, 0, 0)) (hp : pc + 1 = pc') (h : e_E i d kc ks pc' lv (.int (x <<< (y &&& 31)) :: r) M Q) : e_E i d kc ks pc lv (.int y :: .int x :: r) M Q := by subst hp; exact e_st hq h
theorem r_ishr {x y : Int32} (hq : e_dec i pc = some (.ishr, 1, 0, 0, 0)) (hp : pc + 1 = pc') (h : e_E i d kc ks pc' lv (.int (x >>> (y &&& 31)) :: r) M Q) : e_E i d kc ks pc lv (.int y :: .int x :: r) M Q := by subst hp; exact e_st hq h
theorem r_iushr {x y : Int32} (hq : e_dec i pc = some (.iushr, 1, 0, 0, 0)) (hp : pc + 1 = pc') (h : e_E i d kc ks pc' lv (.int ((x.toUInt32 >>> (y.toUInt32 &&& Int32.toUInt32 31)).toInt32) :: r) M Q) : e_E i d kc ks pc lv (.int y :: .int x :: r) M Q := by subst hp; exact e_st hq h
theorem r_idiv {x y : Int32} (hq : e_dec i pc = some (.idiv, 1, 0, 0, 0)) (h0 : ¬ y = 0) (hp : pc + 1 = pc') (h : e_E i d kc ks pc' lv (.int (x / y) :: r) M Q) : e_E i d kc ks pc lv (.int y :: .int x :: r) M Q := by subst hp; exact e_st hq ⟨h0, h⟩
theorem r_irem {x y : Int32} (hq : e_dec i pc = some (.irem, 1, 0, 0, 0)) (h0 : ¬ y = 0) (hp : pc + 1 = pc') (h : e_E i d kc ks pc' lv (.int (x - x / y * y) :: r) M Q) : e_E i d kc ks pc lv (.int y :: .int x :: r) M Q := by subst hp; exact e_st hq ⟨h0, h⟩
theorem r_ineg {x : Int32} (hq : e_dec i pc = some (.ineg, 1, 0, 0, 0)) (hp : pc + 1 = pc') (h : e_E i d kc ks pc' lv (.int (-x) :: r) M Q) : e_E i d kc ks pc lv (.int x :: r) M Q := by subst hp; exact e_st hq h
theorem r_ladd {x y : Int64} (hq : e_dec i pc = some (.ladd, 1, 0, 0, 0)) (hp : pc + 1 = pc') (h : e_E i d kc ks pc' lv (.long (x + y) :: r) M Q) : e_E i d kc ks pc lv (.long y :: .long x :: r) M Q := by subst hp; exact e_st hq h
theorem r_land {x y : Int64} (hq : e_dec i pc = some (.land, 1, 0, 0, 0)) (hp : pc + 1 = pc') (h : e_E i d kc ks pc' lv (.long (x &&& y) :: r) M Q) : e_E i d kc ks pc lv (.long y :: .long x :: r) M Q := by subst hp; exact e_st hq h
theorem r_lor {x y : Int64} (hq : e_dec i pc = some (.lor, 1, 0, 0, 0)) (hp : pc + 1 = pc') (h : e_E i d kc ks pc' lv (.long (x ||| y) :: r) M Q) : e_E i d kc ks pc lv (.long y :: .long x :: r) M Q := by subst hp; exact e_st hq h
theorem r_lxor {x y : Int64} (hq : e_dec i pc = some (.lxor, 1, 0, 0, 0)) (hp : pc + 1 = pc') (h : e_E i d kc ks pc' lv (.long (x ^^^ y) :: r) M Q) : e_E i d kc ks pc lv (.long y :: .long x :: r) M Q := by subst hp; exact e_st hq h
theorem r_lcmp {x y : Int64} (hq : e_dec i pc = some (.lcmp, 1, 0, 0, 0)) (hp : pc + 1 = pc') (h : e_E i d kc ks pc' lv (.int (lg_cmp x y) :: r) M Q) : e_E i d kc ks pc lv (.long y :: .long x :: r) M Q := by subst hp; exact e_st hq h
theorem r_lshl {x : Int64} {y : Int32} (hq : e_dec i pc = some (.lshl, 1, 0, 0, 0)) (hp : pc + 1 = pc') (h : e_E i d kc ks pc' lv (.long (x <<< (y.toInt64 &&& 63)) :: r) M Q) : e_E i d kc ks pc lv (.int y :: .long x :: r) M Q := by subst hp; exact e_st hq h
theorem r_lshr {x : Int64} {y : Int32} (hq : e_dec i pc = some (.lshr, 1, 0, 0, 0)) (hp : pc + 1 = pc') (h : e_E i d kc ks pc' lv (.long (x >>> (y.toInt64 &&& 63)) :: r) M Q) : e_E i d kc ks pc lv (.int y :: .long x :: r) M Q := by subst hp; exact e_st hq h
theorem r_lushr {x : Int64} {y : Int32} (hq : e_dec i pc = some (.lushr, 1, 0, 0, 0)) (hp : pc + 1 = pc') (h : e_E i d kc ks pc' lv (.long ((x.toUInt64 >>> (y.toInt64.toUInt64 &&& Int64.toUInt64 63)).toInt64) :: r) M Q) : e_E i d kc ks pc lv (.int y :: .long x :: r) M Q := by subst hp; exact e_st hq h
theorem r_i2l {x : Int32} (hq : e_dec i pc = some (.i2l, 1, 0, 0, 0)) (hp : pc + 1 = pc') (h : e_E i d kc ks pc' lv (.long x.toInt64 :: r) M Q) : e_E i d kc ks pc lv (.int x :: r) M Q := by subst hp; exact e_st hq h
theorem r_l2i {x : Int64} (hq : e_dec i pc = some (.l2i, 1, 0, 0, 0)) (hp : pc + 1 = pc') (h : e_E i d kc ks pc' lv (.int x.toInt32 :: r) M Q) : e_E i d kc ks pc lv (.long x :: r) M Q := by subst hp; exact e_st hq h
theorem r_i2b {x : Int32} (hq : e_dec i pc = some (.i2b, 1, 0, 0, 0)) (hp : pc + 1 = pc') (h : e_E i d kc ks pc' lv (.int x.toInt8.toInt32 :: r) M Q) : e_E i d kc ks pc lv (.int x :: r) M Q := by subst hp; exact e_st hq h
theorem r_i2s {x : Int32} (hq : e_dec i pc = some (.i2s, 1, 0, 0, 0)) (hp : pc + 1 = pc') (h : e_E i d kc ks pc' lv (.int x.toInt16.toInt32 :: r) M Q) : e_E i d kc ks pc lv (.int x :: r) M Q := by subst hp; exact e_st hq h
theorem r_dup {v : Value} (hq : e_dec i pc = some (.dup, 1, 0, 0, 0)) (hc : v.category = 1) (hp : pc + 1 = pc') (h : e_E i d kc ks pc' lv (v :: v :: r) M Q) : e_E i d kc ks pc lv (v :: r) M Q := by subst hp; exact e_st hq ⟨hc, h⟩
theorem r_dup2 {v u : Value} (hq : e_dec i pc = some (.dup2, 1, 0, 0, 0)) (hc : v.category = 1) (hu : u.category = 1) (hp : pc + 1 = pc') (h : e_E i d kc ks pc' lv (v :: u :: v :: u :: r) M Q) : e_E i d kc ks pc lv (v :: u :: r) M Q := by subst hp; exact e_st hq ⟨hc, hu, h⟩
theorem r_pop {v : Value} (hq : e_dec i pc = some (.pop, 1, 0, 0, 0)) (hc : v.category = 1) (hp : pc + 1 = pc') (h : e_E i d kc ks pc' lv r M Q) : e_E i d kc ks pc lv (v :: r) M Q := by subst hp; exact e_st hq ⟨hc, h⟩
theorem r_goto {o : Int} (hq : e_dec i pc = some (.goto o, 3, pc', 0, 0)) (h : e_E i d kc ks pc' lv r M Q) : e_E i d kc ks pc lv r M Q := e_st hq h
theorem r_if_eq {o : Int} {t : Nat} {x : Int32} (hq : e_dec i pc = some (.ifCond .eq o, 3, t, 0, 0)) (hp : pc + 3 = pc') (h1 : x = 0 → e_E i d kc ks t lv r M Q) (h2 : ¬ x = 0 → e_E i d kc ks pc' lv r M Q) : e_E i d kc ks pc lv (.int x :: r) M Q := by subst hp; exact e_st hq ⟨h1, h2⟩
theorem r_if_ne {o : Int} {t : Nat} {x : Int32} (hq : e_dec i pc = some (.ifCond .ne o, 3, t, 0, 0)) (hp : pc + 3 = pc') (h1 : ¬ x = 0 → e_E i d kc ks t lv r M Q) (h2 : x = 0 → e_E i d kc ks pc' lv r M Q) : e_E i d kc ks pc lv (.int x :: r) M Q := by subst hp; exact e_st hq ⟨h1, h2⟩
theorem r_if_lt {o : Int} {t : Nat} {x : Int32} (hq : e_dec i pc = some (.ifCond .lt o, 3, t, 0, 0)) (hp : pc + 3 = pc') (h1 : x < 0 → e_E i d kc ks t lv r M Q) (h2 : ¬ x < 0 → e_E i d kc ks pc' lv r M Q) : e_E i d kc ks pc lv (.int x :: r) M Q := by subst hp; exact e_st hq ⟨h1, h2⟩
theorem r_if_ge {o : Int} {t : Nat} {x : Int32} (hq : e_dec i pc = some (.ifCond .ge o, 3, t, 0, 0)) (hp : pc + 3 = pc') (h1 : 0 ≤ x → e_E i d kc ks t lv r M Q) (h2 : ¬ 0 ≤ x → e_E i d kc ks pc' lv r M Q) : e_E i d kc ks pc lv (.int x :: r) M Q := by subst hp; exact e_st hq ⟨h1, h2⟩
theorem r_if_gt {o : Int} {t : Nat} {x : Int32} (hq : e_dec i pc = some (.ifCond .gt o, 3, t, 0, 0)) (hp : pc + 3 = pc') (h1 : 0 < x → e_E i d kc ks t lv r M Q) (h2 : ¬ 0 < x → e_E i d kc ks pc' lv r M Q) : e_E i d kc ks pc lv (.int x :: r) M Q := by subst hp; exact e_st hq ⟨h1, h2⟩
theorem r_if_le {o : Int} {t : Nat} {x : Int32} (hq : e_dec i pc = some (.ifCond .le o, 3, t, 0, 0)) (hp : pc + 3 = pc') (h1 : x ≤ 0 → e_E i d kc ks t lv r M Q) (h2 : ¬ x ≤ 0 → e_E i d kc ks pc' lv r M Q) : e_E i d kc ks pc lv (.int x :: r) M Q := by subst hp; exact e_st hq ⟨h1, h2⟩
theorem r_icmp_eq {o : Int} {t : Nat} {x y : Int32} (hq : e_dec i pc = some (.if_icmp .eq o, 3, t, 0, 0)) (hp : pc + 3 = pc') (h1 : x = y → e_E i d kc ks t lv r M Q) (h2 : ¬ x = y → e_E i d kc ks pc' lv r M Q) : e_E i d kc ks pc lv (.int y :: .int x :: r) M Q := by subst hp; exact e_st hq ⟨h1, h2⟩
theorem r_icmp_ne {o : Int} {t : Nat} {x y : Int32} (hq : e_dec i pc = some (.if_icmp .ne o, 3, t, 0, 0)) (hp : pc + 3 = pc') (h1 : ¬ x = y → e_E i d kc ks t lv r M Q) (h2 : x = y → e_E i d kc ks pc' lv r M Q) : e_E i d kc ks pc lv (.int y :: .int x :: r) M Q := by subst hp; exact e_st hq ⟨h1, h2⟩
theorem r_icmp_lt {o : Int} {t : Nat} {x y : Int32} (hq : e_dec i pc = some (.if_icmp .lt o, 3, t, 0, 0)) (hp : pc + 3 = pc') (h1 : x < y → e_E i d kc ks t lv r M Q) (h2 : ¬ x < y → e_E i d kc ks pc' lv r M Q) : e_E i d kc ks pc lv (.int y :: .int x :: r) M Q := by subst hp; exact e_st hq ⟨h1, h2⟩
theorem r_icmp_ge {o : Int} {t : Nat} {x y : Int32} (hq : e_dec i pc = some (.if_icmp .ge o, 3, t, 0, 0)) (hp : pc + 3 = pc') (h1 : y ≤ x → e_E i d kc ks t lv r M Q) (h2 : ¬ y ≤ x → e_E i d kc ks pc' lv r M Q) : e_E i d kc ks pc lv (.int y :: .int x :: r) M Q := by subst hp; exact e_st hq ⟨h1, h2⟩
theorem r_icmp_gt {o : Int} {t : Nat} {x y : Int32} (hq : e_dec i pc = some (.if_icmp .gt o, 3, t, 0, 0)) (hp : pc + 3 = pc') (h1 : y < x → e_E i d kc ks t lv r M Q) (h2 : ¬ y < x → e_E i d kc ks pc' lv r M Q) : e_E i d kc ks pc lv (.int y :: .int x :: r) M Q := by subst hp; exact e_st hq ⟨h1, h2⟩
theorem r_icmp_le {o : Int} {t : Nat} {x y : Int32} (hq : e_dec i pc = some (.if_icmp .le o, 3, t, 0, 0)) (hp : pc + 3 = pc') (h1 : x ≤ y → e_E i d kc ks t lv r M Q) (h2 : ¬ x ≤ y → e_E i d kc ks pc' lv r M Q) : e_E i d kc ks pc lv (.int y :: .int x :: r) M Q := by subst hp; exact e_st hq ⟨h1, h2⟩
theorem r_ifnull {o : Int} {t : Nat} {x : Nat} (hq : e_dec i pc = some (.ifnull o, 3, t, 0, 0)) (hp : pc + 3 = pc') (h1 : x = 0 → e_E i d kc ks t lv r M Q) (h2 : ¬ x = 0 → e_E i d kc ks pc' lv r M Q) : e_E i d kc ks pc lv (.ref x :: r) M Q := by subst hp; exact e_st hq ⟨h1, h2⟩
theorem r_ifnonnull {o : Int} {t : Nat} {x : Nat} (hq : e_dec i pc = some (.ifnonnull o, 3, t, 0, 0)) (hp : pc + 3 = pc') (h1 : ¬ x = 0 → e_E i d kc ks t lv r M Q) (h2 : x = 0 → e_E i d kc ks pc' lv r M Q) : e_E i d kc ks pc lv (.ref x :: r) M Q := by subst hp; exact e_st hq ⟨h1, h2⟩
/-- a switch, as a row of tests: each number with its place, then the place for all others -/
def e_sw (x : Int32) (k : Nat → Prop) : List (Int × Nat) → Nat → Prop
  | [], t => k t
  | (n, t) :: ps, u => (x = Int32.ofInt n → k t) ∧ (¬ x = Int32.ofInt n → e_sw x k ps u)
theorem e_sw_i {x : Int32} {n : Int} (h1 : (Int32.ofInt n).toInt = n) : x = Int32.ofInt n ↔ x.toInt = n := ⟨fun e => by rw [e]; exact h1, fun e => Int32.toInt_inj.mp (by rw [h1]; exact e)⟩
def e_swok (ps : List (Int × Nat)) : Bool := ps.all (fun q => (Int32.ofInt q.1).toInt == q.1)
theorem e_swl {x : Int32} {k : Nat → Prop} {pc u : Nat} {dd : Int} (hu : e_tgt pc dd = u) : ∀ {ps : List (Int × Int)} {qs : List (Int × Nat)}, ps.map (fun q => (q.1, e_tgt pc q.2)) = qs → e_swok qs = true → e_sw x k qs u → k (e_tgt pc (Op.lookupswitch.offset ps dd x.toInt))
  | [], qs, hq, _, h => by
    subst hq
    subst hu
    exact h
  | (a, o) :: ps, qs, hq, hok, h => by
    subst hq
    simp only [List.map_cons, e_swok, List.all_cons, Bool.and_eq_true, beq_iff_eq] at hok
    have ih := e_swl (x := x) (k := k) (pc := pc) hu (ps := ps) rfl (by simpa [e_swok] using hok.2)
    by_cases hx : x = Int32.ofInt a
    · have := h.1 hx
      have hx2 := (e_sw_i hok.1).mp hx
      unfold Op.lookupswitch.offset
      simp [hx2, this]
    · have h2 := ih (h.2 hx)
      have hx2 : ¬ x.toInt = a := fun z => hx ((e_sw_i hok.1).mpr z)
      rw [Op.lookupswitch.offset_cons, if_neg (fun z => hx2 z.symm)]
      exact h2
theorem r_lookupswitch {dd : Int} {ps : Array (Int × Int)} {len u : Nat} {qs : List (Int × Nat)} {x : Int32} (hq : e_dec i pc = some (.lookupswitch dd ps, len, 0, 0, 0)) (hu : e_tgt pc dd = u) (hps : ps.toList.map (fun q => (q.1, e_tgt pc q.2)) = qs) (hok : e_swok qs = true) (h : e_sw x (fun t => e_E i d kc ks t lv r M Q) qs u) : e_E i d kc ks pc lv (.int x :: r) M Q := e_st hq (e_swl (k := fun t => e_E i d kc ks t lv r M Q) hu hps hok h)
theorem e_swt {x : Int32} {k : Nat → Prop} {pc u : Nat} {dd : Int} : ∀ {offs : List Int} {lo : Int} {qs : List (Int × Nat)}, (offs.zipIdx.map (fun q => (lo + (q.2 : Int), e_tgt pc q.1))) = qs → e_swok qs = true → e_sw x k qs u → ((x.toInt < lo ∨ lo + offs.length ≤ x.toInt) → k u) ∧ (¬ x.toInt < lo → x.toInt < lo + offs.length → ∃ o, offs[(x.toInt - lo).toNat]? = some o ∧ k (e_tgt pc o)) := by
  intro offs
  suffices H : ∀ (n : Nat) (lo : Int) (qs : List (Int × Nat)), (offs.zipIdx n).map (fun q => (lo + (q.2 : Int), e_tgt pc q.1)) = qs → e_swok qs = true → e_sw x k qs u → ((x.toInt < lo + n ∨ lo + n + offs.length ≤ x.toInt) → k u) ∧ (¬ x.toInt < lo + n → x.toInt < lo + n + offs.length → ∃ o, offs[(x.toInt - (lo + n)).toNat]? = some o ∧ k (e_tgt pc o)) by
    intro lo qs h1 h2 h3
    have := H 0 lo qs h1 h2 h3
    simpa using this
  induction offs with
  | nil =>
    intro n lo qs h1 h2 h3
    subst h1
    exact ⟨fun _ => h3, fun a b => by simp at b; omega⟩
  | cons o offs ih =>
    intro n lo qs h1 h2 h3
    subst h1
    simp only [List.zipIdx_cons, List.map_cons, e_swok, List.all_cons, Bool.and_eq_true, beq_iff_eq] at h2
    by_cases hx : x = Int32.ofInt (lo + n)
    · have hk := h3.1 hx
      have hx2 := (e_sw_i h2.1).mp hx
      refine ⟨fun z => ?_, fun _ _ => ⟨o, ?_, hk⟩⟩
      · exfalso
        simp only [List.length_cons] at z
        omega
      · rw [hx2]; simp
    · have h4 := ih (n + 1) lo _ rfl (by simpa [e_swok] using h2.2) (h3.2 hx)
      have hx2 : ¬ x.toInt = lo + n := fun z => hx ((e_sw_i h2.1).mpr z)
      refine ⟨fun z => h4.1 ?_, fun a b => ?_⟩
      · simp only [List.length_cons] at z
        push_cast at z ⊢
        omega
      · simp only [List.length_cons] at b
        obtain ⟨o2, g1, g2⟩ := h4.2 (by push_cast; omega) (by push_cast at b ⊢; omega)
        refine ⟨o2, ?_, g2⟩
        have e : (x.toInt - (lo + (n : Int))).toNat = (x.toInt - (lo + ((n + 1 : Nat) : Int))).toNat + 1 := by push_cast; omega
        rw [e, List.getElem?_cons_succ]
        exact g1
theorem r_tableswitch {dd lo hi : Int} {offs : Array Int} {len u : Nat} {qs : List (Int × Nat)} {x : Int32} (hq : e_dec i pc = some (.tableswitch dd lo hi offs, len, 0, 0, 0)) (hu : e_tgt pc dd = u) (hh : hi + 1 = lo + offs.toList.length) (hps : (offs.toList.zipIdx.map (fun q => (lo + (q.2 : Int), e_tgt pc q.1))) = qs) (hok : e_swok qs = true) (h : e_sw x (fun t => e_E i d kc ks t lv r M Q) qs u) : e_E i d kc ks pc lv (.int x :: r) M Q := by
  have := e_swt (k := fun t => e_E i d kc ks t lv r M Q) (dd := dd) hps hok h
  subst hu
  refine e_st hq ⟨fun z => this.1 (by omega), fun z1 z2 => ?_⟩
  obtain ⟨o, g1, g2⟩ := this.2 z1 (by omega)
  exact ⟨o, by rw [← Array.getElem?_toList]; exact g1, g2⟩
theorem r_get0 {x a b o : Nat} (hq : e_dec i pc = some (.getfield x, 3, a, b, 0)) (ha : a < 20) (hk : (e_fk a).getD b 0 = 0) (g : e_ob M o a) (hp : pc + 3 = pc') (h : e_E i d kc ks pc' lv (.int (gi M o b) :: r) M Q) : e_E i d kc ks pc lv (.ref o :: r) M Q := by
  subst hp
  refine e_st hq ⟨ha, g, ?_⟩
  show e_E i d kc ks (pc + 3) lv (e_gv M o b ((e_fk a).getD b 0) :: r) M Q
  rw [hk]
  exact h
theorem r_get3 {x a b o : Nat} (hq : e_dec i pc = some (.getfield x, 3, a, b, 0)) (ha : a < 20) (hk : (e_fk a).getD b 0 = 3) (g : e_ob M o a) (hp : pc + 3 = pc') (h : e_E i d kc ks pc' lv (.int (gi M o b) :: r) M Q) : e_E i d kc ks pc lv (.ref o :: r) M Q := by
  subst hp
  refine e_st hq ⟨ha, g, ?_⟩
  show e_E i d kc ks (pc + 3) lv (e_gv M o b ((e_fk a).getD b 0) :: r) M Q
  rw [hk]
  exact h
theorem r_get1 {x a b o : Nat} (hq : e_dec i pc = some (.getfield x, 3, a, b, 0)) (ha : a < 20) (hk : (e_fk a).getD b 0 = 1) (g : e_ob M o a) (hp : pc + 3 = pc') (h : e_E i d kc ks pc' lv (.long (gl M o b) :: r) M Q) : e_E i d kc ks pc lv (.ref o :: r) M Q := by
  subst hp
  refine e_st hq ⟨ha, g, ?_⟩
  show e_E i d kc ks (pc + 3) lv (e_gv M o b ((e_fk a).getD b 0) :: r) M Q
  rw [hk]
  exact h
theorem r_get2 {x a b o : Nat} (hq : e_dec i pc = some (.getfield x, 3, a, b, 0)) (ha : a < 20) (hk : (e_fk a).getD b 0 = 2) (g : e_ob M o a) (hp : pc + 3 = pc') (h : e_E i d kc ks pc' lv (.ref (gr M o b) :: r) M Q) : e_E i d kc ks pc lv (.ref o :: r) M Q := by
  subst hp
  refine e_st hq ⟨ha, g, ?_⟩
  show e_E i d kc ks (pc + 3) lv (e_gv M o b ((e_fk a).getD b 0) :: r) M Q
  rw [hk]
  exact h
theorem r_put0 {x a b o : Nat} {y : Int32} (hq : e_dec i pc = some (.putfield x, 3, a, b, 0)) (ha : a < 20) (hk : (e_fk a).getD b 0 = 0) (g : e_ob M o a) (hp : pc + 3 = pc') (h : e_E i d kc ks pc' lv r (e_si M o b y) Q) : e_E i d kc ks pc lv (.int y :: .ref o :: r) M Q := by
  subst hp
  refine e_st hq ⟨ha, ?_⟩
  show e_put _ kc ks (pc + 3) a b lv _ M
  unfold e_put
  rw [hk]
  rw [if_neg (by decide), if_neg (by decide)]
  exact ⟨g, fun z => absurd z (by decide), h⟩
theorem r_put3 {x a b o : Nat} {y : Int32} (hq : e_dec i pc = some (.putfield x, 3, a, b, 0)) (ha : a < 20) (hk : (e_fk a).getD b 0 = 3) (g : e_ob M o a) (gb : y = 0 ∨ y = 1) (hp : pc + 3 = pc') (h : e_E i d kc ks pc' lv r (e_si M o b y) Q) : e_E i d kc ks pc lv (.int y :: .ref o :: r) M Q := by
  subst hp
  refine e_st hq ⟨ha, ?_⟩
  show e_put _ kc ks (pc + 3) a b lv _ M
  unfold e_put
  rw [hk]
  rw [if_neg (by decide), if_neg (by decide)]
  exact ⟨g, fun _ => gb, h⟩
theorem r_put1 {x a b o : Nat} {y : Int64} (hq : e_dec i pc = some (.putfield x, 3, a, b, 0)) (ha : a < 20) (hk : (e_fk a).getD b 0 = 1) (g : e_ob M o a) (hp : pc + 3 = pc') (h : e_E i d kc ks pc' lv r (e_sl M o b y) Q) : e_E i d kc ks pc lv (.long y :: .ref o :: r) M Q := by
  subst hp
  refine e_st hq ⟨ha, ?_⟩
  show e_put _ kc ks (pc + 3) a b lv _ M
  unfold e_put
  rw [hk]
  rw [if_pos rfl]
  exact ⟨g, h⟩
theorem r_put2 {x a b o : Nat} {y : Nat} (hq : e_dec i pc = some (.putfield x, 3, a, b, 0)) (ha : a < 20) (hk : (e_fk a).getD b 0 = 2) (g : e_ob M o a) (hp : pc + 3 = pc') (h : e_E i d kc ks pc' lv r (e_sr M o b y) Q) : e_E i d kc ks pc lv (.ref y :: .ref o :: r) M Q := by
  subst hp
  refine e_st hq ⟨ha, ?_⟩
  show e_put _ kc ks (pc + 3) a b lv _ M
  unfold e_put
  rw [hk]
  rw [if_neg (by decide), if_pos rfl]
  exact ⟨g, h⟩
theorem r_getstatic {x a b : Nat} (hq : e_dec i pc = some (.getstatic x, 3, a, b, 0)) (ha : a = 2 ∨ a = 3 ∨ a = 4) (hp : pc + 3 = pc') (h : e_E i d kc ks pc' lv (.ref a :: r) M Q) : e_E i d kc ks pc lv r M Q := by subst hp; exact e_st hq ⟨ha, h⟩
theorem r_iaload {a : Nat} {y : Int32} (hq : e_dec i pc = some (.iaload, 1, 0, 0, 0)) (g : e_ai M a y) (hp : pc + 1 = pc') (h : e_E i d kc ks pc' lv (.int (gi M a y.toNatClampNeg) :: r) M Q) : e_E i d kc ks pc lv (.int y :: .ref a :: r) M Q := by subst hp; exact e_st hq ⟨g, h⟩
theorem r_baload {a : Nat} {y : Int32} (hq : e_dec i pc = some (.baload, 1, 0, 0, 0)) (g : e_ar M a 22 y) (hp : pc + 1 = pc') (h : e_E i d kc ks pc' lv (.int (gi M a y.toNatClampNeg) :: r) M Q) : e_E i d kc ks pc lv (.int y :: .ref a :: r) M Q := by subst hp; exact e_st hq ⟨g, h⟩
theorem r_laload {a : Nat} {y : Int32} (hq : e_dec i pc = some (.laload, 1, 0, 0, 0)) (g : e_ar M a 21 y) (hp : pc + 1 = pc') (h : e_E i d kc ks pc' lv (.long (gl M a y.toNatClampNeg) :: r) M Q) : e_E i d kc ks pc lv (.int y :: .ref a :: r) M Q := by subst hp; exact e_st hq ⟨g, h⟩
theorem r_aaload {a : Nat} {y : Int32} (hq : e_dec i pc = some (.aaload, 1, 0, 0, 0)) (g : e_ar M a 23 y ∨ e_ar M a 24 y) (hp : pc + 1 = pc') (h : e_E i d kc ks pc' lv (.ref (gr M a y.toNatClampNeg) :: r) M Q) : e_E i d kc ks pc lv (.int y :: .ref a :: r) M Q := by subst hp; exact e_st hq ⟨g, h⟩
theorem r_iastore {a : Nat} {y : Int32} {x : Int32} (hq : e_dec i pc = some (.iastore, 1, 0, 0, 0)) (g : e_ar M a 20 y) (hp : pc + 1 = pc') (h : e_E i d kc ks pc' lv r (e_si M a y.toNatClampNeg x) Q) : e_E i d kc ks pc lv (.int x :: .int y :: .ref a :: r) M Q := by subst hp; exact e_st hq ⟨g, h⟩
theorem r_bastore {a : Nat} {y : Int32} {x : Int32} (hq : e_dec i pc = some (.bastore, 1, 0, 0, 0)) (g : e_ar M a 22 y) (hp : pc + 1 = pc') (h : e_E i d kc ks pc' lv r (e_si M a y.toNatClampNeg (vp_nar .boolean x)) Q) : e_E i d kc ks pc lv (.int x :: .int y :: .ref a :: r) M Q := by subst hp; exact e_st hq ⟨g, h⟩
theorem r_lastore {a : Nat} {y : Int32} {x : Int64} (hq : e_dec i pc = some (.lastore, 1, 0, 0, 0)) (g : e_ar M a 21 y) (hp : pc + 1 = pc') (h : e_E i d kc ks pc' lv r (e_sl M a y.toNatClampNeg x) Q) : e_E i d kc ks pc lv (.long x :: .int y :: .ref a :: r) M Q := by subst hp; exact e_st hq ⟨g, h⟩
theorem r_aastore {a : Nat} {y : Int32} {x : Nat} (hq : e_dec i pc = some (.aastore, 1, 0, 0, 0)) (g : (e_ar M a 23 y ∧ e_ob M x 5) ∨ (e_ar M a 24 y ∧ e_ob M x 8)) (hp : pc + 1 = pc') (h : e_E i d kc ks pc' lv r (e_sr M a y.toNatClampNeg x) Q) : e_E i d kc ks pc lv (.ref x :: .int y :: .ref a :: r) M Q := by subst hp; exact e_st hq ⟨g, h⟩
theorem r_arraylength {a : Nat} (hq : e_dec i pc = some (.arraylength, 1, 0, 0, 0)) (g : (0 < a ∧ a < M.1 ∧ gt M a = 20) ∨ (e_c0 ≤ a ∧ a < M.1 ∧ 20 ≤ gt M a ∧ gt M a ≤ 24)) (hp : pc + 1 = pc') (h : e_E i d kc ks pc' lv (.int (Int32.ofNat (gn M a)) :: r) M Q) : e_E i d kc ks pc lv (.ref a :: r) M Q := by subst hp; exact e_st hq ⟨g, h⟩
theorem r_new {x a n : Nat} (hq : e_dec i pc = some (.new x, 3, a, 0, 0)) (ha : a < 20) (hn : (e_fk a).length = n) (g1 : 1 ≤ kc) (g2 : n ≤ ks) (hp : pc + 3 = pc') (h : e_E i d (kc - 1) (ks - n) pc' lv (.ref M.1 :: r) (e_new M a 0) Q) : e_E i d kc ks pc lv r M Q := by
  subst hp; subst hn
  refine e_st hq ?_
  have h9 : ¬ 91 ≤ a := by omega
  unfold e_ins
  simp only [if_neg h9]
  exact ⟨ha, g1, g2, h⟩
/-- a throw: its kind's number comes as a place to return to -/
theorem r_throw {x a : Nat} (hq : e_dec i pc = some (.new x, 3, a, 0, 0)) (ha : 91 ≤ a) (hb : a ≤ 94) (g1 : 1 ≤ kc) (g2 : 6 ≤ ks) (h : Q (some (.retAddr a)) M) : e_E i d kc ks pc lv r M Q := by
  refine e_st hq ?_
  unfold e_ins
  simp only [if_pos ha]
  exact ⟨hb, g1, g2, h⟩
def e_QX (Q : Int32 → eM → Prop) (X : Nat → eM → Prop) : eQ := fun v M' => (∃ x, v = some (.int x) ∧ Q x M') ∨ ∃ t, v = some (.retAddr t) ∧ X t M'
theorem r_ireturnX {x : Int32} {QI : Int32 → eM → Prop} {X : Nat → eM → Prop} (hq : e_dec i pc = some (.ireturn, 1, 0, 0, 0)) (hr : (e_m i).2.2.2.1 = some .int) (h : QI x M) : e_E i d kc ks pc lv [.int x] M (e_QX QI X) := e_st hq ⟨rfl, Or.inl hr, Or.inl ⟨x, rfl, h⟩⟩
theorem r_newarray {t : ArrayType} {a : Nat} {y : Int32} (hq : e_dec i pc = some (.newarray t, 2, a, 0, 0)) (ha : a = 20 ∨ a = 21 ∨ a = 22) (g0 : ¬ y < 0) (g3 : y.toNatClampNeg ≤ 60000) (g1 : 1 ≤ kc) (g2 : y.toNatClampNeg ≤ ks) (hp : pc + 2 = pc') (h : e_E i d (kc - 1) (ks - y.toNatClampNeg) pc' lv (.ref M.1 :: r) (e_new M a y.toNatClampNeg) Q) : e_E i d kc ks pc lv (.int y :: r) M Q := by subst hp; exact e_st hq ⟨ha, g0, g3, g1, g2, h⟩
theorem r_anewarray {x a : Nat} {y : Int32} (hq : e_dec i pc = some (.anewarray x, 3, a, 0, 0)) (ha : a = 23 ∨ a = 24) (g0 : ¬ y < 0) (g3 : y.toNatClampNeg ≤ 60000) (g1 : 1 ≤ kc) (g2 : y.toNatClampNeg ≤ ks) (hp : pc + 3 = pc') (h : e_E i d (kc - 1) (ks - y.toNatClampNeg) pc' lv (.ref M.1 :: r) (e_new M a y.toNatClampNeg) Q) : e_E i d kc ks pc lv (.int y :: r) M Q := by subst hp; exact e_st hq ⟨ha, g0, g3, g1, g2, h⟩
theorem r_objInit {x b o : Nat} (hq : e_dec i pc = some (.invokespecial x, 3, 900, b, 0)) (g : e_c0 ≤ o) (h8 : (r.map fun v => v.category).sum ≤ 8) (hp : pc + 3 = pc') (h : e_E i d kc ks pc' lv r M Q) : e_E i d kc ks pc lv (.ref o :: r) M Q := by subst hp; exact e_st hq ⟨g, h8, h⟩
/-- calls: the callee's number j, how many na, the arguments av, the stack behind -/
theorem r_callV {x b j na o d' mc ms : Nat} {z : Int} {st as : List Value} (hd : d = d' + 1) (hq : e_dec i pc = some (.invokevirtual x, 3, j, b, z)) (hj : j < 236) (hnf : e_nf j = true) (hz : z.toNat = na) (hst : st.take na = as) (hdr : st.drop na = .ref o :: r) (hl : na ≤ st.length) (hlen : (lg_sl (.ref o :: as.reverse)).length ≤ (e_m j).2.2.1) (h8 : (r.map fun v => v.category).sum ≤ 8) (g : e_ob M o b) (g1 : mc ≤ kc) (g2 : ms ≤ ks) (hp : pc + 3 = pc') (h : e_C j d' mc ms (.ref o :: as.reverse) M (fun v M' => e_E i d (kc - mc) (ks - ms) pc' lv (v.toList ++ r) M' Q)) : e_E i d kc ks pc lv st M Q := by
  subst hp; subst hz; subst hst
  refine e_st hq ⟨by show j < 900; omega, hl, ?_⟩
  show e_r1 (st.drop z.toNat) _
  rw [hdr]
  exact ⟨g, h8, mc, ms, g1, g2, d', hd, hj, hnf, hlen, h⟩
theorem r_arraycopy {x b o1 o2 : Nat} {sp dp n : Int32} (hq : e_dec i pc = some (.invokestatic x, 3, 901, b, 5)) (g : e_cg M o1 sp o2 dp n) (h8 : (r.map fun v => v.category).sum ≤ 8) (hp : pc + 3 = pc') (h : e_E i d kc ks pc' lv r (e_cpy M o1 sp o2 dp n) Q) : e_E i d kc ks pc lv (.int n :: .int dp :: .ref o2 :: .int sp :: .ref o1 :: r) M Q := by subst hp; exact e_st hq ⟨g, h8, h⟩
theorem r_callS {x b j na d' mc ms : Nat} {z : Int} {st as : List Value} (hd : d = d' + 1) (hq : e_dec i pc = some (.invokestatic x, 3, j, b, z)) (hj : j < 236) (hnf : e_nf j = true) (hz : z.toNat = na) (hst : st.take na = as) (hdr : st.drop na = r) (hl : na ≤ st.length) (hlen : (lg_sl as.reverse).length ≤ (e_m j).2.2.1) (h8 : (r.map fun v => v.category).sum ≤ 8) (g1 : mc ≤ kc) (g2 : ms ≤ ks) (hp : pc + 3 = pc') (h : e_C j d' mc ms as.reverse M (fun v M' => e_E i d (kc - mc) (ks - ms) pc' lv (v.toList ++ r) M' Q)) : e_E i d kc ks pc lv st M Q := by
  subst hp; subst hz; subst hst; subst hdr
  refine e_st hq ?_
  have h9 : ¬ j = 901 := by omega
  unfold e_ins
  simp only [if_neg h9]
  exact ⟨by omega, hl, h8, mc, ms, g1, g2, d', hd, hj, hnf, hlen, h⟩
theorem r_callI {x b j na o d' mc ms : Nat} {z : Int} {st as : List Value} (hd : d = d' + 1) (hq : e_dec i pc = some (.invokespecial x, 3, j, b, z)) (hj : j < 236) (hnf : e_nf j = true) (hz : z.toNat = na) (hst : st.take na = as) (hdr : st.drop na = .ref o :: r) (hl : na ≤ st.length) (hlen : (lg_sl (.ref o :: as.reverse)).length ≤ (e_m j).2.2.1) (h8 : (r.map fun v => v.category).sum ≤ 8) (g : e_c0 ≤ o) (g1 : mc ≤ kc) (g2 : ms ≤ ks) (hp : pc + 3 = pc') (h : e_C j d' mc ms (.ref o :: as.reverse) M (fun v M' => e_E i d (kc - mc) (ks - ms) pc' lv (v.toList ++ r) M' Q)) : e_E i d kc ks pc lv st M Q := by
  subst hp; subst hz; subst hst
  refine e_st hq ?_
  have h9 : ¬ j = 900 := by omega
  unfold e_ins
  simp only [if_neg h9]
  refine ⟨by omega, hl, ?_⟩
  rw [hdr]
  exact ⟨g, h8, mc, ms, g1, g2, d', hd, hj, hnf, hlen, h⟩
theorem r_return {QV : eM → Prop} (hq : e_dec i pc = some (.return_, 1, 0, 0, 0)) (hr : (e_m i).2.2.2.1 = none) (h : QV M) : e_E i d kc ks pc lv [] M (e_QV QV) := e_st hq ⟨rfl, hr, rfl, h⟩
theorem r_ireturn {x : Int32} {QI : Int32 → eM → Prop} (hq : e_dec i pc = some (.ireturn, 1, 0, 0, 0)) (hr : (e_m i).2.2.2.1 = some .int) (h : QI x M) : e_E i d kc ks pc lv [.int x] M (e_QI QI) := e_st hq ⟨rfl, Or.inl hr, x, rfl, h⟩
theorem r_zreturn {x : Int32} {QI : Int32 → eM → Prop} (hq : e_dec i pc = some (.ireturn, 1, 0, 0, 0)) (hr : (e_m i).2.2.2.1 = some .boolean) (g : x = 0 ∨ x = 1) (h : QI x M) : e_E i d kc ks pc lv [.int x] M (e_QI QI) := e_st hq ⟨rfl, Or.inr ⟨hr, g⟩, x, rfl, h⟩
theorem r_lreturn {x : Int64} {QL : Int64 → eM → Prop} (hq : e_dec i pc = some (.lreturn, 1, 0, 0, 0)) (hr : (e_m i).2.2.2.1 = some .long) (h : QL x M) : e_E i d kc ks pc lv [.long x] M (e_QL QL) := e_st hq ⟨rfl, hr, x, rfl, h⟩
theorem r_areturn {x : Nat} {QR : Nat → eM → Prop} {t : FieldType} (hq : e_dec i pc = some (.areturn, 1, 0, 0, 0)) (hr : (e_m i).2.2.2.1 = some t) (ht : (∃ n, t = .object n) ∨ ∃ n, t = .array n) (h : QR x M) : e_E i d kc ks pc lv [.ref x] M (e_QR QR) := e_st hq ⟨rfl, by rw [hr]; exact ht.imp (fun ⟨n, e⟩ => ⟨n, by rw [e]⟩) (fun ⟨n, e⟩ => ⟨n, by rw [e]⟩), x, rfl, h⟩

theorem r_callVI {x b j na o d' mc ms nj kc' ks' : Nat} {z : Int} {st as av : List Value} {P : Int32 → eM → Prop} (hd : d = d' + 1) (hq : e_dec i pc = some (.invokevirtual x, 3, j, b, z)) (hj : j < 236) (hnf : e_nf j = true) (hz : z.toNat = na) (hst : st.take na = as) (hdr : st.drop na = .ref o :: r) (hl : na ≤ st.length) (hav : .ref o :: as.reverse = av) (hL : (e_m j).2.2.1 = nj) (hlen : (lg_sl av).length ≤ nj) (h8 : (r.map fun v => v.category).sum ≤ 8) (g : e_ob M o b) (g1 : mc ≤ kc) (g2 : ms ≤ ks) (hk1 : kc - mc = kc') (hk2 : ks - ms = ks') (hp : pc + 3 = pc') (h : e_CI j d' mc ms av M P) (k : ∀ (x : Int32) (M : eM), P x M → e_E i d kc' ks' pc' lv (.int x :: r) M Q) : e_E i d kc ks pc lv st M Q := by
  subst hav; subst hL; subst hk1; subst hk2
  exact r_callV hd hq hj hnf hz hst hdr hl hlen h8 g g1 g2 hp (e_E.post h (by rintro v M1 ⟨x, rfl, g⟩; exact k _ _ g))
theorem r_callSI {x b j na d' mc ms nj kc' ks' : Nat} {z : Int} {st as av : List Value} {P : Int32 → eM → Prop} (hd : d = d' + 1) (hq : e_dec i pc = some (.invokestatic x, 3, j, b, z)) (hj : j < 236) (hnf : e_nf j = true) (hz : z.toNat = na) (hst : st.take na = as) (hdr : st.drop na = r) (hl : na ≤ st.length) (hav : as.reverse = av) (hL : (e_m j).2.2.1 = nj) (hlen : (lg_sl av).length ≤ nj) (h8 : (r.map fun v => v.category).sum ≤ 8) (g1 : mc ≤ kc) (g2 : ms ≤ ks) (hk1 : kc - mc = kc') (hk2 : ks - ms = ks') (hp : pc + 3 = pc') (h : e_CI j d' mc ms av M P) (k : ∀ (x : Int32) (M : eM), P x M → e_E i d kc' ks' pc' lv (.int x :: r) M Q) : e_E i d kc ks pc lv st M Q := by
  subst hav; subst hL; subst hk1; subst hk2
  exact r_callS hd hq hj hnf hz hst hdr hl hlen h8 g1 g2 hp (e_E.post h (by rintro v M1 ⟨x, rfl, g⟩; exact k _ _ g))
theorem r_callII {x b j na o d' mc ms nj kc' ks' : Nat} {z : Int} {st as av : List Value} {P : Int32 → eM → Prop} (hd : d = d' + 1) (hq : e_dec i pc = some (.invokespecial x, 3, j, b, z)) (hj : j < 236) (hnf : e_nf j = true) (hz : z.toNat = na) (hst : st.take na = as) (hdr : st.drop na = .ref o :: r) (hl : na ≤ st.length) (hav : .ref o :: as.reverse = av) (hL : (e_m j).2.2.1 = nj) (hlen : (lg_sl av).length ≤ nj) (h8 : (r.map fun v => v.category).sum ≤ 8) (g : e_c0 ≤ o) (g1 : mc ≤ kc) (g2 : ms ≤ ks) (hk1 : kc - mc = kc') (hk2 : ks - ms = ks') (hp : pc + 3 = pc') (h : e_CI j d' mc ms av M P) (k : ∀ (x : Int32) (M : eM), P x M → e_E i d kc' ks' pc' lv (.int x :: r) M Q) : e_E i d kc ks pc lv st M Q := by
  subst hav; subst hL; subst hk1; subst hk2
  exact r_callI hd hq hj hnf hz hst hdr hl hlen h8 g g1 g2 hp (e_E.post h (by rintro v M1 ⟨x, rfl, g⟩; exact k _ _ g))
theorem r_callVL {x b j na o d' mc ms nj kc' ks' : Nat} {z : Int} {st as av : List Value} {P : Int64 → eM → Prop} (hd : d = d' + 1) (hq : e_dec i pc = some (.invokevirtual x, 3, j, b, z)) (hj : j < 236) (hnf : e_nf j = true) (hz : z.toNat = na) (hst : st.take na = as) (hdr : st.drop na = .ref o :: r) (hl : na ≤ st.length) (hav : .ref o :: as.reverse = av) (hL : (e_m j).2.2.1 = nj) (hlen : (lg_sl av).length ≤ nj) (h8 : (r.map fun v => v.category).sum ≤ 8) (g : e_ob M o b) (g1 : mc ≤ kc) (g2 : ms ≤ ks) (hk1 : kc - mc = kc') (hk2 : ks - ms = ks') (hp : pc + 3 = pc') (h : e_CL j d' mc ms av M P) (k : ∀ (x : Int64) (M : eM), P x M → e_E i d kc' ks' pc' lv (.long x :: r) M Q) : e_E i d kc ks pc lv st M Q := by
  subst hav; subst hL; subst hk1; subst hk2
  exact r_callV hd hq hj hnf hz hst hdr hl hlen h8 g g1 g2 hp (e_E.post h (by rintro v M1 ⟨x, rfl, g⟩; exact k _ _ g))
theorem r_callSL {x b j na d' mc ms nj kc' ks' : Nat} {z : Int} {st as av : List Value} {P : Int64 → eM → Prop} (hd : d = d' + 1) (hq : e_dec i pc = some (.invokestatic x, 3, j, b, z)) (hj : j < 236) (hnf : e_nf j = true) (hz : z.toNat = na) (hst : st.take na = as) (hdr : st.drop na = r) (hl : na ≤ st.length) (hav : as.reverse = av) (hL : (e_m j).2.2.1 = nj) (hlen : (lg_sl av).length ≤ nj) (h8 : (r.map fun v => v.category).sum ≤ 8) (g1 : mc ≤ kc) (g2 : ms ≤ ks) (hk1 : kc - mc = kc') (hk2 : ks - ms = ks') (hp : pc + 3 = pc') (h : e_CL j d' mc ms av M P) (k : ∀ (x : Int64) (M : eM), P x M → e_E i d kc' ks' pc' lv (.long x :: r) M Q) : e_E i d kc ks pc lv st M Q := by
  subst hav; subst hL; subst hk1; subst hk2
  exact r_callS hd hq hj hnf hz hst hdr hl hlen h8 g1 g2 hp (e_E.post h (by rintro v M1 ⟨x, rfl, g⟩; exact k _ _ g))
theorem r_callIL {x b j na o d' mc ms nj kc' ks' : Nat} {z : Int} {st as av : List Value} {P : Int64 → eM → Prop} (hd : d = d' + 1) (hq : e_dec i pc = some (.invokespecial x, 3, j, b, z)) (hj : j < 236) (hnf : e_nf j = true) (hz : z.toNat = na) (hst : st.take na = as) (hdr : st.drop na = .ref o :: r) (hl : na ≤ st.length) (hav : .ref o :: as.reverse = av) (hL : (e_m j).2.2.1 = nj) (hlen : (lg_sl av).length ≤ nj) (h8 : (r.map fun v => v.category).sum ≤ 8) (g : e_c0 ≤ o) (g1 : mc ≤ kc) (g2 : ms ≤ ks) (hk1 : kc - mc = kc') (hk2 : ks - ms = ks') (hp : pc + 3 = pc') (h : e_CL j d' mc ms av M P) (k : ∀ (x : Int64) (M : eM), P x M → e_E i d kc' ks' pc' lv (.long x :: r) M Q) : e_E i d kc ks pc lv st M Q := by
  subst hav; subst hL; subst hk1; subst hk2
  exact r_callI hd hq hj hnf hz hst hdr hl hlen h8 g g1 g2 hp (e_E.post h (by rintro v M1 ⟨x, rfl, g⟩; exact k _ _ g))
theorem r_callVR {x b j na o d' mc ms nj kc' ks' : Nat} {z : Int} {st as av : List Value} {P : Nat → eM → Prop} (hd : d = d' + 1) (hq : e_dec i pc = some (.invokevirtual x, 3, j, b, z)) (hj : j < 236) (hnf : e_nf j = true) (hz : z.toNat = na) (hst : st.take na = as) (hdr : st.drop na = .ref o :: r) (hl : na ≤ st.length) (hav : .ref o :: as.reverse = av) (hL : (e_m j).2.2.1 = nj) (hlen : (lg_sl av).length ≤ nj) (h8 : (r.map fun v => v.category).sum ≤ 8) (g : e_ob M o b) (g1 : mc ≤ kc) (g2 : ms ≤ ks) (hk1 : kc - mc = kc') (hk2 : ks - ms = ks') (hp : pc + 3 = pc') (h : e_CR j d' mc ms av M P) (k : ∀ (x : Nat) (M : eM), P x M → e_E i d kc' ks' pc' lv (.ref x :: r) M Q) : e_E i d kc ks pc lv st M Q := by
  subst hav; subst hL; subst hk1; subst hk2
  exact r_callV hd hq hj hnf hz hst hdr hl hlen h8 g g1 g2 hp (e_E.post h (by rintro v M1 ⟨x, rfl, g⟩; exact k _ _ g))
theorem r_callSR {x b j na d' mc ms nj kc' ks' : Nat} {z : Int} {st as av : List Value} {P : Nat → eM → Prop} (hd : d = d' + 1) (hq : e_dec i pc = some (.invokestatic x, 3, j, b, z)) (hj : j < 236) (hnf : e_nf j = true) (hz : z.toNat = na) (hst : st.take na = as) (hdr : st.drop na = r) (hl : na ≤ st.length) (hav : as.reverse = av) (hL : (e_m j).2.2.1 = nj) (hlen : (lg_sl av).length ≤ nj) (h8 : (r.map fun v => v.category).sum ≤ 8) (g1 : mc ≤ kc) (g2 : ms ≤ ks) (hk1 : kc - mc = kc') (hk2 : ks - ms = ks') (hp : pc + 3 = pc') (h : e_CR j d' mc ms av M P) (k : ∀ (x : Nat) (M : eM), P x M → e_E i d kc' ks' pc' lv (.ref x :: r) M Q) : e_E i d kc ks pc lv st M Q := by
  subst hav; subst hL; subst hk1; subst hk2
  exact r_callS hd hq hj hnf hz hst hdr hl hlen h8 g1 g2 hp (e_E.post h (by rintro v M1 ⟨x, rfl, g⟩; exact k _ _ g))
theorem r_callIR {x b j na o d' mc ms nj kc' ks' : Nat} {z : Int} {st as av : List Value} {P : Nat → eM → Prop} (hd : d = d' + 1) (hq : e_dec i pc = some (.invokespecial x, 3, j, b, z)) (hj : j < 236) (hnf : e_nf j = true) (hz : z.toNat = na) (hst : st.take na = as) (hdr : st.drop na = .ref o :: r) (hl : na ≤ st.length) (hav : .ref o :: as.reverse = av) (hL : (e_m j).2.2.1 = nj) (hlen : (lg_sl av).length ≤ nj) (h8 : (r.map fun v => v.category).sum ≤ 8) (g : e_c0 ≤ o) (g1 : mc ≤ kc) (g2 : ms ≤ ks) (hk1 : kc - mc = kc') (hk2 : ks - ms = ks') (hp : pc + 3 = pc') (h : e_CR j d' mc ms av M P) (k : ∀ (x : Nat) (M : eM), P x M → e_E i d kc' ks' pc' lv (.ref x :: r) M Q) : e_E i d kc ks pc lv st M Q := by
  subst hav; subst hL; subst hk1; subst hk2
  exact r_callI hd hq hj hnf hz hst hdr hl hlen h8 g g1 g2 hp (e_E.post h (by rintro v M1 ⟨x, rfl, g⟩; exact k _ _ g))
theorem r_callVV {x b j na o d' mc ms nj kc' ks' : Nat} {z : Int} {st as av : List Value} {P : eM → Prop} (hd : d = d' + 1) (hq : e_dec i pc = some (.invokevirtual x, 3, j, b, z)) (hj : j < 236) (hnf : e_nf j = true) (hz : z.toNat = na) (hst : st.take na = as) (hdr : st.drop na = .ref o :: r) (hl : na ≤ st.length) (hav : .ref o :: as.reverse = av) (hL : (e_m j).2.2.1 = nj) (hlen : (lg_sl av).length ≤ nj) (h8 : (r.map fun v => v.category).sum ≤ 8) (g : e_ob M o b) (g1 : mc ≤ kc) (g2 : ms ≤ ks) (hk1 : kc - mc = kc') (hk2 : ks - ms = ks') (hp : pc + 3 = pc') (h : e_CV j d' mc ms av M P) (k : ∀ (M : eM), P M → e_E i d kc' ks' pc' lv (r) M Q) : e_E i d kc ks pc lv st M Q := by
  subst hav; subst hL; subst hk1; subst hk2
  exact r_callV hd hq hj hnf hz hst hdr hl hlen h8 g g1 g2 hp (e_E.post h (by rintro v M1 ⟨rfl, g⟩; exact k _ g))
theorem r_callSV {x b j na d' mc ms nj kc' ks' : Nat} {z : Int} {st as av : List Value} {P : eM → Prop} (hd : d = d' + 1) (hq : e_dec i pc = some (.invokestatic x, 3, j, b, z)) (hj : j < 236) (hnf : e_nf j = true) (hz : z.toNat = na) (hst : st.take na = as) (hdr : st.drop na = r) (hl : na ≤ st.length) (hav : as.reverse = av) (hL : (e_m j).2.2.1 = nj) (hlen : (lg_sl av).length ≤ nj) (h8 : (r.map fun v => v.category).sum ≤ 8) (g1 : mc ≤ kc) (g2 : ms ≤ ks) (hk1 : kc - mc = kc') (hk2 : ks - ms = ks') (hp : pc + 3 = pc') (h : e_CV j d' mc ms av M P) (k : ∀ (M : eM), P M → e_E i d kc' ks' pc' lv (r) M Q) : e_E i d kc ks pc lv st M Q := by
  subst hav; subst hL; subst hk1; subst hk2
  exact r_callS hd hq hj hnf hz hst hdr hl hlen h8 g1 g2 hp (e_E.post h (by rintro v M1 ⟨rfl, g⟩; exact k _ g))
theorem r_callIV {x b j na o d' mc ms nj kc' ks' : Nat} {z : Int} {st as av : List Value} {P : eM → Prop} (hd : d = d' + 1) (hq : e_dec i pc = some (.invokespecial x, 3, j, b, z)) (hj : j < 236) (hnf : e_nf j = true) (hz : z.toNat = na) (hst : st.take na = as) (hdr : st.drop na = .ref o :: r) (hl : na ≤ st.length) (hav : .ref o :: as.reverse = av) (hL : (e_m j).2.2.1 = nj) (hlen : (lg_sl av).length ≤ nj) (h8 : (r.map fun v => v.category).sum ≤ 8) (g : e_c0 ≤ o) (g1 : mc ≤ kc) (g2 : ms ≤ ks) (hk1 : kc - mc = kc') (hk2 : ks - ms = ks') (hp : pc + 3 = pc') (h : e_CV j d' mc ms av M P) (k : ∀ (M : eM), P M → e_E i d kc' ks' pc' lv (r) M Q) : e_E i d kc ks pc lv st M Q := by
  subst hav; subst hL; subst hk1; subst hk2
  exact r_callI hd hq hj hnf hz hst hdr hl hlen h8 g g1 g2 hp (e_E.post h (by rintro v M1 ⟨rfl, g⟩; exact k _ g))
end ROW
end
