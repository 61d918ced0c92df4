-- ===== PART A: goes FIRST, ahead of the names: the tables' words, and 'selects' of the private methods out of them =====
/-- a private method of a class that the tables say can be made, by its rows of tables_1 -/
def lw_okq (q : MethodName × Nat) : Prop := (q.1.cls ≠ "java/lang/invoke/MethodHandle" ∧ q.1.cls ≠ "java/lang/invoke/VarHandle") ∧ Cond.instantiable q.1.cls q.2 ∈ tables_1 ∧ Cond.privateMethod q.1 ∈ tables_1 ∧ Cond.instanceMethod q.1 ∈ tables_1
theorem lw_p0 : lw_okq (⟨"ElevenParts$Reckoner", "thoughtOf", "(LElevenParts$Plan;LElevenParts$Part;)I"⟩, 10) := ⟨⟨by decide +kernel, by decide +kernel⟩, List.mem_of_getElem? (i := 130) (by decide +kernel), List.mem_of_getElem? (i := 322) (by decide +kernel), List.mem_of_getElem? (i := 323) (by decide +kernel)⟩
theorem lw_p1 : lw_okq (⟨"ElevenParts$Reckoner", "valueOf", "(LElevenParts$Text;III)I"⟩, 10) := ⟨⟨by decide +kernel, by decide +kernel⟩, List.mem_of_getElem? (i := 130) (by decide +kernel), List.mem_of_getElem? (i := 341) (by decide +kernel), List.mem_of_getElem? (i := 342) (by decide +kernel)⟩
theorem lw_p2 : lw_okq (⟨"ElevenParts$Reckoner", "theEnd", "(LElevenParts$Plan;)I"⟩, 10) := ⟨⟨by decide +kernel, by decide +kernel⟩, List.mem_of_getElem? (i := 130) (by decide +kernel), List.mem_of_getElem? (i := 381) (by decide +kernel), List.mem_of_getElem? (i := 382) (by decide +kernel)⟩
theorem lw_p3 : lw_okq (⟨"ElevenParts$Reckoner", "beginOf", "(LElevenParts$Plan;I)I"⟩, 10) := ⟨⟨by decide +kernel, by decide +kernel⟩, List.mem_of_getElem? (i := 130) (by decide +kernel), List.mem_of_getElem? (i := 385) (by decide +kernel), List.mem_of_getElem? (i := 386) (by decide +kernel)⟩
theorem lw_p4 : lw_okq (⟨"ElevenParts$Reckoner", "fillWays", "(LElevenParts$Plan;)V"⟩, 10) := ⟨⟨by decide +kernel, by decide +kernel⟩, List.mem_of_getElem? (i := 130) (by decide +kernel), List.mem_of_getElem? (i := 400) (by decide +kernel), List.mem_of_getElem? (i := 401) (by decide +kernel)⟩
theorem lw_p5 : lw_okq (⟨"ElevenParts$Reckoner", "doneIn", "(LElevenParts$Plan;III)I"⟩, 10) := ⟨⟨by decide +kernel, by decide +kernel⟩, List.mem_of_getElem? (i := 130) (by decide +kernel), List.mem_of_getElem? (i := 501) (by decide +kernel), List.mem_of_getElem? (i := 502) (by decide +kernel)⟩
theorem lw_p6 : lw_okq (⟨"ElevenParts$Reckoner", "begunIn", "(LElevenParts$Plan;IIII)I"⟩, 10) := ⟨⟨by decide +kernel, by decide +kernel⟩, List.mem_of_getElem? (i := 130) (by decide +kernel), List.mem_of_getElem? (i := 505) (by decide +kernel), List.mem_of_getElem? (i := 506) (by decide +kernel)⟩
theorem lw_p7 : lw_okq (⟨"ElevenParts$Reckoner", "nextWeek", "(LElevenParts$Plan;III)I"⟩, 10) := ⟨⟨by decide +kernel, by decide +kernel⟩, List.mem_of_getElem? (i := 130) (by decide +kernel), List.mem_of_getElem? (i := 509) (by decide +kernel), List.mem_of_getElem? (i := 510) (by decide +kernel)⟩
theorem lw_p8 : lw_okq (⟨"ElevenParts$Reckoner", "fillChances", "(LElevenParts$Plan;)V"⟩, 10) := ⟨⟨by decide +kernel, by decide +kernel⟩, List.mem_of_getElem? (i := 130) (by decide +kernel), List.mem_of_getElem? (i := 527) (by decide +kernel), List.mem_of_getElem? (i := 528) (by decide +kernel)⟩
theorem lw_p9 : lw_okq (⟨"ElevenParts", "feedFour", "(I)V"⟩, 12) := ⟨⟨by decide +kernel, by decide +kernel⟩, List.mem_of_getElem? (i := 21) (by decide +kernel), List.mem_of_getElem? (i := 597) (by decide +kernel), List.mem_of_getElem? (i := 598) (by decide +kernel)⟩
theorem lw_p10 : lw_okq (⟨"ElevenParts$Reader", "lookOn", "()V"⟩, 10) := ⟨⟨by decide +kernel, by decide +kernel⟩, List.mem_of_getElem? (i := 170) (by decide +kernel), List.mem_of_getElem? (i := 616) (by decide +kernel), List.mem_of_getElem? (i := 617) (by decide +kernel)⟩
theorem lw_p11 : lw_okq (⟨"ElevenParts$Reader", "byteAt", "(I)I"⟩, 10) := ⟨⟨by decide +kernel, by decide +kernel⟩, List.mem_of_getElem? (i := 170) (by decide +kernel), List.mem_of_getElem? (i := 620) (by decide +kernel), List.mem_of_getElem? (i := 621) (by decide +kernel)⟩
theorem lw_p12 : lw_okq (⟨"ElevenParts$Reader", "keyInSight", "()I"⟩, 10) := ⟨⟨by decide +kernel, by decide +kernel⟩, List.mem_of_getElem? (i := 170) (by decide +kernel), List.mem_of_getElem? (i := 630) (by decide +kernel), List.mem_of_getElem? (i := 631) (by decide +kernel)⟩
theorem lw_p13 : lw_okq (⟨"ElevenParts$Reader", "isWord", "(Ljava/lang/String;)Z"⟩, 10) := ⟨⟨by decide +kernel, by decide +kernel⟩, List.mem_of_getElem? (i := 170) (by decide +kernel), List.mem_of_getElem? (i := 635) (by decide +kernel), List.mem_of_getElem? (i := 636) (by decide +kernel)⟩
theorem lw_p14 : lw_okq (⟨"ElevenParts$Reader", "readLevel", "(III)V"⟩, 10) := ⟨⟨by decide +kernel, by decide +kernel⟩, List.mem_of_getElem? (i := 170) (by decide +kernel), List.mem_of_getElem? (i := 689) (by decide +kernel), List.mem_of_getElem? (i := 690) (by decide +kernel)⟩
theorem lw_p15 : lw_okq (⟨"ElevenParts$Reader", "readPiece", "(II)V"⟩, 10) := ⟨⟨by decide +kernel, by decide +kernel⟩, List.mem_of_getElem? (i := 170) (by decide +kernel), List.mem_of_getElem? (i := 693) (by decide +kernel), List.mem_of_getElem? (i := 694) (by decide +kernel)⟩
def lw_privs_1 : List (MethodName × Nat) := [(⟨"ElevenParts$Reckoner", "thoughtOf", "(LElevenParts$Plan;LElevenParts$Part;)I"⟩, 10), (⟨"ElevenParts$Reckoner", "valueOf", "(LElevenParts$Text;III)I"⟩, 10), (⟨"ElevenParts$Reckoner", "theEnd", "(LElevenParts$Plan;)I"⟩, 10), (⟨"ElevenParts$Reckoner", "beginOf", "(LElevenParts$Plan;I)I"⟩, 10), (⟨"ElevenParts$Reckoner", "fillWays", "(LElevenParts$Plan;)V"⟩, 10), (⟨"ElevenParts$Reckoner", "doneIn", "(LElevenParts$Plan;III)I"⟩, 10), (⟨"ElevenParts$Reckoner", "begunIn", "(LElevenParts$Plan;IIII)I"⟩, 10), (⟨"ElevenParts$Reckoner", "nextWeek", "(LElevenParts$Plan;III)I"⟩, 10), (⟨"ElevenParts$Reckoner", "fillChances", "(LElevenParts$Plan;)V"⟩, 10), (⟨"ElevenParts", "feedFour", "(I)V"⟩, 12), (⟨"ElevenParts$Reader", "lookOn", "()V"⟩, 10), (⟨"ElevenParts$Reader", "byteAt", "(I)I"⟩, 10), (⟨"ElevenParts$Reader", "keyInSight", "()I"⟩, 10), (⟨"ElevenParts$Reader", "isWord", "(Ljava/lang/String;)Z"⟩, 10), (⟨"ElevenParts$Reader", "readLevel", "(III)V"⟩, 10), (⟨"ElevenParts$Reader", "readPiece", "(II)V"⟩, 10)]
theorem lw_r1 : ∀ q ∈ lw_privs_1, lw_okq q := List.forall_mem_cons.mpr ⟨lw_p0, List.forall_mem_cons.mpr ⟨lw_p1, List.forall_mem_cons.mpr ⟨lw_p2, List.forall_mem_cons.mpr ⟨lw_p3, List.forall_mem_cons.mpr ⟨lw_p4, List.forall_mem_cons.mpr ⟨lw_p5, List.forall_mem_cons.mpr ⟨lw_p6, List.forall_mem_cons.mpr ⟨lw_p7, List.forall_mem_cons.mpr ⟨lw_p8, List.forall_mem_cons.mpr ⟨lw_p9, List.forall_mem_cons.mpr ⟨lw_p10, List.forall_mem_cons.mpr ⟨lw_p11, List.forall_mem_cons.mpr ⟨lw_p12, List.forall_mem_cons.mpr ⟨lw_p13, List.forall_mem_cons.mpr ⟨lw_p14, List.forall_mem_cons.mpr ⟨lw_p15, fun _ h => absurd h List.not_mem_nil⟩⟩⟩⟩⟩⟩⟩⟩⟩⟩⟩⟩⟩⟩⟩⟩
theorem lw_p16 : lw_okq (⟨"ElevenParts$Reader", "numberInSight", "()I"⟩, 10) := ⟨⟨by decide +kernel, by decide +kernel⟩, List.mem_of_getElem? (i := 170) (by decide +kernel), List.mem_of_getElem? (i := 697) (by decide +kernel), List.mem_of_getElem? (i := 698) (by decide +kernel)⟩
theorem lw_p17 : lw_okq (⟨"ElevenParts$Reader", "readOperand", "(I)V"⟩, 10) := ⟨⟨by decide +kernel, by decide +kernel⟩, List.mem_of_getElem? (i := 170) (by decide +kernel), List.mem_of_getElem? (i := 701) (by decide +kernel), List.mem_of_getElem? (i := 702) (by decide +kernel)⟩
theorem lw_p18 : lw_okq (⟨"ElevenParts$Reader", "put", "(I)V"⟩, 10) := ⟨⟨by decide +kernel, by decide +kernel⟩, List.mem_of_getElem? (i := 170) (by decide +kernel), List.mem_of_getElem? (i := 705) (by decide +kernel), List.mem_of_getElem? (i := 706) (by decide +kernel)⟩
theorem lw_p19 : lw_okq (⟨"ElevenParts$Reader", "nameInSight", "()I"⟩, 10) := ⟨⟨by decide +kernel, by decide +kernel⟩, List.mem_of_getElem? (i := 170) (by decide +kernel), List.mem_of_getElem? (i := 709) (by decide +kernel), List.mem_of_getElem? (i := 710) (by decide +kernel)⟩
theorem lw_p20 : lw_okq (⟨"ElevenParts$Reader", "isSign", "(I)Z"⟩, 10) := ⟨⟨by decide +kernel, by decide +kernel⟩, List.mem_of_getElem? (i := 170) (by decide +kernel), List.mem_of_getElem? (i := 771) (by decide +kernel), List.mem_of_getElem? (i := 772) (by decide +kernel)⟩
theorem lw_p21 : lw_okq (⟨"ElevenParts$Reader", "failHere", "()V"⟩, 10) := ⟨⟨by decide +kernel, by decide +kernel⟩, List.mem_of_getElem? (i := 170) (by decide +kernel), List.mem_of_getElem? (i := 775) (by decide +kernel), List.mem_of_getElem? (i := 776) (by decide +kernel)⟩
theorem lw_p22 : lw_okq (⟨"ElevenParts$Reader", "isSignOf", "(I)Z"⟩, 10) := ⟨⟨by decide +kernel, by decide +kernel⟩, List.mem_of_getElem? (i := 170) (by decide +kernel), List.mem_of_getElem? (i := 779) (by decide +kernel), List.mem_of_getElem? (i := 780) (by decide +kernel)⟩
theorem lw_p23 : lw_okq (⟨"ElevenParts", "sheetAt", "(I)LElevenParts$Sheet;"⟩, 12) := ⟨⟨by decide +kernel, by decide +kernel⟩, List.mem_of_getElem? (i := 21) (by decide +kernel), List.mem_of_getElem? (i := 838) (by decide +kernel), List.mem_of_getElem? (i := 839) (by decide +kernel)⟩
theorem lw_p24 : lw_okq (⟨"ElevenParts$Sheet", "numbersBelow", "(I)I"⟩, 3) := ⟨⟨by decide +kernel, by decide +kernel⟩, List.mem_of_getElem? (i := 208) (by decide +kernel), List.mem_of_getElem? (i := 901) (by decide +kernel), List.mem_of_getElem? (i := 902) (by decide +kernel)⟩
theorem lw_p25 : lw_okq (⟨"ElevenParts", "slotAt", "(I)LElevenParts$Slot;"⟩, 12) := ⟨⟨by decide +kernel, by decide +kernel⟩, List.mem_of_getElem? (i := 21) (by decide +kernel), List.mem_of_getElem? (i := 918) (by decide +kernel), List.mem_of_getElem? (i := 919) (by decide +kernel)⟩
theorem lw_p26 : lw_okq (⟨"ElevenParts", "isTold", "(III)Z"⟩, 12) := ⟨⟨by decide +kernel, by decide +kernel⟩, List.mem_of_getElem? (i := 21) (by decide +kernel), List.mem_of_getElem? (i := 962) (by decide +kernel), List.mem_of_getElem? (i := 963) (by decide +kernel)⟩
theorem lw_p27 : lw_okq (⟨"ElevenPartsModel", "comes", "(IIII)V"⟩, 38) := ⟨⟨by decide +kernel, by decide +kernel⟩, List.mem_of_getElem? (i := 979) (by decide +kernel), List.mem_of_getElem? (i := 1115) (by decide +kernel), List.mem_of_getElem? (i := 1116) (by decide +kernel)⟩
theorem lw_p28 : lw_okq (⟨"ElevenPartsModel", "isPart", "(I)Z"⟩, 38) := ⟨⟨by decide +kernel, by decide +kernel⟩, List.mem_of_getElem? (i := 979) (by decide +kernel), List.mem_of_getElem? (i := 1123) (by decide +kernel), List.mem_of_getElem? (i := 1124) (by decide +kernel)⟩
theorem lw_p29 : lw_okq (⟨"ElevenPartsModel", "of", "(II)I"⟩, 38) := ⟨⟨by decide +kernel, by decide +kernel⟩, List.mem_of_getElem? (i := 979) (by decide +kernel), List.mem_of_getElem? (i := 1127) (by decide +kernel), List.mem_of_getElem? (i := 1128) (by decide +kernel)⟩
theorem lw_p30 : lw_okq (⟨"ElevenPartsModel", "says", "(I)I"⟩, 38) := ⟨⟨by decide +kernel, by decide +kernel⟩, List.mem_of_getElem? (i := 979) (by decide +kernel), List.mem_of_getElem? (i := 1131) (by decide +kernel), List.mem_of_getElem? (i := 1132) (by decide +kernel)⟩
theorem lw_p31 : lw_okq (⟨"ElevenPartsModel", "counts", "(I)I"⟩, 38) := ⟨⟨by decide +kernel, by decide +kernel⟩, List.mem_of_getElem? (i := 979) (by decide +kernel), List.mem_of_getElem? (i := 1135) (by decide +kernel), List.mem_of_getElem? (i := 1136) (by decide +kernel)⟩
def lw_privs_2 : List (MethodName × Nat) := [(⟨"ElevenParts$Reader", "numberInSight", "()I"⟩, 10), (⟨"ElevenParts$Reader", "readOperand", "(I)V"⟩, 10), (⟨"ElevenParts$Reader", "put", "(I)V"⟩, 10), (⟨"ElevenParts$Reader", "nameInSight", "()I"⟩, 10), (⟨"ElevenParts$Reader", "isSign", "(I)Z"⟩, 10), (⟨"ElevenParts$Reader", "failHere", "()V"⟩, 10), (⟨"ElevenParts$Reader", "isSignOf", "(I)Z"⟩, 10), (⟨"ElevenParts", "sheetAt", "(I)LElevenParts$Sheet;"⟩, 12), (⟨"ElevenParts$Sheet", "numbersBelow", "(I)I"⟩, 3), (⟨"ElevenParts", "slotAt", "(I)LElevenParts$Slot;"⟩, 12), (⟨"ElevenParts", "isTold", "(III)Z"⟩, 12), (⟨"ElevenPartsModel", "comes", "(IIII)V"⟩, 38), (⟨"ElevenPartsModel", "isPart", "(I)Z"⟩, 38), (⟨"ElevenPartsModel", "of", "(II)I"⟩, 38), (⟨"ElevenPartsModel", "says", "(I)I"⟩, 38), (⟨"ElevenPartsModel", "counts", "(I)I"⟩, 38)]
theorem lw_r2 : ∀ q ∈ lw_privs_2, lw_okq q := List.forall_mem_cons.mpr ⟨lw_p16, List.forall_mem_cons.mpr ⟨lw_p17, List.forall_mem_cons.mpr ⟨lw_p18, List.forall_mem_cons.mpr ⟨lw_p19, List.forall_mem_cons.mpr ⟨lw_p20, List.forall_mem_cons.mpr ⟨lw_p21, List.forall_mem_cons.mpr ⟨lw_p22, List.forall_mem_cons.mpr ⟨lw_p23, List.forall_mem_cons.mpr ⟨lw_p24, List.forall_mem_cons.mpr ⟨lw_p25, List.forall_mem_cons.mpr ⟨lw_p26, List.forall_mem_cons.mpr ⟨lw_p27, List.forall_mem_cons.mpr ⟨lw_p28, List.forall_mem_cons.mpr ⟨lw_p29, List.forall_mem_cons.mpr ⟨lw_p30, List.forall_mem_cons.mpr ⟨lw_p31, fun _ h => absurd h List.not_mem_nil⟩⟩⟩⟩⟩⟩⟩⟩⟩⟩⟩⟩⟩⟩⟩⟩
theorem lw_p32 : lw_okq (⟨"ElevenPartsModel", "textAt", "(I)I"⟩, 38) := ⟨⟨by decide +kernel, by decide +kernel⟩, List.mem_of_getElem? (i := 979) (by decide +kernel), List.mem_of_getElem? (i := 1139) (by decide +kernel), List.mem_of_getElem? (i := 1140) (by decide +kernel)⟩
theorem lw_p33 : lw_okq (⟨"ElevenPartsModel", "factorOf", "(I)I"⟩, 38) := ⟨⟨by decide +kernel, by decide +kernel⟩, List.mem_of_getElem? (i := 979) (by decide +kernel), List.mem_of_getElem? (i := 1143) (by decide +kernel), List.mem_of_getElem? (i := 1144) (by decide +kernel)⟩
theorem lw_p34 : lw_okq (⟨"ElevenPartsModel", "worked", "(I)I"⟩, 38) := ⟨⟨by decide +kernel, by decide +kernel⟩, List.mem_of_getElem? (i := 979) (by decide +kernel), List.mem_of_getElem? (i := 1147) (by decide +kernel), List.mem_of_getElem? (i := 1148) (by decide +kernel)⟩
theorem lw_p35 : lw_okq (⟨"ElevenPartsModel", "waitsOf", "(I)I"⟩, 38) := ⟨⟨by decide +kernel, by decide +kernel⟩, List.mem_of_getElem? (i := 979) (by decide +kernel), List.mem_of_getElem? (i := 1160) (by decide +kernel), List.mem_of_getElem? (i := 1161) (by decide +kernel)⟩
theorem lw_p36 : lw_okq (⟨"ElevenPartsModel", "worth", "(I)I"⟩, 38) := ⟨⟨by decide +kernel, by decide +kernel⟩, List.mem_of_getElem? (i := 979) (by decide +kernel), List.mem_of_getElem? (i := 1167) (by decide +kernel), List.mem_of_getElem? (i := 1168) (by decide +kernel)⟩
theorem lw_p37 : lw_okq (⟨"ElevenPartsModel", "findLatest", "()V"⟩, 38) := ⟨⟨by decide +kernel, by decide +kernel⟩, List.mem_of_getElem? (i := 979) (by decide +kernel), List.mem_of_getElem? (i := 1171) (by decide +kernel), List.mem_of_getElem? (i := 1172) (by decide +kernel)⟩
theorem lw_p38 : lw_okq (⟨"ElevenPartsModel", "endSaid", "()I"⟩, 38) := ⟨⟨by decide +kernel, by decide +kernel⟩, List.mem_of_getElem? (i := 979) (by decide +kernel), List.mem_of_getElem? (i := 1175) (by decide +kernel), List.mem_of_getElem? (i := 1176) (by decide +kernel)⟩
theorem lw_p39 : lw_okq (⟨"ElevenPartsModel", "laySaid", "()V"⟩, 38) := ⟨⟨by decide +kernel, by decide +kernel⟩, List.mem_of_getElem? (i := 979) (by decide +kernel), List.mem_of_getElem? (i := 1179) (by decide +kernel), List.mem_of_getElem? (i := 1180) (by decide +kernel)⟩
theorem lw_p40 : lw_okq (⟨"ElevenPartsModel", "layWaits", "()V"⟩, 38) := ⟨⟨by decide +kernel, by decide +kernel⟩, List.mem_of_getElem? (i := 979) (by decide +kernel), List.mem_of_getElem? (i := 1183) (by decide +kernel), List.mem_of_getElem? (i := 1184) (by decide +kernel)⟩
theorem lw_p41 : lw_okq (⟨"ElevenPartsModel", "endBy", "()I"⟩, 38) := ⟨⟨by decide +kernel, by decide +kernel⟩, List.mem_of_getElem? (i := 979) (by decide +kernel), List.mem_of_getElem? (i := 1187) (by decide +kernel), List.mem_of_getElem? (i := 1188) (by decide +kernel)⟩
theorem lw_p42 : lw_okq (⟨"ElevenPartsModel", "slack", "(I)I"⟩, 38) := ⟨⟨by decide +kernel, by decide +kernel⟩, List.mem_of_getElem? (i := 979) (by decide +kernel), List.mem_of_getElem? (i := 1194) (by decide +kernel), List.mem_of_getElem? (i := 1195) (by decide +kernel)⟩
theorem lw_p43 : lw_okq (⟨"ElevenPartsModel", "becomes", "(II)I"⟩, 38) := ⟨⟨by decide +kernel, by decide +kernel⟩, List.mem_of_getElem? (i := 979) (by decide +kernel), List.mem_of_getElem? (i := 1210) (by decide +kernel), List.mem_of_getElem? (i := 1211) (by decide +kernel)⟩
theorem lw_p44 : lw_okq (⟨"ElevenPartsModel", "writes", "(III)V"⟩, 38) := ⟨⟨by decide +kernel, by decide +kernel⟩, List.mem_of_getElem? (i := 979) (by decide +kernel), List.mem_of_getElem? (i := 1229) (by decide +kernel), List.mem_of_getElem? (i := 1230) (by decide +kernel)⟩
theorem lw_p45 : lw_okq (⟨"ElevenPartsModel", "drawn", "()I"⟩, 38) := ⟨⟨by decide +kernel, by decide +kernel⟩, List.mem_of_getElem? (i := 979) (by decide +kernel), List.mem_of_getElem? (i := 1247) (by decide +kernel), List.mem_of_getElem? (i := 1248) (by decide +kernel)⟩
theorem lw_p46 : lw_okq (⟨"ElevenPartsModel", "criticalSet", "()I"⟩, 38) := ⟨⟨by decide +kernel, by decide +kernel⟩, List.mem_of_getElem? (i := 979) (by decide +kernel), List.mem_of_getElem? (i := 1268) (by decide +kernel), List.mem_of_getElem? (i := 1269) (by decide +kernel)⟩
theorem lw_p47 : lw_okq (⟨"ElevenPartsModel", "staffedBy", "(III)I"⟩, 38) := ⟨⟨by decide +kernel, by decide +kernel⟩, List.mem_of_getElem? (i := 979) (by decide +kernel), List.mem_of_getElem? (i := 1277) (by decide +kernel), List.mem_of_getElem? (i := 1278) (by decide +kernel)⟩
def lw_privs_3 : List (MethodName × Nat) := [(⟨"ElevenPartsModel", "textAt", "(I)I"⟩, 38), (⟨"ElevenPartsModel", "factorOf", "(I)I"⟩, 38), (⟨"ElevenPartsModel", "worked", "(I)I"⟩, 38), (⟨"ElevenPartsModel", "waitsOf", "(I)I"⟩, 38), (⟨"ElevenPartsModel", "worth", "(I)I"⟩, 38), (⟨"ElevenPartsModel", "findLatest", "()V"⟩, 38), (⟨"ElevenPartsModel", "endSaid", "()I"⟩, 38), (⟨"ElevenPartsModel", "laySaid", "()V"⟩, 38), (⟨"ElevenPartsModel", "layWaits", "()V"⟩, 38), (⟨"ElevenPartsModel", "endBy", "()I"⟩, 38), (⟨"ElevenPartsModel", "slack", "(I)I"⟩, 38), (⟨"ElevenPartsModel", "becomes", "(II)I"⟩, 38), (⟨"ElevenPartsModel", "writes", "(III)V"⟩, 38), (⟨"ElevenPartsModel", "drawn", "()I"⟩, 38), (⟨"ElevenPartsModel", "criticalSet", "()I"⟩, 38), (⟨"ElevenPartsModel", "staffedBy", "(III)I"⟩, 38)]
theorem lw_r3 : ∀ q ∈ lw_privs_3, lw_okq q := List.forall_mem_cons.mpr ⟨lw_p32, List.forall_mem_cons.mpr ⟨lw_p33, List.forall_mem_cons.mpr ⟨lw_p34, List.forall_mem_cons.mpr ⟨lw_p35, List.forall_mem_cons.mpr ⟨lw_p36, List.forall_mem_cons.mpr ⟨lw_p37, List.forall_mem_cons.mpr ⟨lw_p38, List.forall_mem_cons.mpr ⟨lw_p39, List.forall_mem_cons.mpr ⟨lw_p40, List.forall_mem_cons.mpr ⟨lw_p41, List.forall_mem_cons.mpr ⟨lw_p42, List.forall_mem_cons.mpr ⟨lw_p43, List.forall_mem_cons.mpr ⟨lw_p44, List.forall_mem_cons.mpr ⟨lw_p45, List.forall_mem_cons.mpr ⟨lw_p46, List.forall_mem_cons.mpr ⟨lw_p47, fun _ h => absurd h List.not_mem_nil⟩⟩⟩⟩⟩⟩⟩⟩⟩⟩⟩⟩⟩⟩⟩⟩
theorem lw_p48 : lw_okq (⟨"ElevenPartsModel", "doneBy", "(III)I"⟩, 38) := ⟨⟨by decide +kernel, by decide +kernel⟩, List.mem_of_getElem? (i := 979) (by decide +kernel), List.mem_of_getElem? (i := 1281) (by decide +kernel), List.mem_of_getElem? (i := 1282) (by decide +kernel)⟩
theorem lw_p49 : lw_okq (⟨"ElevenPartsModel", "weightUpTo", "(I)J"⟩, 38) := ⟨⟨by decide +kernel, by decide +kernel⟩, List.mem_of_getElem? (i := 979) (by decide +kernel), List.mem_of_getElem? (i := 1295) (by decide +kernel), List.mem_of_getElem? (i := 1296) (by decide +kernel)⟩
theorem lw_p50 : lw_okq (⟨"ElevenPartsModel", "weightOf", "(I)J"⟩, 38) := ⟨⟨by decide +kernel, by decide +kernel⟩, List.mem_of_getElem? (i := 979) (by decide +kernel), List.mem_of_getElem? (i := 1299) (by decide +kernel), List.mem_of_getElem? (i := 1300) (by decide +kernel)⟩
theorem lw_p51 : lw_okq (⟨"ElevenPartsModel", "layLong", "(I)V"⟩, 38) := ⟨⟨by decide +kernel, by decide +kernel⟩, List.mem_of_getElem? (i := 979) (by decide +kernel), List.mem_of_getElem? (i := 1303) (by decide +kernel), List.mem_of_getElem? (i := 1304) (by decide +kernel)⟩
theorem lw_p52 : lw_okq (⟨"ElevenPartsModel", "allWeights", "()J"⟩, 38) := ⟨⟨by decide +kernel, by decide +kernel⟩, List.mem_of_getElem? (i := 979) (by decide +kernel), List.mem_of_getElem? (i := 1307) (by decide +kernel), List.mem_of_getElem? (i := 1308) (by decide +kernel)⟩
theorem lw_p53 : lw_okq (⟨"ElevenPartsModel", "layLikely", "()I"⟩, 38) := ⟨⟨by decide +kernel, by decide +kernel⟩, List.mem_of_getElem? (i := 979) (by decide +kernel), List.mem_of_getElem? (i := 1319) (by decide +kernel), List.mem_of_getElem? (i := 1320) (by decide +kernel)⟩
theorem lw_p54 : lw_okq (⟨"ElevenPartsModel", "goesBy", "(I)Z"⟩, 38) := ⟨⟨by decide +kernel, by decide +kernel⟩, List.mem_of_getElem? (i := 979) (by decide +kernel), List.mem_of_getElem? (i := 1332) (by decide +kernel), List.mem_of_getElem? (i := 1333) (by decide +kernel)⟩
theorem lw_p55 : lw_okq (⟨"ElevenPartsModel", "parse", "()I"⟩, 38) := ⟨⟨by decide +kernel, by decide +kernel⟩, List.mem_of_getElem? (i := 979) (by decide +kernel), List.mem_of_getElem? (i := 1352) (by decide +kernel), List.mem_of_getElem? (i := 1353) (by decide +kernel)⟩
theorem lw_p56 : lw_okq (⟨"ElevenPartsModel", "nextToken", "()V"⟩, 38) := ⟨⟨by decide +kernel, by decide +kernel⟩, List.mem_of_getElem? (i := 979) (by decide +kernel), List.mem_of_getElem? (i := 1356) (by decide +kernel), List.mem_of_getElem? (i := 1357) (by decide +kernel)⟩
theorem lw_p57 : lw_okq (⟨"ElevenPartsModel", "isLetter", "(I)Z"⟩, 38) := ⟨⟨by decide +kernel, by decide +kernel⟩, List.mem_of_getElem? (i := 979) (by decide +kernel), List.mem_of_getElem? (i := 1360) (by decide +kernel), List.mem_of_getElem? (i := 1361) (by decide +kernel)⟩
theorem lw_p58 : lw_okq (⟨"ElevenPartsModel", "isDigit", "(I)Z"⟩, 38) := ⟨⟨by decide +kernel, by decide +kernel⟩, List.mem_of_getElem? (i := 979) (by decide +kernel), List.mem_of_getElem? (i := 1366) (by decide +kernel), List.mem_of_getElem? (i := 1367) (by decide +kernel)⟩
theorem lw_p59 : lw_okq (⟨"ElevenPartsModel", "key", "()I"⟩, 38) := ⟨⟨by decide +kernel, by decide +kernel⟩, List.mem_of_getElem? (i := 979) (by decide +kernel), List.mem_of_getElem? (i := 1372) (by decide +kernel), List.mem_of_getElem? (i := 1373) (by decide +kernel)⟩
theorem lw_p60 : lw_okq (⟨"ElevenPartsModel", "isWordAt", "(IIII)Z"⟩, 38) := ⟨⟨by decide +kernel, by decide +kernel⟩, List.mem_of_getElem? (i := 979) (by decide +kernel), List.mem_of_getElem? (i := 1376) (by decide +kernel), List.mem_of_getElem? (i := 1377) (by decide +kernel)⟩
theorem lw_p61 : lw_okq (⟨"ElevenPartsModel", "either", "(I)Z"⟩, 38) := ⟨⟨by decide +kernel, by decide +kernel⟩, List.mem_of_getElem? (i := 979) (by decide +kernel), List.mem_of_getElem? (i := 1380) (by decide +kernel), List.mem_of_getElem? (i := 1381) (by decide +kernel)⟩
theorem lw_p62 : lw_okq (⟨"ElevenPartsModel", "both", "(I)Z"⟩, 38) := ⟨⟨by decide +kernel, by decide +kernel⟩, List.mem_of_getElem? (i := 979) (by decide +kernel), List.mem_of_getElem? (i := 1384) (by decide +kernel), List.mem_of_getElem? (i := 1385) (by decide +kernel)⟩
theorem lw_p63 : lw_okq (⟨"ElevenPartsModel", "test", "(I)Z"⟩, 38) := ⟨⟨by decide +kernel, by decide +kernel⟩, List.mem_of_getElem? (i := 979) (by decide +kernel), List.mem_of_getElem? (i := 1388) (by decide +kernel), List.mem_of_getElem? (i := 1389) (by decide +kernel)⟩
def lw_privs_4 : List (MethodName × Nat) := [(⟨"ElevenPartsModel", "doneBy", "(III)I"⟩, 38), (⟨"ElevenPartsModel", "weightUpTo", "(I)J"⟩, 38), (⟨"ElevenPartsModel", "weightOf", "(I)J"⟩, 38), (⟨"ElevenPartsModel", "layLong", "(I)V"⟩, 38), (⟨"ElevenPartsModel", "allWeights", "()J"⟩, 38), (⟨"ElevenPartsModel", "layLikely", "()I"⟩, 38), (⟨"ElevenPartsModel", "goesBy", "(I)Z"⟩, 38), (⟨"ElevenPartsModel", "parse", "()I"⟩, 38), (⟨"ElevenPartsModel", "nextToken", "()V"⟩, 38), (⟨"ElevenPartsModel", "isLetter", "(I)Z"⟩, 38), (⟨"ElevenPartsModel", "isDigit", "(I)Z"⟩, 38), (⟨"ElevenPartsModel", "key", "()I"⟩, 38), (⟨"ElevenPartsModel", "isWordAt", "(IIII)Z"⟩, 38), (⟨"ElevenPartsModel", "either", "(I)Z"⟩, 38), (⟨"ElevenPartsModel", "both", "(I)Z"⟩, 38), (⟨"ElevenPartsModel", "test", "(I)Z"⟩, 38)]
theorem lw_r4 : ∀ q ∈ lw_privs_4, lw_okq q := List.forall_mem_cons.mpr ⟨lw_p48, List.forall_mem_cons.mpr ⟨lw_p49, List.forall_mem_cons.mpr ⟨lw_p50, List.forall_mem_cons.mpr ⟨lw_p51, List.forall_mem_cons.mpr ⟨lw_p52, List.forall_mem_cons.mpr ⟨lw_p53, List.forall_mem_cons.mpr ⟨lw_p54, List.forall_mem_cons.mpr ⟨lw_p55, List.forall_mem_cons.mpr ⟨lw_p56, List.forall_mem_cons.mpr ⟨lw_p57, List.forall_mem_cons.mpr ⟨lw_p58, List.forall_mem_cons.mpr ⟨lw_p59, List.forall_mem_cons.mpr ⟨lw_p60, List.forall_mem_cons.mpr ⟨lw_p61, List.forall_mem_cons.mpr ⟨lw_p62, List.forall_mem_cons.mpr ⟨lw_p63, fun _ h => absurd h List.not_mem_nil⟩⟩⟩⟩⟩⟩⟩⟩⟩⟩⟩⟩⟩⟩⟩⟩
theorem lw_p64 : lw_okq (⟨"ElevenPartsModel", "sum", "(I)Z"⟩, 38) := ⟨⟨by decide +kernel, by decide +kernel⟩, List.mem_of_getElem? (i := 979) (by decide +kernel), List.mem_of_getElem? (i := 1392) (by decide +kernel), List.mem_of_getElem? (i := 1393) (by decide +kernel)⟩
theorem lw_p65 : lw_okq (⟨"ElevenPartsModel", "term", "(I)Z"⟩, 38) := ⟨⟨by decide +kernel, by decide +kernel⟩, List.mem_of_getElem? (i := 979) (by decide +kernel), List.mem_of_getElem? (i := 1396) (by decide +kernel), List.mem_of_getElem? (i := 1397) (by decide +kernel)⟩
theorem lw_p66 : lw_okq (⟨"ElevenPartsModel", "part0", "(I)Z"⟩, 38) := ⟨⟨by decide +kernel, by decide +kernel⟩, List.mem_of_getElem? (i := 979) (by decide +kernel), List.mem_of_getElem? (i := 1400) (by decide +kernel), List.mem_of_getElem? (i := 1401) (by decide +kernel)⟩
theorem lw_p67 : lw_okq (⟨"ElevenPartsModel", "step", "(II)V"⟩, 38) := ⟨⟨by decide +kernel, by decide +kernel⟩, List.mem_of_getElem? (i := 979) (by decide +kernel), List.mem_of_getElem? (i := 1404) (by decide +kernel), List.mem_of_getElem? (i := 1405) (by decide +kernel)⟩
theorem lw_p68 : lw_okq (⟨"ElevenPartsModel", "isSign", "(I)Z"⟩, 38) := ⟨⟨by decide +kernel, by decide +kernel⟩, List.mem_of_getElem? (i := 979) (by decide +kernel), List.mem_of_getElem? (i := 1411) (by decide +kernel), List.mem_of_getElem? (i := 1412) (by decide +kernel)⟩
theorem lw_p69 : lw_okq (⟨"ElevenPartsModel", "isText", "(I)Z"⟩, 38) := ⟨⟨by decide +kernel, by decide +kernel⟩, List.mem_of_getElem? (i := 979) (by decide +kernel), List.mem_of_getElem? (i := 1419) (by decide +kernel), List.mem_of_getElem? (i := 1420) (by decide +kernel)⟩
theorem lw_p70 : lw_okq (⟨"ElevenPartsModel", "setAside", "([I[I)V"⟩, 38) := ⟨⟨by decide +kernel, by decide +kernel⟩, List.mem_of_getElem? (i := 979) (by decide +kernel), List.mem_of_getElem? (i := 1488) (by decide +kernel), List.mem_of_getElem? (i := 1489) (by decide +kernel)⟩
def lw_privs_5 : List (MethodName × Nat) := [(⟨"ElevenPartsModel", "sum", "(I)Z"⟩, 38), (⟨"ElevenPartsModel", "term", "(I)Z"⟩, 38), (⟨"ElevenPartsModel", "part0", "(I)Z"⟩, 38), (⟨"ElevenPartsModel", "step", "(II)V"⟩, 38), (⟨"ElevenPartsModel", "isSign", "(I)Z"⟩, 38), (⟨"ElevenPartsModel", "isText", "(I)Z"⟩, 38), (⟨"ElevenPartsModel", "setAside", "([I[I)V"⟩, 38)]
theorem lw_r5 : ∀ q ∈ lw_privs_5, lw_okq q := List.forall_mem_cons.mpr ⟨lw_p64, List.forall_mem_cons.mpr ⟨lw_p65, List.forall_mem_cons.mpr ⟨lw_p66, List.forall_mem_cons.mpr ⟨lw_p67, List.forall_mem_cons.mpr ⟨lw_p68, List.forall_mem_cons.mpr ⟨lw_p69, List.forall_mem_cons.mpr ⟨lw_p70, fun _ h => absurd h List.not_mem_nil⟩⟩⟩⟩⟩⟩⟩
def lw_privs : List (MethodName × Nat) := lw_privs_1 ++ (lw_privs_2 ++ (lw_privs_3 ++ (lw_privs_4 ++ (lw_privs_5))))
def lw_tbl : List Cond := k2_sels lw_privs ++ tables_1
theorem lw_privs_ok : ∀ q ∈ lw_privs, lw_okq q := by
  show ∀ q ∈ lw_privs_1 ++ (lw_privs_2 ++ (lw_privs_3 ++ (lw_privs_4 ++ (lw_privs_5)))), lw_okq q
  exact List.forall_mem_append.mpr ⟨lw_r1, List.forall_mem_append.mpr ⟨lw_r2, List.forall_mem_append.mpr ⟨lw_r3, List.forall_mem_append.mpr ⟨lw_r4, lw_r5⟩⟩⟩⟩
/-! ===== BEGIN words of one list among another's, by their places ===== -/
theorem goodIn_r {big : List Cond} (ws : List Cond) (ps : List Nat) (hp : ws = ps.filterMap (fun i => big[i]?)) (h : ws.all goodWord = true) : GoodIn big ws := by
  intro w hw
  have h1 := List.all_eq_true.mp h w hw
  rw [hp] at hw
  obtain ⟨i, -, hi⟩ := List.mem_filterMap.mp hw
  have hm : w ∈ big := by first | exact List.mem_of_getElem? hi | exact List.getElem?_mem hi
  exact ⟨hm, good_of_word h1⟩
theorem goodIn_app {big a b : List Cond} (ha : GoodIn big a) (hb : GoodIn big b) : GoodIn big (a ++ b) := fun w h => (List.mem_append.mp h).elim (ha w) (hb w)
theorem goodIn_ca {big a b : List Cond} {c : Cond} (ha : GoodIn big (c :: a)) (hb : GoodIn big b) : GoodIn big (c :: (a ++ b)) := fun w h => (List.mem_cons.mp h).elim (fun e => ha w (List.mem_cons.mpr (Or.inl e))) (fun h => (List.mem_append.mp h).elim (fun h => ha w (List.mem_cons.mpr (Or.inr h))) (hb w))
theorem goodIn_sub {big ws : List Cond} (hm : ∀ w ∈ ws, w ∈ big) (h : ws.all goodWord = true) : GoodIn big ws := fun w hw => ⟨hm w hw, good_of_word (List.all_eq_true.mp h w hw)⟩
/-! ===== END ===== -/

/-! ===== BEGIN printed: names, fields, word lists, decode rows ===== -/
def RX0 : String := "ElevenParts$Book"
def TX0 : u_T := fun k => match k with
  | 0 => ("ElevenParts$Book", "sorts", "[I", true)
  | 1 => ("ElevenParts$Book", "saids", "[I", true)
  | 2 => ("ElevenParts$Book", "weres", "[I", true)
  | _ => ("ElevenParts$Book", "size", "I", false)
def tyX0 : Nat → FieldType := fun k => match k with
  | 0 => .array .int
  | 1 => .array .int
  | 2 => .array .int
  | _ => .int
abbrev wsX00 : List Cond := u_ws RX0 TX0 4
theorem nmX0 : ∀ a, a < 4 → ∀ b, b < 4 → a ≠ b → (TX0 a).2.1 ≠ (TX0 b).2.1 := by decide +kernel
theorem tyX0_ok : ∀ k, k < 4 → parseFieldDescriptor (TX0 k).2.2.1 = some (tyX0 k) := by decide +kernel
abbrev cX0_init : ByteArray := prog_2_method_1_code
def yX0_init : MethodName := ⟨RX0, "<init>", "()V"⟩
abbrev cX0_addLine : ByteArray := prog_2_method_2_code
def yX0_addLine : MethodName := ⟨RX0, "addLine", "(III)V"⟩
abbrev cX0_lineTold : ByteArray := prog_2_method_3_code
def yX0_lineTold : MethodName := ⟨RX0, "lineTold", "(II)I"⟩
abbrev cX0_factorOf : ByteArray := prog_2_method_4_code
def yX0_factorOf : MethodName := ⟨RX0, "factorOf", "(I)I"⟩
abbrev cX0_takeFrom : ByteArray := prog_2_method_5_code
def yX0_takeFrom : MethodName := ⟨RX0, "takeFrom", "(LElevenParts$Book;)V"⟩
def RX1 : String := "ElevenParts$Part"
def TX1 : u_T := fun k => match k with
  | 0 => ("ElevenParts$Part", "kind", "I", false)
  | 1 => ("ElevenParts$Part", "guess", "I", false)
  | 2 => ("ElevenParts$Part", "tail", "I", false)
  | 3 => ("ElevenParts$Part", "sort", "I", false)
  | _ => ("ElevenParts$Part", "ahead", "I", false)
def tyX1 : Nat → FieldType := fun k => match k with
  | 0 => .int
  | 1 => .int
  | 2 => .int
  | 3 => .int
  | _ => .int
abbrev wsX10 : List Cond := u_ws RX1 TX1 5
theorem nmX1 : ∀ a, a < 5 → ∀ b, b < 5 → a ≠ b → (TX1 a).2.1 ≠ (TX1 b).2.1 := by decide +kernel
theorem tyX1_ok : ∀ k, k < 5 → parseFieldDescriptor (TX1 k).2.2.1 = some (tyX1 k) := by decide +kernel
abbrev cX1_init : ByteArray := prog_3_method_1_code
def yX1_init : MethodName := ⟨RX1, "<init>", "()V"⟩
abbrev cX1_takeFrom : ByteArray := prog_3_method_2_code
def yX1_takeFrom : MethodName := ⟨RX1, "takeFrom", "(LElevenParts$Part;)V"⟩
abbrev cX1_isOf : ByteArray := prog_3_method_3_code
def yX1_isOf : MethodName := ⟨RX1, "isOf", "(I)Z"⟩
abbrev cX1_worth : ByteArray := prog_3_method_4_code
def yX1_worth : MethodName := ⟨RX1, "worth", "()I"⟩
abbrev cX1_lengthShort : ByteArray := prog_3_method_5_code
def yX1_lengthShort : MethodName := ⟨RX1, "lengthShort", "()I"⟩
abbrev cX1_lengthLong : ByteArray := prog_3_method_6_code
def yX1_lengthLong : MethodName := ⟨RX1, "lengthLong", "()I"⟩
def RX2 : String := "ElevenParts$Plan"
def TX2 : u_T := fun k => match k with
  | 0 => ("ElevenParts$Plan", "parts", "[LElevenParts$Part;", true)
  | 1 => ("ElevenParts$Plan", "size", "I", false)
  | 2 => ("ElevenParts$Plan", "book", "LElevenParts$Book;", true)
  | 3 => ("ElevenParts$Plan", "texts", "[LElevenParts$Text;", true)
  | 4 => ("ElevenParts$Plan", "textCount", "I", false)
  | 5 => ("ElevenParts$Plan", "counting", "[I", true)
  | _ => ("ElevenParts$Plan", "z", "I", false)
def tyX2 : Nat → FieldType := fun k => match k with
  | 0 => .array (.object "ElevenParts$Part")
  | 1 => .int
  | 2 => .object "ElevenParts$Book"
  | 3 => .array (.object "ElevenParts$Text")
  | 4 => .int
  | 5 => .array .int
  | _ => .int
abbrev wsX20 : List Cond := u_ws RX2 TX2 7
theorem nmX2 : ∀ a, a < 7 → ∀ b, b < 7 → a ≠ b → (TX2 a).2.1 ≠ (TX2 b).2.1 := by decide +kernel
theorem tyX2_ok : ∀ k, k < 7 → parseFieldDescriptor (TX2 k).2.2.1 = some (tyX2 k) := by decide +kernel
abbrev cX2_init : ByteArray := prog_4_method_1_code
def yX2_init : MethodName := ⟨RX2, "<init>", "()V"⟩
abbrev cX2_partAt : ByteArray := prog_4_method_2_code
def yX2_partAt : MethodName := ⟨RX2, "partAt", "(I)LElevenParts$Part;"⟩
abbrev cX2_textAt : ByteArray := prog_4_method_3_code
def yX2_textAt : MethodName := ⟨RX2, "textAt", "(I)LElevenParts$Text;"⟩
abbrev cX2_addPart : ByteArray := prog_4_method_4_code
def yX2_addPart : MethodName := ⟨RX2, "addPart", "(IIII)I"⟩
abbrev cX2_addText : ByteArray := prog_4_method_5_code
def yX2_addText : MethodName := ⟨RX2, "addText", "(LElevenParts$Text;)I"⟩
abbrev cX2_textThatCounts : ByteArray := prog_4_method_6_code
def yX2_textThatCounts : MethodName := ⟨RX2, "textThatCounts", "(I)LElevenParts$Text;"⟩
abbrev cX2_draw : ByteArray := prog_4_method_7_code
def yX2_draw : MethodName := ⟨RX2, "draw", "()I"⟩
abbrev cX2_drawPart : ByteArray := prog_4_method_8_code
def yX2_drawPart : MethodName := ⟨RX2, "drawPart", "()V"⟩
abbrev cX2_takeFrom : ByteArray := prog_4_method_9_code
def yX2_takeFrom : MethodName := ⟨RX2, "takeFrom", "(LElevenParts$Plan;)V"⟩
def RX3 : String := "ElevenParts$Reader"
def TX3 : u_T := fun k => match k with
  | 0 => ("ElevenParts$Reader", "bytes", "[I", true)
  | 1 => ("ElevenParts$Reader", "length", "I", false)
  | 2 => ("ElevenParts$Reader", "code", "[I", true)
  | 3 => ("ElevenParts$Reader", "codeLength", "I", false)
  | 4 => ("ElevenParts$Reader", "key", "I", false)
  | 5 => ("ElevenParts$Reader", "operands", "I", false)
  | 6 => ("ElevenParts$Reader", "fault", "I", false)
  | 7 => ("ElevenParts$Reader", "sight", "I", false)
  | 8 => ("ElevenParts$Reader", "start", "I", false)
  | _ => ("ElevenParts$Reader", "stop", "I", false)
def tyX3 : Nat → FieldType := fun k => match k with
  | 0 => .array .int
  | 1 => .int
  | 2 => .array .int
  | 3 => .int
  | 4 => .int
  | 5 => .int
  | 6 => .int
  | 7 => .int
  | 8 => .int
  | _ => .int
abbrev wsX30 : List Cond := u_ws RX3 TX3 10
theorem nmX3 : ∀ a, a < 10 → ∀ b, b < 10 → a ≠ b → (TX3 a).2.1 ≠ (TX3 b).2.1 := by decide +kernel
theorem tyX3_ok : ∀ k, k < 10 → parseFieldDescriptor (TX3 k).2.2.1 = some (tyX3 k) := by decide +kernel
abbrev cX3_init : ByteArray := prog_5_method_1_code
def yX3_init : MethodName := ⟨RX3, "<init>", "()V"⟩
abbrev cX3_readTape : ByteArray := prog_5_method_2_code
def yX3_readTape : MethodName := ⟨RX3, "readTape", "([II)I"⟩
abbrev cX3_textRead : ByteArray := prog_5_method_3_code
def yX3_textRead : MethodName := ⟨RX3, "textRead", "()LElevenParts$Text;"⟩
abbrev cX3_byteAt : ByteArray := prog_5_method_4_code
def yX3_byteAt : MethodName := ⟨RX3, "byteAt", "(I)I"⟩
abbrev cX3_isLetter : ByteArray := prog_5_method_5_code
def yX3_isLetter : MethodName := ⟨RX3, "isLetter", "(I)Z"⟩
abbrev cX3_isDigit : ByteArray := prog_5_method_6_code
def yX3_isDigit : MethodName := ⟨RX3, "isDigit", "(I)Z"⟩
abbrev cX3_lookOn : ByteArray := prog_5_method_7_code
def yX3_lookOn : MethodName := ⟨RX3, "lookOn", "()V"⟩
abbrev cX3_isWord : ByteArray := prog_5_method_8_code
def yX3_isWord : MethodName := ⟨RX3, "isWord", "(Ljava/lang/String;)Z"⟩
abbrev cX3_keyInSight : ByteArray := prog_5_method_9_code
def yX3_keyInSight : MethodName := ⟨RX3, "keyInSight", "()I"⟩
abbrev cX3_nameInSight : ByteArray := prog_5_method_10_code
def yX3_nameInSight : MethodName := ⟨RX3, "nameInSight", "()I"⟩
abbrev cX3_numberInSight : ByteArray := prog_5_method_11_code
def yX3_numberInSight : MethodName := ⟨RX3, "numberInSight", "()I"⟩
abbrev cX3_isSign : ByteArray := prog_5_method_12_code
def yX3_isSign : MethodName := ⟨RX3, "isSign", "(I)Z"⟩
abbrev cX3_isSignOf : ByteArray := prog_5_method_13_code
def yX3_isSignOf : MethodName := ⟨RX3, "isSignOf", "(I)Z"⟩
abbrev cX3_put : ByteArray := prog_5_method_14_code
def yX3_put : MethodName := ⟨RX3, "put", "(I)V"⟩
abbrev cX3_failHere : ByteArray := prog_5_method_15_code
def yX3_failHere : MethodName := ⟨RX3, "failHere", "()V"⟩
abbrev cX3_readLevel : ByteArray := prog_5_method_16_code
def yX3_readLevel : MethodName := ⟨RX3, "readLevel", "(III)V"⟩
abbrev cX3_readPiece : ByteArray := prog_5_method_17_code
def yX3_readPiece : MethodName := ⟨RX3, "readPiece", "(II)V"⟩
abbrev cX3_readOperand : ByteArray := prog_5_method_18_code
def yX3_readOperand : MethodName := ⟨RX3, "readOperand", "(I)V"⟩
def RX4 : String := "ElevenParts$Reckoner"
def TX4 : u_T := fun k => match k with
  | 0 => ("ElevenParts$Reckoner", "lengths", "[I", true)
  | 1 => ("ElevenParts$Reckoner", "waits", "[I", true)
  | 2 => ("ElevenParts$Reckoner", "begins", "[I", true)
  | 3 => ("ElevenParts$Reckoner", "ends", "[I", true)
  | 4 => ("ElevenParts$Reckoner", "ways", "[I", true)
  | 5 => ("ElevenParts$Reckoner", "overs", "[I", true)
  | 6 => ("ElevenParts$Reckoner", "stack", "[I", true)
  | 7 => ("ElevenParts$Reckoner", "chances", "[J", true)
  | 8 => ("ElevenParts$Reckoner", "said", "I", false)
  | _ => ("ElevenParts$Reckoner", "was", "I", false)
def tyX4 : Nat → FieldType := fun k => match k with
  | 0 => .array .int
  | 1 => .array .int
  | 2 => .array .int
  | 3 => .array .int
  | 4 => .array .int
  | 5 => .array .int
  | 6 => .array .int
  | 7 => .array .long
  | 8 => .int
  | _ => .int
abbrev wsX40 : List Cond := u_ws RX4 TX4 10
theorem nmX4 : ∀ a, a < 10 → ∀ b, b < 10 → a ≠ b → (TX4 a).2.1 ≠ (TX4 b).2.1 := by decide +kernel
theorem tyX4_ok : ∀ k, k < 10 → parseFieldDescriptor (TX4 k).2.2.1 = some (tyX4 k) := by decide +kernel
abbrev cX4_init : ByteArray := prog_6_method_1_code
def yX4_init : MethodName := ⟨RX4, "<init>", "()V"⟩
abbrev cX4_valueOf : ByteArray := prog_6_method_2_code
def yX4_valueOf : MethodName := ⟨RX4, "valueOf", "(LElevenParts$Text;III)I"⟩
abbrev cX4_joined : ByteArray := prog_6_method_3_code
def yX4_joined : MethodName := ⟨RX4, "joined", "(III)I"⟩
abbrev cX4_thoughtOf : ByteArray := prog_6_method_4_code
def yX4_thoughtOf : MethodName := ⟨RX4, "thoughtOf", "(LElevenParts$Plan;LElevenParts$Part;)I"⟩
abbrev cX4_saysOf : ByteArray := prog_6_method_5_code
def yX4_saysOf : MethodName := ⟨RX4, "saysOf", "(LElevenParts$Plan;LElevenParts$Part;)I"⟩
abbrev cX4_cardFor : ByteArray := prog_6_method_6_code
def yX4_cardFor : MethodName := ⟨RX4, "cardFor", "(I)I"⟩
abbrev cX4_waitsOf : ByteArray := prog_6_method_7_code
def yX4_waitsOf : MethodName := ⟨RX4, "waitsOf", "(LElevenParts$Plan;LElevenParts$Part;)I"⟩
abbrev cX4_beginOf : ByteArray := prog_6_method_8_code
def yX4_beginOf : MethodName := ⟨RX4, "beginOf", "(LElevenParts$Plan;I)I"⟩
abbrev cX4_theEnd : ByteArray := prog_6_method_9_code
def yX4_theEnd : MethodName := ⟨RX4, "theEnd", "(LElevenParts$Plan;)I"⟩
abbrev cX4_theEndAsSaid : ByteArray := prog_6_method_10_code
def yX4_theEndAsSaid : MethodName := ⟨RX4, "theEndAsSaid", "(LElevenParts$Plan;)I"⟩
abbrev cX4_beginsAsSaid : ByteArray := prog_6_method_11_code
def yX4_beginsAsSaid : MethodName := ⟨RX4, "beginsAsSaid", "(LElevenParts$Plan;I)I"⟩
abbrev cX4_endsAsSaid : ByteArray := prog_6_method_12_code
def yX4_endsAsSaid : MethodName := ⟨RX4, "endsAsSaid", "(LElevenParts$Plan;I)I"⟩
abbrev cX4_fillWays : ByteArray := prog_6_method_13_code
def yX4_fillWays : MethodName := ⟨RX4, "fillWays", "(LElevenParts$Plan;)V"⟩
abbrev cX4_slackAsSaid : ByteArray := prog_6_method_14_code
def yX4_slackAsSaid : MethodName := ⟨RX4, "slackAsSaid", "(LElevenParts$Plan;I)I"⟩
abbrev cX4_criticalSet : ByteArray := prog_6_method_15_code
def yX4_criticalSet : MethodName := ⟨RX4, "criticalSet", "(LElevenParts$Plan;)I"⟩
abbrev cX4_sumOfSays : ByteArray := prog_6_method_16_code
def yX4_sumOfSays : MethodName := ⟨RX4, "sumOfSays", "(LElevenParts$Plan;)I"⟩
abbrev cX4_fineOf : ByteArray := prog_6_method_17_code
def yX4_fineOf : MethodName := ⟨RX4, "fineOf", "(LElevenParts$Plan;I)I"⟩
abbrev cX4_weekAllDone : ByteArray := prog_6_method_18_code
def yX4_weekAllDone : MethodName := ⟨RX4, "weekAllDone", "(LElevenParts$Plan;III)I"⟩
abbrev cX4_doneIn : ByteArray := prog_6_method_19_code
def yX4_doneIn : MethodName := ⟨RX4, "doneIn", "(LElevenParts$Plan;III)I"⟩
abbrev cX4_begunIn : ByteArray := prog_6_method_20_code
def yX4_begunIn : MethodName := ⟨RX4, "begunIn", "(LElevenParts$Plan;IIII)I"⟩
abbrev cX4_nextWeek : ByteArray := prog_6_method_21_code
def yX4_nextWeek : MethodName := ⟨RX4, "nextWeek", "(LElevenParts$Plan;III)I"⟩
abbrev cX4_fillChances : ByteArray := prog_6_method_22_code
def yX4_fillChances : MethodName := ⟨RX4, "fillChances", "(LElevenParts$Plan;)V"⟩
abbrev cX4_spread : ByteArray := prog_6_method_23_code
def yX4_spread : MethodName := ⟨RX4, "spread", "(LElevenParts$Reckoner;LElevenParts$Plan;IIJ)V"⟩
abbrev cX4_allChances : ByteArray := prog_6_method_24_code
def yX4_allChances : MethodName := ⟨RX4, "allChances", "(LElevenParts$Plan;)J"⟩
abbrev cX4_chancesUpTo : ByteArray := prog_6_method_25_code
def yX4_chancesUpTo : MethodName := ⟨RX4, "chancesUpTo", "(LElevenParts$Plan;I)J"⟩
abbrev cX4_spanOf : ByteArray := prog_6_method_26_code
def yX4_spanOf : MethodName := ⟨RX4, "spanOf", "(LElevenParts$Plan;I)I"⟩
abbrev cX4_weighedEnds : ByteArray := prog_6_method_27_code
def yX4_weighedEnds : MethodName := ⟨RX4, "weighedEnds", "(LElevenParts$Plan;)J"⟩
abbrev cX4_doWork : ByteArray := prog_6_method_28_code
def yX4_doWork : MethodName := ⟨RX4, "doWork", "(LElevenParts$Plan;I)V"⟩
def RX5 : String := "ElevenParts$Sheet"
def TX5 : u_T := fun k => match k with
  | 0 => ("ElevenParts$Sheet", "cells", "[I", true)
  | 1 => ("ElevenParts$Sheet", "sort", "I", false)
  | _ => ("ElevenParts$Sheet", "size", "I", false)
def tyX5 : Nat → FieldType := fun k => match k with
  | 0 => .array .int
  | 1 => .int
  | _ => .int
abbrev wsX50 : List Cond := u_ws RX5 TX5 3
theorem nmX5 : ∀ a, a < 3 → ∀ b, b < 3 → a ≠ b → (TX5 a).2.1 ≠ (TX5 b).2.1 := by decide +kernel
theorem tyX5_ok : ∀ k, k < 3 → parseFieldDescriptor (TX5 k).2.2.1 = some (tyX5 k) := by decide +kernel
abbrev cX5_init : ByteArray := prog_7_method_1_code
def yX5_init : MethodName := ⟨RX5, "<init>", "()V"⟩
abbrev cX5_becomeRow : ByteArray := prog_7_method_2_code
def yX5_becomeRow : MethodName := ⟨RX5, "becomeRow", "(II)V"⟩
abbrev cX5_takeFrom : ByteArray := prog_7_method_3_code
def yX5_takeFrom : MethodName := ⟨RX5, "takeFrom", "(LElevenParts$Sheet;)V"⟩
abbrev cX5_hasPlace : ByteArray := prog_7_method_4_code
def yX5_hasPlace : MethodName := ⟨RX5, "hasPlace", "(I)Z"⟩
abbrev cX5_hasPlaces : ByteArray := prog_7_method_5_code
def yX5_hasPlaces : MethodName := ⟨RX5, "hasPlaces", "(II)Z"⟩
abbrev cX5_isNumber : ByteArray := prog_7_method_6_code
def yX5_isNumber : MethodName := ⟨RX5, "isNumber", "(I)Z"⟩
abbrev cX5_numbers : ByteArray := prog_7_method_7_code
def yX5_numbers : MethodName := ⟨RX5, "numbers", "()I"⟩
abbrev cX5_placeOfLeast : ByteArray := prog_7_method_8_code
def yX5_placeOfLeast : MethodName := ⟨RX5, "placeOfLeast", "()I"⟩
abbrev cX5_placeOfGreatest : ByteArray := prog_7_method_9_code
def yX5_placeOfGreatest : MethodName := ⟨RX5, "placeOfGreatest", "()I"⟩
abbrev cX5_cards : ByteArray := prog_7_method_10_code
def yX5_cards : MethodName := ⟨RX5, "cards", "()I"⟩
abbrev cX5_isCard : ByteArray := prog_7_method_11_code
def yX5_isCard : MethodName := ⟨RX5, "isCard", "(I)Z"⟩
abbrev cX5_middle : ByteArray := prog_7_method_12_code
def yX5_middle : MethodName := ⟨RX5, "middle", "()I"⟩
abbrev cX5_numbersBelow : ByteArray := prog_7_method_13_code
def yX5_numbersBelow : MethodName := ⟨RX5, "numbersBelow", "(I)I"⟩
def RX6 : String := "ElevenParts$Slot"
def TX6 : u_T := fun k => match k with
  | 0 => ("ElevenParts$Slot", "holds", "I", false)
  | 1 => ("ElevenParts$Slot", "part", "LElevenParts$Part;", true)
  | 2 => ("ElevenParts$Slot", "row", "LElevenParts$Sheet;", true)
  | _ => ("ElevenParts$Slot", "number", "I", false)
def tyX6 : Nat → FieldType := fun k => match k with
  | 0 => .int
  | 1 => .object "ElevenParts$Part"
  | 2 => .object "ElevenParts$Sheet"
  | _ => .int
abbrev wsX60 : List Cond := u_ws RX6 TX6 4
theorem nmX6 : ∀ a, a < 4 → ∀ b, b < 4 → a ≠ b → (TX6 a).2.1 ≠ (TX6 b).2.1 := by decide +kernel
theorem tyX6_ok : ∀ k, k < 4 → parseFieldDescriptor (TX6 k).2.2.1 = some (tyX6 k) := by decide +kernel
abbrev cX6_init : ByteArray := prog_8_method_1_code
def yX6_init : MethodName := ⟨RX6, "<init>", "()V"⟩
def RX7 : String := "ElevenParts$Text"
def TX7 : u_T := fun k => match k with
  | 0 => ("ElevenParts$Text", "key", "I", true)
  | 1 => ("ElevenParts$Text", "operands", "I", true)
  | _ => ("ElevenParts$Text", "code", "[I", true)
def tyX7 : Nat → FieldType := fun k => match k with
  | 0 => .int
  | 1 => .int
  | _ => .array .int
abbrev wsX70 : List Cond := u_ws RX7 TX7 3
theorem nmX7 : ∀ a, a < 3 → ∀ b, b < 3 → a ≠ b → (TX7 a).2.1 ≠ (TX7 b).2.1 := by decide +kernel
theorem tyX7_ok : ∀ k, k < 3 → parseFieldDescriptor (TX7 k).2.2.1 = some (tyX7 k) := by decide +kernel
abbrev cX7_init : ByteArray := prog_9_method_1_code
def yX7_init : MethodName := ⟨RX7, "<init>", "(II[I)V"⟩
def RX8 : String := "ElevenParts"
def TX8 : u_T := fun k => match k with
  | 0 => ("ElevenParts", "plan", "LElevenParts$Plan;", true)
  | 1 => ("ElevenParts", "image", "LElevenParts$Plan;", true)
  | 2 => ("ElevenParts", "trial", "LElevenParts$Plan;", true)
  | 3 => ("ElevenParts", "imageKept", "Z", false)
  | 4 => ("ElevenParts", "reckoner", "LElevenParts$Reckoner;", true)
  | 5 => ("ElevenParts", "reader", "LElevenParts$Reader;", true)
  | 6 => ("ElevenParts", "tape", "[I", true)
  | 7 => ("ElevenParts", "tapeLength", "I", false)
  | 8 => ("ElevenParts", "waiting", "[I", true)
  | 9 => ("ElevenParts", "waitingCount", "I", false)
  | 10 => ("ElevenParts", "sheets", "[LElevenParts$Sheet;", true)
  | _ => ("ElevenParts", "slots", "[LElevenParts$Slot;", true)
def tyX8 : Nat → FieldType := fun k => match k with
  | 0 => .object "ElevenParts$Plan"
  | 1 => .object "ElevenParts$Plan"
  | 2 => .object "ElevenParts$Plan"
  | 3 => .boolean
  | 4 => .object "ElevenParts$Reckoner"
  | 5 => .object "ElevenParts$Reader"
  | 6 => .array .int
  | 7 => .int
  | 8 => .array .int
  | 9 => .int
  | 10 => .array (.object "ElevenParts$Sheet")
  | _ => .array (.object "ElevenParts$Slot")
abbrev wsX80 : List Cond := u_ws RX8 TX8 12
theorem nmX8 : ∀ a, a < 12 → ∀ b, b < 12 → a ≠ b → (TX8 a).2.1 ≠ (TX8 b).2.1 := by decide +kernel
theorem tyX8_ok : ∀ k, k < 12 → parseFieldDescriptor (TX8 k).2.2.1 = some (tyX8 k) := by decide +kernel
abbrev cX8_init : ByteArray := prog_1_method_1_code
def yX8_init : MethodName := ⟨RX8, "<init>", "()V"⟩
abbrev cX8_part : ByteArray := prog_1_method_2_code
def yX8_part : MethodName := ⟨RX8, "part", "(IIII)I"⟩
abbrev cX8_told : ByteArray := prog_1_method_3_code
def yX8_told : MethodName := ⟨RX8, "told", "(II)I"⟩
abbrev cX8_as : ByteArray := prog_1_method_4_code
def yX8_as : MethodName := ⟨RX8, "as", "(II)I"⟩
abbrev cX8_turns : ByteArray := prog_1_method_5_code
def yX8_turns : MethodName := ⟨RX8, "turns", "(II)I"⟩
abbrev cX8_set : ByteArray := prog_1_method_6_code
def yX8_set : MethodName := ⟨RX8, "set", "(III)I"⟩
abbrev cX8_ahead : ByteArray := prog_1_method_7_code
def yX8_ahead : MethodName := ⟨RX8, "ahead", "(III)I"⟩
abbrev cX8_book : ByteArray := prog_1_method_8_code
def yX8_book : MethodName := ⟨RX8, "book", "(III)I"⟩
abbrev cX8_line : ByteArray := prog_1_method_9_code
def yX8_line : MethodName := ⟨RX8, "line", "(II)I"⟩
abbrev cX8_factor : ByteArray := prog_1_method_10_code
def yX8_factor : MethodName := ⟨RX8, "factor", "(I)I"⟩
abbrev cX8_deal : ByteArray := prog_1_method_11_code
def yX8_deal : MethodName := ⟨RX8, "deal", "(I)I"⟩
abbrev cX8_seed : ByteArray := prog_1_method_12_code
def yX8_seed : MethodName := ⟨RX8, "seed", "(I)I"⟩
abbrev cX8_together : ByteArray := prog_1_method_13_code
def yX8_together : MethodName := ⟨RX8, "together", "()I"⟩
abbrev cX8_end : ByteArray := prog_1_method_14_code
def yX8_end : MethodName := ⟨RX8, "end", "()I"⟩
abbrev cX8_critical : ByteArray := prog_1_method_15_code
def yX8_critical : MethodName := ⟨RX8, "critical", "()I"⟩
abbrev cX8_staffed : ByteArray := prog_1_method_16_code
def yX8_staffed : MethodName := ⟨RX8, "staffed", "(I)I"⟩
abbrev cX8_more : ByteArray := prog_1_method_17_code
def yX8_more : MethodName := ⟨RX8, "more", "(III)I"⟩
abbrev cX8_odds : ByteArray := prog_1_method_18_code
def yX8_odds : MethodName := ⟨RX8, "odds", "(II)J"⟩
abbrev cX8_span : ByteArray := prog_1_method_19_code
def yX8_span : MethodName := ⟨RX8, "span", "(I)I"⟩
abbrev cX8_mean : ByteArray := prog_1_method_20_code
def yX8_mean : MethodName := ⟨RX8, "mean", "(I)J"⟩
abbrev cX8_works : ByteArray := prog_1_method_21_code
def yX8_works : MethodName := ⟨RX8, "works", "(II)I"⟩
abbrev cX8_fine : ByteArray := prog_1_method_22_code
def yX8_fine : MethodName := ⟨RX8, "fine", "(I)I"⟩
abbrev cX8_feed : ByteArray := prog_1_method_23_code
def yX8_feed : MethodName := ⟨RX8, "feed", "(III)I"⟩
abbrev cX8_trim : ByteArray := prog_1_method_24_code
def yX8_trim : MethodName := ⟨RX8, "trim", "(I)I"⟩
abbrev cX8_text : ByteArray := prog_1_method_25_code
def yX8_text : MethodName := ⟨RX8, "text", "()I"⟩
abbrev cX8_textTold : ByteArray := prog_1_method_26_code
def yX8_textTold : MethodName := ⟨RX8, "textTold", "(II)I"⟩
abbrev cX8_why : ByteArray := prog_1_method_27_code
def yX8_why : MethodName := ⟨RX8, "why", "(I)I"⟩
abbrev cX8_sheet : ByteArray := prog_1_method_28_code
def yX8_sheet : MethodName := ⟨RX8, "sheet", "(III)I"⟩
abbrev cX8_mark : ByteArray := prog_1_method_29_code
def yX8_mark : MethodName := ⟨RX8, "mark", "(III)I"⟩
abbrev cX8_pour : ByteArray := prog_1_method_30_code
def yX8_pour : MethodName := ⟨RX8, "pour", "(I)I"⟩
abbrev cX8_table : ByteArray := prog_1_method_31_code
def yX8_table : MethodName := ⟨RX8, "table", "(II)I"⟩
abbrev cX8_copy : ByteArray := prog_1_method_32_code
def yX8_copy : MethodName := ⟨RX8, "copy", "(IIIII)I"⟩
abbrev cX8_lay : ByteArray := prog_1_method_33_code
def yX8_lay : MethodName := ⟨RX8, "lay", "(III)I"⟩
abbrev cX8_ask : ByteArray := prog_1_method_34_code
def yX8_ask : MethodName := ⟨RX8, "ask", "(II)I"⟩
abbrev cX8_item : ByteArray := prog_1_method_35_code
def yX8_item : MethodName := ⟨RX8, "item", "(II)I"⟩
abbrev cX8_rest : ByteArray := prog_1_method_36_code
def yX8_rest : MethodName := ⟨RX8, "rest", "(II)I"⟩
abbrev cX8_tell : ByteArray := prog_1_method_37_code
def yX8_tell : MethodName := ⟨RX8, "tell", "(I)I"⟩
abbrev cX8_check : ByteArray := prog_1_method_38_code
def yX8_check : MethodName := ⟨RX8, "check", "(II)I"⟩
abbrev cX8_keep : ByteArray := prog_1_method_39_code
def yX8_keep : MethodName := ⟨RX8, "keep", "()I"⟩
abbrev cX8_back : ByteArray := prog_1_method_40_code
def yX8_back : MethodName := ⟨RX8, "back", "()I"⟩
abbrev cX8_count : ByteArray := prog_1_method_41_code
def yX8_count : MethodName := ⟨RX8, "count", "(I)I"⟩
abbrev cX8_within : ByteArray := prog_1_method_42_code
def yX8_within : MethodName := ⟨RX8, "within", "(III)Z"⟩
abbrev cX8_held : ByteArray := prog_1_method_43_code
def yX8_held : MethodName := ⟨RX8, "held", "(III)I"⟩
abbrev cX8_isKind : ByteArray := prog_1_method_44_code
def yX8_isKind : MethodName := ⟨RX8, "isKind", "(I)Z"⟩
abbrev cX8_isSort : ByteArray := prog_1_method_45_code
def yX8_isSort : MethodName := ⟨RX8, "isSort", "(I)Z"⟩
abbrev cX8_sheetAt : ByteArray := prog_1_method_46_code
def yX8_sheetAt : MethodName := ⟨RX8, "sheetAt", "(I)LElevenParts$Sheet;"⟩
abbrev cX8_slotAt : ByteArray := prog_1_method_47_code
def yX8_slotAt : MethodName := ⟨RX8, "slotAt", "(I)LElevenParts$Slot;"⟩
abbrev cX8_isTold : ByteArray := prog_1_method_48_code
def yX8_isTold : MethodName := ⟨RX8, "isTold", "(III)Z"⟩
abbrev cX8_feedFour : ByteArray := prog_1_method_49_code
def yX8_feedFour : MethodName := ⟨RX8, "feedFour", "(I)V"⟩
abbrev cX8_reducedSide : ByteArray := prog_1_method_50_code
def yX8_reducedSide : MethodName := ⟨RX8, "reducedSide", "(JJI)J"⟩
abbrev cX8_commonDivisor : ByteArray := prog_1_method_51_code
def yX8_commonDivisor : MethodName := ⟨RX8, "commonDivisor", "(JJ)J"⟩
def RX9 : String := "ElevenPartsModel"
def TX9 : u_T := fun k => match k with
  | 0 => ("ElevenPartsModel", "s", "[I", true)
  | 1 => ("ElevenPartsModel", "image", "[I", true)
  | 2 => ("ElevenPartsModel", "aside", "[I", true)
  | 3 => ("ElevenPartsModel", "hasImage", "Z", false)
  | 4 => ("ElevenPartsModel", "tSort", "[I", true)
  | 5 => ("ElevenPartsModel", "tSize", "[I", true)
  | 6 => ("ElevenPartsModel", "tNumber", "[I", true)
  | 7 => ("ElevenPartsModel", "held", "[I", true)
  | 8 => ("ElevenPartsModel", "heldNumber", "[I", true)
  | 9 => ("ElevenPartsModel", "heldWorth", "[I", true)
  | 10 => ("ElevenPartsModel", "heldSize", "[I", true)
  | 11 => ("ElevenPartsModel", "heldRow", "[I", true)
  | 12 => ("ElevenPartsModel", "length", "[I", true)
  | 13 => ("ElevenPartsModel", "waitsFor", "[I", true)
  | 14 => ("ElevenPartsModel", "begins", "[I", true)
  | 15 => ("ElevenPartsModel", "latest", "[I", true)
  | 16 => ("ElevenPartsModel", "over", "[I", true)
  | 17 => ("ElevenPartsModel", "likely", "[J", true)
  | 18 => ("ElevenPartsModel", "lastWas", "I", false)
  | 19 => ("ElevenPartsModel", "tape", "[I", true)
  | 20 => ("ElevenPartsModel", "taped", "I", false)
  | 21 => ("ElevenPartsModel", "begin", "I", false)
  | 22 => ("ElevenPartsModel", "behind", "I", false)
  | 23 => ("ElevenPartsModel", "token", "I", false)
  | 24 => ("ElevenPartsModel", "number", "I", false)
  | 25 => ("ElevenPartsModel", "letter", "I", false)
  | 26 => ("ElevenPartsModel", "deep", "I", false)
  | 27 => ("ElevenPartsModel", "turned", "I", false)
  | 28 => ("ElevenPartsModel", "laid", "I", false)
  | 29 => ("ElevenPartsModel", "laidAt", "I", false)
  | 30 => ("ElevenPartsModel", "said", "I", false)
  | 31 => ("ElevenPartsModel", "named", "[I", true)
  | 32 => ("ElevenPartsModel", "pile", "[I", true)
  | 33 => ("ElevenPartsModel", "inOrder", "[I", true)
  | 34 => ("ElevenPartsModel", "carried", "[I", true)
  | 35 => ("ElevenPartsModel", "waits", "[I", true)
  | 36 => ("ElevenPartsModel", "waiting", "I", false)
  | _ => ("ElevenPartsModel", "rowDue", "[I", true)
def tyX9 : Nat → FieldType := fun k => match k with
  | 0 => .array .int
  | 1 => .array .int
  | 2 => .array .int
  | 3 => .boolean
  | 4 => .array .int
  | 5 => .array .int
  | 6 => .array .int
  | 7 => .array .int
  | 8 => .array .int
  | 9 => .array .int
  | 10 => .array .int
  | 11 => .array .int
  | 12 => .array .int
  | 13 => .array .int
  | 14 => .array .int
  | 15 => .array .int
  | 16 => .array .int
  | 17 => .array .long
  | 18 => .int
  | 19 => .array .int
  | 20 => .int
  | 21 => .int
  | 22 => .int
  | 23 => .int
  | 24 => .int
  | 25 => .int
  | 26 => .int
  | 27 => .int
  | 28 => .int
  | 29 => .int
  | 30 => .int
  | 31 => .array .int
  | 32 => .array .int
  | 33 => .array .int
  | 34 => .array .int
  | 35 => .array .int
  | 36 => .int
  | _ => .array .int
abbrev wsX90 : List Cond := u_ws RX9 TX9 38
theorem nmX9 : ∀ a, a < 38 → ∀ b, b < 38 → a ≠ b → (TX9 a).2.1 ≠ (TX9 b).2.1 := by decide +kernel
theorem tyX9_ok : ∀ k, k < 38 → parseFieldDescriptor (TX9 k).2.2.1 = some (tyX9 k) := by decide +kernel
abbrev cX9_init : ByteArray := prog_11_method_1_code
def yX9_init : MethodName := ⟨RX9, "<init>", "()V"⟩
abbrev cX9_isIn : ByteArray := prog_11_method_2_code
def yX9_isIn : MethodName := ⟨RX9, "isIn", "(JJJ)Z"⟩
abbrev cX9_within : ByteArray := prog_11_method_3_code
def yX9_within : MethodName := ⟨RX9, "within", "(II)I"⟩
abbrev cX9_orNone : ByteArray := prog_11_method_4_code
def yX9_orNone : MethodName := ⟨RX9, "orNone", "(I)I"⟩
abbrev cX9_greater : ByteArray := prog_11_method_5_code
def yX9_greater : MethodName := ⟨RX9, "greater", "(II)I"⟩
abbrev cX9_becomes : ByteArray := prog_11_method_6_code
def yX9_becomes : MethodName := ⟨RX9, "becomes", "(II)I"⟩
abbrev cX9_textAt : ByteArray := prog_11_method_7_code
def yX9_textAt : MethodName := ⟨RX9, "textAt", "(I)I"⟩
abbrev cX9_of : ByteArray := prog_11_method_8_code
def yX9_of : MethodName := ⟨RX9, "of", "(II)I"⟩
abbrev cX9_isPart : ByteArray := prog_11_method_9_code
def yX9_isPart : MethodName := ⟨RX9, "isPart", "(I)Z"⟩
abbrev cX9_isSort : ByteArray := prog_11_method_10_code
def yX9_isSort : MethodName := ⟨RX9, "isSort", "(I)Z"⟩
abbrev cX9_isText : ByteArray := prog_11_method_11_code
def yX9_isText : MethodName := ⟨RX9, "isText", "(I)Z"⟩
abbrev cX9_drawn : ByteArray := prog_11_method_12_code
def yX9_drawn : MethodName := ⟨RX9, "drawn", "()I"⟩
abbrev cX9_ones : ByteArray := prog_11_method_13_code
def yX9_ones : MethodName := ⟨RX9, "ones", "(I)I"⟩
abbrev cX9_comes : ByteArray := prog_11_method_14_code
def yX9_comes : MethodName := ⟨RX9, "comes", "(IIII)V"⟩
abbrev cX9_part : ByteArray := prog_11_method_15_code
def yX9_part : MethodName := ⟨RX9, "part", "(IIII)I"⟩
abbrev cX9_factorOf : ByteArray := prog_11_method_16_code
def yX9_factorOf : MethodName := ⟨RX9, "factorOf", "(I)I"⟩
abbrev cX9_card : ByteArray := prog_11_method_17_code
def yX9_card : MethodName := ⟨RX9, "card", "(I)I"⟩
abbrev cX9_says : ByteArray := prog_11_method_18_code
def yX9_says : MethodName := ⟨RX9, "says", "(I)I"⟩
abbrev cX9_waitsOf : ByteArray := prog_11_method_19_code
def yX9_waitsOf : MethodName := ⟨RX9, "waitsOf", "(I)I"⟩
abbrev cX9_worth : ByteArray := prog_11_method_20_code
def yX9_worth : MethodName := ⟨RX9, "worth", "(I)I"⟩
abbrev cX9_layWaits : ByteArray := prog_11_method_21_code
def yX9_layWaits : MethodName := ⟨RX9, "layWaits", "()V"⟩
abbrev cX9_laySaid : ByteArray := prog_11_method_22_code
def yX9_laySaid : MethodName := ⟨RX9, "laySaid", "()V"⟩
abbrev cX9_endBy : ByteArray := prog_11_method_23_code
def yX9_endBy : MethodName := ⟨RX9, "endBy", "()I"⟩
abbrev cX9_endSaid : ByteArray := prog_11_method_24_code
def yX9_endSaid : MethodName := ⟨RX9, "endSaid", "()I"⟩
abbrev cX9_findLatest : ByteArray := prog_11_method_25_code
def yX9_findLatest : MethodName := ⟨RX9, "findLatest", "()V"⟩
abbrev cX9_slack : ByteArray := prog_11_method_26_code
def yX9_slack : MethodName := ⟨RX9, "slack", "(I)I"⟩
abbrev cX9_told : ByteArray := prog_11_method_27_code
def yX9_told : MethodName := ⟨RX9, "told", "(II)I"⟩
abbrev cX9_isOf : ByteArray := prog_11_method_28_code
def yX9_isOf : MethodName := ⟨RX9, "isOf", "(II)Z"⟩
abbrev cX9_as : ByteArray := prog_11_method_29_code
def yX9_as : MethodName := ⟨RX9, "as", "(II)I"⟩
abbrev cX9_turns : ByteArray := prog_11_method_30_code
def yX9_turns : MethodName := ⟨RX9, "turns", "(II)I"⟩
abbrev cX9_set : ByteArray := prog_11_method_31_code
def yX9_set : MethodName := ⟨RX9, "set", "(III)I"⟩
abbrev cX9_ahead : ByteArray := prog_11_method_32_code
def yX9_ahead : MethodName := ⟨RX9, "ahead", "(III)I"⟩
abbrev cX9_writes : ByteArray := prog_11_method_33_code
def yX9_writes : MethodName := ⟨RX9, "writes", "(III)V"⟩
abbrev cX9_book : ByteArray := prog_11_method_34_code
def yX9_book : MethodName := ⟨RX9, "book", "(III)I"⟩
abbrev cX9_line : ByteArray := prog_11_method_35_code
def yX9_line : MethodName := ⟨RX9, "line", "(II)I"⟩
abbrev cX9_factor : ByteArray := prog_11_method_36_code
def yX9_factor : MethodName := ⟨RX9, "factor", "(I)I"⟩
abbrev cX9_deal : ByteArray := prog_11_method_37_code
def yX9_deal : MethodName := ⟨RX9, "deal", "(I)I"⟩
abbrev cX9_seed : ByteArray := prog_11_method_38_code
def yX9_seed : MethodName := ⟨RX9, "seed", "(I)I"⟩
abbrev cX9_together : ByteArray := prog_11_method_39_code
def yX9_together : MethodName := ⟨RX9, "together", "()I"⟩
abbrev cX9_end : ByteArray := prog_11_method_40_code
def yX9_end : MethodName := ⟨RX9, "end", "()I"⟩
abbrev cX9_criticalSet : ByteArray := prog_11_method_41_code
def yX9_criticalSet : MethodName := ⟨RX9, "criticalSet", "()I"⟩
abbrev cX9_critical : ByteArray := prog_11_method_42_code
def yX9_critical : MethodName := ⟨RX9, "critical", "()I"⟩
abbrev cX9_doneBy : ByteArray := prog_11_method_43_code
def yX9_doneBy : MethodName := ⟨RX9, "doneBy", "(III)I"⟩
abbrev cX9_staffedBy : ByteArray := prog_11_method_44_code
def yX9_staffedBy : MethodName := ⟨RX9, "staffedBy", "(III)I"⟩
abbrev cX9_staffed : ByteArray := prog_11_method_45_code
def yX9_staffed : MethodName := ⟨RX9, "staffed", "(I)I"⟩
abbrev cX9_more : ByteArray := prog_11_method_46_code
def yX9_more : MethodName := ⟨RX9, "more", "(III)I"⟩
abbrev cX9_layLong : ByteArray := prog_11_method_47_code
def yX9_layLong : MethodName := ⟨RX9, "layLong", "(I)V"⟩
abbrev cX9_weightOf : ByteArray := prog_11_method_48_code
def yX9_weightOf : MethodName := ⟨RX9, "weightOf", "(I)J"⟩
abbrev cX9_allWeights : ByteArray := prog_11_method_49_code
def yX9_allWeights : MethodName := ⟨RX9, "allWeights", "()J"⟩
abbrev cX9_weightUpTo : ByteArray := prog_11_method_50_code
def yX9_weightUpTo : MethodName := ⟨RX9, "weightUpTo", "(I)J"⟩
abbrev cX9_lowest : ByteArray := prog_11_method_51_code
def yX9_lowest : MethodName := ⟨RX9, "lowest", "(JJI)J"⟩
abbrev cX9_odds : ByteArray := prog_11_method_52_code
def yX9_odds : MethodName := ⟨RX9, "odds", "(II)J"⟩
abbrev cX9_layLikely : ByteArray := prog_11_method_53_code
def yX9_layLikely : MethodName := ⟨RX9, "layLikely", "()I"⟩
abbrev cX9_span : ByteArray := prog_11_method_54_code
def yX9_span : MethodName := ⟨RX9, "span", "(I)I"⟩
abbrev cX9_mean : ByteArray := prog_11_method_55_code
def yX9_mean : MethodName := ⟨RX9, "mean", "(I)J"⟩
abbrev cX9_goesBy : ByteArray := prog_11_method_56_code
def yX9_goesBy : MethodName := ⟨RX9, "goesBy", "(I)Z"⟩
abbrev cX9_works : ByteArray := prog_11_method_57_code
def yX9_works : MethodName := ⟨RX9, "works", "(II)I"⟩
abbrev cX9_fine : ByteArray := prog_11_method_58_code
def yX9_fine : MethodName := ⟨RX9, "fine", "(I)I"⟩
abbrev cX9_feed : ByteArray := prog_11_method_59_code
def yX9_feed : MethodName := ⟨RX9, "feed", "(III)I"⟩
abbrev cX9_trim : ByteArray := prog_11_method_60_code
def yX9_trim : MethodName := ⟨RX9, "trim", "(I)I"⟩
abbrev cX9_isLetter : ByteArray := prog_11_method_61_code
def yX9_isLetter : MethodName := ⟨RX9, "isLetter", "(I)Z"⟩
abbrev cX9_isDigit : ByteArray := prog_11_method_62_code
def yX9_isDigit : MethodName := ⟨RX9, "isDigit", "(I)Z"⟩
abbrev cX9_nextToken : ByteArray := prog_11_method_63_code
def yX9_nextToken : MethodName := ⟨RX9, "nextToken", "()V"⟩
abbrev cX9_isSign : ByteArray := prog_11_method_64_code
def yX9_isSign : MethodName := ⟨RX9, "isSign", "(I)Z"⟩
abbrev cX9_isWordAt : ByteArray := prog_11_method_65_code
def yX9_isWordAt : MethodName := ⟨RX9, "isWordAt", "(IIII)Z"⟩
abbrev cX9_key : ByteArray := prog_11_method_66_code
def yX9_key : MethodName := ⟨RX9, "key", "()I"⟩
abbrev cX9_isName : ByteArray := prog_11_method_67_code
def yX9_isName : MethodName := ⟨RX9, "isName", "(II)Z"⟩
abbrev cX9_step : ByteArray := prog_11_method_68_code
def yX9_step : MethodName := ⟨RX9, "step", "(II)V"⟩
abbrev cX9_either : ByteArray := prog_11_method_69_code
def yX9_either : MethodName := ⟨RX9, "either", "(I)Z"⟩
abbrev cX9_both : ByteArray := prog_11_method_70_code
def yX9_both : MethodName := ⟨RX9, "both", "(I)Z"⟩
abbrev cX9_test : ByteArray := prog_11_method_71_code
def yX9_test : MethodName := ⟨RX9, "test", "(I)Z"⟩
abbrev cX9_sum : ByteArray := prog_11_method_72_code
def yX9_sum : MethodName := ⟨RX9, "sum", "(I)Z"⟩
abbrev cX9_term : ByteArray := prog_11_method_73_code
def yX9_term : MethodName := ⟨RX9, "term", "(I)Z"⟩
abbrev cX9_part0 : ByteArray := prog_11_method_74_code
def yX9_part0 : MethodName := ⟨RX9, "part0", "(I)Z"⟩
abbrev cX9_parse : ByteArray := prog_11_method_75_code
def yX9_parse : MethodName := ⟨RX9, "parse", "()I"⟩
abbrev cX9_text : ByteArray := prog_11_method_76_code
def yX9_text : MethodName := ⟨RX9, "text", "()I"⟩
abbrev cX9_textTold : ByteArray := prog_11_method_77_code
def yX9_textTold : MethodName := ⟨RX9, "textTold", "(II)I"⟩
abbrev cX9_counts : ByteArray := prog_11_method_78_code
def yX9_counts : MethodName := ⟨RX9, "counts", "(I)I"⟩
abbrev cX9_why : ByteArray := prog_11_method_79_code
def yX9_why : MethodName := ⟨RX9, "why", "(I)I"⟩
abbrev cX9_joined : ByteArray := prog_11_method_80_code
def yX9_joined : MethodName := ⟨RX9, "joined", "(III)I"⟩
abbrev cX9_worked : ByteArray := prog_11_method_81_code
def yX9_worked : MethodName := ⟨RX9, "worked", "(I)I"⟩
abbrev cX9_isSheet : ByteArray := prog_11_method_82_code
def yX9_isSheet : MethodName := ⟨RX9, "isSheet", "(I)Z"⟩
abbrev cX9_sheet : ByteArray := prog_11_method_83_code
def yX9_sheet : MethodName := ⟨RX9, "sheet", "(III)I"⟩
abbrev cX9_mark : ByteArray := prog_11_method_84_code
def yX9_mark : MethodName := ⟨RX9, "mark", "(III)I"⟩
abbrev cX9_pour : ByteArray := prog_11_method_85_code
def yX9_pour : MethodName := ⟨RX9, "pour", "(I)I"⟩
abbrev cX9_table : ByteArray := prog_11_method_86_code
def yX9_table : MethodName := ⟨RX9, "table", "(II)I"⟩
abbrev cX9_copy : ByteArray := prog_11_method_87_code
def yX9_copy : MethodName := ⟨RX9, "copy", "(IIIII)I"⟩
abbrev cX9_isSlot : ByteArray := prog_11_method_88_code
def yX9_isSlot : MethodName := ⟨RX9, "isSlot", "(I)Z"⟩
abbrev cX9_lay : ByteArray := prog_11_method_89_code
def yX9_lay : MethodName := ⟨RX9, "lay", "(III)I"⟩
abbrev cX9_ask : ByteArray := prog_11_method_90_code
def yX9_ask : MethodName := ⟨RX9, "ask", "(II)I"⟩
abbrev cX9_item : ByteArray := prog_11_method_91_code
def yX9_item : MethodName := ⟨RX9, "item", "(II)I"⟩
abbrev cX9_rest : ByteArray := prog_11_method_92_code
def yX9_rest : MethodName := ⟨RX9, "rest", "(II)I"⟩
abbrev cX9_tell : ByteArray := prog_11_method_93_code
def yX9_tell : MethodName := ⟨RX9, "tell", "(I)I"⟩
abbrev cX9_setAside : ByteArray := prog_11_method_94_code
def yX9_setAside : MethodName := ⟨RX9, "setAside", "([I[I)V"⟩
abbrev cX9_check : ByteArray := prog_11_method_95_code
def yX9_check : MethodName := ⟨RX9, "check", "(II)I"⟩
abbrev cX9_keep : ByteArray := prog_11_method_96_code
def yX9_keep : MethodName := ⟨RX9, "keep", "()I"⟩
abbrev cX9_back : ByteArray := prog_11_method_97_code
def yX9_back : MethodName := ⟨RX9, "back", "()I"⟩
abbrev cX9_count : ByteArray := prog_11_method_98_code
def yX9_count : MethodName := ⟨RX9, "count", "(I)I"⟩
def RJx145de : String := "java/io/Serializable"
def TJx145de : u_T := fun k => match k with
  | _ => ("", "", "", false)
def tyJx145de : Nat → FieldType := fun k => match k with
  | _ => .int
abbrev wsJx145de0 : List Cond := u_ws RJx145de TJx145de 0
theorem nmJx145de : ∀ a, a < 0 → ∀ b, b < 0 → a ≠ b → (TJx145de a).2.1 ≠ (TJx145de b).2.1 := by decide +kernel
theorem tyJx145de_ok : ∀ k, k < 0 → parseFieldDescriptor (TJx145de k).2.2.1 = some (tyJx145de k) := by decide +kernel
def RJx9f9b0 : String := "java/lang/CharSequence"
def TJx9f9b0 : u_T := fun k => match k with
  | _ => ("", "", "", false)
def tyJx9f9b0 : Nat → FieldType := fun k => match k with
  | _ => .int
abbrev wsJx9f9b00 : List Cond := u_ws RJx9f9b0 TJx9f9b0 0
theorem nmJx9f9b0 : ∀ a, a < 0 → ∀ b, b < 0 → a ≠ b → (TJx9f9b0 a).2.1 ≠ (TJx9f9b0 b).2.1 := by decide +kernel
theorem tyJx9f9b0_ok : ∀ k, k < 0 → parseFieldDescriptor (TJx9f9b0 k).2.2.1 = some (tyJx9f9b0 k) := by decide +kernel
def RJ11 : String := "java/lang/Character"
def TJ11 : u_T := fun k => match k with
  | _ => ("", "", "", false)
def tyJ11 : Nat → FieldType := fun k => match k with
  | _ => .int
abbrev wsJ110 : List Cond := u_ws RJ11 TJ11 0
theorem nmJ11 : ∀ a, a < 0 → ∀ b, b < 0 → a ≠ b → (TJ11 a).2.1 ≠ (TJ11 b).2.1 := by decide +kernel
theorem tyJ11_ok : ∀ k, k < 0 → parseFieldDescriptor (TJ11 k).2.2.1 = some (tyJ11 k) := by decide +kernel
abbrev cJ11_isValidCodePoint_9a6ad : ByteArray := prog_12_method_11_code
def yJ11_isValidCodePoint_9a6ad : MethodName := ⟨RJ11, "isValidCodePoint", "(I)Z"⟩
abbrev cJ11_highSurrogate_5068e : ByteArray := prog_12_method_28_code
def yJ11_highSurrogate_5068e : MethodName := ⟨RJ11, "highSurrogate", "(I)C"⟩
abbrev cJ11_lowSurrogate_5068e : ByteArray := prog_12_method_29_code
def yJ11_lowSurrogate_5068e : MethodName := ⟨RJ11, "lowSurrogate", "(I)C"⟩
def RJx8e188 : String := "java/lang/Cloneable"
def TJx8e188 : u_T := fun k => match k with
  | _ => ("", "", "", false)
def tyJx8e188 : Nat → FieldType := fun k => match k with
  | _ => .int
abbrev wsJx8e1880 : List Cond := u_ws RJx8e188 TJx8e188 0
theorem nmJx8e188 : ∀ a, a < 0 → ∀ b, b < 0 → a ≠ b → (TJx8e188 a).2.1 ≠ (TJx8e188 b).2.1 := by decide +kernel
theorem tyJx8e188_ok : ∀ k, k < 0 → parseFieldDescriptor (TJx8e188 k).2.2.1 = some (tyJx8e188 k) := by decide +kernel
def RJxb160c : String := "java/lang/Comparable"
def TJxb160c : u_T := fun k => match k with
  | _ => ("", "", "", false)
def tyJxb160c : Nat → FieldType := fun k => match k with
  | _ => .int
abbrev wsJxb160c0 : List Cond := u_ws RJxb160c TJxb160c 0
theorem nmJxb160c : ∀ a, a < 0 → ∀ b, b < 0 → a ≠ b → (TJxb160c a).2.1 ≠ (TJxb160c b).2.1 := by decide +kernel
theorem tyJxb160c_ok : ∀ k, k < 0 → parseFieldDescriptor (TJxb160c k).2.2.1 = some (tyJxb160c k) := by decide +kernel
def RJ6 : String := "java/lang/Integer"
def TJ6 : u_T := fun k => match k with
  | _ => ("", "", "", false)
def tyJ6 : Nat → FieldType := fun k => match k with
  | _ => .int
abbrev wsJ60 : List Cond := u_ws RJ6 TJ6 0
theorem nmJ6 : ∀ a, a < 0 → ∀ b, b < 0 → a ≠ b → (TJ6 a).2.1 ≠ (TJ6 b).2.1 := by decide +kernel
theorem tyJ6_ok : ∀ k, k < 0 → parseFieldDescriptor (TJ6 k).2.2.1 = some (tyJ6 k) := by decide +kernel
abbrev cJ6_bitCount_0f7a4 : ByteArray := prog_14_method_49_code
def yJ6_bitCount_0f7a4 : MethodName := ⟨RJ6, "bitCount", "(I)I"⟩
def RJ9 : String := "java/lang/Math"
def TJ9 : u_T := fun k => match k with
  | _ => ("", "", "", false)
def tyJ9 : Nat → FieldType := fun k => match k with
  | _ => .int
abbrev wsJ90 : List Cond := u_ws RJ9 TJ9 0
theorem nmJ9 : ∀ a, a < 0 → ∀ b, b < 0 → a ≠ b → (TJ9 a).2.1 ≠ (TJ9 b).2.1 := by decide +kernel
theorem tyJ9_ok : ∀ k, k < 0 → parseFieldDescriptor (TJ9 k).2.2.1 = some (tyJ9 k) := by decide +kernel
abbrev cJ9_max_7cf53 : ByteArray := prog_15_method_65_code
def yJ9_max_7cf53 : MethodName := ⟨RJ9, "max", "(II)I"⟩
abbrev cJ9_min_7cf53 : ByteArray := prog_15_method_69_code
def yJ9_min_7cf53 : MethodName := ⟨RJ9, "min", "(II)I"⟩
def RJ0 : String := "java/lang/String"
def TJ0 : u_T := fun k => match k with
  | _ => ("", "", "", false)
def tyJ0 : Nat → FieldType := fun k => match k with
  | _ => .int
abbrev wsJ00 : List Cond := u_ws RJ0 TJ0 0
theorem nmJ0 : ∀ a, a < 0 → ∀ b, b < 0 → a ≠ b → (TJ0 a).2.1 ≠ (TJ0 b).2.1 := by decide +kernel
theorem tyJ0_ok : ∀ k, k < 0 → parseFieldDescriptor (TJ0 k).2.2.1 = some (tyJ0 k) := by decide +kernel
abbrev cJ0_length_8abf5 : ByteArray := prog_16_method_54_code
def yJ0_length_8abf5 : MethodName := ⟨RJ0, "length", "()I"⟩
abbrev cJ0_charAt_5068e : ByteArray := prog_16_method_56_code
def yJ0_charAt_5068e : MethodName := ⟨RJ0, "charAt", "(I)C"⟩
abbrev cJ0_indexOf_0f7a4 : ByteArray := prog_16_method_79_code
def yJ0_indexOf_0f7a4 : MethodName := ⟨RJ0, "indexOf", "(I)I"⟩
abbrev cJ0_indexOf_7cf53 : ByteArray := prog_16_method_80_code
def yJ0_indexOf_7cf53 : MethodName := ⟨RJ0, "indexOf", "(II)I"⟩
abbrev cJ0_coder_7d493 : ByteArray := prog_16_method_152_code
def yJ0_coder_7d493 : MethodName := ⟨RJ0, "coder", "()B"⟩
abbrev cJ0_isLatin1_aae02 : ByteArray := prog_16_method_154_code
def yJ0_isLatin1_aae02 : MethodName := ⟨RJ0, "isLatin1", "()Z"⟩
abbrev cJ0_checkIndex_df160 : ByteArray := prog_16_method_155_code
def yJ0_checkIndex_df160 : MethodName := ⟨RJ0, "checkIndex", "(II)V"⟩
abbrev cJ0_checkBoundsBeginEnd_23922 : ByteArray := prog_16_method_158_code
def yJ0_checkBoundsBeginEnd_23922 : MethodName := ⟨RJ0, "checkBoundsBeginEnd", "(III)V"⟩
def RJ1 : String := "java/lang/StringLatin1"
def TJ1 : u_T := fun k => match k with
  | _ => ("", "", "", false)
def tyJ1 : Nat → FieldType := fun k => match k with
  | _ => .int
abbrev wsJ10 : List Cond := u_ws RJ1 TJ1 0
theorem nmJ1 : ∀ a, a < 0 → ∀ b, b < 0 → a ≠ b → (TJ1 a).2.1 ≠ (TJ1 b).2.1 := by decide +kernel
theorem tyJ1_ok : ∀ k, k < 0 → parseFieldDescriptor (TJ1 k).2.2.1 = some (tyJ1 k) := by decide +kernel
abbrev cJ1_charAt_3b067 : ByteArray := prog_17_method_2_code
def yJ1_charAt_3b067 : MethodName := ⟨RJ1, "charAt", "([BI)C"⟩
abbrev cJ1_canEncode_9a6ad : ByteArray := prog_17_method_4_code
def yJ1_canEncode_9a6ad : MethodName := ⟨RJ1, "canEncode", "(I)Z"⟩
abbrev cJ1_indexOf_4cfef : ByteArray := prog_17_method_22_code
def yJ1_indexOf_4cfef : MethodName := ⟨RJ1, "indexOf", "([BIII)I"⟩
abbrev cJ1_indexOfChar_4cfef : ByteArray := prog_17_method_23_code
def yJ1_indexOfChar_4cfef : MethodName := ⟨RJ1, "indexOfChar", "([BIII)I"⟩
def RJ2 : String := "java/lang/StringUTF16"
def TJ2 : u_T := fun k => match k with
  | _ => ("", "", "", false)
def tyJ2 : Nat → FieldType := fun k => match k with
  | _ => .int
abbrev wsJ20 : List Cond := u_ws RJ2 TJ2 0
theorem nmJ2 : ∀ a, a < 0 → ∀ b, b < 0 → a ≠ b → (TJ2 a).2.1 ≠ (TJ2 b).2.1 := by decide +kernel
theorem tyJ2_ok : ∀ k, k < 0 → parseFieldDescriptor (TJ2 k).2.2.1 = some (tyJ2 k) := by decide +kernel
abbrev cJ2_getChar_3b067 : ByteArray := prog_18_method_5_code
def yJ2_getChar_3b067 : MethodName := ⟨RJ2, "getChar", "([BI)C"⟩
abbrev cJ2_length_9d52b : ByteArray := prog_18_method_6_code
def yJ2_length_9d52b : MethodName := ⟨RJ2, "length", "([B)I"⟩
abbrev cJ2_indexOf_4cfef : ByteArray := prog_18_method_40_code
def yJ2_indexOf_4cfef : MethodName := ⟨RJ2, "indexOf", "([BIII)I"⟩
abbrev cJ2_indexOfChar_4cfef : ByteArray := prog_18_method_47_code
def yJ2_indexOfChar_4cfef : MethodName := ⟨RJ2, "indexOfChar", "([BIII)I"⟩
abbrev cJ2_indexOfCharUnsafe_4cfef : ByteArray := prog_18_method_48_code
def yJ2_indexOfCharUnsafe_4cfef : MethodName := ⟨RJ2, "indexOfCharUnsafe", "([BIII)I"⟩
abbrev cJ2_indexOfSupplementary_4cfef : ByteArray := prog_18_method_49_code
def yJ2_indexOfSupplementary_4cfef : MethodName := ⟨RJ2, "indexOfSupplementary", "([BIII)I"⟩
abbrev cJ2_charAt_3b067 : ByteArray := prog_18_method_83_code
def yJ2_charAt_3b067 : MethodName := ⟨RJ2, "charAt", "([BI)C"⟩
abbrev cJ2_checkIndex_2214a : ByteArray := prog_18_method_91_code
def yJ2_checkIndex_2214a : MethodName := ⟨RJ2, "checkIndex", "(I[B)V"⟩
abbrev cJ2_checkBoundsBeginEnd_d044e : ByteArray := prog_18_method_93_code
def yJ2_checkBoundsBeginEnd_d044e : MethodName := ⟨RJ2, "checkBoundsBeginEnd", "(II[B)V"⟩
def RJ10 : String := "java/lang/System"
def TJ10 : u_T := fun k => match k with
  | _ => ("", "", "", false)
def tyJ10 : Nat → FieldType := fun k => match k with
  | _ => .int
abbrev wsJ100 : List Cond := u_ws RJ10 TJ10 0
theorem nmJ10 : ∀ a, a < 0 → ∀ b, b < 0 → a ≠ b → (TJ10 a).2.1 ≠ (TJ10 b).2.1 := by decide +kernel
theorem tyJ10_ok : ∀ k, k < 0 → parseFieldDescriptor (TJ10 k).2.2.1 = some (tyJ10 k) := by decide +kernel
def RJxfd54e : String := "java/lang/constant/Constable"
def TJxfd54e : u_T := fun k => match k with
  | _ => ("", "", "", false)
def tyJxfd54e : Nat → FieldType := fun k => match k with
  | _ => .int
abbrev wsJxfd54e0 : List Cond := u_ws RJxfd54e TJxfd54e 0
theorem nmJxfd54e : ∀ a, a < 0 → ∀ b, b < 0 → a ≠ b → (TJxfd54e a).2.1 ≠ (TJxfd54e b).2.1 := by decide +kernel
theorem tyJxfd54e_ok : ∀ k, k < 0 → parseFieldDescriptor (TJxfd54e k).2.2.1 = some (tyJxfd54e k) := by decide +kernel
def RJx3cf43 : String := "java/lang/constant/ConstantDesc"
def TJx3cf43 : u_T := fun k => match k with
  | _ => ("", "", "", false)
def tyJx3cf43 : Nat → FieldType := fun k => match k with
  | _ => .int
abbrev wsJx3cf430 : List Cond := u_ws RJx3cf43 TJx3cf43 0
theorem nmJx3cf43 : ∀ a, a < 0 → ∀ b, b < 0 → a ≠ b → (TJx3cf43 a).2.1 ≠ (TJx3cf43 b).2.1 := by decide +kernel
theorem tyJx3cf43_ok : ∀ k, k < 0 → parseFieldDescriptor (TJx3cf43 k).2.2.1 = some (tyJx3cf43 k) := by decide +kernel
def RJ7 : String := "java/util/Arrays"
def TJ7 : u_T := fun k => match k with
  | _ => ("", "", "", false)
def tyJ7 : Nat → FieldType := fun k => match k with
  | _ => .int
abbrev wsJ70 : List Cond := u_ws RJ7 TJ7 0
theorem nmJ7 : ∀ a, a < 0 → ∀ b, b < 0 → a ≠ b → (TJ7 a).2.1 ≠ (TJ7 b).2.1 := by decide +kernel
theorem tyJ7_ok : ∀ k, k < 0 → parseFieldDescriptor (TJ7 k).2.2.1 = some (tyJ7 k) := by decide +kernel
abbrev cJ7_fill_d0a16 : ByteArray := prog_20_method_101_code
def yJ7_fill_d0a16 : MethodName := ⟨RJ7, "fill", "([JJ)V"⟩
abbrev cJ7_fill_53178 : ByteArray := prog_20_method_103_code
def yJ7_fill_53178 : MethodName := ⟨RJ7, "fill", "([II)V"⟩
abbrev cJ7_copyOf_59c91 : ByteArray := prog_20_method_123_code
def yJ7_copyOf_59c91 : MethodName := ⟨RJ7, "copyOf", "([II)[I"⟩
def RJ3 : String := "jdk/internal/util/Preconditions"
def TJ3 : u_T := fun k => match k with
  | _ => ("", "", "", false)
def tyJ3 : Nat → FieldType := fun k => match k with
  | _ => .int
abbrev wsJ30 : List Cond := u_ws RJ3 TJ3 0
theorem nmJ3 : ∀ a, a < 0 → ∀ b, b < 0 → a ≠ b → (TJ3 a).2.1 ≠ (TJ3 b).2.1 := by decide +kernel
theorem tyJ3_ok : ∀ k, k < 0 → parseFieldDescriptor (TJ3 k).2.2.1 = some (tyJ3 k) := by decide +kernel
abbrev cJ3_checkIndex_8e157 : ByteArray := prog_21_method_11_code
def yJ3_checkIndex_8e157 : MethodName := ⟨RJ3, "checkIndex", "(IILjava/util/function/BiFunction;)I"⟩
abbrev cJ3_checkFromToIndex_8c36e : ByteArray := prog_21_method_12_code
def yJ3_checkFromToIndex_8c36e : MethodName := ⟨RJ3, "checkFromToIndex", "(IIILjava/util/function/BiFunction;)I"⟩
def RL : String := "ElevenPartsLaw"
abbrev cL_law : ByteArray := code
def yL_law : MethodName := ⟨RL, "law", "([I)Z"⟩
abbrev vwCl : List vw_C := [(RX0, TX0, 4), (RX1, TX1, 5), (RX2, TX2, 7), (RX3, TX3, 10), (RX4, TX4, 10), (RX5, TX5, 3), (RX6, TX6, 4), (RX7, TX7, 3), (RX8, TX8, 12), (RX9, TX9, 38)]
