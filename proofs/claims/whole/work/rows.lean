section
-- ===== PART A: goes FIRST, ahead of the names: the tables' words, and 'selects' of the private methods out of them =====
/-- a private method of a class that the tables say can be made, by its rows of tables_1 -/
def lw_okq (q : MethodName × Nat) : Prop := (q.1.cls ≠ "java/lang/invoke/MethodHandle" ∧ q.1.cls ≠ "java/lang/invoke/VarHandle") ∧ Cond.instantiable q.1.cls q.2 ∈ tables_1 ∧ Cond.privateMethod q.1 ∈ tables_1 ∧ Cond.instanceMethod q.1 ∈ tables_1
theorem lw_p0 : lw_okq (⟨"ShoeHouse$Plan", "setFirstLaw", "()V"⟩, 12) := ⟨⟨by decide +kernel, by decide +kernel⟩, List.mem_of_getElem? (i := 52) (by decide +kernel), List.mem_of_getElem? (i := 58) (by decide +kernel), List.mem_of_getElem? (i := 59) (by decide +kernel)⟩
theorem lw_p1 : lw_okq (⟨"ShoeHouse$Affairs", "move", "(III)V"⟩, 10) := ⟨⟨by decide +kernel, by decide +kernel⟩, List.mem_of_getElem? (i := 165) (by decide +kernel), List.mem_of_getElem? (i := 453) (by decide +kernel), List.mem_of_getElem? (i := 454) (by decide +kernel)⟩
theorem lw_p2 : lw_okq (⟨"ShoeHouse$Cases", "emptyRoomsHold", "()Z"⟩, 5) := ⟨⟨by decide +kernel, by decide +kernel⟩, List.mem_of_getElem? (i := 222) (by decide +kernel), List.mem_of_getElem? (i := 502) (by decide +kernel), List.mem_of_getElem? (i := 503) (by decide +kernel)⟩
theorem lw_p3 : lw_okq (⟨"ShoeHouse$Cases", "doingsHeld", "(II)I"⟩, 5) := ⟨⟨by decide +kernel, by decide +kernel⟩, List.mem_of_getElem? (i := 222) (by decide +kernel), List.mem_of_getElem? (i := 506) (by decide +kernel), List.mem_of_getElem? (i := 507) (by decide +kernel)⟩
theorem lw_p4 : lw_okq (⟨"java/lang/Throwable", "fillInStackTrace", "(I)Ljava/lang/Throwable;"⟩, 6) := ⟨⟨by decide +kernel, by decide +kernel⟩, List.mem_of_getElem? (i := 585) (by decide +kernel), List.mem_of_getElem? (i := 583) (by decide +kernel), List.mem_of_getElem? (i := 584) (by decide +kernel)⟩
theorem lw_p5 : lw_okq (⟨"ShoeHouse$Reader", "advance", "()V"⟩, 9) := ⟨⟨by decide +kernel, by decide +kernel⟩, List.mem_of_getElem? (i := 130) (by decide +kernel), List.mem_of_getElem? (i := 628) (by decide +kernel), List.mem_of_getElem? (i := 629) (by decide +kernel)⟩
theorem lw_p6 : lw_okq (⟨"ShoeHouse$Reader", "takeRow", "(CC)V"⟩, 9) := ⟨⟨by decide +kernel, by decide +kernel⟩, List.mem_of_getElem? (i := 130) (by decide +kernel), List.mem_of_getElem? (i := 632) (by decide +kernel), List.mem_of_getElem? (i := 633) (by decide +kernel)⟩
theorem lw_p7 : lw_okq (⟨"ShoeHouse$Reader", "valueHere", "()I"⟩, 9) := ⟨⟨by decide +kernel, by decide +kernel⟩, List.mem_of_getElem? (i := 130) (by decide +kernel), List.mem_of_getElem? (i := 636) (by decide +kernel), List.mem_of_getElem? (i := 637) (by decide +kernel)⟩
theorem lw_p8 : lw_okq (⟨"ShoeHouse$Reader", "readLine", "()V"⟩, 9) := ⟨⟨by decide +kernel, by decide +kernel⟩, List.mem_of_getElem? (i := 130) (by decide +kernel), List.mem_of_getElem? (i := 640) (by decide +kernel), List.mem_of_getElem? (i := 641) (by decide +kernel)⟩
theorem lw_p9 : lw_okq (⟨"ShoeHouse$Reader", "isWord", "(Ljava/lang/String;)Z"⟩, 9) := ⟨⟨by decide +kernel, by decide +kernel⟩, List.mem_of_getElem? (i := 130) (by decide +kernel), List.mem_of_getElem? (i := 645) (by decide +kernel), List.mem_of_getElem? (i := 646) (by decide +kernel)⟩
theorem lw_p10 : lw_okq (⟨"ShoeHouse$Reader", "readRoom", "()V"⟩, 9) := ⟨⟨by decide +kernel, by decide +kernel⟩, List.mem_of_getElem? (i := 130) (by decide +kernel), List.mem_of_getElem? (i := 697) (by decide +kernel), List.mem_of_getElem? (i := 698) (by decide +kernel)⟩
theorem lw_p11 : lw_okq (⟨"ShoeHouse$Reader", "isFull", "(II)Z"⟩, 9) := ⟨⟨by decide +kernel, by decide +kernel⟩, List.mem_of_getElem? (i := 130) (by decide +kernel), List.mem_of_getElem? (i := 701) (by decide +kernel), List.mem_of_getElem? (i := 702) (by decide +kernel)⟩
theorem lw_p12 : lw_okq (⟨"ShoeHouse$Reader", "refuse", "(I)I"⟩, 9) := ⟨⟨by decide +kernel, by decide +kernel⟩, List.mem_of_getElem? (i := 130) (by decide +kernel), List.mem_of_getElem? (i := 705) (by decide +kernel), List.mem_of_getElem? (i := 706) (by decide +kernel)⟩
theorem lw_p13 : lw_okq (⟨"ShoeHouse$Reader", "numberWithin", "(II)I"⟩, 9) := ⟨⟨by decide +kernel, by decide +kernel⟩, List.mem_of_getElem? (i := 130) (by decide +kernel), List.mem_of_getElem? (i := 709) (by decide +kernel), List.mem_of_getElem? (i := 710) (by decide +kernel)⟩
theorem lw_p14 : lw_okq (⟨"ShoeHouse$Reader", "faultOfNumber", "()I"⟩, 9) := ⟨⟨by decide +kernel, by decide +kernel⟩, List.mem_of_getElem? (i := 130) (by decide +kernel), List.mem_of_getElem? (i := 713) (by decide +kernel), List.mem_of_getElem? (i := 714) (by decide +kernel)⟩
theorem lw_p15 : lw_okq (⟨"ShoeHouse$Reader", "readLodger", "()V"⟩, 9) := ⟨⟨by decide +kernel, by decide +kernel⟩, List.mem_of_getElem? (i := 130) (by decide +kernel), List.mem_of_getElem? (i := 722) (by decide +kernel), List.mem_of_getElem? (i := 723) (by decide +kernel)⟩
def lw_privs_1 : List (MethodName × Nat) := [(⟨"ShoeHouse$Plan", "setFirstLaw", "()V"⟩, 12), (⟨"ShoeHouse$Affairs", "move", "(III)V"⟩, 10), (⟨"ShoeHouse$Cases", "emptyRoomsHold", "()Z"⟩, 5), (⟨"ShoeHouse$Cases", "doingsHeld", "(II)I"⟩, 5), (⟨"java/lang/Throwable", "fillInStackTrace", "(I)Ljava/lang/Throwable;"⟩, 6), (⟨"ShoeHouse$Reader", "advance", "()V"⟩, 9), (⟨"ShoeHouse$Reader", "takeRow", "(CC)V"⟩, 9), (⟨"ShoeHouse$Reader", "valueHere", "()I"⟩, 9), (⟨"ShoeHouse$Reader", "readLine", "()V"⟩, 9), (⟨"ShoeHouse$Reader", "isWord", "(Ljava/lang/String;)Z"⟩, 9), (⟨"ShoeHouse$Reader", "readRoom", "()V"⟩, 9), (⟨"ShoeHouse$Reader", "isFull", "(II)Z"⟩, 9), (⟨"ShoeHouse$Reader", "refuse", "(I)I"⟩, 9), (⟨"ShoeHouse$Reader", "numberWithin", "(II)I"⟩, 9), (⟨"ShoeHouse$Reader", "faultOfNumber", "()I"⟩, 9), (⟨"ShoeHouse$Reader", "readLodger", "()V"⟩, 9)]
theorem lw_r1 : ∀ q ∈ lw_privs_1, lw_okq q := List.forall_mem_cons.mpr ⟨lw_p0, List.forall_mem_cons.mpr ⟨lw_p1, List.forall_mem_cons.mpr ⟨lw_p2, List.forall_mem_cons.mpr ⟨lw_p3, List.forall_mem_cons.mpr ⟨lw_p4, List.forall_mem_cons.mpr ⟨lw_p5, List.forall_mem_cons.mpr ⟨lw_p6, List.forall_mem_cons.mpr ⟨lw_p7, List.forall_mem_cons.mpr ⟨lw_p8, List.forall_mem_cons.mpr ⟨lw_p9, List.forall_mem_cons.mpr ⟨lw_p10, List.forall_mem_cons.mpr ⟨lw_p11, List.forall_mem_cons.mpr ⟨lw_p12, List.forall_mem_cons.mpr ⟨lw_p13, List.forall_mem_cons.mpr ⟨lw_p14, List.forall_mem_cons.mpr ⟨lw_p15, fun _ h => absurd h List.not_mem_nil⟩⟩⟩⟩⟩⟩⟩⟩⟩⟩⟩⟩⟩⟩⟩⟩
theorem lw_p16 : lw_okq (⟨"ShoeHouse$Reader", "toldNumber", "(I)I"⟩, 9) := ⟨⟨by decide +kernel, by decide +kernel⟩, List.mem_of_getElem? (i := 130) (by decide +kernel), List.mem_of_getElem? (i := 726) (by decide +kernel), List.mem_of_getElem? (i := 727) (by decide +kernel)⟩
theorem lw_p17 : lw_okq (⟨"ShoeHouse$Reader", "readFinder", "()V"⟩, 9) := ⟨⟨by decide +kernel, by decide +kernel⟩, List.mem_of_getElem? (i := 130) (by decide +kernel), List.mem_of_getElem? (i := 737) (by decide +kernel), List.mem_of_getElem? (i := 738) (by decide +kernel)⟩
theorem lw_p18 : lw_okq (⟨"ShoeHouse$Reader", "readMay", "()V"⟩, 9) := ⟨⟨by decide +kernel, by decide +kernel⟩, List.mem_of_getElem? (i := 130) (by decide +kernel), List.mem_of_getElem? (i := 746) (by decide +kernel), List.mem_of_getElem? (i := 747) (by decide +kernel)⟩
theorem lw_p19 : lw_okq (⟨"ShoeHouse$Reader", "readDoing", "(I)I"⟩, 9) := ⟨⟨by decide +kernel, by decide +kernel⟩, List.mem_of_getElem? (i := 130) (by decide +kernel), List.mem_of_getElem? (i := 750) (by decide +kernel), List.mem_of_getElem? (i := 751) (by decide +kernel)⟩
theorem lw_p20 : lw_okq (⟨"ShoeHouse$Reader", "ownDoing", "()I"⟩, 9) := ⟨⟨by decide +kernel, by decide +kernel⟩, List.mem_of_getElem? (i := 130) (by decide +kernel), List.mem_of_getElem? (i := 755) (by decide +kernel), List.mem_of_getElem? (i := 756) (by decide +kernel)⟩
theorem lw_p21 : lw_okq (⟨"ShoeHouse$Reader", "readLaw", "()V"⟩, 9) := ⟨⟨by decide +kernel, by decide +kernel⟩, List.mem_of_getElem? (i := 130) (by decide +kernel), List.mem_of_getElem? (i := 768) (by decide +kernel), List.mem_of_getElem? (i := 769) (by decide +kernel)⟩
theorem lw_p22 : lw_okq (⟨"ShoeHouse$Reader", "signTold", "()I"⟩, 9) := ⟨⟨by decide +kernel, by decide +kernel⟩, List.mem_of_getElem? (i := 130) (by decide +kernel), List.mem_of_getElem? (i := 772) (by decide +kernel), List.mem_of_getElem? (i := 773) (by decide +kernel)⟩
theorem lw_p23 : lw_okq (⟨"ShoeHouse", "needRoom", "(I)V"⟩, 16) := ⟨⟨by decide +kernel, by decide +kernel⟩, List.mem_of_getElem? (i := 28) (by decide +kernel), List.mem_of_getElem? (i := 823) (by decide +kernel), List.mem_of_getElem? (i := 824) (by decide +kernel)⟩
theorem lw_p24 : lw_okq (⟨"ShoeHouse", "needLodger", "(I)V"⟩, 16) := ⟨⟨by decide +kernel, by decide +kernel⟩, List.mem_of_getElem? (i := 28) (by decide +kernel), List.mem_of_getElem? (i := 839) (by decide +kernel), List.mem_of_getElem? (i := 840) (by decide +kernel)⟩
theorem lw_p25 : lw_okq (⟨"ShoeHouse", "hourOfTheft", "(I)I"⟩, 16) := ⟨⟨by decide +kernel, by decide +kernel⟩, List.mem_of_getElem? (i := 28) (by decide +kernel), List.mem_of_getElem? (i := 931) (by decide +kernel), List.mem_of_getElem? (i := 932) (by decide +kernel)⟩
theorem lw_p26 : lw_okq (⟨"ShoeHouse", "finderAt", "(II)I"⟩, 16) := ⟨⟨by decide +kernel, by decide +kernel⟩, List.mem_of_getElem? (i := 28) (by decide +kernel), List.mem_of_getElem? (i := 935) (by decide +kernel), List.mem_of_getElem? (i := 936) (by decide +kernel)⟩
theorem lw_p27 : lw_okq (⟨"ShoeHouse$Cases", "casesWithout", "(I)I"⟩, 5) := ⟨⟨by decide +kernel, by decide +kernel⟩, List.mem_of_getElem? (i := 222) (by decide +kernel), List.mem_of_getElem? (i := 977) (by decide +kernel), List.mem_of_getElem? (i := 978) (by decide +kernel)⟩
theorem lw_p28 : lw_okq (⟨"ShoeHouse$Deceit", "sortDoings", "(I)V"⟩, 5) := ⟨⟨by decide +kernel, by decide +kernel⟩, List.mem_of_getElem? (i := 244) (by decide +kernel), List.mem_of_getElem? (i := 1019) (by decide +kernel), List.mem_of_getElem? (i := 1020) (by decide +kernel)⟩
theorem lw_p29 : lw_okq (⟨"ShoeHouse$Deceit", "misleads", "(II)Z"⟩, 5) := ⟨⟨by decide +kernel, by decide +kernel⟩, List.mem_of_getElem? (i := 244) (by decide +kernel), List.mem_of_getElem? (i := 1027) (by decide +kernel), List.mem_of_getElem? (i := 1028) (by decide +kernel)⟩
theorem lw_p30 : lw_okq (⟨"ShoeHouse$Walk", "weigh", "(II)V"⟩, 7) := ⟨⟨by decide +kernel, by decide +kernel⟩, List.mem_of_getElem? (i := 266) (by decide +kernel), List.mem_of_getElem? (i := 1057) (by decide +kernel), List.mem_of_getElem? (i := 1058) (by decide +kernel)⟩
theorem lw_p31 : lw_okq (⟨"ShoeHouse$Walk", "layRow", "(III)Z"⟩, 7) := ⟨⟨by decide +kernel, by decide +kernel⟩, List.mem_of_getElem? (i := 266) (by decide +kernel), List.mem_of_getElem? (i := 1066) (by decide +kernel), List.mem_of_getElem? (i := 1067) (by decide +kernel)⟩
def lw_privs_2 : List (MethodName × Nat) := [(⟨"ShoeHouse$Reader", "toldNumber", "(I)I"⟩, 9), (⟨"ShoeHouse$Reader", "readFinder", "()V"⟩, 9), (⟨"ShoeHouse$Reader", "readMay", "()V"⟩, 9), (⟨"ShoeHouse$Reader", "readDoing", "(I)I"⟩, 9), (⟨"ShoeHouse$Reader", "ownDoing", "()I"⟩, 9), (⟨"ShoeHouse$Reader", "readLaw", "()V"⟩, 9), (⟨"ShoeHouse$Reader", "signTold", "()I"⟩, 9), (⟨"ShoeHouse", "needRoom", "(I)V"⟩, 16), (⟨"ShoeHouse", "needLodger", "(I)V"⟩, 16), (⟨"ShoeHouse", "hourOfTheft", "(I)I"⟩, 16), (⟨"ShoeHouse", "finderAt", "(II)I"⟩, 16), (⟨"ShoeHouse$Cases", "casesWithout", "(I)I"⟩, 5), (⟨"ShoeHouse$Deceit", "sortDoings", "(I)V"⟩, 5), (⟨"ShoeHouse$Deceit", "misleads", "(II)Z"⟩, 5), (⟨"ShoeHouse$Walk", "weigh", "(II)V"⟩, 7), (⟨"ShoeHouse$Walk", "layRow", "(III)Z"⟩, 7)]
theorem lw_r2 : ∀ q ∈ lw_privs_2, lw_okq q := List.forall_mem_cons.mpr ⟨lw_p16, List.forall_mem_cons.mpr ⟨lw_p17, List.forall_mem_cons.mpr ⟨lw_p18, List.forall_mem_cons.mpr ⟨lw_p19, List.forall_mem_cons.mpr ⟨lw_p20, List.forall_mem_cons.mpr ⟨lw_p21, List.forall_mem_cons.mpr ⟨lw_p22, List.forall_mem_cons.mpr ⟨lw_p23, List.forall_mem_cons.mpr ⟨lw_p24, List.forall_mem_cons.mpr ⟨lw_p25, List.forall_mem_cons.mpr ⟨lw_p26, List.forall_mem_cons.mpr ⟨lw_p27, List.forall_mem_cons.mpr ⟨lw_p28, List.forall_mem_cons.mpr ⟨lw_p29, List.forall_mem_cons.mpr ⟨lw_p30, List.forall_mem_cons.mpr ⟨lw_p31, fun _ h => absurd h List.not_mem_nil⟩⟩⟩⟩⟩⟩⟩⟩⟩⟩⟩⟩⟩⟩⟩⟩
theorem lw_p32 : lw_okq (⟨"ShoeHouse$Walk", "worthOfRow", "(I)I"⟩, 7) := ⟨⟨by decide +kernel, by decide +kernel⟩, List.mem_of_getElem? (i := 266) (by decide +kernel), List.mem_of_getElem? (i := 1070) (by decide +kernel), List.mem_of_getElem? (i := 1071) (by decide +kernel)⟩
theorem lw_p33 : lw_okq (⟨"ShoeHouse$Walk", "isLook", "(II)Z"⟩, 7) := ⟨⟨by decide +kernel, by decide +kernel⟩, List.mem_of_getElem? (i := 266) (by decide +kernel), List.mem_of_getElem? (i := 1074) (by decide +kernel), List.mem_of_getElem? (i := 1075) (by decide +kernel)⟩
theorem lw_p34 : lw_okq (⟨"ShoeHouse$Walk", "worthAt", "(I)I"⟩, 7) := ⟨⟨by decide +kernel, by decide +kernel⟩, List.mem_of_getElem? (i := 266) (by decide +kernel), List.mem_of_getElem? (i := 1078) (by decide +kernel), List.mem_of_getElem? (i := 1079) (by decide +kernel)⟩
theorem lw_p35 : lw_okq (⟨"ShoeHouse$Walk", "keepRow", "(I)V"⟩, 7) := ⟨⟨by decide +kernel, by decide +kernel⟩, List.mem_of_getElem? (i := 266) (by decide +kernel), List.mem_of_getElem? (i := 1082) (by decide +kernel), List.mem_of_getElem? (i := 1083) (by decide +kernel)⟩
theorem lw_p36 : lw_okq (⟨"ShoeHouse$Game", "layRow", "(II)V"⟩, 6) := ⟨⟨by decide +kernel, by decide +kernel⟩, List.mem_of_getElem? (i := 297) (by decide +kernel), List.mem_of_getElem? (i := 1106) (by decide +kernel), List.mem_of_getElem? (i := 1107) (by decide +kernel)⟩
theorem lw_p37 : lw_okq (⟨"ShoeHouse$Game", "isAtRest", "(I)Z"⟩, 6) := ⟨⟨by decide +kernel, by decide +kernel⟩, List.mem_of_getElem? (i := 297) (by decide +kernel), List.mem_of_getElem? (i := 1111) (by decide +kernel), List.mem_of_getElem? (i := 1112) (by decide +kernel)⟩
theorem lw_p38 : lw_okq (⟨"ShoeHouse$Game", "share", "(II)I"⟩, 6) := ⟨⟨by decide +kernel, by decide +kernel⟩, List.mem_of_getElem? (i := 297) (by decide +kernel), List.mem_of_getElem? (i := 1115) (by decide +kernel), List.mem_of_getElem? (i := 1116) (by decide +kernel)⟩
theorem lw_p39 : lw_okq (⟨"ShoeHouse$Lending", "countSpare", "(III)V"⟩, 10) := ⟨⟨by decide +kernel, by decide +kernel⟩, List.mem_of_getElem? (i := 323) (by decide +kernel), List.mem_of_getElem? (i := 1134) (by decide +kernel), List.mem_of_getElem? (i := 1135) (by decide +kernel)⟩
theorem lw_p40 : lw_okq (⟨"ShoeHouse$Lending", "isShoeless", "(III)Z"⟩, 10) := ⟨⟨by decide +kernel, by decide +kernel⟩, List.mem_of_getElem? (i := 323) (by decide +kernel), List.mem_of_getElem? (i := 1141) (by decide +kernel), List.mem_of_getElem? (i := 1142) (by decide +kernel)⟩
theorem lw_p41 : lw_okq (⟨"ShoeHouse$Lending", "helpfulShoes", "(III)I"⟩, 10) := ⟨⟨by decide +kernel, by decide +kernel⟩, List.mem_of_getElem? (i := 323) (by decide +kernel), List.mem_of_getElem? (i := 1146) (by decide +kernel), List.mem_of_getElem? (i := 1147) (by decide +kernel)⟩
theorem lw_p42 : lw_okq (⟨"ShoeHouse$Lending", "canServe", "()Z"⟩, 10) := ⟨⟨by decide +kernel, by decide +kernel⟩, List.mem_of_getElem? (i := 323) (by decide +kernel), List.mem_of_getElem? (i := 1151) (by decide +kernel), List.mem_of_getElem? (i := 1152) (by decide +kernel)⟩
theorem lw_p43 : lw_okq (⟨"ShoeHouse$Lending", "serveAll", "()V"⟩, 10) := ⟨⟨by decide +kernel, by decide +kernel⟩, List.mem_of_getElem? (i := 323) (by decide +kernel), List.mem_of_getElem? (i := 1155) (by decide +kernel), List.mem_of_getElem? (i := 1156) (by decide +kernel)⟩
theorem lw_p44 : lw_okq (⟨"ShoeHouse$Lending", "serve", "(I)V"⟩, 10) := ⟨⟨by decide +kernel, by decide +kernel⟩, List.mem_of_getElem? (i := 323) (by decide +kernel), List.mem_of_getElem? (i := 1159) (by decide +kernel), List.mem_of_getElem? (i := 1160) (by decide +kernel)⟩
theorem lw_p45 : lw_okq (⟨"ShoeHouse$Lending", "canSpare", "(II)Z"⟩, 10) := ⟨⟨by decide +kernel, by decide +kernel⟩, List.mem_of_getElem? (i := 323) (by decide +kernel), List.mem_of_getElem? (i := 1163) (by decide +kernel), List.mem_of_getElem? (i := 1164) (by decide +kernel)⟩
theorem lw_p46 : lw_okq (⟨"ShoeHouse$Slippers", "isApart", "(I)Z"⟩, 3) := ⟨⟨by decide +kernel, by decide +kernel⟩, List.mem_of_getElem? (i := 362) (by decide +kernel), List.mem_of_getElem? (i := 1195) (by decide +kernel), List.mem_of_getElem? (i := 1196) (by decide +kernel)⟩
theorem lw_p47 : lw_okq (⟨"ShoeHouseModel", "lays", "(I)V"⟩, 69) := ⟨⟨by decide +kernel, by decide +kernel⟩, List.mem_of_getElem? (i := 1242) (by decide +kernel), List.mem_of_getElem? (i := 1464) (by decide +kernel), List.mem_of_getElem? (i := 1465) (by decide +kernel)⟩
def lw_privs_3 : List (MethodName × Nat) := [(⟨"ShoeHouse$Walk", "worthOfRow", "(I)I"⟩, 7), (⟨"ShoeHouse$Walk", "isLook", "(II)Z"⟩, 7), (⟨"ShoeHouse$Walk", "worthAt", "(I)I"⟩, 7), (⟨"ShoeHouse$Walk", "keepRow", "(I)V"⟩, 7), (⟨"ShoeHouse$Game", "layRow", "(II)V"⟩, 6), (⟨"ShoeHouse$Game", "isAtRest", "(I)Z"⟩, 6), (⟨"ShoeHouse$Game", "share", "(II)I"⟩, 6), (⟨"ShoeHouse$Lending", "countSpare", "(III)V"⟩, 10), (⟨"ShoeHouse$Lending", "isShoeless", "(III)Z"⟩, 10), (⟨"ShoeHouse$Lending", "helpfulShoes", "(III)I"⟩, 10), (⟨"ShoeHouse$Lending", "canServe", "()Z"⟩, 10), (⟨"ShoeHouse$Lending", "serveAll", "()V"⟩, 10), (⟨"ShoeHouse$Lending", "serve", "(I)V"⟩, 10), (⟨"ShoeHouse$Lending", "canSpare", "(II)Z"⟩, 10), (⟨"ShoeHouse$Slippers", "isApart", "(I)Z"⟩, 3), (⟨"ShoeHouseModel", "lays", "(I)V"⟩, 69)]
theorem lw_r3 : ∀ q ∈ lw_privs_3, lw_okq q := List.forall_mem_cons.mpr ⟨lw_p32, List.forall_mem_cons.mpr ⟨lw_p33, List.forall_mem_cons.mpr ⟨lw_p34, List.forall_mem_cons.mpr ⟨lw_p35, List.forall_mem_cons.mpr ⟨lw_p36, List.forall_mem_cons.mpr ⟨lw_p37, List.forall_mem_cons.mpr ⟨lw_p38, List.forall_mem_cons.mpr ⟨lw_p39, List.forall_mem_cons.mpr ⟨lw_p40, List.forall_mem_cons.mpr ⟨lw_p41, List.forall_mem_cons.mpr ⟨lw_p42, List.forall_mem_cons.mpr ⟨lw_p43, List.forall_mem_cons.mpr ⟨lw_p44, List.forall_mem_cons.mpr ⟨lw_p45, List.forall_mem_cons.mpr ⟨lw_p46, List.forall_mem_cons.mpr ⟨lw_p47, fun _ h => absurd h List.not_mem_nil⟩⟩⟩⟩⟩⟩⟩⟩⟩⟩⟩⟩⟩⟩⟩⟩
theorem lw_p48 : lw_okq (⟨"ShoeHouseModel", "right", "(ZI)Z"⟩, 69) := ⟨⟨by decide +kernel, by decide +kernel⟩, List.mem_of_getElem? (i := 1242) (by decide +kernel), List.mem_of_getElem? (i := 1472) (by decide +kernel), List.mem_of_getElem? (i := 1473) (by decide +kernel)⟩
theorem lw_p49 : lw_okq (⟨"ShoeHouseModel", "steps", "()V"⟩, 69) := ⟨⟨by decide +kernel, by decide +kernel⟩, List.mem_of_getElem? (i := 1242) (by decide +kernel), List.mem_of_getElem? (i := 1476) (by decide +kernel), List.mem_of_getElem? (i := 1477) (by decide +kernel)⟩
theorem lw_p50 : lw_okq (⟨"ShoeHouseModel", "byteAt", "(I)I"⟩, 69) := ⟨⟨by decide +kernel, by decide +kernel⟩, List.mem_of_getElem? (i := 1242) (by decide +kernel), List.mem_of_getElem? (i := 1480) (by decide +kernel), List.mem_of_getElem? (i := 1481) (by decide +kernel)⟩
theorem lw_p51 : lw_okq (⟨"ShoeHouseModel", "isGood", "()Z"⟩, 69) := ⟨⟨by decide +kernel, by decide +kernel⟩, List.mem_of_getElem? (i := 1242) (by decide +kernel), List.mem_of_getElem? (i := 1490) (by decide +kernel), List.mem_of_getElem? (i := 1491) (by decide +kernel)⟩
theorem lw_p52 : lw_okq (⟨"ShoeHouseModel", "line", "()V"⟩, 69) := ⟨⟨by decide +kernel, by decide +kernel⟩, List.mem_of_getElem? (i := 1242) (by decide +kernel), List.mem_of_getElem? (i := 1494) (by decide +kernel), List.mem_of_getElem? (i := 1495) (by decide +kernel)⟩
theorem lw_p53 : lw_okq (⟨"ShoeHouseModel", "is", "(I)Z"⟩, 69) := ⟨⟨by decide +kernel, by decide +kernel⟩, List.mem_of_getElem? (i := 1242) (by decide +kernel), List.mem_of_getElem? (i := 1498) (by decide +kernel), List.mem_of_getElem? (i := 1499) (by decide +kernel)⟩
theorem lw_p54 : lw_okq (⟨"ShoeHouseModel", "wrong", "(I)V"⟩, 69) := ⟨⟨by decide +kernel, by decide +kernel⟩, List.mem_of_getElem? (i := 1242) (by decide +kernel), List.mem_of_getElem? (i := 1509) (by decide +kernel), List.mem_of_getElem? (i := 1510) (by decide +kernel)⟩
theorem lw_p55 : lw_okq (⟨"ShoeHouseModel", "number", "(II)I"⟩, 69) := ⟨⟨by decide +kernel, by decide +kernel⟩, List.mem_of_getElem? (i := 1242) (by decide +kernel), List.mem_of_getElem? (i := 1513) (by decide +kernel), List.mem_of_getElem? (i := 1514) (by decide +kernel)⟩
theorem lw_p56 : lw_okq (⟨"ShoeHouseModel", "readsLodger", "()V"⟩, 69) := ⟨⟨by decide +kernel, by decide +kernel⟩, List.mem_of_getElem? (i := 1242) (by decide +kernel), List.mem_of_getElem? (i := 1517) (by decide +kernel), List.mem_of_getElem? (i := 1518) (by decide +kernel)⟩
theorem lw_p57 : lw_okq (⟨"ShoeHouseModel", "amongHere", "(I)Z"⟩, 69) := ⟨⟨by decide +kernel, by decide +kernel⟩, List.mem_of_getElem? (i := 1242) (by decide +kernel), List.mem_of_getElem? (i := 1521) (by decide +kernel), List.mem_of_getElem? (i := 1522) (by decide +kernel)⟩
theorem lw_p58 : lw_okq (⟨"ShoeHouseModel", "among", "(I)I"⟩, 69) := ⟨⟨by decide +kernel, by decide +kernel⟩, List.mem_of_getElem? (i := 1242) (by decide +kernel), List.mem_of_getElem? (i := 1525) (by decide +kernel), List.mem_of_getElem? (i := 1526) (by decide +kernel)⟩
theorem lw_p59 : lw_okq (⟨"ShoeHouseModel", "readsMay", "()V"⟩, 69) := ⟨⟨by decide +kernel, by decide +kernel⟩, List.mem_of_getElem? (i := 1242) (by decide +kernel), List.mem_of_getElem? (i := 1529) (by decide +kernel), List.mem_of_getElem? (i := 1530) (by decide +kernel)⟩
theorem lw_p60 : lw_okq (⟨"ShoeHouseModel", "oneOf", "(II)I"⟩, 69) := ⟨⟨by decide +kernel, by decide +kernel⟩, List.mem_of_getElem? (i := 1242) (by decide +kernel), List.mem_of_getElem? (i := 1533) (by decide +kernel), List.mem_of_getElem? (i := 1534) (by decide +kernel)⟩
theorem lw_p61 : lw_okq (⟨"ShoeHouseModel", "need", "(Z)V"⟩, 69) := ⟨⟨by decide +kernel, by decide +kernel⟩, List.mem_of_getElem? (i := 1242) (by decide +kernel), List.mem_of_getElem? (i := 1537) (by decide +kernel), List.mem_of_getElem? (i := 1538) (by decide +kernel)⟩
theorem lw_p62 : lw_okq (⟨"ShoeHouseModel", "copies", "([I[I)V"⟩, 69) := ⟨⟨by decide +kernel, by decide +kernel⟩, List.mem_of_getElem? (i := 1242) (by decide +kernel), List.mem_of_getElem? (i := 1541) (by decide +kernel), List.mem_of_getElem? (i := 1542) (by decide +kernel)⟩
theorem lw_p63 : lw_okq (⟨"ShoeHouseModel", "isRoom", "(I)Z"⟩, 69) := ⟨⟨by decide +kernel, by decide +kernel⟩, List.mem_of_getElem? (i := 1242) (by decide +kernel), List.mem_of_getElem? (i := 1563) (by decide +kernel), List.mem_of_getElem? (i := 1564) (by decide +kernel)⟩
def lw_privs_4 : List (MethodName × Nat) := [(⟨"ShoeHouseModel", "right", "(ZI)Z"⟩, 69), (⟨"ShoeHouseModel", "steps", "()V"⟩, 69), (⟨"ShoeHouseModel", "byteAt", "(I)I"⟩, 69), (⟨"ShoeHouseModel", "isGood", "()Z"⟩, 69), (⟨"ShoeHouseModel", "line", "()V"⟩, 69), (⟨"ShoeHouseModel", "is", "(I)Z"⟩, 69), (⟨"ShoeHouseModel", "wrong", "(I)V"⟩, 69), (⟨"ShoeHouseModel", "number", "(II)I"⟩, 69), (⟨"ShoeHouseModel", "readsLodger", "()V"⟩, 69), (⟨"ShoeHouseModel", "amongHere", "(I)Z"⟩, 69), (⟨"ShoeHouseModel", "among", "(I)I"⟩, 69), (⟨"ShoeHouseModel", "readsMay", "()V"⟩, 69), (⟨"ShoeHouseModel", "oneOf", "(II)I"⟩, 69), (⟨"ShoeHouseModel", "need", "(Z)V"⟩, 69), (⟨"ShoeHouseModel", "copies", "([I[I)V"⟩, 69), (⟨"ShoeHouseModel", "isRoom", "(I)Z"⟩, 69)]
theorem lw_r4 : ∀ q ∈ lw_privs_4, lw_okq q := List.forall_mem_cons.mpr ⟨lw_p48, List.forall_mem_cons.mpr ⟨lw_p49, List.forall_mem_cons.mpr ⟨lw_p50, List.forall_mem_cons.mpr ⟨lw_p51, List.forall_mem_cons.mpr ⟨lw_p52, List.forall_mem_cons.mpr ⟨lw_p53, List.forall_mem_cons.mpr ⟨lw_p54, List.forall_mem_cons.mpr ⟨lw_p55, List.forall_mem_cons.mpr ⟨lw_p56, List.forall_mem_cons.mpr ⟨lw_p57, List.forall_mem_cons.mpr ⟨lw_p58, List.forall_mem_cons.mpr ⟨lw_p59, List.forall_mem_cons.mpr ⟨lw_p60, List.forall_mem_cons.mpr ⟨lw_p61, List.forall_mem_cons.mpr ⟨lw_p62, List.forall_mem_cons.mpr ⟨lw_p63, fun _ h => absurd h List.not_mem_nil⟩⟩⟩⟩⟩⟩⟩⟩⟩⟩⟩⟩⟩⟩⟩⟩
theorem lw_p64 : lw_okq (⟨"ShoeHouseModel", "isTwo", "(I)Z"⟩, 69) := ⟨⟨by decide +kernel, by decide +kernel⟩, List.mem_of_getElem? (i := 1242) (by decide +kernel), List.mem_of_getElem? (i := 1567) (by decide +kernel), List.mem_of_getElem? (i := 1568) (by decide +kernel)⟩
theorem lw_p65 : lw_okq (⟨"ShoeHouseModel", "isLodger", "(I)Z"⟩, 69) := ⟨⟨by decide +kernel, by decide +kernel⟩, List.mem_of_getElem? (i := 1242) (by decide +kernel), List.mem_of_getElem? (i := 1575) (by decide +kernel), List.mem_of_getElem? (i := 1576) (by decide +kernel)⟩
theorem lw_p66 : lw_okq (⟨"ShoeHouseModel", "has", "(II)I"⟩, 69) := ⟨⟨by decide +kernel, by decide +kernel⟩, List.mem_of_getElem? (i := 1242) (by decide +kernel), List.mem_of_getElem? (i := 1579) (by decide +kernel), List.mem_of_getElem? (i := 1580) (by decide +kernel)⟩
theorem lw_p67 : lw_okq (⟨"ShoeHouseModel", "isHour", "(I)Z"⟩, 69) := ⟨⟨by decide +kernel, by decide +kernel⟩, List.mem_of_getElem? (i := 1242) (by decide +kernel), List.mem_of_getElem? (i := 1587) (by decide +kernel), List.mem_of_getElem? (i := 1588) (by decide +kernel)⟩
theorem lw_p68 : lw_okq (⟨"ShoeHouseModel", "signOf", "(II)I"⟩, 69) := ⟨⟨by decide +kernel, by decide +kernel⟩, List.mem_of_getElem? (i := 1242) (by decide +kernel), List.mem_of_getElem? (i := 1601) (by decide +kernel), List.mem_of_getElem? (i := 1602) (by decide +kernel)⟩
theorem lw_p69 : lw_okq (⟨"ShoeHouseModel", "lawOf", "(I)I"⟩, 69) := ⟨⟨by decide +kernel, by decide +kernel⟩, List.mem_of_getElem? (i := 1242) (by decide +kernel), List.mem_of_getElem? (i := 1605) (by decide +kernel), List.mem_of_getElem? (i := 1606) (by decide +kernel)⟩
theorem lw_p70 : lw_okq (⟨"ShoeHouseModel", "both", "(I)I"⟩, 69) := ⟨⟨by decide +kernel, by decide +kernel⟩, List.mem_of_getElem? (i := 1242) (by decide +kernel), List.mem_of_getElem? (i := 1609) (by decide +kernel), List.mem_of_getElem? (i := 1610) (by decide +kernel)⟩
theorem lw_p71 : lw_okq (⟨"ShoeHouseModel", "refuses", "(I)I"⟩, 69) := ⟨⟨by decide +kernel, by decide +kernel⟩, List.mem_of_getElem? (i := 1242) (by decide +kernel), List.mem_of_getElem? (i := 1617) (by decide +kernel), List.mem_of_getElem? (i := 1618) (by decide +kernel)⟩
theorem lw_p72 : lw_okq (⟨"ShoeHouseModel", "signAt", "(II)I"⟩, 69) := ⟨⟨by decide +kernel, by decide +kernel⟩, List.mem_of_getElem? (i := 1242) (by decide +kernel), List.mem_of_getElem? (i := 1638) (by decide +kernel), List.mem_of_getElem? (i := 1639) (by decide +kernel)⟩
theorem lw_p73 : lw_okq (⟨"ShoeHouseModel", "isFinder", "(I)Z"⟩, 69) := ⟨⟨by decide +kernel, by decide +kernel⟩, List.mem_of_getElem? (i := 1242) (by decide +kernel), List.mem_of_getElem? (i := 1646) (by decide +kernel), List.mem_of_getElem? (i := 1647) (by decide +kernel)⟩
theorem lw_p74 : lw_okq (⟨"ShoeHouseModel", "hour", "()I"⟩, 69) := ⟨⟨by decide +kernel, by decide +kernel⟩, List.mem_of_getElem? (i := 1242) (by decide +kernel), List.mem_of_getElem? (i := 1666) (by decide +kernel), List.mem_of_getElem? (i := 1667) (by decide +kernel)⟩
theorem lw_p75 : lw_okq (⟨"ShoeHouseModel", "isSpent", "(I)Z"⟩, 69) := ⟨⟨by decide +kernel, by decide +kernel⟩, List.mem_of_getElem? (i := 1242) (by decide +kernel), List.mem_of_getElem? (i := 1670) (by decide +kernel), List.mem_of_getElem? (i := 1671) (by decide +kernel)⟩
theorem lw_p76 : lw_okq (⟨"ShoeHouseModel", "seeks", "(II[I)V"⟩, 69) := ⟨⟨by decide +kernel, by decide +kernel⟩, List.mem_of_getElem? (i := 1242) (by decide +kernel), List.mem_of_getElem? (i := 1674) (by decide +kernel), List.mem_of_getElem? (i := 1675) (by decide +kernel)⟩
theorem lw_p77 : lw_okq (⟨"ShoeHouseModel", "fits", "(I[I)Z"⟩, 69) := ⟨⟨by decide +kernel, by decide +kernel⟩, List.mem_of_getElem? (i := 1242) (by decide +kernel), List.mem_of_getElem? (i := 1678) (by decide +kernel), List.mem_of_getElem? (i := 1679) (by decide +kernel)⟩
theorem lw_p78 : lw_okq (⟨"ShoeHouseModel", "counts", "(I)Z"⟩, 69) := ⟨⟨by decide +kernel, by decide +kernel⟩, List.mem_of_getElem? (i := 1242) (by decide +kernel), List.mem_of_getElem? (i := 1682) (by decide +kernel), List.mem_of_getElem? (i := 1683) (by decide +kernel)⟩
theorem lw_p79 : lw_okq (⟨"ShoeHouseModel", "behind", "(III)I"⟩, 69) := ⟨⟨by decide +kernel, by decide +kernel⟩, List.mem_of_getElem? (i := 1242) (by decide +kernel), List.mem_of_getElem? (i := 1686) (by decide +kernel), List.mem_of_getElem? (i := 1687) (by decide +kernel)⟩
def lw_privs_5 : List (MethodName × Nat) := [(⟨"ShoeHouseModel", "isTwo", "(I)Z"⟩, 69), (⟨"ShoeHouseModel", "isLodger", "(I)Z"⟩, 69), (⟨"ShoeHouseModel", "has", "(II)I"⟩, 69), (⟨"ShoeHouseModel", "isHour", "(I)Z"⟩, 69), (⟨"ShoeHouseModel", "signOf", "(II)I"⟩, 69), (⟨"ShoeHouseModel", "lawOf", "(I)I"⟩, 69), (⟨"ShoeHouseModel", "both", "(I)I"⟩, 69), (⟨"ShoeHouseModel", "refuses", "(I)I"⟩, 69), (⟨"ShoeHouseModel", "signAt", "(II)I"⟩, 69), (⟨"ShoeHouseModel", "isFinder", "(I)Z"⟩, 69), (⟨"ShoeHouseModel", "hour", "()I"⟩, 69), (⟨"ShoeHouseModel", "isSpent", "(I)Z"⟩, 69), (⟨"ShoeHouseModel", "seeks", "(II[I)V"⟩, 69), (⟨"ShoeHouseModel", "fits", "(I[I)Z"⟩, 69), (⟨"ShoeHouseModel", "counts", "(I)Z"⟩, 69), (⟨"ShoeHouseModel", "behind", "(III)I"⟩, 69)]
theorem lw_r5 : ∀ q ∈ lw_privs_5, lw_okq q := List.forall_mem_cons.mpr ⟨lw_p64, List.forall_mem_cons.mpr ⟨lw_p65, List.forall_mem_cons.mpr ⟨lw_p66, List.forall_mem_cons.mpr ⟨lw_p67, List.forall_mem_cons.mpr ⟨lw_p68, List.forall_mem_cons.mpr ⟨lw_p69, List.forall_mem_cons.mpr ⟨lw_p70, List.forall_mem_cons.mpr ⟨lw_p71, List.forall_mem_cons.mpr ⟨lw_p72, List.forall_mem_cons.mpr ⟨lw_p73, List.forall_mem_cons.mpr ⟨lw_p74, List.forall_mem_cons.mpr ⟨lw_p75, List.forall_mem_cons.mpr ⟨lw_p76, List.forall_mem_cons.mpr ⟨lw_p77, List.forall_mem_cons.mpr ⟨lw_p78, List.forall_mem_cons.mpr ⟨lw_p79, fun _ h => absurd h List.not_mem_nil⟩⟩⟩⟩⟩⟩⟩⟩⟩⟩⟩⟩⟩⟩⟩⟩
theorem lw_p80 : lw_okq (⟨"ShoeHouseModel", "with", "(I)I"⟩, 69) := ⟨⟨by decide +kernel, by decide +kernel⟩, List.mem_of_getElem? (i := 1242) (by decide +kernel), List.mem_of_getElem? (i := 1698) (by decide +kernel), List.mem_of_getElem? (i := 1699) (by decide +kernel)⟩
theorem lw_p81 : lw_okq (⟨"ShoeHouseModel", "isSomebody", "(II)Z"⟩, 69) := ⟨⟨by decide +kernel, by decide +kernel⟩, List.mem_of_getElem? (i := 1242) (by decide +kernel), List.mem_of_getElem? (i := 1702) (by decide +kernel), List.mem_of_getElem? (i := 1703) (by decide +kernel)⟩
theorem lw_p82 : lw_okq (⟨"ShoeHouseModel", "roomOf", "(II)I"⟩, 69) := ⟨⟨by decide +kernel, by decide +kernel⟩, List.mem_of_getElem? (i := 1242) (by decide +kernel), List.mem_of_getElem? (i := 1706) (by decide +kernel), List.mem_of_getElem? (i := 1707) (by decide +kernel)⟩
theorem lw_p83 : lw_okq (⟨"ShoeHouseModel", "misleads", "(III)Z"⟩, 69) := ⟨⟨by decide +kernel, by decide +kernel⟩, List.mem_of_getElem? (i := 1242) (by decide +kernel), List.mem_of_getElem? (i := 1718) (by decide +kernel), List.mem_of_getElem? (i := 1719) (by decide +kernel)⟩
theorem lw_p84 : lw_okq (⟨"ShoeHouseModel", "another", "(II)I"⟩, 69) := ⟨⟨by decide +kernel, by decide +kernel⟩, List.mem_of_getElem? (i := 1242) (by decide +kernel), List.mem_of_getElem? (i := 1722) (by decide +kernel), List.mem_of_getElem? (i := 1723) (by decide +kernel)⟩
theorem lw_p85 : lw_okq (⟨"ShoeHouseModel", "turnsDoors", "(I)Z"⟩, 69) := ⟨⟨by decide +kernel, by decide +kernel⟩, List.mem_of_getElem? (i := 1242) (by decide +kernel), List.mem_of_getElem? (i := 1726) (by decide +kernel), List.mem_of_getElem? (i := 1727) (by decide +kernel)⟩
theorem lw_p86 : lw_okq (⟨"ShoeHouseModel", "chanceOf", "(II)I"⟩, 69) := ⟨⟨by decide +kernel, by decide +kernel⟩, List.mem_of_getElem? (i := 1242) (by decide +kernel), List.mem_of_getElem? (i := 1734) (by decide +kernel), List.mem_of_getElem? (i := 1735) (by decide +kernel)⟩
theorem lw_p87 : lw_okq (⟨"ShoeHouseModel", "all", "(I)I"⟩, 69) := ⟨⟨by decide +kernel, by decide +kernel⟩, List.mem_of_getElem? (i := 1242) (by decide +kernel), List.mem_of_getElem? (i := 1742) (by decide +kernel), List.mem_of_getElem? (i := 1743) (by decide +kernel)⟩
theorem lw_p88 : lw_okq (⟨"ShoeHouseModel", "bestOf", "(II)I"⟩, 69) := ⟨⟨by decide +kernel, by decide +kernel⟩, List.mem_of_getElem? (i := 1242) (by decide +kernel), List.mem_of_getElem? (i := 1746) (by decide +kernel), List.mem_of_getElem? (i := 1747) (by decide +kernel)⟩
theorem lw_p89 : lw_okq (⟨"ShoeHouseModel", "turnsPath", "(I)Z"⟩, 69) := ⟨⟨by decide +kernel, by decide +kernel⟩, List.mem_of_getElem? (i := 1242) (by decide +kernel), List.mem_of_getElem? (i := 1750) (by decide +kernel), List.mem_of_getElem? (i := 1751) (by decide +kernel)⟩
theorem lw_p90 : lw_okq (⟨"ShoeHouseModel", "isRest", "(I)Z"⟩, 69) := ⟨⟨by decide +kernel, by decide +kernel⟩, List.mem_of_getElem? (i := 1242) (by decide +kernel), List.mem_of_getElem? (i := 1762) (by decide +kernel), List.mem_of_getElem? (i := 1763) (by decide +kernel)⟩
theorem lw_p91 : lw_okq (⟨"ShoeHouseModel", "there", "(II)I"⟩, 69) := ⟨⟨by decide +kernel, by decide +kernel⟩, List.mem_of_getElem? (i := 1242) (by decide +kernel), List.mem_of_getElem? (i := 1766) (by decide +kernel), List.mem_of_getElem? (i := 1767) (by decide +kernel)⟩
theorem lw_p92 : lw_okq (⟨"ShoeHouseModel", "isNeedy", "(II)Z"⟩, 69) := ⟨⟨by decide +kernel, by decide +kernel⟩, List.mem_of_getElem? (i := 1242) (by decide +kernel), List.mem_of_getElem? (i := 1774) (by decide +kernel), List.mem_of_getElem? (i := 1775) (by decide +kernel)⟩
theorem lw_p93 : lw_okq (⟨"ShoeHouseModel", "lendable", "(II)I"⟩, 69) := ⟨⟨by decide +kernel, by decide +kernel⟩, List.mem_of_getElem? (i := 1242) (by decide +kernel), List.mem_of_getElem? (i := 1778) (by decide +kernel), List.mem_of_getElem? (i := 1779) (by decide +kernel)⟩
theorem lw_p94 : lw_okq (⟨"ShoeHouseModel", "isFree", "(II)Z"⟩, 69) := ⟨⟨by decide +kernel, by decide +kernel⟩, List.mem_of_getElem? (i := 1242) (by decide +kernel), List.mem_of_getElem? (i := 1782) (by decide +kernel), List.mem_of_getElem? (i := 1783) (by decide +kernel)⟩
theorem lw_p95 : lw_okq (⟨"ShoeHouseModel", "given", "(II)I"⟩, 69) := ⟨⟨by decide +kernel, by decide +kernel⟩, List.mem_of_getElem? (i := 1242) (by decide +kernel), List.mem_of_getElem? (i := 1786) (by decide +kernel), List.mem_of_getElem? (i := 1787) (by decide +kernel)⟩
def lw_privs_6 : List (MethodName × Nat) := [(⟨"ShoeHouseModel", "with", "(I)I"⟩, 69), (⟨"ShoeHouseModel", "isSomebody", "(II)Z"⟩, 69), (⟨"ShoeHouseModel", "roomOf", "(II)I"⟩, 69), (⟨"ShoeHouseModel", "misleads", "(III)Z"⟩, 69), (⟨"ShoeHouseModel", "another", "(II)I"⟩, 69), (⟨"ShoeHouseModel", "turnsDoors", "(I)Z"⟩, 69), (⟨"ShoeHouseModel", "chanceOf", "(II)I"⟩, 69), (⟨"ShoeHouseModel", "all", "(I)I"⟩, 69), (⟨"ShoeHouseModel", "bestOf", "(II)I"⟩, 69), (⟨"ShoeHouseModel", "turnsPath", "(I)Z"⟩, 69), (⟨"ShoeHouseModel", "isRest", "(I)Z"⟩, 69), (⟨"ShoeHouseModel", "there", "(II)I"⟩, 69), (⟨"ShoeHouseModel", "isNeedy", "(II)Z"⟩, 69), (⟨"ShoeHouseModel", "lendable", "(II)I"⟩, 69), (⟨"ShoeHouseModel", "isFree", "(II)Z"⟩, 69), (⟨"ShoeHouseModel", "given", "(II)I"⟩, 69)]
theorem lw_r6 : ∀ q ∈ lw_privs_6, lw_okq q := List.forall_mem_cons.mpr ⟨lw_p80, List.forall_mem_cons.mpr ⟨lw_p81, List.forall_mem_cons.mpr ⟨lw_p82, List.forall_mem_cons.mpr ⟨lw_p83, List.forall_mem_cons.mpr ⟨lw_p84, List.forall_mem_cons.mpr ⟨lw_p85, List.forall_mem_cons.mpr ⟨lw_p86, List.forall_mem_cons.mpr ⟨lw_p87, List.forall_mem_cons.mpr ⟨lw_p88, List.forall_mem_cons.mpr ⟨lw_p89, List.forall_mem_cons.mpr ⟨lw_p90, List.forall_mem_cons.mpr ⟨lw_p91, List.forall_mem_cons.mpr ⟨lw_p92, List.forall_mem_cons.mpr ⟨lw_p93, List.forall_mem_cons.mpr ⟨lw_p94, List.forall_mem_cons.mpr ⟨lw_p95, fun _ h => absurd h List.not_mem_nil⟩⟩⟩⟩⟩⟩⟩⟩⟩⟩⟩⟩⟩⟩⟩⟩
theorem lw_p96 : lw_okq (⟨"ShoeHouseModel", "isCode", "(II)Z"⟩, 69) := ⟨⟨by decide +kernel, by decide +kernel⟩, List.mem_of_getElem? (i := 1242) (by decide +kernel), List.mem_of_getElem? (i := 1798) (by decide +kernel), List.mem_of_getElem? (i := 1799) (by decide +kernel)⟩
theorem lw_p97 : lw_okq (⟨"ShoeHouseModel", "spells", "(I)V"⟩, 69) := ⟨⟨by decide +kernel, by decide +kernel⟩, List.mem_of_getElem? (i := 1242) (by decide +kernel), List.mem_of_getElem? (i := 1802) (by decide +kernel), List.mem_of_getElem? (i := 1803) (by decide +kernel)⟩
def lw_privs_7 : List (MethodName × Nat) := [(⟨"ShoeHouseModel", "isCode", "(II)Z"⟩, 69), (⟨"ShoeHouseModel", "spells", "(I)V"⟩, 69)]
theorem lw_r7 : ∀ q ∈ lw_privs_7, lw_okq q := List.forall_mem_cons.mpr ⟨lw_p96, List.forall_mem_cons.mpr ⟨lw_p97, fun _ h => absurd h List.not_mem_nil⟩⟩
def lw_privs : List (MethodName × Nat) := lw_privs_1 ++ (lw_privs_2 ++ (lw_privs_3 ++ (lw_privs_4 ++ (lw_privs_5 ++ (lw_privs_6 ++ (lw_privs_7))))))
def lw_tbl : List Cond := k2_sels lw_privs ++ tables_1
theorem lw_privs_ok : ∀ q ∈ lw_privs, lw_okq q := by
  show ∀ q ∈ lw_privs_1 ++ (lw_privs_2 ++ (lw_privs_3 ++ (lw_privs_4 ++ (lw_privs_5 ++ (lw_privs_6 ++ (lw_privs_7)))))), lw_okq q
  exact List.forall_mem_append.mpr ⟨lw_r1, List.forall_mem_append.mpr ⟨lw_r2, List.forall_mem_append.mpr ⟨lw_r3, List.forall_mem_append.mpr ⟨lw_r4, List.forall_mem_append.mpr ⟨lw_r5, List.forall_mem_append.mpr ⟨lw_r6, lw_r7⟩⟩⟩⟩⟩⟩
end
section
/-! ===== BEGIN words of one list among another's, by their places ===== -/
theorem goodIn_r {big : List Cond} (ws : List Cond) (ps : List Nat) (hp : ws = ps.filterMap (fun i => big[i]?)) (h : ws.all goodWord = true) : GoodIn big ws := by
  intro w hw
  have h1 := List.all_eq_true.mp h w hw
  rw [hp] at hw
  obtain ⟨i, -, hi⟩ := List.mem_filterMap.mp hw
  have hm : w ∈ big := by first | exact List.mem_of_getElem? hi | exact List.getElem?_mem hi
  exact ⟨hm, good_of_word h1⟩
theorem goodIn_app {big a b : List Cond} (ha : GoodIn big a) (hb : GoodIn big b) : GoodIn big (a ++ b) := fun w h => (List.mem_append.mp h).elim (ha w) (hb w)
theorem goodIn_ca {big a b : List Cond} {c : Cond} (ha : GoodIn big (c :: a)) (hb : GoodIn big b) : GoodIn big (c :: (a ++ b)) := fun w h => (List.mem_cons.mp h).elim (fun e => ha w (List.mem_cons.mpr (Or.inl e))) (fun h => (List.mem_append.mp h).elim (fun h => ha w (List.mem_cons.mpr (Or.inr h))) (hb w))
theorem goodIn_sub {big ws : List Cond} (hm : ∀ w ∈ ws, w ∈ big) (h : ws.all goodWord = true) : GoodIn big ws := fun w hw => ⟨hm w hw, good_of_word (List.all_eq_true.mp h w hw)⟩
/-! ===== END ===== -/

/-! ===== BEGIN exceptions that leave a method, and their catching by the caller (launches without stack traces) ===== -/
section VXA
/-! The laws vx_back, vx_callV, vx_callS, vx_callSW, vx_throw0, vx_throwS follow proofs of the library, with one case more: JvmDerived/Free/Laws.lean (Back.of_free), Shelf42/LK1.lean (callV, callS), Shelf/KitTraced.lean (throwNew0V, throwNewS). -/
/-- where a method has thrown q: the class by its name, the cell, what was written, the world -/
def vx_T (XC : String → State → State → Prop) (st : State) (q : Addr) (t : State) (mc ms : Nat) (free : Addr → Prop) : Prop :=
  ∃ (E : String) (ce : Cell) (L : List Loc), XC E st t ∧ t.heap[q]? = some ce ∧ ce.vm = .none ∧ st.vm.findClass E = some ce.cls ∧ st.WarmedH t.vm ∧ st.sameButNew ({ t with vm := st.vm } : State) L mc ms ∧ ∀ z ∈ L, free z.base
def vx_Q (Qc : Array Value → State → Outcome → State → Prop) (XC : String → State → State → Prop) (mc ms : Nat) (free : Addr → Prop) : Array Value → State → Outcome → State → Prop := fun a st o t =>
  (Qc a st o t ∧ ∃ L, FrameEnd st o t L mc ms ∧ ∀ q ∈ L, free q.base) ∨ ∃ q, o = .threw q ∧ vx_T XC st q t mc ms free
/-- a callee that returns or throws -/
def vx_Met (l : Launch) (y : MethodName) (ws : List Cond) (rm : Room) (Pc : Array Value → State → Prop) (Qc : Array Value → State → Outcome → State → Prop) (XC : String → State → State → Prop) (mc ms : Nat) (free : Addr → Prop) : Prop :=
  MetFree l y (headSpec ws rm) Pc (fun _ _ _ _ _ => True) (vx_Q Qc XC mc ms free)
def vx_Post (XC : String → State → State → Prop) (mc ms : Nat) (free : Addr → Prop) : Pt → Array Value → Addr → Pt → Prop := fun A a q B =>
  ∃ (g : JFrame) (mk : MethodId) (t : State) (L : List Loc) (E : String) (ce : Cell), B.U.heap = t.heap ∧ B.U.vm = t.vm ∧ XC E (A.U.calling g mk a) t ∧ t.heap[q]? = some ce ∧ ce.vm = .none ∧ A.U.vm.findClass E = some ce.cls ∧ B.locs = A.locs ++ L ∧ (∀ z ∈ L, free z.base) ∧ B.cells = A.cells + mc ∧ B.slots = A.slots + ms
def vx_Back (l : Launch) (R : Room) (p : Program) (e : Env) (below : List Frame) (s : State) (sargs : Array Value) (y : MethodName) (len W9 : Nat)
    (Pre : Pt → Array Value → Prop) (Post : Pt → Array Value → Option Value → Pt → Prop) (PostX : Pt → Array Value → Addr → Pt → Prop) : Prop :=
  ∀ (m : MethodId) (meth : Method) (c : Code) (A : Pt) (g : JFrame) (ig : Instr) (mk : MethodId) (a : Array Value),
    Stand p l e R s m sargs below meth c A.U A.locs A.cells A.slots → g.method = m → g.locals.size = c.maxLocals → decode c.code g.pc = .ok (ig, len) →
    2 * g.monitorRoom + (g.stack.map fun v => v.category).sum ≤ W9 → A.U.methodNamed? y = some mk → Pre A a →
    (∃ (v : Option Value) (B : Pt), Stand p l e R s m sargs below meth c B.U B.locs B.cells B.slots ∧ Post A a v B ∧
      Steps p.tables e below (doInvoke e (A.U.setTop g) [] mk a).1 (B.U.setTop { g with pc := g.pc + len, stack := v.toList ++ g.stack })) ∨
    (∃ (q : Addr) (B : Pt), Stand p l e R s m sargs below meth c B.U B.locs B.cells B.slots ∧ PostX A a q B ∧
      Steps p.tables e below (doInvoke e (A.U.setTop g) [] mk a).1 ((B.U.setTop g).pushFrame (.throwing q)))
section Payer
variable {l : Launch} {R : Room} {p : Program} {e : Env} {below : List Frame} {s : State} {sargs : Array Value} {y : MethodName} {len W9 : Nat}
theorem vx_back {ws : List Cond} {rm : Room} {Pc : Array Value → State → Prop} {Qc : Array Value → State → Outcome → State → Prop} {XC : String → State → State → Prop} {mc ms : Nat} {free : Addr → Prop} {bytes : ByteArray} {maxL : Nat} {ret : Option FieldType}
    (hM : vx_Met l y ws rm Pc Qc XC mc ms free) (hblind : FrameBlind Pc) (hrc : rm.cells = mc) (hrs : rm.slots = ms)
    (hframes : rm.frames + 1 ≤ R.frames) (hlocals : W9 + (maxL + 11) + rm.locals ≤ R.locals)
    (hws : ∀ w ∈ ws, ∀ a' U, s.WarmedH U.vm → w.before a' U = true) (hcode : Cond.code y bytes maxL ret ∈ ws) (hinit : ∀ a' U, s.WarmedH U.vm → (Cond.initialized y.cls).before a' U = true) :
    vx_Back l R p e below s sargs y len W9 (PreOf R mc ms Pc) (PostOf Qc mc ms free) (vx_Post XC mc ms free) := by
  intro m meth c A g ig mk a X hg hsize hdg hW hn hp
  have h1 : (headSpec ws rm).pre.before a A.U = true := atoms_intro fun w hw => hws w hw _ _ X.warmed
  have h2 : (Cond.code y bytes maxL ret).before a A.U = true := hws _ hcode _ _ X.warmed
  have h3 : (Cond.initialized y.cls).before a A.U = true := hinit _ _ X.warmed
  have h4 : A.cells + (headSpec ws rm).room.cells ≤ R.cells := by rw [show (headSpec ws rm).room.cells = mc from hrc]; exact hp.1
  have h5 : A.slots + (headSpec ws rm).room.slots ≤ R.slots := by rw [show (headSpec ws rm).room.slots = ms from hrs]; exact hp.2.1
  have hPc : Pc a (A.U.calling g mk a) := hblind _ _ _ _ hp.2.2
  obtain ⟨U, Ls, c0, s0⟩ := A
  dsimp only [Pt.U, Pt.locs, Pt.cells, Pt.slots] at h1 h2 h3 h4 h5 X hn hPc ⊢
  obtain ⟨methY, cY, hmY, hcY, -, hlY, -, -, -, -⟩ := Cond.code_spec hn h2
  obtain ⟨kY, hkY, -⟩ := className_of_methodNamed hn
  have hinitY : kY.init = .initialized := Cond.initialized_spec (findClass_of_methodNamed hn) hkY h3
  have h : At U g.method c below := by rw [hg]; exact X.here
  have hlocals9 : W9 + (maxL + 11) + (headSpec ws rm).room.locals ≤ R.locals := hlocals
  have happ : (headSpec ws rm).appliesLoose y e.platform (U.calling g mk a) = true :=
    Spec.appliesLoose_calling (g := g) h hdg hn hkY hinitY
      (X.room_calling (g := g) (R' := (headSpec ws rm).room) hsize hmY hcY hframes (by rw [hlY]; omega) h4 h5) h1
  obtain ⟨mid, hmid⟩ := h.above
  have hfr : (U.setTop g).frames = (.java g :: mid) ++ below := by rw [State.frames_setTop' g h.top, hmid]; rfl
  obtain ⟨o, s₂, hsteps, -, hend, hq⟩ := Steps.callFree hM p X.admits X.cas X.clock (acts := []) hfr happ hPc trivial
  have hq' : vx_Q Qc XC mc ms free a (U.calling g mk a) o s₂ := hq
  rw [State.frames_setTop' g h.top] at hend
  obtain ⟨g₀, hg0⟩ := Option.isSome_iff_exists.mp h.top
  obtain ⟨r, hr⟩ := State.topJava?_eq_some.mp hg0
  have hr' : (({ U with heap := s₂.heap, slotsUsed := s₂.slotsUsed } : State).setVm s₂.vm).frames = .java g₀ :: r := hr
  rcases hq' with ⟨hqc, L, hfe, hL⟩ | ⟨q, rfl, E, ce, L, hx, hce, hcv, hcl, hW₂, hsm, hL⟩
  · obtain ⟨⟨v, rfl⟩, hW₂, e2, q2, q3, q4, q5, q6⟩ := id hfe
    have e3 : s₂ = ({ (U.calling g mk a).setFrames s₂.frames with heap := s₂.heap, slotsUsed := s₂.slotsUsed } : State).setVm s₂.vm := by
      have : s₂ = ({ s₂ with vm := (U.calling g mk a).vm } : State).setVm s₂.vm := rfl
      rw [e2] at this
      exact this
    obtain ⟨c₂, i₂, len₂, hc₂, hd₂, hf₂⟩ := hend
    have hW' : U.WarmedH s₂.vm := hW₂
    have hcc : c₂ = c := by
      have h1 : s₂.code? g.method = U.code? g.method := by
        rw [State.code?_eq, State.code?_eq, hW'.alike.method?]
      exact Option.some.inj (hc₂.symm.trans (h1.trans h.code))
    subst hcc
    have hlen : len₂ = len := by rw [hdg] at hd₂; cases hd₂; rfl
    subst hlen
    have hs₂ : s₂ = (({ U with heap := s₂.heap, slotsUsed := s₂.slotsUsed } : State).setVm s₂.vm).setTop { g with pc := g.pc + len₂, stack := v.toList ++ g.stack } := by
      refine e3.trans ?_
      rw [hf₂, State.calling_eq h.top, State.setFrames_setFrames, State.setTop_of_frames _ hr', hr]
      rfl
    have hsame : U.sameButNew ({ U with heap := s₂.heap, slotsUsed := s₂.slotsUsed } : State) L mc ms := by
      refine ⟨?_, q2, q3, q4, q5, q6⟩
      obtain ⟨t, ht, -⟩ := State.frames_cons hr
      show ({ U with heap := s₂.heap, slotsUsed := s₂.slotsUsed } : State) = { U.setFrames U.frames with heap := s₂.heap, slotsUsed := s₂.slotsUsed }
      rw [State.setFrames_self ht]
    subst hg
    refine Or.inl ⟨v, ⟨(({ U with heap := s₂.heap, slotsUsed := s₂.slotsUsed } : State).setVm s₂.vm), Ls ++ L, c0 + mc, s0 + ms⟩,
      ⟨X.admits, X.cas, X.clock, X.frames, X.room, X.hears, X.method, X.code, (X.here.setHeapUsed s₂.heap s₂.slotsUsed).setVm hW'.alike, X.tail, State.WarmedH.trans X.warmed hW', X.limits, X.bytes, X.same.trans (hsame.setVm s.vm)⟩,
      ⟨g, mk, s₂, L, rfl, rfl, hqc, rfl, hL, rfl, rfl⟩, ?_⟩
    show Steps p.tables e below _ ((({ U with heap := s₂.heap, slotsUsed := s₂.slotsUsed } : State).setVm s₂.vm).setTop { g with pc := g.pc + len₂, stack := v.toList ++ g.stack })
    rw [← hs₂]
    exact hsteps
  · obtain ⟨e2, q2, q3, q4, q5, q6⟩ := id hsm
    have e3 : s₂ = ({ (U.calling g mk a).setFrames s₂.frames with heap := s₂.heap, slotsUsed := s₂.slotsUsed } : State).setVm s₂.vm := by
      have : s₂ = ({ s₂ with vm := (U.calling g mk a).vm } : State).setVm s₂.vm := rfl
      rw [e2] at this
      exact this
    have hf₂ : s₂.frames = .throwing q :: .java g :: U.frames.tail := hend
    have hW' : U.WarmedH s₂.vm := hW₂
    have hs₂ : s₂ = ((({ U with heap := s₂.heap, slotsUsed := s₂.slotsUsed } : State).setVm s₂.vm).setTop g).pushFrame (.throwing q) := by
      refine e3.trans ?_
      rw [hf₂, State.calling_eq h.top, State.setFrames_setFrames, State.pushFrame, State.frames_setTop _ hr', State.setTop_of_frames _ hr', State.setFrames_setFrames, hr]
      rfl
    have hsame : U.sameButNew ({ U with heap := s₂.heap, slotsUsed := s₂.slotsUsed } : State) L mc ms := by
      refine ⟨?_, q2, q3, q4, q5, q6⟩
      obtain ⟨t, ht, -⟩ := State.frames_cons hr
      show ({ U with heap := s₂.heap, slotsUsed := s₂.slotsUsed } : State) = { U.setFrames U.frames with heap := s₂.heap, slotsUsed := s₂.slotsUsed }
      rw [State.setFrames_self ht]
    subst hg
    refine Or.inr ⟨q, ⟨(({ U with heap := s₂.heap, slotsUsed := s₂.slotsUsed } : State).setVm s₂.vm), Ls ++ L, c0 + mc, s0 + ms⟩,
      ⟨X.admits, X.cas, X.clock, X.frames, X.room, X.hears, X.method, X.code, (X.here.setHeapUsed s₂.heap s₂.slotsUsed).setVm hW'.alike, X.tail, State.WarmedH.trans X.warmed hW', X.limits, X.bytes, X.same.trans (hsame.setVm s.vm)⟩,
      ⟨g, mk, s₂, L, E, ce, rfl, rfl, hx, hce, hcv, hcl, rfl, hL, rfl, rfl⟩, ?_⟩
    show Steps p.tables e below _ (((({ U with heap := s₂.heap, slotsUsed := s₂.slotsUsed } : State).setVm s₂.vm).setTop g).pushFrame (.throwing q))
    rw [← hs₂]
    exact hsteps
end Payer
section Calls
variable {p : Program} {l : Launch} {e : Env} {R : Room} {s : State} {m : MethodId} {args : Array Value} {below : List Frame} {meth : Method} {c : Code} {T : State} {locs : List Loc} {cells slots : Nat}
theorem vx_callV (X : Stand p l e R s m args below meth c T locs cells slots) (hexec : p.tables.exec = Jvm.exec) {own C : String} {index : Nat} {y : MethodName} {bytes : ByteArray} {maxL : Nat} {ret : Option FieldType}
    (hown : s.vm.findClass own = some m.cls) (hlink : (Cond.methodLink own index y).before args s = true) (hinst : (Cond.instanceMethod y).before args s = true) (hsel : (Cond.selects C y y).before args s = true)
    (hcode : (Cond.code y bytes maxL ret).before args s = true) (hy : y.cls ≠ "java/lang/invoke/MethodHandle" ∧ y.cls ≠ "java/lang/invoke/VarHandle")
    {W9 : Nat} {Pre : Pt → Array Value → Prop} {Post : Pt → Array Value → Option Value → Pt → Prop} {PostX : Pt → Array Value → Addr → Pt → Prop} (hK : vx_Back l R p e below s args y 3 W9 Pre Post PostX)
    {b : Addr} {cellB : Cell} (hcell : T.heap[b]? = some cellB) (hobj : cellB.vm.isStatics = false) (hcls : s.vm.findClass C = some cellB.cls)
    {g : JFrame} (hg : g.method = m) (hsize : g.locals.size = c.maxLocals) {argsL rest : List Value} (hlen : ∀ sig, parseMethodDescriptor y.desc = some sig → argsL.length = sig.parameters.length)
    (hstack : g.stack = argsL.reverse ++ .ref b :: rest) (hW : 2 * g.monitorRoom + (rest.map fun v => v.category).sum ≤ W9) (hdg : decode c.code g.pc = .ok (.invokevirtual index, 3))
    (hpre : ∀ vm₁, s.WarmedH vm₁ → Pre ⟨T.setVm vm₁, locs, cells, slots⟩ (Value.ref b :: argsL).toArray) :
    (∃ (v : Option Value) (vm₁ : Vm) (B : Pt), s.WarmedH vm₁ ∧ Stand p l e R s m args below meth c B.U B.locs B.cells B.slots ∧ Post ⟨T.setVm vm₁, locs, cells, slots⟩ (Value.ref b :: argsL).toArray v B ∧
      ∀ target, Steps p.tables e below (B.U.setTop { g with pc := g.pc + 3, stack := v.toList ++ rest }) target → Steps p.tables e below (T.setTop g) target) ∨
    (∃ (q : Addr) (vm₁ : Vm) (B : Pt), s.WarmedH vm₁ ∧ Stand p l e R s m args below meth c B.U B.locs B.cells B.slots ∧ PostX ⟨T.setVm vm₁, locs, cells, slots⟩ (Value.ref b :: argsL).toArray q B ∧
      Steps p.tables e below (T.setTop g) ((B.U.setTop { g with stack := rest }).pushFrame (.throwing q))) := by
  obtain ⟨mk, methM, hnamed, hmethM, hstM, habM⟩ := Cond.instanceMethod_spec hinst
  obtain ⟨methM', cM, hmethM', -, -, -, -, -, -, hsigM⟩ := Cond.code_spec hnamed hcode
  cases hmethM.symm.trans hmethM'
  obtain ⟨c2, r2, m2, q1, q2, q3, q4, kP, hkP, hkPi⟩ := Cond.selects_spec hsel
  cases hcls.symm.trans q1
  cases (State.methodFound?_of_named hnamed hy).symm.trans q2
  cases hnamed.symm.trans q3
  have hselP : selectMethod e.platform s.vm cellB.cls mk = .method mk := by rw [Launch.admits_selectMethod X.admits]; exact q4
  obtain ⟨vm₁, X₁, hstep₁⟩ := X.invokevirtual hexec hown hlink hnamed hmethM hstM hkP hkPi hy (a := b) (cell := cellB) hcell
    (fun z h => by rw [h] at hobj; cases hobj) hselP hmethM habM hkP hkPi (g := g) hg (argsL := argsL) (rest := rest) (hlen _ hsigM) hstack hdg
  rcases hK m meth c ⟨T.setVm vm₁, locs, cells, slots⟩ { g with stack := rest } (.invokevirtual index) mk (Value.ref b :: argsL).toArray X₁ hg hsize hdg hW (X₁.named hnamed) (hpre vm₁ X₁.warmed) with ⟨v, B, X', hpost, hsteps⟩ | ⟨q, B, X', hpost, hsteps⟩
  · exact Or.inl ⟨v, vm₁, B, X₁.warmed, X', hpost, fun target h => hstep₁ _ fun acts => by rw [doInvoke_state]; exact hsteps.trans h⟩
  · exact Or.inr ⟨q, vm₁, B, X₁.warmed, X', hpost, hstep₁ _ fun acts => by rw [doInvoke_state]; exact hsteps⟩
theorem vx_callS (X : Stand p l e R s m args below meth c T locs cells slots) (hexec : p.tables.exec = Jvm.exec) {own : String} {index : Nat} {y : MethodName} {bytes : ByteArray} {maxL : Nat} {ret : Option FieldType}
    (hown : s.vm.findClass own = some m.cls) (hlink : (Cond.methodLink own index y).before args s = true) (hstat : (Cond.static y).before args s = true) (hinit : (Cond.initialized y.cls).before args s = true)
    (hcode : (Cond.code y bytes maxL ret).before args s = true) (hy : y.cls ≠ "java/lang/invoke/MethodHandle" ∧ y.cls ≠ "java/lang/invoke/VarHandle")
    {W9 : Nat} {Pre : Pt → Array Value → Prop} {Post : Pt → Array Value → Option Value → Pt → Prop} {PostX : Pt → Array Value → Addr → Pt → Prop} (hK : vx_Back l R p e below s args y 3 W9 Pre Post PostX)
    {g : JFrame} (hg : g.method = m) (hsize : g.locals.size = c.maxLocals) {argsL rest : List Value} (hlen : ∀ sig, parseMethodDescriptor y.desc = some sig → argsL.length = sig.parameters.length)
    (hstack : g.stack = argsL.reverse ++ rest) (hW : 2 * g.monitorRoom + (rest.map fun v => v.category).sum ≤ W9) (hdg : decode c.code g.pc = .ok (.invokestatic index, 3))
    (hpre : ∀ vm₁, s.WarmedH vm₁ → Pre ⟨T.setVm vm₁, locs, cells, slots⟩ argsL.toArray) :
    (∃ (v : Option Value) (vm₁ : Vm) (B : Pt), s.WarmedH vm₁ ∧ Stand p l e R s m args below meth c B.U B.locs B.cells B.slots ∧ Post ⟨T.setVm vm₁, locs, cells, slots⟩ argsL.toArray v B ∧
      ∀ target, Steps p.tables e below (B.U.setTop { g with pc := g.pc + 3, stack := v.toList ++ rest }) target → Steps p.tables e below (T.setTop g) target) ∨
    (∃ (q : Addr) (vm₁ : Vm) (B : Pt), s.WarmedH vm₁ ∧ Stand p l e R s m args below meth c B.U B.locs B.cells B.slots ∧ PostX ⟨T.setVm vm₁, locs, cells, slots⟩ argsL.toArray q B ∧
      Steps p.tables e below (T.setTop g) ((B.U.setTop { g with stack := rest }).pushFrame (.throwing q))) := by
  obtain ⟨mk, hnamed⟩ := Cond.code_named hcode
  obtain ⟨methM, cM, hmethM, -, -, -, -, -, -, hsigM⟩ := Cond.code_spec hnamed hcode
  have hstatic : methM.isStatic = true := Cond.static_spec hnamed hmethM hstat
  obtain ⟨kP, hkP, -⟩ := className_of_methodNamed hnamed
  have hinitP : kP.init = .initialized := Cond.initialized_spec (findClass_of_methodNamed hnamed) hkP hinit
  obtain ⟨vm₁, X₁, hstep₁⟩ := X.invokestatic hexec hown hlink hnamed hmethM hstatic hkP hinitP hy (g := g) hg (argsL := argsL) (rest := rest) (hlen _ hsigM) hstack hdg
  rcases hK m meth c ⟨T.setVm vm₁, locs, cells, slots⟩ { g with stack := rest } (.invokestatic index) mk argsL.toArray X₁ hg hsize hdg hW (X₁.named hnamed) (hpre vm₁ X₁.warmed) with ⟨v, B, X', hpost, hsteps⟩ | ⟨q, B, X', hpost, hsteps⟩
  · exact Or.inl ⟨v, vm₁, B, X₁.warmed, X', hpost, fun target h => hstep₁ _ fun acts => by rw [doInvoke_state]; exact hsteps.trans h⟩
  · exact Or.inr ⟨q, vm₁, B, X₁.warmed, X', hpost, hstep₁ _ fun acts => by rw [doInvoke_state]; exact hsteps⟩
end Calls
theorem vx_cls {s : State} {T : State} {vm₁ : Vm} {E : String} {k : ClassId} (hW : s.WarmedH vm₁) (h : (T.setVm vm₁).vm.findClass E = some k) : s.vm.findClass E = some k := by
  have h1 : vm₁.findClass E = some k := h
  rw [hW.alike.findClass] at h1
  exact h1
/-- the method's frame g, with q thrown over it -/
def vx_W (p : Program) (l : Launch) (e : Env) (R : Room) (s : State) (m : MethodId) (args : Array Value) (below : List Frame) (meth : Method) (c : Code) (H : Heap) (locs : List Loc) (cells slots : Nat) (Q : State → Prop) (g : JFrame) (q : Addr) : Prop :=
  ∀ T : State, T.heap = H → Stand p l e R s m args below meth c T locs cells slots → ∃ t, Steps p.tables e below ((T.setTop g).pushFrame (.throwing q)) t ∧ Q t
def vx_Run (p : Program) (l : Launch) (e : Env) (R : Room) (s : State) (m : MethodId) (args : Array Value) (below : List Frame) (meth : Method) (c : Code) (H : Heap) (locs : List Loc) (cells slots mc ms : Nat) (g : JFrame) (rest : List Value) (Qa : State → Outcome → State → Prop) (XC : String → State → State → Prop) (free : Addr → Prop) : Prop :=
  ∀ T : State, T.heap = H → Stand p l e R s m args below meth c T locs cells slots →
    (∃ (v : Option Value) (st₀ t T' : State) (L : List Loc), st₀.heap = H ∧ Stand p l e R s m args below meth c T' (locs ++ L) (cells + mc) (slots + ms) ∧ (∀ q ∈ L, free q.base) ∧ T'.heap = t.heap ∧ T'.vm = t.vm ∧ Qa st₀ (.returned v) t ∧
      Goes p e below T g T' { g with pc := g.pc + 3, stack := v.toList ++ rest }) ∨
    (∃ (q : Addr) (st₀ t T' : State) (L : List Loc) (E : String) (ce : Cell), st₀.heap = H ∧ Stand p l e R s m args below meth c T' (locs ++ L) (cells + mc) (slots + ms) ∧ (∀ z ∈ L, free z.base) ∧ T'.heap = t.heap ∧ T'.vm = t.vm ∧ XC E st₀ t ∧ t.heap[q]? = some ce ∧ ce.vm = .none ∧ s.vm.findClass E = some ce.cls ∧
      Steps p.tables e below (T.setTop g) ((T'.setTop { g with stack := rest }).pushFrame (.throwing q)))
def vx_X {S : Type} (px : S → Prop) (B : String → S → State → Prop) (A : Nat → Prop) : String → State → State → Prop := fun E st t => ∃ u : S, px u ∧ B E u t ∧ va_F A st t
section Runs
variable {p : Program} {l : Launch} {e : Env} {R : Room} {s : State} {m : MethodId} {args : Array Value} {below : List Frame} {meth : Method} {c : Code} {H : Heap} {locs : List Loc} {cells slots : Nat}
variable {y : MethodName} {bytes cc : ByteArray} {maxL nL mc ms n index : Nat} {ret : Option FieldType} {ws : List Cond} {rm : Room} {Pc : Array Value → State → Prop} {Qc : Array Value → State → Outcome → State → Prop} {XC : String → State → State → Prop} {free : Addr → Prop} {Ts : List Cond} {own C : String} {b : Addr} {As rest : List Value} {g : JFrame}
theorem vx_callBack (cb : CallB R s args own index y bytes maxL ret ws rm mc ms n) (hM : vx_Met l y ws rm Pc Qc XC mc ms free) (hbl : FrameBlind Pc) : vx_Back l R p e below s args y 3 8 (PreOf R mc ms Pc) (PostOf Qc mc ms free) (vx_Post XC mc ms free) := by
  obtain ⟨hrc, hrs, hfr, hlo, hws, hcw, -, hini, -⟩ := cb
  exact vx_back (bytes := bytes) (maxL := maxL) (ret := ret) hM hbl hrc hrs hfr hlo hws hcw (fun a' U hW => word_at hW (Or.inl (by first | rfl | simp [Cond.onTables, Cond.keeps, Cond.steady])) hini)
theorem vx_runV (S : CallFix p m c cc nL s args Ts own) (hM : vx_Met l y ws rm Pc Qc XC mc ms free) (cw : CallW R s args own C index y bytes maxL ret ws rm mc ms n) (hp : PreV s H C b Pc As)
    (hg : g.method = m) (hn : As.length = n) (hsize : g.locals.size = nL) (hstack : g.stack = As.reverse ++ .ref b :: rest) (hW : 2 * g.monitorRoom + (rest.map fun v => v.category).sum ≤ 8) (hdg : decode cc g.pc = .ok (.invokevirtual index, 3)) (hf : cells + mc ≤ R.cells ∧ slots + ms ≤ R.slots) :
    vx_Run p l e R s m args below meth c H locs cells slots mc ms g rest (Qc (Value.ref b :: As).toArray) XC free := by
  have hK : vx_Back l R p e below s args y 3 8 (PreOf R mc ms Pc) (PostOf Qc mc ms free) (vx_Post XC mc ms free) := vx_callBack cw.1 hM hp.1
  obtain ⟨⟨-, -, -, -, -, -, hcode, -, hy, hlen, hl⟩, hin, hse⟩ := cw
  obtain ⟨hx, hb, hml, ho, -⟩ := S
  obtain ⟨-, ⟨cellB, hcB, hoB, hclB⟩, hPc⟩ := hp
  intro T hT X
  rcases vx_callV X hx (C := C) (bytes := bytes) (maxL := maxL) (ret := ret) ho hl hin hse hcode hy hK (by rw [hT]; exact hcB) hoB hclB hg (hsize.trans hml.symm) (argsL := As) (rest := rest) (fun sig h => hn.trans (hlen sig h)) hstack hW (by rw [hb]; exact hdg)
    (fun vm₁ hW₁ => ⟨hf.1, hf.2, hPc (T.setVm vm₁) hT hW₁⟩) with ⟨v, vm₁, ⟨U', l2, c2, s2⟩, hW₁, X', ⟨g', mk, t, L, e1, e2, hq, h1, hL, h2, h3⟩, st⟩ | ⟨q, vm₁, ⟨U', l2, c2, s2⟩, hW₁, X', ⟨g', mk, t, L, E, ce, e1, e2, hq, hce, hcv, hcl, h1, hL, h2, h3⟩, st⟩
  · dsimp only [Pt.U, Pt.locs, Pt.cells, Pt.slots] at X' e1 e2 h1 h2 h3 st
    subst h1; subst h2; subst h3
    exact Or.inl ⟨v, (T.setVm vm₁).calling g' mk (Value.ref b :: As).toArray, t, U', L, hT, X', hL, e1, e2, hq, st⟩
  · dsimp only [Pt.U, Pt.locs, Pt.cells, Pt.slots] at X' e1 e2 h1 h2 h3 st hcl
    subst h1; subst h2; subst h3
    exact Or.inr ⟨q, (T.setVm vm₁).calling g' mk (Value.ref b :: As).toArray, t, U', L, E, ce, hT, X', hL, e1, e2, hq, hce, hcv, vx_cls hW₁ hcl, st⟩
theorem vx_runS (S : CallFix p m c cc nL s args Ts own) (hM : vx_Met l y ws rm Pc Qc XC mc ms free) (cw : CallB R s args own index y bytes maxL ret ws rm mc ms n ∧ (Cond.static y).before args s = true) (hp : PreS s H Pc As)
    (hg : g.method = m) (hn : As.length = n) (hsize : g.locals.size = nL) (hstack : g.stack = As.reverse ++ rest) (hW : 2 * g.monitorRoom + (rest.map fun v => v.category).sum ≤ 8) (hdg : decode cc g.pc = .ok (.invokestatic index, 3)) (hf : cells + mc ≤ R.cells ∧ slots + ms ≤ R.slots) :
    vx_Run p l e R s m args below meth c H locs cells slots mc ms g rest (Qc As.toArray) XC free := by
  have hK : vx_Back l R p e below s args y 3 8 (PreOf R mc ms Pc) (PostOf Qc mc ms free) (vx_Post XC mc ms free) := vx_callBack cw.1 hM hp.1
  obtain ⟨⟨-, -, -, -, -, -, hcode, hini, hy, hlen, hl⟩, hstt⟩ := cw
  obtain ⟨hx, hb, hml, ho, -⟩ := S
  intro T hT X
  rcases vx_callS X hx (bytes := bytes) (maxL := maxL) (ret := ret) ho hl hstt hini hcode hy hK hg (hsize.trans hml.symm) (argsL := As) (rest := rest) (fun sig h => hn.trans (hlen sig h)) hstack hW (by rw [hb]; exact hdg)
    (fun vm₁ hW₁ => ⟨hf.1, hf.2, hp.2 (T.setVm vm₁) hT hW₁⟩) with ⟨v, vm₁, ⟨U', l2, c2, s2⟩, hW₁, X', ⟨g', mk, t, L, e1, e2, hq, h1, hL, h2, h3⟩, st⟩ | ⟨q, vm₁, ⟨U', l2, c2, s2⟩, hW₁, X', ⟨g', mk, t, L, E, ce, e1, e2, hq, hce, hcv, hcl, h1, hL, h2, h3⟩, st⟩
  · dsimp only [Pt.U, Pt.locs, Pt.cells, Pt.slots] at X' e1 e2 h1 h2 h3 st
    subst h1; subst h2; subst h3
    exact Or.inl ⟨v, (T.setVm vm₁).calling g' mk As.toArray, t, U', L, hT, X', hL, e1, e2, hq, st⟩
  · dsimp only [Pt.U, Pt.locs, Pt.cells, Pt.slots] at X' e1 e2 h1 h2 h3 st hcl
    subst h1; subst h2; subst h3
    exact Or.inr ⟨q, (T.setVm vm₁).calling g' mk As.toArray, t, U', L, E, ce, hT, X', hL, e1, e2, hq, hce, hcv, vx_cls hW₁ hcl, st⟩
end Runs
section Rows
variable {p : Program} {l : Launch} {e : Env} {R : Room} {s : State} {m : MethodId} {args : Array Value} {below : List Frame} {meth : Method} {c : Code} {H : Heap} {locs : List Loc} {cells slots : Nat} {Q : State → Prop}
variable {mc ms : Nat} {free : Addr → Prop} {A0 A1 : Nat → Prop} {H0 : Heap} {a : Array Value} {pc : Nat} {ls : Array Slot} {st0 rest : List Value}
theorem vx_keep {st₀ t T' : State} {L : List Loc} (h0 : st₀.heap = H) (e1 : T'.heap = t.heap) (hS : va_S A0 H0 H locs) (hA : ∀ q, q < H.size → A1 q → A0 q) (hf : ∀ q, free q → A0 q) (hL : ∀ q ∈ L, free q.base) (hF : va_F A1 st₀ t) :
    H.size ≤ T'.heap.size ∧ (∀ q : Nat, q < H.size → ¬ A1 q → T'.heap[q]? = H[q]?) ∧ va_S A0 H0 T'.heap (locs ++ L) := by
  obtain ⟨hz, hk⟩ := hF
  rw [h0] at hz hk
  exact ⟨by rw [e1]; exact hz, fun q h1 h2 => by rw [e1]; exact hk q h1 h2,
    ⟨Nat.le_trans hS.1 (by rw [e1]; exact hz), fun q h1 h2 => by rw [e1, hk q (Nat.lt_of_lt_of_le h1 hS.1) (fun z => h2 (hA q (Nat.lt_of_lt_of_le h1 hS.1) z))]; exact hS.2.1 q h1 h2, fun q hq => by
      rcases List.mem_append.mp hq with h | h
      · exact hS.2.2 q h
      · exact hf _ (hL q h)⟩⟩
theorem vx_calli {S SX : Type} {post : Int32 → S → Prop} {px : SX → Prop} {B : S → State → Prop} {BX : String → SX → State → Prop} {AX : Nat → Prop} (hr : vx_Run p l e R s m args below meth c H locs cells slots mc ms (F0 m pc ls st0) rest (va_Qi post B A1 a) (vx_X px BX AX) free) (hS : va_S A0 H0 H locs) (hA : ∀ q, q < H.size → A1 q → A0 q) (hf : ∀ q, free q → A0 q) (hAX : ∀ q, q < H.size → AX q → A0 q)
    (kx : ∀ (E : String) (ce : Cell) (q9 : Addr) (u : SX) (t : State) (H1 : Heap) (locs1 : List Loc), t.heap = H1 → s.vm.Alike t.vm → px u → BX E u t → H.size ≤ H1.size → (∀ q : Nat, q < H.size → ¬ AX q → H1[q]? = H[q]?) → va_S A0 H0 H1 locs1 → H1[q9]? = some ce → ce.vm = .none → s.vm.findClass E = some ce.cls → vx_W p l e R s m args below meth c H1 locs1 (cells + mc) (slots + ms) Q (F0 m pc ls rest) q9)
    (kk : ∀ (r : Int32) (u : S) (t : State) (H1 : Heap) (locs1 : List Loc), t.heap = H1 → s.vm.Alike t.vm → post r u → B u t → H.size ≤ H1.size → (∀ q : Nat, q < H.size → ¬ A1 q → H1[q]? = H[q]?) → va_S A0 H0 H1 locs1 → W p l e R s m args below meth c H1 locs1 (cells + mc) (slots + ms) Q (F0 m (pc + 3) ls (.int r :: rest))) : W p l e R s m args below meth c H locs cells slots Q (F0 m pc ls st0) := by
  intro T hT X
  rcases hr T hT X with ⟨v, st₀, t, T', L, h0, X', hL, e1, e2, ⟨⟨r, u, hv, hp, hb⟩, hF⟩, st⟩ | ⟨q, st₀, t, T', L, E, ce, h0, X', hL, e1, e2, ⟨u, hp, hb, hF⟩, hce, hcv, hcl, st⟩
  · cases hv
    obtain ⟨k1, k2, k3⟩ := vx_keep h0 e1 hS hA hf hL hF
    obtain ⟨t2, a1, b1⟩ := kk r u t T'.heap (locs ++ L) e1.symm (by rw [← e2]; exact X'.warmed.alike) hp hb k1 k2 k3 T' rfl X'
    exact ⟨t2, st t2 a1, b1⟩
  · obtain ⟨k1, k2, k3⟩ := vx_keep h0 e1 hS hAX hf hL hF
    obtain ⟨t2, a1, b1⟩ := kx E ce q u t T'.heap (locs ++ L) e1.symm (by rw [← e2]; exact X'.warmed.alike) hp hb k1 k2 k3 (by rw [e1]; exact hce) hcv hcl T' rfl X'
    exact ⟨t2, st.trans a1, b1⟩
theorem vx_calll {S SX : Type} {post : Int64 → S → Prop} {px : SX → Prop} {B : S → State → Prop} {BX : String → SX → State → Prop} {AX : Nat → Prop} (hr : vx_Run p l e R s m args below meth c H locs cells slots mc ms (F0 m pc ls st0) rest (va_Ql post B A1 a) (vx_X px BX AX) free) (hS : va_S A0 H0 H locs) (hA : ∀ q, q < H.size → A1 q → A0 q) (hf : ∀ q, free q → A0 q) (hAX : ∀ q, q < H.size → AX q → A0 q)
    (kx : ∀ (E : String) (ce : Cell) (q9 : Addr) (u : SX) (t : State) (H1 : Heap) (locs1 : List Loc), t.heap = H1 → s.vm.Alike t.vm → px u → BX E u t → H.size ≤ H1.size → (∀ q : Nat, q < H.size → ¬ AX q → H1[q]? = H[q]?) → va_S A0 H0 H1 locs1 → H1[q9]? = some ce → ce.vm = .none → s.vm.findClass E = some ce.cls → vx_W p l e R s m args below meth c H1 locs1 (cells + mc) (slots + ms) Q (F0 m pc ls rest) q9)
    (kk : ∀ (r : Int64) (u : S) (t : State) (H1 : Heap) (locs1 : List Loc), t.heap = H1 → s.vm.Alike t.vm → post r u → B u t → H.size ≤ H1.size → (∀ q : Nat, q < H.size → ¬ A1 q → H1[q]? = H[q]?) → va_S A0 H0 H1 locs1 → W p l e R s m args below meth c H1 locs1 (cells + mc) (slots + ms) Q (F0 m (pc + 3) ls (.long r :: rest))) : W p l e R s m args below meth c H locs cells slots Q (F0 m pc ls st0) := by
  intro T hT X
  rcases hr T hT X with ⟨v, st₀, t, T', L, h0, X', hL, e1, e2, ⟨⟨r, u, hv, hp, hb⟩, hF⟩, st⟩ | ⟨q, st₀, t, T', L, E, ce, h0, X', hL, e1, e2, ⟨u, hp, hb, hF⟩, hce, hcv, hcl, st⟩
  · cases hv
    obtain ⟨k1, k2, k3⟩ := vx_keep h0 e1 hS hA hf hL hF
    obtain ⟨t2, a1, b1⟩ := kk r u t T'.heap (locs ++ L) e1.symm (by rw [← e2]; exact X'.warmed.alike) hp hb k1 k2 k3 T' rfl X'
    exact ⟨t2, st t2 a1, b1⟩
  · obtain ⟨k1, k2, k3⟩ := vx_keep h0 e1 hS hAX hf hL hF
    obtain ⟨t2, a1, b1⟩ := kx E ce q u t T'.heap (locs ++ L) e1.symm (by rw [← e2]; exact X'.warmed.alike) hp hb k1 k2 k3 (by rw [e1]; exact hce) hcv hcl T' rfl X'
    exact ⟨t2, st.trans a1, b1⟩
theorem vx_callf {S SX : Type} {post : UInt32 → S → Prop} {px : SX → Prop} {B : S → State → Prop} {BX : String → SX → State → Prop} {AX : Nat → Prop} (hr : vx_Run p l e R s m args below meth c H locs cells slots mc ms (F0 m pc ls st0) rest (va_Qf post B A1 a) (vx_X px BX AX) free) (hS : va_S A0 H0 H locs) (hA : ∀ q, q < H.size → A1 q → A0 q) (hf : ∀ q, free q → A0 q) (hAX : ∀ q, q < H.size → AX q → A0 q)
    (kx : ∀ (E : String) (ce : Cell) (q9 : Addr) (u : SX) (t : State) (H1 : Heap) (locs1 : List Loc), t.heap = H1 → s.vm.Alike t.vm → px u → BX E u t → H.size ≤ H1.size → (∀ q : Nat, q < H.size → ¬ AX q → H1[q]? = H[q]?) → va_S A0 H0 H1 locs1 → H1[q9]? = some ce → ce.vm = .none → s.vm.findClass E = some ce.cls → vx_W p l e R s m args below meth c H1 locs1 (cells + mc) (slots + ms) Q (F0 m pc ls rest) q9)
    (kk : ∀ (r : UInt32) (u : S) (t : State) (H1 : Heap) (locs1 : List Loc), t.heap = H1 → s.vm.Alike t.vm → post r u → B u t → H.size ≤ H1.size → (∀ q : Nat, q < H.size → ¬ A1 q → H1[q]? = H[q]?) → va_S A0 H0 H1 locs1 → W p l e R s m args below meth c H1 locs1 (cells + mc) (slots + ms) Q (F0 m (pc + 3) ls (.float r :: rest))) : W p l e R s m args below meth c H locs cells slots Q (F0 m pc ls st0) := by
  intro T hT X
  rcases hr T hT X with ⟨v, st₀, t, T', L, h0, X', hL, e1, e2, ⟨⟨r, u, hv, hp, hb⟩, hF⟩, st⟩ | ⟨q, st₀, t, T', L, E, ce, h0, X', hL, e1, e2, ⟨u, hp, hb, hF⟩, hce, hcv, hcl, st⟩
  · cases hv
    obtain ⟨k1, k2, k3⟩ := vx_keep h0 e1 hS hA hf hL hF
    obtain ⟨t2, a1, b1⟩ := kk r u t T'.heap (locs ++ L) e1.symm (by rw [← e2]; exact X'.warmed.alike) hp hb k1 k2 k3 T' rfl X'
    exact ⟨t2, st t2 a1, b1⟩
  · obtain ⟨k1, k2, k3⟩ := vx_keep h0 e1 hS hAX hf hL hF
    obtain ⟨t2, a1, b1⟩ := kx E ce q u t T'.heap (locs ++ L) e1.symm (by rw [← e2]; exact X'.warmed.alike) hp hb k1 k2 k3 (by rw [e1]; exact hce) hcv hcl T' rfl X'
    exact ⟨t2, st.trans a1, b1⟩
theorem vx_calld {S SX : Type} {post : UInt64 → S → Prop} {px : SX → Prop} {B : S → State → Prop} {BX : String → SX → State → Prop} {AX : Nat → Prop} (hr : vx_Run p l e R s m args below meth c H locs cells slots mc ms (F0 m pc ls st0) rest (va_Qd post B A1 a) (vx_X px BX AX) free) (hS : va_S A0 H0 H locs) (hA : ∀ q, q < H.size → A1 q → A0 q) (hf : ∀ q, free q → A0 q) (hAX : ∀ q, q < H.size → AX q → A0 q)
    (kx : ∀ (E : String) (ce : Cell) (q9 : Addr) (u : SX) (t : State) (H1 : Heap) (locs1 : List Loc), t.heap = H1 → s.vm.Alike t.vm → px u → BX E u t → H.size ≤ H1.size → (∀ q : Nat, q < H.size → ¬ AX q → H1[q]? = H[q]?) → va_S A0 H0 H1 locs1 → H1[q9]? = some ce → ce.vm = .none → s.vm.findClass E = some ce.cls → vx_W p l e R s m args below meth c H1 locs1 (cells + mc) (slots + ms) Q (F0 m pc ls rest) q9)
    (kk : ∀ (r : UInt64) (u : S) (t : State) (H1 : Heap) (locs1 : List Loc), t.heap = H1 → s.vm.Alike t.vm → post r u → B u t → H.size ≤ H1.size → (∀ q : Nat, q < H.size → ¬ A1 q → H1[q]? = H[q]?) → va_S A0 H0 H1 locs1 → W p l e R s m args below meth c H1 locs1 (cells + mc) (slots + ms) Q (F0 m (pc + 3) ls (.double r :: rest))) : W p l e R s m args below meth c H locs cells slots Q (F0 m pc ls st0) := by
  intro T hT X
  rcases hr T hT X with ⟨v, st₀, t, T', L, h0, X', hL, e1, e2, ⟨⟨r, u, hv, hp, hb⟩, hF⟩, st⟩ | ⟨q, st₀, t, T', L, E, ce, h0, X', hL, e1, e2, ⟨u, hp, hb, hF⟩, hce, hcv, hcl, st⟩
  · cases hv
    obtain ⟨k1, k2, k3⟩ := vx_keep h0 e1 hS hA hf hL hF
    obtain ⟨t2, a1, b1⟩ := kk r u t T'.heap (locs ++ L) e1.symm (by rw [← e2]; exact X'.warmed.alike) hp hb k1 k2 k3 T' rfl X'
    exact ⟨t2, st t2 a1, b1⟩
  · obtain ⟨k1, k2, k3⟩ := vx_keep h0 e1 hS hAX hf hL hF
    obtain ⟨t2, a1, b1⟩ := kx E ce q u t T'.heap (locs ++ L) e1.symm (by rw [← e2]; exact X'.warmed.alike) hp hb k1 k2 k3 (by rw [e1]; exact hce) hcv hcl T' rfl X'
    exact ⟨t2, st.trans a1, b1⟩
theorem vx_callv {S SX : Type} {post : S → Prop} {px : SX → Prop} {B : S → State → Prop} {BX : String → SX → State → Prop} {AX : Nat → Prop} (hr : vx_Run p l e R s m args below meth c H locs cells slots mc ms (F0 m pc ls st0) rest (va_Qv post B A1 a) (vx_X px BX AX) free) (hS : va_S A0 H0 H locs) (hA : ∀ q, q < H.size → A1 q → A0 q) (hf : ∀ q, free q → A0 q) (hAX : ∀ q, q < H.size → AX q → A0 q)
    (kx : ∀ (E : String) (ce : Cell) (q9 : Addr) (u : SX) (t : State) (H1 : Heap) (locs1 : List Loc), t.heap = H1 → s.vm.Alike t.vm → px u → BX E u t → H.size ≤ H1.size → (∀ q : Nat, q < H.size → ¬ AX q → H1[q]? = H[q]?) → va_S A0 H0 H1 locs1 → H1[q9]? = some ce → ce.vm = .none → s.vm.findClass E = some ce.cls → vx_W p l e R s m args below meth c H1 locs1 (cells + mc) (slots + ms) Q (F0 m pc ls rest) q9)
    (kk : ∀ (u : S) (t : State) (H1 : Heap) (locs1 : List Loc), t.heap = H1 → s.vm.Alike t.vm → post u → B u t → H.size ≤ H1.size → (∀ q : Nat, q < H.size → ¬ A1 q → H1[q]? = H[q]?) → va_S A0 H0 H1 locs1 → W p l e R s m args below meth c H1 locs1 (cells + mc) (slots + ms) Q (F0 m (pc + 3) ls (rest))) : W p l e R s m args below meth c H locs cells slots Q (F0 m pc ls st0) := by
  intro T hT X
  rcases hr T hT X with ⟨v, st₀, t, T', L, h0, X', hL, e1, e2, ⟨⟨u, hv, hp, hb⟩, hF⟩, st⟩ | ⟨q, st₀, t, T', L, E, ce, h0, X', hL, e1, e2, ⟨u, hp, hb, hF⟩, hce, hcv, hcl, st⟩
  · cases hv
    obtain ⟨k1, k2, k3⟩ := vx_keep h0 e1 hS hA hf hL hF
    obtain ⟨t2, a1, b1⟩ := kk u t T'.heap (locs ++ L) e1.symm (by rw [← e2]; exact X'.warmed.alike) hp hb k1 k2 k3 T' rfl X'
    exact ⟨t2, st t2 a1, b1⟩
  · obtain ⟨k1, k2, k3⟩ := vx_keep h0 e1 hS hAX hf hL hF
    obtain ⟨t2, a1, b1⟩ := kx E ce q u t T'.heap (locs ++ L) e1.symm (by rw [← e2]; exact X'.warmed.alike) hp hb k1 k2 k3 (by rw [e1]; exact hce) hcv hcl T' rfl X'
    exact ⟨t2, st.trans a1, b1⟩
end Rows
section Ends
variable {p : Program} {l : Launch} {e : Env} {R : Room} {s : State} {m : MethodId} {args : Array Value} {below : List Frame} {meth : Method} {c : Code} {H : Heap} {locs : List Loc} {cells slots : Nat} {Q : State → Prop}
variable {mc ms : Nat} {free : Addr → Prop} {A0 A1 : Nat → Prop} {H0 : Heap} {a : Array Value} {ls : Array Slot} {st0 rest : List Value}
variable {Qc : Array Value → State → Outcome → State → Prop} {XC : String → State → State → Prop}
/-- what a body that may throw owes at its end -/
def vx_MQ (below : List Frame) (Qc : Array Value → State → Outcome → State → Prop) (XC : String → State → State → Prop) (a : Array Value) (s : State) (mc ms : Nat) (free : Addr → Prop) : State → Prop := fun t =>
  ∃ o, t.status = .running ∧ Ended t below o ∧ vx_Q Qc XC mc ms free a s o t
theorem vx_ret {g : JFrame} {mc ms : Nat} (k : W p l e R s m args below meth c H locs cells slots (MQ below Qc args s mc ms free) g) : W p l e R s m args below meth c H locs cells slots (vx_MQ below Qc XC args s mc ms free) g := by
  intro T hT X
  obtain ⟨t, a1, o, b1, b2, b3, b4⟩ := k T hT X
  exact ⟨t, a1, o, b1, b2, Or.inl ⟨b3, b4⟩⟩
/-- not caught here: it goes on to the caller -/
theorem vx_widen {g : JFrame} {q : Addr} {k n : Nat} (h1 : cells ≤ k) (h2 : slots ≤ n) (kk : vx_W p l e R s m args below meth c H locs k n Q g q) : vx_W p l e R s m args below meth c H locs cells slots Q g q := fun T hT X => kk T hT (stand_widen X h1 h2)
theorem vx_out {pc : Nat} {E : String} {ce : Cell} {q : Addr} {mc ms : Nat} (hout : ∀ x ∈ c.exceptionTable.toList, covers x pc = false) (hlocks : meth.locks = false) (hcell : H[q]? = some ce) (hv : ce.vm = .none) (hcl : s.vm.findClass E = some ce.cls)
    (hx : ∀ t : State, t.heap = H → s.vm.Alike t.vm → XC E s t) (hf : ∀ z ∈ locs, free z.base) (hc : cells ≤ mc) (hs : slots ≤ ms) :
    vx_W p l e R s m args below meth c H locs cells slots (vx_MQ below Qc XC args s mc ms free) (F0 m pc ls rest) q := by
  intro T hT X
  obtain ⟨st1, hrun, hend, hW, hsm⟩ := X.leaveThrown q (g := F0 m pc ls rest) rfl rfl rfl hout hlocks
  have hcell9 : (T.setFrames (.throwing q :: below)).heap[q]? = some ce := by
    show T.heap[q]? = some ce
    rw [hT]; exact hcell
  exact ⟨_, st1, .threw q, hrun, hend, Or.inr ⟨q, rfl, E, ce, locs, hx _ hT hW.alike, hcell9, hv, hcl, hW, hsm.mono hc hs, hf⟩⟩
theorem vx_frame {U : State} {k n : Nat} (h : s.sameButNew ({ U with vm := s.vm } : State) locs k n) : s.heap.size ≤ U.heap.size ∧ ∀ q : Nat, q < s.heap.size → (∀ z ∈ locs, z.base ≠ q) → U.heap[q]? = s.heap[q]? := by
  obtain ⟨-, h2, -, -, -, h6⟩ := h
  refine ⟨h2, fun q hq hz => ?_⟩
  obtain ⟨c9, e1, e2, e3, e4⟩ := h6 q _ (Array.getElem?_eq_getElem hq)
  have hs : c9.slots = (s.heap[q]).slots := Array.ext_getElem? fun i => e4 i fun hm => hz _ hm rfl
  have h9 : c9 = s.heap[q] := by
    rw [hs] at e2
    exact e2
  have e5 : U.heap[q]? = some c9 := e1
  rw [e5, h9, Array.getElem?_eq_getElem hq]
/-- the words of a throw but the four that speak of the heap -/
def vx_no (w : Cond) : Bool := decide (w ≠ .isRef (.static Bundle.tN "UNASSIGNED_STACK" Bundle.steD)) && decide (w ≠ .isRef (.static Bundle.tN "SUPPRESSED_SENTINEL" Bundle.listD)) && decide (w ≠ .laysStatic Bundle.tN "UNASSIGNED_STACK" Bundle.steD) && decide (w ≠ .laysStatic Bundle.tN "SUPPRESSED_SENTINEL" Bundle.listD)
def vx_at0 (own : String) (ic : Nat) (X : String) (names : List String) : List Cond := (Bundle.ownAtoms0 own ic X names).filter vx_no
def vx_atS (own : String) (ic : Nat) (X : String) (names : List String) : List Cond := (Bundle.ownAtoms own ic X names).filter vx_no
/-- a word that the tables alone decide, or a good one -/
def vx_ot (w : Cond) : Bool := w.onTables || goodWord w
theorem vx_ot_at {args a' : Array Value} {s U : State} {w : Cond} (hW : s.WarmedH U.vm) (hvm : s.vm = U.vm) (hg : vx_ot w = true) (h : w.before args s = true) : w.before a' U = true := by
  simp only [vx_ot, Bool.or_eq_true] at hg
  rcases hg with hg | hg
  · exact va_tabs hg hvm h
  · exact word_at hW (good_of_word hg) h
/-- a list's words: the good ones out of the method's own list, the others by premises of their own -/
theorem vx_hat {args : Array Value} {s : State} {L B : List Cond} (h1 : ∀ w ∈ L.filter goodWord, w.before args s = true) (h2 : ∀ w ∈ L.filter (fun w => !goodWord w), w ∈ B) (h3 : ∀ w ∈ B, w.before args s = true) : ∀ w ∈ L, w.before args s = true := by
  intro w hw
  by_cases g : goodWord w = true
  · exact h1 w (List.mem_filter.mpr ⟨hw, g⟩)
  · refine h3 w (h2 w (List.mem_filter.mpr ⟨hw, ?_⟩))
    show (!goodWord w) = true
    cases hgw : goodWord w
    · rfl
    · exact absurd hgw g
theorem vx_c {args : Array Value} {s : State} {w : Cond} {B : List Cond} (h : w.before args s = true) (t : ∀ w ∈ B, w.before args s = true) : ∀ w' ∈ w :: B, w'.before args s = true := fun w' h' => (List.mem_cons.mp h').elim (fun e => by rw [e]; exact h) (t w')
theorem vx_n {args : Array Value} {s : State} : ∀ w ∈ ([] : List Cond), w.before args s = true := fun _ h => nomatch h
theorem vx_own {args : Array Value} {s : State} {L : List Cond} (h1 : ∀ w ∈ L.filter vx_no, w.before args s = true)
    (hU : (Cond.isRef (.static Bundle.tN "UNASSIGNED_STACK" Bundle.steD)).before args s = true) (hN : (Cond.isRef (.static Bundle.tN "SUPPRESSED_SENTINEL" Bundle.listD)).before args s = true)
    (lU : (Cond.laysStatic Bundle.tN "UNASSIGNED_STACK" Bundle.steD).before args s = true) (lN : (Cond.laysStatic Bundle.tN "SUPPRESSED_SENTINEL" Bundle.listD).before args s = true) : ∀ w ∈ L, w.before args s = true := by
  intro w hw
  by_cases e1 : w = .isRef (.static Bundle.tN "UNASSIGNED_STACK" Bundle.steD)
  · rw [e1]; exact hU
  · by_cases e2 : w = .isRef (.static Bundle.tN "SUPPRESSED_SENTINEL" Bundle.listD)
    · rw [e2]; exact hN
    · by_cases e3 : w = .laysStatic Bundle.tN "UNASSIGNED_STACK" Bundle.steD
      · rw [e3]; exact lU
      · by_cases e4 : w = .laysStatic Bundle.tN "SUPPRESSED_SENTINEL" Bundle.listD
        · rw [e4]; exact lN
        · exact h1 w (List.mem_filter.mpr ⟨hw, by unfold vx_no; rw [decide_eq_true e1, decide_eq_true e2, decide_eq_true e3, decide_eq_true e4]; rfl⟩)
/-- where a static field lies, its class's statics cell in H -/
def vx_L (C n d : String) (A : Nat → Prop) (U : State) (H : Heap) : Prop := ∃ (c : ClassId) (k : Class) (i : Nat) (f : Field) (a : Nat) (cell : Cell), U.vm.findClass C = some c ∧ U.fieldFound? C n d = some (c, k, i, f) ∧ f.isStatic = true ∧ k.statics = some a ∧ H[a]? = some cell ∧ cell.vm.isStatics = true ∧ cell.cls = c ∧ f.slot < cell.slots.size ∧ k.staticTypes[f.slot]? = some f.type ∧ ¬ A a
theorem vx_L.moved {C n d : String} {A : Nat → Prop} {u U : State} {H : Heap} (hvm : u.vm.Alike U.vm) (h : vx_L C n d A u H) : vx_L C n d A U H := by
  obtain ⟨c, k, i, f, a, cell, h1, h2, h3, h4, h5, h6, h7, h8, h9, h10⟩ := h
  obtain ⟨k', hi', he⟩ := State.fieldFound?_setVm hvm h2
  exact ⟨c, k', i, f, a, cell, by rw [hvm.findClass]; exact h1, hi', h3, by rw [he]; exact h4, h5, h6, h7, h8, by rw [he]; exact h9, h10⟩
theorem vx_L.kept {C n d : String} {A : Nat → Prop} {U : State} {H H1 : Heap} (h : vx_L C n d A U H) (hq : ∀ a : Nat, a < H.size → ¬ A a → H1[a]? = H[a]?) : vx_L C n d A U H1 := by
  obtain ⟨c, k, i, f, a, cell, h1, h2, h3, h4, h5, h6, h7, h8, h9, h10⟩ := h
  exact ⟨c, k, i, f, a, cell, h1, h2, h3, h4, by rw [hq a (Array.getElem?_eq_some_iff.mp h5).1 h10]; exact h5, h6, h7, h8, h9, h10⟩
theorem vx_L.narrow {C n d : String} {A B : Nat → Prop} {U : State} {H : Heap} (h : vx_L C n d A U H) (hAB : ∀ q, B q → A q) : vx_L C n d B U H := by
  obtain ⟨c, k, i, f, a, cell, h1, h2, h3, h4, h5, h6, h7, h8, h9, h10⟩ := h
  exact ⟨c, k, i, f, a, cell, h1, h2, h3, h4, h5, h6, h7, h8, h9, fun z => h10 (hAB _ z)⟩
theorem vx_L.word {C n d : String} {A : Nat → Prop} {s : State} {args : Array Value} (h : vx_L C n d A s s.heap) : (Cond.laysStatic C n d).before args s = true := by
  obtain ⟨c, k, i, f, a, cell, h1, h2, h3, h4, h5, h6, h7, h8, h9, -⟩ := h
  show (Cond.laysStatic C n d).holds args s none s [] = true
  exact Cond.laysStatic_of h1 h2 h3 h4 h5 h6 h7 h8 h9
/-- .. and what it holds: null or some reference -/
def vx_Zq (C n d : String) (A : Nat → Prop) (U : State) (H : Heap) : Prop := va_Zq C n d A U H ∧ vx_L C n d A U H
theorem vx_Zq.moved {C n d : String} {A : Nat → Prop} {u U : State} {H : Heap} (hvm : u.vm.Alike U.vm) (h : vx_Zq C n d A u H) : vx_Zq C n d A U H := ⟨va_Zq.moved hvm h.1, vx_L.moved hvm h.2⟩
theorem vx_Zq.kept {C n d : String} {A : Nat → Prop} {U : State} {H H1 : Heap} (h : vx_Zq C n d A U H) (hq : ∀ a : Nat, a < H.size → ¬ A a → H1[a]? = H[a]?) : vx_Zq C n d A U H1 := ⟨va_Zq.kept h.1 hq, vx_L.kept h.2 hq⟩
theorem vx_Zq.narrow {C n d : String} {A B : Nat → Prop} {U : State} {H : Heap} (h : vx_Zq C n d A U H) (hAB : ∀ q, B q → A q) : vx_Zq C n d B U H := ⟨va_Zq.narrow h.1 hAB, vx_L.narrow h.2 hAB⟩
theorem vx_Zqof {args : Array Value} {s : State} {C n d : String} {A : Nat → Prop} (hl : (Cond.laysStatic C n d).before args s = true) (hini : (Cond.initialized C).before args s = true) (h : (Cond.isRef (.static C n d)).before args s = true) (hA : ∀ a : Nat, a < s.heap.size → ¬ A a) : vx_Zq C n d A s s.heap := by
  refine ⟨va_Zqof hl hini h hA, ?_⟩
  obtain ⟨c, k, i, f, a, cell, h1, h2, h3, h4, h5, h6, h7, h8, h9⟩ := Cond.laysStatic_spec hl
  exact ⟨c, k, i, f, a, cell, h1, h2, h3, h4, h5, h6, h7, h8, h9, hA a (Array.getElem?_eq_some_iff.mp h5).1⟩
theorem vx_isRef {C n d : String} {v : Value} {A : Nat → Prop} {s : State} {args : Array Value} (h : va_Z C n d v A s s.heap) (hv : v.isRef = true) : (Cond.isRef (.static C n d)).before args s = true := by
  obtain ⟨cf, kf, fi, f, a, cell, h1, h2, h3, h4, h5, h6, h7, -⟩ := h
  have he : (Term.static C n d).eval args s none [] s = some v := by
    simp [Term.eval, State.fieldNamed?, h1, h2, h4, h5, h6, h7]
  simp only [Cond.before, Cond.holds, Cond.value, he]
  cases v <;> simp_all [Value.isRef]
theorem vx_isRefq {C n d : String} {A : Nat → Prop} {s : State} {args : Array Value} (h : va_Zq C n d A s s.heap) : (Cond.isRef (.static C n d)).before args s = true := by
  rcases h with h | ⟨t, h⟩
  · exact vx_isRef h rfl
  · exact vx_isRef h rfl
/-- the same frame, seen from here: as if the method were called anew in this heap -/
theorem vx_rebase {T : State} (X : Stand p l e R s m args below meth c T locs cells slots) {R' : Room} (hf : R'.frames ≤ R.frames) (hl : R'.locals ≤ R.locals) (hc : cells + R'.cells ≤ R.cells) (hs : slots + R'.slots ≤ R.slots) :
    Stand p l e R' ((T.setVm s.vm).setFrames (.invoking m args :: below)) m args below meth c T [] 0 0 := by
  have htop : (T.setVm s.vm).topJava?.isSome := X.here.top
  have hF : ((T.setVm s.vm).setFrames (.invoking m args :: below)).frames = .invoking m args :: below := State.frames_setFrames _ (State.cur_lt_of_top htop)
  obtain ⟨g₀, hg0⟩ := Option.isSome_iff_exists.mp htop
  obtain ⟨r, hr⟩ := State.topJava?_eq_some.mp hg0
  have hl9 : e.platform.stackLimits (T.setVm s.vm).me = e.platform.stackLimits s.me := X.limits
  have hb9 : (T.setVm s.vm).me.stackBytes = s.me.stackBytes := X.bytes
  refine ⟨X.admits, X.cas, X.clock, hF, ?_, X.hears, X.method, X.code, X.here, X.tail, X.warmed, ?_, ?_, ?_⟩
  · have h := X.room
    have hU : ((T.setVm s.vm).setFrames (.invoking m args :: below)).localsInUse = s.localsInUse := by
      rw [State.localsInUse_invoking hF (meth := meth) (c := c) X.method X.code, State.localsInUse_invoking X.frames X.method X.code]
    simp only [State.hasRoom, Bool.and_eq_true, decide_eq_true_eq] at h ⊢
    obtain ⟨⟨⟨⟨h1, h2, h3, h4, h5, h6⟩, h7⟩, h8⟩, h9⟩ := h
    rw [X.frames, List.length_cons] at h2 h3
    have q1 := X.heapSize
    have q2 := X.used
    simp only [hF, hU, List.length_cons, State.stackLimits_setFrames, State.stackBytes_setFrames, hl9, hb9]
    refine ⟨⟨⟨⟨by omega, by omega, by omega, by omega, by omega, h6⟩, ?_⟩, ?_⟩, X.book⟩
    · show T.heap.size + R'.cells ≤ e.platform.maxCells
      omega
    · show T.slotsUsed + R'.slots ≤ e.platform.maxSlots
      omega
  · rw [State.stackLimits_setFrames]; rfl
  · rw [State.stackBytes_setFrames]; rfl
  · refine ⟨?_, Nat.le_refl _, Nat.le_refl _, ?_, ?_, fun a c9 h9 => ⟨c9, h9, rfl, rfl, fun _ _ => rfl⟩⟩
    · obtain ⟨t, ht, -⟩ := State.frames_cons hr
      show T.setVm s.vm = { ((T.setVm s.vm).setFrames (.invoking m args :: below)).setFrames (T.setVm s.vm).frames with heap := T.heap, slotsUsed := T.slotsUsed }
      rw [State.setFrames_setFrames, State.setFrames_self ht]
      rfl
    · show T.slotsUsed = T.slotsUsed + ((T.heap.toList.drop T.heap.size).map (·.slots.size)).sum
      rw [List.drop_eq_nil_of_le (Nat.le_of_eq Array.length_toList)]
      rfl
    · show ((T.heap.toList.drop T.heap.size).map (·.slots.size)).sum ≤ 0
      rw [List.drop_eq_nil_of_le (Nat.le_of_eq Array.length_toList)]
      exact Nat.le_refl _
/-- 'throw new E()': new; dup; invokespecial; athrow -/
theorem vx_throw0 {cc : ByteArray} {pc : Nat} (hexec : p.tables.exec = Jvm.exec) (hb : c.code = cc) (hl : l.stackTraces = false) {own cls : String} {names : List String} {ik ic mc ms : Nat} {A : Nat → Prop}
    (hown : s.vm.findClass own = some m.cls) (hcls : Bundle.fit cls = true) (hnames : ∀ n ∈ names, Bundle.fit n = true)
    (hk : (Cond.classLink own ik cls).before args s = true) (hini : (Cond.initialized cls).before args s = true) (hat : ∀ w ∈ vx_at0 own ic cls names, w.before args s = true)
    (hgood : ∀ w ∈ Cond.classLink own ik cls :: Cond.initialized cls :: vx_at0 own ic cls names, vx_ot w = true)
    (hU : vx_Zq Bundle.tN "UNASSIGNED_STACK" Bundle.steD A s s.heap) (hN : vx_Zq Bundle.tN "SUPPRESSED_SENTINEL" Bundle.listD A s s.heap) (hS : va_S A s.heap H locs) (hsize : ls.size = c.maxLocals)
    (d0 : decode cc pc = .ok (.new ik, 3)) (d3 : decode cc (pc + 3) = .ok (.dup, 1)) (d4 : decode cc (pc + 4) = .ok (.invokespecial ic, 3)) (d7 : decode cc (pc + 7) = .ok (.athrow, 1))
    (hout : ∀ x ∈ c.exceptionTable.toList, covers x (pc + 7) = false)
    (hRframes : names.length + 3 < R.frames) (hRlocals : (rest.map fun v => v.category).sum + (13 * (names.length + 1) + 42) ≤ R.locals) (hRcells : cells + 1 ≤ R.cells) (hRslots : slots + 6 ≤ R.slots) (hlocks : meth.locks = false)
    (hx : ∀ t : State, s.vm.Alike t.vm → H.size ≤ t.heap.size → (∀ q : Nat, q < H.size → t.heap[q]? = H[q]?) → XC cls s t)
    (hf : ∀ z ∈ locs, free z.base) (hc : cells + 1 ≤ mc) (hs : slots + 6 ≤ ms) :
    W p l e R s m args below meth c H locs cells slots (vx_MQ below Qc XC args s mc ms free) (F0 m pc ls rest) := by
  intro T hT X
  have htr : e.platform.stackTraces = false := (show e.platform.stackTraces = l.stackTraces by rw [X.admits.platform]).trans hl
  have Y := vx_rebase X (R' := { frames := R.frames, locals := R.locals, cells := 1, slots := 6 }) (Nat.le_refl _) (Nat.le_refl _) hRcells hRslots
  obtain ⟨s', hA⟩ : ∃ z, z = (T.setVm s.vm).setFrames (.invoking m args :: below) := ⟨_, rfl⟩
  rw [← hA] at Y
  have hvm : s'.vm = s.vm := by rw [hA]; rfl
  have hhp : s'.heap = H := by rw [hA]; exact hT
  have hW0 : s.WarmedH s'.vm := by rw [hvm]; exact State.WarmedH.refl s
  have hat' : ∀ w ∈ vx_at0 own ic cls names, w.before args s' = true := fun w hw => vx_ot_at hW0 hvm.symm (hgood w (List.mem_cons_of_mem _ (List.mem_cons_of_mem _ hw))) (hat w hw)
  have hk' : (Cond.classLink own ik cls).before args s' = true := vx_ot_at hW0 hvm.symm (hgood _ List.mem_cons_self) hk
  have hini' : (Cond.initialized cls).before args s' = true := vx_ot_at hW0 hvm.symm (hgood _ (List.mem_cons_of_mem _ List.mem_cons_self)) hini
  have hU' : vx_Zq Bundle.tN "UNASSIGNED_STACK" Bundle.steD A s' s'.heap := by rw [hhp]; exact vx_Zq.moved hW0.alike (hU.kept hS.2.1)
  have hN' : vx_Zq Bundle.tN "SUPPRESSED_SENTINEL" Bundle.listD A s' s'.heap := by rw [hhp]; exact vx_Zq.moved hW0.alike (hN.kept hS.2.1)
  have h : ∀ w ∈ Bundle.ownAtoms0 own ic cls names, w.before args s' = true := vx_own hat' (vx_isRefq hU'.1) (vx_isRefq hN'.1) hU'.2.word hN'.2.word
  have hown' : s'.vm.findClass own = some m.cls := by rw [hvm]; exact hown
  have hins : (Cond.instantiable cls 6).before args s' = true := h _ (by simp [Bundle.ownAtoms0])
  obtain ⟨vm₁, cX, kX, hfX, hkX, -, -, X₁, st1⟩ := Y.newCold hexec (own := own) (C := cls) (index := ik) (n := 6) hown' hk' hins hini'
    (g := F0 m pc ls rest) rfl (by rw [hb]; exact d0) (Nat.le_refl _) (Nat.le_refl _)
  generalize hT1 : (T.setVm vm₁).pushCell { cls := cX, slots := kX.instanceTypes.map defaultValue, vm := .none } = T1 at X₁ st1
  have hcat : (Value.ref T.heap.size).category = 1 := rfl
  have hcellA : T1.heap[T.heap.size]? = some (freshCell cX kX) := by rw [← hT1]; exact State.heap_pushCell_size _ _
  have d3' : decode c.code (pc + 3) = .ok (.dup, 1) := by rw [hb]; exact d3
  obtain ⟨U, hsteps, hrun, hend, hW, hsame, ce, hce, hO⟩ := X₁.ctorThrow0 hexec htr (own := own) (cls := cls) (names := names) (ic := ic) hown' hcls hnames h (fun x hx => nomatch hx) hfX hkX hcellA (by rw [hhp, hT]; exact Nat.le_refl _)
    (g := { method := m, pc := pc + 4, locals := ls, stack := .ref T.heap.size :: .ref T.heap.size :: rest, locked := none }) rfl hsize rfl rfl (rest := rest) rfl
    (by rw [hb]; exact d4) (by rw [hb]; exact d7) hout hRframes (by simp only [List.map_cons, List.sum_cons, hcat]; omega) hlocks
  obtain ⟨f1, f2⟩ := vx_frame hsame
  rw [hhp] at f1 f2
  have hWs : s.WarmedH U.vm := State.WarmedH.trans hW0 hW
  have hcl : s.vm.findClass cls = some ce.cls := by
    have h9 := hO.cls
    rw [hvm] at h9
    exact h9
  have hall : s.sameButNew ({ U with vm := s.vm } : State) locs mc ms := by
    subst hA
    obtain ⟨e1, e2⟩ := hsame
    rw [State.setFrames_setFrames] at e1
    have h2 : (T.setVm s.vm).sameButNew ({ U with vm := s.vm } : State) [] (0 + 1) (0 + 6) := ⟨e1, e2⟩
    have h3 := X.same.trans h2
    rw [List.append_nil] at h3
    exact h3.mono hc hs
  refine ⟨U, ?_, .threw T.heap.size, hrun, hend, Or.inr ⟨T.heap.size, rfl, cls, ce, locs, hx U hWs.alike f1 (fun q hq => f2 q hq (fun z hz => nomatch hz)), hce, hO.vm, hcl, hWs, hall, hf⟩⟩
  refine st1 _ ?_
  show Steps p.tables e below (T1.setTop { method := m, pc := pc + 3, locals := ls, stack := .ref T.heap.size :: rest, locked := none }) _
  jvm_step X₁.here [X₁.here.top, hexec, d3', Value.category]
  exact hsteps
/-- 'throw new E("text")': new; dup; ldc; invokespecial; athrow -/
theorem vx_throwS {cc : ByteArray} {pc : Nat} (hexec : p.tables.exec = Jvm.exec) (hb : c.code = cc) (hl : l.stackTraces = false) {own cls text : String} {names : List String} {ik is ic mc ms sa : Nat} {A : Nat → Prop}
    (hown : s.vm.findClass own = some m.cls) (hcls : Bundle.fit cls = true) (hnames : ∀ n ∈ names, Bundle.fit n = true)
    (hk : (Cond.classLink own ik cls).before args s = true) (hini : (Cond.initialized cls).before args s = true) (hstr : vk_R own is text sa s) (hat : ∀ w ∈ vx_atS own ic cls names, w.before args s = true)
    (hgood : ∀ w ∈ Cond.classLink own ik cls :: Cond.initialized cls :: vx_atS own ic cls names, vx_ot w = true)
    (hU : vx_Zq Bundle.tN "UNASSIGNED_STACK" Bundle.steD A s s.heap) (hN : vx_Zq Bundle.tN "SUPPRESSED_SENTINEL" Bundle.listD A s s.heap) (hS : va_S A s.heap H locs) (hsize : ls.size = c.maxLocals)
    (d0 : decode cc pc = .ok (.new ik, 3)) (d3 : decode cc (pc + 3) = .ok (.dup, 1)) (d4 : decode cc (pc + 4) = .ok (.ldc is, 2)) (d6 : decode cc (pc + 6) = .ok (.invokespecial ic, 3)) (d9 : decode cc (pc + 9) = .ok (.athrow, 1))
    (hout : ∀ x ∈ c.exceptionTable.toList, covers x (pc + 9) = false)
    (hRframes : names.length + 3 < R.frames) (hRlocals : (rest.map fun v => v.category).sum + (13 * (names.length + 1) + 43) ≤ R.locals) (hRcells : cells + 1 ≤ R.cells) (hRslots : slots + 6 ≤ R.slots) (hlocks : meth.locks = false)
    (hx : ∀ t : State, s.vm.Alike t.vm → H.size ≤ t.heap.size → (∀ q : Nat, q < H.size → t.heap[q]? = H[q]?) → XC cls s t)
    (hf : ∀ z ∈ locs, free z.base) (hc : cells + 1 ≤ mc) (hs : slots + 6 ≤ ms) :
    W p l e R s m args below meth c H locs cells slots (vx_MQ below Qc XC args s mc ms free) (F0 m pc ls rest) := by
  intro T hT X
  have htr : e.platform.stackTraces = false := (show e.platform.stackTraces = l.stackTraces by rw [X.admits.platform]).trans hl
  have Y := vx_rebase X (R' := { frames := R.frames, locals := R.locals, cells := 1, slots := 6 }) (Nat.le_refl _) (Nat.le_refl _) hRcells hRslots
  obtain ⟨s', hA⟩ : ∃ z, z = (T.setVm s.vm).setFrames (.invoking m args :: below) := ⟨_, rfl⟩
  rw [← hA] at Y
  have hvm : s'.vm = s.vm := by rw [hA]; rfl
  have hhp : s'.heap = H := by rw [hA]; exact hT
  have hW0 : s.WarmedH s'.vm := by rw [hvm]; exact State.WarmedH.refl s
  have hat' : ∀ w ∈ vx_atS own ic cls names, w.before args s' = true := fun w hw => vx_ot_at hW0 hvm.symm (hgood w (List.mem_cons_of_mem _ (List.mem_cons_of_mem _ hw))) (hat w hw)
  have hk' : (Cond.classLink own ik cls).before args s' = true := vx_ot_at hW0 hvm.symm (hgood _ List.mem_cons_self) hk
  have hini' : (Cond.initialized cls).before args s' = true := vx_ot_at hW0 hvm.symm (hgood _ (List.mem_cons_of_mem _ List.mem_cons_self)) hini
  have hU' : vx_Zq Bundle.tN "UNASSIGNED_STACK" Bundle.steD A s' s'.heap := by rw [hhp]; exact vx_Zq.moved hW0.alike (hU.kept hS.2.1)
  have hN' : vx_Zq Bundle.tN "SUPPRESSED_SENTINEL" Bundle.listD A s' s'.heap := by rw [hhp]; exact vx_Zq.moved hW0.alike (hN.kept hS.2.1)
  have h : ∀ w ∈ Bundle.ownAtoms own ic cls names, w.before args s' = true := vx_own hat' (vx_isRefq hU'.1) (vx_isRefq hN'.1) hU'.2.word hN'.2.word
  have hown' : s'.vm.findClass own = some m.cls := by rw [hvm]; exact hown
  have hins : (Cond.instantiable cls 6).before args s' = true := h _ (by simp [Bundle.ownAtoms])
  obtain ⟨vm₁, cX, kX, hfX, hkX, -, -, X₁, st1⟩ := Y.newCold hexec (own := own) (C := cls) (index := ik) (n := 6) hown' hk' hins hini'
    (g := F0 m pc ls rest) rfl (by rw [hb]; exact d0) (Nat.le_refl _) (Nat.le_refl _)
  generalize hT1 : (T.setVm vm₁).pushCell { cls := cX, slots := kX.instanceTypes.map defaultValue, vm := .none } = T1 at X₁ st1
  have hcat : (Value.ref T.heap.size).category = 1 := rfl
  have hcellA : T1.heap[T.heap.size]? = some (freshCell cX kX) := by rw [← hT1]; exact State.heap_pushCell_size _ _
  have d3' : decode c.code (pc + 3) = .ok (.dup, 1) := by rw [hb]; exact d3
  have d4' : decode c.code (pc + 4) = .ok (.ldc is, 2) := by rw [hb]; exact d4
  have hstr' : vk_R own is text sa s' := vk_R.warm hW0 hstr
  obtain ⟨U, hsteps, hrun, hend, hW, hsame, ce, hce, hO⟩ := X₁.ctorThrowS hexec htr (own := own) (cls := cls) (names := names) (ic := ic) hown' hcls hnames h (fun x hx => nomatch hx) hfX hkX hcellA (by rw [hhp, hT]; exact Nat.le_refl _) (msg := .ref sa) rfl
    (g := { method := m, pc := pc + 6, locals := ls, stack := .ref sa :: .ref T.heap.size :: .ref T.heap.size :: rest, locked := none }) rfl hsize rfl rfl (rest := rest) rfl
    (by rw [hb]; exact d6) (by rw [hb]; exact d9) hout hRframes (by simp only [List.map_cons, List.sum_cons, hcat]; omega) hlocks
  obtain ⟨f1, f2⟩ := vx_frame hsame
  rw [hhp] at f1 f2
  have hWs : s.WarmedH U.vm := State.WarmedH.trans hW0 hW
  have hcl : s.vm.findClass cls = some ce.cls := by
    have h9 := hO.cls
    rw [hvm] at h9
    exact h9
  have hall : s.sameButNew ({ U with vm := s.vm } : State) locs mc ms := by
    subst hA
    obtain ⟨e1, e2⟩ := hsame
    rw [State.setFrames_setFrames] at e1
    have h2 : (T.setVm s.vm).sameButNew ({ U with vm := s.vm } : State) [] (0 + 1) (0 + 6) := ⟨e1, e2⟩
    have h3 := X.same.trans h2
    rw [List.append_nil] at h3
    exact h3.mono hc hs
  refine ⟨U, ?_, .threw T.heap.size, hrun, hend, Or.inr ⟨T.heap.size, rfl, cls, ce, locs, hx U hWs.alike f1 (fun q hq => f2 q hq (fun z hz => nomatch hz)), hce, hO.vm, hcl, hWs, hall, hf⟩⟩
  refine st1 _ ?_
  show Steps p.tables e below (T1.setTop { method := m, pc := pc + 3, locals := ls, stack := .ref T.heap.size :: rest, locked := none }) _
  jvm_step X₁.here [X₁.here.top, hexec, d3', Value.category]
  exact X₁.ldcString hexec (own := own) (text := text) (index := is) (a := sa) hown' hstr'.1 hstr'.2
    (g := { method := m, pc := pc + 4, locals := ls, stack := .ref T.heap.size :: .ref T.heap.size :: rest, locked := none }) rfl d4' _ hsteps
/-- 'throw new E("text")', the text by a wide index -/
theorem vx_throwSW {cc : ByteArray} {pc : Nat} (hexec : p.tables.exec = Jvm.exec) (hb : c.code = cc) (hl : l.stackTraces = false) {own cls text : String} {names : List String} {ik is ic mc ms sa : Nat} {A : Nat → Prop}
    (hown : s.vm.findClass own = some m.cls) (hcls : Bundle.fit cls = true) (hnames : ∀ n ∈ names, Bundle.fit n = true)
    (hk : (Cond.classLink own ik cls).before args s = true) (hini : (Cond.initialized cls).before args s = true) (hstr : vk_R own is text sa s) (hat : ∀ w ∈ vx_atS own ic cls names, w.before args s = true)
    (hgood : ∀ w ∈ Cond.classLink own ik cls :: Cond.initialized cls :: vx_atS own ic cls names, vx_ot w = true)
    (hU : vx_Zq Bundle.tN "UNASSIGNED_STACK" Bundle.steD A s s.heap) (hN : vx_Zq Bundle.tN "SUPPRESSED_SENTINEL" Bundle.listD A s s.heap) (hS : va_S A s.heap H locs) (hsize : ls.size = c.maxLocals)
    (d0 : decode cc pc = .ok (.new ik, 3)) (d3 : decode cc (pc + 3) = .ok (.dup, 1)) (d4 : decode cc (pc + 4) = .ok (.ldc_w is, 3)) (d7 : decode cc (pc + 7) = .ok (.invokespecial ic, 3)) (d10 : decode cc (pc + 10) = .ok (.athrow, 1))
    (hout : ∀ x ∈ c.exceptionTable.toList, covers x (pc + 10) = false)
    (hRframes : names.length + 3 < R.frames) (hRlocals : (rest.map fun v => v.category).sum + (13 * (names.length + 1) + 43) ≤ R.locals) (hRcells : cells + 1 ≤ R.cells) (hRslots : slots + 6 ≤ R.slots) (hlocks : meth.locks = false)
    (hx : ∀ t : State, s.vm.Alike t.vm → H.size ≤ t.heap.size → (∀ q : Nat, q < H.size → t.heap[q]? = H[q]?) → XC cls s t)
    (hf : ∀ z ∈ locs, free z.base) (hc : cells + 1 ≤ mc) (hs : slots + 6 ≤ ms) :
    W p l e R s m args below meth c H locs cells slots (vx_MQ below Qc XC args s mc ms free) (F0 m pc ls rest) := by
  intro T hT X
  have htr : e.platform.stackTraces = false := (show e.platform.stackTraces = l.stackTraces by rw [X.admits.platform]).trans hl
  have Y := vx_rebase X (R' := { frames := R.frames, locals := R.locals, cells := 1, slots := 6 }) (Nat.le_refl _) (Nat.le_refl _) hRcells hRslots
  obtain ⟨s', hA⟩ : ∃ z, z = (T.setVm s.vm).setFrames (.invoking m args :: below) := ⟨_, rfl⟩
  rw [← hA] at Y
  have hvm : s'.vm = s.vm := by rw [hA]; rfl
  have hhp : s'.heap = H := by rw [hA]; exact hT
  have hW0 : s.WarmedH s'.vm := by rw [hvm]; exact State.WarmedH.refl s
  have hat' : ∀ w ∈ vx_atS own ic cls names, w.before args s' = true := fun w hw => vx_ot_at hW0 hvm.symm (hgood w (List.mem_cons_of_mem _ (List.mem_cons_of_mem _ hw))) (hat w hw)
  have hk' : (Cond.classLink own ik cls).before args s' = true := vx_ot_at hW0 hvm.symm (hgood _ List.mem_cons_self) hk
  have hini' : (Cond.initialized cls).before args s' = true := vx_ot_at hW0 hvm.symm (hgood _ (List.mem_cons_of_mem _ List.mem_cons_self)) hini
  have hU' : vx_Zq Bundle.tN "UNASSIGNED_STACK" Bundle.steD A s' s'.heap := by rw [hhp]; exact vx_Zq.moved hW0.alike (hU.kept hS.2.1)
  have hN' : vx_Zq Bundle.tN "SUPPRESSED_SENTINEL" Bundle.listD A s' s'.heap := by rw [hhp]; exact vx_Zq.moved hW0.alike (hN.kept hS.2.1)
  have h : ∀ w ∈ Bundle.ownAtoms own ic cls names, w.before args s' = true := vx_own hat' (vx_isRefq hU'.1) (vx_isRefq hN'.1) hU'.2.word hN'.2.word
  have hown' : s'.vm.findClass own = some m.cls := by rw [hvm]; exact hown
  have hins : (Cond.instantiable cls 6).before args s' = true := h _ (by simp [Bundle.ownAtoms])
  obtain ⟨vm₁, cX, kX, hfX, hkX, -, -, X₁, st1⟩ := Y.newCold hexec (own := own) (C := cls) (index := ik) (n := 6) hown' hk' hins hini'
    (g := F0 m pc ls rest) rfl (by rw [hb]; exact d0) (Nat.le_refl _) (Nat.le_refl _)
  generalize hT1 : (T.setVm vm₁).pushCell { cls := cX, slots := kX.instanceTypes.map defaultValue, vm := .none } = T1 at X₁ st1
  have hcat : (Value.ref T.heap.size).category = 1 := rfl
  have hcellA : T1.heap[T.heap.size]? = some (freshCell cX kX) := by rw [← hT1]; exact State.heap_pushCell_size _ _
  have d3' : decode c.code (pc + 3) = .ok (.dup, 1) := by rw [hb]; exact d3
  have d4' : decode c.code (pc + 4) = .ok (.ldc_w is, 3) := by rw [hb]; exact d4
  have hstr' : vk_R own is text sa s' := vk_R.warm hW0 hstr
  obtain ⟨U, hsteps, hrun, hend, hW, hsame, ce, hce, hO⟩ := X₁.ctorThrowS hexec htr (own := own) (cls := cls) (names := names) (ic := ic) hown' hcls hnames h (fun x hx => nomatch hx) hfX hkX hcellA (by rw [hhp, hT]; exact Nat.le_refl _) (msg := .ref sa) rfl
    (g := { method := m, pc := pc + 7, locals := ls, stack := .ref sa :: .ref T.heap.size :: .ref T.heap.size :: rest, locked := none }) rfl hsize rfl rfl (rest := rest) rfl
    (by rw [hb]; exact d7) (by rw [hb]; exact d10) hout hRframes (by simp only [List.map_cons, List.sum_cons, hcat]; omega) hlocks
  obtain ⟨f1, f2⟩ := vx_frame hsame
  rw [hhp] at f1 f2
  have hWs : s.WarmedH U.vm := State.WarmedH.trans hW0 hW
  have hcl : s.vm.findClass cls = some ce.cls := by
    have h9 := hO.cls
    rw [hvm] at h9
    exact h9
  have hall : s.sameButNew ({ U with vm := s.vm } : State) locs mc ms := by
    subst hA
    obtain ⟨e1, e2⟩ := hsame
    rw [State.setFrames_setFrames] at e1
    have h2 : (T.setVm s.vm).sameButNew ({ U with vm := s.vm } : State) [] (0 + 1) (0 + 6) := ⟨e1, e2⟩
    have h3 := X.same.trans h2
    rw [List.append_nil] at h3
    exact h3.mono hc hs
  refine ⟨U, ?_, .threw T.heap.size, hrun, hend, Or.inr ⟨T.heap.size, rfl, cls, ce, locs, hx U hWs.alike f1 (fun q hq => f2 q hq (fun z hz => nomatch hz)), hce, hO.vm, hcl, hWs, hall, hf⟩⟩
  refine st1 _ ?_
  show Steps p.tables e below (T1.setTop { method := m, pc := pc + 3, locals := ls, stack := .ref T.heap.size :: rest, locked := none }) _
  jvm_step X₁.here [X₁.here.top, hexec, d3', Value.category]
  exact X₁.ldcStringW hexec (own := own) (text := text) (index := is) (a := sa) hown' hstr'.1 hstr'.2
    (g := { method := m, pc := pc + 4, locals := ls, stack := .ref T.heap.size :: .ref T.heap.size :: rest, locked := none }) rfl d4' _ hsteps
end Ends
section Bodies
variable {l : Launch}
theorem vx_ofW {y : MethodName} {ws ws' : List Cond} {rm : Room} {Pc : Array Value → State → Prop} {Qc : Array Value → State → Outcome → State → Prop} {XC : String → State → State → Prop} {mc ms : Nat} {free : Addr → Prop} {cc : ByteArray} {maxL : Nat} {ret : Option FieldType}
    (hy : plainName y.cls = true) (hw : ws = Cond.code y cc maxL ret :: ws')
    (body : ∀ p e s m args below meth c s₁, BodyLoose p l y (headSpec ws rm) cc maxL ret e s m args below meth c s₁ → c.maxLocals = maxL → (∀ x ∈ c.exceptionTable.toList, False) → Pc args s →
      W p l e (headSpec ws rm).room s m args below meth c s.heap [] 0 0 (vx_MQ below Qc XC args s mc ms free) (entryFrame m args maxL)) : vx_Met l y ws rm Pc Qc XC mc ms free := by
  refine MetFree.of_bodyS (code := cc) (maxLocals := maxL) (ret := ret) hy ?_ ?_
  · intro args s m h hn
    obtain ⟨meth, c, h1, h2, h3, h4, h5, h6, -, -⟩ := Cond.code_spec hn (atoms_spec (ws := ws) h _ (by rw [hw]; exact List.mem_cons_self))
    exact ⟨meth, c, h1, h2, h3, h4, h5, h6⟩
  · intro p e s m args below meth c s₁ B hml hP _
    have hh0 : s₁.heap = s.heap := by rw [B.state]; rfl
    have ht : ∀ x ∈ c.exceptionTable.toList, False := by
      obtain ⟨meth9, c9, h1, h2, -, -, -, -, h7, -⟩ := Cond.code_spec B.named (atoms_spec (ws := ws) B.pre _ (by rw [hw]; exact List.mem_cons_self))
      cases Option.some.inj (h1.symm.trans B.method)
      cases Option.some.inj (h2.symm.trans (Stand.of_body B).code)
      intro x hx
      rw [Array.isEmpty_iff.mp h7] at hx
      cases hx
    obtain ⟨t, a1, o, b1, b2, b3⟩ := body p e s m args below meth c s₁ B hml ht hP s₁ hh0 (Stand.of_body B)
    exact ⟨t, o, a1, b1, b2, b3⟩
/-- the table of a body with handlers -/
theorem vx_table {p : Program} {x y : MethodName} {S : Spec} {cc bytes : ByteArray} {maxL maxL' : Nat} {ret ret' : Option FieldType} {e : Env} {s s₁ : State} {m : MethodId} {args : Array Value} {below : List Frame} {meth : Method} {c : Code} {hh : List (Nat × Nat × Nat × Nat)}
    (B : BodyLoose p l y S cc maxL ret e s m args below meth c s₁) (h : (Cond.codeWith y bytes maxL' ret' hh).before args s = true) : c.exceptionTable.toList = tableOf hh := by
  obtain ⟨m9, meth9, c9, hn9, h1, h2, -, -, h6, -⟩ := Cond.codeWith_spec h
  cases Option.some.inj (hn9.symm.trans B.named)
  cases Option.some.inj (h1.symm.trans B.method)
  cases Option.some.inj (h2.symm.trans (Stand.of_body B).code)
  rw [← h6, table_eq]
end Bodies
end VXA
/-! ===== END ===== -/
/-! ===== BEGIN a static call of a method with an exception table ===== -/
section VXS
variable {p : Program} {l : Launch} {e : Env} {R : Room} {s : State} {m : MethodId} {args : Array Value} {below : List Frame} {meth : Method} {c : Code} {T : State} {H : Heap} {locs : List Loc} {cells slots : Nat}
abbrev vx_CSW (R : Room) (s : State) (args : Array Value) (own : String) (index : Nat) (y : MethodName) (bytes : ByteArray) (maxL : Nat) (ret : Option FieldType) (hh : List (Nat × Nat × Nat × Nat)) (ws : List Cond) (rm : Room) (mc ms n : Nat) : Prop :=
  (rm.cells = mc ∧ rm.slots = ms ∧ rm.frames + 1 ≤ R.frames ∧ 8 + (maxL + 11) + rm.locals ≤ R.locals ∧ (∀ w ∈ ws, ∀ (a' : Array Value) (U : State), s.WarmedH U.vm → w.before a' U = true) ∧ Cond.codeWith y bytes maxL ret hh ∈ ws) ∧
  (Cond.codeWith y bytes maxL ret hh).before args s = true ∧ (Cond.initialized y.cls).before args s = true ∧ (y.cls ≠ "java/lang/invoke/MethodHandle" ∧ y.cls ≠ "java/lang/invoke/VarHandle") ∧
  (∀ sig, parseMethodDescriptor y.desc = some sig → n = sig.parameters.length) ∧ (Cond.methodLink own index y).before args s = true ∧ (Cond.static y).before args s = true
theorem vx_cwSW {own : String} {index maxL mc ms : Nat} {y : MethodName} {bytes : ByteArray} {ret : Option FieldType} {hh : List (Nat × Nat × Nat × Nat)} {Ts ws ws' : List Cond} {rm : Room} (n : Nat) (ht : ∀ w ∈ Ts, w.before args s = true) (hT : GoodIn Ts (va_wsS own index y ws)) (hw : ws = Cond.codeWith y bytes maxL ret hh :: ws') (hrc : rm.cells = mc) (hrs : rm.slots = ms)
    (hd : y.cls ≠ "java/lang/invoke/MethodHandle" ∧ y.cls ≠ "java/lang/invoke/VarHandle" ∧ (parseMethodDescriptor y.desc).map (fun d => d.parameters.length) = some n) (hR : rm.frames + 1 ≤ R.frames ∧ 8 + (maxL + 11) + rm.locals ≤ R.locals) :
    vx_CSW R s args own index y bytes maxL ret hh ws rm mc ms n := by
  have ok : ∀ w ∈ va_wsS own index y ws, w.before args s = true := fun w h => ht w (hT w h).1
  have hG : GoodIn Ts ws := fun w h => hT w (by unfold va_wsS; exact List.mem_append_right _ h)
  have hc : Cond.codeWith y bytes maxL ret hh ∈ ws := by rw [hw]; exact List.mem_cons_self
  refine ⟨⟨hrc, hrs, hR.1, hR.2, pay_in ht hG, hc⟩, ht _ (hG _ hc).1, ok _ (by simp [va_wsS]), ⟨hd.1, hd.2.1⟩, fun sig h => ?_, ok _ (by simp [va_wsS]), ok _ (by simp [va_wsS])⟩
  have h2 := hd.2.2
  rw [h] at h2
  exact (Option.some.inj h2).symm
theorem vx_callSW (X : Stand p l e R s m args below meth c T locs cells slots) (hexec : p.tables.exec = Jvm.exec) {own : String} {index : Nat} {y : MethodName} {bytes : ByteArray} {maxL : Nat} {ret : Option FieldType} {hh : List (Nat × Nat × Nat × Nat)}
    (hown : s.vm.findClass own = some m.cls) (hlink : (Cond.methodLink own index y).before args s = true) (hstat : (Cond.static y).before args s = true) (hinit : (Cond.initialized y.cls).before args s = true)
    (hcode : (Cond.codeWith y bytes maxL ret hh).before args s = true) (hy : y.cls ≠ "java/lang/invoke/MethodHandle" ∧ y.cls ≠ "java/lang/invoke/VarHandle")
    {W9 : Nat} {Pre : Pt → Array Value → Prop} {Post : Pt → Array Value → Option Value → Pt → Prop} (hK : Back l R p e below s args y 3 W9 Pre Post)
    {g : JFrame} (hg : g.method = m) (hsize : g.locals.size = c.maxLocals) {argsL rest : List Value} (hlen : ∀ sig, parseMethodDescriptor y.desc = some sig → argsL.length = sig.parameters.length)
    (hstack : g.stack = argsL.reverse ++ rest) (hW : 2 * g.monitorRoom + (rest.map fun v => v.category).sum ≤ W9) (hdg : decode c.code g.pc = .ok (.invokestatic index, 3))
    (hpre : ∀ vm₁, s.WarmedH vm₁ → Pre ⟨T.setVm vm₁, locs, cells, slots⟩ argsL.toArray) :
    ∃ (v : Option Value) (vm₁ : Vm) (B : Pt), s.WarmedH vm₁ ∧ Stand p l e R s m args below meth c B.U B.locs B.cells B.slots ∧ Post ⟨T.setVm vm₁, locs, cells, slots⟩ argsL.toArray v B ∧
      ∀ target, Steps p.tables e below (B.U.setTop { g with pc := g.pc + 3, stack := v.toList ++ rest }) target → Steps p.tables e below (T.setTop g) target := by
  obtain ⟨mk, methM, cM, hnamed, hmethM, -, -, -, -, -, -, hsigM⟩ := Cond.codeWith_spec hcode
  have hstatic : methM.isStatic = true := Cond.static_spec hnamed hmethM hstat
  obtain ⟨kP, hkP, -⟩ := className_of_methodNamed hnamed
  have hinitP : kP.init = .initialized := Cond.initialized_spec (findClass_of_methodNamed hnamed) hkP hinit
  obtain ⟨vm₁, X₁, hstep₁⟩ := X.invokestatic hexec hown hlink hnamed hmethM hstatic hkP hinitP hy (g := g) hg (argsL := argsL) (rest := rest) (hlen _ hsigM) hstack hdg
  obtain ⟨v, B, X', hpost, hsteps⟩ := hK m meth c ⟨T.setVm vm₁, locs, cells, slots⟩ { g with stack := rest } (.invokestatic index) mk argsL.toArray X₁ hg hsize hdg hW (X₁.named hnamed) (hpre vm₁ X₁.warmed)
  exact ⟨v, vm₁, B, X₁.warmed, X', hpost, fun target h => hstep₁ _ fun acts => by rw [doInvoke_state]; exact hsteps.trans h⟩
theorem vx_runSW {y : MethodName} {bytes cc : ByteArray} {maxL nL mc ms n index : Nat} {ret : Option FieldType} {hh : List (Nat × Nat × Nat × Nat)} {ws : List Cond} {rm : Room} {Pc : Array Value → State → Prop} {Qc : Array Value → State → Outcome → State → Prop} {free : Addr → Prop} {Ts : List Cond} {own : String} {As rest : List Value} {g : JFrame}
    (S : CallFix p m c cc nL s args Ts own) (hM : Met l y ws rm Pc Qc mc ms free) (cw : vx_CSW R s args own index y bytes maxL ret hh ws rm mc ms n) (hp : PreS s H Pc As)
    (hg : g.method = m) (hn : As.length = n) (hsize : g.locals.size = nL) (hstack : g.stack = As.reverse ++ rest) (hW : 2 * g.monitorRoom + (rest.map fun v => v.category).sum ≤ 8) (hdg : decode cc g.pc = .ok (.invokestatic index, 3)) (hf : cells + mc ≤ R.cells ∧ slots + ms ≤ R.slots) :
    va_Run p l e R s m args below meth c H locs cells slots mc ms g rest (Qc As.toArray) (free) := by
  obtain ⟨⟨hrc, hrs, hfr, hlo, hws, hcw⟩, hcode, hini, hy, hlen, hl, hstt⟩ := cw
  have hK : Back l R p e below s args y 3 8 (PreOf R mc ms Pc) (PostOf Qc mc ms free) := va_backW (hh := hh) (bytes := bytes) (maxL := maxL) (ret := ret) hM hp.1 hrc hrs hfr hlo hws hcw (fun a' U hW => word_at hW (Or.inl (by first | rfl | simp [Cond.onTables, Cond.keeps, Cond.steady])) hini)
  obtain ⟨hx, hb, hml, ho, -⟩ := S
  intro T hT X
  obtain ⟨v, vm₁, ⟨U', l2, c2, s2⟩, hW₁, X', ⟨g', mk, t, L, e1, e2, hq, h1, hL, h2, h3⟩, st⟩ := vx_callSW X hx (hh := hh) (bytes := bytes) (maxL := maxL) (ret := ret) ho hl hstt hini hcode hy hK hg (hsize.trans hml.symm) (argsL := As) (rest := rest) (fun sig h => hn.trans (hlen sig h)) hstack hW (by rw [hb]; exact hdg)
    (fun vm₁ hW₁ => ⟨hf.1, hf.2, hp.2 (T.setVm vm₁) hT hW₁⟩)
  dsimp only [Pt.U, Pt.locs, Pt.cells, Pt.slots] at X' e1 e2 h1 h2 h3 st
  subst h1; subst h2; subst h3
  exact ⟨v, (T.setVm vm₁).calling g' mk As.toArray, t, U', L, hT, X', hL, e1, e2, hq, st⟩
/-- a thing of a world lies in the heap -/
theorem vx_lt {D : va_G} {cl : List vw_C} {ws : va_W} {H1 : Heap} (h : va_P D cl ws H1) {k : Nat} {q : Nat × va_E} (hk : ws[k]? = some q) : q.1 < H1.size := (h k q hk).lt
end VXS
/-! ===== END ===== -/
/-! ===== BEGIN methods with a table of their own: called by a name, returning or throwing ===== -/
section VXH
/-! vx_backW, vx_callVX, vx_callSX, vx_callVW, vx_runVW, vx_runVX, vx_runSX, vx_ofWH follow the same proofs as their sisters above (Free/Laws.lean, Shelf42/LK1.lean); vx_outP calls Shelf42/NT130.lean (outThrough). -/
section
variable {l : Launch} {R : Room} {p : Program} {e : Env} {below : List Frame} {s : State} {sargs : Array Value} {y : MethodName} {len W9 : Nat}
theorem vx_backW {ws : List Cond} {rm : Room} {Pc : Array Value → State → Prop} {Qc : Array Value → State → Outcome → State → Prop} {XC : String → State → State → Prop} {mc ms : Nat} {free : Addr → Prop} {bytes : ByteArray} {maxL : Nat} {ret : Option FieldType} {hh : List (Nat × Nat × Nat × Nat)}
    (hM : vx_Met l y ws rm Pc Qc XC mc ms free) (hblind : FrameBlind Pc) (hrc : rm.cells = mc) (hrs : rm.slots = ms)
    (hframes : rm.frames + 1 ≤ R.frames) (hlocals : W9 + (maxL + 11) + rm.locals ≤ R.locals)
    (hws : ∀ w ∈ ws, ∀ a' U, s.WarmedH U.vm → w.before a' U = true) (hcode : Cond.codeWith y bytes maxL ret hh ∈ ws) (hinit : ∀ a' U, s.WarmedH U.vm → (Cond.initialized y.cls).before a' U = true) :
    vx_Back l R p e below s sargs y len W9 (PreOf R mc ms Pc) (PostOf Qc mc ms free) (vx_Post XC mc ms free) := by
  intro m meth c A g ig mk a X hg hsize hdg hW hn hp
  have h1 : (headSpec ws rm).pre.before a A.U = true := atoms_intro fun w hw => hws w hw _ _ X.warmed
  have h2 : (Cond.codeWith y bytes maxL ret hh).before a A.U = true := hws _ hcode _ _ X.warmed
  have h3 : (Cond.initialized y.cls).before a A.U = true := hinit _ _ X.warmed
  have h4 : A.cells + (headSpec ws rm).room.cells ≤ R.cells := by rw [show (headSpec ws rm).room.cells = mc from hrc]; exact hp.1
  have h5 : A.slots + (headSpec ws rm).room.slots ≤ R.slots := by rw [show (headSpec ws rm).room.slots = ms from hrs]; exact hp.2.1
  have hPc : Pc a (A.U.calling g mk a) := hblind _ _ _ _ hp.2.2
  obtain ⟨U, Ls, c0, s0⟩ := A
  dsimp only [Pt.U, Pt.locs, Pt.cells, Pt.slots] at h1 h2 h3 h4 h5 X hn hPc ⊢
  obtain ⟨m9, methY, cY, hn9, hmY, hcY, -, hlY, -⟩ := Cond.codeWith_spec h2
  cases Option.some.inj (hn9.symm.trans hn)
  obtain ⟨kY, hkY, -⟩ := className_of_methodNamed hn
  have hinitY : kY.init = .initialized := Cond.initialized_spec (findClass_of_methodNamed hn) hkY h3
  have h : At U g.method c below := by rw [hg]; exact X.here
  have hlocals9 : W9 + (maxL + 11) + (headSpec ws rm).room.locals ≤ R.locals := hlocals
  have happ : (headSpec ws rm).appliesLoose y e.platform (U.calling g mk a) = true :=
    Spec.appliesLoose_calling (g := g) h hdg hn hkY hinitY
      (X.room_calling (g := g) (R' := (headSpec ws rm).room) hsize hmY hcY hframes (by rw [hlY]; omega) h4 h5) h1
  obtain ⟨mid, hmid⟩ := h.above
  have hfr : (U.setTop g).frames = (.java g :: mid) ++ below := by rw [State.frames_setTop' g h.top, hmid]; rfl
  obtain ⟨o, s₂, hsteps, -, hend, hq⟩ := Steps.callFree hM p X.admits X.cas X.clock (acts := []) hfr happ hPc trivial
  have hq' : vx_Q Qc XC mc ms free a (U.calling g mk a) o s₂ := hq
  rw [State.frames_setTop' g h.top] at hend
  obtain ⟨g₀, hg0⟩ := Option.isSome_iff_exists.mp h.top
  obtain ⟨r, hr⟩ := State.topJava?_eq_some.mp hg0
  have hr' : (({ U with heap := s₂.heap, slotsUsed := s₂.slotsUsed } : State).setVm s₂.vm).frames = .java g₀ :: r := hr
  rcases hq' with ⟨hqc, L, hfe, hL⟩ | ⟨q, rfl, E, ce, L, hx, hce, hcv, hcl, hW₂, hsm, hL⟩
  · obtain ⟨⟨v, rfl⟩, hW₂, e2, q2, q3, q4, q5, q6⟩ := id hfe
    have e3 : s₂ = ({ (U.calling g mk a).setFrames s₂.frames with heap := s₂.heap, slotsUsed := s₂.slotsUsed } : State).setVm s₂.vm := by
      have : s₂ = ({ s₂ with vm := (U.calling g mk a).vm } : State).setVm s₂.vm := rfl
      rw [e2] at this
      exact this
    obtain ⟨c₂, i₂, len₂, hc₂, hd₂, hf₂⟩ := hend
    have hW' : U.WarmedH s₂.vm := hW₂
    have hcc : c₂ = c := by
      have h1 : s₂.code? g.method = U.code? g.method := by
        rw [State.code?_eq, State.code?_eq, hW'.alike.method?]
      exact Option.some.inj (hc₂.symm.trans (h1.trans h.code))
    subst hcc
    have hlen : len₂ = len := by rw [hdg] at hd₂; cases hd₂; rfl
    subst hlen
    have hs₂ : s₂ = (({ U with heap := s₂.heap, slotsUsed := s₂.slotsUsed } : State).setVm s₂.vm).setTop { g with pc := g.pc + len₂, stack := v.toList ++ g.stack } := by
      refine e3.trans ?_
      rw [hf₂, State.calling_eq h.top, State.setFrames_setFrames, State.setTop_of_frames _ hr', hr]
      rfl
    have hsame : U.sameButNew ({ U with heap := s₂.heap, slotsUsed := s₂.slotsUsed } : State) L mc ms := by
      refine ⟨?_, q2, q3, q4, q5, q6⟩
      obtain ⟨t, ht, -⟩ := State.frames_cons hr
      show ({ U with heap := s₂.heap, slotsUsed := s₂.slotsUsed } : State) = { U.setFrames U.frames with heap := s₂.heap, slotsUsed := s₂.slotsUsed }
      rw [State.setFrames_self ht]
    subst hg
    refine Or.inl ⟨v, ⟨(({ U with heap := s₂.heap, slotsUsed := s₂.slotsUsed } : State).setVm s₂.vm), Ls ++ L, c0 + mc, s0 + ms⟩,
      ⟨X.admits, X.cas, X.clock, X.frames, X.room, X.hears, X.method, X.code, (X.here.setHeapUsed s₂.heap s₂.slotsUsed).setVm hW'.alike, X.tail, State.WarmedH.trans X.warmed hW', X.limits, X.bytes, X.same.trans (hsame.setVm s.vm)⟩,
      ⟨g, mk, s₂, L, rfl, rfl, hqc, rfl, hL, rfl, rfl⟩, ?_⟩
    show Steps p.tables e below _ ((({ U with heap := s₂.heap, slotsUsed := s₂.slotsUsed } : State).setVm s₂.vm).setTop { g with pc := g.pc + len₂, stack := v.toList ++ g.stack })
    rw [← hs₂]
    exact hsteps
  · obtain ⟨e2, q2, q3, q4, q5, q6⟩ := id hsm
    have e3 : s₂ = ({ (U.calling g mk a).setFrames s₂.frames with heap := s₂.heap, slotsUsed := s₂.slotsUsed } : State).setVm s₂.vm := by
      have : s₂ = ({ s₂ with vm := (U.calling g mk a).vm } : State).setVm s₂.vm := rfl
      rw [e2] at this
      exact this
    have hf₂ : s₂.frames = .throwing q :: .java g :: U.frames.tail := hend
    have hW' : U.WarmedH s₂.vm := hW₂
    have hs₂ : s₂ = ((({ U with heap := s₂.heap, slotsUsed := s₂.slotsUsed } : State).setVm s₂.vm).setTop g).pushFrame (.throwing q) := by
      refine e3.trans ?_
      rw [hf₂, State.calling_eq h.top, State.setFrames_setFrames, State.pushFrame, State.frames_setTop _ hr', State.setTop_of_frames _ hr', State.setFrames_setFrames, hr]
      rfl
    have hsame : U.sameButNew ({ U with heap := s₂.heap, slotsUsed := s₂.slotsUsed } : State) L mc ms := by
      refine ⟨?_, q2, q3, q4, q5, q6⟩
      obtain ⟨t, ht, -⟩ := State.frames_cons hr
      show ({ U with heap := s₂.heap, slotsUsed := s₂.slotsUsed } : State) = { U.setFrames U.frames with heap := s₂.heap, slotsUsed := s₂.slotsUsed }
      rw [State.setFrames_self ht]
    subst hg
    refine Or.inr ⟨q, ⟨(({ U with heap := s₂.heap, slotsUsed := s₂.slotsUsed } : State).setVm s₂.vm), Ls ++ L, c0 + mc, s0 + ms⟩,
      ⟨X.admits, X.cas, X.clock, X.frames, X.room, X.hears, X.method, X.code, (X.here.setHeapUsed s₂.heap s₂.slotsUsed).setVm hW'.alike, X.tail, State.WarmedH.trans X.warmed hW', X.limits, X.bytes, X.same.trans (hsame.setVm s.vm)⟩,
      ⟨g, mk, s₂, L, E, ce, rfl, rfl, hx, hce, hcv, hcl, rfl, hL, rfl, rfl⟩, ?_⟩
    show Steps p.tables e below _ (((({ U with heap := s₂.heap, slotsUsed := s₂.slotsUsed } : State).setVm s₂.vm).setTop g).pushFrame (.throwing q))
    rw [← hs₂]
    exact hsteps
end
variable {p : Program} {l : Launch} {e : Env} {R : Room} {s : State} {m : MethodId} {args : Array Value} {below : List Frame} {meth : Method} {c : Code} {T : State} {H : Heap} {locs : List Loc} {cells slots : Nat}
theorem vx_callVX (X : Stand p l e R s m args below meth c T locs cells slots) (hexec : p.tables.exec = Jvm.exec) {own C : String} {index : Nat} {y : MethodName} {bytes : ByteArray} {maxL : Nat} {ret : Option FieldType} {hh : List (Nat × Nat × Nat × Nat)}
    (hown : s.vm.findClass own = some m.cls) (hlink : (Cond.methodLink own index y).before args s = true) (hinst : (Cond.instanceMethod y).before args s = true) (hsel : (Cond.selects C y y).before args s = true)
    (hcode : (Cond.codeWith y bytes maxL ret hh).before args s = true) (hy : y.cls ≠ "java/lang/invoke/MethodHandle" ∧ y.cls ≠ "java/lang/invoke/VarHandle")
    {W9 : Nat} {Pre : Pt → Array Value → Prop} {Post : Pt → Array Value → Option Value → Pt → Prop} {PostX : Pt → Array Value → Addr → Pt → Prop} (hK : vx_Back l R p e below s args y 3 W9 Pre Post PostX)
    {b : Addr} {cellB : Cell} (hcell : T.heap[b]? = some cellB) (hobj : cellB.vm.isStatics = false) (hcls : s.vm.findClass C = some cellB.cls)
    {g : JFrame} (hg : g.method = m) (hsize : g.locals.size = c.maxLocals) {argsL rest : List Value} (hlen : ∀ sig, parseMethodDescriptor y.desc = some sig → argsL.length = sig.parameters.length)
    (hstack : g.stack = argsL.reverse ++ .ref b :: rest) (hW : 2 * g.monitorRoom + (rest.map fun v => v.category).sum ≤ W9) (hdg : decode c.code g.pc = .ok (.invokevirtual index, 3))
    (hpre : ∀ vm₁, s.WarmedH vm₁ → Pre ⟨T.setVm vm₁, locs, cells, slots⟩ (Value.ref b :: argsL).toArray) :
    (∃ (v : Option Value) (vm₁ : Vm) (B : Pt), s.WarmedH vm₁ ∧ Stand p l e R s m args below meth c B.U B.locs B.cells B.slots ∧ Post ⟨T.setVm vm₁, locs, cells, slots⟩ (Value.ref b :: argsL).toArray v B ∧
      ∀ target, Steps p.tables e below (B.U.setTop { g with pc := g.pc + 3, stack := v.toList ++ rest }) target → Steps p.tables e below (T.setTop g) target) ∨
    (∃ (q : Addr) (vm₁ : Vm) (B : Pt), s.WarmedH vm₁ ∧ Stand p l e R s m args below meth c B.U B.locs B.cells B.slots ∧ PostX ⟨T.setVm vm₁, locs, cells, slots⟩ (Value.ref b :: argsL).toArray q B ∧
      Steps p.tables e below (T.setTop g) ((B.U.setTop { g with stack := rest }).pushFrame (.throwing q))) := by
  obtain ⟨mk, methM, hnamed, hmethM, hstM, habM⟩ := Cond.instanceMethod_spec hinst
  obtain ⟨m8, methM', cM, hn8, hmethM', -, -, -, -, -, -, hsigM⟩ := Cond.codeWith_spec hcode
  cases Option.some.inj (hn8.symm.trans hnamed)
  cases hmethM.symm.trans hmethM'
  obtain ⟨c2, r2, m2, q1, q2, q3, q4, kP, hkP, hkPi⟩ := Cond.selects_spec hsel
  cases hcls.symm.trans q1
  cases (State.methodFound?_of_named hnamed hy).symm.trans q2
  cases hnamed.symm.trans q3
  have hselP : selectMethod e.platform s.vm cellB.cls mk = .method mk := by rw [Launch.admits_selectMethod X.admits]; exact q4
  obtain ⟨vm₁, X₁, hstep₁⟩ := X.invokevirtual hexec hown hlink hnamed hmethM hstM hkP hkPi hy (a := b) (cell := cellB) hcell
    (fun z h => by rw [h] at hobj; cases hobj) hselP hmethM habM hkP hkPi (g := g) hg (argsL := argsL) (rest := rest) (hlen _ hsigM) hstack hdg
  rcases hK m meth c ⟨T.setVm vm₁, locs, cells, slots⟩ { g with stack := rest } (.invokevirtual index) mk (Value.ref b :: argsL).toArray X₁ hg hsize hdg hW (X₁.named hnamed) (hpre vm₁ X₁.warmed) with ⟨v, B, X', hpost, hsteps⟩ | ⟨q, B, X', hpost, hsteps⟩
  · exact Or.inl ⟨v, vm₁, B, X₁.warmed, X', hpost, fun target h => hstep₁ _ fun acts => by rw [doInvoke_state]; exact hsteps.trans h⟩
  · exact Or.inr ⟨q, vm₁, B, X₁.warmed, X', hpost, hstep₁ _ fun acts => by rw [doInvoke_state]; exact hsteps⟩
theorem vx_callSX (X : Stand p l e R s m args below meth c T locs cells slots) (hexec : p.tables.exec = Jvm.exec) {own : String} {index : Nat} {y : MethodName} {bytes : ByteArray} {maxL : Nat} {ret : Option FieldType} {hh : List (Nat × Nat × Nat × Nat)}
    (hown : s.vm.findClass own = some m.cls) (hlink : (Cond.methodLink own index y).before args s = true) (hstat : (Cond.static y).before args s = true) (hinit : (Cond.initialized y.cls).before args s = true)
    (hcode : (Cond.codeWith y bytes maxL ret hh).before args s = true) (hy : y.cls ≠ "java/lang/invoke/MethodHandle" ∧ y.cls ≠ "java/lang/invoke/VarHandle")
    {W9 : Nat} {Pre : Pt → Array Value → Prop} {Post : Pt → Array Value → Option Value → Pt → Prop} {PostX : Pt → Array Value → Addr → Pt → Prop} (hK : vx_Back l R p e below s args y 3 W9 Pre Post PostX)
    {g : JFrame} (hg : g.method = m) (hsize : g.locals.size = c.maxLocals) {argsL rest : List Value} (hlen : ∀ sig, parseMethodDescriptor y.desc = some sig → argsL.length = sig.parameters.length)
    (hstack : g.stack = argsL.reverse ++ rest) (hW : 2 * g.monitorRoom + (rest.map fun v => v.category).sum ≤ W9) (hdg : decode c.code g.pc = .ok (.invokestatic index, 3))
    (hpre : ∀ vm₁, s.WarmedH vm₁ → Pre ⟨T.setVm vm₁, locs, cells, slots⟩ argsL.toArray) :
    (∃ (v : Option Value) (vm₁ : Vm) (B : Pt), s.WarmedH vm₁ ∧ Stand p l e R s m args below meth c B.U B.locs B.cells B.slots ∧ Post ⟨T.setVm vm₁, locs, cells, slots⟩ argsL.toArray v B ∧
      ∀ target, Steps p.tables e below (B.U.setTop { g with pc := g.pc + 3, stack := v.toList ++ rest }) target → Steps p.tables e below (T.setTop g) target) ∨
    (∃ (q : Addr) (vm₁ : Vm) (B : Pt), s.WarmedH vm₁ ∧ Stand p l e R s m args below meth c B.U B.locs B.cells B.slots ∧ PostX ⟨T.setVm vm₁, locs, cells, slots⟩ argsL.toArray q B ∧
      Steps p.tables e below (T.setTop g) ((B.U.setTop { g with stack := rest }).pushFrame (.throwing q))) := by
  obtain ⟨mk, methM, cM, hnamed, hmethM, -, -, -, -, -, -, hsigM⟩ := Cond.codeWith_spec hcode
  have hstatic : methM.isStatic = true := Cond.static_spec hnamed hmethM hstat
  obtain ⟨kP, hkP, -⟩ := className_of_methodNamed hnamed
  have hinitP : kP.init = .initialized := Cond.initialized_spec (findClass_of_methodNamed hnamed) hkP hinit
  obtain ⟨vm₁, X₁, hstep₁⟩ := X.invokestatic hexec hown hlink hnamed hmethM hstatic hkP hinitP hy (g := g) hg (argsL := argsL) (rest := rest) (hlen _ hsigM) hstack hdg
  rcases hK m meth c ⟨T.setVm vm₁, locs, cells, slots⟩ { g with stack := rest } (.invokestatic index) mk argsL.toArray X₁ hg hsize hdg hW (X₁.named hnamed) (hpre vm₁ X₁.warmed) with ⟨v, B, X', hpost, hsteps⟩ | ⟨q, B, X', hpost, hsteps⟩
  · exact Or.inl ⟨v, vm₁, B, X₁.warmed, X', hpost, fun target h => hstep₁ _ fun acts => by rw [doInvoke_state]; exact hsteps.trans h⟩
  · exact Or.inr ⟨q, vm₁, B, X₁.warmed, X', hpost, hstep₁ _ fun acts => by rw [doInvoke_state]; exact hsteps⟩
theorem vx_callVW (X : Stand p l e R s m args below meth c T locs cells slots) (hexec : p.tables.exec = Jvm.exec) {own C : String} {index : Nat} {y : MethodName} {bytes : ByteArray} {maxL : Nat} {ret : Option FieldType} {hh : List (Nat × Nat × Nat × Nat)}
    (hown : s.vm.findClass own = some m.cls) (hlink : (Cond.methodLink own index y).before args s = true) (hinst : (Cond.instanceMethod y).before args s = true) (hsel : (Cond.selects C y y).before args s = true)
    (hcode : (Cond.codeWith y bytes maxL ret hh).before args s = true) (hy : y.cls ≠ "java/lang/invoke/MethodHandle" ∧ y.cls ≠ "java/lang/invoke/VarHandle")
    {W9 : Nat} {Pre : Pt → Array Value → Prop} {Post : Pt → Array Value → Option Value → Pt → Prop} (hK : Back l R p e below s args y 3 W9 Pre Post)
    {b : Addr} {cellB : Cell} (hcell : T.heap[b]? = some cellB) (hobj : cellB.vm.isStatics = false) (hcls : s.vm.findClass C = some cellB.cls)
    {g : JFrame} (hg : g.method = m) (hsize : g.locals.size = c.maxLocals) {argsL rest : List Value} (hlen : ∀ sig, parseMethodDescriptor y.desc = some sig → argsL.length = sig.parameters.length)
    (hstack : g.stack = argsL.reverse ++ .ref b :: rest) (hW : 2 * g.monitorRoom + (rest.map fun v => v.category).sum ≤ W9) (hdg : decode c.code g.pc = .ok (.invokevirtual index, 3))
    (hpre : ∀ vm₁, s.WarmedH vm₁ → Pre ⟨T.setVm vm₁, locs, cells, slots⟩ (Value.ref b :: argsL).toArray) :
    ∃ (v : Option Value) (vm₁ : Vm) (B : Pt), s.WarmedH vm₁ ∧ Stand p l e R s m args below meth c B.U B.locs B.cells B.slots ∧ Post ⟨T.setVm vm₁, locs, cells, slots⟩ (Value.ref b :: argsL).toArray v B ∧
      ∀ target, Steps p.tables e below (B.U.setTop { g with pc := g.pc + 3, stack := v.toList ++ rest }) target → Steps p.tables e below (T.setTop g) target := by
  obtain ⟨mk, methM, hnamed, hmethM, hstM, habM⟩ := Cond.instanceMethod_spec hinst
  obtain ⟨m8, methM', cM, hn8, hmethM', -, -, -, -, -, -, hsigM⟩ := Cond.codeWith_spec hcode
  cases Option.some.inj (hn8.symm.trans hnamed)
  cases hmethM.symm.trans hmethM'
  obtain ⟨c2, r2, m2, q1, q2, q3, q4, kP, hkP, hkPi⟩ := Cond.selects_spec hsel
  cases hcls.symm.trans q1
  cases (State.methodFound?_of_named hnamed hy).symm.trans q2
  cases hnamed.symm.trans q3
  have hselP : selectMethod e.platform s.vm cellB.cls mk = .method mk := by rw [Launch.admits_selectMethod X.admits]; exact q4
  obtain ⟨vm₁, X₁, hstep₁⟩ := X.invokevirtual hexec hown hlink hnamed hmethM hstM hkP hkPi hy (a := b) (cell := cellB) hcell
    (fun z h => by rw [h] at hobj; cases hobj) hselP hmethM habM hkP hkPi (g := g) hg (argsL := argsL) (rest := rest) (hlen _ hsigM) hstack hdg
  obtain ⟨v, B, X', hpost, hsteps⟩ := hK m meth c ⟨T.setVm vm₁, locs, cells, slots⟩ { g with stack := rest } (.invokevirtual index) mk (Value.ref b :: argsL).toArray X₁ hg hsize hdg hW (X₁.named hnamed) (hpre vm₁ X₁.warmed)
  exact ⟨v, vm₁, B, X₁.warmed, X', hpost, fun target h => hstep₁ _ fun acts => by rw [doInvoke_state]; exact hsteps.trans h⟩
abbrev vx_CVW (R : Room) (s : State) (args : Array Value) (own C : String) (index : Nat) (y : MethodName) (bytes : ByteArray) (maxL : Nat) (ret : Option FieldType) (hh : List (Nat × Nat × Nat × Nat)) (ws : List Cond) (rm : Room) (mc ms n : Nat) : Prop :=
  (rm.cells = mc ∧ rm.slots = ms ∧ rm.frames + 1 ≤ R.frames ∧ 8 + (maxL + 11) + rm.locals ≤ R.locals ∧ (∀ w ∈ ws, ∀ (a' : Array Value) (U : State), s.WarmedH U.vm → w.before a' U = true) ∧ Cond.codeWith y bytes maxL ret hh ∈ ws) ∧
  (Cond.codeWith y bytes maxL ret hh).before args s = true ∧ (Cond.initialized y.cls).before args s = true ∧ (y.cls ≠ "java/lang/invoke/MethodHandle" ∧ y.cls ≠ "java/lang/invoke/VarHandle") ∧
  (∀ sig, parseMethodDescriptor y.desc = some sig → n = sig.parameters.length) ∧ (Cond.methodLink own index y).before args s = true ∧ (Cond.instanceMethod y).before args s = true ∧ (Cond.selects C y y).before args s = true
theorem vx_cwVW {own C : String} {index maxL mc ms : Nat} {y : MethodName} {bytes : ByteArray} {ret : Option FieldType} {hh : List (Nat × Nat × Nat × Nat)} {Ts ws ws' : List Cond} {rm : Room} (n : Nat) (ht : ∀ w ∈ Ts, w.before args s = true) (hT : GoodIn Ts (wsV own index C y ws)) (hw : ws = Cond.codeWith y bytes maxL ret hh :: ws') (hrc : rm.cells = mc) (hrs : rm.slots = ms)
    (hd : y.cls = C ∧ y.cls ≠ "java/lang/invoke/MethodHandle" ∧ y.cls ≠ "java/lang/invoke/VarHandle" ∧ (parseMethodDescriptor y.desc).map (fun d => d.parameters.length) = some n) (hR : rm.frames + 1 ≤ R.frames ∧ 8 + (maxL + 11) + rm.locals ≤ R.locals) :
    vx_CVW R s args own C index y bytes maxL ret hh ws rm mc ms n := by
  obtain ⟨hC, hd⟩ := hd
  subst hC
  have ok : ∀ w ∈ wsV own index y.cls y ws, w.before args s = true := fun w h => ht w (hT w h).1
  have hG : GoodIn Ts ws := fun w h => hT w (by unfold wsV; exact List.mem_append_right _ h)
  have hc : Cond.codeWith y bytes maxL ret hh ∈ ws := by rw [hw]; exact List.mem_cons_self
  refine ⟨⟨hrc, hrs, hR.1, hR.2, pay_in ht hG, hc⟩, ht _ (hG _ hc).1, ok _ (by simp [wsV]), ⟨hd.1, hd.2.1⟩, fun sig h => ?_, ok _ (by simp [wsV]), ok _ (by simp [wsV]), ok _ (by simp [wsV])⟩
  have h2 := hd.2.2
  rw [h] at h2
  exact (Option.some.inj h2).symm
theorem vx_runVW {y : MethodName} {bytes cc : ByteArray} {maxL nL mc ms n index : Nat} {ret : Option FieldType} {hh : List (Nat × Nat × Nat × Nat)} {ws : List Cond} {rm : Room} {Pc : Array Value → State → Prop} {Qc : Array Value → State → Outcome → State → Prop} {free : Addr → Prop} {Ts : List Cond} {own C : String} {b : Addr} {As rest : List Value} {g : JFrame}
    (S : CallFix p m c cc nL s args Ts own) (hM : Met l y ws rm Pc Qc mc ms free) (cw : vx_CVW R s args own C index y bytes maxL ret hh ws rm mc ms n) (hp : PreV s H C b Pc As)
    (hg : g.method = m) (hn : As.length = n) (hsize : g.locals.size = nL) (hstack : g.stack = As.reverse ++ .ref b :: rest) (hW : 2 * g.monitorRoom + (rest.map fun v => v.category).sum ≤ 8) (hdg : decode cc g.pc = .ok (.invokevirtual index, 3)) (hf : cells + mc ≤ R.cells ∧ slots + ms ≤ R.slots) :
    va_Run p l e R s m args below meth c H locs cells slots mc ms g rest (Qc (Value.ref b :: As).toArray) free := by
  obtain ⟨⟨hrc, hrs, hfr, hlo, hws, hcw⟩, hcode, hini, hy, hlen, hl, hin, hse⟩ := cw
  have hK : Back l R p e below s args y 3 8 (PreOf R mc ms Pc) (PostOf Qc mc ms free) := va_backW (hh := hh) (bytes := bytes) (maxL := maxL) (ret := ret) hM hp.1 hrc hrs hfr hlo hws hcw (fun a' U hW => word_at hW (Or.inl (by first | rfl | simp [Cond.onTables, Cond.keeps, Cond.steady])) hini)
  obtain ⟨hx, hb, hml, ho, -⟩ := S
  obtain ⟨-, ⟨cellB, hcB, hoB, hclB⟩, hPc⟩ := hp
  intro T hT X
  obtain ⟨v, vm₁, ⟨U', l2, c2, s2⟩, hW₁, X', ⟨g', mk, t, L, e1, e2, hq, h1, hL, h2, h3⟩, st⟩ := vx_callVW X hx (C := C) (hh := hh) (bytes := bytes) (maxL := maxL) (ret := ret) ho hl hin hse hcode hy hK (by rw [hT]; exact hcB) hoB hclB hg (hsize.trans hml.symm) (argsL := As) (rest := rest) (fun sig h => hn.trans (hlen sig h)) hstack hW (by rw [hb]; exact hdg)
    (fun vm₁ hW₁ => ⟨hf.1, hf.2, hPc (T.setVm vm₁) hT hW₁⟩)
  dsimp only [Pt.U, Pt.locs, Pt.cells, Pt.slots] at X' e1 e2 h1 h2 h3 st
  subst h1; subst h2; subst h3
  exact ⟨v, (T.setVm vm₁).calling g' mk (Value.ref b :: As).toArray, t, U', L, hT, X', hL, e1, e2, hq, st⟩
section
variable {y : MethodName} {bytes cc : ByteArray} {maxL nL mc ms n index : Nat} {ret : Option FieldType} {ws : List Cond} {rm : Room} {Pc : Array Value → State → Prop} {Qc : Array Value → State → Outcome → State → Prop} {XC : String → State → State → Prop} {free : Addr → Prop} {Ts : List Cond} {own C : String} {b : Addr} {As rest : List Value} {g : JFrame}
theorem vx_runVX {hh : List (Nat × Nat × Nat × Nat)} (S : CallFix p m c cc nL s args Ts own) (hM : vx_Met l y ws rm Pc Qc XC mc ms free) (cw : vx_CVW R s args own C index y bytes maxL ret hh ws rm mc ms n) (hp : PreV s H C b Pc As)
    (hg : g.method = m) (hn : As.length = n) (hsize : g.locals.size = nL) (hstack : g.stack = As.reverse ++ .ref b :: rest) (hW : 2 * g.monitorRoom + (rest.map fun v => v.category).sum ≤ 8) (hdg : decode cc g.pc = .ok (.invokevirtual index, 3)) (hf : cells + mc ≤ R.cells ∧ slots + ms ≤ R.slots) :
    vx_Run p l e R s m args below meth c H locs cells slots mc ms g rest (Qc (Value.ref b :: As).toArray) XC free := by
  obtain ⟨⟨hrc, hrs, hfr, hlo, hws, hcw⟩, hcode, hini, hy, hlen, hl, hin, hse⟩ := cw
  have hK : vx_Back l R p e below s args y 3 8 (PreOf R mc ms Pc) (PostOf Qc mc ms free) (vx_Post XC mc ms free) := vx_backW (hh := hh) (bytes := bytes) (maxL := maxL) (ret := ret) hM hp.1 hrc hrs hfr hlo hws hcw (fun a' U hW => word_at hW (Or.inl (by first | rfl | simp [Cond.onTables, Cond.keeps, Cond.steady])) hini)
  obtain ⟨hx, hb, hml, ho, -⟩ := S
  obtain ⟨-, ⟨cellB, hcB, hoB, hclB⟩, hPc⟩ := hp
  intro T hT X
  rcases vx_callVX X hx (C := C) (hh := hh) (bytes := bytes) (maxL := maxL) (ret := ret) ho hl hin hse hcode hy hK (by rw [hT]; exact hcB) hoB hclB hg (hsize.trans hml.symm) (argsL := As) (rest := rest) (fun sig h => hn.trans (hlen sig h)) hstack hW (by rw [hb]; exact hdg)
    (fun vm₁ hW₁ => ⟨hf.1, hf.2, hPc (T.setVm vm₁) hT hW₁⟩) with ⟨v, vm₁, ⟨U', l2, c2, s2⟩, hW₁, X', ⟨g', mk, t, L, e1, e2, hq, h1, hL, h2, h3⟩, st⟩ | ⟨q, vm₁, ⟨U', l2, c2, s2⟩, hW₁, X', ⟨g', mk, t, L, E, ce, e1, e2, hq, hce, hcv, hcl, h1, hL, h2, h3⟩, st⟩
  · dsimp only [Pt.U, Pt.locs, Pt.cells, Pt.slots] at X' e1 e2 h1 h2 h3 st
    subst h1; subst h2; subst h3
    exact Or.inl ⟨v, (T.setVm vm₁).calling g' mk (Value.ref b :: As).toArray, t, U', L, hT, X', hL, e1, e2, hq, st⟩
  · dsimp only [Pt.U, Pt.locs, Pt.cells, Pt.slots] at X' e1 e2 h1 h2 h3 st hcl
    subst h1; subst h2; subst h3
    exact Or.inr ⟨q, (T.setVm vm₁).calling g' mk (Value.ref b :: As).toArray, t, U', L, E, ce, hT, X', hL, e1, e2, hq, hce, hcv, vx_cls hW₁ hcl, st⟩
theorem vx_runSX {hh : List (Nat × Nat × Nat × Nat)} (S : CallFix p m c cc nL s args Ts own) (hM : vx_Met l y ws rm Pc Qc XC mc ms free) (cw : vx_CSW R s args own index y bytes maxL ret hh ws rm mc ms n) (hp : PreS s H Pc As)
    (hg : g.method = m) (hn : As.length = n) (hsize : g.locals.size = nL) (hstack : g.stack = As.reverse ++ rest) (hW : 2 * g.monitorRoom + (rest.map fun v => v.category).sum ≤ 8) (hdg : decode cc g.pc = .ok (.invokestatic index, 3)) (hf : cells + mc ≤ R.cells ∧ slots + ms ≤ R.slots) :
    vx_Run p l e R s m args below meth c H locs cells slots mc ms g rest (Qc As.toArray) XC free := by
  obtain ⟨⟨hrc, hrs, hfr, hlo, hws, hcw⟩, hcode, hini, hy, hlen, hl, hstt⟩ := cw
  have hK : vx_Back l R p e below s args y 3 8 (PreOf R mc ms Pc) (PostOf Qc mc ms free) (vx_Post XC mc ms free) := vx_backW (hh := hh) (bytes := bytes) (maxL := maxL) (ret := ret) hM hp.1 hrc hrs hfr hlo hws hcw (fun a' U hW => word_at hW (Or.inl (by first | rfl | simp [Cond.onTables, Cond.keeps, Cond.steady])) hini)
  obtain ⟨hx, hb, hml, ho, -⟩ := S
  intro T hT X
  rcases vx_callSX X hx (hh := hh) (bytes := bytes) (maxL := maxL) (ret := ret) ho hl hstt hini hcode hy hK hg (hsize.trans hml.symm) (argsL := As) (rest := rest) (fun sig h => hn.trans (hlen sig h)) hstack hW (by rw [hb]; exact hdg)
    (fun vm₁ hW₁ => ⟨hf.1, hf.2, hp.2 (T.setVm vm₁) hT hW₁⟩) with ⟨v, vm₁, ⟨U', l2, c2, s2⟩, hW₁, X', ⟨g', mk, t, L, e1, e2, hq, h1, hL, h2, h3⟩, st⟩ | ⟨q, vm₁, ⟨U', l2, c2, s2⟩, hW₁, X', ⟨g', mk, t, L, E, ce, e1, e2, hq, hce, hcv, hcl, h1, hL, h2, h3⟩, st⟩
  · dsimp only [Pt.U, Pt.locs, Pt.cells, Pt.slots] at X' e1 e2 h1 h2 h3 st
    subst h1; subst h2; subst h3
    exact Or.inl ⟨v, (T.setVm vm₁).calling g' mk As.toArray, t, U', L, hT, X', hL, e1, e2, hq, st⟩
  · dsimp only [Pt.U, Pt.locs, Pt.cells, Pt.slots] at X' e1 e2 h1 h2 h3 st hcl
    subst h1; subst h2; subst h3
    exact Or.inr ⟨q, (T.setVm vm₁).calling g' mk As.toArray, t, U', L, E, ce, hT, X', hL, e1, e2, hq, hce, hcv, vx_cls hW₁ hcl, st⟩
end
end VXH
theorem vx_ofWH {l : Launch} {y : MethodName} {ws ws' : List Cond} {rm : Room} {Pc : Array Value → State → Prop} {Qc : Array Value → State → Outcome → State → Prop} {XC : String → State → State → Prop} {mc ms : Nat} {free : Addr → Prop} {cc : ByteArray} {maxL : Nat} {ret : Option FieldType} {hh : List (Nat × Nat × Nat × Nat)}
    (hy : plainName y.cls = true) (hw : ws = Cond.codeWith y cc maxL ret hh :: ws')
    (body : ∀ p e s m args below meth c s₁, BodyLoose p l y (headSpec ws rm) cc maxL ret e s m args below meth c s₁ → c.maxLocals = maxL → Pc args s →
      W p l e (headSpec ws rm).room s m args below meth c s.heap [] 0 0 (vx_MQ below Qc XC args s mc ms free) (entryFrame m args maxL)) : vx_Met l y ws rm Pc Qc XC mc ms free := by
  refine MetFree.of_bodyS (code := cc) (maxLocals := maxL) (ret := ret) hy ?_ ?_
  · intro args s m h hn
    obtain ⟨m9, meth, c, hn9, h1, h2, h3, h4, -, h5, h6, -⟩ := Cond.codeWith_spec (atoms_spec (ws := ws) h _ (by rw [hw]; exact List.mem_cons_self))
    cases hn.symm.trans hn9
    exact ⟨meth, c, h1, h2, h3, h4, h5, h6⟩
  · intro p e s m args below meth c s₁ B hml hP _
    have hh0 : s₁.heap = s.heap := by rw [B.state]; rfl
    obtain ⟨t, a1, o, b1, b2, b3⟩ := body p e s m args below meth c s₁ B hml hP s₁ hh0 (Stand.of_body B)
    exact ⟨t, o, a1, b1, b2, b3⟩
/-! ===== END ===== -/
end
section
def RX0 : String := "ShoeHouse$Affairs"
def TX0 : u_T := fun k => match k with
  | 0 => ("ShoeHouse$Affairs", "givers", "[I", true)
  | 1 => ("ShoeHouse$Affairs", "takers", "[I", true)
  | 2 => ("ShoeHouse$Affairs", "lentShoes", "[I", true)
  | 3 => ("ShoeHouse$Affairs", "shoes", "[I", true)
  | 4 => ("ShoeHouse$Affairs", "day", "[I", true)
  | 5 => ("ShoeHouse$Affairs", "rounds", "[I", true)
  | 6 => ("ShoeHouse$Affairs", "seenSigns", "[I", true)
  | 7 => ("ShoeHouse$Affairs", "lent", "I", false)
  | 8 => ("ShoeHouse$Affairs", "seenHour", "I", false)
  | _ => ("ShoeHouse$Affairs", "seenRooms", "I", false)
def tyX0 : Nat → FieldType := fun k => match k with
  | 0 => .array .int
  | 1 => .array .int
  | 2 => .array .int
  | 3 => .array .int
  | 4 => .array .int
  | 5 => .array .int
  | 6 => .array .int
  | 7 => .int
  | 8 => .int
  | _ => .int
theorem nmX0 : ∀ a, a < 10 → ∀ b, b < 10 → a ≠ b → (TX0 a).2.1 ≠ (TX0 b).2.1 := by decide +kernel
theorem tyX0_ok : ∀ k, k < 10 → parseFieldDescriptor (TX0 k).2.2.1 = some (tyX0 k) := by decide +kernel
abbrev cX0_init : ByteArray := prog_2_method_1_code
def yX0_init : MethodName := ⟨RX0, "<init>", "()V"⟩
abbrev cX0_begin : ByteArray := prog_2_method_2_code
def yX0_begin : MethodName := ⟨RX0, "begin", "(LShoeHouse$Plan;)V"⟩
abbrev cX0_copyFrom : ByteArray := prog_2_method_3_code
def yX0_copyFrom : MethodName := ⟨RX0, "copyFrom", "(LShoeHouse$Affairs;)V"⟩
abbrev cX0_shoesOf : ByteArray := prog_2_method_4_code
def yX0_shoesOf : MethodName := ⟨RX0, "shoesOf", "(II)I"⟩
abbrev cX0_shoeKinds : ByteArray := prog_2_method_5_code
def yX0_shoeKinds : MethodName := ⟨RX0, "shoeKinds", "(I)I"⟩
abbrev cX0_canLend : ByteArray := prog_2_method_6_code
def yX0_canLend : MethodName := ⟨RX0, "canLend", "(II)Z"⟩
abbrev cX0_handOver : ByteArray := prog_2_method_7_code
def yX0_handOver : MethodName := ⟨RX0, "handOver", "(III)V"⟩
abbrev cX0_handBack : ByteArray := prog_2_method_8_code
def yX0_handBack : MethodName := ⟨RX0, "handBack", "()V"⟩
abbrev cX0_move : ByteArray := prog_2_method_9_code
def yX0_move : MethodName := ⟨RX0, "move", "(III)V"⟩
abbrev cX0_doing : ByteArray := prog_2_method_10_code
def yX0_doing : MethodName := ⟨RX0, "doing", "(II)I"⟩
abbrev cX0_drawDay : ByteArray := prog_2_method_11_code
def yX0_drawDay : MethodName := ⟨RX0, "drawDay", "(LShoeHouse$Plan;I)V"⟩
abbrev cX0_hasSeen : ByteArray := prog_2_method_12_code
def yX0_hasSeen : MethodName := ⟨RX0, "hasSeen", "(II)Z"⟩
abbrev cX0_note : ByteArray := prog_2_method_13_code
def yX0_note : MethodName := ⟨RX0, "note", "(III)V"⟩
abbrev cX0_seeNothing : ByteArray := prog_2_method_14_code
def yX0_seeNothing : MethodName := ⟨RX0, "seeNothing", "()V"⟩
def RX1 : String := "ShoeHouse$Cases"
def TX1 : u_T := fun k => match k with
  | 0 => ("ShoeHouse$Cases", "plan", "LShoeHouse$Plan;", true)
  | 1 => ("ShoeHouse$Cases", "now", "LShoeHouse$Affairs;", true)
  | 2 => ("ShoeHouse$Cases", "doors", "LShoeHouse$Doors;", true)
  | 3 => ("ShoeHouse$Cases", "doings", "[I", true)
  | _ => ("ShoeHouse$Cases", "total", "I", false)
def tyX1 : Nat → FieldType := fun k => match k with
  | 0 => .object "ShoeHouse$Plan"
  | 1 => .object "ShoeHouse$Affairs"
  | 2 => .object "ShoeHouse$Doors"
  | 3 => .array .int
  | _ => .int
theorem nmX1 : ∀ a, a < 5 → ∀ b, b < 5 → a ≠ b → (TX1 a).2.1 ≠ (TX1 b).2.1 := by decide +kernel
theorem tyX1_ok : ∀ k, k < 5 → parseFieldDescriptor (TX1 k).2.2.1 = some (tyX1 k) := by decide +kernel
abbrev cX1_init : ByteArray := prog_3_method_1_code
def yX1_init : MethodName := ⟨RX1, "<init>", "(LShoeHouse$Plan;LShoeHouse$Affairs;LShoeHouse$Doors;)V"⟩
abbrev cX1_reckon : ByteArray := prog_3_method_2_code
def yX1_reckon : MethodName := ⟨RX1, "reckon", "()I"⟩
abbrev cX1_emptyRoomsHold : ByteArray := prog_3_method_3_code
def yX1_emptyRoomsHold : MethodName := ⟨RX1, "emptyRoomsHold", "()Z"⟩
abbrev cX1_doingsHeld : ByteArray := prog_3_method_4_code
def yX1_doingsHeld : MethodName := ⟨RX1, "doingsHeld", "(II)I"⟩
abbrev cX1_doingIn : ByteArray := prog_3_method_5_code
def yX1_doingIn : MethodName := ⟨RX1, "doingIn", "(II)I"⟩
abbrev cX1_casesWithout : ByteArray := prog_3_method_6_code
def yX1_casesWithout : MethodName := ⟨RX1, "casesWithout", "(I)I"⟩
abbrev cX1_surelyEmpty : ByteArray := prog_3_method_7_code
def yX1_surelyEmpty : MethodName := ⟨RX1, "surelyEmpty", "()I"⟩
abbrev cX1_surelyTaken : ByteArray := prog_3_method_8_code
def yX1_surelyTaken : MethodName := ⟨RX1, "surelyTaken", "()I"⟩
abbrev cX1_doorToKnockAt : ByteArray := prog_3_method_9_code
def yX1_doorToKnockAt : MethodName := ⟨RX1, "doorToKnockAt", "()I"⟩
abbrev cX1_roomsOf : ByteArray := prog_3_method_10_code
def yX1_roomsOf : MethodName := ⟨RX1, "roomsOf", "(I)I"⟩
def RX2 : String := "ShoeHouse$Deceit"
def TX2 : u_T := fun k => match k with
  | 0 => ("ShoeHouse$Deceit", "plan", "LShoeHouse$Plan;", true)
  | 1 => ("ShoeHouse$Deceit", "now", "LShoeHouse$Affairs;", true)
  | 2 => ("ShoeHouse$Deceit", "doors", "LShoeHouse$Doors;", true)
  | 3 => ("ShoeHouse$Deceit", "signs", "[I", true)
  | _ => ("ShoeHouse$Deceit", "groups", "[I", true)
def tyX2 : Nat → FieldType := fun k => match k with
  | 0 => .object "ShoeHouse$Plan"
  | 1 => .object "ShoeHouse$Affairs"
  | 2 => .object "ShoeHouse$Doors"
  | 3 => .array .int
  | _ => .array .int
theorem nmX2 : ∀ a, a < 5 → ∀ b, b < 5 → a ≠ b → (TX2 a).2.1 ≠ (TX2 b).2.1 := by decide +kernel
theorem tyX2_ok : ∀ k, k < 5 → parseFieldDescriptor (TX2 k).2.2.1 = some (tyX2 k) := by decide +kernel
abbrev cX2_init : ByteArray := prog_4_method_1_code
def yX2_init : MethodName := ⟨RX2, "<init>", "(LShoeHouse$Plan;LShoeHouse$Affairs;LShoeHouse$Doors;)V"⟩
abbrev cX2_fewestLiars : ByteArray := prog_4_method_2_code
def yX2_fewestLiars : MethodName := ⟨RX2, "fewestLiars", "(II)I"⟩
abbrev cX2_sortDoings : ByteArray := prog_4_method_3_code
def yX2_sortDoings : MethodName := ⟨RX2, "sortDoings", "(I)V"⟩
abbrev cX2_misleads : ByteArray := prog_4_method_4_code
def yX2_misleads : MethodName := ⟨RX2, "misleads", "(II)Z"⟩
def RX3 : String := "ShoeHouse$Doors"
def TX3 : u_T := fun k => match k with
  | 0 => ("ShoeHouse$Doors", "plan", "LShoeHouse$Plan;", true)
  | _ => ("ShoeHouse$Doors", "now", "LShoeHouse$Affairs;", true)
def tyX3 : Nat → FieldType := fun k => match k with
  | 0 => .object "ShoeHouse$Plan"
  | _ => .object "ShoeHouse$Affairs"
theorem nmX3 : ∀ a, a < 2 → ∀ b, b < 2 → a ≠ b → (TX3 a).2.1 ≠ (TX3 b).2.1 := by decide +kernel
theorem tyX3_ok : ∀ k, k < 2 → parseFieldDescriptor (TX3 k).2.2.1 = some (tyX3 k) := by decide +kernel
abbrev cX3_init : ByteArray := prog_5_method_1_code
def yX3_init : MethodName := ⟨RX3, "<init>", "(LShoeHouse$Plan;LShoeHouse$Affairs;)V"⟩
abbrev cX3_signOf : ByteArray := prog_5_method_2_code
def yX3_signOf : MethodName := ⟨RX3, "signOf", "(II)I"⟩
abbrev cX3_signAt : ByteArray := prog_5_method_3_code
def yX3_signAt : MethodName := ⟨RX3, "signAt", "(II)I"⟩
abbrev cX3_doingsBySign : ByteArray := prog_5_method_4_code
def yX3_doingsBySign : MethodName := ⟨RX3, "doingsBySign", "(III)I"⟩
abbrev cX3_chanceAt : ByteArray := prog_5_method_5_code
def yX3_chanceAt : MethodName := ⟨RX3, "chanceAt", "(II)I"⟩
abbrev cX3_worthOf : ByteArray := prog_5_method_6_code
def yX3_worthOf : MethodName := ⟨RX3, "worthOf", "(II)I"⟩
def RX4 : String := "ShoeHouse$Game"
def TX4 : u_T := fun k => match k with
  | 0 => ("ShoeHouse$Game", "plan", "LShoeHouse$Plan;", true)
  | 1 => ("ShoeHouse$Game", "doors", "LShoeHouse$Doors;", true)
  | 2 => ("ShoeHouse$Game", "worths", "[I", true)
  | 3 => ("ShoeHouse$Game", "crowd", "[I", true)
  | 4 => ("ShoeHouse$Game", "row", "[I", true)
  | _ => ("ShoeHouse$Game", "firstRow", "[I", true)
def tyX4 : Nat → FieldType := fun k => match k with
  | 0 => .object "ShoeHouse$Plan"
  | 1 => .object "ShoeHouse$Doors"
  | 2 => .array .int
  | 3 => .array .int
  | 4 => .array .int
  | _ => .array .int
theorem nmX4 : ∀ a, a < 6 → ∀ b, b < 6 → a ≠ b → (TX4 a).2.1 ≠ (TX4 b).2.1 := by decide +kernel
theorem tyX4_ok : ∀ k, k < 6 → parseFieldDescriptor (TX4 k).2.2.1 = some (tyX4 k) := by decide +kernel
abbrev cX4_init : ByteArray := prog_6_method_1_code
def yX4_init : MethodName := ⟨RX4, "<init>", "(LShoeHouse$Plan;LShoeHouse$Doors;)V"⟩
abbrev cX4_play : ByteArray := prog_6_method_2_code
def yX4_play : MethodName := ⟨RX4, "play", "(II)I"⟩
abbrev cX4_layRow : ByteArray := prog_6_method_3_code
def yX4_layRow : MethodName := ⟨RX4, "layRow", "(II)V"⟩
abbrev cX4_isAtRest : ByteArray := prog_6_method_4_code
def yX4_isAtRest : MethodName := ⟨RX4, "isAtRest", "(I)Z"⟩
abbrev cX4_share : ByteArray := prog_6_method_5_code
def yX4_share : MethodName := ⟨RX4, "share", "(II)I"⟩
def RX5 : String := "ShoeHouse$Lending"
def TX5 : u_T := fun k => match k with
  | 0 => ("ShoeHouse$Lending", "plan", "LShoeHouse$Plan;", true)
  | 1 => ("ShoeHouse$Lending", "now", "LShoeHouse$Affairs;", true)
  | 2 => ("ShoeHouse$Lending", "doors", "LShoeHouse$Doors;", true)
  | 3 => ("ShoeHouse$Lending", "wanted", "[I", true)
  | 4 => ("ShoeHouse$Lending", "spare", "[I", true)
  | 5 => ("ShoeHouse$Lending", "wantedBy", "[I", true)
  | 6 => ("ShoeHouse$Lending", "spareOf", "[I", true)
  | 7 => ("ShoeHouse$Lending", "found", "[I", true)
  | 8 => ("ShoeHouse$Lending", "lenders", "[I", true)
  | _ => ("ShoeHouse$Lending", "isKept", "Z", false)
def tyX5 : Nat → FieldType := fun k => match k with
  | 0 => .object "ShoeHouse$Plan"
  | 1 => .object "ShoeHouse$Affairs"
  | 2 => .object "ShoeHouse$Doors"
  | 3 => .array .int
  | 4 => .array .int
  | 5 => .array .int
  | 6 => .array .int
  | 7 => .array .int
  | 8 => .array .int
  | _ => .boolean
theorem nmX5 : ∀ a, a < 10 → ∀ b, b < 10 → a ≠ b → (TX5 a).2.1 ≠ (TX5 b).2.1 := by decide +kernel
theorem tyX5_ok : ∀ k, k < 10 → parseFieldDescriptor (TX5 k).2.2.1 = some (tyX5 k) := by decide +kernel
abbrev cX5_init : ByteArray := prog_7_method_1_code
def yX5_init : MethodName := ⟨RX5, "<init>", "(LShoeHouse$Plan;LShoeHouse$Affairs;LShoeHouse$Doors;)V"⟩
abbrev cX5_keepFewest : ByteArray := prog_7_method_2_code
def yX5_keepFewest : MethodName := ⟨RX5, "keepFewest", "(II)I"⟩
abbrev cX5_isShoeless : ByteArray := prog_7_method_3_code
def yX5_isShoeless : MethodName := ⟨RX5, "isShoeless", "(III)Z"⟩
abbrev cX5_helpfulShoes : ByteArray := prog_7_method_4_code
def yX5_helpfulShoes : MethodName := ⟨RX5, "helpfulShoes", "(III)I"⟩
abbrev cX5_countSpare : ByteArray := prog_7_method_5_code
def yX5_countSpare : MethodName := ⟨RX5, "countSpare", "(III)V"⟩
abbrev cX5_canServe : ByteArray := prog_7_method_6_code
def yX5_canServe : MethodName := ⟨RX5, "canServe", "()Z"⟩
abbrev cX5_serveAll : ByteArray := prog_7_method_7_code
def yX5_serveAll : MethodName := ⟨RX5, "serveAll", "()V"⟩
abbrev cX5_serve : ByteArray := prog_7_method_8_code
def yX5_serve : MethodName := ⟨RX5, "serve", "(I)V"⟩
abbrev cX5_canSpare : ByteArray := prog_7_method_9_code
def yX5_canSpare : MethodName := ⟨RX5, "canSpare", "(II)Z"⟩
def RX6 : String := "ShoeHouse$Plan"
def TX6 : u_T := fun k => match k with
  | 0 => ("ShoeHouse$Plan", "goods", "[I", true)
  | 1 => ("ShoeHouse$Plan", "tenant", "[I", true)
  | 2 => ("ShoeHouse$Plan", "home", "[I", true)
  | 3 => ("ShoeHouse$Plan", "feet", "[I", true)
  | 4 => ("ShoeHouse$Plan", "begins", "[I", true)
  | 5 => ("ShoeHouse$Plan", "told", "[I", true)
  | 6 => ("ShoeHouse$Plan", "law", "[I", true)
  | 7 => ("ShoeHouse$Plan", "rooms", "I", false)
  | 8 => ("ShoeHouse$Plan", "lodgers", "I", false)
  | 9 => ("ShoeHouse$Plan", "finders", "I", false)
  | 10 => ("ShoeHouse$Plan", "mays", "I", false)
  | _ => ("ShoeHouse$Plan", "lawsTold", "I", false)
def tyX6 : Nat → FieldType := fun k => match k with
  | 0 => .array .int
  | 1 => .array .int
  | 2 => .array .int
  | 3 => .array .int
  | 4 => .array .int
  | 5 => .array .int
  | 6 => .array .int
  | 7 => .int
  | 8 => .int
  | 9 => .int
  | 10 => .int
  | _ => .int
theorem nmX6 : ∀ a, a < 12 → ∀ b, b < 12 → a ≠ b → (TX6 a).2.1 ≠ (TX6 b).2.1 := by decide +kernel
theorem tyX6_ok : ∀ k, k < 12 → parseFieldDescriptor (TX6 k).2.2.1 = some (tyX6 k) := by decide +kernel
abbrev cX6_init : ByteArray := prog_8_method_1_code
def yX6_init : MethodName := ⟨RX6, "<init>", "()V"⟩
abbrev cX6_setFirstLaw : ByteArray := prog_8_method_2_code
def yX6_setFirstLaw : MethodName := ⟨RX6, "setFirstLaw", "()V"⟩
abbrev cX6_clear : ByteArray := prog_8_method_3_code
def yX6_clear : MethodName := ⟨RX6, "clear", "()V"⟩
abbrev cX6_copyFrom : ByteArray := prog_8_method_4_code
def yX6_copyFrom : MethodName := ⟨RX6, "copyFrom", "(LShoeHouse$Plan;)V"⟩
abbrev cX6_addRoom : ByteArray := prog_8_method_5_code
def yX6_addRoom : MethodName := ⟨RX6, "addRoom", "(I)V"⟩
abbrev cX6_addLodger : ByteArray := prog_8_method_6_code
def yX6_addLodger : MethodName := ⟨RX6, "addLodger", "(I)V"⟩
abbrev cX6_addFinder : ByteArray := prog_8_method_7_code
def yX6_addFinder : MethodName := ⟨RX6, "addFinder", "(I)V"⟩
abbrev cX6_addMay : ByteArray := prog_8_method_8_code
def yX6_addMay : MethodName := ⟨RX6, "addMay", "(IIII)V"⟩
abbrev cX6_addLaw : ByteArray := prog_8_method_9_code
def yX6_addLaw : MethodName := ⟨RX6, "addLaw", "(II)V"⟩
abbrev cX6_doings : ByteArray := prog_8_method_10_code
def yX6_doings : MethodName := ⟨RX6, "doings", "(II)I"⟩
abbrev cX6_canDo : ByteArray := prog_8_method_11_code
def yX6_canDo : MethodName := ⟨RX6, "canDo", "(II)Z"⟩
abbrev cX6_lawFor : ByteArray := prog_8_method_12_code
def yX6_lawFor : MethodName := ⟨RX6, "lawFor", "(I)I"⟩
abbrev cX6_doingsIn : ByteArray := prog_8_method_13_code
def yX6_doingsIn : MethodName := ⟨RX6, "doingsIn", "(II)I"⟩
abbrev cX6_rowsOf : ByteArray := prog_8_method_14_code
def yX6_rowsOf : MethodName := ⟨RX6, "rowsOf", "(I)I"⟩
def RX7 : String := "ShoeHouse$Reader"
def TX7 : u_T := fun k => match k with
  | 0 => ("ShoeHouse$Reader", "text", "[B", true)
  | 1 => ("ShoeHouse$Reader", "plan", "LShoeHouse$Plan;", true)
  | 2 => ("ShoeHouse$Reader", "end", "I", false)
  | 3 => ("ShoeHouse$Reader", "next", "I", false)
  | 4 => ("ShoeHouse$Reader", "token", "I", false)
  | 5 => ("ShoeHouse$Reader", "start", "I", false)
  | 6 => ("ShoeHouse$Reader", "value", "I", false)
  | 7 => ("ShoeHouse$Reader", "fault", "I", false)
  | _ => ("ShoeHouse$Reader", "place", "I", false)
def tyX7 : Nat → FieldType := fun k => match k with
  | 0 => .array .byte
  | 1 => .object "ShoeHouse$Plan"
  | 2 => .int
  | 3 => .int
  | 4 => .int
  | 5 => .int
  | 6 => .int
  | 7 => .int
  | _ => .int
theorem nmX7 : ∀ a, a < 9 → ∀ b, b < 9 → a ≠ b → (TX7 a).2.1 ≠ (TX7 b).2.1 := by decide +kernel
theorem tyX7_ok : ∀ k, k < 9 → parseFieldDescriptor (TX7 k).2.2.1 = some (tyX7 k) := by decide +kernel
abbrev cX7_init : ByteArray := prog_9_method_1_code
def yX7_init : MethodName := ⟨RX7, "<init>", "([BLShoeHouse$Plan;)V"⟩
abbrev cX7_read : ByteArray := prog_9_method_2_code
def yX7_read : MethodName := ⟨RX7, "read", "(I)I"⟩
abbrev cX7_readLine : ByteArray := prog_9_method_3_code
def yX7_readLine : MethodName := ⟨RX7, "readLine", "()V"⟩
abbrev cX7_readRoom : ByteArray := prog_9_method_4_code
def yX7_readRoom : MethodName := ⟨RX7, "readRoom", "()V"⟩
abbrev cX7_readLodger : ByteArray := prog_9_method_5_code
def yX7_readLodger : MethodName := ⟨RX7, "readLodger", "()V"⟩
abbrev cX7_readFinder : ByteArray := prog_9_method_6_code
def yX7_readFinder : MethodName := ⟨RX7, "readFinder", "()V"⟩
abbrev cX7_readMay : ByteArray := prog_9_method_7_code
def yX7_readMay : MethodName := ⟨RX7, "readMay", "()V"⟩
abbrev cX7_readDoing : ByteArray := prog_9_method_8_code
def yX7_readDoing : MethodName := ⟨RX7, "readDoing", "(I)I"⟩
abbrev cX7_readLaw : ByteArray := prog_9_method_9_code
def yX7_readLaw : MethodName := ⟨RX7, "readLaw", "()V"⟩
abbrev cX7_ownDoing : ByteArray := prog_9_method_10_code
def yX7_ownDoing : MethodName := ⟨RX7, "ownDoing", "()I"⟩
abbrev cX7_signTold : ByteArray := prog_9_method_11_code
def yX7_signTold : MethodName := ⟨RX7, "signTold", "()I"⟩
abbrev cX7_isFull : ByteArray := prog_9_method_12_code
def yX7_isFull : MethodName := ⟨RX7, "isFull", "(II)Z"⟩
abbrev cX7_toldNumber : ByteArray := prog_9_method_13_code
def yX7_toldNumber : MethodName := ⟨RX7, "toldNumber", "(I)I"⟩
abbrev cX7_numberWithin : ByteArray := prog_9_method_14_code
def yX7_numberWithin : MethodName := ⟨RX7, "numberWithin", "(II)I"⟩
abbrev cX7_faultOfNumber : ByteArray := prog_9_method_15_code
def yX7_faultOfNumber : MethodName := ⟨RX7, "faultOfNumber", "()I"⟩
abbrev cX7_refuse : ByteArray := prog_9_method_16_code
def yX7_refuse : MethodName := ⟨RX7, "refuse", "(I)I"⟩
abbrev cX7_isWord : ByteArray := prog_9_method_17_code
def yX7_isWord : MethodName := ⟨RX7, "isWord", "(Ljava/lang/String;)Z"⟩
abbrev cX7_advance : ByteArray := prog_9_method_18_code
def yX7_advance : MethodName := ⟨RX7, "advance", "()V"⟩
abbrev cX7_valueHere : ByteArray := prog_9_method_19_code
def yX7_valueHere : MethodName := ⟨RX7, "valueHere", "()I"⟩
abbrev cX7_takeRow : ByteArray := prog_9_method_20_code
def yX7_takeRow : MethodName := ⟨RX7, "takeRow", "(CC)V"⟩
def RX8 : String := "ShoeHouse$Slippers"
def TX8 : u_T := fun k => match k with
  | 0 => ("ShoeHouse$Slippers", "words", "[I", true)
  | 1 => ("ShoeHouse$Slippers", "many", "I", false)
  | _ => ("ShoeHouse$Slippers", "apart", "I", false)
def tyX8 : Nat → FieldType := fun k => match k with
  | 0 => .array .int
  | 1 => .int
  | _ => .int
theorem nmX8 : ∀ a, a < 3 → ∀ b, b < 3 → a ≠ b → (TX8 a).2.1 ≠ (TX8 b).2.1 := by decide +kernel
theorem tyX8_ok : ∀ k, k < 3 → parseFieldDescriptor (TX8 k).2.2.1 = some (tyX8 k) := by decide +kernel
abbrev cX8_init : ByteArray := prog_10_method_1_code
def yX8_init : MethodName := ⟨RX8, "<init>", "()V"⟩
abbrev cX8_lay : ByteArray := prog_10_method_2_code
def yX8_lay : MethodName := ⟨RX8, "lay", "(I)V"⟩
abbrev cX8_isApart : ByteArray := prog_10_method_3_code
def yX8_isApart : MethodName := ⟨RX8, "isApart", "(I)Z"⟩
abbrev cX8_kindsFor : ByteArray := prog_10_method_4_code
def yX8_kindsFor : MethodName := ⟨RX8, "kindsFor", "(I)I"⟩
abbrev cX8_mended : ByteArray := prog_10_method_5_code
def yX8_mended : MethodName := ⟨RX8, "mended", "(II)I"⟩
def RX9 : String := "ShoeHouse$Tape"
def TX9 : u_T := fun k => match k with
  | 0 => ("ShoeHouse$Tape", "bytes", "[B", true)
  | _ => ("ShoeHouse$Tape", "length", "I", false)
def tyX9 : Nat → FieldType := fun k => match k with
  | 0 => .array .byte
  | _ => .int
theorem nmX9 : ∀ a, a < 2 → ∀ b, b < 2 → a ≠ b → (TX9 a).2.1 ≠ (TX9 b).2.1 := by decide +kernel
theorem tyX9_ok : ∀ k, k < 2 → parseFieldDescriptor (TX9 k).2.2.1 = some (tyX9 k) := by decide +kernel
abbrev cX9_init : ByteArray := prog_11_method_1_code
def yX9_init : MethodName := ⟨RX9, "<init>", "()V"⟩
abbrev cX9_hasRoomFor : ByteArray := prog_11_method_2_code
def yX9_hasRoomFor : MethodName := ⟨RX9, "hasRoomFor", "(I)Z"⟩
abbrev cX9_append : ByteArray := prog_11_method_3_code
def yX9_append : MethodName := ⟨RX9, "append", "(I)V"⟩
def RX10 : String := "ShoeHouse$Walk"
def TX10 : u_T := fun k => match k with
  | 0 => ("ShoeHouse$Walk", "plan", "LShoeHouse$Plan;", true)
  | 1 => ("ShoeHouse$Walk", "doors", "LShoeHouse$Doors;", true)
  | 2 => ("ShoeHouse$Walk", "worths", "[I", true)
  | 3 => ("ShoeHouse$Walk", "row", "[I", true)
  | 4 => ("ShoeHouse$Walk", "rooms", "[I", true)
  | 5 => ("ShoeHouse$Walk", "looks", "[I", true)
  | _ => ("ShoeHouse$Walk", "length", "I", false)
def tyX10 : Nat → FieldType := fun k => match k with
  | 0 => .object "ShoeHouse$Plan"
  | 1 => .object "ShoeHouse$Doors"
  | 2 => .array .int
  | 3 => .array .int
  | 4 => .array .int
  | 5 => .array .int
  | _ => .int
theorem nmX10 : ∀ a, a < 7 → ∀ b, b < 7 → a ≠ b → (TX10 a).2.1 ≠ (TX10 b).2.1 := by decide +kernel
theorem tyX10_ok : ∀ k, k < 7 → parseFieldDescriptor (TX10 k).2.2.1 = some (tyX10 k) := by decide +kernel
abbrev cX10_init : ByteArray := prog_12_method_1_code
def yX10_init : MethodName := ⟨RX10, "<init>", "(LShoeHouse$Plan;LShoeHouse$Doors;)V"⟩
abbrev cX10_keepBest : ByteArray := prog_12_method_2_code
def yX10_keepBest : MethodName := ⟨RX10, "keepBest", "(III)I"⟩
abbrev cX10_weigh : ByteArray := prog_12_method_3_code
def yX10_weigh : MethodName := ⟨RX10, "weigh", "(II)V"⟩
abbrev cX10_layRow : ByteArray := prog_12_method_4_code
def yX10_layRow : MethodName := ⟨RX10, "layRow", "(III)Z"⟩
abbrev cX10_worthOfRow : ByteArray := prog_12_method_5_code
def yX10_worthOfRow : MethodName := ⟨RX10, "worthOfRow", "(I)I"⟩
abbrev cX10_isLook : ByteArray := prog_12_method_6_code
def yX10_isLook : MethodName := ⟨RX10, "isLook", "(II)Z"⟩
abbrev cX10_worthAt : ByteArray := prog_12_method_7_code
def yX10_worthAt : MethodName := ⟨RX10, "worthAt", "(I)I"⟩
abbrev cX10_keepRow : ByteArray := prog_12_method_8_code
def yX10_keepRow : MethodName := ⟨RX10, "keepRow", "(I)V"⟩
def RX11 : String := "ShoeHouse"
def TX11 : u_T := fun k => match k with
  | 0 => ("ShoeHouse", "tape", "LShoeHouse$Tape;", true)
  | 1 => ("ShoeHouse", "plan", "LShoeHouse$Plan;", true)
  | 2 => ("ShoeHouse", "draft", "LShoeHouse$Plan;", true)
  | 3 => ("ShoeHouse", "reader", "LShoeHouse$Reader;", true)
  | 4 => ("ShoeHouse", "now", "LShoeHouse$Affairs;", true)
  | 5 => ("ShoeHouse", "kept", "LShoeHouse$Affairs;", true)
  | 6 => ("ShoeHouse", "doors", "LShoeHouse$Doors;", true)
  | 7 => ("ShoeHouse", "held", "LShoeHouse$Cases;", true)
  | 8 => ("ShoeHouse", "deceit", "LShoeHouse$Deceit;", true)
  | 9 => ("ShoeHouse", "walk", "LShoeHouse$Walk;", true)
  | 10 => ("ShoeHouse", "game", "LShoeHouse$Game;", true)
  | 11 => ("ShoeHouse", "lending", "LShoeHouse$Lending;", true)
  | 12 => ("ShoeHouse", "slippers", "LShoeHouse$Slippers;", true)
  | 13 => ("ShoeHouse", "refused", "[I", true)
  | 14 => ("ShoeHouse", "faultPlace", "I", false)
  | _ => ("ShoeHouse", "isKept", "Z", false)
def tyX11 : Nat → FieldType := fun k => match k with
  | 0 => .object "ShoeHouse$Tape"
  | 1 => .object "ShoeHouse$Plan"
  | 2 => .object "ShoeHouse$Plan"
  | 3 => .object "ShoeHouse$Reader"
  | 4 => .object "ShoeHouse$Affairs"
  | 5 => .object "ShoeHouse$Affairs"
  | 6 => .object "ShoeHouse$Doors"
  | 7 => .object "ShoeHouse$Cases"
  | 8 => .object "ShoeHouse$Deceit"
  | 9 => .object "ShoeHouse$Walk"
  | 10 => .object "ShoeHouse$Game"
  | 11 => .object "ShoeHouse$Lending"
  | 12 => .object "ShoeHouse$Slippers"
  | 13 => .array .int
  | 14 => .int
  | _ => .boolean
theorem nmX11 : ∀ a, a < 16 → ∀ b, b < 16 → a ≠ b → (TX11 a).2.1 ≠ (TX11 b).2.1 := by decide +kernel
theorem tyX11_ok : ∀ k, k < 16 → parseFieldDescriptor (TX11 k).2.2.1 = some (tyX11 k) := by decide +kernel
abbrev cX11_init : ByteArray := prog_1_method_1_code
def yX11_init : MethodName := ⟨RX11, "<init>", "()V"⟩
abbrev cX11_feed : ByteArray := prog_1_method_2_code
def yX11_feed : MethodName := ⟨RX11, "feed", "(IIIII)I"⟩
abbrev cX11_house : ByteArray := prog_1_method_3_code
def yX11_house : MethodName := ⟨RX11, "house", "(I)I"⟩
abbrev cX11_fault : ByteArray := prog_1_method_4_code
def yX11_fault : MethodName := ⟨RX11, "fault", "()I"⟩
abbrev cX11_count : ByteArray := prog_1_method_5_code
def yX11_count : MethodName := ⟨RX11, "count", "(I)I"⟩
abbrev cX11_room : ByteArray := prog_1_method_6_code
def yX11_room : MethodName := ⟨RX11, "room", "(II)I"⟩
abbrev cX11_lodger : ByteArray := prog_1_method_7_code
def yX11_lodger : MethodName := ⟨RX11, "lodger", "(II)I"⟩
abbrev cX11_may : ByteArray := prog_1_method_8_code
def yX11_may : MethodName := ⟨RX11, "may", "(III)I"⟩
abbrev cX11_says : ByteArray := prog_1_method_9_code
def yX11_says : MethodName := ⟨RX11, "says", "(II)I"⟩
abbrev cX11_lend : ByteArray := prog_1_method_10_code
def yX11_lend : MethodName := ⟨RX11, "lend", "(III)I"⟩
abbrev cX11_back : ByteArray := prog_1_method_11_code
def yX11_back : MethodName := ⟨RX11, "back", "()I"⟩
abbrev cX11_draw : ByteArray := prog_1_method_12_code
def yX11_draw : MethodName := ⟨RX11, "draw", "(I)V"⟩
abbrev cX11_does : ByteArray := prog_1_method_13_code
def yX11_does : MethodName := ⟨RX11, "does", "(II)I"⟩
abbrev cX11_sign : ByteArray := prog_1_method_14_code
def yX11_sign : MethodName := ⟨RX11, "sign", "(II)I"⟩
abbrev cX11_look : ByteArray := prog_1_method_15_code
def yX11_look : MethodName := ⟨RX11, "look", "(III)I"⟩
abbrev cX11_theft : ByteArray := prog_1_method_16_code
def yX11_theft : MethodName := ⟨RX11, "theft", "(II)I"⟩
abbrev cX11_see : ByteArray := prog_1_method_17_code
def yX11_see : MethodName := ⟨RX11, "see", "(III)I"⟩
abbrev cX11_forget : ByteArray := prog_1_method_18_code
def yX11_forget : MethodName := ⟨RX11, "forget", "()I"⟩
abbrev cX11_cases : ByteArray := prog_1_method_19_code
def yX11_cases : MethodName := ⟨RX11, "cases", "()I"⟩
abbrev cX11_inCase : ByteArray := prog_1_method_20_code
def yX11_inCase : MethodName := ⟨RX11, "inCase", "(II)I"⟩
abbrev cX11_sure : ByteArray := prog_1_method_21_code
def yX11_sure : MethodName := ⟨RX11, "sure", "(I)I"⟩
abbrev cX11_where : ByteArray := prog_1_method_22_code
def yX11_where : MethodName := ⟨RX11, "where", "(I)I"⟩
abbrev cX11_misled : ByteArray := prog_1_method_23_code
def yX11_misled : MethodName := ⟨RX11, "misled", "(III)I"⟩
abbrev cX11_chance : ByteArray := prog_1_method_24_code
def yX11_chance : MethodName := ⟨RX11, "chance", "(II)I"⟩
abbrev cX11_round : ByteArray := prog_1_method_25_code
def yX11_round : MethodName := ⟨RX11, "round", "(III)I"⟩
abbrev cX11_path : ByteArray := prog_1_method_26_code
def yX11_path : MethodName := ⟨RX11, "path", "(II)I"⟩
abbrev cX11_rests : ByteArray := prog_1_method_27_code
def yX11_rests : MethodName := ⟨RX11, "rests", "(III)I"⟩
abbrev cX11_fewest : ByteArray := prog_1_method_28_code
def yX11_fewest : MethodName := ⟨RX11, "fewest", "(II)I"⟩
abbrev cX11_lender : ByteArray := prog_1_method_29_code
def yX11_lender : MethodName := ⟨RX11, "lender", "(I)I"⟩
abbrev cX11_kinds : ByteArray := prog_1_method_30_code
def yX11_kinds : MethodName := ⟨RX11, "kinds", "(II)I"⟩
abbrev cX11_word : ByteArray := prog_1_method_31_code
def yX11_word : MethodName := ⟨RX11, "word", "(II)I"⟩
abbrev cX11_mend : ByteArray := prog_1_method_32_code
def yX11_mend : MethodName := ⟨RX11, "mend", "(III)I"⟩
abbrev cX11_fire : ByteArray := prog_1_method_33_code
def yX11_fire : MethodName := ⟨RX11, "fire", "(IIIII)J"⟩
abbrev cX11_image : ByteArray := prog_1_method_34_code
def yX11_image : MethodName := ⟨RX11, "image", "()V"⟩
abbrev cX11_restore : ByteArray := prog_1_method_35_code
def yX11_restore : MethodName := ⟨RX11, "restore", "()Z"⟩
abbrev cX11_needRoom : ByteArray := prog_1_method_36_code
def yX11_needRoom : MethodName := ⟨RX11, "needRoom", "(I)V"⟩
abbrev cX11_needLodger : ByteArray := prog_1_method_37_code
def yX11_needLodger : MethodName := ⟨RX11, "needLodger", "(I)V"⟩
abbrev cX11_needHour : ByteArray := prog_1_method_38_code
def yX11_needHour : MethodName := ⟨RX11, "needHour", "(I)V"⟩
abbrev cX11_needOneOf : ByteArray := prog_1_method_39_code
def yX11_needOneOf : MethodName := ⟨RX11, "needOneOf", "(II)V"⟩
abbrev cX11_needWordCount : ByteArray := prog_1_method_40_code
def yX11_needWordCount : MethodName := ⟨RX11, "needWordCount", "(I)V"⟩
abbrev cX11_needApart : ByteArray := prog_1_method_41_code
def yX11_needApart : MethodName := ⟨RX11, "needApart", "(I)V"⟩
abbrev cX11_hourOfTheft : ByteArray := prog_1_method_42_code
def yX11_hourOfTheft : MethodName := ⟨RX11, "hourOfTheft", "(I)I"⟩
abbrev cX11_finderAt : ByteArray := prog_1_method_43_code
def yX11_finderAt : MethodName := ⟨RX11, "finderAt", "(II)I"⟩
abbrev cX11_partOfEscape : ByteArray := prog_1_method_44_code
def yX11_partOfEscape : MethodName := ⟨RX11, "partOfEscape", "(III)I"⟩
abbrev cX11_commonPart : ByteArray := prog_1_method_45_code
def yX11_commonPart : MethodName := ⟨RX11, "commonPart", "(II)I"⟩
abbrev cX11_nthBit : ByteArray := prog_1_method_46_code
def yX11_nthBit : MethodName := ⟨RX11, "nthBit", "(II)I"⟩
def RX12 : String := "ShoeHouseModel"
def TX12 : u_T := fun k => match k with
  | 0 => ("ShoeHouseModel", "thrown", "I", false)
  | 1 => ("ShoeHouseModel", "rooms", "I", false)
  | 2 => ("ShoeHouseModel", "lodgers", "I", false)
  | 3 => ("ShoeHouseModel", "finders", "I", false)
  | 4 => ("ShoeHouseModel", "mays", "I", false)
  | 5 => ("ShoeHouseModel", "goods", "[I", true)
  | 6 => ("ShoeHouseModel", "whose", "[I", true)
  | 7 => ("ShoeHouseModel", "home", "[I", true)
  | 8 => ("ShoeHouseModel", "shoes", "[I", true)
  | 9 => ("ShoeHouseModel", "begins", "[I", true)
  | 10 => ("ShoeHouseModel", "law", "[I", true)
  | 11 => ("ShoeHouseModel", "may", "[I", true)
  | 12 => ("ShoeHouseModel", "tape", "[I", true)
  | 13 => ("ShoeHouseModel", "taped", "I", false)
  | 14 => ("ShoeHouseModel", "faultKind", "I", false)
  | 15 => ("ShoeHouseModel", "faultPlace", "I", false)
  | 16 => ("ShoeHouseModel", "refused", "[I", true)
  | 17 => ("ShoeHouseModel", "size", "I", false)
  | 18 => ("ShoeHouseModel", "next", "I", false)
  | 19 => ("ShoeHouseModel", "sort", "I", false)
  | 20 => ("ShoeHouseModel", "place", "I", false)
  | 21 => ("ShoeHouseModel", "long0", "I", false)
  | 22 => ("ShoeHouseModel", "value", "I", false)
  | 23 => ("ShoeHouseModel", "word", "J", false)
  | 24 => ("ShoeHouseModel", "newRooms", "I", false)
  | 25 => ("ShoeHouseModel", "newLodgers", "I", false)
  | 26 => ("ShoeHouseModel", "newFinders", "I", false)
  | 27 => ("ShoeHouseModel", "newMays", "I", false)
  | 28 => ("ShoeHouseModel", "toldLaw", "I", false)
  | 29 => ("ShoeHouseModel", "newGoods", "[I", true)
  | 30 => ("ShoeHouseModel", "newWhose", "[I", true)
  | 31 => ("ShoeHouseModel", "newHome", "[I", true)
  | 32 => ("ShoeHouseModel", "newShoes", "[I", true)
  | 33 => ("ShoeHouseModel", "newBegins", "[I", true)
  | 34 => ("ShoeHouseModel", "newLaw", "[I", true)
  | 35 => ("ShoeHouseModel", "newMay", "[I", true)
  | 36 => ("ShoeHouseModel", "lent", "I", false)
  | 37 => ("ShoeHouseModel", "lending", "[I", true)
  | 38 => ("ShoeHouseModel", "day", "[I", true)
  | 39 => ("ShoeHouseModel", "looks", "[I", true)
  | 40 => ("ShoeHouseModel", "seenHour", "I", false)
  | 41 => ("ShoeHouseModel", "seenRooms", "I", false)
  | 42 => ("ShoeHouseModel", "seen", "[I", true)
  | 43 => ("ShoeHouseModel", "act", "[I", true)
  | 44 => ("ShoeHouseModel", "caseOf", "[I", true)
  | 45 => ("ShoeHouseModel", "cases", "I", false)
  | 46 => ("ShoeHouseModel", "doors", "[I", true)
  | 47 => ("ShoeHouseModel", "real", "[I", true)
  | 48 => ("ShoeHouseModel", "gains", "[I", true)
  | 49 => ("ShoeHouseModel", "path", "[I", true)
  | 50 => ("ShoeHouseModel", "kept", "[I", true)
  | 51 => ("ShoeHouseModel", "keptLook", "[I", true)
  | 52 => ("ShoeHouseModel", "pathLong", "I", false)
  | 53 => ("ShoeHouseModel", "spot", "[I", true)
  | 54 => ("ShoeHouseModel", "firstSpot", "[I", true)
  | 55 => ("ShoeHouseModel", "worth", "[I", true)
  | 56 => ("ShoeHouseModel", "hasLending", "Z", false)
  | 57 => ("ShoeHouseModel", "gets", "[I", true)
  | 58 => ("ShoeHouseModel", "keptGets", "[I", true)
  | 59 => ("ShoeHouseModel", "from", "I", false)
  | 60 => ("ShoeHouseModel", "to", "I", false)
  | 61 => ("ShoeHouseModel", "words", "[I", true)
  | 62 => ("ShoeHouseModel", "many", "I", false)
  | 63 => ("ShoeHouseModel", "hasImage", "Z", false)
  | 64 => ("ShoeHouseModel", "imageOf", "[I", true)
  | 65 => ("ShoeHouseModel", "imageLending", "[I", true)
  | 66 => ("ShoeHouseModel", "imageSeen", "[I", true)
  | 67 => ("ShoeHouseModel", "imageDay", "[I", true)
  | _ => ("ShoeHouseModel", "imageLooks", "[I", true)
def tyX12 : Nat → FieldType := fun k => match k with
  | 0 => .int
  | 1 => .int
  | 2 => .int
  | 3 => .int
  | 4 => .int
  | 5 => .array .int
  | 6 => .array .int
  | 7 => .array .int
  | 8 => .array .int
  | 9 => .array .int
  | 10 => .array .int
  | 11 => .array .int
  | 12 => .array .int
  | 13 => .int
  | 14 => .int
  | 15 => .int
  | 16 => .array .int
  | 17 => .int
  | 18 => .int
  | 19 => .int
  | 20 => .int
  | 21 => .int
  | 22 => .int
  | 23 => .long
  | 24 => .int
  | 25 => .int
  | 26 => .int
  | 27 => .int
  | 28 => .int
  | 29 => .array .int
  | 30 => .array .int
  | 31 => .array .int
  | 32 => .array .int
  | 33 => .array .int
  | 34 => .array .int
  | 35 => .array .int
  | 36 => .int
  | 37 => .array .int
  | 38 => .array .int
  | 39 => .array .int
  | 40 => .int
  | 41 => .int
  | 42 => .array .int
  | 43 => .array .int
  | 44 => .array .int
  | 45 => .int
  | 46 => .array .int
  | 47 => .array .int
  | 48 => .array .int
  | 49 => .array .int
  | 50 => .array .int
  | 51 => .array .int
  | 52 => .int
  | 53 => .array .int
  | 54 => .array .int
  | 55 => .array .int
  | 56 => .boolean
  | 57 => .array .int
  | 58 => .array .int
  | 59 => .int
  | 60 => .int
  | 61 => .array .int
  | 62 => .int
  | 63 => .boolean
  | 64 => .array .int
  | 65 => .array .int
  | 66 => .array .int
  | 67 => .array .int
  | _ => .array .int
theorem nmX12 : ∀ a, a < 69 → ∀ b, b < 69 → a ≠ b → (TX12 a).2.1 ≠ (TX12 b).2.1 := by decide +kernel
theorem tyX12_ok : ∀ k, k < 69 → parseFieldDescriptor (TX12 k).2.2.1 = some (tyX12 k) := by decide +kernel
abbrev cX12_init : ByteArray := prog_14_method_1_code
def yX12_init : MethodName := ⟨RX12, "<init>", "()V"⟩
abbrev cX12_thrown : ByteArray := prog_14_method_2_code
def yX12_thrown : MethodName := ⟨RX12, "thrown", "()I"⟩
abbrev cX12_right : ByteArray := prog_14_method_3_code
def yX12_right : MethodName := ⟨RX12, "right", "(ZI)Z"⟩
abbrev cX12_within : ByteArray := prog_14_method_4_code
def yX12_within : MethodName := ⟨RX12, "within", "(III)Z"⟩
abbrev cX12_off : ByteArray := prog_14_method_5_code
def yX12_off : MethodName := ⟨RX12, "off", "(II)I"⟩
abbrev cX12_bits : ByteArray := prog_14_method_6_code
def yX12_bits : MethodName := ⟨RX12, "bits", "(I)I"⟩
abbrev cX12_copies : ByteArray := prog_14_method_7_code
def yX12_copies : MethodName := ⟨RX12, "copies", "([I[I)V"⟩
abbrev cX12_feed : ByteArray := prog_14_method_8_code
def yX12_feed : MethodName := ⟨RX12, "feed", "(IIIII)I"⟩
abbrev cX12_lays : ByteArray := prog_14_method_9_code
def yX12_lays : MethodName := ⟨RX12, "lays", "(I)V"⟩
abbrev cX12_byteAt : ByteArray := prog_14_method_10_code
def yX12_byteAt : MethodName := ⟨RX12, "byteAt", "(I)I"⟩
abbrev cX12_isLetter : ByteArray := prog_14_method_11_code
def yX12_isLetter : MethodName := ⟨RX12, "isLetter", "(I)Z"⟩
abbrev cX12_isDigit : ByteArray := prog_14_method_12_code
def yX12_isDigit : MethodName := ⟨RX12, "isDigit", "(I)Z"⟩
abbrev cX12_steps : ByteArray := prog_14_method_13_code
def yX12_steps : MethodName := ⟨RX12, "steps", "()V"⟩
abbrev cX12_spelled : ByteArray := prog_14_method_14_code
def yX12_spelled : MethodName := ⟨RX12, "spelled", "(IIIIII)J"⟩
abbrev cX12_letters : ByteArray := prog_14_method_15_code
def yX12_letters : MethodName := ⟨RX12, "letters", "(I)J"⟩
abbrev cX12_is : ByteArray := prog_14_method_16_code
def yX12_is : MethodName := ⟨RX12, "is", "(I)Z"⟩
abbrev cX12_wrong : ByteArray := prog_14_method_17_code
def yX12_wrong : MethodName := ⟨RX12, "wrong", "(I)V"⟩
abbrev cX12_isGood : ByteArray := prog_14_method_18_code
def yX12_isGood : MethodName := ⟨RX12, "isGood", "()Z"⟩
abbrev cX12_need : ByteArray := prog_14_method_19_code
def yX12_need : MethodName := ⟨RX12, "need", "(Z)V"⟩
abbrev cX12_number : ByteArray := prog_14_method_20_code
def yX12_number : MethodName := ⟨RX12, "number", "(II)I"⟩
abbrev cX12_amongHere : ByteArray := prog_14_method_21_code
def yX12_amongHere : MethodName := ⟨RX12, "amongHere", "(I)Z"⟩
abbrev cX12_among : ByteArray := prog_14_method_22_code
def yX12_among : MethodName := ⟨RX12, "among", "(I)I"⟩
abbrev cX12_oneOf : ByteArray := prog_14_method_23_code
def yX12_oneOf : MethodName := ⟨RX12, "oneOf", "(II)I"⟩
abbrev cX12_readsLodger : ByteArray := prog_14_method_24_code
def yX12_readsLodger : MethodName := ⟨RX12, "readsLodger", "()V"⟩
abbrev cX12_readsMay : ByteArray := prog_14_method_25_code
def yX12_readsMay : MethodName := ⟨RX12, "readsMay", "()V"⟩
abbrev cX12_line : ByteArray := prog_14_method_26_code
def yX12_line : MethodName := ⟨RX12, "line", "()V"⟩
abbrev cX12_house : ByteArray := prog_14_method_27_code
def yX12_house : MethodName := ⟨RX12, "house", "(I)I"⟩
abbrev cX12_fault : ByteArray := prog_14_method_28_code
def yX12_fault : MethodName := ⟨RX12, "fault", "()I"⟩
abbrev cX12_lowest : ByteArray := prog_14_method_29_code
def yX12_lowest : MethodName := ⟨RX12, "lowest", "(I)I"⟩
abbrev cX12_count : ByteArray := prog_14_method_30_code
def yX12_count : MethodName := ⟨RX12, "count", "(I)I"⟩
abbrev cX12_isRoom : ByteArray := prog_14_method_31_code
def yX12_isRoom : MethodName := ⟨RX12, "isRoom", "(I)Z"⟩
abbrev cX12_isLodger : ByteArray := prog_14_method_32_code
def yX12_isLodger : MethodName := ⟨RX12, "isLodger", "(I)Z"⟩
abbrev cX12_isFinder : ByteArray := prog_14_method_33_code
def yX12_isFinder : MethodName := ⟨RX12, "isFinder", "(I)Z"⟩
abbrev cX12_isHour : ByteArray := prog_14_method_34_code
def yX12_isHour : MethodName := ⟨RX12, "isHour", "(I)Z"⟩
abbrev cX12_isTwo : ByteArray := prog_14_method_35_code
def yX12_isTwo : MethodName := ⟨RX12, "isTwo", "(I)Z"⟩
abbrev cX12_room : ByteArray := prog_14_method_36_code
def yX12_room : MethodName := ⟨RX12, "room", "(II)I"⟩
abbrev cX12_has : ByteArray := prog_14_method_37_code
def yX12_has : MethodName := ⟨RX12, "has", "(II)I"⟩
abbrev cX12_both : ByteArray := prog_14_method_38_code
def yX12_both : MethodName := ⟨RX12, "both", "(I)I"⟩
abbrev cX12_lawOf : ByteArray := prog_14_method_39_code
def yX12_lawOf : MethodName := ⟨RX12, "lawOf", "(I)I"⟩
abbrev cX12_signOf : ByteArray := prog_14_method_40_code
def yX12_signOf : MethodName := ⟨RX12, "signOf", "(II)I"⟩
abbrev cX12_lodger : ByteArray := prog_14_method_41_code
def yX12_lodger : MethodName := ⟨RX12, "lodger", "(II)I"⟩
abbrev cX12_toldOf : ByteArray := prog_14_method_42_code
def yX12_toldOf : MethodName := ⟨RX12, "toldOf", "(I)I"⟩
abbrev cX12_may : ByteArray := prog_14_method_43_code
def yX12_may : MethodName := ⟨RX12, "may", "(III)I"⟩
abbrev cX12_says : ByteArray := prog_14_method_44_code
def yX12_says : MethodName := ⟨RX12, "says", "(II)I"⟩
abbrev cX12_refuses : ByteArray := prog_14_method_45_code
def yX12_refuses : MethodName := ⟨RX12, "refuses", "(I)I"⟩
abbrev cX12_lend : ByteArray := prog_14_method_46_code
def yX12_lend : MethodName := ⟨RX12, "lend", "(III)I"⟩
abbrev cX12_back : ByteArray := prog_14_method_47_code
def yX12_back : MethodName := ⟨RX12, "back", "()I"⟩
abbrev cX12_draw : ByteArray := prog_14_method_48_code
def yX12_draw : MethodName := ⟨RX12, "draw", "(I)V"⟩
abbrev cX12_does : ByteArray := prog_14_method_49_code
def yX12_does : MethodName := ⟨RX12, "does", "(II)I"⟩
abbrev cX12_signAt : ByteArray := prog_14_method_50_code
def yX12_signAt : MethodName := ⟨RX12, "signAt", "(II)I"⟩
abbrev cX12_sign : ByteArray := prog_14_method_51_code
def yX12_sign : MethodName := ⟨RX12, "sign", "(II)I"⟩
abbrev cX12_look : ByteArray := prog_14_method_52_code
def yX12_look : MethodName := ⟨RX12, "look", "(III)I"⟩
abbrev cX12_theft : ByteArray := prog_14_method_53_code
def yX12_theft : MethodName := ⟨RX12, "theft", "(II)I"⟩
abbrev cX12_see : ByteArray := prog_14_method_54_code
def yX12_see : MethodName := ⟨RX12, "see", "(III)I"⟩
abbrev cX12_forget : ByteArray := prog_14_method_55_code
def yX12_forget : MethodName := ⟨RX12, "forget", "()I"⟩
abbrev cX12_hour : ByteArray := prog_14_method_56_code
def yX12_hour : MethodName := ⟨RX12, "hour", "()I"⟩
abbrev cX12_behind : ByteArray := prog_14_method_57_code
def yX12_behind : MethodName := ⟨RX12, "behind", "(III)I"⟩
abbrev cX12_counts : ByteArray := prog_14_method_58_code
def yX12_counts : MethodName := ⟨RX12, "counts", "(I)Z"⟩
abbrev cX12_isSpent : ByteArray := prog_14_method_59_code
def yX12_isSpent : MethodName := ⟨RX12, "isSpent", "(I)Z"⟩
abbrev cX12_fits : ByteArray := prog_14_method_60_code
def yX12_fits : MethodName := ⟨RX12, "fits", "(I[I)Z"⟩
abbrev cX12_seeks : ByteArray := prog_14_method_61_code
def yX12_seeks : MethodName := ⟨RX12, "seeks", "(II[I)V"⟩
abbrev cX12_cases : ByteArray := prog_14_method_62_code
def yX12_cases : MethodName := ⟨RX12, "cases", "()I"⟩
abbrev cX12_inCase : ByteArray := prog_14_method_63_code
def yX12_inCase : MethodName := ⟨RX12, "inCase", "(II)I"⟩
abbrev cX12_roomOf : ByteArray := prog_14_method_64_code
def yX12_roomOf : MethodName := ⟨RX12, "roomOf", "(II)I"⟩
abbrev cX12_isSomebody : ByteArray := prog_14_method_65_code
def yX12_isSomebody : MethodName := ⟨RX12, "isSomebody", "(II)Z"⟩
abbrev cX12_with : ByteArray := prog_14_method_66_code
def yX12_with : MethodName := ⟨RX12, "with", "(I)I"⟩
abbrev cX12_sure : ByteArray := prog_14_method_67_code
def yX12_sure : MethodName := ⟨RX12, "sure", "(I)I"⟩
abbrev cX12_where : ByteArray := prog_14_method_68_code
def yX12_where : MethodName := ⟨RX12, "where", "(I)I"⟩
abbrev cX12_turnsDoors : ByteArray := prog_14_method_69_code
def yX12_turnsDoors : MethodName := ⟨RX12, "turnsDoors", "(I)Z"⟩
abbrev cX12_another : ByteArray := prog_14_method_70_code
def yX12_another : MethodName := ⟨RX12, "another", "(II)I"⟩
abbrev cX12_misleads : ByteArray := prog_14_method_71_code
def yX12_misleads : MethodName := ⟨RX12, "misleads", "(III)Z"⟩
abbrev cX12_misled : ByteArray := prog_14_method_72_code
def yX12_misled : MethodName := ⟨RX12, "misled", "(III)I"⟩
abbrev cX12_chanceOf : ByteArray := prog_14_method_73_code
def yX12_chanceOf : MethodName := ⟨RX12, "chanceOf", "(II)I"⟩
abbrev cX12_chance : ByteArray := prog_14_method_74_code
def yX12_chance : MethodName := ⟨RX12, "chance", "(II)I"⟩
abbrev cX12_bestOf : ByteArray := prog_14_method_75_code
def yX12_bestOf : MethodName := ⟨RX12, "bestOf", "(II)I"⟩
abbrev cX12_all : ByteArray := prog_14_method_76_code
def yX12_all : MethodName := ⟨RX12, "all", "(I)I"⟩
abbrev cX12_turnsPath : ByteArray := prog_14_method_77_code
def yX12_turnsPath : MethodName := ⟨RX12, "turnsPath", "(I)Z"⟩
abbrev cX12_round : ByteArray := prog_14_method_78_code
def yX12_round : MethodName := ⟨RX12, "round", "(III)I"⟩
abbrev cX12_path : ByteArray := prog_14_method_79_code
def yX12_path : MethodName := ⟨RX12, "path", "(II)I"⟩
abbrev cX12_there : ByteArray := prog_14_method_80_code
def yX12_there : MethodName := ⟨RX12, "there", "(II)I"⟩
abbrev cX12_isRest : ByteArray := prog_14_method_81_code
def yX12_isRest : MethodName := ⟨RX12, "isRest", "(I)Z"⟩
abbrev cX12_rests : ByteArray := prog_14_method_82_code
def yX12_rests : MethodName := ⟨RX12, "rests", "(III)I"⟩
abbrev cX12_isNeedy : ByteArray := prog_14_method_83_code
def yX12_isNeedy : MethodName := ⟨RX12, "isNeedy", "(II)Z"⟩
abbrev cX12_isFree : ByteArray := prog_14_method_84_code
def yX12_isFree : MethodName := ⟨RX12, "isFree", "(II)Z"⟩
abbrev cX12_given : ByteArray := prog_14_method_85_code
def yX12_given : MethodName := ⟨RX12, "given", "(II)I"⟩
abbrev cX12_lendable : ByteArray := prog_14_method_86_code
def yX12_lendable : MethodName := ⟨RX12, "lendable", "(II)I"⟩
abbrev cX12_fewest : ByteArray := prog_14_method_87_code
def yX12_fewest : MethodName := ⟨RX12, "fewest", "(II)I"⟩
abbrev cX12_lender : ByteArray := prog_14_method_88_code
def yX12_lender : MethodName := ⟨RX12, "lender", "(I)I"⟩
abbrev cX12_apart : ByteArray := prog_14_method_89_code
def yX12_apart : MethodName := ⟨RX12, "apart", "(II)I"⟩
abbrev cX12_spells : ByteArray := prog_14_method_90_code
def yX12_spells : MethodName := ⟨RX12, "spells", "(I)V"⟩
abbrev cX12_isCode : ByteArray := prog_14_method_91_code
def yX12_isCode : MethodName := ⟨RX12, "isCode", "(II)Z"⟩
abbrev cX12_kinds : ByteArray := prog_14_method_92_code
def yX12_kinds : MethodName := ⟨RX12, "kinds", "(II)I"⟩
abbrev cX12_word : ByteArray := prog_14_method_93_code
def yX12_word : MethodName := ⟨RX12, "word", "(II)I"⟩
abbrev cX12_mend : ByteArray := prog_14_method_94_code
def yX12_mend : MethodName := ⟨RX12, "mend", "(III)I"⟩
abbrev cX12_fire : ByteArray := prog_14_method_95_code
def yX12_fire : MethodName := ⟨RX12, "fire", "(IIIII)J"⟩
abbrev cX12_image : ByteArray := prog_14_method_96_code
def yX12_image : MethodName := ⟨RX12, "image", "()V"⟩
abbrev cX12_restore : ByteArray := prog_14_method_97_code
def yX12_restore : MethodName := ⟨RX12, "restore", "()Z"⟩
def RJx145de : String := "java/io/Serializable"
def RJx9f9b0 : String := "java/lang/CharSequence"
def RJxb160c : String := "java/lang/Comparable"
def RJ6 : String := "java/lang/Integer"
abbrev cJ6_bitCount_0f7a4 : ByteArray := prog_20_method_49_code
def yJ6_bitCount_0f7a4 : MethodName := ⟨RJ6, "bitCount", "(I)I"⟩
def RJ9 : String := "java/lang/Math"
abbrev cJ9_abs_0f7a4 : ByteArray := prog_21_method_59_code
def yJ9_abs_0f7a4 : MethodName := ⟨RJ9, "abs", "(I)I"⟩
abbrev cJ9_max_7cf53 : ByteArray := prog_21_method_65_code
def yJ9_max_7cf53 : MethodName := ⟨RJ9, "max", "(II)I"⟩
abbrev cJ9_min_7cf53 : ByteArray := prog_21_method_69_code
def yJ9_min_7cf53 : MethodName := ⟨RJ9, "min", "(II)I"⟩
def RJ0 : String := "java/lang/String"
abbrev cJ0_length_8abf5 : ByteArray := prog_23_method_54_code
def yJ0_length_8abf5 : MethodName := ⟨RJ0, "length", "()I"⟩
abbrev cJ0_charAt_5068e : ByteArray := prog_23_method_56_code
def yJ0_charAt_5068e : MethodName := ⟨RJ0, "charAt", "(I)C"⟩
abbrev cJ0_coder_7d493 : ByteArray := prog_23_method_152_code
def yJ0_coder_7d493 : MethodName := ⟨RJ0, "coder", "()B"⟩
abbrev cJ0_isLatin1_aae02 : ByteArray := prog_23_method_154_code
def yJ0_isLatin1_aae02 : MethodName := ⟨RJ0, "isLatin1", "()Z"⟩
abbrev cJ0_checkIndex_df160 : ByteArray := prog_23_method_155_code
def yJ0_checkIndex_df160 : MethodName := ⟨RJ0, "checkIndex", "(II)V"⟩
def RJ1 : String := "java/lang/StringLatin1"
abbrev cJ1_charAt_3b067 : ByteArray := prog_24_method_2_code
def yJ1_charAt_3b067 : MethodName := ⟨RJ1, "charAt", "([BI)C"⟩
def RJ2 : String := "java/lang/StringUTF16"
abbrev cJ2_getChar_3b067 : ByteArray := prog_25_method_5_code
def yJ2_getChar_3b067 : MethodName := ⟨RJ2, "getChar", "([BI)C"⟩
abbrev cJ2_length_9d52b : ByteArray := prog_25_method_6_code
def yJ2_length_9d52b : MethodName := ⟨RJ2, "length", "([B)I"⟩
abbrev cJ2_charAt_3b067 : ByteArray := prog_25_method_83_code
def yJ2_charAt_3b067 : MethodName := ⟨RJ2, "charAt", "([BI)C"⟩
abbrev cJ2_checkIndex_2214a : ByteArray := prog_25_method_91_code
def yJ2_checkIndex_2214a : MethodName := ⟨RJ2, "checkIndex", "(I[B)V"⟩
def RJ10 : String := "java/lang/System"
def RJxfd54e : String := "java/lang/constant/Constable"
def RJx3cf43 : String := "java/lang/constant/ConstantDesc"
def RJ7 : String := "java/util/Arrays"
abbrev cJ7_fill_53178 : ByteArray := prog_30_method_103_code
def yJ7_fill_53178 : MethodName := ⟨RJ7, "fill", "([II)V"⟩
def RJ3 : String := "jdk/internal/util/Preconditions"
abbrev cJ3_checkIndex_8e157 : ByteArray := prog_32_method_11_code
def yJ3_checkIndex_8e157 : MethodName := ⟨RJ3, "checkIndex", "(IILjava/util/function/BiFunction;)I"⟩
def RL : String := "ShoeHouseLaw"
abbrev cL_house : ByteArray := method_3_code
def yL_house : MethodName := ⟨RL, "house", "(LShoeHouse;I[J)I"⟩
abbrev cL_count : ByteArray := method_4_code
def yL_count : MethodName := ⟨RL, "count", "(LShoeHouse;I[J)I"⟩
abbrev cL_room : ByteArray := method_5_code
def yL_room : MethodName := ⟨RL, "room", "(LShoeHouse;II[J)I"⟩
abbrev cL_lodger : ByteArray := method_6_code
def yL_lodger : MethodName := ⟨RL, "lodger", "(LShoeHouse;II[J)I"⟩
abbrev cL_may : ByteArray := method_7_code
def yL_may : MethodName := ⟨RL, "may", "(LShoeHouse;III[J)I"⟩
abbrev cL_says : ByteArray := method_8_code
def yL_says : MethodName := ⟨RL, "says", "(LShoeHouse;II[J)I"⟩
abbrev cL_lend : ByteArray := method_9_code
def yL_lend : MethodName := ⟨RL, "lend", "(LShoeHouse;III[J)I"⟩
abbrev cL_does : ByteArray := method_10_code
def yL_does : MethodName := ⟨RL, "does", "(LShoeHouse;II[J)I"⟩
abbrev cL_sign : ByteArray := method_11_code
def yL_sign : MethodName := ⟨RL, "sign", "(LShoeHouse;II[J)I"⟩
abbrev cL_look : ByteArray := method_12_code
def yL_look : MethodName := ⟨RL, "look", "(LShoeHouse;III[J)I"⟩
abbrev cL_theft : ByteArray := method_13_code
def yL_theft : MethodName := ⟨RL, "theft", "(LShoeHouse;II[J)I"⟩
abbrev cL_see : ByteArray := method_14_code
def yL_see : MethodName := ⟨RL, "see", "(LShoeHouse;III[J)I"⟩
abbrev cL_inCase : ByteArray := method_15_code
def yL_inCase : MethodName := ⟨RL, "inCase", "(LShoeHouse;II[J)I"⟩
abbrev cL_sure : ByteArray := method_16_code
def yL_sure : MethodName := ⟨RL, "sure", "(LShoeHouse;I[J)I"⟩
abbrev cL_where : ByteArray := method_17_code
def yL_where : MethodName := ⟨RL, "where", "(LShoeHouse;I[J)I"⟩
abbrev cL_misled : ByteArray := method_18_code
def yL_misled : MethodName := ⟨RL, "misled", "(LShoeHouse;III[J)I"⟩
abbrev cL_chance : ByteArray := method_19_code
def yL_chance : MethodName := ⟨RL, "chance", "(LShoeHouse;II[J)I"⟩
abbrev cL_round : ByteArray := method_20_code
def yL_round : MethodName := ⟨RL, "round", "(LShoeHouse;III[J)I"⟩
abbrev cL_path : ByteArray := method_21_code
def yL_path : MethodName := ⟨RL, "path", "(LShoeHouse;II[J)I"⟩
abbrev cL_rests : ByteArray := method_22_code
def yL_rests : MethodName := ⟨RL, "rests", "(LShoeHouse;III[J)I"⟩
abbrev cL_fewest : ByteArray := method_23_code
def yL_fewest : MethodName := ⟨RL, "fewest", "(LShoeHouse;II[J)I"⟩
abbrev cL_lender : ByteArray := method_24_code
def yL_lender : MethodName := ⟨RL, "lender", "(LShoeHouse;I[J)I"⟩
abbrev cL_kinds : ByteArray := method_25_code
def yL_kinds : MethodName := ⟨RL, "kinds", "(LShoeHouse;II[J)I"⟩
abbrev cL_word : ByteArray := method_26_code
def yL_word : MethodName := ⟨RL, "word", "(LShoeHouse;II[J)I"⟩
abbrev cL_mend : ByteArray := method_27_code
def yL_mend : MethodName := ⟨RL, "mend", "(LShoeHouse;III[J)I"⟩
abbrev cL_fire : ByteArray := method_28_code
def yL_fire : MethodName := ⟨RL, "fire", "(LShoeHouse;IIIII[J)I"⟩
abbrev cL_law : ByteArray := code
def yL_law : MethodName := ⟨RL, "law", "([I)Z"⟩
def zcl : List vw_C := [(RX0, TX0, 10), (RX1, TX1, 5), (RX2, TX2, 5), (RX3, TX3, 2), (RX4, TX4, 6), (RX5, TX5, 10), (RX6, TX6, 12), (RX7, TX7, 9), (RX8, TX8, 3), (RX9, TX9, 2), (RX10, TX10, 7), (RX11, TX11, 16), (RX12, TX12, 69)]
def tyT (ci : Nat) : Nat → FieldType := match ci with
  | 0 => tyX0
  | 1 => tyX1
  | 2 => tyX2
  | 3 => tyX3
  | 4 => tyX4
  | 5 => tyX5
  | 6 => tyX6
  | 7 => tyX7
  | 8 => tyX8
  | 9 => tyX9
  | 10 => tyX10
  | 11 => tyX11
  | _ => tyX12
theorem z_tab {w : Cond} (h : w ∈ tables_1) : w ∈ lw_tbl := List.mem_append_right _ h
abbrev zws : List Cond := lw_tbl.filter goodWord
theorem z_in {w : Cond} (h : w ∈ lw_tbl) (g : goodWord w = true) : w ∈ zws := List.mem_filter.mpr ⟨h, g⟩
theorem z_at {w : Cond} (i : Nat) (h : tables_1[i]? = some w) (g : goodWord w = true) : w ∈ zws := z_in (z_tab (List.mem_of_getElem? h)) g
theorem z_good : ∀ w ∈ zws, (w.onTables && w.keeps) = true ∨ ∃ ty, w = .arrayClass ty := fun w h => good_of_word (List.mem_filter.mp h).2
set_option maxRecDepth 100000 in
theorem z_lays0 : ∀ w ∈ u_ws RX0 TX0 10, w ∈ zws := by
  have h : (u_ws RX0 TX0 10) = [187, 189, 191, 193, 195, 197, 199, 201, 203, 205].filterMap (fun i => tables_1[i]?) := by decide +kernel
  have g : (u_ws RX0 TX0 10).all goodWord = true := by decide +kernel
  intro w hw
  have g1 := List.all_eq_true.mp g w hw
  rw [h] at hw
  obtain ⟨i, -, hi⟩ := List.mem_filterMap.mp hw
  exact z_at i hi g1
set_option maxRecDepth 100000 in
theorem z_lays1 : ∀ w ∈ u_ws RX1 TX1 5, w ∈ zws := by
  have h : (u_ws RX1 TX1 5) = [232, 234, 236, 238, 240].filterMap (fun i => tables_1[i]?) := by decide +kernel
  have g : (u_ws RX1 TX1 5).all goodWord = true := by decide +kernel
  intro w hw
  have g1 := List.all_eq_true.mp g w hw
  rw [h] at hw
  obtain ⟨i, -, hi⟩ := List.mem_filterMap.mp hw
  exact z_at i hi g1
set_option maxRecDepth 100000 in
theorem z_lays2 : ∀ w ∈ u_ws RX2 TX2 5, w ∈ zws := by
  have h : (u_ws RX2 TX2 5) = [254, 256, 258, 260, 262].filterMap (fun i => tables_1[i]?) := by decide +kernel
  have g : (u_ws RX2 TX2 5).all goodWord = true := by decide +kernel
  intro w hw
  have g1 := List.all_eq_true.mp g w hw
  rw [h] at hw
  obtain ⟨i, -, hi⟩ := List.mem_filterMap.mp hw
  exact z_at i hi g1
set_option maxRecDepth 100000 in
theorem z_lays3 : ∀ w ∈ u_ws RX3 TX3 2, w ∈ zws := by
  have h : (u_ws RX3 TX3 2) = [216, 218].filterMap (fun i => tables_1[i]?) := by decide +kernel
  have g : (u_ws RX3 TX3 2).all goodWord = true := by decide +kernel
  intro w hw
  have g1 := List.all_eq_true.mp g w hw
  rw [h] at hw
  obtain ⟨i, -, hi⟩ := List.mem_filterMap.mp hw
  exact z_at i hi g1
set_option maxRecDepth 100000 in
theorem z_lays4 : ∀ w ∈ u_ws RX4 TX4 6, w ∈ zws := by
  have h : (u_ws RX4 TX4 6) = [309, 311, 313, 315, 317, 319].filterMap (fun i => tables_1[i]?) := by decide +kernel
  have g : (u_ws RX4 TX4 6).all goodWord = true := by decide +kernel
  intro w hw
  have g1 := List.all_eq_true.mp g w hw
  rw [h] at hw
  obtain ⟨i, -, hi⟩ := List.mem_filterMap.mp hw
  exact z_at i hi g1
set_option maxRecDepth 100000 in
theorem z_lays5 : ∀ w ∈ u_ws RX5 TX5 10, w ∈ zws := by
  have h : (u_ws RX5 TX5 10) = [340, 342, 344, 346, 348, 350, 352, 354, 356, 358].filterMap (fun i => tables_1[i]?) := by decide +kernel
  have g : (u_ws RX5 TX5 10).all goodWord = true := by decide +kernel
  intro w hw
  have g1 := List.all_eq_true.mp g w hw
  rw [h] at hw
  obtain ⟨i, -, hi⟩ := List.mem_filterMap.mp hw
  exact z_at i hi g1
set_option maxRecDepth 100000 in
theorem z_lays6 : ∀ w ∈ u_ws RX6 TX6 12, w ∈ zws := by
  have h : (u_ws RX6 TX6 12) = [103, 105, 107, 109, 111, 113, 115, 117, 119, 121, 123, 125].filterMap (fun i => tables_1[i]?) := by decide +kernel
  have g : (u_ws RX6 TX6 12).all goodWord = true := by decide +kernel
  intro w hw
  have g1 := List.all_eq_true.mp g w hw
  rw [h] at hw
  obtain ⟨i, -, hi⟩ := List.mem_filterMap.mp hw
  exact z_at i hi g1
set_option maxRecDepth 100000 in
theorem z_lays7 : ∀ w ∈ u_ws RX7 TX7 9, w ∈ zws := by
  have h : (u_ws RX7 TX7 9) = [145, 147, 149, 151, 153, 155, 157, 159, 161].filterMap (fun i => tables_1[i]?) := by decide +kernel
  have g : (u_ws RX7 TX7 9).all goodWord = true := by decide +kernel
  intro w hw
  have g1 := List.all_eq_true.mp g w hw
  rw [h] at hw
  obtain ⟨i, -, hi⟩ := List.mem_filterMap.mp hw
  exact z_at i hi g1
set_option maxRecDepth 100000 in
theorem z_lays8 : ∀ w ∈ u_ws RX8 TX8 3, w ∈ zws := by
  have h : (u_ws RX8 TX8 3) = [372, 374, 376].filterMap (fun i => tables_1[i]?) := by decide +kernel
  have g : (u_ws RX8 TX8 3).all goodWord = true := by decide +kernel
  intro w hw
  have g1 := List.all_eq_true.mp g w hw
  rw [h] at hw
  obtain ⟨i, -, hi⟩ := List.mem_filterMap.mp hw
  exact z_at i hi g1
set_option maxRecDepth 100000 in
theorem z_lays9 : ∀ w ∈ u_ws RX9 TX9 2, w ∈ zws := by
  have h : (u_ws RX9 TX9 2) = [45, 47].filterMap (fun i => tables_1[i]?) := by decide +kernel
  have g : (u_ws RX9 TX9 2).all goodWord = true := by decide +kernel
  intro w hw
  have g1 := List.all_eq_true.mp g w hw
  rw [h] at hw
  obtain ⟨i, -, hi⟩ := List.mem_filterMap.mp hw
  exact z_at i hi g1
set_option maxRecDepth 100000 in
theorem z_lays10 : ∀ w ∈ u_ws RX10 TX10 7, w ∈ zws := by
  have h : (u_ws RX10 TX10 7) = [281, 283, 285, 287, 289, 291, 293].filterMap (fun i => tables_1[i]?) := by decide +kernel
  have g : (u_ws RX10 TX10 7).all goodWord = true := by decide +kernel
  intro w hw
  have g1 := List.all_eq_true.mp g w hw
  rw [h] at hw
  obtain ⟨i, -, hi⟩ := List.mem_filterMap.mp hw
  exact z_at i hi g1
set_option maxRecDepth 100000 in
theorem z_lays11 : ∀ w ∈ u_ws RX11 TX11 16, w ∈ zws := by
  have h : (u_ws RX11 TX11 16) = [395, 397, 399, 401, 403, 405, 407, 409, 411, 413, 415, 417, 419, 421, 423, 425].filterMap (fun i => tables_1[i]?) := by decide +kernel
  have g : (u_ws RX11 TX11 16).all goodWord = true := by decide +kernel
  intro w hw
  have g1 := List.all_eq_true.mp g w hw
  rw [h] at hw
  obtain ⟨i, -, hi⟩ := List.mem_filterMap.mp hw
  exact z_at i hi g1
set_option maxRecDepth 100000 in
theorem z_lays12 : ∀ w ∈ u_ws RX12 TX12 69, w ∈ zws := by
  have h : (u_ws RX12 TX12 69) = [1316, 1318, 1320, 1322, 1324, 1326, 1328, 1330, 1332, 1334, 1336, 1338, 1340, 1342, 1344, 1346, 1348, 1350, 1352, 1354, 1356, 1358, 1360, 1362, 1364, 1366, 1368, 1370, 1372, 1374, 1376, 1378, 1380, 1382, 1384, 1386, 1388, 1390, 1392, 1394, 1396, 1398, 1400, 1402, 1404, 1406, 1408, 1410, 1412, 1414, 1416, 1418, 1420, 1422, 1424, 1426, 1428, 1430, 1432, 1434, 1436, 1438, 1440, 1442, 1444, 1446, 1448, 1450, 1452].filterMap (fun i => tables_1[i]?) := by decide +kernel
  have g : (u_ws RX12 TX12 69).all goodWord = true := by decide +kernel
  intro w hw
  have g1 := List.all_eq_true.mp g w hw
  rw [h] at hw
  obtain ⟨i, -, hi⟩ := List.mem_filterMap.mp hw
  exact z_at i hi g1
theorem z_lays : ∀ (ci : Nat) (q : vw_C), zcl[ci]? = some q → ∀ w ∈ u_ws q.1 q.2.1 q.2.2, w ∈ zws
  | 0, _, h => by cases h; exact z_lays0
  | 1, _, h => by cases h; exact z_lays1
  | 2, _, h => by cases h; exact z_lays2
  | 3, _, h => by cases h; exact z_lays3
  | 4, _, h => by cases h; exact z_lays4
  | 5, _, h => by cases h; exact z_lays5
  | 6, _, h => by cases h; exact z_lays6
  | 7, _, h => by cases h; exact z_lays7
  | 8, _, h => by cases h; exact z_lays8
  | 9, _, h => by cases h; exact z_lays9
  | 10, _, h => by cases h; exact z_lays10
  | 11, _, h => by cases h; exact z_lays11
  | 12, _, h => by cases h; exact z_lays12
  | _ + 13, _, h => by cases h
theorem z_ty : ∀ (ci : Nat) (q : vw_C), zcl[ci]? = some q → ∀ k, k < q.2.2 → parseFieldDescriptor (q.2.1 k).2.2.1 = some (tyT ci k)
  | 0, _, h => by cases h; exact tyX0_ok
  | 1, _, h => by cases h; exact tyX1_ok
  | 2, _, h => by cases h; exact tyX2_ok
  | 3, _, h => by cases h; exact tyX3_ok
  | 4, _, h => by cases h; exact tyX4_ok
  | 5, _, h => by cases h; exact tyX5_ok
  | 6, _, h => by cases h; exact tyX6_ok
  | 7, _, h => by cases h; exact tyX7_ok
  | 8, _, h => by cases h; exact tyX8_ok
  | 9, _, h => by cases h; exact tyX9_ok
  | 10, _, h => by cases h; exact tyX10_ok
  | 11, _, h => by cases h; exact tyX11_ok
  | 12, _, h => by cases h; exact tyX12_ok
  | _ + 13, _, h => by cases h
theorem z_nm : ∀ (ci : Nat) (q : vw_C), zcl[ci]? = some q → ∀ a, a < q.2.2 → ∀ b, b < q.2.2 → a ≠ b → (q.2.1 a).2.1 ≠ (q.2.1 b).2.1
  | 0, _, h => by cases h; exact nmX0
  | 1, _, h => by cases h; exact nmX1
  | 2, _, h => by cases h; exact nmX2
  | 3, _, h => by cases h; exact nmX3
  | 4, _, h => by cases h; exact nmX4
  | 5, _, h => by cases h; exact nmX5
  | 6, _, h => by cases h; exact nmX6
  | 7, _, h => by cases h; exact nmX7
  | 8, _, h => by cases h; exact nmX8
  | 9, _, h => by cases h; exact nmX9
  | 10, _, h => by cases h; exact nmX10
  | 11, _, h => by cases h; exact nmX11
  | 12, _, h => by cases h; exact nmX12
  | _ + 13, _, h => by cases h
end
section
/-! THE WORLD: a memory of numbers. Cells are counted in the order of their making, from the law's first 'new' on; cell c lies at the address B + c; B: the heap's size at the law's entry. -/
/-- ghosts: class numbers and slots; array classes (int, byte, long); B; addresses of what lay there before (texts); the heap at the law's entry -/
abbrev zG : Type := va_G × (ClassId × ClassId × ClassId) × Nat × (Nat → Nat) × Heap
/-- how many cells; their kinds (0, class) (1, length: int[]) (2, length: byte[]) (3, length: long[]) (9, _: nothing is said); references (0: null, q + 1: cell q); ints; longs -/
abbrev zM : Type := Nat × (Nat → Nat × Nat) × (Nat → Nat → Nat) × (Nat → Nat → Int32) × (Nat → Nat → Int64)
def zad (g : zG) (k : Nat) : Nat := if k < 100000 then g.2.2.1 + k else g.2.2.2.1 (k - 100000)
def zc (g : zG) : Value → Value
  | .ref k => .ref (zad g k)
  | v => v
theorem zc_cat (g : zG) (v : Value) : (zc g v).category = v.category := by cases v <;> rfl
def zr : Nat → Value
  | 0 => .null
  | k + 1 => .ref k
/-- what the field k of the cell c, of the class ci, holds -/
def zfv (M : zM) (ci c k : Nat) : Value := match tyT ci k with
  | .long => .long (M.2.2.2.2 c k)
  | .object _ => zr (M.2.2.1 c k)
  | .array _ => zr (M.2.2.1 c k)
  | _ => .int (M.2.2.2.1 c k)
def zcell (g : zG) (M : zM) (H : Heap) (c : Nat) : Prop := match M.2.1 c with
  | (0, ci) => ∃ q : vw_C, zcl[ci]? = some q ∧ t_OB (g.2.2.1 + c) (g.1.1 ci) q.2.2 (g.1.2 ci) H (fun k => zc g (zfv M ci c k))
  | (1, n) => H[g.2.2.1 + c]? = some (arrV g.2.1.1 n (fun j => .int (M.2.2.2.1 c j)))
  | (2, n) => H[g.2.2.1 + c]? = some (arrV g.2.1.2.1 n (fun j => .int (M.2.2.2.1 c j)))
  | (3, n) => H[g.2.2.1 + c]? = some (arrV g.2.1.2.2 n (fun j => .long (M.2.2.2.2 c j)))
  | _ => True
/-- the heap holds the memory -/
def zH (g : zG) (M : zM) (H : Heap) : Prop := H.size = g.2.2.1 + M.1 ∧ (∀ q : Nat, q < g.2.2.1 → H[q]? = g.2.2.2.2[q]?) ∧ ∀ c : Nat, (M.2.1 c).1 ≠ 9 → c < M.1 ∧ M.1 < 100000 ∧ zcell g M H c
def zNest : List Cond := [.methodLinkNest RX11 11 yX9_init RX11, .methodLinkNest RX11 41 yX0_init RX11, .methodLinkNest RX11 99 yX8_init RX11, .methodLinkNest RX0 55 yX11_nthBit RX11, .methodLinkNest RX1 81 yX11_nthBit RX11]
def zCast : List (String × String) := [("java/lang/IllegalArgumentException", "java/lang/IllegalArgumentException"), ("java/util/NoSuchElementException", "java/util/NoSuchElementException")]
/-- what the tables and the outer heap say -/
def zW (l : Launch) (g : zG) (U : State) : Prop :=
  va_K g.1 zcl [(g.2.1.1, .int), (g.2.1.2.1, .byte), (g.2.1.2.2, .long)] U ∧ g.2.2.2.2.size = g.2.2.1 ∧ l.stackTraces = false ∧
  vx_Zq Bundle.tN "UNASSIGNED_STACK" Bundle.steD (fun q => g.2.2.1 ≤ q) U g.2.2.2.2 ∧ vx_Zq Bundle.tN "SUPPRESSED_SENTINEL" Bundle.listD (fun q => g.2.2.1 ≤ q) U g.2.2.2.2 ∧
  va_Z "java/lang/String" "COMPACT_STRINGS" "Z" (.int 1) (fun q => g.2.2.1 ≤ q) U g.2.2.2.2 ∧
  (∀ w ∈ zNest, va_Nw w U) ∧ (∀ q ∈ zCast, va_Nw (.castable q.1 q.2) U) ∧ va_Nc "java/lang/IllegalArgumentException" "java/util/NoSuchElementException" U
theorem zW.warm {l : Launch} {g : zG} {s U : State} (hW : s.WarmedH U.vm) (h : zW l g s) : zW l g U := by
  obtain ⟨h1, h2, h3, h4, h5, h6, h7, h8, h9⟩ := h
  refine ⟨va_K.moved hW.alike h1, h2, h3, vx_Zq.moved hW.alike h4, vx_Zq.moved hW.alike h5, va_Z.moved hW.alike h6, ?_, ?_, va_Nc.moved hW.alike h9⟩
  · intro w hw
    have h := h7 w hw
    simp only [zNest, List.mem_cons, List.not_mem_nil, or_false] at hw
    rcases hw with rfl | rfl | rfl | rfl | rfl <;> exact va_Nw.warmM hW h
  · intro q hq
    exact va_Nw.warmC hW (h8 q hq)
/-- how a method ends: by a value, or by an exception of a class -/
abbrev zR : Type := Option Value ⊕ String
def zQr (g : zG) (Q : zR → zM → Prop) : Array Value → State → Outcome → State → Prop := fun _ _ o t => ∃ (v : Option Value) (M : zM), o = .returned (v.map (zc g)) ∧ Q (.inl v) M ∧ zH g M t.heap
def zQx (g : zG) (Q : zR → zM → Prop) : String → State → State → Prop := fun E _ t => ∃ M : zM, Q (.inr E) M ∧ zH g M t.heap
def zrm (d mc ms : Nat) : Room := { frames := d, cells := mc, slots := ms, locals := 37 * d }
/-- A METHOD's CONTRACT: called with a in the memory M, with d frames, mc cells, ms slots to spare, it ends by Q -/
def zRet (l : Launch) (d mc ms : Nat) (y : MethodName) (cd : Cond) (a : List Value) (M : zM) (Q : zR → zM → Prop) : Prop :=
  ∀ g : zG, vx_Met l y (cd :: zws) (zrm d mc ms) (va_Pc (a.map (zc g)) (fun U => zW l g U ∧ zH g M U.heap)) (zQr g Q) (zQx g Q) mc ms (fun q => g.2.2.1 ≤ q)
/-- the classes that speak, by number: 0 to 12 as in zcl, the law, and two of the JDK's -/
def zown (o : Nat) : String := match o with
  | 0 => RX0
  | 1 => RX1
  | 2 => RX2
  | 3 => RX3
  | 4 => RX4
  | 5 => RX5
  | 6 => RX6
  | 7 => RX7
  | 8 => RX8
  | 9 => RX9
  | 10 => RX10
  | 11 => RX11
  | 12 => RX12
  | 13 => RL
  | 14 => RJ6
  | _ => RJ7
/-- a method's own facts: its class, its code, its answer's type, its locals, its handlers, whether it is a constructor -/
abbrev zF : Type := Nat × ByteArray × Option FieldType × Nat × List (Nat × Nat × Nat × Nat) × Bool
def zCx (l : Launch) (g : zG) (f : zF) (p : Program) (s : State) (m : MethodId) (args : Array Value) (meth : Method) (c : Code) : Prop :=
  p.tables.exec = Jvm.exec ∧ c.code = f.2.1 ∧ meth.sig.returnType = f.2.2.1 ∧ c.maxLocals = f.2.2.2.1 ∧ s.vm.findClass (zown f.1) = some m.cls ∧ meth.locks = false ∧ (∀ w ∈ zws, w.before args s = true) ∧ zW l g s ∧ c.exceptionTable.toList = tableOf f.2.2.2.2.1 ∧ (f.2.2.2.2.2 = true → meth.name = "<init>")
def zlm (g : zG) (lo : List (Nat × Value)) : List (Nat × Value) := lo.map (fun q => (q.1, zc g q.2))
/-- THE FRAME GOES ON: from pc with these locals, this stack, this memory it ends by Q -/
def zGo (l : Launch) (d mc ms : Nat) (f : zF) (M : zM) (pc : Nat) (lo : List (Nat × Value)) (st : List Value) (Q : zR → zM → Prop) : Prop :=
  ∀ (g : zG) (p : Program) (e : Env) (R : Room) (s : State) (m : MethodId) (args : Array Value) (below : List Frame) (meth : Method) (c : Code) (H : Heap) (locs : List Loc) (cells slots : Nat) (ls : Array Slot),
    zCx l g f p s m args meth c → d ≤ R.frames → 37 * d ≤ R.locals → cells + mc ≤ R.cells → slots + ms ≤ R.slots → (∀ q ∈ locs, g.2.2.1 ≤ q.base) → zH g M H → lv_has ls f.2.2.2.1 (zlm g lo) →
    W p l e R s m args below meth c H locs cells slots (vx_MQ below (zQr g Q) (zQx g Q) args s R.cells R.slots (fun q => g.2.2.1 ≤ q)) (F0 m pc ls (st.map (zc g)))
theorem zlm_args (g : zG) (vs : List Value) : ∀ i : Nat, lv_args i (vs.map (zc g)) = zlm g (lv_args i vs) := by
  induction vs with
  | nil => intro i; rfl
  | cons v vs ih =>
    intro i
    show (i, zc g v) :: lv_args (if (zc g v).category = 2 then i + 2 else i + 1) (vs.map (zc g)) = (i, zc g v) :: zlm g (lv_args (if v.category = 2 then i + 2 else i + 1) vs)
    rw [zc_cat, ih]
theorem zsl_len (g : zG) (vs : List Value) : (lg_sl (vs.map (zc g))).length = (lg_sl vs).length := by
  induction vs with
  | nil => rfl
  | cons v vs ih =>
    have e : ∀ (a : Value) (as : List Value), lg_sl (a :: as) = (if a.category = 2 then [.val a, .second] else [.val a]) ++ lg_sl as := fun a as => rfl
    rw [List.map_cons, e, e, List.length_append, List.length_append, ih, zc_cat]
    by_cases h : v.category = 2 <;> simp [h]
/-- a method's contract out of its body, no handlers -/
theorem zRet_of {l : Launch} {d mc ms nL : Nat} (o : Nat) {y : MethodName} {cc : ByteArray} {ret : Option FieldType} {a : List Value} {M : zM} {Q : zR → zM → Prop} {ini : Bool} (hy : plainName y.cls = true) (ho : zown o = y.cls) (hn : (lg_sl a).length ≤ nL) (hi : ini = true → y.name = "<init>")
    (k : zGo l d mc ms (o, cc, ret, nL, [], ini) M 0 (lv_args 0 a) [] Q) : zRet l d mc ms y (.code y cc nL ret) a M Q := by
  intro g
  refine vx_ofW (cc := cc) (maxL := nL) (ret := ret) hy rfl ?_
  intro p e s m args below meth c s₁ B hml ht hv
  obtain ⟨rfl, hw, hH⟩ := hv
  have hts := atoms_spec (ws := .code y cc nL ret :: zws) B.pre
  have hl := lv_entry (a.map (zc g)) (n := nL) (by rw [zsl_len]; exact hn)
  rw [lg_entry_eq]
  generalize (lg_sl (a.map (zc g)) ++ List.replicate (nL - (lg_sl (a.map (zc g))).length) Slot.unset).toArray = ls at hl ⊢
  rw [zlm_args] at hl
  exact k g p e _ s m _ below meth c s.heap [] 0 0 ls ⟨B.exec, B.bytes, B.returns, hml, (by show s.vm.findClass (zown o) = _; rw [ho]; exact findClass_of_methodNamed B.named), B.notSynchronized, fun w hw => hts w (List.mem_cons_of_mem _ hw), hw, (by
      cases h : c.exceptionTable.toList with
      | nil => rfl
      | cons x xs => exact absurd (List.mem_cons_self (a := x) (l := xs)) (fun hx => ht x (by rw [h]; exact hx))), fun h => by rw [(name_of_methodNamed B.named B.method).1]; exact hi h⟩
    (Nat.le_refl _) (Nat.le_refl _) (by show 0 + mc ≤ mc; omega) (by show 0 + ms ≤ ms; omega) (fun q hq => by cases hq) hH hl
/-- .. and with handlers -/
theorem zRet_ofH {l : Launch} {d mc ms nL : Nat} (o : Nat) {y : MethodName} {cc : ByteArray} {ret : Option FieldType} {hh : List (Nat × Nat × Nat × Nat)} {a : List Value} {M : zM} {Q : zR → zM → Prop} (hy : plainName y.cls = true) (ho : zown o = y.cls) (hn : (lg_sl a).length ≤ nL)
    (k : zGo l d mc ms (o, cc, ret, nL, hh, false) M 0 (lv_args 0 a) [] Q) : zRet l d mc ms y (.codeWith y cc nL ret hh) a M Q := by
  intro g
  refine vx_ofWH (cc := cc) (maxL := nL) (ret := ret) (hh := hh) hy rfl ?_
  intro p e s m args below meth c s₁ B hml hv
  obtain ⟨rfl, hw, hH⟩ := hv
  have hts := atoms_spec (ws := .codeWith y cc nL ret hh :: zws) B.pre
  have hl := lv_entry (a.map (zc g)) (n := nL) (by rw [zsl_len]; exact hn)
  rw [lg_entry_eq]
  generalize (lg_sl (a.map (zc g)) ++ List.replicate (nL - (lg_sl (a.map (zc g))).length) Slot.unset).toArray = ls at hl ⊢
  rw [zlm_args] at hl
  exact k g p e _ s m _ below meth c s.heap [] 0 0 ls ⟨B.exec, B.bytes, B.returns, hml, (by show s.vm.findClass (zown o) = _; rw [ho]; exact findClass_of_methodNamed B.named), B.notSynchronized, fun w hw => hts w (List.mem_cons_of_mem _ hw), hw, vx_table (x := y) B (hts _ List.mem_cons_self), fun h => by cases h⟩
    (Nat.le_refl _) (Nat.le_refl _) (by show 0 + mc ≤ mc; omega) (by show 0 + ms ≤ ms; omega) (fun q hq => by cases hq) hH hl
/-- less is asked for -/
theorem zGo.mono {l : Launch} {d mc ms mc' ms' : Nat} {f : zF} {M : zM} {pc : Nat} {lo : List (Nat × Value)} {st : List Value} {Q : zR → zM → Prop} (h : zGo l d mc ms f M pc lo st Q) (h1 : mc ≤ mc') (h2 : ms ≤ ms') : zGo l d mc' ms' f M pc lo st Q :=
  fun g p e R s m args below meth c H locs cells slots ls a1 a2 a3 a4 a5 a6 a7 a8 => h g p e R s m args below meth c H locs cells slots ls a1 a2 a3 (by omega) (by omega) a6 a7 a8
theorem zH.cell {g : zG} {M : zM} {H : Heap} (h : zH g M H) (c : Nat) {a b : Nat} (hk : M.2.1 c = (a, b)) (ha : a ≠ 9) : c < M.1 ∧ zad g c = g.2.2.1 + c ∧ zcell g M H c := by
  obtain ⟨h1, h2, h3⟩ := h.2.2 c (by rw [hk]; exact ha)
  refine ⟨h1, ?_, h3⟩
  unfold zad
  rw [if_pos (by omega)]
/-- a cell is written: the others stay -/
theorem zH.put {g : zG} {M M' : zM} {H H' : Heap} (h : zH g M H) (c : Nat) (h1 : M'.1 = M.1) (h2 : M'.2.1 = M.2.1) (hs : H'.size = H.size) (ho : ∀ q : Nat, q ≠ g.2.2.1 + c → H'[q]? = H[q]?) (hc : c < M.1)
    (hR : ∀ x, x ≠ c → M'.2.2.1 x = M.2.2.1 x) (hI : ∀ x, x ≠ c → M'.2.2.2.1 x = M.2.2.2.1 x) (hJ : ∀ x, x ≠ c → M'.2.2.2.2 x = M.2.2.2.2 x) (hn : zcell g M' H' c) : zH g M' H' := by
  obtain ⟨a1, a2, a3⟩ := h
  refine ⟨by rw [hs, h1]; exact a1, fun q hq => by rw [ho q (by omega)]; exact a2 q hq, fun x hx => ?_⟩
  rw [h2] at hx
  obtain ⟨b1, b2, b3⟩ := a3 x hx
  refine ⟨by rw [h1]; exact b1, by rw [h1]; exact b2, ?_⟩
  by_cases hxc : x = c
  · subst hxc; exact hn
  · have e : H'[g.2.2.1 + x]? = H[g.2.2.1 + x]? := ho _ (by omega)
    unfold zcell at b3 ⊢
    rw [h2]
    have ef : ∀ ci k, zfv M' ci x k = zfv M ci x k := fun ci k => by unfold zfv; rw [hR x hxc, hI x hxc, hJ x hxc]
    split at b3
    · obtain ⟨q, q1, q2⟩ := b3
      exact ⟨q, q1, (q2.kept e).to (fun k _ => by rw [ef])⟩
    · rw [e, hI x hxc]; exact b3
    · rw [e, hI x hxc]; exact b3
    · rw [e, hJ x hxc]; exact b3
    · trivial
/-- a cell is made -/
theorem zH.new {g : zG} {M M' : zM} {H H' : Heap} (h : zH g M H) (h1 : M'.1 = M.1 + 1) (hlt : M.1 + 1 < 100000) (h2 : ∀ x, x ≠ M.1 → M'.2.1 x = M.2.1 x) (hs : H'.size = H.size + 1) (ho : ∀ q : Nat, q < H.size → H'[q]? = H[q]?)
    (hR : ∀ x, x ≠ M.1 → M'.2.2.1 x = M.2.2.1 x) (hI : ∀ x, x ≠ M.1 → M'.2.2.2.1 x = M.2.2.2.1 x) (hJ : ∀ x, x ≠ M.1 → M'.2.2.2.2 x = M.2.2.2.2 x) (hn : (M'.2.1 M.1).1 ≠ 9 → zcell g M' H' M.1) : zH g M' H' := by
  obtain ⟨a1, a2, a3⟩ := h
  refine ⟨by rw [hs, h1, a1]; omega, fun q hq => by rw [ho q (by omega)]; exact a2 q hq, fun x hx => ?_⟩
  by_cases hxc : x = M.1
  · subst hxc; exact ⟨by omega, by omega, hn hx⟩
  · rw [h2 x hxc] at hx
    obtain ⟨b1, b2, b3⟩ := a3 x hx
    refine ⟨by omega, by omega, ?_⟩
    have e : H'[g.2.2.1 + x]? = H[g.2.2.1 + x]? := ho _ (by omega)
    unfold zcell at b3 ⊢
    rw [h2 x hxc]
    have ef : ∀ ci k, zfv M' ci x k = zfv M ci x k := fun ci k => by unfold zfv; rw [hR x hxc, hI x hxc, hJ x hxc]
    split at b3
    · obtain ⟨q, q1, q2⟩ := b3
      exact ⟨q, q1, (q2.kept e).to (fun k _ => by rw [ef])⟩
    · rw [e, hI x hxc]; exact b3
    · rw [e, hI x hxc]; exact b3
    · rw [e, hJ x hxc]; exact b3
    · trivial
end
section
/-- fields: the class that speaks, its pool number, the field's class, its number, the place of the word -/
def zfl : List (Nat × Nat × Nat × Nat × Nat) := [(9, 9, 9, 0, 41), (11, 28, 9, 0, 42), (9, 15, 9, 1, 43), (11, 124, 9, 1, 44), (6, 9, 6, 0, 61), (3, 53, 6, 0, 62), (11, 186, 6, 0, 63), (6, 15, 6, 1, 64), (3, 30, 6, 1, 65), (1, 64, 6, 1, 66), (7, 105, 6, 1, 67), (11, 189, 6, 1, 68), (6, 18, 6, 2, 69), (1, 70, 6, 2, 70), (11, 195, 6, 2, 71), (7, 141, 6, 2, 72), (6, 21, 6, 3, 73), (0, 48, 6, 3, 74), (7, 114, 6, 3, 75), (6, 24, 6, 4, 76), (0, 61, 6, 4, 77), (6, 27, 6, 5, 78), (6, 30, 6, 6, 79), (11, 171, 6, 6, 80), (4, 32, 6, 7, 81), (6, 36, 6, 7, 82), (1, 58, 6, 7, 83), (10, 48, 6, 7, 84), (7, 85, 6, 7, 85), (11, 150, 6, 7, 86), (0, 43, 6, 8, 87), (2, 34, 6, 8, 88), (5, 48, 6, 8, 89), (1, 46, 6, 8, 90), (6, 40, 6, 8, 91), (7, 99, 6, 8, 92), (11, 153, 6, 8, 93), (0, 58, 6, 9, 94), (6, 43, 6, 9, 95), (11, 156, 6, 9, 96), (7, 119, 6, 9, 97), (6, 46, 6, 10, 98), (11, 159, 6, 10, 99), (7, 125, 6, 10, 100), (6, 49, 6, 11, 101), (7, 144, 6, 11, 102), (7, 9, 7, 0, 135), (7, 15, 7, 1, 136), (7, 25, 7, 2, 137), (7, 29, 7, 3, 138), (7, 46, 7, 4, 139), (7, 172, 7, 5, 140), (7, 169, 7, 6, 141), (7, 32, 7, 7, 142), (7, 35, 7, 8, 143), (11, 138, 7, 8, 144), (0, 9, 0, 0, 170), (0, 15, 0, 1, 171), (0, 18, 0, 2, 172), (0, 21, 0, 3, 173), (0, 24, 0, 4, 174), (0, 27, 0, 5, 175), (11, 245, 0, 5, 176), (0, 30, 0, 6, 177), (1, 67, 0, 6, 178), (0, 37, 0, 7, 179), (11, 162, 0, 7, 180), (0, 33, 0, 8, 181), (1, 27, 0, 8, 182), (11, 165, 0, 8, 183), (1, 61, 0, 9, 184), (0, 70, 0, 9, 185), (11, 168, 0, 9, 186), (3, 9, 3, 0, 214), (3, 15, 3, 1, 215), (1, 15, 1, 0, 227), (1, 19, 1, 1, 228), (1, 23, 1, 2, 229), (1, 9, 1, 3, 230), (1, 39, 1, 4, 231), (2, 18, 2, 0, 249), (2, 22, 2, 1, 250), (2, 26, 2, 2, 251), (2, 9, 2, 3, 252), (2, 15, 2, 4, 253), (10, 24, 10, 0, 271), (10, 28, 10, 1, 272), (10, 9, 10, 2, 273), (10, 15, 10, 3, 274), (10, 18, 10, 4, 275), (11, 297, 10, 4, 276), (10, 21, 10, 5, 277), (11, 299, 10, 5, 278), (11, 148, 10, 6, 279), (10, 66, 10, 6, 280), (4, 24, 4, 0, 302), (4, 28, 4, 1, 303), (4, 9, 4, 2, 304), (4, 15, 4, 3, 305), (4, 18, 4, 4, 306), (4, 21, 4, 5, 307), (11, 309, 4, 5, 308), (5, 30, 5, 0, 328), (5, 34, 5, 1, 329), (5, 38, 5, 2, 330), (5, 9, 5, 3, 331), (5, 15, 5, 4, 332), (5, 18, 5, 5, 333), (5, 21, 5, 6, 334), (5, 24, 5, 7, 335), (5, 27, 5, 8, 336), (11, 319, 5, 8, 337), (5, 79, 5, 9, 338), (11, 149, 5, 9, 339), (8, 9, 8, 0, 367), (11, 337, 8, 0, 368), (8, 19, 8, 1, 369), (11, 334, 8, 1, 370), (8, 15, 8, 2, 371), (11, 12, 11, 0, 379), (11, 19, 11, 1, 380), (11, 23, 11, 2, 381), (11, 35, 11, 3, 382), (11, 42, 11, 4, 383), (11, 46, 11, 5, 384), (11, 54, 11, 6, 385), (11, 63, 11, 7, 386), (11, 70, 11, 8, 387), (11, 79, 11, 9, 388), (11, 86, 11, 10, 389), (11, 93, 11, 11, 390), (11, 100, 11, 12, 391), (11, 104, 11, 13, 392), (11, 108, 11, 14, 393), (11, 112, 11, 15, 394), (12, 134, 12, 0, 1247), (12, 248, 12, 1, 1248), (12, 251, 12, 2, 1249), (12, 254, 12, 3, 1250), (12, 257, 12, 4, 1251), (12, 7, 12, 5, 1252), (12, 13, 12, 6, 1253), (12, 16, 12, 7, 1254), (12, 19, 12, 8, 1255), (12, 22, 12, 9, 1256), (12, 25, 12, 10, 1257), (12, 28, 12, 11, 1258), (12, 31, 12, 12, 1259), (12, 137, 12, 13, 1260), (12, 187, 12, 14, 1261), (12, 34, 12, 15, 1262), (12, 38, 12, 16, 1263), (12, 144, 12, 17, 1264), (12, 147, 12, 18, 1265), (12, 164, 12, 19, 1266), (12, 154, 12, 20, 1267), (12, 174, 12, 21, 1268), (12, 161, 12, 22, 1269), (12, 157, 12, 23, 1270), (12, 209, 12, 24, 1271), (12, 206, 12, 25, 1272), (12, 232, 12, 26, 1273), (12, 212, 12, 27, 1274), (12, 238, 12, 28, 1275), (12, 41, 12, 29, 1276), (12, 44, 12, 30, 1277), (12, 47, 12, 31, 1278), (12, 50, 12, 32, 1279), (12, 53, 12, 33, 1280), (12, 56, 12, 34, 1281), (12, 59, 12, 35, 1282), (12, 264, 12, 36, 1283), (12, 62, 12, 37, 1284), (12, 65, 12, 38, 1285), (12, 68, 12, 39, 1286), (12, 71, 12, 40, 1287), (12, 267, 12, 41, 1288), (12, 74, 12, 42, 1289), (12, 77, 12, 43, 1290), (12, 80, 12, 44, 1291), (12, 331, 12, 45, 1292), (12, 83, 12, 46, 1293), (12, 86, 12, 47, 1294), (12, 89, 12, 48, 1295), (12, 92, 12, 49, 1296), (12, 95, 12, 50, 1297), (12, 98, 12, 51, 1298), (12, 270, 12, 52, 1299), (12, 101, 12, 53, 1300), (12, 104, 12, 54, 1301), (12, 107, 12, 55, 1302), (12, 273, 12, 56, 1303), (12, 110, 12, 57, 1304), (12, 113, 12, 58, 1305), (12, 389, 12, 59, 1306), (12, 392, 12, 60, 1307), (12, 116, 12, 61, 1308), (12, 407, 12, 62, 1309), (12, 277, 12, 63, 1310), (12, 119, 12, 64, 1311), (12, 122, 12, 65, 1312), (12, 125, 12, 66, 1313), (12, 128, 12, 67, 1314), (12, 131, 12, 68, 1315)]
def zkc : List (Nat × Nat × Int32 × Nat) := [(14, 265, 1431655765, 471), (14, 266, 858993459, 472), (14, 267, 252645135, 473), (0, 86, 1103515245, 474), (12, 320, 1103515245, 1628)]
def znw : List (Nat × Nat × Nat × Nat × Nat × Nat × Nat) := [(13, 8, 11, 16, 27, 28, 1), (11, 9, 9, 2, 35, 36, 2), (11, 16, 6, 12, 51, 52, 3), (11, 26, 7, 9, 129, 130, 4), (11, 39, 0, 10, 164, 165, 5), (11, 49, 3, 2, 208, 209, 6), (11, 58, 1, 5, 221, 222, 7), (11, 67, 2, 5, 243, 244, 8), (11, 74, 10, 7, 265, 266, 9), (11, 83, 4, 6, 296, 297, 10), (11, 90, 5, 10, 322, 323, 11), (11, 97, 8, 3, 361, 362, 12), (13, 96, 12, 69, 1241, 1242, 13)]
def zob : List (Nat × Nat × Nat) := [(11, 3, 32), (9, 3, 40), (6, 3, 56), (7, 3, 134), (0, 3, 169), (3, 3, 213), (1, 3, 226), (2, 3, 248), (10, 3, 270), (4, 3, 301), (5, 3, 327), (8, 3, 366), (12, 1, 1246)]
def zflB (q : Nat × Nat × Nat × Nat × Nat) : Bool := match zcl[q.2.2.1]? with
  | some c => decide (q.2.2.2.1 < c.2.2) && decide (tables_1[q.2.2.2.2]? = some (.fieldLink (zown q.1) q.2.1 (c.2.1 q.2.2.2.1).1 (c.2.1 q.2.2.2.1).2.1 (c.2.1 q.2.2.2.1).2.2.1)) && goodWord (.fieldLink (zown q.1) q.2.1 (c.2.1 q.2.2.2.1).1 (c.2.1 q.2.2.2.1).2.1 (c.2.1 q.2.2.2.1).2.2.1)
  | none => false
set_option maxRecDepth 100000 in
theorem zfl_ok : zfl.all zflB = true := by decide +kernel
/-- which field a pool number names -/
def zfd (o i : Nat) : Option (Nat × Nat) := (zfl.find? (fun q => q.1 == o && q.2.1 == i)).map (fun q => (q.2.2.1, q.2.2.2.1))
theorem zfd_ok {o i ci k : Nat} (h : zfd o i = some (ci, k)) : ∃ c : vw_C, zcl[ci]? = some c ∧ k < c.2.2 ∧ Cond.fieldLink (zown o) i (c.2.1 k).1 (c.2.1 k).2.1 (c.2.1 k).2.2.1 ∈ zws := by
  unfold zfd at h
  cases hf : zfl.find? (fun q => q.1 == o && q.2.1 == i) with
  | none => rw [hf] at h; cases h
  | some q =>
    rw [hf] at h
    have h1 := List.find?_some hf
    have h2 := List.all_eq_true.mp zfl_ok q (List.mem_of_find?_eq_some hf)
    simp only [Bool.and_eq_true, beq_iff_eq] at h1
    simp only [Option.map_some, Option.some.injEq, Prod.mk.injEq] at h
    obtain ⟨rfl, rfl⟩ := h
    obtain ⟨rfl, rfl⟩ := h1
    unfold zflB at h2
    cases hc : zcl[q.2.2.1]? with
    | none => rw [hc] at h2; cases h2
    | some c =>
      rw [hc] at h2
      simp only [Bool.and_eq_true, decide_eq_true_eq] at h2
      exact ⟨c, rfl, h2.1.1, z_at _ h2.1.2 h2.2⟩
def zkcB (q : Nat × Nat × Int32 × Nat) : Bool := decide (tables_1[q.2.2.2]? = some (.constant (zown q.1) q.2.1 q.2.2.1)) && goodWord (.constant (zown q.1) q.2.1 q.2.2.1)
theorem zkc_ok : zkc.all zkcB = true := by decide +kernel
def zcv (o i : Nat) : Option Int32 := (zkc.find? (fun q => q.1 == o && q.2.1 == i)).map (fun q => q.2.2.1)
theorem zcv_ok {o i : Nat} {v : Int32} (h : zcv o i = some v) : Cond.constant (zown o) i v ∈ zws := by
  unfold zcv at h
  cases hf : zkc.find? (fun q => q.1 == o && q.2.1 == i) with
  | none => rw [hf] at h; cases h
  | some q =>
    rw [hf] at h
    have h1 := List.find?_some hf
    have h2 := List.all_eq_true.mp zkc_ok q (List.mem_of_find?_eq_some hf)
    simp only [Bool.and_eq_true, beq_iff_eq] at h1
    simp only [Option.map_some, Option.some.injEq] at h
    subst h
    obtain ⟨rfl, rfl⟩ := h1
    simp only [zkcB, Bool.and_eq_true, decide_eq_true_eq] at h2
    exact z_at _ h2.1 h2.2
def znwB (q : Nat × Nat × Nat × Nat × Nat × Nat × Nat) : Bool := match zcl[q.2.2.1]? with
  | some c => decide (c.2.2 = q.2.2.2.1) && decide (tables_1[q.2.2.2.2.1]? = some (.classLink (zown q.1) q.2.1 c.1)) && decide (tables_1[q.2.2.2.2.2.1]? = some (.instantiable c.1 c.2.2)) && decide (tables_1[q.2.2.2.2.2.2]? = some (.initialized c.1)) && goodWord (.classLink (zown q.1) q.2.1 c.1) && goodWord (.instantiable c.1 c.2.2) && goodWord (.initialized c.1)
  | none => false
theorem znw_ok : znw.all znwB = true := by decide +kernel
def znc (o i : Nat) : Option (Nat × Nat) := (znw.find? (fun q => q.1 == o && q.2.1 == i)).map (fun q => (q.2.2.1, q.2.2.2.1))
theorem znc_ok {o i ci n : Nat} (h : znc o i = some (ci, n)) : ∃ c : vw_C, zcl[ci]? = some c ∧ c.2.2 = n ∧ Cond.classLink (zown o) i c.1 ∈ zws ∧ Cond.instantiable c.1 c.2.2 ∈ zws ∧ Cond.initialized c.1 ∈ zws := by
  unfold znc at h
  cases hf : znw.find? (fun q => q.1 == o && q.2.1 == i) with
  | none => rw [hf] at h; cases h
  | some q =>
    rw [hf] at h
    have h1 := List.find?_some hf
    have h2 := List.all_eq_true.mp znw_ok q (List.mem_of_find?_eq_some hf)
    simp only [Bool.and_eq_true, beq_iff_eq] at h1
    simp only [Option.map_some, Option.some.injEq, Prod.mk.injEq] at h
    obtain ⟨rfl, rfl⟩ := h
    obtain ⟨rfl, rfl⟩ := h1
    unfold znwB at h2
    cases hc : zcl[q.2.2.1]? with
    | none => rw [hc] at h2; cases h2
    | some c =>
      rw [hc] at h2
      simp only [Bool.and_eq_true, decide_eq_true_eq] at h2
      exact ⟨c, rfl, h2.1.1.1.1.1.1, z_at _ h2.1.1.1.1.1.2 h2.1.1.2, z_at _ h2.1.1.1.1.2 h2.1.2, z_at _ h2.1.1.1.2 h2.2⟩
def zobB (q : Nat × Nat × Nat) : Bool := decide (tables_1[q.2.2]? = some (.methodLink (zown q.1) q.2.1 Lib.objectInit)) && goodWord (.methodLink (zown q.1) q.2.1 Lib.objectInit)
theorem zob_ok : zob.all zobB = true := by decide +kernel
def zoi (o i : Nat) : Bool := zob.any (fun q => q.1 == o && q.2.1 == i)
theorem zoi_ok {o i : Nat} (h : zoi o i = true) : Cond.methodLink (zown o) i Lib.objectInit ∈ zws := by
  unfold zoi at h
  obtain ⟨q, hq, h1⟩ := List.any_eq_true.mp h
  have h2 := List.all_eq_true.mp zob_ok q hq
  simp only [Bool.and_eq_true, beq_iff_eq] at h1
  obtain ⟨rfl, rfl⟩ := h1
  simp only [zobB, Bool.and_eq_true, decide_eq_true_eq] at h2
  exact z_at _ h2.1 h2.2
theorem zob_i : Cond.instanceMethod Lib.objectInit ∈ zws := z_at 33 (by decide +kernel) (by decide +kernel)
theorem zob_c : Cond.code Lib.objectInit ⟨#[0xb1]⟩ 1 none ∈ zws := z_at 34 (by decide +kernel) (by decide +kernel)
theorem zar_i : Cond.arrayClass .int ∈ zws := z_at 128 (by decide +kernel) (by decide +kernel)
theorem zar_b : Cond.arrayClass .byte ∈ zws := z_at 50 (by decide +kernel) (by decide +kernel)
theorem zar_l : Cond.arrayClass .long ∈ zws := z_at 1831 (by decide +kernel) (by decide +kernel)
theorem zkl : Cond.constantLong RX12 177 96 ∈ zws := z_at 1507 (by decide +kernel) (by decide +kernel)
theorem z_decl : ∀ (ci : Nat) (q : vw_C), zcl[ci]? = some q → zown ci = q.1 ∧ ∀ k, k < q.2.2 → (q.2.1 k).1 = q.1
  | 0, _, h => by cases h; exact ⟨rfl, by decide +kernel⟩
  | 1, _, h => by cases h; exact ⟨rfl, by decide +kernel⟩
  | 2, _, h => by cases h; exact ⟨rfl, by decide +kernel⟩
  | 3, _, h => by cases h; exact ⟨rfl, by decide +kernel⟩
  | 4, _, h => by cases h; exact ⟨rfl, by decide +kernel⟩
  | 5, _, h => by cases h; exact ⟨rfl, by decide +kernel⟩
  | 6, _, h => by cases h; exact ⟨rfl, by decide +kernel⟩
  | 7, _, h => by cases h; exact ⟨rfl, by decide +kernel⟩
  | 8, _, h => by cases h; exact ⟨rfl, by decide +kernel⟩
  | 9, _, h => by cases h; exact ⟨rfl, by decide +kernel⟩
  | 10, _, h => by cases h; exact ⟨rfl, by decide +kernel⟩
  | 11, _, h => by cases h; exact ⟨rfl, by decide +kernel⟩
  | 12, _, h => by cases h; exact ⟨rfl, by decide +kernel⟩
  | _ + 13, _, h => by cases h
end
section
/-! ONE INSTRUCTION. zI: op, a, b, x, the next pc, targets. zpre reads it off the code; zst says what it does; z_step: zst is right. -/
abbrev zI : Type := Nat × Nat × Nat × Int32 × Nat × List Nat
def ztg (pc : Nat) (off : Int) : Nat := ((pc : Int) + off).toNat
def zgo (pc : Nat) (off : Int) : Bool := decide (0 ≤ (pc : Int) + off)
theorem ztg_ok {pc : Nat} {off : Int} (h : zgo pc off = true) : (pc : Int) + off = (ztg pc off : Int) := by
  unfold zgo at h
  unfold ztg
  have := of_decide_eq_true h
  omega
def zpre (o : Nat) (cc : ByteArray) (pc : Nat) : Option zI := match decode cc pc with
  | .ok (.iconst n, 1) => some (0, 0, 0, Int32.ofInt n, pc + 1, [])
  | .ok (.bipush n, 2) => some (0, 0, 0, (Int8.ofInt n).toInt32, pc + 2, [])
  | .ok (.sipush n, 3) => some (0, 0, 0, (Int16.ofInt n).toInt32, pc + 3, [])
  | .ok (.ldc i, 2) => (zcv o i).map (fun v => (0, 0, 0, v, pc + 2, []))
  | .ok (.ldc_w i, 3) => (zcv o i).map (fun v => (0, 0, 0, v, pc + 3, []))
  | .ok (.lconst n, 1) => some (1, n.val, 0, 0, pc + 1, [])
  | .ok (.ldc2_w i, 3) => bif o == 12 && i == 177 then some (1, 96, 0, 0, pc + 3, []) else none
  | .ok (.iload i, 2) => some (2, i, 0, 0, pc + 2, [])
  | .ok (.iload_n k, 1) => some (2, k.val, 0, 0, pc + 1, [])
  | .ok (.lload i, 2) => some (3, i, 0, 0, pc + 2, [])
  | .ok (.aload i, 2) => some (4, i, 0, 0, pc + 2, [])
  | .ok (.aload_n k, 1) => some (4, k.val, 0, 0, pc + 1, [])
  | .ok (.istore i, 2) => some (5, i, 0, 0, pc + 2, [])
  | .ok (.istore_n k, 1) => some (5, k.val, 0, 0, pc + 1, [])
  | .ok (.lstore i, 2) => some (6, i, 0, 0, pc + 2, [])
  | .ok (.astore i, 2) => some (7, i, 0, 0, pc + 2, [])
  | .ok (.astore_n k, 1) => some (7, k.val, 0, 0, pc + 1, [])
  | .ok (.iinc i n, 3) => some (8, i, 0, Int32.ofInt n, pc + 3, [])
  | .ok (.iadd, 1) => some (9, 0, 0, 0, pc + 1, [])
  | .ok (.isub, 1) => some (9, 1, 0, 0, pc + 1, [])
  | .ok (.imul, 1) => some (9, 2, 0, 0, pc + 1, [])
  | .ok (.iand, 1) => some (9, 3, 0, 0, pc + 1, [])
  | .ok (.ior, 1) => some (9, 4, 0, 0, pc + 1, [])
  | .ok (.ixor, 1) => some (9, 5, 0, 0, pc + 1, [])
  | .ok (.ishl, 1) => some (9, 6, 0, 0, pc + 1, [])
  | .ok (.ishr, 1) => some (9, 7, 0, 0, pc + 1, [])
  | .ok (.iushr, 1) => some (9, 8, 0, 0, pc + 1, [])
  | .ok (.idiv, 1) => some (9, 9, 0, 0, pc + 1, [])
  | .ok (.irem, 1) => some (9, 10, 0, 0, pc + 1, [])
  | .ok (.i2l, 1) => some (10, 0, 0, 0, pc + 1, [])
  | .ok (.i2b, 1) => some (10, 1, 0, 0, pc + 1, [])
  | .ok (.lor, 1) => some (11, 0, 0, 0, pc + 1, [])
  | .ok (.lsub, 1) => some (11, 1, 0, 0, pc + 1, [])
  | .ok (.lcmp, 1) => some (11, 2, 0, 0, pc + 1, [])
  | .ok (.lshl, 1) => some (11, 3, 0, 0, pc + 1, [])
  | .ok (.dup, 1) => some (12, 0, 0, 0, pc + 1, [])
  | .ok (.dup2, 1) => some (13, 0, 0, 0, pc + 1, [])
  | .ok (.pop, 1) => some (14, 0, 0, 0, pc + 1, [])
  | .ok (.goto off, 3) => bif zgo pc off then some (15, 0, 0, 0, ztg pc off, []) else none
  | .ok (.if_icmp .eq off, 3) => bif zgo pc off then some (16, 0, ztg pc off, 0, pc + 3, []) else none
  | .ok (.if_icmp .ne off, 3) => bif zgo pc off then some (16, 0, pc + 3, 0, ztg pc off, []) else none
  | .ok (.if_icmp .lt off, 3) => bif zgo pc off then some (16, 1, ztg pc off, 0, pc + 3, []) else none
  | .ok (.if_icmp .ge off, 3) => bif zgo pc off then some (16, 1, pc + 3, 0, ztg pc off, []) else none
  | .ok (.if_icmp .gt off, 3) => bif zgo pc off then some (16, 2, ztg pc off, 0, pc + 3, []) else none
  | .ok (.if_icmp .le off, 3) => bif zgo pc off then some (16, 2, pc + 3, 0, ztg pc off, []) else none
  | .ok (.ifCond .eq off, 3) => bif zgo pc off then some (17, 0, ztg pc off, 0, pc + 3, []) else none
  | .ok (.ifCond .ne off, 3) => bif zgo pc off then some (17, 0, pc + 3, 0, ztg pc off, []) else none
  | .ok (.ifCond .lt off, 3) => bif zgo pc off then some (17, 1, ztg pc off, 0, pc + 3, []) else none
  | .ok (.ifCond .ge off, 3) => bif zgo pc off then some (17, 1, pc + 3, 0, ztg pc off, []) else none
  | .ok (.ifCond .gt off, 3) => bif zgo pc off then some (17, 2, ztg pc off, 0, pc + 3, []) else none
  | .ok (.ifCond .le off, 3) => bif zgo pc off then some (17, 2, pc + 3, 0, ztg pc off, []) else none
  | .ok (.getfield i, 3) => (zfd o i).map (fun q => (18, q.1, q.2, 0, pc + 3, []))
  | .ok (.putfield i, 3) => (zfd o i).map (fun q => (19, q.1, q.2, 0, pc + 3, []))
  | .ok (.iaload, 1) => some (20, 0, 0, 0, pc + 1, [])
  | .ok (.iastore, 1) => some (21, 0, 0, 0, pc + 1, [])
  | .ok (.baload, 1) => some (22, 0, 0, 0, pc + 1, [])
  | .ok (.bastore, 1) => some (23, 0, 0, 0, pc + 1, [])
  | .ok (.laload, 1) => some (24, 0, 0, 0, pc + 1, [])
  | .ok (.lastore, 1) => some (25, 0, 0, 0, pc + 1, [])
  | .ok (.arraylength, 1) => some (26, 0, 0, 0, pc + 1, [])
  | .ok (.ireturn, 1) => some (27, 0, 0, 0, pc + 1, [])
  | .ok (.lreturn, 1) => some (28, 0, 0, 0, pc + 1, [])
  | .ok (.return_, 1) => some (29, 0, 0, 0, pc + 1, [])
  | .ok (.new i, 3) => (znc o i).map (fun q => (30, q.1, q.2, 0, pc + 3, []))
  | .ok (.newarray .int, 2) => some (31, 1, 0, 0, pc + 2, [])
  | .ok (.newarray .byte, 2) => some (31, 2, 0, 0, pc + 2, [])
  | .ok (.newarray .long, 2) => some (31, 3, 0, 0, pc + 2, [])
  | .ok (.tableswitch df 0 hi offs, _) => bif (zgo pc df && offs.toList.all (zgo pc) && decide (hi = (offs.size : Int) - 1)) && Nat.blt offs.size 1000 then some (32, 0, ztg pc df, 0, 0, offs.toList.map (ztg pc)) else none
  | .ok (.invokespecial i, 3) => bif zoi o i then some (35, 0, 0, 0, pc + 3, []) else none
  | _ => none
def zlk : List (Nat × Value) → Nat → Option Value
  | [], _ => none
  | q :: r, i => bif q.1 == i then some q.2 else zlk r i
def zin : List (Nat × Value) → Nat → Value → List (Nat × Value)
  | [], i, v => [(i, v)]
  | q :: r, i, v => bif Nat.blt i q.1 then (i, v) :: q :: r else q :: zin r i v
def zup (lo : List (Nat × Value)) (i : Nat) (v : Value) : List (Nat × Value) := zin (lo.filter (fun q => !(q.1 == i) && !(q.1 + 1 == i && q.2.category == 2))) i v
def zup2 (lo : List (Nat × Value)) (i : Nat) (v : Value) : List (Nat × Value) := zin (lo.filter (fun q => !(q.1 == i) && (!(q.1 == i + 1) && !(q.1 + 1 == i && q.2.category == 2)))) i v
theorem zlk_mem {lo : List (Nat × Value)} {i : Nat} {v : Value} (h : zlk lo i = some v) : (i, v) ∈ lo := by
  induction lo with
  | nil => cases h
  | cons q r ih =>
    unfold zlk at h
    cases hq : (q.1 == i) with
    | true =>
      rw [hq] at h
      have e1 : q.1 = i := by simpa using hq
      have e2 : q.2 = v := Option.some.inj h
      rw [← e1, ← e2]
      exact List.mem_cons_self
    | false => rw [hq] at h; exact List.mem_cons_of_mem _ (ih h)
theorem zin_mem {lo : List (Nat × Value)} {i : Nat} {v : Value} : ∀ q ∈ zin lo i v, q = (i, v) ∨ q ∈ lo := by
  induction lo with
  | nil => intro q h; left; simpa [zin] using h
  | cons a r ih =>
    intro q h
    unfold zin at h
    cases hb : Nat.blt i a.1 with
    | true =>
      rw [hb] at h
      rcases List.mem_cons.mp h with h | h
      · exact Or.inl h
      · exact Or.inr h
    | false =>
      rw [hb] at h
      rcases List.mem_cons.mp h with h | h
      · exact Or.inr (by rw [h]; exact List.mem_cons_self)
      · rcases ih q h with h | h
        · exact Or.inl h
        · exact Or.inr (List.mem_cons_of_mem _ h)
theorem zlv {g : zG} {ls : Array Slot} {nL i : Nat} {lo : List (Nat × Value)} {v : Value} (h : lv_has ls nL (zlm g lo)) (hk : zlk lo i = some v) : ls[i]? = some (.val (zc g v)) :=
  h.2.2 (i, zc g v) (List.mem_map.mpr ⟨(i, v), zlk_mem hk, rfl⟩)
theorem zlm_filter (g : zG) (lo : List (Nat × Value)) (i : Nat) : (zlm g lo).filter (fun q => !(q.1 == i) && !(q.1 + 1 == i && q.2.category == 2)) = zlm g (lo.filter (fun q => !(q.1 == i) && !(q.1 + 1 == i && q.2.category == 2))) := by
  unfold zlm
  rw [List.filter_map]
  congr 1
  congr 1
  funext q
  simp [Function.comp, zc_cat]
theorem zlm_filter2 (g : zG) (lo : List (Nat × Value)) (i : Nat) : (zlm g lo).filter (fun q => !(q.1 == i) && (!(q.1 == i + 1) && !(q.1 + 1 == i && q.2.category == 2))) = zlm g (lo.filter (fun q => !(q.1 == i) && (!(q.1 == i + 1) && !(q.1 + 1 == i && q.2.category == 2)))) := by
  unfold zlm
  rw [List.filter_map]
  congr 1
  congr 1
  funext q
  simp [Function.comp, zc_cat]
theorem zlm_zin {g : zG} {ls : Array Slot} {nL i : Nat} {lo : List (Nat × Value)} {v : Value} (h : lv_has ls nL ((i, zc g v) :: zlm g lo)) : lv_has ls nL (zlm g (zin lo i v)) := by
  refine ⟨h.1, h.2.1, fun q hq => h.2.2 q ?_⟩
  obtain ⟨q', hq', rfl⟩ := List.mem_map.mp hq
  rcases zin_mem q' hq' with rfl | hm
  · exact List.mem_cons_self
  · exact List.mem_cons_of_mem _ (List.mem_map.mpr ⟨q', hm, rfl⟩)
/-- shapes of a stack's top -/
def t1i (st : List Value) (k : Int32 → List Value → Prop) : Prop := match st with
  | .int x :: r => k x r
  | _ => False
def t1l (st : List Value) (k : Int64 → List Value → Prop) : Prop := match st with
  | .long x :: r => k x r
  | _ => False
def t1r (st : List Value) (k : Nat → List Value → Prop) : Prop := match st with
  | .ref x :: r => k x r
  | _ => False
def t2i (st : List Value) (k : Int32 → Int32 → List Value → Prop) : Prop := match st with
  | .int y :: .int x :: r => k x y r
  | _ => False
def t2l (st : List Value) (k : Int64 → Int64 → List Value → Prop) : Prop := match st with
  | .long y :: .long x :: r => k x y r
  | _ => False
def til (st : List Value) (k : Int64 → Int32 → List Value → Prop) : Prop := match st with
  | .int y :: .long x :: r => k x y r
  | _ => False
def tir (st : List Value) (k : Nat → Int32 → List Value → Prop) : Prop := match st with
  | .int y :: .ref x :: r => k x y r
  | _ => False
def tiir (st : List Value) (k : Nat → Int32 → Int32 → List Value → Prop) : Prop := match st with
  | .int z :: .int y :: .ref x :: r => k x y z r
  | _ => False
def tlir (st : List Value) (k : Nat → Int32 → Int64 → List Value → Prop) : Prop := match st with
  | .long z :: .int y :: .ref x :: r => k x y z r
  | _ => False
def tlr (st : List Value) (k : Nat → Int64 → List Value → Prop) : Prop := match st with
  | .long z :: .ref x :: r => k x z r
  | _ => False
def trr (st : List Value) (k : Nat → Nat → List Value → Prop) : Prop := match st with
  | .ref z :: .ref x :: r => k x z r
  | _ => False
theorem t1i_ok {st : List Value} {k : Int32 → List Value → Prop} (h : t1i st k) : ∃ x r, st = .int x :: r ∧ k x r := by
  unfold t1i at h; split at h
  · exact ⟨_, _, rfl, h⟩
  · exact h.elim
theorem t1l_ok {st : List Value} {k : Int64 → List Value → Prop} (h : t1l st k) : ∃ x r, st = .long x :: r ∧ k x r := by
  unfold t1l at h; split at h
  · exact ⟨_, _, rfl, h⟩
  · exact h.elim
theorem t1r_ok {st : List Value} {k : Nat → List Value → Prop} (h : t1r st k) : ∃ x r, st = .ref x :: r ∧ k x r := by
  unfold t1r at h; split at h
  · exact ⟨_, _, rfl, h⟩
  · exact h.elim
theorem t2i_ok {st : List Value} {k : Int32 → Int32 → List Value → Prop} (h : t2i st k) : ∃ x y r, st = .int y :: .int x :: r ∧ k x y r := by
  unfold t2i at h; split at h
  · exact ⟨_, _, _, rfl, h⟩
  · exact h.elim
theorem t2l_ok {st : List Value} {k : Int64 → Int64 → List Value → Prop} (h : t2l st k) : ∃ x y r, st = .long y :: .long x :: r ∧ k x y r := by
  unfold t2l at h; split at h
  · exact ⟨_, _, _, rfl, h⟩
  · exact h.elim
theorem til_ok {st : List Value} {k : Int64 → Int32 → List Value → Prop} (h : til st k) : ∃ x y r, st = .int y :: .long x :: r ∧ k x y r := by
  unfold til at h; split at h
  · exact ⟨_, _, _, rfl, h⟩
  · exact h.elim
theorem tir_ok {st : List Value} {k : Nat → Int32 → List Value → Prop} (h : tir st k) : ∃ x y r, st = .int y :: .ref x :: r ∧ k x y r := by
  unfold tir at h; split at h
  · exact ⟨_, _, _, rfl, h⟩
  · exact h.elim
theorem tiir_ok {st : List Value} {k : Nat → Int32 → Int32 → List Value → Prop} (h : tiir st k) : ∃ x y z r, st = .int z :: .int y :: .ref x :: r ∧ k x y z r := by
  unfold tiir at h; split at h
  · exact ⟨_, _, _, _, rfl, h⟩
  · exact h.elim
theorem tlir_ok {st : List Value} {k : Nat → Int32 → Int64 → List Value → Prop} (h : tlir st k) : ∃ x y z r, st = .long z :: .int y :: .ref x :: r ∧ k x y z r := by
  unfold tlir at h; split at h
  · exact ⟨_, _, _, _, rfl, h⟩
  · exact h.elim
theorem tlr_ok {st : List Value} {k : Nat → Int64 → List Value → Prop} (h : tlr st k) : ∃ x z r, st = .long z :: .ref x :: r ∧ k x z r := by
  unfold tlr at h; split at h
  · exact ⟨_, _, _, rfl, h⟩
  · exact h.elim
theorem trr_ok {st : List Value} {k : Nat → Nat → List Value → Prop} (h : trr st k) : ∃ x z r, st = .ref z :: .ref x :: r ∧ k x z r := by
  unfold trr at h; split at h
  · exact ⟨_, _, _, rfl, h⟩
  · exact h.elim
def t1d (st : List Value) (k : Value → List Value → Prop) : Prop := match st with
  | .int x :: r => k (.int x) r
  | .ref x :: r => k (.ref x) r
  | _ => False
theorem t1d_ok {st : List Value} {k : Value → List Value → Prop} (h : t1d st k) : (∃ x r, st = .int x :: r ∧ k (.int x) r) ∨ ∃ x r, st = .ref x :: r ∧ k (.ref x) r := by
  unfold t1d at h; split at h
  · exact Or.inl ⟨_, _, rfl, h⟩
  · exact Or.inr ⟨_, _, rfl, h⟩
  · exact h.elim
def zif (b : Bool) (p : Prop) : Prop := match b with
  | true => p
  | false => False
theorem zif_ok {b : Bool} {p : Prop} (h : zif b p) : b = true ∧ p := by
  cases b
  · exact h.elim
  · exact ⟨rfl, h⟩
/-- numbers: what an int instruction of two operands answers -/
def zb2 (a : Nat) (x y : Int32) : Int32 := match a with
  | 0 => x + y
  | 1 => x - y
  | 2 => x * y
  | 3 => x &&& y
  | 4 => x ||| y
  | 5 => x ^^^ y
  | 6 => x <<< (y &&& 31)
  | 7 => x >>> (y &&& 31)
  | 8 => (x.toUInt32 >>> (y.toUInt32 &&& Int32.toUInt32 31)).toInt32
  | 9 => x / y
  | _ => x - x / y * y
def zcp (a : Nat) (x y : Int32) : Prop := match a with
  | 0 => x = y
  | 1 => x < y
  | _ => y < x
/-- writes -/
def zu {α : Type} (F : Nat → Nat → α) (c k : Nat) (v : α) : Nat → Nat → α := fun x j => bif x == c && j == k then v else F x j
def zsI (M : zM) (c k : Nat) (v : Int32) : zM := (M.1, M.2.1, M.2.2.1, zu M.2.2.2.1 c k v, M.2.2.2.2)
def zsJ (M : zM) (c k : Nat) (v : Int64) : zM := (M.1, M.2.1, M.2.2.1, M.2.2.2.1, zu M.2.2.2.2 c k v)
def zsR (M : zM) (c k : Nat) (v : Nat) : zM := (M.1, M.2.1, zu M.2.2.1 c k v, M.2.2.2.1, M.2.2.2.2)
/-- a new cell, all of it 0 -/
def znew (M : zM) (kd : Nat × Nat) : zM := (M.1 + 1, fun x => bif x == M.1 then kd else M.2.1 x, fun x j => bif x == M.1 then 0 else M.2.2.1 x j, fun x j => bif x == M.1 then 0 else M.2.2.2.1 x j, fun x j => bif x == M.1 then 0 else M.2.2.2.2 x j)
def zisk (M : zM) (c a b : Nat) : Bool := (M.2.1 c).1 == a && (M.2.1 c).2 == b
def zfin (ci k : Nat) : Bool := match zcl[ci]? with
  | some q => (q.2.1 k).2.2.2
  | none => true
def zpick : List Nat → Nat → Nat → Nat
  | [], _, d => d
  | t :: _, 0, _ => t
  | _ :: r, n + 1, d => zpick r n d
/-- what an instruction does -/
def zst (d : Nat) (f : zF) (e : zI) (mc ms : Nat) (M : zM) (lo : List (Nat × Value)) (st : List Value) (K : Nat → Nat → zM → Nat → List (Nat × Value) → List Value → Prop) (Q : zR → zM → Prop) : Prop := match e with
  | (0, _, _, x, nx, _) => K mc ms M nx lo (.int x :: st)
  | (1, a, _, _, nx, _) => K mc ms M nx lo (.long (Int64.ofNat a) :: st)
  | (2, a, _, _, nx, _) => match zlk lo a with
    | some (.int x) => K mc ms M nx lo (.int x :: st)
    | _ => False
  | (3, a, _, _, nx, _) => match zlk lo a with
    | some (.long x) => K mc ms M nx lo (.long x :: st)
    | _ => False
  | (4, a, _, _, nx, _) => match zlk lo a with
    | some (.ref x) => K mc ms M nx lo (.ref x :: st)
    | _ => False
  | (5, a, _, _, nx, _) => t1i st (fun x r => zif (Nat.blt a f.2.2.2.1) (K mc ms M nx (zup lo a (.int x)) r))
  | (6, a, _, _, nx, _) => t1l st (fun x r => zif (Nat.blt (a + 1) f.2.2.2.1) (K mc ms M nx (zup2 lo a (.long x)) r))
  | (7, a, _, _, nx, _) => t1r st (fun x r => zif (Nat.blt a f.2.2.2.1) (K mc ms M nx (zup lo a (.ref x)) r))
  | (8, a, _, x, nx, _) => match zlk lo a with
    | some (.int y) => zif (Nat.blt a f.2.2.2.1) (K mc ms M nx (zup lo a (.int (y + x))) st)
    | _ => False
  | (9, 9, _, _, nx, _) => t2i st (fun x y r => ¬ y = 0 ∧ K mc ms M nx lo (.int (x / y) :: r))
  | (9, 10, _, _, nx, _) => t2i st (fun x y r => ¬ y = 0 ∧ K mc ms M nx lo (.int (x - x / y * y) :: r))
  | (9, a, _, _, nx, _) => t2i st (fun x y r => K mc ms M nx lo (.int (zb2 a x y) :: r))
  | (10, 0, _, _, nx, _) => t1i st (fun x r => K mc ms M nx lo (.long x.toInt64 :: r))
  | (10, _, _, _, nx, _) => t1i st (fun x r => K mc ms M nx lo (.int x.toInt8.toInt32 :: r))
  | (11, 0, _, _, nx, _) => t2l st (fun x y r => K mc ms M nx lo (.long (x ||| y) :: r))
  | (11, 1, _, _, nx, _) => t2l st (fun x y r => K mc ms M nx lo (.long (x - y) :: r))
  | (11, 2, _, _, nx, _) => t2l st (fun x y r => K mc ms M nx lo (.int (lg_cmp x y) :: r))
  | (11, _, _, _, nx, _) => til st (fun x y r => K mc ms M nx lo (.long (x <<< (y.toInt64 &&& 63)) :: r))
  | (12, _, _, _, nx, _) => t1d st (fun v r => K mc ms M nx lo (v :: v :: r))
  | (13, _, _, _, nx, _) => tir st (fun x y r => K mc ms M nx lo (.int y :: .ref x :: .int y :: .ref x :: r))
  | (14, _, _, _, nx, _) => t1i st (fun _ r => K mc ms M nx lo r)
  | (15, _, _, _, nx, _) => K mc ms M nx lo st
  | (16, a, b, _, nx, _) => t2i st (fun x y r => (zcp a x y → K mc ms M b lo r) ∧ (¬ zcp a x y → K mc ms M nx lo r))
  | (17, a, b, _, nx, _) => t1i st (fun x r => (zcp a x 0 → K mc ms M b lo r) ∧ (¬ zcp a x 0 → K mc ms M nx lo r))
  | (18, a, b, _, nx, _) => t1r st (fun c r => zif (zisk M c 0 a) (K mc ms M nx lo (zfv M a c b :: r)))
  | (19, a, b, _, nx, _) => match tyT a b with
    | .int => tir st (fun c x r => zif (zisk M c 0 a && !zfin a b) (K mc ms (zsI M c b x) nx lo r))
    | .boolean => tir st (fun c x r => zif (zisk M c 0 a && !zfin a b) ((x = 0 ∨ x = 1) ∧ K mc ms (zsI M c b x) nx lo r))
    | .long => tlr st (fun c x r => zif (zisk M c 0 a && !zfin a b) (K mc ms (zsJ M c b x) nx lo r))
    | .object _ => trr st (fun c x r => zif (zisk M c 0 a && (zfin a b && (f.2.2.2.2.2 && Nat.beq f.1 a))) (K mc ms (zsR M c b (x + 1)) nx lo r))
    | .array _ => trr st (fun c x r => zif (zisk M c 0 a && (zfin a b && (f.2.2.2.2.2 && Nat.beq f.1 a))) (K mc ms (zsR M c b (x + 1)) nx lo r))
    | _ => False
  | (20, _, _, _, nx, _) => tir st (fun c i r => zif ((M.2.1 c).1 == 1) (vp_in i (M.2.1 c).2 ∧ K mc ms M nx lo (.int (M.2.2.2.1 c i.toNatClampNeg) :: r)))
  | (21, _, _, _, nx, _) => tiir st (fun c i x r => zif ((M.2.1 c).1 == 1) (vp_in i (M.2.1 c).2 ∧ K mc ms (zsI M c i.toNatClampNeg x) nx lo r))
  | (22, _, _, _, nx, _) => tir st (fun c i r => zif ((M.2.1 c).1 == 2) (vp_in i (M.2.1 c).2 ∧ K mc ms M nx lo (.int (M.2.2.2.1 c i.toNatClampNeg) :: r)))
  | (23, _, _, _, nx, _) => tiir st (fun c i x r => zif ((M.2.1 c).1 == 2) (vp_in i (M.2.1 c).2 ∧ K mc ms (zsI M c i.toNatClampNeg x.toInt8.toInt32) nx lo r))
  | (24, _, _, _, nx, _) => tir st (fun c i r => zif ((M.2.1 c).1 == 3) (vp_in i (M.2.1 c).2 ∧ K mc ms M nx lo (.long (M.2.2.2.2 c i.toNatClampNeg) :: r)))
  | (25, _, _, _, nx, _) => tlir st (fun c i x r => zif ((M.2.1 c).1 == 3) (vp_in i (M.2.1 c).2 ∧ K mc ms (zsJ M c i.toNatClampNeg x) nx lo r))
  | (26, _, _, _, nx, _) => t1r st (fun c r => zif ((M.2.1 c).1 == 1 || (M.2.1 c).1 == 2) (K mc ms M nx lo (.int (Int32.ofNat (M.2.1 c).2) :: r)))
  | (27, _, _, _, _, _) => t1i st (fun x r => r = [] ∧ match f.2.2.1 with
    | some .int => Q (.inl (some (.int x))) M
    | some .boolean => (x = 0 ∨ x = 1) ∧ Q (.inl (some (.int x))) M
    | _ => False)
  | (28, _, _, _, _, _) => t1l st (fun x r => r = [] ∧ match f.2.2.1 with
    | some .long => Q (.inl (some (.long x))) M
    | _ => False)
  | (29, _, _, _, _, _) => st = [] ∧ f.2.2.1 = none ∧ Q (.inl none) M
  | (30, a, b, _, nx, _) => zif (Nat.ble 1 mc && Nat.ble b ms && Nat.blt (M.1 + 1) 100000) (K (mc - 1) (ms - b) (znew M (0, a)) nx lo (.ref M.1 :: st))
  | (31, a, _, _, nx, _) => t1i st (fun n r => zif (Nat.ble 1 a && Nat.ble a 3 && Nat.ble 1 mc && Nat.ble n.toNatClampNeg ms && Nat.ble n.toNatClampNeg 1000000 && decide (¬ n < 0) && Nat.blt (M.1 + 1) 100000) (K (mc - 1) (ms - n.toNatClampNeg) (znew M (a, n.toNatClampNeg)) nx lo (.ref M.1 :: r)))
  | (32, _, b, _, _, ts) => t1i st (fun x r => (∀ k : Nat, k < ts.length → x = Int32.ofNat k → K mc ms M (zpick ts k b) lo r) ∧ ((x < 0 ∨ Int32.ofNat ts.length ≤ x) → K mc ms M b lo r))
  | (35, _, _, _, nx, _) => t1r st (fun _ r => zif (Nat.ble 1 d && Nat.ble ((r.map Value.category).sum) 8) (K mc ms M nx lo r))
  | _ => False
end
section
section
variable {l : Launch} {d mc ms : Nat} {f : zF} {M : zM} {pc : Nat} {lo : List (Nat × Value)} {st : List Value} {Q : zR → zM → Prop}
theorem zs_iconst {n : Int} (hd : decode f.2.1 pc = .ok (.iconst n, 1)) (h : zGo l d mc ms f M (pc + 1) lo (.int (Int32.ofInt n) :: st) Q) : zGo l d mc ms f M pc lo (st) Q := by
  intro g p e R s m args below meth c H locs cells slots ls hC a2 a3 a4 a5 a6 a7 a8
  exact lv_iconst hC.1 hC.2.1 hd rfl (h g p e R s m args below meth c H locs cells slots ls hC a2 a3 a4 a5 a6 a7 a8)
theorem zs_bipush {n : Int} (hd : decode f.2.1 pc = .ok (.bipush n, 2)) (h : zGo l d mc ms f M (pc + 2) lo (.int ((Int8.ofInt n).toInt32) :: st) Q) : zGo l d mc ms f M pc lo (st) Q := by
  intro g p e R s m args below meth c H locs cells slots ls hC a2 a3 a4 a5 a6 a7 a8
  exact lv_bipush hC.1 hC.2.1 hd rfl (h g p e R s m args below meth c H locs cells slots ls hC a2 a3 a4 a5 a6 a7 a8)
theorem zs_sipush {n : Int} (hd : decode f.2.1 pc = .ok (.sipush n, 3)) (h : zGo l d mc ms f M (pc + 3) lo (.int ((Int16.ofInt n).toInt32) :: st) Q) : zGo l d mc ms f M pc lo (st) Q := by
  intro g p e R s m args below meth c H locs cells slots ls hC a2 a3 a4 a5 a6 a7 a8
  exact lv_sipush hC.1 hC.2.1 hd rfl (h g p e R s m args below meth c H locs cells slots ls hC a2 a3 a4 a5 a6 a7 a8)
theorem zs_ldc {i : Nat} {v : Int32} (hv : zcv f.1 i = some v) (hd : decode f.2.1 pc = .ok (.ldc i, 2)) (h : zGo l d mc ms f M (pc + 2) lo (.int v :: st) Q) : zGo l d mc ms f M pc lo (st) Q := by
  intro g p e R s m args below meth c H locs cells slots ls hC a2 a3 a4 a5 a6 a7 a8
  exact lv_ldc hC.1 hC.2.1 hC.2.2.2.2.1 (hC.2.2.2.2.2.2.1 _ (zcv_ok hv)) hd (h g p e R s m args below meth c H locs cells slots ls hC a2 a3 a4 a5 a6 a7 a8)
theorem zs_ldcw {i : Nat} {v : Int32} (hv : zcv f.1 i = some v) (hd : decode f.2.1 pc = .ok (.ldc_w i, 3)) (h : zGo l d mc ms f M (pc + 3) lo (.int v :: st) Q) : zGo l d mc ms f M pc lo (st) Q := by
  intro g p e R s m args below meth c H locs cells slots ls hC a2 a3 a4 a5 a6 a7 a8
  exact lv_ldcw hC.1 hC.2.1 hC.2.2.2.2.1 (hC.2.2.2.2.2.2.1 _ (zcv_ok hv)) hd (h g p e R s m args below meth c H locs cells slots ls hC a2 a3 a4 a5 a6 a7 a8)
theorem zs_lconst {n : Fin 2} (hd : decode f.2.1 pc = .ok (.lconst n, 1)) (h : zGo l d mc ms f M (pc + 1) lo (.long (Int64.ofNat n.val) :: st) Q) : zGo l d mc ms f M pc lo (st) Q := by
  intro g p e R s m args below meth c H locs cells slots ls hC a2 a3 a4 a5 a6 a7 a8
  exact lv_lconst hC.1 hC.2.1 hd rfl (h g p e R s m args below meth c H locs cells slots ls hC a2 a3 a4 a5 a6 a7 a8)
theorem zs_ldc2 (ho : f.1 = 12) (hd : decode f.2.1 pc = .ok (.ldc2_w 177, 3)) (h : zGo l d mc ms f M (pc + 3) lo (.long (Int64.ofNat 96) :: st) Q) : zGo l d mc ms f M pc lo (st) Q := by
  intro g p e R s m args below meth c H locs cells slots ls hC a2 a3 a4 a5 a6 a7 a8
  exact lv_ldc2 (v := 96) hC.1 hC.2.1 hC.2.2.2.2.1 (by rw [ho]; exact hC.2.2.2.2.2.2.1 _ zkl) hd (h g p e R s m args below meth c H locs cells slots ls hC a2 a3 a4 a5 a6 a7 a8)
theorem zs_iload {i : Nat} {x : Int32} (hx : zlk lo i = some (.int x)) (hd : decode f.2.1 pc = .ok (.iload i, 2)) (h : zGo l d mc ms f M (pc + 2) lo (.int x :: st) Q) : zGo l d mc ms f M pc lo (st) Q := by
  intro g p e R s m args below meth c H locs cells slots ls hC a2 a3 a4 a5 a6 a7 a8
  exact lv_iload hC.1 hC.2.1 hd (zlv a8 hx) (h g p e R s m args below meth c H locs cells slots ls hC a2 a3 a4 a5 a6 a7 a8)
theorem zs_iload_n {k : Fin 4} {x : Int32} (hx : zlk lo k.val = some (.int x)) (hd : decode f.2.1 pc = .ok (.iload_n k, 1)) (h : zGo l d mc ms f M (pc + 1) lo (.int x :: st) Q) : zGo l d mc ms f M pc lo (st) Q := by
  intro g p e R s m args below meth c H locs cells slots ls hC a2 a3 a4 a5 a6 a7 a8
  exact lv_iload_n hC.1 hC.2.1 hd rfl (zlv a8 hx) (h g p e R s m args below meth c H locs cells slots ls hC a2 a3 a4 a5 a6 a7 a8)
theorem zs_lload {i : Nat} {x : Int64} (hx : zlk lo i = some (.long x)) (hd : decode f.2.1 pc = .ok (.lload i, 2)) (h : zGo l d mc ms f M (pc + 2) lo (.long x :: st) Q) : zGo l d mc ms f M pc lo (st) Q := by
  intro g p e R s m args below meth c H locs cells slots ls hC a2 a3 a4 a5 a6 a7 a8
  exact lv_lload hC.1 hC.2.1 hd (zlv a8 hx) (h g p e R s m args below meth c H locs cells slots ls hC a2 a3 a4 a5 a6 a7 a8)
theorem zs_aload {i : Nat} {x : Nat} (hx : zlk lo i = some (.ref x)) (hd : decode f.2.1 pc = .ok (.aload i, 2)) (h : zGo l d mc ms f M (pc + 2) lo (.ref x :: st) Q) : zGo l d mc ms f M pc lo (st) Q := by
  intro g p e R s m args below meth c H locs cells slots ls hC a2 a3 a4 a5 a6 a7 a8
  exact lv_aload hC.1 hC.2.1 hd (zlv a8 hx) (h g p e R s m args below meth c H locs cells slots ls hC a2 a3 a4 a5 a6 a7 a8)
theorem zs_aload_n {k : Fin 4} {x : Nat} (hx : zlk lo k.val = some (.ref x)) (hd : decode f.2.1 pc = .ok (.aload_n k, 1)) (h : zGo l d mc ms f M (pc + 1) lo (.ref x :: st) Q) : zGo l d mc ms f M pc lo (st) Q := by
  intro g p e R s m args below meth c H locs cells slots ls hC a2 a3 a4 a5 a6 a7 a8
  exact lv_aload_n hC.1 hC.2.1 hd rfl (zlv a8 hx) (h g p e R s m args below meth c H locs cells slots ls hC a2 a3 a4 a5 a6 a7 a8)
theorem zs_iadd {x y : Int32} (hd : decode f.2.1 pc = .ok (.iadd, 1)) (h : zGo l d mc ms f M (pc + 1) lo (.int (x + y) :: st) Q) : zGo l d mc ms f M pc lo (.int y :: .int x :: st) Q := by
  intro g p e R s m args below meth c H locs cells slots ls hC a2 a3 a4 a5 a6 a7 a8
  exact lv_iadd hC.1 hC.2.1 hd (h g p e R s m args below meth c H locs cells slots ls hC a2 a3 a4 a5 a6 a7 a8)
theorem zs_isub {x y : Int32} (hd : decode f.2.1 pc = .ok (.isub, 1)) (h : zGo l d mc ms f M (pc + 1) lo (.int (x - y) :: st) Q) : zGo l d mc ms f M pc lo (.int y :: .int x :: st) Q := by
  intro g p e R s m args below meth c H locs cells slots ls hC a2 a3 a4 a5 a6 a7 a8
  exact lv_isub hC.1 hC.2.1 hd (h g p e R s m args below meth c H locs cells slots ls hC a2 a3 a4 a5 a6 a7 a8)
theorem zs_imul {x y : Int32} (hd : decode f.2.1 pc = .ok (.imul, 1)) (h : zGo l d mc ms f M (pc + 1) lo (.int (x * y) :: st) Q) : zGo l d mc ms f M pc lo (.int y :: .int x :: st) Q := by
  intro g p e R s m args below meth c H locs cells slots ls hC a2 a3 a4 a5 a6 a7 a8
  exact lv_imul hC.1 hC.2.1 hd (h g p e R s m args below meth c H locs cells slots ls hC a2 a3 a4 a5 a6 a7 a8)
theorem zs_iand {x y : Int32} (hd : decode f.2.1 pc = .ok (.iand, 1)) (h : zGo l d mc ms f M (pc + 1) lo (.int (x &&& y) :: st) Q) : zGo l d mc ms f M pc lo (.int y :: .int x :: st) Q := by
  intro g p e R s m args below meth c H locs cells slots ls hC a2 a3 a4 a5 a6 a7 a8
  exact lv_iand hC.1 hC.2.1 hd (h g p e R s m args below meth c H locs cells slots ls hC a2 a3 a4 a5 a6 a7 a8)
theorem zs_ior {x y : Int32} (hd : decode f.2.1 pc = .ok (.ior, 1)) (h : zGo l d mc ms f M (pc + 1) lo (.int (x ||| y) :: st) Q) : zGo l d mc ms f M pc lo (.int y :: .int x :: st) Q := by
  intro g p e R s m args below meth c H locs cells slots ls hC a2 a3 a4 a5 a6 a7 a8
  exact lv_ior hC.1 hC.2.1 hd (h g p e R s m args below meth c H locs cells slots ls hC a2 a3 a4 a5 a6 a7 a8)
theorem zs_ixor {x y : Int32} (hd : decode f.2.1 pc = .ok (.ixor, 1)) (h : zGo l d mc ms f M (pc + 1) lo (.int (x ^^^ y) :: st) Q) : zGo l d mc ms f M pc lo (.int y :: .int x :: st) Q := by
  intro g p e R s m args below meth c H locs cells slots ls hC a2 a3 a4 a5 a6 a7 a8
  exact lv_ixor hC.1 hC.2.1 hd (h g p e R s m args below meth c H locs cells slots ls hC a2 a3 a4 a5 a6 a7 a8)
theorem zs_ishl {x y : Int32} (hd : decode f.2.1 pc = .ok (.ishl, 1)) (h : zGo l d mc ms f M (pc + 1) lo (.int (x <<< (y &&& 31)) :: st) Q) : zGo l d mc ms f M pc lo (.int y :: .int x :: st) Q := by
  intro g p e R s m args below meth c H locs cells slots ls hC a2 a3 a4 a5 a6 a7 a8
  exact lv_ishl hC.1 hC.2.1 hd (h g p e R s m args below meth c H locs cells slots ls hC a2 a3 a4 a5 a6 a7 a8)
theorem zs_ishr {x y : Int32} (hd : decode f.2.1 pc = .ok (.ishr, 1)) (h : zGo l d mc ms f M (pc + 1) lo (.int (x >>> (y &&& 31)) :: st) Q) : zGo l d mc ms f M pc lo (.int y :: .int x :: st) Q := by
  intro g p e R s m args below meth c H locs cells slots ls hC a2 a3 a4 a5 a6 a7 a8
  exact lv_ishr hC.1 hC.2.1 hd (h g p e R s m args below meth c H locs cells slots ls hC a2 a3 a4 a5 a6 a7 a8)
theorem zs_iushr {x y : Int32} (hd : decode f.2.1 pc = .ok (.iushr, 1)) (h : zGo l d mc ms f M (pc + 1) lo (.int ((x.toUInt32 >>> (y.toUInt32 &&& Int32.toUInt32 31)).toInt32) :: st) Q) : zGo l d mc ms f M pc lo (.int y :: .int x :: st) Q := by
  intro g p e R s m args below meth c H locs cells slots ls hC a2 a3 a4 a5 a6 a7 a8
  exact lv_iushr hC.1 hC.2.1 hd rfl (h g p e R s m args below meth c H locs cells slots ls hC a2 a3 a4 a5 a6 a7 a8)
theorem zs_idiv {x y : Int32} (hd : decode f.2.1 pc = .ok (.idiv, 1)) (hn : ¬ y = 0) (h : zGo l d mc ms f M (pc + 1) lo (.int (x / y) :: st) Q) : zGo l d mc ms f M pc lo (.int y :: .int x :: st) Q := by
  intro g p e R s m args below meth c H locs cells slots ls hC a2 a3 a4 a5 a6 a7 a8
  exact lv_idiv hC.1 hC.2.1 hd hn (h g p e R s m args below meth c H locs cells slots ls hC a2 a3 a4 a5 a6 a7 a8)
theorem zs_irem {x y : Int32} (hd : decode f.2.1 pc = .ok (.irem, 1)) (hn : ¬ y = 0) (h : zGo l d mc ms f M (pc + 1) lo (.int (x - x / y * y) :: st) Q) : zGo l d mc ms f M pc lo (.int y :: .int x :: st) Q := by
  intro g p e R s m args below meth c H locs cells slots ls hC a2 a3 a4 a5 a6 a7 a8
  exact lv_irem hC.1 hC.2.1 hd hn (h g p e R s m args below meth c H locs cells slots ls hC a2 a3 a4 a5 a6 a7 a8)
theorem zs_i2l {x : Int32} (hd : decode f.2.1 pc = .ok (.i2l, 1)) (h : zGo l d mc ms f M (pc + 1) lo (.long x.toInt64 :: st) Q) : zGo l d mc ms f M pc lo (.int x :: st) Q := by
  intro g p e R s m args below meth c H locs cells slots ls hC a2 a3 a4 a5 a6 a7 a8
  exact lv_i2l hC.1 hC.2.1 hd rfl (h g p e R s m args below meth c H locs cells slots ls hC a2 a3 a4 a5 a6 a7 a8)
theorem zs_i2b {x : Int32} (hd : decode f.2.1 pc = .ok (.i2b, 1)) (h : zGo l d mc ms f M (pc + 1) lo (.int x.toInt8.toInt32 :: st) Q) : zGo l d mc ms f M pc lo (.int x :: st) Q := by
  intro g p e R s m args below meth c H locs cells slots ls hC a2 a3 a4 a5 a6 a7 a8
  exact lv_i2b hC.1 hC.2.1 hd rfl (h g p e R s m args below meth c H locs cells slots ls hC a2 a3 a4 a5 a6 a7 a8)
theorem zs_lor {x y : Int64} (hd : decode f.2.1 pc = .ok (.lor, 1)) (h : zGo l d mc ms f M (pc + 1) lo (.long (x ||| y) :: st) Q) : zGo l d mc ms f M pc lo (.long y :: .long x :: st) Q := by
  intro g p e R s m args below meth c H locs cells slots ls hC a2 a3 a4 a5 a6 a7 a8
  exact lv_lor hC.1 hC.2.1 hd (h g p e R s m args below meth c H locs cells slots ls hC a2 a3 a4 a5 a6 a7 a8)
theorem zs_lsub {x y : Int64} (hd : decode f.2.1 pc = .ok (.lsub, 1)) (h : zGo l d mc ms f M (pc + 1) lo (.long (x - y) :: st) Q) : zGo l d mc ms f M pc lo (.long y :: .long x :: st) Q := by
  intro g p e R s m args below meth c H locs cells slots ls hC a2 a3 a4 a5 a6 a7 a8
  exact lv_lsub hC.1 hC.2.1 hd (h g p e R s m args below meth c H locs cells slots ls hC a2 a3 a4 a5 a6 a7 a8)
theorem zs_lcmp {x y : Int64} (hd : decode f.2.1 pc = .ok (.lcmp, 1)) (h : zGo l d mc ms f M (pc + 1) lo (.int (lg_cmp x y) :: st) Q) : zGo l d mc ms f M pc lo (.long y :: .long x :: st) Q := by
  intro g p e R s m args below meth c H locs cells slots ls hC a2 a3 a4 a5 a6 a7 a8
  exact W.lcmp hC.1 hC.2.1 hd (h g p e R s m args below meth c H locs cells slots ls hC a2 a3 a4 a5 a6 a7 a8)
theorem zs_lshl {x : Int64} {y : Int32} (hd : decode f.2.1 pc = .ok (.lshl, 1)) (h : zGo l d mc ms f M (pc + 1) lo (.long (x <<< (y.toInt64 &&& 63)) :: st) Q) : zGo l d mc ms f M pc lo (.int y :: .long x :: st) Q := by
  intro g p e R s m args below meth c H locs cells slots ls hC a2 a3 a4 a5 a6 a7 a8
  exact lv_lshl hC.1 hC.2.1 hd rfl (h g p e R s m args below meth c H locs cells slots ls hC a2 a3 a4 a5 a6 a7 a8)
theorem zs_dupi {x : Int32} (hd : decode f.2.1 pc = .ok (.dup, 1)) (h : zGo l d mc ms f M (pc + 1) lo (.int x :: .int x :: st) Q) : zGo l d mc ms f M pc lo (.int x :: st) Q := by
  intro g p e R s m args below meth c H locs cells slots ls hC a2 a3 a4 a5 a6 a7 a8
  exact lv_dup hC.1 hC.2.1 hd rfl (h g p e R s m args below meth c H locs cells slots ls hC a2 a3 a4 a5 a6 a7 a8)
theorem zs_dupr {x : Nat} (hd : decode f.2.1 pc = .ok (.dup, 1)) (h : zGo l d mc ms f M (pc + 1) lo (.ref x :: .ref x :: st) Q) : zGo l d mc ms f M pc lo (.ref x :: st) Q := by
  intro g p e R s m args below meth c H locs cells slots ls hC a2 a3 a4 a5 a6 a7 a8
  exact lv_dup hC.1 hC.2.1 hd rfl (h g p e R s m args below meth c H locs cells slots ls hC a2 a3 a4 a5 a6 a7 a8)
theorem zs_dup2 {x : Nat} {y : Int32} (hd : decode f.2.1 pc = .ok (.dup2, 1)) (h : zGo l d mc ms f M (pc + 1) lo (.int y :: .ref x :: .int y :: .ref x :: st) Q) : zGo l d mc ms f M pc lo (.int y :: .ref x :: st) Q := by
  intro g p e R s m args below meth c H locs cells slots ls hC a2 a3 a4 a5 a6 a7 a8
  exact lv_dup2_11 hC.1 hC.2.1 hd rfl rfl (h g p e R s m args below meth c H locs cells slots ls hC a2 a3 a4 a5 a6 a7 a8)
theorem zs_popi {x : Int32} (hd : decode f.2.1 pc = .ok (.pop, 1)) (h : zGo l d mc ms f M (pc + 1) lo (st) Q) : zGo l d mc ms f M pc lo (.int x :: st) Q := by
  intro g p e R s m args below meth c H locs cells slots ls hC a2 a3 a4 a5 a6 a7 a8
  exact lv_pop (va := .int x) hC.1 hC.2.1 hd rfl (h g p e R s m args below meth c H locs cells slots ls hC a2 a3 a4 a5 a6 a7 a8)
theorem zs_goto {off : Int} (hd : decode f.2.1 pc = .ok (.goto off, 3)) (hg : zgo pc off = true) (h : zGo l d mc ms f M (ztg pc off) lo st Q) : zGo l d mc ms f M pc lo st Q := by
  intro g p e R s m args below meth c H locs cells slots ls hC a2 a3 a4 a5 a6 a7 a8
  exact lv_goto hC.1 hC.2.1 hd (ztg_ok hg) (h g p e R s m args below meth c H locs cells slots ls hC a2 a3 a4 a5 a6 a7 a8)
theorem zs_icmp_eq {x y : Int32} {off : Int} (hd : decode f.2.1 pc = .ok (.if_icmp .eq off, 3)) (hg : zgo pc off = true) (h : (zcp 0 x y → zGo l d mc ms f M (ztg pc off) lo st Q) ∧ (¬ zcp 0 x y → zGo l d mc ms f M (pc + 3) lo st Q)) : zGo l d mc ms f M pc lo (.int y :: .int x :: st) Q := by
  intro g p e R s m args below meth c H locs cells slots ls hC a2 a3 a4 a5 a6 a7 a8
  exact lv_icmp_eq hC.1 hC.2.1 hd (ztg_ok hg) (fun z => h.1 z g p e R s m args below meth c H locs cells slots ls hC a2 a3 a4 a5 a6 a7 a8) (fun z => h.2 z g p e R s m args below meth c H locs cells slots ls hC a2 a3 a4 a5 a6 a7 a8)
theorem zs_if_eq {x : Int32} {off : Int} (hd : decode f.2.1 pc = .ok (.ifCond .eq off, 3)) (hg : zgo pc off = true) (h : (zcp 0 x 0 → zGo l d mc ms f M (ztg pc off) lo st Q) ∧ (¬ zcp 0 x 0 → zGo l d mc ms f M (pc + 3) lo st Q)) : zGo l d mc ms f M pc lo (.int x :: st) Q := by
  intro g p e R s m args below meth c H locs cells slots ls hC a2 a3 a4 a5 a6 a7 a8
  exact lv_if_eq hC.1 hC.2.1 hd (ztg_ok hg) (fun z => h.1 z g p e R s m args below meth c H locs cells slots ls hC a2 a3 a4 a5 a6 a7 a8) (fun z => h.2 z g p e R s m args below meth c H locs cells slots ls hC a2 a3 a4 a5 a6 a7 a8)
theorem zs_icmp_ne {x y : Int32} {off : Int} (hd : decode f.2.1 pc = .ok (.if_icmp .ne off, 3)) (hg : zgo pc off = true) (h : (zcp 0 x y → zGo l d mc ms f M (pc + 3) lo st Q) ∧ (¬ zcp 0 x y → zGo l d mc ms f M (ztg pc off) lo st Q)) : zGo l d mc ms f M pc lo (.int y :: .int x :: st) Q := by
  intro g p e R s m args below meth c H locs cells slots ls hC a2 a3 a4 a5 a6 a7 a8
  exact lv_icmp_ne hC.1 hC.2.1 hd (ztg_ok hg) (fun z => h.2 z g p e R s m args below meth c H locs cells slots ls hC a2 a3 a4 a5 a6 a7 a8) (fun z => h.1 z g p e R s m args below meth c H locs cells slots ls hC a2 a3 a4 a5 a6 a7 a8)
theorem zs_if_ne {x : Int32} {off : Int} (hd : decode f.2.1 pc = .ok (.ifCond .ne off, 3)) (hg : zgo pc off = true) (h : (zcp 0 x 0 → zGo l d mc ms f M (pc + 3) lo st Q) ∧ (¬ zcp 0 x 0 → zGo l d mc ms f M (ztg pc off) lo st Q)) : zGo l d mc ms f M pc lo (.int x :: st) Q := by
  intro g p e R s m args below meth c H locs cells slots ls hC a2 a3 a4 a5 a6 a7 a8
  exact lv_if_ne hC.1 hC.2.1 hd (ztg_ok hg) (fun z => h.2 z g p e R s m args below meth c H locs cells slots ls hC a2 a3 a4 a5 a6 a7 a8) (fun z => h.1 z g p e R s m args below meth c H locs cells slots ls hC a2 a3 a4 a5 a6 a7 a8)
theorem zs_icmp_lt {x y : Int32} {off : Int} (hd : decode f.2.1 pc = .ok (.if_icmp .lt off, 3)) (hg : zgo pc off = true) (h : (zcp 1 x y → zGo l d mc ms f M (ztg pc off) lo st Q) ∧ (¬ zcp 1 x y → zGo l d mc ms f M (pc + 3) lo st Q)) : zGo l d mc ms f M pc lo (.int y :: .int x :: st) Q := by
  intro g p e R s m args below meth c H locs cells slots ls hC a2 a3 a4 a5 a6 a7 a8
  exact lv_icmp_lt hC.1 hC.2.1 hd (ztg_ok hg) (fun z => h.1 z g p e R s m args below meth c H locs cells slots ls hC a2 a3 a4 a5 a6 a7 a8) (fun z => h.2 z g p e R s m args below meth c H locs cells slots ls hC a2 a3 a4 a5 a6 a7 a8)
theorem zs_if_lt {x : Int32} {off : Int} (hd : decode f.2.1 pc = .ok (.ifCond .lt off, 3)) (hg : zgo pc off = true) (h : (zcp 1 x 0 → zGo l d mc ms f M (ztg pc off) lo st Q) ∧ (¬ zcp 1 x 0 → zGo l d mc ms f M (pc + 3) lo st Q)) : zGo l d mc ms f M pc lo (.int x :: st) Q := by
  intro g p e R s m args below meth c H locs cells slots ls hC a2 a3 a4 a5 a6 a7 a8
  exact lv_if_lt hC.1 hC.2.1 hd (ztg_ok hg) (fun z => h.1 z g p e R s m args below meth c H locs cells slots ls hC a2 a3 a4 a5 a6 a7 a8) (fun z => h.2 z g p e R s m args below meth c H locs cells slots ls hC a2 a3 a4 a5 a6 a7 a8)
theorem zs_icmp_ge {x y : Int32} {off : Int} (hd : decode f.2.1 pc = .ok (.if_icmp .ge off, 3)) (hg : zgo pc off = true) (h : (zcp 1 x y → zGo l d mc ms f M (pc + 3) lo st Q) ∧ (¬ zcp 1 x y → zGo l d mc ms f M (ztg pc off) lo st Q)) : zGo l d mc ms f M pc lo (.int y :: .int x :: st) Q := by
  intro g p e R s m args below meth c H locs cells slots ls hC a2 a3 a4 a5 a6 a7 a8
  exact lv_icmp_ge hC.1 hC.2.1 hd (ztg_ok hg) (fun z => h.2 (Int32.not_lt.mpr z) g p e R s m args below meth c H locs cells slots ls hC a2 a3 a4 a5 a6 a7 a8) (fun z => h.1 (Int32.not_le.mp z) g p e R s m args below meth c H locs cells slots ls hC a2 a3 a4 a5 a6 a7 a8)
theorem zs_if_ge {x : Int32} {off : Int} (hd : decode f.2.1 pc = .ok (.ifCond .ge off, 3)) (hg : zgo pc off = true) (h : (zcp 1 x 0 → zGo l d mc ms f M (pc + 3) lo st Q) ∧ (¬ zcp 1 x 0 → zGo l d mc ms f M (ztg pc off) lo st Q)) : zGo l d mc ms f M pc lo (.int x :: st) Q := by
  intro g p e R s m args below meth c H locs cells slots ls hC a2 a3 a4 a5 a6 a7 a8
  exact lv_if_ge hC.1 hC.2.1 hd (ztg_ok hg) (fun z => h.2 (Int32.not_lt.mpr z) g p e R s m args below meth c H locs cells slots ls hC a2 a3 a4 a5 a6 a7 a8) (fun z => h.1 (Int32.not_le.mp z) g p e R s m args below meth c H locs cells slots ls hC a2 a3 a4 a5 a6 a7 a8)
theorem zs_icmp_gt {x y : Int32} {off : Int} (hd : decode f.2.1 pc = .ok (.if_icmp .gt off, 3)) (hg : zgo pc off = true) (h : (zcp 2 x y → zGo l d mc ms f M (ztg pc off) lo st Q) ∧ (¬ zcp 2 x y → zGo l d mc ms f M (pc + 3) lo st Q)) : zGo l d mc ms f M pc lo (.int y :: .int x :: st) Q := by
  intro g p e R s m args below meth c H locs cells slots ls hC a2 a3 a4 a5 a6 a7 a8
  exact lv_icmp_gt hC.1 hC.2.1 hd (ztg_ok hg) (fun z => h.1 z g p e R s m args below meth c H locs cells slots ls hC a2 a3 a4 a5 a6 a7 a8) (fun z => h.2 z g p e R s m args below meth c H locs cells slots ls hC a2 a3 a4 a5 a6 a7 a8)
theorem zs_if_gt {x : Int32} {off : Int} (hd : decode f.2.1 pc = .ok (.ifCond .gt off, 3)) (hg : zgo pc off = true) (h : (zcp 2 x 0 → zGo l d mc ms f M (ztg pc off) lo st Q) ∧ (¬ zcp 2 x 0 → zGo l d mc ms f M (pc + 3) lo st Q)) : zGo l d mc ms f M pc lo (.int x :: st) Q := by
  intro g p e R s m args below meth c H locs cells slots ls hC a2 a3 a4 a5 a6 a7 a8
  exact lv_if_gt hC.1 hC.2.1 hd (ztg_ok hg) (fun z => h.1 z g p e R s m args below meth c H locs cells slots ls hC a2 a3 a4 a5 a6 a7 a8) (fun z => h.2 z g p e R s m args below meth c H locs cells slots ls hC a2 a3 a4 a5 a6 a7 a8)
theorem zs_icmp_le {x y : Int32} {off : Int} (hd : decode f.2.1 pc = .ok (.if_icmp .le off, 3)) (hg : zgo pc off = true) (h : (zcp 2 x y → zGo l d mc ms f M (pc + 3) lo st Q) ∧ (¬ zcp 2 x y → zGo l d mc ms f M (ztg pc off) lo st Q)) : zGo l d mc ms f M pc lo (.int y :: .int x :: st) Q := by
  intro g p e R s m args below meth c H locs cells slots ls hC a2 a3 a4 a5 a6 a7 a8
  exact lv_icmp_le hC.1 hC.2.1 hd (ztg_ok hg) (fun z => h.2 (Int32.not_lt.mpr z) g p e R s m args below meth c H locs cells slots ls hC a2 a3 a4 a5 a6 a7 a8) (fun z => h.1 (Int32.not_le.mp z) g p e R s m args below meth c H locs cells slots ls hC a2 a3 a4 a5 a6 a7 a8)
theorem zs_if_le {x : Int32} {off : Int} (hd : decode f.2.1 pc = .ok (.ifCond .le off, 3)) (hg : zgo pc off = true) (h : (zcp 2 x 0 → zGo l d mc ms f M (pc + 3) lo st Q) ∧ (¬ zcp 2 x 0 → zGo l d mc ms f M (ztg pc off) lo st Q)) : zGo l d mc ms f M pc lo (.int x :: st) Q := by
  intro g p e R s m args below meth c H locs cells slots ls hC a2 a3 a4 a5 a6 a7 a8
  exact lv_if_le hC.1 hC.2.1 hd (ztg_ok hg) (fun z => h.2 (Int32.not_lt.mpr z) g p e R s m args below meth c H locs cells slots ls hC a2 a3 a4 a5 a6 a7 a8) (fun z => h.1 (Int32.not_le.mp z) g p e R s m args below meth c H locs cells slots ls hC a2 a3 a4 a5 a6 a7 a8)
theorem zs_istore {i : Nat} {x : Int32} (hd : decode f.2.1 pc = .ok (.istore i, 2)) (hi : Nat.blt i f.2.2.2.1 = true) (h : zGo l d mc ms f M (pc + 2) (zup lo i (.int x)) st Q) : zGo l d mc ms f M pc lo (.int x :: st) Q := by
  intro g p e R s m args below meth c H locs cells slots ls hC a2 a3 a4 a5 a6 a7 a8
  refine lv_istore hC.1 hC.2.1 hd a8 (Nat.blt_eq.mp hi) rfl (fun ls' hl => h g p e R s m args below meth c H locs cells slots ls' hC a2 a3 a4 a5 a6 a7 ?_)
  rw [zlm_filter] at hl
  exact zlm_zin (v := .int x) hl
theorem zs_istore_n {k : Fin 4} {x : Int32} (hd : decode f.2.1 pc = .ok (.istore_n k, 1)) (hi : Nat.blt k.val f.2.2.2.1 = true) (h : zGo l d mc ms f M (pc + 1) (zup lo k.val (.int x)) st Q) : zGo l d mc ms f M pc lo (.int x :: st) Q := by
  intro g p e R s m args below meth c H locs cells slots ls hC a2 a3 a4 a5 a6 a7 a8
  refine lv_istore_n hC.1 hC.2.1 hd rfl a8 (Nat.blt_eq.mp hi) rfl (fun ls' hl => h g p e R s m args below meth c H locs cells slots ls' hC a2 a3 a4 a5 a6 a7 ?_)
  rw [zlm_filter] at hl
  exact zlm_zin (v := .int x) hl
theorem zs_astore {i : Nat} {x : Nat} (hd : decode f.2.1 pc = .ok (.astore i, 2)) (hi : Nat.blt i f.2.2.2.1 = true) (h : zGo l d mc ms f M (pc + 2) (zup lo i (.ref x)) st Q) : zGo l d mc ms f M pc lo (.ref x :: st) Q := by
  intro g p e R s m args below meth c H locs cells slots ls hC a2 a3 a4 a5 a6 a7 a8
  refine lv_astore hC.1 hC.2.1 hd a8 (Nat.blt_eq.mp hi) rfl (fun ls' hl => h g p e R s m args below meth c H locs cells slots ls' hC a2 a3 a4 a5 a6 a7 ?_)
  rw [zlm_filter] at hl
  exact zlm_zin (v := .ref x) hl
theorem zs_astore_n {k : Fin 4} {x : Nat} (hd : decode f.2.1 pc = .ok (.astore_n k, 1)) (hi : Nat.blt k.val f.2.2.2.1 = true) (h : zGo l d mc ms f M (pc + 1) (zup lo k.val (.ref x)) st Q) : zGo l d mc ms f M pc lo (.ref x :: st) Q := by
  intro g p e R s m args below meth c H locs cells slots ls hC a2 a3 a4 a5 a6 a7 a8
  refine lv_astore_n hC.1 hC.2.1 hd rfl a8 (Nat.blt_eq.mp hi) rfl (fun ls' hl => h g p e R s m args below meth c H locs cells slots ls' hC a2 a3 a4 a5 a6 a7 ?_)
  rw [zlm_filter] at hl
  exact zlm_zin (v := .ref x) hl
theorem zs_lstore {i : Nat} {x : Int64} (hd : decode f.2.1 pc = .ok (.lstore i, 2)) (hi : Nat.blt (i + 1) f.2.2.2.1 = true) (h : zGo l d mc ms f M (pc + 2) (zup2 lo i (.long x)) st Q) : zGo l d mc ms f M pc lo (.long x :: st) Q := by
  intro g p e R s m args below meth c H locs cells slots ls hC a2 a3 a4 a5 a6 a7 a8
  refine lv_lstore hC.1 hC.2.1 hd a8 (Nat.blt_eq.mp hi) rfl (fun ls' hl => h g p e R s m args below meth c H locs cells slots ls' hC a2 a3 a4 a5 a6 a7 ?_)
  rw [zlm_filter2] at hl
  exact zlm_zin (v := .long x) hl
theorem zs_iinc {i : Nat} {n : Int} {x : Int32} (hd : decode f.2.1 pc = .ok (.iinc i n, 3)) (hx : zlk lo i = some (.int x)) (hi : Nat.blt i f.2.2.2.1 = true) (h : zGo l d mc ms f M (pc + 3) (zup lo i (.int (x + Int32.ofInt n))) st Q) : zGo l d mc ms f M pc lo st Q := by
  intro g p e R s m args below meth c H locs cells slots ls hC a2 a3 a4 a5 a6 a7 a8
  obtain ⟨k, hk⟩ := List.getElem?_of_mem (List.mem_map.mpr ⟨(i, .int x), zlk_mem hx, rfl⟩ : (i, Value.int x) ∈ zlm g lo)
  refine lv_iinc hC.1 hC.2.1 hd a8 hk rfl (Nat.blt_eq.mp hi) rfl (fun ls' hl => h g p e R s m args below meth c H locs cells slots ls' hC a2 a3 a4 a5 a6 a7 ?_)
  rw [zlm_filter] at hl
  exact zlm_zin (v := .int (x + Int32.ofInt n)) hl
theorem zisk_ok {c a b : Nat} (h : zisk M c a b = true) : M.2.1 c = (a, b) := by
  unfold zisk at h
  simp only [Bool.and_eq_true, beq_iff_eq] at h
  exact Prod.ext h.1 h.2
theorem zK1 {k : Nat} (h : (k == 1) = true) {x : Nat × Nat} (hx : x.1 = k) : x = (1, x.2) := by
  have e : k = 1 := by simpa using h
  exact Prod.ext (hx.trans e) rfl
theorem zs_get {i a b c0 : Nat} (hd : decode f.2.1 pc = .ok (.getfield i, 3)) (hf : zfd f.1 i = some (a, b)) (hk : zisk M c0 0 a = true) (h : zGo l d mc ms f M (pc + 3) lo (zfv M a c0 b :: st) Q) : zGo l d mc ms f M pc lo (.ref c0 :: st) Q := by
  intro g p e R s m args below meth c H locs cells slots ls hC a2 a3 a4 a5 a6 a7 a8
  obtain ⟨q, hq, hb, hlink⟩ := zfd_ok hf
  have hk := zisk_ok hk
  obtain ⟨-, had, hce⟩ := a7.cell c0 hk (by decide)
  unfold zcell at hce
  rw [hk] at hce
  obtain ⟨q', hq', cell, q1, q2, q3, q4⟩ := hce
  cases Option.some.inj (hq.symm.trans hq')
  obtain ⟨hx, hcb, hr, hml, hown, hlocks, hts, hw, ht, hin⟩ := id hC
  obtain ⟨hS, hfc, kC, hkC, hkind⟩ := hw.1.1 a q hq
  obtain ⟨cf, kf, fi, fd, hi, hsl⟩ := hS b hb
  have hl0 := u_lays hts (z_lays a q hq) hb
  show W p l e R s m args below meth c H locs cells slots _ (F0 m pc ls (.ref (zad g c0) :: st.map (zc g)))
  rw [had]
  exact W.getf hx hcb hown (hts _ hlink) hi (u_facts hfc hkC hl0 hi).1 q1 (by rw [q3]; exact fun h => by cases h) (v := zc g (zfv M a c0 b)) (by rw [hsl]; exact q4 b hb) rfl rfl hd (h g p e R s m args below meth c H locs cells slots ls hC a2 a3 a4 a5 a6 a7 a8)
end
end
section
section
variable {l : Launch} {d mc ms : Nat} {f : zF} {M : zM} {pc : Nat} {lo : List (Nat × Value)} {st : List Value} {Q : zR → zM → Prop}
theorem zkk {c a : Nat} (h : ((M.2.1 c).1 == a) = true) : M.2.1 c = (a, (M.2.1 c).2) := Prod.ext (by simpa using h) rfl
theorem zu_same {α : Type} (F : Nat → Nat → α) (c k : Nat) (v : α) : zu F c k v c k = v := by simp [zu]
theorem zu_ne {α : Type} (F : Nat → Nat → α) {c k x j : Nat} (v : α) (h : x ≠ c ∨ j ≠ k) : zu F c k v x j = F x j := by
  unfold zu
  cases h1 : (x == c && j == k) with
  | false => rfl
  | true =>
    simp only [Bool.and_eq_true, beq_iff_eq] at h1
    rcases h with h | h
    · exact absurd h1.1 h
    · exact absurd h1.2 h
theorem zu_row {α : Type} (F : Nat → Nat → α) {c k x : Nat} (v : α) (h : x ≠ c) : zu F c k v x = F x := funext fun j => zu_ne F v (Or.inl h)
theorem zu_arr {α : Type} (F : Nat → Nat → α) (c k : Nat) (v : α) (w : α → Value) : (fun j => w (zu F c k v c j)) = updV (fun j => w (F c j)) k (w v) := by
  funext j
  unfold updV
  by_cases h : j = k
  · subst h; rw [zu_same, if_pos rfl]
  · rw [zu_ne F v (Or.inr h), if_neg h]
/-- a field of a new value: the memory that holds it -/
theorem zfld {g : zG} {M' : zM} {H H' : Heap} {a b c0 fs : Nat} {q : vw_C} {v : Value} {cell : Cell} {s : State} (hH : zH g M H) (hk : M.2.1 c0 = (0, a)) (hq : zcl[a]? = some q) (hb : b < q.2.2) (q1 : H[g.2.2.1 + c0]? = some cell) (q2 : cell.cls = g.1.1 a) (q3 : cell.vm = .none) (q4 : ∀ k, k < q.2.2 → cell.slots[g.1.2 a k]? = some (zc g (zfv M a c0 k)))
    (hap : ∀ x y, x < q.2.2 → y < q.2.2 → x ≠ y → g.1.2 a x ≠ g.1.2 a y) (hsl : fs = g.1.2 a b)
    (e1 : H'[g.2.2.1 + c0]? = some (cell.setSlot fs v)) (e2 : H'.size = H.size) (e3 : ∀ x, x ≠ g.2.2.1 + c0 → H'[x]? = H[x]?)
    (m1 : M'.1 = M.1) (m2 : M'.2.1 = M.2.1) (mR : ∀ x, x ≠ c0 → M'.2.2.1 x = M.2.2.1 x) (mI : ∀ x, x ≠ c0 → M'.2.2.2.1 x = M.2.2.2.1 x) (mJ : ∀ x, x ≠ c0 → M'.2.2.2.2 x = M.2.2.2.2 x)
    (mv : zc g (zfv M' a c0 b) = v) (mo : ∀ k, k < q.2.2 → k ≠ b → zfv M' a c0 k = zfv M a c0 k) : zH g M' H' := by
  refine hH.put c0 m1 m2 e2 e3 (hH.cell c0 hk (by decide)).1 mR mI mJ ?_
  unfold zcell
  rw [m2, hk]
  refine ⟨q, hq, ?_⟩
  rw [hsl] at e1
  have h1 : t_OB (g.2.2.1 + c0) (g.1.1 a) q.2.2 (g.1.2 a) H' (updV (fun k => zc g (zfv M a c0 k)) b v) := ⟨_, e1, q2, q3, t_set q4 hap hb v⟩
  refine h1.to (fun k hkq => ?_)
  unfold updV
  by_cases h : k = b
  · subst h; rw [if_pos rfl]; exact mv.symm
  · rw [if_neg h, mo k hkq h]
theorem zfinT {a b : Nat} {q : vw_C} (hq : zcl[a]? = some q) (h : zfin a b = true) : (q.2.1 b).2.2.2 = true := by
  unfold zfin at h; rw [hq] at h; exact h
theorem zfinF {a b : Nat} {q : vw_C} (hq : zcl[a]? = some q) (h : (!zfin a b) = true) : (q.2.1 b).2.2.2 = false := by
  unfold zfin at h; rw [hq] at h; simpa using h
/-- a store into a field that isn't final -/
theorem zs_put {M' : zM} {i a b c0 : Nat} {v : Value} {ty : FieldType} (hd : decode f.2.1 pc = .ok (.putfield i, 3)) (hf : zfd f.1 i = some (a, b)) (hk : zisk M c0 0 a = true) (hfin : (!zfin a b) = true) (hty : tyT a b = ty) (hn : ∀ g, narrow ty (zc g v) = zc g v) (hfit : ∀ g, fits ty (zc g v) = true)
    (m1 : M'.1 = M.1) (m2 : M'.2.1 = M.2.1) (mR : ∀ x, x ≠ c0 → M'.2.2.1 x = M.2.2.1 x) (mI : ∀ x, x ≠ c0 → M'.2.2.2.1 x = M.2.2.2.1 x) (mJ : ∀ x, x ≠ c0 → M'.2.2.2.2 x = M.2.2.2.2 x)
    (mv : zfv M' a c0 b = v) (mo : ∀ k, k ≠ b → zfv M' a c0 k = zfv M a c0 k)
    (h : zGo l d mc ms f M' (pc + 3) lo st Q) : zGo l d mc ms f M pc lo (v :: .ref c0 :: st) Q := by
  intro g p e R s m args below meth c H locs cells slots ls hC a2 a3 a4 a5 a6 a7 a8
  obtain ⟨q, hq, hb, hlink⟩ := zfd_ok hf
  have hk := zisk_ok hk
  obtain ⟨-, had, hce⟩ := a7.cell c0 hk (by decide)
  unfold zcell at hce
  rw [hk] at hce
  obtain ⟨q', hq', cell, q1, q2, q3, q4⟩ := hce
  cases Option.some.inj (hq.symm.trans hq')
  obtain ⟨hx, hcb, hr, hml, hown, hlocks, hts, hw, ht, hin⟩ := id hC
  have hap := va_apart (own := zown f.1) hts (z_lays a q hq) (tyT a) (z_ty a q hq) (z_nm a q hq) hw.1 hq
  obtain ⟨hS, hfc, kC, hkC, hkind⟩ := hw.1.1 a q hq
  obtain ⟨cf, kf, fi, fd, hi, hsl⟩ := hS b hb
  have hlay := hts _ (z_lays a q hq _ (u_in_lay hb))
  unfold u_lay at hlay
  rw [if_neg (by rw [zfinF hq hfin]; decide)] at hlay
  have hst := (u_facts hfc hkC (u_lays hts (z_lays a q hq) hb) hi).1
  have h6 := u_store (v := zc g v) hfc hkC hkind hlay hi ((z_ty a q hq b hb).trans (by rw [hty])) (hn g) (hfit g)
  show W p l e R s m args below meth c H locs cells slots _ (F0 m pc ls (zc g v :: .ref (zad g c0) :: st.map (zc g)))
  rw [had]
  refine W.putK hx hcb (f := fd) ⟨hown, hts _ hlink, ⟨_, _, _, hi⟩, hst⟩ (by rw [q2]; exact h6) q1 q3 (by rw [hsl]; exact k2_hasslot (q4 b hb)) rfl rfl hd fun H' e1 e2 e3 => ?_
  refine h g p e R s m args below meth c H' _ cells slots ls hC a2 a3 a4 a5 (fun z hz => ?_) (zfld (s := s) a7 hk hq hb q1 q2 q3 q4 hap hsl e1 e2 e3 m1 m2 mR mI mJ (by rw [mv]) (fun k _ hk => mo k hk)) a8
  rcases List.mem_append.mp hz with hz | hz
  · exact a6 z hz
  · rw [List.mem_singleton.mp hz]; exact Nat.le_add_right _ _
/-- a store into a final field, in a constructor of its class -/
theorem zs_putF {M' : zM} {i a b c0 : Nat} {v : Value} {ty : FieldType} (hd : decode f.2.1 pc = .ok (.putfield i, 3)) (hf : zfd f.1 i = some (a, b)) (hk : zisk M c0 0 a = true) (hfin : zfin a b = true) (hini : f.2.2.2.2.2 = true) (hoa : f.1 = a) (hty : tyT a b = ty) (hn : ∀ g, narrow ty (zc g v) = zc g v) (hfit : ∀ g, fits ty (zc g v) = true)
    (m1 : M'.1 = M.1) (m2 : M'.2.1 = M.2.1) (mR : ∀ x, x ≠ c0 → M'.2.2.1 x = M.2.2.1 x) (mI : ∀ x, x ≠ c0 → M'.2.2.2.1 x = M.2.2.2.1 x) (mJ : ∀ x, x ≠ c0 → M'.2.2.2.2 x = M.2.2.2.2 x)
    (mv : zfv M' a c0 b = v) (mo : ∀ k, k ≠ b → zfv M' a c0 k = zfv M a c0 k)
    (h : zGo l d mc ms f M' (pc + 3) lo st Q) : zGo l d mc ms f M pc lo (v :: .ref c0 :: st) Q := by
  intro g p e R s m args below meth c H locs cells slots ls hC a2 a3 a4 a5 a6 a7 a8
  obtain ⟨q, hq, hb, hlink⟩ := zfd_ok hf
  have hk := zisk_ok hk
  obtain ⟨-, had, hce⟩ := a7.cell c0 hk (by decide)
  unfold zcell at hce
  rw [hk] at hce
  obtain ⟨q', hq', cell, q1, q2, q3, q4⟩ := hce
  cases Option.some.inj (hq.symm.trans hq')
  obtain ⟨hx, hcb, hr, hml, hown, hlocks, hts, hw, ht, hin⟩ := id hC
  have hap := va_apart (own := zown f.1) hts (z_lays a q hq) (tyT a) (z_ty a q hq) (z_nm a q hq) hw.1 hq
  obtain ⟨hS, hfc, kC, hkC, hkind⟩ := hw.1.1 a q hq
  obtain ⟨cf, kf, fi, fd, hi, hsl⟩ := hS b hb
  have hlay := hts _ (z_lays a q hq _ (u_in_lay hb))
  unfold u_lay at hlay
  rw [if_pos (zfinT hq hfin)] at hlay
  have hst := (u_facts hfc hkC (u_lays hts (z_lays a q hq) hb) hi).1
  have hcf : m.cls = cf := by
    obtain ⟨_, _, c', _, _, _, -, -, hf', -, -, -, hown2, -⟩ := Cond.laysFinal_spec hlay
    have e1 : c' = cf := by have := hi.symm.trans hf'; simp at this; exact this.1.symm
    rw [(z_decl a q hq).2 b hb, ← (z_decl a q hq).1, ← hoa] at hown2
    rw [← e1]; exact Option.some.inj (hown.symm.trans hown2)
  have h6 := u_fits (v := zc g v) hfc hkC hkind (Or.inr hlay) hi ((z_ty a q hq b hb).trans (by rw [hty])) (hn g) (hfit g)
  show W p l e R s m args below meth c H locs cells slots _ (F0 m pc ls (zc g v :: .ref (zad g c0) :: st.map (zc g)))
  rw [had]
  refine W.putFinK hx hcb hown (hts _ hlink) hi hst hcf (hin hini) (by rw [q2]; exact h6) q1 q3 (by rw [hsl]; exact k2_hasslot (q4 b hb)) rfl rfl hd fun H' e1 e2 e3 => ?_
  refine h g p e R s m args below meth c H' _ cells slots ls hC a2 a3 a4 a5 (fun z hz => ?_) (zfld (s := s) a7 hk hq hb q1 q2 q3 q4 hap hsl e1 e2 e3 m1 m2 mR mI mJ (by rw [mv]) (fun k _ hk => mo k hk)) a8
  rcases List.mem_append.mp hz with hz | hz
  · exact a6 z hz
  · rw [List.mem_singleton.mp hz]; exact Nat.le_add_right _ _
theorem zs_putI {i a b c0 : Nat} {x : Int32} (hd : decode f.2.1 pc = .ok (.putfield i, 3)) (hf : zfd f.1 i = some (a, b)) (hk : zisk M c0 0 a = true) (hfin : (!zfin a b) = true) (hty : tyT a b = .int) (h : zGo l d mc ms f (zsI M c0 b x) (pc + 3) lo st Q) : zGo l d mc ms f M pc lo (.int x :: .ref c0 :: st) Q :=
  zs_put (M' := zsI M c0 b x) hd hf hk hfin hty (fun _ => rfl) (fun _ => rfl) rfl rfl (fun _ _ => rfl) (fun y hy => zu_row _ x hy) (fun _ _ => rfl) (by unfold zfv; rw [hty]; show Value.int (zu _ c0 b x c0 b) = _; rw [zu_same]) (fun k hk => by unfold zfv; show (match tyT a k with | .long => _ | .object _ => _ | .array _ => _ | _ => Value.int (zu _ c0 b x c0 k)) = _; rw [zu_ne _ x (Or.inr hk)]; rfl) h
theorem zs_putZ {i a b c0 : Nat} {x : Int32} (hd : decode f.2.1 pc = .ok (.putfield i, 3)) (hf : zfd f.1 i = some (a, b)) (hk : zisk M c0 0 a = true) (hfin : (!zfin a b) = true) (hty : tyT a b = .boolean) (hx : x = 0 ∨ x = 1) (h : zGo l d mc ms f (zsI M c0 b x) (pc + 3) lo st Q) : zGo l d mc ms f M pc lo (.int x :: .ref c0 :: st) Q :=
  zs_put (M' := zsI M c0 b x) hd hf hk hfin hty (fun _ => by rcases hx with rfl | rfl <;> rfl) (fun _ => by rcases hx with rfl | rfl <;> rfl) rfl rfl (fun _ _ => rfl) (fun y hy => zu_row _ x hy) (fun _ _ => rfl) (by unfold zfv; rw [hty]; show Value.int (zu _ c0 b x c0 b) = _; rw [zu_same]) (fun k hk => by unfold zfv; show (match tyT a k with | .long => _ | .object _ => _ | .array _ => _ | _ => Value.int (zu _ c0 b x c0 k)) = _; rw [zu_ne _ x (Or.inr hk)]; rfl) h
theorem zs_putJ {i a b c0 : Nat} {x : Int64} (hd : decode f.2.1 pc = .ok (.putfield i, 3)) (hf : zfd f.1 i = some (a, b)) (hk : zisk M c0 0 a = true) (hfin : (!zfin a b) = true) (hty : tyT a b = .long) (h : zGo l d mc ms f (zsJ M c0 b x) (pc + 3) lo st Q) : zGo l d mc ms f M pc lo (.long x :: .ref c0 :: st) Q :=
  zs_put (M' := zsJ M c0 b x) hd hf hk hfin hty (fun _ => rfl) (fun _ => rfl) rfl rfl (fun _ _ => rfl) (fun _ _ => rfl) (fun y hy => zu_row _ x hy) (by unfold zfv; rw [hty]; show Value.long (zu _ c0 b x c0 b) = _; rw [zu_same]) (fun k hk => by unfold zfv; show (match tyT a k with | .long => Value.long (zu _ c0 b x c0 k) | .object _ => _ | .array _ => _ | _ => _) = _; rw [zu_ne _ x (Or.inr hk)]; rfl) h
theorem zs_putR {i a b c0 x : Nat} {ty : FieldType} (hd : decode f.2.1 pc = .ok (.putfield i, 3)) (hf : zfd f.1 i = some (a, b)) (hk : zisk M c0 0 a = true) (hfin : zfin a b = true) (hini : f.2.2.2.2.2 = true) (hoa : f.1 = a) (hty : tyT a b = ty) (hr : (∃ n, ty = .object n) ∨ ∃ t, ty = .array t) (h : zGo l d mc ms f (zsR M c0 b (x + 1)) (pc + 3) lo st Q) : zGo l d mc ms f M pc lo (.ref x :: .ref c0 :: st) Q := by
  refine zs_putF (M' := zsR M c0 b (x + 1)) hd hf hk hfin hini hoa hty (fun _ => ?_) (fun _ => ?_) rfl rfl (fun y hy => zu_row _ (x + 1) hy) (fun _ _ => rfl) (fun _ _ => rfl) ?_ (fun k hk => ?_) h
  · rcases hr with ⟨n, rfl⟩ | ⟨t, rfl⟩ <;> rfl
  · rcases hr with ⟨n, rfl⟩ | ⟨t, rfl⟩ <;> rfl
  · unfold zfv
    rw [hty]
    rcases hr with ⟨n, rfl⟩ | ⟨t, rfl⟩
    · show zr (zu _ c0 b (x + 1) c0 b) = _; rw [zu_same]; rfl
    · show zr (zu _ c0 b (x + 1) c0 b) = _; rw [zu_same]; rfl
  · unfold zfv
    show (match tyT a k with | .long => _ | .object _ => zr (zu _ c0 b (x + 1) c0 k) | .array _ => zr (zu _ c0 b (x + 1) c0 k) | _ => _) = _
    rw [zu_ne _ (x + 1) (Or.inr hk)]; rfl
end
end
section
section
variable {l : Launch} {d mc ms : Nat} {f : zF} {M : zM} {pc : Nat} {lo : List (Nat × Value)} {st : List Value} {Q : zR → zM → Prop}
theorem zlocs {g : zG} {locs : List Loc} {c k : Nat} (h : ∀ q ∈ locs, g.2.2.1 ≤ q.base) : ∀ q ∈ locs ++ [(⟨g.2.2.1 + c, k⟩ : Loc)], g.2.2.1 ≤ q.base := by
  intro z hz
  rcases List.mem_append.mp hz with hz | hz
  · exact h z hz
  · rw [List.mem_singleton.mp hz]; exact Nat.le_add_right _ _
theorem zs_iald {c0 : Nat} {i : Int32} (hd : decode f.2.1 pc = .ok (.iaload, 1)) (hk : ((M.2.1 c0).1 == 1) = true) (hi : vp_in i (M.2.1 c0).2) (h : zGo l d mc ms f M (pc + 1) lo (.int (M.2.2.2.1 c0 i.toNatClampNeg) :: st) Q) : zGo l d mc ms f M pc lo (.int i :: .ref c0 :: st) Q := by
  intro g p e R s m args below meth c H locs cells slots ls hC a2 a3 a4 a5 a6 a7 a8
  have hk := zkk hk
  obtain ⟨-, had, hce⟩ := a7.cell c0 hk (by decide)
  unfold zcell at hce
  rw [hk] at hce
  show W p l e R s m args below meth c H locs cells slots _ (F0 m pc ls (.int i :: .ref (zad g c0) :: st.map (zc g)))
  rw [had]
  exact W.iald (v := .int (M.2.2.2.1 c0 i.toNatClampNeg)) hC.1 hC.2.1 hce ((hC.2.2.2.2.2.2.2.1.1.2 0 _ rfl).1 _ _) (fun q => by cases q) (by rw [arrV_size]; exact hi) (by rw [arrV_read _ _ (Nat.not_le.mp fun q => hi (Or.inr q))]) rfl rfl hd
    (h g p e R s m args below meth c H locs cells slots ls hC a2 a3 a4 a5 a6 a7 a8)
theorem zs_bald {c0 : Nat} {i : Int32} (hd : decode f.2.1 pc = .ok (.baload, 1)) (hk : ((M.2.1 c0).1 == 2) = true) (hi : vp_in i (M.2.1 c0).2) (h : zGo l d mc ms f M (pc + 1) lo (.int (M.2.2.2.1 c0 i.toNatClampNeg) :: st) Q) : zGo l d mc ms f M pc lo (.int i :: .ref c0 :: st) Q := by
  intro g p e R s m args below meth c H locs cells slots ls hC a2 a3 a4 a5 a6 a7 a8
  have hk := zkk hk
  obtain ⟨-, had, hce⟩ := a7.cell c0 hk (by decide)
  unfold zcell at hce
  rw [hk] at hce
  show W p l e R s m args below meth c H locs cells slots _ (F0 m pc ls (.int i :: .ref (zad g c0) :: st.map (zc g)))
  rw [had]
  exact W.bald (v := .int (M.2.2.2.1 c0 i.toNatClampNeg)) hC.1 hC.2.1 hce ((hC.2.2.2.2.2.2.2.1.1.2 1 _ rfl).1 _ _) (fun q => by cases q) (by rw [arrV_size]; exact hi) (by rw [arrV_read _ _ (Nat.not_le.mp fun q => hi (Or.inr q))]) rfl rfl hd
    (h g p e R s m args below meth c H locs cells slots ls hC a2 a3 a4 a5 a6 a7 a8)
theorem zs_lald {c0 : Nat} {i : Int32} (hd : decode f.2.1 pc = .ok (.laload, 1)) (hk : ((M.2.1 c0).1 == 3) = true) (hi : vp_in i (M.2.1 c0).2) (h : zGo l d mc ms f M (pc + 1) lo (.long (M.2.2.2.2 c0 i.toNatClampNeg) :: st) Q) : zGo l d mc ms f M pc lo (.int i :: .ref c0 :: st) Q := by
  intro g p e R s m args below meth c H locs cells slots ls hC a2 a3 a4 a5 a6 a7 a8
  have hk := zkk hk
  obtain ⟨-, had, hce⟩ := a7.cell c0 hk (by decide)
  unfold zcell at hce
  rw [hk] at hce
  show W p l e R s m args below meth c H locs cells slots _ (F0 m pc ls (.int i :: .ref (zad g c0) :: st.map (zc g)))
  rw [had]
  exact W.lald (v := .long (M.2.2.2.2 c0 i.toNatClampNeg)) hC.1 hC.2.1 hce ((hC.2.2.2.2.2.2.2.1.1.2 2 _ rfl).1 _ _) (fun q => by cases q) (by rw [arrV_size]; exact hi) (by rw [arrV_read _ _ (Nat.not_le.mp fun q => hi (Or.inr q))]) rfl rfl hd
    (h g p e R s m args below meth c H locs cells slots ls hC a2 a3 a4 a5 a6 a7 a8)
theorem zs_iast {c0 : Nat} {i x : Int32} (hd : decode f.2.1 pc = .ok (.iastore, 1)) (hk : ((M.2.1 c0).1 == 1) = true) (hi : vp_in i (M.2.1 c0).2) (h : zGo l d mc ms f (zsI M c0 i.toNatClampNeg x) (pc + 1) lo st Q) : zGo l d mc ms f M pc lo (.int x :: .int i :: .ref c0 :: st) Q := by
  intro g p e R s m args below meth c H locs cells slots ls hC a2 a3 a4 a5 a6 a7 a8
  have hk := zkk hk
  obtain ⟨hlt, had, hce⟩ := a7.cell c0 hk (by decide)
  unfold zcell at hce
  rw [hk] at hce
  show W p l e R s m args below meth c H locs cells slots _ (F0 m pc ls (.int x :: .int i :: .ref (zad g c0) :: st.map (zc g)))
  rw [had]
  refine W.iast hC.1 hC.2.1 hce ((hC.2.2.2.2.2.2.2.1.1.2 0 _ rfl).1 _ _) (fun q => by cases q) (by rw [arrV_size]; exact hi) rfl rfl hd fun H1 e1 z oq => ?_
  refine h g p e R s m args below meth c H1 _ cells slots ls hC a2 a3 a4 a5 (zlocs a6) (a7.put c0 rfl rfl z oq hlt (fun _ _ => rfl) (fun y hy => zu_row _ x hy) (fun _ _ => rfl) ?_) a8
  unfold zcell
  show (match M.2.1 c0 with | (0, ci) => _ | (1, n) => H1[g.2.2.1 + c0]? = some (arrV g.2.1.1 n (fun j => .int (zu M.2.2.2.1 c0 i.toNatClampNeg x c0 j))) | (2, n) => _ | (3, n) => _ | _ => _)
  rw [hk]
  show H1[g.2.2.1 + c0]? = some (arrV g.2.1.1 _ (fun j => .int (zu M.2.2.2.1 c0 i.toNatClampNeg x c0 j)))
  rw [e1, arrV_store, zu_arr _ _ _ _ Value.int]
theorem zs_bast {c0 : Nat} {i x : Int32} (hd : decode f.2.1 pc = .ok (.bastore, 1)) (hk : ((M.2.1 c0).1 == 2) = true) (hi : vp_in i (M.2.1 c0).2) (h : zGo l d mc ms f (zsI M c0 i.toNatClampNeg x.toInt8.toInt32) (pc + 1) lo st Q) : zGo l d mc ms f M pc lo (.int x :: .int i :: .ref c0 :: st) Q := by
  intro g p e R s m args below meth c H locs cells slots ls hC a2 a3 a4 a5 a6 a7 a8
  have hk := zkk hk
  obtain ⟨hlt, had, hce⟩ := a7.cell c0 hk (by decide)
  unfold zcell at hce
  rw [hk] at hce
  show W p l e R s m args below meth c H locs cells slots _ (F0 m pc ls (.int x :: .int i :: .ref (zad g c0) :: st.map (zc g)))
  rw [had]
  refine W.bast hC.1 hC.2.1 hce ((hC.2.2.2.2.2.2.2.1.1.2 1 _ rfl).1 _ _) (fun q => by cases q) (by rw [arrV_size]; exact hi) rfl rfl hd fun H1 e1 z oq => ?_
  refine h g p e R s m args below meth c H1 _ cells slots ls hC a2 a3 a4 a5 (zlocs a6) (a7.put c0 rfl rfl z oq hlt (fun _ _ => rfl) (fun y hy => zu_row _ _ hy) (fun _ _ => rfl) ?_) a8
  unfold zcell
  show (match M.2.1 c0 with | (0, ci) => _ | (1, n) => _ | (2, n) => H1[g.2.2.1 + c0]? = some (arrV g.2.1.2.1 n (fun j => .int (zu M.2.2.2.1 c0 i.toNatClampNeg x.toInt8.toInt32 c0 j))) | (3, n) => _ | _ => _)
  rw [hk]
  show H1[g.2.2.1 + c0]? = some (arrV g.2.1.2.1 _ (fun j => .int (zu M.2.2.2.1 c0 i.toNatClampNeg x.toInt8.toInt32 c0 j)))
  rw [e1, arrV_store, zu_arr _ _ _ _ Value.int]
  rfl
theorem zs_last {c0 : Nat} {i : Int32} {x : Int64} (hd : decode f.2.1 pc = .ok (.lastore, 1)) (hk : ((M.2.1 c0).1 == 3) = true) (hi : vp_in i (M.2.1 c0).2) (h : zGo l d mc ms f (zsJ M c0 i.toNatClampNeg x) (pc + 1) lo st Q) : zGo l d mc ms f M pc lo (.long x :: .int i :: .ref c0 :: st) Q := by
  intro g p e R s m args below meth c H locs cells slots ls hC a2 a3 a4 a5 a6 a7 a8
  have hk := zkk hk
  obtain ⟨hlt, had, hce⟩ := a7.cell c0 hk (by decide)
  unfold zcell at hce
  rw [hk] at hce
  show W p l e R s m args below meth c H locs cells slots _ (F0 m pc ls (.long x :: .int i :: .ref (zad g c0) :: st.map (zc g)))
  rw [had]
  refine W.last hC.1 hC.2.1 hce ((hC.2.2.2.2.2.2.2.1.1.2 2 _ rfl).1 _ _) (fun q => by cases q) (by rw [arrV_size]; exact hi) rfl rfl hd fun H1 e1 z oq => ?_
  refine h g p e R s m args below meth c H1 _ cells slots ls hC a2 a3 a4 a5 (zlocs a6) (a7.put c0 rfl rfl z oq hlt (fun _ _ => rfl) (fun _ _ => rfl) (fun y hy => zu_row _ x hy) ?_) a8
  unfold zcell
  show (match M.2.1 c0 with | (0, ci) => _ | (1, n) => _ | (2, n) => _ | (3, n) => H1[g.2.2.1 + c0]? = some (arrV g.2.1.2.2 n (fun j => .long (zu M.2.2.2.2 c0 i.toNatClampNeg x c0 j))) | _ => _)
  rw [hk]
  show H1[g.2.2.1 + c0]? = some (arrV g.2.1.2.2 _ (fun j => .long (zu M.2.2.2.2 c0 i.toNatClampNeg x c0 j)))
  rw [e1, arrV_store, zu_arr _ _ _ _ Value.long]
theorem zs_alen {c0 : Nat} (hd : decode f.2.1 pc = .ok (.arraylength, 1)) (hk : ((M.2.1 c0).1 == 1 || (M.2.1 c0).1 == 2) = true) (h : zGo l d mc ms f M (pc + 1) lo (.int (Int32.ofNat (M.2.1 c0).2) :: st) Q) : zGo l d mc ms f M pc lo (.ref c0 :: st) Q := by
  intro g p e R s m args below meth c H locs cells slots ls hC a2 a3 a4 a5 a6 a7 a8
  simp only [Bool.or_eq_true] at hk
  rcases hk with hk | hk
  · have hk := zkk hk
    obtain ⟨-, had, hce⟩ := a7.cell c0 hk (by decide)
    unfold zcell at hce
    rw [hk] at hce
    show W p l e R s m args below meth c H locs cells slots _ (F0 m pc ls (.ref (zad g c0) :: st.map (zc g)))
    rw [had]
    exact W.alen (n := Int32.ofNat (M.2.1 c0).2) hC.1 hC.2.1 hce ((hC.2.2.2.2.2.2.2.1.1.2 0 _ rfl).1 _ _) (by rw [arrV_size] <;> rfl) rfl rfl hd
      (h g p e R s m args below meth c H locs cells slots ls hC a2 a3 a4 a5 a6 a7 a8)
  · have hk := zkk hk
    obtain ⟨-, had, hce⟩ := a7.cell c0 hk (by decide)
    unfold zcell at hce
    rw [hk] at hce
    show W p l e R s m args below meth c H locs cells slots _ (F0 m pc ls (.ref (zad g c0) :: st.map (zc g)))
    rw [had]
    exact W.alen (n := Int32.ofNat (M.2.1 c0).2) hC.1 hC.2.1 hce ((hC.2.2.2.2.2.2.2.1.1.2 1 _ rfl).1 _ _) (by rw [arrV_size] <;> rfl) rfl rfl hd
      (h g p e R s m args below meth c H locs cells slots ls hC a2 a3 a4 a5 a6 a7 a8)
theorem zs_iret {x : Int32} (hd : decode f.2.1 pc = .ok (.ireturn, 1)) (hr : f.2.2.1 = some .int) (h : Q (.inl (some (.int x))) M) : zGo l d mc ms f M pc lo [.int x] Q := by
  intro g p e R s m args below meth c H locs cells slots ls hC a2 a3 a4 a5 a6 a7 a8
  refine vx_ret (W.widen (k := R.cells) (n := R.slots) (by omega) (by omega) ?_)
  exact W.iret hC.1 hC.2.1 (hC.2.2.1.trans hr) (fun t ht _ => ⟨some (.int x), M, rfl, h, by rw [ht]; exact a7⟩) a6 hd (hlocks := hC.2.2.2.2.2.1)
theorem zs_zret {x : Int32} (hd : decode f.2.1 pc = .ok (.ireturn, 1)) (hr : f.2.2.1 = some .boolean) (hx : x = 0 ∨ x = 1) (h : Q (.inl (some (.int x))) M) : zGo l d mc ms f M pc lo [.int x] Q := by
  intro g p e R s m args below meth c H locs cells slots ls hC a2 a3 a4 a5 a6 a7 a8
  refine vx_ret (W.widen (k := R.cells) (n := R.slots) (by omega) (by omega) ?_)
  exact W.zret hC.1 hC.2.1 (hC.2.2.1.trans hr) (by rcases hx with rfl | rfl <;> rfl) (fun t ht _ => ⟨some (.int x), M, rfl, h, by rw [ht]; exact a7⟩) a6 hd (hlocks := hC.2.2.2.2.2.1)
theorem zs_lret {x : Int64} (hd : decode f.2.1 pc = .ok (.lreturn, 1)) (hr : f.2.2.1 = some .long) (h : Q (.inl (some (.long x))) M) : zGo l d mc ms f M pc lo [.long x] Q := by
  intro g p e R s m args below meth c H locs cells slots ls hC a2 a3 a4 a5 a6 a7 a8
  refine vx_ret (W.widen (k := R.cells) (n := R.slots) (by omega) (by omega) ?_)
  exact W.lret hC.1 hC.2.1 (hC.2.2.1.trans hr) (fun t ht _ => ⟨some (.long x), M, rfl, h, by rw [ht]; exact a7⟩) a6 hd (hlocks := hC.2.2.2.2.2.1)
theorem zs_vret (hd : decode f.2.1 pc = .ok (.return_, 1)) (hr : f.2.2.1 = none) (h : Q (.inl none) M) : zGo l d mc ms f M pc lo [] Q := by
  intro g p e R s m args below meth c H locs cells slots ls hC a2 a3 a4 a5 a6 a7 a8
  refine vx_ret (W.widen (k := R.cells) (n := R.slots) (by omega) (by omega) ?_)
  exact W.vret hC.1 hC.2.1 (hC.2.2.1.trans hr) (fun t ht _ => ⟨none, M, rfl, h, by rw [ht]; exact a7⟩) a6 hd (hlocks := hC.2.2.2.2.2.1)
theorem zs_objinit {i c0 : Nat} (hd : decode f.2.1 pc = .ok (.invokespecial i, 3)) (hi : zoi f.1 i = true) (hq : (Nat.ble 1 d && Nat.ble ((st.map Value.category).sum) 8) = true) (h : zGo l d mc ms f M (pc + 3) lo st Q) : zGo l d mc ms f M pc lo (.ref c0 :: st) Q := by
  intro g p e R s m args below meth c H locs cells slots ls hC a2 a3 a4 a5 a6 a7 a8
  simp only [Bool.and_eq_true, Nat.ble_eq] at hq
  have hs : ((st.map (zc g)).map fun v => v.category).sum ≤ 8 := by
    rw [List.map_map]
    have e1 : ((fun v => v.category) ∘ zc g) = Value.category := funext fun v => zc_cat g v
    rw [e1]; exact hq.2
  refine W.objInit hC.1 hC.2.1 hC.2.2.2.2.1 (hC.2.2.2.2.2.2.1 _ (zoi_ok hi)) (hC.2.2.2.2.2.2.1 _ zob_i) (hC.2.2.2.2.2.2.1 _ zob_c) rfl (a8.1.trans hC.2.2.2.1.symm) (a := zad g c0) (rest := st.map (zc g)) rfl hd (by omega) ?_
    (h g p e R s m args below meth c H locs cells slots ls hC a2 a3 a4 a5 a6 a7 a8)
  show 2 * 0 + _ + 12 ≤ R.locals
  omega
theorem zs_switch {df hi : Int} {offs : Array Int} {len : Nat} {x : Int32} (hd : decode f.2.1 pc = .ok (.tableswitch df 0 hi offs, len)) (hg : (zgo pc df && offs.toList.all (zgo pc) && decide (hi = (offs.size : Int) - 1)) = true)
    (h : (∀ k : Nat, k < (offs.toList.map (ztg pc)).length → x = Int32.ofNat k → zGo l d mc ms f M (zpick (offs.toList.map (ztg pc)) k (ztg pc df)) lo st Q) ∧ ((x < 0 ∨ Int32.ofNat (offs.toList.map (ztg pc)).length ≤ x) → zGo l d mc ms f M (ztg pc df) lo st Q)) (hsz : offs.size < 1000) : zGo l d mc ms f M pc lo (.int x :: st) Q := by
  intro g p e R s m args below meth c H locs cells slots ls hC a2 a3 a4 a5 a6 a7 a8
  simp only [Bool.and_eq_true, decide_eq_true_eq] at hg
  obtain ⟨⟨hg1, hg2⟩, hg3⟩ := hg
  have hlen : (offs.toList.map (ztg pc)).length = offs.size := by simp
  rw [hlen] at h
  by_cases hx : x.toInt < 0 ∨ hi < x.toInt
  · refine lv_tableOut hC.1 hC.2.1 hd hx (ztg_ok hg1) (h.2 ?_ g p e R s m args below meth c H locs cells slots ls hC a2 a3 a4 a5 a6 a7 a8)
    rcases hx with hx | hx
    · left; rw [Int32.lt_iff_toInt_lt]; exact hx
    · right; rw [Int32.le_iff_toInt_le, show (Int32.ofNat offs.size).toInt = (offs.size : Int) from nI_toInt (by omega)]; omega
  · have h1 : ¬ x.toInt < 0 := fun q => hx (Or.inl q)
    have h2 : ¬ hi < x.toInt := fun q => hx (Or.inr q)
    have hk : (x.toInt - 0).toNat < offs.size := by omega
    have hx0 : x = Int32.ofNat (x.toInt - 0).toNat := by
      apply Int32.toInt_inj.mp
      rw [show (Int32.ofNat (x.toInt - 0).toNat).toInt = (((x.toInt - 0).toNat : Nat) : Int) from nI_toInt (by omega)]
      omega
    have ho : offs[(x.toInt - 0).toNat]? = some offs[(x.toInt - 0).toNat] := Array.getElem?_eq_getElem hk
    have hgo : zgo pc offs[(x.toInt - 0).toNat] = true := List.all_eq_true.mp hg2 _ (by rw [Array.mem_toList_iff]; exact Array.getElem_mem hk)
    have hp : ∀ (L : List Int) (k dd : Nat) (v : Int), L[k]? = some v → zpick (L.map (ztg pc)) k dd = ztg pc v := by
      intro L
      induction L with
      | nil => intro k dd v hv; cases hv
      | cons a r ih =>
        intro k dd v hv
        cases k with
        | zero => cases hv; rfl
        | succ k => exact ih k dd v hv
    have hpk := hp offs.toList (x.toInt - 0).toNat (ztg pc df) offs[(x.toInt - 0).toNat] (by rw [Array.getElem?_toList]; exact ho)
    refine lv_tableIn hC.1 hC.2.1 hd h1 h2 ho (ztg_ok hgo) ?_
    rw [← hpk]
    exact h.1 _ hk hx0 g p e R s m args below meth c H locs cells slots ls hC a2 a3 a4 a5 a6 a7 a8
end
end
section
section
variable {l : Launch} {d mc ms : Nat} {f : zF} {M : zM} {pc : Nat} {lo : List (Nat × Value)} {st : List Value} {Q : zR → zM → Prop}
theorem znew_k (M : zM) (kd : Nat × Nat) : (znew M kd).2.1 M.1 = kd := by simp [znew]
theorem znew_o (M : zM) (kd : Nat × Nat) {x : Nat} (h : x ≠ M.1) : (znew M kd).2.1 x = M.2.1 x := by show (bif x == M.1 then kd else M.2.1 x) = _; rw [show (x == M.1) = false by simpa using h]; rfl
theorem znew_b {x y : Nat} (h : x ≠ y) : (x == y) = false := by simpa using h
theorem znew_r {M : zM} {kd : Nat × Nat} {x : Nat} (h : x ≠ M.1) : (znew M kd).2.2.1 x = M.2.2.1 x := funext fun j => by show (bif x == M.1 then 0 else M.2.2.1 x j) = _; rw [znew_b h]; rfl
theorem znew_i {M : zM} {kd : Nat × Nat} {x : Nat} (h : x ≠ M.1) : (znew M kd).2.2.2.1 x = M.2.2.2.1 x := funext fun j => by show (bif x == M.1 then 0 else M.2.2.2.1 x j) = _; rw [znew_b h]; rfl
theorem znew_j {M : zM} {kd : Nat × Nat} {x : Nat} (h : x ≠ M.1) : (znew M kd).2.2.2.2 x = M.2.2.2.2 x := funext fun j => by show (bif x == M.1 then 0 else M.2.2.2.2 x j) = _; rw [znew_b h]; rfl
theorem zdef (ty : FieldType) (g : zG) (v : Value) (h : v = match ty with | .long => Value.long 0 | .object _ => Value.null | .array _ => Value.null | _ => Value.int 0) (hty : ty = .int ∨ ty = .boolean ∨ ty = .long ∨ (∃ n, ty = .object n) ∨ ∃ t, ty = .array t) : defaultValue ty = zc g v := by
  rcases hty with rfl | rfl | rfl | ⟨n, rfl⟩ | ⟨t, rfl⟩ <;> subst h <;> rfl
def zprim (t : FieldType) : Bool := match t with
  | .int => true
  | .boolean => true
  | .long => true
  | .object _ => true
  | .array _ => true
  | _ => false
theorem zprim_ok {t : FieldType} (h : zprim t = true) : t = .int ∨ t = .boolean ∨ t = .long ∨ (∃ n, t = .object n) ∨ ∃ u, t = .array u := by
  cases t <;> first | (cases h; done) | simp
theorem zprim_all : ∀ (ci : Nat) (q : vw_C), zcl[ci]? = some q → ∀ k, k < q.2.2 → zprim (tyT ci k) = true
  | 0, _, h => by cases h; decide +kernel
  | 1, _, h => by cases h; decide +kernel
  | 2, _, h => by cases h; decide +kernel
  | 3, _, h => by cases h; decide +kernel
  | 4, _, h => by cases h; decide +kernel
  | 5, _, h => by cases h; decide +kernel
  | 6, _, h => by cases h; decide +kernel
  | 7, _, h => by cases h; decide +kernel
  | 8, _, h => by cases h; decide +kernel
  | 9, _, h => by cases h; decide +kernel
  | 10, _, h => by cases h; decide +kernel
  | 11, _, h => by cases h; decide +kernel
  | 12, _, h => by cases h; decide +kernel
  | _ + 13, _, h => by cases h
theorem zs_new {i a b : Nat} (hd : decode f.2.1 pc = .ok (.new i, 3)) (hf : znc f.1 i = some (a, b)) (hq : (Nat.ble 1 mc && Nat.ble b ms && Nat.blt (M.1 + 1) 100000) = true)
    (h : zGo l d (mc - 1) (ms - b) f (znew M (0, a)) (pc + 3) lo (.ref M.1 :: st) Q) : zGo l d mc ms f M pc lo st Q := by
  intro g p e R s m args below meth c H locs cells slots ls hC a2 a3 a4 a5 a6 a7 a8
  simp only [Bool.and_eq_true, Nat.ble_eq, Nat.blt_eq] at hq
  obtain ⟨⟨hq1, hq2⟩, hq3⟩ := hq
  obtain ⟨q, hq, hb, hl1, hl2, hl3⟩ := znc_ok hf
  obtain ⟨hx, hcb, hr, hml, hown, hlocks, hts, hw, ht, hin⟩ := id hC
  have hKn := hw.1.1 a q hq
  refine W.newcK (n := q.2.2) hx hcb hown (hts _ hl1) (hts _ hl2) (hts _ hl3) rfl hd (by omega) (by omega) hKn.2.1 rfl fun H1 kC hkC e1 z1 o1 => ?_
  have hsz := a7.1
  have had : zad g M.1 = H.size := by
    unfold zad
    rw [if_pos (by omega)]; omega
  have hst : (Value.ref H.size :: st.map (zc g)) = ((.ref M.1 :: st : List Value).map (zc g)) := by
    show _ = Value.ref (zad g M.1) :: _
    rw [had]
  show W p l e R s m args below meth c H1 locs _ _ _ (F0 m (pc + 3) ls (Value.ref H.size :: st.map (zc g)))
  rw [hst]
  refine h g p e R s m args below meth c H1 locs _ _ ls hC a2 a3 (by omega) (by rw [hb]; omega) a6 (a7.new rfl hq3 (fun x hx => znew_o M _ hx) z1 (fun q hq => o1 q hq) (fun x hx => znew_r hx) (fun x hx => znew_i hx) (fun x hx => znew_j hx) (fun _ => ?_)) a8
  unfold zcell
  rw [znew_k]
  refine ⟨q, hq, ?_⟩
  rw [← hsz]
  refine (u_born (tyT a) hts (z_lays a q hq) hKn hkC e1 (z_ty a q hq)).to (fun k hk => ?_)
  refine zdef (tyT a k) g _ ?_ (zprim_ok (zprim_all a q hq k hk))
  unfold zfv
  simp only [znew, beq_self_eq_true, cond_true]
  rcases zprim_ok (zprim_all a q hq k hk) with h | h | h | ⟨n, h⟩ | ⟨t, h⟩ <;> rw [h] <;> rfl
theorem znewa {at0 : ArrayType} {a : Nat} {n : Int32} {ty : FieldType} {cA : zG → ClassId} (hd : decode f.2.1 pc = .ok (.newarray at0, 2)) (hty : newarray.typeOf at0 = ty) (hq : (Nat.ble 1 mc && Nat.ble n.toNatClampNeg ms && Nat.ble n.toNatClampNeg 1000000 && decide (¬ n < 0) && Nat.blt (M.1 + 1) 100000) = true) (hw0 : Cond.arrayClass ty ∈ zws) (hcb : componentBytes ty ≤ 8)
    (hca : ∀ g U, zW l g U → U.vm.findClass ("[" ++ ty.toString) = some (cA g))
    (hce : ∀ g H1, H1[g.2.2.1 + M.1]? = some (arrV (cA g) n.toNatClampNeg (fun _ => defaultValue ty)) → zcell g (znew M (a, n.toNatClampNeg)) H1 M.1)
    (h : zGo l d (mc - 1) (ms - n.toNatClampNeg) f (znew M (a, n.toNatClampNeg)) (pc + 2) lo (.ref M.1 :: st) Q) : zGo l d mc ms f M pc lo (.int n :: st) Q := by
  intro g p e R s m args below meth c H locs cells slots ls hC a2 a3 a4 a5 a6 a7 a8
  simp only [Bool.and_eq_true, Nat.ble_eq, Nat.blt_eq, decide_eq_true_eq] at hq
  obtain ⟨⟨⟨⟨q1, q2⟩, q3⟩, q4⟩, q5⟩ := hq
  obtain ⟨hx, hcc, hr, hml, hown, hlocks, hts, hw, ht, hin⟩ := id hC
  subst hty
  have hbytes : n.toNatClampNeg * componentBytes (newarray.typeOf at0) ≤ 536870912 := Nat.le_trans (Nat.mul_le_mul q3 hcb) (by decide)
  refine va_newaK hx hcc (hts _ hw0) rfl hd rfl q4 rfl hbytes (by omega) (by omega) rfl fun H1 cB e1 z1 o1 hAr hNm => ?_
  have hcA : cB = cA g := Option.some.inj (hNm.symm.trans (hca g s hw))
  subst hcA
  have hsz := a7.1
  have had : zad g M.1 = H.size := by
    unfold zad
    rw [if_pos (by omega)]; omega
  have hst : (Value.ref H.size :: st.map (zc g)) = ((.ref M.1 :: st : List Value).map (zc g)) := by
    show _ = Value.ref (zad g M.1) :: _
    rw [had]
  show W p l e R s m args below meth c H1 locs _ _ _ (F0 m (pc + 2) ls (Value.ref H.size :: st.map (zc g)))
  rw [hst]
  exact h g p e R s m args below meth c H1 locs _ _ ls hC a2 a3 (by omega) (by omega) a6 (a7.new rfl q5 (fun x hx => znew_o M _ hx) z1 (fun q hq => o1 q hq) (fun x hx => znew_r hx) (fun x hx => znew_i hx) (fun x hx => znew_j hx) (fun _ => hce g H1 (by rw [← hsz]; exact e1))) a8
theorem zs_newI {n : Int32} (hd : decode f.2.1 pc = .ok (.newarray .int, 2)) (hq : (Nat.ble 1 mc && Nat.ble n.toNatClampNeg ms && Nat.ble n.toNatClampNeg 1000000 && decide (¬ n < 0) && Nat.blt (M.1 + 1) 100000) = true)
    (h : zGo l d (mc - 1) (ms - n.toNatClampNeg) f (znew M (1, n.toNatClampNeg)) (pc + 2) lo (.ref M.1 :: st) Q) : zGo l d mc ms f M pc lo (.int n :: st) Q :=
  znewa (a := 1) (cA := fun g => g.2.1.1) hd rfl hq zar_i (by decide) (fun g U hw => (hw.1.2 0 _ rfl).2) (fun g H1 e => by
    unfold zcell
    rw [znew_k]
    simp only [znew, beq_self_eq_true, cond_true]
    exact e) h
theorem zs_newB {n : Int32} (hd : decode f.2.1 pc = .ok (.newarray .byte, 2)) (hq : (Nat.ble 1 mc && Nat.ble n.toNatClampNeg ms && Nat.ble n.toNatClampNeg 1000000 && decide (¬ n < 0) && Nat.blt (M.1 + 1) 100000) = true)
    (h : zGo l d (mc - 1) (ms - n.toNatClampNeg) f (znew M (2, n.toNatClampNeg)) (pc + 2) lo (.ref M.1 :: st) Q) : zGo l d mc ms f M pc lo (.int n :: st) Q :=
  znewa (a := 2) (cA := fun g => g.2.1.2.1) hd rfl hq zar_b (by decide) (fun g U hw => (hw.1.2 1 _ rfl).2) (fun g H1 e => by
    unfold zcell
    rw [znew_k]
    simp only [znew, beq_self_eq_true, cond_true]
    exact e) h
theorem zs_newL {n : Int32} (hd : decode f.2.1 pc = .ok (.newarray .long, 2)) (hq : (Nat.ble 1 mc && Nat.ble n.toNatClampNeg ms && Nat.ble n.toNatClampNeg 1000000 && decide (¬ n < 0) && Nat.blt (M.1 + 1) 100000) = true)
    (h : zGo l d (mc - 1) (ms - n.toNatClampNeg) f (znew M (3, n.toNatClampNeg)) (pc + 2) lo (.ref M.1 :: st) Q) : zGo l d mc ms f M pc lo (.int n :: st) Q :=
  znewa (a := 3) (cA := fun g => g.2.1.2.2) hd rfl hq zar_l (by decide) (fun g U hw => (hw.1.2 2 _ rfl).2) (fun g H1 e => by
    unfold zcell
    rw [znew_k]
    simp only [znew, beq_self_eq_true, cond_true]
    exact e) h
set_option maxHeartbeats 4000000 in
/-- ONE STEP -/
theorem z_step {e : zI} (he : zpre f.1 f.2.1 pc = some e) (h : zst d f e mc ms M lo st (fun mc ms M pc lo st => zGo l d mc ms f M pc lo st Q) Q) : zGo l d mc ms f M pc lo st Q := by
  unfold zpre at he
  split at he
  case h_1 n hd => cases he; exact zs_iconst hd h
  case h_2 n hd => cases he; exact zs_bipush hd h
  case h_3 n hd => cases he; exact zs_sipush hd h
  case h_4 i hd =>
    cases hv : zcv f.1 i with
    | none => rw [hv] at he; cases he
    | some v => rw [hv] at he; cases he; exact zs_ldc hv hd h
  case h_5 i hd =>
    cases hv : zcv f.1 i with
    | none => rw [hv] at he; cases he
    | some v => rw [hv] at he; cases he; exact zs_ldcw hv hd h
  case h_6 n hd => cases he; exact zs_lconst hd h
  case h_7 i hd =>
    cases hv : (f.1 == 12 && i == 177) with
    | false => rw [hv] at he; cases he
    | true =>
      rw [hv] at he; cases he
      simp only [Bool.and_eq_true, beq_iff_eq] at hv
      obtain ⟨h1, rfl⟩ := hv
      exact zs_ldc2 h1 hd h
  case h_8 i hd =>
    cases he
    change (match zlk lo i with | some (.int x) => _ | _ => False) at h
    split at h
    · exact zs_iload (by assumption) hd h
    · exact h.elim
  case h_9 k hd =>
    cases he
    change (match zlk lo k.val with | some (.int x) => _ | _ => False) at h
    split at h
    · exact zs_iload_n (by assumption) hd h
    · exact h.elim
  case h_10 i hd =>
    cases he
    change (match zlk lo i with | some (.long x) => _ | _ => False) at h
    split at h
    · exact zs_lload (by assumption) hd h
    · exact h.elim
  case h_11 i hd =>
    cases he
    change (match zlk lo i with | some (.ref x) => _ | _ => False) at h
    split at h
    · exact zs_aload (by assumption) hd h
    · exact h.elim
  case h_12 k hd =>
    cases he
    change (match zlk lo k.val with | some (.ref x) => _ | _ => False) at h
    split at h
    · exact zs_aload_n (by assumption) hd h
    · exact h.elim
  case h_13 i hd => cases he; obtain ⟨x, r, rfl, h⟩ := t1i_ok h; obtain ⟨h1, h⟩ := zif_ok h; exact zs_istore hd h1 h
  case h_14 i hd => cases he; obtain ⟨x, r, rfl, h⟩ := t1i_ok h; obtain ⟨h1, h⟩ := zif_ok h; exact zs_istore_n hd h1 h
  case h_15 i hd => cases he; obtain ⟨x, r, rfl, h⟩ := t1l_ok h; obtain ⟨h1, h⟩ := zif_ok h; exact zs_lstore hd h1 h
  case h_16 i hd => cases he; obtain ⟨x, r, rfl, h⟩ := t1r_ok h; obtain ⟨h1, h⟩ := zif_ok h; exact zs_astore hd h1 h
  case h_17 i hd => cases he; obtain ⟨x, r, rfl, h⟩ := t1r_ok h; obtain ⟨h1, h⟩ := zif_ok h; exact zs_astore_n hd h1 h
  case h_18 i n hd =>
    cases he
    change (match zlk lo i with | some (.int y) => _ | _ => False) at h
    split at h
    · obtain ⟨h1, h⟩ := zif_ok h; exact zs_iinc hd (by assumption) h1 h
    · exact h.elim
  case h_19 hd => cases he; obtain ⟨x, y, r, rfl, h⟩ := t2i_ok h; exact zs_iadd hd h
  case h_20 hd => cases he; obtain ⟨x, y, r, rfl, h⟩ := t2i_ok h; exact zs_isub hd h
  case h_21 hd => cases he; obtain ⟨x, y, r, rfl, h⟩ := t2i_ok h; exact zs_imul hd h
  case h_22 hd => cases he; obtain ⟨x, y, r, rfl, h⟩ := t2i_ok h; exact zs_iand hd h
  case h_23 hd => cases he; obtain ⟨x, y, r, rfl, h⟩ := t2i_ok h; exact zs_ior hd h
  case h_24 hd => cases he; obtain ⟨x, y, r, rfl, h⟩ := t2i_ok h; exact zs_ixor hd h
  case h_25 hd => cases he; obtain ⟨x, y, r, rfl, h⟩ := t2i_ok h; exact zs_ishl hd h
  case h_26 hd => cases he; obtain ⟨x, y, r, rfl, h⟩ := t2i_ok h; exact zs_ishr hd h
  case h_27 hd => cases he; obtain ⟨x, y, r, rfl, h⟩ := t2i_ok h; exact zs_iushr hd h
  case h_28 hd => cases he; obtain ⟨x, y, r, rfl, h⟩ := t2i_ok h; exact zs_idiv hd h.1 h.2
  case h_29 hd => cases he; obtain ⟨x, y, r, rfl, h⟩ := t2i_ok h; exact zs_irem hd h.1 h.2
  case h_30 hd => cases he; obtain ⟨x, r, rfl, h⟩ := t1i_ok h; exact zs_i2l hd h
  case h_31 hd => cases he; obtain ⟨x, r, rfl, h⟩ := t1i_ok h; exact zs_i2b hd h
  case h_32 hd => cases he; obtain ⟨x, y, r, rfl, h⟩ := t2l_ok h; exact zs_lor hd h
  case h_33 hd => cases he; obtain ⟨x, y, r, rfl, h⟩ := t2l_ok h; exact zs_lsub hd h
  case h_34 hd => cases he; obtain ⟨x, y, r, rfl, h⟩ := t2l_ok h; exact zs_lcmp hd h
  case h_35 hd => cases he; obtain ⟨x, y, r, rfl, h⟩ := til_ok h; exact zs_lshl hd h
  case h_36 hd =>
    cases he
    rcases t1d_ok (st := st) (k := fun v r => zGo l d mc ms f M (pc + 1) lo (v :: v :: r) Q) h with ⟨x, r, rfl, h⟩ | ⟨x, r, rfl, h⟩
    · exact zs_dupi hd h
    · exact zs_dupr hd h
  case h_37 hd => cases he; obtain ⟨x, y, r, rfl, h⟩ := tir_ok h; exact zs_dup2 hd h
  case h_38 hd => cases he; obtain ⟨x, r, rfl, h⟩ := t1i_ok h; exact zs_popi hd h
  case h_39 off hd =>
    cases hv : zgo pc off with
    | false => rw [hv] at he; cases he
    | true => rw [hv] at he; cases he; exact zs_goto hd hv h
  case h_40 off hd =>
    cases hv : zgo pc off with
    | false => rw [hv] at he; cases he
    | true => rw [hv] at he; cases he; obtain ⟨x, y, r, rfl, h⟩ := t2i_ok h; exact zs_icmp_eq hd hv h
  case h_41 off hd =>
    cases hv : zgo pc off with
    | false => rw [hv] at he; cases he
    | true => rw [hv] at he; cases he; obtain ⟨x, y, r, rfl, h⟩ := t2i_ok h; exact zs_icmp_ne hd hv h
  case h_42 off hd =>
    cases hv : zgo pc off with
    | false => rw [hv] at he; cases he
    | true => rw [hv] at he; cases he; obtain ⟨x, y, r, rfl, h⟩ := t2i_ok h; exact zs_icmp_lt hd hv h
  case h_43 off hd =>
    cases hv : zgo pc off with
    | false => rw [hv] at he; cases he
    | true => rw [hv] at he; cases he; obtain ⟨x, y, r, rfl, h⟩ := t2i_ok h; exact zs_icmp_ge hd hv h
  case h_44 off hd =>
    cases hv : zgo pc off with
    | false => rw [hv] at he; cases he
    | true => rw [hv] at he; cases he; obtain ⟨x, y, r, rfl, h⟩ := t2i_ok h; exact zs_icmp_gt hd hv h
  case h_45 off hd =>
    cases hv : zgo pc off with
    | false => rw [hv] at he; cases he
    | true => rw [hv] at he; cases he; obtain ⟨x, y, r, rfl, h⟩ := t2i_ok h; exact zs_icmp_le hd hv h
  case h_46 off hd =>
    cases hv : zgo pc off with
    | false => rw [hv] at he; cases he
    | true => rw [hv] at he; cases he; obtain ⟨x, r, rfl, h⟩ := t1i_ok h; exact zs_if_eq hd hv h
  case h_47 off hd =>
    cases hv : zgo pc off with
    | false => rw [hv] at he; cases he
    | true => rw [hv] at he; cases he; obtain ⟨x, r, rfl, h⟩ := t1i_ok h; exact zs_if_ne hd hv h
  case h_48 off hd =>
    cases hv : zgo pc off with
    | false => rw [hv] at he; cases he
    | true => rw [hv] at he; cases he; obtain ⟨x, r, rfl, h⟩ := t1i_ok h; exact zs_if_lt hd hv h
  case h_49 off hd =>
    cases hv : zgo pc off with
    | false => rw [hv] at he; cases he
    | true => rw [hv] at he; cases he; obtain ⟨x, r, rfl, h⟩ := t1i_ok h; exact zs_if_ge hd hv h
  case h_50 off hd =>
    cases hv : zgo pc off with
    | false => rw [hv] at he; cases he
    | true => rw [hv] at he; cases he; obtain ⟨x, r, rfl, h⟩ := t1i_ok h; exact zs_if_gt hd hv h
  case h_51 off hd =>
    cases hv : zgo pc off with
    | false => rw [hv] at he; cases he
    | true => rw [hv] at he; cases he; obtain ⟨x, r, rfl, h⟩ := t1i_ok h; exact zs_if_le hd hv h
  case h_52 i hd =>
    cases hv : zfd f.1 i with
    | none => rw [hv] at he; cases he
    | some q => rw [hv] at he; cases he; obtain ⟨x, r, rfl, h⟩ := t1r_ok h; obtain ⟨h1, h⟩ := zif_ok h; exact zs_get hd hv h1 h
  case h_53 i hd =>
    cases hv : zfd f.1 i with
    | none => rw [hv] at he; cases he
    | some q =>
      obtain ⟨a, b⟩ := q
      rw [hv] at he; cases he
      change (match tyT a b with | .int => _ | .boolean => _ | .long => _ | .object _ => _ | .array _ => _ | _ => False) at h
      split at h
      · obtain ⟨x, y, r, rfl, h⟩ := tir_ok h; obtain ⟨h1, h⟩ := zif_ok h; simp only [Bool.and_eq_true] at h1; exact zs_putI hd hv h1.1 h1.2 (by assumption) h
      · obtain ⟨x, y, r, rfl, h⟩ := tir_ok h; obtain ⟨h1, h⟩ := zif_ok h; simp only [Bool.and_eq_true] at h1; exact zs_putZ hd hv h1.1 h1.2 (by assumption) h.1 h.2
      · obtain ⟨x, y, r, rfl, h⟩ := tlr_ok h; obtain ⟨h1, h⟩ := zif_ok h; simp only [Bool.and_eq_true] at h1; exact zs_putJ hd hv h1.1 h1.2 (by assumption) h
      · obtain ⟨x, y, r, rfl, h⟩ := trr_ok h; obtain ⟨h1, h⟩ := zif_ok h; simp only [Bool.and_eq_true] at h1; exact zs_putR hd hv h1.1 h1.2.1 h1.2.2.1 (Nat.eq_of_beq_eq_true h1.2.2.2) (by assumption) (Or.inl ⟨_, rfl⟩) h
      · obtain ⟨x, y, r, rfl, h⟩ := trr_ok h; obtain ⟨h1, h⟩ := zif_ok h; simp only [Bool.and_eq_true] at h1; exact zs_putR hd hv h1.1 h1.2.1 h1.2.2.1 (Nat.eq_of_beq_eq_true h1.2.2.2) (by assumption) (Or.inr ⟨_, rfl⟩) h
      · exact h.elim
  case h_54 hd => cases he; obtain ⟨x, y, r, rfl, h⟩ := tir_ok h; obtain ⟨h1, h⟩ := zif_ok h; exact zs_iald hd h1 h.1 h.2
  case h_55 hd => cases he; obtain ⟨x, y, z, r, rfl, h⟩ := tiir_ok h; obtain ⟨h1, h⟩ := zif_ok h; exact zs_iast hd h1 h.1 h.2
  case h_56 hd => cases he; obtain ⟨x, y, r, rfl, h⟩ := tir_ok h; obtain ⟨h1, h⟩ := zif_ok h; exact zs_bald hd h1 h.1 h.2
  case h_57 hd => cases he; obtain ⟨x, y, z, r, rfl, h⟩ := tiir_ok h; obtain ⟨h1, h⟩ := zif_ok h; exact zs_bast hd h1 h.1 h.2
  case h_58 hd => cases he; obtain ⟨x, y, r, rfl, h⟩ := tir_ok h; obtain ⟨h1, h⟩ := zif_ok h; exact zs_lald hd h1 h.1 h.2
  case h_59 hd => cases he; obtain ⟨x, y, z, r, rfl, h⟩ := tlir_ok h; obtain ⟨h1, h⟩ := zif_ok h; exact zs_last hd h1 h.1 h.2
  case h_60 hd => cases he; obtain ⟨x, r, rfl, h⟩ := t1r_ok h; obtain ⟨h1, h⟩ := zif_ok h; exact zs_alen hd h1 h
  case h_61 hd =>
    cases he
    obtain ⟨x, r, rfl, rfl, h2⟩ := t1i_ok h
    clear h
    split at h2
    · exact zs_iret hd (by assumption) h2
    · exact zs_zret hd (by assumption) h2.1 h2.2
    · exact h2.elim
  case h_62 hd =>
    cases he
    obtain ⟨x, r, rfl, rfl, h2⟩ := t1l_ok h
    clear h
    split at h2
    · exact zs_lret hd (by assumption) h2
    · exact h2.elim
  case h_63 hd => cases he; obtain ⟨rfl, h1, h⟩ := h; exact zs_vret hd h1 h
  case h_64 i hd =>
    cases hv : znc f.1 i with
    | none => rw [hv] at he; cases he
    | some q => rw [hv] at he; cases he; obtain ⟨h1, h⟩ := zif_ok h; exact zs_new hd hv h1 h
  case h_65 hd => cases he; obtain ⟨x, r, rfl, h⟩ := t1i_ok h; obtain ⟨h1, h⟩ := zif_ok h; exact zs_newI hd h1 h
  case h_66 hd => cases he; obtain ⟨x, r, rfl, h⟩ := t1i_ok h; obtain ⟨h1, h⟩ := zif_ok h; exact zs_newB hd h1 h
  case h_67 hd => cases he; obtain ⟨x, r, rfl, h⟩ := t1i_ok h; obtain ⟨h1, h⟩ := zif_ok h; exact zs_newL hd h1 h
  case h_68 df hi offs len hd =>
    cases hv : ((zgo pc df && offs.toList.all (zgo pc) && decide (hi = (offs.size : Int) - 1)) && Nat.blt offs.size 1000) with
    | false => rw [hv] at he; cases he
    | true =>
      rw [hv] at he; cases he
      obtain ⟨x, r, rfl, h⟩ := t1i_ok h
      rw [Bool.and_eq_true] at hv
      exact zs_switch hd hv.1 h (Nat.blt_eq.mp hv.2)
  case h_69 i hd =>
    cases hv : zoi f.1 i with
    | false => rw [hv] at he; cases he
    | true => rw [hv] at he; cases he; obtain ⟨x, r, rfl, h⟩ := t1r_ok h; obtain ⟨h1, h⟩ := zif_ok h; exact zs_objinit hd hv h1 h
  case h_70 => cases he
end
end
section
/-! MANY STEPS; CALLS -/
theorem t1i_m {st : List Value} {k k' : Int32 → List Value → Prop} (h : t1i st k) (hk : ∀ x r, k x r → k' x r) : t1i st k' := by
  obtain ⟨x, r, rfl, h⟩ := t1i_ok h; exact hk x r h
theorem t1l_m {st : List Value} {k k' : Int64 → List Value → Prop} (h : t1l st k) (hk : ∀ x r, k x r → k' x r) : t1l st k' := by
  obtain ⟨x, r, rfl, h⟩ := t1l_ok h; exact hk x r h
theorem t1r_m {st : List Value} {k k' : Nat → List Value → Prop} (h : t1r st k) (hk : ∀ x r, k x r → k' x r) : t1r st k' := by
  obtain ⟨x, r, rfl, h⟩ := t1r_ok h; exact hk x r h
theorem t2i_m {st : List Value} {k k' : Int32 → Int32 → List Value → Prop} (h : t2i st k) (hk : ∀ x y r, k x y r → k' x y r) : t2i st k' := by
  obtain ⟨x, y, r, rfl, h⟩ := t2i_ok h; exact hk x y r h
theorem t2l_m {st : List Value} {k k' : Int64 → Int64 → List Value → Prop} (h : t2l st k) (hk : ∀ x y r, k x y r → k' x y r) : t2l st k' := by
  obtain ⟨x, y, r, rfl, h⟩ := t2l_ok h; exact hk x y r h
theorem til_m {st : List Value} {k k' : Int64 → Int32 → List Value → Prop} (h : til st k) (hk : ∀ x y r, k x y r → k' x y r) : til st k' := by
  obtain ⟨x, y, r, rfl, h⟩ := til_ok h; exact hk x y r h
theorem tir_m {st : List Value} {k k' : Nat → Int32 → List Value → Prop} (h : tir st k) (hk : ∀ x y r, k x y r → k' x y r) : tir st k' := by
  obtain ⟨x, y, r, rfl, h⟩ := tir_ok h; exact hk x y r h
theorem tiir_m {st : List Value} {k k' : Nat → Int32 → Int32 → List Value → Prop} (h : tiir st k) (hk : ∀ x y z r, k x y z r → k' x y z r) : tiir st k' := by
  obtain ⟨x, y, z, r, rfl, h⟩ := tiir_ok h; exact hk x y z r h
theorem tlir_m {st : List Value} {k k' : Nat → Int32 → Int64 → List Value → Prop} (h : tlir st k) (hk : ∀ x y z r, k x y z r → k' x y z r) : tlir st k' := by
  obtain ⟨x, y, z, r, rfl, h⟩ := tlir_ok h; exact hk x y z r h
theorem tlr_m {st : List Value} {k k' : Nat → Int64 → List Value → Prop} (h : tlr st k) (hk : ∀ x z r, k x z r → k' x z r) : tlr st k' := by
  obtain ⟨x, z, r, rfl, h⟩ := tlr_ok h; exact hk x z r h
theorem trr_m {st : List Value} {k k' : Nat → Nat → List Value → Prop} (h : trr st k) (hk : ∀ x z r, k x z r → k' x z r) : trr st k' := by
  obtain ⟨x, z, r, rfl, h⟩ := trr_ok h; exact hk x z r h
theorem t1d_m {st : List Value} {k k' : Value → List Value → Prop} (h : t1d st k) (hk : ∀ x r, k x r → k' x r) : t1d st k' := by
  rcases t1d_ok h with ⟨x, r, rfl, h⟩ | ⟨x, r, rfl, h⟩
  · exact hk _ r h
  · exact hk _ r h
theorem zif_m {b : Bool} {p q : Prop} (h : zif b p) (hk : p → q) : zif b q := by
  cases b
  · exact h.elim
  · exact hk h
set_option maxHeartbeats 2000000 in
theorem zst_m {d : Nat} {f : zF} {e : zI} {mc ms : Nat} {M : zM} {lo : List (Nat × Value)} {st : List Value} {K K' : Nat → Nat → zM → Nat → List (Nat × Value) → List Value → Prop} {Q : zR → zM → Prop} (h : zst d f e mc ms M lo st K Q) (hK : ∀ mc ms M pc lo st, K mc ms M pc lo st → K' mc ms M pc lo st) : zst d f e mc ms M lo st K' Q := by
  unfold zst at h ⊢
  split at h
  case h_1 => exact hK _ _ _ _ _ _ h
  case h_2 => exact hK _ _ _ _ _ _ h
  case h_3 => split at h <;> first | exact hK _ _ _ _ _ _ h | exact h.elim
  case h_4 => split at h <;> first | exact hK _ _ _ _ _ _ h | exact h.elim
  case h_5 => split at h <;> first | exact hK _ _ _ _ _ _ h | exact h.elim
  case h_6 => exact t1i_m h (fun x r h => zif_m h (hK _ _ _ _ _ _))
  case h_7 => exact t1l_m h (fun x r h => zif_m h (hK _ _ _ _ _ _))
  case h_8 => exact t1r_m h (fun x r h => zif_m h (hK _ _ _ _ _ _))
  case h_9 => split at h <;> first | exact zif_m h (hK _ _ _ _ _ _) | exact h.elim
  case h_10 => exact t2i_m h (fun x y r h => ⟨h.1, hK _ _ _ _ _ _ h.2⟩)
  case h_11 => exact t2i_m h (fun x y r h => ⟨h.1, hK _ _ _ _ _ _ h.2⟩)
  case h_12 => exact t2i_m h (fun x y r h => hK _ _ _ _ _ _ h)
  case h_13 => exact t1i_m h (fun x r h => hK _ _ _ _ _ _ h)
  case h_14 => exact t1i_m h (fun x r h => hK _ _ _ _ _ _ h)
  case h_15 => exact t2l_m h (fun x y r h => hK _ _ _ _ _ _ h)
  case h_16 => exact t2l_m h (fun x y r h => hK _ _ _ _ _ _ h)
  case h_17 => exact t2l_m h (fun x y r h => hK _ _ _ _ _ _ h)
  case h_18 => exact til_m h (fun x y r h => hK _ _ _ _ _ _ h)
  case h_19 => exact t1d_m h (fun x r h => hK _ _ _ _ _ _ h)
  case h_20 => exact tir_m h (fun x y r h => hK _ _ _ _ _ _ h)
  case h_21 => exact t1i_m h (fun x r h => hK _ _ _ _ _ _ h)
  case h_22 => exact hK _ _ _ _ _ _ h
  case h_23 => exact t2i_m h (fun x y r h => ⟨fun z => hK _ _ _ _ _ _ (h.1 z), fun z => hK _ _ _ _ _ _ (h.2 z)⟩)
  case h_24 => exact t1i_m h (fun x r h => ⟨fun z => hK _ _ _ _ _ _ (h.1 z), fun z => hK _ _ _ _ _ _ (h.2 z)⟩)
  case h_25 => exact t1r_m h (fun x r h => zif_m h (hK _ _ _ _ _ _))
  case h_26 =>
    split at h
    · exact tir_m h (fun x y r h => zif_m h (hK _ _ _ _ _ _))
    · exact tir_m h (fun x y r h => zif_m h (fun h => ⟨h.1, hK _ _ _ _ _ _ h.2⟩))
    · exact tlr_m h (fun x y r h => zif_m h (hK _ _ _ _ _ _))
    · exact trr_m h (fun x y r h => zif_m h (hK _ _ _ _ _ _))
    · exact trr_m h (fun x y r h => zif_m h (hK _ _ _ _ _ _))
    · exact h.elim
  case h_27 => exact tir_m h (fun x y r h => zif_m h (fun h => ⟨h.1, hK _ _ _ _ _ _ h.2⟩))
  case h_28 => exact tiir_m h (fun x y z r h => zif_m h (fun h => ⟨h.1, hK _ _ _ _ _ _ h.2⟩))
  case h_29 => exact tir_m h (fun x y r h => zif_m h (fun h => ⟨h.1, hK _ _ _ _ _ _ h.2⟩))
  case h_30 => exact tiir_m h (fun x y z r h => zif_m h (fun h => ⟨h.1, hK _ _ _ _ _ _ h.2⟩))
  case h_31 => exact tir_m h (fun x y r h => zif_m h (fun h => ⟨h.1, hK _ _ _ _ _ _ h.2⟩))
  case h_32 => exact tlir_m h (fun x y z r h => zif_m h (fun h => ⟨h.1, hK _ _ _ _ _ _ h.2⟩))
  case h_33 => exact t1r_m h (fun x r h => zif_m h (hK _ _ _ _ _ _))
  case h_34 => exact h
  case h_35 => exact h
  case h_36 => exact h
  case h_37 => exact zif_m h (hK _ _ _ _ _ _)
  case h_38 => exact t1i_m h (fun x r h => zif_m h (hK _ _ _ _ _ _))
  case h_39 => exact t1i_m h (fun x r h => ⟨fun k hk hx => hK _ _ _ _ _ _ (h.1 k hk hx), fun z => hK _ _ _ _ _ _ (h.2 z)⟩)
  case h_40 => exact t1r_m h (fun x r h => zif_m h (hK _ _ _ _ _ _))
  case h_41 => exact h.elim
def zfind : List (Nat × zI) → Nat → Option zI
  | [], _ => none
  | q :: r, i => bif q.1 == i then some q.2 else zfind r i
theorem zfind_ok {tb : List (Nat × zI)} {i : Nat} {e : zI} (h : zfind tb i = some e) : (i, e) ∈ tb := by
  induction tb with
  | nil => cases h
  | cons q r ih =>
    unfold zfind at h
    cases hq : (q.1 == i) with
    | true =>
      rw [hq] at h
      have e1 : q.1 = i := by simpa using hq
      have e2 : q.2 = e := Option.some.inj h
      rw [← e1, ← e2]
      exact List.mem_cons_self
    | false => rw [hq] at h; exact List.mem_cons_of_mem _ (ih h)
/-- steps, up to n, until a place of sp, or one that the table hasn't -/
def zwp (d : Nat) (f : zF) (tb : List (Nat × zI)) (sp : List Nat) (K : Nat → Nat → zM → Nat → List (Nat × Value) → List Value → Prop) (Q : zR → zM → Prop) : Nat → Nat → Nat → zM → Nat → List (Nat × Value) → List Value → Prop
  | 0, mc, ms, M, pc, lo, st => K mc ms M pc lo st
  | n + 1, mc, ms, M, pc, lo, st => match zfind tb pc with
    | none => K mc ms M pc lo st
    | some e => zst d f e mc ms M lo st (fun mc ms M pc lo st => match sp.elem pc with
      | true => K mc ms M pc lo st
      | false => zwp d f tb sp K Q n mc ms M pc lo st) Q
def ztbok (f : zF) (tb : List (Nat × zI)) : Prop := ∀ q ∈ tb, zpre f.1 f.2.1 q.1 = some q.2
theorem zwp_ok {l : Launch} {d : Nat} {f : zF} {tb : List (Nat × zI)} (htb : ztbok f tb) (sp : List Nat) {Q : zR → zM → Prop} (n : Nat) : ∀ {mc ms : Nat} {M : zM} {pc : Nat} {lo : List (Nat × Value)} {st : List Value},
    zwp d f tb sp (fun mc ms M pc lo st => zGo l d mc ms f M pc lo st Q) Q n mc ms M pc lo st → zGo l d mc ms f M pc lo st Q := by
  induction n with
  | zero => intro mc ms M pc lo st h; exact h
  | succ n ih =>
    intro mc ms M pc lo st h
    unfold zwp at h
    split at h
    · exact h
    · rename_i e he
      have he2 : zpre f.1 f.2.1 pc = some e := htb (pc, e) (zfind_ok he)
      have h2 : zst d f e mc ms M lo st (fun mc ms M pc lo st => zGo l d mc ms f M pc lo st Q) Q := by
        apply zst_m h
        intro mc ms M pc lo st h
        split at h
        · exact h
        · exact ih h
      exact z_step he2 h2
/-- consequence -/
theorem zRet.mono {l : Launch} {d mc ms : Nat} {y : MethodName} {cd : Cond} {a : List Value} {M : zM} {Q Q' : zR → zM → Prop} (h : zRet l d mc ms y cd a M Q) (hQ : ∀ r M', Q r M' → Q' r M') : zRet l d mc ms y cd a M Q' := by
  intro g p e ha hc hk s m args below hf happ hP hK
  obtain ⟨n, o, h1, h2, h3, h4⟩ := h g p e ha hc hk s m args below hf happ hP hK
  refine ⟨n, o, h1, h2, h3, ?_⟩
  rcases h4 with ⟨⟨v, M', hv, hq, hH⟩, hL⟩ | ⟨q, ho, E, ce, L, ⟨M', hq, hH⟩, h5⟩
  · exact Or.inl ⟨⟨v, M', hv, hQ _ _ hq, hH⟩, hL⟩
  · exact Or.inr ⟨q, ho, E, ce, L, ⟨M', hQ _ _ hq, hH⟩, h5⟩
theorem zGo.post {l : Launch} {d mc ms : Nat} {f : zF} {M : zM} {pc : Nat} {lo : List (Nat × Value)} {st : List Value} {Q Q' : zR → zM → Prop} (h : zGo l d mc ms f M pc lo st Q) (hQ : ∀ r M', Q r M' → Q' r M') : zGo l d mc ms f M pc lo st Q' := by
  intro g p e R s m args below meth c H locs cells slots ls a1 a2 a3 a4 a5 a6 a7 a8 T hT X
  obtain ⟨t, st, o, b1, b2, b3⟩ := h g p e R s m args below meth c H locs cells slots ls a1 a2 a3 a4 a5 a6 a7 a8 T hT X
  refine ⟨t, st, o, b1, b2, ?_⟩
  rcases b3 with ⟨⟨v, M', hv, hq, hH⟩, hL⟩ | ⟨q, ho, E, ce, L, ⟨M', hq, hH⟩, h5⟩
  · exact Or.inl ⟨⟨v, M', hv, hQ _ _ hq, hH⟩, hL⟩
  · exact Or.inr ⟨q, ho, E, ce, L, ⟨M', hQ _ _ hq, hH⟩, h5⟩
/-- fewer locals are known, in any order -/
theorem zGo.sub {l : Launch} {d mc ms : Nat} {f : zF} {M : zM} {pc : Nat} {lo lo' : List (Nat × Value)} {st : List Value} {Q : zR → zM → Prop} (h : zGo l d mc ms f M pc lo' st Q) (hs : ∀ q ∈ lo', q ∈ lo) : zGo l d mc ms f M pc lo st Q :=
  fun g p e R s m args below meth c H locs cells slots ls a1 a2 a3 a4 a5 a6 a7 a8 => h g p e R s m args below meth c H locs cells slots ls a1 a2 a3 a4 a5 a6 a7 ⟨a8.1, a8.2.1, fun q hq => by
    obtain ⟨q', hq', rfl⟩ := List.mem_map.mp hq
    exact a8.2.2 _ (List.mem_map.mpr ⟨q', hs q' hq', rfl⟩)⟩
theorem zblind {l : Launch} {g : zG} {M : zM} {av : List Value} : FrameBlind (va_Pc av (fun U => zW l g U ∧ zH g M U.heap)) := by
  intro a U g' mk h
  obtain ⟨h1, h2, h3⟩ := h
  exact ⟨h1, zW.warm (s := U) (U := U.calling g' mk a) (State.WarmedH.refl U) h2, h3⟩
theorem zwarm {args : Array Value} {s : State} (hts : ∀ w ∈ zws, w.before args s = true) : ∀ w ∈ zws, ∀ (a' : Array Value) (U : State), s.WarmedH U.vm → w.before a' U = true := fun w hw a' U hW => word_at hW (z_good w hw) (hts w hw)
theorem zcat (g : zG) (st : List Value) : ((st.map (zc g)).map fun v => v.category).sum = (st.map Value.category).sum := by
  rw [List.map_map]
  have e1 : ((fun v => v.category) ∘ zc g) = Value.category := funext fun v => zc_cat g v
  rw [e1]
/-- a method's own words -/
def zMth (y : MethodName) (cd : Cond) (n : Nat) : Prop := cd ∈ zws ∧ Cond.initialized y.cls ∈ zws ∧ (y.cls ≠ "java/lang/invoke/MethodHandle" ∧ y.cls ≠ "java/lang/invoke/VarHandle") ∧ (parseMethodDescriptor y.desc).map (fun d => d.parameters.length) = some n
theorem zcallB {R : Room} {s : State} {args : Array Value} {own : String} {idx : Nat} {y : MethodName} {cc : ByteArray} {nL n d mc ms : Nat} {ret : Option FieldType} (hm : zMth y (.code y cc nL ret) n) (hl : (Cond.methodLink own idx y).before args s = true) (hts : ∀ w ∈ zws, w.before args s = true) (h1 : d + 1 ≤ R.frames) (h2 : 8 + (nL + 11) + 37 * d ≤ R.locals) :
    CallB R s args own idx y cc nL ret (.code y cc nL ret :: zws) (zrm d mc ms) mc ms n := by
  obtain ⟨m1, m2, m3, m4⟩ := hm
  refine ⟨rfl, rfl, h1, h2, ?_, List.mem_cons_self, hts _ m1, hts _ m2, m3, fun sig h => ?_, hl⟩
  · intro w hw
    rcases List.mem_cons.mp hw with rfl | hw
    · exact zwarm hts _ m1
    · exact zwarm hts _ hw
  · rw [h] at m4
    exact (Option.some.inj m4).symm
/-- behind a call: the machine's end of it, as a memory -/
theorem zback {l : Launch} {d mc ms mc' ms' : Nat} {f : zF} {pc : Nat} {lo : List (Nat × Value)} {rest : List Value} {Q Qc : zR → zM → Prop} {g : zG} {p : Program} {e : Env} {R : Room} {s : State} {m : MethodId} {args : Array Value} {below : List Frame} {meth : Method} {c : Code} {H : Heap} {locs : List Loc} {cells slots : Nat} {ls : Array Slot} {st0 : List Value} {a : Array Value}
    (hr : vx_Run p l e R s m args below meth c H locs cells slots mc' ms' (F0 m pc ls st0) (rest.map (zc g)) (zQr g Qc a) (zQx g Qc) (fun q => g.2.2.1 ≤ q))
    (hC : zCx l g f p s m args meth c) (a2 : d ≤ R.frames) (a3 : 37 * d ≤ R.locals) (a4 : cells + mc ≤ R.cells) (a5 : slots + ms ≤ R.slots) (a6 : ∀ q ∈ locs, g.2.2.1 ≤ q.base) (a8 : lv_has ls f.2.2.2.1 (zlm g lo)) (hmc : mc' ≤ mc) (hms : ms' ≤ ms)
    (k : ∀ v M', Qc (.inl v) M' → zGo l d (mc - mc') (ms - ms') f M' (pc + 3) lo (v.toList ++ rest) Q)
    (kx : ∀ (E : String) (M' : zM) (ce : Cell) (q9 : Addr) (H1 : Heap) (locs1 : List Loc), Qc (.inr E) M' → zH g M' H1 → (∀ q ∈ locs1, g.2.2.1 ≤ q.base) → H1[q9]? = some ce → ce.vm = .none → s.vm.findClass E = some ce.cls → vx_W p l e R s m args below meth c H1 locs1 (cells + mc') (slots + ms') (vx_MQ below (zQr g Q) (zQx g Q) args s R.cells R.slots (fun q => g.2.2.1 ≤ q)) (F0 m pc ls (rest.map (zc g))) q9) :
    W p l e R s m args below meth c H locs cells slots (vx_MQ below (zQr g Q) (zQx g Q) args s R.cells R.slots (fun q => g.2.2.1 ≤ q)) (F0 m pc ls st0) := by
  intro T hT X
  have hL2 : ∀ {L : List Loc}, (∀ q ∈ L, g.2.2.1 ≤ q.base) → ∀ q ∈ locs ++ L, g.2.2.1 ≤ q.base := fun hL q hq => (List.mem_append.mp hq).elim (a6 q) (hL q)
  rcases hr T hT X with ⟨v, st₀, t, T', L, h0, X', hL, e1, e2, ⟨w, M', hv, hq, hH⟩, stp⟩ | ⟨q, st₀, t, T', L, E, ce, h0, X', hL, e1, e2, ⟨M', hq, hH⟩, hce, hcv, hcl, stp⟩
  · cases hv
    have hk := k w M' hq g p e R s m args below meth c T'.heap (locs ++ L) (cells + mc') (slots + ms') ls hC a2 a3 (by omega) (by omega) (hL2 hL) (by rw [e1]; exact hH) a8
    have hst : ((w.toList ++ rest).map (zc g)) = (w.map (zc g)).toList ++ rest.map (zc g) := by cases w <;> simp
    rw [hst] at hk
    obtain ⟨t2, b1, b2⟩ := hk T' rfl X'
    exact ⟨t2, stp t2 b1, b2⟩
  · obtain ⟨t2, b1, b2⟩ := kx E M' ce q T'.heap (locs ++ L) hq (by rw [e1]; exact hH) (hL2 hL) (by rw [e1]; exact hce) hcv hcl T' rfl X'
    exact ⟨t2, stp.trans b1, b2⟩
section
variable {l : Launch} {d mc ms : Nat} {f : zF} {M : zM} {pc : Nat} {lo : List (Nat × Value)} {st : List Value} {Q : zR → zM → Prop}
theorem zcallV (d' mc' ms' : Nat) {idx o ci n nL : Nat} {y : MethodName} {cc : ByteArray} {ret : Option FieldType} {a rest : List Value} {Qc : zR → zM → Prop} (hd : decode f.2.1 pc = .ok (.invokevirtual idx, 3)) (hl : Cond.methodLink (zown f.1) idx y ∈ zws) (hm : zMth y (.code y cc nL ret) n) (hi : Cond.instanceMethod y ∈ zws) (hs : Cond.selects y.cls y y ∈ zws)
    (hst : st = a.reverse ++ .ref o :: rest) (hk : zisk M o 0 ci = true) (hcl : (zcl[ci]?).map (fun q => q.1) = some y.cls) (hn : a.length = n) (hq : (Nat.ble (d' + 1) d && Nat.ble nL 18 && Nat.ble mc' mc && Nat.ble ms' ms && Nat.ble ((rest.map Value.category).sum) 8) = true) (hh : f.2.2.2.2.1 = [])
    (hR : zRet l d' mc' ms' y (.code y cc nL ret) (.ref o :: a) M Qc)
    (kx : ∀ E M', Qc (.inr E) M' → Q (.inr E) M')
    (k : ∀ v M', Qc (.inl v) M' → zGo l d (mc - mc') (ms - ms') f M' (pc + 3) lo (v.toList ++ rest) Q) : zGo l d mc ms f M pc lo st Q := by
  intro g p e R s m args below meth c H locs cells slots ls hC a2 a3 a4 a5 a6 a7 a8
  simp only [Bool.and_eq_true, Nat.ble_eq] at hq
  obtain ⟨⟨⟨⟨q1, q2⟩, q3⟩, q4⟩, q5⟩ := hq
  subst hst
  obtain ⟨hx, hcb, hr, hml, hown, hlocks, hts, hw, ht, hin⟩ := id hC
  have hk := zisk_ok hk
  obtain ⟨-, had, hce⟩ := a7.cell o hk (by decide)
  unfold zcell at hce
  rw [hk] at hce
  obtain ⟨q', hq', cell, c1, c2, c3, c4⟩ := hce
  have hcls : q'.1 = y.cls := by rw [hq'] at hcl; exact Option.some.inj hcl
  have hrun := vx_runV (l := l) (R := R) (H := H) (p := p) (e := e) (below := below) (meth := meth) (locs := locs) (cells := cells) (slots := slots) (g := F0 m pc ls ((a.reverse ++ .ref o :: rest).map (zc g))) (As := a.map (zc g)) (rest := rest.map (zc g)) (b := zad g o) (C := y.cls) (Ts := zws) ⟨hx, hcb, hml, hown, hts⟩ (hR g)
    ⟨zcallB hm (hts _ hl) hts (by omega) (by omega), hts _ hi, hts _ hs⟩
    ⟨zblind, ⟨cell, by rw [had]; exact c1, by rw [c3]; rfl, by rw [c2, ← hcls]; exact (hw.1.1 ci q' hq').2.1⟩, fun U hU hW => ⟨rfl, zW.warm hW hw, by rw [hU]; exact a7⟩⟩
    rfl (by rw [List.length_map]; exact hn) a8.1 (by simp [zc]) (by rw [zcat]; show 2 * 0 + _ ≤ 8; omega) hd ⟨by omega, by omega⟩
  refine zback hrun hC a2 a3 a4 a5 a6 a8 q3 q4 k (fun E M' ce q9 H1 locs1 hqx hH1 hl1 hce hcv hclx => ?_)
  refine vx_out (fun x hx => ?_) hlocks hce hcv hclx (fun t ht _ => ⟨M', kx E M' hqx, by rw [ht]; exact hH1⟩) hl1 (by omega) (by omega)
  rw [ht, hh] at hx
  cases hx
theorem zcallS (d' mc' ms' : Nat) {idx n nL : Nat} {y : MethodName} {cc : ByteArray} {ret : Option FieldType} {a rest : List Value} {Qc : zR → zM → Prop} (hd : decode f.2.1 pc = .ok (.invokestatic idx, 3)) (hl : Cond.methodLink (zown f.1) idx y ∈ zws) (hm : zMth y (.code y cc nL ret) n) (hi : Cond.static y ∈ zws)
    (hst : st = a.reverse ++ rest) (hn : a.length = n) (hq : (Nat.ble (d' + 1) d && Nat.ble nL 18 && Nat.ble mc' mc && Nat.ble ms' ms && Nat.ble ((rest.map Value.category).sum) 8) = true) (hh : f.2.2.2.2.1 = [])
    (hR : zRet l d' mc' ms' y (.code y cc nL ret) a M Qc)
    (kx : ∀ E M', Qc (.inr E) M' → Q (.inr E) M')
    (k : ∀ v M', Qc (.inl v) M' → zGo l d (mc - mc') (ms - ms') f M' (pc + 3) lo (v.toList ++ rest) Q) : zGo l d mc ms f M pc lo st Q := by
  intro g p e R s m args below meth c H locs cells slots ls hC a2 a3 a4 a5 a6 a7 a8
  simp only [Bool.and_eq_true, Nat.ble_eq] at hq
  obtain ⟨⟨⟨⟨q1, q2⟩, q3⟩, q4⟩, q5⟩ := hq
  subst hst
  obtain ⟨hx, hcb, hr, hml, hown, hlocks, hts, hw, ht, hin⟩ := id hC
  have hrun := vx_runS (l := l) (R := R) (H := H) (p := p) (e := e) (below := below) (meth := meth) (locs := locs) (cells := cells) (slots := slots) (g := F0 m pc ls ((a.reverse ++ rest).map (zc g))) (As := a.map (zc g)) (rest := rest.map (zc g)) (Ts := zws) ⟨hx, hcb, hml, hown, hts⟩ (hR g)
    ⟨zcallB hm (hts _ hl) hts (by omega) (by omega), hts _ hi⟩
    ⟨zblind, fun U hU hW => ⟨rfl, zW.warm hW hw, by rw [hU]; exact a7⟩⟩
    rfl (by rw [List.length_map]; exact hn) a8.1 (by simp) (by rw [zcat]; show 2 * 0 + _ ≤ 8; omega) hd ⟨by omega, by omega⟩
  refine zback hrun hC a2 a3 a4 a5 a6 a8 q3 q4 k (fun E M' ce q9 H1 locs1 hqx hH1 hl1 hce hcv hclx => ?_)
  refine vx_out (fun x hx => ?_) hlocks hce hcv hclx (fun t ht _ => ⟨M', kx E M' hqx, by rw [ht]; exact hH1⟩) hl1 (by omega) (by omega)
  rw [ht, hh] at hx
  cases hx
end
end
