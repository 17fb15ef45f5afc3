section
-- ===== PART A: goes FIRST, ahead of the names: the tables' words, and 'selects' of the private methods out of them =====
/-- a private method of a class that the tables say can be made, by its rows of tables_1 -/
def lw_okq (q : MethodName × Nat) : Prop := (q.1.cls ≠ "java/lang/invoke/MethodHandle" ∧ q.1.cls ≠ "java/lang/invoke/VarHandle") ∧ Cond.instantiable q.1.cls q.2 ∈ tables_1 ∧ Cond.privateMethod q.1 ∈ tables_1 ∧ Cond.instanceMethod q.1 ∈ tables_1
theorem lw_p0 : lw_okq (⟨"ShoeHouse$Plan", "setFirstLaw", "()V"⟩, 12) := ⟨⟨by decide +kernel, by decide +kernel⟩, List.mem_of_getElem? (i := 52) (by decide +kernel), List.mem_of_getElem? (i := 58) (by decide +kernel), List.mem_of_getElem? (i := 59) (by decide +kernel)⟩
theorem lw_p1 : lw_okq (⟨"ShoeHouse$Affairs", "move", "(III)V"⟩, 10) := ⟨⟨by decide +kernel, by decide +kernel⟩, List.mem_of_getElem? (i := 165) (by decide +kernel), List.mem_of_getElem? (i := 453) (by decide +kernel), List.mem_of_getElem? (i := 454) (by decide +kernel)⟩
theorem lw_p2 : lw_okq (⟨"ShoeHouse$Cases", "emptyRoomsHold", "()Z"⟩, 5) := ⟨⟨by decide +kernel, by decide +kernel⟩, List.mem_of_getElem? (i := 222) (by decide +kernel), List.mem_of_getElem? (i := 502) (by decide +kernel), List.mem_of_getElem? (i := 503) (by decide +kernel)⟩
theorem lw_p3 : lw_okq (⟨"ShoeHouse$Cases", "doingsHeld", "(II)I"⟩, 5) := ⟨⟨by decide +kernel, by decide +kernel⟩, List.mem_of_getElem? (i := 222) (by decide +kernel), List.mem_of_getElem? (i := 506) (by decide +kernel), List.mem_of_getElem? (i := 507) (by decide +kernel)⟩
theorem lw_p4 : lw_okq (⟨"java/lang/Throwable", "fillInStackTrace", "(I)Ljava/lang/Throwable;"⟩, 6) := ⟨⟨by decide +kernel, by decide +kernel⟩, List.mem_of_getElem? (i := 585) (by decide +kernel), List.mem_of_getElem? (i := 583) (by decide +kernel), List.mem_of_getElem? (i := 584) (by decide +kernel)⟩
theorem lw_p5 : lw_okq (⟨"ShoeHouse$Reader", "advance", "()V"⟩, 9) := ⟨⟨by decide +kernel, by decide +kernel⟩, List.mem_of_getElem? (i := 130) (by decide +kernel), List.mem_of_getElem? (i := 628) (by decide +kernel), List.mem_of_getElem? (i := 629) (by decide +kernel)⟩
theorem lw_p6 : lw_okq (⟨"ShoeHouse$Reader", "takeRow", "(CC)V"⟩, 9) := ⟨⟨by decide +kernel, by decide +kernel⟩, List.mem_of_getElem? (i := 130) (by decide +kernel), List.mem_of_getElem? (i := 632) (by decide +kernel), List.mem_of_getElem? (i := 633) (by decide +kernel)⟩
theorem lw_p7 : lw_okq (⟨"ShoeHouse$Reader", "valueHere", "()I"⟩, 9) := ⟨⟨by decide +kernel, by decide +kernel⟩, List.mem_of_getElem? (i := 130) (by decide +kernel), List.mem_of_getElem? (i := 636) (by decide +kernel), List.mem_of_getElem? (i := 637) (by decide +kernel)⟩
theorem lw_p8 : lw_okq (⟨"ShoeHouse$Reader", "readLine", "()V"⟩, 9) := ⟨⟨by decide +kernel, by decide +kernel⟩, List.mem_of_getElem? (i := 130) (by decide +kernel), List.mem_of_getElem? (i := 640) (by decide +kernel), List.mem_of_getElem? (i := 641) (by decide +kernel)⟩
theorem lw_p9 : lw_okq (⟨"ShoeHouse$Reader", "isWord", "(Ljava/lang/String;)Z"⟩, 9) := ⟨⟨by decide +kernel, by decide +kernel⟩, List.mem_of_getElem? (i := 130) (by decide +kernel), List.mem_of_getElem? (i := 645) (by decide +kernel), List.mem_of_getElem? (i := 646) (by decide +kernel)⟩
theorem lw_p10 : lw_okq (⟨"ShoeHouse$Reader", "readRoom", "()V"⟩, 9) := ⟨⟨by decide +kernel, by decide +kernel⟩, List.mem_of_getElem? (i := 130) (by decide +kernel), List.mem_of_getElem? (i := 697) (by decide +kernel), List.mem_of_getElem? (i := 698) (by decide +kernel)⟩
theorem lw_p11 : lw_okq (⟨"ShoeHouse$Reader", "isFull", "(II)Z"⟩, 9) := ⟨⟨by decide +kernel, by decide +kernel⟩, List.mem_of_getElem? (i := 130) (by decide +kernel), List.mem_of_getElem? (i := 701) (by decide +kernel), List.mem_of_getElem? (i := 702) (by decide +kernel)⟩
theorem lw_p12 : lw_okq (⟨"ShoeHouse$Reader", "refuse", "(I)I"⟩, 9) := ⟨⟨by decide +kernel, by decide +kernel⟩, List.mem_of_getElem? (i := 130) (by decide +kernel), List.mem_of_getElem? (i := 705) (by decide +kernel), List.mem_of_getElem? (i := 706) (by decide +kernel)⟩
theorem lw_p13 : lw_okq (⟨"ShoeHouse$Reader", "numberWithin", "(II)I"⟩, 9) := ⟨⟨by decide +kernel, by decide +kernel⟩, List.mem_of_getElem? (i := 130) (by decide +kernel), List.mem_of_getElem? (i := 709) (by decide +kernel), List.mem_of_getElem? (i := 710) (by decide +kernel)⟩
theorem lw_p14 : lw_okq (⟨"ShoeHouse$Reader", "faultOfNumber", "()I"⟩, 9) := ⟨⟨by decide +kernel, by decide +kernel⟩, List.mem_of_getElem? (i := 130) (by decide +kernel), List.mem_of_getElem? (i := 713) (by decide +kernel), List.mem_of_getElem? (i := 714) (by decide +kernel)⟩
theorem lw_p15 : lw_okq (⟨"ShoeHouse$Reader", "readLodger", "()V"⟩, 9) := ⟨⟨by decide +kernel, by decide +kernel⟩, List.mem_of_getElem? (i := 130) (by decide +kernel), List.mem_of_getElem? (i := 722) (by decide +kernel), List.mem_of_getElem? (i := 723) (by decide +kernel)⟩
def lw_privs_1 : List (MethodName × Nat) := [(⟨"ShoeHouse$Plan", "setFirstLaw", "()V"⟩, 12), (⟨"ShoeHouse$Affairs", "move", "(III)V"⟩, 10), (⟨"ShoeHouse$Cases", "emptyRoomsHold", "()Z"⟩, 5), (⟨"ShoeHouse$Cases", "doingsHeld", "(II)I"⟩, 5), (⟨"java/lang/Throwable", "fillInStackTrace", "(I)Ljava/lang/Throwable;"⟩, 6), (⟨"ShoeHouse$Reader", "advance", "()V"⟩, 9), (⟨"ShoeHouse$Reader", "takeRow", "(CC)V"⟩, 9), (⟨"ShoeHouse$Reader", "valueHere", "()I"⟩, 9), (⟨"ShoeHouse$Reader", "readLine", "()V"⟩, 9), (⟨"ShoeHouse$Reader", "isWord", "(Ljava/lang/String;)Z"⟩, 9), (⟨"ShoeHouse$Reader", "readRoom", "()V"⟩, 9), (⟨"ShoeHouse$Reader", "isFull", "(II)Z"⟩, 9), (⟨"ShoeHouse$Reader", "refuse", "(I)I"⟩, 9), (⟨"ShoeHouse$Reader", "numberWithin", "(II)I"⟩, 9), (⟨"ShoeHouse$Reader", "faultOfNumber", "()I"⟩, 9), (⟨"ShoeHouse$Reader", "readLodger", "()V"⟩, 9)]
theorem lw_r1 : ∀ q ∈ lw_privs_1, lw_okq q := List.forall_mem_cons.mpr ⟨lw_p0, List.forall_mem_cons.mpr ⟨lw_p1, List.forall_mem_cons.mpr ⟨lw_p2, List.forall_mem_cons.mpr ⟨lw_p3, List.forall_mem_cons.mpr ⟨lw_p4, List.forall_mem_cons.mpr ⟨lw_p5, List.forall_mem_cons.mpr ⟨lw_p6, List.forall_mem_cons.mpr ⟨lw_p7, List.forall_mem_cons.mpr ⟨lw_p8, List.forall_mem_cons.mpr ⟨lw_p9, List.forall_mem_cons.mpr ⟨lw_p10, List.forall_mem_cons.mpr ⟨lw_p11, List.forall_mem_cons.mpr ⟨lw_p12, List.forall_mem_cons.mpr ⟨lw_p13, List.forall_mem_cons.mpr ⟨lw_p14, List.forall_mem_cons.mpr ⟨lw_p15, fun _ h => absurd h List.not_mem_nil⟩⟩⟩⟩⟩⟩⟩⟩⟩⟩⟩⟩⟩⟩⟩⟩
theorem lw_p16 : lw_okq (⟨"ShoeHouse$Reader", "toldNumber", "(I)I"⟩, 9) := ⟨⟨by decide +kernel, by decide +kernel⟩, List.mem_of_getElem? (i := 130) (by decide +kernel), List.mem_of_getElem? (i := 726) (by decide +kernel), List.mem_of_getElem? (i := 727) (by decide +kernel)⟩
theorem lw_p17 : lw_okq (⟨"ShoeHouse$Reader", "readFinder", "()V"⟩, 9) := ⟨⟨by decide +kernel, by decide +kernel⟩, List.mem_of_getElem? (i := 130) (by decide +kernel), List.mem_of_getElem? (i := 737) (by decide +kernel), List.mem_of_getElem? (i := 738) (by decide +kernel)⟩
theorem lw_p18 : lw_okq (⟨"ShoeHouse$Reader", "readMay", "()V"⟩, 9) := ⟨⟨by decide +kernel, by decide +kernel⟩, List.mem_of_getElem? (i := 130) (by decide +kernel), List.mem_of_getElem? (i := 746) (by decide +kernel), List.mem_of_getElem? (i := 747) (by decide +kernel)⟩
theorem lw_p19 : lw_okq (⟨"ShoeHouse$Reader", "readDoing", "(I)I"⟩, 9) := ⟨⟨by decide +kernel, by decide +kernel⟩, List.mem_of_getElem? (i := 130) (by decide +kernel), List.mem_of_getElem? (i := 750) (by decide +kernel), List.mem_of_getElem? (i := 751) (by decide +kernel)⟩
theorem lw_p20 : lw_okq (⟨"ShoeHouse$Reader", "ownDoing", "()I"⟩, 9) := ⟨⟨by decide +kernel, by decide +kernel⟩, List.mem_of_getElem? (i := 130) (by decide +kernel), List.mem_of_getElem? (i := 755) (by decide +kernel), List.mem_of_getElem? (i := 756) (by decide +kernel)⟩
theorem lw_p21 : lw_okq (⟨"ShoeHouse$Reader", "readLaw", "()V"⟩, 9) := ⟨⟨by decide +kernel, by decide +kernel⟩, List.mem_of_getElem? (i := 130) (by decide +kernel), List.mem_of_getElem? (i := 768) (by decide +kernel), List.mem_of_getElem? (i := 769) (by decide +kernel)⟩
theorem lw_p22 : lw_okq (⟨"ShoeHouse$Reader", "signTold", "()I"⟩, 9) := ⟨⟨by decide +kernel, by decide +kernel⟩, List.mem_of_getElem? (i := 130) (by decide +kernel), List.mem_of_getElem? (i := 772) (by decide +kernel), List.mem_of_getElem? (i := 773) (by decide +kernel)⟩
theorem lw_p23 : lw_okq (⟨"ShoeHouse", "needRoom", "(I)V"⟩, 16) := ⟨⟨by decide +kernel, by decide +kernel⟩, List.mem_of_getElem? (i := 28) (by decide +kernel), List.mem_of_getElem? (i := 823) (by decide +kernel), List.mem_of_getElem? (i := 824) (by decide +kernel)⟩
theorem lw_p24 : lw_okq (⟨"ShoeHouse", "needLodger", "(I)V"⟩, 16) := ⟨⟨by decide +kernel, by decide +kernel⟩, List.mem_of_getElem? (i := 28) (by decide +kernel), List.mem_of_getElem? (i := 839) (by decide +kernel), List.mem_of_getElem? (i := 840) (by decide +kernel)⟩
theorem lw_p25 : lw_okq (⟨"ShoeHouse", "hourOfTheft", "(I)I"⟩, 16) := ⟨⟨by decide +kernel, by decide +kernel⟩, List.mem_of_getElem? (i := 28) (by decide +kernel), List.mem_of_getElem? (i := 931) (by decide +kernel), List.mem_of_getElem? (i := 932) (by decide +kernel)⟩
theorem lw_p26 : lw_okq (⟨"ShoeHouse", "finderAt", "(II)I"⟩, 16) := ⟨⟨by decide +kernel, by decide +kernel⟩, List.mem_of_getElem? (i := 28) (by decide +kernel), List.mem_of_getElem? (i := 935) (by decide +kernel), List.mem_of_getElem? (i := 936) (by decide +kernel)⟩
theorem lw_p27 : lw_okq (⟨"ShoeHouse$Cases", "casesWithout", "(I)I"⟩, 5) := ⟨⟨by decide +kernel, by decide +kernel⟩, List.mem_of_getElem? (i := 222) (by decide +kernel), List.mem_of_getElem? (i := 977) (by decide +kernel), List.mem_of_getElem? (i := 978) (by decide +kernel)⟩
theorem lw_p28 : lw_okq (⟨"ShoeHouse$Deceit", "sortDoings", "(I)V"⟩, 5) := ⟨⟨by decide +kernel, by decide +kernel⟩, List.mem_of_getElem? (i := 244) (by decide +kernel), List.mem_of_getElem? (i := 1019) (by decide +kernel), List.mem_of_getElem? (i := 1020) (by decide +kernel)⟩
theorem lw_p29 : lw_okq (⟨"ShoeHouse$Deceit", "misleads", "(II)Z"⟩, 5) := ⟨⟨by decide +kernel, by decide +kernel⟩, List.mem_of_getElem? (i := 244) (by decide +kernel), List.mem_of_getElem? (i := 1027) (by decide +kernel), List.mem_of_getElem? (i := 1028) (by decide +kernel)⟩
theorem lw_p30 : lw_okq (⟨"ShoeHouse$Walk", "weigh", "(II)V"⟩, 7) := ⟨⟨by decide +kernel, by decide +kernel⟩, List.mem_of_getElem? (i := 266) (by decide +kernel), List.mem_of_getElem? (i := 1057) (by decide +kernel), List.mem_of_getElem? (i := 1058) (by decide +kernel)⟩
theorem lw_p31 : lw_okq (⟨"ShoeHouse$Walk", "layRow", "(III)Z"⟩, 7) := ⟨⟨by decide +kernel, by decide +kernel⟩, List.mem_of_getElem? (i := 266) (by decide +kernel), List.mem_of_getElem? (i := 1066) (by decide +kernel), List.mem_of_getElem? (i := 1067) (by decide +kernel)⟩
def lw_privs_2 : List (MethodName × Nat) := [(⟨"ShoeHouse$Reader", "toldNumber", "(I)I"⟩, 9), (⟨"ShoeHouse$Reader", "readFinder", "()V"⟩, 9), (⟨"ShoeHouse$Reader", "readMay", "()V"⟩, 9), (⟨"ShoeHouse$Reader", "readDoing", "(I)I"⟩, 9), (⟨"ShoeHouse$Reader", "ownDoing", "()I"⟩, 9), (⟨"ShoeHouse$Reader", "readLaw", "()V"⟩, 9), (⟨"ShoeHouse$Reader", "signTold", "()I"⟩, 9), (⟨"ShoeHouse", "needRoom", "(I)V"⟩, 16), (⟨"ShoeHouse", "needLodger", "(I)V"⟩, 16), (⟨"ShoeHouse", "hourOfTheft", "(I)I"⟩, 16), (⟨"ShoeHouse", "finderAt", "(II)I"⟩, 16), (⟨"ShoeHouse$Cases", "casesWithout", "(I)I"⟩, 5), (⟨"ShoeHouse$Deceit", "sortDoings", "(I)V"⟩, 5), (⟨"ShoeHouse$Deceit", "misleads", "(II)Z"⟩, 5), (⟨"ShoeHouse$Walk", "weigh", "(II)V"⟩, 7), (⟨"ShoeHouse$Walk", "layRow", "(III)Z"⟩, 7)]
theorem lw_r2 : ∀ q ∈ lw_privs_2, lw_okq q := List.forall_mem_cons.mpr ⟨lw_p16, List.forall_mem_cons.mpr ⟨lw_p17, List.forall_mem_cons.mpr ⟨lw_p18, List.forall_mem_cons.mpr ⟨lw_p19, List.forall_mem_cons.mpr ⟨lw_p20, List.forall_mem_cons.mpr ⟨lw_p21, List.forall_mem_cons.mpr ⟨lw_p22, List.forall_mem_cons.mpr ⟨lw_p23, List.forall_mem_cons.mpr ⟨lw_p24, List.forall_mem_cons.mpr ⟨lw_p25, List.forall_mem_cons.mpr ⟨lw_p26, List.forall_mem_cons.mpr ⟨lw_p27, List.forall_mem_cons.mpr ⟨lw_p28, List.forall_mem_cons.mpr ⟨lw_p29, List.forall_mem_cons.mpr ⟨lw_p30, List.forall_mem_cons.mpr ⟨lw_p31, fun _ h => absurd h List.not_mem_nil⟩⟩⟩⟩⟩⟩⟩⟩⟩⟩⟩⟩⟩⟩⟩⟩
theorem lw_p32 : lw_okq (⟨"ShoeHouse$Walk", "worthOfRow", "(I)I"⟩, 7) := ⟨⟨by decide +kernel, by decide +kernel⟩, List.mem_of_getElem? (i := 266) (by decide +kernel), List.mem_of_getElem? (i := 1070) (by decide +kernel), List.mem_of_getElem? (i := 1071) (by decide +kernel)⟩
theorem lw_p33 : lw_okq (⟨"ShoeHouse$Walk", "isLook", "(II)Z"⟩, 7) := ⟨⟨by decide +kernel, by decide +kernel⟩, List.mem_of_getElem? (i := 266) (by decide +kernel), List.mem_of_getElem? (i := 1074) (by decide +kernel), List.mem_of_getElem? (i := 1075) (by decide +kernel)⟩
theorem lw_p34 : lw_okq (⟨"ShoeHouse$Walk", "worthAt", "(I)I"⟩, 7) := ⟨⟨by decide +kernel, by decide +kernel⟩, List.mem_of_getElem? (i := 266) (by decide +kernel), List.mem_of_getElem? (i := 1078) (by decide +kernel), List.mem_of_getElem? (i := 1079) (by decide +kernel)⟩
theorem lw_p35 : lw_okq (⟨"ShoeHouse$Walk", "keepRow", "(I)V"⟩, 7) := ⟨⟨by decide +kernel, by decide +kernel⟩, List.mem_of_getElem? (i := 266) (by decide +kernel), List.mem_of_getElem? (i := 1082) (by decide +kernel), List.mem_of_getElem? (i := 1083) (by decide +kernel)⟩
theorem lw_p36 : lw_okq (⟨"ShoeHouse$Game", "layRow", "(II)V"⟩, 6) := ⟨⟨by decide +kernel, by decide +kernel⟩, List.mem_of_getElem? (i := 297) (by decide +kernel), List.mem_of_getElem? (i := 1106) (by decide +kernel), List.mem_of_getElem? (i := 1107) (by decide +kernel)⟩
theorem lw_p37 : lw_okq (⟨"ShoeHouse$Game", "isAtRest", "(I)Z"⟩, 6) := ⟨⟨by decide +kernel, by decide +kernel⟩, List.mem_of_getElem? (i := 297) (by decide +kernel), List.mem_of_getElem? (i := 1111) (by decide +kernel), List.mem_of_getElem? (i := 1112) (by decide +kernel)⟩
theorem lw_p38 : lw_okq (⟨"ShoeHouse$Game", "share", "(II)I"⟩, 6) := ⟨⟨by decide +kernel, by decide +kernel⟩, List.mem_of_getElem? (i := 297) (by decide +kernel), List.mem_of_getElem? (i := 1115) (by decide +kernel), List.mem_of_getElem? (i := 1116) (by decide +kernel)⟩
theorem lw_p39 : lw_okq (⟨"ShoeHouse$Lending", "countSpare", "(III)V"⟩, 10) := ⟨⟨by decide +kernel, by decide +kernel⟩, List.mem_of_getElem? (i := 323) (by decide +kernel), List.mem_of_getElem? (i := 1134) (by decide +kernel), List.mem_of_getElem? (i := 1135) (by decide +kernel)⟩
theorem lw_p40 : lw_okq (⟨"ShoeHouse$Lending", "isShoeless", "(III)Z"⟩, 10) := ⟨⟨by decide +kernel, by decide +kernel⟩, List.mem_of_getElem? (i := 323) (by decide +kernel), List.mem_of_getElem? (i := 1141) (by decide +kernel), List.mem_of_getElem? (i := 1142) (by decide +kernel)⟩
theorem lw_p41 : lw_okq (⟨"ShoeHouse$Lending", "helpfulShoes", "(III)I"⟩, 10) := ⟨⟨by decide +kernel, by decide +kernel⟩, List.mem_of_getElem? (i := 323) (by decide +kernel), List.mem_of_getElem? (i := 1146) (by decide +kernel), List.mem_of_getElem? (i := 1147) (by decide +kernel)⟩
theorem lw_p42 : lw_okq (⟨"ShoeHouse$Lending", "canServe", "()Z"⟩, 10) := ⟨⟨by decide +kernel, by decide +kernel⟩, List.mem_of_getElem? (i := 323) (by decide +kernel), List.mem_of_getElem? (i := 1151) (by decide +kernel), List.mem_of_getElem? (i := 1152) (by decide +kernel)⟩
theorem lw_p43 : lw_okq (⟨"ShoeHouse$Lending", "serveAll", "()V"⟩, 10) := ⟨⟨by decide +kernel, by decide +kernel⟩, List.mem_of_getElem? (i := 323) (by decide +kernel), List.mem_of_getElem? (i := 1155) (by decide +kernel), List.mem_of_getElem? (i := 1156) (by decide +kernel)⟩
theorem lw_p44 : lw_okq (⟨"ShoeHouse$Lending", "serve", "(I)V"⟩, 10) := ⟨⟨by decide +kernel, by decide +kernel⟩, List.mem_of_getElem? (i := 323) (by decide +kernel), List.mem_of_getElem? (i := 1159) (by decide +kernel), List.mem_of_getElem? (i := 1160) (by decide +kernel)⟩
theorem lw_p45 : lw_okq (⟨"ShoeHouse$Lending", "canSpare", "(II)Z"⟩, 10) := ⟨⟨by decide +kernel, by decide +kernel⟩, List.mem_of_getElem? (i := 323) (by decide +kernel), List.mem_of_getElem? (i := 1163) (by decide +kernel), List.mem_of_getElem? (i := 1164) (by decide +kernel)⟩
theorem lw_p46 : lw_okq (⟨"ShoeHouse$Slippers", "isApart", "(I)Z"⟩, 3) := ⟨⟨by decide +kernel, by decide +kernel⟩, List.mem_of_getElem? (i := 362) (by decide +kernel), List.mem_of_getElem? (i := 1195) (by decide +kernel), List.mem_of_getElem? (i := 1196) (by decide +kernel)⟩
theorem lw_p47 : lw_okq (⟨"ShoeHouseModel", "lays", "(I)V"⟩, 69) := ⟨⟨by decide +kernel, by decide +kernel⟩, List.mem_of_getElem? (i := 1242) (by decide +kernel), List.mem_of_getElem? (i := 1464) (by decide +kernel), List.mem_of_getElem? (i := 1465) (by decide +kernel)⟩
def lw_privs_3 : List (MethodName × Nat) := [(⟨"ShoeHouse$Walk", "worthOfRow", "(I)I"⟩, 7), (⟨"ShoeHouse$Walk", "isLook", "(II)Z"⟩, 7), (⟨"ShoeHouse$Walk", "worthAt", "(I)I"⟩, 7), (⟨"ShoeHouse$Walk", "keepRow", "(I)V"⟩, 7), (⟨"ShoeHouse$Game", "layRow", "(II)V"⟩, 6), (⟨"ShoeHouse$Game", "isAtRest", "(I)Z"⟩, 6), (⟨"ShoeHouse$Game", "share", "(II)I"⟩, 6), (⟨"ShoeHouse$Lending", "countSpare", "(III)V"⟩, 10), (⟨"ShoeHouse$Lending", "isShoeless", "(III)Z"⟩, 10), (⟨"ShoeHouse$Lending", "helpfulShoes", "(III)I"⟩, 10), (⟨"ShoeHouse$Lending", "canServe", "()Z"⟩, 10), (⟨"ShoeHouse$Lending", "serveAll", "()V"⟩, 10), (⟨"ShoeHouse$Lending", "serve", "(I)V"⟩, 10), (⟨"ShoeHouse$Lending", "canSpare", "(II)Z"⟩, 10), (⟨"ShoeHouse$Slippers", "isApart", "(I)Z"⟩, 3), (⟨"ShoeHouseModel", "lays", "(I)V"⟩, 69)]
theorem lw_r3 : ∀ q ∈ lw_privs_3, lw_okq q := List.forall_mem_cons.mpr ⟨lw_p32, List.forall_mem_cons.mpr ⟨lw_p33, List.forall_mem_cons.mpr ⟨lw_p34, List.forall_mem_cons.mpr ⟨lw_p35, List.forall_mem_cons.mpr ⟨lw_p36, List.forall_mem_cons.mpr ⟨lw_p37, List.forall_mem_cons.mpr ⟨lw_p38, List.forall_mem_cons.mpr ⟨lw_p39, List.forall_mem_cons.mpr ⟨lw_p40, List.forall_mem_cons.mpr ⟨lw_p41, List.forall_mem_cons.mpr ⟨lw_p42, List.forall_mem_cons.mpr ⟨lw_p43, List.forall_mem_cons.mpr ⟨lw_p44, List.forall_mem_cons.mpr ⟨lw_p45, List.forall_mem_cons.mpr ⟨lw_p46, List.forall_mem_cons.mpr ⟨lw_p47, fun _ h => absurd h List.not_mem_nil⟩⟩⟩⟩⟩⟩⟩⟩⟩⟩⟩⟩⟩⟩⟩⟩
theorem lw_p48 : lw_okq (⟨"ShoeHouseModel", "right", "(ZI)Z"⟩, 69) := ⟨⟨by decide +kernel, by decide +kernel⟩, List.mem_of_getElem? (i := 1242) (by decide +kernel), List.mem_of_getElem? (i := 1472) (by decide +kernel), List.mem_of_getElem? (i := 1473) (by decide +kernel)⟩
theorem lw_p49 : lw_okq (⟨"ShoeHouseModel", "steps", "()V"⟩, 69) := ⟨⟨by decide +kernel, by decide +kernel⟩, List.mem_of_getElem? (i := 1242) (by decide +kernel), List.mem_of_getElem? (i := 1476) (by decide +kernel), List.mem_of_getElem? (i := 1477) (by decide +kernel)⟩
theorem lw_p50 : lw_okq (⟨"ShoeHouseModel", "byteAt", "(I)I"⟩, 69) := ⟨⟨by decide +kernel, by decide +kernel⟩, List.mem_of_getElem? (i := 1242) (by decide +kernel), List.mem_of_getElem? (i := 1480) (by decide +kernel), List.mem_of_getElem? (i := 1481) (by decide +kernel)⟩
theorem lw_p51 : lw_okq (⟨"ShoeHouseModel", "isGood", "()Z"⟩, 69) := ⟨⟨by decide +kernel, by decide +kernel⟩, List.mem_of_getElem? (i := 1242) (by decide +kernel), List.mem_of_getElem? (i := 1490) (by decide +kernel), List.mem_of_getElem? (i := 1491) (by decide +kernel)⟩
theorem lw_p52 : lw_okq (⟨"ShoeHouseModel", "line", "()V"⟩, 69) := ⟨⟨by decide +kernel, by decide +kernel⟩, List.mem_of_getElem? (i := 1242) (by decide +kernel), List.mem_of_getElem? (i := 1494) (by decide +kernel), List.mem_of_getElem? (i := 1495) (by decide +kernel)⟩
theorem lw_p53 : lw_okq (⟨"ShoeHouseModel", "is", "(I)Z"⟩, 69) := ⟨⟨by decide +kernel, by decide +kernel⟩, List.mem_of_getElem? (i := 1242) (by decide +kernel), List.mem_of_getElem? (i := 1498) (by decide +kernel), List.mem_of_getElem? (i := 1499) (by decide +kernel)⟩
theorem lw_p54 : lw_okq (⟨"ShoeHouseModel", "wrong", "(I)V"⟩, 69) := ⟨⟨by decide +kernel, by decide +kernel⟩, List.mem_of_getElem? (i := 1242) (by decide +kernel), List.mem_of_getElem? (i := 1509) (by decide +kernel), List.mem_of_getElem? (i := 1510) (by decide +kernel)⟩
theorem lw_p55 : lw_okq (⟨"ShoeHouseModel", "number", "(II)I"⟩, 69) := ⟨⟨by decide +kernel, by decide +kernel⟩, List.mem_of_getElem? (i := 1242) (by decide +kernel), List.mem_of_getElem? (i := 1513) (by decide +kernel), List.mem_of_getElem? (i := 1514) (by decide +kernel)⟩
theorem lw_p56 : lw_okq (⟨"ShoeHouseModel", "readsLodger", "()V"⟩, 69) := ⟨⟨by decide +kernel, by decide +kernel⟩, List.mem_of_getElem? (i := 1242) (by decide +kernel), List.mem_of_getElem? (i := 1517) (by decide +kernel), List.mem_of_getElem? (i := 1518) (by decide +kernel)⟩
theorem lw_p57 : lw_okq (⟨"ShoeHouseModel", "amongHere", "(I)Z"⟩, 69) := ⟨⟨by decide +kernel, by decide +kernel⟩, List.mem_of_getElem? (i := 1242) (by decide +kernel), List.mem_of_getElem? (i := 1521) (by decide +kernel), List.mem_of_getElem? (i := 1522) (by decide +kernel)⟩
theorem lw_p58 : lw_okq (⟨"ShoeHouseModel", "among", "(I)I"⟩, 69) := ⟨⟨by decide +kernel, by decide +kernel⟩, List.mem_of_getElem? (i := 1242) (by decide +kernel), List.mem_of_getElem? (i := 1525) (by decide +kernel), List.mem_of_getElem? (i := 1526) (by decide +kernel)⟩
theorem lw_p59 : lw_okq (⟨"ShoeHouseModel", "readsMay", "()V"⟩, 69) := ⟨⟨by decide +kernel, by decide +kernel⟩, List.mem_of_getElem? (i := 1242) (by decide +kernel), List.mem_of_getElem? (i := 1529) (by decide +kernel), List.mem_of_getElem? (i := 1530) (by decide +kernel)⟩
theorem lw_p60 : lw_okq (⟨"ShoeHouseModel", "oneOf", "(II)I"⟩, 69) := ⟨⟨by decide +kernel, by decide +kernel⟩, List.mem_of_getElem? (i := 1242) (by decide +kernel), List.mem_of_getElem? (i := 1533) (by decide +kernel), List.mem_of_getElem? (i := 1534) (by decide +kernel)⟩
theorem lw_p61 : lw_okq (⟨"ShoeHouseModel", "need", "(Z)V"⟩, 69) := ⟨⟨by decide +kernel, by decide +kernel⟩, List.mem_of_getElem? (i := 1242) (by decide +kernel), List.mem_of_getElem? (i := 1537) (by decide +kernel), List.mem_of_getElem? (i := 1538) (by decide +kernel)⟩
theorem lw_p62 : lw_okq (⟨"ShoeHouseModel", "copies", "([I[I)V"⟩, 69) := ⟨⟨by decide +kernel, by decide +kernel⟩, List.mem_of_getElem? (i := 1242) (by decide +kernel), List.mem_of_getElem? (i := 1541) (by decide +kernel), List.mem_of_getElem? (i := 1542) (by decide +kernel)⟩
theorem lw_p63 : lw_okq (⟨"ShoeHouseModel", "isRoom", "(I)Z"⟩, 69) := ⟨⟨by decide +kernel, by decide +kernel⟩, List.mem_of_getElem? (i := 1242) (by decide +kernel), List.mem_of_getElem? (i := 1563) (by decide +kernel), List.mem_of_getElem? (i := 1564) (by decide +kernel)⟩
def lw_privs_4 : List (MethodName × Nat) := [(⟨"ShoeHouseModel", "right", "(ZI)Z"⟩, 69), (⟨"ShoeHouseModel", "steps", "()V"⟩, 69), (⟨"ShoeHouseModel", "byteAt", "(I)I"⟩, 69), (⟨"ShoeHouseModel", "isGood", "()Z"⟩, 69), (⟨"ShoeHouseModel", "line", "()V"⟩, 69), (⟨"ShoeHouseModel", "is", "(I)Z"⟩, 69), (⟨"ShoeHouseModel", "wrong", "(I)V"⟩, 69), (⟨"ShoeHouseModel", "number", "(II)I"⟩, 69), (⟨"ShoeHouseModel", "readsLodger", "()V"⟩, 69), (⟨"ShoeHouseModel", "amongHere", "(I)Z"⟩, 69), (⟨"ShoeHouseModel", "among", "(I)I"⟩, 69), (⟨"ShoeHouseModel", "readsMay", "()V"⟩, 69), (⟨"ShoeHouseModel", "oneOf", "(II)I"⟩, 69), (⟨"ShoeHouseModel", "need", "(Z)V"⟩, 69), (⟨"ShoeHouseModel", "copies", "([I[I)V"⟩, 69), (⟨"ShoeHouseModel", "isRoom", "(I)Z"⟩, 69)]
theorem lw_r4 : ∀ q ∈ lw_privs_4, lw_okq q := List.forall_mem_cons.mpr ⟨lw_p48, List.forall_mem_cons.mpr ⟨lw_p49, List.forall_mem_cons.mpr ⟨lw_p50, List.forall_mem_cons.mpr ⟨lw_p51, List.forall_mem_cons.mpr ⟨lw_p52, List.forall_mem_cons.mpr ⟨lw_p53, List.forall_mem_cons.mpr ⟨lw_p54, List.forall_mem_cons.mpr ⟨lw_p55, List.forall_mem_cons.mpr ⟨lw_p56, List.forall_mem_cons.mpr ⟨lw_p57, List.forall_mem_cons.mpr ⟨lw_p58, List.forall_mem_cons.mpr ⟨lw_p59, List.forall_mem_cons.mpr ⟨lw_p60, List.forall_mem_cons.mpr ⟨lw_p61, List.forall_mem_cons.mpr ⟨lw_p62, List.forall_mem_cons.mpr ⟨lw_p63, fun _ h => absurd h List.not_mem_nil⟩⟩⟩⟩⟩⟩⟩⟩⟩⟩⟩⟩⟩⟩⟩⟩
theorem lw_p64 : lw_okq (⟨"ShoeHouseModel", "isTwo", "(I)Z"⟩, 69) := ⟨⟨by decide +kernel, by decide +kernel⟩, List.mem_of_getElem? (i := 1242) (by decide +kernel), List.mem_of_getElem? (i := 1567) (by decide +kernel), List.mem_of_getElem? (i := 1568) (by decide +kernel)⟩
theorem lw_p65 : lw_okq (⟨"ShoeHouseModel", "isLodger", "(I)Z"⟩, 69) := ⟨⟨by decide +kernel, by decide +kernel⟩, List.mem_of_getElem? (i := 1242) (by decide +kernel), List.mem_of_getElem? (i := 1575) (by decide +kernel), List.mem_of_getElem? (i := 1576) (by decide +kernel)⟩
theorem lw_p66 : lw_okq (⟨"ShoeHouseModel", "has", "(II)I"⟩, 69) := ⟨⟨by decide +kernel, by decide +kernel⟩, List.mem_of_getElem? (i := 1242) (by decide +kernel), List.mem_of_getElem? (i := 1579) (by decide +kernel), List.mem_of_getElem? (i := 1580) (by decide +kernel)⟩
theorem lw_p67 : lw_okq (⟨"ShoeHouseModel", "isHour", "(I)Z"⟩, 69) := ⟨⟨by decide +kernel, by decide +kernel⟩, List.mem_of_getElem? (i := 1242) (by decide +kernel), List.mem_of_getElem? (i := 1587) (by decide +kernel), List.mem_of_getElem? (i := 1588) (by decide +kernel)⟩
theorem lw_p68 : lw_okq (⟨"ShoeHouseModel", "signOf", "(II)I"⟩, 69) := ⟨⟨by decide +kernel, by decide +kernel⟩, List.mem_of_getElem? (i := 1242) (by decide +kernel), List.mem_of_getElem? (i := 1601) (by decide +kernel), List.mem_of_getElem? (i := 1602) (by decide +kernel)⟩
theorem lw_p69 : lw_okq (⟨"ShoeHouseModel", "lawOf", "(I)I"⟩, 69) := ⟨⟨by decide +kernel, by decide +kernel⟩, List.mem_of_getElem? (i := 1242) (by decide +kernel), List.mem_of_getElem? (i := 1605) (by decide +kernel), List.mem_of_getElem? (i := 1606) (by decide +kernel)⟩
theorem lw_p70 : lw_okq (⟨"ShoeHouseModel", "both", "(I)I"⟩, 69) := ⟨⟨by decide +kernel, by decide +kernel⟩, List.mem_of_getElem? (i := 1242) (by decide +kernel), List.mem_of_getElem? (i := 1609) (by decide +kernel), List.mem_of_getElem? (i := 1610) (by decide +kernel)⟩
theorem lw_p71 : lw_okq (⟨"ShoeHouseModel", "refuses", "(I)I"⟩, 69) := ⟨⟨by decide +kernel, by decide +kernel⟩, List.mem_of_getElem? (i := 1242) (by decide +kernel), List.mem_of_getElem? (i := 1617) (by decide +kernel), List.mem_of_getElem? (i := 1618) (by decide +kernel)⟩
theorem lw_p72 : lw_okq (⟨"ShoeHouseModel", "signAt", "(II)I"⟩, 69) := ⟨⟨by decide +kernel, by decide +kernel⟩, List.mem_of_getElem? (i := 1242) (by decide +kernel), List.mem_of_getElem? (i := 1638) (by decide +kernel), List.mem_of_getElem? (i := 1639) (by decide +kernel)⟩
theorem lw_p73 : lw_okq (⟨"ShoeHouseModel", "isFinder", "(I)Z"⟩, 69) := ⟨⟨by decide +kernel, by decide +kernel⟩, List.mem_of_getElem? (i := 1242) (by decide +kernel), List.mem_of_getElem? (i := 1646) (by decide +kernel), List.mem_of_getElem? (i := 1647) (by decide +kernel)⟩
theorem lw_p74 : lw_okq (⟨"ShoeHouseModel", "hour", "()I"⟩, 69) := ⟨⟨by decide +kernel, by decide +kernel⟩, List.mem_of_getElem? (i := 1242) (by decide +kernel), List.mem_of_getElem? (i := 1666) (by decide +kernel), List.mem_of_getElem? (i := 1667) (by decide +kernel)⟩
theorem lw_p75 : lw_okq (⟨"ShoeHouseModel", "isSpent", "(I)Z"⟩, 69) := ⟨⟨by decide +kernel, by decide +kernel⟩, List.mem_of_getElem? (i := 1242) (by decide +kernel), List.mem_of_getElem? (i := 1670) (by decide +kernel), List.mem_of_getElem? (i := 1671) (by decide +kernel)⟩
theorem lw_p76 : lw_okq (⟨"ShoeHouseModel", "seeks", "(II[I)V"⟩, 69) := ⟨⟨by decide +kernel, by decide +kernel⟩, List.mem_of_getElem? (i := 1242) (by decide +kernel), List.mem_of_getElem? (i := 1674) (by decide +kernel), List.mem_of_getElem? (i := 1675) (by decide +kernel)⟩
theorem lw_p77 : lw_okq (⟨"ShoeHouseModel", "fits", "(I[I)Z"⟩, 69) := ⟨⟨by decide +kernel, by decide +kernel⟩, List.mem_of_getElem? (i := 1242) (by decide +kernel), List.mem_of_getElem? (i := 1678) (by decide +kernel), List.mem_of_getElem? (i := 1679) (by decide +kernel)⟩
theorem lw_p78 : lw_okq (⟨"ShoeHouseModel", "counts", "(I)Z"⟩, 69) := ⟨⟨by decide +kernel, by decide +kernel⟩, List.mem_of_getElem? (i := 1242) (by decide +kernel), List.mem_of_getElem? (i := 1682) (by decide +kernel), List.mem_of_getElem? (i := 1683) (by decide +kernel)⟩
theorem lw_p79 : lw_okq (⟨"ShoeHouseModel", "behind", "(III)I"⟩, 69) := ⟨⟨by decide +kernel, by decide +kernel⟩, List.mem_of_getElem? (i := 1242) (by decide +kernel), List.mem_of_getElem? (i := 1686) (by decide +kernel), List.mem_of_getElem? (i := 1687) (by decide +kernel)⟩
def lw_privs_5 : List (MethodName × Nat) := [(⟨"ShoeHouseModel", "isTwo", "(I)Z"⟩, 69), (⟨"ShoeHouseModel", "isLodger", "(I)Z"⟩, 69), (⟨"ShoeHouseModel", "has", "(II)I"⟩, 69), (⟨"ShoeHouseModel", "isHour", "(I)Z"⟩, 69), (⟨"ShoeHouseModel", "signOf", "(II)I"⟩, 69), (⟨"ShoeHouseModel", "lawOf", "(I)I"⟩, 69), (⟨"ShoeHouseModel", "both", "(I)I"⟩, 69), (⟨"ShoeHouseModel", "refuses", "(I)I"⟩, 69), (⟨"ShoeHouseModel", "signAt", "(II)I"⟩, 69), (⟨"ShoeHouseModel", "isFinder", "(I)Z"⟩, 69), (⟨"ShoeHouseModel", "hour", "()I"⟩, 69), (⟨"ShoeHouseModel", "isSpent", "(I)Z"⟩, 69), (⟨"ShoeHouseModel", "seeks", "(II[I)V"⟩, 69), (⟨"ShoeHouseModel", "fits", "(I[I)Z"⟩, 69), (⟨"ShoeHouseModel", "counts", "(I)Z"⟩, 69), (⟨"ShoeHouseModel", "behind", "(III)I"⟩, 69)]
theorem lw_r5 : ∀ q ∈ lw_privs_5, lw_okq q := List.forall_mem_cons.mpr ⟨lw_p64, List.forall_mem_cons.mpr ⟨lw_p65, List.forall_mem_cons.mpr ⟨lw_p66, List.forall_mem_cons.mpr ⟨lw_p67, List.forall_mem_cons.mpr ⟨lw_p68, List.forall_mem_cons.mpr ⟨lw_p69, List.forall_mem_cons.mpr ⟨lw_p70, List.forall_mem_cons.mpr ⟨lw_p71, List.forall_mem_cons.mpr ⟨lw_p72, List.forall_mem_cons.mpr ⟨lw_p73, List.forall_mem_cons.mpr ⟨lw_p74, List.forall_mem_cons.mpr ⟨lw_p75, List.forall_mem_cons.mpr ⟨lw_p76, List.forall_mem_cons.mpr ⟨lw_p77, List.forall_mem_cons.mpr ⟨lw_p78, List.forall_mem_cons.mpr ⟨lw_p79, fun _ h => absurd h List.not_mem_nil⟩⟩⟩⟩⟩⟩⟩⟩⟩⟩⟩⟩⟩⟩⟩⟩
theorem lw_p80 : lw_okq (⟨"ShoeHouseModel", "with", "(I)I"⟩, 69) := ⟨⟨by decide +kernel, by decide +kernel⟩, List.mem_of_getElem? (i := 1242) (by decide +kernel), List.mem_of_getElem? (i := 1698) (by decide +kernel), List.mem_of_getElem? (i := 1699) (by decide +kernel)⟩
theorem lw_p81 : lw_okq (⟨"ShoeHouseModel", "isSomebody", "(II)Z"⟩, 69) := ⟨⟨by decide +kernel, by decide +kernel⟩, List.mem_of_getElem? (i := 1242) (by decide +kernel), List.mem_of_getElem? (i := 1702) (by decide +kernel), List.mem_of_getElem? (i := 1703) (by decide +kernel)⟩
theorem lw_p82 : lw_okq (⟨"ShoeHouseModel", "roomOf", "(II)I"⟩, 69) := ⟨⟨by decide +kernel, by decide +kernel⟩, List.mem_of_getElem? (i := 1242) (by decide +kernel), List.mem_of_getElem? (i := 1706) (by decide +kernel), List.mem_of_getElem? (i := 1707) (by decide +kernel)⟩
theorem lw_p83 : lw_okq (⟨"ShoeHouseModel", "misleads", "(III)Z"⟩, 69) := ⟨⟨by decide +kernel, by decide +kernel⟩, List.mem_of_getElem? (i := 1242) (by decide +kernel), List.mem_of_getElem? (i := 1718) (by decide +kernel), List.mem_of_getElem? (i := 1719) (by decide +kernel)⟩
theorem lw_p84 : lw_okq (⟨"ShoeHouseModel", "another", "(II)I"⟩, 69) := ⟨⟨by decide +kernel, by decide +kernel⟩, List.mem_of_getElem? (i := 1242) (by decide +kernel), List.mem_of_getElem? (i := 1722) (by decide +kernel), List.mem_of_getElem? (i := 1723) (by decide +kernel)⟩
theorem lw_p85 : lw_okq (⟨"ShoeHouseModel", "turnsDoors", "(I)Z"⟩, 69) := ⟨⟨by decide +kernel, by decide +kernel⟩, List.mem_of_getElem? (i := 1242) (by decide +kernel), List.mem_of_getElem? (i := 1726) (by decide +kernel), List.mem_of_getElem? (i := 1727) (by decide +kernel)⟩
theorem lw_p86 : lw_okq (⟨"ShoeHouseModel", "chanceOf", "(II)I"⟩, 69) := ⟨⟨by decide +kernel, by decide +kernel⟩, List.mem_of_getElem? (i := 1242) (by decide +kernel), List.mem_of_getElem? (i := 1734) (by decide +kernel), List.mem_of_getElem? (i := 1735) (by decide +kernel)⟩
theorem lw_p87 : lw_okq (⟨"ShoeHouseModel", "all", "(I)I"⟩, 69) := ⟨⟨by decide +kernel, by decide +kernel⟩, List.mem_of_getElem? (i := 1242) (by decide +kernel), List.mem_of_getElem? (i := 1742) (by decide +kernel), List.mem_of_getElem? (i := 1743) (by decide +kernel)⟩
theorem lw_p88 : lw_okq (⟨"ShoeHouseModel", "bestOf", "(II)I"⟩, 69) := ⟨⟨by decide +kernel, by decide +kernel⟩, List.mem_of_getElem? (i := 1242) (by decide +kernel), List.mem_of_getElem? (i := 1746) (by decide +kernel), List.mem_of_getElem? (i := 1747) (by decide +kernel)⟩
theorem lw_p89 : lw_okq (⟨"ShoeHouseModel", "turnsPath", "(I)Z"⟩, 69) := ⟨⟨by decide +kernel, by decide +kernel⟩, List.mem_of_getElem? (i := 1242) (by decide +kernel), List.mem_of_getElem? (i := 1750) (by decide +kernel), List.mem_of_getElem? (i := 1751) (by decide +kernel)⟩
theorem lw_p90 : lw_okq (⟨"ShoeHouseModel", "isRest", "(I)Z"⟩, 69) := ⟨⟨by decide +kernel, by decide +kernel⟩, List.mem_of_getElem? (i := 1242) (by decide +kernel), List.mem_of_getElem? (i := 1762) (by decide +kernel), List.mem_of_getElem? (i := 1763) (by decide +kernel)⟩
theorem lw_p91 : lw_okq (⟨"ShoeHouseModel", "there", "(II)I"⟩, 69) := ⟨⟨by decide +kernel, by decide +kernel⟩, List.mem_of_getElem? (i := 1242) (by decide +kernel), List.mem_of_getElem? (i := 1766) (by decide +kernel), List.mem_of_getElem? (i := 1767) (by decide +kernel)⟩
theorem lw_p92 : lw_okq (⟨"ShoeHouseModel", "isNeedy", "(II)Z"⟩, 69) := ⟨⟨by decide +kernel, by decide +kernel⟩, List.mem_of_getElem? (i := 1242) (by decide +kernel), List.mem_of_getElem? (i := 1774) (by decide +kernel), List.mem_of_getElem? (i := 1775) (by decide +kernel)⟩
theorem lw_p93 : lw_okq (⟨"ShoeHouseModel", "lendable", "(II)I"⟩, 69) := ⟨⟨by decide +kernel, by decide +kernel⟩, List.mem_of_getElem? (i := 1242) (by decide +kernel), List.mem_of_getElem? (i := 1778) (by decide +kernel), List.mem_of_getElem? (i := 1779) (by decide +kernel)⟩
theorem lw_p94 : lw_okq (⟨"ShoeHouseModel", "isFree", "(II)Z"⟩, 69) := ⟨⟨by decide +kernel, by decide +kernel⟩, List.mem_of_getElem? (i := 1242) (by decide +kernel), List.mem_of_getElem? (i := 1782) (by decide +kernel), List.mem_of_getElem? (i := 1783) (by decide +kernel)⟩
theorem lw_p95 : lw_okq (⟨"ShoeHouseModel", "given", "(II)I"⟩, 69) := ⟨⟨by decide +kernel, by decide +kernel⟩, List.mem_of_getElem? (i := 1242) (by decide +kernel), List.mem_of_getElem? (i := 1786) (by decide +kernel), List.mem_of_getElem? (i := 1787) (by decide +kernel)⟩
def lw_privs_6 : List (MethodName × Nat) := [(⟨"ShoeHouseModel", "with", "(I)I"⟩, 69), (⟨"ShoeHouseModel", "isSomebody", "(II)Z"⟩, 69), (⟨"ShoeHouseModel", "roomOf", "(II)I"⟩, 69), (⟨"ShoeHouseModel", "misleads", "(III)Z"⟩, 69), (⟨"ShoeHouseModel", "another", "(II)I"⟩, 69), (⟨"ShoeHouseModel", "turnsDoors", "(I)Z"⟩, 69), (⟨"ShoeHouseModel", "chanceOf", "(II)I"⟩, 69), (⟨"ShoeHouseModel", "all", "(I)I"⟩, 69), (⟨"ShoeHouseModel", "bestOf", "(II)I"⟩, 69), (⟨"ShoeHouseModel", "turnsPath", "(I)Z"⟩, 69), (⟨"ShoeHouseModel", "isRest", "(I)Z"⟩, 69), (⟨"ShoeHouseModel", "there", "(II)I"⟩, 69), (⟨"ShoeHouseModel", "isNeedy", "(II)Z"⟩, 69), (⟨"ShoeHouseModel", "lendable", "(II)I"⟩, 69), (⟨"ShoeHouseModel", "isFree", "(II)Z"⟩, 69), (⟨"ShoeHouseModel", "given", "(II)I"⟩, 69)]
theorem lw_r6 : ∀ q ∈ lw_privs_6, lw_okq q := List.forall_mem_cons.mpr ⟨lw_p80, List.forall_mem_cons.mpr ⟨lw_p81, List.forall_mem_cons.mpr ⟨lw_p82, List.forall_mem_cons.mpr ⟨lw_p83, List.forall_mem_cons.mpr ⟨lw_p84, List.forall_mem_cons.mpr ⟨lw_p85, List.forall_mem_cons.mpr ⟨lw_p86, List.forall_mem_cons.mpr ⟨lw_p87, List.forall_mem_cons.mpr ⟨lw_p88, List.forall_mem_cons.mpr ⟨lw_p89, List.forall_mem_cons.mpr ⟨lw_p90, List.forall_mem_cons.mpr ⟨lw_p91, List.forall_mem_cons.mpr ⟨lw_p92, List.forall_mem_cons.mpr ⟨lw_p93, List.forall_mem_cons.mpr ⟨lw_p94, List.forall_mem_cons.mpr ⟨lw_p95, fun _ h => absurd h List.not_mem_nil⟩⟩⟩⟩⟩⟩⟩⟩⟩⟩⟩⟩⟩⟩⟩⟩
theorem lw_p96 : lw_okq (⟨"ShoeHouseModel", "isCode", "(II)Z"⟩, 69) := ⟨⟨by decide +kernel, by decide +kernel⟩, List.mem_of_getElem? (i := 1242) (by decide +kernel), List.mem_of_getElem? (i := 1798) (by decide +kernel), List.mem_of_getElem? (i := 1799) (by decide +kernel)⟩
theorem lw_p97 : lw_okq (⟨"ShoeHouseModel", "spells", "(I)V"⟩, 69) := ⟨⟨by decide +kernel, by decide +kernel⟩, List.mem_of_getElem? (i := 1242) (by decide +kernel), List.mem_of_getElem? (i := 1802) (by decide +kernel), List.mem_of_getElem? (i := 1803) (by decide +kernel)⟩
def lw_privs_7 : List (MethodName × Nat) := [(⟨"ShoeHouseModel", "isCode", "(II)Z"⟩, 69), (⟨"ShoeHouseModel", "spells", "(I)V"⟩, 69)]
theorem lw_r7 : ∀ q ∈ lw_privs_7, lw_okq q := List.forall_mem_cons.mpr ⟨lw_p96, List.forall_mem_cons.mpr ⟨lw_p97, fun _ h => absurd h List.not_mem_nil⟩⟩
def lw_privs : List (MethodName × Nat) := lw_privs_1 ++ (lw_privs_2 ++ (lw_privs_3 ++ (lw_privs_4 ++ (lw_privs_5 ++ (lw_privs_6 ++ (lw_privs_7))))))
def lw_tbl : List Cond := k2_sels lw_privs ++ tables_1
theorem lw_privs_ok : ∀ q ∈ lw_privs, lw_okq q := by
  show ∀ q ∈ lw_privs_1 ++ (lw_privs_2 ++ (lw_privs_3 ++ (lw_privs_4 ++ (lw_privs_5 ++ (lw_privs_6 ++ (lw_privs_7)))))), lw_okq q
  exact List.forall_mem_append.mpr ⟨lw_r1, List.forall_mem_append.mpr ⟨lw_r2, List.forall_mem_append.mpr ⟨lw_r3, List.forall_mem_append.mpr ⟨lw_r4, List.forall_mem_append.mpr ⟨lw_r5, List.forall_mem_append.mpr ⟨lw_r6, lw_r7⟩⟩⟩⟩⟩⟩
end
section
/-! ===== BEGIN words of one list among another's, by their places ===== -/
theorem goodIn_r {big : List Cond} (ws : List Cond) (ps : List Nat) (hp : ws = ps.filterMap (fun i => big[i]?)) (h : ws.all goodWord = true) : GoodIn big ws := by
  intro w hw
  have h1 := List.all_eq_true.mp h w hw
  rw [hp] at hw
  obtain ⟨i, -, hi⟩ := List.mem_filterMap.mp hw
  have hm : w ∈ big := by first | exact List.mem_of_getElem? hi | exact List.getElem?_mem hi
  exact ⟨hm, good_of_word h1⟩
theorem goodIn_app {big a b : List Cond} (ha : GoodIn big a) (hb : GoodIn big b) : GoodIn big (a ++ b) := fun w h => (List.mem_append.mp h).elim (ha w) (hb w)
theorem goodIn_ca {big a b : List Cond} {c : Cond} (ha : GoodIn big (c :: a)) (hb : GoodIn big b) : GoodIn big (c :: (a ++ b)) := fun w h => (List.mem_cons.mp h).elim (fun e => ha w (List.mem_cons.mpr (Or.inl e))) (fun h => (List.mem_append.mp h).elim (fun h => ha w (List.mem_cons.mpr (Or.inr h))) (hb w))
theorem goodIn_sub {big ws : List Cond} (hm : ∀ w ∈ ws, w ∈ big) (h : ws.all goodWord = true) : GoodIn big ws := fun w hw => ⟨hm w hw, good_of_word (List.all_eq_true.mp h w hw)⟩
/-! ===== END ===== -/

/-! ===== BEGIN exceptions that leave a method, and their catching by the caller (launches without stack traces) ===== -/
section VXA
/-! The laws vx_back, vx_callV, vx_callS, vx_callSW, vx_throw0, vx_throwS follow proofs of the library, with one case more: JvmDerived/Free/Laws.lean (Back.of_free), Shelf42/LK1.lean (callV, callS), Shelf/KitTraced.lean (throwNew0V, throwNewS). -/
/-- where a method has thrown q: the class by its name, the cell, what was written, the world -/
def vx_T (XC : String → State → State → Prop) (st : State) (q : Addr) (t : State) (mc ms : Nat) (free : Addr → Prop) : Prop :=
  ∃ (E : String) (ce : Cell) (L : List Loc), XC E st t ∧ t.heap[q]? = some ce ∧ ce.vm = .none ∧ st.vm.findClass E = some ce.cls ∧ st.WarmedH t.vm ∧ st.sameButNew ({ t with vm := st.vm } : State) L mc ms ∧ ∀ z ∈ L, free z.base
def vx_Q (Qc : Array Value → State → Outcome → State → Prop) (XC : String → State → State → Prop) (mc ms : Nat) (free : Addr → Prop) : Array Value → State → Outcome → State → Prop := fun a st o t =>
  (Qc a st o t ∧ ∃ L, FrameEnd st o t L mc ms ∧ ∀ q ∈ L, free q.base) ∨ ∃ q, o = .threw q ∧ vx_T XC st q t mc ms free
/-- a callee that returns or throws -/
def vx_Met (l : Launch) (y : MethodName) (ws : List Cond) (rm : Room) (Pc : Array Value → State → Prop) (Qc : Array Value → State → Outcome → State → Prop) (XC : String → State → State → Prop) (mc ms : Nat) (free : Addr → Prop) : Prop :=
  MetFree l y (headSpec ws rm) Pc (fun _ _ _ _ _ => True) (vx_Q Qc XC mc ms free)
def vx_Post (XC : String → State → State → Prop) (mc ms : Nat) (free : Addr → Prop) : Pt → Array Value → Addr → Pt → Prop := fun A a q B =>
  ∃ (g : JFrame) (mk : MethodId) (t : State) (L : List Loc) (E : String) (ce : Cell), B.U.heap = t.heap ∧ B.U.vm = t.vm ∧ XC E (A.U.calling g mk a) t ∧ t.heap[q]? = some ce ∧ ce.vm = .none ∧ A.U.vm.findClass E = some ce.cls ∧ B.locs = A.locs ++ L ∧ (∀ z ∈ L, free z.base) ∧ B.cells = A.cells + mc ∧ B.slots = A.slots + ms
def vx_Back (l : Launch) (R : Room) (p : Program) (e : Env) (below : List Frame) (s : State) (sargs : Array Value) (y : MethodName) (len W9 : Nat)
    (Pre : Pt → Array Value → Prop) (Post : Pt → Array Value → Option Value → Pt → Prop) (PostX : Pt → Array Value → Addr → Pt → Prop) : Prop :=
  ∀ (m : MethodId) (meth : Method) (c : Code) (A : Pt) (g : JFrame) (ig : Instr) (mk : MethodId) (a : Array Value),
    Stand p l e R s m sargs below meth c A.U A.locs A.cells A.slots → g.method = m → g.locals.size = c.maxLocals → decode c.code g.pc = .ok (ig, len) →
    2 * g.monitorRoom + (g.stack.map fun v => v.category).sum ≤ W9 → A.U.methodNamed? y = some mk → Pre A a →
    (∃ (v : Option Value) (B : Pt), Stand p l e R s m sargs below meth c B.U B.locs B.cells B.slots ∧ Post A a v B ∧
      Steps p.tables e below (doInvoke e (A.U.setTop g) [] mk a).1 (B.U.setTop { g with pc := g.pc + len, stack := v.toList ++ g.stack })) ∨
    (∃ (q : Addr) (B : Pt), Stand p l e R s m sargs below meth c B.U B.locs B.cells B.slots ∧ PostX A a q B ∧
      Steps p.tables e below (doInvoke e (A.U.setTop g) [] mk a).1 ((B.U.setTop g).pushFrame (.throwing q)))
section Payer
variable {l : Launch} {R : Room} {p : Program} {e : Env} {below : List Frame} {s : State} {sargs : Array Value} {y : MethodName} {len W9 : Nat}
theorem vx_back {ws : List Cond} {rm : Room} {Pc : Array Value → State → Prop} {Qc : Array Value → State → Outcome → State → Prop} {XC : String → State → State → Prop} {mc ms : Nat} {free : Addr → Prop} {bytes : ByteArray} {maxL : Nat} {ret : Option FieldType}
    (hM : vx_Met l y ws rm Pc Qc XC mc ms free) (hblind : FrameBlind Pc) (hrc : rm.cells = mc) (hrs : rm.slots = ms)
    (hframes : rm.frames + 1 ≤ R.frames) (hlocals : W9 + (maxL + 11) + rm.locals ≤ R.locals)
    (hws : ∀ w ∈ ws, ∀ a' U, s.WarmedH U.vm → w.before a' U = true) (hcode : Cond.code y bytes maxL ret ∈ ws) (hinit : ∀ a' U, s.WarmedH U.vm → (Cond.initialized y.cls).before a' U = true) :
    vx_Back l R p e below s sargs y len W9 (PreOf R mc ms Pc) (PostOf Qc mc ms free) (vx_Post XC mc ms free) := by
  intro m meth c A g ig mk a X hg hsize hdg hW hn hp
  have h1 : (headSpec ws rm).pre.before a A.U = true := atoms_intro fun w hw => hws w hw _ _ X.warmed
  have h2 : (Cond.code y bytes maxL ret).before a A.U = true := hws _ hcode _ _ X.warmed
  have h3 : (Cond.initialized y.cls).before a A.U = true := hinit _ _ X.warmed
  have h4 : A.cells + (headSpec ws rm).room.cells ≤ R.cells := by rw [show (headSpec ws rm).room.cells = mc from hrc]; exact hp.1
  have h5 : A.slots + (headSpec ws rm).room.slots ≤ R.slots := by rw [show (headSpec ws rm).room.slots = ms from hrs]; exact hp.2.1
  have hPc : Pc a (A.U.calling g mk a) := hblind _ _ _ _ hp.2.2
  obtain ⟨U, Ls, c0, s0⟩ := A
  dsimp only [Pt.U, Pt.locs, Pt.cells, Pt.slots] at h1 h2 h3 h4 h5 X hn hPc ⊢
  obtain ⟨methY, cY, hmY, hcY, -, hlY, -, -, -, -⟩ := Cond.code_spec hn h2
  obtain ⟨kY, hkY, -⟩ := className_of_methodNamed hn
  have hinitY : kY.init = .initialized := Cond.initialized_spec (findClass_of_methodNamed hn) hkY h3
  have h : At U g.method c below := by rw [hg]; exact X.here
  have hlocals9 : W9 + (maxL + 11) + (headSpec ws rm).room.locals ≤ R.locals := hlocals
  have happ : (headSpec ws rm).appliesLoose y e.platform (U.calling g mk a) = true :=
    Spec.appliesLoose_calling (g := g) h hdg hn hkY hinitY
      (X.room_calling (g := g) (R' := (headSpec ws rm).room) hsize hmY hcY hframes (by rw [hlY]; omega) h4 h5) h1
  obtain ⟨mid, hmid⟩ := h.above
  have hfr : (U.setTop g).frames = (.java g :: mid) ++ below := by rw [State.frames_setTop' g h.top, hmid]; rfl
  obtain ⟨o, s₂, hsteps, -, hend, hq⟩ := Steps.callFree hM p X.admits X.cas X.clock (acts := []) hfr happ hPc trivial
  have hq' : vx_Q Qc XC mc ms free a (U.calling g mk a) o s₂ := hq
  rw [State.frames_setTop' g h.top] at hend
  obtain ⟨g₀, hg0⟩ := Option.isSome_iff_exists.mp h.top
  obtain ⟨r, hr⟩ := State.topJava?_eq_some.mp hg0
  have hr' : (({ U with heap := s₂.heap, slotsUsed := s₂.slotsUsed } : State).setVm s₂.vm).frames = .java g₀ :: r := hr
  rcases hq' with ⟨hqc, L, hfe, hL⟩ | ⟨q, rfl, E, ce, L, hx, hce, hcv, hcl, hW₂, hsm, hL⟩
  · obtain ⟨⟨v, rfl⟩, hW₂, e2, q2, q3, q4, q5, q6⟩ := id hfe
    have e3 : s₂ = ({ (U.calling g mk a).setFrames s₂.frames with heap := s₂.heap, slotsUsed := s₂.slotsUsed } : State).setVm s₂.vm := by
      have : s₂ = ({ s₂ with vm := (U.calling g mk a).vm } : State).setVm s₂.vm := rfl
      rw [e2] at this
      exact this
    obtain ⟨c₂, i₂, len₂, hc₂, hd₂, hf₂⟩ := hend
    have hW' : U.WarmedH s₂.vm := hW₂
    have hcc : c₂ = c := by
      have h1 : s₂.code? g.method = U.code? g.method := by
        rw [State.code?_eq, State.code?_eq, hW'.alike.method?]
      exact Option.some.inj (hc₂.symm.trans (h1.trans h.code))
    subst hcc
    have hlen : len₂ = len := by rw [hdg] at hd₂; cases hd₂; rfl
    subst hlen
    have hs₂ : s₂ = (({ U with heap := s₂.heap, slotsUsed := s₂.slotsUsed } : State).setVm s₂.vm).setTop { g with pc := g.pc + len₂, stack := v.toList ++ g.stack } := by
      refine e3.trans ?_
      rw [hf₂, State.calling_eq h.top, State.setFrames_setFrames, State.setTop_of_frames _ hr', hr]
      rfl
    have hsame : U.sameButNew ({ U with heap := s₂.heap, slotsUsed := s₂.slotsUsed } : State) L mc ms := by
      refine ⟨?_, q2, q3, q4, q5, q6⟩
      obtain ⟨t, ht, -⟩ := State.frames_cons hr
      show ({ U with heap := s₂.heap, slotsUsed := s₂.slotsUsed } : State) = { U.setFrames U.frames with heap := s₂.heap, slotsUsed := s₂.slotsUsed }
      rw [State.setFrames_self ht]
    subst hg
    refine Or.inl ⟨v, ⟨(({ U with heap := s₂.heap, slotsUsed := s₂.slotsUsed } : State).setVm s₂.vm), Ls ++ L, c0 + mc, s0 + ms⟩,
      ⟨X.admits, X.cas, X.clock, X.frames, X.room, X.hears, X.method, X.code, (X.here.setHeapUsed s₂.heap s₂.slotsUsed).setVm hW'.alike, X.tail, State.WarmedH.trans X.warmed hW', X.limits, X.bytes, X.same.trans (hsame.setVm s.vm)⟩,
      ⟨g, mk, s₂, L, rfl, rfl, hqc, rfl, hL, rfl, rfl⟩, ?_⟩
    show Steps p.tables e below _ ((({ U with heap := s₂.heap, slotsUsed := s₂.slotsUsed } : State).setVm s₂.vm).setTop { g with pc := g.pc + len₂, stack := v.toList ++ g.stack })
    rw [← hs₂]
    exact hsteps
  · obtain ⟨e2, q2, q3, q4, q5, q6⟩ := id hsm
    have e3 : s₂ = ({ (U.calling g mk a).setFrames s₂.frames with heap := s₂.heap, slotsUsed := s₂.slotsUsed } : State).setVm s₂.vm := by
      have : s₂ = ({ s₂ with vm := (U.calling g mk a).vm } : State).setVm s₂.vm := rfl
      rw [e2] at this
      exact this
    have hf₂ : s₂.frames = .throwing q :: .java g :: U.frames.tail := hend
    have hW' : U.WarmedH s₂.vm := hW₂
    have hs₂ : s₂ = ((({ U with heap := s₂.heap, slotsUsed := s₂.slotsUsed } : State).setVm s₂.vm).setTop g).pushFrame (.throwing q) := by
      refine e3.trans ?_
      rw [hf₂, State.calling_eq h.top, State.setFrames_setFrames, State.pushFrame, State.frames_setTop _ hr', State.setTop_of_frames _ hr', State.setFrames_setFrames, hr]
      rfl
    have hsame : U.sameButNew ({ U with heap := s₂.heap, slotsUsed := s₂.slotsUsed } : State) L mc ms := by
      refine ⟨?_, q2, q3, q4, q5, q6⟩
      obtain ⟨t, ht, -⟩ := State.frames_cons hr
      show ({ U with heap := s₂.heap, slotsUsed := s₂.slotsUsed } : State) = { U.setFrames U.frames with heap := s₂.heap, slotsUsed := s₂.slotsUsed }
      rw [State.setFrames_self ht]
    subst hg
    refine Or.inr ⟨q, ⟨(({ U with heap := s₂.heap, slotsUsed := s₂.slotsUsed } : State).setVm s₂.vm), Ls ++ L, c0 + mc, s0 + ms⟩,
      ⟨X.admits, X.cas, X.clock, X.frames, X.room, X.hears, X.method, X.code, (X.here.setHeapUsed s₂.heap s₂.slotsUsed).setVm hW'.alike, X.tail, State.WarmedH.trans X.warmed hW', X.limits, X.bytes, X.same.trans (hsame.setVm s.vm)⟩,
      ⟨g, mk, s₂, L, E, ce, rfl, rfl, hx, hce, hcv, hcl, rfl, hL, rfl, rfl⟩, ?_⟩
    show Steps p.tables e below _ (((({ U with heap := s₂.heap, slotsUsed := s₂.slotsUsed } : State).setVm s₂.vm).setTop g).pushFrame (.throwing q))
    rw [← hs₂]
    exact hsteps
end Payer
section Calls
variable {p : Program} {l : Launch} {e : Env} {R : Room} {s : State} {m : MethodId} {args : Array Value} {below : List Frame} {meth : Method} {c : Code} {T : State} {locs : List Loc} {cells slots : Nat}
theorem vx_callV (X : Stand p l e R s m args below meth c T locs cells slots) (hexec : p.tables.exec = Jvm.exec) {own C : String} {index : Nat} {y : MethodName} {bytes : ByteArray} {maxL : Nat} {ret : Option FieldType}
    (hown : s.vm.findClass own = some m.cls) (hlink : (Cond.methodLink own index y).before args s = true) (hinst : (Cond.instanceMethod y).before args s = true) (hsel : (Cond.selects C y y).before args s = true)
    (hcode : (Cond.code y bytes maxL ret).before args s = true) (hy : y.cls ≠ "java/lang/invoke/MethodHandle" ∧ y.cls ≠ "java/lang/invoke/VarHandle")
    {W9 : Nat} {Pre : Pt → Array Value → Prop} {Post : Pt → Array Value → Option Value → Pt → Prop} {PostX : Pt → Array Value → Addr → Pt → Prop} (hK : vx_Back l R p e below s args y 3 W9 Pre Post PostX)
    {b : Addr} {cellB : Cell} (hcell : T.heap[b]? = some cellB) (hobj : cellB.vm.isStatics = false) (hcls : s.vm.findClass C = some cellB.cls)
    {g : JFrame} (hg : g.method = m) (hsize : g.locals.size = c.maxLocals) {argsL rest : List Value} (hlen : ∀ sig, parseMethodDescriptor y.desc = some sig → argsL.length = sig.parameters.length)
    (hstack : g.stack = argsL.reverse ++ .ref b :: rest) (hW : 2 * g.monitorRoom + (rest.map fun v => v.category).sum ≤ W9) (hdg : decode c.code g.pc = .ok (.invokevirtual index, 3))
    (hpre : ∀ vm₁, s.WarmedH vm₁ → Pre ⟨T.setVm vm₁, locs, cells, slots⟩ (Value.ref b :: argsL).toArray) :
    (∃ (v : Option Value) (vm₁ : Vm) (B : Pt), s.WarmedH vm₁ ∧ Stand p l e R s m args below meth c B.U B.locs B.cells B.slots ∧ Post ⟨T.setVm vm₁, locs, cells, slots⟩ (Value.ref b :: argsL).toArray v B ∧
      ∀ target, Steps p.tables e below (B.U.setTop { g with pc := g.pc + 3, stack := v.toList ++ rest }) target → Steps p.tables e below (T.setTop g) target) ∨
    (∃ (q : Addr) (vm₁ : Vm) (B : Pt), s.WarmedH vm₁ ∧ Stand p l e R s m args below meth c B.U B.locs B.cells B.slots ∧ PostX ⟨T.setVm vm₁, locs, cells, slots⟩ (Value.ref b :: argsL).toArray q B ∧
      Steps p.tables e below (T.setTop g) ((B.U.setTop { g with stack := rest }).pushFrame (.throwing q))) := by
  obtain ⟨mk, methM, hnamed, hmethM, hstM, habM⟩ := Cond.instanceMethod_spec hinst
  obtain ⟨methM', cM, hmethM', -, -, -, -, -, -, hsigM⟩ := Cond.code_spec hnamed hcode
  cases hmethM.symm.trans hmethM'
  obtain ⟨c2, r2, m2, q1, q2, q3, q4, kP, hkP, hkPi⟩ := Cond.selects_spec hsel
  cases hcls.symm.trans q1
  cases (State.methodFound?_of_named hnamed hy).symm.trans q2
  cases hnamed.symm.trans q3
  have hselP : selectMethod e.platform s.vm cellB.cls mk = .method mk := by rw [Launch.admits_selectMethod X.admits]; exact q4
  obtain ⟨vm₁, X₁, hstep₁⟩ := X.invokevirtual hexec hown hlink hnamed hmethM hstM hkP hkPi hy (a := b) (cell := cellB) hcell
    (fun z h => by rw [h] at hobj; cases hobj) hselP hmethM habM hkP hkPi (g := g) hg (argsL := argsL) (rest := rest) (hlen _ hsigM) hstack hdg
  rcases hK m meth c ⟨T.setVm vm₁, locs, cells, slots⟩ { g with stack := rest } (.invokevirtual index) mk (Value.ref b :: argsL).toArray X₁ hg hsize hdg hW (X₁.named hnamed) (hpre vm₁ X₁.warmed) with ⟨v, B, X', hpost, hsteps⟩ | ⟨q, B, X', hpost, hsteps⟩
  · exact Or.inl ⟨v, vm₁, B, X₁.warmed, X', hpost, fun target h => hstep₁ _ fun acts => by rw [doInvoke_state]; exact hsteps.trans h⟩
  · exact Or.inr ⟨q, vm₁, B, X₁.warmed, X', hpost, hstep₁ _ fun acts => by rw [doInvoke_state]; exact hsteps⟩
theorem vx_callS (X : Stand p l e R s m args below meth c T locs cells slots) (hexec : p.tables.exec = Jvm.exec) {own : String} {index : Nat} {y : MethodName} {bytes : ByteArray} {maxL : Nat} {ret : Option FieldType}
    (hown : s.vm.findClass own = some m.cls) (hlink : (Cond.methodLink own index y).before args s = true) (hstat : (Cond.static y).before args s = true) (hinit : (Cond.initialized y.cls).before args s = true)
    (hcode : (Cond.code y bytes maxL ret).before args s = true) (hy : y.cls ≠ "java/lang/invoke/MethodHandle" ∧ y.cls ≠ "java/lang/invoke/VarHandle")
    {W9 : Nat} {Pre : Pt → Array Value → Prop} {Post : Pt → Array Value → Option Value → Pt → Prop} {PostX : Pt → Array Value → Addr → Pt → Prop} (hK : vx_Back l R p e below s args y 3 W9 Pre Post PostX)
    {g : JFrame} (hg : g.method = m) (hsize : g.locals.size = c.maxLocals) {argsL rest : List Value} (hlen : ∀ sig, parseMethodDescriptor y.desc = some sig → argsL.length = sig.parameters.length)
    (hstack : g.stack = argsL.reverse ++ rest) (hW : 2 * g.monitorRoom + (rest.map fun v => v.category).sum ≤ W9) (hdg : decode c.code g.pc = .ok (.invokestatic index, 3))
    (hpre : ∀ vm₁, s.WarmedH vm₁ → Pre ⟨T.setVm vm₁, locs, cells, slots⟩ argsL.toArray) :
    (∃ (v : Option Value) (vm₁ : Vm) (B : Pt), s.WarmedH vm₁ ∧ Stand p l e R s m args below meth c B.U B.locs B.cells B.slots ∧ Post ⟨T.setVm vm₁, locs, cells, slots⟩ argsL.toArray v B ∧
      ∀ target, Steps p.tables e below (B.U.setTop { g with pc := g.pc + 3, stack := v.toList ++ rest }) target → Steps p.tables e below (T.setTop g) target) ∨
    (∃ (q : Addr) (vm₁ : Vm) (B : Pt), s.WarmedH vm₁ ∧ Stand p l e R s m args below meth c B.U B.locs B.cells B.slots ∧ PostX ⟨T.setVm vm₁, locs, cells, slots⟩ argsL.toArray q B ∧
      Steps p.tables e below (T.setTop g) ((B.U.setTop { g with stack := rest }).pushFrame (.throwing q))) := by
  obtain ⟨mk, hnamed⟩ := Cond.code_named hcode
  obtain ⟨methM, cM, hmethM, -, -, -, -, -, -, hsigM⟩ := Cond.code_spec hnamed hcode
  have hstatic : methM.isStatic = true := Cond.static_spec hnamed hmethM hstat
  obtain ⟨kP, hkP, -⟩ := className_of_methodNamed hnamed
  have hinitP : kP.init = .initialized := Cond.initialized_spec (findClass_of_methodNamed hnamed) hkP hinit
  obtain ⟨vm₁, X₁, hstep₁⟩ := X.invokestatic hexec hown hlink hnamed hmethM hstatic hkP hinitP hy (g := g) hg (argsL := argsL) (rest := rest) (hlen _ hsigM) hstack hdg
  rcases hK m meth c ⟨T.setVm vm₁, locs, cells, slots⟩ { g with stack := rest } (.invokestatic index) mk argsL.toArray X₁ hg hsize hdg hW (X₁.named hnamed) (hpre vm₁ X₁.warmed) with ⟨v, B, X', hpost, hsteps⟩ | ⟨q, B, X', hpost, hsteps⟩
  · exact Or.inl ⟨v, vm₁, B, X₁.warmed, X', hpost, fun target h => hstep₁ _ fun acts => by rw [doInvoke_state]; exact hsteps.trans h⟩
  · exact Or.inr ⟨q, vm₁, B, X₁.warmed, X', hpost, hstep₁ _ fun acts => by rw [doInvoke_state]; exact hsteps⟩
end Calls
theorem vx_cls {s : State} {T : State} {vm₁ : Vm} {E : String} {k : ClassId} (hW : s.WarmedH vm₁) (h : (T.setVm vm₁).vm.findClass E = some k) : s.vm.findClass E = some k := by
  have h1 : vm₁.findClass E = some k := h
  rw [hW.alike.findClass] at h1
  exact h1
/-- the method's frame g, with q thrown over it -/
def vx_W (p : Program) (l : Launch) (e : Env) (R : Room) (s : State) (m : MethodId) (args : Array Value) (below : List Frame) (meth : Method) (c : Code) (H : Heap) (locs : List Loc) (cells slots : Nat) (Q : State → Prop) (g : JFrame) (q : Addr) : Prop :=
  ∀ T : State, T.heap = H → Stand p l e R s m args below meth c T locs cells slots → ∃ t, Steps p.tables e below ((T.setTop g).pushFrame (.throwing q)) t ∧ Q t
def vx_Run (p : Program) (l : Launch) (e : Env) (R : Room) (s : State) (m : MethodId) (args : Array Value) (below : List Frame) (meth : Method) (c : Code) (H : Heap) (locs : List Loc) (cells slots mc ms : Nat) (g : JFrame) (rest : List Value) (Qa : State → Outcome → State → Prop) (XC : String → State → State → Prop) (free : Addr → Prop) : Prop :=
  ∀ T : State, T.heap = H → Stand p l e R s m args below meth c T locs cells slots →
    (∃ (v : Option Value) (st₀ t T' : State) (L : List Loc), st₀.heap = H ∧ Stand p l e R s m args below meth c T' (locs ++ L) (cells + mc) (slots + ms) ∧ (∀ q ∈ L, free q.base) ∧ T'.heap = t.heap ∧ T'.vm = t.vm ∧ Qa st₀ (.returned v) t ∧
      Goes p e below T g T' { g with pc := g.pc + 3, stack := v.toList ++ rest }) ∨
    (∃ (q : Addr) (st₀ t T' : State) (L : List Loc) (E : String) (ce : Cell), st₀.heap = H ∧ Stand p l e R s m args below meth c T' (locs ++ L) (cells + mc) (slots + ms) ∧ (∀ z ∈ L, free z.base) ∧ T'.heap = t.heap ∧ T'.vm = t.vm ∧ XC E st₀ t ∧ t.heap[q]? = some ce ∧ ce.vm = .none ∧ s.vm.findClass E = some ce.cls ∧
      Steps p.tables e below (T.setTop g) ((T'.setTop { g with stack := rest }).pushFrame (.throwing q)))
def vx_X {S : Type} (px : S → Prop) (B : String → S → State → Prop) (A : Nat → Prop) : String → State → State → Prop := fun E st t => ∃ u : S, px u ∧ B E u t ∧ va_F A st t
section Runs
variable {p : Program} {l : Launch} {e : Env} {R : Room} {s : State} {m : MethodId} {args : Array Value} {below : List Frame} {meth : Method} {c : Code} {H : Heap} {locs : List Loc} {cells slots : Nat}
variable {y : MethodName} {bytes cc : ByteArray} {maxL nL mc ms n index : Nat} {ret : Option FieldType} {ws : List Cond} {rm : Room} {Pc : Array Value → State → Prop} {Qc : Array Value → State → Outcome → State → Prop} {XC : String → State → State → Prop} {free : Addr → Prop} {Ts : List Cond} {own C : String} {b : Addr} {As rest : List Value} {g : JFrame}
theorem vx_callBack (cb : CallB R s args own index y bytes maxL ret ws rm mc ms n) (hM : vx_Met l y ws rm Pc Qc XC mc ms free) (hbl : FrameBlind Pc) : vx_Back l R p e below s args y 3 8 (PreOf R mc ms Pc) (PostOf Qc mc ms free) (vx_Post XC mc ms free) := by
  obtain ⟨hrc, hrs, hfr, hlo, hws, hcw, -, hini, -⟩ := cb
  exact vx_back (bytes := bytes) (maxL := maxL) (ret := ret) hM hbl hrc hrs hfr hlo hws hcw (fun a' U hW => word_at hW (Or.inl (by first | rfl | simp [Cond.onTables, Cond.keeps, Cond.steady])) hini)
theorem vx_runV (S : CallFix p m c cc nL s args Ts own) (hM : vx_Met l y ws rm Pc Qc XC mc ms free) (cw : CallW R s args own C index y bytes maxL ret ws rm mc ms n) (hp : PreV s H C b Pc As)
    (hg : g.method = m) (hn : As.length = n) (hsize : g.locals.size = nL) (hstack : g.stack = As.reverse ++ .ref b :: rest) (hW : 2 * g.monitorRoom + (rest.map fun v => v.category).sum ≤ 8) (hdg : decode cc g.pc = .ok (.invokevirtual index, 3)) (hf : cells + mc ≤ R.cells ∧ slots + ms ≤ R.slots) :
    vx_Run p l e R s m args below meth c H locs cells slots mc ms g rest (Qc (Value.ref b :: As).toArray) XC free := by
  have hK : vx_Back l R p e below s args y 3 8 (PreOf R mc ms Pc) (PostOf Qc mc ms free) (vx_Post XC mc ms free) := vx_callBack cw.1 hM hp.1
  obtain ⟨⟨-, -, -, -, -, -, hcode, -, hy, hlen, hl⟩, hin, hse⟩ := cw
  obtain ⟨hx, hb, hml, ho, -⟩ := S
  obtain ⟨-, ⟨cellB, hcB, hoB, hclB⟩, hPc⟩ := hp
  intro T hT X
  rcases vx_callV X hx (C := C) (bytes := bytes) (maxL := maxL) (ret := ret) ho hl hin hse hcode hy hK (by rw [hT]; exact hcB) hoB hclB hg (hsize.trans hml.symm) (argsL := As) (rest := rest) (fun sig h => hn.trans (hlen sig h)) hstack hW (by rw [hb]; exact hdg)
    (fun vm₁ hW₁ => ⟨hf.1, hf.2, hPc (T.setVm vm₁) hT hW₁⟩) with ⟨v, vm₁, ⟨U', l2, c2, s2⟩, hW₁, X', ⟨g', mk, t, L, e1, e2, hq, h1, hL, h2, h3⟩, st⟩ | ⟨q, vm₁, ⟨U', l2, c2, s2⟩, hW₁, X', ⟨g', mk, t, L, E, ce, e1, e2, hq, hce, hcv, hcl, h1, hL, h2, h3⟩, st⟩
  · dsimp only [Pt.U, Pt.locs, Pt.cells, Pt.slots] at X' e1 e2 h1 h2 h3 st
    subst h1; subst h2; subst h3
    exact Or.inl ⟨v, (T.setVm vm₁).calling g' mk (Value.ref b :: As).toArray, t, U', L, hT, X', hL, e1, e2, hq, st⟩
  · dsimp only [Pt.U, Pt.locs, Pt.cells, Pt.slots] at X' e1 e2 h1 h2 h3 st hcl
    subst h1; subst h2; subst h3
    exact Or.inr ⟨q, (T.setVm vm₁).calling g' mk (Value.ref b :: As).toArray, t, U', L, E, ce, hT, X', hL, e1, e2, hq, hce, hcv, vx_cls hW₁ hcl, st⟩
theorem vx_runS (S : CallFix p m c cc nL s args Ts own) (hM : vx_Met l y ws rm Pc Qc XC mc ms free) (cw : CallB R s args own index y bytes maxL ret ws rm mc ms n ∧ (Cond.static y).before args s = true) (hp : PreS s H Pc As)
    (hg : g.method = m) (hn : As.length = n) (hsize : g.locals.size = nL) (hstack : g.stack = As.reverse ++ rest) (hW : 2 * g.monitorRoom + (rest.map fun v => v.category).sum ≤ 8) (hdg : decode cc g.pc = .ok (.invokestatic index, 3)) (hf : cells + mc ≤ R.cells ∧ slots + ms ≤ R.slots) :
    vx_Run p l e R s m args below meth c H locs cells slots mc ms g rest (Qc As.toArray) XC free := by
  have hK : vx_Back l R p e below s args y 3 8 (PreOf R mc ms Pc) (PostOf Qc mc ms free) (vx_Post XC mc ms free) := vx_callBack cw.1 hM hp.1
  obtain ⟨⟨-, -, -, -, -, -, hcode, hini, hy, hlen, hl⟩, hstt⟩ := cw
  obtain ⟨hx, hb, hml, ho, -⟩ := S
  intro T hT X
  rcases vx_callS X hx (bytes := bytes) (maxL := maxL) (ret := ret) ho hl hstt hini hcode hy hK hg (hsize.trans hml.symm) (argsL := As) (rest := rest) (fun sig h => hn.trans (hlen sig h)) hstack hW (by rw [hb]; exact hdg)
    (fun vm₁ hW₁ => ⟨hf.1, hf.2, hp.2 (T.setVm vm₁) hT hW₁⟩) with ⟨v, vm₁, ⟨U', l2, c2, s2⟩, hW₁, X', ⟨g', mk, t, L, e1, e2, hq, h1, hL, h2, h3⟩, st⟩ | ⟨q, vm₁, ⟨U', l2, c2, s2⟩, hW₁, X', ⟨g', mk, t, L, E, ce, e1, e2, hq, hce, hcv, hcl, h1, hL, h2, h3⟩, st⟩
  · dsimp only [Pt.U, Pt.locs, Pt.cells, Pt.slots] at X' e1 e2 h1 h2 h3 st
    subst h1; subst h2; subst h3
    exact Or.inl ⟨v, (T.setVm vm₁).calling g' mk As.toArray, t, U', L, hT, X', hL, e1, e2, hq, st⟩
  · dsimp only [Pt.U, Pt.locs, Pt.cells, Pt.slots] at X' e1 e2 h1 h2 h3 st hcl
    subst h1; subst h2; subst h3
    exact Or.inr ⟨q, (T.setVm vm₁).calling g' mk As.toArray, t, U', L, E, ce, hT, X', hL, e1, e2, hq, hce, hcv, vx_cls hW₁ hcl, st⟩
end Runs
section Rows
variable {p : Program} {l : Launch} {e : Env} {R : Room} {s : State} {m : MethodId} {args : Array Value} {below : List Frame} {meth : Method} {c : Code} {H : Heap} {locs : List Loc} {cells slots : Nat} {Q : State → Prop}
variable {mc ms : Nat} {free : Addr → Prop} {A0 A1 : Nat → Prop} {H0 : Heap} {a : Array Value} {pc : Nat} {ls : Array Slot} {st0 rest : List Value}
theorem vx_keep {st₀ t T' : State} {L : List Loc} (h0 : st₀.heap = H) (e1 : T'.heap = t.heap) (hS : va_S A0 H0 H locs) (hA : ∀ q, q < H.size → A1 q → A0 q) (hf : ∀ q, free q → A0 q) (hL : ∀ q ∈ L, free q.base) (hF : va_F A1 st₀ t) :
    H.size ≤ T'.heap.size ∧ (∀ q : Nat, q < H.size → ¬ A1 q → T'.heap[q]? = H[q]?) ∧ va_S A0 H0 T'.heap (locs ++ L) := by
  obtain ⟨hz, hk⟩ := hF
  rw [h0] at hz hk
  exact ⟨by rw [e1]; exact hz, fun q h1 h2 => by rw [e1]; exact hk q h1 h2,
    ⟨Nat.le_trans hS.1 (by rw [e1]; exact hz), fun q h1 h2 => by rw [e1, hk q (Nat.lt_of_lt_of_le h1 hS.1) (fun z => h2 (hA q (Nat.lt_of_lt_of_le h1 hS.1) z))]; exact hS.2.1 q h1 h2, fun q hq => by
      rcases List.mem_append.mp hq with h | h
      · exact hS.2.2 q h
      · exact hf _ (hL q h)⟩⟩
theorem vx_calli {S SX : Type} {post : Int32 → S → Prop} {px : SX → Prop} {B : S → State → Prop} {BX : String → SX → State → Prop} {AX : Nat → Prop} (hr : vx_Run p l e R s m args below meth c H locs cells slots mc ms (F0 m pc ls st0) rest (va_Qi post B A1 a) (vx_X px BX AX) free) (hS : va_S A0 H0 H locs) (hA : ∀ q, q < H.size → A1 q → A0 q) (hf : ∀ q, free q → A0 q) (hAX : ∀ q, q < H.size → AX q → A0 q)
    (kx : ∀ (E : String) (ce : Cell) (q9 : Addr) (u : SX) (t : State) (H1 : Heap) (locs1 : List Loc), t.heap = H1 → s.vm.Alike t.vm → px u → BX E u t → H.size ≤ H1.size → (∀ q : Nat, q < H.size → ¬ AX q → H1[q]? = H[q]?) → va_S A0 H0 H1 locs1 → H1[q9]? = some ce → ce.vm = .none → s.vm.findClass E = some ce.cls → vx_W p l e R s m args below meth c H1 locs1 (cells + mc) (slots + ms) Q (F0 m pc ls rest) q9)
    (kk : ∀ (r : Int32) (u : S) (t : State) (H1 : Heap) (locs1 : List Loc), t.heap = H1 → s.vm.Alike t.vm → post r u → B u t → H.size ≤ H1.size → (∀ q : Nat, q < H.size → ¬ A1 q → H1[q]? = H[q]?) → va_S A0 H0 H1 locs1 → W p l e R s m args below meth c H1 locs1 (cells + mc) (slots + ms) Q (F0 m (pc + 3) ls (.int r :: rest))) : W p l e R s m args below meth c H locs cells slots Q (F0 m pc ls st0) := by
  intro T hT X
  rcases hr T hT X with ⟨v, st₀, t, T', L, h0, X', hL, e1, e2, ⟨⟨r, u, hv, hp, hb⟩, hF⟩, st⟩ | ⟨q, st₀, t, T', L, E, ce, h0, X', hL, e1, e2, ⟨u, hp, hb, hF⟩, hce, hcv, hcl, st⟩
  · cases hv
    obtain ⟨k1, k2, k3⟩ := vx_keep h0 e1 hS hA hf hL hF
    obtain ⟨t2, a1, b1⟩ := kk r u t T'.heap (locs ++ L) e1.symm (by rw [← e2]; exact X'.warmed.alike) hp hb k1 k2 k3 T' rfl X'
    exact ⟨t2, st t2 a1, b1⟩
  · obtain ⟨k1, k2, k3⟩ := vx_keep h0 e1 hS hAX hf hL hF
    obtain ⟨t2, a1, b1⟩ := kx E ce q u t T'.heap (locs ++ L) e1.symm (by rw [← e2]; exact X'.warmed.alike) hp hb k1 k2 k3 (by rw [e1]; exact hce) hcv hcl T' rfl X'
    exact ⟨t2, st.trans a1, b1⟩
theorem vx_calll {S SX : Type} {post : Int64 → S → Prop} {px : SX → Prop} {B : S → State → Prop} {BX : String → SX → State → Prop} {AX : Nat → Prop} (hr : vx_Run p l e R s m args below meth c H locs cells slots mc ms (F0 m pc ls st0) rest (va_Ql post B A1 a) (vx_X px BX AX) free) (hS : va_S A0 H0 H locs) (hA : ∀ q, q < H.size → A1 q → A0 q) (hf : ∀ q, free q → A0 q) (hAX : ∀ q, q < H.size → AX q → A0 q)
    (kx : ∀ (E : String) (ce : Cell) (q9 : Addr) (u : SX) (t : State) (H1 : Heap) (locs1 : List Loc), t.heap = H1 → s.vm.Alike t.vm → px u → BX E u t → H.size ≤ H1.size → (∀ q : Nat, q < H.size → ¬ AX q → H1[q]? = H[q]?) → va_S A0 H0 H1 locs1 → H1[q9]? = some ce → ce.vm = .none → s.vm.findClass E = some ce.cls → vx_W p l e R s m args below meth c H1 locs1 (cells + mc) (slots + ms) Q (F0 m pc ls rest) q9)
    (kk : ∀ (r : Int64) (u : S) (t : State) (H1 : Heap) (locs1 : List Loc), t.heap = H1 → s.vm.Alike t.vm → post r u → B u t → H.size ≤ H1.size → (∀ q : Nat, q < H.size → ¬ A1 q → H1[q]? = H[q]?) → va_S A0 H0 H1 locs1 → W p l e R s m args below meth c H1 locs1 (cells + mc) (slots + ms) Q (F0 m (pc + 3) ls (.long r :: rest))) : W p l e R s m args below meth c H locs cells slots Q (F0 m pc ls st0) := by
  intro T hT X
  rcases hr T hT X with ⟨v, st₀, t, T', L, h0, X', hL, e1, e2, ⟨⟨r, u, hv, hp, hb⟩, hF⟩, st⟩ | ⟨q, st₀, t, T', L, E, ce, h0, X', hL, e1, e2, ⟨u, hp, hb, hF⟩, hce, hcv, hcl, st⟩
  · cases hv
    obtain ⟨k1, k2, k3⟩ := vx_keep h0 e1 hS hA hf hL hF
    obtain ⟨t2, a1, b1⟩ := kk r u t T'.heap (locs ++ L) e1.symm (by rw [← e2]; exact X'.warmed.alike) hp hb k1 k2 k3 T' rfl X'
    exact ⟨t2, st t2 a1, b1⟩
  · obtain ⟨k1, k2, k3⟩ := vx_keep h0 e1 hS hAX hf hL hF
    obtain ⟨t2, a1, b1⟩ := kx E ce q u t T'.heap (locs ++ L) e1.symm (by rw [← e2]; exact X'.warmed.alike) hp hb k1 k2 k3 (by rw [e1]; exact hce) hcv hcl T' rfl X'
    exact ⟨t2, st.trans a1, b1⟩
theorem vx_callf {S SX : Type} {post : UInt32 → S → Prop} {px : SX → Prop} {B : S → State → Prop} {BX : String → SX → State → Prop} {AX : Nat → Prop} (hr : vx_Run p l e R s m args below meth c H locs cells slots mc ms (F0 m pc ls st0) rest (va_Qf post B A1 a) (vx_X px BX AX) free) (hS : va_S A0 H0 H locs) (hA : ∀ q, q < H.size → A1 q → A0 q) (hf : ∀ q, free q → A0 q) (hAX : ∀ q, q < H.size → AX q → A0 q)
    (kx : ∀ (E : String) (ce : Cell) (q9 : Addr) (u : SX) (t : State) (H1 : Heap) (locs1 : List Loc), t.heap = H1 → s.vm.Alike t.vm → px u → BX E u t → H.size ≤ H1.size → (∀ q : Nat, q < H.size → ¬ AX q → H1[q]? = H[q]?) → va_S A0 H0 H1 locs1 → H1[q9]? = some ce → ce.vm = .none → s.vm.findClass E = some ce.cls → vx_W p l e R s m args below meth c H1 locs1 (cells + mc) (slots + ms) Q (F0 m pc ls rest) q9)
    (kk : ∀ (r : UInt32) (u : S) (t : State) (H1 : Heap) (locs1 : List Loc), t.heap = H1 → s.vm.Alike t.vm → post r u → B u t → H.size ≤ H1.size → (∀ q : Nat, q < H.size → ¬ A1 q → H1[q]? = H[q]?) → va_S A0 H0 H1 locs1 → W p l e R s m args below meth c H1 locs1 (cells + mc) (slots + ms) Q (F0 m (pc + 3) ls (.float r :: rest))) : W p l e R s m args below meth c H locs cells slots Q (F0 m pc ls st0) := by
  intro T hT X
  rcases hr T hT X with ⟨v, st₀, t, T', L, h0, X', hL, e1, e2, ⟨⟨r, u, hv, hp, hb⟩, hF⟩, st⟩ | ⟨q, st₀, t, T', L, E, ce, h0, X', hL, e1, e2, ⟨u, hp, hb, hF⟩, hce, hcv, hcl, st⟩
  · cases hv
    obtain ⟨k1, k2, k3⟩ := vx_keep h0 e1 hS hA hf hL hF
    obtain ⟨t2, a1, b1⟩ := kk r u t T'.heap (locs ++ L) e1.symm (by rw [← e2]; exact X'.warmed.alike) hp hb k1 k2 k3 T' rfl X'
    exact ⟨t2, st t2 a1, b1⟩
  · obtain ⟨k1, k2, k3⟩ := vx_keep h0 e1 hS hAX hf hL hF
    obtain ⟨t2, a1, b1⟩ := kx E ce q u t T'.heap (locs ++ L) e1.symm (by rw [← e2]; exact X'.warmed.alike) hp hb k1 k2 k3 (by rw [e1]; exact hce) hcv hcl T' rfl X'
    exact ⟨t2, st.trans a1, b1⟩
theorem vx_calld {S SX : Type} {post : UInt64 → S → Prop} {px : SX → Prop} {B : S → State → Prop} {BX : String → SX → State → Prop} {AX : Nat → Prop} (hr : vx_Run p l e R s m args below meth c H locs cells slots mc ms (F0 m pc ls st0) rest (va_Qd post B A1 a) (vx_X px BX AX) free) (hS : va_S A0 H0 H locs) (hA : ∀ q, q < H.size → A1 q → A0 q) (hf : ∀ q, free q → A0 q) (hAX : ∀ q, q < H.size → AX q → A0 q)
    (kx : ∀ (E : String) (ce : Cell) (q9 : Addr) (u : SX) (t : State) (H1 : Heap) (locs1 : List Loc), t.heap = H1 → s.vm.Alike t.vm → px u → BX E u t → H.size ≤ H1.size → (∀ q : Nat, q < H.size → ¬ AX q → H1[q]? = H[q]?) → va_S A0 H0 H1 locs1 → H1[q9]? = some ce → ce.vm = .none → s.vm.findClass E = some ce.cls → vx_W p l e R s m args below meth c H1 locs1 (cells + mc) (slots + ms) Q (F0 m pc ls rest) q9)
    (kk : ∀ (r : UInt64) (u : S) (t : State) (H1 : Heap) (locs1 : List Loc), t.heap = H1 → s.vm.Alike t.vm → post r u → B u t → H.size ≤ H1.size → (∀ q : Nat, q < H.size → ¬ A1 q → H1[q]? = H[q]?) → va_S A0 H0 H1 locs1 → W p l e R s m args below meth c H1 locs1 (cells + mc) (slots + ms) Q (F0 m (pc + 3) ls (.double r :: rest))) : W p l e R s m args below meth c H locs cells slots Q (F0 m pc ls st0) := by
  intro T hT X
  rcases hr T hT X with ⟨v, st₀, t, T', L, h0, X', hL, e1, e2, ⟨⟨r, u, hv, hp, hb⟩, hF⟩, st⟩ | ⟨q, st₀, t, T', L, E, ce, h0, X', hL, e1, e2, ⟨u, hp, hb, hF⟩, hce, hcv, hcl, st⟩
  · cases hv
    obtain ⟨k1, k2, k3⟩ := vx_keep h0 e1 hS hA hf hL hF
    obtain ⟨t2, a1, b1⟩ := kk r u t T'.heap (locs ++ L) e1.symm (by rw [← e2]; exact X'.warmed.alike) hp hb k1 k2 k3 T' rfl X'
    exact ⟨t2, st t2 a1, b1⟩
  · obtain ⟨k1, k2, k3⟩ := vx_keep h0 e1 hS hAX hf hL hF
    obtain ⟨t2, a1, b1⟩ := kx E ce q u t T'.heap (locs ++ L) e1.symm (by rw [← e2]; exact X'.warmed.alike) hp hb k1 k2 k3 (by rw [e1]; exact hce) hcv hcl T' rfl X'
    exact ⟨t2, st.trans a1, b1⟩
theorem vx_callv {S SX : Type} {post : S → Prop} {px : SX → Prop} {B : S → State → Prop} {BX : String → SX → State → Prop} {AX : Nat → Prop} (hr : vx_Run p l e R s m args below meth c H locs cells slots mc ms (F0 m pc ls st0) rest (va_Qv post B A1 a) (vx_X px BX AX) free) (hS : va_S A0 H0 H locs) (hA : ∀ q, q < H.size → A1 q → A0 q) (hf : ∀ q, free q → A0 q) (hAX : ∀ q, q < H.size → AX q → A0 q)
    (kx : ∀ (E : String) (ce : Cell) (q9 : Addr) (u : SX) (t : State) (H1 : Heap) (locs1 : List Loc), t.heap = H1 → s.vm.Alike t.vm → px u → BX E u t → H.size ≤ H1.size → (∀ q : Nat, q < H.size → ¬ AX q → H1[q]? = H[q]?) → va_S A0 H0 H1 locs1 → H1[q9]? = some ce → ce.vm = .none → s.vm.findClass E = some ce.cls → vx_W p l e R s m args below meth c H1 locs1 (cells + mc) (slots + ms) Q (F0 m pc ls rest) q9)
    (kk : ∀ (u : S) (t : State) (H1 : Heap) (locs1 : List Loc), t.heap = H1 → s.vm.Alike t.vm → post u → B u t → H.size ≤ H1.size → (∀ q : Nat, q < H.size → ¬ A1 q → H1[q]? = H[q]?) → va_S A0 H0 H1 locs1 → W p l e R s m args below meth c H1 locs1 (cells + mc) (slots + ms) Q (F0 m (pc + 3) ls (rest))) : W p l e R s m args below meth c H locs cells slots Q (F0 m pc ls st0) := by
  intro T hT X
  rcases hr T hT X with ⟨v, st₀, t, T', L, h0, X', hL, e1, e2, ⟨⟨u, hv, hp, hb⟩, hF⟩, st⟩ | ⟨q, st₀, t, T', L, E, ce, h0, X', hL, e1, e2, ⟨u, hp, hb, hF⟩, hce, hcv, hcl, st⟩
  · cases hv
    obtain ⟨k1, k2, k3⟩ := vx_keep h0 e1 hS hA hf hL hF
    obtain ⟨t2, a1, b1⟩ := kk u t T'.heap (locs ++ L) e1.symm (by rw [← e2]; exact X'.warmed.alike) hp hb k1 k2 k3 T' rfl X'
    exact ⟨t2, st t2 a1, b1⟩
  · obtain ⟨k1, k2, k3⟩ := vx_keep h0 e1 hS hAX hf hL hF
    obtain ⟨t2, a1, b1⟩ := kx E ce q u t T'.heap (locs ++ L) e1.symm (by rw [← e2]; exact X'.warmed.alike) hp hb k1 k2 k3 (by rw [e1]; exact hce) hcv hcl T' rfl X'
    exact ⟨t2, st.trans a1, b1⟩
end Rows
section Ends
variable {p : Program} {l : Launch} {e : Env} {R : Room} {s : State} {m : MethodId} {args : Array Value} {below : List Frame} {meth : Method} {c : Code} {H : Heap} {locs : List Loc} {cells slots : Nat} {Q : State → Prop}
variable {mc ms : Nat} {free : Addr → Prop} {A0 A1 : Nat → Prop} {H0 : Heap} {a : Array Value} {ls : Array Slot} {st0 rest : List Value}
variable {Qc : Array Value → State → Outcome → State → Prop} {XC : String → State → State → Prop}
/-- what a body that may throw owes at its end -/
def vx_MQ (below : List Frame) (Qc : Array Value → State → Outcome → State → Prop) (XC : String → State → State → Prop) (a : Array Value) (s : State) (mc ms : Nat) (free : Addr → Prop) : State → Prop := fun t =>
  ∃ o, t.status = .running ∧ Ended t below o ∧ vx_Q Qc XC mc ms free a s o t
theorem vx_ret {g : JFrame} {mc ms : Nat} (k : W p l e R s m args below meth c H locs cells slots (MQ below Qc args s mc ms free) g) : W p l e R s m args below meth c H locs cells slots (vx_MQ below Qc XC args s mc ms free) g := by
  intro T hT X
  obtain ⟨t, a1, o, b1, b2, b3, b4⟩ := k T hT X
  exact ⟨t, a1, o, b1, b2, Or.inl ⟨b3, b4⟩⟩
/-- not caught here: it goes on to the caller -/
theorem vx_widen {g : JFrame} {q : Addr} {k n : Nat} (h1 : cells ≤ k) (h2 : slots ≤ n) (kk : vx_W p l e R s m args below meth c H locs k n Q g q) : vx_W p l e R s m args below meth c H locs cells slots Q g q := fun T hT X => kk T hT (stand_widen X h1 h2)
theorem vx_out {pc : Nat} {E : String} {ce : Cell} {q : Addr} {mc ms : Nat} (hout : ∀ x ∈ c.exceptionTable.toList, covers x pc = false) (hlocks : meth.locks = false) (hcell : H[q]? = some ce) (hv : ce.vm = .none) (hcl : s.vm.findClass E = some ce.cls)
    (hx : ∀ t : State, t.heap = H → s.vm.Alike t.vm → XC E s t) (hf : ∀ z ∈ locs, free z.base) (hc : cells ≤ mc) (hs : slots ≤ ms) :
    vx_W p l e R s m args below meth c H locs cells slots (vx_MQ below Qc XC args s mc ms free) (F0 m pc ls rest) q := by
  intro T hT X
  obtain ⟨st1, hrun, hend, hW, hsm⟩ := X.leaveThrown q (g := F0 m pc ls rest) rfl rfl rfl hout hlocks
  have hcell9 : (T.setFrames (.throwing q :: below)).heap[q]? = some ce := by
    show T.heap[q]? = some ce
    rw [hT]; exact hcell
  exact ⟨_, st1, .threw q, hrun, hend, Or.inr ⟨q, rfl, E, ce, locs, hx _ hT hW.alike, hcell9, hv, hcl, hW, hsm.mono hc hs, hf⟩⟩
theorem vx_frame {U : State} {k n : Nat} (h : s.sameButNew ({ U with vm := s.vm } : State) locs k n) : s.heap.size ≤ U.heap.size ∧ ∀ q : Nat, q < s.heap.size → (∀ z ∈ locs, z.base ≠ q) → U.heap[q]? = s.heap[q]? := by
  obtain ⟨-, h2, -, -, -, h6⟩ := h
  refine ⟨h2, fun q hq hz => ?_⟩
  obtain ⟨c9, e1, e2, e3, e4⟩ := h6 q _ (Array.getElem?_eq_getElem hq)
  have hs : c9.slots = (s.heap[q]).slots := Array.ext_getElem? fun i => e4 i fun hm => hz _ hm rfl
  have h9 : c9 = s.heap[q] := by
    rw [hs] at e2
    exact e2
  have e5 : U.heap[q]? = some c9 := e1
  rw [e5, h9, Array.getElem?_eq_getElem hq]
/-- the words of a throw but the four that speak of the heap -/
def vx_no (w : Cond) : Bool := decide (w ≠ .isRef (.static Bundle.tN "UNASSIGNED_STACK" Bundle.steD)) && decide (w ≠ .isRef (.static Bundle.tN "SUPPRESSED_SENTINEL" Bundle.listD)) && decide (w ≠ .laysStatic Bundle.tN "UNASSIGNED_STACK" Bundle.steD) && decide (w ≠ .laysStatic Bundle.tN "SUPPRESSED_SENTINEL" Bundle.listD)
def vx_at0 (own : String) (ic : Nat) (X : String) (names : List String) : List Cond := (Bundle.ownAtoms0 own ic X names).filter vx_no
def vx_atS (own : String) (ic : Nat) (X : String) (names : List String) : List Cond := (Bundle.ownAtoms own ic X names).filter vx_no
/-- a word that the tables alone decide, or a good one -/
def vx_ot (w : Cond) : Bool := w.onTables || goodWord w
theorem vx_ot_at {args a' : Array Value} {s U : State} {w : Cond} (hW : s.WarmedH U.vm) (hvm : s.vm = U.vm) (hg : vx_ot w = true) (h : w.before args s = true) : w.before a' U = true := by
  simp only [vx_ot, Bool.or_eq_true] at hg
  rcases hg with hg | hg
  · exact va_tabs hg hvm h
  · exact word_at hW (good_of_word hg) h
/-- a list's words: the good ones out of the method's own list, the others by premises of their own -/
theorem vx_hat {args : Array Value} {s : State} {L B : List Cond} (h1 : ∀ w ∈ L.filter goodWord, w.before args s = true) (h2 : ∀ w ∈ L.filter (fun w => !goodWord w), w ∈ B) (h3 : ∀ w ∈ B, w.before args s = true) : ∀ w ∈ L, w.before args s = true := by
  intro w hw
  by_cases g : goodWord w = true
  · exact h1 w (List.mem_filter.mpr ⟨hw, g⟩)
  · refine h3 w (h2 w (List.mem_filter.mpr ⟨hw, ?_⟩))
    show (!goodWord w) = true
    cases hgw : goodWord w
    · rfl
    · exact absurd hgw g
theorem vx_c {args : Array Value} {s : State} {w : Cond} {B : List Cond} (h : w.before args s = true) (t : ∀ w ∈ B, w.before args s = true) : ∀ w' ∈ w :: B, w'.before args s = true := fun w' h' => (List.mem_cons.mp h').elim (fun e => by rw [e]; exact h) (t w')
theorem vx_n {args : Array Value} {s : State} : ∀ w ∈ ([] : List Cond), w.before args s = true := fun _ h => nomatch h
theorem vx_own {args : Array Value} {s : State} {L : List Cond} (h1 : ∀ w ∈ L.filter vx_no, w.before args s = true)
    (hU : (Cond.isRef (.static Bundle.tN "UNASSIGNED_STACK" Bundle.steD)).before args s = true) (hN : (Cond.isRef (.static Bundle.tN "SUPPRESSED_SENTINEL" Bundle.listD)).before args s = true)
    (lU : (Cond.laysStatic Bundle.tN "UNASSIGNED_STACK" Bundle.steD).before args s = true) (lN : (Cond.laysStatic Bundle.tN "SUPPRESSED_SENTINEL" Bundle.listD).before args s = true) : ∀ w ∈ L, w.before args s = true := by
  intro w hw
  by_cases e1 : w = .isRef (.static Bundle.tN "UNASSIGNED_STACK" Bundle.steD)
  · rw [e1]; exact hU
  · by_cases e2 : w = .isRef (.static Bundle.tN "SUPPRESSED_SENTINEL" Bundle.listD)
    · rw [e2]; exact hN
    · by_cases e3 : w = .laysStatic Bundle.tN "UNASSIGNED_STACK" Bundle.steD
      · rw [e3]; exact lU
      · by_cases e4 : w = .laysStatic Bundle.tN "SUPPRESSED_SENTINEL" Bundle.listD
        · rw [e4]; exact lN
        · exact h1 w (List.mem_filter.mpr ⟨hw, by unfold vx_no; rw [decide_eq_true e1, decide_eq_true e2, decide_eq_true e3, decide_eq_true e4]; rfl⟩)
/-- where a static field lies, its class's statics cell in H -/
def vx_L (C n d : String) (A : Nat → Prop) (U : State) (H : Heap) : Prop := ∃ (c : ClassId) (k : Class) (i : Nat) (f : Field) (a : Nat) (cell : Cell), U.vm.findClass C = some c ∧ U.fieldFound? C n d = some (c, k, i, f) ∧ f.isStatic = true ∧ k.statics = some a ∧ H[a]? = some cell ∧ cell.vm.isStatics = true ∧ cell.cls = c ∧ f.slot < cell.slots.size ∧ k.staticTypes[f.slot]? = some f.type ∧ ¬ A a
theorem vx_L.moved {C n d : String} {A : Nat → Prop} {u U : State} {H : Heap} (hvm : u.vm.Alike U.vm) (h : vx_L C n d A u H) : vx_L C n d A U H := by
  obtain ⟨c, k, i, f, a, cell, h1, h2, h3, h4, h5, h6, h7, h8, h9, h10⟩ := h
  obtain ⟨k', hi', he⟩ := State.fieldFound?_setVm hvm h2
  exact ⟨c, k', i, f, a, cell, by rw [hvm.findClass]; exact h1, hi', h3, by rw [he]; exact h4, h5, h6, h7, h8, by rw [he]; exact h9, h10⟩
theorem vx_L.kept {C n d : String} {A : Nat → Prop} {U : State} {H H1 : Heap} (h : vx_L C n d A U H) (hq : ∀ a : Nat, a < H.size → ¬ A a → H1[a]? = H[a]?) : vx_L C n d A U H1 := by
  obtain ⟨c, k, i, f, a, cell, h1, h2, h3, h4, h5, h6, h7, h8, h9, h10⟩ := h
  exact ⟨c, k, i, f, a, cell, h1, h2, h3, h4, by rw [hq a (Array.getElem?_eq_some_iff.mp h5).1 h10]; exact h5, h6, h7, h8, h9, h10⟩
theorem vx_L.narrow {C n d : String} {A B : Nat → Prop} {U : State} {H : Heap} (h : vx_L C n d A U H) (hAB : ∀ q, B q → A q) : vx_L C n d B U H := by
  obtain ⟨c, k, i, f, a, cell, h1, h2, h3, h4, h5, h6, h7, h8, h9, h10⟩ := h
  exact ⟨c, k, i, f, a, cell, h1, h2, h3, h4, h5, h6, h7, h8, h9, fun z => h10 (hAB _ z)⟩
theorem vx_L.word {C n d : String} {A : Nat → Prop} {s : State} {args : Array Value} (h : vx_L C n d A s s.heap) : (Cond.laysStatic C n d).before args s = true := by
  obtain ⟨c, k, i, f, a, cell, h1, h2, h3, h4, h5, h6, h7, h8, h9, -⟩ := h
  show (Cond.laysStatic C n d).holds args s none s [] = true
  exact Cond.laysStatic_of h1 h2 h3 h4 h5 h6 h7 h8 h9
/-- .. and what it holds: null or some reference -/
def vx_Zq (C n d : String) (A : Nat → Prop) (U : State) (H : Heap) : Prop := va_Zq C n d A U H ∧ vx_L C n d A U H
theorem vx_Zq.moved {C n d : String} {A : Nat → Prop} {u U : State} {H : Heap} (hvm : u.vm.Alike U.vm) (h : vx_Zq C n d A u H) : vx_Zq C n d A U H := ⟨va_Zq.moved hvm h.1, vx_L.moved hvm h.2⟩
theorem vx_Zq.kept {C n d : String} {A : Nat → Prop} {U : State} {H H1 : Heap} (h : vx_Zq C n d A U H) (hq : ∀ a : Nat, a < H.size → ¬ A a → H1[a]? = H[a]?) : vx_Zq C n d A U H1 := ⟨va_Zq.kept h.1 hq, vx_L.kept h.2 hq⟩
theorem vx_Zq.narrow {C n d : String} {A B : Nat → Prop} {U : State} {H : Heap} (h : vx_Zq C n d A U H) (hAB : ∀ q, B q → A q) : vx_Zq C n d B U H := ⟨va_Zq.narrow h.1 hAB, vx_L.narrow h.2 hAB⟩
theorem vx_Zqof {args : Array Value} {s : State} {C n d : String} {A : Nat → Prop} (hl : (Cond.laysStatic C n d).before args s = true) (hini : (Cond.initialized C).before args s = true) (h : (Cond.isRef (.static C n d)).before args s = true) (hA : ∀ a : Nat, a < s.heap.size → ¬ A a) : vx_Zq C n d A s s.heap := by
  refine ⟨va_Zqof hl hini h hA, ?_⟩
  obtain ⟨c, k, i, f, a, cell, h1, h2, h3, h4, h5, h6, h7, h8, h9⟩ := Cond.laysStatic_spec hl
  exact ⟨c, k, i, f, a, cell, h1, h2, h3, h4, h5, h6, h7, h8, h9, hA a (Array.getElem?_eq_some_iff.mp h5).1⟩
theorem vx_isRef {C n d : String} {v : Value} {A : Nat → Prop} {s : State} {args : Array Value} (h : va_Z C n d v A s s.heap) (hv : v.isRef = true) : (Cond.isRef (.static C n d)).before args s = true := by
  obtain ⟨cf, kf, fi, f, a, cell, h1, h2, h3, h4, h5, h6, h7, -⟩ := h
  have he : (Term.static C n d).eval args s none [] s = some v := by
    simp [Term.eval, State.fieldNamed?, h1, h2, h4, h5, h6, h7]
  simp only [Cond.before, Cond.holds, Cond.value, he]
  cases v <;> simp_all [Value.isRef]
theorem vx_isRefq {C n d : String} {A : Nat → Prop} {s : State} {args : Array Value} (h : va_Zq C n d A s s.heap) : (Cond.isRef (.static C n d)).before args s = true := by
  rcases h with h | ⟨t, h⟩
  · exact vx_isRef h rfl
  · exact vx_isRef h rfl
/-- the same frame, seen from here: as if the method were called anew in this heap -/
theorem vx_rebase {T : State} (X : Stand p l e R s m args below meth c T locs cells slots) {R' : Room} (hf : R'.frames ≤ R.frames) (hl : R'.locals ≤ R.locals) (hc : cells + R'.cells ≤ R.cells) (hs : slots + R'.slots ≤ R.slots) :
    Stand p l e R' ((T.setVm s.vm).setFrames (.invoking m args :: below)) m args below meth c T [] 0 0 := by
  have htop : (T.setVm s.vm).topJava?.isSome := X.here.top
  have hF : ((T.setVm s.vm).setFrames (.invoking m args :: below)).frames = .invoking m args :: below := State.frames_setFrames _ (State.cur_lt_of_top htop)
  obtain ⟨g₀, hg0⟩ := Option.isSome_iff_exists.mp htop
  obtain ⟨r, hr⟩ := State.topJava?_eq_some.mp hg0
  have hl9 : e.platform.stackLimits (T.setVm s.vm).me = e.platform.stackLimits s.me := X.limits
  have hb9 : (T.setVm s.vm).me.stackBytes = s.me.stackBytes := X.bytes
  refine ⟨X.admits, X.cas, X.clock, hF, ?_, X.hears, X.method, X.code, X.here, X.tail, X.warmed, ?_, ?_, ?_⟩
  · have h := X.room
    have hU : ((T.setVm s.vm).setFrames (.invoking m args :: below)).localsInUse = s.localsInUse := by
      rw [State.localsInUse_invoking hF (meth := meth) (c := c) X.method X.code, State.localsInUse_invoking X.frames X.method X.code]
    simp only [State.hasRoom, Bool.and_eq_true, decide_eq_true_eq] at h ⊢
    obtain ⟨⟨⟨⟨h1, h2, h3, h4, h5, h6⟩, h7⟩, h8⟩, h9⟩ := h
    rw [X.frames, List.length_cons] at h2 h3
    have q1 := X.heapSize
    have q2 := X.used
    simp only [hF, hU, List.length_cons, State.stackLimits_setFrames, State.stackBytes_setFrames, hl9, hb9]
    refine ⟨⟨⟨⟨by omega, by omega, by omega, by omega, by omega, h6⟩, ?_⟩, ?_⟩, X.book⟩
    · show T.heap.size + R'.cells ≤ e.platform.maxCells
      omega
    · show T.slotsUsed + R'.slots ≤ e.platform.maxSlots
      omega
  · rw [State.stackLimits_setFrames]; rfl
  · rw [State.stackBytes_setFrames]; rfl
  · refine ⟨?_, Nat.le_refl _, Nat.le_refl _, ?_, ?_, fun a c9 h9 => ⟨c9, h9, rfl, rfl, fun _ _ => rfl⟩⟩
    · obtain ⟨t, ht, -⟩ := State.frames_cons hr
      show T.setVm s.vm = { ((T.setVm s.vm).setFrames (.invoking m args :: below)).setFrames (T.setVm s.vm).frames with heap := T.heap, slotsUsed := T.slotsUsed }
      rw [State.setFrames_setFrames, State.setFrames_self ht]
      rfl
    · show T.slotsUsed = T.slotsUsed + ((T.heap.toList.drop T.heap.size).map (·.slots.size)).sum
      rw [List.drop_eq_nil_of_le (Nat.le_of_eq Array.length_toList)]
      rfl
    · show ((T.heap.toList.drop T.heap.size).map (·.slots.size)).sum ≤ 0
      rw [List.drop_eq_nil_of_le (Nat.le_of_eq Array.length_toList)]
      exact Nat.le_refl _
/-- 'throw new E()': new; dup; invokespecial; athrow -/
theorem vx_throw0 {cc : ByteArray} {pc : Nat} (hexec : p.tables.exec = Jvm.exec) (hb : c.code = cc) (hl : l.stackTraces = false) {own cls : String} {names : List String} {ik ic mc ms : Nat} {A : Nat → Prop}
    (hown : s.vm.findClass own = some m.cls) (hcls : Bundle.fit cls = true) (hnames : ∀ n ∈ names, Bundle.fit n = true)
    (hk : (Cond.classLink own ik cls).before args s = true) (hini : (Cond.initialized cls).before args s = true) (hat : ∀ w ∈ vx_at0 own ic cls names, w.before args s = true)
    (hgood : ∀ w ∈ Cond.classLink own ik cls :: Cond.initialized cls :: vx_at0 own ic cls names, vx_ot w = true)
    (hU : vx_Zq Bundle.tN "UNASSIGNED_STACK" Bundle.steD A s s.heap) (hN : vx_Zq Bundle.tN "SUPPRESSED_SENTINEL" Bundle.listD A s s.heap) (hS : va_S A s.heap H locs) (hsize : ls.size = c.maxLocals)
    (d0 : decode cc pc = .ok (.new ik, 3)) (d3 : decode cc (pc + 3) = .ok (.dup, 1)) (d4 : decode cc (pc + 4) = .ok (.invokespecial ic, 3)) (d7 : decode cc (pc + 7) = .ok (.athrow, 1))
    (hout : ∀ x ∈ c.exceptionTable.toList, covers x (pc + 7) = false)
    (hRframes : names.length + 3 < R.frames) (hRlocals : (rest.map fun v => v.category).sum + (13 * (names.length + 1) + 42) ≤ R.locals) (hRcells : cells + 1 ≤ R.cells) (hRslots : slots + 6 ≤ R.slots) (hlocks : meth.locks = false)
    (hx : ∀ t : State, s.vm.Alike t.vm → H.size ≤ t.heap.size → (∀ q : Nat, q < H.size → t.heap[q]? = H[q]?) → XC cls s t)
    (hf : ∀ z ∈ locs, free z.base) (hc : cells + 1 ≤ mc) (hs : slots + 6 ≤ ms) :
    W p l e R s m args below meth c H locs cells slots (vx_MQ below Qc XC args s mc ms free) (F0 m pc ls rest) := by
  intro T hT X
  have htr : e.platform.stackTraces = false := (show e.platform.stackTraces = l.stackTraces by rw [X.admits.platform]).trans hl
  have Y := vx_rebase X (R' := { frames := R.frames, locals := R.locals, cells := 1, slots := 6 }) (Nat.le_refl _) (Nat.le_refl _) hRcells hRslots
  obtain ⟨s', hA⟩ : ∃ z, z = (T.setVm s.vm).setFrames (.invoking m args :: below) := ⟨_, rfl⟩
  rw [← hA] at Y
  have hvm : s'.vm = s.vm := by rw [hA]; rfl
  have hhp : s'.heap = H := by rw [hA]; exact hT
  have hW0 : s.WarmedH s'.vm := by rw [hvm]; exact State.WarmedH.refl s
  have hat' : ∀ w ∈ vx_at0 own ic cls names, w.before args s' = true := fun w hw => vx_ot_at hW0 hvm.symm (hgood w (List.mem_cons_of_mem _ (List.mem_cons_of_mem _ hw))) (hat w hw)
  have hk' : (Cond.classLink own ik cls).before args s' = true := vx_ot_at hW0 hvm.symm (hgood _ List.mem_cons_self) hk
  have hini' : (Cond.initialized cls).before args s' = true := vx_ot_at hW0 hvm.symm (hgood _ (List.mem_cons_of_mem _ List.mem_cons_self)) hini
  have hU' : vx_Zq Bundle.tN "UNASSIGNED_STACK" Bundle.steD A s' s'.heap := by rw [hhp]; exact vx_Zq.moved hW0.alike (hU.kept hS.2.1)
  have hN' : vx_Zq Bundle.tN "SUPPRESSED_SENTINEL" Bundle.listD A s' s'.heap := by rw [hhp]; exact vx_Zq.moved hW0.alike (hN.kept hS.2.1)
  have h : ∀ w ∈ Bundle.ownAtoms0 own ic cls names, w.before args s' = true := vx_own hat' (vx_isRefq hU'.1) (vx_isRefq hN'.1) hU'.2.word hN'.2.word
  have hown' : s'.vm.findClass own = some m.cls := by rw [hvm]; exact hown
  have hins : (Cond.instantiable cls 6).before args s' = true := h _ (by simp [Bundle.ownAtoms0])
  obtain ⟨vm₁, cX, kX, hfX, hkX, -, -, X₁, st1⟩ := Y.newCold hexec (own := own) (C := cls) (index := ik) (n := 6) hown' hk' hins hini'
    (g := F0 m pc ls rest) rfl (by rw [hb]; exact d0) (Nat.le_refl _) (Nat.le_refl _)
  generalize hT1 : (T.setVm vm₁).pushCell { cls := cX, slots := kX.instanceTypes.map defaultValue, vm := .none } = T1 at X₁ st1
  have hcat : (Value.ref T.heap.size).category = 1 := rfl
  have hcellA : T1.heap[T.heap.size]? = some (freshCell cX kX) := by rw [← hT1]; exact State.heap_pushCell_size _ _
  have d3' : decode c.code (pc + 3) = .ok (.dup, 1) := by rw [hb]; exact d3
  obtain ⟨U, hsteps, hrun, hend, hW, hsame, ce, hce, hO⟩ := X₁.ctorThrow0 hexec htr (own := own) (cls := cls) (names := names) (ic := ic) hown' hcls hnames h (fun x hx => nomatch hx) hfX hkX hcellA (by rw [hhp, hT]; exact Nat.le_refl _)
    (g := { method := m, pc := pc + 4, locals := ls, stack := .ref T.heap.size :: .ref T.heap.size :: rest, locked := none }) rfl hsize rfl rfl (rest := rest) rfl
    (by rw [hb]; exact d4) (by rw [hb]; exact d7) hout hRframes (by simp only [List.map_cons, List.sum_cons, hcat]; omega) hlocks
  obtain ⟨f1, f2⟩ := vx_frame hsame
  rw [hhp] at f1 f2
  have hWs : s.WarmedH U.vm := State.WarmedH.trans hW0 hW
  have hcl : s.vm.findClass cls = some ce.cls := by
    have h9 := hO.cls
    rw [hvm] at h9
    exact h9
  have hall : s.sameButNew ({ U with vm := s.vm } : State) locs mc ms := by
    subst hA
    obtain ⟨e1, e2⟩ := hsame
    rw [State.setFrames_setFrames] at e1
    have h2 : (T.setVm s.vm).sameButNew ({ U with vm := s.vm } : State) [] (0 + 1) (0 + 6) := ⟨e1, e2⟩
    have h3 := X.same.trans h2
    rw [List.append_nil] at h3
    exact h3.mono hc hs
  refine ⟨U, ?_, .threw T.heap.size, hrun, hend, Or.inr ⟨T.heap.size, rfl, cls, ce, locs, hx U hWs.alike f1 (fun q hq => f2 q hq (fun z hz => nomatch hz)), hce, hO.vm, hcl, hWs, hall, hf⟩⟩
  refine st1 _ ?_
  show Steps p.tables e below (T1.setTop { method := m, pc := pc + 3, locals := ls, stack := .ref T.heap.size :: rest, locked := none }) _
  jvm_step X₁.here [X₁.here.top, hexec, d3', Value.category]
  exact hsteps
/-- 'throw new E("text")': new; dup; ldc; invokespecial; athrow -/
theorem vx_throwS {cc : ByteArray} {pc : Nat} (hexec : p.tables.exec = Jvm.exec) (hb : c.code = cc) (hl : l.stackTraces = false) {own cls text : String} {names : List String} {ik is ic mc ms sa : Nat} {A : Nat → Prop}
    (hown : s.vm.findClass own = some m.cls) (hcls : Bundle.fit cls = true) (hnames : ∀ n ∈ names, Bundle.fit n = true)
    (hk : (Cond.classLink own ik cls).before args s = true) (hini : (Cond.initialized cls).before args s = true) (hstr : vk_R own is text sa s) (hat : ∀ w ∈ vx_atS own ic cls names, w.before args s = true)
    (hgood : ∀ w ∈ Cond.classLink own ik cls :: Cond.initialized cls :: vx_atS own ic cls names, vx_ot w = true)
    (hU : vx_Zq Bundle.tN "UNASSIGNED_STACK" Bundle.steD A s s.heap) (hN : vx_Zq Bundle.tN "SUPPRESSED_SENTINEL" Bundle.listD A s s.heap) (hS : va_S A s.heap H locs) (hsize : ls.size = c.maxLocals)
    (d0 : decode cc pc = .ok (.new ik, 3)) (d3 : decode cc (pc + 3) = .ok (.dup, 1)) (d4 : decode cc (pc + 4) = .ok (.ldc is, 2)) (d6 : decode cc (pc + 6) = .ok (.invokespecial ic, 3)) (d9 : decode cc (pc + 9) = .ok (.athrow, 1))
    (hout : ∀ x ∈ c.exceptionTable.toList, covers x (pc + 9) = false)
    (hRframes : names.length + 3 < R.frames) (hRlocals : (rest.map fun v => v.category).sum + (13 * (names.length + 1) + 43) ≤ R.locals) (hRcells : cells + 1 ≤ R.cells) (hRslots : slots + 6 ≤ R.slots) (hlocks : meth.locks = false)
    (hx : ∀ t : State, s.vm.Alike t.vm → H.size ≤ t.heap.size → (∀ q : Nat, q < H.size → t.heap[q]? = H[q]?) → XC cls s t)
    (hf : ∀ z ∈ locs, free z.base) (hc : cells + 1 ≤ mc) (hs : slots + 6 ≤ ms) :
    W p l e R s m args below meth c H locs cells slots (vx_MQ below Qc XC args s mc ms free) (F0 m pc ls rest) := by
  intro T hT X
  have htr : e.platform.stackTraces = false := (show e.platform.stackTraces = l.stackTraces by rw [X.admits.platform]).trans hl
  have Y := vx_rebase X (R' := { frames := R.frames, locals := R.locals, cells := 1, slots := 6 }) (Nat.le_refl _) (Nat.le_refl _) hRcells hRslots
  obtain ⟨s', hA⟩ : ∃ z, z = (T.setVm s.vm).setFrames (.invoking m args :: below) := ⟨_, rfl⟩
  rw [← hA] at Y
  have hvm : s'.vm = s.vm := by rw [hA]; rfl
  have hhp : s'.heap = H := by rw [hA]; exact hT
  have hW0 : s.WarmedH s'.vm := by rw [hvm]; exact State.WarmedH.refl s
  have hat' : ∀ w ∈ vx_atS own ic cls names, w.before args s' = true := fun w hw => vx_ot_at hW0 hvm.symm (hgood w (List.mem_cons_of_mem _ (List.mem_cons_of_mem _ hw))) (hat w hw)
  have hk' : (Cond.classLink own ik cls).before args s' = true := vx_ot_at hW0 hvm.symm (hgood _ List.mem_cons_self) hk
  have hini' : (Cond.initialized cls).before args s' = true := vx_ot_at hW0 hvm.symm (hgood _ (List.mem_cons_of_mem _ List.mem_cons_self)) hini
  have hU' : vx_Zq Bundle.tN "UNASSIGNED_STACK" Bundle.steD A s' s'.heap := by rw [hhp]; exact vx_Zq.moved hW0.alike (hU.kept hS.2.1)
  have hN' : vx_Zq Bundle.tN "SUPPRESSED_SENTINEL" Bundle.listD A s' s'.heap := by rw [hhp]; exact vx_Zq.moved hW0.alike (hN.kept hS.2.1)
  have h : ∀ w ∈ Bundle.ownAtoms own ic cls names, w.before args s' = true := vx_own hat' (vx_isRefq hU'.1) (vx_isRefq hN'.1) hU'.2.word hN'.2.word
  have hown' : s'.vm.findClass own = some m.cls := by rw [hvm]; exact hown
  have hins : (Cond.instantiable cls 6).before args s' = true := h _ (by simp [Bundle.ownAtoms])
  obtain ⟨vm₁, cX, kX, hfX, hkX, -, -, X₁, st1⟩ := Y.newCold hexec (own := own) (C := cls) (index := ik) (n := 6) hown' hk' hins hini'
    (g := F0 m pc ls rest) rfl (by rw [hb]; exact d0) (Nat.le_refl _) (Nat.le_refl _)
  generalize hT1 : (T.setVm vm₁).pushCell { cls := cX, slots := kX.instanceTypes.map defaultValue, vm := .none } = T1 at X₁ st1
  have hcat : (Value.ref T.heap.size).category = 1 := rfl
  have hcellA : T1.heap[T.heap.size]? = some (freshCell cX kX) := by rw [← hT1]; exact State.heap_pushCell_size _ _
  have d3' : decode c.code (pc + 3) = .ok (.dup, 1) := by rw [hb]; exact d3
  have d4' : decode c.code (pc + 4) = .ok (.ldc is, 2) := by rw [hb]; exact d4
  have hstr' : vk_R own is text sa s' := vk_R.warm hW0 hstr
  obtain ⟨U, hsteps, hrun, hend, hW, hsame, ce, hce, hO⟩ := X₁.ctorThrowS hexec htr (own := own) (cls := cls) (names := names) (ic := ic) hown' hcls hnames h (fun x hx => nomatch hx) hfX hkX hcellA (by rw [hhp, hT]; exact Nat.le_refl _) (msg := .ref sa) rfl
    (g := { method := m, pc := pc + 6, locals := ls, stack := .ref sa :: .ref T.heap.size :: .ref T.heap.size :: rest, locked := none }) rfl hsize rfl rfl (rest := rest) rfl
    (by rw [hb]; exact d6) (by rw [hb]; exact d9) hout hRframes (by simp only [List.map_cons, List.sum_cons, hcat]; omega) hlocks
  obtain ⟨f1, f2⟩ := vx_frame hsame
  rw [hhp] at f1 f2
  have hWs : s.WarmedH U.vm := State.WarmedH.trans hW0 hW
  have hcl : s.vm.findClass cls = some ce.cls := by
    have h9 := hO.cls
    rw [hvm] at h9
    exact h9
  have hall : s.sameButNew ({ U with vm := s.vm } : State) locs mc ms := by
    subst hA
    obtain ⟨e1, e2⟩ := hsame
    rw [State.setFrames_setFrames] at e1
    have h2 : (T.setVm s.vm).sameButNew ({ U with vm := s.vm } : State) [] (0 + 1) (0 + 6) := ⟨e1, e2⟩
    have h3 := X.same.trans h2
    rw [List.append_nil] at h3
    exact h3.mono hc hs
  refine ⟨U, ?_, .threw T.heap.size, hrun, hend, Or.inr ⟨T.heap.size, rfl, cls, ce, locs, hx U hWs.alike f1 (fun q hq => f2 q hq (fun z hz => nomatch hz)), hce, hO.vm, hcl, hWs, hall, hf⟩⟩
  refine st1 _ ?_
  show Steps p.tables e below (T1.setTop { method := m, pc := pc + 3, locals := ls, stack := .ref T.heap.size :: rest, locked := none }) _
  jvm_step X₁.here [X₁.here.top, hexec, d3', Value.category]
  exact X₁.ldcString hexec (own := own) (text := text) (index := is) (a := sa) hown' hstr'.1 hstr'.2
    (g := { method := m, pc := pc + 4, locals := ls, stack := .ref T.heap.size :: .ref T.heap.size :: rest, locked := none }) rfl d4' _ hsteps
/-- 'throw new E("text")', the text by a wide index -/
theorem vx_throwSW {cc : ByteArray} {pc : Nat} (hexec : p.tables.exec = Jvm.exec) (hb : c.code = cc) (hl : l.stackTraces = false) {own cls text : String} {names : List String} {ik is ic mc ms sa : Nat} {A : Nat → Prop}
    (hown : s.vm.findClass own = some m.cls) (hcls : Bundle.fit cls = true) (hnames : ∀ n ∈ names, Bundle.fit n = true)
    (hk : (Cond.classLink own ik cls).before args s = true) (hini : (Cond.initialized cls).before args s = true) (hstr : vk_R own is text sa s) (hat : ∀ w ∈ vx_atS own ic cls names, w.before args s = true)
    (hgood : ∀ w ∈ Cond.classLink own ik cls :: Cond.initialized cls :: vx_atS own ic cls names, vx_ot w = true)
    (hU : vx_Zq Bundle.tN "UNASSIGNED_STACK" Bundle.steD A s s.heap) (hN : vx_Zq Bundle.tN "SUPPRESSED_SENTINEL" Bundle.listD A s s.heap) (hS : va_S A s.heap H locs) (hsize : ls.size = c.maxLocals)
    (d0 : decode cc pc = .ok (.new ik, 3)) (d3 : decode cc (pc + 3) = .ok (.dup, 1)) (d4 : decode cc (pc + 4) = .ok (.ldc_w is, 3)) (d7 : decode cc (pc + 7) = .ok (.invokespecial ic, 3)) (d10 : decode cc (pc + 10) = .ok (.athrow, 1))
    (hout : ∀ x ∈ c.exceptionTable.toList, covers x (pc + 10) = false)
    (hRframes : names.length + 3 < R.frames) (hRlocals : (rest.map fun v => v.category).sum + (13 * (names.length + 1) + 43) ≤ R.locals) (hRcells : cells + 1 ≤ R.cells) (hRslots : slots + 6 ≤ R.slots) (hlocks : meth.locks = false)
    (hx : ∀ t : State, s.vm.Alike t.vm → H.size ≤ t.heap.size → (∀ q : Nat, q < H.size → t.heap[q]? = H[q]?) → XC cls s t)
    (hf : ∀ z ∈ locs, free z.base) (hc : cells + 1 ≤ mc) (hs : slots + 6 ≤ ms) :
    W p l e R s m args below meth c H locs cells slots (vx_MQ below Qc XC args s mc ms free) (F0 m pc ls rest) := by
  intro T hT X
  have htr : e.platform.stackTraces = false := (show e.platform.stackTraces = l.stackTraces by rw [X.admits.platform]).trans hl
  have Y := vx_rebase X (R' := { frames := R.frames, locals := R.locals, cells := 1, slots := 6 }) (Nat.le_refl _) (Nat.le_refl _) hRcells hRslots
  obtain ⟨s', hA⟩ : ∃ z, z = (T.setVm s.vm).setFrames (.invoking m args :: below) := ⟨_, rfl⟩
  rw [← hA] at Y
  have hvm : s'.vm = s.vm := by rw [hA]; rfl
  have hhp : s'.heap = H := by rw [hA]; exact hT
  have hW0 : s.WarmedH s'.vm := by rw [hvm]; exact State.WarmedH.refl s
  have hat' : ∀ w ∈ vx_atS own ic cls names, w.before args s' = true := fun w hw => vx_ot_at hW0 hvm.symm (hgood w (List.mem_cons_of_mem _ (List.mem_cons_of_mem _ hw))) (hat w hw)
  have hk' : (Cond.classLink own ik cls).before args s' = true := vx_ot_at hW0 hvm.symm (hgood _ List.mem_cons_self) hk
  have hini' : (Cond.initialized cls).before args s' = true := vx_ot_at hW0 hvm.symm (hgood _ (List.mem_cons_of_mem _ List.mem_cons_self)) hini
  have hU' : vx_Zq Bundle.tN "UNASSIGNED_STACK" Bundle.steD A s' s'.heap := by rw [hhp]; exact vx_Zq.moved hW0.alike (hU.kept hS.2.1)
  have hN' : vx_Zq Bundle.tN "SUPPRESSED_SENTINEL" Bundle.listD A s' s'.heap := by rw [hhp]; exact vx_Zq.moved hW0.alike (hN.kept hS.2.1)
  have h : ∀ w ∈ Bundle.ownAtoms own ic cls names, w.before args s' = true := vx_own hat' (vx_isRefq hU'.1) (vx_isRefq hN'.1) hU'.2.word hN'.2.word
  have hown' : s'.vm.findClass own = some m.cls := by rw [hvm]; exact hown
  have hins : (Cond.instantiable cls 6).before args s' = true := h _ (by simp [Bundle.ownAtoms])
  obtain ⟨vm₁, cX, kX, hfX, hkX, -, -, X₁, st1⟩ := Y.newCold hexec (own := own) (C := cls) (index := ik) (n := 6) hown' hk' hins hini'
    (g := F0 m pc ls rest) rfl (by rw [hb]; exact d0) (Nat.le_refl _) (Nat.le_refl _)
  generalize hT1 : (T.setVm vm₁).pushCell { cls := cX, slots := kX.instanceTypes.map defaultValue, vm := .none } = T1 at X₁ st1
  have hcat : (Value.ref T.heap.size).category = 1 := rfl
  have hcellA : T1.heap[T.heap.size]? = some (freshCell cX kX) := by rw [← hT1]; exact State.heap_pushCell_size _ _
  have d3' : decode c.code (pc + 3) = .ok (.dup, 1) := by rw [hb]; exact d3
  have d4' : decode c.code (pc + 4) = .ok (.ldc_w is, 3) := by rw [hb]; exact d4
  have hstr' : vk_R own is text sa s' := vk_R.warm hW0 hstr
  obtain ⟨U, hsteps, hrun, hend, hW, hsame, ce, hce, hO⟩ := X₁.ctorThrowS hexec htr (own := own) (cls := cls) (names := names) (ic := ic) hown' hcls hnames h (fun x hx => nomatch hx) hfX hkX hcellA (by rw [hhp, hT]; exact Nat.le_refl _) (msg := .ref sa) rfl
    (g := { method := m, pc := pc + 7, locals := ls, stack := .ref sa :: .ref T.heap.size :: .ref T.heap.size :: rest, locked := none }) rfl hsize rfl rfl (rest := rest) rfl
    (by rw [hb]; exact d7) (by rw [hb]; exact d10) hout hRframes (by simp only [List.map_cons, List.sum_cons, hcat]; omega) hlocks
  obtain ⟨f1, f2⟩ := vx_frame hsame
  rw [hhp] at f1 f2
  have hWs : s.WarmedH U.vm := State.WarmedH.trans hW0 hW
  have hcl : s.vm.findClass cls = some ce.cls := by
    have h9 := hO.cls
    rw [hvm] at h9
    exact h9
  have hall : s.sameButNew ({ U with vm := s.vm } : State) locs mc ms := by
    subst hA
    obtain ⟨e1, e2⟩ := hsame
    rw [State.setFrames_setFrames] at e1
    have h2 : (T.setVm s.vm).sameButNew ({ U with vm := s.vm } : State) [] (0 + 1) (0 + 6) := ⟨e1, e2⟩
    have h3 := X.same.trans h2
    rw [List.append_nil] at h3
    exact h3.mono hc hs
  refine ⟨U, ?_, .threw T.heap.size, hrun, hend, Or.inr ⟨T.heap.size, rfl, cls, ce, locs, hx U hWs.alike f1 (fun q hq => f2 q hq (fun z hz => nomatch hz)), hce, hO.vm, hcl, hWs, hall, hf⟩⟩
  refine st1 _ ?_
  show Steps p.tables e below (T1.setTop { method := m, pc := pc + 3, locals := ls, stack := .ref T.heap.size :: rest, locked := none }) _
  jvm_step X₁.here [X₁.here.top, hexec, d3', Value.category]
  exact X₁.ldcStringW hexec (own := own) (text := text) (index := is) (a := sa) hown' hstr'.1 hstr'.2
    (g := { method := m, pc := pc + 4, locals := ls, stack := .ref T.heap.size :: .ref T.heap.size :: rest, locked := none }) rfl d4' _ hsteps
end Ends
section Bodies
variable {l : Launch}
theorem vx_ofW {y : MethodName} {ws ws' : List Cond} {rm : Room} {Pc : Array Value → State → Prop} {Qc : Array Value → State → Outcome → State → Prop} {XC : String → State → State → Prop} {mc ms : Nat} {free : Addr → Prop} {cc : ByteArray} {maxL : Nat} {ret : Option FieldType}
    (hy : plainName y.cls = true) (hw : ws = Cond.code y cc maxL ret :: ws')
    (body : ∀ p e s m args below meth c s₁, BodyLoose p l y (headSpec ws rm) cc maxL ret e s m args below meth c s₁ → c.maxLocals = maxL → (∀ x ∈ c.exceptionTable.toList, False) → Pc args s →
      W p l e (headSpec ws rm).room s m args below meth c s.heap [] 0 0 (vx_MQ below Qc XC args s mc ms free) (entryFrame m args maxL)) : vx_Met l y ws rm Pc Qc XC mc ms free := by
  refine MetFree.of_bodyS (code := cc) (maxLocals := maxL) (ret := ret) hy ?_ ?_
  · intro args s m h hn
    obtain ⟨meth, c, h1, h2, h3, h4, h5, h6, -, -⟩ := Cond.code_spec hn (atoms_spec (ws := ws) h _ (by rw [hw]; exact List.mem_cons_self))
    exact ⟨meth, c, h1, h2, h3, h4, h5, h6⟩
  · intro p e s m args below meth c s₁ B hml hP _
    have hh0 : s₁.heap = s.heap := by rw [B.state]; rfl
    have ht : ∀ x ∈ c.exceptionTable.toList, False := by
      obtain ⟨meth9, c9, h1, h2, -, -, -, -, h7, -⟩ := Cond.code_spec B.named (atoms_spec (ws := ws) B.pre _ (by rw [hw]; exact List.mem_cons_self))
      cases Option.some.inj (h1.symm.trans B.method)
      cases Option.some.inj (h2.symm.trans (Stand.of_body B).code)
      intro x hx
      rw [Array.isEmpty_iff.mp h7] at hx
      cases hx
    obtain ⟨t, a1, o, b1, b2, b3⟩ := body p e s m args below meth c s₁ B hml ht hP s₁ hh0 (Stand.of_body B)
    exact ⟨t, o, a1, b1, b2, b3⟩
/-- the table of a body with handlers -/
theorem vx_table {p : Program} {x y : MethodName} {S : Spec} {cc bytes : ByteArray} {maxL maxL' : Nat} {ret ret' : Option FieldType} {e : Env} {s s₁ : State} {m : MethodId} {args : Array Value} {below : List Frame} {meth : Method} {c : Code} {hh : List (Nat × Nat × Nat × Nat)}
    (B : BodyLoose p l y S cc maxL ret e s m args below meth c s₁) (h : (Cond.codeWith y bytes maxL' ret' hh).before args s = true) : c.exceptionTable.toList = tableOf hh := by
  obtain ⟨m9, meth9, c9, hn9, h1, h2, -, -, h6, -⟩ := Cond.codeWith_spec h
  cases Option.some.inj (hn9.symm.trans B.named)
  cases Option.some.inj (h1.symm.trans B.method)
  cases Option.some.inj (h2.symm.trans (Stand.of_body B).code)
  rw [← h6, table_eq]
end Bodies
end VXA
/-! ===== END ===== -/
/-! ===== BEGIN a static call of a method with an exception table ===== -/
section VXS
variable {p : Program} {l : Launch} {e : Env} {R : Room} {s : State} {m : MethodId} {args : Array Value} {below : List Frame} {meth : Method} {c : Code} {T : State} {H : Heap} {locs : List Loc} {cells slots : Nat}
abbrev vx_CSW (R : Room) (s : State) (args : Array Value) (own : String) (index : Nat) (y : MethodName) (bytes : ByteArray) (maxL : Nat) (ret : Option FieldType) (hh : List (Nat × Nat × Nat × Nat)) (ws : List Cond) (rm : Room) (mc ms n : Nat) : Prop :=
  (rm.cells = mc ∧ rm.slots = ms ∧ rm.frames + 1 ≤ R.frames ∧ 8 + (maxL + 11) + rm.locals ≤ R.locals ∧ (∀ w ∈ ws, ∀ (a' : Array Value) (U : State), s.WarmedH U.vm → w.before a' U = true) ∧ Cond.codeWith y bytes maxL ret hh ∈ ws) ∧
  (Cond.codeWith y bytes maxL ret hh).before args s = true ∧ (Cond.initialized y.cls).before args s = true ∧ (y.cls ≠ "java/lang/invoke/MethodHandle" ∧ y.cls ≠ "java/lang/invoke/VarHandle") ∧
  (∀ sig, parseMethodDescriptor y.desc = some sig → n = sig.parameters.length) ∧ (Cond.methodLink own index y).before args s = true ∧ (Cond.static y).before args s = true
theorem vx_cwSW {own : String} {index maxL mc ms : Nat} {y : MethodName} {bytes : ByteArray} {ret : Option FieldType} {hh : List (Nat × Nat × Nat × Nat)} {Ts ws ws' : List Cond} {rm : Room} (n : Nat) (ht : ∀ w ∈ Ts, w.before args s = true) (hT : GoodIn Ts (va_wsS own index y ws)) (hw : ws = Cond.codeWith y bytes maxL ret hh :: ws') (hrc : rm.cells = mc) (hrs : rm.slots = ms)
    (hd : y.cls ≠ "java/lang/invoke/MethodHandle" ∧ y.cls ≠ "java/lang/invoke/VarHandle" ∧ (parseMethodDescriptor y.desc).map (fun d => d.parameters.length) = some n) (hR : rm.frames + 1 ≤ R.frames ∧ 8 + (maxL + 11) + rm.locals ≤ R.locals) :
    vx_CSW R s args own index y bytes maxL ret hh ws rm mc ms n := by
  have ok : ∀ w ∈ va_wsS own index y ws, w.before args s = true := fun w h => ht w (hT w h).1
  have hG : GoodIn Ts ws := fun w h => hT w (by unfold va_wsS; exact List.mem_append_right _ h)
  have hc : Cond.codeWith y bytes maxL ret hh ∈ ws := by rw [hw]; exact List.mem_cons_self
  refine ⟨⟨hrc, hrs, hR.1, hR.2, pay_in ht hG, hc⟩, ht _ (hG _ hc).1, ok _ (by simp [va_wsS]), ⟨hd.1, hd.2.1⟩, fun sig h => ?_, ok _ (by simp [va_wsS]), ok _ (by simp [va_wsS])⟩
  have h2 := hd.2.2
  rw [h] at h2
  exact (Option.some.inj h2).symm
theorem vx_callSW (X : Stand p l e R s m args below meth c T locs cells slots) (hexec : p.tables.exec = Jvm.exec) {own : String} {index : Nat} {y : MethodName} {bytes : ByteArray} {maxL : Nat} {ret : Option FieldType} {hh : List (Nat × Nat × Nat × Nat)}
    (hown : s.vm.findClass own = some m.cls) (hlink : (Cond.methodLink own index y).before args s = true) (hstat : (Cond.static y).before args s = true) (hinit : (Cond.initialized y.cls).before args s = true)
    (hcode : (Cond.codeWith y bytes maxL ret hh).before args s = true) (hy : y.cls ≠ "java/lang/invoke/MethodHandle" ∧ y.cls ≠ "java/lang/invoke/VarHandle")
    {W9 : Nat} {Pre : Pt → Array Value → Prop} {Post : Pt → Array Value → Option Value → Pt → Prop} (hK : Back l R p e below s args y 3 W9 Pre Post)
    {g : JFrame} (hg : g.method = m) (hsize : g.locals.size = c.maxLocals) {argsL rest : List Value} (hlen : ∀ sig, parseMethodDescriptor y.desc = some sig → argsL.length = sig.parameters.length)
    (hstack : g.stack = argsL.reverse ++ rest) (hW : 2 * g.monitorRoom + (rest.map fun v => v.category).sum ≤ W9) (hdg : decode c.code g.pc = .ok (.invokestatic index, 3))
    (hpre : ∀ vm₁, s.WarmedH vm₁ → Pre ⟨T.setVm vm₁, locs, cells, slots⟩ argsL.toArray) :
    ∃ (v : Option Value) (vm₁ : Vm) (B : Pt), s.WarmedH vm₁ ∧ Stand p l e R s m args below meth c B.U B.locs B.cells B.slots ∧ Post ⟨T.setVm vm₁, locs, cells, slots⟩ argsL.toArray v B ∧
      ∀ target, Steps p.tables e below (B.U.setTop { g with pc := g.pc + 3, stack := v.toList ++ rest }) target → Steps p.tables e below (T.setTop g) target := by
  obtain ⟨mk, methM, cM, hnamed, hmethM, -, -, -, -, -, -, hsigM⟩ := Cond.codeWith_spec hcode
  have hstatic : methM.isStatic = true := Cond.static_spec hnamed hmethM hstat
  obtain ⟨kP, hkP, -⟩ := className_of_methodNamed hnamed
  have hinitP : kP.init = .initialized := Cond.initialized_spec (findClass_of_methodNamed hnamed) hkP hinit
  obtain ⟨vm₁, X₁, hstep₁⟩ := X.invokestatic hexec hown hlink hnamed hmethM hstatic hkP hinitP hy (g := g) hg (argsL := argsL) (rest := rest) (hlen _ hsigM) hstack hdg
  obtain ⟨v, B, X', hpost, hsteps⟩ := hK m meth c ⟨T.setVm vm₁, locs, cells, slots⟩ { g with stack := rest } (.invokestatic index) mk argsL.toArray X₁ hg hsize hdg hW (X₁.named hnamed) (hpre vm₁ X₁.warmed)
  exact ⟨v, vm₁, B, X₁.warmed, X', hpost, fun target h => hstep₁ _ fun acts => by rw [doInvoke_state]; exact hsteps.trans h⟩
theorem vx_runSW {y : MethodName} {bytes cc : ByteArray} {maxL nL mc ms n index : Nat} {ret : Option FieldType} {hh : List (Nat × Nat × Nat × Nat)} {ws : List Cond} {rm : Room} {Pc : Array Value → State → Prop} {Qc : Array Value → State → Outcome → State → Prop} {free : Addr → Prop} {Ts : List Cond} {own : String} {As rest : List Value} {g : JFrame}
    (S : CallFix p m c cc nL s args Ts own) (hM : Met l y ws rm Pc Qc mc ms free) (cw : vx_CSW R s args own index y bytes maxL ret hh ws rm mc ms n) (hp : PreS s H Pc As)
    (hg : g.method = m) (hn : As.length = n) (hsize : g.locals.size = nL) (hstack : g.stack = As.reverse ++ rest) (hW : 2 * g.monitorRoom + (rest.map fun v => v.category).sum ≤ 8) (hdg : decode cc g.pc = .ok (.invokestatic index, 3)) (hf : cells + mc ≤ R.cells ∧ slots + ms ≤ R.slots) :
    va_Run p l e R s m args below meth c H locs cells slots mc ms g rest (Qc As.toArray) (free) := by
  obtain ⟨⟨hrc, hrs, hfr, hlo, hws, hcw⟩, hcode, hini, hy, hlen, hl, hstt⟩ := cw
  have hK : Back l R p e below s args y 3 8 (PreOf R mc ms Pc) (PostOf Qc mc ms free) := va_backW (hh := hh) (bytes := bytes) (maxL := maxL) (ret := ret) hM hp.1 hrc hrs hfr hlo hws hcw (fun a' U hW => word_at hW (Or.inl (by first | rfl | simp [Cond.onTables, Cond.keeps, Cond.steady])) hini)
  obtain ⟨hx, hb, hml, ho, -⟩ := S
  intro T hT X
  obtain ⟨v, vm₁, ⟨U', l2, c2, s2⟩, hW₁, X', ⟨g', mk, t, L, e1, e2, hq, h1, hL, h2, h3⟩, st⟩ := vx_callSW X hx (hh := hh) (bytes := bytes) (maxL := maxL) (ret := ret) ho hl hstt hini hcode hy hK hg (hsize.trans hml.symm) (argsL := As) (rest := rest) (fun sig h => hn.trans (hlen sig h)) hstack hW (by rw [hb]; exact hdg)
    (fun vm₁ hW₁ => ⟨hf.1, hf.2, hp.2 (T.setVm vm₁) hT hW₁⟩)
  dsimp only [Pt.U, Pt.locs, Pt.cells, Pt.slots] at X' e1 e2 h1 h2 h3 st
  subst h1; subst h2; subst h3
  exact ⟨v, (T.setVm vm₁).calling g' mk As.toArray, t, U', L, hT, X', hL, e1, e2, hq, st⟩
/-- a thing of a world lies in the heap -/
theorem vx_lt {D : va_G} {cl : List vw_C} {ws : va_W} {H1 : Heap} (h : va_P D cl ws H1) {k : Nat} {q : Nat × va_E} (hk : ws[k]? = some q) : q.1 < H1.size := (h k q hk).lt
end VXS
/-! ===== END ===== -/
/-! ===== BEGIN methods with a table of their own: called by a name, returning or throwing ===== -/
section VXH
/-! vx_backW, vx_callVX, vx_callSX, vx_callVW, vx_runVW, vx_runVX, vx_runSX, vx_ofWH follow the same proofs as their sisters above (Free/Laws.lean, Shelf42/LK1.lean); vx_outP calls Shelf42/NT130.lean (outThrough). -/
section
variable {l : Launch} {R : Room} {p : Program} {e : Env} {below : List Frame} {s : State} {sargs : Array Value} {y : MethodName} {len W9 : Nat}
theorem vx_backW {ws : List Cond} {rm : Room} {Pc : Array Value → State → Prop} {Qc : Array Value → State → Outcome → State → Prop} {XC : String → State → State → Prop} {mc ms : Nat} {free : Addr → Prop} {bytes : ByteArray} {maxL : Nat} {ret : Option FieldType} {hh : List (Nat × Nat × Nat × Nat)}
    (hM : vx_Met l y ws rm Pc Qc XC mc ms free) (hblind : FrameBlind Pc) (hrc : rm.cells = mc) (hrs : rm.slots = ms)
    (hframes : rm.frames + 1 ≤ R.frames) (hlocals : W9 + (maxL + 11) + rm.locals ≤ R.locals)
    (hws : ∀ w ∈ ws, ∀ a' U, s.WarmedH U.vm → w.before a' U = true) (hcode : Cond.codeWith y bytes maxL ret hh ∈ ws) (hinit : ∀ a' U, s.WarmedH U.vm → (Cond.initialized y.cls).before a' U = true) :
    vx_Back l R p e below s sargs y len W9 (PreOf R mc ms Pc) (PostOf Qc mc ms free) (vx_Post XC mc ms free) := by
  intro m meth c A g ig mk a X hg hsize hdg hW hn hp
  have h1 : (headSpec ws rm).pre.before a A.U = true := atoms_intro fun w hw => hws w hw _ _ X.warmed
  have h2 : (Cond.codeWith y bytes maxL ret hh).before a A.U = true := hws _ hcode _ _ X.warmed
  have h3 : (Cond.initialized y.cls).before a A.U = true := hinit _ _ X.warmed
  have h4 : A.cells + (headSpec ws rm).room.cells ≤ R.cells := by rw [show (headSpec ws rm).room.cells = mc from hrc]; exact hp.1
  have h5 : A.slots + (headSpec ws rm).room.slots ≤ R.slots := by rw [show (headSpec ws rm).room.slots = ms from hrs]; exact hp.2.1
  have hPc : Pc a (A.U.calling g mk a) := hblind _ _ _ _ hp.2.2
  obtain ⟨U, Ls, c0, s0⟩ := A
  dsimp only [Pt.U, Pt.locs, Pt.cells, Pt.slots] at h1 h2 h3 h4 h5 X hn hPc ⊢
  obtain ⟨m9, methY, cY, hn9, hmY, hcY, -, hlY, -⟩ := Cond.codeWith_spec h2
  cases Option.some.inj (hn9.symm.trans hn)
  obtain ⟨kY, hkY, -⟩ := className_of_methodNamed hn
  have hinitY : kY.init = .initialized := Cond.initialized_spec (findClass_of_methodNamed hn) hkY h3
  have h : At U g.method c below := by rw [hg]; exact X.here
  have hlocals9 : W9 + (maxL + 11) + (headSpec ws rm).room.locals ≤ R.locals := hlocals
  have happ : (headSpec ws rm).appliesLoose y e.platform (U.calling g mk a) = true :=
    Spec.appliesLoose_calling (g := g) h hdg hn hkY hinitY
      (X.room_calling (g := g) (R' := (headSpec ws rm).room) hsize hmY hcY hframes (by rw [hlY]; omega) h4 h5) h1
  obtain ⟨mid, hmid⟩ := h.above
  have hfr : (U.setTop g).frames = (.java g :: mid) ++ below := by rw [State.frames_setTop' g h.top, hmid]; rfl
  obtain ⟨o, s₂, hsteps, -, hend, hq⟩ := Steps.callFree hM p X.admits X.cas X.clock (acts := []) hfr happ hPc trivial
  have hq' : vx_Q Qc XC mc ms free a (U.calling g mk a) o s₂ := hq
  rw [State.frames_setTop' g h.top] at hend
  obtain ⟨g₀, hg0⟩ := Option.isSome_iff_exists.mp h.top
  obtain ⟨r, hr⟩ := State.topJava?_eq_some.mp hg0
  have hr' : (({ U with heap := s₂.heap, slotsUsed := s₂.slotsUsed } : State).setVm s₂.vm).frames = .java g₀ :: r := hr
  rcases hq' with ⟨hqc, L, hfe, hL⟩ | ⟨q, rfl, E, ce, L, hx, hce, hcv, hcl, hW₂, hsm, hL⟩
  · obtain ⟨⟨v, rfl⟩, hW₂, e2, q2, q3, q4, q5, q6⟩ := id hfe
    have e3 : s₂ = ({ (U.calling g mk a).setFrames s₂.frames with heap := s₂.heap, slotsUsed := s₂.slotsUsed } : State).setVm s₂.vm := by
      have : s₂ = ({ s₂ with vm := (U.calling g mk a).vm } : State).setVm s₂.vm := rfl
      rw [e2] at this
      exact this
    obtain ⟨c₂, i₂, len₂, hc₂, hd₂, hf₂⟩ := hend
    have hW' : U.WarmedH s₂.vm := hW₂
    have hcc : c₂ = c := by
      have h1 : s₂.code? g.method = U.code? g.method := by
        rw [State.code?_eq, State.code?_eq, hW'.alike.method?]
      exact Option.some.inj (hc₂.symm.trans (h1.trans h.code))
    subst hcc
    have hlen : len₂ = len := by rw [hdg] at hd₂; cases hd₂; rfl
    subst hlen
    have hs₂ : s₂ = (({ U with heap := s₂.heap, slotsUsed := s₂.slotsUsed } : State).setVm s₂.vm).setTop { g with pc := g.pc + len₂, stack := v.toList ++ g.stack } := by
      refine e3.trans ?_
      rw [hf₂, State.calling_eq h.top, State.setFrames_setFrames, State.setTop_of_frames _ hr', hr]
      rfl
    have hsame : U.sameButNew ({ U with heap := s₂.heap, slotsUsed := s₂.slotsUsed } : State) L mc ms := by
      refine ⟨?_, q2, q3, q4, q5, q6⟩
      obtain ⟨t, ht, -⟩ := State.frames_cons hr
      show ({ U with heap := s₂.heap, slotsUsed := s₂.slotsUsed } : State) = { U.setFrames U.frames with heap := s₂.heap, slotsUsed := s₂.slotsUsed }
      rw [State.setFrames_self ht]
    subst hg
    refine Or.inl ⟨v, ⟨(({ U with heap := s₂.heap, slotsUsed := s₂.slotsUsed } : State).setVm s₂.vm), Ls ++ L, c0 + mc, s0 + ms⟩,
      ⟨X.admits, X.cas, X.clock, X.frames, X.room, X.hears, X.method, X.code, (X.here.setHeapUsed s₂.heap s₂.slotsUsed).setVm hW'.alike, X.tail, State.WarmedH.trans X.warmed hW', X.limits, X.bytes, X.same.trans (hsame.setVm s.vm)⟩,
      ⟨g, mk, s₂, L, rfl, rfl, hqc, rfl, hL, rfl, rfl⟩, ?_⟩
    show Steps p.tables e below _ ((({ U with heap := s₂.heap, slotsUsed := s₂.slotsUsed } : State).setVm s₂.vm).setTop { g with pc := g.pc + len₂, stack := v.toList ++ g.stack })
    rw [← hs₂]
    exact hsteps
  · obtain ⟨e2, q2, q3, q4, q5, q6⟩ := id hsm
    have e3 : s₂ = ({ (U.calling g mk a).setFrames s₂.frames with heap := s₂.heap, slotsUsed := s₂.slotsUsed } : State).setVm s₂.vm := by
      have : s₂ = ({ s₂ with vm := (U.calling g mk a).vm } : State).setVm s₂.vm := rfl
      rw [e2] at this
      exact this
    have hf₂ : s₂.frames = .throwing q :: .java g :: U.frames.tail := hend
    have hW' : U.WarmedH s₂.vm := hW₂
    have hs₂ : s₂ = ((({ U with heap := s₂.heap, slotsUsed := s₂.slotsUsed } : State).setVm s₂.vm).setTop g).pushFrame (.throwing q) := by
      refine e3.trans ?_
      rw [hf₂, State.calling_eq h.top, State.setFrames_setFrames, State.pushFrame, State.frames_setTop _ hr', State.setTop_of_frames _ hr', State.setFrames_setFrames, hr]
      rfl
    have hsame : U.sameButNew ({ U with heap := s₂.heap, slotsUsed := s₂.slotsUsed } : State) L mc ms := by
      refine ⟨?_, q2, q3, q4, q5, q6⟩
      obtain ⟨t, ht, -⟩ := State.frames_cons hr
      show ({ U with heap := s₂.heap, slotsUsed := s₂.slotsUsed } : State) = { U.setFrames U.frames with heap := s₂.heap, slotsUsed := s₂.slotsUsed }
      rw [State.setFrames_self ht]
    subst hg
    refine Or.inr ⟨q, ⟨(({ U with heap := s₂.heap, slotsUsed := s₂.slotsUsed } : State).setVm s₂.vm), Ls ++ L, c0 + mc, s0 + ms⟩,
      ⟨X.admits, X.cas, X.clock, X.frames, X.room, X.hears, X.method, X.code, (X.here.setHeapUsed s₂.heap s₂.slotsUsed).setVm hW'.alike, X.tail, State.WarmedH.trans X.warmed hW', X.limits, X.bytes, X.same.trans (hsame.setVm s.vm)⟩,
      ⟨g, mk, s₂, L, E, ce, rfl, rfl, hx, hce, hcv, hcl, rfl, hL, rfl, rfl⟩, ?_⟩
    show Steps p.tables e below _ (((({ U with heap := s₂.heap, slotsUsed := s₂.slotsUsed } : State).setVm s₂.vm).setTop g).pushFrame (.throwing q))
    rw [← hs₂]
    exact hsteps
end
variable {p : Program} {l : Launch} {e : Env} {R : Room} {s : State} {m : MethodId} {args : Array Value} {below : List Frame} {meth : Method} {c : Code} {T : State} {H : Heap} {locs : List Loc} {cells slots : Nat}
theorem vx_callVX (X : Stand p l e R s m args below meth c T locs cells slots) (hexec : p.tables.exec = Jvm.exec) {own C : String} {index : Nat} {y : MethodName} {bytes : ByteArray} {maxL : Nat} {ret : Option FieldType} {hh : List (Nat × Nat × Nat × Nat)}
    (hown : s.vm.findClass own = some m.cls) (hlink : (Cond.methodLink own index y).before args s = true) (hinst : (Cond.instanceMethod y).before args s = true) (hsel : (Cond.selects C y y).before args s = true)
    (hcode : (Cond.codeWith y bytes maxL ret hh).before args s = true) (hy : y.cls ≠ "java/lang/invoke/MethodHandle" ∧ y.cls ≠ "java/lang/invoke/VarHandle")
    {W9 : Nat} {Pre : Pt → Array Value → Prop} {Post : Pt → Array Value → Option Value → Pt → Prop} {PostX : Pt → Array Value → Addr → Pt → Prop} (hK : vx_Back l R p e below s args y 3 W9 Pre Post PostX)
    {b : Addr} {cellB : Cell} (hcell : T.heap[b]? = some cellB) (hobj : cellB.vm.isStatics = false) (hcls : s.vm.findClass C = some cellB.cls)
    {g : JFrame} (hg : g.method = m) (hsize : g.locals.size = c.maxLocals) {argsL rest : List Value} (hlen : ∀ sig, parseMethodDescriptor y.desc = some sig → argsL.length = sig.parameters.length)
    (hstack : g.stack = argsL.reverse ++ .ref b :: rest) (hW : 2 * g.monitorRoom + (rest.map fun v => v.category).sum ≤ W9) (hdg : decode c.code g.pc = .ok (.invokevirtual index, 3))
    (hpre : ∀ vm₁, s.WarmedH vm₁ → Pre ⟨T.setVm vm₁, locs, cells, slots⟩ (Value.ref b :: argsL).toArray) :
    (∃ (v : Option Value) (vm₁ : Vm) (B : Pt), s.WarmedH vm₁ ∧ Stand p l e R s m args below meth c B.U B.locs B.cells B.slots ∧ Post ⟨T.setVm vm₁, locs, cells, slots⟩ (Value.ref b :: argsL).toArray v B ∧
      ∀ target, Steps p.tables e below (B.U.setTop { g with pc := g.pc + 3, stack := v.toList ++ rest }) target → Steps p.tables e below (T.setTop g) target) ∨
    (∃ (q : Addr) (vm₁ : Vm) (B : Pt), s.WarmedH vm₁ ∧ Stand p l e R s m args below meth c B.U B.locs B.cells B.slots ∧ PostX ⟨T.setVm vm₁, locs, cells, slots⟩ (Value.ref b :: argsL).toArray q B ∧
      Steps p.tables e below (T.setTop g) ((B.U.setTop { g with stack := rest }).pushFrame (.throwing q))) := by
  obtain ⟨mk, methM, hnamed, hmethM, hstM, habM⟩ := Cond.instanceMethod_spec hinst
  obtain ⟨m8, methM', cM, hn8, hmethM', -, -, -, -, -, -, hsigM⟩ := Cond.codeWith_spec hcode
  cases Option.some.inj (hn8.symm.trans hnamed)
  cases hmethM.symm.trans hmethM'
  obtain ⟨c2, r2, m2, q1, q2, q3, q4, kP, hkP, hkPi⟩ := Cond.selects_spec hsel
  cases hcls.symm.trans q1
  cases (State.methodFound?_of_named hnamed hy).symm.trans q2
  cases hnamed.symm.trans q3
  have hselP : selectMethod e.platform s.vm cellB.cls mk = .method mk := by rw [Launch.admits_selectMethod X.admits]; exact q4
  obtain ⟨vm₁, X₁, hstep₁⟩ := X.invokevirtual hexec hown hlink hnamed hmethM hstM hkP hkPi hy (a := b) (cell := cellB) hcell
    (fun z h => by rw [h] at hobj; cases hobj) hselP hmethM habM hkP hkPi (g := g) hg (argsL := argsL) (rest := rest) (hlen _ hsigM) hstack hdg
  rcases hK m meth c ⟨T.setVm vm₁, locs, cells, slots⟩ { g with stack := rest } (.invokevirtual index) mk (Value.ref b :: argsL).toArray X₁ hg hsize hdg hW (X₁.named hnamed) (hpre vm₁ X₁.warmed) with ⟨v, B, X', hpost, hsteps⟩ | ⟨q, B, X', hpost, hsteps⟩
  · exact Or.inl ⟨v, vm₁, B, X₁.warmed, X', hpost, fun target h => hstep₁ _ fun acts => by rw [doInvoke_state]; exact hsteps.trans h⟩
  · exact Or.inr ⟨q, vm₁, B, X₁.warmed, X', hpost, hstep₁ _ fun acts => by rw [doInvoke_state]; exact hsteps⟩
theorem vx_callSX (X : Stand p l e R s m args below meth c T locs cells slots) (hexec : p.tables.exec = Jvm.exec) {own : String} {index : Nat} {y : MethodName} {bytes : ByteArray} {maxL : Nat} {ret : Option FieldType} {hh : List (Nat × Nat × Nat × Nat)}
    (hown : s.vm.findClass own = some m.cls) (hlink : (Cond.methodLink own index y).before args s = true) (hstat : (Cond.static y).before args s = true) (hinit : (Cond.initialized y.cls).before args s = true)
    (hcode : (Cond.codeWith y bytes maxL ret hh).before args s = true) (hy : y.cls ≠ "java/lang/invoke/MethodHandle" ∧ y.cls ≠ "java/lang/invoke/VarHandle")
    {W9 : Nat} {Pre : Pt → Array Value → Prop} {Post : Pt → Array Value → Option Value → Pt → Prop} {PostX : Pt → Array Value → Addr → Pt → Prop} (hK : vx_Back l R p e below s args y 3 W9 Pre Post PostX)
    {g : JFrame} (hg : g.method = m) (hsize : g.locals.size = c.maxLocals) {argsL rest : List Value} (hlen : ∀ sig, parseMethodDescriptor y.desc = some sig → argsL.length = sig.parameters.length)
    (hstack : g.stack = argsL.reverse ++ rest) (hW : 2 * g.monitorRoom + (rest.map fun v => v.category).sum ≤ W9) (hdg : decode c.code g.pc = .ok (.invokestatic index, 3))
    (hpre : ∀ vm₁, s.WarmedH vm₁ → Pre ⟨T.setVm vm₁, locs, cells, slots⟩ argsL.toArray) :
    (∃ (v : Option Value) (vm₁ : Vm) (B : Pt), s.WarmedH vm₁ ∧ Stand p l e R s m args below meth c B.U B.locs B.cells B.slots ∧ Post ⟨T.setVm vm₁, locs, cells, slots⟩ argsL.toArray v B ∧
      ∀ target, Steps p.tables e below (B.U.setTop { g with pc := g.pc + 3, stack := v.toList ++ rest }) target → Steps p.tables e below (T.setTop g) target) ∨
    (∃ (q : Addr) (vm₁ : Vm) (B : Pt), s.WarmedH vm₁ ∧ Stand p l e R s m args below meth c B.U B.locs B.cells B.slots ∧ PostX ⟨T.setVm vm₁, locs, cells, slots⟩ argsL.toArray q B ∧
      Steps p.tables e below (T.setTop g) ((B.U.setTop { g with stack := rest }).pushFrame (.throwing q))) := by
  obtain ⟨mk, methM, cM, hnamed, hmethM, -, -, -, -, -, -, hsigM⟩ := Cond.codeWith_spec hcode
  have hstatic : methM.isStatic = true := Cond.static_spec hnamed hmethM hstat
  obtain ⟨kP, hkP, -⟩ := className_of_methodNamed hnamed
  have hinitP : kP.init = .initialized := Cond.initialized_spec (findClass_of_methodNamed hnamed) hkP hinit
  obtain ⟨vm₁, X₁, hstep₁⟩ := X.invokestatic hexec hown hlink hnamed hmethM hstatic hkP hinitP hy (g := g) hg (argsL := argsL) (rest := rest) (hlen _ hsigM) hstack hdg
  rcases hK m meth c ⟨T.setVm vm₁, locs, cells, slots⟩ { g with stack := rest } (.invokestatic index) mk argsL.toArray X₁ hg hsize hdg hW (X₁.named hnamed) (hpre vm₁ X₁.warmed) with ⟨v, B, X', hpost, hsteps⟩ | ⟨q, B, X', hpost, hsteps⟩
  · exact Or.inl ⟨v, vm₁, B, X₁.warmed, X', hpost, fun target h => hstep₁ _ fun acts => by rw [doInvoke_state]; exact hsteps.trans h⟩
  · exact Or.inr ⟨q, vm₁, B, X₁.warmed, X', hpost, hstep₁ _ fun acts => by rw [doInvoke_state]; exact hsteps⟩
theorem vx_callVW (X : Stand p l e R s m args below meth c T locs cells slots) (hexec : p.tables.exec = Jvm.exec) {own C : String} {index : Nat} {y : MethodName} {bytes : ByteArray} {maxL : Nat} {ret : Option FieldType} {hh : List (Nat × Nat × Nat × Nat)}
    (hown : s.vm.findClass own = some m.cls) (hlink : (Cond.methodLink own index y).before args s = true) (hinst : (Cond.instanceMethod y).before args s = true) (hsel : (Cond.selects C y y).before args s = true)
    (hcode : (Cond.codeWith y bytes maxL ret hh).before args s = true) (hy : y.cls ≠ "java/lang/invoke/MethodHandle" ∧ y.cls ≠ "java/lang/invoke/VarHandle")
    {W9 : Nat} {Pre : Pt → Array Value → Prop} {Post : Pt → Array Value → Option Value → Pt → Prop} (hK : Back l R p e below s args y 3 W9 Pre Post)
    {b : Addr} {cellB : Cell} (hcell : T.heap[b]? = some cellB) (hobj : cellB.vm.isStatics = false) (hcls : s.vm.findClass C = some cellB.cls)
    {g : JFrame} (hg : g.method = m) (hsize : g.locals.size = c.maxLocals) {argsL rest : List Value} (hlen : ∀ sig, parseMethodDescriptor y.desc = some sig → argsL.length = sig.parameters.length)
    (hstack : g.stack = argsL.reverse ++ .ref b :: rest) (hW : 2 * g.monitorRoom + (rest.map fun v => v.category).sum ≤ W9) (hdg : decode c.code g.pc = .ok (.invokevirtual index, 3))
    (hpre : ∀ vm₁, s.WarmedH vm₁ → Pre ⟨T.setVm vm₁, locs, cells, slots⟩ (Value.ref b :: argsL).toArray) :
    ∃ (v : Option Value) (vm₁ : Vm) (B : Pt), s.WarmedH vm₁ ∧ Stand p l e R s m args below meth c B.U B.locs B.cells B.slots ∧ Post ⟨T.setVm vm₁, locs, cells, slots⟩ (Value.ref b :: argsL).toArray v B ∧
      ∀ target, Steps p.tables e below (B.U.setTop { g with pc := g.pc + 3, stack := v.toList ++ rest }) target → Steps p.tables e below (T.setTop g) target := by
  obtain ⟨mk, methM, hnamed, hmethM, hstM, habM⟩ := Cond.instanceMethod_spec hinst
  obtain ⟨m8, methM', cM, hn8, hmethM', -, -, -, -, -, -, hsigM⟩ := Cond.codeWith_spec hcode
  cases Option.some.inj (hn8.symm.trans hnamed)
  cases hmethM.symm.trans hmethM'
  obtain ⟨c2, r2, m2, q1, q2, q3, q4, kP, hkP, hkPi⟩ := Cond.selects_spec hsel
  cases hcls.symm.trans q1
  cases (State.methodFound?_of_named hnamed hy).symm.trans q2
  cases hnamed.symm.trans q3
  have hselP : selectMethod e.platform s.vm cellB.cls mk = .method mk := by rw [Launch.admits_selectMethod X.admits]; exact q4
  obtain ⟨vm₁, X₁, hstep₁⟩ := X.invokevirtual hexec hown hlink hnamed hmethM hstM hkP hkPi hy (a := b) (cell := cellB) hcell
    (fun z h => by rw [h] at hobj; cases hobj) hselP hmethM habM hkP hkPi (g := g) hg (argsL := argsL) (rest := rest) (hlen _ hsigM) hstack hdg
  obtain ⟨v, B, X', hpost, hsteps⟩ := hK m meth c ⟨T.setVm vm₁, locs, cells, slots⟩ { g with stack := rest } (.invokevirtual index) mk (Value.ref b :: argsL).toArray X₁ hg hsize hdg hW (X₁.named hnamed) (hpre vm₁ X₁.warmed)
  exact ⟨v, vm₁, B, X₁.warmed, X', hpost, fun target h => hstep₁ _ fun acts => by rw [doInvoke_state]; exact hsteps.trans h⟩
abbrev vx_CVW (R : Room) (s : State) (args : Array Value) (own C : String) (index : Nat) (y : MethodName) (bytes : ByteArray) (maxL : Nat) (ret : Option FieldType) (hh : List (Nat × Nat × Nat × Nat)) (ws : List Cond) (rm : Room) (mc ms n : Nat) : Prop :=
  (rm.cells = mc ∧ rm.slots = ms ∧ rm.frames + 1 ≤ R.frames ∧ 8 + (maxL + 11) + rm.locals ≤ R.locals ∧ (∀ w ∈ ws, ∀ (a' : Array Value) (U : State), s.WarmedH U.vm → w.before a' U = true) ∧ Cond.codeWith y bytes maxL ret hh ∈ ws) ∧
  (Cond.codeWith y bytes maxL ret hh).before args s = true ∧ (Cond.initialized y.cls).before args s = true ∧ (y.cls ≠ "java/lang/invoke/MethodHandle" ∧ y.cls ≠ "java/lang/invoke/VarHandle") ∧
  (∀ sig, parseMethodDescriptor y.desc = some sig → n = sig.parameters.length) ∧ (Cond.methodLink own index y).before args s = true ∧ (Cond.instanceMethod y).before args s = true ∧ (Cond.selects C y y).before args s = true
theorem vx_cwVW {own C : String} {index maxL mc ms : Nat} {y : MethodName} {bytes : ByteArray} {ret : Option FieldType} {hh : List (Nat × Nat × Nat × Nat)} {Ts ws ws' : List Cond} {rm : Room} (n : Nat) (ht : ∀ w ∈ Ts, w.before args s = true) (hT : GoodIn Ts (wsV own index C y ws)) (hw : ws = Cond.codeWith y bytes maxL ret hh :: ws') (hrc : rm.cells = mc) (hrs : rm.slots = ms)
    (hd : y.cls = C ∧ y.cls ≠ "java/lang/invoke/MethodHandle" ∧ y.cls ≠ "java/lang/invoke/VarHandle" ∧ (parseMethodDescriptor y.desc).map (fun d => d.parameters.length) = some n) (hR : rm.frames + 1 ≤ R.frames ∧ 8 + (maxL + 11) + rm.locals ≤ R.locals) :
    vx_CVW R s args own C index y bytes maxL ret hh ws rm mc ms n := by
  obtain ⟨hC, hd⟩ := hd
  subst hC
  have ok : ∀ w ∈ wsV own index y.cls y ws, w.before args s = true := fun w h => ht w (hT w h).1
  have hG : GoodIn Ts ws := fun w h => hT w (by unfold wsV; exact List.mem_append_right _ h)
  have hc : Cond.codeWith y bytes maxL ret hh ∈ ws := by rw [hw]; exact List.mem_cons_self
  refine ⟨⟨hrc, hrs, hR.1, hR.2, pay_in ht hG, hc⟩, ht _ (hG _ hc).1, ok _ (by simp [wsV]), ⟨hd.1, hd.2.1⟩, fun sig h => ?_, ok _ (by simp [wsV]), ok _ (by simp [wsV]), ok _ (by simp [wsV])⟩
  have h2 := hd.2.2
  rw [h] at h2
  exact (Option.some.inj h2).symm
theorem vx_runVW {y : MethodName} {bytes cc : ByteArray} {maxL nL mc ms n index : Nat} {ret : Option FieldType} {hh : List (Nat × Nat × Nat × Nat)} {ws : List Cond} {rm : Room} {Pc : Array Value → State → Prop} {Qc : Array Value → State → Outcome → State → Prop} {free : Addr → Prop} {Ts : List Cond} {own C : String} {b : Addr} {As rest : List Value} {g : JFrame}
    (S : CallFix p m c cc nL s args Ts own) (hM : Met l y ws rm Pc Qc mc ms free) (cw : vx_CVW R s args own C index y bytes maxL ret hh ws rm mc ms n) (hp : PreV s H C b Pc As)
    (hg : g.method = m) (hn : As.length = n) (hsize : g.locals.size = nL) (hstack : g.stack = As.reverse ++ .ref b :: rest) (hW : 2 * g.monitorRoom + (rest.map fun v => v.category).sum ≤ 8) (hdg : decode cc g.pc = .ok (.invokevirtual index, 3)) (hf : cells + mc ≤ R.cells ∧ slots + ms ≤ R.slots) :
    va_Run p l e R s m args below meth c H locs cells slots mc ms g rest (Qc (Value.ref b :: As).toArray) free := by
  obtain ⟨⟨hrc, hrs, hfr, hlo, hws, hcw⟩, hcode, hini, hy, hlen, hl, hin, hse⟩ := cw
  have hK : Back l R p e below s args y 3 8 (PreOf R mc ms Pc) (PostOf Qc mc ms free) := va_backW (hh := hh) (bytes := bytes) (maxL := maxL) (ret := ret) hM hp.1 hrc hrs hfr hlo hws hcw (fun a' U hW => word_at hW (Or.inl (by first | rfl | simp [Cond.onTables, Cond.keeps, Cond.steady])) hini)
  obtain ⟨hx, hb, hml, ho, -⟩ := S
  obtain ⟨-, ⟨cellB, hcB, hoB, hclB⟩, hPc⟩ := hp
  intro T hT X
  obtain ⟨v, vm₁, ⟨U', l2, c2, s2⟩, hW₁, X', ⟨g', mk, t, L, e1, e2, hq, h1, hL, h2, h3⟩, st⟩ := vx_callVW X hx (C := C) (hh := hh) (bytes := bytes) (maxL := maxL) (ret := ret) ho hl hin hse hcode hy hK (by rw [hT]; exact hcB) hoB hclB hg (hsize.trans hml.symm) (argsL := As) (rest := rest) (fun sig h => hn.trans (hlen sig h)) hstack hW (by rw [hb]; exact hdg)
    (fun vm₁ hW₁ => ⟨hf.1, hf.2, hPc (T.setVm vm₁) hT hW₁⟩)
  dsimp only [Pt.U, Pt.locs, Pt.cells, Pt.slots] at X' e1 e2 h1 h2 h3 st
  subst h1; subst h2; subst h3
  exact ⟨v, (T.setVm vm₁).calling g' mk (Value.ref b :: As).toArray, t, U', L, hT, X', hL, e1, e2, hq, st⟩
section
variable {y : MethodName} {bytes cc : ByteArray} {maxL nL mc ms n index : Nat} {ret : Option FieldType} {ws : List Cond} {rm : Room} {Pc : Array Value → State → Prop} {Qc : Array Value → State → Outcome → State → Prop} {XC : String → State → State → Prop} {free : Addr → Prop} {Ts : List Cond} {own C : String} {b : Addr} {As rest : List Value} {g : JFrame}
theorem vx_runVX {hh : List (Nat × Nat × Nat × Nat)} (S : CallFix p m c cc nL s args Ts own) (hM : vx_Met l y ws rm Pc Qc XC mc ms free) (cw : vx_CVW R s args own C index y bytes maxL ret hh ws rm mc ms n) (hp : PreV s H C b Pc As)
    (hg : g.method = m) (hn : As.length = n) (hsize : g.locals.size = nL) (hstack : g.stack = As.reverse ++ .ref b :: rest) (hW : 2 * g.monitorRoom + (rest.map fun v => v.category).sum ≤ 8) (hdg : decode cc g.pc = .ok (.invokevirtual index, 3)) (hf : cells + mc ≤ R.cells ∧ slots + ms ≤ R.slots) :
    vx_Run p l e R s m args below meth c H locs cells slots mc ms g rest (Qc (Value.ref b :: As).toArray) XC free := by
  obtain ⟨⟨hrc, hrs, hfr, hlo, hws, hcw⟩, hcode, hini, hy, hlen, hl, hin, hse⟩ := cw
  have hK : vx_Back l R p e below s args y 3 8 (PreOf R mc ms Pc) (PostOf Qc mc ms free) (vx_Post XC mc ms free) := vx_backW (hh := hh) (bytes := bytes) (maxL := maxL) (ret := ret) hM hp.1 hrc hrs hfr hlo hws hcw (fun a' U hW => word_at hW (Or.inl (by first | rfl | simp [Cond.onTables, Cond.keeps, Cond.steady])) hini)
  obtain ⟨hx, hb, hml, ho, -⟩ := S
  obtain ⟨-, ⟨cellB, hcB, hoB, hclB⟩, hPc⟩ := hp
  intro T hT X
  rcases vx_callVX X hx (C := C) (hh := hh) (bytes := bytes) (maxL := maxL) (ret := ret) ho hl hin hse hcode hy hK (by rw [hT]; exact hcB) hoB hclB hg (hsize.trans hml.symm) (argsL := As) (rest := rest) (fun sig h => hn.trans (hlen sig h)) hstack hW (by rw [hb]; exact hdg)
    (fun vm₁ hW₁ => ⟨hf.1, hf.2, hPc (T.setVm vm₁) hT hW₁⟩) with ⟨v, vm₁, ⟨U', l2, c2, s2⟩, hW₁, X', ⟨g', mk, t, L, e1, e2, hq, h1, hL, h2, h3⟩, st⟩ | ⟨q, vm₁, ⟨U', l2, c2, s2⟩, hW₁, X', ⟨g', mk, t, L, E, ce, e1, e2, hq, hce, hcv, hcl, h1, hL, h2, h3⟩, st⟩
  · dsimp only [Pt.U, Pt.locs, Pt.cells, Pt.slots] at X' e1 e2 h1 h2 h3 st
    subst h1; subst h2; subst h3
    exact Or.inl ⟨v, (T.setVm vm₁).calling g' mk (Value.ref b :: As).toArray, t, U', L, hT, X', hL, e1, e2, hq, st⟩
  · dsimp only [Pt.U, Pt.locs, Pt.cells, Pt.slots] at X' e1 e2 h1 h2 h3 st hcl
    subst h1; subst h2; subst h3
    exact Or.inr ⟨q, (T.setVm vm₁).calling g' mk (Value.ref b :: As).toArray, t, U', L, E, ce, hT, X', hL, e1, e2, hq, hce, hcv, vx_cls hW₁ hcl, st⟩
theorem vx_runSX {hh : List (Nat × Nat × Nat × Nat)} (S : CallFix p m c cc nL s args Ts own) (hM : vx_Met l y ws rm Pc Qc XC mc ms free) (cw : vx_CSW R s args own index y bytes maxL ret hh ws rm mc ms n) (hp : PreS s H Pc As)
    (hg : g.method = m) (hn : As.length = n) (hsize : g.locals.size = nL) (hstack : g.stack = As.reverse ++ rest) (hW : 2 * g.monitorRoom + (rest.map fun v => v.category).sum ≤ 8) (hdg : decode cc g.pc = .ok (.invokestatic index, 3)) (hf : cells + mc ≤ R.cells ∧ slots + ms ≤ R.slots) :
    vx_Run p l e R s m args below meth c H locs cells slots mc ms g rest (Qc As.toArray) XC free := by
  obtain ⟨⟨hrc, hrs, hfr, hlo, hws, hcw⟩, hcode, hini, hy, hlen, hl, hstt⟩ := cw
  have hK : vx_Back l R p e below s args y 3 8 (PreOf R mc ms Pc) (PostOf Qc mc ms free) (vx_Post XC mc ms free) := vx_backW (hh := hh) (bytes := bytes) (maxL := maxL) (ret := ret) hM hp.1 hrc hrs hfr hlo hws hcw (fun a' U hW => word_at hW (Or.inl (by first | rfl | simp [Cond.onTables, Cond.keeps, Cond.steady])) hini)
  obtain ⟨hx, hb, hml, ho, -⟩ := S
  intro T hT X
  rcases vx_callSX X hx (hh := hh) (bytes := bytes) (maxL := maxL) (ret := ret) ho hl hstt hini hcode hy hK hg (hsize.trans hml.symm) (argsL := As) (rest := rest) (fun sig h => hn.trans (hlen sig h)) hstack hW (by rw [hb]; exact hdg)
    (fun vm₁ hW₁ => ⟨hf.1, hf.2, hp.2 (T.setVm vm₁) hT hW₁⟩) with ⟨v, vm₁, ⟨U', l2, c2, s2⟩, hW₁, X', ⟨g', mk, t, L, e1, e2, hq, h1, hL, h2, h3⟩, st⟩ | ⟨q, vm₁, ⟨U', l2, c2, s2⟩, hW₁, X', ⟨g', mk, t, L, E, ce, e1, e2, hq, hce, hcv, hcl, h1, hL, h2, h3⟩, st⟩
  · dsimp only [Pt.U, Pt.locs, Pt.cells, Pt.slots] at X' e1 e2 h1 h2 h3 st
    subst h1; subst h2; subst h3
    exact Or.inl ⟨v, (T.setVm vm₁).calling g' mk As.toArray, t, U', L, hT, X', hL, e1, e2, hq, st⟩
  · dsimp only [Pt.U, Pt.locs, Pt.cells, Pt.slots] at X' e1 e2 h1 h2 h3 st hcl
    subst h1; subst h2; subst h3
    exact Or.inr ⟨q, (T.setVm vm₁).calling g' mk As.toArray, t, U', L, E, ce, hT, X', hL, e1, e2, hq, hce, hcv, vx_cls hW₁ hcl, st⟩
end
end VXH
theorem vx_ofWH {l : Launch} {y : MethodName} {ws ws' : List Cond} {rm : Room} {Pc : Array Value → State → Prop} {Qc : Array Value → State → Outcome → State → Prop} {XC : String → State → State → Prop} {mc ms : Nat} {free : Addr → Prop} {cc : ByteArray} {maxL : Nat} {ret : Option FieldType} {hh : List (Nat × Nat × Nat × Nat)}
    (hy : plainName y.cls = true) (hw : ws = Cond.codeWith y cc maxL ret hh :: ws')
    (body : ∀ p e s m args below meth c s₁, BodyLoose p l y (headSpec ws rm) cc maxL ret e s m args below meth c s₁ → c.maxLocals = maxL → Pc args s →
      W p l e (headSpec ws rm).room s m args below meth c s.heap [] 0 0 (vx_MQ below Qc XC args s mc ms free) (entryFrame m args maxL)) : vx_Met l y ws rm Pc Qc XC mc ms free := by
  refine MetFree.of_bodyS (code := cc) (maxLocals := maxL) (ret := ret) hy ?_ ?_
  · intro args s m h hn
    obtain ⟨m9, meth, c, hn9, h1, h2, h3, h4, -, h5, h6, -⟩ := Cond.codeWith_spec (atoms_spec (ws := ws) h _ (by rw [hw]; exact List.mem_cons_self))
    cases hn.symm.trans hn9
    exact ⟨meth, c, h1, h2, h3, h4, h5, h6⟩
  · intro p e s m args below meth c s₁ B hml hP _
    have hh0 : s₁.heap = s.heap := by rw [B.state]; rfl
    obtain ⟨t, a1, o, b1, b2, b3⟩ := body p e s m args below meth c s₁ B hml hP s₁ hh0 (Stand.of_body B)
    exact ⟨t, o, a1, b1, b2, b3⟩
/-! ===== END ===== -/
end
section
def RX0 : String := "ShoeHouse$Affairs"
def TX0 : u_T := fun k => match k with
  | 0 => ("ShoeHouse$Affairs", "givers", "[I", true)
  | 1 => ("ShoeHouse$Affairs", "takers", "[I", true)
  | 2 => ("ShoeHouse$Affairs", "lentShoes", "[I", true)
  | 3 => ("ShoeHouse$Affairs", "shoes", "[I", true)
  | 4 => ("ShoeHouse$Affairs", "day", "[I", true)
  | 5 => ("ShoeHouse$Affairs", "rounds", "[I", true)
  | 6 => ("ShoeHouse$Affairs", "seenSigns", "[I", true)
  | 7 => ("ShoeHouse$Affairs", "lent", "I", false)
  | 8 => ("ShoeHouse$Affairs", "seenHour", "I", false)
  | _ => ("ShoeHouse$Affairs", "seenRooms", "I", false)
def tyX0 : Nat → FieldType := fun k => match k with
  | 0 => .array .int
  | 1 => .array .int
  | 2 => .array .int
  | 3 => .array .int
  | 4 => .array .int
  | 5 => .array .int
  | 6 => .array .int
  | 7 => .int
  | 8 => .int
  | _ => .int
theorem nmX0 : ∀ a, a < 10 → ∀ b, b < 10 → a ≠ b → (TX0 a).2.1 ≠ (TX0 b).2.1 := by decide +kernel
theorem tyX0_ok : ∀ k, k < 10 → parseFieldDescriptor (TX0 k).2.2.1 = some (tyX0 k) := by decide +kernel
abbrev cX0_init : ByteArray := prog_2_method_1_code
def yX0_init : MethodName := ⟨RX0, "<init>", "()V"⟩
abbrev cX0_begin : ByteArray := prog_2_method_2_code
def yX0_begin : MethodName := ⟨RX0, "begin", "(LShoeHouse$Plan;)V"⟩
abbrev cX0_copyFrom : ByteArray := prog_2_method_3_code
def yX0_copyFrom : MethodName := ⟨RX0, "copyFrom", "(LShoeHouse$Affairs;)V"⟩
abbrev cX0_shoesOf : ByteArray := prog_2_method_4_code
def yX0_shoesOf : MethodName := ⟨RX0, "shoesOf", "(II)I"⟩
abbrev cX0_shoeKinds : ByteArray := prog_2_method_5_code
def yX0_shoeKinds : MethodName := ⟨RX0, "shoeKinds", "(I)I"⟩
abbrev cX0_canLend : ByteArray := prog_2_method_6_code
def yX0_canLend : MethodName := ⟨RX0, "canLend", "(II)Z"⟩
abbrev cX0_handOver : ByteArray := prog_2_method_7_code
def yX0_handOver : MethodName := ⟨RX0, "handOver", "(III)V"⟩
abbrev cX0_handBack : ByteArray := prog_2_method_8_code
def yX0_handBack : MethodName := ⟨RX0, "handBack", "()V"⟩
abbrev cX0_move : ByteArray := prog_2_method_9_code
def yX0_move : MethodName := ⟨RX0, "move", "(III)V"⟩
abbrev cX0_doing : ByteArray := prog_2_method_10_code
def yX0_doing : MethodName := ⟨RX0, "doing", "(II)I"⟩
abbrev cX0_drawDay : ByteArray := prog_2_method_11_code
def yX0_drawDay : MethodName := ⟨RX0, "drawDay", "(LShoeHouse$Plan;I)V"⟩
abbrev cX0_hasSeen : ByteArray := prog_2_method_12_code
def yX0_hasSeen : MethodName := ⟨RX0, "hasSeen", "(II)Z"⟩
abbrev cX0_note : ByteArray := prog_2_method_13_code
def yX0_note : MethodName := ⟨RX0, "note", "(III)V"⟩
abbrev cX0_seeNothing : ByteArray := prog_2_method_14_code
def yX0_seeNothing : MethodName := ⟨RX0, "seeNothing", "()V"⟩
def RX1 : String := "ShoeHouse$Cases"
def TX1 : u_T := fun k => match k with
  | 0 => ("ShoeHouse$Cases", "plan", "LShoeHouse$Plan;", true)
  | 1 => ("ShoeHouse$Cases", "now", "LShoeHouse$Affairs;", true)
  | 2 => ("ShoeHouse$Cases", "doors", "LShoeHouse$Doors;", true)
  | 3 => ("ShoeHouse$Cases", "doings", "[I", true)
  | _ => ("ShoeHouse$Cases", "total", "I", false)
def tyX1 : Nat → FieldType := fun k => match k with
  | 0 => .object "ShoeHouse$Plan"
  | 1 => .object "ShoeHouse$Affairs"
  | 2 => .object "ShoeHouse$Doors"
  | 3 => .array .int
  | _ => .int
theorem nmX1 : ∀ a, a < 5 → ∀ b, b < 5 → a ≠ b → (TX1 a).2.1 ≠ (TX1 b).2.1 := by decide +kernel
theorem tyX1_ok : ∀ k, k < 5 → parseFieldDescriptor (TX1 k).2.2.1 = some (tyX1 k) := by decide +kernel
abbrev cX1_init : ByteArray := prog_3_method_1_code
def yX1_init : MethodName := ⟨RX1, "<init>", "(LShoeHouse$Plan;LShoeHouse$Affairs;LShoeHouse$Doors;)V"⟩
abbrev cX1_reckon : ByteArray := prog_3_method_2_code
def yX1_reckon : MethodName := ⟨RX1, "reckon", "()I"⟩
abbrev cX1_emptyRoomsHold : ByteArray := prog_3_method_3_code
def yX1_emptyRoomsHold : MethodName := ⟨RX1, "emptyRoomsHold", "()Z"⟩
abbrev cX1_doingsHeld : ByteArray := prog_3_method_4_code
def yX1_doingsHeld : MethodName := ⟨RX1, "doingsHeld", "(II)I"⟩
abbrev cX1_doingIn : ByteArray := prog_3_method_5_code
def yX1_doingIn : MethodName := ⟨RX1, "doingIn", "(II)I"⟩
abbrev cX1_casesWithout : ByteArray := prog_3_method_6_code
def yX1_casesWithout : MethodName := ⟨RX1, "casesWithout", "(I)I"⟩
abbrev cX1_surelyEmpty : ByteArray := prog_3_method_7_code
def yX1_surelyEmpty : MethodName := ⟨RX1, "surelyEmpty", "()I"⟩
abbrev cX1_surelyTaken : ByteArray := prog_3_method_8_code
def yX1_surelyTaken : MethodName := ⟨RX1, "surelyTaken", "()I"⟩
abbrev cX1_doorToKnockAt : ByteArray := prog_3_method_9_code
def yX1_doorToKnockAt : MethodName := ⟨RX1, "doorToKnockAt", "()I"⟩
abbrev cX1_roomsOf : ByteArray := prog_3_method_10_code
def yX1_roomsOf : MethodName := ⟨RX1, "roomsOf", "(I)I"⟩
def RX2 : String := "ShoeHouse$Deceit"
def TX2 : u_T := fun k => match k with
  | 0 => ("ShoeHouse$Deceit", "plan", "LShoeHouse$Plan;", true)
  | 1 => ("ShoeHouse$Deceit", "now", "LShoeHouse$Affairs;", true)
  | 2 => ("ShoeHouse$Deceit", "doors", "LShoeHouse$Doors;", true)
  | 3 => ("ShoeHouse$Deceit", "signs", "[I", true)
  | _ => ("ShoeHouse$Deceit", "groups", "[I", true)
def tyX2 : Nat → FieldType := fun k => match k with
  | 0 => .object "ShoeHouse$Plan"
  | 1 => .object "ShoeHouse$Affairs"
  | 2 => .object "ShoeHouse$Doors"
  | 3 => .array .int
  | _ => .array .int
theorem nmX2 : ∀ a, a < 5 → ∀ b, b < 5 → a ≠ b → (TX2 a).2.1 ≠ (TX2 b).2.1 := by decide +kernel
theorem tyX2_ok : ∀ k, k < 5 → parseFieldDescriptor (TX2 k).2.2.1 = some (tyX2 k) := by decide +kernel
abbrev cX2_init : ByteArray := prog_4_method_1_code
def yX2_init : MethodName := ⟨RX2, "<init>", "(LShoeHouse$Plan;LShoeHouse$Affairs;LShoeHouse$Doors;)V"⟩
abbrev cX2_fewestLiars : ByteArray := prog_4_method_2_code
def yX2_fewestLiars : MethodName := ⟨RX2, "fewestLiars", "(II)I"⟩
abbrev cX2_sortDoings : ByteArray := prog_4_method_3_code
def yX2_sortDoings : MethodName := ⟨RX2, "sortDoings", "(I)V"⟩
abbrev cX2_misleads : ByteArray := prog_4_method_4_code
def yX2_misleads : MethodName := ⟨RX2, "misleads", "(II)Z"⟩
def RX3 : String := "ShoeHouse$Doors"
def TX3 : u_T := fun k => match k with
  | 0 => ("ShoeHouse$Doors", "plan", "LShoeHouse$Plan;", true)
  | _ => ("ShoeHouse$Doors", "now", "LShoeHouse$Affairs;", true)
def tyX3 : Nat → FieldType := fun k => match k with
  | 0 => .object "ShoeHouse$Plan"
  | _ => .object "ShoeHouse$Affairs"
theorem nmX3 : ∀ a, a < 2 → ∀ b, b < 2 → a ≠ b → (TX3 a).2.1 ≠ (TX3 b).2.1 := by decide +kernel
theorem tyX3_ok : ∀ k, k < 2 → parseFieldDescriptor (TX3 k).2.2.1 = some (tyX3 k) := by decide +kernel
abbrev cX3_init : ByteArray := prog_5_method_1_code
def yX3_init : MethodName := ⟨RX3, "<init>", "(LShoeHouse$Plan;LShoeHouse$Affairs;)V"⟩
abbrev cX3_signOf : ByteArray := prog_5_method_2_code
def yX3_signOf : MethodName := ⟨RX3, "signOf", "(II)I"⟩
abbrev cX3_signAt : ByteArray := prog_5_method_3_code
def yX3_signAt : MethodName := ⟨RX3, "signAt", "(II)I"⟩
abbrev cX3_doingsBySign : ByteArray := prog_5_method_4_code
def yX3_doingsBySign : MethodName := ⟨RX3, "doingsBySign", "(III)I"⟩
abbrev cX3_chanceAt : ByteArray := prog_5_method_5_code
def yX3_chanceAt : MethodName := ⟨RX3, "chanceAt", "(II)I"⟩
abbrev cX3_worthOf : ByteArray := prog_5_method_6_code
def yX3_worthOf : MethodName := ⟨RX3, "worthOf", "(II)I"⟩
def RX4 : String := "ShoeHouse$Game"
def TX4 : u_T := fun k => match k with
  | 0 => ("ShoeHouse$Game", "plan", "LShoeHouse$Plan;", true)
  | 1 => ("ShoeHouse$Game", "doors", "LShoeHouse$Doors;", true)
  | 2 => ("ShoeHouse$Game", "worths", "[I", true)
  | 3 => ("ShoeHouse$Game", "crowd", "[I", true)
  | 4 => ("ShoeHouse$Game", "row", "[I", true)
  | _ => ("ShoeHouse$Game", "firstRow", "[I", true)
def tyX4 : Nat → FieldType := fun k => match k with
  | 0 => .object "ShoeHouse$Plan"
  | 1 => .object "ShoeHouse$Doors"
  | 2 => .array .int
  | 3 => .array .int
  | 4 => .array .int
  | _ => .array .int
theorem nmX4 : ∀ a, a < 6 → ∀ b, b < 6 → a ≠ b → (TX4 a).2.1 ≠ (TX4 b).2.1 := by decide +kernel
theorem tyX4_ok : ∀ k, k < 6 → parseFieldDescriptor (TX4 k).2.2.1 = some (tyX4 k) := by decide +kernel
abbrev cX4_init : ByteArray := prog_6_method_1_code
def yX4_init : MethodName := ⟨RX4, "<init>", "(LShoeHouse$Plan;LShoeHouse$Doors;)V"⟩
abbrev cX4_play : ByteArray := prog_6_method_2_code
def yX4_play : MethodName := ⟨RX4, "play", "(II)I"⟩
abbrev cX4_layRow : ByteArray := prog_6_method_3_code
def yX4_layRow : MethodName := ⟨RX4, "layRow", "(II)V"⟩
abbrev cX4_isAtRest : ByteArray := prog_6_method_4_code
def yX4_isAtRest : MethodName := ⟨RX4, "isAtRest", "(I)Z"⟩
abbrev cX4_share : ByteArray := prog_6_method_5_code
def yX4_share : MethodName := ⟨RX4, "share", "(II)I"⟩
def RX5 : String := "ShoeHouse$Lending"
def TX5 : u_T := fun k => match k with
  | 0 => ("ShoeHouse$Lending", "plan", "LShoeHouse$Plan;", true)
  | 1 => ("ShoeHouse$Lending", "now", "LShoeHouse$Affairs;", true)
  | 2 => ("ShoeHouse$Lending", "doors", "LShoeHouse$Doors;", true)
  | 3 => ("ShoeHouse$Lending", "wanted", "[I", true)
  | 4 => ("ShoeHouse$Lending", "spare", "[I", true)
  | 5 => ("ShoeHouse$Lending", "wantedBy", "[I", true)
  | 6 => ("ShoeHouse$Lending", "spareOf", "[I", true)
  | 7 => ("ShoeHouse$Lending", "found", "[I", true)
  | 8 => ("ShoeHouse$Lending", "lenders", "[I", true)
  | _ => ("ShoeHouse$Lending", "isKept", "Z", false)
def tyX5 : Nat → FieldType := fun k => match k with
  | 0 => .object "ShoeHouse$Plan"
  | 1 => .object "ShoeHouse$Affairs"
  | 2 => .object "ShoeHouse$Doors"
  | 3 => .array .int
  | 4 => .array .int
  | 5 => .array .int
  | 6 => .array .int
  | 7 => .array .int
  | 8 => .array .int
  | _ => .boolean
theorem nmX5 : ∀ a, a < 10 → ∀ b, b < 10 → a ≠ b → (TX5 a).2.1 ≠ (TX5 b).2.1 := by decide +kernel
theorem tyX5_ok : ∀ k, k < 10 → parseFieldDescriptor (TX5 k).2.2.1 = some (tyX5 k) := by decide +kernel
abbrev cX5_init : ByteArray := prog_7_method_1_code
def yX5_init : MethodName := ⟨RX5, "<init>", "(LShoeHouse$Plan;LShoeHouse$Affairs;LShoeHouse$Doors;)V"⟩
abbrev cX5_keepFewest : ByteArray := prog_7_method_2_code
def yX5_keepFewest : MethodName := ⟨RX5, "keepFewest", "(II)I"⟩
abbrev cX5_isShoeless : ByteArray := prog_7_method_3_code
def yX5_isShoeless : MethodName := ⟨RX5, "isShoeless", "(III)Z"⟩
abbrev cX5_helpfulShoes : ByteArray := prog_7_method_4_code
def yX5_helpfulShoes : MethodName := ⟨RX5, "helpfulShoes", "(III)I"⟩
abbrev cX5_countSpare : ByteArray := prog_7_method_5_code
def yX5_countSpare : MethodName := ⟨RX5, "countSpare", "(III)V"⟩
abbrev cX5_canServe : ByteArray := prog_7_method_6_code
def yX5_canServe : MethodName := ⟨RX5, "canServe", "()Z"⟩
abbrev cX5_serveAll : ByteArray := prog_7_method_7_code
def yX5_serveAll : MethodName := ⟨RX5, "serveAll", "()V"⟩
abbrev cX5_serve : ByteArray := prog_7_method_8_code
def yX5_serve : MethodName := ⟨RX5, "serve", "(I)V"⟩
abbrev cX5_canSpare : ByteArray := prog_7_method_9_code
def yX5_canSpare : MethodName := ⟨RX5, "canSpare", "(II)Z"⟩
def RX6 : String := "ShoeHouse$Plan"
def TX6 : u_T := fun k => match k with
  | 0 => ("ShoeHouse$Plan", "goods", "[I", true)
  | 1 => ("ShoeHouse$Plan", "tenant", "[I", true)
  | 2 => ("ShoeHouse$Plan", "home", "[I", true)
  | 3 => ("ShoeHouse$Plan", "feet", "[I", true)
  | 4 => ("ShoeHouse$Plan", "begins", "[I", true)
  | 5 => ("ShoeHouse$Plan", "told", "[I", true)
  | 6 => ("ShoeHouse$Plan", "law", "[I", true)
  | 7 => ("ShoeHouse$Plan", "rooms", "I", false)
  | 8 => ("ShoeHouse$Plan", "lodgers", "I", false)
  | 9 => ("ShoeHouse$Plan", "finders", "I", false)
  | 10 => ("ShoeHouse$Plan", "mays", "I", false)
  | _ => ("ShoeHouse$Plan", "lawsTold", "I", false)
def tyX6 : Nat → FieldType := fun k => match k with
  | 0 => .array .int
  | 1 => .array .int
  | 2 => .array .int
  | 3 => .array .int
  | 4 => .array .int
  | 5 => .array .int
  | 6 => .array .int
  | 7 => .int
  | 8 => .int
  | 9 => .int
  | 10 => .int
  | _ => .int
theorem nmX6 : ∀ a, a < 12 → ∀ b, b < 12 → a ≠ b → (TX6 a).2.1 ≠ (TX6 b).2.1 := by decide +kernel
theorem tyX6_ok : ∀ k, k < 12 → parseFieldDescriptor (TX6 k).2.2.1 = some (tyX6 k) := by decide +kernel
abbrev cX6_init : ByteArray := prog_8_method_1_code
def yX6_init : MethodName := ⟨RX6, "<init>", "()V"⟩
abbrev cX6_setFirstLaw : ByteArray := prog_8_method_2_code
def yX6_setFirstLaw : MethodName := ⟨RX6, "setFirstLaw", "()V"⟩
abbrev cX6_clear : ByteArray := prog_8_method_3_code
def yX6_clear : MethodName := ⟨RX6, "clear", "()V"⟩
abbrev cX6_copyFrom : ByteArray := prog_8_method_4_code
def yX6_copyFrom : MethodName := ⟨RX6, "copyFrom", "(LShoeHouse$Plan;)V"⟩
abbrev cX6_addRoom : ByteArray := prog_8_method_5_code
def yX6_addRoom : MethodName := ⟨RX6, "addRoom", "(I)V"⟩
abbrev cX6_addLodger : ByteArray := prog_8_method_6_code
def yX6_addLodger : MethodName := ⟨RX6, "addLodger", "(I)V"⟩
abbrev cX6_addFinder : ByteArray := prog_8_method_7_code
def yX6_addFinder : MethodName := ⟨RX6, "addFinder", "(I)V"⟩
abbrev cX6_addMay : ByteArray := prog_8_method_8_code
def yX6_addMay : MethodName := ⟨RX6, "addMay", "(IIII)V"⟩
abbrev cX6_addLaw : ByteArray := prog_8_method_9_code
def yX6_addLaw : MethodName := ⟨RX6, "addLaw", "(II)V"⟩
abbrev cX6_doings : ByteArray := prog_8_method_10_code
def yX6_doings : MethodName := ⟨RX6, "doings", "(II)I"⟩
abbrev cX6_canDo : ByteArray := prog_8_method_11_code
def yX6_canDo : MethodName := ⟨RX6, "canDo", "(II)Z"⟩
abbrev cX6_lawFor : ByteArray := prog_8_method_12_code
def yX6_lawFor : MethodName := ⟨RX6, "lawFor", "(I)I"⟩
abbrev cX6_doingsIn : ByteArray := prog_8_method_13_code
def yX6_doingsIn : MethodName := ⟨RX6, "doingsIn", "(II)I"⟩
abbrev cX6_rowsOf : ByteArray := prog_8_method_14_code
def yX6_rowsOf : MethodName := ⟨RX6, "rowsOf", "(I)I"⟩
def RX7 : String := "ShoeHouse$Reader"
def TX7 : u_T := fun k => match k with
  | 0 => ("ShoeHouse$Reader", "text", "[B", true)
  | 1 => ("ShoeHouse$Reader", "plan", "LShoeHouse$Plan;", true)
  | 2 => ("ShoeHouse$Reader", "end", "I", false)
  | 3 => ("ShoeHouse$Reader", "next", "I", false)
  | 4 => ("ShoeHouse$Reader", "token", "I", false)
  | 5 => ("ShoeHouse$Reader", "start", "I", false)
  | 6 => ("ShoeHouse$Reader", "value", "I", false)
  | 7 => ("ShoeHouse$Reader", "fault", "I", false)
  | _ => ("ShoeHouse$Reader", "place", "I", false)
def tyX7 : Nat → FieldType := fun k => match k with
  | 0 => .array .byte
  | 1 => .object "ShoeHouse$Plan"
  | 2 => .int
  | 3 => .int
  | 4 => .int
  | 5 => .int
  | 6 => .int
  | 7 => .int
  | _ => .int
theorem nmX7 : ∀ a, a < 9 → ∀ b, b < 9 → a ≠ b → (TX7 a).2.1 ≠ (TX7 b).2.1 := by decide +kernel
theorem tyX7_ok : ∀ k, k < 9 → parseFieldDescriptor (TX7 k).2.2.1 = some (tyX7 k) := by decide +kernel
abbrev cX7_init : ByteArray := prog_9_method_1_code
def yX7_init : MethodName := ⟨RX7, "<init>", "([BLShoeHouse$Plan;)V"⟩
abbrev cX7_read : ByteArray := prog_9_method_2_code
def yX7_read : MethodName := ⟨RX7, "read", "(I)I"⟩
abbrev cX7_readLine : ByteArray := prog_9_method_3_code
def yX7_readLine : MethodName := ⟨RX7, "readLine", "()V"⟩
abbrev cX7_readRoom : ByteArray := prog_9_method_4_code
def yX7_readRoom : MethodName := ⟨RX7, "readRoom", "()V"⟩
abbrev cX7_readLodger : ByteArray := prog_9_method_5_code
def yX7_readLodger : MethodName := ⟨RX7, "readLodger", "()V"⟩
abbrev cX7_readFinder : ByteArray := prog_9_method_6_code
def yX7_readFinder : MethodName := ⟨RX7, "readFinder", "()V"⟩
abbrev cX7_readMay : ByteArray := prog_9_method_7_code
def yX7_readMay : MethodName := ⟨RX7, "readMay", "()V"⟩
abbrev cX7_readDoing : ByteArray := prog_9_method_8_code
def yX7_readDoing : MethodName := ⟨RX7, "readDoing", "(I)I"⟩
abbrev cX7_readLaw : ByteArray := prog_9_method_9_code
def yX7_readLaw : MethodName := ⟨RX7, "readLaw", "()V"⟩
abbrev cX7_ownDoing : ByteArray := prog_9_method_10_code
def yX7_ownDoing : MethodName := ⟨RX7, "ownDoing", "()I"⟩
abbrev cX7_signTold : ByteArray := prog_9_method_11_code
def yX7_signTold : MethodName := ⟨RX7, "signTold", "()I"⟩
abbrev cX7_isFull : ByteArray := prog_9_method_12_code
def yX7_isFull : MethodName := ⟨RX7, "isFull", "(II)Z"⟩
abbrev cX7_toldNumber : ByteArray := prog_9_method_13_code
def yX7_toldNumber : MethodName := ⟨RX7, "toldNumber", "(I)I"⟩
abbrev cX7_numberWithin : ByteArray := prog_9_method_14_code
def yX7_numberWithin : MethodName := ⟨RX7, "numberWithin", "(II)I"⟩
abbrev cX7_faultOfNumber : ByteArray := prog_9_method_15_code
def yX7_faultOfNumber : MethodName := ⟨RX7, "faultOfNumber", "()I"⟩
abbrev cX7_refuse : ByteArray := prog_9_method_16_code
def yX7_refuse : MethodName := ⟨RX7, "refuse", "(I)I"⟩
abbrev cX7_isWord : ByteArray := prog_9_method_17_code
def yX7_isWord : MethodName := ⟨RX7, "isWord", "(Ljava/lang/String;)Z"⟩
abbrev cX7_advance : ByteArray := prog_9_method_18_code
def yX7_advance : MethodName := ⟨RX7, "advance", "()V"⟩
abbrev cX7_valueHere : ByteArray := prog_9_method_19_code
def yX7_valueHere : MethodName := ⟨RX7, "valueHere", "()I"⟩
abbrev cX7_takeRow : ByteArray := prog_9_method_20_code
def yX7_takeRow : MethodName := ⟨RX7, "takeRow", "(CC)V"⟩
def RX8 : String := "ShoeHouse$Slippers"
def TX8 : u_T := fun k => match k with
  | 0 => ("ShoeHouse$Slippers", "words", "[I", true)
  | 1 => ("ShoeHouse$Slippers", "many", "I", false)
  | _ => ("ShoeHouse$Slippers", "apart", "I", false)
def tyX8 : Nat → FieldType := fun k => match k with
  | 0 => .array .int
  | 1 => .int
  | _ => .int
theorem nmX8 : ∀ a, a < 3 → ∀ b, b < 3 → a ≠ b → (TX8 a).2.1 ≠ (TX8 b).2.1 := by decide +kernel
theorem tyX8_ok : ∀ k, k < 3 → parseFieldDescriptor (TX8 k).2.2.1 = some (tyX8 k) := by decide +kernel
abbrev cX8_init : ByteArray := prog_10_method_1_code
def yX8_init : MethodName := ⟨RX8, "<init>", "()V"⟩
abbrev cX8_lay : ByteArray := prog_10_method_2_code
def yX8_lay : MethodName := ⟨RX8, "lay", "(I)V"⟩
abbrev cX8_isApart : ByteArray := prog_10_method_3_code
def yX8_isApart : MethodName := ⟨RX8, "isApart", "(I)Z"⟩
abbrev cX8_kindsFor : ByteArray := prog_10_method_4_code
def yX8_kindsFor : MethodName := ⟨RX8, "kindsFor", "(I)I"⟩
abbrev cX8_mended : ByteArray := prog_10_method_5_code
def yX8_mended : MethodName := ⟨RX8, "mended", "(II)I"⟩
def RX9 : String := "ShoeHouse$Tape"
def TX9 : u_T := fun k => match k with
  | 0 => ("ShoeHouse$Tape", "bytes", "[B", true)
  | _ => ("ShoeHouse$Tape", "length", "I", false)
def tyX9 : Nat → FieldType := fun k => match k with
  | 0 => .array .byte
  | _ => .int
theorem nmX9 : ∀ a, a < 2 → ∀ b, b < 2 → a ≠ b → (TX9 a).2.1 ≠ (TX9 b).2.1 := by decide +kernel
theorem tyX9_ok : ∀ k, k < 2 → parseFieldDescriptor (TX9 k).2.2.1 = some (tyX9 k) := by decide +kernel
abbrev cX9_init : ByteArray := prog_11_method_1_code
def yX9_init : MethodName := ⟨RX9, "<init>", "()V"⟩
abbrev cX9_hasRoomFor : ByteArray := prog_11_method_2_code
def yX9_hasRoomFor : MethodName := ⟨RX9, "hasRoomFor", "(I)Z"⟩
abbrev cX9_append : ByteArray := prog_11_method_3_code
def yX9_append : MethodName := ⟨RX9, "append", "(I)V"⟩
def RX10 : String := "ShoeHouse$Walk"
def TX10 : u_T := fun k => match k with
  | 0 => ("ShoeHouse$Walk", "plan", "LShoeHouse$Plan;", true)
  | 1 => ("ShoeHouse$Walk", "doors", "LShoeHouse$Doors;", true)
  | 2 => ("ShoeHouse$Walk", "worths", "[I", true)
  | 3 => ("ShoeHouse$Walk", "row", "[I", true)
  | 4 => ("ShoeHouse$Walk", "rooms", "[I", true)
  | 5 => ("ShoeHouse$Walk", "looks", "[I", true)
  | _ => ("ShoeHouse$Walk", "length", "I", false)
def tyX10 : Nat → FieldType := fun k => match k with
  | 0 => .object "ShoeHouse$Plan"
  | 1 => .object "ShoeHouse$Doors"
  | 2 => .array .int
  | 3 => .array .int
  | 4 => .array .int
  | 5 => .array .int
  | _ => .int
theorem nmX10 : ∀ a, a < 7 → ∀ b, b < 7 → a ≠ b → (TX10 a).2.1 ≠ (TX10 b).2.1 := by decide +kernel
theorem tyX10_ok : ∀ k, k < 7 → parseFieldDescriptor (TX10 k).2.2.1 = some (tyX10 k) := by decide +kernel
abbrev cX10_init : ByteArray := prog_12_method_1_code
def yX10_init : MethodName := ⟨RX10, "<init>", "(LShoeHouse$Plan;LShoeHouse$Doors;)V"⟩
abbrev cX10_keepBest : ByteArray := prog_12_method_2_code
def yX10_keepBest : MethodName := ⟨RX10, "keepBest", "(III)I"⟩
abbrev cX10_weigh : ByteArray := prog_12_method_3_code
def yX10_weigh : MethodName := ⟨RX10, "weigh", "(II)V"⟩
abbrev cX10_layRow : ByteArray := prog_12_method_4_code
def yX10_layRow : MethodName := ⟨RX10, "layRow", "(III)Z"⟩
abbrev cX10_worthOfRow : ByteArray := prog_12_method_5_code
def yX10_worthOfRow : MethodName := ⟨RX10, "worthOfRow", "(I)I"⟩
abbrev cX10_isLook : ByteArray := prog_12_method_6_code
def yX10_isLook : MethodName := ⟨RX10, "isLook", "(II)Z"⟩
abbrev cX10_worthAt : ByteArray := prog_12_method_7_code
def yX10_worthAt : MethodName := ⟨RX10, "worthAt", "(I)I"⟩
abbrev cX10_keepRow : ByteArray := prog_12_method_8_code
def yX10_keepRow : MethodName := ⟨RX10, "keepRow", "(I)V"⟩
def RX11 : String := "ShoeHouse"
def TX11 : u_T := fun k => match k with
  | 0 => ("ShoeHouse", "tape", "LShoeHouse$Tape;", true)
  | 1 => ("ShoeHouse", "plan", "LShoeHouse$Plan;", true)
  | 2 => ("ShoeHouse", "draft", "LShoeHouse$Plan;", true)
  | 3 => ("ShoeHouse", "reader", "LShoeHouse$Reader;", true)
  | 4 => ("ShoeHouse", "now", "LShoeHouse$Affairs;", true)
  | 5 => ("ShoeHouse", "kept", "LShoeHouse$Affairs;", true)
  | 6 => ("ShoeHouse", "doors", "LShoeHouse$Doors;", true)
  | 7 => ("ShoeHouse", "held", "LShoeHouse$Cases;", true)
  | 8 => ("ShoeHouse", "deceit", "LShoeHouse$Deceit;", true)
  | 9 => ("ShoeHouse", "walk", "LShoeHouse$Walk;", true)
  | 10 => ("ShoeHouse", "game", "LShoeHouse$Game;", true)
  | 11 => ("ShoeHouse", "lending", "LShoeHouse$Lending;", true)
  | 12 => ("ShoeHouse", "slippers", "LShoeHouse$Slippers;", true)
  | 13 => ("ShoeHouse", "refused", "[I", true)
  | 14 => ("ShoeHouse", "faultPlace", "I", false)
  | _ => ("ShoeHouse", "isKept", "Z", false)
def tyX11 : Nat → FieldType := fun k => match k with
  | 0 => .object "ShoeHouse$Tape"
  | 1 => .object "ShoeHouse$Plan"
  | 2 => .object "ShoeHouse$Plan"
  | 3 => .object "ShoeHouse$Reader"
  | 4 => .object "ShoeHouse$Affairs"
  | 5 => .object "ShoeHouse$Affairs"
  | 6 => .object "ShoeHouse$Doors"
  | 7 => .object "ShoeHouse$Cases"
  | 8 => .object "ShoeHouse$Deceit"
  | 9 => .object "ShoeHouse$Walk"
  | 10 => .object "ShoeHouse$Game"
  | 11 => .object "ShoeHouse$Lending"
  | 12 => .object "ShoeHouse$Slippers"
  | 13 => .array .int
  | 14 => .int
  | _ => .boolean
theorem nmX11 : ∀ a, a < 16 → ∀ b, b < 16 → a ≠ b → (TX11 a).2.1 ≠ (TX11 b).2.1 := by decide +kernel
theorem tyX11_ok : ∀ k, k < 16 → parseFieldDescriptor (TX11 k).2.2.1 = some (tyX11 k) := by decide +kernel
abbrev cX11_init : ByteArray := prog_1_method_1_code
def yX11_init : MethodName := ⟨RX11, "<init>", "()V"⟩
abbrev cX11_feed : ByteArray := prog_1_method_2_code
def yX11_feed : MethodName := ⟨RX11, "feed", "(IIIII)I"⟩
abbrev cX11_house : ByteArray := prog_1_method_3_code
def yX11_house : MethodName := ⟨RX11, "house", "(I)I"⟩
abbrev cX11_fault : ByteArray := prog_1_method_4_code
def yX11_fault : MethodName := ⟨RX11, "fault", "()I"⟩
abbrev cX11_count : ByteArray := prog_1_method_5_code
def yX11_count : MethodName := ⟨RX11, "count", "(I)I"⟩
abbrev cX11_room : ByteArray := prog_1_method_6_code
def yX11_room : MethodName := ⟨RX11, "room", "(II)I"⟩
abbrev cX11_lodger : ByteArray := prog_1_method_7_code
def yX11_lodger : MethodName := ⟨RX11, "lodger", "(II)I"⟩
abbrev cX11_may : ByteArray := prog_1_method_8_code
def yX11_may : MethodName := ⟨RX11, "may", "(III)I"⟩
abbrev cX11_says : ByteArray := prog_1_method_9_code
def yX11_says : MethodName := ⟨RX11, "says", "(II)I"⟩
abbrev cX11_lend : ByteArray := prog_1_method_10_code
def yX11_lend : MethodName := ⟨RX11, "lend", "(III)I"⟩
abbrev cX11_back : ByteArray := prog_1_method_11_code
def yX11_back : MethodName := ⟨RX11, "back", "()I"⟩
abbrev cX11_draw : ByteArray := prog_1_method_12_code
def yX11_draw : MethodName := ⟨RX11, "draw", "(I)V"⟩
abbrev cX11_does : ByteArray := prog_1_method_13_code
def yX11_does : MethodName := ⟨RX11, "does", "(II)I"⟩
abbrev cX11_sign : ByteArray := prog_1_method_14_code
def yX11_sign : MethodName := ⟨RX11, "sign", "(II)I"⟩
abbrev cX11_look : ByteArray := prog_1_method_15_code
def yX11_look : MethodName := ⟨RX11, "look", "(III)I"⟩
abbrev cX11_theft : ByteArray := prog_1_method_16_code
def yX11_theft : MethodName := ⟨RX11, "theft", "(II)I"⟩
abbrev cX11_see : ByteArray := prog_1_method_17_code
def yX11_see : MethodName := ⟨RX11, "see", "(III)I"⟩
abbrev cX11_forget : ByteArray := prog_1_method_18_code
def yX11_forget : MethodName := ⟨RX11, "forget", "()I"⟩
abbrev cX11_cases : ByteArray := prog_1_method_19_code
def yX11_cases : MethodName := ⟨RX11, "cases", "()I"⟩
abbrev cX11_inCase : ByteArray := prog_1_method_20_code
def yX11_inCase : MethodName := ⟨RX11, "inCase", "(II)I"⟩
abbrev cX11_sure : ByteArray := prog_1_method_21_code
def yX11_sure : MethodName := ⟨RX11, "sure", "(I)I"⟩
abbrev cX11_where : ByteArray := prog_1_method_22_code
def yX11_where : MethodName := ⟨RX11, "where", "(I)I"⟩
abbrev cX11_misled : ByteArray := prog_1_method_23_code
def yX11_misled : MethodName := ⟨RX11, "misled", "(III)I"⟩
abbrev cX11_chance : ByteArray := prog_1_method_24_code
def yX11_chance : MethodName := ⟨RX11, "chance", "(II)I"⟩
abbrev cX11_round : ByteArray := prog_1_method_25_code
def yX11_round : MethodName := ⟨RX11, "round", "(III)I"⟩
abbrev cX11_path : ByteArray := prog_1_method_26_code
def yX11_path : MethodName := ⟨RX11, "path", "(II)I"⟩
abbrev cX11_rests : ByteArray := prog_1_method_27_code
def yX11_rests : MethodName := ⟨RX11, "rests", "(III)I"⟩
abbrev cX11_fewest : ByteArray := prog_1_method_28_code
def yX11_fewest : MethodName := ⟨RX11, "fewest", "(II)I"⟩
abbrev cX11_lender : ByteArray := prog_1_method_29_code
def yX11_lender : MethodName := ⟨RX11, "lender", "(I)I"⟩
abbrev cX11_kinds : ByteArray := prog_1_method_30_code
def yX11_kinds : MethodName := ⟨RX11, "kinds", "(II)I"⟩
abbrev cX11_word : ByteArray := prog_1_method_31_code
def yX11_word : MethodName := ⟨RX11, "word", "(II)I"⟩
abbrev cX11_mend : ByteArray := prog_1_method_32_code
def yX11_mend : MethodName := ⟨RX11, "mend", "(III)I"⟩
abbrev cX11_fire : ByteArray := prog_1_method_33_code
def yX11_fire : MethodName := ⟨RX11, "fire", "(IIIII)J"⟩
abbrev cX11_image : ByteArray := prog_1_method_34_code
def yX11_image : MethodName := ⟨RX11, "image", "()V"⟩
abbrev cX11_restore : ByteArray := prog_1_method_35_code
def yX11_restore : MethodName := ⟨RX11, "restore", "()Z"⟩
abbrev cX11_needRoom : ByteArray := prog_1_method_36_code
def yX11_needRoom : MethodName := ⟨RX11, "needRoom", "(I)V"⟩
abbrev cX11_needLodger : ByteArray := prog_1_method_37_code
def yX11_needLodger : MethodName := ⟨RX11, "needLodger", "(I)V"⟩
abbrev cX11_needHour : ByteArray := prog_1_method_38_code
def yX11_needHour : MethodName := ⟨RX11, "needHour", "(I)V"⟩
abbrev cX11_needOneOf : ByteArray := prog_1_method_39_code
def yX11_needOneOf : MethodName := ⟨RX11, "needOneOf", "(II)V"⟩
abbrev cX11_needWordCount : ByteArray := prog_1_method_40_code
def yX11_needWordCount : MethodName := ⟨RX11, "needWordCount", "(I)V"⟩
abbrev cX11_needApart : ByteArray := prog_1_method_41_code
def yX11_needApart : MethodName := ⟨RX11, "needApart", "(I)V"⟩
abbrev cX11_hourOfTheft : ByteArray := prog_1_method_42_code
def yX11_hourOfTheft : MethodName := ⟨RX11, "hourOfTheft", "(I)I"⟩
abbrev cX11_finderAt : ByteArray := prog_1_method_43_code
def yX11_finderAt : MethodName := ⟨RX11, "finderAt", "(II)I"⟩
abbrev cX11_partOfEscape : ByteArray := prog_1_method_44_code
def yX11_partOfEscape : MethodName := ⟨RX11, "partOfEscape", "(III)I"⟩
abbrev cX11_commonPart : ByteArray := prog_1_method_45_code
def yX11_commonPart : MethodName := ⟨RX11, "commonPart", "(II)I"⟩
abbrev cX11_nthBit : ByteArray := prog_1_method_46_code
def yX11_nthBit : MethodName := ⟨RX11, "nthBit", "(II)I"⟩
def RX12 : String := "ShoeHouseModel"
def TX12 : u_T := fun k => match k with
  | 0 => ("ShoeHouseModel", "thrown", "I", false)
  | 1 => ("ShoeHouseModel", "rooms", "I", false)
  | 2 => ("ShoeHouseModel", "lodgers", "I", false)
  | 3 => ("ShoeHouseModel", "finders", "I", false)
  | 4 => ("ShoeHouseModel", "mays", "I", false)
  | 5 => ("ShoeHouseModel", "goods", "[I", true)
  | 6 => ("ShoeHouseModel", "whose", "[I", true)
  | 7 => ("ShoeHouseModel", "home", "[I", true)
  | 8 => ("ShoeHouseModel", "shoes", "[I", true)
  | 9 => ("ShoeHouseModel", "begins", "[I", true)
  | 10 => ("ShoeHouseModel", "law", "[I", true)
  | 11 => ("ShoeHouseModel", "may", "[I", true)
  | 12 => ("ShoeHouseModel", "tape", "[I", true)
  | 13 => ("ShoeHouseModel", "taped", "I", false)
  | 14 => ("ShoeHouseModel", "faultKind", "I", false)
  | 15 => ("ShoeHouseModel", "faultPlace", "I", false)
  | 16 => ("ShoeHouseModel", "refused", "[I", true)
  | 17 => ("ShoeHouseModel", "size", "I", false)
  | 18 => ("ShoeHouseModel", "next", "I", false)
  | 19 => ("ShoeHouseModel", "sort", "I", false)
  | 20 => ("ShoeHouseModel", "place", "I", false)
  | 21 => ("ShoeHouseModel", "long0", "I", false)
  | 22 => ("ShoeHouseModel", "value", "I", false)
  | 23 => ("ShoeHouseModel", "word", "J", false)
  | 24 => ("ShoeHouseModel", "newRooms", "I", false)
  | 25 => ("ShoeHouseModel", "newLodgers", "I", false)
  | 26 => ("ShoeHouseModel", "newFinders", "I", false)
  | 27 => ("ShoeHouseModel", "newMays", "I", false)
  | 28 => ("ShoeHouseModel", "toldLaw", "I", false)
  | 29 => ("ShoeHouseModel", "newGoods", "[I", true)
  | 30 => ("ShoeHouseModel", "newWhose", "[I", true)
  | 31 => ("ShoeHouseModel", "newHome", "[I", true)
  | 32 => ("ShoeHouseModel", "newShoes", "[I", true)
  | 33 => ("ShoeHouseModel", "newBegins", "[I", true)
  | 34 => ("ShoeHouseModel", "newLaw", "[I", true)
  | 35 => ("ShoeHouseModel", "newMay", "[I", true)
  | 36 => ("ShoeHouseModel", "lent", "I", false)
  | 37 => ("ShoeHouseModel", "lending", "[I", true)
  | 38 => ("ShoeHouseModel", "day", "[I", true)
  | 39 => ("ShoeHouseModel", "looks", "[I", true)
  | 40 => ("ShoeHouseModel", "seenHour", "I", false)
  | 41 => ("ShoeHouseModel", "seenRooms", "I", false)
  | 42 => ("ShoeHouseModel", "seen", "[I", true)
  | 43 => ("ShoeHouseModel", "act", "[I", true)
  | 44 => ("ShoeHouseModel", "caseOf", "[I", true)
  | 45 => ("ShoeHouseModel", "cases", "I", false)
  | 46 => ("ShoeHouseModel", "doors", "[I", true)
  | 47 => ("ShoeHouseModel", "real", "[I", true)
  | 48 => ("ShoeHouseModel", "gains", "[I", true)
  | 49 => ("ShoeHouseModel", "path", "[I", true)
  | 50 => ("ShoeHouseModel", "kept", "[I", true)
  | 51 => ("ShoeHouseModel", "keptLook", "[I", true)
  | 52 => ("ShoeHouseModel", "pathLong", "I", false)
  | 53 => ("ShoeHouseModel", "spot", "[I", true)
  | 54 => ("ShoeHouseModel", "firstSpot", "[I", true)
  | 55 => ("ShoeHouseModel", "worth", "[I", true)
  | 56 => ("ShoeHouseModel", "hasLending", "Z", false)
  | 57 => ("ShoeHouseModel", "gets", "[I", true)
  | 58 => ("ShoeHouseModel", "keptGets", "[I", true)
  | 59 => ("ShoeHouseModel", "from", "I", false)
  | 60 => ("ShoeHouseModel", "to", "I", false)
  | 61 => ("ShoeHouseModel", "words", "[I", true)
  | 62 => ("ShoeHouseModel", "many", "I", false)
  | 63 => ("ShoeHouseModel", "hasImage", "Z", false)
  | 64 => ("ShoeHouseModel", "imageOf", "[I", true)
  | 65 => ("ShoeHouseModel", "imageLending", "[I", true)
  | 66 => ("ShoeHouseModel", "imageSeen", "[I", true)
  | 67 => ("ShoeHouseModel", "imageDay", "[I", true)
  | _ => ("ShoeHouseModel", "imageLooks", "[I", true)
def tyX12 : Nat → FieldType := fun k => match k with
  | 0 => .int
  | 1 => .int
  | 2 => .int
  | 3 => .int
  | 4 => .int
  | 5 => .array .int
  | 6 => .array .int
  | 7 => .array .int
  | 8 => .array .int
  | 9 => .array .int
  | 10 => .array .int
  | 11 => .array .int
  | 12 => .array .int
  | 13 => .int
  | 14 => .int
  | 15 => .int
  | 16 => .array .int
  | 17 => .int
  | 18 => .int
  | 19 => .int
  | 20 => .int
  | 21 => .int
  | 22 => .int
  | 23 => .long
  | 24 => .int
  | 25 => .int
  | 26 => .int
  | 27 => .int
  | 28 => .int
  | 29 => .array .int
  | 30 => .array .int
  | 31 => .array .int
  | 32 => .array .int
  | 33 => .array .int
  | 34 => .array .int
  | 35 => .array .int
  | 36 => .int
  | 37 => .array .int
  | 38 => .array .int
  | 39 => .array .int
  | 40 => .int
  | 41 => .int
  | 42 => .array .int
  | 43 => .array .int
  | 44 => .array .int
  | 45 => .int
  | 46 => .array .int
  | 47 => .array .int
  | 48 => .array .int
  | 49 => .array .int
  | 50 => .array .int
  | 51 => .array .int
  | 52 => .int
  | 53 => .array .int
  | 54 => .array .int
  | 55 => .array .int
  | 56 => .boolean
  | 57 => .array .int
  | 58 => .array .int
  | 59 => .int
  | 60 => .int
  | 61 => .array .int
  | 62 => .int
  | 63 => .boolean
  | 64 => .array .int
  | 65 => .array .int
  | 66 => .array .int
  | 67 => .array .int
  | _ => .array .int
theorem nmX12 : ∀ a, a < 69 → ∀ b, b < 69 → a ≠ b → (TX12 a).2.1 ≠ (TX12 b).2.1 := by decide +kernel
theorem tyX12_ok : ∀ k, k < 69 → parseFieldDescriptor (TX12 k).2.2.1 = some (tyX12 k) := by decide +kernel
abbrev cX12_init : ByteArray := prog_14_method_1_code
def yX12_init : MethodName := ⟨RX12, "<init>", "()V"⟩
abbrev cX12_thrown : ByteArray := prog_14_method_2_code
def yX12_thrown : MethodName := ⟨RX12, "thrown", "()I"⟩
abbrev cX12_right : ByteArray := prog_14_method_3_code
def yX12_right : MethodName := ⟨RX12, "right", "(ZI)Z"⟩
abbrev cX12_within : ByteArray := prog_14_method_4_code
def yX12_within : MethodName := ⟨RX12, "within", "(III)Z"⟩
abbrev cX12_off : ByteArray := prog_14_method_5_code
def yX12_off : MethodName := ⟨RX12, "off", "(II)I"⟩
abbrev cX12_bits : ByteArray := prog_14_method_6_code
def yX12_bits : MethodName := ⟨RX12, "bits", "(I)I"⟩
abbrev cX12_copies : ByteArray := prog_14_method_7_code
def yX12_copies : MethodName := ⟨RX12, "copies", "([I[I)V"⟩
abbrev cX12_feed : ByteArray := prog_14_method_8_code
def yX12_feed : MethodName := ⟨RX12, "feed", "(IIIII)I"⟩
abbrev cX12_lays : ByteArray := prog_14_method_9_code
def yX12_lays : MethodName := ⟨RX12, "lays", "(I)V"⟩
abbrev cX12_byteAt : ByteArray := prog_14_method_10_code
def yX12_byteAt : MethodName := ⟨RX12, "byteAt", "(I)I"⟩
abbrev cX12_isLetter : ByteArray := prog_14_method_11_code
def yX12_isLetter : MethodName := ⟨RX12, "isLetter", "(I)Z"⟩
abbrev cX12_isDigit : ByteArray := prog_14_method_12_code
def yX12_isDigit : MethodName := ⟨RX12, "isDigit", "(I)Z"⟩
abbrev cX12_steps : ByteArray := prog_14_method_13_code
def yX12_steps : MethodName := ⟨RX12, "steps", "()V"⟩
abbrev cX12_spelled : ByteArray := prog_14_method_14_code
def yX12_spelled : MethodName := ⟨RX12, "spelled", "(IIIIII)J"⟩
abbrev cX12_letters : ByteArray := prog_14_method_15_code
def yX12_letters : MethodName := ⟨RX12, "letters", "(I)J"⟩
abbrev cX12_is : ByteArray := prog_14_method_16_code
def yX12_is : MethodName := ⟨RX12, "is", "(I)Z"⟩
abbrev cX12_wrong : ByteArray := prog_14_method_17_code
def yX12_wrong : MethodName := ⟨RX12, "wrong", "(I)V"⟩
abbrev cX12_isGood : ByteArray := prog_14_method_18_code
def yX12_isGood : MethodName := ⟨RX12, "isGood", "()Z"⟩
abbrev cX12_need : ByteArray := prog_14_method_19_code
def yX12_need : MethodName := ⟨RX12, "need", "(Z)V"⟩
abbrev cX12_number : ByteArray := prog_14_method_20_code
def yX12_number : MethodName := ⟨RX12, "number", "(II)I"⟩
abbrev cX12_amongHere : ByteArray := prog_14_method_21_code
def yX12_amongHere : MethodName := ⟨RX12, "amongHere", "(I)Z"⟩
abbrev cX12_among : ByteArray := prog_14_method_22_code
def yX12_among : MethodName := ⟨RX12, "among", "(I)I"⟩
abbrev cX12_oneOf : ByteArray := prog_14_method_23_code
def yX12_oneOf : MethodName := ⟨RX12, "oneOf", "(II)I"⟩
abbrev cX12_readsLodger : ByteArray := prog_14_method_24_code
def yX12_readsLodger : MethodName := ⟨RX12, "readsLodger", "()V"⟩
abbrev cX12_readsMay : ByteArray := prog_14_method_25_code
def yX12_readsMay : MethodName := ⟨RX12, "readsMay", "()V"⟩
abbrev cX12_line : ByteArray := prog_14_method_26_code
def yX12_line : MethodName := ⟨RX12, "line", "()V"⟩
abbrev cX12_house : ByteArray := prog_14_method_27_code
def yX12_house : MethodName := ⟨RX12, "house", "(I)I"⟩
abbrev cX12_fault : ByteArray := prog_14_method_28_code
def yX12_fault : MethodName := ⟨RX12, "fault", "()I"⟩
abbrev cX12_lowest : ByteArray := prog_14_method_29_code
def yX12_lowest : MethodName := ⟨RX12, "lowest", "(I)I"⟩
abbrev cX12_count : ByteArray := prog_14_method_30_code
def yX12_count : MethodName := ⟨RX12, "count", "(I)I"⟩
abbrev cX12_isRoom : ByteArray := prog_14_method_31_code
def yX12_isRoom : MethodName := ⟨RX12, "isRoom", "(I)Z"⟩
abbrev cX12_isLodger : ByteArray := prog_14_method_32_code
def yX12_isLodger : MethodName := ⟨RX12, "isLodger", "(I)Z"⟩
abbrev cX12_isFinder : ByteArray := prog_14_method_33_code
def yX12_isFinder : MethodName := ⟨RX12, "isFinder", "(I)Z"⟩
abbrev cX12_isHour : ByteArray := prog_14_method_34_code
def yX12_isHour : MethodName := ⟨RX12, "isHour", "(I)Z"⟩
abbrev cX12_isTwo : ByteArray := prog_14_method_35_code
def yX12_isTwo : MethodName := ⟨RX12, "isTwo", "(I)Z"⟩
abbrev cX12_room : ByteArray := prog_14_method_36_code
def yX12_room : MethodName := ⟨RX12, "room", "(II)I"⟩
abbrev cX12_has : ByteArray := prog_14_method_37_code
def yX12_has : MethodName := ⟨RX12, "has", "(II)I"⟩
abbrev cX12_both : ByteArray := prog_14_method_38_code
def yX12_both : MethodName := ⟨RX12, "both", "(I)I"⟩
abbrev cX12_lawOf : ByteArray := prog_14_method_39_code
def yX12_lawOf : MethodName := ⟨RX12, "lawOf", "(I)I"⟩
abbrev cX12_signOf : ByteArray := prog_14_method_40_code
def yX12_signOf : MethodName := ⟨RX12, "signOf", "(II)I"⟩
abbrev cX12_lodger : ByteArray := prog_14_method_41_code
def yX12_lodger : MethodName := ⟨RX12, "lodger", "(II)I"⟩
abbrev cX12_toldOf : ByteArray := prog_14_method_42_code
def yX12_toldOf : MethodName := ⟨RX12, "toldOf", "(I)I"⟩
abbrev cX12_may : ByteArray := prog_14_method_43_code
def yX12_may : MethodName := ⟨RX12, "may", "(III)I"⟩
abbrev cX12_says : ByteArray := prog_14_method_44_code
def yX12_says : MethodName := ⟨RX12, "says", "(II)I"⟩
abbrev cX12_refuses : ByteArray := prog_14_method_45_code
def yX12_refuses : MethodName := ⟨RX12, "refuses", "(I)I"⟩
abbrev cX12_lend : ByteArray := prog_14_method_46_code
def yX12_lend : MethodName := ⟨RX12, "lend", "(III)I"⟩
abbrev cX12_back : ByteArray := prog_14_method_47_code
def yX12_back : MethodName := ⟨RX12, "back", "()I"⟩
abbrev cX12_draw : ByteArray := prog_14_method_48_code
def yX12_draw : MethodName := ⟨RX12, "draw", "(I)V"⟩
abbrev cX12_does : ByteArray := prog_14_method_49_code
def yX12_does : MethodName := ⟨RX12, "does", "(II)I"⟩
abbrev cX12_signAt : ByteArray := prog_14_method_50_code
def yX12_signAt : MethodName := ⟨RX12, "signAt", "(II)I"⟩
abbrev cX12_sign : ByteArray := prog_14_method_51_code
def yX12_sign : MethodName := ⟨RX12, "sign", "(II)I"⟩
abbrev cX12_look : ByteArray := prog_14_method_52_code
def yX12_look : MethodName := ⟨RX12, "look", "(III)I"⟩
abbrev cX12_theft : ByteArray := prog_14_method_53_code
def yX12_theft : MethodName := ⟨RX12, "theft", "(II)I"⟩
abbrev cX12_see : ByteArray := prog_14_method_54_code
def yX12_see : MethodName := ⟨RX12, "see", "(III)I"⟩
abbrev cX12_forget : ByteArray := prog_14_method_55_code
def yX12_forget : MethodName := ⟨RX12, "forget", "()I"⟩
abbrev cX12_hour : ByteArray := prog_14_method_56_code
def yX12_hour : MethodName := ⟨RX12, "hour", "()I"⟩
abbrev cX12_behind : ByteArray := prog_14_method_57_code
def yX12_behind : MethodName := ⟨RX12, "behind", "(III)I"⟩
abbrev cX12_counts : ByteArray := prog_14_method_58_code
def yX12_counts : MethodName := ⟨RX12, "counts", "(I)Z"⟩
abbrev cX12_isSpent : ByteArray := prog_14_method_59_code
def yX12_isSpent : MethodName := ⟨RX12, "isSpent", "(I)Z"⟩
abbrev cX12_fits : ByteArray := prog_14_method_60_code
def yX12_fits : MethodName := ⟨RX12, "fits", "(I[I)Z"⟩
abbrev cX12_seeks : ByteArray := prog_14_method_61_code
def yX12_seeks : MethodName := ⟨RX12, "seeks", "(II[I)V"⟩
abbrev cX12_cases : ByteArray := prog_14_method_62_code
def yX12_cases : MethodName := ⟨RX12, "cases", "()I"⟩
abbrev cX12_inCase : ByteArray := prog_14_method_63_code
def yX12_inCase : MethodName := ⟨RX12, "inCase", "(II)I"⟩
abbrev cX12_roomOf : ByteArray := prog_14_method_64_code
def yX12_roomOf : MethodName := ⟨RX12, "roomOf", "(II)I"⟩
abbrev cX12_isSomebody : ByteArray := prog_14_method_65_code
def yX12_isSomebody : MethodName := ⟨RX12, "isSomebody", "(II)Z"⟩
abbrev cX12_with : ByteArray := prog_14_method_66_code
def yX12_with : MethodName := ⟨RX12, "with", "(I)I"⟩
abbrev cX12_sure : ByteArray := prog_14_method_67_code
def yX12_sure : MethodName := ⟨RX12, "sure", "(I)I"⟩
abbrev cX12_where : ByteArray := prog_14_method_68_code
def yX12_where : MethodName := ⟨RX12, "where", "(I)I"⟩
abbrev cX12_turnsDoors : ByteArray := prog_14_method_69_code
def yX12_turnsDoors : MethodName := ⟨RX12, "turnsDoors", "(I)Z"⟩
abbrev cX12_another : ByteArray := prog_14_method_70_code
def yX12_another : MethodName := ⟨RX12, "another", "(II)I"⟩
abbrev cX12_misleads : ByteArray := prog_14_method_71_code
def yX12_misleads : MethodName := ⟨RX12, "misleads", "(III)Z"⟩
abbrev cX12_misled : ByteArray := prog_14_method_72_code
def yX12_misled : MethodName := ⟨RX12, "misled", "(III)I"⟩
abbrev cX12_chanceOf : ByteArray := prog_14_method_73_code
def yX12_chanceOf : MethodName := ⟨RX12, "chanceOf", "(II)I"⟩
abbrev cX12_chance : ByteArray := prog_14_method_74_code
def yX12_chance : MethodName := ⟨RX12, "chance", "(II)I"⟩
abbrev cX12_bestOf : ByteArray := prog_14_method_75_code
def yX12_bestOf : MethodName := ⟨RX12, "bestOf", "(II)I"⟩
abbrev cX12_all : ByteArray := prog_14_method_76_code
def yX12_all : MethodName := ⟨RX12, "all", "(I)I"⟩
abbrev cX12_turnsPath : ByteArray := prog_14_method_77_code
def yX12_turnsPath : MethodName := ⟨RX12, "turnsPath", "(I)Z"⟩
abbrev cX12_round : ByteArray := prog_14_method_78_code
def yX12_round : MethodName := ⟨RX12, "round", "(III)I"⟩
abbrev cX12_path : ByteArray := prog_14_method_79_code
def yX12_path : MethodName := ⟨RX12, "path", "(II)I"⟩
abbrev cX12_there : ByteArray := prog_14_method_80_code
def yX12_there : MethodName := ⟨RX12, "there", "(II)I"⟩
abbrev cX12_isRest : ByteArray := prog_14_method_81_code
def yX12_isRest : MethodName := ⟨RX12, "isRest", "(I)Z"⟩
abbrev cX12_rests : ByteArray := prog_14_method_82_code
def yX12_rests : MethodName := ⟨RX12, "rests", "(III)I"⟩
abbrev cX12_isNeedy : ByteArray := prog_14_method_83_code
def yX12_isNeedy : MethodName := ⟨RX12, "isNeedy", "(II)Z"⟩
abbrev cX12_isFree : ByteArray := prog_14_method_84_code
def yX12_isFree : MethodName := ⟨RX12, "isFree", "(II)Z"⟩
abbrev cX12_given : ByteArray := prog_14_method_85_code
def yX12_given : MethodName := ⟨RX12, "given", "(II)I"⟩
abbrev cX12_lendable : ByteArray := prog_14_method_86_code
def yX12_lendable : MethodName := ⟨RX12, "lendable", "(II)I"⟩
abbrev cX12_fewest : ByteArray := prog_14_method_87_code
def yX12_fewest : MethodName := ⟨RX12, "fewest", "(II)I"⟩
abbrev cX12_lender : ByteArray := prog_14_method_88_code
def yX12_lender : MethodName := ⟨RX12, "lender", "(I)I"⟩
abbrev cX12_apart : ByteArray := prog_14_method_89_code
def yX12_apart : MethodName := ⟨RX12, "apart", "(II)I"⟩
abbrev cX12_spells : ByteArray := prog_14_method_90_code
def yX12_spells : MethodName := ⟨RX12, "spells", "(I)V"⟩
abbrev cX12_isCode : ByteArray := prog_14_method_91_code
def yX12_isCode : MethodName := ⟨RX12, "isCode", "(II)Z"⟩
abbrev cX12_kinds : ByteArray := prog_14_method_92_code
def yX12_kinds : MethodName := ⟨RX12, "kinds", "(II)I"⟩
abbrev cX12_word : ByteArray := prog_14_method_93_code
def yX12_word : MethodName := ⟨RX12, "word", "(II)I"⟩
abbrev cX12_mend : ByteArray := prog_14_method_94_code
def yX12_mend : MethodName := ⟨RX12, "mend", "(III)I"⟩
abbrev cX12_fire : ByteArray := prog_14_method_95_code
def yX12_fire : MethodName := ⟨RX12, "fire", "(IIIII)J"⟩
abbrev cX12_image : ByteArray := prog_14_method_96_code
def yX12_image : MethodName := ⟨RX12, "image", "()V"⟩
abbrev cX12_restore : ByteArray := prog_14_method_97_code
def yX12_restore : MethodName := ⟨RX12, "restore", "()Z"⟩
def RJx145de : String := "java/io/Serializable"
def RJx9f9b0 : String := "java/lang/CharSequence"
def RJxb160c : String := "java/lang/Comparable"
def RJ6 : String := "java/lang/Integer"
abbrev cJ6_bitCount_0f7a4 : ByteArray := prog_20_method_49_code
def yJ6_bitCount_0f7a4 : MethodName := ⟨RJ6, "bitCount", "(I)I"⟩
def RJ9 : String := "java/lang/Math"
abbrev cJ9_abs_0f7a4 : ByteArray := prog_21_method_59_code
def yJ9_abs_0f7a4 : MethodName := ⟨RJ9, "abs", "(I)I"⟩
abbrev cJ9_max_7cf53 : ByteArray := prog_21_method_65_code
def yJ9_max_7cf53 : MethodName := ⟨RJ9, "max", "(II)I"⟩
abbrev cJ9_min_7cf53 : ByteArray := prog_21_method_69_code
def yJ9_min_7cf53 : MethodName := ⟨RJ9, "min", "(II)I"⟩
def RJ0 : String := "java/lang/String"
abbrev cJ0_length_8abf5 : ByteArray := prog_23_method_54_code
def yJ0_length_8abf5 : MethodName := ⟨RJ0, "length", "()I"⟩
abbrev cJ0_charAt_5068e : ByteArray := prog_23_method_56_code
def yJ0_charAt_5068e : MethodName := ⟨RJ0, "charAt", "(I)C"⟩
abbrev cJ0_coder_7d493 : ByteArray := prog_23_method_152_code
def yJ0_coder_7d493 : MethodName := ⟨RJ0, "coder", "()B"⟩
abbrev cJ0_isLatin1_aae02 : ByteArray := prog_23_method_154_code
def yJ0_isLatin1_aae02 : MethodName := ⟨RJ0, "isLatin1", "()Z"⟩
abbrev cJ0_checkIndex_df160 : ByteArray := prog_23_method_155_code
def yJ0_checkIndex_df160 : MethodName := ⟨RJ0, "checkIndex", "(II)V"⟩
def RJ1 : String := "java/lang/StringLatin1"
abbrev cJ1_charAt_3b067 : ByteArray := prog_24_method_2_code
def yJ1_charAt_3b067 : MethodName := ⟨RJ1, "charAt", "([BI)C"⟩
def RJ2 : String := "java/lang/StringUTF16"
abbrev cJ2_getChar_3b067 : ByteArray := prog_25_method_5_code
def yJ2_getChar_3b067 : MethodName := ⟨RJ2, "getChar", "([BI)C"⟩
abbrev cJ2_length_9d52b : ByteArray := prog_25_method_6_code
def yJ2_length_9d52b : MethodName := ⟨RJ2, "length", "([B)I"⟩
abbrev cJ2_charAt_3b067 : ByteArray := prog_25_method_83_code
def yJ2_charAt_3b067 : MethodName := ⟨RJ2, "charAt", "([BI)C"⟩
abbrev cJ2_checkIndex_2214a : ByteArray := prog_25_method_91_code
def yJ2_checkIndex_2214a : MethodName := ⟨RJ2, "checkIndex", "(I[B)V"⟩
def RJ10 : String := "java/lang/System"
def RJxfd54e : String := "java/lang/constant/Constable"
def RJx3cf43 : String := "java/lang/constant/ConstantDesc"
def RJ7 : String := "java/util/Arrays"
abbrev cJ7_fill_53178 : ByteArray := prog_30_method_103_code
def yJ7_fill_53178 : MethodName := ⟨RJ7, "fill", "([II)V"⟩
def RJ3 : String := "jdk/internal/util/Preconditions"
abbrev cJ3_checkIndex_8e157 : ByteArray := prog_32_method_11_code
def yJ3_checkIndex_8e157 : MethodName := ⟨RJ3, "checkIndex", "(IILjava/util/function/BiFunction;)I"⟩
def RL : String := "ShoeHouseLaw"
abbrev cL_house : ByteArray := method_3_code
def yL_house : MethodName := ⟨RL, "house", "(LShoeHouse;I[J)I"⟩
abbrev cL_count : ByteArray := method_4_code
def yL_count : MethodName := ⟨RL, "count", "(LShoeHouse;I[J)I"⟩
abbrev cL_room : ByteArray := method_5_code
def yL_room : MethodName := ⟨RL, "room", "(LShoeHouse;II[J)I"⟩
abbrev cL_lodger : ByteArray := method_6_code
def yL_lodger : MethodName := ⟨RL, "lodger", "(LShoeHouse;II[J)I"⟩
abbrev cL_may : ByteArray := method_7_code
def yL_may : MethodName := ⟨RL, "may", "(LShoeHouse;III[J)I"⟩
abbrev cL_says : ByteArray := method_8_code
def yL_says : MethodName := ⟨RL, "says", "(LShoeHouse;II[J)I"⟩
abbrev cL_lend : ByteArray := method_9_code
def yL_lend : MethodName := ⟨RL, "lend", "(LShoeHouse;III[J)I"⟩
abbrev cL_does : ByteArray := method_10_code
def yL_does : MethodName := ⟨RL, "does", "(LShoeHouse;II[J)I"⟩
abbrev cL_sign : ByteArray := method_11_code
def yL_sign : MethodName := ⟨RL, "sign", "(LShoeHouse;II[J)I"⟩
abbrev cL_look : ByteArray := method_12_code
def yL_look : MethodName := ⟨RL, "look", "(LShoeHouse;III[J)I"⟩
abbrev cL_theft : ByteArray := method_13_code
def yL_theft : MethodName := ⟨RL, "theft", "(LShoeHouse;II[J)I"⟩
abbrev cL_see : ByteArray := method_14_code
def yL_see : MethodName := ⟨RL, "see", "(LShoeHouse;III[J)I"⟩
abbrev cL_inCase : ByteArray := method_15_code
def yL_inCase : MethodName := ⟨RL, "inCase", "(LShoeHouse;II[J)I"⟩
abbrev cL_sure : ByteArray := method_16_code
def yL_sure : MethodName := ⟨RL, "sure", "(LShoeHouse;I[J)I"⟩
abbrev cL_where : ByteArray := method_17_code
def yL_where : MethodName := ⟨RL, "where", "(LShoeHouse;I[J)I"⟩
abbrev cL_misled : ByteArray := method_18_code
def yL_misled : MethodName := ⟨RL, "misled", "(LShoeHouse;III[J)I"⟩
abbrev cL_chance : ByteArray := method_19_code
def yL_chance : MethodName := ⟨RL, "chance", "(LShoeHouse;II[J)I"⟩
abbrev cL_round : ByteArray := method_20_code
def yL_round : MethodName := ⟨RL, "round", "(LShoeHouse;III[J)I"⟩
abbrev cL_path : ByteArray := method_21_code
def yL_path : MethodName := ⟨RL, "path", "(LShoeHouse;II[J)I"⟩
abbrev cL_rests : ByteArray := method_22_code
def yL_rests : MethodName := ⟨RL, "rests", "(LShoeHouse;III[J)I"⟩
abbrev cL_fewest : ByteArray := method_23_code
def yL_fewest : MethodName := ⟨RL, "fewest", "(LShoeHouse;II[J)I"⟩
abbrev cL_lender : ByteArray := method_24_code
def yL_lender : MethodName := ⟨RL, "lender", "(LShoeHouse;I[J)I"⟩
abbrev cL_kinds : ByteArray := method_25_code
def yL_kinds : MethodName := ⟨RL, "kinds", "(LShoeHouse;II[J)I"⟩
abbrev cL_word : ByteArray := method_26_code
def yL_word : MethodName := ⟨RL, "word", "(LShoeHouse;II[J)I"⟩
abbrev cL_mend : ByteArray := method_27_code
def yL_mend : MethodName := ⟨RL, "mend", "(LShoeHouse;III[J)I"⟩
abbrev cL_fire : ByteArray := method_28_code
def yL_fire : MethodName := ⟨RL, "fire", "(LShoeHouse;IIIII[J)I"⟩
abbrev cL_law : ByteArray := code
def yL_law : MethodName := ⟨RL, "law", "([I)Z"⟩
def zcl : List vw_C := [(RX0, TX0, 10), (RX1, TX1, 5), (RX2, TX2, 5), (RX3, TX3, 2), (RX4, TX4, 6), (RX5, TX5, 10), (RX6, TX6, 12), (RX7, TX7, 9), (RX8, TX8, 3), (RX9, TX9, 2), (RX10, TX10, 7), (RX11, TX11, 16), (RX12, TX12, 69)]
def tyT (ci : Nat) : Nat → FieldType := match ci with
  | 0 => tyX0
  | 1 => tyX1
  | 2 => tyX2
  | 3 => tyX3
  | 4 => tyX4
  | 5 => tyX5
  | 6 => tyX6
  | 7 => tyX7
  | 8 => tyX8
  | 9 => tyX9
  | 10 => tyX10
  | 11 => tyX11
  | _ => tyX12
theorem z_tab {w : Cond} (h : w ∈ tables_1) : w ∈ lw_tbl := List.mem_append_right _ h
abbrev zws : List Cond := lw_tbl.filter goodWord
theorem z_in {w : Cond} (h : w ∈ lw_tbl) (g : goodWord w = true) : w ∈ zws := List.mem_filter.mpr ⟨h, g⟩
theorem z_at {w : Cond} (i : Nat) (h : tables_1[i]? = some w) (g : goodWord w = true) : w ∈ zws := z_in (z_tab (List.mem_of_getElem? h)) g
theorem z_good : ∀ w ∈ zws, (w.onTables && w.keeps) = true ∨ ∃ ty, w = .arrayClass ty := fun w h => good_of_word (List.mem_filter.mp h).2
set_option maxRecDepth 100000 in
theorem z_lays0 : ∀ w ∈ u_ws RX0 TX0 10, w ∈ zws := by
  have h : (u_ws RX0 TX0 10) = [187, 189, 191, 193, 195, 197, 199, 201, 203, 205].filterMap (fun i => tables_1[i]?) := by decide +kernel
  have g : (u_ws RX0 TX0 10).all goodWord = true := by decide +kernel
  intro w hw
  have g1 := List.all_eq_true.mp g w hw
  rw [h] at hw
  obtain ⟨i, -, hi⟩ := List.mem_filterMap.mp hw
  exact z_at i hi g1
set_option maxRecDepth 100000 in
theorem z_lays1 : ∀ w ∈ u_ws RX1 TX1 5, w ∈ zws := by
  have h : (u_ws RX1 TX1 5) = [232, 234, 236, 238, 240].filterMap (fun i => tables_1[i]?) := by decide +kernel
  have g : (u_ws RX1 TX1 5).all goodWord = true := by decide +kernel
  intro w hw
  have g1 := List.all_eq_true.mp g w hw
  rw [h] at hw
  obtain ⟨i, -, hi⟩ := List.mem_filterMap.mp hw
  exact z_at i hi g1
set_option maxRecDepth 100000 in
theorem z_lays2 : ∀ w ∈ u_ws RX2 TX2 5, w ∈ zws := by
  have h : (u_ws RX2 TX2 5) = [254, 256, 258, 260, 262].filterMap (fun i => tables_1[i]?) := by decide +kernel
  have g : (u_ws RX2 TX2 5).all goodWord = true := by decide +kernel
  intro w hw
  have g1 := List.all_eq_true.mp g w hw
  rw [h] at hw
  obtain ⟨i, -, hi⟩ := List.mem_filterMap.mp hw
  exact z_at i hi g1
set_option maxRecDepth 100000 in
theorem z_lays3 : ∀ w ∈ u_ws RX3 TX3 2, w ∈ zws := by
  have h : (u_ws RX3 TX3 2) = [216, 218].filterMap (fun i => tables_1[i]?) := by decide +kernel
  have g : (u_ws RX3 TX3 2).all goodWord = true := by decide +kernel
  intro w hw
  have g1 := List.all_eq_true.mp g w hw
  rw [h] at hw
  obtain ⟨i, -, hi⟩ := List.mem_filterMap.mp hw
  exact z_at i hi g1
set_option maxRecDepth 100000 in
theorem z_lays4 : ∀ w ∈ u_ws RX4 TX4 6, w ∈ zws := by
  have h : (u_ws RX4 TX4 6) = [309, 311, 313, 315, 317, 319].filterMap (fun i => tables_1[i]?) := by decide +kernel
  have g : (u_ws RX4 TX4 6).all goodWord = true := by decide +kernel
  intro w hw
  have g1 := List.all_eq_true.mp g w hw
  rw [h] at hw
  obtain ⟨i, -, hi⟩ := List.mem_filterMap.mp hw
  exact z_at i hi g1
set_option maxRecDepth 100000 in
theorem z_lays5 : ∀ w ∈ u_ws RX5 TX5 10, w ∈ zws := by
  have h : (u_ws RX5 TX5 10) = [340, 342, 344, 346, 348, 350, 352, 354, 356, 358].filterMap (fun i => tables_1[i]?) := by decide +kernel
  have g : (u_ws RX5 TX5 10).all goodWord = true := by decide +kernel
  intro w hw
  have g1 := List.all_eq_true.mp g w hw
  rw [h] at hw
  obtain ⟨i, -, hi⟩ := List.mem_filterMap.mp hw
  exact z_at i hi g1
set_option maxRecDepth 100000 in
theorem z_lays6 : ∀ w ∈ u_ws RX6 TX6 12, w ∈ zws := by
  have h : (u_ws RX6 TX6 12) = [103, 105, 107, 109, 111, 113, 115, 117, 119, 121, 123, 125].filterMap (fun i => tables_1[i]?) := by decide +kernel
  have g : (u_ws RX6 TX6 12).all goodWord = true := by decide +kernel
  intro w hw
  have g1 := List.all_eq_true.mp g w hw
  rw [h] at hw
  obtain ⟨i, -, hi⟩ := List.mem_filterMap.mp hw
  exact z_at i hi g1
set_option maxRecDepth 100000 in
theorem z_lays7 : ∀ w ∈ u_ws RX7 TX7 9, w ∈ zws := by
  have h : (u_ws RX7 TX7 9) = [145, 147, 149, 151, 153, 155, 157, 159, 161].filterMap (fun i => tables_1[i]?) := by decide +kernel
  have g : (u_ws RX7 TX7 9).all goodWord = true := by decide +kernel
  intro w hw
  have g1 := List.all_eq_true.mp g w hw
  rw [h] at hw
  obtain ⟨i, -, hi⟩ := List.mem_filterMap.mp hw
  exact z_at i hi g1
set_option maxRecDepth 100000 in
theorem z_lays8 : ∀ w ∈ u_ws RX8 TX8 3, w ∈ zws := by
  have h : (u_ws RX8 TX8 3) = [372, 374, 376].filterMap (fun i => tables_1[i]?) := by decide +kernel
  have g : (u_ws RX8 TX8 3).all goodWord = true := by decide +kernel
  intro w hw
  have g1 := List.all_eq_true.mp g w hw
  rw [h] at hw
  obtain ⟨i, -, hi⟩ := List.mem_filterMap.mp hw
  exact z_at i hi g1
set_option maxRecDepth 100000 in
theorem z_lays9 : ∀ w ∈ u_ws RX9 TX9 2, w ∈ zws := by
  have h : (u_ws RX9 TX9 2) = [45, 47].filterMap (fun i => tables_1[i]?) := by decide +kernel
  have g : (u_ws RX9 TX9 2).all goodWord = true := by decide +kernel
  intro w hw
  have g1 := List.all_eq_true.mp g w hw
  rw [h] at hw
  obtain ⟨i, -, hi⟩ := List.mem_filterMap.mp hw
  exact z_at i hi g1
set_option maxRecDepth 100000 in
theorem z_lays10 : ∀ w ∈ u_ws RX10 TX10 7, w ∈ zws := by
  have h : (u_ws RX10 TX10 7) = [281, 283, 285, 287, 289, 291, 293].filterMap (fun i => tables_1[i]?) := by decide +kernel
  have g : (u_ws RX10 TX10 7).all goodWord = true := by decide +kernel
  intro w hw
  have g1 := List.all_eq_true.mp g w hw
  rw [h] at hw
  obtain ⟨i, -, hi⟩ := List.mem_filterMap.mp hw
  exact z_at i hi g1
set_option maxRecDepth 100000 in
theorem z_lays11 : ∀ w ∈ u_ws RX11 TX11 16, w ∈ zws := by
  have h : (u_ws RX11 TX11 16) = [395, 397, 399, 401, 403, 405, 407, 409, 411, 413, 415, 417, 419, 421, 423, 425].filterMap (fun i => tables_1[i]?) := by decide +kernel
  have g : (u_ws RX11 TX11 16).all goodWord = true := by decide +kernel
  intro w hw
  have g1 := List.all_eq_true.mp g w hw
  rw [h] at hw
  obtain ⟨i, -, hi⟩ := List.mem_filterMap.mp hw
  exact z_at i hi g1
set_option maxRecDepth 100000 in
theorem z_lays12 : ∀ w ∈ u_ws RX12 TX12 69, w ∈ zws := by
  have h : (u_ws RX12 TX12 69) = [1316, 1318, 1320, 1322, 1324, 1326, 1328, 1330, 1332, 1334, 1336, 1338, 1340, 1342, 1344, 1346, 1348, 1350, 1352, 1354, 1356, 1358, 1360, 1362, 1364, 1366, 1368, 1370, 1372, 1374, 1376, 1378, 1380, 1382, 1384, 1386, 1388, 1390, 1392, 1394, 1396, 1398, 1400, 1402, 1404, 1406, 1408, 1410, 1412, 1414, 1416, 1418, 1420, 1422, 1424, 1426, 1428, 1430, 1432, 1434, 1436, 1438, 1440, 1442, 1444, 1446, 1448, 1450, 1452].filterMap (fun i => tables_1[i]?) := by decide +kernel
  have g : (u_ws RX12 TX12 69).all goodWord = true := by decide +kernel
  intro w hw
  have g1 := List.all_eq_true.mp g w hw
  rw [h] at hw
  obtain ⟨i, -, hi⟩ := List.mem_filterMap.mp hw
  exact z_at i hi g1
theorem z_lays : ∀ (ci : Nat) (q : vw_C), zcl[ci]? = some q → ∀ w ∈ u_ws q.1 q.2.1 q.2.2, w ∈ zws
  | 0, _, h => by cases h; exact z_lays0
  | 1, _, h => by cases h; exact z_lays1
  | 2, _, h => by cases h; exact z_lays2
  | 3, _, h => by cases h; exact z_lays3
  | 4, _, h => by cases h; exact z_lays4
  | 5, _, h => by cases h; exact z_lays5
  | 6, _, h => by cases h; exact z_lays6
  | 7, _, h => by cases h; exact z_lays7
  | 8, _, h => by cases h; exact z_lays8
  | 9, _, h => by cases h; exact z_lays9
  | 10, _, h => by cases h; exact z_lays10
  | 11, _, h => by cases h; exact z_lays11
  | 12, _, h => by cases h; exact z_lays12
  | _ + 13, _, h => by cases h
theorem z_ty : ∀ (ci : Nat) (q : vw_C), zcl[ci]? = some q → ∀ k, k < q.2.2 → parseFieldDescriptor (q.2.1 k).2.2.1 = some (tyT ci k)
  | 0, _, h => by cases h; exact tyX0_ok
  | 1, _, h => by cases h; exact tyX1_ok
  | 2, _, h => by cases h; exact tyX2_ok
  | 3, _, h => by cases h; exact tyX3_ok
  | 4, _, h => by cases h; exact tyX4_ok
  | 5, _, h => by cases h; exact tyX5_ok
  | 6, _, h => by cases h; exact tyX6_ok
  | 7, _, h => by cases h; exact tyX7_ok
  | 8, _, h => by cases h; exact tyX8_ok
  | 9, _, h => by cases h; exact tyX9_ok
  | 10, _, h => by cases h; exact tyX10_ok
  | 11, _, h => by cases h; exact tyX11_ok
  | 12, _, h => by cases h; exact tyX12_ok
  | _ + 13, _, h => by cases h
theorem z_nm : ∀ (ci : Nat) (q : vw_C), zcl[ci]? = some q → ∀ a, a < q.2.2 → ∀ b, b < q.2.2 → a ≠ b → (q.2.1 a).2.1 ≠ (q.2.1 b).2.1
  | 0, _, h => by cases h; exact nmX0
  | 1, _, h => by cases h; exact nmX1
  | 2, _, h => by cases h; exact nmX2
  | 3, _, h => by cases h; exact nmX3
  | 4, _, h => by cases h; exact nmX4
  | 5, _, h => by cases h; exact nmX5
  | 6, _, h => by cases h; exact nmX6
  | 7, _, h => by cases h; exact nmX7
  | 8, _, h => by cases h; exact nmX8
  | 9, _, h => by cases h; exact nmX9
  | 10, _, h => by cases h; exact nmX10
  | 11, _, h => by cases h; exact nmX11
  | 12, _, h => by cases h; exact nmX12
  | _ + 13, _, h => by cases h
/-- the classes that speak, by number: 0 to 12 as in zcl, the law, and two of the JDK's -/
def zown (o : Nat) : String := match o with
  | 0 => RX0
  | 1 => RX1
  | 2 => RX2
  | 3 => RX3
  | 4 => RX4
  | 5 => RX5
  | 6 => RX6
  | 7 => RX7
  | 8 => RX8
  | 9 => RX9
  | 10 => RX10
  | 11 => RX11
  | 12 => RX12
  | 13 => RL
  | 14 => RJ6
  | _ => RJ7
/-- a method's own facts: its class, its code, its answer's type, its locals, its handlers, whether it is a constructor -/
abbrev zF : Type := Nat × ByteArray × Option FieldType × Nat × List (Nat × Nat × Nat × Nat) × Bool
end
section
/-- fields: the class that speaks, its pool number, the field's class, its number, the place of the word -/
def zfl : List (Nat × Nat × Nat × Nat × Nat) := [(9, 9, 9, 0, 41), (11, 28, 9, 0, 42), (9, 15, 9, 1, 43), (11, 124, 9, 1, 44), (6, 9, 6, 0, 61), (3, 53, 6, 0, 62), (11, 186, 6, 0, 63), (6, 15, 6, 1, 64), (3, 30, 6, 1, 65), (1, 64, 6, 1, 66), (7, 105, 6, 1, 67), (11, 189, 6, 1, 68), (6, 18, 6, 2, 69), (1, 70, 6, 2, 70), (11, 195, 6, 2, 71), (7, 141, 6, 2, 72), (6, 21, 6, 3, 73), (0, 48, 6, 3, 74), (7, 114, 6, 3, 75), (6, 24, 6, 4, 76), (0, 61, 6, 4, 77), (6, 27, 6, 5, 78), (6, 30, 6, 6, 79), (11, 171, 6, 6, 80), (4, 32, 6, 7, 81), (6, 36, 6, 7, 82), (1, 58, 6, 7, 83), (10, 48, 6, 7, 84), (7, 85, 6, 7, 85), (11, 150, 6, 7, 86), (0, 43, 6, 8, 87), (2, 34, 6, 8, 88), (5, 48, 6, 8, 89), (1, 46, 6, 8, 90), (6, 40, 6, 8, 91), (7, 99, 6, 8, 92), (11, 153, 6, 8, 93), (0, 58, 6, 9, 94), (6, 43, 6, 9, 95), (11, 156, 6, 9, 96), (7, 119, 6, 9, 97), (6, 46, 6, 10, 98), (11, 159, 6, 10, 99), (7, 125, 6, 10, 100), (6, 49, 6, 11, 101), (7, 144, 6, 11, 102), (7, 9, 7, 0, 135), (7, 15, 7, 1, 136), (7, 25, 7, 2, 137), (7, 29, 7, 3, 138), (7, 46, 7, 4, 139), (7, 172, 7, 5, 140), (7, 169, 7, 6, 141), (7, 32, 7, 7, 142), (7, 35, 7, 8, 143), (11, 138, 7, 8, 144), (0, 9, 0, 0, 170), (0, 15, 0, 1, 171), (0, 18, 0, 2, 172), (0, 21, 0, 3, 173), (0, 24, 0, 4, 174), (0, 27, 0, 5, 175), (11, 245, 0, 5, 176), (0, 30, 0, 6, 177), (1, 67, 0, 6, 178), (0, 37, 0, 7, 179), (11, 162, 0, 7, 180), (0, 33, 0, 8, 181), (1, 27, 0, 8, 182), (11, 165, 0, 8, 183), (1, 61, 0, 9, 184), (0, 70, 0, 9, 185), (11, 168, 0, 9, 186), (3, 9, 3, 0, 214), (3, 15, 3, 1, 215), (1, 15, 1, 0, 227), (1, 19, 1, 1, 228), (1, 23, 1, 2, 229), (1, 9, 1, 3, 230), (1, 39, 1, 4, 231), (2, 18, 2, 0, 249), (2, 22, 2, 1, 250), (2, 26, 2, 2, 251), (2, 9, 2, 3, 252), (2, 15, 2, 4, 253), (10, 24, 10, 0, 271), (10, 28, 10, 1, 272), (10, 9, 10, 2, 273), (10, 15, 10, 3, 274), (10, 18, 10, 4, 275), (11, 297, 10, 4, 276), (10, 21, 10, 5, 277), (11, 299, 10, 5, 278), (11, 148, 10, 6, 279), (10, 66, 10, 6, 280), (4, 24, 4, 0, 302), (4, 28, 4, 1, 303), (4, 9, 4, 2, 304), (4, 15, 4, 3, 305), (4, 18, 4, 4, 306), (4, 21, 4, 5, 307), (11, 309, 4, 5, 308), (5, 30, 5, 0, 328), (5, 34, 5, 1, 329), (5, 38, 5, 2, 330), (5, 9, 5, 3, 331), (5, 15, 5, 4, 332), (5, 18, 5, 5, 333), (5, 21, 5, 6, 334), (5, 24, 5, 7, 335), (5, 27, 5, 8, 336), (11, 319, 5, 8, 337), (5, 79, 5, 9, 338), (11, 149, 5, 9, 339), (8, 9, 8, 0, 367), (11, 337, 8, 0, 368), (8, 19, 8, 1, 369), (11, 334, 8, 1, 370), (8, 15, 8, 2, 371), (11, 12, 11, 0, 379), (11, 19, 11, 1, 380), (11, 23, 11, 2, 381), (11, 35, 11, 3, 382), (11, 42, 11, 4, 383), (11, 46, 11, 5, 384), (11, 54, 11, 6, 385), (11, 63, 11, 7, 386), (11, 70, 11, 8, 387), (11, 79, 11, 9, 388), (11, 86, 11, 10, 389), (11, 93, 11, 11, 390), (11, 100, 11, 12, 391), (11, 104, 11, 13, 392), (11, 108, 11, 14, 393), (11, 112, 11, 15, 394), (12, 134, 12, 0, 1247), (12, 248, 12, 1, 1248), (12, 251, 12, 2, 1249), (12, 254, 12, 3, 1250), (12, 257, 12, 4, 1251), (12, 7, 12, 5, 1252), (12, 13, 12, 6, 1253), (12, 16, 12, 7, 1254), (12, 19, 12, 8, 1255), (12, 22, 12, 9, 1256), (12, 25, 12, 10, 1257), (12, 28, 12, 11, 1258), (12, 31, 12, 12, 1259), (12, 137, 12, 13, 1260), (12, 187, 12, 14, 1261), (12, 34, 12, 15, 1262), (12, 38, 12, 16, 1263), (12, 144, 12, 17, 1264), (12, 147, 12, 18, 1265), (12, 164, 12, 19, 1266), (12, 154, 12, 20, 1267), (12, 174, 12, 21, 1268), (12, 161, 12, 22, 1269), (12, 157, 12, 23, 1270), (12, 209, 12, 24, 1271), (12, 206, 12, 25, 1272), (12, 232, 12, 26, 1273), (12, 212, 12, 27, 1274), (12, 238, 12, 28, 1275), (12, 41, 12, 29, 1276), (12, 44, 12, 30, 1277), (12, 47, 12, 31, 1278), (12, 50, 12, 32, 1279), (12, 53, 12, 33, 1280), (12, 56, 12, 34, 1281), (12, 59, 12, 35, 1282), (12, 264, 12, 36, 1283), (12, 62, 12, 37, 1284), (12, 65, 12, 38, 1285), (12, 68, 12, 39, 1286), (12, 71, 12, 40, 1287), (12, 267, 12, 41, 1288), (12, 74, 12, 42, 1289), (12, 77, 12, 43, 1290), (12, 80, 12, 44, 1291), (12, 331, 12, 45, 1292), (12, 83, 12, 46, 1293), (12, 86, 12, 47, 1294), (12, 89, 12, 48, 1295), (12, 92, 12, 49, 1296), (12, 95, 12, 50, 1297), (12, 98, 12, 51, 1298), (12, 270, 12, 52, 1299), (12, 101, 12, 53, 1300), (12, 104, 12, 54, 1301), (12, 107, 12, 55, 1302), (12, 273, 12, 56, 1303), (12, 110, 12, 57, 1304), (12, 113, 12, 58, 1305), (12, 389, 12, 59, 1306), (12, 392, 12, 60, 1307), (12, 116, 12, 61, 1308), (12, 407, 12, 62, 1309), (12, 277, 12, 63, 1310), (12, 119, 12, 64, 1311), (12, 122, 12, 65, 1312), (12, 125, 12, 66, 1313), (12, 128, 12, 67, 1314), (12, 131, 12, 68, 1315)]
def zkc : List (Nat × Nat × Int32 × Nat) := [(14, 265, 1431655765, 471), (14, 266, 858993459, 472), (14, 267, 252645135, 473), (0, 86, 1103515245, 474), (12, 320, 1103515245, 1628)]
def znw : List (Nat × Nat × Nat × Nat × Nat × Nat × Nat) := [(13, 8, 11, 16, 27, 28, 1), (11, 9, 9, 2, 35, 36, 2), (11, 16, 6, 12, 51, 52, 3), (11, 26, 7, 9, 129, 130, 4), (11, 39, 0, 10, 164, 165, 5), (11, 49, 3, 2, 208, 209, 6), (11, 58, 1, 5, 221, 222, 7), (11, 67, 2, 5, 243, 244, 8), (11, 74, 10, 7, 265, 266, 9), (11, 83, 4, 6, 296, 297, 10), (11, 90, 5, 10, 322, 323, 11), (11, 97, 8, 3, 361, 362, 12), (13, 96, 12, 69, 1241, 1242, 13)]
def zob : List (Nat × Nat × Nat) := [(11, 3, 32), (9, 3, 40), (6, 3, 56), (7, 3, 134), (0, 3, 169), (3, 3, 213), (1, 3, 226), (2, 3, 248), (10, 3, 270), (4, 3, 301), (5, 3, 327), (8, 3, 366), (12, 1, 1246)]
def zflB (q : Nat × Nat × Nat × Nat × Nat) : Bool := match zcl[q.2.2.1]? with
  | some c => decide (q.2.2.2.1 < c.2.2) && decide (tables_1[q.2.2.2.2]? = some (.fieldLink (zown q.1) q.2.1 (c.2.1 q.2.2.2.1).1 (c.2.1 q.2.2.2.1).2.1 (c.2.1 q.2.2.2.1).2.2.1)) && goodWord (.fieldLink (zown q.1) q.2.1 (c.2.1 q.2.2.2.1).1 (c.2.1 q.2.2.2.1).2.1 (c.2.1 q.2.2.2.1).2.2.1)
  | none => false
set_option maxRecDepth 100000 in
theorem zfl_ok : zfl.all zflB = true := by decide +kernel
/-- which field a pool number names -/
def zfd (o i : Nat) : Option (Nat × Nat) := (zfl.find? (fun q => q.1 == o && q.2.1 == i)).map (fun q => (q.2.2.1, q.2.2.2.1))
theorem zfd_ok {o i ci k : Nat} (h : zfd o i = some (ci, k)) : ∃ c : vw_C, zcl[ci]? = some c ∧ k < c.2.2 ∧ Cond.fieldLink (zown o) i (c.2.1 k).1 (c.2.1 k).2.1 (c.2.1 k).2.2.1 ∈ zws := by
  unfold zfd at h
  cases hf : zfl.find? (fun q => q.1 == o && q.2.1 == i) with
  | none => rw [hf] at h; cases h
  | some q =>
    rw [hf] at h
    have h1 := List.find?_some hf
    have h2 := List.all_eq_true.mp zfl_ok q (List.mem_of_find?_eq_some hf)
    simp only [Bool.and_eq_true, beq_iff_eq] at h1
    simp only [Option.map_some, Option.some.injEq, Prod.mk.injEq] at h
    obtain ⟨rfl, rfl⟩ := h
    obtain ⟨rfl, rfl⟩ := h1
    unfold zflB at h2
    cases hc : zcl[q.2.2.1]? with
    | none => rw [hc] at h2; cases h2
    | some c =>
      rw [hc] at h2
      simp only [Bool.and_eq_true, decide_eq_true_eq] at h2
      exact ⟨c, rfl, h2.1.1, z_at _ h2.1.2 h2.2⟩
def zkcB (q : Nat × Nat × Int32 × Nat) : Bool := decide (tables_1[q.2.2.2]? = some (.constant (zown q.1) q.2.1 q.2.2.1)) && goodWord (.constant (zown q.1) q.2.1 q.2.2.1)
theorem zkc_ok : zkc.all zkcB = true := by decide +kernel
def zcv (o i : Nat) : Option Int32 := (zkc.find? (fun q => q.1 == o && q.2.1 == i)).map (fun q => q.2.2.1)
theorem zcv_ok {o i : Nat} {v : Int32} (h : zcv o i = some v) : Cond.constant (zown o) i v ∈ zws := by
  unfold zcv at h
  cases hf : zkc.find? (fun q => q.1 == o && q.2.1 == i) with
  | none => rw [hf] at h; cases h
  | some q =>
    rw [hf] at h
    have h1 := List.find?_some hf
    have h2 := List.all_eq_true.mp zkc_ok q (List.mem_of_find?_eq_some hf)
    simp only [Bool.and_eq_true, beq_iff_eq] at h1
    simp only [Option.map_some, Option.some.injEq] at h
    subst h
    obtain ⟨rfl, rfl⟩ := h1
    simp only [zkcB, Bool.and_eq_true, decide_eq_true_eq] at h2
    exact z_at _ h2.1 h2.2
def znwB (q : Nat × Nat × Nat × Nat × Nat × Nat × Nat) : Bool := match zcl[q.2.2.1]? with
  | some c => decide (c.2.2 = q.2.2.2.1) && decide (tables_1[q.2.2.2.2.1]? = some (.classLink (zown q.1) q.2.1 c.1)) && decide (tables_1[q.2.2.2.2.2.1]? = some (.instantiable c.1 c.2.2)) && decide (tables_1[q.2.2.2.2.2.2]? = some (.initialized c.1)) && goodWord (.classLink (zown q.1) q.2.1 c.1) && goodWord (.instantiable c.1 c.2.2) && goodWord (.initialized c.1)
  | none => false
theorem znw_ok : znw.all znwB = true := by decide +kernel
def znc (o i : Nat) : Option (Nat × Nat) := (znw.find? (fun q => q.1 == o && q.2.1 == i)).map (fun q => (q.2.2.1, q.2.2.2.1))
theorem znc_ok {o i ci n : Nat} (h : znc o i = some (ci, n)) : ∃ c : vw_C, zcl[ci]? = some c ∧ c.2.2 = n ∧ Cond.classLink (zown o) i c.1 ∈ zws ∧ Cond.instantiable c.1 c.2.2 ∈ zws ∧ Cond.initialized c.1 ∈ zws := by
  unfold znc at h
  cases hf : znw.find? (fun q => q.1 == o && q.2.1 == i) with
  | none => rw [hf] at h; cases h
  | some q =>
    rw [hf] at h
    have h1 := List.find?_some hf
    have h2 := List.all_eq_true.mp znw_ok q (List.mem_of_find?_eq_some hf)
    simp only [Bool.and_eq_true, beq_iff_eq] at h1
    simp only [Option.map_some, Option.some.injEq, Prod.mk.injEq] at h
    obtain ⟨rfl, rfl⟩ := h
    obtain ⟨rfl, rfl⟩ := h1
    unfold znwB at h2
    cases hc : zcl[q.2.2.1]? with
    | none => rw [hc] at h2; cases h2
    | some c =>
      rw [hc] at h2
      simp only [Bool.and_eq_true, decide_eq_true_eq] at h2
      exact ⟨c, rfl, h2.1.1.1.1.1.1, z_at _ h2.1.1.1.1.1.2 h2.1.1.2, z_at _ h2.1.1.1.1.2 h2.1.2, z_at _ h2.1.1.1.2 h2.2⟩
def zobB (q : Nat × Nat × Nat) : Bool := decide (tables_1[q.2.2]? = some (.methodLink (zown q.1) q.2.1 Lib.objectInit)) && goodWord (.methodLink (zown q.1) q.2.1 Lib.objectInit)
theorem zob_ok : zob.all zobB = true := by decide +kernel
def zoi (o i : Nat) : Bool := zob.any (fun q => q.1 == o && q.2.1 == i)
theorem zoi_ok {o i : Nat} (h : zoi o i = true) : Cond.methodLink (zown o) i Lib.objectInit ∈ zws := by
  unfold zoi at h
  obtain ⟨q, hq, h1⟩ := List.any_eq_true.mp h
  have h2 := List.all_eq_true.mp zob_ok q hq
  simp only [Bool.and_eq_true, beq_iff_eq] at h1
  obtain ⟨rfl, rfl⟩ := h1
  simp only [zobB, Bool.and_eq_true, decide_eq_true_eq] at h2
  exact z_at _ h2.1 h2.2
theorem zob_i : Cond.instanceMethod Lib.objectInit ∈ zws := z_at 33 (by decide +kernel) (by decide +kernel)
theorem zob_c : Cond.code Lib.objectInit ⟨#[0xb1]⟩ 1 none ∈ zws := z_at 34 (by decide +kernel) (by decide +kernel)
theorem zar_i : Cond.arrayClass .int ∈ zws := z_at 128 (by decide +kernel) (by decide +kernel)
theorem zar_b : Cond.arrayClass .byte ∈ zws := z_at 50 (by decide +kernel) (by decide +kernel)
theorem zar_l : Cond.arrayClass .long ∈ zws := z_at 1831 (by decide +kernel) (by decide +kernel)
theorem zkl : Cond.constantLong RX12 177 96 ∈ zws := z_at 1507 (by decide +kernel) (by decide +kernel)
theorem z_decl : ∀ (ci : Nat) (q : vw_C), zcl[ci]? = some q → zown ci = q.1 ∧ ∀ k, k < q.2.2 → (q.2.1 k).1 = q.1
  | 0, _, h => by cases h; exact ⟨rfl, by decide +kernel⟩
  | 1, _, h => by cases h; exact ⟨rfl, by decide +kernel⟩
  | 2, _, h => by cases h; exact ⟨rfl, by decide +kernel⟩
  | 3, _, h => by cases h; exact ⟨rfl, by decide +kernel⟩
  | 4, _, h => by cases h; exact ⟨rfl, by decide +kernel⟩
  | 5, _, h => by cases h; exact ⟨rfl, by decide +kernel⟩
  | 6, _, h => by cases h; exact ⟨rfl, by decide +kernel⟩
  | 7, _, h => by cases h; exact ⟨rfl, by decide +kernel⟩
  | 8, _, h => by cases h; exact ⟨rfl, by decide +kernel⟩
  | 9, _, h => by cases h; exact ⟨rfl, by decide +kernel⟩
  | 10, _, h => by cases h; exact ⟨rfl, by decide +kernel⟩
  | 11, _, h => by cases h; exact ⟨rfl, by decide +kernel⟩
  | 12, _, h => by cases h; exact ⟨rfl, by decide +kernel⟩
  | _ + 13, _, h => by cases h
end
section
abbrev zI : Type := Nat × Nat × Nat × Int32 × Nat × List Nat
def ztg (pc : Nat) (off : Int) : Nat := ((pc : Int) + off).toNat
def zgo (pc : Nat) (off : Int) : Bool := decide (0 ≤ (pc : Int) + off)
theorem ztg_ok {pc : Nat} {off : Int} (h : zgo pc off = true) : (pc : Int) + off = (ztg pc off : Int) := by
  unfold zgo at h
  unfold ztg
  have := of_decide_eq_true h
  omega
def zpre (o : Nat) (cc : ByteArray) (pc : Nat) : Option zI := match decode cc pc with
  | .ok (.iconst n, 1) => some (0, 0, 0, Int32.ofInt n, pc + 1, [])
  | .ok (.bipush n, 2) => some (0, 0, 0, (Int8.ofInt n).toInt32, pc + 2, [])
  | .ok (.sipush n, 3) => some (0, 0, 0, (Int16.ofInt n).toInt32, pc + 3, [])
  | .ok (.ldc i, 2) => (zcv o i).map (fun v => (0, 0, 0, v, pc + 2, []))
  | .ok (.ldc_w i, 3) => (zcv o i).map (fun v => (0, 0, 0, v, pc + 3, []))
  | .ok (.lconst n, 1) => some (1, n.val, 0, 0, pc + 1, [])
  | .ok (.ldc2_w i, 3) => bif o == 12 && i == 177 then some (1, 96, 0, 0, pc + 3, []) else none
  | .ok (.iload i, 2) => some (2, i, 0, 0, pc + 2, [])
  | .ok (.iload_n k, 1) => some (2, k.val, 0, 0, pc + 1, [])
  | .ok (.lload i, 2) => some (3, i, 0, 0, pc + 2, [])
  | .ok (.aload i, 2) => some (4, i, 0, 0, pc + 2, [])
  | .ok (.aload_n k, 1) => some (4, k.val, 0, 0, pc + 1, [])
  | .ok (.istore i, 2) => some (5, i, 0, 0, pc + 2, [])
  | .ok (.istore_n k, 1) => some (5, k.val, 0, 0, pc + 1, [])
  | .ok (.lstore i, 2) => some (6, i, 0, 0, pc + 2, [])
  | .ok (.astore i, 2) => some (7, i, 0, 0, pc + 2, [])
  | .ok (.astore_n k, 1) => some (7, k.val, 0, 0, pc + 1, [])
  | .ok (.iinc i n, 3) => some (8, i, 0, Int32.ofInt n, pc + 3, [])
  | .ok (.iadd, 1) => some (9, 0, 0, 0, pc + 1, [])
  | .ok (.isub, 1) => some (9, 1, 0, 0, pc + 1, [])
  | .ok (.imul, 1) => some (9, 2, 0, 0, pc + 1, [])
  | .ok (.iand, 1) => some (9, 3, 0, 0, pc + 1, [])
  | .ok (.ior, 1) => some (9, 4, 0, 0, pc + 1, [])
  | .ok (.ixor, 1) => some (9, 5, 0, 0, pc + 1, [])
  | .ok (.ishl, 1) => some (9, 6, 0, 0, pc + 1, [])
  | .ok (.ishr, 1) => some (9, 7, 0, 0, pc + 1, [])
  | .ok (.iushr, 1) => some (9, 8, 0, 0, pc + 1, [])
  | .ok (.idiv, 1) => some (9, 9, 0, 0, pc + 1, [])
  | .ok (.irem, 1) => some (9, 10, 0, 0, pc + 1, [])
  | .ok (.i2l, 1) => some (10, 0, 0, 0, pc + 1, [])
  | .ok (.i2b, 1) => some (10, 1, 0, 0, pc + 1, [])
  | .ok (.lor, 1) => some (11, 0, 0, 0, pc + 1, [])
  | .ok (.lsub, 1) => some (11, 1, 0, 0, pc + 1, [])
  | .ok (.lcmp, 1) => some (11, 2, 0, 0, pc + 1, [])
  | .ok (.lshl, 1) => some (11, 3, 0, 0, pc + 1, [])
  | .ok (.dup, 1) => some (12, 0, 0, 0, pc + 1, [])
  | .ok (.dup2, 1) => some (13, 0, 0, 0, pc + 1, [])
  | .ok (.pop, 1) => some (14, 0, 0, 0, pc + 1, [])
  | .ok (.goto off, 3) => bif zgo pc off then some (15, 0, 0, 0, ztg pc off, []) else none
  | .ok (.if_icmp .eq off, 3) => bif zgo pc off then some (16, 0, ztg pc off, 0, pc + 3, []) else none
  | .ok (.if_icmp .ne off, 3) => bif zgo pc off then some (16, 0, pc + 3, 0, ztg pc off, []) else none
  | .ok (.if_icmp .lt off, 3) => bif zgo pc off then some (16, 1, ztg pc off, 0, pc + 3, []) else none
  | .ok (.if_icmp .ge off, 3) => bif zgo pc off then some (16, 1, pc + 3, 0, ztg pc off, []) else none
  | .ok (.if_icmp .gt off, 3) => bif zgo pc off then some (16, 2, ztg pc off, 0, pc + 3, []) else none
  | .ok (.if_icmp .le off, 3) => bif zgo pc off then some (16, 2, pc + 3, 0, ztg pc off, []) else none
  | .ok (.ifCond .eq off, 3) => bif zgo pc off then some (17, 0, ztg pc off, 0, pc + 3, []) else none
  | .ok (.ifCond .ne off, 3) => bif zgo pc off then some (17, 0, pc + 3, 0, ztg pc off, []) else none
  | .ok (.ifCond .lt off, 3) => bif zgo pc off then some (17, 1, ztg pc off, 0, pc + 3, []) else none
  | .ok (.ifCond .ge off, 3) => bif zgo pc off then some (17, 1, pc + 3, 0, ztg pc off, []) else none
  | .ok (.ifCond .gt off, 3) => bif zgo pc off then some (17, 2, ztg pc off, 0, pc + 3, []) else none
  | .ok (.ifCond .le off, 3) => bif zgo pc off then some (17, 2, pc + 3, 0, ztg pc off, []) else none
  | .ok (.getfield i, 3) => (zfd o i).map (fun q => (18, q.1, q.2, 0, pc + 3, []))
  | .ok (.putfield i, 3) => (zfd o i).map (fun q => (19, q.1, q.2, 0, pc + 3, []))
  | .ok (.iaload, 1) => some (20, 0, 0, 0, pc + 1, [])
  | .ok (.iastore, 1) => some (21, 0, 0, 0, pc + 1, [])
  | .ok (.baload, 1) => some (22, 0, 0, 0, pc + 1, [])
  | .ok (.bastore, 1) => some (23, 0, 0, 0, pc + 1, [])
  | .ok (.laload, 1) => some (24, 0, 0, 0, pc + 1, [])
  | .ok (.lastore, 1) => some (25, 0, 0, 0, pc + 1, [])
  | .ok (.arraylength, 1) => some (26, 0, 0, 0, pc + 1, [])
  | .ok (.ireturn, 1) => some (27, 0, 0, 0, pc + 1, [])
  | .ok (.lreturn, 1) => some (28, 0, 0, 0, pc + 1, [])
  | .ok (.return_, 1) => some (29, 0, 0, 0, pc + 1, [])
  | .ok (.new i, 3) => (znc o i).map (fun q => (30, q.1, q.2, 0, pc + 3, []))
  | .ok (.newarray .int, 2) => some (31, 1, 0, 0, pc + 2, [])
  | .ok (.newarray .byte, 2) => some (31, 2, 0, 0, pc + 2, [])
  | .ok (.newarray .long, 2) => some (31, 3, 0, 0, pc + 2, [])
  | .ok (.tableswitch df 0 hi offs, _) => bif (zgo pc df && offs.toList.all (zgo pc) && decide (hi = (offs.size : Int) - 1)) && Nat.blt offs.size 1000 then some (32, 0, ztg pc df, 0, 0, offs.toList.map (ztg pc)) else none
  | .ok (.invokespecial i, 3) => bif zoi o i then some (35, 0, 0, 0, pc + 3, []) else none
  | _ => none
def ztbok (f : zF) (tb : List (Nat × zI)) : Prop := ∀ q ∈ tb, zpre f.1 f.2.1 q.1 = some q.2
def zeqB (a b : zI) : Bool := decide (a.1 = b.1) && (decide (a.2.1 = b.2.1) && (decide (a.2.2.1 = b.2.2.1) && (decide (a.2.2.2.1 = b.2.2.2.1) && (decide (a.2.2.2.2.1 = b.2.2.2.2.1) && decide (a.2.2.2.2.2 = b.2.2.2.2.2)))))
def ztbB (f : zF) (tb : List (Nat × zI)) : Bool := tb.all (fun q => match zpre f.1 f.2.1 q.1 with
  | some e => zeqB e q.2
  | none => false)
theorem ztbB_ok {f : zF} {tb : List (Nat × zI)} (h : ztbB f tb = true) : ztbok f tb := by
  intro q hq
  have h1 := List.all_eq_true.mp h q hq
  cases hz : zpre f.1 f.2.1 q.1 with
  | none => rw [hz] at h1; cases h1
  | some e =>
    rw [hz] at h1
    simp only [zeqB, Bool.and_eq_true, decide_eq_true_eq] at h1
    obtain ⟨e1, e2, e3, e4, e5, e6⟩ := h1
    exact congrArg some (Prod.ext e1 (Prod.ext e2 (Prod.ext e3 (Prod.ext e4 (Prod.ext e5 e6)))))
/-- a method's own words -/
def zMth (y : MethodName) (cd : Cond) (n : Nat) : Prop := cd ∈ zws ∧ Cond.initialized y.cls ∈ zws ∧ (y.cls ≠ "java/lang/invoke/MethodHandle" ∧ y.cls ≠ "java/lang/invoke/VarHandle") ∧ (parseMethodDescriptor y.desc).map (fun d => d.parameters.length) = some n
end
section
abbrev F_J6_bitCount_0f7a4 : zF := (14, cJ6_bitCount_0f7a4, some .int, 1, [], false)
def T_J6_bitCount_0f7a4 : List (Nat × zI) := [(0, (2, 0, 0, 0, 1, [])), (1, (2, 0, 0, 0, 2, [])), (2, (0, 0, 0, 1, 3, [])), (3, (9, 8, 0, 0, 4, [])), (4, (0, 0, 0, 1431655765, 7, [])), (7, (9, 3, 0, 0, 8, [])), (8, (9, 1, 0, 0, 9, [])), (9, (5, 0, 0, 0, 10, [])), (10, (2, 0, 0, 0, 11, [])), (11, (0, 0, 0, 858993459, 14, [])), (14, (9, 3, 0, 0, 15, [])), (15, (2, 0, 0, 0, 16, [])), (16, (0, 0, 0, 2, 17, [])), (17, (9, 8, 0, 0, 18, [])), (18, (0, 0, 0, 858993459, 21, [])), (21, (9, 3, 0, 0, 22, [])), (22, (9, 0, 0, 0, 23, [])), (23, (5, 0, 0, 0, 24, [])), (24, (2, 0, 0, 0, 25, [])), (25, (2, 0, 0, 0, 26, [])), (26, (0, 0, 0, 4, 27, [])), (27, (9, 8, 0, 0, 28, [])), (28, (9, 0, 0, 0, 29, [])), (29, (0, 0, 0, 252645135, 32, [])), (32, (9, 3, 0, 0, 33, [])), (33, (5, 0, 0, 0, 34, [])), (34, (2, 0, 0, 0, 35, [])), (35, (2, 0, 0, 0, 36, [])), (36, (0, 0, 0, 8, 38, [])), (38, (9, 8, 0, 0, 39, [])), (39, (9, 0, 0, 0, 40, [])), (40, (5, 0, 0, 0, 41, [])), (41, (2, 0, 0, 0, 42, [])), (42, (2, 0, 0, 0, 43, [])), (43, (0, 0, 0, 16, 45, [])), (45, (9, 8, 0, 0, 46, [])), (46, (9, 0, 0, 0, 47, [])), (47, (5, 0, 0, 0, 48, [])), (48, (2, 0, 0, 0, 49, [])), (49, (0, 0, 0, 63, 51, [])), (51, (9, 3, 0, 0, 52, [])), (52, (27, 0, 0, 0, 53, []))]
set_option maxRecDepth 100000 in
theorem K_J6_bitCount_0f7a4 : ztbok F_J6_bitCount_0f7a4 T_J6_bitCount_0f7a4 := ztbB_ok (by decide +kernel)
set_option maxRecDepth 100000 in
theorem W_J6_bitCount_0f7a4 : zMth yJ6_bitCount_0f7a4 (.code yJ6_bitCount_0f7a4 cJ6_bitCount_0f7a4 1 (some .int)) 1 := ⟨z_at 470 (by decide +kernel) (by decide +kernel), z_at 26 (by decide +kernel) (by decide +kernel), ⟨by decide +kernel, by decide +kernel⟩, by decide +kernel⟩
set_option maxRecDepth 100000 in
theorem I_J6_bitCount_0f7a4 : Cond.static yJ6_bitCount_0f7a4 ∈ zws := z_at 469 (by decide +kernel) (by decide +kernel)
abbrev F_J7_fill_53178 : zF := (15, cJ7_fill_53178, none, 4, [], false)
def T_J7_fill_53178 : List (Nat × zI) := [(0, (0, 0, 0, 0, 1, [])), (1, (5, 2, 0, 0, 2, [])), (2, (4, 0, 0, 0, 3, [])), (3, (26, 0, 0, 0, 4, [])), (4, (5, 3, 0, 0, 5, [])), (5, (2, 2, 0, 0, 6, [])), (6, (2, 3, 0, 0, 7, [])), (7, (16, 1, 10, 0, 20, [])), (10, (4, 0, 0, 0, 11, [])), (11, (2, 2, 0, 0, 12, [])), (12, (2, 1, 0, 0, 13, [])), (13, (21, 0, 0, 0, 14, [])), (14, (8, 2, 0, 1, 17, [])), (17, (15, 0, 0, 0, 5, [])), (20, (29, 0, 0, 0, 21, []))]
set_option maxRecDepth 100000 in
theorem K_J7_fill_53178 : ztbok F_J7_fill_53178 T_J7_fill_53178 := ztbB_ok (by decide +kernel)
set_option maxRecDepth 100000 in
theorem W_J7_fill_53178 : zMth yJ7_fill_53178 (.code yJ7_fill_53178 cJ7_fill_53178 4 (none)) 2 := ⟨z_at 626 (by decide +kernel) (by decide +kernel), z_at 19 (by decide +kernel) (by decide +kernel), ⟨by decide +kernel, by decide +kernel⟩, by decide +kernel⟩
set_option maxRecDepth 100000 in
theorem I_J7_fill_53178 : Cond.static yJ7_fill_53178 ∈ zws := z_at 625 (by decide +kernel) (by decide +kernel)
abbrev F_X0_init : zF := (0, cX0_init, none, 1, [], true)
def T_X0_init : List (Nat × zI) := [(0, (4, 0, 0, 0, 1, [])), (1, (35, 0, 0, 0, 4, [])), (4, (4, 0, 0, 0, 5, [])), (5, (0, 0, 0, 12, 7, [])), (7, (31, 1, 0, 0, 9, [])), (9, (19, 0, 0, 0, 12, [])), (12, (4, 0, 0, 0, 13, [])), (13, (0, 0, 0, 12, 15, [])), (15, (31, 1, 0, 0, 17, [])), (17, (19, 0, 1, 0, 20, [])), (20, (4, 0, 0, 0, 21, [])), (21, (0, 0, 0, 12, 23, [])), (23, (31, 1, 0, 0, 25, [])), (25, (19, 0, 2, 0, 28, [])), (28, (4, 0, 0, 0, 29, [])), (29, (0, 0, 0, 12, 31, [])), (31, (31, 1, 0, 0, 33, [])), (33, (19, 0, 3, 0, 36, [])), (36, (4, 0, 0, 0, 37, [])), (37, (0, 0, 0, 144, 40, [])), (40, (31, 1, 0, 0, 42, [])), (42, (19, 0, 4, 0, 45, [])), (45, (4, 0, 0, 0, 46, [])), (46, (0, 0, 0, 72, 48, [])), (48, (31, 1, 0, 0, 50, [])), (50, (19, 0, 5, 0, 53, [])), (53, (4, 0, 0, 0, 54, [])), (54, (0, 0, 0, 8, 56, [])), (56, (31, 1, 0, 0, 58, [])), (58, (19, 0, 6, 0, 61, [])), (61, (4, 0, 0, 0, 62, [])), (62, (0, 0, 0, (-1), 63, [])), (63, (19, 0, 8, 0, 66, [])), (66, (29, 0, 0, 0, 67, []))]
set_option maxRecDepth 100000 in
theorem K_X0_init : ztbok F_X0_init T_X0_init := ztbB_ok (by decide +kernel)
set_option maxRecDepth 100000 in
theorem W_X0_init : zMth yX0_init (.code yX0_init cX0_init 1 (none)) 0 := ⟨z_at 168 (by decide +kernel) (by decide +kernel), z_at 5 (by decide +kernel) (by decide +kernel), ⟨by decide +kernel, by decide +kernel⟩, by decide +kernel⟩
set_option maxRecDepth 100000 in
theorem I_X0_init : Cond.instanceMethod yX0_init ∈ zws := z_at 167 (by decide +kernel) (by decide +kernel)
abbrev F_X0_begin : zF := (0, cX0_begin, none, 4, [], false)
def T_X0_begin : List (Nat × zI) := [(0, (4, 0, 0, 0, 1, [])), (1, (0, 0, 0, 0, 2, [])), (2, (19, 0, 7, 0, 5, [])), (5, (4, 0, 0, 0, 6, [])), (9, (0, 0, 0, 0, 10, [])), (10, (5, 2, 0, 0, 11, [])), (11, (2, 2, 0, 0, 12, [])), (12, (4, 1, 0, 0, 13, [])), (13, (18, 6, 8, 0, 16, [])), (16, (16, 1, 19, 0, 94, [])), (19, (4, 0, 0, 0, 20, [])), (20, (18, 0, 3, 0, 23, [])), (23, (2, 2, 0, 0, 24, [])), (24, (0, 0, 0, 2, 25, [])), (25, (9, 2, 0, 0, 26, [])), (26, (4, 1, 0, 0, 27, [])), (27, (18, 6, 3, 0, 30, [])), (30, (2, 2, 0, 0, 31, [])), (31, (20, 0, 0, 0, 32, [])), (32, (0, 0, 0, 1, 33, [])), (33, (9, 3, 0, 0, 34, [])), (34, (21, 0, 0, 0, 35, [])), (35, (4, 0, 0, 0, 36, [])), (36, (18, 0, 3, 0, 39, [])), (39, (2, 2, 0, 0, 40, [])), (40, (0, 0, 0, 2, 41, [])), (41, (9, 2, 0, 0, 42, [])), (42, (0, 0, 0, 1, 43, [])), (43, (9, 0, 0, 0, 44, [])), (44, (4, 1, 0, 0, 45, [])), (45, (18, 6, 3, 0, 48, [])), (48, (2, 2, 0, 0, 49, [])), (49, (20, 0, 0, 0, 50, [])), (50, (0, 0, 0, 1, 51, [])), (51, (9, 7, 0, 0, 52, [])), (52, (21, 0, 0, 0, 53, [])), (53, (0, 0, 0, 0, 54, [])), (54, (5, 3, 0, 0, 55, [])), (55, (2, 3, 0, 0, 56, [])), (56, (0, 0, 0, 24, 58, [])), (58, (16, 1, 61, 0, 88, [])), (61, (4, 0, 0, 0, 62, [])), (62, (18, 0, 4, 0, 65, [])), (65, (2, 2, 0, 0, 66, [])), (66, (0, 0, 0, 24, 68, [])), (68, (9, 2, 0, 0, 69, [])), (69, (2, 3, 0, 0, 70, [])), (70, (9, 0, 0, 0, 71, [])), (71, (4, 1, 0, 0, 72, [])), (72, (2, 2, 0, 0, 73, [])), (73, (2, 3, 0, 0, 74, [])), (77, (0, 0, 0, 0, 78, [])), (81, (21, 0, 0, 0, 82, [])), (82, (8, 3, 0, 1, 85, [])), (85, (15, 0, 0, 0, 55, [])), (88, (8, 2, 0, 1, 91, [])), (91, (15, 0, 0, 0, 11, [])), (94, (0, 0, 0, 0, 95, [])), (95, (5, 2, 0, 0, 96, [])), (96, (2, 2, 0, 0, 97, [])), (97, (4, 1, 0, 0, 98, [])), (98, (18, 6, 9, 0, 101, [])), (101, (16, 1, 104, 0, 141, [])), (104, (0, 0, 0, 0, 105, [])), (105, (5, 3, 0, 0, 106, [])), (106, (2, 3, 0, 0, 107, [])), (107, (0, 0, 0, 24, 109, [])), (109, (16, 1, 112, 0, 135, [])), (112, (4, 0, 0, 0, 113, [])), (113, (18, 0, 5, 0, 116, [])), (116, (2, 2, 0, 0, 117, [])), (117, (0, 0, 0, 24, 119, [])), (119, (9, 2, 0, 0, 120, [])), (120, (2, 3, 0, 0, 121, [])), (121, (9, 0, 0, 0, 122, [])), (122, (4, 1, 0, 0, 123, [])), (123, (18, 6, 4, 0, 126, [])), (126, (2, 2, 0, 0, 127, [])), (127, (20, 0, 0, 0, 128, [])), (128, (21, 0, 0, 0, 129, [])), (129, (8, 3, 0, 1, 132, [])), (132, (15, 0, 0, 0, 106, [])), (135, (8, 2, 0, 1, 138, [])), (138, (15, 0, 0, 0, 96, [])), (141, (29, 0, 0, 0, 142, []))]
set_option maxRecDepth 100000 in
theorem K_X0_begin : ztbok F_X0_begin T_X0_begin := ztbB_ok (by decide +kernel)
set_option maxRecDepth 100000 in
theorem W_X0_begin : zMth yX0_begin (.code yX0_begin cX0_begin 4 (none)) 1 := ⟨z_at 789 (by decide +kernel) (by decide +kernel), z_at 5 (by decide +kernel) (by decide +kernel), ⟨by decide +kernel, by decide +kernel⟩, by decide +kernel⟩
set_option maxRecDepth 100000 in
theorem I_X0_begin : Cond.instanceMethod yX0_begin ∈ zws := z_at 787 (by decide +kernel) (by decide +kernel)
set_option maxRecDepth 100000 in
theorem S_X0_begin : Cond.selects yX0_begin.cls yX0_begin yX0_begin ∈ zws := z_at 788 (by decide +kernel) (by decide +kernel)
abbrev F_X0_copyFrom : zF := (0, cX0_copyFrom, none, 2, [], false)
def T_X0_copyFrom : List (Nat × zI) := [(0, (4, 1, 0, 0, 1, [])), (1, (18, 0, 0, 0, 4, [])), (4, (0, 0, 0, 0, 5, [])), (5, (4, 0, 0, 0, 6, [])), (6, (18, 0, 0, 0, 9, [])), (9, (0, 0, 0, 0, 10, [])), (10, (0, 0, 0, 12, 12, [])), (15, (4, 1, 0, 0, 16, [])), (16, (18, 0, 1, 0, 19, [])), (19, (0, 0, 0, 0, 20, [])), (20, (4, 0, 0, 0, 21, [])), (21, (18, 0, 1, 0, 24, [])), (24, (0, 0, 0, 0, 25, [])), (25, (0, 0, 0, 12, 27, [])), (30, (4, 1, 0, 0, 31, [])), (31, (18, 0, 2, 0, 34, [])), (34, (0, 0, 0, 0, 35, [])), (35, (4, 0, 0, 0, 36, [])), (36, (18, 0, 2, 0, 39, [])), (39, (0, 0, 0, 0, 40, [])), (40, (0, 0, 0, 12, 42, [])), (45, (4, 1, 0, 0, 46, [])), (46, (18, 0, 3, 0, 49, [])), (49, (0, 0, 0, 0, 50, [])), (50, (4, 0, 0, 0, 51, [])), (51, (18, 0, 3, 0, 54, [])), (54, (0, 0, 0, 0, 55, [])), (55, (0, 0, 0, 12, 57, [])), (60, (4, 1, 0, 0, 61, [])), (61, (18, 0, 4, 0, 64, [])), (64, (0, 0, 0, 0, 65, [])), (65, (4, 0, 0, 0, 66, [])), (66, (18, 0, 4, 0, 69, [])), (69, (0, 0, 0, 0, 70, [])), (70, (0, 0, 0, 144, 73, [])), (76, (4, 1, 0, 0, 77, [])), (77, (18, 0, 5, 0, 80, [])), (80, (0, 0, 0, 0, 81, [])), (81, (4, 0, 0, 0, 82, [])), (82, (18, 0, 5, 0, 85, [])), (85, (0, 0, 0, 0, 86, [])), (86, (0, 0, 0, 72, 88, [])), (91, (4, 1, 0, 0, 92, [])), (92, (18, 0, 6, 0, 95, [])), (95, (0, 0, 0, 0, 96, [])), (96, (4, 0, 0, 0, 97, [])), (97, (18, 0, 6, 0, 100, [])), (100, (0, 0, 0, 0, 101, [])), (101, (0, 0, 0, 8, 103, [])), (106, (4, 0, 0, 0, 107, [])), (107, (4, 1, 0, 0, 108, [])), (108, (18, 0, 7, 0, 111, [])), (111, (19, 0, 7, 0, 114, [])), (114, (4, 0, 0, 0, 115, [])), (115, (4, 1, 0, 0, 116, [])), (116, (18, 0, 8, 0, 119, [])), (119, (19, 0, 8, 0, 122, [])), (122, (4, 0, 0, 0, 123, [])), (123, (4, 1, 0, 0, 124, [])), (124, (18, 0, 9, 0, 127, [])), (127, (19, 0, 9, 0, 130, [])), (130, (29, 0, 0, 0, 131, []))]
set_option maxRecDepth 100000 in
theorem K_X0_copyFrom : ztbok F_X0_copyFrom T_X0_copyFrom := ztbB_ok (by decide +kernel)
set_option maxRecDepth 100000 in
theorem W_X0_copyFrom : zMth yX0_copyFrom (.code yX0_copyFrom cX0_copyFrom 2 (none)) 1 := ⟨z_at 531 (by decide +kernel) (by decide +kernel), z_at 5 (by decide +kernel) (by decide +kernel), ⟨by decide +kernel, by decide +kernel⟩, by decide +kernel⟩
set_option maxRecDepth 100000 in
theorem I_X0_copyFrom : Cond.instanceMethod yX0_copyFrom ∈ zws := z_at 529 (by decide +kernel) (by decide +kernel)
set_option maxRecDepth 100000 in
theorem S_X0_copyFrom : Cond.selects yX0_copyFrom.cls yX0_copyFrom yX0_copyFrom ∈ zws := z_at 530 (by decide +kernel) (by decide +kernel)
abbrev F_X0_shoesOf : zF := (0, cX0_shoesOf, some .int, 3, [], false)
def T_X0_shoesOf : List (Nat × zI) := [(0, (4, 0, 0, 0, 1, [])), (1, (18, 0, 3, 0, 4, [])), (4, (2, 1, 0, 0, 5, [])), (5, (0, 0, 0, 2, 6, [])), (6, (9, 2, 0, 0, 7, [])), (7, (2, 2, 0, 0, 8, [])), (8, (9, 0, 0, 0, 9, [])), (9, (0, 0, 0, 1, 10, [])), (10, (9, 1, 0, 0, 11, [])), (11, (20, 0, 0, 0, 12, [])), (12, (27, 0, 0, 0, 13, []))]
set_option maxRecDepth 100000 in
theorem K_X0_shoesOf : ztbok F_X0_shoesOf T_X0_shoesOf := ztbB_ok (by decide +kernel)
set_option maxRecDepth 100000 in
theorem W_X0_shoesOf : zMth yX0_shoesOf (.code yX0_shoesOf cX0_shoesOf 3 (some .int)) 2 := ⟨z_at 846 (by decide +kernel) (by decide +kernel), z_at 5 (by decide +kernel) (by decide +kernel), ⟨by decide +kernel, by decide +kernel⟩, by decide +kernel⟩
set_option maxRecDepth 100000 in
theorem I_X0_shoesOf : Cond.instanceMethod yX0_shoesOf ∈ zws := z_at 844 (by decide +kernel) (by decide +kernel)
set_option maxRecDepth 100000 in
theorem S_X0_shoesOf : Cond.selects yX0_shoesOf.cls yX0_shoesOf yX0_shoesOf ∈ zws := z_at 845 (by decide +kernel) (by decide +kernel)
abbrev F_X0_shoeKinds : zF := (0, cX0_shoeKinds, some .int, 4, [], false)
def T_X0_shoeKinds : List (Nat × zI) := [(0, (4, 0, 0, 0, 1, [])), (1, (18, 0, 3, 0, 4, [])), (4, (2, 1, 0, 0, 5, [])), (5, (0, 0, 0, 2, 6, [])), (6, (9, 2, 0, 0, 7, [])), (7, (20, 0, 0, 0, 8, [])), (8, (17, 2, 11, 0, 15, [])), (11, (0, 0, 0, 1, 12, [])), (12, (15, 0, 0, 0, 16, [])), (15, (0, 0, 0, 0, 16, [])), (16, (5, 2, 0, 0, 17, [])), (17, (4, 0, 0, 0, 18, [])), (18, (18, 0, 3, 0, 21, [])), (21, (2, 1, 0, 0, 22, [])), (22, (0, 0, 0, 2, 23, [])), (23, (9, 2, 0, 0, 24, [])), (24, (0, 0, 0, 1, 25, [])), (25, (9, 0, 0, 0, 26, [])), (26, (20, 0, 0, 0, 27, [])), (27, (17, 2, 30, 0, 34, [])), (30, (0, 0, 0, 2, 31, [])), (31, (15, 0, 0, 0, 35, [])), (34, (0, 0, 0, 0, 35, [])), (35, (5, 3, 0, 0, 36, [])), (36, (2, 2, 0, 0, 37, [])), (37, (2, 3, 0, 0, 38, [])), (38, (9, 4, 0, 0, 39, [])), (39, (27, 0, 0, 0, 40, []))]
set_option maxRecDepth 100000 in
theorem K_X0_shoeKinds : ztbok F_X0_shoeKinds T_X0_shoeKinds := ztbB_ok (by decide +kernel)
set_option maxRecDepth 100000 in
theorem W_X0_shoeKinds : zMth yX0_shoeKinds (.code yX0_shoeKinds cX0_shoeKinds 4 (some .int)) 1 := ⟨z_at 518 (by decide +kernel) (by decide +kernel), z_at 5 (by decide +kernel) (by decide +kernel), ⟨by decide +kernel, by decide +kernel⟩, by decide +kernel⟩
set_option maxRecDepth 100000 in
theorem I_X0_shoeKinds : Cond.instanceMethod yX0_shoeKinds ∈ zws := z_at 516 (by decide +kernel) (by decide +kernel)
set_option maxRecDepth 100000 in
theorem S_X0_shoeKinds : Cond.selects yX0_shoeKinds.cls yX0_shoeKinds yX0_shoeKinds ∈ zws := z_at 517 (by decide +kernel) (by decide +kernel)
abbrev F_X0_canLend : zF := (0, cX0_canLend, some .boolean, 4, [], false)
def T_X0_canLend : List (Nat × zI) := [(0, (2, 2, 0, 0, 1, [])), (1, (0, 0, 0, 1, 2, [])), (2, (16, 0, 10, 0, 5, [])), (5, (2, 2, 0, 0, 6, [])), (6, (0, 0, 0, 2, 7, [])), (7, (16, 0, 10, 0, 14, [])), (10, (0, 0, 0, 1, 11, [])), (11, (15, 0, 0, 0, 15, [])), (14, (0, 0, 0, 0, 15, [])), (15, (5, 3, 0, 0, 16, [])), (16, (4, 0, 0, 0, 17, [])), (17, (18, 0, 7, 0, 20, [])), (20, (0, 0, 0, 12, 22, [])), (22, (16, 1, 25, 0, 42, [])), (25, (2, 3, 0, 0, 26, [])), (26, (17, 0, 42, 0, 29, [])), (29, (4, 0, 0, 0, 30, [])), (30, (2, 1, 0, 0, 31, [])), (31, (2, 2, 0, 0, 32, [])), (35, (17, 2, 38, 0, 42, [])), (38, (0, 0, 0, 1, 39, [])), (39, (15, 0, 0, 0, 43, [])), (42, (0, 0, 0, 0, 43, [])), (43, (27, 0, 0, 0, 44, []))]
set_option maxRecDepth 100000 in
theorem K_X0_canLend : ztbok F_X0_canLend T_X0_canLend := ztbB_ok (by decide +kernel)
set_option maxRecDepth 100000 in
theorem W_X0_canLend : zMth yX0_canLend (.code yX0_canLend cX0_canLend 4 (some .boolean)) 2 := ⟨z_at 886 (by decide +kernel) (by decide +kernel), z_at 5 (by decide +kernel) (by decide +kernel), ⟨by decide +kernel, by decide +kernel⟩, by decide +kernel⟩
set_option maxRecDepth 100000 in
theorem I_X0_canLend : Cond.instanceMethod yX0_canLend ∈ zws := z_at 884 (by decide +kernel) (by decide +kernel)
set_option maxRecDepth 100000 in
theorem S_X0_canLend : Cond.selects yX0_canLend.cls yX0_canLend yX0_canLend ∈ zws := z_at 885 (by decide +kernel) (by decide +kernel)
abbrev F_X0_handOver : zF := (0, cX0_handOver, none, 4, [], false)
def T_X0_handOver : List (Nat × zI) := [(0, (4, 0, 0, 0, 1, [])), (1, (18, 0, 0, 0, 4, [])), (4, (4, 0, 0, 0, 5, [])), (5, (18, 0, 7, 0, 8, [])), (8, (2, 1, 0, 0, 9, [])), (9, (21, 0, 0, 0, 10, [])), (10, (4, 0, 0, 0, 11, [])), (11, (18, 0, 1, 0, 14, [])), (14, (4, 0, 0, 0, 15, [])), (15, (18, 0, 7, 0, 18, [])), (18, (2, 2, 0, 0, 19, [])), (19, (21, 0, 0, 0, 20, [])), (20, (4, 0, 0, 0, 21, [])), (21, (18, 0, 2, 0, 24, [])), (24, (4, 0, 0, 0, 25, [])), (25, (18, 0, 7, 0, 28, [])), (28, (2, 3, 0, 0, 29, [])), (29, (21, 0, 0, 0, 30, [])), (30, (4, 0, 0, 0, 31, [])), (31, (12, 0, 0, 0, 32, [])), (32, (18, 0, 7, 0, 35, [])), (35, (0, 0, 0, 1, 36, [])), (36, (9, 0, 0, 0, 37, [])), (37, (19, 0, 7, 0, 40, [])), (40, (4, 0, 0, 0, 41, [])), (41, (2, 1, 0, 0, 42, [])), (42, (2, 2, 0, 0, 43, [])), (43, (2, 3, 0, 0, 44, [])), (47, (29, 0, 0, 0, 48, []))]
set_option maxRecDepth 100000 in
theorem K_X0_handOver : ztbok F_X0_handOver T_X0_handOver := ztbB_ok (by decide +kernel)
set_option maxRecDepth 100000 in
theorem W_X0_handOver : zMth yX0_handOver (.code yX0_handOver cX0_handOver 4 (none)) 3 := ⟨z_at 891 (by decide +kernel) (by decide +kernel), z_at 5 (by decide +kernel) (by decide +kernel), ⟨by decide +kernel, by decide +kernel⟩, by decide +kernel⟩
set_option maxRecDepth 100000 in
theorem I_X0_handOver : Cond.instanceMethod yX0_handOver ∈ zws := z_at 889 (by decide +kernel) (by decide +kernel)
set_option maxRecDepth 100000 in
theorem S_X0_handOver : Cond.selects yX0_handOver.cls yX0_handOver yX0_handOver ∈ zws := z_at 890 (by decide +kernel) (by decide +kernel)
abbrev F_X0_handBack : zF := (0, cX0_handBack, none, 1, [], false)
def T_X0_handBack : List (Nat × zI) := [(0, (4, 0, 0, 0, 1, [])), (1, (12, 0, 0, 0, 2, [])), (2, (18, 0, 7, 0, 5, [])), (5, (0, 0, 0, 1, 6, [])), (6, (9, 1, 0, 0, 7, [])), (7, (19, 0, 7, 0, 10, [])), (10, (4, 0, 0, 0, 11, [])), (11, (4, 0, 0, 0, 12, [])), (12, (18, 0, 1, 0, 15, [])), (15, (4, 0, 0, 0, 16, [])), (16, (18, 0, 7, 0, 19, [])), (19, (20, 0, 0, 0, 20, [])), (20, (4, 0, 0, 0, 21, [])), (21, (18, 0, 0, 0, 24, [])), (24, (4, 0, 0, 0, 25, [])), (25, (18, 0, 7, 0, 28, [])), (28, (20, 0, 0, 0, 29, [])), (29, (4, 0, 0, 0, 30, [])), (30, (18, 0, 2, 0, 33, [])), (33, (4, 0, 0, 0, 34, [])), (34, (18, 0, 7, 0, 37, [])), (37, (20, 0, 0, 0, 38, [])), (41, (29, 0, 0, 0, 42, []))]
set_option maxRecDepth 100000 in
theorem K_X0_handBack : ztbok F_X0_handBack T_X0_handBack := ztbB_ok (by decide +kernel)
set_option maxRecDepth 100000 in
theorem W_X0_handBack : zMth yX0_handBack (.code yX0_handBack cX0_handBack 1 (none)) 0 := ⟨z_at 451 (by decide +kernel) (by decide +kernel), z_at 5 (by decide +kernel) (by decide +kernel), ⟨by decide +kernel, by decide +kernel⟩, by decide +kernel⟩
set_option maxRecDepth 100000 in
theorem I_X0_handBack : Cond.instanceMethod yX0_handBack ∈ zws := z_at 449 (by decide +kernel) (by decide +kernel)
set_option maxRecDepth 100000 in
theorem S_X0_handBack : Cond.selects yX0_handBack.cls yX0_handBack yX0_handBack ∈ zws := z_at 450 (by decide +kernel) (by decide +kernel)
abbrev F_X0_move : zF := (0, cX0_move, none, 4, [], false)
def T_X0_move : List (Nat × zI) := [(0, (4, 0, 0, 0, 1, [])), (1, (18, 0, 3, 0, 4, [])), (4, (2, 1, 0, 0, 5, [])), (5, (0, 0, 0, 2, 6, [])), (6, (9, 2, 0, 0, 7, [])), (7, (2, 3, 0, 0, 8, [])), (8, (9, 0, 0, 0, 9, [])), (9, (0, 0, 0, 1, 10, [])), (10, (9, 1, 0, 0, 11, [])), (11, (13, 0, 0, 0, 12, [])), (12, (20, 0, 0, 0, 13, [])), (13, (0, 0, 0, 1, 14, [])), (14, (9, 1, 0, 0, 15, [])), (15, (21, 0, 0, 0, 16, [])), (16, (4, 0, 0, 0, 17, [])), (17, (18, 0, 3, 0, 20, [])), (20, (2, 2, 0, 0, 21, [])), (21, (0, 0, 0, 2, 22, [])), (22, (9, 2, 0, 0, 23, [])), (23, (2, 3, 0, 0, 24, [])), (24, (9, 0, 0, 0, 25, [])), (25, (0, 0, 0, 1, 26, [])), (26, (9, 1, 0, 0, 27, [])), (27, (13, 0, 0, 0, 28, [])), (28, (20, 0, 0, 0, 29, [])), (29, (0, 0, 0, 1, 30, [])), (30, (9, 0, 0, 0, 31, [])), (31, (21, 0, 0, 0, 32, [])), (32, (29, 0, 0, 0, 33, []))]
set_option maxRecDepth 100000 in
theorem K_X0_move : ztbok F_X0_move T_X0_move := ztbB_ok (by decide +kernel)
set_option maxRecDepth 100000 in
theorem W_X0_move : zMth yX0_move (.code yX0_move cX0_move 4 (none)) 3 := ⟨z_at 455 (by decide +kernel) (by decide +kernel), z_at 5 (by decide +kernel) (by decide +kernel), ⟨by decide +kernel, by decide +kernel⟩, by decide +kernel⟩
set_option maxRecDepth 100000 in
theorem I_X0_move : Cond.instanceMethod yX0_move ∈ zws := z_at 454 (by decide +kernel) (by decide +kernel)
set_option maxRecDepth 100000 in
theorem S_X0_move : Cond.selects yX0_move.cls yX0_move yX0_move ∈ zws := z_in (List.mem_append_left _ (List.mem_map.mpr ⟨_, List.mem_of_getElem? (i := 1) rfl, rfl⟩)) rfl
abbrev F_X0_doing : zF := (0, cX0_doing, some .int, 3, [], false)
def T_X0_doing : List (Nat × zI) := [(0, (4, 0, 0, 0, 1, [])), (1, (18, 0, 4, 0, 4, [])), (4, (2, 1, 0, 0, 5, [])), (5, (0, 0, 0, 24, 7, [])), (7, (9, 2, 0, 0, 8, [])), (8, (2, 2, 0, 0, 9, [])), (9, (9, 0, 0, 0, 10, [])), (10, (20, 0, 0, 0, 11, [])), (11, (27, 0, 0, 0, 12, []))]
set_option maxRecDepth 100000 in
theorem K_X0_doing : ztbok F_X0_doing T_X0_doing := ztbB_ok (by decide +kernel)
set_option maxRecDepth 100000 in
theorem W_X0_doing : zMth yX0_doing (.code yX0_doing cX0_doing 3 (some .int)) 2 := ⟨z_at 902 (by decide +kernel) (by decide +kernel), z_at 5 (by decide +kernel) (by decide +kernel), ⟨by decide +kernel, by decide +kernel⟩, by decide +kernel⟩
set_option maxRecDepth 100000 in
theorem I_X0_doing : Cond.instanceMethod yX0_doing ∈ zws := z_at 900 (by decide +kernel) (by decide +kernel)
set_option maxRecDepth 100000 in
theorem S_X0_doing : Cond.selects yX0_doing.cls yX0_doing yX0_doing ∈ zws := z_at 901 (by decide +kernel) (by decide +kernel)
abbrev F_X0_drawDay : zF := (0, cX0_drawDay, none, 9, [], false)
def T_X0_drawDay : List (Nat × zI) := [(0, (2, 2, 0, 0, 1, [])), (1, (5, 3, 0, 0, 2, [])), (2, (0, 0, 0, 0, 3, [])), (3, (5, 4, 0, 0, 5, [])), (5, (2, 4, 0, 0, 7, [])), (7, (0, 0, 0, 24, 9, [])), (9, (16, 1, 12, 0, 104, [])), (12, (0, 0, 0, 0, 13, [])), (13, (5, 5, 0, 0, 15, [])), (15, (2, 5, 0, 0, 17, [])), (17, (4, 1, 0, 0, 18, [])), (18, (18, 6, 8, 0, 21, [])), (21, (16, 1, 24, 0, 98, [])), (24, (4, 1, 0, 0, 25, [])), (25, (2, 5, 0, 0, 27, [])), (27, (2, 4, 0, 0, 29, [])), (32, (5, 6, 0, 0, 34, [])), (34, (2, 6, 0, 0, 36, [])), (39, (5, 7, 0, 0, 41, [])), (41, (0, 0, 0, 0, 42, [])), (42, (5, 8, 0, 0, 44, [])), (44, (2, 7, 0, 0, 46, [])), (46, (0, 0, 0, 1, 47, [])), (47, (16, 2, 50, 0, 72, [])), (50, (2, 3, 0, 0, 51, [])), (51, (0, 0, 0, 1103515245, 53, [])), (53, (9, 2, 0, 0, 54, [])), (54, (0, 0, 0, 12345, 57, [])), (57, (9, 0, 0, 0, 58, [])), (58, (5, 3, 0, 0, 59, [])), (59, (2, 3, 0, 0, 60, [])), (60, (0, 0, 0, 16, 62, [])), (62, (9, 8, 0, 0, 63, [])), (63, (0, 0, 0, 32767, 66, [])), (66, (9, 3, 0, 0, 67, [])), (67, (2, 7, 0, 0, 69, [])), (69, (9, 10, 0, 0, 70, [])), (70, (5, 8, 0, 0, 72, [])), (72, (4, 0, 0, 0, 73, [])), (73, (18, 0, 4, 0, 76, [])), (76, (2, 5, 0, 0, 78, [])), (78, (0, 0, 0, 24, 80, [])), (80, (9, 2, 0, 0, 81, [])), (81, (2, 4, 0, 0, 83, [])), (83, (9, 0, 0, 0, 84, [])), (84, (2, 6, 0, 0, 86, [])), (86, (2, 8, 0, 0, 88, [])), (91, (21, 0, 0, 0, 92, [])), (92, (8, 5, 0, 1, 95, [])), (95, (15, 0, 0, 0, 15, [])), (98, (8, 4, 0, 1, 101, [])), (101, (15, 0, 0, 0, 5, [])), (104, (29, 0, 0, 0, 105, []))]
set_option maxRecDepth 100000 in
theorem K_X0_drawDay : ztbok F_X0_drawDay T_X0_drawDay := ztbB_ok (by decide +kernel)
set_option maxRecDepth 100000 in
theorem W_X0_drawDay : zMth yX0_drawDay (.code yX0_drawDay cX0_drawDay 9 (none)) 2 := ⟨z_at 463 (by decide +kernel) (by decide +kernel), z_at 5 (by decide +kernel) (by decide +kernel), ⟨by decide +kernel, by decide +kernel⟩, by decide +kernel⟩
set_option maxRecDepth 100000 in
theorem I_X0_drawDay : Cond.instanceMethod yX0_drawDay ∈ zws := z_at 461 (by decide +kernel) (by decide +kernel)
set_option maxRecDepth 100000 in
theorem S_X0_drawDay : Cond.selects yX0_drawDay.cls yX0_drawDay yX0_drawDay ∈ zws := z_at 462 (by decide +kernel) (by decide +kernel)
abbrev F_X0_hasSeen : zF := (0, cX0_hasSeen, some .boolean, 3, [], false)
def T_X0_hasSeen : List (Nat × zI) := [(0, (2, 2, 0, 0, 1, [])), (1, (4, 0, 0, 0, 2, [])), (2, (18, 0, 8, 0, 5, [])), (5, (16, 0, 8, 0, 24, [])), (8, (4, 0, 0, 0, 9, [])), (9, (18, 0, 9, 0, 12, [])), (12, (2, 1, 0, 0, 13, [])), (13, (9, 7, 0, 0, 14, [])), (14, (0, 0, 0, 1, 15, [])), (15, (9, 3, 0, 0, 16, [])), (16, (0, 0, 0, 1, 17, [])), (17, (16, 0, 20, 0, 24, [])), (20, (0, 0, 0, 1, 21, [])), (21, (15, 0, 0, 0, 25, [])), (24, (0, 0, 0, 0, 25, [])), (25, (27, 0, 0, 0, 26, []))]
set_option maxRecDepth 100000 in
theorem K_X0_hasSeen : ztbok F_X0_hasSeen T_X0_hasSeen := ztbB_ok (by decide +kernel)
set_option maxRecDepth 100000 in
theorem W_X0_hasSeen : zMth yX0_hasSeen (.code yX0_hasSeen cX0_hasSeen 3 (some .boolean)) 2 := ⟨z_at 948 (by decide +kernel) (by decide +kernel), z_at 5 (by decide +kernel) (by decide +kernel), ⟨by decide +kernel, by decide +kernel⟩, by decide +kernel⟩
set_option maxRecDepth 100000 in
theorem I_X0_hasSeen : Cond.instanceMethod yX0_hasSeen ∈ zws := z_at 946 (by decide +kernel) (by decide +kernel)
set_option maxRecDepth 100000 in
theorem S_X0_hasSeen : Cond.selects yX0_hasSeen.cls yX0_hasSeen yX0_hasSeen ∈ zws := z_at 947 (by decide +kernel) (by decide +kernel)
abbrev F_X0_note : zF := (0, cX0_note, none, 4, [], false)
def T_X0_note : List (Nat × zI) := [(0, (2, 2, 0, 0, 1, [])), (1, (4, 0, 0, 0, 2, [])), (2, (18, 0, 8, 0, 5, [])), (5, (16, 0, 18, 0, 8, [])), (8, (4, 0, 0, 0, 9, [])), (9, (0, 0, 0, 0, 10, [])), (10, (19, 0, 9, 0, 13, [])), (13, (4, 0, 0, 0, 14, [])), (14, (2, 2, 0, 0, 15, [])), (15, (19, 0, 8, 0, 18, [])), (18, (4, 0, 0, 0, 19, [])), (19, (12, 0, 0, 0, 20, [])), (20, (18, 0, 9, 0, 23, [])), (23, (0, 0, 0, 1, 24, [])), (24, (2, 1, 0, 0, 25, [])), (25, (9, 6, 0, 0, 26, [])), (26, (9, 4, 0, 0, 27, [])), (27, (19, 0, 9, 0, 30, [])), (30, (4, 0, 0, 0, 31, [])), (31, (18, 0, 6, 0, 34, [])), (34, (2, 1, 0, 0, 35, [])), (35, (2, 3, 0, 0, 36, [])), (36, (21, 0, 0, 0, 37, [])), (37, (29, 0, 0, 0, 38, []))]
set_option maxRecDepth 100000 in
theorem K_X0_note : ztbok F_X0_note T_X0_note := ztbB_ok (by decide +kernel)
set_option maxRecDepth 100000 in
theorem W_X0_note : zMth yX0_note (.code yX0_note cX0_note 4 (none)) 3 := ⟨z_at 952 (by decide +kernel) (by decide +kernel), z_at 5 (by decide +kernel) (by decide +kernel), ⟨by decide +kernel, by decide +kernel⟩, by decide +kernel⟩
set_option maxRecDepth 100000 in
theorem I_X0_note : Cond.instanceMethod yX0_note ∈ zws := z_at 950 (by decide +kernel) (by decide +kernel)
set_option maxRecDepth 100000 in
theorem S_X0_note : Cond.selects yX0_note.cls yX0_note yX0_note ∈ zws := z_at 951 (by decide +kernel) (by decide +kernel)
abbrev F_X0_seeNothing : zF := (0, cX0_seeNothing, none, 1, [], false)
def T_X0_seeNothing : List (Nat × zI) := [(0, (4, 0, 0, 0, 1, [])), (1, (0, 0, 0, (-1), 2, [])), (2, (19, 0, 8, 0, 5, [])), (5, (4, 0, 0, 0, 6, [])), (6, (0, 0, 0, 0, 7, [])), (7, (19, 0, 9, 0, 10, [])), (10, (29, 0, 0, 0, 11, []))]
set_option maxRecDepth 100000 in
theorem K_X0_seeNothing : ztbok F_X0_seeNothing T_X0_seeNothing := ztbB_ok (by decide +kernel)
set_option maxRecDepth 100000 in
theorem W_X0_seeNothing : zMth yX0_seeNothing (.code yX0_seeNothing cX0_seeNothing 1 (none)) 0 := ⟨z_at 486 (by decide +kernel) (by decide +kernel), z_at 5 (by decide +kernel) (by decide +kernel), ⟨by decide +kernel, by decide +kernel⟩, by decide +kernel⟩
set_option maxRecDepth 100000 in
theorem I_X0_seeNothing : Cond.instanceMethod yX0_seeNothing ∈ zws := z_at 484 (by decide +kernel) (by decide +kernel)
set_option maxRecDepth 100000 in
theorem S_X0_seeNothing : Cond.selects yX0_seeNothing.cls yX0_seeNothing yX0_seeNothing ∈ zws := z_at 485 (by decide +kernel) (by decide +kernel)
abbrev F_X1_init : zF := (1, cX1_init, none, 4, [], true)
def T_X1_init : List (Nat × zI) := [(0, (4, 0, 0, 0, 1, [])), (1, (35, 0, 0, 0, 4, [])), (4, (4, 0, 0, 0, 5, [])), (5, (0, 0, 0, 6, 7, [])), (7, (31, 1, 0, 0, 9, [])), (9, (19, 1, 3, 0, 12, [])), (12, (4, 0, 0, 0, 13, [])), (13, (4, 1, 0, 0, 14, [])), (14, (19, 1, 0, 0, 17, [])), (17, (4, 0, 0, 0, 18, [])), (18, (4, 2, 0, 0, 19, [])), (19, (19, 1, 1, 0, 22, [])), (22, (4, 0, 0, 0, 23, [])), (23, (4, 3, 0, 0, 24, [])), (24, (19, 1, 2, 0, 27, [])), (27, (29, 0, 0, 0, 28, []))]
set_option maxRecDepth 100000 in
theorem K_X1_init : ztbok F_X1_init T_X1_init := ztbB_ok (by decide +kernel)
set_option maxRecDepth 100000 in
theorem W_X1_init : zMth yX1_init (.code yX1_init cX1_init 4 (none)) 3 := ⟨z_at 225 (by decide +kernel) (by decide +kernel), z_at 7 (by decide +kernel) (by decide +kernel), ⟨by decide +kernel, by decide +kernel⟩, by decide +kernel⟩
set_option maxRecDepth 100000 in
theorem I_X1_init : Cond.instanceMethod yX1_init ∈ zws := z_at 224 (by decide +kernel) (by decide +kernel)
abbrev F_X1_reckon : zF := (1, cX1_reckon, some .int, 3, [], false)
def T_X1_reckon : List (Nat × zI) := [(0, (4, 0, 0, 0, 1, [])), (1, (18, 1, 1, 0, 4, [])), (4, (18, 0, 8, 0, 7, [])), (7, (0, 0, 0, (-1), 8, [])), (8, (16, 0, 11, 0, 15, [])), (11, (0, 0, 0, 0, 12, [])), (12, (15, 0, 0, 0, 22, [])), (15, (4, 0, 0, 0, 16, [])), (16, (18, 1, 1, 0, 19, [])), (19, (18, 0, 8, 0, 22, [])), (22, (5, 1, 0, 0, 23, [])), (23, (4, 0, 0, 0, 24, [])), (24, (18, 1, 0, 0, 27, [])), (27, (2, 1, 0, 0, 28, [])), (31, (0, 0, 0, (-2), 33, [])), (33, (16, 0, 36, 0, 44, [])), (36, (4, 0, 0, 0, 37, [])), (37, (0, 0, 0, 0, 38, [])), (38, (19, 1, 4, 0, 41, [])), (41, (0, 0, 0, (-2), 43, [])), (43, (27, 0, 0, 0, 44, [])), (44, (4, 0, 0, 0, 45, [])), (45, (4, 0, 0, 0, 46, [])), (49, (17, 0, 56, 0, 52, [])), (52, (0, 0, 0, 1, 53, [])), (53, (15, 0, 0, 0, 57, [])), (56, (0, 0, 0, 0, 57, [])), (57, (19, 1, 4, 0, 60, [])), (60, (0, 0, 0, 0, 61, [])), (61, (5, 2, 0, 0, 62, [])), (62, (2, 2, 0, 0, 63, [])), (63, (4, 0, 0, 0, 64, [])), (64, (18, 1, 0, 0, 67, [])), (67, (18, 6, 8, 0, 70, [])), (70, (16, 1, 73, 0, 109, [])), (73, (4, 0, 0, 0, 74, [])), (74, (18, 1, 3, 0, 77, [])), (77, (2, 2, 0, 0, 78, [])), (78, (4, 0, 0, 0, 79, [])), (79, (2, 2, 0, 0, 80, [])), (80, (2, 1, 0, 0, 81, [])), (84, (21, 0, 0, 0, 85, [])), (85, (4, 0, 0, 0, 86, [])), (86, (12, 0, 0, 0, 87, [])), (87, (18, 1, 4, 0, 90, [])), (90, (4, 0, 0, 0, 91, [])), (91, (18, 1, 3, 0, 94, [])), (94, (2, 2, 0, 0, 95, [])), (95, (20, 0, 0, 0, 96, [])), (99, (9, 2, 0, 0, 100, [])), (100, (19, 1, 4, 0, 103, [])), (103, (8, 2, 0, 1, 106, [])), (106, (15, 0, 0, 0, 62, [])), (109, (4, 0, 0, 0, 110, [])), (110, (18, 1, 4, 0, 113, [])), (113, (27, 0, 0, 0, 114, []))]
set_option maxRecDepth 100000 in
theorem K_X1_reckon : ztbok F_X1_reckon T_X1_reckon := ztbB_ok (by decide +kernel)
set_option maxRecDepth 100000 in
theorem W_X1_reckon : zMth yX1_reckon (.code yX1_reckon cX1_reckon 3 (some .int)) 0 := ⟨z_at 494 (by decide +kernel) (by decide +kernel), z_at 7 (by decide +kernel) (by decide +kernel), ⟨by decide +kernel, by decide +kernel⟩, by decide +kernel⟩
set_option maxRecDepth 100000 in
theorem I_X1_reckon : Cond.instanceMethod yX1_reckon ∈ zws := z_at 492 (by decide +kernel) (by decide +kernel)
set_option maxRecDepth 100000 in
theorem S_X1_reckon : Cond.selects yX1_reckon.cls yX1_reckon yX1_reckon ∈ zws := z_at 493 (by decide +kernel) (by decide +kernel)
abbrev F_X1_emptyRoomsHold : zF := (1, cX1_emptyRoomsHold, some .boolean, 3, [], false)
def T_X1_emptyRoomsHold : List (Nat × zI) := [(0, (0, 0, 0, 0, 1, [])), (1, (5, 1, 0, 0, 2, [])), (2, (2, 1, 0, 0, 3, [])), (3, (4, 0, 0, 0, 4, [])), (4, (18, 1, 0, 0, 7, [])), (7, (18, 6, 7, 0, 10, [])), (10, (16, 1, 13, 0, 72, [])), (13, (4, 0, 0, 0, 14, [])), (14, (18, 1, 1, 0, 17, [])), (17, (18, 0, 9, 0, 20, [])), (20, (2, 1, 0, 0, 21, [])), (21, (9, 7, 0, 0, 22, [])), (22, (0, 0, 0, 1, 23, [])), (23, (9, 3, 0, 0, 24, [])), (24, (0, 0, 0, 1, 25, [])), (25, (16, 0, 28, 0, 32, [])), (28, (0, 0, 0, 1, 29, [])), (29, (15, 0, 0, 0, 33, [])), (32, (0, 0, 0, 0, 33, [])), (33, (5, 2, 0, 0, 34, [])), (34, (2, 2, 0, 0, 35, [])), (35, (17, 0, 66, 0, 38, [])), (38, (4, 0, 0, 0, 39, [])), (39, (18, 1, 0, 0, 42, [])), (42, (18, 6, 1, 0, 45, [])), (45, (2, 1, 0, 0, 46, [])), (46, (20, 0, 0, 0, 47, [])), (47, (0, 0, 0, (-1), 48, [])), (48, (16, 0, 51, 0, 66, [])), (51, (4, 0, 0, 0, 52, [])), (52, (18, 1, 1, 0, 55, [])), (55, (18, 0, 6, 0, 58, [])), (58, (2, 1, 0, 0, 59, [])), (59, (20, 0, 0, 0, 60, [])), (60, (0, 0, 0, 3, 61, [])), (61, (16, 0, 66, 0, 64, [])), (64, (0, 0, 0, 0, 65, [])), (65, (27, 0, 0, 0, 66, [])), (66, (8, 1, 0, 1, 69, [])), (69, (15, 0, 0, 0, 2, [])), (72, (0, 0, 0, 1, 73, [])), (73, (27, 0, 0, 0, 74, []))]
set_option maxRecDepth 100000 in
theorem K_X1_emptyRoomsHold : ztbok F_X1_emptyRoomsHold T_X1_emptyRoomsHold := ztbB_ok (by decide +kernel)
set_option maxRecDepth 100000 in
theorem W_X1_emptyRoomsHold : zMth yX1_emptyRoomsHold (.code yX1_emptyRoomsHold cX1_emptyRoomsHold 3 (some .boolean)) 0 := ⟨z_at 504 (by decide +kernel) (by decide +kernel), z_at 7 (by decide +kernel) (by decide +kernel), ⟨by decide +kernel, by decide +kernel⟩, by decide +kernel⟩
set_option maxRecDepth 100000 in
theorem I_X1_emptyRoomsHold : Cond.instanceMethod yX1_emptyRoomsHold ∈ zws := z_at 503 (by decide +kernel) (by decide +kernel)
set_option maxRecDepth 100000 in
theorem S_X1_emptyRoomsHold : Cond.selects yX1_emptyRoomsHold.cls yX1_emptyRoomsHold yX1_emptyRoomsHold ∈ zws := z_in (List.mem_append_left _ (List.mem_map.mpr ⟨_, List.mem_of_getElem? (i := 2) rfl, rfl⟩)) rfl
abbrev F_X1_doingsHeld : zF := (1, cX1_doingsHeld, some .int, 4, [], false)
def T_X1_doingsHeld : List (Nat × zI) := [(0, (4, 0, 0, 0, 1, [])), (1, (18, 1, 0, 0, 4, [])), (4, (18, 6, 2, 0, 7, [])), (7, (2, 1, 0, 0, 8, [])), (8, (20, 0, 0, 0, 9, [])), (9, (5, 3, 0, 0, 10, [])), (10, (4, 0, 0, 0, 11, [])), (11, (18, 1, 1, 0, 14, [])), (14, (18, 0, 9, 0, 17, [])), (17, (2, 3, 0, 0, 18, [])), (18, (9, 7, 0, 0, 19, [])), (19, (0, 0, 0, 1, 20, [])), (20, (9, 3, 0, 0, 21, [])), (21, (17, 0, 24, 0, 34, [])), (24, (4, 0, 0, 0, 25, [])), (25, (18, 1, 0, 0, 28, [])), (28, (2, 1, 0, 0, 29, [])), (29, (2, 2, 0, 0, 30, [])), (33, (27, 0, 0, 0, 34, [])), (34, (4, 0, 0, 0, 35, [])), (35, (18, 1, 2, 0, 38, [])), (38, (2, 1, 0, 0, 39, [])), (39, (2, 2, 0, 0, 40, [])), (40, (4, 0, 0, 0, 41, [])), (41, (18, 1, 1, 0, 44, [])), (44, (18, 0, 6, 0, 47, [])), (47, (2, 3, 0, 0, 48, [])), (48, (20, 0, 0, 0, 49, [])), (52, (27, 0, 0, 0, 53, []))]
set_option maxRecDepth 100000 in
theorem K_X1_doingsHeld : ztbok F_X1_doingsHeld T_X1_doingsHeld := ztbB_ok (by decide +kernel)
set_option maxRecDepth 100000 in
theorem W_X1_doingsHeld : zMth yX1_doingsHeld (.code yX1_doingsHeld cX1_doingsHeld 4 (some .int)) 2 := ⟨z_at 508 (by decide +kernel) (by decide +kernel), z_at 7 (by decide +kernel) (by decide +kernel), ⟨by decide +kernel, by decide +kernel⟩, by decide +kernel⟩
set_option maxRecDepth 100000 in
theorem I_X1_doingsHeld : Cond.instanceMethod yX1_doingsHeld ∈ zws := z_at 507 (by decide +kernel) (by decide +kernel)
set_option maxRecDepth 100000 in
theorem S_X1_doingsHeld : Cond.selects yX1_doingsHeld.cls yX1_doingsHeld yX1_doingsHeld ∈ zws := z_in (List.mem_append_left _ (List.mem_map.mpr ⟨_, List.mem_of_getElem? (i := 3) rfl, rfl⟩)) rfl
abbrev F_X1_doingIn : zF := (1, cX1_doingIn, some .int, 5, [], false)
def T_X1_doingIn : List (Nat × zI) := [(0, (0, 0, 0, 1, 1, [])), (1, (5, 3, 0, 0, 2, [])), (2, (2, 2, 0, 0, 3, [])), (3, (0, 0, 0, 1, 4, [])), (4, (9, 0, 0, 0, 5, [])), (5, (5, 4, 0, 0, 7, [])), (7, (2, 4, 0, 0, 9, [])), (9, (4, 0, 0, 0, 10, [])), (10, (18, 1, 0, 0, 13, [])), (13, (18, 6, 8, 0, 16, [])), (16, (16, 1, 19, 0, 38, [])), (19, (2, 3, 0, 0, 20, [])), (20, (4, 0, 0, 0, 21, [])), (21, (18, 1, 3, 0, 24, [])), (24, (2, 4, 0, 0, 26, [])), (26, (20, 0, 0, 0, 27, [])), (30, (9, 2, 0, 0, 31, [])), (31, (5, 3, 0, 0, 32, [])), (32, (8, 4, 0, 1, 35, [])), (35, (15, 0, 0, 0, 7, [])), (38, (4, 0, 0, 0, 39, [])), (39, (18, 1, 3, 0, 42, [])), (42, (2, 2, 0, 0, 43, [])), (43, (20, 0, 0, 0, 44, [])), (47, (5, 4, 0, 0, 49, [])), (49, (2, 3, 0, 0, 50, [])), (50, (0, 0, 0, 1, 51, [])), (51, (16, 1, 60, 0, 54, [])), (54, (2, 4, 0, 0, 56, [])), (56, (0, 0, 0, 1, 57, [])), (57, (16, 1, 60, 0, 62, [])), (60, (0, 0, 0, (-1), 61, [])), (61, (27, 0, 0, 0, 62, [])), (62, (4, 0, 0, 0, 63, [])), (63, (18, 1, 3, 0, 66, [])), (66, (2, 2, 0, 0, 67, [])), (67, (20, 0, 0, 0, 68, [])), (68, (2, 1, 0, 0, 69, [])), (69, (2, 3, 0, 0, 70, [])), (70, (9, 9, 0, 0, 71, [])), (71, (2, 4, 0, 0, 73, [])), (73, (9, 10, 0, 0, 74, [])), (77, (27, 0, 0, 0, 78, []))]
set_option maxRecDepth 100000 in
theorem K_X1_doingIn : ztbok F_X1_doingIn T_X1_doingIn := ztbB_ok (by decide +kernel)
set_option maxRecDepth 100000 in
theorem W_X1_doingIn : zMth yX1_doingIn (.code yX1_doingIn cX1_doingIn 5 (some .int)) 2 := ⟨z_at 963 (by decide +kernel) (by decide +kernel), z_at 7 (by decide +kernel) (by decide +kernel), ⟨by decide +kernel, by decide +kernel⟩, by decide +kernel⟩
set_option maxRecDepth 100000 in
theorem I_X1_doingIn : Cond.instanceMethod yX1_doingIn ∈ zws := z_at 961 (by decide +kernel) (by decide +kernel)
set_option maxRecDepth 100000 in
theorem S_X1_doingIn : Cond.selects yX1_doingIn.cls yX1_doingIn yX1_doingIn ∈ zws := z_at 962 (by decide +kernel) (by decide +kernel)
abbrev F_X1_casesWithout : zF := (1, cX1_casesWithout, some .int, 4, [], false)
def T_X1_casesWithout : List (Nat × zI) := [(0, (4, 0, 0, 0, 1, [])), (1, (18, 1, 4, 0, 4, [])), (4, (17, 2, 7, 0, 11, [])), (7, (0, 0, 0, 1, 8, [])), (8, (15, 0, 0, 0, 12, [])), (11, (0, 0, 0, 0, 12, [])), (12, (5, 2, 0, 0, 13, [])), (13, (0, 0, 0, 0, 14, [])), (14, (5, 3, 0, 0, 15, [])), (15, (2, 3, 0, 0, 16, [])), (16, (4, 0, 0, 0, 17, [])), (17, (18, 1, 0, 0, 20, [])), (20, (18, 6, 8, 0, 23, [])), (23, (16, 1, 26, 0, 56, [])), (26, (2, 2, 0, 0, 27, [])), (27, (4, 0, 0, 0, 28, [])), (28, (18, 1, 3, 0, 31, [])), (31, (2, 3, 0, 0, 32, [])), (32, (20, 0, 0, 0, 33, [])), (33, (4, 0, 0, 0, 34, [])), (34, (18, 1, 0, 0, 37, [])), (37, (2, 1, 0, 0, 38, [])), (38, (2, 3, 0, 0, 39, [])), (42, (0, 0, 0, (-1), 43, [])), (43, (9, 5, 0, 0, 44, [])), (44, (9, 3, 0, 0, 45, [])), (48, (9, 2, 0, 0, 49, [])), (49, (5, 2, 0, 0, 50, [])), (50, (8, 3, 0, 1, 53, [])), (53, (15, 0, 0, 0, 15, [])), (56, (2, 2, 0, 0, 57, [])), (57, (27, 0, 0, 0, 58, []))]
set_option maxRecDepth 100000 in
theorem K_X1_casesWithout : ztbok F_X1_casesWithout T_X1_casesWithout := ztbB_ok (by decide +kernel)
set_option maxRecDepth 100000 in
theorem W_X1_casesWithout : zMth yX1_casesWithout (.code yX1_casesWithout cX1_casesWithout 4 (some .int)) 1 := ⟨z_at 979 (by decide +kernel) (by decide +kernel), z_at 7 (by decide +kernel) (by decide +kernel), ⟨by decide +kernel, by decide +kernel⟩, by decide +kernel⟩
set_option maxRecDepth 100000 in
theorem I_X1_casesWithout : Cond.instanceMethod yX1_casesWithout ∈ zws := z_at 978 (by decide +kernel) (by decide +kernel)
set_option maxRecDepth 100000 in
theorem S_X1_casesWithout : Cond.selects yX1_casesWithout.cls yX1_casesWithout yX1_casesWithout ∈ zws := z_in (List.mem_append_left _ (List.mem_map.mpr ⟨_, List.mem_of_getElem? (i := 27) rfl, rfl⟩)) rfl
abbrev F_X1_surelyEmpty : zF := (1, cX1_surelyEmpty, some .int, 3, [], false)
def T_X1_surelyEmpty : List (Nat × zI) := [(0, (0, 0, 0, 0, 1, [])), (1, (5, 1, 0, 0, 2, [])), (2, (0, 0, 0, 0, 3, [])), (3, (5, 2, 0, 0, 4, [])), (4, (2, 2, 0, 0, 5, [])), (5, (4, 0, 0, 0, 6, [])), (6, (18, 1, 0, 0, 9, [])), (9, (18, 6, 7, 0, 12, [])), (12, (16, 1, 15, 0, 46, [])), (15, (4, 0, 0, 0, 16, [])), (16, (18, 1, 4, 0, 19, [])), (19, (17, 2, 22, 0, 40, [])), (22, (4, 0, 0, 0, 23, [])), (23, (2, 2, 0, 0, 24, [])), (27, (4, 0, 0, 0, 28, [])), (28, (18, 1, 4, 0, 31, [])), (31, (16, 0, 34, 0, 40, [])), (34, (2, 1, 0, 0, 35, [])), (35, (0, 0, 0, 1, 36, [])), (36, (2, 2, 0, 0, 37, [])), (37, (9, 6, 0, 0, 38, [])), (38, (9, 4, 0, 0, 39, [])), (39, (5, 1, 0, 0, 40, [])), (40, (8, 2, 0, 1, 43, [])), (43, (15, 0, 0, 0, 4, [])), (46, (2, 1, 0, 0, 47, [])), (47, (27, 0, 0, 0, 48, []))]
set_option maxRecDepth 100000 in
theorem K_X1_surelyEmpty : ztbok F_X1_surelyEmpty T_X1_surelyEmpty := ztbB_ok (by decide +kernel)
set_option maxRecDepth 100000 in
theorem W_X1_surelyEmpty : zMth yX1_surelyEmpty (.code yX1_surelyEmpty cX1_surelyEmpty 3 (some .int)) 0 := ⟨z_at 990 (by decide +kernel) (by decide +kernel), z_at 7 (by decide +kernel) (by decide +kernel), ⟨by decide +kernel, by decide +kernel⟩, by decide +kernel⟩
set_option maxRecDepth 100000 in
theorem I_X1_surelyEmpty : Cond.instanceMethod yX1_surelyEmpty ∈ zws := z_at 988 (by decide +kernel) (by decide +kernel)
set_option maxRecDepth 100000 in
theorem S_X1_surelyEmpty : Cond.selects yX1_surelyEmpty.cls yX1_surelyEmpty yX1_surelyEmpty ∈ zws := z_at 989 (by decide +kernel) (by decide +kernel)
abbrev F_X1_surelyTaken : zF := (1, cX1_surelyTaken, some .int, 3, [], false)
def T_X1_surelyTaken : List (Nat × zI) := [(0, (0, 0, 0, 0, 1, [])), (1, (5, 1, 0, 0, 2, [])), (2, (0, 0, 0, 0, 3, [])), (3, (5, 2, 0, 0, 4, [])), (4, (2, 2, 0, 0, 5, [])), (5, (4, 0, 0, 0, 6, [])), (6, (18, 1, 0, 0, 9, [])), (9, (18, 6, 7, 0, 12, [])), (12, (16, 1, 15, 0, 42, [])), (15, (4, 0, 0, 0, 16, [])), (16, (18, 1, 4, 0, 19, [])), (19, (17, 2, 22, 0, 36, [])), (22, (4, 0, 0, 0, 23, [])), (23, (2, 2, 0, 0, 24, [])), (27, (17, 0, 30, 0, 36, [])), (30, (2, 1, 0, 0, 31, [])), (31, (0, 0, 0, 1, 32, [])), (32, (2, 2, 0, 0, 33, [])), (33, (9, 6, 0, 0, 34, [])), (34, (9, 4, 0, 0, 35, [])), (35, (5, 1, 0, 0, 36, [])), (36, (8, 2, 0, 1, 39, [])), (39, (15, 0, 0, 0, 4, [])), (42, (2, 1, 0, 0, 43, [])), (43, (27, 0, 0, 0, 44, []))]
set_option maxRecDepth 100000 in
theorem K_X1_surelyTaken : ztbok F_X1_surelyTaken T_X1_surelyTaken := ztbB_ok (by decide +kernel)
set_option maxRecDepth 100000 in
theorem W_X1_surelyTaken : zMth yX1_surelyTaken (.code yX1_surelyTaken cX1_surelyTaken 3 (some .int)) 0 := ⟨z_at 994 (by decide +kernel) (by decide +kernel), z_at 7 (by decide +kernel) (by decide +kernel), ⟨by decide +kernel, by decide +kernel⟩, by decide +kernel⟩
set_option maxRecDepth 100000 in
theorem I_X1_surelyTaken : Cond.instanceMethod yX1_surelyTaken ∈ zws := z_at 992 (by decide +kernel) (by decide +kernel)
set_option maxRecDepth 100000 in
theorem S_X1_surelyTaken : Cond.selects yX1_surelyTaken.cls yX1_surelyTaken yX1_surelyTaken ∈ zws := z_at 993 (by decide +kernel) (by decide +kernel)
abbrev F_X1_doorToKnockAt : zF := (1, cX1_doorToKnockAt, some .int, 6, [], false)
def T_X1_doorToKnockAt : List (Nat × zI) := [(0, (0, 0, 0, (-1), 1, [])), (1, (5, 1, 0, 0, 2, [])), (2, (4, 0, 0, 0, 3, [])), (3, (18, 1, 4, 0, 6, [])), (6, (5, 2, 0, 0, 7, [])), (7, (0, 0, 0, 0, 8, [])), (8, (5, 3, 0, 0, 9, [])), (9, (2, 3, 0, 0, 10, [])), (10, (4, 0, 0, 0, 11, [])), (11, (18, 1, 0, 0, 14, [])), (14, (18, 6, 7, 0, 17, [])), (17, (16, 1, 20, 0, 70, [])), (20, (4, 0, 0, 0, 21, [])), (21, (18, 1, 4, 0, 24, [])), (24, (17, 2, 27, 0, 70, [])), (27, (4, 0, 0, 0, 28, [])), (28, (2, 3, 0, 0, 29, [])), (32, (5, 4, 0, 0, 34, [])), (34, (2, 4, 0, 0, 36, [])), (36, (4, 0, 0, 0, 37, [])), (37, (18, 1, 4, 0, 40, [])), (40, (2, 4, 0, 0, 42, [])), (42, (9, 1, 0, 0, 43, [])), (46, (5, 5, 0, 0, 48, [])), (48, (2, 1, 0, 0, 49, [])), (49, (0, 0, 0, (-1), 50, [])), (50, (16, 0, 59, 0, 53, [])), (53, (2, 5, 0, 0, 55, [])), (55, (2, 2, 0, 0, 56, [])), (56, (16, 1, 59, 0, 64, [])), (59, (2, 3, 0, 0, 60, [])), (60, (5, 1, 0, 0, 61, [])), (61, (2, 5, 0, 0, 63, [])), (63, (5, 2, 0, 0, 64, [])), (64, (8, 3, 0, 1, 67, [])), (67, (15, 0, 0, 0, 9, [])), (70, (2, 1, 0, 0, 71, [])), (71, (27, 0, 0, 0, 72, []))]
set_option maxRecDepth 100000 in
theorem K_X1_doorToKnockAt : ztbok F_X1_doorToKnockAt T_X1_doorToKnockAt := ztbB_ok (by decide +kernel)
set_option maxRecDepth 100000 in
theorem W_X1_doorToKnockAt : zMth yX1_doorToKnockAt (.code yX1_doorToKnockAt cX1_doorToKnockAt 6 (some .int)) 0 := ⟨z_at 975 (by decide +kernel) (by decide +kernel), z_at 7 (by decide +kernel) (by decide +kernel), ⟨by decide +kernel, by decide +kernel⟩, by decide +kernel⟩
set_option maxRecDepth 100000 in
theorem I_X1_doorToKnockAt : Cond.instanceMethod yX1_doorToKnockAt ∈ zws := z_at 973 (by decide +kernel) (by decide +kernel)
set_option maxRecDepth 100000 in
theorem S_X1_doorToKnockAt : Cond.selects yX1_doorToKnockAt.cls yX1_doorToKnockAt yX1_doorToKnockAt ∈ zws := z_at 974 (by decide +kernel) (by decide +kernel)
abbrev F_X1_roomsOf : zF := (1, cX1_roomsOf, some .int, 4, [], false)
def T_X1_roomsOf : List (Nat × zI) := [(0, (0, 0, 0, 0, 1, [])), (1, (5, 2, 0, 0, 2, [])), (2, (0, 0, 0, 0, 3, [])), (3, (5, 3, 0, 0, 4, [])), (4, (2, 3, 0, 0, 5, [])), (5, (4, 0, 0, 0, 6, [])), (6, (18, 1, 0, 0, 9, [])), (9, (18, 6, 7, 0, 12, [])), (12, (16, 1, 15, 0, 46, [])), (15, (4, 0, 0, 0, 16, [])), (16, (18, 1, 3, 0, 19, [])), (19, (2, 1, 0, 0, 20, [])), (20, (20, 0, 0, 0, 21, [])), (21, (4, 0, 0, 0, 22, [])), (22, (18, 1, 0, 0, 25, [])), (25, (2, 3, 0, 0, 26, [])), (26, (2, 1, 0, 0, 27, [])), (30, (9, 3, 0, 0, 31, [])), (31, (17, 0, 40, 0, 34, [])), (34, (2, 2, 0, 0, 35, [])), (35, (0, 0, 0, 1, 36, [])), (36, (2, 3, 0, 0, 37, [])), (37, (9, 6, 0, 0, 38, [])), (38, (9, 4, 0, 0, 39, [])), (39, (5, 2, 0, 0, 40, [])), (40, (8, 3, 0, 1, 43, [])), (43, (15, 0, 0, 0, 4, [])), (46, (2, 2, 0, 0, 47, [])), (47, (27, 0, 0, 0, 48, []))]
set_option maxRecDepth 100000 in
theorem K_X1_roomsOf : ztbok F_X1_roomsOf T_X1_roomsOf := ztbB_ok (by decide +kernel)
set_option maxRecDepth 100000 in
theorem W_X1_roomsOf : zMth yX1_roomsOf (.code yX1_roomsOf cX1_roomsOf 4 (some .int)) 1 := ⟨z_at 1005 (by decide +kernel) (by decide +kernel), z_at 7 (by decide +kernel) (by decide +kernel), ⟨by decide +kernel, by decide +kernel⟩, by decide +kernel⟩
set_option maxRecDepth 100000 in
theorem I_X1_roomsOf : Cond.instanceMethod yX1_roomsOf ∈ zws := z_at 1003 (by decide +kernel) (by decide +kernel)
set_option maxRecDepth 100000 in
theorem S_X1_roomsOf : Cond.selects yX1_roomsOf.cls yX1_roomsOf yX1_roomsOf ∈ zws := z_at 1004 (by decide +kernel) (by decide +kernel)
abbrev F_X2_init : zF := (2, cX2_init, none, 4, [], true)
def T_X2_init : List (Nat × zI) := [(0, (4, 0, 0, 0, 1, [])), (1, (35, 0, 0, 0, 4, [])), (4, (4, 0, 0, 0, 5, [])), (5, (0, 0, 0, 6, 7, [])), (7, (31, 1, 0, 0, 9, [])), (9, (19, 2, 3, 0, 12, [])), (12, (4, 0, 0, 0, 13, [])), (13, (0, 0, 0, 24, 15, [])), (15, (31, 1, 0, 0, 17, [])), (17, (19, 2, 4, 0, 20, [])), (20, (4, 0, 0, 0, 21, [])), (21, (4, 1, 0, 0, 22, [])), (22, (19, 2, 0, 0, 25, [])), (25, (4, 0, 0, 0, 26, [])), (26, (4, 2, 0, 0, 27, [])), (27, (19, 2, 1, 0, 30, [])), (30, (4, 0, 0, 0, 31, [])), (31, (4, 3, 0, 0, 32, [])), (32, (19, 2, 2, 0, 35, [])), (35, (29, 0, 0, 0, 36, []))]
set_option maxRecDepth 100000 in
theorem K_X2_init : ztbok F_X2_init T_X2_init := ztbB_ok (by decide +kernel)
set_option maxRecDepth 100000 in
theorem W_X2_init : zMth yX2_init (.code yX2_init cX2_init 4 (none)) 3 := ⟨z_at 247 (by decide +kernel) (by decide +kernel), z_at 8 (by decide +kernel) (by decide +kernel), ⟨by decide +kernel, by decide +kernel⟩, by decide +kernel⟩
set_option maxRecDepth 100000 in
theorem I_X2_init : Cond.instanceMethod yX2_init ∈ zws := z_at 246 (by decide +kernel) (by decide +kernel)
abbrev F_X2_fewestLiars : zF := (2, cX2_fewestLiars, some .int, 6, [], false)
def T_X2_fewestLiars : List (Nat × zI) := [(0, (4, 0, 0, 0, 1, [])), (1, (2, 2, 0, 0, 2, [])), (5, (0, 0, 0, (-1), 6, [])), (6, (5, 3, 0, 0, 7, [])), (7, (0, 0, 0, 0, 8, [])), (8, (5, 4, 0, 0, 10, [])), (10, (2, 4, 0, 0, 12, [])), (12, (0, 0, 0, 1, 13, [])), (13, (4, 0, 0, 0, 14, [])), (14, (18, 2, 0, 0, 17, [])), (17, (18, 6, 8, 0, 20, [])), (20, (9, 6, 0, 0, 21, [])), (21, (16, 1, 24, 0, 72, [])), (24, (2, 3, 0, 0, 25, [])), (25, (0, 0, 0, (-1), 26, [])), (26, (16, 0, 41, 0, 29, [])), (29, (2, 4, 0, 0, 31, [])), (34, (2, 3, 0, 0, 35, [])), (38, (16, 1, 41, 0, 45, [])), (41, (0, 0, 0, 1, 42, [])), (42, (15, 0, 0, 0, 46, [])), (45, (0, 0, 0, 0, 46, [])), (46, (5, 5, 0, 0, 48, [])), (48, (2, 5, 0, 0, 50, [])), (50, (17, 0, 66, 0, 53, [])), (53, (4, 0, 0, 0, 54, [])), (54, (2, 4, 0, 0, 56, [])), (56, (2, 1, 0, 0, 57, [])), (60, (17, 0, 66, 0, 63, [])), (63, (2, 4, 0, 0, 65, [])), (65, (5, 3, 0, 0, 66, [])), (66, (8, 4, 0, 1, 69, [])), (69, (15, 0, 0, 0, 10, [])), (72, (2, 3, 0, 0, 73, [])), (73, (27, 0, 0, 0, 74, []))]
set_option maxRecDepth 100000 in
theorem K_X2_fewestLiars : ztbok F_X2_fewestLiars T_X2_fewestLiars := ztbB_ok (by decide +kernel)
set_option maxRecDepth 100000 in
theorem W_X2_fewestLiars : zMth yX2_fewestLiars (.code yX2_fewestLiars cX2_fewestLiars 6 (some .int)) 2 := ⟨z_at 1017 (by decide +kernel) (by decide +kernel), z_at 8 (by decide +kernel) (by decide +kernel), ⟨by decide +kernel, by decide +kernel⟩, by decide +kernel⟩
set_option maxRecDepth 100000 in
theorem I_X2_fewestLiars : Cond.instanceMethod yX2_fewestLiars ∈ zws := z_at 1015 (by decide +kernel) (by decide +kernel)
set_option maxRecDepth 100000 in
theorem S_X2_fewestLiars : Cond.selects yX2_fewestLiars.cls yX2_fewestLiars yX2_fewestLiars ∈ zws := z_at 1016 (by decide +kernel) (by decide +kernel)
abbrev F_X2_sortDoings : zF := (2, cX2_sortDoings, none, 4, [], false)
def T_X2_sortDoings : List (Nat × zI) := [(0, (0, 0, 0, 0, 1, [])), (1, (5, 2, 0, 0, 2, [])), (2, (2, 2, 0, 0, 3, [])), (3, (4, 0, 0, 0, 4, [])), (4, (18, 2, 0, 0, 7, [])), (7, (18, 6, 8, 0, 10, [])), (10, (16, 1, 13, 0, 75, [])), (13, (4, 0, 0, 0, 14, [])), (14, (18, 2, 3, 0, 17, [])), (17, (2, 2, 0, 0, 18, [])), (18, (4, 0, 0, 0, 19, [])), (19, (18, 2, 2, 0, 22, [])), (22, (2, 2, 0, 0, 23, [])), (23, (4, 0, 0, 0, 24, [])), (24, (18, 2, 1, 0, 27, [])), (27, (2, 2, 0, 0, 28, [])), (28, (2, 1, 0, 0, 29, [])), (35, (21, 0, 0, 0, 36, [])), (36, (0, 0, 0, 0, 37, [])), (37, (5, 3, 0, 0, 38, [])), (38, (2, 3, 0, 0, 39, [])), (39, (0, 0, 0, 4, 40, [])), (40, (16, 1, 43, 0, 69, [])), (43, (4, 0, 0, 0, 44, [])), (44, (18, 2, 4, 0, 47, [])), (47, (2, 2, 0, 0, 48, [])), (48, (0, 0, 0, 4, 49, [])), (49, (9, 2, 0, 0, 50, [])), (50, (2, 3, 0, 0, 51, [])), (51, (9, 0, 0, 0, 52, [])), (52, (4, 0, 0, 0, 53, [])), (53, (18, 2, 2, 0, 56, [])), (56, (2, 2, 0, 0, 57, [])), (57, (2, 1, 0, 0, 58, [])), (58, (2, 3, 0, 0, 59, [])), (62, (21, 0, 0, 0, 63, [])), (63, (8, 3, 0, 1, 66, [])), (66, (15, 0, 0, 0, 38, [])), (69, (8, 2, 0, 1, 72, [])), (72, (15, 0, 0, 0, 2, [])), (75, (29, 0, 0, 0, 76, []))]
set_option maxRecDepth 100000 in
theorem K_X2_sortDoings : ztbok F_X2_sortDoings T_X2_sortDoings := ztbB_ok (by decide +kernel)
set_option maxRecDepth 100000 in
theorem W_X2_sortDoings : zMth yX2_sortDoings (.code yX2_sortDoings cX2_sortDoings 4 (none)) 1 := ⟨z_at 1021 (by decide +kernel) (by decide +kernel), z_at 8 (by decide +kernel) (by decide +kernel), ⟨by decide +kernel, by decide +kernel⟩, by decide +kernel⟩
set_option maxRecDepth 100000 in
theorem I_X2_sortDoings : Cond.instanceMethod yX2_sortDoings ∈ zws := z_at 1020 (by decide +kernel) (by decide +kernel)
set_option maxRecDepth 100000 in
theorem S_X2_sortDoings : Cond.selects yX2_sortDoings.cls yX2_sortDoings yX2_sortDoings ∈ zws := z_in (List.mem_append_left _ (List.mem_map.mpr ⟨_, List.mem_of_getElem? (i := 28) rfl, rfl⟩)) rfl
abbrev F_X2_misleads : zF := (2, cX2_misleads, some .boolean, 10, [], false)
def T_X2_misleads : List (Nat × zI) := [(0, (0, 0, 0, 0, 1, [])), (1, (5, 3, 0, 0, 2, [])), (2, (0, 0, 0, 0, 3, [])), (3, (5, 4, 0, 0, 5, [])), (5, (2, 4, 0, 0, 7, [])), (7, (4, 0, 0, 0, 8, [])), (8, (18, 2, 0, 0, 11, [])), (11, (18, 6, 8, 0, 14, [])), (14, (16, 1, 17, 0, 144, [])), (17, (2, 1, 0, 0, 18, [])), (18, (2, 4, 0, 0, 20, [])), (20, (9, 7, 0, 0, 21, [])), (21, (0, 0, 0, 1, 22, [])), (22, (9, 3, 0, 0, 23, [])), (23, (0, 0, 0, 1, 24, [])), (24, (16, 0, 27, 0, 31, [])), (27, (0, 0, 0, 1, 28, [])), (28, (15, 0, 0, 0, 32, [])), (31, (0, 0, 0, 0, 32, [])), (32, (5, 5, 0, 0, 34, [])), (34, (4, 0, 0, 0, 35, [])), (35, (18, 2, 0, 0, 38, [])), (38, (2, 2, 0, 0, 39, [])), (39, (2, 4, 0, 0, 41, [])), (44, (5, 6, 0, 0, 46, [])), (46, (0, 0, 0, 0, 47, [])), (47, (5, 7, 0, 0, 49, [])), (49, (0, 0, 0, 0, 50, [])), (50, (5, 8, 0, 0, 52, [])), (52, (2, 8, 0, 0, 54, [])), (54, (0, 0, 0, 4, 55, [])), (55, (16, 1, 58, 0, 131, [])), (58, (4, 0, 0, 0, 59, [])), (59, (18, 2, 4, 0, 62, [])), (62, (2, 4, 0, 0, 64, [])), (64, (0, 0, 0, 4, 65, [])), (65, (9, 2, 0, 0, 66, [])), (66, (2, 8, 0, 0, 68, [])), (68, (9, 0, 0, 0, 69, [])), (69, (20, 0, 0, 0, 70, [])), (70, (5, 9, 0, 0, 72, [])), (72, (2, 5, 0, 0, 74, [])), (74, (2, 8, 0, 0, 76, [])), (76, (4, 0, 0, 0, 77, [])), (77, (18, 2, 3, 0, 80, [])), (80, (2, 4, 0, 0, 82, [])), (82, (20, 0, 0, 0, 83, [])), (83, (16, 0, 90, 0, 86, [])), (86, (0, 0, 0, 1, 87, [])), (87, (15, 0, 0, 0, 91, [])), (90, (0, 0, 0, 0, 91, [])), (91, (16, 0, 94, 0, 125, [])), (94, (2, 9, 0, 0, 96, [])), (96, (2, 6, 0, 0, 98, [])), (98, (0, 0, 0, (-1), 99, [])), (99, (9, 5, 0, 0, 100, [])), (100, (9, 3, 0, 0, 101, [])), (101, (17, 0, 125, 0, 104, [])), (104, (0, 0, 0, 1, 105, [])), (105, (5, 7, 0, 0, 107, [])), (107, (2, 3, 0, 0, 108, [])), (108, (17, 0, 111, 0, 119, [])), (111, (2, 9, 0, 0, 113, [])), (113, (2, 6, 0, 0, 115, [])), (115, (9, 3, 0, 0, 116, [])), (116, (17, 0, 123, 0, 119, [])), (119, (0, 0, 0, 1, 120, [])), (120, (15, 0, 0, 0, 124, [])), (123, (0, 0, 0, 0, 124, [])), (124, (5, 3, 0, 0, 125, [])), (125, (8, 8, 0, 1, 128, [])), (128, (15, 0, 0, 0, 52, [])), (131, (2, 7, 0, 0, 133, [])), (133, (17, 0, 136, 0, 138, [])), (136, (0, 0, 0, 0, 137, [])), (137, (27, 0, 0, 0, 138, [])), (138, (8, 4, 0, 1, 141, [])), (141, (15, 0, 0, 0, 5, [])), (144, (2, 3, 0, 0, 145, [])), (145, (27, 0, 0, 0, 146, []))]
set_option maxRecDepth 100000 in
theorem K_X2_misleads : ztbok F_X2_misleads T_X2_misleads := ztbB_ok (by decide +kernel)
set_option maxRecDepth 100000 in
theorem W_X2_misleads : zMth yX2_misleads (.code yX2_misleads cX2_misleads 10 (some .boolean)) 2 := ⟨z_at 1029 (by decide +kernel) (by decide +kernel), z_at 8 (by decide +kernel) (by decide +kernel), ⟨by decide +kernel, by decide +kernel⟩, by decide +kernel⟩
set_option maxRecDepth 100000 in
theorem I_X2_misleads : Cond.instanceMethod yX2_misleads ∈ zws := z_at 1028 (by decide +kernel) (by decide +kernel)
set_option maxRecDepth 100000 in
theorem S_X2_misleads : Cond.selects yX2_misleads.cls yX2_misleads yX2_misleads ∈ zws := z_in (List.mem_append_left _ (List.mem_map.mpr ⟨_, List.mem_of_getElem? (i := 29) rfl, rfl⟩)) rfl
abbrev F_X3_init : zF := (3, cX3_init, none, 3, [], true)
def T_X3_init : List (Nat × zI) := [(0, (4, 0, 0, 0, 1, [])), (1, (35, 0, 0, 0, 4, [])), (4, (4, 0, 0, 0, 5, [])), (5, (4, 1, 0, 0, 6, [])), (6, (19, 3, 0, 0, 9, [])), (9, (4, 0, 0, 0, 10, [])), (10, (4, 2, 0, 0, 11, [])), (11, (19, 3, 1, 0, 14, [])), (14, (29, 0, 0, 0, 15, []))]
set_option maxRecDepth 100000 in
theorem K_X3_init : ztbok F_X3_init T_X3_init := ztbB_ok (by decide +kernel)
set_option maxRecDepth 100000 in
theorem W_X3_init : zMth yX3_init (.code yX3_init cX3_init 3 (none)) 2 := ⟨z_at 212 (by decide +kernel) (by decide +kernel), z_at 6 (by decide +kernel) (by decide +kernel), ⟨by decide +kernel, by decide +kernel⟩, by decide +kernel⟩
set_option maxRecDepth 100000 in
theorem I_X3_init : Cond.instanceMethod yX3_init ∈ zws := z_at 211 (by decide +kernel) (by decide +kernel)
abbrev F_X3_signOf : zF := (3, cX3_signOf, some .int, 3, [], false)
def T_X3_signOf : List (Nat × zI) := [(0, (4, 0, 0, 0, 1, [])), (1, (18, 3, 0, 0, 4, [])), (4, (2, 2, 0, 0, 5, [])), (8, (4, 0, 0, 0, 9, [])), (9, (18, 3, 1, 0, 12, [])), (12, (2, 1, 0, 0, 13, [])), (16, (9, 3, 0, 0, 17, [])), (17, (27, 0, 0, 0, 18, []))]
set_option maxRecDepth 100000 in
theorem K_X3_signOf : ztbok F_X3_signOf T_X3_signOf := ztbB_ok (by decide +kernel)
set_option maxRecDepth 100000 in
theorem W_X3_signOf : zMth yX3_signOf (.code yX3_signOf cX3_signOf 3 (some .int)) 2 := ⟨z_at 875 (by decide +kernel) (by decide +kernel), z_at 6 (by decide +kernel) (by decide +kernel), ⟨by decide +kernel, by decide +kernel⟩, by decide +kernel⟩
set_option maxRecDepth 100000 in
theorem I_X3_signOf : Cond.instanceMethod yX3_signOf ∈ zws := z_at 873 (by decide +kernel) (by decide +kernel)
set_option maxRecDepth 100000 in
theorem S_X3_signOf : Cond.selects yX3_signOf.cls yX3_signOf yX3_signOf ∈ zws := z_at 874 (by decide +kernel) (by decide +kernel)
abbrev F_X3_signAt : zF := (3, cX3_signAt, some .int, 4, [], false)
def T_X3_signAt : List (Nat × zI) := [(0, (4, 0, 0, 0, 1, [])), (1, (18, 3, 0, 0, 4, [])), (4, (18, 6, 1, 0, 7, [])), (7, (2, 1, 0, 0, 8, [])), (8, (20, 0, 0, 0, 9, [])), (9, (5, 3, 0, 0, 10, [])), (10, (2, 3, 0, 0, 11, [])), (11, (0, 0, 0, (-1), 12, [])), (12, (16, 0, 15, 0, 19, [])), (15, (0, 0, 0, 3, 16, [])), (16, (15, 0, 0, 0, 33, [])), (19, (4, 0, 0, 0, 20, [])), (20, (2, 3, 0, 0, 21, [])), (21, (4, 0, 0, 0, 22, [])), (22, (18, 3, 1, 0, 25, [])), (25, (2, 3, 0, 0, 26, [])), (26, (2, 2, 0, 0, 27, [])), (33, (27, 0, 0, 0, 34, []))]
set_option maxRecDepth 100000 in
theorem K_X3_signAt : ztbok F_X3_signAt T_X3_signAt := ztbB_ok (by decide +kernel)
set_option maxRecDepth 100000 in
theorem W_X3_signAt : zMth yX3_signAt (.code yX3_signAt cX3_signAt 4 (some .int)) 2 := ⟨z_at 913 (by decide +kernel) (by decide +kernel), z_at 6 (by decide +kernel) (by decide +kernel), ⟨by decide +kernel, by decide +kernel⟩, by decide +kernel⟩
set_option maxRecDepth 100000 in
theorem I_X3_signAt : Cond.instanceMethod yX3_signAt ∈ zws := z_at 911 (by decide +kernel) (by decide +kernel)
set_option maxRecDepth 100000 in
theorem S_X3_signAt : Cond.selects yX3_signAt.cls yX3_signAt yX3_signAt ∈ zws := z_at 912 (by decide +kernel) (by decide +kernel)
abbrev F_X3_doingsBySign : zF := (3, cX3_doingsBySign, some .int, 8, [], false)
def T_X3_doingsBySign : List (Nat × zI) := [(0, (4, 0, 0, 0, 1, [])), (1, (18, 3, 0, 0, 4, [])), (4, (2, 1, 0, 0, 5, [])), (5, (2, 2, 0, 0, 6, [])), (9, (5, 4, 0, 0, 11, [])), (11, (4, 0, 0, 0, 12, [])), (12, (18, 3, 1, 0, 15, [])), (15, (2, 1, 0, 0, 16, [])), (19, (5, 5, 0, 0, 21, [])), (21, (0, 0, 0, 0, 22, [])), (22, (5, 6, 0, 0, 24, [])), (24, (0, 0, 0, 0, 25, [])), (25, (5, 7, 0, 0, 27, [])), (27, (2, 7, 0, 0, 29, [])), (29, (0, 0, 0, 18, 31, [])), (31, (16, 1, 34, 0, 76, [])), (34, (2, 4, 0, 0, 36, [])), (36, (2, 7, 0, 0, 38, [])), (38, (9, 7, 0, 0, 39, [])), (39, (0, 0, 0, 1, 40, [])), (40, (9, 3, 0, 0, 41, [])), (41, (0, 0, 0, 1, 42, [])), (42, (16, 0, 45, 0, 70, [])), (45, (4, 0, 0, 0, 46, [])), (46, (18, 3, 0, 0, 49, [])), (49, (2, 7, 0, 0, 51, [])), (54, (2, 5, 0, 0, 56, [])), (56, (9, 3, 0, 0, 57, [])), (57, (2, 3, 0, 0, 58, [])), (58, (16, 0, 61, 0, 70, [])), (61, (2, 6, 0, 0, 63, [])), (63, (0, 0, 0, 1, 64, [])), (64, (2, 7, 0, 0, 66, [])), (66, (9, 6, 0, 0, 67, [])), (67, (9, 4, 0, 0, 68, [])), (68, (5, 6, 0, 0, 70, [])), (70, (8, 7, 0, 1, 73, [])), (73, (15, 0, 0, 0, 27, [])), (76, (2, 6, 0, 0, 78, [])), (78, (27, 0, 0, 0, 79, []))]
set_option maxRecDepth 100000 in
theorem K_X3_doingsBySign : ztbok F_X3_doingsBySign T_X3_doingsBySign := ztbB_ok (by decide +kernel)
set_option maxRecDepth 100000 in
theorem W_X3_doingsBySign : zMth yX3_doingsBySign (.code yX3_doingsBySign cX3_doingsBySign 8 (some .int)) 3 := ⟨z_at 513 (by decide +kernel) (by decide +kernel), z_at 6 (by decide +kernel) (by decide +kernel), ⟨by decide +kernel, by decide +kernel⟩, by decide +kernel⟩
set_option maxRecDepth 100000 in
theorem I_X3_doingsBySign : Cond.instanceMethod yX3_doingsBySign ∈ zws := z_at 511 (by decide +kernel) (by decide +kernel)
set_option maxRecDepth 100000 in
theorem S_X3_doingsBySign : Cond.selects yX3_doingsBySign.cls yX3_doingsBySign yX3_doingsBySign ∈ zws := z_at 512 (by decide +kernel) (by decide +kernel)
abbrev F_X3_chanceAt : zF := (3, cX3_chanceAt, some .int, 5, [], false)
def T_X3_chanceAt : List (Nat × zI) := [(0, (4, 0, 0, 0, 1, [])), (1, (18, 3, 0, 0, 4, [])), (4, (18, 6, 1, 0, 7, [])), (7, (2, 1, 0, 0, 8, [])), (8, (20, 0, 0, 0, 9, [])), (9, (5, 3, 0, 0, 10, [])), (10, (2, 3, 0, 0, 11, [])), (11, (0, 0, 0, (-1), 12, [])), (12, (16, 0, 15, 0, 17, [])), (15, (0, 0, 0, 0, 16, [])), (16, (27, 0, 0, 0, 17, [])), (17, (4, 0, 0, 0, 18, [])), (18, (18, 3, 0, 0, 21, [])), (21, (2, 3, 0, 0, 22, [])), (22, (2, 2, 0, 0, 23, [])), (29, (5, 4, 0, 0, 31, [])), (31, (2, 4, 0, 0, 33, [])), (33, (17, 0, 36, 0, 38, [])), (36, (0, 0, 0, 0, 37, [])), (37, (27, 0, 0, 0, 38, [])), (38, (0, 0, 0, 27720, 41, [])), (41, (4, 0, 0, 0, 42, [])), (42, (2, 3, 0, 0, 43, [])), (43, (2, 2, 0, 0, 44, [])), (44, (0, 0, 0, 0, 45, [])), (51, (9, 2, 0, 0, 52, [])), (52, (2, 4, 0, 0, 54, [])), (54, (9, 9, 0, 0, 55, [])), (55, (27, 0, 0, 0, 56, []))]
set_option maxRecDepth 100000 in
theorem K_X3_chanceAt : ztbok F_X3_chanceAt T_X3_chanceAt := ztbB_ok (by decide +kernel)
set_option maxRecDepth 100000 in
theorem W_X3_chanceAt : zMth yX3_chanceAt (.code yX3_chanceAt cX3_chanceAt 5 (some .int)) 2 := ⟨z_at 1041 (by decide +kernel) (by decide +kernel), z_at 6 (by decide +kernel) (by decide +kernel), ⟨by decide +kernel, by decide +kernel⟩, by decide +kernel⟩
set_option maxRecDepth 100000 in
theorem I_X3_chanceAt : Cond.instanceMethod yX3_chanceAt ∈ zws := z_at 1039 (by decide +kernel) (by decide +kernel)
set_option maxRecDepth 100000 in
theorem S_X3_chanceAt : Cond.selects yX3_chanceAt.cls yX3_chanceAt yX3_chanceAt ∈ zws := z_at 1040 (by decide +kernel) (by decide +kernel)
abbrev F_X3_worthOf : zF := (3, cX3_worthOf, some .int, 3, [], false)
def T_X3_worthOf : List (Nat × zI) := [(0, (4, 0, 0, 0, 1, [])), (1, (18, 3, 0, 0, 4, [])), (4, (18, 6, 0, 0, 7, [])), (7, (2, 1, 0, 0, 8, [])), (8, (20, 0, 0, 0, 9, [])), (9, (4, 0, 0, 0, 10, [])), (10, (2, 1, 0, 0, 11, [])), (11, (2, 2, 0, 0, 12, [])), (15, (9, 2, 0, 0, 16, [])), (16, (27, 0, 0, 0, 17, []))]
set_option maxRecDepth 100000 in
theorem K_X3_worthOf : ztbok F_X3_worthOf T_X3_worthOf := ztbB_ok (by decide +kernel)
set_option maxRecDepth 100000 in
theorem W_X3_worthOf : zMth yX3_worthOf (.code yX3_worthOf cX3_worthOf 3 (some .int)) 2 := ⟨z_at 1063 (by decide +kernel) (by decide +kernel), z_at 6 (by decide +kernel) (by decide +kernel), ⟨by decide +kernel, by decide +kernel⟩, by decide +kernel⟩
set_option maxRecDepth 100000 in
theorem I_X3_worthOf : Cond.instanceMethod yX3_worthOf ∈ zws := z_at 1061 (by decide +kernel) (by decide +kernel)
set_option maxRecDepth 100000 in
theorem S_X3_worthOf : Cond.selects yX3_worthOf.cls yX3_worthOf yX3_worthOf ∈ zws := z_at 1062 (by decide +kernel) (by decide +kernel)
abbrev F_X4_init : zF := (4, cX4_init, none, 3, [], true)
def T_X4_init : List (Nat × zI) := [(0, (4, 0, 0, 0, 1, [])), (1, (35, 0, 0, 0, 4, [])), (4, (4, 0, 0, 0, 5, [])), (5, (0, 0, 0, 8, 7, [])), (7, (31, 1, 0, 0, 9, [])), (9, (19, 4, 2, 0, 12, [])), (12, (4, 0, 0, 0, 13, [])), (13, (0, 0, 0, 8, 15, [])), (15, (31, 1, 0, 0, 17, [])), (17, (19, 4, 3, 0, 20, [])), (20, (4, 0, 0, 0, 21, [])), (21, (0, 0, 0, 3, 22, [])), (22, (31, 1, 0, 0, 24, [])), (24, (19, 4, 4, 0, 27, [])), (27, (4, 0, 0, 0, 28, [])), (28, (0, 0, 0, 3, 29, [])), (29, (31, 1, 0, 0, 31, [])), (31, (19, 4, 5, 0, 34, [])), (34, (4, 0, 0, 0, 35, [])), (35, (4, 1, 0, 0, 36, [])), (36, (19, 4, 0, 0, 39, [])), (39, (4, 0, 0, 0, 40, [])), (40, (4, 2, 0, 0, 41, [])), (41, (19, 4, 1, 0, 44, [])), (44, (29, 0, 0, 0, 45, []))]
set_option maxRecDepth 100000 in
theorem K_X4_init : ztbok F_X4_init T_X4_init := ztbB_ok (by decide +kernel)
set_option maxRecDepth 100000 in
theorem W_X4_init : zMth yX4_init (.code yX4_init cX4_init 3 (none)) 2 := ⟨z_at 300 (by decide +kernel) (by decide +kernel), z_at 10 (by decide +kernel) (by decide +kernel), ⟨by decide +kernel, by decide +kernel⟩, by decide +kernel⟩
set_option maxRecDepth 100000 in
theorem I_X4_init : Cond.instanceMethod yX4_init ∈ zws := z_at 299 (by decide +kernel) (by decide +kernel)
abbrev F_X4_play : zF := (4, cX4_play, some .int, 6, [], false)
def T_X4_play : List (Nat × zI) := [(0, (0, 0, 0, 0, 1, [])), (1, (5, 3, 0, 0, 2, [])), (2, (2, 3, 0, 0, 3, [])), (3, (4, 0, 0, 0, 4, [])), (4, (18, 4, 0, 0, 7, [])), (7, (18, 6, 7, 0, 10, [])), (10, (16, 1, 13, 0, 34, [])), (13, (4, 0, 0, 0, 14, [])), (14, (18, 4, 2, 0, 17, [])), (17, (2, 3, 0, 0, 18, [])), (18, (4, 0, 0, 0, 19, [])), (19, (18, 4, 1, 0, 22, [])), (22, (2, 3, 0, 0, 23, [])), (23, (2, 1, 0, 0, 24, [])), (27, (21, 0, 0, 0, 28, [])), (28, (8, 3, 0, 1, 31, [])), (31, (15, 0, 0, 0, 2, [])), (34, (0, 0, 0, 1, 35, [])), (35, (5, 3, 0, 0, 36, [])), (36, (0, 0, 0, 0, 37, [])), (37, (5, 4, 0, 0, 39, [])), (39, (2, 4, 0, 0, 41, [])), (41, (2, 2, 0, 0, 42, [])), (42, (16, 1, 45, 0, 61, [])), (45, (2, 3, 0, 0, 46, [])), (46, (4, 0, 0, 0, 47, [])), (47, (18, 4, 0, 0, 50, [])), (50, (18, 6, 7, 0, 53, [])), (53, (9, 2, 0, 0, 54, [])), (54, (5, 3, 0, 0, 55, [])), (55, (8, 4, 0, 1, 58, [])), (58, (15, 0, 0, 0, 39, [])), (61, (0, 0, 0, 0, 62, [])), (62, (5, 4, 0, 0, 64, [])), (64, (0, 0, 0, 0, 65, [])), (65, (5, 5, 0, 0, 67, [])), (67, (2, 5, 0, 0, 69, [])), (69, (2, 3, 0, 0, 70, [])), (70, (16, 1, 73, 0, 116, [])), (73, (4, 0, 0, 0, 74, [])), (74, (2, 5, 0, 0, 76, [])), (76, (2, 2, 0, 0, 77, [])), (80, (4, 0, 0, 0, 81, [])), (81, (2, 2, 0, 0, 82, [])), (85, (17, 0, 110, 0, 88, [])), (88, (2, 4, 0, 0, 90, [])), (90, (17, 0, 93, 0, 107, [])), (93, (4, 0, 0, 0, 94, [])), (94, (18, 4, 4, 0, 97, [])), (97, (0, 0, 0, 0, 98, [])), (98, (4, 0, 0, 0, 99, [])), (99, (18, 4, 5, 0, 102, [])), (102, (0, 0, 0, 0, 103, [])), (103, (2, 2, 0, 0, 104, [])), (107, (8, 4, 0, 1, 110, [])), (110, (8, 5, 0, 1, 113, [])), (113, (15, 0, 0, 0, 67, [])), (116, (2, 4, 0, 0, 118, [])), (118, (27, 0, 0, 0, 119, []))]
set_option maxRecDepth 100000 in
theorem K_X4_play : ztbok F_X4_play T_X4_play := ztbB_ok (by decide +kernel)
set_option maxRecDepth 100000 in
theorem W_X4_play : zMth yX4_play (.code yX4_play cX4_play 6 (some .int)) 2 := ⟨z_at 1103 (by decide +kernel) (by decide +kernel), z_at 10 (by decide +kernel) (by decide +kernel), ⟨by decide +kernel, by decide +kernel⟩, by decide +kernel⟩
set_option maxRecDepth 100000 in
theorem I_X4_play : Cond.instanceMethod yX4_play ∈ zws := z_at 1101 (by decide +kernel) (by decide +kernel)
set_option maxRecDepth 100000 in
theorem S_X4_play : Cond.selects yX4_play.cls yX4_play yX4_play ∈ zws := z_at 1102 (by decide +kernel) (by decide +kernel)
abbrev F_X4_layRow : zF := (4, cX4_layRow, none, 5, [], false)
def T_X4_layRow : List (Nat × zI) := [(0, (4, 0, 0, 0, 1, [])), (1, (18, 4, 3, 0, 4, [])), (4, (0, 0, 0, 0, 5, [])), (8, (2, 1, 0, 0, 9, [])), (9, (5, 3, 0, 0, 10, [])), (10, (2, 2, 0, 0, 11, [])), (11, (0, 0, 0, 1, 12, [])), (12, (9, 1, 0, 0, 13, [])), (13, (5, 4, 0, 0, 15, [])), (15, (2, 4, 0, 0, 17, [])), (17, (17, 1, 78, 0, 20, [])), (20, (4, 0, 0, 0, 21, [])), (21, (18, 4, 0, 0, 24, [])), (24, (18, 6, 7, 0, 27, [])), (27, (17, 2, 30, 0, 78, [])), (30, (4, 0, 0, 0, 31, [])), (31, (18, 4, 4, 0, 34, [])), (34, (2, 4, 0, 0, 36, [])), (36, (2, 3, 0, 0, 37, [])), (37, (4, 0, 0, 0, 38, [])), (38, (18, 4, 0, 0, 41, [])), (41, (18, 6, 7, 0, 44, [])), (44, (9, 10, 0, 0, 45, [])), (45, (21, 0, 0, 0, 46, [])), (46, (2, 3, 0, 0, 47, [])), (47, (4, 0, 0, 0, 48, [])), (48, (18, 4, 0, 0, 51, [])), (51, (18, 6, 7, 0, 54, [])), (54, (9, 9, 0, 0, 55, [])), (55, (5, 3, 0, 0, 56, [])), (56, (4, 0, 0, 0, 57, [])), (57, (18, 4, 3, 0, 60, [])), (60, (4, 0, 0, 0, 61, [])), (61, (18, 4, 4, 0, 64, [])), (64, (2, 4, 0, 0, 66, [])), (66, (20, 0, 0, 0, 67, [])), (67, (13, 0, 0, 0, 68, [])), (68, (20, 0, 0, 0, 69, [])), (69, (0, 0, 0, 1, 70, [])), (70, (9, 0, 0, 0, 71, [])), (71, (21, 0, 0, 0, 72, [])), (72, (8, 4, 0, (-1), 75, [])), (75, (15, 0, 0, 0, 15, [])), (78, (29, 0, 0, 0, 79, []))]
set_option maxRecDepth 100000 in
theorem K_X4_layRow : ztbok F_X4_layRow T_X4_layRow := ztbB_ok (by decide +kernel)
set_option maxRecDepth 100000 in
theorem W_X4_layRow : zMth yX4_layRow (.code yX4_layRow cX4_layRow 5 (none)) 2 := ⟨z_at 1108 (by decide +kernel) (by decide +kernel), z_at 10 (by decide +kernel) (by decide +kernel), ⟨by decide +kernel, by decide +kernel⟩, by decide +kernel⟩
set_option maxRecDepth 100000 in
theorem I_X4_layRow : Cond.instanceMethod yX4_layRow ∈ zws := z_at 1107 (by decide +kernel) (by decide +kernel)
set_option maxRecDepth 100000 in
theorem S_X4_layRow : Cond.selects yX4_layRow.cls yX4_layRow yX4_layRow ∈ zws := z_in (List.mem_append_left _ (List.mem_map.mpr ⟨_, List.mem_of_getElem? (i := 36) rfl, rfl⟩)) rfl
abbrev F_X4_isAtRest : zF := (4, cX4_isAtRest, some .boolean, 6, [], false)
def T_X4_isAtRest : List (Nat × zI) := [(0, (0, 0, 0, 0, 1, [])), (1, (5, 2, 0, 0, 2, [])), (2, (2, 2, 0, 0, 3, [])), (3, (2, 1, 0, 0, 4, [])), (4, (16, 1, 7, 0, 82, [])), (7, (4, 0, 0, 0, 8, [])), (8, (18, 4, 4, 0, 11, [])), (11, (2, 2, 0, 0, 12, [])), (12, (20, 0, 0, 0, 13, [])), (13, (5, 3, 0, 0, 14, [])), (14, (4, 0, 0, 0, 15, [])), (15, (2, 3, 0, 0, 16, [])), (16, (4, 0, 0, 0, 17, [])), (17, (18, 4, 3, 0, 20, [])), (20, (2, 3, 0, 0, 21, [])), (21, (20, 0, 0, 0, 22, [])), (25, (5, 4, 0, 0, 27, [])), (27, (0, 0, 0, 0, 28, [])), (28, (5, 5, 0, 0, 30, [])), (30, (2, 5, 0, 0, 32, [])), (32, (4, 0, 0, 0, 33, [])), (33, (18, 4, 0, 0, 36, [])), (36, (18, 6, 7, 0, 39, [])), (39, (16, 1, 42, 0, 76, [])), (42, (2, 5, 0, 0, 44, [])), (44, (2, 3, 0, 0, 45, [])), (45, (16, 0, 70, 0, 48, [])), (48, (4, 0, 0, 0, 49, [])), (49, (2, 5, 0, 0, 51, [])), (51, (4, 0, 0, 0, 52, [])), (52, (18, 4, 3, 0, 55, [])), (55, (2, 5, 0, 0, 57, [])), (57, (20, 0, 0, 0, 58, [])), (58, (0, 0, 0, 1, 59, [])), (59, (9, 0, 0, 0, 60, [])), (63, (2, 4, 0, 0, 65, [])), (65, (16, 2, 68, 0, 70, [])), (68, (0, 0, 0, 0, 69, [])), (69, (27, 0, 0, 0, 70, [])), (70, (8, 5, 0, 1, 73, [])), (73, (15, 0, 0, 0, 30, [])), (76, (8, 2, 0, 1, 79, [])), (79, (15, 0, 0, 0, 2, [])), (82, (0, 0, 0, 1, 83, [])), (83, (27, 0, 0, 0, 84, []))]
set_option maxRecDepth 100000 in
theorem K_X4_isAtRest : ztbok F_X4_isAtRest T_X4_isAtRest := ztbB_ok (by decide +kernel)
set_option maxRecDepth 100000 in
theorem W_X4_isAtRest : zMth yX4_isAtRest (.code yX4_isAtRest cX4_isAtRest 6 (some .boolean)) 1 := ⟨z_at 1113 (by decide +kernel) (by decide +kernel), z_at 10 (by decide +kernel) (by decide +kernel), ⟨by decide +kernel, by decide +kernel⟩, by decide +kernel⟩
set_option maxRecDepth 100000 in
theorem I_X4_isAtRest : Cond.instanceMethod yX4_isAtRest ∈ zws := z_at 1112 (by decide +kernel) (by decide +kernel)
set_option maxRecDepth 100000 in
theorem S_X4_isAtRest : Cond.selects yX4_isAtRest.cls yX4_isAtRest yX4_isAtRest ∈ zws := z_in (List.mem_append_left _ (List.mem_map.mpr ⟨_, List.mem_of_getElem? (i := 37) rfl, rfl⟩)) rfl
abbrev F_X4_share : zF := (4, cX4_share, some .int, 3, [], false)
def T_X4_share : List (Nat × zI) := [(0, (2, 2, 0, 0, 1, [])), (1, (0, 0, 0, 1, 2, [])), (2, (16, 1, 5, 0, 9, [])), (5, (0, 0, 0, 0, 6, [])), (6, (15, 0, 0, 0, 17, [])), (9, (4, 0, 0, 0, 10, [])), (10, (18, 4, 2, 0, 13, [])), (13, (2, 1, 0, 0, 14, [])), (14, (20, 0, 0, 0, 15, [])), (15, (2, 2, 0, 0, 16, [])), (16, (9, 9, 0, 0, 17, [])), (17, (27, 0, 0, 0, 18, []))]
set_option maxRecDepth 100000 in
theorem K_X4_share : ztbok F_X4_share T_X4_share := ztbB_ok (by decide +kernel)
set_option maxRecDepth 100000 in
theorem W_X4_share : zMth yX4_share (.code yX4_share cX4_share 3 (some .int)) 2 := ⟨z_at 1117 (by decide +kernel) (by decide +kernel), z_at 10 (by decide +kernel) (by decide +kernel), ⟨by decide +kernel, by decide +kernel⟩, by decide +kernel⟩
set_option maxRecDepth 100000 in
theorem I_X4_share : Cond.instanceMethod yX4_share ∈ zws := z_at 1116 (by decide +kernel) (by decide +kernel)
set_option maxRecDepth 100000 in
theorem S_X4_share : Cond.selects yX4_share.cls yX4_share yX4_share ∈ zws := z_in (List.mem_append_left _ (List.mem_map.mpr ⟨_, List.mem_of_getElem? (i := 38) rfl, rfl⟩)) rfl
abbrev F_X5_init : zF := (5, cX5_init, none, 4, [], true)
def T_X5_init : List (Nat × zI) := [(0, (4, 0, 0, 0, 1, [])), (1, (35, 0, 0, 0, 4, [])), (4, (4, 0, 0, 0, 5, [])), (5, (0, 0, 0, 6, 7, [])), (7, (31, 1, 0, 0, 9, [])), (9, (19, 5, 3, 0, 12, [])), (12, (4, 0, 0, 0, 13, [])), (13, (0, 0, 0, 12, 15, [])), (15, (31, 1, 0, 0, 17, [])), (17, (19, 5, 4, 0, 20, [])), (20, (4, 0, 0, 0, 21, [])), (21, (0, 0, 0, 4, 22, [])), (22, (31, 1, 0, 0, 24, [])), (24, (19, 5, 5, 0, 27, [])), (27, (4, 0, 0, 0, 28, [])), (28, (0, 0, 0, 3, 29, [])), (29, (31, 1, 0, 0, 31, [])), (31, (19, 5, 6, 0, 34, [])), (34, (4, 0, 0, 0, 35, [])), (35, (0, 0, 0, 6, 37, [])), (37, (31, 1, 0, 0, 39, [])), (39, (19, 5, 7, 0, 42, [])), (42, (4, 0, 0, 0, 43, [])), (43, (0, 0, 0, 6, 45, [])), (45, (31, 1, 0, 0, 47, [])), (47, (19, 5, 8, 0, 50, [])), (50, (4, 0, 0, 0, 51, [])), (51, (4, 1, 0, 0, 52, [])), (52, (19, 5, 0, 0, 55, [])), (55, (4, 0, 0, 0, 56, [])), (56, (4, 2, 0, 0, 57, [])), (57, (19, 5, 1, 0, 60, [])), (60, (4, 0, 0, 0, 61, [])), (61, (4, 3, 0, 0, 62, [])), (62, (19, 5, 2, 0, 65, [])), (65, (29, 0, 0, 0, 66, []))]
set_option maxRecDepth 100000 in
theorem K_X5_init : ztbok F_X5_init T_X5_init := ztbB_ok (by decide +kernel)
set_option maxRecDepth 100000 in
theorem W_X5_init : zMth yX5_init (.code yX5_init cX5_init 4 (none)) 3 := ⟨z_at 326 (by decide +kernel) (by decide +kernel), z_at 11 (by decide +kernel) (by decide +kernel), ⟨by decide +kernel, by decide +kernel⟩, by decide +kernel⟩
set_option maxRecDepth 100000 in
theorem I_X5_init : Cond.instanceMethod yX5_init ∈ zws := z_at 325 (by decide +kernel) (by decide +kernel)
abbrev F_X5_keepFewest : zF := (5, cX5_keepFewest, some .int, 5, [], false)
def T_X5_keepFewest : List (Nat × zI) := [(0, (4, 0, 0, 0, 1, [])), (1, (18, 5, 5, 0, 4, [])), (4, (0, 0, 0, 0, 5, [])), (8, (4, 0, 0, 0, 9, [])), (9, (18, 5, 6, 0, 12, [])), (12, (0, 0, 0, 0, 13, [])), (16, (0, 0, 0, 0, 17, [])), (17, (5, 3, 0, 0, 18, [])), (18, (0, 0, 0, 0, 19, [])), (19, (5, 4, 0, 0, 21, [])), (21, (2, 4, 0, 0, 23, [])), (23, (4, 0, 0, 0, 24, [])), (24, (18, 5, 0, 0, 27, [])), (27, (18, 6, 8, 0, 30, [])), (30, (16, 1, 33, 0, 100, [])), (33, (4, 0, 0, 0, 34, [])), (34, (2, 4, 0, 0, 36, [])), (36, (2, 1, 0, 0, 37, [])), (37, (2, 2, 0, 0, 38, [])), (41, (4, 0, 0, 0, 42, [])), (42, (18, 5, 3, 0, 45, [])), (45, (2, 4, 0, 0, 47, [])), (47, (0, 0, 0, (-1), 48, [])), (48, (21, 0, 0, 0, 49, [])), (49, (4, 0, 0, 0, 50, [])), (50, (2, 4, 0, 0, 52, [])), (52, (2, 1, 0, 0, 53, [])), (53, (2, 2, 0, 0, 54, [])), (57, (17, 0, 94, 0, 60, [])), (60, (4, 0, 0, 0, 61, [])), (61, (18, 5, 3, 0, 64, [])), (64, (2, 4, 0, 0, 66, [])), (66, (4, 0, 0, 0, 67, [])), (67, (2, 4, 0, 0, 69, [])), (69, (2, 1, 0, 0, 70, [])), (70, (2, 2, 0, 0, 71, [])), (74, (21, 0, 0, 0, 75, [])), (75, (4, 0, 0, 0, 76, [])), (76, (18, 5, 5, 0, 79, [])), (79, (4, 0, 0, 0, 80, [])), (80, (18, 5, 3, 0, 83, [])), (83, (2, 4, 0, 0, 85, [])), (85, (20, 0, 0, 0, 86, [])), (86, (13, 0, 0, 0, 87, [])), (87, (20, 0, 0, 0, 88, [])), (88, (0, 0, 0, 1, 89, [])), (89, (9, 0, 0, 0, 90, [])), (90, (21, 0, 0, 0, 91, [])), (91, (8, 3, 0, 1, 94, [])), (94, (8, 4, 0, 1, 97, [])), (97, (15, 0, 0, 0, 21, [])), (100, (4, 0, 0, 0, 101, [])), (104, (17, 0, 107, 0, 109, [])), (107, (0, 0, 0, (-1), 108, [])), (108, (27, 0, 0, 0, 109, [])), (109, (4, 0, 0, 0, 110, [])), (113, (4, 0, 0, 0, 114, [])), (114, (18, 5, 7, 0, 117, [])), (117, (0, 0, 0, 0, 118, [])), (118, (4, 0, 0, 0, 119, [])), (119, (18, 5, 8, 0, 122, [])), (122, (0, 0, 0, 0, 123, [])), (123, (4, 0, 0, 0, 124, [])), (124, (18, 5, 0, 0, 127, [])), (127, (18, 6, 8, 0, 130, [])), (133, (4, 0, 0, 0, 134, [])), (134, (0, 0, 0, 1, 135, [])), (135, (19, 5, 9, 0, 138, [])), (138, (2, 3, 0, 0, 139, [])), (139, (27, 0, 0, 0, 140, []))]
set_option maxRecDepth 100000 in
theorem K_X5_keepFewest : ztbok F_X5_keepFewest T_X5_keepFewest := ztbB_ok (by decide +kernel)
set_option maxRecDepth 100000 in
theorem W_X5_keepFewest : zMth yX5_keepFewest (.code yX5_keepFewest cX5_keepFewest 5 (some .int)) 2 := ⟨z_at 1131 (by decide +kernel) (by decide +kernel), z_at 11 (by decide +kernel) (by decide +kernel), ⟨by decide +kernel, by decide +kernel⟩, by decide +kernel⟩
set_option maxRecDepth 100000 in
theorem I_X5_keepFewest : Cond.instanceMethod yX5_keepFewest ∈ zws := z_at 1129 (by decide +kernel) (by decide +kernel)
set_option maxRecDepth 100000 in
theorem S_X5_keepFewest : Cond.selects yX5_keepFewest.cls yX5_keepFewest yX5_keepFewest ∈ zws := z_at 1130 (by decide +kernel) (by decide +kernel)
abbrev F_X5_isShoeless : zF := (5, cX5_isShoeless, some .boolean, 6, [], false)
def T_X5_isShoeless : List (Nat × zI) := [(0, (2, 2, 0, 0, 1, [])), (1, (5, 4, 0, 0, 3, [])), (3, (2, 4, 0, 0, 5, [])), (5, (2, 3, 0, 0, 6, [])), (6, (16, 2, 54, 0, 9, [])), (9, (4, 0, 0, 0, 10, [])), (10, (18, 5, 1, 0, 13, [])), (13, (2, 1, 0, 0, 14, [])), (14, (2, 4, 0, 0, 16, [])), (19, (5, 5, 0, 0, 21, [])), (21, (4, 0, 0, 0, 22, [])), (22, (18, 5, 0, 0, 25, [])), (25, (2, 5, 0, 0, 27, [])), (30, (17, 0, 48, 0, 33, [])), (33, (4, 0, 0, 0, 34, [])), (34, (18, 5, 2, 0, 37, [])), (37, (2, 1, 0, 0, 38, [])), (38, (2, 5, 0, 0, 40, [])), (43, (17, 0, 46, 0, 48, [])), (46, (0, 0, 0, 1, 47, [])), (47, (27, 0, 0, 0, 48, [])), (48, (8, 4, 0, 1, 51, [])), (51, (15, 0, 0, 0, 3, [])), (54, (0, 0, 0, 0, 55, [])), (55, (27, 0, 0, 0, 56, []))]
set_option maxRecDepth 100000 in
theorem K_X5_isShoeless : ztbok F_X5_isShoeless T_X5_isShoeless := ztbB_ok (by decide +kernel)
set_option maxRecDepth 100000 in
theorem W_X5_isShoeless : zMth yX5_isShoeless (.code yX5_isShoeless cX5_isShoeless 6 (some .boolean)) 3 := ⟨z_at 1143 (by decide +kernel) (by decide +kernel), z_at 11 (by decide +kernel) (by decide +kernel), ⟨by decide +kernel, by decide +kernel⟩, by decide +kernel⟩
set_option maxRecDepth 100000 in
theorem I_X5_isShoeless : Cond.instanceMethod yX5_isShoeless ∈ zws := z_at 1142 (by decide +kernel) (by decide +kernel)
set_option maxRecDepth 100000 in
theorem S_X5_isShoeless : Cond.selects yX5_isShoeless.cls yX5_isShoeless yX5_isShoeless ∈ zws := z_in (List.mem_append_left _ (List.mem_map.mpr ⟨_, List.mem_of_getElem? (i := 40) rfl, rfl⟩)) rfl
abbrev F_X5_helpfulShoes : zF := (5, cX5_helpfulShoes, some .int, 8, [], false)
def T_X5_helpfulShoes : List (Nat × zI) := [(0, (4, 0, 0, 0, 1, [])), (1, (18, 5, 1, 0, 4, [])), (4, (2, 1, 0, 0, 5, [])), (8, (5, 4, 0, 0, 10, [])), (10, (0, 0, 0, 3, 11, [])), (11, (2, 4, 0, 0, 13, [])), (13, (0, 0, 0, (-1), 14, [])), (14, (9, 5, 0, 0, 15, [])), (15, (9, 3, 0, 0, 16, [])), (16, (5, 5, 0, 0, 18, [])), (18, (2, 2, 0, 0, 19, [])), (19, (5, 6, 0, 0, 21, [])), (21, (2, 6, 0, 0, 23, [])), (23, (2, 3, 0, 0, 24, [])), (24, (16, 2, 72, 0, 27, [])), (27, (4, 0, 0, 0, 28, [])), (28, (18, 5, 0, 0, 31, [])), (31, (4, 0, 0, 0, 32, [])), (32, (18, 5, 1, 0, 35, [])), (35, (2, 1, 0, 0, 36, [])), (36, (2, 6, 0, 0, 38, [])), (44, (5, 7, 0, 0, 46, [])), (46, (2, 7, 0, 0, 48, [])), (48, (17, 0, 66, 0, 51, [])), (51, (2, 7, 0, 0, 53, [])), (53, (2, 4, 0, 0, 55, [])), (55, (9, 3, 0, 0, 56, [])), (56, (17, 0, 59, 0, 66, [])), (59, (2, 5, 0, 0, 61, [])), (61, (2, 7, 0, 0, 63, [])), (63, (9, 3, 0, 0, 64, [])), (64, (5, 5, 0, 0, 66, [])), (66, (8, 6, 0, 1, 69, [])), (69, (15, 0, 0, 0, 21, [])), (72, (2, 5, 0, 0, 74, [])), (74, (27, 0, 0, 0, 75, []))]
set_option maxRecDepth 100000 in
theorem K_X5_helpfulShoes : ztbok F_X5_helpfulShoes T_X5_helpfulShoes := ztbB_ok (by decide +kernel)
set_option maxRecDepth 100000 in
theorem W_X5_helpfulShoes : zMth yX5_helpfulShoes (.code yX5_helpfulShoes cX5_helpfulShoes 8 (some .int)) 3 := ⟨z_at 1148 (by decide +kernel) (by decide +kernel), z_at 11 (by decide +kernel) (by decide +kernel), ⟨by decide +kernel, by decide +kernel⟩, by decide +kernel⟩
set_option maxRecDepth 100000 in
theorem I_X5_helpfulShoes : Cond.instanceMethod yX5_helpfulShoes ∈ zws := z_at 1147 (by decide +kernel) (by decide +kernel)
set_option maxRecDepth 100000 in
theorem S_X5_helpfulShoes : Cond.selects yX5_helpfulShoes.cls yX5_helpfulShoes yX5_helpfulShoes ∈ zws := z_in (List.mem_append_left _ (List.mem_map.mpr ⟨_, List.mem_of_getElem? (i := 41) rfl, rfl⟩)) rfl
abbrev F_X5_countSpare : zF := (5, cX5_countSpare, none, 7, [], false)
def T_X5_countSpare : List (Nat × zI) := [(0, (0, 0, 0, 0, 1, [])), (1, (5, 4, 0, 0, 3, [])), (3, (2, 2, 0, 0, 4, [])), (4, (5, 5, 0, 0, 6, [])), (6, (2, 5, 0, 0, 8, [])), (8, (2, 3, 0, 0, 9, [])), (9, (16, 2, 40, 0, 12, [])), (12, (2, 4, 0, 0, 14, [])), (14, (4, 0, 0, 0, 15, [])), (15, (18, 5, 0, 0, 18, [])), (18, (4, 0, 0, 0, 19, [])), (19, (18, 5, 1, 0, 22, [])), (22, (2, 1, 0, 0, 23, [])), (23, (2, 5, 0, 0, 25, [])), (31, (9, 4, 0, 0, 32, [])), (32, (5, 4, 0, 0, 34, [])), (34, (8, 5, 0, 1, 37, [])), (37, (15, 0, 0, 0, 6, [])), (40, (0, 0, 0, 1, 41, [])), (41, (5, 5, 0, 0, 43, [])), (43, (2, 5, 0, 0, 45, [])), (45, (0, 0, 0, 2, 46, [])), (46, (16, 2, 106, 0, 49, [])), (49, (2, 4, 0, 0, 51, [])), (51, (2, 5, 0, 0, 53, [])), (53, (9, 3, 0, 0, 54, [])), (54, (17, 0, 57, 0, 70, [])), (57, (4, 0, 0, 0, 58, [])), (58, (18, 5, 1, 0, 61, [])), (61, (2, 1, 0, 0, 62, [])), (62, (2, 5, 0, 0, 64, [])), (67, (15, 0, 0, 0, 71, [])), (70, (0, 0, 0, 0, 71, [])), (71, (5, 6, 0, 0, 73, [])), (73, (4, 0, 0, 0, 74, [])), (74, (18, 5, 4, 0, 77, [])), (77, (2, 1, 0, 0, 78, [])), (78, (0, 0, 0, 2, 79, [])), (79, (9, 2, 0, 0, 80, [])), (80, (2, 5, 0, 0, 82, [])), (82, (9, 0, 0, 0, 83, [])), (83, (0, 0, 0, 1, 84, [])), (84, (9, 1, 0, 0, 85, [])), (85, (2, 6, 0, 0, 87, [])), (87, (21, 0, 0, 0, 88, [])), (88, (4, 0, 0, 0, 89, [])), (89, (18, 5, 6, 0, 92, [])), (92, (2, 5, 0, 0, 94, [])), (94, (13, 0, 0, 0, 95, [])), (95, (20, 0, 0, 0, 96, [])), (96, (2, 6, 0, 0, 98, [])), (98, (9, 0, 0, 0, 99, [])), (99, (21, 0, 0, 0, 100, [])), (100, (8, 5, 0, 1, 103, [])), (103, (15, 0, 0, 0, 43, [])), (106, (29, 0, 0, 0, 107, []))]
set_option maxRecDepth 100000 in
theorem K_X5_countSpare : ztbok F_X5_countSpare T_X5_countSpare := ztbB_ok (by decide +kernel)
set_option maxRecDepth 100000 in
theorem W_X5_countSpare : zMth yX5_countSpare (.code yX5_countSpare cX5_countSpare 7 (none)) 3 := ⟨z_at 1136 (by decide +kernel) (by decide +kernel), z_at 11 (by decide +kernel) (by decide +kernel), ⟨by decide +kernel, by decide +kernel⟩, by decide +kernel⟩
set_option maxRecDepth 100000 in
theorem I_X5_countSpare : Cond.instanceMethod yX5_countSpare ∈ zws := z_at 1135 (by decide +kernel) (by decide +kernel)
set_option maxRecDepth 100000 in
theorem S_X5_countSpare : Cond.selects yX5_countSpare.cls yX5_countSpare yX5_countSpare ∈ zws := z_in (List.mem_append_left _ (List.mem_map.mpr ⟨_, List.mem_of_getElem? (i := 39) rfl, rfl⟩)) rfl
abbrev F_X5_canServe : zF := (5, cX5_canServe, some .boolean, 2, [], false)
def T_X5_canServe : List (Nat × zI) := [(0, (4, 0, 0, 0, 1, [])), (1, (18, 5, 5, 0, 4, [])), (4, (0, 0, 0, 1, 5, [])), (5, (20, 0, 0, 0, 6, [])), (6, (4, 0, 0, 0, 7, [])), (7, (18, 5, 5, 0, 10, [])), (10, (0, 0, 0, 2, 11, [])), (11, (20, 0, 0, 0, 12, [])), (12, (9, 0, 0, 0, 13, [])), (13, (4, 0, 0, 0, 14, [])), (14, (18, 5, 5, 0, 17, [])), (17, (0, 0, 0, 3, 18, [])), (18, (20, 0, 0, 0, 19, [])), (19, (9, 0, 0, 0, 20, [])), (20, (5, 1, 0, 0, 21, [])), (21, (4, 0, 0, 0, 22, [])), (22, (18, 5, 5, 0, 25, [])), (25, (0, 0, 0, 0, 26, [])), (26, (20, 0, 0, 0, 27, [])), (27, (17, 0, 30, 0, 81, [])), (30, (4, 0, 0, 0, 31, [])), (31, (18, 5, 5, 0, 34, [])), (34, (0, 0, 0, 1, 35, [])), (35, (20, 0, 0, 0, 36, [])), (36, (4, 0, 0, 0, 37, [])), (37, (18, 5, 6, 0, 40, [])), (40, (0, 0, 0, 1, 41, [])), (41, (20, 0, 0, 0, 42, [])), (42, (16, 2, 81, 0, 45, [])), (45, (4, 0, 0, 0, 46, [])), (46, (18, 5, 5, 0, 49, [])), (49, (0, 0, 0, 2, 50, [])), (50, (20, 0, 0, 0, 51, [])), (51, (4, 0, 0, 0, 52, [])), (52, (18, 5, 6, 0, 55, [])), (55, (0, 0, 0, 2, 56, [])), (56, (20, 0, 0, 0, 57, [])), (57, (16, 2, 81, 0, 60, [])), (60, (2, 1, 0, 0, 61, [])), (61, (4, 0, 0, 0, 62, [])), (62, (18, 5, 6, 0, 65, [])), (65, (0, 0, 0, 1, 66, [])), (66, (20, 0, 0, 0, 67, [])), (67, (4, 0, 0, 0, 68, [])), (68, (18, 5, 6, 0, 71, [])), (71, (0, 0, 0, 2, 72, [])), (72, (20, 0, 0, 0, 73, [])), (73, (9, 0, 0, 0, 74, [])), (74, (16, 2, 81, 0, 77, [])), (77, (0, 0, 0, 1, 78, [])), (78, (15, 0, 0, 0, 82, [])), (81, (0, 0, 0, 0, 82, [])), (82, (27, 0, 0, 0, 83, []))]
set_option maxRecDepth 100000 in
theorem K_X5_canServe : ztbok F_X5_canServe T_X5_canServe := ztbB_ok (by decide +kernel)
set_option maxRecDepth 100000 in
theorem W_X5_canServe : zMth yX5_canServe (.code yX5_canServe cX5_canServe 2 (some .boolean)) 0 := ⟨z_at 1153 (by decide +kernel) (by decide +kernel), z_at 11 (by decide +kernel) (by decide +kernel), ⟨by decide +kernel, by decide +kernel⟩, by decide +kernel⟩
set_option maxRecDepth 100000 in
theorem I_X5_canServe : Cond.instanceMethod yX5_canServe ∈ zws := z_at 1152 (by decide +kernel) (by decide +kernel)
set_option maxRecDepth 100000 in
theorem S_X5_canServe : Cond.selects yX5_canServe.cls yX5_canServe yX5_canServe ∈ zws := z_in (List.mem_append_left _ (List.mem_map.mpr ⟨_, List.mem_of_getElem? (i := 42) rfl, rfl⟩)) rfl
abbrev F_X5_serveAll : zF := (5, cX5_serveAll, none, 2, [], false)
def T_X5_serveAll : List (Nat × zI) := [(0, (0, 0, 0, 0, 1, [])), (1, (5, 1, 0, 0, 2, [])), (2, (2, 1, 0, 0, 3, [])), (3, (4, 0, 0, 0, 4, [])), (4, (18, 5, 0, 0, 7, [])), (7, (18, 6, 8, 0, 10, [])), (10, (16, 1, 13, 0, 56, [])), (13, (4, 0, 0, 0, 14, [])), (14, (18, 5, 7, 0, 17, [])), (17, (2, 1, 0, 0, 18, [])), (18, (0, 0, 0, (-1), 19, [])), (19, (21, 0, 0, 0, 20, [])), (20, (4, 0, 0, 0, 21, [])), (21, (18, 5, 3, 0, 24, [])), (24, (2, 1, 0, 0, 25, [])), (25, (20, 0, 0, 0, 26, [])), (26, (0, 0, 0, (-1), 27, [])), (27, (16, 0, 50, 0, 30, [])), (30, (4, 0, 0, 0, 31, [])), (31, (18, 5, 5, 0, 34, [])), (34, (4, 0, 0, 0, 35, [])), (35, (18, 5, 3, 0, 38, [])), (38, (2, 1, 0, 0, 39, [])), (39, (20, 0, 0, 0, 40, [])), (40, (13, 0, 0, 0, 41, [])), (41, (20, 0, 0, 0, 42, [])), (42, (0, 0, 0, 1, 43, [])), (43, (9, 1, 0, 0, 44, [])), (44, (21, 0, 0, 0, 45, [])), (45, (4, 0, 0, 0, 46, [])), (46, (2, 1, 0, 0, 47, [])), (50, (8, 1, 0, 1, 53, [])), (53, (15, 0, 0, 0, 2, [])), (56, (29, 0, 0, 0, 57, []))]
set_option maxRecDepth 100000 in
theorem K_X5_serveAll : ztbok F_X5_serveAll T_X5_serveAll := ztbB_ok (by decide +kernel)
set_option maxRecDepth 100000 in
theorem W_X5_serveAll : zMth yX5_serveAll (.code yX5_serveAll cX5_serveAll 2 (none)) 0 := ⟨z_at 1157 (by decide +kernel) (by decide +kernel), z_at 11 (by decide +kernel) (by decide +kernel), ⟨by decide +kernel, by decide +kernel⟩, by decide +kernel⟩
set_option maxRecDepth 100000 in
theorem I_X5_serveAll : Cond.instanceMethod yX5_serveAll ∈ zws := z_at 1156 (by decide +kernel) (by decide +kernel)
set_option maxRecDepth 100000 in
theorem S_X5_serveAll : Cond.selects yX5_serveAll.cls yX5_serveAll yX5_serveAll ∈ zws := z_in (List.mem_append_left _ (List.mem_map.mpr ⟨_, List.mem_of_getElem? (i := 43) rfl, rfl⟩)) rfl
abbrev F_X5_serve : zF := (5, cX5_serve, none, 4, [], false)
def T_X5_serve : List (Nat × zI) := [(0, (0, 0, 0, 0, 1, [])), (1, (5, 2, 0, 0, 2, [])), (2, (2, 2, 0, 0, 3, [])), (3, (4, 0, 0, 0, 4, [])), (4, (18, 5, 0, 0, 7, [])), (7, (18, 6, 8, 0, 10, [])), (10, (16, 1, 13, 0, 91, [])), (13, (0, 0, 0, 1, 14, [])), (14, (5, 3, 0, 0, 15, [])), (15, (2, 3, 0, 0, 16, [])), (16, (0, 0, 0, 2, 17, [])), (17, (16, 2, 85, 0, 20, [])), (20, (4, 0, 0, 0, 21, [])), (21, (18, 5, 3, 0, 24, [])), (24, (2, 1, 0, 0, 25, [])), (25, (20, 0, 0, 0, 26, [])), (26, (2, 3, 0, 0, 27, [])), (27, (9, 3, 0, 0, 28, [])), (28, (17, 0, 79, 0, 31, [])), (31, (4, 0, 0, 0, 32, [])), (32, (2, 2, 0, 0, 33, [])), (33, (2, 3, 0, 0, 34, [])), (37, (17, 0, 79, 0, 40, [])), (40, (4, 0, 0, 0, 41, [])), (41, (18, 5, 4, 0, 44, [])), (44, (2, 2, 0, 0, 45, [])), (45, (0, 0, 0, 2, 46, [])), (46, (9, 2, 0, 0, 47, [])), (47, (2, 3, 0, 0, 48, [])), (48, (9, 0, 0, 0, 49, [])), (49, (0, 0, 0, 1, 50, [])), (50, (9, 1, 0, 0, 51, [])), (51, (13, 0, 0, 0, 52, [])), (52, (20, 0, 0, 0, 53, [])), (53, (0, 0, 0, 1, 54, [])), (54, (9, 1, 0, 0, 55, [])), (55, (21, 0, 0, 0, 56, [])), (56, (4, 0, 0, 0, 57, [])), (57, (18, 5, 6, 0, 60, [])), (60, (2, 3, 0, 0, 61, [])), (61, (13, 0, 0, 0, 62, [])), (62, (20, 0, 0, 0, 63, [])), (63, (0, 0, 0, 1, 64, [])), (64, (9, 1, 0, 0, 65, [])), (65, (21, 0, 0, 0, 66, [])), (66, (4, 0, 0, 0, 67, [])), (67, (18, 5, 7, 0, 70, [])), (70, (2, 1, 0, 0, 71, [])), (71, (0, 0, 0, 10, 73, [])), (73, (2, 2, 0, 0, 74, [])), (74, (9, 2, 0, 0, 75, [])), (75, (2, 3, 0, 0, 76, [])), (76, (9, 0, 0, 0, 77, [])), (77, (21, 0, 0, 0, 78, [])), (78, (29, 0, 0, 0, 79, [])), (79, (8, 3, 0, 1, 82, [])), (82, (15, 0, 0, 0, 15, [])), (85, (8, 2, 0, 1, 88, [])), (88, (15, 0, 0, 0, 2, [])), (91, (29, 0, 0, 0, 92, []))]
set_option maxRecDepth 100000 in
theorem K_X5_serve : ztbok F_X5_serve T_X5_serve := ztbB_ok (by decide +kernel)
set_option maxRecDepth 100000 in
theorem W_X5_serve : zMth yX5_serve (.code yX5_serve cX5_serve 4 (none)) 1 := ⟨z_at 1161 (by decide +kernel) (by decide +kernel), z_at 11 (by decide +kernel) (by decide +kernel), ⟨by decide +kernel, by decide +kernel⟩, by decide +kernel⟩
set_option maxRecDepth 100000 in
theorem I_X5_serve : Cond.instanceMethod yX5_serve ∈ zws := z_at 1160 (by decide +kernel) (by decide +kernel)
set_option maxRecDepth 100000 in
theorem S_X5_serve : Cond.selects yX5_serve.cls yX5_serve yX5_serve ∈ zws := z_in (List.mem_append_left _ (List.mem_map.mpr ⟨_, List.mem_of_getElem? (i := 44) rfl, rfl⟩)) rfl
abbrev F_X5_canSpare : zF := (5, cX5_canSpare, some .boolean, 4, [], false)
def T_X5_canSpare : List (Nat × zI) := [(0, (4, 0, 0, 0, 1, [])), (1, (18, 5, 4, 0, 4, [])), (4, (2, 1, 0, 0, 5, [])), (5, (0, 0, 0, 2, 6, [])), (6, (9, 2, 0, 0, 7, [])), (7, (2, 2, 0, 0, 8, [])), (8, (9, 0, 0, 0, 9, [])), (9, (0, 0, 0, 1, 10, [])), (10, (9, 1, 0, 0, 11, [])), (11, (20, 0, 0, 0, 12, [])), (12, (0, 0, 0, 1, 13, [])), (13, (16, 1, 16, 0, 18, [])), (16, (0, 0, 0, 0, 17, [])), (17, (27, 0, 0, 0, 18, [])), (18, (4, 0, 0, 0, 19, [])), (19, (18, 5, 6, 0, 22, [])), (22, (2, 2, 0, 0, 23, [])), (23, (13, 0, 0, 0, 24, [])), (24, (20, 0, 0, 0, 25, [])), (25, (0, 0, 0, 1, 26, [])), (26, (9, 1, 0, 0, 27, [])), (27, (21, 0, 0, 0, 28, [])), (28, (4, 0, 0, 0, 29, [])), (32, (5, 3, 0, 0, 33, [])), (33, (4, 0, 0, 0, 34, [])), (34, (18, 5, 6, 0, 37, [])), (37, (2, 2, 0, 0, 38, [])), (38, (13, 0, 0, 0, 39, [])), (39, (20, 0, 0, 0, 40, [])), (40, (0, 0, 0, 1, 41, [])), (41, (9, 0, 0, 0, 42, [])), (42, (21, 0, 0, 0, 43, [])), (43, (2, 3, 0, 0, 44, [])), (44, (27, 0, 0, 0, 45, []))]
set_option maxRecDepth 100000 in
theorem K_X5_canSpare : ztbok F_X5_canSpare T_X5_canSpare := ztbB_ok (by decide +kernel)
set_option maxRecDepth 100000 in
theorem W_X5_canSpare : zMth yX5_canSpare (.code yX5_canSpare cX5_canSpare 4 (some .boolean)) 2 := ⟨z_at 1165 (by decide +kernel) (by decide +kernel), z_at 11 (by decide +kernel) (by decide +kernel), ⟨by decide +kernel, by decide +kernel⟩, by decide +kernel⟩
set_option maxRecDepth 100000 in
theorem I_X5_canSpare : Cond.instanceMethod yX5_canSpare ∈ zws := z_at 1164 (by decide +kernel) (by decide +kernel)
set_option maxRecDepth 100000 in
theorem S_X5_canSpare : Cond.selects yX5_canSpare.cls yX5_canSpare yX5_canSpare ∈ zws := z_in (List.mem_append_left _ (List.mem_map.mpr ⟨_, List.mem_of_getElem? (i := 45) rfl, rfl⟩)) rfl
abbrev F_X6_init : zF := (6, cX6_init, none, 1, [], true)
def T_X6_init : List (Nat × zI) := [(0, (4, 0, 0, 0, 1, [])), (1, (35, 0, 0, 0, 4, [])), (4, (4, 0, 0, 0, 5, [])), (5, (0, 0, 0, 8, 7, [])), (7, (31, 1, 0, 0, 9, [])), (9, (19, 6, 0, 0, 12, [])), (12, (4, 0, 0, 0, 13, [])), (13, (0, 0, 0, 8, 15, [])), (15, (31, 1, 0, 0, 17, [])), (17, (19, 6, 1, 0, 20, [])), (20, (4, 0, 0, 0, 21, [])), (21, (0, 0, 0, 6, 23, [])), (23, (31, 1, 0, 0, 25, [])), (25, (19, 6, 2, 0, 28, [])), (28, (4, 0, 0, 0, 29, [])), (29, (0, 0, 0, 6, 31, [])), (31, (31, 1, 0, 0, 33, [])), (33, (19, 6, 3, 0, 36, [])), (36, (4, 0, 0, 0, 37, [])), (37, (0, 0, 0, 3, 38, [])), (38, (31, 1, 0, 0, 40, [])), (40, (19, 6, 4, 0, 43, [])), (43, (4, 0, 0, 0, 44, [])), (44, (0, 0, 0, 144, 47, [])), (47, (31, 1, 0, 0, 49, [])), (49, (19, 6, 5, 0, 52, [])), (52, (4, 0, 0, 0, 53, [])), (53, (0, 0, 0, 4, 54, [])), (54, (31, 1, 0, 0, 56, [])), (56, (19, 6, 6, 0, 59, [])), (59, (4, 0, 0, 0, 60, [])), (63, (29, 0, 0, 0, 64, []))]
set_option maxRecDepth 100000 in
theorem K_X6_init : ztbok F_X6_init T_X6_init := ztbB_ok (by decide +kernel)
set_option maxRecDepth 100000 in
theorem W_X6_init : zMth yX6_init (.code yX6_init cX6_init 1 (none)) 0 := ⟨z_at 55 (by decide +kernel) (by decide +kernel), z_at 3 (by decide +kernel) (by decide +kernel), ⟨by decide +kernel, by decide +kernel⟩, by decide +kernel⟩
set_option maxRecDepth 100000 in
theorem I_X6_init : Cond.instanceMethod yX6_init ∈ zws := z_at 54 (by decide +kernel) (by decide +kernel)
abbrev F_X6_setFirstLaw : zF := (6, cX6_setFirstLaw, none, 1, [], false)
def T_X6_setFirstLaw : List (Nat × zI) := [(0, (4, 0, 0, 0, 1, [])), (1, (18, 6, 6, 0, 4, [])), (4, (0, 0, 0, 0, 5, [])), (5, (0, 0, 0, 3, 6, [])), (6, (21, 0, 0, 0, 7, [])), (7, (4, 0, 0, 0, 8, [])), (8, (18, 6, 6, 0, 11, [])), (11, (0, 0, 0, 1, 12, [])), (12, (0, 0, 0, 1, 13, [])), (13, (21, 0, 0, 0, 14, [])), (14, (4, 0, 0, 0, 15, [])), (15, (18, 6, 6, 0, 18, [])), (18, (0, 0, 0, 2, 19, [])), (19, (0, 0, 0, 2, 20, [])), (20, (21, 0, 0, 0, 21, [])), (21, (4, 0, 0, 0, 22, [])), (22, (18, 6, 6, 0, 25, [])), (25, (0, 0, 0, 3, 26, [])), (26, (0, 0, 0, 1, 27, [])), (27, (21, 0, 0, 0, 28, [])), (28, (29, 0, 0, 0, 29, []))]
set_option maxRecDepth 100000 in
theorem K_X6_setFirstLaw : ztbok F_X6_setFirstLaw T_X6_setFirstLaw := ztbB_ok (by decide +kernel)
set_option maxRecDepth 100000 in
theorem W_X6_setFirstLaw : zMth yX6_setFirstLaw (.code yX6_setFirstLaw cX6_setFirstLaw 1 (none)) 0 := ⟨z_at 60 (by decide +kernel) (by decide +kernel), z_at 3 (by decide +kernel) (by decide +kernel), ⟨by decide +kernel, by decide +kernel⟩, by decide +kernel⟩
set_option maxRecDepth 100000 in
theorem I_X6_setFirstLaw : Cond.instanceMethod yX6_setFirstLaw ∈ zws := z_at 59 (by decide +kernel) (by decide +kernel)
set_option maxRecDepth 100000 in
theorem S_X6_setFirstLaw : Cond.selects yX6_setFirstLaw.cls yX6_setFirstLaw yX6_setFirstLaw ∈ zws := z_in (List.mem_append_left _ (List.mem_map.mpr ⟨_, List.mem_of_getElem? (i := 0) rfl, rfl⟩)) rfl
abbrev F_X6_clear : zF := (6, cX6_clear, none, 1, [], false)
def T_X6_clear : List (Nat × zI) := [(0, (4, 0, 0, 0, 1, [])), (1, (0, 0, 0, 0, 2, [])), (2, (19, 6, 7, 0, 5, [])), (5, (4, 0, 0, 0, 6, [])), (6, (0, 0, 0, 0, 7, [])), (7, (19, 6, 8, 0, 10, [])), (10, (4, 0, 0, 0, 11, [])), (11, (0, 0, 0, 0, 12, [])), (12, (19, 6, 9, 0, 15, [])), (15, (4, 0, 0, 0, 16, [])), (16, (0, 0, 0, 0, 17, [])), (17, (19, 6, 10, 0, 20, [])), (20, (4, 0, 0, 0, 21, [])), (21, (0, 0, 0, 0, 22, [])), (22, (19, 6, 11, 0, 25, [])), (25, (4, 0, 0, 0, 26, [])), (26, (18, 6, 5, 0, 29, [])), (29, (0, 0, 0, 0, 30, [])), (33, (4, 0, 0, 0, 34, [])), (37, (29, 0, 0, 0, 38, []))]
set_option maxRecDepth 100000 in
theorem K_X6_clear : ztbok F_X6_clear T_X6_clear := ztbB_ok (by decide +kernel)
set_option maxRecDepth 100000 in
theorem W_X6_clear : zMth yX6_clear (.code yX6_clear cX6_clear 1 (none)) 0 := ⟨z_at 623 (by decide +kernel) (by decide +kernel), z_at 3 (by decide +kernel) (by decide +kernel), ⟨by decide +kernel, by decide +kernel⟩, by decide +kernel⟩
set_option maxRecDepth 100000 in
theorem I_X6_clear : Cond.instanceMethod yX6_clear ∈ zws := z_at 621 (by decide +kernel) (by decide +kernel)
set_option maxRecDepth 100000 in
theorem S_X6_clear : Cond.selects yX6_clear.cls yX6_clear yX6_clear ∈ zws := z_at 622 (by decide +kernel) (by decide +kernel)
abbrev F_X6_copyFrom : zF := (6, cX6_copyFrom, none, 2, [], false)
def T_X6_copyFrom : List (Nat × zI) := [(0, (4, 1, 0, 0, 1, [])), (1, (18, 6, 0, 0, 4, [])), (4, (0, 0, 0, 0, 5, [])), (5, (4, 0, 0, 0, 6, [])), (6, (18, 6, 0, 0, 9, [])), (9, (0, 0, 0, 0, 10, [])), (10, (0, 0, 0, 8, 12, [])), (15, (4, 1, 0, 0, 16, [])), (16, (18, 6, 1, 0, 19, [])), (19, (0, 0, 0, 0, 20, [])), (20, (4, 0, 0, 0, 21, [])), (21, (18, 6, 1, 0, 24, [])), (24, (0, 0, 0, 0, 25, [])), (25, (0, 0, 0, 8, 27, [])), (30, (4, 1, 0, 0, 31, [])), (31, (18, 6, 2, 0, 34, [])), (34, (0, 0, 0, 0, 35, [])), (35, (4, 0, 0, 0, 36, [])), (36, (18, 6, 2, 0, 39, [])), (39, (0, 0, 0, 0, 40, [])), (40, (0, 0, 0, 6, 42, [])), (45, (4, 1, 0, 0, 46, [])), (46, (18, 6, 3, 0, 49, [])), (49, (0, 0, 0, 0, 50, [])), (50, (4, 0, 0, 0, 51, [])), (51, (18, 6, 3, 0, 54, [])), (54, (0, 0, 0, 0, 55, [])), (55, (0, 0, 0, 6, 57, [])), (60, (4, 1, 0, 0, 61, [])), (61, (18, 6, 4, 0, 64, [])), (64, (0, 0, 0, 0, 65, [])), (65, (4, 0, 0, 0, 66, [])), (66, (18, 6, 4, 0, 69, [])), (69, (0, 0, 0, 0, 70, [])), (70, (0, 0, 0, 3, 71, [])), (74, (4, 1, 0, 0, 75, [])), (75, (18, 6, 5, 0, 78, [])), (78, (0, 0, 0, 0, 79, [])), (79, (4, 0, 0, 0, 80, [])), (80, (18, 6, 5, 0, 83, [])), (83, (0, 0, 0, 0, 84, [])), (84, (0, 0, 0, 144, 87, [])), (90, (4, 1, 0, 0, 91, [])), (91, (18, 6, 6, 0, 94, [])), (94, (0, 0, 0, 0, 95, [])), (95, (4, 0, 0, 0, 96, [])), (96, (18, 6, 6, 0, 99, [])), (99, (0, 0, 0, 0, 100, [])), (100, (0, 0, 0, 4, 101, [])), (104, (4, 0, 0, 0, 105, [])), (105, (4, 1, 0, 0, 106, [])), (106, (18, 6, 7, 0, 109, [])), (109, (19, 6, 7, 0, 112, [])), (112, (4, 0, 0, 0, 113, [])), (113, (4, 1, 0, 0, 114, [])), (114, (18, 6, 8, 0, 117, [])), (117, (19, 6, 8, 0, 120, [])), (120, (4, 0, 0, 0, 121, [])), (121, (4, 1, 0, 0, 122, [])), (122, (18, 6, 9, 0, 125, [])), (125, (19, 6, 9, 0, 128, [])), (128, (4, 0, 0, 0, 129, [])), (129, (4, 1, 0, 0, 130, [])), (130, (18, 6, 10, 0, 133, [])), (133, (19, 6, 10, 0, 136, [])), (136, (4, 0, 0, 0, 137, [])), (137, (4, 1, 0, 0, 138, [])), (138, (18, 6, 11, 0, 141, [])), (141, (19, 6, 11, 0, 144, [])), (144, (29, 0, 0, 0, 145, []))]
set_option maxRecDepth 100000 in
theorem K_X6_copyFrom : ztbok F_X6_copyFrom T_X6_copyFrom := ztbB_ok (by decide +kernel)
set_option maxRecDepth 100000 in
theorem W_X6_copyFrom : zMth yX6_copyFrom (.code yX6_copyFrom cX6_copyFrom 2 (none)) 1 := ⟨z_at 784 (by decide +kernel) (by decide +kernel), z_at 3 (by decide +kernel) (by decide +kernel), ⟨by decide +kernel, by decide +kernel⟩, by decide +kernel⟩
set_option maxRecDepth 100000 in
theorem I_X6_copyFrom : Cond.instanceMethod yX6_copyFrom ∈ zws := z_at 782 (by decide +kernel) (by decide +kernel)
set_option maxRecDepth 100000 in
theorem S_X6_copyFrom : Cond.selects yX6_copyFrom.cls yX6_copyFrom yX6_copyFrom ∈ zws := z_at 783 (by decide +kernel) (by decide +kernel)
abbrev F_X6_addRoom : zF := (6, cX6_addRoom, none, 2, [], false)
def T_X6_addRoom : List (Nat × zI) := [(0, (4, 0, 0, 0, 1, [])), (1, (18, 6, 0, 0, 4, [])), (4, (4, 0, 0, 0, 5, [])), (5, (18, 6, 7, 0, 8, [])), (8, (2, 1, 0, 0, 9, [])), (9, (21, 0, 0, 0, 10, [])), (10, (4, 0, 0, 0, 11, [])), (11, (18, 6, 1, 0, 14, [])), (14, (4, 0, 0, 0, 15, [])), (15, (18, 6, 7, 0, 18, [])), (18, (0, 0, 0, (-1), 19, [])), (19, (21, 0, 0, 0, 20, [])), (20, (4, 0, 0, 0, 21, [])), (21, (12, 0, 0, 0, 22, [])), (22, (18, 6, 7, 0, 25, [])), (25, (0, 0, 0, 1, 26, [])), (26, (9, 0, 0, 0, 27, [])), (27, (19, 6, 7, 0, 30, [])), (30, (29, 0, 0, 0, 31, []))]
set_option maxRecDepth 100000 in
theorem K_X6_addRoom : ztbok F_X6_addRoom T_X6_addRoom := ztbB_ok (by decide +kernel)
set_option maxRecDepth 100000 in
theorem W_X6_addRoom : zMth yX6_addRoom (.code yX6_addRoom cX6_addRoom 2 (none)) 1 := ⟨z_at 719 (by decide +kernel) (by decide +kernel), z_at 3 (by decide +kernel) (by decide +kernel), ⟨by decide +kernel, by decide +kernel⟩, by decide +kernel⟩
set_option maxRecDepth 100000 in
theorem I_X6_addRoom : Cond.instanceMethod yX6_addRoom ∈ zws := z_at 717 (by decide +kernel) (by decide +kernel)
set_option maxRecDepth 100000 in
theorem S_X6_addRoom : Cond.selects yX6_addRoom.cls yX6_addRoom yX6_addRoom ∈ zws := z_at 718 (by decide +kernel) (by decide +kernel)
abbrev F_X6_addLodger : zF := (6, cX6_addLodger, none, 2, [], false)
def T_X6_addLodger : List (Nat × zI) := [(0, (4, 0, 0, 0, 1, [])), (1, (18, 6, 2, 0, 4, [])), (4, (4, 0, 0, 0, 5, [])), (5, (18, 6, 8, 0, 8, [])), (8, (2, 1, 0, 0, 9, [])), (9, (21, 0, 0, 0, 10, [])), (10, (4, 0, 0, 0, 11, [])), (11, (18, 6, 3, 0, 14, [])), (14, (4, 0, 0, 0, 15, [])), (15, (18, 6, 8, 0, 18, [])), (18, (0, 0, 0, 3, 19, [])), (19, (21, 0, 0, 0, 20, [])), (20, (4, 0, 0, 0, 21, [])), (21, (18, 6, 1, 0, 24, [])), (24, (2, 1, 0, 0, 25, [])), (25, (4, 0, 0, 0, 26, [])), (26, (18, 6, 8, 0, 29, [])), (29, (21, 0, 0, 0, 30, [])), (30, (4, 0, 0, 0, 31, [])), (31, (12, 0, 0, 0, 32, [])), (32, (18, 6, 8, 0, 35, [])), (35, (0, 0, 0, 1, 36, [])), (36, (9, 0, 0, 0, 37, [])), (37, (19, 6, 8, 0, 40, [])), (40, (29, 0, 0, 0, 41, []))]
set_option maxRecDepth 100000 in
theorem K_X6_addLodger : ztbok F_X6_addLodger T_X6_addLodger := ztbB_ok (by decide +kernel)
set_option maxRecDepth 100000 in
theorem W_X6_addLodger : zMth yX6_addLodger (.code yX6_addLodger cX6_addLodger 2 (none)) 1 := ⟨z_at 732 (by decide +kernel) (by decide +kernel), z_at 3 (by decide +kernel) (by decide +kernel), ⟨by decide +kernel, by decide +kernel⟩, by decide +kernel⟩
set_option maxRecDepth 100000 in
theorem I_X6_addLodger : Cond.instanceMethod yX6_addLodger ∈ zws := z_at 730 (by decide +kernel) (by decide +kernel)
set_option maxRecDepth 100000 in
theorem S_X6_addLodger : Cond.selects yX6_addLodger.cls yX6_addLodger yX6_addLodger ∈ zws := z_at 731 (by decide +kernel) (by decide +kernel)
abbrev F_X6_addFinder : zF := (6, cX6_addFinder, none, 2, [], false)
def T_X6_addFinder : List (Nat × zI) := [(0, (4, 0, 0, 0, 1, [])), (1, (18, 6, 4, 0, 4, [])), (4, (4, 0, 0, 0, 5, [])), (5, (18, 6, 9, 0, 8, [])), (8, (2, 1, 0, 0, 9, [])), (9, (21, 0, 0, 0, 10, [])), (10, (4, 0, 0, 0, 11, [])), (11, (12, 0, 0, 0, 12, [])), (12, (18, 6, 9, 0, 15, [])), (15, (0, 0, 0, 1, 16, [])), (16, (9, 0, 0, 0, 17, [])), (17, (19, 6, 9, 0, 20, [])), (20, (29, 0, 0, 0, 21, []))]
set_option maxRecDepth 100000 in
theorem K_X6_addFinder : ztbok F_X6_addFinder T_X6_addFinder := ztbB_ok (by decide +kernel)
set_option maxRecDepth 100000 in
theorem W_X6_addFinder : zMth yX6_addFinder (.code yX6_addFinder cX6_addFinder 2 (none)) 1 := ⟨z_at 743 (by decide +kernel) (by decide +kernel), z_at 3 (by decide +kernel) (by decide +kernel), ⟨by decide +kernel, by decide +kernel⟩, by decide +kernel⟩
set_option maxRecDepth 100000 in
theorem I_X6_addFinder : Cond.instanceMethod yX6_addFinder ∈ zws := z_at 741 (by decide +kernel) (by decide +kernel)
set_option maxRecDepth 100000 in
theorem S_X6_addFinder : Cond.selects yX6_addFinder.cls yX6_addFinder yX6_addFinder ∈ zws := z_at 742 (by decide +kernel) (by decide +kernel)
abbrev F_X6_addMay : zF := (6, cX6_addMay, none, 6, [], false)
def T_X6_addMay : List (Nat × zI) := [(0, (2, 3, 0, 0, 1, [])), (1, (5, 5, 0, 0, 3, [])), (3, (2, 5, 0, 0, 5, [])), (5, (2, 4, 0, 0, 7, [])), (7, (16, 2, 34, 0, 10, [])), (10, (4, 0, 0, 0, 11, [])), (11, (18, 6, 5, 0, 14, [])), (14, (2, 1, 0, 0, 15, [])), (15, (0, 0, 0, 24, 17, [])), (17, (9, 2, 0, 0, 18, [])), (18, (2, 5, 0, 0, 20, [])), (20, (9, 0, 0, 0, 21, [])), (21, (13, 0, 0, 0, 22, [])), (22, (20, 0, 0, 0, 23, [])), (23, (0, 0, 0, 1, 24, [])), (24, (2, 2, 0, 0, 25, [])), (25, (9, 6, 0, 0, 26, [])), (26, (9, 4, 0, 0, 27, [])), (27, (21, 0, 0, 0, 28, [])), (28, (8, 5, 0, 1, 31, [])), (31, (15, 0, 0, 0, 3, [])), (34, (4, 0, 0, 0, 35, [])), (35, (12, 0, 0, 0, 36, [])), (36, (18, 6, 10, 0, 39, [])), (39, (0, 0, 0, 1, 40, [])), (40, (9, 0, 0, 0, 41, [])), (41, (19, 6, 10, 0, 44, [])), (44, (29, 0, 0, 0, 45, []))]
set_option maxRecDepth 100000 in
theorem K_X6_addMay : ztbok F_X6_addMay T_X6_addMay := ztbB_ok (by decide +kernel)
set_option maxRecDepth 100000 in
theorem W_X6_addMay : zMth yX6_addMay (.code yX6_addMay cX6_addMay 6 (none)) 4 := ⟨z_at 765 (by decide +kernel) (by decide +kernel), z_at 3 (by decide +kernel) (by decide +kernel), ⟨by decide +kernel, by decide +kernel⟩, by decide +kernel⟩
set_option maxRecDepth 100000 in
theorem I_X6_addMay : Cond.instanceMethod yX6_addMay ∈ zws := z_at 763 (by decide +kernel) (by decide +kernel)
set_option maxRecDepth 100000 in
theorem S_X6_addMay : Cond.selects yX6_addMay.cls yX6_addMay yX6_addMay ∈ zws := z_at 764 (by decide +kernel) (by decide +kernel)
abbrev F_X6_addLaw : zF := (6, cX6_addLaw, none, 3, [], false)
def T_X6_addLaw : List (Nat × zI) := [(0, (4, 0, 0, 0, 1, [])), (1, (18, 6, 6, 0, 4, [])), (4, (2, 1, 0, 0, 5, [])), (5, (2, 2, 0, 0, 6, [])), (6, (21, 0, 0, 0, 7, [])), (7, (4, 0, 0, 0, 8, [])), (8, (12, 0, 0, 0, 9, [])), (9, (18, 6, 11, 0, 12, [])), (12, (0, 0, 0, 1, 13, [])), (13, (2, 1, 0, 0, 14, [])), (14, (9, 6, 0, 0, 15, [])), (15, (9, 4, 0, 0, 16, [])), (16, (19, 6, 11, 0, 19, [])), (19, (29, 0, 0, 0, 20, []))]
set_option maxRecDepth 100000 in
theorem K_X6_addLaw : ztbok F_X6_addLaw T_X6_addLaw := ztbB_ok (by decide +kernel)
set_option maxRecDepth 100000 in
theorem W_X6_addLaw : zMth yX6_addLaw (.code yX6_addLaw cX6_addLaw 3 (none)) 2 := ⟨z_at 780 (by decide +kernel) (by decide +kernel), z_at 3 (by decide +kernel) (by decide +kernel), ⟨by decide +kernel, by decide +kernel⟩, by decide +kernel⟩
set_option maxRecDepth 100000 in
theorem I_X6_addLaw : Cond.instanceMethod yX6_addLaw ∈ zws := z_at 778 (by decide +kernel) (by decide +kernel)
set_option maxRecDepth 100000 in
theorem S_X6_addLaw : Cond.selects yX6_addLaw.cls yX6_addLaw yX6_addLaw ∈ zws := z_at 779 (by decide +kernel) (by decide +kernel)
abbrev F_X6_doings : zF := (6, cX6_doings, some .int, 4, [], false)
def T_X6_doings : List (Nat × zI) := [(0, (4, 0, 0, 0, 1, [])), (1, (18, 6, 5, 0, 4, [])), (4, (2, 1, 0, 0, 5, [])), (5, (0, 0, 0, 24, 7, [])), (7, (9, 2, 0, 0, 8, [])), (8, (2, 2, 0, 0, 9, [])), (9, (9, 0, 0, 0, 10, [])), (10, (20, 0, 0, 0, 11, [])), (11, (5, 3, 0, 0, 12, [])), (12, (2, 3, 0, 0, 13, [])), (13, (17, 0, 16, 0, 20, [])), (16, (0, 0, 0, 1, 17, [])), (17, (15, 0, 0, 0, 21, [])), (20, (2, 3, 0, 0, 21, [])), (21, (27, 0, 0, 0, 22, []))]
set_option maxRecDepth 100000 in
theorem K_X6_doings : ztbok F_X6_doings T_X6_doings := ztbB_ok (by decide +kernel)
set_option maxRecDepth 100000 in
theorem W_X6_doings : zMth yX6_doings (.code yX6_doings cX6_doings 4 (some .int)) 2 := ⟨z_at 467 (by decide +kernel) (by decide +kernel), z_at 3 (by decide +kernel) (by decide +kernel), ⟨by decide +kernel, by decide +kernel⟩, by decide +kernel⟩
set_option maxRecDepth 100000 in
theorem I_X6_doings : Cond.instanceMethod yX6_doings ∈ zws := z_at 465 (by decide +kernel) (by decide +kernel)
set_option maxRecDepth 100000 in
theorem S_X6_doings : Cond.selects yX6_doings.cls yX6_doings yX6_doings ∈ zws := z_at 466 (by decide +kernel) (by decide +kernel)
abbrev F_X6_canDo : zF := (6, cX6_canDo, some .boolean, 3, [], false)
def T_X6_canDo : List (Nat × zI) := [(0, (2, 2, 0, 0, 1, [])), (1, (17, 1, 11, 0, 4, [])), (4, (2, 2, 0, 0, 5, [])), (5, (0, 0, 0, 3, 6, [])), (6, (16, 2, 11, 0, 9, [])), (9, (0, 0, 0, 1, 10, [])), (10, (27, 0, 0, 0, 11, [])), (11, (2, 2, 0, 0, 12, [])), (12, (0, 0, 0, 10, 14, [])), (14, (16, 1, 45, 0, 17, [])), (17, (2, 2, 0, 0, 18, [])), (18, (0, 0, 0, 10, 20, [])), (20, (4, 0, 0, 0, 21, [])), (21, (18, 6, 7, 0, 24, [])), (24, (9, 0, 0, 0, 25, [])), (25, (16, 1, 28, 0, 45, [])), (28, (2, 2, 0, 0, 29, [])), (29, (0, 0, 0, 10, 31, [])), (31, (4, 0, 0, 0, 32, [])), (32, (18, 6, 2, 0, 35, [])), (35, (2, 1, 0, 0, 36, [])), (36, (20, 0, 0, 0, 37, [])), (37, (9, 0, 0, 0, 38, [])), (38, (16, 0, 45, 0, 41, [])), (41, (0, 0, 0, 1, 42, [])), (42, (15, 0, 0, 0, 46, [])), (45, (0, 0, 0, 0, 46, [])), (46, (27, 0, 0, 0, 47, []))]
set_option maxRecDepth 100000 in
theorem K_X6_canDo : ztbok F_X6_canDo T_X6_canDo := ztbB_ok (by decide +kernel)
set_option maxRecDepth 100000 in
theorem W_X6_canDo : zMth yX6_canDo (.code yX6_canDo cX6_canDo 3 (some .boolean)) 2 := ⟨z_at 870 (by decide +kernel) (by decide +kernel), z_at 3 (by decide +kernel) (by decide +kernel), ⟨by decide +kernel, by decide +kernel⟩, by decide +kernel⟩
set_option maxRecDepth 100000 in
theorem I_X6_canDo : Cond.instanceMethod yX6_canDo ∈ zws := z_at 868 (by decide +kernel) (by decide +kernel)
set_option maxRecDepth 100000 in
theorem S_X6_canDo : Cond.selects yX6_canDo.cls yX6_canDo yX6_canDo ∈ zws := z_at 869 (by decide +kernel) (by decide +kernel)
abbrev F_X6_lawFor : zF := (6, cX6_lawFor, some .int, 2, [], false)
def T_X6_lawFor : List (Nat × zI) := [(0, (2, 1, 0, 0, 1, [])), (1, (17, 1, 18, 0, 4, [])), (4, (2, 1, 0, 0, 5, [])), (5, (0, 0, 0, 3, 6, [])), (6, (16, 2, 18, 0, 9, [])), (9, (4, 0, 0, 0, 10, [])), (10, (18, 6, 6, 0, 13, [])), (13, (2, 1, 0, 0, 14, [])), (14, (20, 0, 0, 0, 15, [])), (15, (15, 0, 0, 0, 24, [])), (18, (4, 0, 0, 0, 19, [])), (19, (18, 6, 6, 0, 22, [])), (22, (0, 0, 0, 0, 23, [])), (23, (20, 0, 0, 0, 24, [])), (24, (27, 0, 0, 0, 25, []))]
set_option maxRecDepth 100000 in
theorem K_X6_lawFor : ztbok F_X6_lawFor T_X6_lawFor := ztbB_ok (by decide +kernel)
set_option maxRecDepth 100000 in
theorem W_X6_lawFor : zMth yX6_lawFor (.code yX6_lawFor cX6_lawFor 2 (some .int)) 1 := ⟨z_at 522 (by decide +kernel) (by decide +kernel), z_at 3 (by decide +kernel) (by decide +kernel), ⟨by decide +kernel, by decide +kernel⟩, by decide +kernel⟩
set_option maxRecDepth 100000 in
theorem I_X6_lawFor : Cond.instanceMethod yX6_lawFor ∈ zws := z_at 520 (by decide +kernel) (by decide +kernel)
set_option maxRecDepth 100000 in
theorem S_X6_lawFor : Cond.selects yX6_lawFor.cls yX6_lawFor yX6_lawFor ∈ zws := z_at 521 (by decide +kernel) (by decide +kernel)
abbrev F_X6_doingsIn : zF := (6, cX6_doingsIn, some .int, 3, [], false)
def T_X6_doingsIn : List (Nat × zI) := [(0, (4, 0, 0, 0, 1, [])), (1, (18, 6, 2, 0, 4, [])), (4, (2, 2, 0, 0, 5, [])), (5, (20, 0, 0, 0, 6, [])), (6, (2, 1, 0, 0, 7, [])), (7, (16, 0, 10, 0, 15, [])), (10, (0, 0, 0, 14, 12, [])), (12, (15, 0, 0, 0, 21, [])), (15, (0, 0, 0, 1, 16, [])), (16, (0, 0, 0, 10, 18, [])), (18, (2, 1, 0, 0, 19, [])), (19, (9, 0, 0, 0, 20, [])), (20, (9, 6, 0, 0, 21, [])), (21, (27, 0, 0, 0, 22, []))]
set_option maxRecDepth 100000 in
theorem K_X6_doingsIn : ztbok F_X6_doingsIn T_X6_doingsIn := ztbB_ok (by decide +kernel)
set_option maxRecDepth 100000 in
theorem W_X6_doingsIn : zMth yX6_doingsIn (.code yX6_doingsIn cX6_doingsIn 3 (some .int)) 2 := ⟨z_at 983 (by decide +kernel) (by decide +kernel), z_at 3 (by decide +kernel) (by decide +kernel), ⟨by decide +kernel, by decide +kernel⟩, by decide +kernel⟩
set_option maxRecDepth 100000 in
theorem I_X6_doingsIn : Cond.instanceMethod yX6_doingsIn ∈ zws := z_at 981 (by decide +kernel) (by decide +kernel)
set_option maxRecDepth 100000 in
theorem S_X6_doingsIn : Cond.selects yX6_doingsIn.cls yX6_doingsIn yX6_doingsIn ∈ zws := z_at 982 (by decide +kernel) (by decide +kernel)
abbrev F_X6_rowsOf : zF := (6, cX6_rowsOf, some .int, 4, [], false)
def T_X6_rowsOf : List (Nat × zI) := [(0, (0, 0, 0, 1, 1, [])), (1, (5, 2, 0, 0, 2, [])), (2, (0, 0, 0, 0, 3, [])), (3, (5, 3, 0, 0, 4, [])), (4, (2, 3, 0, 0, 5, [])), (5, (4, 0, 0, 0, 6, [])), (6, (18, 6, 8, 0, 9, [])), (9, (16, 1, 12, 0, 30, [])), (12, (2, 2, 0, 0, 13, [])), (13, (4, 0, 0, 0, 14, [])), (14, (2, 3, 0, 0, 15, [])), (15, (2, 1, 0, 0, 16, [])), (22, (9, 2, 0, 0, 23, [])), (23, (5, 2, 0, 0, 24, [])), (24, (8, 3, 0, 1, 27, [])), (27, (15, 0, 0, 0, 4, [])), (30, (2, 2, 0, 0, 31, [])), (31, (0, 0, 0, 4000, 34, [])), (34, (16, 2, 37, 0, 42, [])), (37, (0, 0, 0, (-2), 39, [])), (39, (15, 0, 0, 0, 43, [])), (42, (2, 2, 0, 0, 43, [])), (43, (27, 0, 0, 0, 44, []))]
set_option maxRecDepth 100000 in
theorem K_X6_rowsOf : ztbok F_X6_rowsOf T_X6_rowsOf := ztbB_ok (by decide +kernel)
set_option maxRecDepth 100000 in
theorem W_X6_rowsOf : zMth yX6_rowsOf (.code yX6_rowsOf cX6_rowsOf 4 (some .int)) 1 := ⟨z_at 498 (by decide +kernel) (by decide +kernel), z_at 3 (by decide +kernel) (by decide +kernel), ⟨by decide +kernel, by decide +kernel⟩, by decide +kernel⟩
set_option maxRecDepth 100000 in
theorem I_X6_rowsOf : Cond.instanceMethod yX6_rowsOf ∈ zws := z_at 496 (by decide +kernel) (by decide +kernel)
set_option maxRecDepth 100000 in
theorem S_X6_rowsOf : Cond.selects yX6_rowsOf.cls yX6_rowsOf yX6_rowsOf ∈ zws := z_at 497 (by decide +kernel) (by decide +kernel)
abbrev F_X7_init : zF := (7, cX7_init, none, 3, [], true)
def T_X7_init : List (Nat × zI) := [(0, (4, 0, 0, 0, 1, [])), (1, (35, 0, 0, 0, 4, [])), (4, (4, 0, 0, 0, 5, [])), (5, (4, 1, 0, 0, 6, [])), (6, (19, 7, 0, 0, 9, [])), (9, (4, 0, 0, 0, 10, [])), (10, (4, 2, 0, 0, 11, [])), (11, (19, 7, 1, 0, 14, [])), (14, (29, 0, 0, 0, 15, []))]
set_option maxRecDepth 100000 in
theorem K_X7_init : ztbok F_X7_init T_X7_init := ztbB_ok (by decide +kernel)
set_option maxRecDepth 100000 in
theorem W_X7_init : zMth yX7_init (.code yX7_init cX7_init 3 (none)) 2 := ⟨z_at 133 (by decide +kernel) (by decide +kernel), z_at 4 (by decide +kernel) (by decide +kernel), ⟨by decide +kernel, by decide +kernel⟩, by decide +kernel⟩
set_option maxRecDepth 100000 in
theorem I_X7_init : Cond.instanceMethod yX7_init ∈ zws := z_at 132 (by decide +kernel) (by decide +kernel)
abbrev F_X7_read : zF := (7, cX7_read, some .int, 3, [], false)
def T_X7_read : List (Nat × zI) := [(0, (4, 0, 0, 0, 1, [])), (1, (2, 1, 0, 0, 2, [])), (2, (4, 0, 0, 0, 3, [])), (3, (18, 7, 0, 0, 6, [])), (6, (26, 0, 0, 0, 7, [])), (10, (19, 7, 2, 0, 13, [])), (13, (4, 0, 0, 0, 14, [])), (14, (0, 0, 0, 0, 15, [])), (15, (19, 7, 3, 0, 18, [])), (18, (4, 0, 0, 0, 19, [])), (19, (0, 0, 0, 0, 20, [])), (20, (19, 7, 7, 0, 23, [])), (23, (4, 0, 0, 0, 24, [])), (24, (0, 0, 0, (-1), 25, [])), (25, (19, 7, 8, 0, 28, [])), (28, (4, 0, 0, 0, 29, [])), (29, (18, 7, 1, 0, 32, [])), (35, (4, 0, 0, 0, 36, [])), (39, (0, 0, 0, 0, 40, [])), (40, (5, 2, 0, 0, 41, [])), (41, (2, 2, 0, 0, 42, [])), (42, (0, 0, 0, 700, 45, [])), (45, (16, 1, 48, 0, 72, [])), (48, (4, 0, 0, 0, 49, [])), (49, (18, 7, 4, 0, 52, [])), (52, (17, 0, 72, 0, 55, [])), (55, (4, 0, 0, 0, 56, [])), (56, (18, 7, 7, 0, 59, [])), (59, (17, 0, 62, 0, 72, [])), (62, (4, 0, 0, 0, 63, [])), (66, (8, 2, 0, 1, 69, [])), (69, (15, 0, 0, 0, 41, [])), (72, (4, 0, 0, 0, 73, [])), (73, (18, 7, 7, 0, 76, [])), (76, (27, 0, 0, 0, 77, []))]
set_option maxRecDepth 100000 in
theorem K_X7_read : ztbok F_X7_read T_X7_read := ztbB_ok (by decide +kernel)
set_option maxRecDepth 100000 in
theorem W_X7_read : zMth yX7_read (.code yX7_read cX7_read 3 (some .int)) 1 := ⟨z_at 616 (by decide +kernel) (by decide +kernel), z_at 4 (by decide +kernel) (by decide +kernel), ⟨by decide +kernel, by decide +kernel⟩, by decide +kernel⟩
set_option maxRecDepth 100000 in
theorem I_X7_read : Cond.instanceMethod yX7_read ∈ zws := z_at 614 (by decide +kernel) (by decide +kernel)
set_option maxRecDepth 100000 in
theorem S_X7_read : Cond.selects yX7_read.cls yX7_read yX7_read ∈ zws := z_at 615 (by decide +kernel) (by decide +kernel)
abbrev F_X7_readLine : zF := (7, cX7_readLine, none, 1, [], false)
def T_X7_readLine : List (Nat × zI) := [(0, (4, 0, 0, 0, 1, [])), (6, (17, 0, 16, 0, 9, [])), (9, (4, 0, 0, 0, 10, [])), (13, (15, 0, 0, 0, 86, [])), (16, (4, 0, 0, 0, 17, [])), (22, (17, 0, 32, 0, 25, [])), (25, (4, 0, 0, 0, 26, [])), (29, (15, 0, 0, 0, 86, [])), (32, (4, 0, 0, 0, 33, [])), (38, (17, 0, 48, 0, 41, [])), (41, (4, 0, 0, 0, 42, [])), (45, (15, 0, 0, 0, 86, [])), (48, (4, 0, 0, 0, 49, [])), (54, (17, 0, 64, 0, 57, [])), (57, (4, 0, 0, 0, 58, [])), (61, (15, 0, 0, 0, 86, [])), (64, (4, 0, 0, 0, 65, [])), (70, (17, 0, 80, 0, 73, [])), (73, (4, 0, 0, 0, 74, [])), (77, (15, 0, 0, 0, 86, [])), (80, (4, 0, 0, 0, 81, [])), (81, (0, 0, 0, 1, 82, [])), (85, (14, 0, 0, 0, 86, [])), (86, (4, 0, 0, 0, 87, [])), (87, (18, 7, 7, 0, 90, [])), (90, (17, 0, 93, 0, 107, [])), (93, (4, 0, 0, 0, 94, [])), (94, (18, 7, 4, 0, 97, [])), (97, (0, 0, 0, 3, 98, [])), (98, (16, 0, 107, 0, 101, [])), (101, (4, 0, 0, 0, 102, [])), (102, (0, 0, 0, 1, 103, [])), (106, (14, 0, 0, 0, 107, [])), (107, (4, 0, 0, 0, 108, [])), (111, (29, 0, 0, 0, 112, []))]
set_option maxRecDepth 100000 in
theorem K_X7_readLine : ztbok F_X7_readLine T_X7_readLine := ztbB_ok (by decide +kernel)
set_option maxRecDepth 100000 in
theorem W_X7_readLine : zMth yX7_readLine (.code yX7_readLine cX7_readLine 1 (none)) 0 := ⟨z_at 642 (by decide +kernel) (by decide +kernel), z_at 4 (by decide +kernel) (by decide +kernel), ⟨by decide +kernel, by decide +kernel⟩, by decide +kernel⟩
set_option maxRecDepth 100000 in
theorem I_X7_readLine : Cond.instanceMethod yX7_readLine ∈ zws := z_at 641 (by decide +kernel) (by decide +kernel)
set_option maxRecDepth 100000 in
theorem S_X7_readLine : Cond.selects yX7_readLine.cls yX7_readLine yX7_readLine ∈ zws := z_in (List.mem_append_left _ (List.mem_map.mpr ⟨_, List.mem_of_getElem? (i := 8) rfl, rfl⟩)) rfl
abbrev F_X7_readRoom : zF := (7, cX7_readRoom, none, 2, [], false)
def T_X7_readRoom : List (Nat × zI) := [(0, (4, 0, 0, 0, 1, [])), (1, (4, 0, 0, 0, 2, [])), (2, (18, 7, 1, 0, 5, [])), (5, (18, 6, 7, 0, 8, [])), (8, (0, 0, 0, 8, 10, [])), (13, (17, 0, 17, 0, 16, [])), (16, (29, 0, 0, 0, 17, [])), (17, (4, 0, 0, 0, 18, [])), (21, (4, 0, 0, 0, 22, [])), (22, (0, 0, 0, 0, 23, [])), (23, (0, 0, 0, 99, 25, [])), (28, (5, 1, 0, 0, 29, [])), (29, (2, 1, 0, 0, 30, [])), (30, (0, 0, 0, (-1), 31, [])), (31, (16, 0, 34, 0, 35, [])), (34, (29, 0, 0, 0, 35, [])), (35, (4, 0, 0, 0, 36, [])), (36, (18, 7, 1, 0, 39, [])), (39, (2, 1, 0, 0, 40, [])), (43, (4, 0, 0, 0, 44, [])), (47, (29, 0, 0, 0, 48, []))]
set_option maxRecDepth 100000 in
theorem K_X7_readRoom : ztbok F_X7_readRoom T_X7_readRoom := ztbB_ok (by decide +kernel)
set_option maxRecDepth 100000 in
theorem W_X7_readRoom : zMth yX7_readRoom (.code yX7_readRoom cX7_readRoom 2 (none)) 0 := ⟨z_at 699 (by decide +kernel) (by decide +kernel), z_at 4 (by decide +kernel) (by decide +kernel), ⟨by decide +kernel, by decide +kernel⟩, by decide +kernel⟩
set_option maxRecDepth 100000 in
theorem I_X7_readRoom : Cond.instanceMethod yX7_readRoom ∈ zws := z_at 698 (by decide +kernel) (by decide +kernel)
set_option maxRecDepth 100000 in
theorem S_X7_readRoom : Cond.selects yX7_readRoom.cls yX7_readRoom yX7_readRoom ∈ zws := z_in (List.mem_append_left _ (List.mem_map.mpr ⟨_, List.mem_of_getElem? (i := 10) rfl, rfl⟩)) rfl
abbrev F_X7_readLodger : zF := (7, cX7_readLodger, none, 2, [], false)
def T_X7_readLodger : List (Nat × zI) := [(0, (4, 0, 0, 0, 1, [])), (1, (4, 0, 0, 0, 2, [])), (2, (18, 7, 1, 0, 5, [])), (5, (18, 6, 8, 0, 8, [])), (8, (0, 0, 0, 6, 10, [])), (13, (17, 0, 17, 0, 16, [])), (16, (29, 0, 0, 0, 17, [])), (17, (4, 0, 0, 0, 18, [])), (21, (4, 0, 0, 0, 22, [])), (22, (4, 0, 0, 0, 23, [])), (23, (18, 7, 1, 0, 26, [])), (26, (18, 6, 7, 0, 29, [])), (32, (5, 1, 0, 0, 33, [])), (33, (2, 1, 0, 0, 34, [])), (34, (0, 0, 0, (-1), 35, [])), (35, (16, 0, 38, 0, 39, [])), (38, (29, 0, 0, 0, 39, [])), (39, (4, 0, 0, 0, 40, [])), (40, (18, 7, 1, 0, 43, [])), (43, (18, 6, 1, 0, 46, [])), (46, (2, 1, 0, 0, 47, [])), (47, (20, 0, 0, 0, 48, [])), (48, (0, 0, 0, (-1), 49, [])), (49, (16, 0, 59, 0, 52, [])), (52, (4, 0, 0, 0, 53, [])), (53, (0, 0, 0, 4, 54, [])), (57, (14, 0, 0, 0, 58, [])), (58, (29, 0, 0, 0, 59, [])), (59, (4, 0, 0, 0, 60, [])), (60, (18, 7, 1, 0, 63, [])), (63, (2, 1, 0, 0, 64, [])), (67, (4, 0, 0, 0, 68, [])), (71, (4, 0, 0, 0, 72, [])), (77, (17, 0, 105, 0, 80, [])), (80, (4, 0, 0, 0, 81, [])), (81, (18, 7, 1, 0, 84, [])), (84, (18, 6, 3, 0, 87, [])), (87, (4, 0, 0, 0, 88, [])), (88, (18, 7, 1, 0, 91, [])), (91, (18, 6, 8, 0, 94, [])), (94, (0, 0, 0, 1, 95, [])), (95, (9, 1, 0, 0, 96, [])), (96, (0, 0, 0, 1, 97, [])), (97, (21, 0, 0, 0, 98, [])), (98, (4, 0, 0, 0, 99, [])), (102, (15, 0, 0, 0, 136, [])), (105, (4, 0, 0, 0, 106, [])), (111, (17, 0, 136, 0, 114, [])), (114, (4, 0, 0, 0, 115, [])), (115, (18, 7, 1, 0, 118, [])), (118, (18, 6, 3, 0, 121, [])), (121, (4, 0, 0, 0, 122, [])), (122, (18, 7, 1, 0, 125, [])), (125, (18, 6, 8, 0, 128, [])), (128, (0, 0, 0, 1, 129, [])), (129, (9, 1, 0, 0, 130, [])), (130, (0, 0, 0, 2, 131, [])), (131, (21, 0, 0, 0, 132, [])), (132, (4, 0, 0, 0, 133, [])), (136, (29, 0, 0, 0, 137, []))]
set_option maxRecDepth 100000 in
theorem K_X7_readLodger : ztbok F_X7_readLodger T_X7_readLodger := ztbB_ok (by decide +kernel)
set_option maxRecDepth 100000 in
theorem W_X7_readLodger : zMth yX7_readLodger (.code yX7_readLodger cX7_readLodger 2 (none)) 0 := ⟨z_at 724 (by decide +kernel) (by decide +kernel), z_at 4 (by decide +kernel) (by decide +kernel), ⟨by decide +kernel, by decide +kernel⟩, by decide +kernel⟩
set_option maxRecDepth 100000 in
theorem I_X7_readLodger : Cond.instanceMethod yX7_readLodger ∈ zws := z_at 723 (by decide +kernel) (by decide +kernel)
set_option maxRecDepth 100000 in
theorem S_X7_readLodger : Cond.selects yX7_readLodger.cls yX7_readLodger yX7_readLodger ∈ zws := z_in (List.mem_append_left _ (List.mem_map.mpr ⟨_, List.mem_of_getElem? (i := 15) rfl, rfl⟩)) rfl
abbrev F_X7_readFinder : zF := (7, cX7_readFinder, none, 2, [], false)
def T_X7_readFinder : List (Nat × zI) := [(0, (4, 0, 0, 0, 1, [])), (1, (4, 0, 0, 0, 2, [])), (2, (18, 7, 1, 0, 5, [])), (5, (18, 6, 9, 0, 8, [])), (8, (0, 0, 0, 3, 9, [])), (12, (17, 0, 16, 0, 15, [])), (15, (29, 0, 0, 0, 16, [])), (16, (4, 0, 0, 0, 17, [])), (20, (4, 0, 0, 0, 21, [])), (21, (4, 0, 0, 0, 22, [])), (22, (18, 7, 1, 0, 25, [])), (25, (18, 6, 7, 0, 28, [])), (31, (5, 1, 0, 0, 32, [])), (32, (2, 1, 0, 0, 33, [])), (33, (0, 0, 0, (-1), 34, [])), (34, (16, 0, 37, 0, 38, [])), (37, (29, 0, 0, 0, 38, [])), (38, (4, 0, 0, 0, 39, [])), (39, (18, 7, 1, 0, 42, [])), (42, (2, 1, 0, 0, 43, [])), (46, (4, 0, 0, 0, 47, [])), (50, (29, 0, 0, 0, 51, []))]
set_option maxRecDepth 100000 in
theorem K_X7_readFinder : ztbok F_X7_readFinder T_X7_readFinder := ztbB_ok (by decide +kernel)
set_option maxRecDepth 100000 in
theorem W_X7_readFinder : zMth yX7_readFinder (.code yX7_readFinder cX7_readFinder 2 (none)) 0 := ⟨z_at 739 (by decide +kernel) (by decide +kernel), z_at 4 (by decide +kernel) (by decide +kernel), ⟨by decide +kernel, by decide +kernel⟩, by decide +kernel⟩
set_option maxRecDepth 100000 in
theorem I_X7_readFinder : Cond.instanceMethod yX7_readFinder ∈ zws := z_at 738 (by decide +kernel) (by decide +kernel)
set_option maxRecDepth 100000 in
theorem S_X7_readFinder : Cond.selects yX7_readFinder.cls yX7_readFinder yX7_readFinder ∈ zws := z_in (List.mem_append_left _ (List.mem_map.mpr ⟨_, List.mem_of_getElem? (i := 17) rfl, rfl⟩)) rfl
abbrev F_X7_readMay : zF := (7, cX7_readMay, none, 5, [], false)
def T_X7_readMay : List (Nat × zI) := [(0, (4, 0, 0, 0, 1, [])), (1, (4, 0, 0, 0, 2, [])), (2, (18, 7, 1, 0, 5, [])), (5, (18, 6, 10, 0, 8, [])), (8, (0, 0, 0, 40, 10, [])), (13, (17, 0, 17, 0, 16, [])), (16, (29, 0, 0, 0, 17, [])), (17, (4, 0, 0, 0, 18, [])), (21, (4, 0, 0, 0, 22, [])), (22, (4, 0, 0, 0, 23, [])), (23, (18, 7, 1, 0, 26, [])), (26, (18, 6, 8, 0, 29, [])), (32, (5, 1, 0, 0, 33, [])), (33, (2, 1, 0, 0, 34, [])), (34, (0, 0, 0, (-1), 35, [])), (35, (16, 0, 38, 0, 39, [])), (38, (29, 0, 0, 0, 39, [])), (39, (4, 0, 0, 0, 40, [])), (43, (4, 0, 0, 0, 44, [])), (44, (2, 1, 0, 0, 45, [])), (48, (5, 2, 0, 0, 49, [])), (49, (2, 2, 0, 0, 50, [])), (50, (0, 0, 0, (-1), 51, [])), (51, (16, 0, 54, 0, 55, [])), (54, (29, 0, 0, 0, 55, [])), (55, (4, 0, 0, 0, 56, [])), (59, (4, 0, 0, 0, 60, [])), (60, (0, 0, 0, 0, 61, [])), (61, (0, 0, 0, 23, 63, [])), (66, (5, 3, 0, 0, 67, [])), (67, (2, 3, 0, 0, 68, [])), (68, (0, 0, 0, (-1), 69, [])), (69, (16, 0, 72, 0, 73, [])), (72, (29, 0, 0, 0, 73, [])), (73, (4, 0, 0, 0, 74, [])), (77, (4, 0, 0, 0, 78, [])), (78, (2, 3, 0, 0, 79, [])), (79, (0, 0, 0, 23, 81, [])), (84, (5, 4, 0, 0, 86, [])), (86, (2, 4, 0, 0, 88, [])), (88, (0, 0, 0, (-1), 89, [])), (89, (16, 0, 92, 0, 93, [])), (92, (29, 0, 0, 0, 93, [])), (93, (4, 0, 0, 0, 94, [])), (94, (18, 7, 1, 0, 97, [])), (97, (2, 1, 0, 0, 98, [])), (98, (2, 2, 0, 0, 99, [])), (99, (2, 3, 0, 0, 100, [])), (100, (2, 4, 0, 0, 102, [])), (105, (4, 0, 0, 0, 106, [])), (109, (29, 0, 0, 0, 110, []))]
set_option maxRecDepth 100000 in
theorem K_X7_readMay : ztbok F_X7_readMay T_X7_readMay := ztbB_ok (by decide +kernel)
set_option maxRecDepth 100000 in
theorem W_X7_readMay : zMth yX7_readMay (.code yX7_readMay cX7_readMay 5 (none)) 0 := ⟨z_at 748 (by decide +kernel) (by decide +kernel), z_at 4 (by decide +kernel) (by decide +kernel), ⟨by decide +kernel, by decide +kernel⟩, by decide +kernel⟩
set_option maxRecDepth 100000 in
theorem I_X7_readMay : Cond.instanceMethod yX7_readMay ∈ zws := z_at 747 (by decide +kernel) (by decide +kernel)
set_option maxRecDepth 100000 in
theorem S_X7_readMay : Cond.selects yX7_readMay.cls yX7_readMay yX7_readMay ∈ zws := z_in (List.mem_append_left _ (List.mem_map.mpr ⟨_, List.mem_of_getElem? (i := 18) rfl, rfl⟩)) rfl
abbrev F_X7_readDoing : zF := (7, cX7_readDoing, some .int, 3, [], false)
def T_X7_readDoing : List (Nat × zI) := [(0, (4, 0, 0, 0, 1, [])), (6, (17, 0, 9, 0, 14, [])), (9, (4, 0, 0, 0, 10, [])), (13, (27, 0, 0, 0, 14, [])), (14, (4, 0, 0, 0, 15, [])), (18, (4, 0, 0, 0, 19, [])), (19, (4, 0, 0, 0, 20, [])), (20, (18, 7, 1, 0, 23, [])), (23, (18, 6, 7, 0, 26, [])), (29, (5, 2, 0, 0, 30, [])), (30, (2, 2, 0, 0, 31, [])), (31, (0, 0, 0, (-1), 32, [])), (32, (16, 0, 35, 0, 37, [])), (35, (0, 0, 0, (-1), 36, [])), (36, (27, 0, 0, 0, 37, [])), (37, (2, 2, 0, 0, 38, [])), (38, (4, 0, 0, 0, 39, [])), (39, (18, 7, 1, 0, 42, [])), (42, (18, 6, 2, 0, 45, [])), (45, (2, 1, 0, 0, 46, [])), (46, (20, 0, 0, 0, 47, [])), (47, (16, 0, 50, 0, 56, [])), (50, (4, 0, 0, 0, 51, [])), (51, (0, 0, 0, 4, 52, [])), (55, (27, 0, 0, 0, 56, [])), (56, (0, 0, 0, 10, 58, [])), (58, (2, 2, 0, 0, 59, [])), (59, (9, 0, 0, 0, 60, [])), (60, (27, 0, 0, 0, 61, []))]
set_option maxRecDepth 100000 in
theorem K_X7_readDoing : ztbok F_X7_readDoing T_X7_readDoing := ztbB_ok (by decide +kernel)
set_option maxRecDepth 100000 in
theorem W_X7_readDoing : zMth yX7_readDoing (.code yX7_readDoing cX7_readDoing 3 (some .int)) 1 := ⟨z_at 752 (by decide +kernel) (by decide +kernel), z_at 4 (by decide +kernel) (by decide +kernel), ⟨by decide +kernel, by decide +kernel⟩, by decide +kernel⟩
set_option maxRecDepth 100000 in
theorem I_X7_readDoing : Cond.instanceMethod yX7_readDoing ∈ zws := z_at 751 (by decide +kernel) (by decide +kernel)
set_option maxRecDepth 100000 in
theorem S_X7_readDoing : Cond.selects yX7_readDoing.cls yX7_readDoing yX7_readDoing ∈ zws := z_in (List.mem_append_left _ (List.mem_map.mpr ⟨_, List.mem_of_getElem? (i := 19) rfl, rfl⟩)) rfl
abbrev F_X7_readLaw : zF := (7, cX7_readLaw, none, 3, [], false)
def T_X7_readLaw : List (Nat × zI) := [(0, (4, 0, 0, 0, 1, [])), (4, (4, 0, 0, 0, 5, [])), (8, (5, 1, 0, 0, 9, [])), (9, (2, 1, 0, 0, 10, [])), (10, (0, 0, 0, (-1), 11, [])), (11, (16, 0, 14, 0, 15, [])), (14, (29, 0, 0, 0, 15, [])), (15, (4, 0, 0, 0, 16, [])), (16, (18, 7, 1, 0, 19, [])), (19, (18, 6, 11, 0, 22, [])), (22, (2, 1, 0, 0, 23, [])), (23, (9, 7, 0, 0, 24, [])), (24, (0, 0, 0, 1, 25, [])), (25, (9, 3, 0, 0, 26, [])), (26, (0, 0, 0, 1, 27, [])), (27, (16, 0, 30, 0, 37, [])), (30, (4, 0, 0, 0, 31, [])), (31, (0, 0, 0, 5, 32, [])), (35, (14, 0, 0, 0, 36, [])), (36, (29, 0, 0, 0, 37, [])), (37, (4, 0, 0, 0, 38, [])), (41, (4, 0, 0, 0, 42, [])), (45, (5, 2, 0, 0, 46, [])), (46, (2, 2, 0, 0, 47, [])), (47, (0, 0, 0, (-1), 48, [])), (48, (16, 0, 51, 0, 52, [])), (51, (29, 0, 0, 0, 52, [])), (52, (4, 0, 0, 0, 53, [])), (53, (18, 7, 1, 0, 56, [])), (56, (2, 1, 0, 0, 57, [])), (57, (2, 2, 0, 0, 58, [])), (61, (4, 0, 0, 0, 62, [])), (65, (29, 0, 0, 0, 66, []))]
set_option maxRecDepth 100000 in
theorem K_X7_readLaw : ztbok F_X7_readLaw T_X7_readLaw := ztbB_ok (by decide +kernel)
set_option maxRecDepth 100000 in
theorem W_X7_readLaw : zMth yX7_readLaw (.code yX7_readLaw cX7_readLaw 3 (none)) 0 := ⟨z_at 770 (by decide +kernel) (by decide +kernel), z_at 4 (by decide +kernel) (by decide +kernel), ⟨by decide +kernel, by decide +kernel⟩, by decide +kernel⟩
set_option maxRecDepth 100000 in
theorem I_X7_readLaw : Cond.instanceMethod yX7_readLaw ∈ zws := z_at 769 (by decide +kernel) (by decide +kernel)
set_option maxRecDepth 100000 in
theorem S_X7_readLaw : Cond.selects yX7_readLaw.cls yX7_readLaw yX7_readLaw ∈ zws := z_in (List.mem_append_left _ (List.mem_map.mpr ⟨_, List.mem_of_getElem? (i := 21) rfl, rfl⟩)) rfl
abbrev F_X7_ownDoing : zF := (7, cX7_ownDoing, some .int, 1, [], false)
def T_X7_ownDoing : List (Nat × zI) := [(0, (4, 0, 0, 0, 1, [])), (6, (17, 0, 11, 0, 9, [])), (9, (0, 0, 0, 0, 10, [])), (10, (27, 0, 0, 0, 11, [])), (11, (4, 0, 0, 0, 12, [])), (17, (17, 0, 22, 0, 20, [])), (20, (0, 0, 0, 1, 21, [])), (21, (27, 0, 0, 0, 22, [])), (22, (4, 0, 0, 0, 23, [])), (28, (17, 0, 33, 0, 31, [])), (31, (0, 0, 0, 2, 32, [])), (32, (27, 0, 0, 0, 33, [])), (33, (4, 0, 0, 0, 34, [])), (39, (17, 0, 44, 0, 42, [])), (42, (0, 0, 0, 3, 43, [])), (43, (27, 0, 0, 0, 44, [])), (44, (4, 0, 0, 0, 45, [])), (45, (0, 0, 0, 1, 46, [])), (49, (27, 0, 0, 0, 50, []))]
set_option maxRecDepth 100000 in
theorem K_X7_ownDoing : ztbok F_X7_ownDoing T_X7_ownDoing := ztbB_ok (by decide +kernel)
set_option maxRecDepth 100000 in
theorem W_X7_ownDoing : zMth yX7_ownDoing (.code yX7_ownDoing cX7_ownDoing 1 (some .int)) 0 := ⟨z_at 757 (by decide +kernel) (by decide +kernel), z_at 4 (by decide +kernel) (by decide +kernel), ⟨by decide +kernel, by decide +kernel⟩, by decide +kernel⟩
set_option maxRecDepth 100000 in
theorem I_X7_ownDoing : Cond.instanceMethod yX7_ownDoing ∈ zws := z_at 756 (by decide +kernel) (by decide +kernel)
set_option maxRecDepth 100000 in
theorem S_X7_ownDoing : Cond.selects yX7_ownDoing.cls yX7_ownDoing yX7_ownDoing ∈ zws := z_in (List.mem_append_left _ (List.mem_map.mpr ⟨_, List.mem_of_getElem? (i := 20) rfl, rfl⟩)) rfl
abbrev F_X7_signTold : zF := (7, cX7_signTold, some .int, 1, [], false)
def T_X7_signTold : List (Nat × zI) := [(0, (4, 0, 0, 0, 1, [])), (6, (17, 0, 11, 0, 9, [])), (9, (0, 0, 0, 0, 10, [])), (10, (27, 0, 0, 0, 11, [])), (11, (4, 0, 0, 0, 12, [])), (17, (17, 0, 22, 0, 20, [])), (20, (0, 0, 0, 1, 21, [])), (21, (27, 0, 0, 0, 22, [])), (22, (4, 0, 0, 0, 23, [])), (28, (17, 0, 33, 0, 31, [])), (31, (0, 0, 0, 2, 32, [])), (32, (27, 0, 0, 0, 33, [])), (33, (4, 0, 0, 0, 34, [])), (39, (17, 0, 44, 0, 42, [])), (42, (0, 0, 0, 3, 43, [])), (43, (27, 0, 0, 0, 44, [])), (44, (4, 0, 0, 0, 45, [])), (45, (0, 0, 0, 1, 46, [])), (49, (27, 0, 0, 0, 50, []))]
set_option maxRecDepth 100000 in
theorem K_X7_signTold : ztbok F_X7_signTold T_X7_signTold := ztbB_ok (by decide +kernel)
set_option maxRecDepth 100000 in
theorem W_X7_signTold : zMth yX7_signTold (.code yX7_signTold cX7_signTold 1 (some .int)) 0 := ⟨z_at 774 (by decide +kernel) (by decide +kernel), z_at 4 (by decide +kernel) (by decide +kernel), ⟨by decide +kernel, by decide +kernel⟩, by decide +kernel⟩
set_option maxRecDepth 100000 in
theorem I_X7_signTold : Cond.instanceMethod yX7_signTold ∈ zws := z_at 773 (by decide +kernel) (by decide +kernel)
set_option maxRecDepth 100000 in
theorem S_X7_signTold : Cond.selects yX7_signTold.cls yX7_signTold yX7_signTold ∈ zws := z_in (List.mem_append_left _ (List.mem_map.mpr ⟨_, List.mem_of_getElem? (i := 22) rfl, rfl⟩)) rfl
abbrev F_X7_isFull : zF := (7, cX7_isFull, some .boolean, 3, [], false)
def T_X7_isFull : List (Nat × zI) := [(0, (2, 1, 0, 0, 1, [])), (1, (2, 2, 0, 0, 2, [])), (2, (16, 1, 5, 0, 7, [])), (5, (0, 0, 0, 0, 6, [])), (6, (27, 0, 0, 0, 7, [])), (7, (4, 0, 0, 0, 8, [])), (8, (0, 0, 0, 2, 9, [])), (12, (14, 0, 0, 0, 13, [])), (13, (0, 0, 0, 1, 14, [])), (14, (27, 0, 0, 0, 15, []))]
set_option maxRecDepth 100000 in
theorem K_X7_isFull : ztbok F_X7_isFull T_X7_isFull := ztbB_ok (by decide +kernel)
set_option maxRecDepth 100000 in
theorem W_X7_isFull : zMth yX7_isFull (.code yX7_isFull cX7_isFull 3 (some .boolean)) 2 := ⟨z_at 703 (by decide +kernel) (by decide +kernel), z_at 4 (by decide +kernel) (by decide +kernel), ⟨by decide +kernel, by decide +kernel⟩, by decide +kernel⟩
set_option maxRecDepth 100000 in
theorem I_X7_isFull : Cond.instanceMethod yX7_isFull ∈ zws := z_at 702 (by decide +kernel) (by decide +kernel)
set_option maxRecDepth 100000 in
theorem S_X7_isFull : Cond.selects yX7_isFull.cls yX7_isFull yX7_isFull ∈ zws := z_in (List.mem_append_left _ (List.mem_map.mpr ⟨_, List.mem_of_getElem? (i := 11) rfl, rfl⟩)) rfl
abbrev F_X7_toldNumber : zF := (7, cX7_toldNumber, some .int, 3, [], false)
def T_X7_toldNumber : List (Nat × zI) := [(0, (4, 0, 0, 0, 1, [])), (4, (5, 2, 0, 0, 5, [])), (5, (2, 2, 0, 0, 6, [])), (6, (17, 0, 9, 0, 19, [])), (9, (4, 0, 0, 0, 10, [])), (10, (18, 7, 6, 0, 13, [])), (13, (2, 1, 0, 0, 14, [])), (14, (16, 1, 19, 0, 17, [])), (17, (0, 0, 0, 3, 18, [])), (18, (5, 2, 0, 0, 19, [])), (19, (2, 2, 0, 0, 20, [])), (20, (17, 0, 23, 0, 30, [])), (23, (4, 0, 0, 0, 24, [])), (24, (18, 7, 6, 0, 27, [])), (27, (15, 0, 0, 0, 35, [])), (30, (4, 0, 0, 0, 31, [])), (31, (2, 2, 0, 0, 32, [])), (35, (27, 0, 0, 0, 36, []))]
set_option maxRecDepth 100000 in
theorem K_X7_toldNumber : ztbok F_X7_toldNumber T_X7_toldNumber := ztbB_ok (by decide +kernel)
set_option maxRecDepth 100000 in
theorem W_X7_toldNumber : zMth yX7_toldNumber (.code yX7_toldNumber cX7_toldNumber 3 (some .int)) 1 := ⟨z_at 728 (by decide +kernel) (by decide +kernel), z_at 4 (by decide +kernel) (by decide +kernel), ⟨by decide +kernel, by decide +kernel⟩, by decide +kernel⟩
set_option maxRecDepth 100000 in
theorem I_X7_toldNumber : Cond.instanceMethod yX7_toldNumber ∈ zws := z_at 727 (by decide +kernel) (by decide +kernel)
set_option maxRecDepth 100000 in
theorem S_X7_toldNumber : Cond.selects yX7_toldNumber.cls yX7_toldNumber yX7_toldNumber ∈ zws := z_in (List.mem_append_left _ (List.mem_map.mpr ⟨_, List.mem_of_getElem? (i := 16) rfl, rfl⟩)) rfl
abbrev F_X7_numberWithin : zF := (7, cX7_numberWithin, some .int, 4, [], false)
def T_X7_numberWithin : List (Nat × zI) := [(0, (4, 0, 0, 0, 1, [])), (4, (5, 3, 0, 0, 5, [])), (5, (2, 3, 0, 0, 6, [])), (6, (17, 0, 9, 0, 27, [])), (9, (4, 0, 0, 0, 10, [])), (10, (18, 7, 6, 0, 13, [])), (13, (2, 1, 0, 0, 14, [])), (14, (16, 1, 25, 0, 17, [])), (17, (4, 0, 0, 0, 18, [])), (18, (18, 7, 6, 0, 21, [])), (21, (2, 2, 0, 0, 22, [])), (22, (16, 2, 25, 0, 27, [])), (25, (0, 0, 0, 2, 26, [])), (26, (5, 3, 0, 0, 27, [])), (27, (2, 3, 0, 0, 28, [])), (28, (17, 0, 31, 0, 38, [])), (31, (4, 0, 0, 0, 32, [])), (32, (18, 7, 6, 0, 35, [])), (35, (15, 0, 0, 0, 43, [])), (38, (4, 0, 0, 0, 39, [])), (39, (2, 3, 0, 0, 40, [])), (43, (27, 0, 0, 0, 44, []))]
set_option maxRecDepth 100000 in
theorem K_X7_numberWithin : ztbok F_X7_numberWithin T_X7_numberWithin := ztbB_ok (by decide +kernel)
set_option maxRecDepth 100000 in
theorem W_X7_numberWithin : zMth yX7_numberWithin (.code yX7_numberWithin cX7_numberWithin 4 (some .int)) 2 := ⟨z_at 711 (by decide +kernel) (by decide +kernel), z_at 4 (by decide +kernel) (by decide +kernel), ⟨by decide +kernel, by decide +kernel⟩, by decide +kernel⟩
set_option maxRecDepth 100000 in
theorem I_X7_numberWithin : Cond.instanceMethod yX7_numberWithin ∈ zws := z_at 710 (by decide +kernel) (by decide +kernel)
set_option maxRecDepth 100000 in
theorem S_X7_numberWithin : Cond.selects yX7_numberWithin.cls yX7_numberWithin yX7_numberWithin ∈ zws := z_in (List.mem_append_left _ (List.mem_map.mpr ⟨_, List.mem_of_getElem? (i := 13) rfl, rfl⟩)) rfl
abbrev F_X7_faultOfNumber : zF := (7, cX7_faultOfNumber, some .int, 1, [], false)
def T_X7_faultOfNumber : List (Nat × zI) := [(0, (4, 0, 0, 0, 1, [])), (1, (18, 7, 4, 0, 4, [])), (4, (0, 0, 0, 2, 5, [])), (5, (16, 0, 10, 0, 8, [])), (8, (0, 0, 0, 1, 9, [])), (9, (27, 0, 0, 0, 10, [])), (10, (4, 0, 0, 0, 11, [])), (11, (18, 7, 3, 0, 14, [])), (14, (4, 0, 0, 0, 15, [])), (15, (18, 7, 5, 0, 18, [])), (18, (9, 1, 0, 0, 19, [])), (19, (0, 0, 0, 3, 20, [])), (20, (16, 2, 23, 0, 27, [])), (23, (0, 0, 0, 2, 24, [])), (24, (15, 0, 0, 0, 28, [])), (27, (0, 0, 0, 0, 28, [])), (28, (27, 0, 0, 0, 29, []))]
set_option maxRecDepth 100000 in
theorem K_X7_faultOfNumber : ztbok F_X7_faultOfNumber T_X7_faultOfNumber := ztbB_ok (by decide +kernel)
set_option maxRecDepth 100000 in
theorem W_X7_faultOfNumber : zMth yX7_faultOfNumber (.code yX7_faultOfNumber cX7_faultOfNumber 1 (some .int)) 0 := ⟨z_at 715 (by decide +kernel) (by decide +kernel), z_at 4 (by decide +kernel) (by decide +kernel), ⟨by decide +kernel, by decide +kernel⟩, by decide +kernel⟩
set_option maxRecDepth 100000 in
theorem I_X7_faultOfNumber : Cond.instanceMethod yX7_faultOfNumber ∈ zws := z_at 714 (by decide +kernel) (by decide +kernel)
set_option maxRecDepth 100000 in
theorem S_X7_faultOfNumber : Cond.selects yX7_faultOfNumber.cls yX7_faultOfNumber yX7_faultOfNumber ∈ zws := z_in (List.mem_append_left _ (List.mem_map.mpr ⟨_, List.mem_of_getElem? (i := 14) rfl, rfl⟩)) rfl
abbrev F_X7_refuse : zF := (7, cX7_refuse, some .int, 2, [], false)
def T_X7_refuse : List (Nat × zI) := [(0, (4, 0, 0, 0, 1, [])), (1, (18, 7, 7, 0, 4, [])), (4, (17, 0, 7, 0, 20, [])), (7, (4, 0, 0, 0, 8, [])), (8, (2, 1, 0, 0, 9, [])), (9, (19, 7, 7, 0, 12, [])), (12, (4, 0, 0, 0, 13, [])), (13, (4, 0, 0, 0, 14, [])), (14, (18, 7, 5, 0, 17, [])), (17, (19, 7, 8, 0, 20, [])), (20, (0, 0, 0, (-1), 21, [])), (21, (27, 0, 0, 0, 22, []))]
set_option maxRecDepth 100000 in
theorem K_X7_refuse : ztbok F_X7_refuse T_X7_refuse := ztbB_ok (by decide +kernel)
set_option maxRecDepth 100000 in
theorem W_X7_refuse : zMth yX7_refuse (.code yX7_refuse cX7_refuse 2 (some .int)) 1 := ⟨z_at 707 (by decide +kernel) (by decide +kernel), z_at 4 (by decide +kernel) (by decide +kernel), ⟨by decide +kernel, by decide +kernel⟩, by decide +kernel⟩
set_option maxRecDepth 100000 in
theorem I_X7_refuse : Cond.instanceMethod yX7_refuse ∈ zws := z_at 706 (by decide +kernel) (by decide +kernel)
set_option maxRecDepth 100000 in
theorem S_X7_refuse : Cond.selects yX7_refuse.cls yX7_refuse yX7_refuse ∈ zws := z_in (List.mem_append_left _ (List.mem_map.mpr ⟨_, List.mem_of_getElem? (i := 12) rfl, rfl⟩)) rfl
abbrev F_X7_isWord : zF := (7, cX7_isWord, some .boolean, 3, [], false)
def T_X7_isWord : List (Nat × zI) := [(0, (4, 0, 0, 0, 1, [])), (1, (18, 7, 4, 0, 4, [])), (4, (0, 0, 0, 1, 5, [])), (5, (16, 0, 8, 0, 24, [])), (8, (4, 0, 0, 0, 9, [])), (9, (18, 7, 3, 0, 12, [])), (12, (4, 0, 0, 0, 13, [])), (13, (18, 7, 5, 0, 16, [])), (16, (9, 1, 0, 0, 17, [])), (17, (4, 1, 0, 0, 18, [])), (21, (16, 0, 26, 0, 24, [])), (24, (0, 0, 0, 0, 25, [])), (25, (27, 0, 0, 0, 26, [])), (26, (0, 0, 0, 0, 27, [])), (27, (5, 2, 0, 0, 28, [])), (28, (2, 2, 0, 0, 29, [])), (29, (4, 1, 0, 0, 30, [])), (33, (16, 1, 36, 0, 63, [])), (36, (4, 0, 0, 0, 37, [])), (37, (18, 7, 0, 0, 40, [])), (40, (4, 0, 0, 0, 41, [])), (41, (18, 7, 5, 0, 44, [])), (44, (2, 2, 0, 0, 45, [])), (45, (9, 0, 0, 0, 46, [])), (46, (22, 0, 0, 0, 47, [])), (47, (4, 1, 0, 0, 48, [])), (48, (2, 2, 0, 0, 49, [])), (52, (16, 0, 57, 0, 55, [])), (55, (0, 0, 0, 0, 56, [])), (56, (27, 0, 0, 0, 57, [])), (57, (8, 2, 0, 1, 60, [])), (60, (15, 0, 0, 0, 28, [])), (63, (0, 0, 0, 1, 64, [])), (64, (27, 0, 0, 0, 65, []))]
set_option maxRecDepth 100000 in
theorem K_X7_isWord : ztbok F_X7_isWord T_X7_isWord := ztbB_ok (by decide +kernel)
set_option maxRecDepth 100000 in
theorem W_X7_isWord : zMth yX7_isWord (.code yX7_isWord cX7_isWord 3 (some .boolean)) 1 := ⟨z_at 647 (by decide +kernel) (by decide +kernel), z_at 4 (by decide +kernel) (by decide +kernel), ⟨by decide +kernel, by decide +kernel⟩, by decide +kernel⟩
set_option maxRecDepth 100000 in
theorem I_X7_isWord : Cond.instanceMethod yX7_isWord ∈ zws := z_at 646 (by decide +kernel) (by decide +kernel)
set_option maxRecDepth 100000 in
theorem S_X7_isWord : Cond.selects yX7_isWord.cls yX7_isWord yX7_isWord ∈ zws := z_in (List.mem_append_left _ (List.mem_map.mpr ⟨_, List.mem_of_getElem? (i := 9) rfl, rfl⟩)) rfl
abbrev F_X7_advance : zF := (7, cX7_advance, none, 2, [], false)
def T_X7_advance : List (Nat × zI) := [(0, (4, 0, 0, 0, 1, [])), (1, (18, 7, 3, 0, 4, [])), (4, (4, 0, 0, 0, 5, [])), (5, (18, 7, 2, 0, 8, [])), (8, (16, 1, 11, 0, 52, [])), (11, (4, 0, 0, 0, 12, [])), (12, (18, 7, 0, 0, 15, [])), (15, (4, 0, 0, 0, 16, [])), (16, (18, 7, 3, 0, 19, [])), (19, (22, 0, 0, 0, 20, [])), (20, (0, 0, 0, 32, 22, [])), (22, (16, 0, 39, 0, 25, [])), (25, (4, 0, 0, 0, 26, [])), (26, (18, 7, 0, 0, 29, [])), (29, (4, 0, 0, 0, 30, [])), (30, (18, 7, 3, 0, 33, [])), (33, (22, 0, 0, 0, 34, [])), (34, (0, 0, 0, 10, 36, [])), (36, (16, 0, 39, 0, 52, [])), (39, (4, 0, 0, 0, 40, [])), (40, (12, 0, 0, 0, 41, [])), (41, (18, 7, 3, 0, 44, [])), (44, (0, 0, 0, 1, 45, [])), (45, (9, 0, 0, 0, 46, [])), (46, (19, 7, 3, 0, 49, [])), (49, (15, 0, 0, 0, 0, [])), (52, (4, 0, 0, 0, 53, [])), (53, (4, 0, 0, 0, 54, [])), (54, (18, 7, 3, 0, 57, [])), (57, (19, 7, 5, 0, 60, [])), (60, (4, 0, 0, 0, 61, [])), (61, (18, 7, 3, 0, 64, [])), (64, (4, 0, 0, 0, 65, [])), (65, (18, 7, 2, 0, 68, [])), (68, (16, 1, 85, 0, 71, [])), (71, (4, 0, 0, 0, 72, [])), (72, (0, 0, 0, 0, 73, [])), (73, (19, 7, 4, 0, 76, [])), (76, (4, 0, 0, 0, 77, [])), (77, (4, 0, 0, 0, 78, [])), (78, (18, 7, 2, 0, 81, [])), (81, (19, 7, 5, 0, 84, [])), (84, (29, 0, 0, 0, 85, [])), (85, (4, 0, 0, 0, 86, [])), (86, (18, 7, 0, 0, 89, [])), (89, (4, 0, 0, 0, 90, [])), (90, (18, 7, 3, 0, 93, [])), (93, (22, 0, 0, 0, 94, [])), (94, (5, 1, 0, 0, 95, [])), (95, (4, 0, 0, 0, 96, [])), (96, (12, 0, 0, 0, 97, [])), (97, (18, 7, 3, 0, 100, [])), (100, (0, 0, 0, 1, 101, [])), (101, (9, 0, 0, 0, 102, [])), (102, (19, 7, 3, 0, 105, [])), (105, (2, 1, 0, 0, 106, [])), (106, (0, 0, 0, 97, 108, [])), (108, (16, 1, 133, 0, 111, [])), (111, (2, 1, 0, 0, 112, [])), (112, (0, 0, 0, 122, 114, [])), (114, (16, 2, 133, 0, 117, [])), (117, (4, 0, 0, 0, 118, [])), (118, (0, 0, 0, 1, 119, [])), (119, (19, 7, 4, 0, 122, [])), (122, (4, 0, 0, 0, 123, [])), (123, (0, 0, 0, 97, 125, [])), (125, (0, 0, 0, 122, 127, [])), (130, (15, 0, 0, 0, 184, [])), (133, (2, 1, 0, 0, 134, [])), (134, (0, 0, 0, 48, 136, [])), (136, (16, 1, 169, 0, 139, [])), (139, (2, 1, 0, 0, 140, [])), (140, (0, 0, 0, 57, 142, [])), (142, (16, 2, 169, 0, 145, [])), (145, (4, 0, 0, 0, 146, [])), (146, (0, 0, 0, 2, 147, [])), (147, (19, 7, 4, 0, 150, [])), (150, (4, 0, 0, 0, 151, [])), (151, (0, 0, 0, 48, 153, [])), (153, (0, 0, 0, 57, 155, [])), (158, (4, 0, 0, 0, 159, [])), (159, (4, 0, 0, 0, 160, [])), (163, (19, 7, 6, 0, 166, [])), (166, (15, 0, 0, 0, 184, [])), (169, (4, 0, 0, 0, 170, [])), (170, (2, 1, 0, 0, 171, [])), (171, (0, 0, 0, 59, 173, [])), (173, (16, 0, 176, 0, 180, [])), (176, (0, 0, 0, 3, 177, [])), (177, (15, 0, 0, 0, 181, [])), (180, (0, 0, 0, 4, 181, [])), (181, (19, 7, 4, 0, 184, [])), (184, (29, 0, 0, 0, 185, []))]
set_option maxRecDepth 100000 in
theorem K_X7_advance : ztbok F_X7_advance T_X7_advance := ztbB_ok (by decide +kernel)
set_option maxRecDepth 100000 in
theorem W_X7_advance : zMth yX7_advance (.code yX7_advance cX7_advance 2 (none)) 0 := ⟨z_at 630 (by decide +kernel) (by decide +kernel), z_at 4 (by decide +kernel) (by decide +kernel), ⟨by decide +kernel, by decide +kernel⟩, by decide +kernel⟩
set_option maxRecDepth 100000 in
theorem I_X7_advance : Cond.instanceMethod yX7_advance ∈ zws := z_at 629 (by decide +kernel) (by decide +kernel)
set_option maxRecDepth 100000 in
theorem S_X7_advance : Cond.selects yX7_advance.cls yX7_advance yX7_advance ∈ zws := z_in (List.mem_append_left _ (List.mem_map.mpr ⟨_, List.mem_of_getElem? (i := 5) rfl, rfl⟩)) rfl
abbrev F_X7_valueHere : zF := (7, cX7_valueHere, some .int, 3, [], false)
def T_X7_valueHere : List (Nat × zI) := [(0, (0, 0, 0, 0, 1, [])), (1, (5, 1, 0, 0, 2, [])), (2, (4, 0, 0, 0, 3, [])), (3, (18, 7, 5, 0, 6, [])), (6, (5, 2, 0, 0, 7, [])), (7, (2, 2, 0, 0, 8, [])), (8, (4, 0, 0, 0, 9, [])), (9, (18, 7, 3, 0, 12, [])), (12, (16, 1, 15, 0, 46, [])), (15, (2, 2, 0, 0, 16, [])), (16, (4, 0, 0, 0, 17, [])), (17, (18, 7, 5, 0, 20, [])), (20, (0, 0, 0, 3, 21, [])), (21, (9, 0, 0, 0, 22, [])), (22, (16, 1, 25, 0, 46, [])), (25, (2, 1, 0, 0, 26, [])), (26, (0, 0, 0, 10, 28, [])), (28, (9, 2, 0, 0, 29, [])), (29, (4, 0, 0, 0, 30, [])), (30, (18, 7, 0, 0, 33, [])), (33, (2, 2, 0, 0, 34, [])), (34, (22, 0, 0, 0, 35, [])), (35, (0, 0, 0, 48, 37, [])), (37, (9, 1, 0, 0, 38, [])), (38, (9, 0, 0, 0, 39, [])), (39, (5, 1, 0, 0, 40, [])), (40, (8, 2, 0, 1, 43, [])), (43, (15, 0, 0, 0, 7, [])), (46, (2, 1, 0, 0, 47, [])), (47, (27, 0, 0, 0, 48, []))]
set_option maxRecDepth 100000 in
theorem K_X7_valueHere : ztbok F_X7_valueHere T_X7_valueHere := ztbB_ok (by decide +kernel)
set_option maxRecDepth 100000 in
theorem W_X7_valueHere : zMth yX7_valueHere (.code yX7_valueHere cX7_valueHere 3 (some .int)) 0 := ⟨z_at 638 (by decide +kernel) (by decide +kernel), z_at 4 (by decide +kernel) (by decide +kernel), ⟨by decide +kernel, by decide +kernel⟩, by decide +kernel⟩
set_option maxRecDepth 100000 in
theorem I_X7_valueHere : Cond.instanceMethod yX7_valueHere ∈ zws := z_at 637 (by decide +kernel) (by decide +kernel)
set_option maxRecDepth 100000 in
theorem S_X7_valueHere : Cond.selects yX7_valueHere.cls yX7_valueHere yX7_valueHere ∈ zws := z_in (List.mem_append_left _ (List.mem_map.mpr ⟨_, List.mem_of_getElem? (i := 7) rfl, rfl⟩)) rfl
abbrev F_X7_takeRow : zF := (7, cX7_takeRow, none, 3, [], false)
def T_X7_takeRow : List (Nat × zI) := [(0, (4, 0, 0, 0, 1, [])), (1, (18, 7, 3, 0, 4, [])), (4, (4, 0, 0, 0, 5, [])), (5, (18, 7, 2, 0, 8, [])), (8, (16, 1, 11, 0, 50, [])), (11, (4, 0, 0, 0, 12, [])), (12, (18, 7, 0, 0, 15, [])), (15, (4, 0, 0, 0, 16, [])), (16, (18, 7, 3, 0, 19, [])), (19, (22, 0, 0, 0, 20, [])), (20, (2, 1, 0, 0, 21, [])), (21, (16, 1, 50, 0, 24, [])), (24, (4, 0, 0, 0, 25, [])), (25, (18, 7, 0, 0, 28, [])), (28, (4, 0, 0, 0, 29, [])), (29, (18, 7, 3, 0, 32, [])), (32, (22, 0, 0, 0, 33, [])), (33, (2, 2, 0, 0, 34, [])), (34, (16, 2, 50, 0, 37, [])), (37, (4, 0, 0, 0, 38, [])), (38, (12, 0, 0, 0, 39, [])), (39, (18, 7, 3, 0, 42, [])), (42, (0, 0, 0, 1, 43, [])), (43, (9, 0, 0, 0, 44, [])), (44, (19, 7, 3, 0, 47, [])), (47, (15, 0, 0, 0, 0, [])), (50, (29, 0, 0, 0, 51, []))]
set_option maxRecDepth 100000 in
theorem K_X7_takeRow : ztbok F_X7_takeRow T_X7_takeRow := ztbB_ok (by decide +kernel)
set_option maxRecDepth 100000 in
theorem W_X7_takeRow : zMth yX7_takeRow (.code yX7_takeRow cX7_takeRow 3 (none)) 2 := ⟨z_at 634 (by decide +kernel) (by decide +kernel), z_at 4 (by decide +kernel) (by decide +kernel), ⟨by decide +kernel, by decide +kernel⟩, by decide +kernel⟩
set_option maxRecDepth 100000 in
theorem I_X7_takeRow : Cond.instanceMethod yX7_takeRow ∈ zws := z_at 633 (by decide +kernel) (by decide +kernel)
set_option maxRecDepth 100000 in
theorem S_X7_takeRow : Cond.selects yX7_takeRow.cls yX7_takeRow yX7_takeRow ∈ zws := z_in (List.mem_append_left _ (List.mem_map.mpr ⟨_, List.mem_of_getElem? (i := 6) rfl, rfl⟩)) rfl
abbrev F_X8_init : zF := (8, cX8_init, none, 1, [], true)
def T_X8_init : List (Nat × zI) := [(0, (4, 0, 0, 0, 1, [])), (1, (35, 0, 0, 0, 4, [])), (4, (4, 0, 0, 0, 5, [])), (5, (0, 0, 0, 40, 7, [])), (7, (31, 1, 0, 0, 9, [])), (9, (19, 8, 0, 0, 12, [])), (12, (29, 0, 0, 0, 13, []))]
set_option maxRecDepth 100000 in
theorem K_X8_init : ztbok F_X8_init T_X8_init := ztbB_ok (by decide +kernel)
set_option maxRecDepth 100000 in
theorem W_X8_init : zMth yX8_init (.code yX8_init cX8_init 1 (none)) 0 := ⟨z_at 365 (by decide +kernel) (by decide +kernel), z_at 12 (by decide +kernel) (by decide +kernel), ⟨by decide +kernel, by decide +kernel⟩, by decide +kernel⟩
set_option maxRecDepth 100000 in
theorem I_X8_init : Cond.instanceMethod yX8_init ∈ zws := z_at 364 (by decide +kernel) (by decide +kernel)
abbrev F_X8_lay : zF := (8, cX8_lay, none, 3, [], false)
def T_X8_lay : List (Nat × zI) := [(0, (4, 0, 0, 0, 1, [])), (1, (18, 8, 2, 0, 4, [])), (4, (2, 1, 0, 0, 5, [])), (5, (16, 0, 8, 0, 9, [])), (8, (29, 0, 0, 0, 9, [])), (9, (4, 0, 0, 0, 10, [])), (10, (2, 1, 0, 0, 11, [])), (11, (19, 8, 2, 0, 14, [])), (14, (4, 0, 0, 0, 15, [])), (15, (0, 0, 0, 0, 16, [])), (16, (19, 8, 1, 0, 19, [])), (19, (0, 0, 0, 0, 20, [])), (20, (5, 2, 0, 0, 21, [])), (21, (2, 2, 0, 0, 22, [])), (22, (0, 0, 0, 256, 25, [])), (25, (16, 1, 28, 0, 71, [])), (28, (4, 0, 0, 0, 29, [])), (29, (18, 8, 1, 0, 32, [])), (32, (0, 0, 0, 40, 34, [])), (34, (16, 1, 37, 0, 71, [])), (37, (4, 0, 0, 0, 38, [])), (38, (2, 2, 0, 0, 39, [])), (42, (17, 0, 65, 0, 45, [])), (45, (4, 0, 0, 0, 46, [])), (46, (18, 8, 0, 0, 49, [])), (49, (4, 0, 0, 0, 50, [])), (50, (18, 8, 1, 0, 53, [])), (53, (2, 2, 0, 0, 54, [])), (54, (21, 0, 0, 0, 55, [])), (55, (4, 0, 0, 0, 56, [])), (56, (12, 0, 0, 0, 57, [])), (57, (18, 8, 1, 0, 60, [])), (60, (0, 0, 0, 1, 61, [])), (61, (9, 0, 0, 0, 62, [])), (62, (19, 8, 1, 0, 65, [])), (65, (8, 2, 0, 1, 68, [])), (68, (15, 0, 0, 0, 21, [])), (71, (29, 0, 0, 0, 72, []))]
set_option maxRecDepth 100000 in
theorem K_X8_lay : ztbok F_X8_lay T_X8_lay := ztbB_ok (by decide +kernel)
set_option maxRecDepth 100000 in
theorem W_X8_lay : zMth yX8_lay (.code yX8_lay cX8_lay 3 (none)) 1 := ⟨z_at 1193 (by decide +kernel) (by decide +kernel), z_at 12 (by decide +kernel) (by decide +kernel), ⟨by decide +kernel, by decide +kernel⟩, by decide +kernel⟩
set_option maxRecDepth 100000 in
theorem I_X8_lay : Cond.instanceMethod yX8_lay ∈ zws := z_at 1191 (by decide +kernel) (by decide +kernel)
set_option maxRecDepth 100000 in
theorem S_X8_lay : Cond.selects yX8_lay.cls yX8_lay yX8_lay ∈ zws := z_at 1192 (by decide +kernel) (by decide +kernel)
abbrev F_X8_isApart : zF := (8, cX8_isApart, some .boolean, 3, [], false)
def T_X8_isApart : List (Nat × zI) := [(0, (0, 0, 0, 0, 1, [])), (1, (5, 2, 0, 0, 2, [])), (2, (2, 2, 0, 0, 3, [])), (3, (4, 0, 0, 0, 4, [])), (4, (18, 8, 1, 0, 7, [])), (7, (16, 1, 10, 0, 36, [])), (10, (2, 1, 0, 0, 11, [])), (11, (4, 0, 0, 0, 12, [])), (12, (18, 8, 0, 0, 15, [])), (15, (2, 2, 0, 0, 16, [])), (16, (20, 0, 0, 0, 17, [])), (17, (9, 5, 0, 0, 18, [])), (21, (4, 0, 0, 0, 22, [])), (22, (18, 8, 2, 0, 25, [])), (25, (16, 1, 28, 0, 30, [])), (28, (0, 0, 0, 0, 29, [])), (29, (27, 0, 0, 0, 30, [])), (30, (8, 2, 0, 1, 33, [])), (33, (15, 0, 0, 0, 2, [])), (36, (0, 0, 0, 1, 37, [])), (37, (27, 0, 0, 0, 38, []))]
set_option maxRecDepth 100000 in
theorem K_X8_isApart : ztbok F_X8_isApart T_X8_isApart := ztbB_ok (by decide +kernel)
set_option maxRecDepth 100000 in
theorem W_X8_isApart : zMth yX8_isApart (.code yX8_isApart cX8_isApart 3 (some .boolean)) 1 := ⟨z_at 1197 (by decide +kernel) (by decide +kernel), z_at 12 (by decide +kernel) (by decide +kernel), ⟨by decide +kernel, by decide +kernel⟩, by decide +kernel⟩
set_option maxRecDepth 100000 in
theorem I_X8_isApart : Cond.instanceMethod yX8_isApart ∈ zws := z_at 1196 (by decide +kernel) (by decide +kernel)
set_option maxRecDepth 100000 in
theorem S_X8_isApart : Cond.selects yX8_isApart.cls yX8_isApart yX8_isApart ∈ zws := z_in (List.mem_append_left _ (List.mem_map.mpr ⟨_, List.mem_of_getElem? (i := 46) rfl, rfl⟩)) rfl
abbrev F_X8_kindsFor : zF := (8, cX8_kindsFor, some .int, 3, [], false)
def T_X8_kindsFor : List (Nat × zI) := [(0, (0, 0, 0, 0, 1, [])), (1, (5, 2, 0, 0, 2, [])), (2, (2, 2, 0, 0, 3, [])), (3, (0, 0, 0, 8, 5, [])), (5, (16, 2, 38, 0, 8, [])), (8, (2, 1, 0, 0, 9, [])), (9, (4, 0, 0, 0, 10, [])), (10, (18, 8, 1, 0, 13, [])), (13, (16, 2, 38, 0, 16, [])), (16, (4, 0, 0, 0, 17, [])), (17, (18, 8, 0, 0, 20, [])), (20, (2, 1, 0, 0, 21, [])), (21, (0, 0, 0, 1, 22, [])), (22, (9, 1, 0, 0, 23, [])), (23, (20, 0, 0, 0, 24, [])), (24, (0, 0, 0, 1, 25, [])), (25, (2, 2, 0, 0, 26, [])), (26, (9, 6, 0, 0, 27, [])), (27, (16, 1, 30, 0, 32, [])), (30, (2, 2, 0, 0, 31, [])), (31, (27, 0, 0, 0, 32, [])), (32, (8, 2, 0, 1, 35, [])), (35, (15, 0, 0, 0, 2, [])), (38, (0, 0, 0, (-1), 39, [])), (39, (27, 0, 0, 0, 40, []))]
set_option maxRecDepth 100000 in
theorem K_X8_kindsFor : ztbok F_X8_kindsFor T_X8_kindsFor := ztbB_ok (by decide +kernel)
set_option maxRecDepth 100000 in
theorem W_X8_kindsFor : zMth yX8_kindsFor (.code yX8_kindsFor cX8_kindsFor 3 (some .int)) 1 := ⟨z_at 1202 (by decide +kernel) (by decide +kernel), z_at 12 (by decide +kernel) (by decide +kernel), ⟨by decide +kernel, by decide +kernel⟩, by decide +kernel⟩
set_option maxRecDepth 100000 in
theorem I_X8_kindsFor : Cond.instanceMethod yX8_kindsFor ∈ zws := z_at 1200 (by decide +kernel) (by decide +kernel)
set_option maxRecDepth 100000 in
theorem S_X8_kindsFor : Cond.selects yX8_kindsFor.cls yX8_kindsFor yX8_kindsFor ∈ zws := z_at 1201 (by decide +kernel) (by decide +kernel)
abbrev F_X8_mended : zF := (8, cX8_mended, some .int, 5, [], false)
def T_X8_mended : List (Nat × zI) := [(0, (4, 0, 0, 0, 1, [])), (1, (18, 8, 2, 0, 4, [])), (4, (0, 0, 0, 1, 5, [])), (5, (9, 1, 0, 0, 6, [])), (6, (0, 0, 0, 2, 7, [])), (7, (9, 9, 0, 0, 8, [])), (8, (5, 3, 0, 0, 9, [])), (9, (0, 0, 0, 0, 10, [])), (10, (5, 4, 0, 0, 12, [])), (12, (2, 4, 0, 0, 14, [])), (14, (2, 2, 0, 0, 15, [])), (15, (16, 1, 18, 0, 52, [])), (18, (2, 4, 0, 0, 20, [])), (20, (4, 0, 0, 0, 21, [])), (21, (18, 8, 1, 0, 24, [])), (24, (16, 1, 27, 0, 52, [])), (27, (2, 1, 0, 0, 28, [])), (28, (4, 0, 0, 0, 29, [])), (29, (18, 8, 0, 0, 32, [])), (32, (2, 4, 0, 0, 34, [])), (34, (20, 0, 0, 0, 35, [])), (35, (9, 5, 0, 0, 36, [])), (39, (2, 3, 0, 0, 40, [])), (40, (16, 2, 46, 0, 43, [])), (43, (2, 4, 0, 0, 45, [])), (45, (27, 0, 0, 0, 46, [])), (46, (8, 4, 0, 1, 49, [])), (49, (15, 0, 0, 0, 12, [])), (52, (0, 0, 0, (-1), 53, [])), (53, (27, 0, 0, 0, 54, []))]
set_option maxRecDepth 100000 in
theorem K_X8_mended : ztbok F_X8_mended T_X8_mended := ztbB_ok (by decide +kernel)
set_option maxRecDepth 100000 in
theorem W_X8_mended : zMth yX8_mended (.code yX8_mended cX8_mended 5 (some .int)) 2 := ⟨z_at 1222 (by decide +kernel) (by decide +kernel), z_at 12 (by decide +kernel) (by decide +kernel), ⟨by decide +kernel, by decide +kernel⟩, by decide +kernel⟩
set_option maxRecDepth 100000 in
theorem I_X8_mended : Cond.instanceMethod yX8_mended ∈ zws := z_at 1220 (by decide +kernel) (by decide +kernel)
set_option maxRecDepth 100000 in
theorem S_X8_mended : Cond.selects yX8_mended.cls yX8_mended yX8_mended ∈ zws := z_at 1221 (by decide +kernel) (by decide +kernel)
abbrev F_X9_init : zF := (9, cX9_init, none, 1, [], true)
def T_X9_init : List (Nat × zI) := [(0, (4, 0, 0, 0, 1, [])), (1, (35, 0, 0, 0, 4, [])), (4, (4, 0, 0, 0, 5, [])), (5, (0, 0, 0, 700, 8, [])), (8, (31, 2, 0, 0, 10, [])), (10, (19, 9, 0, 0, 13, [])), (13, (29, 0, 0, 0, 14, []))]
set_option maxRecDepth 100000 in
theorem K_X9_init : ztbok F_X9_init T_X9_init := ztbB_ok (by decide +kernel)
set_option maxRecDepth 100000 in
theorem W_X9_init : zMth yX9_init (.code yX9_init cX9_init 1 (none)) 0 := ⟨z_at 39 (by decide +kernel) (by decide +kernel), z_at 2 (by decide +kernel) (by decide +kernel), ⟨by decide +kernel, by decide +kernel⟩, by decide +kernel⟩
set_option maxRecDepth 100000 in
theorem I_X9_init : Cond.instanceMethod yX9_init ∈ zws := z_at 38 (by decide +kernel) (by decide +kernel)
abbrev F_X9_hasRoomFor : zF := (9, cX9_hasRoomFor, some .boolean, 2, [], false)
def T_X9_hasRoomFor : List (Nat × zI) := [(0, (4, 0, 0, 0, 1, [])), (1, (18, 9, 1, 0, 4, [])), (4, (2, 1, 0, 0, 5, [])), (5, (9, 0, 0, 0, 6, [])), (6, (0, 0, 0, 700, 9, [])), (9, (16, 2, 16, 0, 12, [])), (12, (0, 0, 0, 1, 13, [])), (13, (15, 0, 0, 0, 17, [])), (16, (0, 0, 0, 0, 17, [])), (17, (27, 0, 0, 0, 18, []))]
set_option maxRecDepth 100000 in
theorem K_X9_hasRoomFor : ztbok F_X9_hasRoomFor T_X9_hasRoomFor := ztbB_ok (by decide +kernel)
set_option maxRecDepth 100000 in
theorem W_X9_hasRoomFor : zMth yX9_hasRoomFor (.code yX9_hasRoomFor cX9_hasRoomFor 2 (some .boolean)) 1 := ⟨z_at 435 (by decide +kernel) (by decide +kernel), z_at 2 (by decide +kernel) (by decide +kernel), ⟨by decide +kernel, by decide +kernel⟩, by decide +kernel⟩
set_option maxRecDepth 100000 in
theorem I_X9_hasRoomFor : Cond.instanceMethod yX9_hasRoomFor ∈ zws := z_at 433 (by decide +kernel) (by decide +kernel)
set_option maxRecDepth 100000 in
theorem S_X9_hasRoomFor : Cond.selects yX9_hasRoomFor.cls yX9_hasRoomFor yX9_hasRoomFor ∈ zws := z_at 434 (by decide +kernel) (by decide +kernel)
abbrev F_X9_append : zF := (9, cX9_append, none, 3, [], false)
def T_X9_append : List (Nat × zI) := [(0, (0, 0, 0, 24, 2, [])), (2, (5, 2, 0, 0, 3, [])), (3, (2, 2, 0, 0, 4, [])), (4, (17, 1, 46, 0, 7, [])), (7, (4, 0, 0, 0, 8, [])), (8, (18, 9, 1, 0, 11, [])), (11, (0, 0, 0, 700, 14, [])), (14, (16, 1, 17, 0, 46, [])), (17, (4, 0, 0, 0, 18, [])), (18, (18, 9, 0, 0, 21, [])), (21, (4, 0, 0, 0, 22, [])), (22, (18, 9, 1, 0, 25, [])), (25, (2, 1, 0, 0, 26, [])), (26, (2, 2, 0, 0, 27, [])), (27, (9, 7, 0, 0, 28, [])), (28, (10, 1, 0, 0, 29, [])), (29, (23, 0, 0, 0, 30, [])), (30, (4, 0, 0, 0, 31, [])), (31, (12, 0, 0, 0, 32, [])), (32, (18, 9, 1, 0, 35, [])), (35, (0, 0, 0, 1, 36, [])), (36, (9, 0, 0, 0, 37, [])), (37, (19, 9, 1, 0, 40, [])), (40, (8, 2, 0, (-8), 43, [])), (43, (15, 0, 0, 0, 3, [])), (46, (29, 0, 0, 0, 47, []))]
set_option maxRecDepth 100000 in
theorem K_X9_append : ztbok F_X9_append T_X9_append := ztbB_ok (by decide +kernel)
set_option maxRecDepth 100000 in
theorem W_X9_append : zMth yX9_append (.code yX9_append cX9_append 3 (none)) 1 := ⟨z_at 439 (by decide +kernel) (by decide +kernel), z_at 2 (by decide +kernel) (by decide +kernel), ⟨by decide +kernel, by decide +kernel⟩, by decide +kernel⟩
set_option maxRecDepth 100000 in
theorem I_X9_append : Cond.instanceMethod yX9_append ∈ zws := z_at 437 (by decide +kernel) (by decide +kernel)
set_option maxRecDepth 100000 in
theorem S_X9_append : Cond.selects yX9_append.cls yX9_append yX9_append ∈ zws := z_at 438 (by decide +kernel) (by decide +kernel)
abbrev F_X10_init : zF := (10, cX10_init, none, 3, [], true)
def T_X10_init : List (Nat × zI) := [(0, (4, 0, 0, 0, 1, [])), (1, (35, 0, 0, 0, 4, [])), (4, (4, 0, 0, 0, 5, [])), (5, (0, 0, 0, 48, 7, [])), (7, (31, 1, 0, 0, 9, [])), (9, (19, 10, 2, 0, 12, [])), (12, (4, 0, 0, 0, 13, [])), (13, (0, 0, 0, 6, 15, [])), (15, (31, 1, 0, 0, 17, [])), (17, (19, 10, 3, 0, 20, [])), (20, (4, 0, 0, 0, 21, [])), (21, (0, 0, 0, 6, 23, [])), (23, (31, 1, 0, 0, 25, [])), (25, (19, 10, 4, 0, 28, [])), (28, (4, 0, 0, 0, 29, [])), (29, (0, 0, 0, 6, 31, [])), (31, (31, 1, 0, 0, 33, [])), (33, (19, 10, 5, 0, 36, [])), (36, (4, 0, 0, 0, 37, [])), (37, (4, 1, 0, 0, 38, [])), (38, (19, 10, 0, 0, 41, [])), (41, (4, 0, 0, 0, 42, [])), (42, (4, 2, 0, 0, 43, [])), (43, (19, 10, 1, 0, 46, [])), (46, (29, 0, 0, 0, 47, []))]
set_option maxRecDepth 100000 in
theorem K_X10_init : ztbok F_X10_init T_X10_init := ztbB_ok (by decide +kernel)
set_option maxRecDepth 100000 in
theorem W_X10_init : zMth yX10_init (.code yX10_init cX10_init 3 (none)) 2 := ⟨z_at 269 (by decide +kernel) (by decide +kernel), z_at 9 (by decide +kernel) (by decide +kernel), ⟨by decide +kernel, by decide +kernel⟩, by decide +kernel⟩
set_option maxRecDepth 100000 in
theorem I_X10_init : Cond.instanceMethod yX10_init ∈ zws := z_at 268 (by decide +kernel) (by decide +kernel)
abbrev F_X10_keepBest : zF := (10, cX10_keepBest, some .int, 8, [], false)
def T_X10_keepBest : List (Nat × zI) := [(0, (4, 0, 0, 0, 1, [])), (1, (2, 2, 0, 0, 2, [])), (2, (2, 3, 0, 0, 3, [])), (6, (0, 0, 0, 1, 7, [])), (7, (5, 4, 0, 0, 9, [])), (9, (0, 0, 0, 1, 10, [])), (10, (5, 5, 0, 0, 12, [])), (12, (2, 5, 0, 0, 14, [])), (14, (2, 3, 0, 0, 15, [])), (15, (16, 1, 18, 0, 30, [])), (18, (2, 4, 0, 0, 20, [])), (20, (0, 0, 0, 3, 21, [])), (21, (9, 2, 0, 0, 22, [])), (22, (5, 4, 0, 0, 24, [])), (24, (8, 5, 0, 1, 27, [])), (27, (15, 0, 0, 0, 12, [])), (30, (0, 0, 0, (-1), 31, [])), (31, (5, 5, 0, 0, 33, [])), (33, (0, 0, 0, 0, 34, [])), (34, (5, 6, 0, 0, 36, [])), (36, (2, 6, 0, 0, 38, [])), (38, (2, 4, 0, 0, 40, [])), (40, (16, 1, 43, 0, 83, [])), (43, (4, 0, 0, 0, 44, [])), (44, (2, 6, 0, 0, 46, [])), (46, (2, 1, 0, 0, 47, [])), (47, (2, 3, 0, 0, 48, [])), (51, (17, 0, 77, 0, 54, [])), (54, (4, 0, 0, 0, 55, [])), (55, (2, 3, 0, 0, 56, [])), (59, (5, 7, 0, 0, 61, [])), (61, (2, 7, 0, 0, 63, [])), (63, (2, 5, 0, 0, 65, [])), (65, (16, 2, 68, 0, 77, [])), (68, (2, 7, 0, 0, 70, [])), (70, (5, 5, 0, 0, 72, [])), (72, (4, 0, 0, 0, 73, [])), (73, (2, 3, 0, 0, 74, [])), (77, (8, 6, 0, 1, 80, [])), (80, (15, 0, 0, 0, 36, [])), (83, (2, 5, 0, 0, 85, [])), (85, (27, 0, 0, 0, 86, []))]
set_option maxRecDepth 100000 in
theorem K_X10_keepBest : ztbok F_X10_keepBest T_X10_keepBest := ztbB_ok (by decide +kernel)
set_option maxRecDepth 100000 in
theorem W_X10_keepBest : zMth yX10_keepBest (.code yX10_keepBest cX10_keepBest 8 (some .int)) 3 := ⟨z_at 1055 (by decide +kernel) (by decide +kernel), z_at 9 (by decide +kernel) (by decide +kernel), ⟨by decide +kernel, by decide +kernel⟩, by decide +kernel⟩
set_option maxRecDepth 100000 in
theorem I_X10_keepBest : Cond.instanceMethod yX10_keepBest ∈ zws := z_at 1053 (by decide +kernel) (by decide +kernel)
set_option maxRecDepth 100000 in
theorem S_X10_keepBest : Cond.selects yX10_keepBest.cls yX10_keepBest yX10_keepBest ∈ zws := z_at 1054 (by decide +kernel) (by decide +kernel)
abbrev F_X10_weigh : zF := (10, cX10_weigh, none, 5, [], false)
def T_X10_weigh : List (Nat × zI) := [(0, (0, 0, 0, 0, 1, [])), (1, (5, 3, 0, 0, 2, [])), (2, (2, 3, 0, 0, 3, [])), (3, (2, 2, 0, 0, 4, [])), (4, (16, 1, 7, 0, 58, [])), (7, (0, 0, 0, 0, 8, [])), (8, (5, 4, 0, 0, 10, [])), (10, (2, 4, 0, 0, 12, [])), (12, (4, 0, 0, 0, 13, [])), (13, (18, 10, 0, 0, 16, [])), (16, (18, 6, 7, 0, 19, [])), (19, (16, 1, 22, 0, 52, [])), (22, (4, 0, 0, 0, 23, [])), (23, (18, 10, 2, 0, 26, [])), (26, (2, 3, 0, 0, 27, [])), (27, (0, 0, 0, 8, 29, [])), (29, (9, 2, 0, 0, 30, [])), (30, (2, 4, 0, 0, 32, [])), (32, (9, 0, 0, 0, 33, [])), (33, (4, 0, 0, 0, 34, [])), (34, (18, 10, 1, 0, 37, [])), (37, (2, 4, 0, 0, 39, [])), (39, (2, 1, 0, 0, 40, [])), (40, (2, 3, 0, 0, 41, [])), (41, (9, 0, 0, 0, 42, [])), (45, (21, 0, 0, 0, 46, [])), (46, (8, 4, 0, 1, 49, [])), (49, (15, 0, 0, 0, 10, [])), (52, (8, 3, 0, 1, 55, [])), (55, (15, 0, 0, 0, 2, [])), (58, (29, 0, 0, 0, 59, []))]
set_option maxRecDepth 100000 in
theorem K_X10_weigh : ztbok F_X10_weigh T_X10_weigh := ztbB_ok (by decide +kernel)
set_option maxRecDepth 100000 in
theorem W_X10_weigh : zMth yX10_weigh (.code yX10_weigh cX10_weigh 5 (none)) 2 := ⟨z_at 1059 (by decide +kernel) (by decide +kernel), z_at 9 (by decide +kernel) (by decide +kernel), ⟨by decide +kernel, by decide +kernel⟩, by decide +kernel⟩
set_option maxRecDepth 100000 in
theorem I_X10_weigh : Cond.instanceMethod yX10_weigh ∈ zws := z_at 1058 (by decide +kernel) (by decide +kernel)
set_option maxRecDepth 100000 in
theorem S_X10_weigh : Cond.selects yX10_weigh.cls yX10_weigh yX10_weigh ∈ zws := z_in (List.mem_append_left _ (List.mem_map.mpr ⟨_, List.mem_of_getElem? (i := 30) rfl, rfl⟩)) rfl
abbrev F_X10_layRow : zF := (10, cX10_layRow, some .boolean, 6, [], false)
def T_X10_layRow : List (Nat × zI) := [(0, (2, 1, 0, 0, 1, [])), (1, (5, 4, 0, 0, 3, [])), (3, (2, 3, 0, 0, 4, [])), (4, (0, 0, 0, 1, 5, [])), (5, (9, 1, 0, 0, 6, [])), (6, (5, 5, 0, 0, 8, [])), (8, (2, 5, 0, 0, 10, [])), (10, (17, 2, 13, 0, 38, [])), (13, (4, 0, 0, 0, 14, [])), (14, (18, 10, 3, 0, 17, [])), (17, (2, 5, 0, 0, 19, [])), (19, (2, 4, 0, 0, 21, [])), (21, (0, 0, 0, 3, 22, [])), (22, (9, 10, 0, 0, 23, [])), (23, (0, 0, 0, 1, 24, [])), (24, (9, 1, 0, 0, 25, [])), (25, (21, 0, 0, 0, 26, [])), (26, (2, 4, 0, 0, 28, [])), (28, (0, 0, 0, 3, 29, [])), (29, (9, 9, 0, 0, 30, [])), (30, (5, 4, 0, 0, 32, [])), (32, (8, 5, 0, (-1), 35, [])), (35, (15, 0, 0, 0, 8, [])), (38, (4, 0, 0, 0, 39, [])), (39, (18, 10, 3, 0, 42, [])), (42, (0, 0, 0, 0, 43, [])), (43, (2, 2, 0, 0, 44, [])), (44, (21, 0, 0, 0, 45, [])), (45, (0, 0, 0, 1, 46, [])), (46, (5, 5, 0, 0, 48, [])), (48, (2, 5, 0, 0, 50, [])), (50, (2, 3, 0, 0, 51, [])), (51, (16, 1, 54, 0, 108, [])), (54, (4, 0, 0, 0, 55, [])), (55, (18, 10, 3, 0, 58, [])), (58, (2, 5, 0, 0, 60, [])), (60, (13, 0, 0, 0, 61, [])), (61, (20, 0, 0, 0, 62, [])), (62, (4, 0, 0, 0, 63, [])), (63, (18, 10, 3, 0, 66, [])), (66, (2, 5, 0, 0, 68, [])), (68, (0, 0, 0, 1, 69, [])), (69, (9, 1, 0, 0, 70, [])), (70, (20, 0, 0, 0, 71, [])), (71, (9, 0, 0, 0, 72, [])), (72, (21, 0, 0, 0, 73, [])), (73, (4, 0, 0, 0, 74, [])), (74, (18, 10, 3, 0, 77, [])), (77, (2, 5, 0, 0, 79, [])), (79, (20, 0, 0, 0, 80, [])), (80, (17, 1, 100, 0, 83, [])), (83, (4, 0, 0, 0, 84, [])), (84, (18, 10, 3, 0, 87, [])), (87, (2, 5, 0, 0, 89, [])), (89, (20, 0, 0, 0, 90, [])), (90, (4, 0, 0, 0, 91, [])), (91, (18, 10, 0, 0, 94, [])), (94, (18, 6, 7, 0, 97, [])), (97, (16, 1, 102, 0, 100, [])), (100, (0, 0, 0, 0, 101, [])), (101, (27, 0, 0, 0, 102, [])), (102, (8, 5, 0, 1, 105, [])), (105, (15, 0, 0, 0, 48, [])), (108, (0, 0, 0, 1, 109, [])), (109, (27, 0, 0, 0, 110, []))]
set_option maxRecDepth 100000 in
theorem K_X10_layRow : ztbok F_X10_layRow T_X10_layRow := ztbB_ok (by decide +kernel)
set_option maxRecDepth 100000 in
theorem W_X10_layRow : zMth yX10_layRow (.code yX10_layRow cX10_layRow 6 (some .boolean)) 3 := ⟨z_at 1068 (by decide +kernel) (by decide +kernel), z_at 9 (by decide +kernel) (by decide +kernel), ⟨by decide +kernel, by decide +kernel⟩, by decide +kernel⟩
set_option maxRecDepth 100000 in
theorem I_X10_layRow : Cond.instanceMethod yX10_layRow ∈ zws := z_at 1067 (by decide +kernel) (by decide +kernel)
set_option maxRecDepth 100000 in
theorem S_X10_layRow : Cond.selects yX10_layRow.cls yX10_layRow yX10_layRow ∈ zws := z_in (List.mem_append_left _ (List.mem_map.mpr ⟨_, List.mem_of_getElem? (i := 31) rfl, rfl⟩)) rfl
abbrev F_X10_worthOfRow : zF := (10, cX10_worthOfRow, some .int, 4, [], false)
def T_X10_worthOfRow : List (Nat × zI) := [(0, (0, 0, 0, 0, 1, [])), (1, (5, 2, 0, 0, 2, [])), (2, (0, 0, 0, 0, 3, [])), (3, (5, 3, 0, 0, 4, [])), (4, (2, 3, 0, 0, 5, [])), (5, (2, 1, 0, 0, 6, [])), (6, (16, 1, 9, 0, 32, [])), (9, (4, 0, 0, 0, 10, [])), (10, (2, 3, 0, 0, 11, [])), (11, (2, 1, 0, 0, 12, [])), (15, (17, 0, 26, 0, 18, [])), (18, (2, 2, 0, 0, 19, [])), (19, (4, 0, 0, 0, 20, [])), (20, (2, 3, 0, 0, 21, [])), (24, (9, 0, 0, 0, 25, [])), (25, (5, 2, 0, 0, 26, [])), (26, (8, 3, 0, 1, 29, [])), (29, (15, 0, 0, 0, 4, [])), (32, (2, 2, 0, 0, 33, [])), (33, (27, 0, 0, 0, 34, []))]
set_option maxRecDepth 100000 in
theorem K_X10_worthOfRow : ztbok F_X10_worthOfRow T_X10_worthOfRow := ztbB_ok (by decide +kernel)
set_option maxRecDepth 100000 in
theorem W_X10_worthOfRow : zMth yX10_worthOfRow (.code yX10_worthOfRow cX10_worthOfRow 4 (some .int)) 1 := ⟨z_at 1072 (by decide +kernel) (by decide +kernel), z_at 9 (by decide +kernel) (by decide +kernel), ⟨by decide +kernel, by decide +kernel⟩, by decide +kernel⟩
set_option maxRecDepth 100000 in
theorem I_X10_worthOfRow : Cond.instanceMethod yX10_worthOfRow ∈ zws := z_at 1071 (by decide +kernel) (by decide +kernel)
set_option maxRecDepth 100000 in
theorem S_X10_worthOfRow : Cond.selects yX10_worthOfRow.cls yX10_worthOfRow yX10_worthOfRow ∈ zws := z_in (List.mem_append_left _ (List.mem_map.mpr ⟨_, List.mem_of_getElem? (i := 32) rfl, rfl⟩)) rfl
abbrev F_X10_isLook : zF := (10, cX10_isLook, some .boolean, 6, [], false)
def T_X10_isLook : List (Nat × zI) := [(0, (4, 0, 0, 0, 1, [])), (1, (2, 1, 0, 0, 2, [])), (5, (5, 3, 0, 0, 6, [])), (6, (2, 3, 0, 0, 7, [])), (7, (17, 0, 10, 0, 12, [])), (10, (0, 0, 0, 0, 11, [])), (11, (27, 0, 0, 0, 12, [])), (12, (0, 0, 0, 0, 13, [])), (13, (5, 4, 0, 0, 15, [])), (15, (2, 4, 0, 0, 17, [])), (17, (2, 2, 0, 0, 18, [])), (18, (16, 1, 21, 0, 77, [])), (21, (2, 4, 0, 0, 23, [])), (23, (2, 1, 0, 0, 24, [])), (24, (16, 0, 71, 0, 27, [])), (27, (4, 0, 0, 0, 28, [])), (28, (18, 10, 3, 0, 31, [])), (31, (2, 4, 0, 0, 33, [])), (33, (20, 0, 0, 0, 34, [])), (34, (4, 0, 0, 0, 35, [])), (35, (18, 10, 3, 0, 38, [])), (38, (2, 1, 0, 0, 39, [])), (39, (20, 0, 0, 0, 40, [])), (40, (16, 0, 43, 0, 71, [])), (43, (4, 0, 0, 0, 44, [])), (44, (2, 4, 0, 0, 46, [])), (49, (5, 5, 0, 0, 51, [])), (51, (2, 5, 0, 0, 53, [])), (53, (2, 3, 0, 0, 54, [])), (54, (16, 2, 69, 0, 57, [])), (57, (2, 5, 0, 0, 59, [])), (59, (2, 3, 0, 0, 60, [])), (60, (16, 0, 63, 0, 71, [])), (63, (2, 4, 0, 0, 65, [])), (65, (2, 1, 0, 0, 66, [])), (66, (16, 1, 69, 0, 71, [])), (69, (0, 0, 0, 0, 70, [])), (70, (27, 0, 0, 0, 71, [])), (71, (8, 4, 0, 1, 74, [])), (74, (15, 0, 0, 0, 15, [])), (77, (0, 0, 0, 1, 78, [])), (78, (27, 0, 0, 0, 79, []))]
set_option maxRecDepth 100000 in
theorem K_X10_isLook : ztbok F_X10_isLook T_X10_isLook := ztbB_ok (by decide +kernel)
set_option maxRecDepth 100000 in
theorem W_X10_isLook : zMth yX10_isLook (.code yX10_isLook cX10_isLook 6 (some .boolean)) 2 := ⟨z_at 1076 (by decide +kernel) (by decide +kernel), z_at 9 (by decide +kernel) (by decide +kernel), ⟨by decide +kernel, by decide +kernel⟩, by decide +kernel⟩
set_option maxRecDepth 100000 in
theorem I_X10_isLook : Cond.instanceMethod yX10_isLook ∈ zws := z_at 1075 (by decide +kernel) (by decide +kernel)
set_option maxRecDepth 100000 in
theorem S_X10_isLook : Cond.selects yX10_isLook.cls yX10_isLook yX10_isLook ∈ zws := z_in (List.mem_append_left _ (List.mem_map.mpr ⟨_, List.mem_of_getElem? (i := 33) rfl, rfl⟩)) rfl
abbrev F_X10_worthAt : zF := (10, cX10_worthAt, some .int, 2, [], false)
def T_X10_worthAt : List (Nat × zI) := [(0, (4, 0, 0, 0, 1, [])), (1, (18, 10, 2, 0, 4, [])), (4, (2, 1, 0, 0, 5, [])), (5, (0, 0, 0, 8, 7, [])), (7, (9, 2, 0, 0, 8, [])), (8, (4, 0, 0, 0, 9, [])), (9, (18, 10, 3, 0, 12, [])), (12, (2, 1, 0, 0, 13, [])), (13, (20, 0, 0, 0, 14, [])), (14, (9, 0, 0, 0, 15, [])), (15, (20, 0, 0, 0, 16, [])), (16, (27, 0, 0, 0, 17, []))]
set_option maxRecDepth 100000 in
theorem K_X10_worthAt : ztbok F_X10_worthAt T_X10_worthAt := ztbB_ok (by decide +kernel)
set_option maxRecDepth 100000 in
theorem W_X10_worthAt : zMth yX10_worthAt (.code yX10_worthAt cX10_worthAt 2 (some .int)) 1 := ⟨z_at 1080 (by decide +kernel) (by decide +kernel), z_at 9 (by decide +kernel) (by decide +kernel), ⟨by decide +kernel, by decide +kernel⟩, by decide +kernel⟩
set_option maxRecDepth 100000 in
theorem I_X10_worthAt : Cond.instanceMethod yX10_worthAt ∈ zws := z_at 1079 (by decide +kernel) (by decide +kernel)
set_option maxRecDepth 100000 in
theorem S_X10_worthAt : Cond.selects yX10_worthAt.cls yX10_worthAt yX10_worthAt ∈ zws := z_in (List.mem_append_left _ (List.mem_map.mpr ⟨_, List.mem_of_getElem? (i := 34) rfl, rfl⟩)) rfl
abbrev F_X10_keepRow : zF := (10, cX10_keepRow, none, 3, [], false)
def T_X10_keepRow : List (Nat × zI) := [(0, (0, 0, 0, 0, 1, [])), (1, (5, 2, 0, 0, 2, [])), (2, (2, 2, 0, 0, 3, [])), (3, (2, 1, 0, 0, 4, [])), (4, (16, 1, 7, 0, 45, [])), (7, (4, 0, 0, 0, 8, [])), (8, (18, 10, 4, 0, 11, [])), (11, (2, 2, 0, 0, 12, [])), (12, (4, 0, 0, 0, 13, [])), (13, (18, 10, 3, 0, 16, [])), (16, (2, 2, 0, 0, 17, [])), (17, (20, 0, 0, 0, 18, [])), (18, (21, 0, 0, 0, 19, [])), (19, (4, 0, 0, 0, 20, [])), (20, (18, 10, 5, 0, 23, [])), (23, (2, 2, 0, 0, 24, [])), (24, (4, 0, 0, 0, 25, [])), (25, (2, 2, 0, 0, 26, [])), (26, (2, 1, 0, 0, 27, [])), (30, (17, 0, 37, 0, 33, [])), (33, (0, 0, 0, 1, 34, [])), (34, (15, 0, 0, 0, 38, [])), (37, (0, 0, 0, 0, 38, [])), (38, (21, 0, 0, 0, 39, [])), (39, (8, 2, 0, 1, 42, [])), (42, (15, 0, 0, 0, 2, [])), (45, (4, 0, 0, 0, 46, [])), (46, (2, 1, 0, 0, 47, [])), (47, (19, 10, 6, 0, 50, [])), (50, (29, 0, 0, 0, 51, []))]
set_option maxRecDepth 100000 in
theorem K_X10_keepRow : ztbok F_X10_keepRow T_X10_keepRow := ztbB_ok (by decide +kernel)
set_option maxRecDepth 100000 in
theorem W_X10_keepRow : zMth yX10_keepRow (.code yX10_keepRow cX10_keepRow 3 (none)) 1 := ⟨z_at 1084 (by decide +kernel) (by decide +kernel), z_at 9 (by decide +kernel) (by decide +kernel), ⟨by decide +kernel, by decide +kernel⟩, by decide +kernel⟩
set_option maxRecDepth 100000 in
theorem I_X10_keepRow : Cond.instanceMethod yX10_keepRow ∈ zws := z_at 1083 (by decide +kernel) (by decide +kernel)
set_option maxRecDepth 100000 in
theorem S_X10_keepRow : Cond.selects yX10_keepRow.cls yX10_keepRow yX10_keepRow ∈ zws := z_in (List.mem_append_left _ (List.mem_map.mpr ⟨_, List.mem_of_getElem? (i := 35) rfl, rfl⟩)) rfl
abbrev F_X11_init : zF := (11, cX11_init, none, 1, [], true)
def T_X11_init : List (Nat × zI) := [(0, (4, 0, 0, 0, 1, [])), (1, (35, 0, 0, 0, 4, [])), (4, (4, 0, 0, 0, 5, [])), (5, (30, 9, 2, 0, 8, [])), (8, (12, 0, 0, 0, 9, [])), (12, (19, 11, 0, 0, 15, [])), (15, (4, 0, 0, 0, 16, [])), (16, (30, 6, 12, 0, 19, [])), (19, (12, 0, 0, 0, 20, [])), (23, (19, 11, 1, 0, 26, [])), (26, (4, 0, 0, 0, 27, [])), (27, (30, 6, 12, 0, 30, [])), (30, (12, 0, 0, 0, 31, [])), (34, (19, 11, 2, 0, 37, [])), (37, (4, 0, 0, 0, 38, [])), (38, (30, 7, 9, 0, 41, [])), (41, (12, 0, 0, 0, 42, [])), (42, (4, 0, 0, 0, 43, [])), (43, (18, 11, 0, 0, 46, [])), (46, (18, 9, 0, 0, 49, [])), (49, (4, 0, 0, 0, 50, [])), (50, (18, 11, 2, 0, 53, [])), (56, (19, 11, 3, 0, 59, [])), (59, (4, 0, 0, 0, 60, [])), (60, (30, 0, 10, 0, 63, [])), (63, (12, 0, 0, 0, 64, [])), (67, (19, 11, 4, 0, 70, [])), (70, (4, 0, 0, 0, 71, [])), (71, (30, 0, 10, 0, 74, [])), (74, (12, 0, 0, 0, 75, [])), (78, (19, 11, 5, 0, 81, [])), (81, (4, 0, 0, 0, 82, [])), (82, (30, 3, 2, 0, 85, [])), (85, (12, 0, 0, 0, 86, [])), (86, (4, 0, 0, 0, 87, [])), (87, (18, 11, 1, 0, 90, [])), (90, (4, 0, 0, 0, 91, [])), (91, (18, 11, 4, 0, 94, [])), (97, (19, 11, 6, 0, 100, [])), (100, (4, 0, 0, 0, 101, [])), (101, (30, 1, 5, 0, 104, [])), (104, (12, 0, 0, 0, 105, [])), (105, (4, 0, 0, 0, 106, [])), (106, (18, 11, 1, 0, 109, [])), (109, (4, 0, 0, 0, 110, [])), (110, (18, 11, 4, 0, 113, [])), (113, (4, 0, 0, 0, 114, [])), (114, (18, 11, 6, 0, 117, [])), (120, (19, 11, 7, 0, 123, [])), (123, (4, 0, 0, 0, 124, [])), (124, (30, 2, 5, 0, 127, [])), (127, (12, 0, 0, 0, 128, [])), (128, (4, 0, 0, 0, 129, [])), (129, (18, 11, 1, 0, 132, [])), (132, (4, 0, 0, 0, 133, [])), (133, (18, 11, 4, 0, 136, [])), (136, (4, 0, 0, 0, 137, [])), (137, (18, 11, 6, 0, 140, [])), (143, (19, 11, 8, 0, 146, [])), (146, (4, 0, 0, 0, 147, [])), (147, (30, 10, 7, 0, 150, [])), (150, (12, 0, 0, 0, 151, [])), (151, (4, 0, 0, 0, 152, [])), (152, (18, 11, 1, 0, 155, [])), (155, (4, 0, 0, 0, 156, [])), (156, (18, 11, 6, 0, 159, [])), (162, (19, 11, 9, 0, 165, [])), (165, (4, 0, 0, 0, 166, [])), (166, (30, 4, 6, 0, 169, [])), (169, (12, 0, 0, 0, 170, [])), (170, (4, 0, 0, 0, 171, [])), (171, (18, 11, 1, 0, 174, [])), (174, (4, 0, 0, 0, 175, [])), (175, (18, 11, 6, 0, 178, [])), (181, (19, 11, 10, 0, 184, [])), (184, (4, 0, 0, 0, 185, [])), (185, (30, 5, 10, 0, 188, [])), (188, (12, 0, 0, 0, 189, [])), (189, (4, 0, 0, 0, 190, [])), (190, (18, 11, 1, 0, 193, [])), (193, (4, 0, 0, 0, 194, [])), (194, (18, 11, 4, 0, 197, [])), (197, (4, 0, 0, 0, 198, [])), (198, (18, 11, 6, 0, 201, [])), (204, (19, 11, 11, 0, 207, [])), (207, (4, 0, 0, 0, 208, [])), (208, (30, 8, 3, 0, 211, [])), (211, (12, 0, 0, 0, 212, [])), (215, (19, 11, 12, 0, 218, [])), (218, (4, 0, 0, 0, 219, [])), (219, (0, 0, 0, 3, 220, [])), (220, (31, 1, 0, 0, 222, [])), (222, (19, 11, 13, 0, 225, [])), (225, (4, 0, 0, 0, 226, [])), (226, (0, 0, 0, (-1), 227, [])), (227, (19, 11, 14, 0, 230, [])), (230, (4, 0, 0, 0, 231, [])), (231, (0, 0, 0, 0, 232, [])), (232, (19, 11, 15, 0, 235, [])), (235, (29, 0, 0, 0, 236, []))]
set_option maxRecDepth 100000 in
theorem K_X11_init : ztbok F_X11_init T_X11_init := ztbB_ok (by decide +kernel)
set_option maxRecDepth 100000 in
theorem W_X11_init : zMth yX11_init (.code yX11_init cX11_init 1 (none)) 0 := ⟨z_at 31 (by decide +kernel) (by decide +kernel), z_at 1 (by decide +kernel) (by decide +kernel), ⟨by decide +kernel, by decide +kernel⟩, by decide +kernel⟩
set_option maxRecDepth 100000 in
theorem I_X11_init : Cond.instanceMethod yX11_init ∈ zws := z_at 30 (by decide +kernel) (by decide +kernel)
abbrev F_X11_feed : zF := (11, cX11_feed, some .int, 6, [], false)
def T_X11_feed : List (Nat × zI) := [(0, (4, 0, 0, 0, 1, [])), (1, (18, 11, 0, 0, 4, [])), (4, (0, 0, 0, 20, 6, [])), (9, (17, 0, 12, 0, 14, [])), (12, (0, 0, 0, (-1), 13, [])), (13, (27, 0, 0, 0, 14, [])), (14, (4, 0, 0, 0, 15, [])), (15, (18, 11, 0, 0, 18, [])), (18, (2, 1, 0, 0, 19, [])), (22, (4, 0, 0, 0, 23, [])), (23, (18, 11, 0, 0, 26, [])), (26, (2, 2, 0, 0, 27, [])), (30, (4, 0, 0, 0, 31, [])), (31, (18, 11, 0, 0, 34, [])), (34, (2, 3, 0, 0, 35, [])), (38, (4, 0, 0, 0, 39, [])), (39, (18, 11, 0, 0, 42, [])), (42, (2, 4, 0, 0, 44, [])), (47, (4, 0, 0, 0, 48, [])), (48, (18, 11, 0, 0, 51, [])), (51, (2, 5, 0, 0, 53, [])), (56, (4, 0, 0, 0, 57, [])), (57, (18, 11, 0, 0, 60, [])), (60, (18, 9, 1, 0, 63, [])), (63, (27, 0, 0, 0, 64, []))]
set_option maxRecDepth 100000 in
theorem K_X11_feed : ztbok F_X11_feed T_X11_feed := ztbB_ok (by decide +kernel)
set_option maxRecDepth 100000 in
theorem W_X11_feed : zMth yX11_feed (.code yX11_feed cX11_feed 6 (some .int)) 5 := ⟨z_at 431 (by decide +kernel) (by decide +kernel), z_at 1 (by decide +kernel) (by decide +kernel), ⟨by decide +kernel, by decide +kernel⟩, by decide +kernel⟩
set_option maxRecDepth 100000 in
theorem I_X11_feed : Cond.instanceMethod yX11_feed ∈ zws := z_at 429 (by decide +kernel) (by decide +kernel)
set_option maxRecDepth 100000 in
theorem S_X11_feed : Cond.selects yX11_feed.cls yX11_feed yX11_feed ∈ zws := z_at 430 (by decide +kernel) (by decide +kernel)
abbrev F_X11_house : zF := (11, cX11_house, some .int, 3, [], false)
def T_X11_house : List (Nat × zI) := [(0, (2, 1, 0, 0, 1, [])), (1, (17, 1, 15, 0, 4, [])), (4, (2, 1, 0, 0, 5, [])), (5, (4, 0, 0, 0, 6, [])), (6, (18, 11, 0, 0, 9, [])), (9, (18, 9, 1, 0, 12, [])), (12, (16, 2, 15, 0, 25, [])), (18, (12, 0, 0, 0, 19, [])), (25, (4, 0, 0, 0, 26, [])), (26, (18, 11, 3, 0, 29, [])), (29, (2, 1, 0, 0, 30, [])), (33, (5, 2, 0, 0, 34, [])), (34, (4, 0, 0, 0, 35, [])), (35, (18, 11, 0, 0, 38, [])), (38, (0, 0, 0, 0, 39, [])), (39, (19, 9, 1, 0, 42, [])), (42, (2, 2, 0, 0, 43, [])), (43, (17, 0, 69, 0, 46, [])), (46, (4, 0, 0, 0, 47, [])), (47, (4, 0, 0, 0, 48, [])), (48, (18, 11, 3, 0, 51, [])), (51, (18, 7, 8, 0, 54, [])), (54, (19, 11, 14, 0, 57, [])), (57, (4, 0, 0, 0, 58, [])), (58, (18, 11, 13, 0, 61, [])), (61, (0, 0, 0, 0, 62, [])), (62, (13, 0, 0, 0, 63, [])), (63, (20, 0, 0, 0, 64, [])), (64, (0, 0, 0, 1, 65, [])), (65, (9, 0, 0, 0, 66, [])), (66, (21, 0, 0, 0, 67, [])), (67, (2, 2, 0, 0, 68, [])), (68, (27, 0, 0, 0, 69, [])), (69, (4, 0, 0, 0, 70, [])), (70, (0, 0, 0, (-1), 71, [])), (71, (19, 11, 14, 0, 74, [])), (74, (4, 0, 0, 0, 75, [])), (75, (18, 11, 1, 0, 78, [])), (78, (4, 0, 0, 0, 79, [])), (79, (18, 11, 2, 0, 82, [])), (85, (4, 0, 0, 0, 86, [])), (86, (18, 11, 4, 0, 89, [])), (89, (4, 0, 0, 0, 90, [])), (90, (18, 11, 1, 0, 93, [])), (96, (4, 0, 0, 0, 97, [])), (97, (18, 11, 9, 0, 100, [])), (100, (0, 0, 0, 0, 101, [])), (101, (19, 10, 6, 0, 104, [])), (104, (4, 0, 0, 0, 105, [])), (105, (18, 11, 11, 0, 108, [])), (108, (0, 0, 0, 0, 109, [])), (109, (19, 5, 9, 0, 112, [])), (112, (4, 0, 0, 0, 113, [])), (113, (0, 0, 0, 0, 114, [])), (114, (19, 11, 15, 0, 117, [])), (117, (0, 0, 0, 0, 118, [])), (118, (27, 0, 0, 0, 119, []))]
set_option maxRecDepth 100000 in
theorem K_X11_house : ztbok F_X11_house T_X11_house := ztbB_ok (by decide +kernel)
set_option maxRecDepth 100000 in
theorem W_X11_house : zMth yX11_house (.code yX11_house cX11_house 3 (some .int)) 1 := ⟨z_at 546 (by decide +kernel) (by decide +kernel), z_at 1 (by decide +kernel) (by decide +kernel), ⟨by decide +kernel, by decide +kernel⟩, by decide +kernel⟩
set_option maxRecDepth 100000 in
theorem I_X11_house : Cond.instanceMethod yX11_house ∈ zws := z_at 544 (by decide +kernel) (by decide +kernel)
set_option maxRecDepth 100000 in
theorem S_X11_house : Cond.selects yX11_house.cls yX11_house yX11_house ∈ zws := z_at 545 (by decide +kernel) (by decide +kernel)
abbrev F_X11_fault : zF := (11, cX11_fault, some .int, 1, [], false)
def T_X11_fault : List (Nat × zI) := [(0, (4, 0, 0, 0, 1, [])), (1, (18, 11, 14, 0, 4, [])), (4, (27, 0, 0, 0, 5, []))]
set_option maxRecDepth 100000 in
theorem K_X11_fault : ztbok F_X11_fault T_X11_fault := ztbB_ok (by decide +kernel)
set_option maxRecDepth 100000 in
theorem W_X11_fault : zMth yX11_fault (.code yX11_fault cX11_fault 1 (some .int)) 0 := ⟨z_at 443 (by decide +kernel) (by decide +kernel), z_at 1 (by decide +kernel) (by decide +kernel), ⟨by decide +kernel, by decide +kernel⟩, by decide +kernel⟩
set_option maxRecDepth 100000 in
theorem I_X11_fault : Cond.instanceMethod yX11_fault ∈ zws := z_at 441 (by decide +kernel) (by decide +kernel)
set_option maxRecDepth 100000 in
theorem S_X11_fault : Cond.selects yX11_fault.cls yX11_fault yX11_fault ∈ zws := z_at 442 (by decide +kernel) (by decide +kernel)
abbrev F_X11_count : zF := (11, cX11_count, some .int, 2, [], false)
def T_X11_count : List (Nat × zI) := [(0, (2, 1, 0, 0, 1, [])), (1, (32, 0, 237, 0, 0, [112, 120, 128, 136, 144, 152, 160, 168, 176, 183, 190, 237, 237, 237, 237, 237, 237, 237, 237, 237, 197, 207, 217, 227])), (112, (4, 0, 0, 0, 113, [])), (113, (18, 11, 1, 0, 116, [])), (116, (18, 6, 7, 0, 119, [])), (119, (27, 0, 0, 0, 120, [])), (120, (4, 0, 0, 0, 121, [])), (121, (18, 11, 1, 0, 124, [])), (124, (18, 6, 8, 0, 127, [])), (127, (27, 0, 0, 0, 128, [])), (128, (4, 0, 0, 0, 129, [])), (129, (18, 11, 1, 0, 132, [])), (132, (18, 6, 9, 0, 135, [])), (135, (27, 0, 0, 0, 136, [])), (136, (4, 0, 0, 0, 137, [])), (137, (18, 11, 1, 0, 140, [])), (140, (18, 6, 10, 0, 143, [])), (143, (27, 0, 0, 0, 144, [])), (144, (4, 0, 0, 0, 145, [])), (145, (18, 11, 4, 0, 148, [])), (148, (18, 0, 7, 0, 151, [])), (151, (27, 0, 0, 0, 152, [])), (152, (4, 0, 0, 0, 153, [])), (153, (18, 11, 4, 0, 156, [])), (156, (18, 0, 8, 0, 159, [])), (159, (27, 0, 0, 0, 160, [])), (160, (4, 0, 0, 0, 161, [])), (161, (18, 11, 4, 0, 164, [])), (164, (18, 0, 9, 0, 167, [])), (167, (27, 0, 0, 0, 168, [])), (168, (4, 0, 0, 0, 169, [])), (169, (18, 11, 0, 0, 172, [])), (172, (18, 9, 1, 0, 175, [])), (175, (27, 0, 0, 0, 176, [])), (176, (4, 0, 0, 0, 177, [])), (177, (18, 11, 13, 0, 180, [])), (180, (0, 0, 0, 0, 181, [])), (181, (20, 0, 0, 0, 182, [])), (182, (27, 0, 0, 0, 183, [])), (183, (4, 0, 0, 0, 184, [])), (184, (18, 11, 13, 0, 187, [])), (187, (0, 0, 0, 1, 188, [])), (188, (20, 0, 0, 0, 189, [])), (189, (27, 0, 0, 0, 190, [])), (190, (4, 0, 0, 0, 191, [])), (191, (18, 11, 13, 0, 194, [])), (194, (0, 0, 0, 2, 195, [])), (195, (20, 0, 0, 0, 196, [])), (196, (27, 0, 0, 0, 197, [])), (197, (4, 0, 0, 0, 198, [])), (198, (18, 11, 1, 0, 201, [])), (201, (18, 6, 6, 0, 204, [])), (204, (0, 0, 0, 0, 205, [])), (205, (20, 0, 0, 0, 206, [])), (206, (27, 0, 0, 0, 207, [])), (207, (4, 0, 0, 0, 208, [])), (208, (18, 11, 1, 0, 211, [])), (211, (18, 6, 6, 0, 214, [])), (214, (0, 0, 0, 1, 215, [])), (215, (20, 0, 0, 0, 216, [])), (216, (27, 0, 0, 0, 217, [])), (217, (4, 0, 0, 0, 218, [])), (218, (18, 11, 1, 0, 221, [])), (221, (18, 6, 6, 0, 224, [])), (224, (0, 0, 0, 2, 225, [])), (225, (20, 0, 0, 0, 226, [])), (226, (27, 0, 0, 0, 227, [])), (227, (4, 0, 0, 0, 228, [])), (228, (18, 11, 1, 0, 231, [])), (231, (18, 6, 6, 0, 234, [])), (234, (0, 0, 0, 3, 235, [])), (235, (20, 0, 0, 0, 236, [])), (236, (27, 0, 0, 0, 237, [])), (240, (12, 0, 0, 0, 241, []))]
set_option maxRecDepth 100000 in
theorem K_X11_count : ztbok F_X11_count T_X11_count := ztbB_ok (by decide +kernel)
set_option maxRecDepth 100000 in
theorem W_X11_count : zMth yX11_count (.code yX11_count cX11_count 2 (some .int)) 1 := ⟨z_at 798 (by decide +kernel) (by decide +kernel), z_at 1 (by decide +kernel) (by decide +kernel), ⟨by decide +kernel, by decide +kernel⟩, by decide +kernel⟩
set_option maxRecDepth 100000 in
theorem I_X11_count : Cond.instanceMethod yX11_count ∈ zws := z_at 796 (by decide +kernel) (by decide +kernel)
set_option maxRecDepth 100000 in
theorem S_X11_count : Cond.selects yX11_count.cls yX11_count yX11_count ∈ zws := z_at 797 (by decide +kernel) (by decide +kernel)
abbrev F_X11_room : zF := (11, cX11_room, some .int, 3, [], false)
def T_X11_room : List (Nat × zI) := [(0, (4, 0, 0, 0, 1, [])), (1, (2, 1, 0, 0, 2, [])), (5, (2, 2, 0, 0, 6, [])), (6, (0, 0, 0, 2, 7, [])), (10, (2, 2, 0, 0, 11, [])), (11, (17, 0, 14, 0, 26, [])), (14, (4, 0, 0, 0, 15, [])), (15, (18, 11, 1, 0, 18, [])), (18, (18, 6, 0, 0, 21, [])), (21, (2, 1, 0, 0, 22, [])), (22, (20, 0, 0, 0, 23, [])), (23, (15, 0, 0, 0, 35, [])), (26, (4, 0, 0, 0, 27, [])), (27, (18, 11, 1, 0, 30, [])), (30, (18, 6, 1, 0, 33, [])), (33, (2, 1, 0, 0, 34, [])), (34, (20, 0, 0, 0, 35, [])), (35, (27, 0, 0, 0, 36, []))]
set_option maxRecDepth 100000 in
theorem K_X11_room : ztbok F_X11_room T_X11_room := ztbB_ok (by decide +kernel)
set_option maxRecDepth 100000 in
theorem W_X11_room : zMth yX11_room (.code yX11_room cX11_room 3 (some .int)) 2 := ⟨z_at 821 (by decide +kernel) (by decide +kernel), z_at 1 (by decide +kernel) (by decide +kernel), ⟨by decide +kernel, by decide +kernel⟩, by decide +kernel⟩
set_option maxRecDepth 100000 in
theorem I_X11_room : Cond.instanceMethod yX11_room ∈ zws := z_at 819 (by decide +kernel) (by decide +kernel)
set_option maxRecDepth 100000 in
theorem S_X11_room : Cond.selects yX11_room.cls yX11_room yX11_room ∈ zws := z_at 820 (by decide +kernel) (by decide +kernel)
abbrev F_X11_lodger : zF := (11, cX11_lodger, some .int, 3, [], false)
def T_X11_lodger : List (Nat × zI) := [(0, (4, 0, 0, 0, 1, [])), (1, (2, 1, 0, 0, 2, [])), (5, (2, 2, 0, 0, 6, [])), (6, (0, 0, 0, 3, 7, [])), (10, (2, 2, 0, 0, 11, [])), (11, (17, 0, 14, 0, 26, [])), (14, (4, 0, 0, 0, 15, [])), (15, (18, 11, 1, 0, 18, [])), (18, (18, 6, 2, 0, 21, [])), (21, (2, 1, 0, 0, 22, [])), (22, (20, 0, 0, 0, 23, [])), (23, (15, 0, 0, 0, 35, [])), (26, (4, 0, 0, 0, 27, [])), (27, (18, 11, 4, 0, 30, [])), (30, (2, 1, 0, 0, 31, [])), (31, (2, 2, 0, 0, 32, [])), (35, (27, 0, 0, 0, 36, []))]
set_option maxRecDepth 100000 in
theorem K_X11_lodger : ztbok F_X11_lodger T_X11_lodger := ztbB_ok (by decide +kernel)
set_option maxRecDepth 100000 in
theorem W_X11_lodger : zMth yX11_lodger (.code yX11_lodger cX11_lodger 3 (some .int)) 2 := ⟨z_at 837 (by decide +kernel) (by decide +kernel), z_at 1 (by decide +kernel) (by decide +kernel), ⟨by decide +kernel, by decide +kernel⟩, by decide +kernel⟩
set_option maxRecDepth 100000 in
theorem I_X11_lodger : Cond.instanceMethod yX11_lodger ∈ zws := z_at 835 (by decide +kernel) (by decide +kernel)
set_option maxRecDepth 100000 in
theorem S_X11_lodger : Cond.selects yX11_lodger.cls yX11_lodger yX11_lodger ∈ zws := z_at 836 (by decide +kernel) (by decide +kernel)
abbrev F_X11_may : zF := (11, cX11_may, some .int, 6, [], false)
def T_X11_may : List (Nat × zI) := [(0, (4, 0, 0, 0, 1, [])), (1, (2, 1, 0, 0, 2, [])), (5, (2, 2, 0, 0, 6, [])), (9, (4, 0, 0, 0, 10, [])), (10, (18, 11, 1, 0, 13, [])), (13, (2, 1, 0, 0, 14, [])), (14, (2, 2, 0, 0, 15, [])), (18, (5, 4, 0, 0, 20, [])), (20, (2, 4, 0, 0, 22, [])), (25, (5, 5, 0, 0, 27, [])), (27, (2, 3, 0, 0, 28, [])), (28, (0, 0, 0, (-1), 29, [])), (29, (16, 0, 32, 0, 35, [])), (32, (2, 5, 0, 0, 34, [])), (34, (27, 0, 0, 0, 35, [])), (35, (2, 3, 0, 0, 36, [])), (36, (2, 5, 0, 0, 38, [])), (41, (2, 4, 0, 0, 43, [])), (43, (2, 3, 0, 0, 44, [])), (47, (27, 0, 0, 0, 48, []))]
set_option maxRecDepth 100000 in
theorem K_X11_may : ztbok F_X11_may T_X11_may := ztbB_ok (by decide +kernel)
set_option maxRecDepth 100000 in
theorem W_X11_may : zMth yX11_may (.code yX11_may cX11_may 6 (some .int)) 3 := ⟨z_at 853 (by decide +kernel) (by decide +kernel), z_at 1 (by decide +kernel) (by decide +kernel), ⟨by decide +kernel, by decide +kernel⟩, by decide +kernel⟩
set_option maxRecDepth 100000 in
theorem I_X11_may : Cond.instanceMethod yX11_may ∈ zws := z_at 851 (by decide +kernel) (by decide +kernel)
set_option maxRecDepth 100000 in
theorem S_X11_may : Cond.selects yX11_may.cls yX11_may yX11_may ∈ zws := z_at 852 (by decide +kernel) (by decide +kernel)
abbrev F_X11_says : zF := (11, cX11_says, some .int, 3, [], false)
def T_X11_says : List (Nat × zI) := [(0, (4, 0, 0, 0, 1, [])), (1, (2, 1, 0, 0, 2, [])), (5, (4, 0, 0, 0, 6, [])), (6, (18, 11, 1, 0, 9, [])), (9, (2, 1, 0, 0, 10, [])), (10, (2, 2, 0, 0, 11, [])), (14, (17, 0, 17, 0, 27, [])), (20, (12, 0, 0, 0, 21, [])), (27, (4, 0, 0, 0, 28, [])), (28, (18, 11, 6, 0, 31, [])), (31, (2, 1, 0, 0, 32, [])), (32, (2, 2, 0, 0, 33, [])), (36, (27, 0, 0, 0, 37, []))]
set_option maxRecDepth 100000 in
theorem K_X11_says : ztbok F_X11_says T_X11_says := ztbB_ok (by decide +kernel)
set_option maxRecDepth 100000 in
theorem W_X11_says : zMth yX11_says (.code yX11_says cX11_says 3 (some .int)) 2 := ⟨z_at 866 (by decide +kernel) (by decide +kernel), z_at 1 (by decide +kernel) (by decide +kernel), ⟨by decide +kernel, by decide +kernel⟩, by decide +kernel⟩
set_option maxRecDepth 100000 in
theorem I_X11_says : Cond.instanceMethod yX11_says ∈ zws := z_at 864 (by decide +kernel) (by decide +kernel)
set_option maxRecDepth 100000 in
theorem S_X11_says : Cond.selects yX11_says.cls yX11_says yX11_says ∈ zws := z_at 865 (by decide +kernel) (by decide +kernel)
abbrev F_X11_lend : zF := (11, cX11_lend, some .int, 4, [], false)
def T_X11_lend : List (Nat × zI) := [(0, (4, 0, 0, 0, 1, [])), (1, (2, 1, 0, 0, 2, [])), (5, (4, 0, 0, 0, 6, [])), (6, (2, 2, 0, 0, 7, [])), (10, (2, 1, 0, 0, 11, [])), (11, (2, 2, 0, 0, 12, [])), (12, (16, 0, 27, 0, 15, [])), (15, (4, 0, 0, 0, 16, [])), (16, (18, 11, 4, 0, 19, [])), (19, (2, 1, 0, 0, 20, [])), (20, (2, 3, 0, 0, 21, [])), (24, (17, 0, 27, 0, 39, [])), (27, (4, 0, 0, 0, 28, [])), (28, (18, 11, 13, 0, 31, [])), (31, (0, 0, 0, 1, 32, [])), (32, (13, 0, 0, 0, 33, [])), (33, (20, 0, 0, 0, 34, [])), (34, (0, 0, 0, 1, 35, [])), (35, (9, 0, 0, 0, 36, [])), (36, (21, 0, 0, 0, 37, [])), (37, (0, 0, 0, (-1), 38, [])), (38, (27, 0, 0, 0, 39, [])), (39, (4, 0, 0, 0, 40, [])), (40, (18, 11, 4, 0, 43, [])), (43, (2, 1, 0, 0, 44, [])), (44, (2, 2, 0, 0, 45, [])), (45, (2, 3, 0, 0, 46, [])), (49, (4, 0, 0, 0, 50, [])), (50, (18, 11, 4, 0, 53, [])), (53, (18, 0, 7, 0, 56, [])), (56, (27, 0, 0, 0, 57, []))]
set_option maxRecDepth 100000 in
theorem K_X11_lend : ztbok F_X11_lend T_X11_lend := ztbB_ok (by decide +kernel)
set_option maxRecDepth 100000 in
theorem W_X11_lend : zMth yX11_lend (.code yX11_lend cX11_lend 4 (some .int)) 3 := ⟨z_at 882 (by decide +kernel) (by decide +kernel), z_at 1 (by decide +kernel) (by decide +kernel), ⟨by decide +kernel, by decide +kernel⟩, by decide +kernel⟩
set_option maxRecDepth 100000 in
theorem I_X11_lend : Cond.instanceMethod yX11_lend ∈ zws := z_at 880 (by decide +kernel) (by decide +kernel)
set_option maxRecDepth 100000 in
theorem S_X11_lend : Cond.selects yX11_lend.cls yX11_lend yX11_lend ∈ zws := z_at 881 (by decide +kernel) (by decide +kernel)
abbrev F_X11_back : zF := (11, cX11_back, some .int, 1, [], false)
def T_X11_back : List (Nat × zI) := [(0, (4, 0, 0, 0, 1, [])), (1, (18, 11, 4, 0, 4, [])), (4, (18, 0, 7, 0, 7, [])), (7, (17, 0, 10, 0, 12, [])), (10, (0, 0, 0, (-1), 11, [])), (11, (27, 0, 0, 0, 12, [])), (12, (4, 0, 0, 0, 13, [])), (13, (18, 11, 4, 0, 16, [])), (19, (4, 0, 0, 0, 20, [])), (20, (18, 11, 4, 0, 23, [])), (23, (18, 0, 7, 0, 26, [])), (26, (27, 0, 0, 0, 27, []))]
set_option maxRecDepth 100000 in
theorem K_X11_back : ztbok F_X11_back T_X11_back := ztbB_ok (by decide +kernel)
set_option maxRecDepth 100000 in
theorem W_X11_back : zMth yX11_back (.code yX11_back cX11_back 1 (some .int)) 0 := ⟨z_at 447 (by decide +kernel) (by decide +kernel), z_at 1 (by decide +kernel) (by decide +kernel), ⟨by decide +kernel, by decide +kernel⟩, by decide +kernel⟩
set_option maxRecDepth 100000 in
theorem I_X11_back : Cond.instanceMethod yX11_back ∈ zws := z_at 445 (by decide +kernel) (by decide +kernel)
set_option maxRecDepth 100000 in
theorem S_X11_back : Cond.selects yX11_back.cls yX11_back yX11_back ∈ zws := z_at 446 (by decide +kernel) (by decide +kernel)
abbrev F_X11_draw : zF := (11, cX11_draw, none, 2, [], false)
def T_X11_draw : List (Nat × zI) := [(0, (4, 0, 0, 0, 1, [])), (1, (18, 11, 4, 0, 4, [])), (4, (4, 0, 0, 0, 5, [])), (5, (18, 11, 1, 0, 8, [])), (8, (2, 1, 0, 0, 9, [])), (12, (29, 0, 0, 0, 13, []))]
set_option maxRecDepth 100000 in
theorem K_X11_draw : ztbok F_X11_draw T_X11_draw := ztbB_ok (by decide +kernel)
set_option maxRecDepth 100000 in
theorem W_X11_draw : zMth yX11_draw (.code yX11_draw cX11_draw 2 (none)) 1 := ⟨z_at 459 (by decide +kernel) (by decide +kernel), z_at 1 (by decide +kernel) (by decide +kernel), ⟨by decide +kernel, by decide +kernel⟩, by decide +kernel⟩
set_option maxRecDepth 100000 in
theorem I_X11_draw : Cond.instanceMethod yX11_draw ∈ zws := z_at 457 (by decide +kernel) (by decide +kernel)
set_option maxRecDepth 100000 in
theorem S_X11_draw : Cond.selects yX11_draw.cls yX11_draw yX11_draw ∈ zws := z_at 458 (by decide +kernel) (by decide +kernel)
abbrev F_X11_does : zF := (11, cX11_does, some .int, 3, [], false)
def T_X11_does : List (Nat × zI) := [(0, (4, 0, 0, 0, 1, [])), (1, (2, 1, 0, 0, 2, [])), (5, (2, 2, 0, 0, 6, [])), (9, (4, 0, 0, 0, 10, [])), (10, (18, 11, 4, 0, 13, [])), (13, (2, 1, 0, 0, 14, [])), (14, (2, 2, 0, 0, 15, [])), (18, (27, 0, 0, 0, 19, []))]
set_option maxRecDepth 100000 in
theorem K_X11_does : ztbok F_X11_does T_X11_does := ztbB_ok (by decide +kernel)
set_option maxRecDepth 100000 in
theorem W_X11_does : zMth yX11_does (.code yX11_does cX11_does 3 (some .int)) 2 := ⟨z_at 898 (by decide +kernel) (by decide +kernel), z_at 1 (by decide +kernel) (by decide +kernel), ⟨by decide +kernel, by decide +kernel⟩, by decide +kernel⟩
set_option maxRecDepth 100000 in
theorem I_X11_does : Cond.instanceMethod yX11_does ∈ zws := z_at 896 (by decide +kernel) (by decide +kernel)
set_option maxRecDepth 100000 in
theorem S_X11_does : Cond.selects yX11_does.cls yX11_does yX11_does ∈ zws := z_at 897 (by decide +kernel) (by decide +kernel)
abbrev F_X11_sign : zF := (11, cX11_sign, some .int, 3, [], false)
def T_X11_sign : List (Nat × zI) := [(0, (4, 0, 0, 0, 1, [])), (1, (2, 1, 0, 0, 2, [])), (5, (2, 2, 0, 0, 6, [])), (9, (4, 0, 0, 0, 10, [])), (10, (18, 11, 6, 0, 13, [])), (13, (2, 1, 0, 0, 14, [])), (14, (2, 2, 0, 0, 15, [])), (18, (27, 0, 0, 0, 19, []))]
set_option maxRecDepth 100000 in
theorem K_X11_sign : ztbok F_X11_sign T_X11_sign := ztbB_ok (by decide +kernel)
set_option maxRecDepth 100000 in
theorem W_X11_sign : zMth yX11_sign (.code yX11_sign cX11_sign 3 (some .int)) 2 := ⟨z_at 909 (by decide +kernel) (by decide +kernel), z_at 1 (by decide +kernel) (by decide +kernel), ⟨by decide +kernel, by decide +kernel⟩, by decide +kernel⟩
set_option maxRecDepth 100000 in
theorem I_X11_sign : Cond.instanceMethod yX11_sign ∈ zws := z_at 907 (by decide +kernel) (by decide +kernel)
set_option maxRecDepth 100000 in
theorem S_X11_sign : Cond.selects yX11_sign.cls yX11_sign yX11_sign ∈ zws := z_at 908 (by decide +kernel) (by decide +kernel)
abbrev F_X11_look : zF := (11, cX11_look, some .int, 6, [], false)
def T_X11_look : List (Nat × zI) := [(0, (2, 1, 0, 0, 1, [])), (1, (4, 0, 0, 0, 2, [])), (2, (18, 11, 1, 0, 5, [])), (5, (18, 6, 9, 0, 8, [])), (11, (2, 2, 0, 0, 12, [])), (15, (4, 0, 0, 0, 16, [])), (16, (2, 3, 0, 0, 17, [])), (20, (2, 1, 0, 0, 21, [])), (21, (0, 0, 0, 24, 23, [])), (23, (9, 2, 0, 0, 24, [])), (24, (2, 2, 0, 0, 25, [])), (25, (9, 0, 0, 0, 26, [])), (26, (5, 4, 0, 0, 28, [])), (28, (4, 0, 0, 0, 29, [])), (29, (18, 11, 4, 0, 32, [])), (32, (18, 0, 5, 0, 35, [])), (35, (2, 4, 0, 0, 37, [])), (37, (20, 0, 0, 0, 38, [])), (38, (5, 5, 0, 0, 40, [])), (40, (4, 0, 0, 0, 41, [])), (41, (18, 11, 4, 0, 44, [])), (44, (18, 0, 5, 0, 47, [])), (47, (2, 4, 0, 0, 49, [])), (49, (2, 3, 0, 0, 50, [])), (50, (21, 0, 0, 0, 51, [])), (51, (2, 5, 0, 0, 53, [])), (53, (27, 0, 0, 0, 54, []))]
set_option maxRecDepth 100000 in
theorem K_X11_look : ztbok F_X11_look T_X11_look := ztbB_ok (by decide +kernel)
set_option maxRecDepth 100000 in
theorem W_X11_look : zMth yX11_look (.code yX11_look cX11_look 6 (some .int)) 3 := ⟨z_at 922 (by decide +kernel) (by decide +kernel), z_at 1 (by decide +kernel) (by decide +kernel), ⟨by decide +kernel, by decide +kernel⟩, by decide +kernel⟩
set_option maxRecDepth 100000 in
theorem I_X11_look : Cond.instanceMethod yX11_look ∈ zws := z_at 920 (by decide +kernel) (by decide +kernel)
set_option maxRecDepth 100000 in
theorem S_X11_look : Cond.selects yX11_look.cls yX11_look yX11_look ∈ zws := z_at 921 (by decide +kernel) (by decide +kernel)
abbrev F_X11_theft : zF := (11, cX11_theft, some .int, 4, [], false)
def T_X11_theft : List (Nat × zI) := [(0, (4, 0, 0, 0, 1, [])), (1, (2, 1, 0, 0, 2, [])), (5, (2, 2, 0, 0, 6, [])), (6, (0, 0, 0, 2, 7, [])), (10, (4, 0, 0, 0, 11, [])), (11, (2, 1, 0, 0, 12, [])), (15, (5, 3, 0, 0, 16, [])), (16, (2, 3, 0, 0, 17, [])), (17, (0, 0, 0, (-1), 18, [])), (18, (16, 0, 26, 0, 21, [])), (21, (2, 2, 0, 0, 22, [])), (22, (0, 0, 0, 1, 23, [])), (23, (16, 0, 26, 0, 28, [])), (26, (2, 3, 0, 0, 27, [])), (27, (27, 0, 0, 0, 28, [])), (28, (4, 0, 0, 0, 29, [])), (29, (2, 1, 0, 0, 30, [])), (30, (2, 3, 0, 0, 31, [])), (34, (27, 0, 0, 0, 35, []))]
set_option maxRecDepth 100000 in
theorem K_X11_theft : ztbok F_X11_theft T_X11_theft := ztbB_ok (by decide +kernel)
set_option maxRecDepth 100000 in
theorem W_X11_theft : zMth yX11_theft (.code yX11_theft cX11_theft 4 (some .int)) 2 := ⟨z_at 929 (by decide +kernel) (by decide +kernel), z_at 1 (by decide +kernel) (by decide +kernel), ⟨by decide +kernel, by decide +kernel⟩, by decide +kernel⟩
set_option maxRecDepth 100000 in
theorem I_X11_theft : Cond.instanceMethod yX11_theft ∈ zws := z_at 927 (by decide +kernel) (by decide +kernel)
set_option maxRecDepth 100000 in
theorem S_X11_theft : Cond.selects yX11_theft.cls yX11_theft yX11_theft ∈ zws := z_at 928 (by decide +kernel) (by decide +kernel)
abbrev F_X11_see : zF := (11, cX11_see, some .int, 4, [], false)
def T_X11_see : List (Nat × zI) := [(0, (4, 0, 0, 0, 1, [])), (1, (2, 1, 0, 0, 2, [])), (5, (2, 2, 0, 0, 6, [])), (9, (2, 3, 0, 0, 10, [])), (10, (17, 1, 30, 0, 13, [])), (13, (2, 3, 0, 0, 14, [])), (14, (0, 0, 0, 3, 15, [])), (15, (16, 2, 30, 0, 18, [])), (18, (4, 0, 0, 0, 19, [])), (19, (18, 11, 4, 0, 22, [])), (22, (2, 1, 0, 0, 23, [])), (23, (2, 2, 0, 0, 24, [])), (27, (17, 0, 42, 0, 30, [])), (30, (4, 0, 0, 0, 31, [])), (31, (18, 11, 13, 0, 34, [])), (34, (0, 0, 0, 2, 35, [])), (35, (13, 0, 0, 0, 36, [])), (36, (20, 0, 0, 0, 37, [])), (37, (0, 0, 0, 1, 38, [])), (38, (9, 0, 0, 0, 39, [])), (39, (21, 0, 0, 0, 40, [])), (40, (0, 0, 0, (-1), 41, [])), (41, (27, 0, 0, 0, 42, [])), (42, (4, 0, 0, 0, 43, [])), (43, (18, 11, 4, 0, 46, [])), (46, (2, 1, 0, 0, 47, [])), (47, (2, 2, 0, 0, 48, [])), (48, (2, 3, 0, 0, 49, [])), (52, (4, 0, 0, 0, 53, [])), (53, (18, 11, 4, 0, 56, [])), (56, (18, 0, 9, 0, 59, [])), (62, (27, 0, 0, 0, 63, []))]
set_option maxRecDepth 100000 in
theorem K_X11_see : ztbok F_X11_see T_X11_see := ztbB_ok (by decide +kernel)
set_option maxRecDepth 100000 in
theorem W_X11_see : zMth yX11_see (.code yX11_see cX11_see 4 (some .int)) 3 := ⟨z_at 944 (by decide +kernel) (by decide +kernel), z_at 1 (by decide +kernel) (by decide +kernel), ⟨by decide +kernel, by decide +kernel⟩, by decide +kernel⟩
set_option maxRecDepth 100000 in
theorem I_X11_see : Cond.instanceMethod yX11_see ∈ zws := z_at 942 (by decide +kernel) (by decide +kernel)
set_option maxRecDepth 100000 in
theorem S_X11_see : Cond.selects yX11_see.cls yX11_see yX11_see ∈ zws := z_at 943 (by decide +kernel) (by decide +kernel)
abbrev F_X11_forget : zF := (11, cX11_forget, some .int, 2, [], false)
def T_X11_forget : List (Nat × zI) := [(0, (4, 0, 0, 0, 1, [])), (1, (18, 11, 4, 0, 4, [])), (4, (18, 0, 9, 0, 7, [])), (10, (5, 1, 0, 0, 11, [])), (11, (4, 0, 0, 0, 12, [])), (12, (18, 11, 4, 0, 15, [])), (18, (2, 1, 0, 0, 19, [])), (19, (27, 0, 0, 0, 20, []))]
set_option maxRecDepth 100000 in
theorem K_X11_forget : ztbok F_X11_forget T_X11_forget := ztbB_ok (by decide +kernel)
set_option maxRecDepth 100000 in
theorem W_X11_forget : zMth yX11_forget (.code yX11_forget cX11_forget 2 (some .int)) 0 := ⟨z_at 481 (by decide +kernel) (by decide +kernel), z_at 1 (by decide +kernel) (by decide +kernel), ⟨by decide +kernel, by decide +kernel⟩, by decide +kernel⟩
set_option maxRecDepth 100000 in
theorem I_X11_forget : Cond.instanceMethod yX11_forget ∈ zws := z_at 479 (by decide +kernel) (by decide +kernel)
set_option maxRecDepth 100000 in
theorem S_X11_forget : Cond.selects yX11_forget.cls yX11_forget yX11_forget ∈ zws := z_at 480 (by decide +kernel) (by decide +kernel)
abbrev F_X11_cases : zF := (11, cX11_cases, some .int, 1, [], false)
def T_X11_cases : List (Nat × zI) := [(0, (4, 0, 0, 0, 1, [])), (1, (18, 11, 7, 0, 4, [])), (7, (27, 0, 0, 0, 8, []))]
set_option maxRecDepth 100000 in
theorem K_X11_cases : ztbok F_X11_cases T_X11_cases := ztbB_ok (by decide +kernel)
set_option maxRecDepth 100000 in
theorem W_X11_cases : zMth yX11_cases (.code yX11_cases cX11_cases 1 (some .int)) 0 := ⟨z_at 490 (by decide +kernel) (by decide +kernel), z_at 1 (by decide +kernel) (by decide +kernel), ⟨by decide +kernel, by decide +kernel⟩, by decide +kernel⟩
set_option maxRecDepth 100000 in
theorem I_X11_cases : Cond.instanceMethod yX11_cases ∈ zws := z_at 488 (by decide +kernel) (by decide +kernel)
set_option maxRecDepth 100000 in
theorem S_X11_cases : Cond.selects yX11_cases.cls yX11_cases yX11_cases ∈ zws := z_at 489 (by decide +kernel) (by decide +kernel)
abbrev F_X11_inCase : zF := (11, cX11_inCase, some .int, 3, [], false)
def T_X11_inCase : List (Nat × zI) := [(0, (4, 0, 0, 0, 1, [])), (1, (2, 2, 0, 0, 2, [])), (5, (2, 1, 0, 0, 6, [])), (6, (4, 0, 0, 0, 7, [])), (7, (18, 11, 7, 0, 10, [])), (16, (4, 0, 0, 0, 17, [])), (17, (18, 11, 7, 0, 20, [])), (20, (2, 1, 0, 0, 21, [])), (21, (2, 2, 0, 0, 22, [])), (25, (27, 0, 0, 0, 26, []))]
set_option maxRecDepth 100000 in
theorem K_X11_inCase : ztbok F_X11_inCase T_X11_inCase := ztbB_ok (by decide +kernel)
set_option maxRecDepth 100000 in
theorem W_X11_inCase : zMth yX11_inCase (.code yX11_inCase cX11_inCase 3 (some .int)) 2 := ⟨z_at 959 (by decide +kernel) (by decide +kernel), z_at 1 (by decide +kernel) (by decide +kernel), ⟨by decide +kernel, by decide +kernel⟩, by decide +kernel⟩
set_option maxRecDepth 100000 in
theorem I_X11_inCase : Cond.instanceMethod yX11_inCase ∈ zws := z_at 957 (by decide +kernel) (by decide +kernel)
set_option maxRecDepth 100000 in
theorem S_X11_inCase : Cond.selects yX11_inCase.cls yX11_inCase yX11_inCase ∈ zws := z_at 958 (by decide +kernel) (by decide +kernel)
abbrev F_X11_sure : zF := (11, cX11_sure, some .int, 2, [], false)
def T_X11_sure : List (Nat × zI) := [(0, (2, 1, 0, 0, 1, [])), (1, (0, 0, 0, 3, 2, [])), (5, (4, 0, 0, 0, 6, [])), (6, (18, 11, 7, 0, 9, [])), (12, (0, 0, 0, (-2), 14, [])), (14, (16, 0, 17, 0, 20, [])), (17, (0, 0, 0, (-2), 19, [])), (19, (27, 0, 0, 0, 20, [])), (20, (2, 1, 0, 0, 21, [])), (21, (0, 0, 0, 2, 22, [])), (22, (16, 0, 25, 0, 33, [])), (25, (4, 0, 0, 0, 26, [])), (26, (18, 11, 7, 0, 29, [])), (32, (27, 0, 0, 0, 33, [])), (33, (2, 1, 0, 0, 34, [])), (34, (17, 0, 37, 0, 47, [])), (37, (4, 0, 0, 0, 38, [])), (38, (18, 11, 7, 0, 41, [])), (44, (15, 0, 0, 0, 54, [])), (47, (4, 0, 0, 0, 48, [])), (48, (18, 11, 7, 0, 51, [])), (54, (27, 0, 0, 0, 55, []))]
set_option maxRecDepth 100000 in
theorem K_X11_sure : ztbok F_X11_sure T_X11_sure := ztbB_ok (by decide +kernel)
set_option maxRecDepth 100000 in
theorem W_X11_sure : zMth yX11_sure (.code yX11_sure cX11_sure 2 (some .int)) 1 := ⟨z_at 971 (by decide +kernel) (by decide +kernel), z_at 1 (by decide +kernel) (by decide +kernel), ⟨by decide +kernel, by decide +kernel⟩, by decide +kernel⟩
set_option maxRecDepth 100000 in
theorem I_X11_sure : Cond.instanceMethod yX11_sure ∈ zws := z_at 969 (by decide +kernel) (by decide +kernel)
set_option maxRecDepth 100000 in
theorem S_X11_sure : Cond.selects yX11_sure.cls yX11_sure yX11_sure ∈ zws := z_at 970 (by decide +kernel) (by decide +kernel)
abbrev F_X11_where : zF := (11, cX11_where, some .int, 3, [], false)
def T_X11_where : List (Nat × zI) := [(0, (4, 0, 0, 0, 1, [])), (1, (2, 1, 0, 0, 2, [])), (5, (4, 0, 0, 0, 6, [])), (6, (18, 11, 7, 0, 9, [])), (12, (5, 2, 0, 0, 13, [])), (13, (2, 2, 0, 0, 14, [])), (14, (17, 2, 19, 0, 17, [])), (17, (2, 2, 0, 0, 18, [])), (18, (27, 0, 0, 0, 19, [])), (19, (4, 0, 0, 0, 20, [])), (20, (18, 11, 7, 0, 23, [])), (23, (2, 1, 0, 0, 24, [])), (27, (27, 0, 0, 0, 28, []))]
set_option maxRecDepth 100000 in
theorem K_X11_where : ztbok F_X11_where T_X11_where := ztbB_ok (by decide +kernel)
set_option maxRecDepth 100000 in
theorem W_X11_where : zMth yX11_where (.code yX11_where cX11_where 3 (some .int)) 1 := ⟨z_at 1001 (by decide +kernel) (by decide +kernel), z_at 1 (by decide +kernel) (by decide +kernel), ⟨by decide +kernel, by decide +kernel⟩, by decide +kernel⟩
set_option maxRecDepth 100000 in
theorem I_X11_where : Cond.instanceMethod yX11_where ∈ zws := z_at 999 (by decide +kernel) (by decide +kernel)
set_option maxRecDepth 100000 in
theorem S_X11_where : Cond.selects yX11_where.cls yX11_where yX11_where ∈ zws := z_at 1000 (by decide +kernel) (by decide +kernel)
abbrev F_X11_misled : zF := (11, cX11_misled, some .int, 5, [], false)
def T_X11_misled : List (Nat × zI) := [(0, (4, 0, 0, 0, 1, [])), (1, (2, 1, 0, 0, 2, [])), (5, (2, 2, 0, 0, 6, [])), (9, (2, 3, 0, 0, 10, [])), (10, (0, 0, 0, 2, 11, [])), (14, (4, 0, 0, 0, 15, [])), (15, (18, 11, 1, 0, 18, [])), (18, (2, 2, 0, 0, 19, [])), (22, (0, 0, 0, (-2), 24, [])), (24, (16, 0, 27, 0, 30, [])), (27, (0, 0, 0, (-2), 29, [])), (29, (27, 0, 0, 0, 30, [])), (30, (4, 0, 0, 0, 31, [])), (31, (18, 11, 8, 0, 34, [])), (34, (2, 1, 0, 0, 35, [])), (35, (2, 2, 0, 0, 36, [])), (39, (5, 4, 0, 0, 41, [])), (41, (2, 4, 0, 0, 43, [])), (43, (0, 0, 0, (-1), 44, [])), (44, (16, 0, 52, 0, 47, [])), (47, (2, 3, 0, 0, 48, [])), (48, (0, 0, 0, 1, 49, [])), (49, (16, 0, 52, 0, 55, [])), (52, (2, 4, 0, 0, 54, [])), (54, (27, 0, 0, 0, 55, [])), (55, (2, 4, 0, 0, 57, [])), (60, (27, 0, 0, 0, 61, []))]
set_option maxRecDepth 100000 in
theorem K_X11_misled : ztbok F_X11_misled T_X11_misled := ztbB_ok (by decide +kernel)
set_option maxRecDepth 100000 in
theorem W_X11_misled : zMth yX11_misled (.code yX11_misled cX11_misled 5 (some .int)) 3 := ⟨z_at 1012 (by decide +kernel) (by decide +kernel), z_at 1 (by decide +kernel) (by decide +kernel), ⟨by decide +kernel, by decide +kernel⟩, by decide +kernel⟩
set_option maxRecDepth 100000 in
theorem I_X11_misled : Cond.instanceMethod yX11_misled ∈ zws := z_at 1010 (by decide +kernel) (by decide +kernel)
set_option maxRecDepth 100000 in
theorem S_X11_misled : Cond.selects yX11_misled.cls yX11_misled yX11_misled ∈ zws := z_at 1011 (by decide +kernel) (by decide +kernel)
abbrev F_X11_chance : zF := (11, cX11_chance, some .int, 3, [], false)
def T_X11_chance : List (Nat × zI) := [(0, (4, 0, 0, 0, 1, [])), (1, (2, 1, 0, 0, 2, [])), (5, (2, 2, 0, 0, 6, [])), (9, (4, 0, 0, 0, 10, [])), (10, (18, 11, 6, 0, 13, [])), (13, (2, 1, 0, 0, 14, [])), (14, (2, 2, 0, 0, 15, [])), (18, (27, 0, 0, 0, 19, []))]
set_option maxRecDepth 100000 in
theorem K_X11_chance : ztbok F_X11_chance T_X11_chance := ztbB_ok (by decide +kernel)
set_option maxRecDepth 100000 in
theorem W_X11_chance : zMth yX11_chance (.code yX11_chance cX11_chance 3 (some .int)) 2 := ⟨z_at 1037 (by decide +kernel) (by decide +kernel), z_at 1 (by decide +kernel) (by decide +kernel), ⟨by decide +kernel, by decide +kernel⟩, by decide +kernel⟩
set_option maxRecDepth 100000 in
theorem I_X11_chance : Cond.instanceMethod yX11_chance ∈ zws := z_at 1035 (by decide +kernel) (by decide +kernel)
set_option maxRecDepth 100000 in
theorem S_X11_chance : Cond.selects yX11_chance.cls yX11_chance yX11_chance ∈ zws := z_at 1036 (by decide +kernel) (by decide +kernel)
abbrev F_X11_round : zF := (11, cX11_round, some .int, 4, [], false)
def T_X11_round : List (Nat × zI) := [(0, (4, 0, 0, 0, 1, [])), (1, (2, 1, 0, 0, 2, [])), (5, (2, 2, 0, 0, 6, [])), (9, (2, 3, 0, 0, 10, [])), (10, (0, 0, 0, 1, 11, [])), (11, (16, 1, 28, 0, 14, [])), (14, (2, 3, 0, 0, 15, [])), (15, (0, 0, 0, 6, 17, [])), (17, (16, 2, 28, 0, 20, [])), (20, (2, 2, 0, 0, 21, [])), (21, (2, 3, 0, 0, 22, [])), (22, (9, 0, 0, 0, 23, [])), (23, (0, 0, 0, 24, 25, [])), (25, (16, 2, 28, 0, 39, [])), (31, (12, 0, 0, 0, 32, [])), (39, (4, 0, 0, 0, 40, [])), (40, (18, 11, 9, 0, 43, [])), (43, (2, 1, 0, 0, 44, [])), (44, (2, 2, 0, 0, 45, [])), (45, (2, 3, 0, 0, 46, [])), (49, (27, 0, 0, 0, 50, []))]
set_option maxRecDepth 100000 in
theorem K_X11_round : ztbok F_X11_round T_X11_round := ztbB_ok (by decide +kernel)
set_option maxRecDepth 100000 in
theorem W_X11_round : zMth yX11_round (.code yX11_round cX11_round 4 (some .int)) 3 := ⟨z_at 1050 (by decide +kernel) (by decide +kernel), z_at 1 (by decide +kernel) (by decide +kernel), ⟨by decide +kernel, by decide +kernel⟩, by decide +kernel⟩
set_option maxRecDepth 100000 in
theorem I_X11_round : Cond.instanceMethod yX11_round ∈ zws := z_at 1048 (by decide +kernel) (by decide +kernel)
set_option maxRecDepth 100000 in
theorem S_X11_round : Cond.selects yX11_round.cls yX11_round yX11_round ∈ zws := z_at 1049 (by decide +kernel) (by decide +kernel)
abbrev F_X11_path : zF := (11, cX11_path, some .int, 3, [], false)
def T_X11_path : List (Nat × zI) := [(0, (2, 1, 0, 0, 1, [])), (1, (4, 0, 0, 0, 2, [])), (2, (18, 11, 9, 0, 5, [])), (5, (18, 10, 6, 0, 8, [])), (11, (2, 2, 0, 0, 12, [])), (12, (0, 0, 0, 2, 13, [])), (16, (2, 2, 0, 0, 17, [])), (17, (17, 0, 20, 0, 32, [])), (20, (4, 0, 0, 0, 21, [])), (21, (18, 11, 9, 0, 24, [])), (24, (18, 10, 4, 0, 27, [])), (27, (2, 1, 0, 0, 28, [])), (28, (20, 0, 0, 0, 29, [])), (29, (15, 0, 0, 0, 41, [])), (32, (4, 0, 0, 0, 33, [])), (33, (18, 11, 9, 0, 36, [])), (36, (18, 10, 5, 0, 39, [])), (39, (2, 1, 0, 0, 40, [])), (40, (20, 0, 0, 0, 41, [])), (41, (27, 0, 0, 0, 42, []))]
set_option maxRecDepth 100000 in
theorem K_X11_path : ztbok F_X11_path T_X11_path := ztbB_ok (by decide +kernel)
set_option maxRecDepth 100000 in
theorem W_X11_path : zMth yX11_path (.code yX11_path cX11_path 3 (some .int)) 2 := ⟨z_at 1091 (by decide +kernel) (by decide +kernel), z_at 1 (by decide +kernel) (by decide +kernel), ⟨by decide +kernel, by decide +kernel⟩, by decide +kernel⟩
set_option maxRecDepth 100000 in
theorem I_X11_path : Cond.instanceMethod yX11_path ∈ zws := z_at 1089 (by decide +kernel) (by decide +kernel)
set_option maxRecDepth 100000 in
theorem S_X11_path : Cond.selects yX11_path.cls yX11_path yX11_path ∈ zws := z_at 1090 (by decide +kernel) (by decide +kernel)
abbrev F_X11_rests : zF := (11, cX11_rests, some .int, 5, [], false)
def T_X11_rests : List (Nat × zI) := [(0, (2, 1, 0, 0, 1, [])), (4, (2, 2, 0, 0, 5, [])), (5, (0, 0, 0, 1, 6, [])), (6, (16, 1, 14, 0, 9, [])), (9, (2, 2, 0, 0, 10, [])), (10, (0, 0, 0, 3, 11, [])), (11, (16, 2, 14, 0, 25, [])), (17, (12, 0, 0, 0, 18, [])), (25, (2, 3, 0, 0, 26, [])), (26, (0, 0, 0, (-1), 27, [])), (27, (16, 0, 35, 0, 30, [])), (30, (2, 3, 0, 0, 31, [])), (31, (2, 2, 0, 0, 32, [])), (35, (4, 0, 0, 0, 36, [])), (36, (18, 11, 10, 0, 39, [])), (39, (2, 1, 0, 0, 40, [])), (40, (2, 2, 0, 0, 41, [])), (44, (5, 4, 0, 0, 46, [])), (46, (2, 3, 0, 0, 47, [])), (47, (0, 0, 0, (-1), 48, [])), (48, (16, 0, 51, 0, 54, [])), (51, (2, 4, 0, 0, 53, [])), (53, (27, 0, 0, 0, 54, [])), (54, (2, 4, 0, 0, 56, [])), (56, (17, 0, 59, 0, 70, [])), (62, (12, 0, 0, 0, 63, [])), (70, (4, 0, 0, 0, 71, [])), (71, (18, 11, 10, 0, 74, [])), (74, (18, 4, 5, 0, 77, [])), (77, (2, 3, 0, 0, 78, [])), (78, (20, 0, 0, 0, 79, [])), (79, (27, 0, 0, 0, 80, []))]
set_option maxRecDepth 100000 in
theorem K_X11_rests : ztbok F_X11_rests T_X11_rests := ztbB_ok (by decide +kernel)
set_option maxRecDepth 100000 in
theorem W_X11_rests : zMth yX11_rests (.code yX11_rests cX11_rests 5 (some .int)) 3 := ⟨z_at 1098 (by decide +kernel) (by decide +kernel), z_at 1 (by decide +kernel) (by decide +kernel), ⟨by decide +kernel, by decide +kernel⟩, by decide +kernel⟩
set_option maxRecDepth 100000 in
theorem I_X11_rests : Cond.instanceMethod yX11_rests ∈ zws := z_at 1096 (by decide +kernel) (by decide +kernel)
set_option maxRecDepth 100000 in
theorem S_X11_rests : Cond.selects yX11_rests.cls yX11_rests yX11_rests ∈ zws := z_at 1097 (by decide +kernel) (by decide +kernel)
abbrev F_X11_fewest : zF := (11, cX11_fewest, some .int, 3, [], false)
def T_X11_fewest : List (Nat × zI) := [(0, (2, 1, 0, 0, 1, [])), (1, (17, 1, 15, 0, 4, [])), (4, (2, 2, 0, 0, 5, [])), (5, (2, 1, 0, 0, 6, [])), (6, (16, 1, 15, 0, 9, [])), (9, (2, 2, 0, 0, 10, [])), (10, (0, 0, 0, 24, 12, [])), (12, (16, 1, 26, 0, 15, [])), (18, (12, 0, 0, 0, 19, [])), (26, (4, 0, 0, 0, 27, [])), (27, (18, 11, 11, 0, 30, [])), (30, (2, 1, 0, 0, 31, [])), (31, (2, 2, 0, 0, 32, [])), (35, (27, 0, 0, 0, 36, []))]
set_option maxRecDepth 100000 in
theorem K_X11_fewest : ztbok F_X11_fewest T_X11_fewest := ztbB_ok (by decide +kernel)
set_option maxRecDepth 100000 in
theorem W_X11_fewest : zMth yX11_fewest (.code yX11_fewest cX11_fewest 3 (some .int)) 2 := ⟨z_at 1126 (by decide +kernel) (by decide +kernel), z_at 1 (by decide +kernel) (by decide +kernel), ⟨by decide +kernel, by decide +kernel⟩, by decide +kernel⟩
set_option maxRecDepth 100000 in
theorem I_X11_fewest : Cond.instanceMethod yX11_fewest ∈ zws := z_at 1124 (by decide +kernel) (by decide +kernel)
set_option maxRecDepth 100000 in
theorem S_X11_fewest : Cond.selects yX11_fewest.cls yX11_fewest yX11_fewest ∈ zws := z_at 1125 (by decide +kernel) (by decide +kernel)
abbrev F_X11_lender : zF := (11, cX11_lender, some .int, 2, [], false)
def T_X11_lender : List (Nat × zI) := [(0, (4, 0, 0, 0, 1, [])), (1, (2, 1, 0, 0, 2, [])), (5, (4, 0, 0, 0, 6, [])), (6, (18, 11, 11, 0, 9, [])), (9, (18, 5, 9, 0, 12, [])), (12, (17, 0, 15, 0, 26, [])), (18, (12, 0, 0, 0, 19, [])), (26, (4, 0, 0, 0, 27, [])), (27, (18, 11, 11, 0, 30, [])), (30, (18, 5, 8, 0, 33, [])), (33, (2, 1, 0, 0, 34, [])), (34, (20, 0, 0, 0, 35, [])), (35, (27, 0, 0, 0, 36, []))]
set_option maxRecDepth 100000 in
theorem K_X11_lender : ztbok F_X11_lender T_X11_lender := ztbB_ok (by decide +kernel)
set_option maxRecDepth 100000 in
theorem W_X11_lender : zMth yX11_lender (.code yX11_lender cX11_lender 2 (some .int)) 1 := ⟨z_at 1173 (by decide +kernel) (by decide +kernel), z_at 1 (by decide +kernel) (by decide +kernel), ⟨by decide +kernel, by decide +kernel⟩, by decide +kernel⟩
set_option maxRecDepth 100000 in
theorem I_X11_lender : Cond.instanceMethod yX11_lender ∈ zws := z_at 1171 (by decide +kernel) (by decide +kernel)
set_option maxRecDepth 100000 in
theorem S_X11_lender : Cond.selects yX11_lender.cls yX11_lender yX11_lender ∈ zws := z_at 1172 (by decide +kernel) (by decide +kernel)
abbrev F_X11_kinds : zF := (11, cX11_kinds, some .int, 3, [], false)
def T_X11_kinds : List (Nat × zI) := [(0, (2, 1, 0, 0, 1, [])), (4, (2, 2, 0, 0, 5, [])), (8, (4, 0, 0, 0, 9, [])), (9, (18, 11, 12, 0, 12, [])), (12, (2, 2, 0, 0, 13, [])), (16, (4, 0, 0, 0, 17, [])), (17, (18, 11, 12, 0, 20, [])), (20, (2, 1, 0, 0, 21, [])), (24, (27, 0, 0, 0, 25, []))]
set_option maxRecDepth 100000 in
theorem K_X11_kinds : ztbok F_X11_kinds T_X11_kinds := ztbB_ok (by decide +kernel)
set_option maxRecDepth 100000 in
theorem W_X11_kinds : zMth yX11_kinds (.code yX11_kinds cX11_kinds 3 (some .int)) 2 := ⟨z_at 1181 (by decide +kernel) (by decide +kernel), z_at 1 (by decide +kernel) (by decide +kernel), ⟨by decide +kernel, by decide +kernel⟩, by decide +kernel⟩
set_option maxRecDepth 100000 in
theorem I_X11_kinds : Cond.instanceMethod yX11_kinds ∈ zws := z_at 1179 (by decide +kernel) (by decide +kernel)
set_option maxRecDepth 100000 in
theorem S_X11_kinds : Cond.selects yX11_kinds.cls yX11_kinds yX11_kinds ∈ zws := z_at 1180 (by decide +kernel) (by decide +kernel)
abbrev F_X11_word : zF := (11, cX11_word, some .int, 3, [], false)
def T_X11_word : List (Nat × zI) := [(0, (2, 1, 0, 0, 1, [])), (1, (0, 0, 0, 40, 3, [])), (6, (2, 2, 0, 0, 7, [])), (10, (4, 0, 0, 0, 11, [])), (11, (18, 11, 12, 0, 14, [])), (14, (2, 2, 0, 0, 15, [])), (18, (2, 1, 0, 0, 19, [])), (19, (4, 0, 0, 0, 20, [])), (20, (18, 11, 12, 0, 23, [])), (23, (18, 8, 1, 0, 26, [])), (26, (16, 1, 29, 0, 41, [])), (29, (4, 0, 0, 0, 30, [])), (30, (18, 11, 12, 0, 33, [])), (33, (18, 8, 0, 0, 36, [])), (36, (2, 1, 0, 0, 37, [])), (37, (20, 0, 0, 0, 38, [])), (38, (15, 0, 0, 0, 42, [])), (41, (0, 0, 0, (-1), 42, [])), (42, (27, 0, 0, 0, 43, []))]
set_option maxRecDepth 100000 in
theorem K_X11_word : ztbok F_X11_word T_X11_word := ztbB_ok (by decide +kernel)
set_option maxRecDepth 100000 in
theorem W_X11_word : zMth yX11_word (.code yX11_word cX11_word 3 (some .int)) 2 := ⟨z_at 1209 (by decide +kernel) (by decide +kernel), z_at 1 (by decide +kernel) (by decide +kernel), ⟨by decide +kernel, by decide +kernel⟩, by decide +kernel⟩
set_option maxRecDepth 100000 in
theorem I_X11_word : Cond.instanceMethod yX11_word ∈ zws := z_at 1207 (by decide +kernel) (by decide +kernel)
set_option maxRecDepth 100000 in
theorem S_X11_word : Cond.selects yX11_word.cls yX11_word yX11_word ∈ zws := z_at 1208 (by decide +kernel) (by decide +kernel)
abbrev F_X11_mend : zF := (11, cX11_mend, some .int, 4, [], false)
def T_X11_mend : List (Nat × zI) := [(0, (2, 2, 0, 0, 1, [])), (4, (2, 3, 0, 0, 5, [])), (8, (2, 1, 0, 0, 9, [])), (9, (17, 1, 19, 0, 12, [])), (12, (2, 1, 0, 0, 13, [])), (13, (0, 0, 0, 256, 16, [])), (16, (16, 1, 30, 0, 19, [])), (22, (12, 0, 0, 0, 23, [])), (30, (4, 0, 0, 0, 31, [])), (31, (18, 11, 12, 0, 34, [])), (34, (2, 3, 0, 0, 35, [])), (38, (4, 0, 0, 0, 39, [])), (39, (18, 11, 12, 0, 42, [])), (42, (18, 8, 1, 0, 45, [])), (45, (2, 2, 0, 0, 46, [])), (46, (16, 1, 49, 0, 60, [])), (52, (12, 0, 0, 0, 53, [])), (60, (4, 0, 0, 0, 61, [])), (61, (18, 11, 12, 0, 64, [])), (64, (2, 1, 0, 0, 65, [])), (65, (2, 2, 0, 0, 66, [])), (69, (27, 0, 0, 0, 70, []))]
set_option maxRecDepth 100000 in
theorem K_X11_mend : ztbok F_X11_mend T_X11_mend := ztbB_ok (by decide +kernel)
set_option maxRecDepth 100000 in
theorem W_X11_mend : zMth yX11_mend (.code yX11_mend cX11_mend 4 (some .int)) 3 := ⟨z_at 1216 (by decide +kernel) (by decide +kernel), z_at 1 (by decide +kernel) (by decide +kernel), ⟨by decide +kernel, by decide +kernel⟩, by decide +kernel⟩
set_option maxRecDepth 100000 in
theorem I_X11_mend : Cond.instanceMethod yX11_mend ∈ zws := z_at 1214 (by decide +kernel) (by decide +kernel)
set_option maxRecDepth 100000 in
theorem S_X11_mend : Cond.selects yX11_mend.cls yX11_mend yX11_mend ∈ zws := z_at 1215 (by decide +kernel) (by decide +kernel)
abbrev F_X11_fire : zF := (11, cX11_fire, some .long, 7, [], false)
def T_X11_fire : List (Nat × zI) := [(0, (4, 0, 0, 0, 1, [])), (1, (2, 1, 0, 0, 2, [])), (5, (4, 0, 0, 0, 6, [])), (6, (2, 2, 0, 0, 7, [])), (10, (2, 3, 0, 0, 11, [])), (14, (2, 5, 0, 0, 16, [])), (16, (0, 0, 0, 2, 17, [])), (20, (2, 4, 0, 0, 22, [])), (22, (17, 1, 32, 0, 25, [])), (25, (2, 4, 0, 0, 27, [])), (27, (0, 0, 0, 10, 29, [])), (29, (16, 2, 32, 0, 43, [])), (35, (12, 0, 0, 0, 36, [])), (43, (4, 0, 0, 0, 44, [])), (44, (18, 11, 4, 0, 47, [])), (47, (2, 1, 0, 0, 48, [])), (48, (2, 3, 0, 0, 49, [])), (52, (0, 0, 0, 1, 53, [])), (53, (16, 0, 58, 0, 56, [])), (56, (1, 1, 0, 0, 57, [])), (57, (28, 0, 0, 0, 58, [])), (58, (0, 0, 0, 2, 59, [])), (59, (2, 2, 0, 0, 60, [])), (60, (4, 0, 0, 0, 61, [])), (61, (18, 11, 1, 0, 64, [])), (64, (18, 6, 2, 0, 67, [])), (67, (2, 1, 0, 0, 68, [])), (68, (20, 0, 0, 0, 69, [])), (69, (9, 1, 0, 0, 70, [])), (76, (5, 6, 0, 0, 78, [])), (78, (2, 6, 0, 0, 80, [])), (80, (2, 4, 0, 0, 82, [])), (82, (2, 5, 0, 0, 84, [])), (87, (10, 0, 0, 0, 88, [])), (88, (28, 0, 0, 0, 89, []))]
set_option maxRecDepth 100000 in
theorem K_X11_fire : ztbok F_X11_fire T_X11_fire := ztbB_ok (by decide +kernel)
set_option maxRecDepth 100000 in
theorem W_X11_fire : zMth yX11_fire (.code yX11_fire cX11_fire 7 (some .long)) 5 := ⟨z_at 1229 (by decide +kernel) (by decide +kernel), z_at 1 (by decide +kernel) (by decide +kernel), ⟨by decide +kernel, by decide +kernel⟩, by decide +kernel⟩
set_option maxRecDepth 100000 in
theorem I_X11_fire : Cond.instanceMethod yX11_fire ∈ zws := z_at 1227 (by decide +kernel) (by decide +kernel)
set_option maxRecDepth 100000 in
theorem S_X11_fire : Cond.selects yX11_fire.cls yX11_fire yX11_fire ∈ zws := z_at 1228 (by decide +kernel) (by decide +kernel)
abbrev F_X11_image : zF := (11, cX11_image, none, 1, [], false)
def T_X11_image : List (Nat × zI) := [(0, (4, 0, 0, 0, 1, [])), (1, (18, 11, 5, 0, 4, [])), (4, (4, 0, 0, 0, 5, [])), (5, (18, 11, 4, 0, 8, [])), (11, (4, 0, 0, 0, 12, [])), (12, (0, 0, 0, 1, 13, [])), (13, (19, 11, 15, 0, 16, [])), (16, (29, 0, 0, 0, 17, []))]
set_option maxRecDepth 100000 in
theorem K_X11_image : ztbok F_X11_image T_X11_image := ztbB_ok (by decide +kernel)
set_option maxRecDepth 100000 in
theorem W_X11_image : zMth yX11_image (.code yX11_image cX11_image 1 (none)) 0 := ⟨z_at 527 (by decide +kernel) (by decide +kernel), z_at 1 (by decide +kernel) (by decide +kernel), ⟨by decide +kernel, by decide +kernel⟩, by decide +kernel⟩
set_option maxRecDepth 100000 in
theorem I_X11_image : Cond.instanceMethod yX11_image ∈ zws := z_at 525 (by decide +kernel) (by decide +kernel)
set_option maxRecDepth 100000 in
theorem S_X11_image : Cond.selects yX11_image.cls yX11_image yX11_image ∈ zws := z_at 526 (by decide +kernel) (by decide +kernel)
abbrev F_X11_restore : zF := (11, cX11_restore, some .boolean, 1, [], false)
def T_X11_restore : List (Nat × zI) := [(0, (4, 0, 0, 0, 1, [])), (1, (18, 11, 15, 0, 4, [])), (4, (17, 0, 7, 0, 9, [])), (7, (0, 0, 0, 0, 8, [])), (8, (27, 0, 0, 0, 9, [])), (9, (4, 0, 0, 0, 10, [])), (10, (18, 11, 4, 0, 13, [])), (13, (4, 0, 0, 0, 14, [])), (14, (18, 11, 5, 0, 17, [])), (20, (0, 0, 0, 1, 21, [])), (21, (27, 0, 0, 0, 22, []))]
set_option maxRecDepth 100000 in
theorem K_X11_restore : ztbok F_X11_restore T_X11_restore := ztbB_ok (by decide +kernel)
set_option maxRecDepth 100000 in
theorem W_X11_restore : zMth yX11_restore (.code yX11_restore cX11_restore 1 (some .boolean)) 0 := ⟨z_at 538 (by decide +kernel) (by decide +kernel), z_at 1 (by decide +kernel) (by decide +kernel), ⟨by decide +kernel, by decide +kernel⟩, by decide +kernel⟩
set_option maxRecDepth 100000 in
theorem I_X11_restore : Cond.instanceMethod yX11_restore ∈ zws := z_at 536 (by decide +kernel) (by decide +kernel)
set_option maxRecDepth 100000 in
theorem S_X11_restore : Cond.selects yX11_restore.cls yX11_restore yX11_restore ∈ zws := z_at 537 (by decide +kernel) (by decide +kernel)
abbrev F_X11_needRoom : zF := (11, cX11_needRoom, none, 2, [], false)
def T_X11_needRoom : List (Nat × zI) := [(0, (2, 1, 0, 0, 1, [])), (1, (17, 1, 15, 0, 4, [])), (4, (2, 1, 0, 0, 5, [])), (5, (4, 0, 0, 0, 6, [])), (6, (18, 11, 1, 0, 9, [])), (9, (18, 6, 7, 0, 12, [])), (12, (16, 1, 26, 0, 15, [])), (18, (12, 0, 0, 0, 19, [])), (26, (29, 0, 0, 0, 27, []))]
set_option maxRecDepth 100000 in
theorem K_X11_needRoom : ztbok F_X11_needRoom T_X11_needRoom := ztbB_ok (by decide +kernel)
set_option maxRecDepth 100000 in
theorem W_X11_needRoom : zMth yX11_needRoom (.code yX11_needRoom cX11_needRoom 2 (none)) 1 := ⟨z_at 825 (by decide +kernel) (by decide +kernel), z_at 1 (by decide +kernel) (by decide +kernel), ⟨by decide +kernel, by decide +kernel⟩, by decide +kernel⟩
set_option maxRecDepth 100000 in
theorem I_X11_needRoom : Cond.instanceMethod yX11_needRoom ∈ zws := z_at 824 (by decide +kernel) (by decide +kernel)
set_option maxRecDepth 100000 in
theorem S_X11_needRoom : Cond.selects yX11_needRoom.cls yX11_needRoom yX11_needRoom ∈ zws := z_in (List.mem_append_left _ (List.mem_map.mpr ⟨_, List.mem_of_getElem? (i := 23) rfl, rfl⟩)) rfl
abbrev F_X11_needLodger : zF := (11, cX11_needLodger, none, 2, [], false)
def T_X11_needLodger : List (Nat × zI) := [(0, (2, 1, 0, 0, 1, [])), (1, (17, 1, 15, 0, 4, [])), (4, (2, 1, 0, 0, 5, [])), (5, (4, 0, 0, 0, 6, [])), (6, (18, 11, 1, 0, 9, [])), (9, (18, 6, 8, 0, 12, [])), (12, (16, 1, 26, 0, 15, [])), (18, (12, 0, 0, 0, 19, [])), (26, (29, 0, 0, 0, 27, []))]
set_option maxRecDepth 100000 in
theorem K_X11_needLodger : ztbok F_X11_needLodger T_X11_needLodger := ztbB_ok (by decide +kernel)
set_option maxRecDepth 100000 in
theorem W_X11_needLodger : zMth yX11_needLodger (.code yX11_needLodger cX11_needLodger 2 (none)) 1 := ⟨z_at 841 (by decide +kernel) (by decide +kernel), z_at 1 (by decide +kernel) (by decide +kernel), ⟨by decide +kernel, by decide +kernel⟩, by decide +kernel⟩
set_option maxRecDepth 100000 in
theorem I_X11_needLodger : Cond.instanceMethod yX11_needLodger ∈ zws := z_at 840 (by decide +kernel) (by decide +kernel)
set_option maxRecDepth 100000 in
theorem S_X11_needLodger : Cond.selects yX11_needLodger.cls yX11_needLodger yX11_needLodger ∈ zws := z_in (List.mem_append_left _ (List.mem_map.mpr ⟨_, List.mem_of_getElem? (i := 24) rfl, rfl⟩)) rfl
abbrev F_X11_needHour : zF := (11, cX11_needHour, none, 1, [], false)
def T_X11_needHour : List (Nat × zI) := [(0, (2, 0, 0, 0, 1, [])), (1, (17, 1, 10, 0, 4, [])), (4, (2, 0, 0, 0, 5, [])), (5, (0, 0, 0, 24, 7, [])), (7, (16, 1, 21, 0, 10, [])), (13, (12, 0, 0, 0, 14, [])), (21, (29, 0, 0, 0, 22, []))]
set_option maxRecDepth 100000 in
theorem K_X11_needHour : ztbok F_X11_needHour T_X11_needHour := ztbB_ok (by decide +kernel)
set_option maxRecDepth 100000 in
theorem W_X11_needHour : zMth yX11_needHour (.code yX11_needHour cX11_needHour 1 (none)) 1 := ⟨z_at 856 (by decide +kernel) (by decide +kernel), z_at 1 (by decide +kernel) (by decide +kernel), ⟨by decide +kernel, by decide +kernel⟩, by decide +kernel⟩
set_option maxRecDepth 100000 in
theorem I_X11_needHour : Cond.static yX11_needHour ∈ zws := z_at 855 (by decide +kernel) (by decide +kernel)
abbrev F_X11_needOneOf : zF := (11, cX11_needOneOf, none, 2, [], false)
def T_X11_needOneOf : List (Nat × zI) := [(0, (2, 0, 0, 0, 1, [])), (1, (17, 1, 9, 0, 4, [])), (4, (2, 0, 0, 0, 5, [])), (5, (2, 1, 0, 0, 6, [])), (6, (16, 1, 20, 0, 9, [])), (12, (12, 0, 0, 0, 13, [])), (20, (29, 0, 0, 0, 21, []))]
set_option maxRecDepth 100000 in
theorem K_X11_needOneOf : ztbok F_X11_needOneOf T_X11_needOneOf := ztbB_ok (by decide +kernel)
set_option maxRecDepth 100000 in
theorem W_X11_needOneOf : zMth yX11_needOneOf (.code yX11_needOneOf cX11_needOneOf 2 (none)) 2 := ⟨z_at 829 (by decide +kernel) (by decide +kernel), z_at 1 (by decide +kernel) (by decide +kernel), ⟨by decide +kernel, by decide +kernel⟩, by decide +kernel⟩
set_option maxRecDepth 100000 in
theorem I_X11_needOneOf : Cond.static yX11_needOneOf ∈ zws := z_at 828 (by decide +kernel) (by decide +kernel)
abbrev F_X11_needWordCount : zF := (11, cX11_needWordCount, none, 1, [], false)
def T_X11_needWordCount : List (Nat × zI) := [(0, (2, 0, 0, 0, 1, [])), (1, (0, 0, 0, 1, 2, [])), (2, (16, 1, 11, 0, 5, [])), (5, (2, 0, 0, 0, 6, [])), (6, (0, 0, 0, 40, 8, [])), (8, (16, 2, 11, 0, 22, [])), (14, (12, 0, 0, 0, 15, [])), (22, (29, 0, 0, 0, 23, []))]
set_option maxRecDepth 100000 in
theorem K_X11_needWordCount : ztbok F_X11_needWordCount T_X11_needWordCount := ztbB_ok (by decide +kernel)
set_option maxRecDepth 100000 in
theorem W_X11_needWordCount : zMth yX11_needWordCount (.code yX11_needWordCount cX11_needWordCount 1 (none)) 1 := ⟨z_at 1184 (by decide +kernel) (by decide +kernel), z_at 1 (by decide +kernel) (by decide +kernel), ⟨by decide +kernel, by decide +kernel⟩, by decide +kernel⟩
set_option maxRecDepth 100000 in
theorem I_X11_needWordCount : Cond.static yX11_needWordCount ∈ zws := z_at 1183 (by decide +kernel) (by decide +kernel)
abbrev F_X11_needApart : zF := (11, cX11_needApart, none, 1, [], false)
def T_X11_needApart : List (Nat × zI) := [(0, (2, 0, 0, 0, 1, [])), (1, (0, 0, 0, 1, 2, [])), (2, (16, 1, 10, 0, 5, [])), (5, (2, 0, 0, 0, 6, [])), (6, (0, 0, 0, 3, 7, [])), (7, (16, 2, 10, 0, 21, [])), (13, (12, 0, 0, 0, 14, [])), (21, (29, 0, 0, 0, 22, []))]
set_option maxRecDepth 100000 in
theorem K_X11_needApart : ztbok F_X11_needApart T_X11_needApart := ztbB_ok (by decide +kernel)
set_option maxRecDepth 100000 in
theorem W_X11_needApart : zMth yX11_needApart (.code yX11_needApart cX11_needApart 1 (none)) 1 := ⟨z_at 1188 (by decide +kernel) (by decide +kernel), z_at 1 (by decide +kernel) (by decide +kernel), ⟨by decide +kernel, by decide +kernel⟩, by decide +kernel⟩
set_option maxRecDepth 100000 in
theorem I_X11_needApart : Cond.static yX11_needApart ∈ zws := z_at 1187 (by decide +kernel) (by decide +kernel)
abbrev F_X11_hourOfTheft : zF := (11, cX11_hourOfTheft, some .int, 3, [], false)
def T_X11_hourOfTheft : List (Nat × zI) := [(0, (4, 0, 0, 0, 1, [])), (1, (18, 11, 1, 0, 4, [])), (4, (18, 6, 0, 0, 7, [])), (7, (2, 1, 0, 0, 8, [])), (8, (20, 0, 0, 0, 9, [])), (9, (17, 0, 12, 0, 14, [])), (12, (0, 0, 0, (-1), 13, [])), (13, (27, 0, 0, 0, 14, [])), (14, (0, 0, 0, 0, 15, [])), (15, (5, 2, 0, 0, 16, [])), (16, (2, 2, 0, 0, 17, [])), (17, (0, 0, 0, 24, 19, [])), (19, (16, 1, 22, 0, 52, [])), (22, (4, 0, 0, 0, 23, [])), (23, (18, 11, 6, 0, 26, [])), (26, (2, 1, 0, 0, 27, [])), (27, (2, 2, 0, 0, 28, [])), (31, (17, 0, 34, 0, 46, [])), (34, (4, 0, 0, 0, 35, [])), (35, (2, 1, 0, 0, 36, [])), (36, (2, 2, 0, 0, 37, [])), (40, (0, 0, 0, (-1), 41, [])), (41, (16, 0, 46, 0, 44, [])), (44, (2, 2, 0, 0, 45, [])), (45, (27, 0, 0, 0, 46, [])), (46, (8, 2, 0, 1, 49, [])), (49, (15, 0, 0, 0, 16, [])), (52, (0, 0, 0, (-1), 53, [])), (53, (27, 0, 0, 0, 54, []))]
set_option maxRecDepth 100000 in
theorem K_X11_hourOfTheft : ztbok F_X11_hourOfTheft T_X11_hourOfTheft := ztbB_ok (by decide +kernel)
set_option maxRecDepth 100000 in
theorem W_X11_hourOfTheft : zMth yX11_hourOfTheft (.code yX11_hourOfTheft cX11_hourOfTheft 3 (some .int)) 1 := ⟨z_at 933 (by decide +kernel) (by decide +kernel), z_at 1 (by decide +kernel) (by decide +kernel), ⟨by decide +kernel, by decide +kernel⟩, by decide +kernel⟩
set_option maxRecDepth 100000 in
theorem I_X11_hourOfTheft : Cond.instanceMethod yX11_hourOfTheft ∈ zws := z_at 932 (by decide +kernel) (by decide +kernel)
set_option maxRecDepth 100000 in
theorem S_X11_hourOfTheft : Cond.selects yX11_hourOfTheft.cls yX11_hourOfTheft yX11_hourOfTheft ∈ zws := z_in (List.mem_append_left _ (List.mem_map.mpr ⟨_, List.mem_of_getElem? (i := 25) rfl, rfl⟩)) rfl
abbrev F_X11_finderAt : zF := (11, cX11_finderAt, some .int, 4, [], false)
def T_X11_finderAt : List (Nat × zI) := [(0, (0, 0, 0, 0, 1, [])), (1, (5, 3, 0, 0, 2, [])), (2, (2, 3, 0, 0, 3, [])), (3, (4, 0, 0, 0, 4, [])), (4, (18, 11, 1, 0, 7, [])), (7, (18, 6, 9, 0, 10, [])), (10, (16, 1, 13, 0, 39, [])), (13, (4, 0, 0, 0, 14, [])), (14, (18, 11, 4, 0, 17, [])), (17, (18, 0, 5, 0, 20, [])), (20, (2, 3, 0, 0, 21, [])), (21, (0, 0, 0, 24, 23, [])), (23, (9, 2, 0, 0, 24, [])), (24, (2, 2, 0, 0, 25, [])), (25, (9, 0, 0, 0, 26, [])), (26, (20, 0, 0, 0, 27, [])), (27, (2, 1, 0, 0, 28, [])), (28, (16, 0, 31, 0, 33, [])), (31, (2, 3, 0, 0, 32, [])), (32, (27, 0, 0, 0, 33, [])), (33, (8, 3, 0, 1, 36, [])), (36, (15, 0, 0, 0, 2, [])), (39, (0, 0, 0, (-1), 40, [])), (40, (27, 0, 0, 0, 41, []))]
set_option maxRecDepth 100000 in
theorem K_X11_finderAt : ztbok F_X11_finderAt T_X11_finderAt := ztbB_ok (by decide +kernel)
set_option maxRecDepth 100000 in
theorem W_X11_finderAt : zMth yX11_finderAt (.code yX11_finderAt cX11_finderAt 4 (some .int)) 2 := ⟨z_at 937 (by decide +kernel) (by decide +kernel), z_at 1 (by decide +kernel) (by decide +kernel), ⟨by decide +kernel, by decide +kernel⟩, by decide +kernel⟩
set_option maxRecDepth 100000 in
theorem I_X11_finderAt : Cond.instanceMethod yX11_finderAt ∈ zws := z_at 936 (by decide +kernel) (by decide +kernel)
set_option maxRecDepth 100000 in
theorem S_X11_finderAt : Cond.selects yX11_finderAt.cls yX11_finderAt yX11_finderAt ∈ zws := z_in (List.mem_append_left _ (List.mem_map.mpr ⟨_, List.mem_of_getElem? (i := 26) rfl, rfl⟩)) rfl
abbrev F_X11_partOfEscape : zF := (11, cX11_partOfEscape, some .int, 7, [], false)
def T_X11_partOfEscape : List (Nat × zI) := [(0, (0, 0, 0, 1, 1, [])), (1, (5, 3, 0, 0, 2, [])), (2, (0, 0, 0, 1, 3, [])), (3, (5, 4, 0, 0, 5, [])), (5, (0, 0, 0, 0, 6, [])), (6, (5, 5, 0, 0, 8, [])), (8, (2, 5, 0, 0, 10, [])), (10, (2, 0, 0, 0, 11, [])), (11, (16, 1, 14, 0, 34, [])), (14, (2, 3, 0, 0, 15, [])), (15, (0, 0, 0, 10, 17, [])), (17, (9, 2, 0, 0, 18, [])), (18, (5, 3, 0, 0, 19, [])), (19, (2, 4, 0, 0, 21, [])), (21, (0, 0, 0, 10, 23, [])), (23, (2, 1, 0, 0, 24, [])), (24, (9, 1, 0, 0, 25, [])), (25, (9, 2, 0, 0, 26, [])), (26, (5, 4, 0, 0, 28, [])), (28, (8, 5, 0, 1, 31, [])), (31, (15, 0, 0, 0, 8, [])), (34, (2, 3, 0, 0, 35, [])), (35, (2, 4, 0, 0, 37, [])), (37, (9, 1, 0, 0, 38, [])), (38, (5, 5, 0, 0, 40, [])), (40, (2, 5, 0, 0, 42, [])), (42, (2, 3, 0, 0, 43, [])), (46, (5, 6, 0, 0, 48, [])), (48, (2, 6, 0, 0, 50, [])), (50, (0, 0, 0, 1, 51, [])), (51, (16, 1, 54, 0, 56, [])), (54, (0, 0, 0, (-1), 55, [])), (55, (27, 0, 0, 0, 56, [])), (56, (2, 2, 0, 0, 57, [])), (57, (17, 0, 60, 0, 68, [])), (60, (2, 5, 0, 0, 62, [])), (62, (2, 6, 0, 0, 64, [])), (64, (9, 9, 0, 0, 65, [])), (65, (15, 0, 0, 0, 72, [])), (68, (2, 3, 0, 0, 69, [])), (69, (2, 6, 0, 0, 71, [])), (71, (9, 9, 0, 0, 72, [])), (72, (27, 0, 0, 0, 73, []))]
set_option maxRecDepth 100000 in
theorem K_X11_partOfEscape : ztbok F_X11_partOfEscape T_X11_partOfEscape := ztbB_ok (by decide +kernel)
set_option maxRecDepth 100000 in
theorem W_X11_partOfEscape : zMth yX11_partOfEscape (.code yX11_partOfEscape cX11_partOfEscape 7 (some .int)) 3 := ⟨z_at 1237 (by decide +kernel) (by decide +kernel), z_at 1 (by decide +kernel) (by decide +kernel), ⟨by decide +kernel, by decide +kernel⟩, by decide +kernel⟩
set_option maxRecDepth 100000 in
theorem I_X11_partOfEscape : Cond.static yX11_partOfEscape ∈ zws := z_at 1236 (by decide +kernel) (by decide +kernel)
abbrev F_X11_commonPart : zF := (11, cX11_commonPart, some .int, 3, [], false)
def T_X11_commonPart : List (Nat × zI) := [(0, (2, 1, 0, 0, 1, [])), (1, (5, 2, 0, 0, 2, [])), (2, (2, 2, 0, 0, 3, [])), (3, (0, 0, 0, 1, 4, [])), (4, (16, 2, 7, 0, 27, [])), (7, (2, 0, 0, 0, 8, [])), (8, (2, 2, 0, 0, 9, [])), (9, (9, 10, 0, 0, 10, [])), (10, (17, 0, 13, 0, 21, [])), (13, (2, 1, 0, 0, 14, [])), (14, (2, 2, 0, 0, 15, [])), (15, (9, 10, 0, 0, 16, [])), (16, (17, 0, 19, 0, 21, [])), (19, (2, 2, 0, 0, 20, [])), (20, (27, 0, 0, 0, 21, [])), (21, (8, 2, 0, (-1), 24, [])), (24, (15, 0, 0, 0, 2, [])), (27, (0, 0, 0, 1, 28, [])), (28, (27, 0, 0, 0, 29, []))]
set_option maxRecDepth 100000 in
theorem K_X11_commonPart : ztbok F_X11_commonPart T_X11_commonPart := ztbB_ok (by decide +kernel)
set_option maxRecDepth 100000 in
theorem W_X11_commonPart : zMth yX11_commonPart (.code yX11_commonPart cX11_commonPart 3 (some .int)) 2 := ⟨z_at 1240 (by decide +kernel) (by decide +kernel), z_at 1 (by decide +kernel) (by decide +kernel), ⟨by decide +kernel, by decide +kernel⟩, by decide +kernel⟩
set_option maxRecDepth 100000 in
theorem I_X11_commonPart : Cond.static yX11_commonPart ∈ zws := z_at 1239 (by decide +kernel) (by decide +kernel)
abbrev F_X11_nthBit : zF := (11, cX11_nthBit, some .int, 4, [], false)
def T_X11_nthBit : List (Nat × zI) := [(0, (0, 0, 0, 0, 1, [])), (1, (5, 2, 0, 0, 2, [])), (2, (0, 0, 0, 0, 3, [])), (3, (5, 3, 0, 0, 4, [])), (4, (2, 3, 0, 0, 5, [])), (5, (0, 0, 0, 32, 7, [])), (7, (16, 1, 10, 0, 35, [])), (10, (2, 0, 0, 0, 11, [])), (11, (2, 3, 0, 0, 12, [])), (12, (9, 8, 0, 0, 13, [])), (13, (0, 0, 0, 1, 14, [])), (14, (9, 3, 0, 0, 15, [])), (15, (0, 0, 0, 1, 16, [])), (16, (16, 0, 19, 0, 29, [])), (19, (2, 2, 0, 0, 20, [])), (20, (2, 1, 0, 0, 21, [])), (21, (16, 0, 24, 0, 26, [])), (24, (2, 3, 0, 0, 25, [])), (25, (27, 0, 0, 0, 26, [])), (26, (8, 2, 0, 1, 29, [])), (29, (8, 3, 0, 1, 32, [])), (32, (15, 0, 0, 0, 4, [])), (35, (0, 0, 0, (-1), 36, [])), (36, (27, 0, 0, 0, 37, []))]
set_option maxRecDepth 100000 in
theorem K_X11_nthBit : ztbok F_X11_nthBit T_X11_nthBit := ztbB_ok (by decide +kernel)
set_option maxRecDepth 100000 in
theorem W_X11_nthBit : zMth yX11_nthBit (.code yX11_nthBit cX11_nthBit 4 (some .int)) 2 := ⟨z_at 477 (by decide +kernel) (by decide +kernel), z_at 1 (by decide +kernel) (by decide +kernel), ⟨by decide +kernel, by decide +kernel⟩, by decide +kernel⟩
set_option maxRecDepth 100000 in
theorem I_X11_nthBit : Cond.static yX11_nthBit ∈ zws := z_at 476 (by decide +kernel) (by decide +kernel)
end
section
abbrev F_X12_init : zF := (12, cX12_init, none, 1, [], true)
def T_X12_init : List (Nat × zI) := [(0, (4, 0, 0, 0, 1, [])), (1, (35, 0, 0, 0, 4, [])), (4, (4, 0, 0, 0, 5, [])), (5, (0, 0, 0, 8, 7, [])), (7, (31, 1, 0, 0, 9, [])), (9, (19, 12, 5, 0, 12, [])), (12, (4, 0, 0, 0, 13, [])), (13, (0, 0, 0, 8, 15, [])), (15, (31, 1, 0, 0, 17, [])), (17, (19, 12, 6, 0, 20, [])), (20, (4, 0, 0, 0, 21, [])), (21, (0, 0, 0, 6, 23, [])), (23, (31, 1, 0, 0, 25, [])), (25, (19, 12, 7, 0, 28, [])), (28, (4, 0, 0, 0, 29, [])), (29, (0, 0, 0, 12, 31, [])), (31, (31, 1, 0, 0, 33, [])), (33, (19, 12, 8, 0, 36, [])), (36, (4, 0, 0, 0, 37, [])), (37, (0, 0, 0, 3, 38, [])), (38, (31, 1, 0, 0, 40, [])), (40, (19, 12, 9, 0, 43, [])), (43, (4, 0, 0, 0, 44, [])), (44, (0, 0, 0, 4, 45, [])), (45, (31, 1, 0, 0, 47, [])), (47, (12, 0, 0, 0, 48, [])), (48, (0, 0, 0, 0, 49, [])), (49, (0, 0, 0, 3, 50, [])), (50, (21, 0, 0, 0, 51, [])), (51, (12, 0, 0, 0, 52, [])), (52, (0, 0, 0, 1, 53, [])), (53, (0, 0, 0, 1, 54, [])), (54, (21, 0, 0, 0, 55, [])), (55, (12, 0, 0, 0, 56, [])), (56, (0, 0, 0, 2, 57, [])), (57, (0, 0, 0, 2, 58, [])), (58, (21, 0, 0, 0, 59, [])), (59, (12, 0, 0, 0, 60, [])), (60, (0, 0, 0, 3, 61, [])), (61, (0, 0, 0, 1, 62, [])), (62, (21, 0, 0, 0, 63, [])), (63, (19, 12, 10, 0, 66, [])), (66, (4, 0, 0, 0, 67, [])), (67, (0, 0, 0, 144, 70, [])), (70, (31, 1, 0, 0, 72, [])), (72, (19, 12, 11, 0, 75, [])), (75, (4, 0, 0, 0, 76, [])), (76, (0, 0, 0, 700, 79, [])), (79, (31, 1, 0, 0, 81, [])), (81, (19, 12, 12, 0, 84, [])), (84, (4, 0, 0, 0, 85, [])), (85, (0, 0, 0, (-1), 86, [])), (86, (19, 12, 15, 0, 89, [])), (89, (4, 0, 0, 0, 90, [])), (90, (0, 0, 0, 3, 91, [])), (91, (31, 1, 0, 0, 93, [])), (93, (19, 12, 16, 0, 96, [])), (96, (4, 0, 0, 0, 97, [])), (97, (0, 0, 0, 8, 99, [])), (99, (31, 1, 0, 0, 101, [])), (101, (19, 12, 29, 0, 104, [])), (104, (4, 0, 0, 0, 105, [])), (105, (0, 0, 0, 8, 107, [])), (107, (31, 1, 0, 0, 109, [])), (109, (19, 12, 30, 0, 112, [])), (112, (4, 0, 0, 0, 113, [])), (113, (0, 0, 0, 6, 115, [])), (115, (31, 1, 0, 0, 117, [])), (117, (19, 12, 31, 0, 120, [])), (120, (4, 0, 0, 0, 121, [])), (121, (0, 0, 0, 12, 123, [])), (123, (31, 1, 0, 0, 125, [])), (125, (19, 12, 32, 0, 128, [])), (128, (4, 0, 0, 0, 129, [])), (129, (0, 0, 0, 3, 130, [])), (130, (31, 1, 0, 0, 132, [])), (132, (19, 12, 33, 0, 135, [])), (135, (4, 0, 0, 0, 136, [])), (136, (0, 0, 0, 4, 137, [])), (137, (31, 1, 0, 0, 139, [])), (139, (19, 12, 34, 0, 142, [])), (142, (4, 0, 0, 0, 143, [])), (143, (0, 0, 0, 144, 146, [])), (146, (31, 1, 0, 0, 148, [])), (148, (19, 12, 35, 0, 151, [])), (151, (4, 0, 0, 0, 152, [])), (152, (0, 0, 0, 36, 154, [])), (154, (31, 1, 0, 0, 156, [])), (156, (19, 12, 37, 0, 159, [])), (159, (4, 0, 0, 0, 160, [])), (160, (0, 0, 0, 144, 163, [])), (163, (31, 1, 0, 0, 165, [])), (165, (19, 12, 38, 0, 168, [])), (168, (4, 0, 0, 0, 169, [])), (169, (0, 0, 0, 72, 171, [])), (171, (31, 1, 0, 0, 173, [])), (173, (19, 12, 39, 0, 176, [])), (176, (4, 0, 0, 0, 177, [])), (177, (0, 0, 0, (-1), 178, [])), (178, (19, 12, 40, 0, 181, [])), (181, (4, 0, 0, 0, 182, [])), (182, (0, 0, 0, 8, 184, [])), (184, (31, 1, 0, 0, 186, [])), (186, (19, 12, 42, 0, 189, [])), (189, (4, 0, 0, 0, 190, [])), (190, (0, 0, 0, 6, 192, [])), (192, (31, 1, 0, 0, 194, [])), (194, (19, 12, 43, 0, 197, [])), (197, (4, 0, 0, 0, 198, [])), (198, (0, 0, 0, 24000, 201, [])), (201, (31, 1, 0, 0, 203, [])), (203, (19, 12, 44, 0, 206, [])), (206, (4, 0, 0, 0, 207, [])), (207, (0, 0, 0, 8, 209, [])), (209, (31, 1, 0, 0, 211, [])), (211, (19, 12, 46, 0, 214, [])), (214, (4, 0, 0, 0, 215, [])), (215, (0, 0, 0, 8, 217, [])), (217, (31, 1, 0, 0, 219, [])), (219, (19, 12, 47, 0, 222, [])), (222, (4, 0, 0, 0, 223, [])), (223, (0, 0, 0, 48, 225, [])), (225, (31, 1, 0, 0, 227, [])), (227, (19, 12, 48, 0, 230, [])), (230, (4, 0, 0, 0, 231, [])), (231, (0, 0, 0, 6, 233, [])), (233, (31, 1, 0, 0, 235, [])), (235, (19, 12, 49, 0, 238, [])), (238, (4, 0, 0, 0, 239, [])), (239, (0, 0, 0, 6, 241, [])), (241, (31, 1, 0, 0, 243, [])), (243, (19, 12, 50, 0, 246, [])), (246, (4, 0, 0, 0, 247, [])), (247, (0, 0, 0, 6, 249, [])), (249, (31, 1, 0, 0, 251, [])), (251, (19, 12, 51, 0, 254, [])), (254, (4, 0, 0, 0, 255, [])), (255, (0, 0, 0, 3, 256, [])), (256, (31, 1, 0, 0, 258, [])), (258, (19, 12, 53, 0, 261, [])), (261, (4, 0, 0, 0, 262, [])), (262, (0, 0, 0, 3, 263, [])), (263, (31, 1, 0, 0, 265, [])), (265, (19, 12, 54, 0, 268, [])), (268, (4, 0, 0, 0, 269, [])), (269, (0, 0, 0, 8, 271, [])), (271, (31, 1, 0, 0, 273, [])), (273, (19, 12, 55, 0, 276, [])), (276, (4, 0, 0, 0, 277, [])), (277, (0, 0, 0, 6, 279, [])), (279, (31, 1, 0, 0, 281, [])), (281, (19, 12, 57, 0, 284, [])), (284, (4, 0, 0, 0, 285, [])), (285, (0, 0, 0, 6, 287, [])), (287, (31, 1, 0, 0, 289, [])), (289, (19, 12, 58, 0, 292, [])), (292, (4, 0, 0, 0, 293, [])), (293, (0, 0, 0, 256, 296, [])), (296, (31, 1, 0, 0, 298, [])), (298, (19, 12, 61, 0, 301, [])), (301, (4, 0, 0, 0, 302, [])), (302, (0, 0, 0, 3, 303, [])), (303, (31, 1, 0, 0, 305, [])), (305, (19, 12, 64, 0, 308, [])), (308, (4, 0, 0, 0, 309, [])), (309, (0, 0, 0, 36, 311, [])), (311, (31, 1, 0, 0, 313, [])), (313, (19, 12, 65, 0, 316, [])), (316, (4, 0, 0, 0, 317, [])), (317, (0, 0, 0, 8, 319, [])), (319, (31, 1, 0, 0, 321, [])), (321, (19, 12, 66, 0, 324, [])), (324, (4, 0, 0, 0, 325, [])), (325, (0, 0, 0, 144, 328, [])), (328, (31, 1, 0, 0, 330, [])), (330, (19, 12, 67, 0, 333, [])), (333, (4, 0, 0, 0, 334, [])), (334, (0, 0, 0, 72, 336, [])), (336, (31, 1, 0, 0, 338, [])), (338, (19, 12, 68, 0, 341, [])), (341, (29, 0, 0, 0, 342, []))]
set_option maxRecDepth 100000 in
theorem K_X12_init : ztbok F_X12_init T_X12_init := ztbB_ok (by decide +kernel)
set_option maxRecDepth 100000 in
theorem W_X12_init : zMth yX12_init (.code yX12_init cX12_init 1 (none)) 0 := ⟨z_at 1245 (by decide +kernel) (by decide +kernel), z_at 13 (by decide +kernel) (by decide +kernel), ⟨by decide +kernel, by decide +kernel⟩, by decide +kernel⟩
set_option maxRecDepth 100000 in
theorem I_X12_init : Cond.instanceMethod yX12_init ∈ zws := z_at 1244 (by decide +kernel) (by decide +kernel)
abbrev F_X12_thrown : zF := (12, cX12_thrown, some .int, 1, [], false)
def T_X12_thrown : List (Nat × zI) := [(0, (4, 0, 0, 0, 1, [])), (1, (18, 12, 0, 0, 4, [])), (4, (27, 0, 0, 0, 5, []))]
set_option maxRecDepth 100000 in
theorem K_X12_thrown : ztbok F_X12_thrown T_X12_thrown := ztbB_ok (by decide +kernel)
set_option maxRecDepth 100000 in
theorem W_X12_thrown : zMth yX12_thrown (.code yX12_thrown cX12_thrown 1 (some .int)) 0 := ⟨z_at 1458 (by decide +kernel) (by decide +kernel), z_at 13 (by decide +kernel) (by decide +kernel), ⟨by decide +kernel, by decide +kernel⟩, by decide +kernel⟩
set_option maxRecDepth 100000 in
theorem I_X12_thrown : Cond.instanceMethod yX12_thrown ∈ zws := z_at 1456 (by decide +kernel) (by decide +kernel)
set_option maxRecDepth 100000 in
theorem S_X12_thrown : Cond.selects yX12_thrown.cls yX12_thrown yX12_thrown ∈ zws := z_at 1457 (by decide +kernel) (by decide +kernel)
abbrev F_X12_right : zF := (12, cX12_right, some .boolean, 3, [], false)
def T_X12_right : List (Nat × zI) := [(0, (4, 0, 0, 0, 1, [])), (1, (18, 12, 0, 0, 4, [])), (4, (17, 0, 7, 0, 16, [])), (7, (2, 1, 0, 0, 8, [])), (8, (17, 0, 11, 0, 16, [])), (11, (4, 0, 0, 0, 12, [])), (12, (2, 2, 0, 0, 13, [])), (13, (19, 12, 0, 0, 16, [])), (16, (4, 0, 0, 0, 17, [])), (17, (18, 12, 0, 0, 20, [])), (20, (17, 0, 23, 0, 27, [])), (23, (0, 0, 0, 1, 24, [])), (24, (15, 0, 0, 0, 28, [])), (27, (0, 0, 0, 0, 28, [])), (28, (27, 0, 0, 0, 29, []))]
set_option maxRecDepth 100000 in
theorem K_X12_right : ztbok F_X12_right T_X12_right := ztbB_ok (by decide +kernel)
set_option maxRecDepth 100000 in
theorem W_X12_right : zMth yX12_right (.code yX12_right cX12_right 3 (some .boolean)) 2 := ⟨z_at 1474 (by decide +kernel) (by decide +kernel), z_at 13 (by decide +kernel) (by decide +kernel), ⟨by decide +kernel, by decide +kernel⟩, by decide +kernel⟩
set_option maxRecDepth 100000 in
theorem I_X12_right : Cond.instanceMethod yX12_right ∈ zws := z_at 1473 (by decide +kernel) (by decide +kernel)
set_option maxRecDepth 100000 in
theorem S_X12_right : Cond.selects yX12_right.cls yX12_right yX12_right ∈ zws := z_in (List.mem_append_left _ (List.mem_map.mpr ⟨_, List.mem_of_getElem? (i := 48) rfl, rfl⟩)) rfl
abbrev F_X12_within : zF := (12, cX12_within, some .boolean, 3, [], false)
def T_X12_within : List (Nat × zI) := [(0, (2, 0, 0, 0, 1, [])), (1, (2, 1, 0, 0, 2, [])), (2, (16, 1, 14, 0, 5, [])), (5, (2, 0, 0, 0, 6, [])), (6, (2, 2, 0, 0, 7, [])), (7, (16, 2, 14, 0, 10, [])), (10, (0, 0, 0, 1, 11, [])), (11, (15, 0, 0, 0, 15, [])), (14, (0, 0, 0, 0, 15, [])), (15, (27, 0, 0, 0, 16, []))]
set_option maxRecDepth 100000 in
theorem K_X12_within : ztbok F_X12_within T_X12_within := ztbB_ok (by decide +kernel)
set_option maxRecDepth 100000 in
theorem W_X12_within : zMth yX12_within (.code yX12_within cX12_within 3 (some .boolean)) 3 := ⟨z_at 1557 (by decide +kernel) (by decide +kernel), z_at 13 (by decide +kernel) (by decide +kernel), ⟨by decide +kernel, by decide +kernel⟩, by decide +kernel⟩
set_option maxRecDepth 100000 in
theorem I_X12_within : Cond.static yX12_within ∈ zws := z_at 1556 (by decide +kernel) (by decide +kernel)
abbrev F_X12_off : zF := (12, cX12_off, some .int, 2, [], false)
def T_X12_off : List (Nat × zI) := [(0, (2, 0, 0, 0, 1, [])), (1, (2, 1, 0, 0, 2, [])), (2, (16, 1, 5, 0, 11, [])), (5, (2, 1, 0, 0, 6, [])), (6, (2, 0, 0, 0, 7, [])), (7, (9, 1, 0, 0, 8, [])), (8, (15, 0, 0, 0, 14, [])), (11, (2, 0, 0, 0, 12, [])), (12, (2, 1, 0, 0, 13, [])), (13, (9, 1, 0, 0, 14, [])), (14, (27, 0, 0, 0, 15, []))]
set_option maxRecDepth 100000 in
theorem K_X12_off : ztbok F_X12_off T_X12_off := ztbB_ok (by decide +kernel)
set_option maxRecDepth 100000 in
theorem W_X12_off : zMth yX12_off (.code yX12_off cX12_off 2 (some .int)) 2 := ⟨z_at 1822 (by decide +kernel) (by decide +kernel), z_at 13 (by decide +kernel) (by decide +kernel), ⟨by decide +kernel, by decide +kernel⟩, by decide +kernel⟩
set_option maxRecDepth 100000 in
theorem I_X12_off : Cond.static yX12_off ∈ zws := z_at 1821 (by decide +kernel) (by decide +kernel)
abbrev F_X12_bits : zF := (12, cX12_bits, some .int, 3, [], false)
def T_X12_bits : List (Nat × zI) := [(0, (0, 0, 0, 0, 1, [])), (1, (5, 1, 0, 0, 2, [])), (2, (0, 0, 0, 0, 3, [])), (3, (5, 2, 0, 0, 4, [])), (4, (2, 2, 0, 0, 5, [])), (5, (0, 0, 0, 18, 7, [])), (7, (16, 1, 10, 0, 24, [])), (10, (2, 1, 0, 0, 11, [])), (11, (2, 0, 0, 0, 12, [])), (12, (2, 2, 0, 0, 13, [])), (13, (9, 7, 0, 0, 14, [])), (14, (0, 0, 0, 1, 15, [])), (15, (9, 3, 0, 0, 16, [])), (16, (9, 0, 0, 0, 17, [])), (17, (5, 1, 0, 0, 18, [])), (18, (8, 2, 0, 1, 21, [])), (21, (15, 0, 0, 0, 4, [])), (24, (2, 1, 0, 0, 25, [])), (25, (27, 0, 0, 0, 26, []))]
set_option maxRecDepth 100000 in
theorem K_X12_bits : ztbok F_X12_bits T_X12_bits := ztbB_ok (by decide +kernel)
set_option maxRecDepth 100000 in
theorem W_X12_bits : zMth yX12_bits (.code yX12_bits cX12_bits 3 (some .int)) 1 := ⟨z_at 1592 (by decide +kernel) (by decide +kernel), z_at 13 (by decide +kernel) (by decide +kernel), ⟨by decide +kernel, by decide +kernel⟩, by decide +kernel⟩
set_option maxRecDepth 100000 in
theorem I_X12_bits : Cond.static yX12_bits ∈ zws := z_at 1591 (by decide +kernel) (by decide +kernel)
abbrev F_X12_copies : zF := (12, cX12_copies, none, 4, [], false)
def T_X12_copies : List (Nat × zI) := [(0, (0, 0, 0, 0, 1, [])), (1, (5, 3, 0, 0, 2, [])), (2, (2, 3, 0, 0, 3, [])), (3, (4, 1, 0, 0, 4, [])), (4, (26, 0, 0, 0, 5, [])), (5, (16, 1, 8, 0, 20, [])), (8, (4, 2, 0, 0, 9, [])), (9, (2, 3, 0, 0, 10, [])), (10, (4, 1, 0, 0, 11, [])), (11, (2, 3, 0, 0, 12, [])), (12, (20, 0, 0, 0, 13, [])), (13, (21, 0, 0, 0, 14, [])), (14, (8, 3, 0, 1, 17, [])), (17, (15, 0, 0, 0, 2, [])), (20, (29, 0, 0, 0, 21, []))]
set_option maxRecDepth 100000 in
theorem K_X12_copies : ztbok F_X12_copies T_X12_copies := ztbB_ok (by decide +kernel)
set_option maxRecDepth 100000 in
theorem W_X12_copies : zMth yX12_copies (.code yX12_copies cX12_copies 4 (none)) 2 := ⟨z_at 1543 (by decide +kernel) (by decide +kernel), z_at 13 (by decide +kernel) (by decide +kernel), ⟨by decide +kernel, by decide +kernel⟩, by decide +kernel⟩
set_option maxRecDepth 100000 in
theorem I_X12_copies : Cond.instanceMethod yX12_copies ∈ zws := z_at 1542 (by decide +kernel) (by decide +kernel)
set_option maxRecDepth 100000 in
theorem S_X12_copies : Cond.selects yX12_copies.cls yX12_copies yX12_copies ∈ zws := z_in (List.mem_append_left _ (List.mem_map.mpr ⟨_, List.mem_of_getElem? (i := 62) rfl, rfl⟩)) rfl
abbrev F_X12_feed : zF := (12, cX12_feed, some .int, 6, [], false)
def T_X12_feed : List (Nat × zI) := [(0, (4, 0, 0, 0, 1, [])), (1, (0, 0, 0, 0, 2, [])), (2, (19, 12, 0, 0, 5, [])), (5, (4, 0, 0, 0, 6, [])), (6, (18, 12, 13, 0, 9, [])), (9, (0, 0, 0, 20, 11, [])), (11, (9, 0, 0, 0, 12, [])), (12, (0, 0, 0, 700, 15, [])), (15, (16, 2, 18, 0, 20, [])), (18, (0, 0, 0, (-1), 19, [])), (19, (27, 0, 0, 0, 20, [])), (20, (4, 0, 0, 0, 21, [])), (21, (2, 1, 0, 0, 22, [])), (25, (4, 0, 0, 0, 26, [])), (26, (2, 2, 0, 0, 27, [])), (30, (4, 0, 0, 0, 31, [])), (31, (2, 3, 0, 0, 32, [])), (35, (4, 0, 0, 0, 36, [])), (36, (2, 4, 0, 0, 38, [])), (41, (4, 0, 0, 0, 42, [])), (42, (2, 5, 0, 0, 44, [])), (47, (4, 0, 0, 0, 48, [])), (48, (18, 12, 13, 0, 51, [])), (51, (27, 0, 0, 0, 52, []))]
set_option maxRecDepth 100000 in
theorem K_X12_feed : ztbok F_X12_feed T_X12_feed := ztbB_ok (by decide +kernel)
set_option maxRecDepth 100000 in
theorem W_X12_feed : zMth yX12_feed (.code yX12_feed cX12_feed 6 (some .int)) 5 := ⟨z_at 1462 (by decide +kernel) (by decide +kernel), z_at 13 (by decide +kernel) (by decide +kernel), ⟨by decide +kernel, by decide +kernel⟩, by decide +kernel⟩
set_option maxRecDepth 100000 in
theorem I_X12_feed : Cond.instanceMethod yX12_feed ∈ zws := z_at 1460 (by decide +kernel) (by decide +kernel)
set_option maxRecDepth 100000 in
theorem S_X12_feed : Cond.selects yX12_feed.cls yX12_feed yX12_feed ∈ zws := z_at 1461 (by decide +kernel) (by decide +kernel)
abbrev F_X12_lays : zF := (12, cX12_lays, none, 3, [], false)
def T_X12_lays : List (Nat × zI) := [(0, (0, 0, 0, 24, 2, [])), (2, (5, 2, 0, 0, 3, [])), (3, (2, 2, 0, 0, 4, [])), (4, (17, 1, 39, 0, 7, [])), (7, (4, 0, 0, 0, 8, [])), (8, (18, 12, 12, 0, 11, [])), (11, (4, 0, 0, 0, 12, [])), (12, (18, 12, 13, 0, 15, [])), (15, (2, 1, 0, 0, 16, [])), (16, (2, 2, 0, 0, 17, [])), (17, (9, 7, 0, 0, 18, [])), (18, (0, 0, 0, 255, 21, [])), (21, (9, 3, 0, 0, 22, [])), (22, (21, 0, 0, 0, 23, [])), (23, (4, 0, 0, 0, 24, [])), (24, (12, 0, 0, 0, 25, [])), (25, (18, 12, 13, 0, 28, [])), (28, (0, 0, 0, 1, 29, [])), (29, (9, 0, 0, 0, 30, [])), (30, (19, 12, 13, 0, 33, [])), (33, (8, 2, 0, (-8), 36, [])), (36, (15, 0, 0, 0, 3, [])), (39, (29, 0, 0, 0, 40, []))]
set_option maxRecDepth 100000 in
theorem K_X12_lays : ztbok F_X12_lays T_X12_lays := ztbB_ok (by decide +kernel)
set_option maxRecDepth 100000 in
theorem W_X12_lays : zMth yX12_lays (.code yX12_lays cX12_lays 3 (none)) 1 := ⟨z_at 1466 (by decide +kernel) (by decide +kernel), z_at 13 (by decide +kernel) (by decide +kernel), ⟨by decide +kernel, by decide +kernel⟩, by decide +kernel⟩
set_option maxRecDepth 100000 in
theorem I_X12_lays : Cond.instanceMethod yX12_lays ∈ zws := z_at 1465 (by decide +kernel) (by decide +kernel)
set_option maxRecDepth 100000 in
theorem S_X12_lays : Cond.selects yX12_lays.cls yX12_lays yX12_lays ∈ zws := z_in (List.mem_append_left _ (List.mem_map.mpr ⟨_, List.mem_of_getElem? (i := 47) rfl, rfl⟩)) rfl
abbrev F_X12_byteAt : zF := (12, cX12_byteAt, some .int, 2, [], false)
def T_X12_byteAt : List (Nat × zI) := [(0, (2, 1, 0, 0, 1, [])), (1, (4, 0, 0, 0, 2, [])), (2, (18, 12, 17, 0, 5, [])), (5, (16, 1, 8, 0, 17, [])), (8, (4, 0, 0, 0, 9, [])), (9, (18, 12, 12, 0, 12, [])), (12, (2, 1, 0, 0, 13, [])), (13, (20, 0, 0, 0, 14, [])), (14, (15, 0, 0, 0, 18, [])), (17, (0, 0, 0, 0, 18, [])), (18, (27, 0, 0, 0, 19, []))]
set_option maxRecDepth 100000 in
theorem K_X12_byteAt : ztbok F_X12_byteAt T_X12_byteAt := ztbB_ok (by decide +kernel)
set_option maxRecDepth 100000 in
theorem W_X12_byteAt : zMth yX12_byteAt (.code yX12_byteAt cX12_byteAt 2 (some .int)) 1 := ⟨z_at 1482 (by decide +kernel) (by decide +kernel), z_at 13 (by decide +kernel) (by decide +kernel), ⟨by decide +kernel, by decide +kernel⟩, by decide +kernel⟩
set_option maxRecDepth 100000 in
theorem I_X12_byteAt : Cond.instanceMethod yX12_byteAt ∈ zws := z_at 1481 (by decide +kernel) (by decide +kernel)
set_option maxRecDepth 100000 in
theorem S_X12_byteAt : Cond.selects yX12_byteAt.cls yX12_byteAt yX12_byteAt ∈ zws := z_in (List.mem_append_left _ (List.mem_map.mpr ⟨_, List.mem_of_getElem? (i := 50) rfl, rfl⟩)) rfl
abbrev F_X12_isLetter : zF := (12, cX12_isLetter, some .boolean, 1, [], false)
def T_X12_isLetter : List (Nat × zI) := [(0, (2, 0, 0, 0, 1, [])), (1, (0, 0, 0, 97, 3, [])), (3, (16, 1, 16, 0, 6, [])), (6, (2, 0, 0, 0, 7, [])), (7, (0, 0, 0, 122, 9, [])), (9, (16, 2, 16, 0, 12, [])), (12, (0, 0, 0, 1, 13, [])), (13, (15, 0, 0, 0, 17, [])), (16, (0, 0, 0, 0, 17, [])), (17, (27, 0, 0, 0, 18, []))]
set_option maxRecDepth 100000 in
theorem K_X12_isLetter : ztbok F_X12_isLetter T_X12_isLetter := ztbB_ok (by decide +kernel)
set_option maxRecDepth 100000 in
theorem W_X12_isLetter : zMth yX12_isLetter (.code yX12_isLetter cX12_isLetter 1 (some .boolean)) 1 := ⟨z_at 1485 (by decide +kernel) (by decide +kernel), z_at 13 (by decide +kernel) (by decide +kernel), ⟨by decide +kernel, by decide +kernel⟩, by decide +kernel⟩
set_option maxRecDepth 100000 in
theorem I_X12_isLetter : Cond.static yX12_isLetter ∈ zws := z_at 1484 (by decide +kernel) (by decide +kernel)
abbrev F_X12_isDigit : zF := (12, cX12_isDigit, some .boolean, 1, [], false)
def T_X12_isDigit : List (Nat × zI) := [(0, (2, 0, 0, 0, 1, [])), (1, (0, 0, 0, 48, 3, [])), (3, (16, 1, 16, 0, 6, [])), (6, (2, 0, 0, 0, 7, [])), (7, (0, 0, 0, 57, 9, [])), (9, (16, 2, 16, 0, 12, [])), (12, (0, 0, 0, 1, 13, [])), (13, (15, 0, 0, 0, 17, [])), (16, (0, 0, 0, 0, 17, [])), (17, (27, 0, 0, 0, 18, []))]
set_option maxRecDepth 100000 in
theorem K_X12_isDigit : ztbok F_X12_isDigit T_X12_isDigit := ztbB_ok (by decide +kernel)
set_option maxRecDepth 100000 in
theorem W_X12_isDigit : zMth yX12_isDigit (.code yX12_isDigit cX12_isDigit 1 (some .boolean)) 1 := ⟨z_at 1488 (by decide +kernel) (by decide +kernel), z_at 13 (by decide +kernel) (by decide +kernel), ⟨by decide +kernel, by decide +kernel⟩, by decide +kernel⟩
set_option maxRecDepth 100000 in
theorem I_X12_isDigit : Cond.static yX12_isDigit ∈ zws := z_at 1487 (by decide +kernel) (by decide +kernel)
abbrev F_X12_steps : zF := (12, cX12_steps, none, 2, [], false)
def T_X12_steps : List (Nat × zI) := [(0, (4, 0, 0, 0, 1, [])), (1, (18, 12, 18, 0, 4, [])), (4, (4, 0, 0, 0, 5, [])), (5, (18, 12, 17, 0, 8, [])), (8, (16, 1, 11, 0, 50, [])), (11, (4, 0, 0, 0, 12, [])), (12, (4, 0, 0, 0, 13, [])), (13, (18, 12, 18, 0, 16, [])), (19, (0, 0, 0, 32, 21, [])), (21, (16, 0, 37, 0, 24, [])), (24, (4, 0, 0, 0, 25, [])), (25, (4, 0, 0, 0, 26, [])), (26, (18, 12, 18, 0, 29, [])), (32, (0, 0, 0, 10, 34, [])), (34, (16, 0, 37, 0, 50, [])), (37, (4, 0, 0, 0, 38, [])), (38, (12, 0, 0, 0, 39, [])), (39, (18, 12, 18, 0, 42, [])), (42, (0, 0, 0, 1, 43, [])), (43, (9, 0, 0, 0, 44, [])), (44, (19, 12, 18, 0, 47, [])), (47, (15, 0, 0, 0, 0, [])), (50, (4, 0, 0, 0, 51, [])), (51, (4, 0, 0, 0, 52, [])), (52, (18, 12, 18, 0, 55, [])), (55, (19, 12, 20, 0, 58, [])), (58, (4, 0, 0, 0, 59, [])), (59, (1, 0, 0, 0, 60, [])), (60, (19, 12, 23, 0, 63, [])), (63, (4, 0, 0, 0, 64, [])), (64, (0, 0, 0, 0, 65, [])), (65, (19, 12, 22, 0, 68, [])), (68, (4, 0, 0, 0, 69, [])), (69, (4, 0, 0, 0, 70, [])), (70, (18, 12, 18, 0, 73, [])), (76, (5, 1, 0, 0, 77, [])), (77, (4, 0, 0, 0, 78, [])), (78, (18, 12, 18, 0, 81, [])), (81, (4, 0, 0, 0, 82, [])), (82, (18, 12, 17, 0, 85, [])), (85, (16, 1, 96, 0, 88, [])), (88, (4, 0, 0, 0, 89, [])), (89, (0, 0, 0, 0, 90, [])), (90, (19, 12, 19, 0, 93, [])), (93, (15, 0, 0, 0, 278, [])), (96, (2, 1, 0, 0, 97, [])), (100, (17, 0, 175, 0, 103, [])), (103, (4, 0, 0, 0, 104, [])), (104, (4, 0, 0, 0, 105, [])), (105, (18, 12, 18, 0, 108, [])), (114, (17, 0, 167, 0, 117, [])), (117, (4, 0, 0, 0, 118, [])), (118, (18, 12, 18, 0, 121, [])), (121, (4, 0, 0, 0, 122, [])), (122, (18, 12, 20, 0, 125, [])), (125, (9, 1, 0, 0, 126, [])), (126, (0, 0, 0, 6, 128, [])), (128, (16, 1, 131, 0, 154, [])), (131, (4, 0, 0, 0, 132, [])), (132, (4, 0, 0, 0, 133, [])), (133, (18, 12, 23, 0, 136, [])), (136, (0, 0, 0, 5, 137, [])), (137, (11, 3, 0, 0, 138, [])), (138, (4, 0, 0, 0, 139, [])), (139, (4, 0, 0, 0, 140, [])), (140, (18, 12, 18, 0, 143, [])), (146, (0, 0, 0, 96, 148, [])), (148, (9, 1, 0, 0, 149, [])), (149, (10, 0, 0, 0, 150, [])), (150, (11, 0, 0, 0, 151, [])), (151, (19, 12, 23, 0, 154, [])), (154, (4, 0, 0, 0, 155, [])), (155, (12, 0, 0, 0, 156, [])), (156, (18, 12, 18, 0, 159, [])), (159, (0, 0, 0, 1, 160, [])), (160, (9, 0, 0, 0, 161, [])), (161, (19, 12, 18, 0, 164, [])), (164, (15, 0, 0, 0, 103, [])), (167, (4, 0, 0, 0, 168, [])), (168, (0, 0, 0, 1, 169, [])), (169, (19, 12, 19, 0, 172, [])), (172, (15, 0, 0, 0, 278, [])), (175, (2, 1, 0, 0, 176, [])), (179, (17, 0, 253, 0, 182, [])), (182, (4, 0, 0, 0, 183, [])), (183, (4, 0, 0, 0, 184, [])), (184, (18, 12, 18, 0, 187, [])), (193, (17, 0, 245, 0, 196, [])), (196, (4, 0, 0, 0, 197, [])), (197, (18, 12, 18, 0, 200, [])), (200, (4, 0, 0, 0, 201, [])), (201, (18, 12, 20, 0, 204, [])), (204, (9, 1, 0, 0, 205, [])), (205, (0, 0, 0, 3, 206, [])), (206, (16, 1, 209, 0, 232, [])), (209, (4, 0, 0, 0, 210, [])), (210, (0, 0, 0, 10, 212, [])), (212, (4, 0, 0, 0, 213, [])), (213, (18, 12, 22, 0, 216, [])), (216, (9, 2, 0, 0, 217, [])), (217, (4, 0, 0, 0, 218, [])), (218, (4, 0, 0, 0, 219, [])), (219, (18, 12, 18, 0, 222, [])), (225, (9, 0, 0, 0, 226, [])), (226, (0, 0, 0, 48, 228, [])), (228, (9, 1, 0, 0, 229, [])), (229, (19, 12, 22, 0, 232, [])), (232, (4, 0, 0, 0, 233, [])), (233, (12, 0, 0, 0, 234, [])), (234, (18, 12, 18, 0, 237, [])), (237, (0, 0, 0, 1, 238, [])), (238, (9, 0, 0, 0, 239, [])), (239, (19, 12, 18, 0, 242, [])), (242, (15, 0, 0, 0, 182, [])), (245, (4, 0, 0, 0, 246, [])), (246, (0, 0, 0, 2, 247, [])), (247, (19, 12, 19, 0, 250, [])), (250, (15, 0, 0, 0, 278, [])), (253, (4, 0, 0, 0, 254, [])), (254, (12, 0, 0, 0, 255, [])), (255, (18, 12, 18, 0, 258, [])), (258, (0, 0, 0, 1, 259, [])), (259, (9, 0, 0, 0, 260, [])), (260, (19, 12, 18, 0, 263, [])), (263, (4, 0, 0, 0, 264, [])), (264, (2, 1, 0, 0, 265, [])), (265, (0, 0, 0, 59, 267, [])), (267, (16, 0, 270, 0, 274, [])), (270, (0, 0, 0, 3, 271, [])), (271, (15, 0, 0, 0, 275, [])), (274, (0, 0, 0, 4, 275, [])), (275, (19, 12, 19, 0, 278, [])), (278, (4, 0, 0, 0, 279, [])), (279, (4, 0, 0, 0, 280, [])), (280, (18, 12, 18, 0, 283, [])), (283, (4, 0, 0, 0, 284, [])), (284, (18, 12, 20, 0, 287, [])), (287, (9, 1, 0, 0, 288, [])), (288, (19, 12, 21, 0, 291, [])), (291, (29, 0, 0, 0, 292, []))]
set_option maxRecDepth 100000 in
theorem K_X12_steps : ztbok F_X12_steps T_X12_steps := ztbB_ok (by decide +kernel)
set_option maxRecDepth 100000 in
theorem W_X12_steps : zMth yX12_steps (.code yX12_steps cX12_steps 2 (none)) 0 := ⟨z_at 1478 (by decide +kernel) (by decide +kernel), z_at 13 (by decide +kernel) (by decide +kernel), ⟨by decide +kernel, by decide +kernel⟩, by decide +kernel⟩
set_option maxRecDepth 100000 in
theorem I_X12_steps : Cond.instanceMethod yX12_steps ∈ zws := z_at 1477 (by decide +kernel) (by decide +kernel)
set_option maxRecDepth 100000 in
theorem S_X12_steps : Cond.selects yX12_steps.cls yX12_steps yX12_steps ∈ zws := z_in (List.mem_append_left _ (List.mem_map.mpr ⟨_, List.mem_of_getElem? (i := 49) rfl, rfl⟩)) rfl
abbrev F_X12_spelled : zF := (12, cX12_spelled, some .long, 8, [], false)
def T_X12_spelled : List (Nat × zI) := [(0, (2, 0, 0, 0, 1, [])), (1, (10, 0, 0, 0, 2, [])), (2, (1, 96, 0, 0, 5, [])), (5, (11, 1, 0, 0, 6, [])), (6, (0, 0, 0, 5, 7, [])), (7, (11, 3, 0, 0, 8, [])), (8, (2, 1, 0, 0, 9, [])), (9, (0, 0, 0, 96, 11, [])), (11, (9, 1, 0, 0, 12, [])), (12, (10, 0, 0, 0, 13, [])), (13, (11, 0, 0, 0, 14, [])), (14, (6, 6, 0, 0, 16, [])), (16, (2, 2, 0, 0, 17, [])), (17, (17, 0, 32, 0, 20, [])), (20, (3, 6, 0, 0, 22, [])), (22, (0, 0, 0, 5, 23, [])), (23, (11, 3, 0, 0, 24, [])), (24, (2, 2, 0, 0, 25, [])), (25, (0, 0, 0, 96, 27, [])), (27, (9, 1, 0, 0, 28, [])), (28, (10, 0, 0, 0, 29, [])), (29, (11, 0, 0, 0, 30, [])), (30, (6, 6, 0, 0, 32, [])), (32, (2, 3, 0, 0, 33, [])), (33, (17, 0, 48, 0, 36, [])), (36, (3, 6, 0, 0, 38, [])), (38, (0, 0, 0, 5, 39, [])), (39, (11, 3, 0, 0, 40, [])), (40, (2, 3, 0, 0, 41, [])), (41, (0, 0, 0, 96, 43, [])), (43, (9, 1, 0, 0, 44, [])), (44, (10, 0, 0, 0, 45, [])), (45, (11, 0, 0, 0, 46, [])), (46, (6, 6, 0, 0, 48, [])), (48, (2, 4, 0, 0, 50, [])), (50, (17, 0, 66, 0, 53, [])), (53, (3, 6, 0, 0, 55, [])), (55, (0, 0, 0, 5, 56, [])), (56, (11, 3, 0, 0, 57, [])), (57, (2, 4, 0, 0, 59, [])), (59, (0, 0, 0, 96, 61, [])), (61, (9, 1, 0, 0, 62, [])), (62, (10, 0, 0, 0, 63, [])), (63, (11, 0, 0, 0, 64, [])), (64, (6, 6, 0, 0, 66, [])), (66, (2, 5, 0, 0, 68, [])), (68, (17, 0, 84, 0, 71, [])), (71, (3, 6, 0, 0, 73, [])), (73, (0, 0, 0, 5, 74, [])), (74, (11, 3, 0, 0, 75, [])), (75, (2, 5, 0, 0, 77, [])), (77, (0, 0, 0, 96, 79, [])), (79, (9, 1, 0, 0, 80, [])), (80, (10, 0, 0, 0, 81, [])), (81, (11, 0, 0, 0, 82, [])), (82, (6, 6, 0, 0, 84, [])), (84, (3, 6, 0, 0, 86, [])), (86, (28, 0, 0, 0, 87, []))]
set_option maxRecDepth 100000 in
theorem K_X12_spelled : ztbok F_X12_spelled T_X12_spelled := ztbB_ok (by decide +kernel)
set_option maxRecDepth 100000 in
theorem W_X12_spelled : zMth yX12_spelled (.code yX12_spelled cX12_spelled 8 (some .long)) 6 := ⟨z_at 1506 (by decide +kernel) (by decide +kernel), z_at 13 (by decide +kernel) (by decide +kernel), ⟨by decide +kernel, by decide +kernel⟩, by decide +kernel⟩
set_option maxRecDepth 100000 in
theorem I_X12_spelled : Cond.static yX12_spelled ∈ zws := z_at 1505 (by decide +kernel) (by decide +kernel)
abbrev F_X12_letters : zF := (12, cX12_letters, some .long, 1, [], false)
def T_X12_letters : List (Nat × zI) := [(0, (2, 0, 0, 0, 1, [])), (1, (32, 0, 254, 0, 0, [68, 81, 97, 112, 126, 138, 152, 166, 181, 195, 209, 225, 241])), (68, (0, 0, 0, 111, 70, [])), (70, (0, 0, 0, 117, 72, [])), (72, (0, 0, 0, 116, 74, [])), (74, (0, 0, 0, 0, 75, [])), (75, (0, 0, 0, 0, 76, [])), (76, (0, 0, 0, 0, 77, [])), (80, (28, 0, 0, 0, 81, [])), (81, (0, 0, 0, 97, 83, [])), (83, (0, 0, 0, 115, 85, [])), (85, (0, 0, 0, 108, 87, [])), (87, (0, 0, 0, 101, 89, [])), (89, (0, 0, 0, 101, 91, [])), (91, (0, 0, 0, 112, 93, [])), (96, (28, 0, 0, 0, 97, [])), (97, (0, 0, 0, 99, 99, [])), (99, (0, 0, 0, 114, 101, [])), (101, (0, 0, 0, 111, 103, [])), (103, (0, 0, 0, 115, 105, [])), (105, (0, 0, 0, 115, 107, [])), (107, (0, 0, 0, 0, 108, [])), (111, (28, 0, 0, 0, 112, [])), (112, (0, 0, 0, 99, 114, [])), (114, (0, 0, 0, 97, 116, [])), (116, (0, 0, 0, 108, 118, [])), (118, (0, 0, 0, 109, 120, [])), (120, (0, 0, 0, 0, 121, [])), (121, (0, 0, 0, 0, 122, [])), (125, (28, 0, 0, 0, 126, [])), (126, (0, 0, 0, 97, 128, [])), (128, (0, 0, 0, 116, 130, [])), (130, (0, 0, 0, 0, 131, [])), (131, (0, 0, 0, 0, 132, [])), (132, (0, 0, 0, 0, 133, [])), (133, (0, 0, 0, 0, 134, [])), (137, (28, 0, 0, 0, 138, [])), (138, (0, 0, 0, 110, 140, [])), (140, (0, 0, 0, 111, 142, [])), (142, (0, 0, 0, 110, 144, [])), (144, (0, 0, 0, 101, 146, [])), (146, (0, 0, 0, 0, 147, [])), (147, (0, 0, 0, 0, 148, [])), (151, (28, 0, 0, 0, 152, [])), (152, (0, 0, 0, 108, 154, [])), (154, (0, 0, 0, 101, 156, [])), (156, (0, 0, 0, 102, 158, [])), (158, (0, 0, 0, 116, 160, [])), (160, (0, 0, 0, 0, 161, [])), (161, (0, 0, 0, 0, 162, [])), (165, (28, 0, 0, 0, 166, [])), (166, (0, 0, 0, 114, 168, [])), (168, (0, 0, 0, 105, 170, [])), (170, (0, 0, 0, 103, 172, [])), (172, (0, 0, 0, 104, 174, [])), (174, (0, 0, 0, 116, 176, [])), (176, (0, 0, 0, 0, 177, [])), (180, (28, 0, 0, 0, 181, [])), (181, (0, 0, 0, 98, 183, [])), (183, (0, 0, 0, 111, 185, [])), (185, (0, 0, 0, 116, 187, [])), (187, (0, 0, 0, 104, 189, [])), (189, (0, 0, 0, 0, 190, [])), (190, (0, 0, 0, 0, 191, [])), (194, (28, 0, 0, 0, 195, [])), (195, (0, 0, 0, 114, 197, [])), (197, (0, 0, 0, 111, 199, [])), (199, (0, 0, 0, 111, 201, [])), (201, (0, 0, 0, 109, 203, [])), (203, (0, 0, 0, 0, 204, [])), (204, (0, 0, 0, 0, 205, [])), (208, (28, 0, 0, 0, 209, [])), (209, (0, 0, 0, 108, 211, [])), (211, (0, 0, 0, 111, 213, [])), (213, (0, 0, 0, 100, 215, [])), (215, (0, 0, 0, 103, 217, [])), (217, (0, 0, 0, 101, 219, [])), (219, (0, 0, 0, 114, 221, [])), (224, (28, 0, 0, 0, 225, [])), (225, (0, 0, 0, 102, 227, [])), (227, (0, 0, 0, 105, 229, [])), (229, (0, 0, 0, 110, 231, [])), (231, (0, 0, 0, 100, 233, [])), (233, (0, 0, 0, 101, 235, [])), (235, (0, 0, 0, 114, 237, [])), (240, (28, 0, 0, 0, 241, [])), (241, (0, 0, 0, 109, 243, [])), (243, (0, 0, 0, 97, 245, [])), (245, (0, 0, 0, 121, 247, [])), (247, (0, 0, 0, 0, 248, [])), (248, (0, 0, 0, 0, 249, [])), (249, (0, 0, 0, 0, 250, [])), (253, (28, 0, 0, 0, 254, [])), (254, (0, 0, 0, 108, 256, [])), (256, (0, 0, 0, 97, 258, [])), (258, (0, 0, 0, 119, 260, [])), (260, (0, 0, 0, 0, 261, [])), (261, (0, 0, 0, 0, 262, [])), (262, (0, 0, 0, 0, 263, [])), (266, (28, 0, 0, 0, 267, []))]
set_option maxRecDepth 100000 in
theorem K_X12_letters : ztbok F_X12_letters T_X12_letters := ztbB_ok (by decide +kernel)
set_option maxRecDepth 100000 in
theorem W_X12_letters : zMth yX12_letters (.code yX12_letters cX12_letters 1 (some .long)) 1 := ⟨z_at 1503 (by decide +kernel) (by decide +kernel), z_at 13 (by decide +kernel) (by decide +kernel), ⟨by decide +kernel, by decide +kernel⟩, by decide +kernel⟩
set_option maxRecDepth 100000 in
theorem I_X12_letters : Cond.static yX12_letters ∈ zws := z_at 1502 (by decide +kernel) (by decide +kernel)
abbrev F_X12_is : zF := (12, cX12_is, some .boolean, 2, [], false)
def T_X12_is : List (Nat × zI) := [(0, (4, 0, 0, 0, 1, [])), (1, (18, 12, 19, 0, 4, [])), (4, (0, 0, 0, 1, 5, [])), (5, (16, 0, 8, 0, 33, [])), (8, (4, 0, 0, 0, 9, [])), (9, (18, 12, 21, 0, 12, [])), (12, (0, 0, 0, 7, 14, [])), (14, (16, 1, 17, 0, 33, [])), (17, (4, 0, 0, 0, 18, [])), (18, (18, 12, 23, 0, 21, [])), (21, (2, 1, 0, 0, 22, [])), (25, (11, 2, 0, 0, 26, [])), (26, (17, 0, 29, 0, 33, [])), (29, (0, 0, 0, 1, 30, [])), (30, (15, 0, 0, 0, 34, [])), (33, (0, 0, 0, 0, 34, [])), (34, (27, 0, 0, 0, 35, []))]
set_option maxRecDepth 100000 in
theorem K_X12_is : ztbok F_X12_is T_X12_is := ztbB_ok (by decide +kernel)
set_option maxRecDepth 100000 in
theorem W_X12_is : zMth yX12_is (.code yX12_is cX12_is 2 (some .boolean)) 1 := ⟨z_at 1500 (by decide +kernel) (by decide +kernel), z_at 13 (by decide +kernel) (by decide +kernel), ⟨by decide +kernel, by decide +kernel⟩, by decide +kernel⟩
set_option maxRecDepth 100000 in
theorem I_X12_is : Cond.instanceMethod yX12_is ∈ zws := z_at 1499 (by decide +kernel) (by decide +kernel)
set_option maxRecDepth 100000 in
theorem S_X12_is : Cond.selects yX12_is.cls yX12_is yX12_is ∈ zws := z_in (List.mem_append_left _ (List.mem_map.mpr ⟨_, List.mem_of_getElem? (i := 53) rfl, rfl⟩)) rfl
abbrev F_X12_wrong : zF := (12, cX12_wrong, none, 2, [], false)
def T_X12_wrong : List (Nat × zI) := [(0, (4, 0, 0, 0, 1, [])), (1, (18, 12, 14, 0, 4, [])), (4, (17, 0, 8, 0, 7, [])), (7, (29, 0, 0, 0, 8, [])), (8, (4, 0, 0, 0, 9, [])), (9, (2, 1, 0, 0, 10, [])), (10, (19, 12, 14, 0, 13, [])), (13, (4, 0, 0, 0, 14, [])), (14, (4, 0, 0, 0, 15, [])), (15, (18, 12, 20, 0, 18, [])), (18, (19, 12, 15, 0, 21, [])), (21, (29, 0, 0, 0, 22, []))]
set_option maxRecDepth 100000 in
theorem K_X12_wrong : ztbok F_X12_wrong T_X12_wrong := ztbB_ok (by decide +kernel)
set_option maxRecDepth 100000 in
theorem W_X12_wrong : zMth yX12_wrong (.code yX12_wrong cX12_wrong 2 (none)) 1 := ⟨z_at 1511 (by decide +kernel) (by decide +kernel), z_at 13 (by decide +kernel) (by decide +kernel), ⟨by decide +kernel, by decide +kernel⟩, by decide +kernel⟩
set_option maxRecDepth 100000 in
theorem I_X12_wrong : Cond.instanceMethod yX12_wrong ∈ zws := z_at 1510 (by decide +kernel) (by decide +kernel)
set_option maxRecDepth 100000 in
theorem S_X12_wrong : Cond.selects yX12_wrong.cls yX12_wrong yX12_wrong ∈ zws := z_in (List.mem_append_left _ (List.mem_map.mpr ⟨_, List.mem_of_getElem? (i := 54) rfl, rfl⟩)) rfl
abbrev F_X12_isGood : zF := (12, cX12_isGood, some .boolean, 1, [], false)
def T_X12_isGood : List (Nat × zI) := [(0, (4, 0, 0, 0, 1, [])), (1, (18, 12, 14, 0, 4, [])), (4, (17, 0, 7, 0, 11, [])), (7, (0, 0, 0, 1, 8, [])), (8, (15, 0, 0, 0, 12, [])), (11, (0, 0, 0, 0, 12, [])), (12, (27, 0, 0, 0, 13, []))]
set_option maxRecDepth 100000 in
theorem K_X12_isGood : ztbok F_X12_isGood T_X12_isGood := ztbB_ok (by decide +kernel)
set_option maxRecDepth 100000 in
theorem W_X12_isGood : zMth yX12_isGood (.code yX12_isGood cX12_isGood 1 (some .boolean)) 0 := ⟨z_at 1492 (by decide +kernel) (by decide +kernel), z_at 13 (by decide +kernel) (by decide +kernel), ⟨by decide +kernel, by decide +kernel⟩, by decide +kernel⟩
set_option maxRecDepth 100000 in
theorem I_X12_isGood : Cond.instanceMethod yX12_isGood ∈ zws := z_at 1491 (by decide +kernel) (by decide +kernel)
set_option maxRecDepth 100000 in
theorem S_X12_isGood : Cond.selects yX12_isGood.cls yX12_isGood yX12_isGood ∈ zws := z_in (List.mem_append_left _ (List.mem_map.mpr ⟨_, List.mem_of_getElem? (i := 51) rfl, rfl⟩)) rfl
abbrev F_X12_need : zF := (12, cX12_need, none, 2, [], false)
def T_X12_need : List (Nat × zI) := [(0, (4, 0, 0, 0, 1, [])), (4, (17, 0, 7, 0, 8, [])), (7, (29, 0, 0, 0, 8, [])), (8, (2, 1, 0, 0, 9, [])), (9, (17, 0, 19, 0, 12, [])), (12, (4, 0, 0, 0, 13, [])), (16, (15, 0, 0, 0, 24, [])), (19, (4, 0, 0, 0, 20, [])), (20, (0, 0, 0, 1, 21, [])), (24, (29, 0, 0, 0, 25, []))]
set_option maxRecDepth 100000 in
theorem K_X12_need : ztbok F_X12_need T_X12_need := ztbB_ok (by decide +kernel)
set_option maxRecDepth 100000 in
theorem W_X12_need : zMth yX12_need (.code yX12_need cX12_need 2 (none)) 1 := ⟨z_at 1539 (by decide +kernel) (by decide +kernel), z_at 13 (by decide +kernel) (by decide +kernel), ⟨by decide +kernel, by decide +kernel⟩, by decide +kernel⟩
set_option maxRecDepth 100000 in
theorem I_X12_need : Cond.instanceMethod yX12_need ∈ zws := z_at 1538 (by decide +kernel) (by decide +kernel)
set_option maxRecDepth 100000 in
theorem S_X12_need : Cond.selects yX12_need.cls yX12_need yX12_need ∈ zws := z_in (List.mem_append_left _ (List.mem_map.mpr ⟨_, List.mem_of_getElem? (i := 61) rfl, rfl⟩)) rfl
abbrev F_X12_number : zF := (12, cX12_number, some .int, 4, [], false)
def T_X12_number : List (Nat × zI) := [(0, (4, 0, 0, 0, 1, [])), (4, (17, 0, 7, 0, 9, [])), (7, (0, 0, 0, 0, 8, [])), (8, (27, 0, 0, 0, 9, [])), (9, (4, 0, 0, 0, 10, [])), (10, (18, 12, 19, 0, 13, [])), (13, (0, 0, 0, 2, 14, [])), (14, (16, 0, 25, 0, 17, [])), (17, (4, 0, 0, 0, 18, [])), (18, (0, 0, 0, 1, 19, [])), (22, (15, 0, 0, 0, 54, [])), (25, (4, 0, 0, 0, 26, [])), (26, (18, 12, 21, 0, 29, [])), (29, (0, 0, 0, 3, 30, [])), (30, (16, 2, 49, 0, 33, [])), (33, (4, 0, 0, 0, 34, [])), (34, (18, 12, 22, 0, 37, [])), (37, (2, 1, 0, 0, 38, [])), (38, (16, 1, 49, 0, 41, [])), (41, (4, 0, 0, 0, 42, [])), (42, (18, 12, 22, 0, 45, [])), (45, (2, 2, 0, 0, 46, [])), (46, (16, 2, 49, 0, 54, [])), (49, (4, 0, 0, 0, 50, [])), (50, (0, 0, 0, 2, 51, [])), (54, (4, 0, 0, 0, 55, [])), (55, (18, 12, 22, 0, 58, [])), (58, (5, 3, 0, 0, 59, [])), (59, (4, 0, 0, 0, 60, [])), (63, (17, 0, 70, 0, 66, [])), (66, (4, 0, 0, 0, 67, [])), (70, (2, 3, 0, 0, 71, [])), (71, (27, 0, 0, 0, 72, []))]
set_option maxRecDepth 100000 in
theorem K_X12_number : ztbok F_X12_number T_X12_number := ztbB_ok (by decide +kernel)
set_option maxRecDepth 100000 in
theorem W_X12_number : zMth yX12_number (.code yX12_number cX12_number 4 (some .int)) 2 := ⟨z_at 1515 (by decide +kernel) (by decide +kernel), z_at 13 (by decide +kernel) (by decide +kernel), ⟨by decide +kernel, by decide +kernel⟩, by decide +kernel⟩
set_option maxRecDepth 100000 in
theorem I_X12_number : Cond.instanceMethod yX12_number ∈ zws := z_at 1514 (by decide +kernel) (by decide +kernel)
set_option maxRecDepth 100000 in
theorem S_X12_number : Cond.selects yX12_number.cls yX12_number yX12_number ∈ zws := z_in (List.mem_append_left _ (List.mem_map.mpr ⟨_, List.mem_of_getElem? (i := 55) rfl, rfl⟩)) rfl
abbrev F_X12_amongHere : zF := (12, cX12_amongHere, some .boolean, 2, [], false)
def T_X12_amongHere : List (Nat × zI) := [(0, (4, 0, 0, 0, 1, [])), (4, (17, 0, 7, 0, 9, [])), (7, (0, 0, 0, 0, 8, [])), (8, (27, 0, 0, 0, 9, [])), (9, (4, 0, 0, 0, 10, [])), (10, (18, 12, 19, 0, 13, [])), (13, (0, 0, 0, 2, 14, [])), (14, (16, 0, 25, 0, 17, [])), (17, (4, 0, 0, 0, 18, [])), (18, (0, 0, 0, 1, 19, [])), (22, (15, 0, 0, 0, 54, [])), (25, (4, 0, 0, 0, 26, [])), (26, (18, 12, 21, 0, 29, [])), (29, (0, 0, 0, 3, 30, [])), (30, (16, 2, 33, 0, 41, [])), (33, (4, 0, 0, 0, 34, [])), (34, (0, 0, 0, 2, 35, [])), (38, (15, 0, 0, 0, 54, [])), (41, (4, 0, 0, 0, 42, [])), (42, (18, 12, 22, 0, 45, [])), (45, (2, 1, 0, 0, 46, [])), (46, (16, 1, 54, 0, 49, [])), (49, (4, 0, 0, 0, 50, [])), (50, (0, 0, 0, 3, 51, [])), (54, (4, 0, 0, 0, 55, [])), (58, (27, 0, 0, 0, 59, []))]
set_option maxRecDepth 100000 in
theorem K_X12_amongHere : ztbok F_X12_amongHere T_X12_amongHere := ztbB_ok (by decide +kernel)
set_option maxRecDepth 100000 in
theorem W_X12_amongHere : zMth yX12_amongHere (.code yX12_amongHere cX12_amongHere 2 (some .boolean)) 1 := ⟨z_at 1523 (by decide +kernel) (by decide +kernel), z_at 13 (by decide +kernel) (by decide +kernel), ⟨by decide +kernel, by decide +kernel⟩, by decide +kernel⟩
set_option maxRecDepth 100000 in
theorem I_X12_amongHere : Cond.instanceMethod yX12_amongHere ∈ zws := z_at 1522 (by decide +kernel) (by decide +kernel)
set_option maxRecDepth 100000 in
theorem S_X12_amongHere : Cond.selects yX12_amongHere.cls yX12_amongHere yX12_amongHere ∈ zws := z_in (List.mem_append_left _ (List.mem_map.mpr ⟨_, List.mem_of_getElem? (i := 57) rfl, rfl⟩)) rfl
abbrev F_X12_among : zF := (12, cX12_among, some .int, 3, [], false)
def T_X12_among : List (Nat × zI) := [(0, (4, 0, 0, 0, 1, [])), (1, (2, 1, 0, 0, 2, [])), (5, (17, 0, 15, 0, 8, [])), (8, (4, 0, 0, 0, 9, [])), (9, (18, 12, 22, 0, 12, [])), (12, (15, 0, 0, 0, 16, [])), (15, (0, 0, 0, 0, 16, [])), (16, (5, 2, 0, 0, 17, [])), (17, (4, 0, 0, 0, 18, [])), (21, (17, 0, 28, 0, 24, [])), (24, (4, 0, 0, 0, 25, [])), (28, (2, 2, 0, 0, 29, [])), (29, (27, 0, 0, 0, 30, []))]
set_option maxRecDepth 100000 in
theorem K_X12_among : ztbok F_X12_among T_X12_among := ztbB_ok (by decide +kernel)
set_option maxRecDepth 100000 in
theorem W_X12_among : zMth yX12_among (.code yX12_among cX12_among 3 (some .int)) 1 := ⟨z_at 1527 (by decide +kernel) (by decide +kernel), z_at 13 (by decide +kernel) (by decide +kernel), ⟨by decide +kernel, by decide +kernel⟩, by decide +kernel⟩
set_option maxRecDepth 100000 in
theorem I_X12_among : Cond.instanceMethod yX12_among ∈ zws := z_at 1526 (by decide +kernel) (by decide +kernel)
set_option maxRecDepth 100000 in
theorem S_X12_among : Cond.selects yX12_among.cls yX12_among yX12_among ∈ zws := z_in (List.mem_append_left _ (List.mem_map.mpr ⟨_, List.mem_of_getElem? (i := 58) rfl, rfl⟩)) rfl
abbrev F_X12_oneOf : zF := (12, cX12_oneOf, some .int, 4, [], false)
def T_X12_oneOf : List (Nat × zI) := [(0, (2, 1, 0, 0, 1, [])), (1, (5, 3, 0, 0, 2, [])), (2, (2, 3, 0, 0, 3, [])), (3, (2, 2, 0, 0, 4, [])), (4, (16, 2, 23, 0, 7, [])), (7, (4, 0, 0, 0, 8, [])), (8, (2, 3, 0, 0, 9, [])), (12, (17, 0, 17, 0, 15, [])), (15, (2, 3, 0, 0, 16, [])), (16, (27, 0, 0, 0, 17, [])), (17, (8, 3, 0, 1, 20, [])), (20, (15, 0, 0, 0, 2, [])), (23, (0, 0, 0, (-1), 24, [])), (24, (27, 0, 0, 0, 25, []))]
set_option maxRecDepth 100000 in
theorem K_X12_oneOf : ztbok F_X12_oneOf T_X12_oneOf := ztbB_ok (by decide +kernel)
set_option maxRecDepth 100000 in
theorem W_X12_oneOf : zMth yX12_oneOf (.code yX12_oneOf cX12_oneOf 4 (some .int)) 2 := ⟨z_at 1535 (by decide +kernel) (by decide +kernel), z_at 13 (by decide +kernel) (by decide +kernel), ⟨by decide +kernel, by decide +kernel⟩, by decide +kernel⟩
set_option maxRecDepth 100000 in
theorem I_X12_oneOf : Cond.instanceMethod yX12_oneOf ∈ zws := z_at 1534 (by decide +kernel) (by decide +kernel)
set_option maxRecDepth 100000 in
theorem S_X12_oneOf : Cond.selects yX12_oneOf.cls yX12_oneOf yX12_oneOf ∈ zws := z_in (List.mem_append_left _ (List.mem_map.mpr ⟨_, List.mem_of_getElem? (i := 60) rfl, rfl⟩)) rfl
abbrev F_X12_readsLodger : zF := (12, cX12_readsLodger, none, 4, [], false)
def T_X12_readsLodger : List (Nat × zI) := [(0, (4, 0, 0, 0, 1, [])), (1, (18, 12, 25, 0, 4, [])), (4, (0, 0, 0, 6, 6, [])), (6, (16, 0, 9, 0, 14, [])), (9, (4, 0, 0, 0, 10, [])), (10, (0, 0, 0, 2, 11, [])), (14, (4, 0, 0, 0, 15, [])), (18, (17, 0, 21, 0, 22, [])), (21, (29, 0, 0, 0, 22, [])), (22, (4, 0, 0, 0, 23, [])), (26, (4, 0, 0, 0, 27, [])), (27, (4, 0, 0, 0, 28, [])), (28, (18, 12, 24, 0, 31, [])), (34, (17, 0, 55, 0, 37, [])), (37, (4, 0, 0, 0, 38, [])), (38, (18, 12, 30, 0, 41, [])), (41, (4, 0, 0, 0, 42, [])), (42, (18, 12, 22, 0, 45, [])), (45, (20, 0, 0, 0, 46, [])), (46, (0, 0, 0, (-1), 47, [])), (47, (16, 0, 55, 0, 50, [])), (50, (4, 0, 0, 0, 51, [])), (51, (0, 0, 0, 4, 52, [])), (55, (4, 0, 0, 0, 56, [])), (56, (18, 12, 22, 0, 59, [])), (59, (5, 1, 0, 0, 60, [])), (60, (4, 0, 0, 0, 61, [])), (64, (17, 0, 71, 0, 67, [])), (67, (4, 0, 0, 0, 68, [])), (71, (4, 0, 0, 0, 72, [])), (75, (17, 0, 91, 0, 78, [])), (78, (4, 0, 0, 0, 79, [])), (79, (0, 0, 0, 6, 81, [])), (84, (17, 0, 91, 0, 87, [])), (87, (0, 0, 0, 1, 88, [])), (88, (15, 0, 0, 0, 92, [])), (91, (0, 0, 0, 0, 92, [])), (92, (5, 2, 0, 0, 93, [])), (93, (4, 0, 0, 0, 94, [])), (97, (17, 0, 113, 0, 100, [])), (100, (4, 0, 0, 0, 101, [])), (101, (0, 0, 0, 7, 103, [])), (106, (17, 0, 113, 0, 109, [])), (109, (0, 0, 0, 1, 110, [])), (110, (15, 0, 0, 0, 114, [])), (113, (0, 0, 0, 0, 114, [])), (114, (5, 3, 0, 0, 115, [])), (115, (2, 2, 0, 0, 116, [])), (116, (17, 0, 119, 0, 123, [])), (119, (2, 3, 0, 0, 120, [])), (120, (17, 0, 127, 0, 123, [])), (123, (4, 0, 0, 0, 124, [])), (127, (4, 0, 0, 0, 128, [])), (131, (17, 0, 134, 0, 135, [])), (134, (29, 0, 0, 0, 135, [])), (135, (4, 0, 0, 0, 136, [])), (136, (18, 12, 31, 0, 139, [])), (139, (4, 0, 0, 0, 140, [])), (140, (18, 12, 25, 0, 143, [])), (143, (2, 1, 0, 0, 144, [])), (144, (21, 0, 0, 0, 145, [])), (145, (4, 0, 0, 0, 146, [])), (146, (18, 12, 30, 0, 149, [])), (149, (2, 1, 0, 0, 150, [])), (150, (4, 0, 0, 0, 151, [])), (151, (18, 12, 25, 0, 154, [])), (154, (21, 0, 0, 0, 155, [])), (155, (4, 0, 0, 0, 156, [])), (156, (18, 12, 32, 0, 159, [])), (159, (0, 0, 0, 2, 160, [])), (160, (4, 0, 0, 0, 161, [])), (161, (18, 12, 25, 0, 164, [])), (164, (9, 2, 0, 0, 165, [])), (165, (2, 3, 0, 0, 166, [])), (166, (17, 0, 173, 0, 169, [])), (169, (0, 0, 0, 0, 170, [])), (170, (15, 0, 0, 0, 174, [])), (173, (0, 0, 0, 1, 174, [])), (174, (21, 0, 0, 0, 175, [])), (175, (4, 0, 0, 0, 176, [])), (176, (18, 12, 32, 0, 179, [])), (179, (0, 0, 0, 2, 180, [])), (180, (4, 0, 0, 0, 181, [])), (181, (18, 12, 25, 0, 184, [])), (184, (9, 2, 0, 0, 185, [])), (185, (0, 0, 0, 1, 186, [])), (186, (9, 0, 0, 0, 187, [])), (187, (2, 2, 0, 0, 188, [])), (188, (17, 0, 195, 0, 191, [])), (191, (0, 0, 0, 0, 192, [])), (192, (15, 0, 0, 0, 196, [])), (195, (0, 0, 0, 1, 196, [])), (196, (21, 0, 0, 0, 197, [])), (197, (4, 0, 0, 0, 198, [])), (198, (12, 0, 0, 0, 199, [])), (199, (18, 12, 25, 0, 202, [])), (202, (0, 0, 0, 1, 203, [])), (203, (9, 0, 0, 0, 204, [])), (204, (19, 12, 25, 0, 207, [])), (207, (29, 0, 0, 0, 208, []))]
set_option maxRecDepth 100000 in
theorem K_X12_readsLodger : ztbok F_X12_readsLodger T_X12_readsLodger := ztbB_ok (by decide +kernel)
set_option maxRecDepth 100000 in
theorem W_X12_readsLodger : zMth yX12_readsLodger (.code yX12_readsLodger cX12_readsLodger 4 (none)) 0 := ⟨z_at 1519 (by decide +kernel) (by decide +kernel), z_at 13 (by decide +kernel) (by decide +kernel), ⟨by decide +kernel, by decide +kernel⟩, by decide +kernel⟩
set_option maxRecDepth 100000 in
theorem I_X12_readsLodger : Cond.instanceMethod yX12_readsLodger ∈ zws := z_at 1518 (by decide +kernel) (by decide +kernel)
set_option maxRecDepth 100000 in
theorem S_X12_readsLodger : Cond.selects yX12_readsLodger.cls yX12_readsLodger yX12_readsLodger ∈ zws := z_in (List.mem_append_left _ (List.mem_map.mpr ⟨_, List.mem_of_getElem? (i := 56) rfl, rfl⟩)) rfl
abbrev F_X12_readsMay : zF := (12, cX12_readsMay, none, 7, [], false)
def T_X12_readsMay : List (Nat × zI) := [(0, (4, 0, 0, 0, 1, [])), (1, (18, 12, 27, 0, 4, [])), (4, (0, 0, 0, 40, 6, [])), (6, (16, 0, 9, 0, 14, [])), (9, (4, 0, 0, 0, 10, [])), (10, (0, 0, 0, 2, 11, [])), (14, (4, 0, 0, 0, 15, [])), (18, (17, 0, 21, 0, 22, [])), (21, (29, 0, 0, 0, 22, [])), (22, (4, 0, 0, 0, 23, [])), (26, (4, 0, 0, 0, 27, [])), (27, (4, 0, 0, 0, 28, [])), (28, (18, 12, 25, 0, 31, [])), (34, (5, 1, 0, 0, 35, [])), (35, (4, 0, 0, 0, 36, [])), (36, (0, 0, 0, 0, 37, [])), (37, (0, 0, 0, 4, 38, [])), (41, (5, 2, 0, 0, 42, [])), (42, (4, 0, 0, 0, 43, [])), (43, (2, 2, 0, 0, 44, [])), (44, (0, 0, 0, (-1), 45, [])), (45, (16, 0, 52, 0, 48, [])), (48, (0, 0, 0, 1, 49, [])), (49, (15, 0, 0, 0, 53, [])), (52, (0, 0, 0, 0, 53, [])), (56, (2, 2, 0, 0, 57, [])), (57, (5, 3, 0, 0, 58, [])), (58, (2, 2, 0, 0, 59, [])), (59, (0, 0, 0, 4, 60, [])), (60, (16, 0, 63, 0, 110, [])), (63, (4, 0, 0, 0, 64, [])), (64, (4, 0, 0, 0, 65, [])), (65, (18, 12, 24, 0, 68, [])), (71, (17, 0, 92, 0, 74, [])), (74, (4, 0, 0, 0, 75, [])), (75, (18, 12, 22, 0, 78, [])), (78, (4, 0, 0, 0, 79, [])), (79, (18, 12, 31, 0, 82, [])), (82, (2, 1, 0, 0, 83, [])), (83, (20, 0, 0, 0, 84, [])), (84, (16, 0, 87, 0, 92, [])), (87, (4, 0, 0, 0, 88, [])), (88, (0, 0, 0, 4, 89, [])), (92, (0, 0, 0, 4, 93, [])), (93, (4, 0, 0, 0, 94, [])), (94, (18, 12, 22, 0, 97, [])), (97, (9, 0, 0, 0, 98, [])), (98, (5, 3, 0, 0, 99, [])), (99, (4, 0, 0, 0, 100, [])), (103, (17, 0, 110, 0, 106, [])), (106, (4, 0, 0, 0, 107, [])), (110, (4, 0, 0, 0, 111, [])), (111, (0, 0, 0, 0, 112, [])), (112, (0, 0, 0, 23, 114, [])), (117, (5, 4, 0, 0, 119, [])), (119, (4, 0, 0, 0, 120, [])), (120, (2, 4, 0, 0, 122, [])), (122, (0, 0, 0, 23, 124, [])), (127, (5, 5, 0, 0, 129, [])), (129, (4, 0, 0, 0, 130, [])), (133, (17, 0, 136, 0, 137, [])), (136, (29, 0, 0, 0, 137, [])), (137, (2, 4, 0, 0, 139, [])), (139, (5, 6, 0, 0, 141, [])), (141, (2, 6, 0, 0, 143, [])), (143, (2, 5, 0, 0, 145, [])), (145, (16, 2, 172, 0, 148, [])), (148, (4, 0, 0, 0, 149, [])), (149, (18, 12, 35, 0, 152, [])), (152, (0, 0, 0, 24, 154, [])), (154, (2, 1, 0, 0, 155, [])), (155, (9, 2, 0, 0, 156, [])), (156, (2, 6, 0, 0, 158, [])), (158, (9, 0, 0, 0, 159, [])), (159, (13, 0, 0, 0, 160, [])), (160, (20, 0, 0, 0, 161, [])), (161, (0, 0, 0, 1, 162, [])), (162, (2, 3, 0, 0, 163, [])), (163, (9, 6, 0, 0, 164, [])), (164, (9, 4, 0, 0, 165, [])), (165, (21, 0, 0, 0, 166, [])), (166, (8, 6, 0, 1, 169, [])), (169, (15, 0, 0, 0, 141, [])), (172, (4, 0, 0, 0, 173, [])), (173, (12, 0, 0, 0, 174, [])), (174, (18, 12, 27, 0, 177, [])), (177, (0, 0, 0, 1, 178, [])), (178, (9, 0, 0, 0, 179, [])), (179, (19, 12, 27, 0, 182, [])), (182, (29, 0, 0, 0, 183, []))]
set_option maxRecDepth 100000 in
theorem K_X12_readsMay : ztbok F_X12_readsMay T_X12_readsMay := ztbB_ok (by decide +kernel)
set_option maxRecDepth 100000 in
theorem W_X12_readsMay : zMth yX12_readsMay (.code yX12_readsMay cX12_readsMay 7 (none)) 0 := ⟨z_at 1531 (by decide +kernel) (by decide +kernel), z_at 13 (by decide +kernel) (by decide +kernel), ⟨by decide +kernel, by decide +kernel⟩, by decide +kernel⟩
set_option maxRecDepth 100000 in
theorem I_X12_readsMay : Cond.instanceMethod yX12_readsMay ∈ zws := z_at 1530 (by decide +kernel) (by decide +kernel)
set_option maxRecDepth 100000 in
theorem S_X12_readsMay : Cond.selects yX12_readsMay.cls yX12_readsMay yX12_readsMay ∈ zws := z_in (List.mem_append_left _ (List.mem_map.mpr ⟨_, List.mem_of_getElem? (i := 59) rfl, rfl⟩)) rfl
abbrev F_X12_line : zF := (12, cX12_line, none, 3, [], false)
def T_X12_line : List (Nat × zI) := [(0, (4, 0, 0, 0, 1, [])), (1, (0, 0, 0, 9, 3, [])), (6, (17, 0, 81, 0, 9, [])), (9, (4, 0, 0, 0, 10, [])), (10, (18, 12, 24, 0, 13, [])), (13, (0, 0, 0, 8, 15, [])), (15, (16, 0, 18, 0, 23, [])), (18, (4, 0, 0, 0, 19, [])), (19, (0, 0, 0, 2, 20, [])), (23, (4, 0, 0, 0, 24, [])), (27, (17, 0, 30, 0, 31, [])), (30, (29, 0, 0, 0, 31, [])), (31, (4, 0, 0, 0, 32, [])), (35, (4, 0, 0, 0, 36, [])), (36, (18, 12, 29, 0, 39, [])), (39, (4, 0, 0, 0, 40, [])), (40, (18, 12, 24, 0, 43, [])), (43, (4, 0, 0, 0, 44, [])), (44, (0, 0, 0, 0, 45, [])), (45, (0, 0, 0, 99, 47, [])), (50, (21, 0, 0, 0, 51, [])), (51, (4, 0, 0, 0, 52, [])), (52, (18, 12, 30, 0, 55, [])), (55, (4, 0, 0, 0, 56, [])), (56, (18, 12, 24, 0, 59, [])), (59, (0, 0, 0, (-1), 60, [])), (60, (21, 0, 0, 0, 61, [])), (61, (4, 0, 0, 0, 62, [])), (65, (17, 0, 309, 0, 68, [])), (68, (4, 0, 0, 0, 69, [])), (69, (12, 0, 0, 0, 70, [])), (70, (18, 12, 24, 0, 73, [])), (73, (0, 0, 0, 1, 74, [])), (74, (9, 0, 0, 0, 75, [])), (75, (19, 12, 24, 0, 78, [])), (78, (15, 0, 0, 0, 309, [])), (81, (4, 0, 0, 0, 82, [])), (82, (0, 0, 0, 10, 84, [])), (87, (17, 0, 97, 0, 90, [])), (90, (4, 0, 0, 0, 91, [])), (94, (15, 0, 0, 0, 309, [])), (97, (4, 0, 0, 0, 98, [])), (98, (0, 0, 0, 11, 100, [])), (103, (17, 0, 168, 0, 106, [])), (106, (4, 0, 0, 0, 107, [])), (107, (18, 12, 26, 0, 110, [])), (110, (0, 0, 0, 3, 111, [])), (111, (16, 0, 114, 0, 119, [])), (114, (4, 0, 0, 0, 115, [])), (115, (0, 0, 0, 2, 116, [])), (119, (4, 0, 0, 0, 120, [])), (123, (17, 0, 126, 0, 127, [])), (126, (29, 0, 0, 0, 127, [])), (127, (4, 0, 0, 0, 128, [])), (131, (4, 0, 0, 0, 132, [])), (132, (18, 12, 33, 0, 135, [])), (135, (4, 0, 0, 0, 136, [])), (136, (18, 12, 26, 0, 139, [])), (139, (4, 0, 0, 0, 140, [])), (140, (4, 0, 0, 0, 141, [])), (141, (18, 12, 24, 0, 144, [])), (147, (21, 0, 0, 0, 148, [])), (148, (4, 0, 0, 0, 149, [])), (152, (17, 0, 309, 0, 155, [])), (155, (4, 0, 0, 0, 156, [])), (156, (12, 0, 0, 0, 157, [])), (157, (18, 12, 26, 0, 160, [])), (160, (0, 0, 0, 1, 161, [])), (161, (9, 0, 0, 0, 162, [])), (162, (19, 12, 26, 0, 165, [])), (165, (15, 0, 0, 0, 309, [])), (168, (4, 0, 0, 0, 169, [])), (169, (0, 0, 0, 12, 171, [])), (174, (17, 0, 184, 0, 177, [])), (177, (4, 0, 0, 0, 178, [])), (181, (15, 0, 0, 0, 309, [])), (184, (4, 0, 0, 0, 185, [])), (185, (0, 0, 0, 13, 187, [])), (190, (17, 0, 304, 0, 193, [])), (193, (4, 0, 0, 0, 194, [])), (197, (4, 0, 0, 0, 198, [])), (198, (0, 0, 0, 0, 199, [])), (199, (0, 0, 0, 3, 200, [])), (203, (5, 1, 0, 0, 204, [])), (204, (2, 1, 0, 0, 205, [])), (205, (0, 0, 0, (-1), 206, [])), (206, (16, 0, 226, 0, 209, [])), (209, (4, 0, 0, 0, 210, [])), (210, (18, 12, 28, 0, 213, [])), (213, (2, 1, 0, 0, 214, [])), (214, (9, 7, 0, 0, 215, [])), (215, (0, 0, 0, 1, 216, [])), (216, (9, 3, 0, 0, 217, [])), (217, (0, 0, 0, 1, 218, [])), (218, (16, 0, 221, 0, 226, [])), (221, (4, 0, 0, 0, 222, [])), (222, (0, 0, 0, 5, 223, [])), (226, (4, 0, 0, 0, 227, [])), (227, (2, 1, 0, 0, 228, [])), (228, (0, 0, 0, (-1), 229, [])), (229, (16, 0, 236, 0, 232, [])), (232, (0, 0, 0, 1, 233, [])), (233, (15, 0, 0, 0, 237, [])), (236, (0, 0, 0, 0, 237, [])), (240, (4, 0, 0, 0, 241, [])), (244, (17, 0, 257, 0, 247, [])), (247, (4, 0, 0, 0, 248, [])), (248, (0, 0, 0, 5, 249, [])), (249, (0, 0, 0, 8, 251, [])), (254, (15, 0, 0, 0, 258, [])), (257, (0, 0, 0, (-1), 258, [])), (258, (5, 2, 0, 0, 259, [])), (259, (4, 0, 0, 0, 260, [])), (260, (2, 2, 0, 0, 261, [])), (261, (0, 0, 0, (-1), 262, [])), (262, (16, 0, 269, 0, 265, [])), (265, (0, 0, 0, 1, 266, [])), (266, (15, 0, 0, 0, 270, [])), (269, (0, 0, 0, 0, 270, [])), (273, (4, 0, 0, 0, 274, [])), (277, (17, 0, 301, 0, 280, [])), (280, (4, 0, 0, 0, 281, [])), (281, (12, 0, 0, 0, 282, [])), (282, (18, 12, 28, 0, 285, [])), (285, (0, 0, 0, 1, 286, [])), (286, (2, 1, 0, 0, 287, [])), (287, (9, 6, 0, 0, 288, [])), (288, (9, 4, 0, 0, 289, [])), (289, (19, 12, 28, 0, 292, [])), (292, (4, 0, 0, 0, 293, [])), (293, (18, 12, 34, 0, 296, [])), (296, (2, 1, 0, 0, 297, [])), (297, (2, 2, 0, 0, 298, [])), (298, (0, 0, 0, 5, 299, [])), (299, (9, 1, 0, 0, 300, [])), (300, (21, 0, 0, 0, 301, [])), (301, (15, 0, 0, 0, 309, [])), (304, (4, 0, 0, 0, 305, [])), (305, (0, 0, 0, 1, 306, [])), (309, (4, 0, 0, 0, 310, [])), (310, (4, 0, 0, 0, 311, [])), (311, (18, 12, 19, 0, 314, [])), (314, (0, 0, 0, 3, 315, [])), (315, (16, 0, 318, 0, 322, [])), (318, (0, 0, 0, 1, 319, [])), (319, (15, 0, 0, 0, 323, [])), (322, (0, 0, 0, 0, 323, [])), (326, (29, 0, 0, 0, 327, []))]
set_option maxRecDepth 100000 in
theorem K_X12_line : ztbok F_X12_line T_X12_line := ztbB_ok (by decide +kernel)
set_option maxRecDepth 100000 in
theorem W_X12_line : zMth yX12_line (.code yX12_line cX12_line 3 (none)) 0 := ⟨z_at 1496 (by decide +kernel) (by decide +kernel), z_at 13 (by decide +kernel) (by decide +kernel), ⟨by decide +kernel, by decide +kernel⟩, by decide +kernel⟩
set_option maxRecDepth 100000 in
theorem I_X12_line : Cond.instanceMethod yX12_line ∈ zws := z_at 1495 (by decide +kernel) (by decide +kernel)
set_option maxRecDepth 100000 in
theorem S_X12_line : Cond.selects yX12_line.cls yX12_line yX12_line ∈ zws := z_in (List.mem_append_left _ (List.mem_map.mpr ⟨_, List.mem_of_getElem? (i := 52) rfl, rfl⟩)) rfl
abbrev F_X12_house : zF := (12, cX12_house, some .int, 4, [], false)
def T_X12_house : List (Nat × zI) := [(0, (4, 0, 0, 0, 1, [])), (1, (0, 0, 0, 0, 2, [])), (2, (19, 12, 0, 0, 5, [])), (5, (4, 0, 0, 0, 6, [])), (6, (2, 1, 0, 0, 7, [])), (7, (17, 1, 22, 0, 10, [])), (10, (2, 1, 0, 0, 11, [])), (11, (4, 0, 0, 0, 12, [])), (12, (18, 12, 13, 0, 15, [])), (15, (16, 2, 22, 0, 18, [])), (18, (0, 0, 0, 1, 19, [])), (19, (15, 0, 0, 0, 23, [])), (22, (0, 0, 0, 0, 23, [])), (23, (0, 0, 0, 1, 24, [])), (27, (17, 0, 30, 0, 32, [])), (30, (0, 0, 0, 0, 31, [])), (31, (27, 0, 0, 0, 32, [])), (32, (4, 0, 0, 0, 33, [])), (33, (0, 0, 0, 0, 34, [])), (34, (19, 12, 13, 0, 37, [])), (37, (4, 0, 0, 0, 38, [])), (38, (0, 0, 0, (-1), 39, [])), (39, (19, 12, 15, 0, 42, [])), (42, (4, 0, 0, 0, 43, [])), (43, (0, 0, 0, 0, 44, [])), (44, (19, 12, 14, 0, 47, [])), (47, (4, 0, 0, 0, 48, [])), (48, (2, 1, 0, 0, 49, [])), (49, (19, 12, 17, 0, 52, [])), (52, (4, 0, 0, 0, 53, [])), (53, (0, 0, 0, 0, 54, [])), (54, (19, 12, 18, 0, 57, [])), (57, (4, 0, 0, 0, 58, [])), (58, (0, 0, 0, 0, 59, [])), (59, (19, 12, 24, 0, 62, [])), (62, (4, 0, 0, 0, 63, [])), (63, (0, 0, 0, 0, 64, [])), (64, (19, 12, 25, 0, 67, [])), (67, (4, 0, 0, 0, 68, [])), (68, (0, 0, 0, 0, 69, [])), (69, (19, 12, 26, 0, 72, [])), (72, (4, 0, 0, 0, 73, [])), (73, (0, 0, 0, 0, 74, [])), (74, (19, 12, 27, 0, 77, [])), (77, (4, 0, 0, 0, 78, [])), (78, (0, 0, 0, 0, 79, [])), (79, (19, 12, 28, 0, 82, [])), (82, (4, 0, 0, 0, 83, [])), (83, (18, 12, 34, 0, 86, [])), (86, (0, 0, 0, 0, 87, [])), (87, (0, 0, 0, 3, 88, [])), (88, (21, 0, 0, 0, 89, [])), (89, (4, 0, 0, 0, 90, [])), (90, (18, 12, 34, 0, 93, [])), (93, (0, 0, 0, 1, 94, [])), (94, (0, 0, 0, 1, 95, [])), (95, (21, 0, 0, 0, 96, [])), (96, (4, 0, 0, 0, 97, [])), (97, (18, 12, 34, 0, 100, [])), (100, (0, 0, 0, 2, 101, [])), (101, (0, 0, 0, 2, 102, [])), (102, (21, 0, 0, 0, 103, [])), (103, (4, 0, 0, 0, 104, [])), (104, (18, 12, 34, 0, 107, [])), (107, (0, 0, 0, 3, 108, [])), (108, (0, 0, 0, 1, 109, [])), (109, (21, 0, 0, 0, 110, [])), (110, (0, 0, 0, 0, 111, [])), (111, (5, 2, 0, 0, 112, [])), (112, (2, 2, 0, 0, 113, [])), (113, (0, 0, 0, 144, 116, [])), (116, (16, 1, 119, 0, 132, [])), (119, (4, 0, 0, 0, 120, [])), (120, (18, 12, 35, 0, 123, [])), (123, (2, 2, 0, 0, 124, [])), (124, (0, 0, 0, 0, 125, [])), (125, (21, 0, 0, 0, 126, [])), (126, (8, 2, 0, 1, 129, [])), (129, (15, 0, 0, 0, 112, [])), (132, (4, 0, 0, 0, 133, [])), (136, (4, 0, 0, 0, 137, [])), (140, (17, 0, 157, 0, 143, [])), (143, (4, 0, 0, 0, 144, [])), (144, (18, 12, 19, 0, 147, [])), (147, (17, 0, 157, 0, 150, [])), (150, (4, 0, 0, 0, 151, [])), (154, (15, 0, 0, 0, 136, [])), (157, (4, 0, 0, 0, 158, [])), (161, (17, 0, 164, 0, 179, [])), (164, (4, 0, 0, 0, 165, [])), (165, (18, 12, 16, 0, 168, [])), (168, (0, 0, 0, 0, 169, [])), (169, (13, 0, 0, 0, 170, [])), (170, (20, 0, 0, 0, 171, [])), (171, (0, 0, 0, 1, 172, [])), (172, (9, 0, 0, 0, 173, [])), (173, (21, 0, 0, 0, 174, [])), (174, (4, 0, 0, 0, 175, [])), (175, (18, 12, 14, 0, 178, [])), (178, (27, 0, 0, 0, 179, [])), (179, (4, 0, 0, 0, 180, [])), (180, (4, 0, 0, 0, 181, [])), (181, (18, 12, 24, 0, 184, [])), (184, (19, 12, 1, 0, 187, [])), (187, (4, 0, 0, 0, 188, [])), (188, (4, 0, 0, 0, 189, [])), (189, (18, 12, 25, 0, 192, [])), (192, (19, 12, 2, 0, 195, [])), (195, (4, 0, 0, 0, 196, [])), (196, (4, 0, 0, 0, 197, [])), (197, (18, 12, 26, 0, 200, [])), (200, (19, 12, 3, 0, 203, [])), (203, (4, 0, 0, 0, 204, [])), (204, (4, 0, 0, 0, 205, [])), (205, (18, 12, 27, 0, 208, [])), (208, (19, 12, 4, 0, 211, [])), (211, (4, 0, 0, 0, 212, [])), (212, (4, 0, 0, 0, 213, [])), (213, (18, 12, 29, 0, 216, [])), (216, (4, 0, 0, 0, 217, [])), (217, (18, 12, 5, 0, 220, [])), (223, (4, 0, 0, 0, 224, [])), (224, (4, 0, 0, 0, 225, [])), (225, (18, 12, 30, 0, 228, [])), (228, (4, 0, 0, 0, 229, [])), (229, (18, 12, 6, 0, 232, [])), (235, (4, 0, 0, 0, 236, [])), (236, (4, 0, 0, 0, 237, [])), (237, (18, 12, 31, 0, 240, [])), (240, (4, 0, 0, 0, 241, [])), (241, (18, 12, 7, 0, 244, [])), (247, (4, 0, 0, 0, 248, [])), (248, (4, 0, 0, 0, 249, [])), (249, (18, 12, 32, 0, 252, [])), (252, (4, 0, 0, 0, 253, [])), (253, (18, 12, 8, 0, 256, [])), (259, (4, 0, 0, 0, 260, [])), (260, (4, 0, 0, 0, 261, [])), (261, (18, 12, 33, 0, 264, [])), (264, (4, 0, 0, 0, 265, [])), (265, (18, 12, 9, 0, 268, [])), (271, (4, 0, 0, 0, 272, [])), (272, (4, 0, 0, 0, 273, [])), (273, (18, 12, 34, 0, 276, [])), (276, (4, 0, 0, 0, 277, [])), (277, (18, 12, 10, 0, 280, [])), (283, (0, 0, 0, 0, 284, [])), (284, (5, 2, 0, 0, 285, [])), (285, (2, 2, 0, 0, 286, [])), (286, (0, 0, 0, 144, 289, [])), (289, (16, 1, 292, 0, 323, [])), (292, (4, 0, 0, 0, 293, [])), (293, (18, 12, 11, 0, 296, [])), (296, (2, 2, 0, 0, 297, [])), (297, (4, 0, 0, 0, 298, [])), (298, (18, 12, 35, 0, 301, [])), (301, (2, 2, 0, 0, 302, [])), (302, (20, 0, 0, 0, 303, [])), (303, (17, 0, 306, 0, 310, [])), (306, (0, 0, 0, 1, 307, [])), (307, (15, 0, 0, 0, 316, [])), (310, (4, 0, 0, 0, 311, [])), (311, (18, 12, 35, 0, 314, [])), (314, (2, 2, 0, 0, 315, [])), (315, (20, 0, 0, 0, 316, [])), (316, (21, 0, 0, 0, 317, [])), (317, (8, 2, 0, 1, 320, [])), (320, (15, 0, 0, 0, 285, [])), (323, (4, 0, 0, 0, 324, [])), (324, (0, 0, 0, 0, 325, [])), (325, (19, 12, 36, 0, 328, [])), (328, (4, 0, 0, 0, 329, [])), (329, (0, 0, 0, (-1), 330, [])), (330, (19, 12, 40, 0, 333, [])), (333, (4, 0, 0, 0, 334, [])), (334, (0, 0, 0, 0, 335, [])), (335, (19, 12, 41, 0, 338, [])), (338, (4, 0, 0, 0, 339, [])), (339, (0, 0, 0, 0, 340, [])), (340, (19, 12, 52, 0, 343, [])), (343, (4, 0, 0, 0, 344, [])), (344, (0, 0, 0, 0, 345, [])), (345, (19, 12, 56, 0, 348, [])), (348, (4, 0, 0, 0, 349, [])), (349, (0, 0, 0, 0, 350, [])), (350, (19, 12, 63, 0, 353, [])), (353, (0, 0, 0, 0, 354, [])), (354, (5, 2, 0, 0, 355, [])), (355, (2, 2, 0, 0, 356, [])), (356, (4, 0, 0, 0, 357, [])), (357, (18, 12, 2, 0, 360, [])), (360, (16, 1, 363, 0, 408, [])), (363, (0, 0, 0, 0, 364, [])), (364, (5, 3, 0, 0, 365, [])), (365, (2, 3, 0, 0, 366, [])), (366, (0, 0, 0, 24, 368, [])), (368, (16, 1, 371, 0, 402, [])), (371, (4, 0, 0, 0, 372, [])), (372, (18, 12, 38, 0, 375, [])), (375, (0, 0, 0, 24, 377, [])), (377, (2, 2, 0, 0, 378, [])), (378, (9, 2, 0, 0, 379, [])), (379, (2, 3, 0, 0, 380, [])), (380, (9, 0, 0, 0, 381, [])), (381, (4, 0, 0, 0, 382, [])), (382, (18, 12, 11, 0, 385, [])), (385, (0, 0, 0, 24, 387, [])), (387, (2, 2, 0, 0, 388, [])), (388, (9, 2, 0, 0, 389, [])), (389, (2, 3, 0, 0, 390, [])), (390, (9, 0, 0, 0, 391, [])), (391, (20, 0, 0, 0, 392, [])), (395, (21, 0, 0, 0, 396, [])), (396, (8, 3, 0, 1, 399, [])), (399, (15, 0, 0, 0, 365, [])), (402, (8, 2, 0, 1, 405, [])), (405, (15, 0, 0, 0, 355, [])), (408, (0, 0, 0, 0, 409, [])), (409, (5, 2, 0, 0, 410, [])), (410, (2, 2, 0, 0, 411, [])), (411, (4, 0, 0, 0, 412, [])), (412, (18, 12, 3, 0, 415, [])), (415, (16, 1, 418, 0, 455, [])), (418, (0, 0, 0, 0, 419, [])), (419, (5, 3, 0, 0, 420, [])), (420, (2, 3, 0, 0, 421, [])), (421, (0, 0, 0, 24, 423, [])), (423, (16, 1, 426, 0, 449, [])), (426, (4, 0, 0, 0, 427, [])), (427, (18, 12, 39, 0, 430, [])), (430, (0, 0, 0, 24, 432, [])), (432, (2, 2, 0, 0, 433, [])), (433, (9, 2, 0, 0, 434, [])), (434, (2, 3, 0, 0, 435, [])), (435, (9, 0, 0, 0, 436, [])), (436, (4, 0, 0, 0, 437, [])), (437, (18, 12, 9, 0, 440, [])), (440, (2, 2, 0, 0, 441, [])), (441, (20, 0, 0, 0, 442, [])), (442, (21, 0, 0, 0, 443, [])), (443, (8, 3, 0, 1, 446, [])), (446, (15, 0, 0, 0, 420, [])), (449, (8, 2, 0, 1, 452, [])), (452, (15, 0, 0, 0, 410, [])), (455, (0, 0, 0, 0, 456, [])), (456, (27, 0, 0, 0, 457, []))]
set_option maxRecDepth 100000 in
theorem K_X12_house : ztbok F_X12_house T_X12_house := ztbB_ok (by decide +kernel)
set_option maxRecDepth 100000 in
theorem W_X12_house : zMth yX12_house (.code yX12_house cX12_house 4 (some .int)) 1 := ⟨z_at 1470 (by decide +kernel) (by decide +kernel), z_at 13 (by decide +kernel) (by decide +kernel), ⟨by decide +kernel, by decide +kernel⟩, by decide +kernel⟩
set_option maxRecDepth 100000 in
theorem I_X12_house : Cond.instanceMethod yX12_house ∈ zws := z_at 1468 (by decide +kernel) (by decide +kernel)
set_option maxRecDepth 100000 in
theorem S_X12_house : Cond.selects yX12_house.cls yX12_house yX12_house ∈ zws := z_at 1469 (by decide +kernel) (by decide +kernel)
abbrev F_X12_fault : zF := (12, cX12_fault, some .int, 1, [], false)
def T_X12_fault : List (Nat × zI) := [(0, (4, 0, 0, 0, 1, [])), (1, (0, 0, 0, 0, 2, [])), (2, (19, 12, 0, 0, 5, [])), (5, (4, 0, 0, 0, 6, [])), (6, (18, 12, 15, 0, 9, [])), (9, (27, 0, 0, 0, 10, []))]
set_option maxRecDepth 100000 in
theorem K_X12_fault : ztbok F_X12_fault T_X12_fault := ztbB_ok (by decide +kernel)
set_option maxRecDepth 100000 in
theorem W_X12_fault : zMth yX12_fault (.code yX12_fault cX12_fault 1 (some .int)) 0 := ⟨z_at 1550 (by decide +kernel) (by decide +kernel), z_at 13 (by decide +kernel) (by decide +kernel), ⟨by decide +kernel, by decide +kernel⟩, by decide +kernel⟩
set_option maxRecDepth 100000 in
theorem I_X12_fault : Cond.instanceMethod yX12_fault ∈ zws := z_at 1548 (by decide +kernel) (by decide +kernel)
set_option maxRecDepth 100000 in
theorem S_X12_fault : Cond.selects yX12_fault.cls yX12_fault yX12_fault ∈ zws := z_at 1549 (by decide +kernel) (by decide +kernel)
abbrev F_X12_lowest : zF := (12, cX12_lowest, some .int, 2, [], false)
def T_X12_lowest : List (Nat × zI) := [(0, (0, 0, 0, 0, 1, [])), (1, (5, 1, 0, 0, 2, [])), (2, (2, 0, 0, 0, 3, [])), (3, (2, 1, 0, 0, 4, [])), (4, (9, 7, 0, 0, 5, [])), (5, (0, 0, 0, 1, 6, [])), (6, (9, 3, 0, 0, 7, [])), (7, (17, 0, 10, 0, 16, [])), (10, (8, 1, 0, 1, 13, [])), (13, (15, 0, 0, 0, 2, [])), (16, (2, 1, 0, 0, 17, [])), (17, (27, 0, 0, 0, 18, []))]
set_option maxRecDepth 100000 in
theorem K_X12_lowest : ztbok F_X12_lowest T_X12_lowest := ztbB_ok (by decide +kernel)
set_option maxRecDepth 100000 in
theorem W_X12_lowest : zMth yX12_lowest (.code yX12_lowest cX12_lowest 2 (some .int)) 1 := ⟨z_at 1546 (by decide +kernel) (by decide +kernel), z_at 13 (by decide +kernel) (by decide +kernel), ⟨by decide +kernel, by decide +kernel⟩, by decide +kernel⟩
set_option maxRecDepth 100000 in
theorem I_X12_lowest : Cond.static yX12_lowest ∈ zws := z_at 1545 (by decide +kernel) (by decide +kernel)
abbrev F_X12_count : zF := (12, cX12_count, some .int, 2, [], false)
def T_X12_count : List (Nat × zI) := [(0, (4, 0, 0, 0, 1, [])), (1, (0, 0, 0, 0, 2, [])), (2, (19, 12, 0, 0, 5, [])), (5, (4, 0, 0, 0, 6, [])), (6, (2, 1, 0, 0, 7, [])), (7, (0, 0, 0, 0, 8, [])), (8, (0, 0, 0, 10, 10, [])), (13, (17, 0, 16, 0, 27, [])), (16, (2, 1, 0, 0, 17, [])), (17, (0, 0, 0, 20, 19, [])), (19, (0, 0, 0, 23, 21, [])), (24, (17, 0, 31, 0, 27, [])), (27, (0, 0, 0, 1, 28, [])), (28, (15, 0, 0, 0, 32, [])), (31, (0, 0, 0, 0, 32, [])), (32, (0, 0, 0, 1, 33, [])), (36, (17, 0, 39, 0, 41, [])), (39, (0, 0, 0, 0, 40, [])), (40, (27, 0, 0, 0, 41, [])), (41, (2, 1, 0, 0, 42, [])), (42, (32, 0, 128, 0, 0, [88, 93, 98, 103, 108, 113, 118, 123])), (88, (4, 0, 0, 0, 89, [])), (89, (18, 12, 1, 0, 92, [])), (92, (27, 0, 0, 0, 93, [])), (93, (4, 0, 0, 0, 94, [])), (94, (18, 12, 2, 0, 97, [])), (97, (27, 0, 0, 0, 98, [])), (98, (4, 0, 0, 0, 99, [])), (99, (18, 12, 3, 0, 102, [])), (102, (27, 0, 0, 0, 103, [])), (103, (4, 0, 0, 0, 104, [])), (104, (18, 12, 4, 0, 107, [])), (107, (27, 0, 0, 0, 108, [])), (108, (4, 0, 0, 0, 109, [])), (109, (18, 12, 36, 0, 112, [])), (112, (27, 0, 0, 0, 113, [])), (113, (4, 0, 0, 0, 114, [])), (114, (18, 12, 40, 0, 117, [])), (117, (27, 0, 0, 0, 118, [])), (118, (4, 0, 0, 0, 119, [])), (119, (18, 12, 41, 0, 122, [])), (122, (27, 0, 0, 0, 123, [])), (123, (4, 0, 0, 0, 124, [])), (124, (18, 12, 13, 0, 127, [])), (127, (27, 0, 0, 0, 128, [])), (128, (2, 1, 0, 0, 129, [])), (129, (0, 0, 0, 20, 131, [])), (131, (16, 1, 134, 0, 146, [])), (134, (4, 0, 0, 0, 135, [])), (135, (18, 12, 16, 0, 138, [])), (138, (2, 1, 0, 0, 139, [])), (139, (0, 0, 0, 8, 141, [])), (141, (9, 1, 0, 0, 142, [])), (142, (20, 0, 0, 0, 143, [])), (143, (15, 0, 0, 0, 155, [])), (146, (4, 0, 0, 0, 147, [])), (147, (18, 12, 10, 0, 150, [])), (150, (2, 1, 0, 0, 151, [])), (151, (0, 0, 0, 20, 153, [])), (153, (9, 1, 0, 0, 154, [])), (154, (20, 0, 0, 0, 155, [])), (155, (27, 0, 0, 0, 156, []))]
set_option maxRecDepth 100000 in
theorem K_X12_count : ztbok F_X12_count T_X12_count := ztbB_ok (by decide +kernel)
set_option maxRecDepth 100000 in
theorem W_X12_count : zMth yX12_count (.code yX12_count cX12_count 2 (some .int)) 1 := ⟨z_at 1554 (by decide +kernel) (by decide +kernel), z_at 13 (by decide +kernel) (by decide +kernel), ⟨by decide +kernel, by decide +kernel⟩, by decide +kernel⟩
set_option maxRecDepth 100000 in
theorem I_X12_count : Cond.instanceMethod yX12_count ∈ zws := z_at 1552 (by decide +kernel) (by decide +kernel)
set_option maxRecDepth 100000 in
theorem S_X12_count : Cond.selects yX12_count.cls yX12_count yX12_count ∈ zws := z_at 1553 (by decide +kernel) (by decide +kernel)
abbrev F_X12_isRoom : zF := (12, cX12_isRoom, some .boolean, 2, [], false)
def T_X12_isRoom : List (Nat × zI) := [(0, (4, 0, 0, 0, 1, [])), (1, (2, 1, 0, 0, 2, [])), (2, (17, 1, 17, 0, 5, [])), (5, (2, 1, 0, 0, 6, [])), (6, (4, 0, 0, 0, 7, [])), (7, (18, 12, 1, 0, 10, [])), (10, (16, 1, 13, 0, 17, [])), (13, (0, 0, 0, 1, 14, [])), (14, (15, 0, 0, 0, 18, [])), (17, (0, 0, 0, 0, 18, [])), (18, (0, 0, 0, 1, 19, [])), (22, (27, 0, 0, 0, 23, []))]
set_option maxRecDepth 100000 in
theorem K_X12_isRoom : ztbok F_X12_isRoom T_X12_isRoom := ztbB_ok (by decide +kernel)
set_option maxRecDepth 100000 in
theorem W_X12_isRoom : zMth yX12_isRoom (.code yX12_isRoom cX12_isRoom 2 (some .boolean)) 1 := ⟨z_at 1565 (by decide +kernel) (by decide +kernel), z_at 13 (by decide +kernel) (by decide +kernel), ⟨by decide +kernel, by decide +kernel⟩, by decide +kernel⟩
set_option maxRecDepth 100000 in
theorem I_X12_isRoom : Cond.instanceMethod yX12_isRoom ∈ zws := z_at 1564 (by decide +kernel) (by decide +kernel)
set_option maxRecDepth 100000 in
theorem S_X12_isRoom : Cond.selects yX12_isRoom.cls yX12_isRoom yX12_isRoom ∈ zws := z_in (List.mem_append_left _ (List.mem_map.mpr ⟨_, List.mem_of_getElem? (i := 63) rfl, rfl⟩)) rfl
abbrev F_X12_isLodger : zF := (12, cX12_isLodger, some .boolean, 2, [], false)
def T_X12_isLodger : List (Nat × zI) := [(0, (4, 0, 0, 0, 1, [])), (1, (2, 1, 0, 0, 2, [])), (2, (17, 1, 17, 0, 5, [])), (5, (2, 1, 0, 0, 6, [])), (6, (4, 0, 0, 0, 7, [])), (7, (18, 12, 2, 0, 10, [])), (10, (16, 1, 13, 0, 17, [])), (13, (0, 0, 0, 1, 14, [])), (14, (15, 0, 0, 0, 18, [])), (17, (0, 0, 0, 0, 18, [])), (18, (0, 0, 0, 1, 19, [])), (22, (27, 0, 0, 0, 23, []))]
set_option maxRecDepth 100000 in
theorem K_X12_isLodger : ztbok F_X12_isLodger T_X12_isLodger := ztbB_ok (by decide +kernel)
set_option maxRecDepth 100000 in
theorem W_X12_isLodger : zMth yX12_isLodger (.code yX12_isLodger cX12_isLodger 2 (some .boolean)) 1 := ⟨z_at 1577 (by decide +kernel) (by decide +kernel), z_at 13 (by decide +kernel) (by decide +kernel), ⟨by decide +kernel, by decide +kernel⟩, by decide +kernel⟩
set_option maxRecDepth 100000 in
theorem I_X12_isLodger : Cond.instanceMethod yX12_isLodger ∈ zws := z_at 1576 (by decide +kernel) (by decide +kernel)
set_option maxRecDepth 100000 in
theorem S_X12_isLodger : Cond.selects yX12_isLodger.cls yX12_isLodger yX12_isLodger ∈ zws := z_in (List.mem_append_left _ (List.mem_map.mpr ⟨_, List.mem_of_getElem? (i := 65) rfl, rfl⟩)) rfl
abbrev F_X12_isFinder : zF := (12, cX12_isFinder, some .boolean, 2, [], false)
def T_X12_isFinder : List (Nat × zI) := [(0, (4, 0, 0, 0, 1, [])), (1, (2, 1, 0, 0, 2, [])), (2, (17, 1, 17, 0, 5, [])), (5, (2, 1, 0, 0, 6, [])), (6, (4, 0, 0, 0, 7, [])), (7, (18, 12, 3, 0, 10, [])), (10, (16, 1, 13, 0, 17, [])), (13, (0, 0, 0, 1, 14, [])), (14, (15, 0, 0, 0, 18, [])), (17, (0, 0, 0, 0, 18, [])), (18, (0, 0, 0, 1, 19, [])), (22, (27, 0, 0, 0, 23, []))]
set_option maxRecDepth 100000 in
theorem K_X12_isFinder : ztbok F_X12_isFinder T_X12_isFinder := ztbB_ok (by decide +kernel)
set_option maxRecDepth 100000 in
theorem W_X12_isFinder : zMth yX12_isFinder (.code yX12_isFinder cX12_isFinder 2 (some .boolean)) 1 := ⟨z_at 1648 (by decide +kernel) (by decide +kernel), z_at 13 (by decide +kernel) (by decide +kernel), ⟨by decide +kernel, by decide +kernel⟩, by decide +kernel⟩
set_option maxRecDepth 100000 in
theorem I_X12_isFinder : Cond.instanceMethod yX12_isFinder ∈ zws := z_at 1647 (by decide +kernel) (by decide +kernel)
set_option maxRecDepth 100000 in
theorem S_X12_isFinder : Cond.selects yX12_isFinder.cls yX12_isFinder yX12_isFinder ∈ zws := z_in (List.mem_append_left _ (List.mem_map.mpr ⟨_, List.mem_of_getElem? (i := 73) rfl, rfl⟩)) rfl
abbrev F_X12_isHour : zF := (12, cX12_isHour, some .boolean, 2, [], false)
def T_X12_isHour : List (Nat × zI) := [(0, (4, 0, 0, 0, 1, [])), (1, (2, 1, 0, 0, 2, [])), (2, (0, 0, 0, 0, 3, [])), (3, (0, 0, 0, 23, 5, [])), (8, (0, 0, 0, 1, 9, [])), (12, (27, 0, 0, 0, 13, []))]
set_option maxRecDepth 100000 in
theorem K_X12_isHour : ztbok F_X12_isHour T_X12_isHour := ztbB_ok (by decide +kernel)
set_option maxRecDepth 100000 in
theorem W_X12_isHour : zMth yX12_isHour (.code yX12_isHour cX12_isHour 2 (some .boolean)) 1 := ⟨z_at 1589 (by decide +kernel) (by decide +kernel), z_at 13 (by decide +kernel) (by decide +kernel), ⟨by decide +kernel, by decide +kernel⟩, by decide +kernel⟩
set_option maxRecDepth 100000 in
theorem I_X12_isHour : Cond.instanceMethod yX12_isHour ∈ zws := z_at 1588 (by decide +kernel) (by decide +kernel)
set_option maxRecDepth 100000 in
theorem S_X12_isHour : Cond.selects yX12_isHour.cls yX12_isHour yX12_isHour ∈ zws := z_in (List.mem_append_left _ (List.mem_map.mpr ⟨_, List.mem_of_getElem? (i := 67) rfl, rfl⟩)) rfl
abbrev F_X12_isTwo : zF := (12, cX12_isTwo, some .boolean, 2, [], false)
def T_X12_isTwo : List (Nat × zI) := [(0, (4, 0, 0, 0, 1, [])), (1, (2, 1, 0, 0, 2, [])), (2, (17, 0, 10, 0, 5, [])), (5, (2, 1, 0, 0, 6, [])), (6, (0, 0, 0, 1, 7, [])), (7, (16, 0, 10, 0, 14, [])), (10, (0, 0, 0, 1, 11, [])), (11, (15, 0, 0, 0, 15, [])), (14, (0, 0, 0, 0, 15, [])), (15, (0, 0, 0, 1, 16, [])), (19, (27, 0, 0, 0, 20, []))]
set_option maxRecDepth 100000 in
theorem K_X12_isTwo : ztbok F_X12_isTwo T_X12_isTwo := ztbB_ok (by decide +kernel)
set_option maxRecDepth 100000 in
theorem W_X12_isTwo : zMth yX12_isTwo (.code yX12_isTwo cX12_isTwo 2 (some .boolean)) 1 := ⟨z_at 1569 (by decide +kernel) (by decide +kernel), z_at 13 (by decide +kernel) (by decide +kernel), ⟨by decide +kernel, by decide +kernel⟩, by decide +kernel⟩
set_option maxRecDepth 100000 in
theorem I_X12_isTwo : Cond.instanceMethod yX12_isTwo ∈ zws := z_at 1568 (by decide +kernel) (by decide +kernel)
set_option maxRecDepth 100000 in
theorem S_X12_isTwo : Cond.selects yX12_isTwo.cls yX12_isTwo yX12_isTwo ∈ zws := z_in (List.mem_append_left _ (List.mem_map.mpr ⟨_, List.mem_of_getElem? (i := 64) rfl, rfl⟩)) rfl
abbrev F_X12_room : zF := (12, cX12_room, some .int, 3, [], false)
def T_X12_room : List (Nat × zI) := [(0, (4, 0, 0, 0, 1, [])), (1, (0, 0, 0, 0, 2, [])), (2, (19, 12, 0, 0, 5, [])), (5, (4, 0, 0, 0, 6, [])), (6, (2, 1, 0, 0, 7, [])), (10, (17, 0, 43, 0, 13, [])), (13, (4, 0, 0, 0, 14, [])), (14, (2, 2, 0, 0, 15, [])), (18, (17, 0, 43, 0, 21, [])), (21, (2, 2, 0, 0, 22, [])), (22, (17, 0, 25, 0, 34, [])), (25, (4, 0, 0, 0, 26, [])), (26, (18, 12, 5, 0, 29, [])), (29, (2, 1, 0, 0, 30, [])), (30, (20, 0, 0, 0, 31, [])), (31, (15, 0, 0, 0, 44, [])), (34, (4, 0, 0, 0, 35, [])), (35, (18, 12, 6, 0, 38, [])), (38, (2, 1, 0, 0, 39, [])), (39, (20, 0, 0, 0, 40, [])), (40, (15, 0, 0, 0, 44, [])), (43, (0, 0, 0, 0, 44, [])), (44, (27, 0, 0, 0, 45, []))]
set_option maxRecDepth 100000 in
theorem K_X12_room : ztbok F_X12_room T_X12_room := ztbB_ok (by decide +kernel)
set_option maxRecDepth 100000 in
theorem W_X12_room : zMth yX12_room (.code yX12_room cX12_room 3 (some .int)) 2 := ⟨z_at 1561 (by decide +kernel) (by decide +kernel), z_at 13 (by decide +kernel) (by decide +kernel), ⟨by decide +kernel, by decide +kernel⟩, by decide +kernel⟩
set_option maxRecDepth 100000 in
theorem I_X12_room : Cond.instanceMethod yX12_room ∈ zws := z_at 1559 (by decide +kernel) (by decide +kernel)
set_option maxRecDepth 100000 in
theorem S_X12_room : Cond.selects yX12_room.cls yX12_room yX12_room ∈ zws := z_at 1560 (by decide +kernel) (by decide +kernel)
abbrev F_X12_has : zF := (12, cX12_has, some .int, 5, [], false)
def T_X12_has : List (Nat × zI) := [(0, (4, 0, 0, 0, 1, [])), (1, (18, 12, 8, 0, 4, [])), (4, (0, 0, 0, 2, 5, [])), (5, (2, 1, 0, 0, 6, [])), (6, (9, 2, 0, 0, 7, [])), (7, (2, 2, 0, 0, 8, [])), (8, (9, 0, 0, 0, 9, [])), (9, (0, 0, 0, 1, 10, [])), (10, (9, 1, 0, 0, 11, [])), (11, (20, 0, 0, 0, 12, [])), (12, (5, 3, 0, 0, 13, [])), (13, (0, 0, 0, 0, 14, [])), (14, (5, 4, 0, 0, 16, [])), (16, (2, 4, 0, 0, 18, [])), (18, (4, 0, 0, 0, 19, [])), (19, (18, 12, 36, 0, 22, [])), (22, (16, 1, 25, 0, 93, [])), (25, (4, 0, 0, 0, 26, [])), (26, (18, 12, 37, 0, 29, [])), (29, (0, 0, 0, 3, 30, [])), (30, (2, 4, 0, 0, 32, [])), (32, (9, 2, 0, 0, 33, [])), (33, (0, 0, 0, 2, 34, [])), (34, (9, 0, 0, 0, 35, [])), (35, (20, 0, 0, 0, 36, [])), (36, (2, 2, 0, 0, 37, [])), (37, (16, 0, 43, 0, 40, [])), (40, (15, 0, 0, 0, 87, [])), (43, (2, 3, 0, 0, 44, [])), (44, (4, 0, 0, 0, 45, [])), (45, (18, 12, 37, 0, 48, [])), (48, (0, 0, 0, 3, 49, [])), (49, (2, 4, 0, 0, 51, [])), (51, (9, 2, 0, 0, 52, [])), (52, (20, 0, 0, 0, 53, [])), (53, (2, 1, 0, 0, 54, [])), (54, (16, 0, 57, 0, 61, [])), (57, (0, 0, 0, 1, 58, [])), (58, (15, 0, 0, 0, 62, [])), (61, (0, 0, 0, 0, 62, [])), (62, (9, 1, 0, 0, 63, [])), (63, (5, 3, 0, 0, 64, [])), (64, (2, 3, 0, 0, 65, [])), (65, (4, 0, 0, 0, 66, [])), (66, (18, 12, 37, 0, 69, [])), (69, (0, 0, 0, 3, 70, [])), (70, (2, 4, 0, 0, 72, [])), (72, (9, 2, 0, 0, 73, [])), (73, (0, 0, 0, 1, 74, [])), (74, (9, 0, 0, 0, 75, [])), (75, (20, 0, 0, 0, 76, [])), (76, (2, 1, 0, 0, 77, [])), (77, (16, 0, 80, 0, 84, [])), (80, (0, 0, 0, 1, 81, [])), (81, (15, 0, 0, 0, 85, [])), (84, (0, 0, 0, 0, 85, [])), (85, (9, 0, 0, 0, 86, [])), (86, (5, 3, 0, 0, 87, [])), (87, (8, 4, 0, 1, 90, [])), (90, (15, 0, 0, 0, 16, [])), (93, (2, 3, 0, 0, 94, [])), (94, (27, 0, 0, 0, 95, []))]
set_option maxRecDepth 100000 in
theorem K_X12_has : ztbok F_X12_has T_X12_has := ztbB_ok (by decide +kernel)
set_option maxRecDepth 100000 in
theorem W_X12_has : zMth yX12_has (.code yX12_has cX12_has 5 (some .int)) 2 := ⟨z_at 1581 (by decide +kernel) (by decide +kernel), z_at 13 (by decide +kernel) (by decide +kernel), ⟨by decide +kernel, by decide +kernel⟩, by decide +kernel⟩
set_option maxRecDepth 100000 in
theorem I_X12_has : Cond.instanceMethod yX12_has ∈ zws := z_at 1580 (by decide +kernel) (by decide +kernel)
set_option maxRecDepth 100000 in
theorem S_X12_has : Cond.selects yX12_has.cls yX12_has yX12_has ∈ zws := z_in (List.mem_append_left _ (List.mem_map.mpr ⟨_, List.mem_of_getElem? (i := 66) rfl, rfl⟩)) rfl
abbrev F_X12_both : zF := (12, cX12_both, some .int, 2, [], false)
def T_X12_both : List (Nat × zI) := [(0, (4, 0, 0, 0, 1, [])), (1, (2, 1, 0, 0, 2, [])), (2, (0, 0, 0, 1, 3, [])), (6, (17, 2, 9, 0, 13, [])), (9, (0, 0, 0, 1, 10, [])), (10, (15, 0, 0, 0, 14, [])), (13, (0, 0, 0, 0, 14, [])), (14, (4, 0, 0, 0, 15, [])), (15, (2, 1, 0, 0, 16, [])), (16, (0, 0, 0, 2, 17, [])), (20, (17, 2, 23, 0, 27, [])), (23, (0, 0, 0, 2, 24, [])), (24, (15, 0, 0, 0, 28, [])), (27, (0, 0, 0, 0, 28, [])), (28, (9, 4, 0, 0, 29, [])), (29, (27, 0, 0, 0, 30, []))]
set_option maxRecDepth 100000 in
theorem K_X12_both : ztbok F_X12_both T_X12_both := ztbB_ok (by decide +kernel)
set_option maxRecDepth 100000 in
theorem W_X12_both : zMth yX12_both (.code yX12_both cX12_both 2 (some .int)) 1 := ⟨z_at 1611 (by decide +kernel) (by decide +kernel), z_at 13 (by decide +kernel) (by decide +kernel), ⟨by decide +kernel, by decide +kernel⟩, by decide +kernel⟩
set_option maxRecDepth 100000 in
theorem I_X12_both : Cond.instanceMethod yX12_both ∈ zws := z_at 1610 (by decide +kernel) (by decide +kernel)
set_option maxRecDepth 100000 in
theorem S_X12_both : Cond.selects yX12_both.cls yX12_both yX12_both ∈ zws := z_in (List.mem_append_left _ (List.mem_map.mpr ⟨_, List.mem_of_getElem? (i := 70) rfl, rfl⟩)) rfl
abbrev F_X12_lawOf : zF := (12, cX12_lawOf, some .int, 2, [], false)
def T_X12_lawOf : List (Nat × zI) := [(0, (4, 0, 0, 0, 1, [])), (1, (18, 12, 10, 0, 4, [])), (4, (2, 1, 0, 0, 5, [])), (5, (0, 0, 0, 4, 6, [])), (6, (16, 1, 9, 0, 13, [])), (9, (2, 1, 0, 0, 10, [])), (10, (15, 0, 0, 0, 14, [])), (13, (0, 0, 0, 0, 14, [])), (14, (20, 0, 0, 0, 15, [])), (15, (27, 0, 0, 0, 16, []))]
set_option maxRecDepth 100000 in
theorem K_X12_lawOf : ztbok F_X12_lawOf T_X12_lawOf := ztbB_ok (by decide +kernel)
set_option maxRecDepth 100000 in
theorem W_X12_lawOf : zMth yX12_lawOf (.code yX12_lawOf cX12_lawOf 2 (some .int)) 1 := ⟨z_at 1607 (by decide +kernel) (by decide +kernel), z_at 13 (by decide +kernel) (by decide +kernel), ⟨by decide +kernel, by decide +kernel⟩, by decide +kernel⟩
set_option maxRecDepth 100000 in
theorem I_X12_lawOf : Cond.instanceMethod yX12_lawOf ∈ zws := z_at 1606 (by decide +kernel) (by decide +kernel)
set_option maxRecDepth 100000 in
theorem S_X12_lawOf : Cond.selects yX12_lawOf.cls yX12_lawOf yX12_lawOf ∈ zws := z_in (List.mem_append_left _ (List.mem_map.mpr ⟨_, List.mem_of_getElem? (i := 69) rfl, rfl⟩)) rfl
abbrev F_X12_signOf : zF := (12, cX12_signOf, some .int, 3, [], false)
def T_X12_signOf : List (Nat × zI) := [(0, (4, 0, 0, 0, 1, [])), (1, (2, 2, 0, 0, 2, [])), (5, (4, 0, 0, 0, 6, [])), (6, (2, 1, 0, 0, 7, [])), (10, (9, 3, 0, 0, 11, [])), (11, (27, 0, 0, 0, 12, []))]
set_option maxRecDepth 100000 in
theorem K_X12_signOf : ztbok F_X12_signOf T_X12_signOf := ztbB_ok (by decide +kernel)
set_option maxRecDepth 100000 in
theorem W_X12_signOf : zMth yX12_signOf (.code yX12_signOf cX12_signOf 3 (some .int)) 2 := ⟨z_at 1603 (by decide +kernel) (by decide +kernel), z_at 13 (by decide +kernel) (by decide +kernel), ⟨by decide +kernel, by decide +kernel⟩, by decide +kernel⟩
set_option maxRecDepth 100000 in
theorem I_X12_signOf : Cond.instanceMethod yX12_signOf ∈ zws := z_at 1602 (by decide +kernel) (by decide +kernel)
set_option maxRecDepth 100000 in
theorem S_X12_signOf : Cond.selects yX12_signOf.cls yX12_signOf yX12_signOf ∈ zws := z_in (List.mem_append_left _ (List.mem_map.mpr ⟨_, List.mem_of_getElem? (i := 68) rfl, rfl⟩)) rfl
abbrev F_X12_lodger : zF := (12, cX12_lodger, some .int, 3, [], false)
def T_X12_lodger : List (Nat × zI) := [(0, (4, 0, 0, 0, 1, [])), (1, (0, 0, 0, 0, 2, [])), (2, (19, 12, 0, 0, 5, [])), (5, (4, 0, 0, 0, 6, [])), (6, (2, 1, 0, 0, 7, [])), (10, (17, 0, 27, 0, 13, [])), (13, (4, 0, 0, 0, 14, [])), (14, (2, 2, 0, 0, 15, [])), (15, (0, 0, 0, 0, 16, [])), (16, (0, 0, 0, 2, 17, [])), (20, (0, 0, 0, 1, 21, [])), (24, (17, 0, 27, 0, 29, [])), (27, (0, 0, 0, 0, 28, [])), (28, (27, 0, 0, 0, 29, [])), (29, (2, 2, 0, 0, 30, [])), (30, (17, 0, 33, 0, 42, [])), (33, (4, 0, 0, 0, 34, [])), (34, (18, 12, 7, 0, 37, [])), (37, (2, 1, 0, 0, 38, [])), (38, (20, 0, 0, 0, 39, [])), (39, (15, 0, 0, 0, 48, [])), (42, (4, 0, 0, 0, 43, [])), (43, (2, 1, 0, 0, 44, [])), (44, (2, 2, 0, 0, 45, [])), (48, (27, 0, 0, 0, 49, []))]
set_option maxRecDepth 100000 in
theorem K_X12_lodger : ztbok F_X12_lodger T_X12_lodger := ztbB_ok (by decide +kernel)
set_option maxRecDepth 100000 in
theorem W_X12_lodger : zMth yX12_lodger (.code yX12_lodger cX12_lodger 3 (some .int)) 2 := ⟨z_at 1573 (by decide +kernel) (by decide +kernel), z_at 13 (by decide +kernel) (by decide +kernel), ⟨by decide +kernel, by decide +kernel⟩, by decide +kernel⟩
set_option maxRecDepth 100000 in
theorem I_X12_lodger : Cond.instanceMethod yX12_lodger ∈ zws := z_at 1571 (by decide +kernel) (by decide +kernel)
set_option maxRecDepth 100000 in
theorem S_X12_lodger : Cond.selects yX12_lodger.cls yX12_lodger yX12_lodger ∈ zws := z_at 1572 (by decide +kernel) (by decide +kernel)
abbrev F_X12_toldOf : zF := (12, cX12_toldOf, some .int, 1, [], false)
def T_X12_toldOf : List (Nat × zI) := [(0, (2, 0, 0, 0, 1, [])), (1, (0, 0, 0, 4, 2, [])), (2, (16, 1, 5, 0, 9, [])), (5, (2, 0, 0, 0, 6, [])), (6, (15, 0, 0, 0, 13, [])), (9, (2, 0, 0, 0, 10, [])), (10, (0, 0, 0, 6, 12, [])), (12, (9, 0, 0, 0, 13, [])), (13, (27, 0, 0, 0, 14, []))]
set_option maxRecDepth 100000 in
theorem K_X12_toldOf : ztbok F_X12_toldOf T_X12_toldOf := ztbB_ok (by decide +kernel)
set_option maxRecDepth 100000 in
theorem W_X12_toldOf : zMth yX12_toldOf (.code yX12_toldOf cX12_toldOf 1 (some .int)) 1 := ⟨z_at 1595 (by decide +kernel) (by decide +kernel), z_at 13 (by decide +kernel) (by decide +kernel), ⟨by decide +kernel, by decide +kernel⟩, by decide +kernel⟩
set_option maxRecDepth 100000 in
theorem I_X12_toldOf : Cond.static yX12_toldOf ∈ zws := z_at 1594 (by decide +kernel) (by decide +kernel)
abbrev F_X12_may : zF := (12, cX12_may, some .int, 6, [], false)
def T_X12_may : List (Nat × zI) := [(0, (4, 0, 0, 0, 1, [])), (1, (0, 0, 0, 0, 2, [])), (2, (19, 12, 0, 0, 5, [])), (5, (4, 0, 0, 0, 6, [])), (6, (2, 1, 0, 0, 7, [])), (10, (17, 0, 39, 0, 13, [])), (13, (4, 0, 0, 0, 14, [])), (14, (2, 2, 0, 0, 15, [])), (18, (17, 0, 39, 0, 21, [])), (21, (4, 0, 0, 0, 22, [])), (22, (2, 3, 0, 0, 23, [])), (23, (0, 0, 0, (-1), 24, [])), (24, (16, 1, 31, 0, 27, [])), (27, (0, 0, 0, 1, 28, [])), (28, (15, 0, 0, 0, 32, [])), (31, (0, 0, 0, 0, 32, [])), (32, (0, 0, 0, 1, 33, [])), (36, (17, 0, 39, 0, 41, [])), (39, (0, 0, 0, 0, 40, [])), (40, (27, 0, 0, 0, 41, [])), (41, (4, 0, 0, 0, 42, [])), (42, (18, 12, 11, 0, 45, [])), (45, (0, 0, 0, 24, 47, [])), (47, (2, 1, 0, 0, 48, [])), (48, (9, 2, 0, 0, 49, [])), (49, (2, 2, 0, 0, 50, [])), (50, (9, 0, 0, 0, 51, [])), (51, (20, 0, 0, 0, 52, [])), (52, (5, 4, 0, 0, 54, [])), (54, (2, 3, 0, 0, 55, [])), (55, (0, 0, 0, (-1), 56, [])), (56, (16, 0, 59, 0, 65, [])), (59, (2, 4, 0, 0, 61, [])), (64, (27, 0, 0, 0, 65, [])), (65, (4, 0, 0, 0, 66, [])), (66, (2, 3, 0, 0, 67, [])), (67, (2, 4, 0, 0, 69, [])), (72, (16, 1, 75, 0, 79, [])), (75, (0, 0, 0, 1, 76, [])), (76, (15, 0, 0, 0, 80, [])), (79, (0, 0, 0, 0, 80, [])), (80, (0, 0, 0, 1, 81, [])), (84, (17, 0, 87, 0, 89, [])), (87, (0, 0, 0, 0, 88, [])), (88, (27, 0, 0, 0, 89, [])), (89, (0, 0, 0, 0, 90, [])), (90, (5, 5, 0, 0, 92, [])), (92, (2, 5, 0, 0, 94, [])), (94, (2, 3, 0, 0, 95, [])), (95, (16, 1, 98, 0, 113, [])), (98, (2, 4, 0, 0, 100, [])), (100, (2, 4, 0, 0, 102, [])), (102, (0, 0, 0, 1, 103, [])), (103, (9, 1, 0, 0, 104, [])), (104, (9, 3, 0, 0, 105, [])), (105, (5, 4, 0, 0, 107, [])), (107, (8, 5, 0, 1, 110, [])), (110, (15, 0, 0, 0, 92, [])), (113, (2, 4, 0, 0, 115, [])), (121, (27, 0, 0, 0, 122, []))]
set_option maxRecDepth 100000 in
theorem K_X12_may : ztbok F_X12_may T_X12_may := ztbB_ok (by decide +kernel)
set_option maxRecDepth 100000 in
theorem W_X12_may : zMth yX12_may (.code yX12_may cX12_may 6 (some .int)) 3 := ⟨z_at 1585 (by decide +kernel) (by decide +kernel), z_at 13 (by decide +kernel) (by decide +kernel), ⟨by decide +kernel, by decide +kernel⟩, by decide +kernel⟩
set_option maxRecDepth 100000 in
theorem I_X12_may : Cond.instanceMethod yX12_may ∈ zws := z_at 1583 (by decide +kernel) (by decide +kernel)
set_option maxRecDepth 100000 in
theorem S_X12_may : Cond.selects yX12_may.cls yX12_may yX12_may ∈ zws := z_at 1584 (by decide +kernel) (by decide +kernel)
abbrev F_X12_says : zF := (12, cX12_says, some .int, 3, [], false)
def T_X12_says : List (Nat × zI) := [(0, (4, 0, 0, 0, 1, [])), (1, (0, 0, 0, 0, 2, [])), (2, (19, 12, 0, 0, 5, [])), (5, (4, 0, 0, 0, 6, [])), (6, (2, 1, 0, 0, 7, [])), (10, (17, 0, 65, 0, 13, [])), (13, (4, 0, 0, 0, 14, [])), (14, (2, 2, 0, 0, 15, [])), (15, (0, 0, 0, 0, 16, [])), (16, (0, 0, 0, 3, 17, [])), (20, (17, 0, 23, 0, 53, [])), (23, (2, 2, 0, 0, 24, [])), (24, (0, 0, 0, 10, 26, [])), (26, (16, 1, 57, 0, 29, [])), (29, (2, 2, 0, 0, 30, [])), (30, (0, 0, 0, 10, 32, [])), (32, (9, 1, 0, 0, 33, [])), (33, (4, 0, 0, 0, 34, [])), (34, (18, 12, 1, 0, 37, [])), (37, (16, 1, 40, 0, 57, [])), (40, (2, 2, 0, 0, 41, [])), (41, (0, 0, 0, 10, 43, [])), (43, (9, 1, 0, 0, 44, [])), (44, (4, 0, 0, 0, 45, [])), (45, (18, 12, 7, 0, 48, [])), (48, (2, 1, 0, 0, 49, [])), (49, (20, 0, 0, 0, 50, [])), (50, (16, 0, 57, 0, 53, [])), (53, (0, 0, 0, 1, 54, [])), (54, (15, 0, 0, 0, 58, [])), (57, (0, 0, 0, 0, 58, [])), (58, (0, 0, 0, 1, 59, [])), (62, (17, 0, 65, 0, 67, [])), (65, (0, 0, 0, 0, 66, [])), (66, (27, 0, 0, 0, 67, [])), (67, (4, 0, 0, 0, 68, [])), (68, (2, 1, 0, 0, 69, [])), (69, (2, 2, 0, 0, 70, [])), (70, (0, 0, 0, 4, 71, [])), (71, (16, 1, 74, 0, 78, [])), (74, (2, 2, 0, 0, 75, [])), (75, (15, 0, 0, 0, 82, [])), (78, (2, 2, 0, 0, 79, [])), (79, (0, 0, 0, 6, 81, [])), (81, (9, 1, 0, 0, 82, [])), (85, (27, 0, 0, 0, 86, []))]
set_option maxRecDepth 100000 in
theorem K_X12_says : ztbok F_X12_says T_X12_says := ztbB_ok (by decide +kernel)
set_option maxRecDepth 100000 in
theorem W_X12_says : zMth yX12_says (.code yX12_says cX12_says 3 (some .int)) 2 := ⟨z_at 1599 (by decide +kernel) (by decide +kernel), z_at 13 (by decide +kernel) (by decide +kernel), ⟨by decide +kernel, by decide +kernel⟩, by decide +kernel⟩
set_option maxRecDepth 100000 in
theorem I_X12_says : Cond.instanceMethod yX12_says ∈ zws := z_at 1597 (by decide +kernel) (by decide +kernel)
set_option maxRecDepth 100000 in
theorem S_X12_says : Cond.selects yX12_says.cls yX12_says yX12_says ∈ zws := z_at 1598 (by decide +kernel) (by decide +kernel)
abbrev F_X12_refuses : zF := (12, cX12_refuses, some .int, 2, [], false)
def T_X12_refuses : List (Nat × zI) := [(0, (4, 0, 0, 0, 1, [])), (1, (18, 12, 16, 0, 4, [])), (4, (2, 1, 0, 0, 5, [])), (5, (13, 0, 0, 0, 6, [])), (6, (20, 0, 0, 0, 7, [])), (7, (0, 0, 0, 1, 8, [])), (8, (9, 0, 0, 0, 9, [])), (9, (21, 0, 0, 0, 10, [])), (10, (0, 0, 0, (-1), 11, [])), (11, (27, 0, 0, 0, 12, []))]
set_option maxRecDepth 100000 in
theorem K_X12_refuses : ztbok F_X12_refuses T_X12_refuses := ztbB_ok (by decide +kernel)
set_option maxRecDepth 100000 in
theorem W_X12_refuses : zMth yX12_refuses (.code yX12_refuses cX12_refuses 2 (some .int)) 1 := ⟨z_at 1619 (by decide +kernel) (by decide +kernel), z_at 13 (by decide +kernel) (by decide +kernel), ⟨by decide +kernel, by decide +kernel⟩, by decide +kernel⟩
set_option maxRecDepth 100000 in
theorem I_X12_refuses : Cond.instanceMethod yX12_refuses ∈ zws := z_at 1618 (by decide +kernel) (by decide +kernel)
set_option maxRecDepth 100000 in
theorem S_X12_refuses : Cond.selects yX12_refuses.cls yX12_refuses yX12_refuses ∈ zws := z_in (List.mem_append_left _ (List.mem_map.mpr ⟨_, List.mem_of_getElem? (i := 71) rfl, rfl⟩)) rfl
abbrev F_X12_lend : zF := (12, cX12_lend, some .int, 4, [], false)
def T_X12_lend : List (Nat × zI) := [(0, (4, 0, 0, 0, 1, [])), (1, (0, 0, 0, 0, 2, [])), (2, (19, 12, 0, 0, 5, [])), (5, (4, 0, 0, 0, 6, [])), (6, (2, 1, 0, 0, 7, [])), (10, (17, 0, 21, 0, 13, [])), (13, (4, 0, 0, 0, 14, [])), (14, (2, 2, 0, 0, 15, [])), (18, (17, 0, 21, 0, 23, [])), (21, (0, 0, 0, 0, 22, [])), (22, (27, 0, 0, 0, 23, [])), (23, (4, 0, 0, 0, 24, [])), (24, (18, 12, 36, 0, 27, [])), (27, (0, 0, 0, 12, 29, [])), (29, (16, 0, 55, 0, 32, [])), (32, (2, 1, 0, 0, 33, [])), (33, (2, 2, 0, 0, 34, [])), (34, (16, 0, 55, 0, 37, [])), (37, (2, 3, 0, 0, 38, [])), (38, (0, 0, 0, 1, 39, [])), (39, (0, 0, 0, 2, 40, [])), (43, (17, 0, 55, 0, 46, [])), (46, (4, 0, 0, 0, 47, [])), (47, (2, 1, 0, 0, 48, [])), (48, (2, 3, 0, 0, 49, [])), (52, (17, 0, 55, 0, 61, [])), (55, (4, 0, 0, 0, 56, [])), (56, (0, 0, 0, 1, 57, [])), (60, (27, 0, 0, 0, 61, [])), (61, (4, 0, 0, 0, 62, [])), (62, (18, 12, 37, 0, 65, [])), (65, (0, 0, 0, 3, 66, [])), (66, (4, 0, 0, 0, 67, [])), (67, (18, 12, 36, 0, 70, [])), (70, (9, 2, 0, 0, 71, [])), (71, (2, 1, 0, 0, 72, [])), (72, (21, 0, 0, 0, 73, [])), (73, (4, 0, 0, 0, 74, [])), (74, (18, 12, 37, 0, 77, [])), (77, (0, 0, 0, 3, 78, [])), (78, (4, 0, 0, 0, 79, [])), (79, (18, 12, 36, 0, 82, [])), (82, (9, 2, 0, 0, 83, [])), (83, (0, 0, 0, 1, 84, [])), (84, (9, 0, 0, 0, 85, [])), (85, (2, 2, 0, 0, 86, [])), (86, (21, 0, 0, 0, 87, [])), (87, (4, 0, 0, 0, 88, [])), (88, (18, 12, 37, 0, 91, [])), (91, (0, 0, 0, 3, 92, [])), (92, (4, 0, 0, 0, 93, [])), (93, (18, 12, 36, 0, 96, [])), (96, (9, 2, 0, 0, 97, [])), (97, (0, 0, 0, 2, 98, [])), (98, (9, 0, 0, 0, 99, [])), (99, (2, 3, 0, 0, 100, [])), (100, (21, 0, 0, 0, 101, [])), (101, (4, 0, 0, 0, 102, [])), (102, (12, 0, 0, 0, 103, [])), (103, (18, 12, 36, 0, 106, [])), (106, (0, 0, 0, 1, 107, [])), (107, (9, 0, 0, 0, 108, [])), (108, (19, 12, 36, 0, 111, [])), (111, (4, 0, 0, 0, 112, [])), (112, (18, 12, 36, 0, 115, [])), (115, (27, 0, 0, 0, 116, []))]
set_option maxRecDepth 100000 in
theorem K_X12_lend : ztbok F_X12_lend T_X12_lend := ztbB_ok (by decide +kernel)
set_option maxRecDepth 100000 in
theorem W_X12_lend : zMth yX12_lend (.code yX12_lend cX12_lend 4 (some .int)) 3 := ⟨z_at 1615 (by decide +kernel) (by decide +kernel), z_at 13 (by decide +kernel) (by decide +kernel), ⟨by decide +kernel, by decide +kernel⟩, by decide +kernel⟩
set_option maxRecDepth 100000 in
theorem I_X12_lend : Cond.instanceMethod yX12_lend ∈ zws := z_at 1613 (by decide +kernel) (by decide +kernel)
set_option maxRecDepth 100000 in
theorem S_X12_lend : Cond.selects yX12_lend.cls yX12_lend yX12_lend ∈ zws := z_at 1614 (by decide +kernel) (by decide +kernel)
abbrev F_X12_back : zF := (12, cX12_back, some .int, 1, [], false)
def T_X12_back : List (Nat × zI) := [(0, (4, 0, 0, 0, 1, [])), (1, (0, 0, 0, 0, 2, [])), (2, (19, 12, 0, 0, 5, [])), (5, (4, 0, 0, 0, 6, [])), (6, (18, 12, 36, 0, 9, [])), (9, (17, 0, 12, 0, 14, [])), (12, (0, 0, 0, (-1), 13, [])), (13, (27, 0, 0, 0, 14, [])), (14, (4, 0, 0, 0, 15, [])), (15, (12, 0, 0, 0, 16, [])), (16, (18, 12, 36, 0, 19, [])), (19, (0, 0, 0, 1, 20, [])), (20, (9, 1, 0, 0, 21, [])), (21, (19, 12, 36, 0, 24, [])), (24, (4, 0, 0, 0, 25, [])), (25, (18, 12, 36, 0, 28, [])), (28, (27, 0, 0, 0, 29, []))]
set_option maxRecDepth 100000 in
theorem K_X12_back : ztbok F_X12_back T_X12_back := ztbB_ok (by decide +kernel)
set_option maxRecDepth 100000 in
theorem W_X12_back : zMth yX12_back (.code yX12_back cX12_back 1 (some .int)) 0 := ⟨z_at 1623 (by decide +kernel) (by decide +kernel), z_at 13 (by decide +kernel) (by decide +kernel), ⟨by decide +kernel, by decide +kernel⟩, by decide +kernel⟩
set_option maxRecDepth 100000 in
theorem I_X12_back : Cond.instanceMethod yX12_back ∈ zws := z_at 1621 (by decide +kernel) (by decide +kernel)
set_option maxRecDepth 100000 in
theorem S_X12_back : Cond.selects yX12_back.cls yX12_back yX12_back ∈ zws := z_at 1622 (by decide +kernel) (by decide +kernel)
abbrev F_X12_draw : zF := (12, cX12_draw, none, 8, [], false)
def T_X12_draw : List (Nat × zI) := [(0, (4, 0, 0, 0, 1, [])), (1, (0, 0, 0, 0, 2, [])), (2, (19, 12, 0, 0, 5, [])), (5, (2, 1, 0, 0, 6, [])), (6, (5, 2, 0, 0, 7, [])), (7, (0, 0, 0, 0, 8, [])), (8, (5, 3, 0, 0, 9, [])), (9, (2, 3, 0, 0, 10, [])), (10, (0, 0, 0, 24, 12, [])), (12, (16, 1, 15, 0, 126, [])), (15, (0, 0, 0, 0, 16, [])), (16, (5, 4, 0, 0, 18, [])), (18, (2, 4, 0, 0, 20, [])), (20, (4, 0, 0, 0, 21, [])), (21, (18, 12, 2, 0, 24, [])), (24, (16, 1, 27, 0, 120, [])), (27, (4, 0, 0, 0, 28, [])), (28, (18, 12, 11, 0, 31, [])), (31, (0, 0, 0, 24, 33, [])), (33, (2, 4, 0, 0, 35, [])), (35, (9, 2, 0, 0, 36, [])), (36, (2, 3, 0, 0, 37, [])), (37, (9, 0, 0, 0, 38, [])), (38, (20, 0, 0, 0, 39, [])), (39, (5, 5, 0, 0, 41, [])), (41, (2, 5, 0, 0, 43, [])), (46, (5, 6, 0, 0, 48, [])), (48, (2, 6, 0, 0, 50, [])), (50, (0, 0, 0, 1, 51, [])), (51, (16, 2, 54, 0, 97, [])), (54, (2, 2, 0, 0, 55, [])), (55, (0, 0, 0, 1103515245, 58, [])), (58, (9, 2, 0, 0, 59, [])), (59, (0, 0, 0, 12345, 62, [])), (62, (9, 0, 0, 0, 63, [])), (63, (5, 2, 0, 0, 64, [])), (64, (2, 2, 0, 0, 65, [])), (65, (0, 0, 0, 16, 67, [])), (67, (9, 7, 0, 0, 68, [])), (68, (0, 0, 0, 32767, 71, [])), (71, (9, 3, 0, 0, 72, [])), (72, (2, 6, 0, 0, 74, [])), (74, (9, 10, 0, 0, 75, [])), (75, (5, 7, 0, 0, 77, [])), (77, (2, 7, 0, 0, 79, [])), (79, (17, 2, 82, 0, 97, [])), (82, (2, 5, 0, 0, 84, [])), (84, (2, 5, 0, 0, 86, [])), (86, (0, 0, 0, 1, 87, [])), (87, (9, 1, 0, 0, 88, [])), (88, (9, 3, 0, 0, 89, [])), (89, (5, 5, 0, 0, 91, [])), (91, (8, 7, 0, (-1), 94, [])), (94, (15, 0, 0, 0, 77, [])), (97, (4, 0, 0, 0, 98, [])), (98, (18, 12, 38, 0, 101, [])), (101, (0, 0, 0, 24, 103, [])), (103, (2, 4, 0, 0, 105, [])), (105, (9, 2, 0, 0, 106, [])), (106, (2, 3, 0, 0, 107, [])), (107, (9, 0, 0, 0, 108, [])), (108, (2, 5, 0, 0, 110, [])), (113, (21, 0, 0, 0, 114, [])), (114, (8, 4, 0, 1, 117, [])), (117, (15, 0, 0, 0, 18, [])), (120, (8, 3, 0, 1, 123, [])), (123, (15, 0, 0, 0, 9, [])), (126, (29, 0, 0, 0, 127, []))]
set_option maxRecDepth 100000 in
theorem K_X12_draw : ztbok F_X12_draw T_X12_draw := ztbB_ok (by decide +kernel)
set_option maxRecDepth 100000 in
theorem W_X12_draw : zMth yX12_draw (.code yX12_draw cX12_draw 8 (none)) 1 := ⟨z_at 1627 (by decide +kernel) (by decide +kernel), z_at 13 (by decide +kernel) (by decide +kernel), ⟨by decide +kernel, by decide +kernel⟩, by decide +kernel⟩
set_option maxRecDepth 100000 in
theorem I_X12_draw : Cond.instanceMethod yX12_draw ∈ zws := z_at 1625 (by decide +kernel) (by decide +kernel)
set_option maxRecDepth 100000 in
theorem S_X12_draw : Cond.selects yX12_draw.cls yX12_draw yX12_draw ∈ zws := z_at 1626 (by decide +kernel) (by decide +kernel)
abbrev F_X12_does : zF := (12, cX12_does, some .int, 3, [], false)
def T_X12_does : List (Nat × zI) := [(0, (4, 0, 0, 0, 1, [])), (1, (0, 0, 0, 0, 2, [])), (2, (19, 12, 0, 0, 5, [])), (5, (4, 0, 0, 0, 6, [])), (6, (2, 1, 0, 0, 7, [])), (10, (17, 0, 38, 0, 13, [])), (13, (4, 0, 0, 0, 14, [])), (14, (2, 2, 0, 0, 15, [])), (18, (17, 0, 38, 0, 21, [])), (21, (4, 0, 0, 0, 22, [])), (22, (18, 12, 38, 0, 25, [])), (25, (0, 0, 0, 24, 27, [])), (27, (2, 1, 0, 0, 28, [])), (28, (9, 2, 0, 0, 29, [])), (29, (2, 2, 0, 0, 30, [])), (30, (9, 0, 0, 0, 31, [])), (31, (20, 0, 0, 0, 32, [])), (35, (15, 0, 0, 0, 39, [])), (38, (0, 0, 0, 0, 39, [])), (39, (27, 0, 0, 0, 40, []))]
set_option maxRecDepth 100000 in
theorem K_X12_does : ztbok F_X12_does T_X12_does := ztbB_ok (by decide +kernel)
set_option maxRecDepth 100000 in
theorem W_X12_does : zMth yX12_does (.code yX12_does cX12_does 3 (some .int)) 2 := ⟨z_at 1632 (by decide +kernel) (by decide +kernel), z_at 13 (by decide +kernel) (by decide +kernel), ⟨by decide +kernel, by decide +kernel⟩, by decide +kernel⟩
set_option maxRecDepth 100000 in
theorem I_X12_does : Cond.instanceMethod yX12_does ∈ zws := z_at 1630 (by decide +kernel) (by decide +kernel)
set_option maxRecDepth 100000 in
theorem S_X12_does : Cond.selects yX12_does.cls yX12_does yX12_does ∈ zws := z_at 1631 (by decide +kernel) (by decide +kernel)
abbrev F_X12_signAt : zF := (12, cX12_signAt, some .int, 3, [], false)
def T_X12_signAt : List (Nat × zI) := [(0, (4, 0, 0, 0, 1, [])), (1, (18, 12, 6, 0, 4, [])), (4, (2, 1, 0, 0, 5, [])), (5, (20, 0, 0, 0, 6, [])), (6, (0, 0, 0, (-1), 7, [])), (7, (16, 0, 10, 0, 14, [])), (10, (0, 0, 0, 3, 11, [])), (11, (15, 0, 0, 0, 40, [])), (14, (4, 0, 0, 0, 15, [])), (15, (4, 0, 0, 0, 16, [])), (16, (18, 12, 6, 0, 19, [])), (19, (2, 1, 0, 0, 20, [])), (20, (20, 0, 0, 0, 21, [])), (21, (4, 0, 0, 0, 22, [])), (22, (18, 12, 38, 0, 25, [])), (25, (0, 0, 0, 24, 27, [])), (27, (4, 0, 0, 0, 28, [])), (28, (18, 12, 6, 0, 31, [])), (31, (2, 1, 0, 0, 32, [])), (32, (20, 0, 0, 0, 33, [])), (33, (9, 2, 0, 0, 34, [])), (34, (2, 2, 0, 0, 35, [])), (35, (9, 0, 0, 0, 36, [])), (36, (20, 0, 0, 0, 37, [])), (40, (27, 0, 0, 0, 41, []))]
set_option maxRecDepth 100000 in
theorem K_X12_signAt : ztbok F_X12_signAt T_X12_signAt := ztbB_ok (by decide +kernel)
set_option maxRecDepth 100000 in
theorem W_X12_signAt : zMth yX12_signAt (.code yX12_signAt cX12_signAt 3 (some .int)) 2 := ⟨z_at 1640 (by decide +kernel) (by decide +kernel), z_at 13 (by decide +kernel) (by decide +kernel), ⟨by decide +kernel, by decide +kernel⟩, by decide +kernel⟩
set_option maxRecDepth 100000 in
theorem I_X12_signAt : Cond.instanceMethod yX12_signAt ∈ zws := z_at 1639 (by decide +kernel) (by decide +kernel)
set_option maxRecDepth 100000 in
theorem S_X12_signAt : Cond.selects yX12_signAt.cls yX12_signAt yX12_signAt ∈ zws := z_in (List.mem_append_left _ (List.mem_map.mpr ⟨_, List.mem_of_getElem? (i := 72) rfl, rfl⟩)) rfl
abbrev F_X12_sign : zF := (12, cX12_sign, some .int, 3, [], false)
def T_X12_sign : List (Nat × zI) := [(0, (4, 0, 0, 0, 1, [])), (1, (0, 0, 0, 0, 2, [])), (2, (19, 12, 0, 0, 5, [])), (5, (4, 0, 0, 0, 6, [])), (6, (2, 1, 0, 0, 7, [])), (10, (17, 0, 30, 0, 13, [])), (13, (4, 0, 0, 0, 14, [])), (14, (2, 2, 0, 0, 15, [])), (18, (17, 0, 30, 0, 21, [])), (21, (4, 0, 0, 0, 22, [])), (22, (2, 1, 0, 0, 23, [])), (23, (2, 2, 0, 0, 24, [])), (27, (15, 0, 0, 0, 31, [])), (30, (0, 0, 0, 0, 31, [])), (31, (27, 0, 0, 0, 32, []))]
set_option maxRecDepth 100000 in
theorem K_X12_sign : ztbok F_X12_sign T_X12_sign := ztbB_ok (by decide +kernel)
set_option maxRecDepth 100000 in
theorem W_X12_sign : zMth yX12_sign (.code yX12_sign cX12_sign 3 (some .int)) 2 := ⟨z_at 1636 (by decide +kernel) (by decide +kernel), z_at 13 (by decide +kernel) (by decide +kernel), ⟨by decide +kernel, by decide +kernel⟩, by decide +kernel⟩
set_option maxRecDepth 100000 in
theorem I_X12_sign : Cond.instanceMethod yX12_sign ∈ zws := z_at 1634 (by decide +kernel) (by decide +kernel)
set_option maxRecDepth 100000 in
theorem S_X12_sign : Cond.selects yX12_sign.cls yX12_sign yX12_sign ∈ zws := z_at 1635 (by decide +kernel) (by decide +kernel)
abbrev F_X12_look : zF := (12, cX12_look, some .int, 5, [], false)
def T_X12_look : List (Nat × zI) := [(0, (4, 0, 0, 0, 1, [])), (1, (0, 0, 0, 0, 2, [])), (2, (19, 12, 0, 0, 5, [])), (5, (4, 0, 0, 0, 6, [])), (6, (2, 1, 0, 0, 7, [])), (10, (17, 0, 29, 0, 13, [])), (13, (4, 0, 0, 0, 14, [])), (14, (2, 2, 0, 0, 15, [])), (18, (17, 0, 29, 0, 21, [])), (21, (4, 0, 0, 0, 22, [])), (22, (2, 3, 0, 0, 23, [])), (26, (17, 0, 29, 0, 31, [])), (29, (0, 0, 0, 0, 30, [])), (30, (27, 0, 0, 0, 31, [])), (31, (4, 0, 0, 0, 32, [])), (32, (18, 12, 39, 0, 35, [])), (35, (0, 0, 0, 24, 37, [])), (37, (2, 1, 0, 0, 38, [])), (38, (9, 2, 0, 0, 39, [])), (39, (2, 2, 0, 0, 40, [])), (40, (9, 0, 0, 0, 41, [])), (41, (20, 0, 0, 0, 42, [])), (42, (5, 4, 0, 0, 44, [])), (44, (4, 0, 0, 0, 45, [])), (45, (18, 12, 39, 0, 48, [])), (48, (0, 0, 0, 24, 50, [])), (50, (2, 1, 0, 0, 51, [])), (51, (9, 2, 0, 0, 52, [])), (52, (2, 2, 0, 0, 53, [])), (53, (9, 0, 0, 0, 54, [])), (54, (2, 3, 0, 0, 55, [])), (55, (21, 0, 0, 0, 56, [])), (56, (2, 4, 0, 0, 58, [])), (58, (27, 0, 0, 0, 59, []))]
set_option maxRecDepth 100000 in
theorem K_X12_look : ztbok F_X12_look T_X12_look := ztbB_ok (by decide +kernel)
set_option maxRecDepth 100000 in
theorem W_X12_look : zMth yX12_look (.code yX12_look cX12_look 5 (some .int)) 3 := ⟨z_at 1644 (by decide +kernel) (by decide +kernel), z_at 13 (by decide +kernel) (by decide +kernel), ⟨by decide +kernel, by decide +kernel⟩, by decide +kernel⟩
set_option maxRecDepth 100000 in
theorem I_X12_look : Cond.instanceMethod yX12_look ∈ zws := z_at 1642 (by decide +kernel) (by decide +kernel)
set_option maxRecDepth 100000 in
theorem S_X12_look : Cond.selects yX12_look.cls yX12_look yX12_look ∈ zws := z_at 1643 (by decide +kernel) (by decide +kernel)
abbrev F_X12_theft : zF := (12, cX12_theft, some .int, 5, [], false)
def T_X12_theft : List (Nat × zI) := [(0, (4, 0, 0, 0, 1, [])), (1, (0, 0, 0, 0, 2, [])), (2, (19, 12, 0, 0, 5, [])), (5, (4, 0, 0, 0, 6, [])), (6, (2, 1, 0, 0, 7, [])), (10, (17, 0, 21, 0, 13, [])), (13, (4, 0, 0, 0, 14, [])), (14, (2, 2, 0, 0, 15, [])), (18, (17, 0, 21, 0, 23, [])), (21, (0, 0, 0, 0, 22, [])), (22, (27, 0, 0, 0, 23, [])), (23, (0, 0, 0, 0, 24, [])), (24, (5, 3, 0, 0, 25, [])), (25, (2, 3, 0, 0, 26, [])), (26, (0, 0, 0, 24, 28, [])), (28, (16, 1, 31, 0, 103, [])), (31, (4, 0, 0, 0, 32, [])), (32, (18, 12, 5, 0, 35, [])), (35, (2, 1, 0, 0, 36, [])), (36, (20, 0, 0, 0, 37, [])), (37, (17, 2, 40, 0, 103, [])), (40, (4, 0, 0, 0, 41, [])), (41, (2, 1, 0, 0, 42, [])), (42, (2, 3, 0, 0, 43, [])), (46, (17, 0, 52, 0, 49, [])), (49, (15, 0, 0, 0, 97, [])), (52, (0, 0, 0, 0, 53, [])), (53, (5, 4, 0, 0, 55, [])), (55, (2, 4, 0, 0, 57, [])), (57, (4, 0, 0, 0, 58, [])), (58, (18, 12, 3, 0, 61, [])), (61, (16, 1, 64, 0, 97, [])), (64, (4, 0, 0, 0, 65, [])), (65, (18, 12, 39, 0, 68, [])), (68, (0, 0, 0, 24, 70, [])), (70, (2, 4, 0, 0, 72, [])), (72, (9, 2, 0, 0, 73, [])), (73, (2, 3, 0, 0, 74, [])), (74, (9, 0, 0, 0, 75, [])), (75, (20, 0, 0, 0, 76, [])), (76, (2, 1, 0, 0, 77, [])), (77, (16, 0, 80, 0, 91, [])), (80, (2, 2, 0, 0, 81, [])), (81, (17, 0, 84, 0, 89, [])), (84, (2, 4, 0, 0, 86, [])), (86, (15, 0, 0, 0, 90, [])), (89, (2, 3, 0, 0, 90, [])), (90, (27, 0, 0, 0, 91, [])), (91, (8, 4, 0, 1, 94, [])), (94, (15, 0, 0, 0, 55, [])), (97, (8, 3, 0, 1, 100, [])), (100, (15, 0, 0, 0, 25, [])), (103, (0, 0, 0, (-1), 104, [])), (104, (27, 0, 0, 0, 105, []))]
set_option maxRecDepth 100000 in
theorem K_X12_theft : ztbok F_X12_theft T_X12_theft := ztbB_ok (by decide +kernel)
set_option maxRecDepth 100000 in
theorem W_X12_theft : zMth yX12_theft (.code yX12_theft cX12_theft 5 (some .int)) 2 := ⟨z_at 1652 (by decide +kernel) (by decide +kernel), z_at 13 (by decide +kernel) (by decide +kernel), ⟨by decide +kernel, by decide +kernel⟩, by decide +kernel⟩
set_option maxRecDepth 100000 in
theorem I_X12_theft : Cond.instanceMethod yX12_theft ∈ zws := z_at 1650 (by decide +kernel) (by decide +kernel)
set_option maxRecDepth 100000 in
theorem S_X12_theft : Cond.selects yX12_theft.cls yX12_theft yX12_theft ∈ zws := z_at 1651 (by decide +kernel) (by decide +kernel)
abbrev F_X12_see : zF := (12, cX12_see, some .int, 5, [], false)
def T_X12_see : List (Nat × zI) := [(0, (4, 0, 0, 0, 1, [])), (1, (0, 0, 0, 0, 2, [])), (2, (19, 12, 0, 0, 5, [])), (5, (4, 0, 0, 0, 6, [])), (6, (2, 1, 0, 0, 7, [])), (10, (17, 0, 21, 0, 13, [])), (13, (4, 0, 0, 0, 14, [])), (14, (2, 2, 0, 0, 15, [])), (18, (17, 0, 21, 0, 23, [])), (21, (0, 0, 0, 0, 22, [])), (22, (27, 0, 0, 0, 23, [])), (23, (2, 2, 0, 0, 24, [])), (24, (4, 0, 0, 0, 25, [])), (25, (18, 12, 40, 0, 28, [])), (28, (16, 0, 31, 0, 35, [])), (31, (0, 0, 0, 1, 32, [])), (32, (15, 0, 0, 0, 36, [])), (35, (0, 0, 0, 0, 36, [])), (36, (5, 4, 0, 0, 38, [])), (38, (2, 3, 0, 0, 39, [])), (39, (0, 0, 0, 0, 40, [])), (40, (0, 0, 0, 3, 41, [])), (44, (17, 0, 64, 0, 47, [])), (47, (2, 4, 0, 0, 49, [])), (49, (17, 0, 70, 0, 52, [])), (52, (4, 0, 0, 0, 53, [])), (53, (18, 12, 41, 0, 56, [])), (56, (2, 1, 0, 0, 57, [])), (57, (9, 7, 0, 0, 58, [])), (58, (0, 0, 0, 1, 59, [])), (59, (9, 3, 0, 0, 60, [])), (60, (0, 0, 0, 1, 61, [])), (61, (16, 0, 64, 0, 70, [])), (64, (4, 0, 0, 0, 65, [])), (65, (0, 0, 0, 2, 66, [])), (69, (27, 0, 0, 0, 70, [])), (70, (2, 4, 0, 0, 72, [])), (72, (17, 0, 75, 0, 80, [])), (75, (4, 0, 0, 0, 76, [])), (76, (0, 0, 0, 0, 77, [])), (77, (19, 12, 41, 0, 80, [])), (80, (4, 0, 0, 0, 81, [])), (81, (2, 2, 0, 0, 82, [])), (82, (19, 12, 40, 0, 85, [])), (85, (4, 0, 0, 0, 86, [])), (86, (12, 0, 0, 0, 87, [])), (87, (18, 12, 41, 0, 90, [])), (90, (0, 0, 0, 1, 91, [])), (91, (2, 1, 0, 0, 92, [])), (92, (9, 6, 0, 0, 93, [])), (93, (9, 4, 0, 0, 94, [])), (94, (19, 12, 41, 0, 97, [])), (97, (4, 0, 0, 0, 98, [])), (98, (18, 12, 42, 0, 101, [])), (101, (2, 1, 0, 0, 102, [])), (102, (2, 3, 0, 0, 103, [])), (103, (21, 0, 0, 0, 104, [])), (104, (4, 0, 0, 0, 105, [])), (105, (18, 12, 41, 0, 108, [])), (111, (27, 0, 0, 0, 112, []))]
set_option maxRecDepth 100000 in
theorem K_X12_see : ztbok F_X12_see T_X12_see := ztbB_ok (by decide +kernel)
set_option maxRecDepth 100000 in
theorem W_X12_see : zMth yX12_see (.code yX12_see cX12_see 5 (some .int)) 3 := ⟨z_at 1656 (by decide +kernel) (by decide +kernel), z_at 13 (by decide +kernel) (by decide +kernel), ⟨by decide +kernel, by decide +kernel⟩, by decide +kernel⟩
set_option maxRecDepth 100000 in
theorem I_X12_see : Cond.instanceMethod yX12_see ∈ zws := z_at 1654 (by decide +kernel) (by decide +kernel)
set_option maxRecDepth 100000 in
theorem S_X12_see : Cond.selects yX12_see.cls yX12_see yX12_see ∈ zws := z_at 1655 (by decide +kernel) (by decide +kernel)
abbrev F_X12_forget : zF := (12, cX12_forget, some .int, 2, [], false)
def T_X12_forget : List (Nat × zI) := [(0, (4, 0, 0, 0, 1, [])), (1, (0, 0, 0, 0, 2, [])), (2, (19, 12, 0, 0, 5, [])), (5, (4, 0, 0, 0, 6, [])), (6, (18, 12, 41, 0, 9, [])), (12, (5, 1, 0, 0, 13, [])), (13, (4, 0, 0, 0, 14, [])), (14, (0, 0, 0, 0, 15, [])), (15, (19, 12, 41, 0, 18, [])), (18, (4, 0, 0, 0, 19, [])), (19, (0, 0, 0, (-1), 20, [])), (20, (19, 12, 40, 0, 23, [])), (23, (2, 1, 0, 0, 24, [])), (24, (27, 0, 0, 0, 25, []))]
set_option maxRecDepth 100000 in
theorem K_X12_forget : ztbok F_X12_forget T_X12_forget := ztbB_ok (by decide +kernel)
set_option maxRecDepth 100000 in
theorem W_X12_forget : zMth yX12_forget (.code yX12_forget cX12_forget 2 (some .int)) 0 := ⟨z_at 1660 (by decide +kernel) (by decide +kernel), z_at 13 (by decide +kernel) (by decide +kernel), ⟨by decide +kernel, by decide +kernel⟩, by decide +kernel⟩
set_option maxRecDepth 100000 in
theorem I_X12_forget : Cond.instanceMethod yX12_forget ∈ zws := z_at 1658 (by decide +kernel) (by decide +kernel)
set_option maxRecDepth 100000 in
theorem S_X12_forget : Cond.selects yX12_forget.cls yX12_forget yX12_forget ∈ zws := z_at 1659 (by decide +kernel) (by decide +kernel)
abbrev F_X12_hour : zF := (12, cX12_hour, some .int, 1, [], false)
def T_X12_hour : List (Nat × zI) := [(0, (4, 0, 0, 0, 1, [])), (1, (18, 12, 40, 0, 4, [])), (4, (0, 0, 0, (-1), 5, [])), (5, (16, 0, 8, 0, 12, [])), (8, (0, 0, 0, 0, 9, [])), (9, (15, 0, 0, 0, 16, [])), (12, (4, 0, 0, 0, 13, [])), (13, (18, 12, 40, 0, 16, [])), (16, (27, 0, 0, 0, 17, []))]
set_option maxRecDepth 100000 in
theorem K_X12_hour : ztbok F_X12_hour T_X12_hour := ztbB_ok (by decide +kernel)
set_option maxRecDepth 100000 in
theorem W_X12_hour : zMth yX12_hour (.code yX12_hour cX12_hour 1 (some .int)) 0 := ⟨z_at 1668 (by decide +kernel) (by decide +kernel), z_at 13 (by decide +kernel) (by decide +kernel), ⟨by decide +kernel, by decide +kernel⟩, by decide +kernel⟩
set_option maxRecDepth 100000 in
theorem I_X12_hour : Cond.instanceMethod yX12_hour ∈ zws := z_at 1667 (by decide +kernel) (by decide +kernel)
set_option maxRecDepth 100000 in
theorem S_X12_hour : Cond.selects yX12_hour.cls yX12_hour yX12_hour ∈ zws := z_in (List.mem_append_left _ (List.mem_map.mpr ⟨_, List.mem_of_getElem? (i := 74) rfl, rfl⟩)) rfl
abbrev F_X12_behind : zF := (12, cX12_behind, some .int, 5, [], false)
def T_X12_behind : List (Nat × zI) := [(0, (2, 3, 0, 0, 1, [])), (1, (0, 0, 0, 1, 2, [])), (2, (9, 0, 0, 0, 3, [])), (3, (5, 4, 0, 0, 5, [])), (5, (2, 4, 0, 0, 7, [])), (7, (0, 0, 0, 18, 9, [])), (9, (16, 1, 12, 0, 41, [])), (12, (4, 0, 0, 0, 13, [])), (13, (18, 12, 11, 0, 16, [])), (16, (0, 0, 0, 24, 18, [])), (18, (2, 1, 0, 0, 19, [])), (19, (9, 2, 0, 0, 20, [])), (20, (2, 2, 0, 0, 21, [])), (21, (9, 0, 0, 0, 22, [])), (22, (20, 0, 0, 0, 23, [])), (23, (2, 4, 0, 0, 25, [])), (25, (9, 7, 0, 0, 26, [])), (26, (0, 0, 0, 1, 27, [])), (27, (9, 3, 0, 0, 28, [])), (28, (0, 0, 0, 1, 29, [])), (29, (16, 0, 32, 0, 35, [])), (32, (2, 4, 0, 0, 34, [])), (34, (27, 0, 0, 0, 35, [])), (35, (8, 4, 0, 1, 38, [])), (38, (15, 0, 0, 0, 5, [])), (41, (0, 0, 0, (-1), 42, [])), (42, (27, 0, 0, 0, 43, []))]
set_option maxRecDepth 100000 in
theorem K_X12_behind : ztbok F_X12_behind T_X12_behind := ztbB_ok (by decide +kernel)
set_option maxRecDepth 100000 in
theorem W_X12_behind : zMth yX12_behind (.code yX12_behind cX12_behind 5 (some .int)) 3 := ⟨z_at 1688 (by decide +kernel) (by decide +kernel), z_at 13 (by decide +kernel) (by decide +kernel), ⟨by decide +kernel, by decide +kernel⟩, by decide +kernel⟩
set_option maxRecDepth 100000 in
theorem I_X12_behind : Cond.instanceMethod yX12_behind ∈ zws := z_at 1687 (by decide +kernel) (by decide +kernel)
set_option maxRecDepth 100000 in
theorem S_X12_behind : Cond.selects yX12_behind.cls yX12_behind yX12_behind ∈ zws := z_in (List.mem_append_left _ (List.mem_map.mpr ⟨_, List.mem_of_getElem? (i := 79) rfl, rfl⟩)) rfl
abbrev F_X12_counts : zF := (12, cX12_counts, some .boolean, 3, [], false)
def T_X12_counts : List (Nat × zI) := [(0, (4, 0, 0, 0, 1, [])), (1, (18, 12, 2, 0, 4, [])), (4, (0, 0, 0, 1, 5, [])), (5, (9, 1, 0, 0, 6, [])), (6, (5, 2, 0, 0, 7, [])), (7, (2, 2, 0, 0, 8, [])), (8, (17, 1, 53, 0, 11, [])), (11, (4, 0, 0, 0, 12, [])), (12, (2, 2, 0, 0, 13, [])), (13, (2, 1, 0, 0, 14, [])), (14, (4, 0, 0, 0, 15, [])), (15, (18, 12, 43, 0, 18, [])), (18, (2, 2, 0, 0, 19, [])), (19, (20, 0, 0, 0, 20, [])), (23, (0, 0, 0, (-1), 24, [])), (24, (16, 0, 27, 0, 53, [])), (27, (4, 0, 0, 0, 28, [])), (28, (18, 12, 43, 0, 31, [])), (31, (2, 2, 0, 0, 32, [])), (32, (4, 0, 0, 0, 33, [])), (33, (18, 12, 11, 0, 36, [])), (36, (0, 0, 0, 24, 38, [])), (38, (2, 2, 0, 0, 39, [])), (39, (9, 2, 0, 0, 40, [])), (40, (2, 1, 0, 0, 41, [])), (41, (9, 0, 0, 0, 42, [])), (42, (20, 0, 0, 0, 43, [])), (46, (21, 0, 0, 0, 47, [])), (47, (8, 2, 0, (-1), 50, [])), (50, (15, 0, 0, 0, 7, [])), (53, (2, 2, 0, 0, 54, [])), (54, (17, 1, 75, 0, 57, [])), (57, (4, 0, 0, 0, 58, [])), (58, (18, 12, 43, 0, 61, [])), (61, (2, 2, 0, 0, 62, [])), (62, (4, 0, 0, 0, 63, [])), (63, (2, 2, 0, 0, 64, [])), (64, (2, 1, 0, 0, 65, [])), (65, (4, 0, 0, 0, 66, [])), (66, (18, 12, 43, 0, 69, [])), (69, (2, 2, 0, 0, 70, [])), (70, (20, 0, 0, 0, 71, [])), (74, (21, 0, 0, 0, 75, [])), (75, (2, 2, 0, 0, 76, [])), (76, (17, 1, 83, 0, 79, [])), (79, (0, 0, 0, 1, 80, [])), (80, (15, 0, 0, 0, 84, [])), (83, (0, 0, 0, 0, 84, [])), (84, (27, 0, 0, 0, 85, []))]
set_option maxRecDepth 100000 in
theorem K_X12_counts : ztbok F_X12_counts T_X12_counts := ztbB_ok (by decide +kernel)
set_option maxRecDepth 100000 in
theorem W_X12_counts : zMth yX12_counts (.code yX12_counts cX12_counts 3 (some .boolean)) 1 := ⟨z_at 1684 (by decide +kernel) (by decide +kernel), z_at 13 (by decide +kernel) (by decide +kernel), ⟨by decide +kernel, by decide +kernel⟩, by decide +kernel⟩
set_option maxRecDepth 100000 in
theorem I_X12_counts : Cond.instanceMethod yX12_counts ∈ zws := z_at 1683 (by decide +kernel) (by decide +kernel)
set_option maxRecDepth 100000 in
theorem S_X12_counts : Cond.selects yX12_counts.cls yX12_counts yX12_counts ∈ zws := z_in (List.mem_append_left _ (List.mem_map.mpr ⟨_, List.mem_of_getElem? (i := 78) rfl, rfl⟩)) rfl
abbrev F_X12_isSpent : zF := (12, cX12_isSpent, some .boolean, 4, [], false)
def T_X12_isSpent : List (Nat × zI) := [(0, (0, 0, 0, 1, 1, [])), (1, (5, 2, 0, 0, 2, [])), (2, (0, 0, 0, 0, 3, [])), (3, (5, 3, 0, 0, 4, [])), (4, (2, 3, 0, 0, 5, [])), (5, (4, 0, 0, 0, 6, [])), (6, (18, 12, 2, 0, 9, [])), (9, (16, 1, 12, 0, 44, [])), (12, (2, 2, 0, 0, 13, [])), (13, (4, 0, 0, 0, 14, [])), (14, (18, 12, 11, 0, 17, [])), (17, (0, 0, 0, 24, 19, [])), (19, (2, 3, 0, 0, 20, [])), (20, (9, 2, 0, 0, 21, [])), (21, (2, 1, 0, 0, 22, [])), (22, (9, 0, 0, 0, 23, [])), (23, (20, 0, 0, 0, 24, [])), (27, (9, 2, 0, 0, 28, [])), (28, (5, 2, 0, 0, 29, [])), (29, (2, 2, 0, 0, 30, [])), (30, (0, 0, 0, 4000, 33, [])), (33, (16, 2, 36, 0, 38, [])), (36, (0, 0, 0, 1, 37, [])), (37, (27, 0, 0, 0, 38, [])), (38, (8, 3, 0, 1, 41, [])), (41, (15, 0, 0, 0, 4, [])), (44, (0, 0, 0, 0, 45, [])), (45, (27, 0, 0, 0, 46, []))]
set_option maxRecDepth 100000 in
theorem K_X12_isSpent : ztbok F_X12_isSpent T_X12_isSpent := ztbB_ok (by decide +kernel)
set_option maxRecDepth 100000 in
theorem W_X12_isSpent : zMth yX12_isSpent (.code yX12_isSpent cX12_isSpent 4 (some .boolean)) 1 := ⟨z_at 1672 (by decide +kernel) (by decide +kernel), z_at 13 (by decide +kernel) (by decide +kernel), ⟨by decide +kernel, by decide +kernel⟩, by decide +kernel⟩
set_option maxRecDepth 100000 in
theorem I_X12_isSpent : Cond.instanceMethod yX12_isSpent ∈ zws := z_at 1671 (by decide +kernel) (by decide +kernel)
set_option maxRecDepth 100000 in
theorem S_X12_isSpent : Cond.selects yX12_isSpent.cls yX12_isSpent yX12_isSpent ∈ zws := z_in (List.mem_append_left _ (List.mem_map.mpr ⟨_, List.mem_of_getElem? (i := 75) rfl, rfl⟩)) rfl
abbrev F_X12_fits : zF := (12, cX12_fits, some .boolean, 5, [], false)
def T_X12_fits : List (Nat × zI) := [(0, (0, 0, 0, 0, 1, [])), (1, (5, 3, 0, 0, 2, [])), (2, (2, 3, 0, 0, 3, [])), (3, (4, 0, 0, 0, 4, [])), (4, (18, 12, 1, 0, 7, [])), (7, (16, 1, 10, 0, 74, [])), (10, (2, 1, 0, 0, 11, [])), (11, (2, 3, 0, 0, 12, [])), (12, (9, 7, 0, 0, 13, [])), (13, (0, 0, 0, 1, 14, [])), (14, (9, 3, 0, 0, 15, [])), (15, (17, 0, 18, 0, 21, [])), (18, (15, 0, 0, 0, 68, [])), (21, (4, 0, 0, 0, 22, [])), (22, (18, 12, 6, 0, 25, [])), (25, (2, 3, 0, 0, 26, [])), (26, (20, 0, 0, 0, 27, [])), (27, (0, 0, 0, (-1), 28, [])), (28, (16, 0, 31, 0, 35, [])), (31, (0, 0, 0, 3, 32, [])), (32, (15, 0, 0, 0, 56, [])), (35, (4, 0, 0, 0, 36, [])), (36, (4, 0, 0, 0, 37, [])), (37, (18, 12, 6, 0, 40, [])), (40, (2, 3, 0, 0, 41, [])), (41, (20, 0, 0, 0, 42, [])), (42, (4, 0, 0, 0, 43, [])), (43, (18, 12, 43, 0, 46, [])), (46, (4, 0, 0, 0, 47, [])), (47, (18, 12, 6, 0, 50, [])), (50, (2, 3, 0, 0, 51, [])), (51, (20, 0, 0, 0, 52, [])), (52, (20, 0, 0, 0, 53, [])), (56, (5, 4, 0, 0, 58, [])), (58, (2, 4, 0, 0, 60, [])), (60, (4, 2, 0, 0, 61, [])), (61, (2, 3, 0, 0, 62, [])), (62, (20, 0, 0, 0, 63, [])), (63, (16, 0, 68, 0, 66, [])), (66, (0, 0, 0, 0, 67, [])), (67, (27, 0, 0, 0, 68, [])), (68, (8, 3, 0, 1, 71, [])), (71, (15, 0, 0, 0, 2, [])), (74, (0, 0, 0, 1, 75, [])), (75, (27, 0, 0, 0, 76, []))]
set_option maxRecDepth 100000 in
theorem K_X12_fits : ztbok F_X12_fits T_X12_fits := ztbB_ok (by decide +kernel)
set_option maxRecDepth 100000 in
theorem W_X12_fits : zMth yX12_fits (.code yX12_fits cX12_fits 5 (some .boolean)) 2 := ⟨z_at 1680 (by decide +kernel) (by decide +kernel), z_at 13 (by decide +kernel) (by decide +kernel), ⟨by decide +kernel, by decide +kernel⟩, by decide +kernel⟩
set_option maxRecDepth 100000 in
theorem I_X12_fits : Cond.instanceMethod yX12_fits ∈ zws := z_at 1679 (by decide +kernel) (by decide +kernel)
set_option maxRecDepth 100000 in
theorem S_X12_fits : Cond.selects yX12_fits.cls yX12_fits yX12_fits ∈ zws := z_in (List.mem_append_left _ (List.mem_map.mpr ⟨_, List.mem_of_getElem? (i := 77) rfl, rfl⟩)) rfl
abbrev F_X12_seeks : zF := (12, cX12_seeks, none, 6, [], false)
def T_X12_seeks : List (Nat × zI) := [(0, (4, 0, 0, 0, 1, [])), (1, (0, 0, 0, 0, 2, [])), (2, (19, 12, 45, 0, 5, [])), (5, (0, 0, 0, 0, 6, [])), (6, (5, 4, 0, 0, 8, [])), (8, (2, 4, 0, 0, 10, [])), (10, (4, 0, 0, 0, 11, [])), (11, (18, 12, 2, 0, 14, [])), (14, (16, 1, 17, 0, 45, [])), (17, (4, 0, 0, 0, 18, [])), (18, (18, 12, 43, 0, 21, [])), (21, (2, 4, 0, 0, 23, [])), (23, (4, 0, 0, 0, 24, [])), (24, (18, 12, 11, 0, 27, [])), (27, (0, 0, 0, 24, 29, [])), (29, (2, 4, 0, 0, 31, [])), (31, (9, 2, 0, 0, 32, [])), (32, (2, 1, 0, 0, 33, [])), (33, (9, 0, 0, 0, 34, [])), (34, (20, 0, 0, 0, 35, [])), (38, (21, 0, 0, 0, 39, [])), (39, (8, 4, 0, 1, 42, [])), (42, (15, 0, 0, 0, 8, [])), (45, (0, 0, 0, 1, 46, [])), (46, (5, 4, 0, 0, 48, [])), (48, (2, 4, 0, 0, 50, [])), (50, (17, 0, 122, 0, 53, [])), (53, (4, 0, 0, 0, 54, [])), (54, (2, 2, 0, 0, 55, [])), (55, (4, 3, 0, 0, 56, [])), (59, (17, 0, 112, 0, 62, [])), (62, (0, 0, 0, 0, 63, [])), (63, (5, 5, 0, 0, 65, [])), (65, (2, 5, 0, 0, 67, [])), (67, (4, 0, 0, 0, 68, [])), (68, (18, 12, 2, 0, 71, [])), (71, (16, 1, 74, 0, 102, [])), (74, (4, 0, 0, 0, 75, [])), (75, (18, 12, 44, 0, 78, [])), (78, (0, 0, 0, 6, 80, [])), (80, (4, 0, 0, 0, 81, [])), (81, (18, 12, 45, 0, 84, [])), (84, (9, 2, 0, 0, 85, [])), (85, (2, 5, 0, 0, 87, [])), (87, (9, 0, 0, 0, 88, [])), (88, (4, 0, 0, 0, 89, [])), (89, (18, 12, 43, 0, 92, [])), (92, (2, 5, 0, 0, 94, [])), (94, (20, 0, 0, 0, 95, [])), (95, (21, 0, 0, 0, 96, [])), (96, (8, 5, 0, 1, 99, [])), (99, (15, 0, 0, 0, 65, [])), (102, (4, 0, 0, 0, 103, [])), (103, (12, 0, 0, 0, 104, [])), (104, (18, 12, 45, 0, 107, [])), (107, (0, 0, 0, 1, 108, [])), (108, (9, 0, 0, 0, 109, [])), (109, (19, 12, 45, 0, 112, [])), (112, (4, 0, 0, 0, 113, [])), (113, (2, 1, 0, 0, 114, [])), (117, (5, 4, 0, 0, 119, [])), (119, (15, 0, 0, 0, 48, [])), (122, (29, 0, 0, 0, 123, []))]
set_option maxRecDepth 100000 in
theorem K_X12_seeks : ztbok F_X12_seeks T_X12_seeks := ztbB_ok (by decide +kernel)
set_option maxRecDepth 100000 in
theorem W_X12_seeks : zMth yX12_seeks (.code yX12_seeks cX12_seeks 6 (none)) 3 := ⟨z_at 1676 (by decide +kernel) (by decide +kernel), z_at 13 (by decide +kernel) (by decide +kernel), ⟨by decide +kernel, by decide +kernel⟩, by decide +kernel⟩
set_option maxRecDepth 100000 in
theorem I_X12_seeks : Cond.instanceMethod yX12_seeks ∈ zws := z_at 1675 (by decide +kernel) (by decide +kernel)
set_option maxRecDepth 100000 in
theorem S_X12_seeks : Cond.selects yX12_seeks.cls yX12_seeks yX12_seeks ∈ zws := z_in (List.mem_append_left _ (List.mem_map.mpr ⟨_, List.mem_of_getElem? (i := 76) rfl, rfl⟩)) rfl
abbrev F_X12_cases : zF := (12, cX12_cases, some .int, 1, [], false)
def T_X12_cases : List (Nat × zI) := [(0, (4, 0, 0, 0, 1, [])), (1, (0, 0, 0, 0, 2, [])), (2, (19, 12, 0, 0, 5, [])), (5, (4, 0, 0, 0, 6, [])), (6, (4, 0, 0, 0, 7, [])), (13, (17, 0, 19, 0, 16, [])), (16, (0, 0, 0, (-2), 18, [])), (18, (27, 0, 0, 0, 19, [])), (19, (4, 0, 0, 0, 20, [])), (20, (4, 0, 0, 0, 21, [])), (24, (4, 0, 0, 0, 25, [])), (25, (18, 12, 41, 0, 28, [])), (28, (4, 0, 0, 0, 29, [])), (29, (18, 12, 42, 0, 32, [])), (35, (4, 0, 0, 0, 36, [])), (36, (18, 12, 45, 0, 39, [])), (39, (27, 0, 0, 0, 40, []))]
set_option maxRecDepth 100000 in
theorem K_X12_cases : ztbok F_X12_cases T_X12_cases := ztbB_ok (by decide +kernel)
set_option maxRecDepth 100000 in
theorem W_X12_cases : zMth yX12_cases (.code yX12_cases cX12_cases 1 (some .int)) 0 := ⟨z_at 1664 (by decide +kernel) (by decide +kernel), z_at 13 (by decide +kernel) (by decide +kernel), ⟨by decide +kernel, by decide +kernel⟩, by decide +kernel⟩
set_option maxRecDepth 100000 in
theorem I_X12_cases : Cond.instanceMethod yX12_cases ∈ zws := z_at 1662 (by decide +kernel) (by decide +kernel)
set_option maxRecDepth 100000 in
theorem S_X12_cases : Cond.selects yX12_cases.cls yX12_cases yX12_cases ∈ zws := z_at 1663 (by decide +kernel) (by decide +kernel)
abbrev F_X12_inCase : zF := (12, cX12_inCase, some .int, 3, [], false)
def T_X12_inCase : List (Nat × zI) := [(0, (4, 0, 0, 0, 1, [])), (1, (0, 0, 0, 0, 2, [])), (2, (19, 12, 0, 0, 5, [])), (5, (4, 0, 0, 0, 6, [])), (6, (2, 2, 0, 0, 7, [])), (10, (17, 0, 37, 0, 13, [])), (13, (4, 0, 0, 0, 14, [])), (14, (4, 0, 0, 0, 15, [])), (15, (4, 0, 0, 0, 16, [])), (22, (17, 0, 25, 0, 29, [])), (25, (0, 0, 0, 1, 26, [])), (26, (15, 0, 0, 0, 30, [])), (29, (0, 0, 0, 0, 30, [])), (30, (0, 0, 0, 1, 31, [])), (34, (17, 0, 37, 0, 39, [])), (37, (0, 0, 0, 0, 38, [])), (38, (27, 0, 0, 0, 39, [])), (39, (4, 0, 0, 0, 40, [])), (40, (4, 0, 0, 0, 41, [])), (44, (4, 0, 0, 0, 45, [])), (45, (18, 12, 41, 0, 48, [])), (48, (4, 0, 0, 0, 49, [])), (49, (18, 12, 42, 0, 52, [])), (55, (4, 0, 0, 0, 56, [])), (56, (2, 1, 0, 0, 57, [])), (57, (17, 1, 72, 0, 60, [])), (60, (2, 1, 0, 0, 61, [])), (61, (4, 0, 0, 0, 62, [])), (62, (18, 12, 45, 0, 65, [])), (65, (16, 1, 68, 0, 72, [])), (68, (0, 0, 0, 1, 69, [])), (69, (15, 0, 0, 0, 73, [])), (72, (0, 0, 0, 0, 73, [])), (73, (0, 0, 0, 1, 74, [])), (77, (17, 0, 97, 0, 80, [])), (80, (4, 0, 0, 0, 81, [])), (81, (18, 12, 44, 0, 84, [])), (84, (0, 0, 0, 6, 86, [])), (86, (2, 1, 0, 0, 87, [])), (87, (9, 2, 0, 0, 88, [])), (88, (2, 2, 0, 0, 89, [])), (89, (9, 0, 0, 0, 90, [])), (90, (20, 0, 0, 0, 91, [])), (94, (15, 0, 0, 0, 98, [])), (97, (0, 0, 0, 0, 98, [])), (98, (27, 0, 0, 0, 99, []))]
set_option maxRecDepth 100000 in
theorem K_X12_inCase : ztbok F_X12_inCase T_X12_inCase := ztbB_ok (by decide +kernel)
set_option maxRecDepth 100000 in
theorem W_X12_inCase : zMth yX12_inCase (.code yX12_inCase cX12_inCase 3 (some .int)) 2 := ⟨z_at 1692 (by decide +kernel) (by decide +kernel), z_at 13 (by decide +kernel) (by decide +kernel), ⟨by decide +kernel, by decide +kernel⟩, by decide +kernel⟩
set_option maxRecDepth 100000 in
theorem I_X12_inCase : Cond.instanceMethod yX12_inCase ∈ zws := z_at 1690 (by decide +kernel) (by decide +kernel)
set_option maxRecDepth 100000 in
theorem S_X12_inCase : Cond.selects yX12_inCase.cls yX12_inCase yX12_inCase ∈ zws := z_at 1691 (by decide +kernel) (by decide +kernel)
abbrev F_X12_roomOf : zF := (12, cX12_roomOf, some .int, 3, [], false)
def T_X12_roomOf : List (Nat × zI) := [(0, (2, 2, 0, 0, 1, [])), (1, (17, 0, 4, 0, 8, [])), (4, (0, 0, 0, (-1), 5, [])), (5, (15, 0, 0, 0, 25, [])), (8, (2, 2, 0, 0, 9, [])), (9, (0, 0, 0, 4, 10, [])), (10, (16, 1, 13, 0, 22, [])), (13, (4, 0, 0, 0, 14, [])), (14, (18, 12, 7, 0, 17, [])), (17, (2, 1, 0, 0, 18, [])), (18, (20, 0, 0, 0, 19, [])), (19, (15, 0, 0, 0, 25, [])), (22, (2, 2, 0, 0, 23, [])), (23, (0, 0, 0, 4, 24, [])), (24, (9, 1, 0, 0, 25, [])), (25, (27, 0, 0, 0, 26, []))]
set_option maxRecDepth 100000 in
theorem K_X12_roomOf : ztbok F_X12_roomOf T_X12_roomOf := ztbB_ok (by decide +kernel)
set_option maxRecDepth 100000 in
theorem W_X12_roomOf : zMth yX12_roomOf (.code yX12_roomOf cX12_roomOf 3 (some .int)) 2 := ⟨z_at 1708 (by decide +kernel) (by decide +kernel), z_at 13 (by decide +kernel) (by decide +kernel), ⟨by decide +kernel, by decide +kernel⟩, by decide +kernel⟩
set_option maxRecDepth 100000 in
theorem I_X12_roomOf : Cond.instanceMethod yX12_roomOf ∈ zws := z_at 1707 (by decide +kernel) (by decide +kernel)
set_option maxRecDepth 100000 in
theorem S_X12_roomOf : Cond.selects yX12_roomOf.cls yX12_roomOf yX12_roomOf ∈ zws := z_in (List.mem_append_left _ (List.mem_map.mpr ⟨_, List.mem_of_getElem? (i := 82) rfl, rfl⟩)) rfl
abbrev F_X12_isSomebody : zF := (12, cX12_isSomebody, some .boolean, 4, [], false)
def T_X12_isSomebody : List (Nat × zI) := [(0, (0, 0, 0, 0, 1, [])), (1, (5, 3, 0, 0, 2, [])), (2, (2, 3, 0, 0, 3, [])), (3, (4, 0, 0, 0, 4, [])), (4, (18, 12, 2, 0, 7, [])), (7, (16, 1, 10, 0, 38, [])), (10, (4, 0, 0, 0, 11, [])), (11, (2, 3, 0, 0, 12, [])), (12, (4, 0, 0, 0, 13, [])), (13, (18, 12, 44, 0, 16, [])), (16, (0, 0, 0, 6, 18, [])), (18, (2, 1, 0, 0, 19, [])), (19, (9, 2, 0, 0, 20, [])), (20, (2, 3, 0, 0, 21, [])), (21, (9, 0, 0, 0, 22, [])), (22, (20, 0, 0, 0, 23, [])), (26, (2, 2, 0, 0, 27, [])), (27, (16, 0, 30, 0, 32, [])), (30, (0, 0, 0, 1, 31, [])), (31, (27, 0, 0, 0, 32, [])), (32, (8, 3, 0, 1, 35, [])), (35, (15, 0, 0, 0, 2, [])), (38, (0, 0, 0, 0, 39, [])), (39, (27, 0, 0, 0, 40, []))]
set_option maxRecDepth 100000 in
theorem K_X12_isSomebody : ztbok F_X12_isSomebody T_X12_isSomebody := ztbB_ok (by decide +kernel)
set_option maxRecDepth 100000 in
theorem W_X12_isSomebody : zMth yX12_isSomebody (.code yX12_isSomebody cX12_isSomebody 4 (some .boolean)) 2 := ⟨z_at 1704 (by decide +kernel) (by decide +kernel), z_at 13 (by decide +kernel) (by decide +kernel), ⟨by decide +kernel, by decide +kernel⟩, by decide +kernel⟩
set_option maxRecDepth 100000 in
theorem I_X12_isSomebody : Cond.instanceMethod yX12_isSomebody ∈ zws := z_at 1703 (by decide +kernel) (by decide +kernel)
set_option maxRecDepth 100000 in
theorem S_X12_isSomebody : Cond.selects yX12_isSomebody.cls yX12_isSomebody yX12_isSomebody ∈ zws := z_in (List.mem_append_left _ (List.mem_map.mpr ⟨_, List.mem_of_getElem? (i := 81) rfl, rfl⟩)) rfl
abbrev F_X12_with : zF := (12, cX12_with, some .int, 4, [], false)
def T_X12_with : List (Nat × zI) := [(0, (0, 0, 0, 0, 1, [])), (1, (5, 2, 0, 0, 2, [])), (2, (0, 0, 0, 0, 3, [])), (3, (5, 3, 0, 0, 4, [])), (4, (2, 3, 0, 0, 5, [])), (5, (4, 0, 0, 0, 6, [])), (6, (18, 12, 45, 0, 9, [])), (9, (16, 1, 12, 0, 35, [])), (12, (2, 2, 0, 0, 13, [])), (13, (4, 0, 0, 0, 14, [])), (14, (2, 3, 0, 0, 15, [])), (15, (2, 1, 0, 0, 16, [])), (19, (17, 0, 26, 0, 22, [])), (22, (0, 0, 0, 1, 23, [])), (23, (15, 0, 0, 0, 27, [])), (26, (0, 0, 0, 0, 27, [])), (27, (9, 0, 0, 0, 28, [])), (28, (5, 2, 0, 0, 29, [])), (29, (8, 3, 0, 1, 32, [])), (32, (15, 0, 0, 0, 4, [])), (35, (2, 2, 0, 0, 36, [])), (36, (27, 0, 0, 0, 37, []))]
set_option maxRecDepth 100000 in
theorem K_X12_with : ztbok F_X12_with T_X12_with := ztbB_ok (by decide +kernel)
set_option maxRecDepth 100000 in
theorem W_X12_with : zMth yX12_with (.code yX12_with cX12_with 4 (some .int)) 1 := ⟨z_at 1700 (by decide +kernel) (by decide +kernel), z_at 13 (by decide +kernel) (by decide +kernel), ⟨by decide +kernel, by decide +kernel⟩, by decide +kernel⟩
set_option maxRecDepth 100000 in
theorem I_X12_with : Cond.instanceMethod yX12_with ∈ zws := z_at 1699 (by decide +kernel) (by decide +kernel)
set_option maxRecDepth 100000 in
theorem S_X12_with : Cond.selects yX12_with.cls yX12_with yX12_with ∈ zws := z_in (List.mem_append_left _ (List.mem_map.mpr ⟨_, List.mem_of_getElem? (i := 80) rfl, rfl⟩)) rfl
abbrev F_X12_sure : zF := (12, cX12_sure, some .int, 8, [], false)
def T_X12_sure : List (Nat × zI) := [(0, (4, 0, 0, 0, 1, [])), (1, (0, 0, 0, 0, 2, [])), (2, (19, 12, 0, 0, 5, [])), (5, (4, 0, 0, 0, 6, [])), (6, (2, 1, 0, 0, 7, [])), (7, (0, 0, 0, 0, 8, [])), (8, (0, 0, 0, 2, 9, [])), (12, (0, 0, 0, 1, 13, [])), (16, (17, 0, 19, 0, 21, [])), (19, (0, 0, 0, 0, 20, [])), (20, (27, 0, 0, 0, 21, [])), (21, (4, 0, 0, 0, 22, [])), (22, (4, 0, 0, 0, 23, [])), (29, (17, 0, 35, 0, 32, [])), (32, (0, 0, 0, (-2), 34, [])), (34, (27, 0, 0, 0, 35, [])), (35, (4, 0, 0, 0, 36, [])), (36, (4, 0, 0, 0, 37, [])), (40, (4, 0, 0, 0, 41, [])), (41, (18, 12, 41, 0, 44, [])), (44, (4, 0, 0, 0, 45, [])), (45, (18, 12, 42, 0, 48, [])), (51, (0, 0, 0, 0, 52, [])), (52, (5, 2, 0, 0, 53, [])), (53, (0, 0, 0, (-1), 54, [])), (54, (5, 3, 0, 0, 55, [])), (55, (0, 0, 0, 0, 56, [])), (56, (5, 4, 0, 0, 58, [])), (58, (0, 0, 0, 0, 59, [])), (59, (5, 5, 0, 0, 61, [])), (61, (2, 5, 0, 0, 63, [])), (63, (4, 0, 0, 0, 64, [])), (64, (18, 12, 1, 0, 67, [])), (67, (16, 1, 70, 0, 167, [])), (70, (4, 0, 0, 0, 71, [])), (71, (18, 12, 45, 0, 74, [])), (74, (17, 2, 77, 0, 167, [])), (77, (4, 0, 0, 0, 78, [])), (78, (2, 5, 0, 0, 80, [])), (83, (5, 6, 0, 0, 85, [])), (85, (2, 2, 0, 0, 86, [])), (86, (2, 6, 0, 0, 88, [])), (88, (2, 1, 0, 0, 89, [])), (89, (17, 0, 92, 0, 96, [])), (92, (0, 0, 0, 0, 93, [])), (93, (15, 0, 0, 0, 100, [])), (96, (4, 0, 0, 0, 97, [])), (97, (18, 12, 45, 0, 100, [])), (100, (16, 0, 103, 0, 110, [])), (103, (0, 0, 0, 1, 104, [])), (104, (2, 5, 0, 0, 106, [])), (106, (9, 6, 0, 0, 107, [])), (107, (15, 0, 0, 0, 111, [])), (110, (0, 0, 0, 0, 111, [])), (111, (9, 4, 0, 0, 112, [])), (112, (5, 2, 0, 0, 113, [])), (113, (2, 6, 0, 0, 115, [])), (115, (4, 0, 0, 0, 116, [])), (116, (18, 12, 45, 0, 119, [])), (119, (2, 6, 0, 0, 121, [])), (121, (9, 1, 0, 0, 122, [])), (122, (16, 2, 125, 0, 130, [])), (125, (2, 6, 0, 0, 127, [])), (127, (15, 0, 0, 0, 137, [])), (130, (4, 0, 0, 0, 131, [])), (131, (18, 12, 45, 0, 134, [])), (134, (2, 6, 0, 0, 136, [])), (136, (9, 1, 0, 0, 137, [])), (137, (5, 7, 0, 0, 139, [])), (139, (2, 3, 0, 0, 140, [])), (140, (0, 0, 0, (-1), 141, [])), (141, (16, 0, 154, 0, 144, [])), (144, (2, 7, 0, 0, 146, [])), (146, (2, 4, 0, 0, 148, [])), (148, (16, 1, 154, 0, 151, [])), (151, (15, 0, 0, 0, 161, [])), (154, (2, 5, 0, 0, 156, [])), (156, (5, 3, 0, 0, 157, [])), (157, (2, 7, 0, 0, 159, [])), (159, (5, 4, 0, 0, 161, [])), (161, (8, 5, 0, 1, 164, [])), (164, (15, 0, 0, 0, 61, [])), (167, (2, 1, 0, 0, 168, [])), (168, (0, 0, 0, 2, 169, [])), (169, (16, 0, 172, 0, 176, [])), (172, (2, 3, 0, 0, 173, [])), (173, (15, 0, 0, 0, 177, [])), (176, (2, 2, 0, 0, 177, [])), (177, (27, 0, 0, 0, 178, []))]
set_option maxRecDepth 100000 in
theorem K_X12_sure : ztbok F_X12_sure T_X12_sure := ztbB_ok (by decide +kernel)
set_option maxRecDepth 100000 in
theorem W_X12_sure : zMth yX12_sure (.code yX12_sure cX12_sure 8 (some .int)) 1 := ⟨z_at 1696 (by decide +kernel) (by decide +kernel), z_at 13 (by decide +kernel) (by decide +kernel), ⟨by decide +kernel, by decide +kernel⟩, by decide +kernel⟩
set_option maxRecDepth 100000 in
theorem I_X12_sure : Cond.instanceMethod yX12_sure ∈ zws := z_at 1694 (by decide +kernel) (by decide +kernel)
set_option maxRecDepth 100000 in
theorem S_X12_sure : Cond.selects yX12_sure.cls yX12_sure yX12_sure ∈ zws := z_at 1695 (by decide +kernel) (by decide +kernel)
abbrev F_X12_where : zF := (12, cX12_where, some .int, 5, [], false)
def T_X12_where : List (Nat × zI) := [(0, (4, 0, 0, 0, 1, [])), (1, (0, 0, 0, 0, 2, [])), (2, (19, 12, 0, 0, 5, [])), (5, (4, 0, 0, 0, 6, [])), (6, (2, 1, 0, 0, 7, [])), (10, (17, 0, 13, 0, 15, [])), (13, (0, 0, 0, 0, 14, [])), (14, (27, 0, 0, 0, 15, [])), (15, (4, 0, 0, 0, 16, [])), (16, (4, 0, 0, 0, 17, [])), (23, (17, 0, 29, 0, 26, [])), (26, (0, 0, 0, (-2), 28, [])), (28, (27, 0, 0, 0, 29, [])), (29, (4, 0, 0, 0, 30, [])), (30, (4, 0, 0, 0, 31, [])), (34, (4, 0, 0, 0, 35, [])), (35, (18, 12, 41, 0, 38, [])), (38, (4, 0, 0, 0, 39, [])), (39, (18, 12, 42, 0, 42, [])), (45, (0, 0, 0, 0, 46, [])), (46, (5, 2, 0, 0, 47, [])), (47, (0, 0, 0, 0, 48, [])), (48, (5, 3, 0, 0, 49, [])), (49, (2, 3, 0, 0, 50, [])), (50, (4, 0, 0, 0, 51, [])), (51, (18, 12, 45, 0, 54, [])), (54, (16, 1, 57, 0, 98, [])), (57, (4, 0, 0, 0, 58, [])), (58, (2, 1, 0, 0, 59, [])), (59, (4, 0, 0, 0, 60, [])), (60, (18, 12, 44, 0, 63, [])), (63, (0, 0, 0, 6, 65, [])), (65, (2, 3, 0, 0, 66, [])), (66, (9, 2, 0, 0, 67, [])), (67, (2, 1, 0, 0, 68, [])), (68, (9, 0, 0, 0, 69, [])), (69, (20, 0, 0, 0, 70, [])), (73, (5, 4, 0, 0, 75, [])), (75, (2, 2, 0, 0, 76, [])), (76, (2, 4, 0, 0, 78, [])), (78, (0, 0, 0, (-1), 79, [])), (79, (16, 0, 82, 0, 86, [])), (82, (0, 0, 0, 0, 83, [])), (83, (15, 0, 0, 0, 90, [])), (86, (0, 0, 0, 1, 87, [])), (87, (2, 4, 0, 0, 89, [])), (89, (9, 6, 0, 0, 90, [])), (90, (9, 4, 0, 0, 91, [])), (91, (5, 2, 0, 0, 92, [])), (92, (8, 3, 0, 1, 95, [])), (95, (15, 0, 0, 0, 49, [])), (98, (2, 2, 0, 0, 99, [])), (99, (27, 0, 0, 0, 100, []))]
set_option maxRecDepth 100000 in
theorem K_X12_where : ztbok F_X12_where T_X12_where := ztbB_ok (by decide +kernel)
set_option maxRecDepth 100000 in
theorem W_X12_where : zMth yX12_where (.code yX12_where cX12_where 5 (some .int)) 1 := ⟨z_at 1712 (by decide +kernel) (by decide +kernel), z_at 13 (by decide +kernel) (by decide +kernel), ⟨by decide +kernel, by decide +kernel⟩, by decide +kernel⟩
set_option maxRecDepth 100000 in
theorem I_X12_where : Cond.instanceMethod yX12_where ∈ zws := z_at 1710 (by decide +kernel) (by decide +kernel)
set_option maxRecDepth 100000 in
theorem S_X12_where : Cond.selects yX12_where.cls yX12_where yX12_where ∈ zws := z_at 1711 (by decide +kernel) (by decide +kernel)
abbrev F_X12_turnsDoors : zF := (12, cX12_turnsDoors, some .boolean, 4, [], false)
def T_X12_turnsDoors : List (Nat × zI) := [(0, (4, 0, 0, 0, 1, [])), (1, (18, 12, 2, 0, 4, [])), (4, (0, 0, 0, 1, 5, [])), (5, (9, 1, 0, 0, 6, [])), (6, (5, 2, 0, 0, 7, [])), (7, (2, 2, 0, 0, 8, [])), (8, (17, 1, 81, 0, 11, [])), (11, (2, 1, 0, 0, 12, [])), (12, (2, 2, 0, 0, 13, [])), (13, (9, 7, 0, 0, 14, [])), (14, (0, 0, 0, 1, 15, [])), (15, (9, 3, 0, 0, 16, [])), (16, (17, 0, 19, 0, 22, [])), (19, (15, 0, 0, 0, 75, [])), (22, (4, 0, 0, 0, 23, [])), (23, (2, 2, 0, 0, 24, [])), (24, (4, 0, 0, 0, 25, [])), (25, (18, 12, 46, 0, 28, [])), (28, (4, 0, 0, 0, 29, [])), (29, (18, 12, 7, 0, 32, [])), (32, (2, 2, 0, 0, 33, [])), (33, (20, 0, 0, 0, 34, [])), (34, (20, 0, 0, 0, 35, [])), (38, (5, 3, 0, 0, 39, [])), (39, (2, 3, 0, 0, 40, [])), (40, (0, 0, 0, (-1), 41, [])), (41, (16, 0, 58, 0, 44, [])), (44, (4, 0, 0, 0, 45, [])), (45, (18, 12, 46, 0, 48, [])), (48, (4, 0, 0, 0, 49, [])), (49, (18, 12, 7, 0, 52, [])), (52, (2, 2, 0, 0, 53, [])), (53, (20, 0, 0, 0, 54, [])), (54, (2, 3, 0, 0, 55, [])), (55, (21, 0, 0, 0, 56, [])), (56, (0, 0, 0, 1, 57, [])), (57, (27, 0, 0, 0, 58, [])), (58, (4, 0, 0, 0, 59, [])), (59, (18, 12, 46, 0, 62, [])), (62, (4, 0, 0, 0, 63, [])), (63, (18, 12, 7, 0, 66, [])), (66, (2, 2, 0, 0, 67, [])), (67, (20, 0, 0, 0, 68, [])), (68, (4, 0, 0, 0, 69, [])), (69, (2, 2, 0, 0, 70, [])), (70, (0, 0, 0, (-1), 71, [])), (74, (21, 0, 0, 0, 75, [])), (75, (8, 2, 0, (-1), 78, [])), (78, (15, 0, 0, 0, 7, [])), (81, (0, 0, 0, 0, 82, [])), (82, (27, 0, 0, 0, 83, []))]
set_option maxRecDepth 100000 in
theorem K_X12_turnsDoors : ztbok F_X12_turnsDoors T_X12_turnsDoors := ztbB_ok (by decide +kernel)
set_option maxRecDepth 100000 in
theorem W_X12_turnsDoors : zMth yX12_turnsDoors (.code yX12_turnsDoors cX12_turnsDoors 4 (some .boolean)) 1 := ⟨z_at 1728 (by decide +kernel) (by decide +kernel), z_at 13 (by decide +kernel) (by decide +kernel), ⟨by decide +kernel, by decide +kernel⟩, by decide +kernel⟩
set_option maxRecDepth 100000 in
theorem I_X12_turnsDoors : Cond.instanceMethod yX12_turnsDoors ∈ zws := z_at 1727 (by decide +kernel) (by decide +kernel)
set_option maxRecDepth 100000 in
theorem S_X12_turnsDoors : Cond.selects yX12_turnsDoors.cls yX12_turnsDoors yX12_turnsDoors ∈ zws := z_in (List.mem_append_left _ (List.mem_map.mpr ⟨_, List.mem_of_getElem? (i := 85) rfl, rfl⟩)) rfl
abbrev F_X12_another : zF := (12, cX12_another, some .int, 4, [], false)
def T_X12_another : List (Nat × zI) := [(0, (2, 2, 0, 0, 1, [])), (1, (0, 0, 0, 1, 2, [])), (2, (9, 0, 0, 0, 3, [])), (3, (5, 3, 0, 0, 4, [])), (4, (2, 3, 0, 0, 5, [])), (5, (0, 0, 0, 4, 6, [])), (6, (16, 1, 9, 0, 44, [])), (9, (2, 3, 0, 0, 10, [])), (10, (4, 0, 0, 0, 11, [])), (11, (2, 1, 0, 0, 12, [])), (15, (0, 0, 0, (-1), 16, [])), (16, (9, 5, 0, 0, 17, [])), (17, (9, 3, 0, 0, 18, [])), (18, (17, 0, 21, 0, 38, [])), (21, (2, 3, 0, 0, 22, [])), (22, (4, 0, 0, 0, 23, [])), (23, (18, 12, 47, 0, 26, [])), (26, (4, 0, 0, 0, 27, [])), (27, (18, 12, 7, 0, 30, [])), (30, (2, 1, 0, 0, 31, [])), (31, (20, 0, 0, 0, 32, [])), (32, (20, 0, 0, 0, 33, [])), (33, (16, 0, 38, 0, 36, [])), (36, (2, 3, 0, 0, 37, [])), (37, (27, 0, 0, 0, 38, [])), (38, (8, 3, 0, 1, 41, [])), (41, (15, 0, 0, 0, 4, [])), (44, (0, 0, 0, (-1), 45, [])), (45, (27, 0, 0, 0, 46, []))]
set_option maxRecDepth 100000 in
theorem K_X12_another : ztbok F_X12_another T_X12_another := ztbB_ok (by decide +kernel)
set_option maxRecDepth 100000 in
theorem W_X12_another : zMth yX12_another (.code yX12_another cX12_another 4 (some .int)) 2 := ⟨z_at 1724 (by decide +kernel) (by decide +kernel), z_at 13 (by decide +kernel) (by decide +kernel), ⟨by decide +kernel, by decide +kernel⟩, by decide +kernel⟩
set_option maxRecDepth 100000 in
theorem I_X12_another : Cond.instanceMethod yX12_another ∈ zws := z_at 1723 (by decide +kernel) (by decide +kernel)
set_option maxRecDepth 100000 in
theorem S_X12_another : Cond.selects yX12_another.cls yX12_another yX12_another ∈ zws := z_in (List.mem_append_left _ (List.mem_map.mpr ⟨_, List.mem_of_getElem? (i := 84) rfl, rfl⟩)) rfl
abbrev F_X12_misleads : zF := (12, cX12_misleads, some .boolean, 6, [], false)
def T_X12_misleads : List (Nat × zI) := [(0, (4, 0, 0, 0, 1, [])), (1, (4, 0, 0, 0, 2, [])), (2, (18, 12, 47, 0, 5, [])), (5, (4, 0, 0, 0, 6, [])), (6, (18, 12, 46, 0, 9, [])), (12, (0, 0, 0, 0, 13, [])), (13, (5, 4, 0, 0, 15, [])), (15, (2, 4, 0, 0, 17, [])), (17, (4, 0, 0, 0, 18, [])), (18, (18, 12, 2, 0, 21, [])), (21, (16, 1, 24, 0, 79, [])), (24, (2, 3, 0, 0, 25, [])), (25, (2, 4, 0, 0, 27, [])), (27, (9, 7, 0, 0, 28, [])), (28, (0, 0, 0, 1, 29, [])), (29, (9, 3, 0, 0, 30, [])), (30, (17, 0, 33, 0, 36, [])), (33, (15, 0, 0, 0, 73, [])), (36, (4, 0, 0, 0, 37, [])), (37, (18, 12, 46, 0, 40, [])), (40, (4, 0, 0, 0, 41, [])), (41, (18, 12, 7, 0, 44, [])), (44, (2, 4, 0, 0, 46, [])), (46, (20, 0, 0, 0, 47, [])), (47, (4, 0, 0, 0, 48, [])), (48, (2, 4, 0, 0, 50, [])), (50, (0, 0, 0, (-1), 51, [])), (54, (21, 0, 0, 0, 55, [])), (55, (4, 0, 0, 0, 56, [])), (56, (18, 12, 46, 0, 59, [])), (59, (4, 0, 0, 0, 60, [])), (60, (18, 12, 7, 0, 63, [])), (63, (2, 4, 0, 0, 65, [])), (65, (20, 0, 0, 0, 66, [])), (66, (20, 0, 0, 0, 67, [])), (67, (0, 0, 0, (-1), 68, [])), (68, (16, 0, 71, 0, 73, [])), (71, (0, 0, 0, 0, 72, [])), (72, (27, 0, 0, 0, 73, [])), (73, (8, 4, 0, 1, 76, [])), (76, (15, 0, 0, 0, 15, [])), (79, (0, 0, 0, 1, 80, [])), (80, (5, 4, 0, 0, 82, [])), (82, (2, 4, 0, 0, 84, [])), (84, (17, 0, 137, 0, 87, [])), (87, (4, 0, 0, 0, 88, [])), (88, (2, 2, 0, 0, 89, [])), (89, (0, 0, 0, 1, 90, [])), (90, (4, 0, 0, 0, 91, [])), (91, (18, 12, 1, 0, 94, [])), (94, (9, 6, 0, 0, 95, [])), (95, (0, 0, 0, 1, 96, [])), (96, (9, 1, 0, 0, 97, [])), (97, (4, 0, 0, 0, 98, [])), (98, (18, 12, 46, 0, 101, [])), (104, (4, 0, 0, 0, 105, [])), (105, (2, 1, 0, 0, 106, [])), (109, (5, 5, 0, 0, 111, [])), (111, (2, 5, 0, 0, 113, [])), (113, (17, 2, 116, 0, 127, [])), (116, (2, 5, 0, 0, 118, [])), (118, (4, 0, 0, 0, 119, [])), (119, (18, 12, 45, 0, 122, [])), (122, (16, 1, 125, 0, 127, [])), (125, (0, 0, 0, 1, 126, [])), (126, (27, 0, 0, 0, 127, [])), (127, (4, 0, 0, 0, 128, [])), (128, (2, 3, 0, 0, 129, [])), (132, (5, 4, 0, 0, 134, [])), (134, (15, 0, 0, 0, 82, [])), (137, (0, 0, 0, 0, 138, [])), (138, (27, 0, 0, 0, 139, []))]
set_option maxRecDepth 100000 in
theorem K_X12_misleads : ztbok F_X12_misleads T_X12_misleads := ztbB_ok (by decide +kernel)
set_option maxRecDepth 100000 in
theorem W_X12_misleads : zMth yX12_misleads (.code yX12_misleads cX12_misleads 6 (some .boolean)) 3 := ⟨z_at 1720 (by decide +kernel) (by decide +kernel), z_at 13 (by decide +kernel) (by decide +kernel), ⟨by decide +kernel, by decide +kernel⟩, by decide +kernel⟩
set_option maxRecDepth 100000 in
theorem I_X12_misleads : Cond.instanceMethod yX12_misleads ∈ zws := z_at 1719 (by decide +kernel) (by decide +kernel)
set_option maxRecDepth 100000 in
theorem S_X12_misleads : Cond.selects yX12_misleads.cls yX12_misleads yX12_misleads ∈ zws := z_in (List.mem_append_left _ (List.mem_map.mpr ⟨_, List.mem_of_getElem? (i := 83) rfl, rfl⟩)) rfl
abbrev F_X12_misled : zF := (12, cX12_misled, some .int, 6, [], false)
def T_X12_misled : List (Nat × zI) := [(0, (4, 0, 0, 0, 1, [])), (1, (0, 0, 0, 0, 2, [])), (2, (19, 12, 0, 0, 5, [])), (5, (4, 0, 0, 0, 6, [])), (6, (2, 1, 0, 0, 7, [])), (10, (17, 0, 29, 0, 13, [])), (13, (4, 0, 0, 0, 14, [])), (14, (2, 2, 0, 0, 15, [])), (18, (17, 0, 29, 0, 21, [])), (21, (4, 0, 0, 0, 22, [])), (22, (2, 3, 0, 0, 23, [])), (26, (17, 0, 29, 0, 31, [])), (29, (0, 0, 0, 0, 30, [])), (30, (27, 0, 0, 0, 31, [])), (31, (4, 0, 0, 0, 32, [])), (32, (2, 2, 0, 0, 33, [])), (36, (17, 0, 42, 0, 39, [])), (39, (0, 0, 0, (-2), 41, [])), (41, (27, 0, 0, 0, 42, [])), (42, (0, 0, 0, 0, 43, [])), (43, (5, 4, 0, 0, 45, [])), (45, (2, 4, 0, 0, 47, [])), (47, (4, 0, 0, 0, 48, [])), (48, (18, 12, 1, 0, 51, [])), (51, (16, 1, 54, 0, 74, [])), (54, (4, 0, 0, 0, 55, [])), (55, (18, 12, 47, 0, 58, [])), (58, (2, 4, 0, 0, 60, [])), (60, (4, 0, 0, 0, 61, [])), (61, (2, 4, 0, 0, 63, [])), (63, (2, 2, 0, 0, 64, [])), (67, (21, 0, 0, 0, 68, [])), (68, (8, 4, 0, 1, 71, [])), (71, (15, 0, 0, 0, 45, [])), (74, (0, 0, 0, (-1), 75, [])), (75, (5, 4, 0, 0, 77, [])), (77, (0, 0, 0, 0, 78, [])), (78, (5, 5, 0, 0, 80, [])), (80, (2, 5, 0, 0, 82, [])), (82, (0, 0, 0, 1, 83, [])), (83, (4, 0, 0, 0, 84, [])), (84, (18, 12, 2, 0, 87, [])), (87, (9, 6, 0, 0, 88, [])), (88, (16, 1, 91, 0, 131, [])), (91, (2, 4, 0, 0, 93, [])), (93, (0, 0, 0, (-1), 94, [])), (94, (16, 0, 110, 0, 97, [])), (97, (2, 5, 0, 0, 99, [])), (102, (2, 4, 0, 0, 104, [])), (107, (16, 1, 110, 0, 125, [])), (110, (4, 0, 0, 0, 111, [])), (111, (2, 1, 0, 0, 112, [])), (112, (2, 2, 0, 0, 113, [])), (113, (2, 5, 0, 0, 115, [])), (118, (17, 0, 125, 0, 121, [])), (121, (2, 5, 0, 0, 123, [])), (123, (5, 4, 0, 0, 125, [])), (125, (8, 5, 0, 1, 128, [])), (128, (15, 0, 0, 0, 80, [])), (131, (2, 4, 0, 0, 133, [])), (133, (0, 0, 0, (-1), 134, [])), (134, (16, 0, 142, 0, 137, [])), (137, (2, 3, 0, 0, 138, [])), (138, (0, 0, 0, 1, 139, [])), (139, (16, 0, 142, 0, 147, [])), (142, (2, 4, 0, 0, 144, [])), (144, (15, 0, 0, 0, 152, [])), (147, (2, 4, 0, 0, 149, [])), (152, (27, 0, 0, 0, 153, []))]
set_option maxRecDepth 100000 in
theorem K_X12_misled : ztbok F_X12_misled T_X12_misled := ztbB_ok (by decide +kernel)
set_option maxRecDepth 100000 in
theorem W_X12_misled : zMth yX12_misled (.code yX12_misled cX12_misled 6 (some .int)) 3 := ⟨z_at 1716 (by decide +kernel) (by decide +kernel), z_at 13 (by decide +kernel) (by decide +kernel), ⟨by decide +kernel, by decide +kernel⟩, by decide +kernel⟩
set_option maxRecDepth 100000 in
theorem I_X12_misled : Cond.instanceMethod yX12_misled ∈ zws := z_at 1714 (by decide +kernel) (by decide +kernel)
set_option maxRecDepth 100000 in
theorem S_X12_misled : Cond.selects yX12_misled.cls yX12_misled yX12_misled ∈ zws := z_at 1715 (by decide +kernel) (by decide +kernel)
abbrev F_X12_chanceOf : zF := (12, cX12_chanceOf, some .int, 6, [], false)
def T_X12_chanceOf : List (Nat × zI) := [(0, (4, 0, 0, 0, 1, [])), (1, (18, 12, 6, 0, 4, [])), (4, (2, 1, 0, 0, 5, [])), (5, (20, 0, 0, 0, 6, [])), (6, (0, 0, 0, (-1), 7, [])), (7, (16, 0, 10, 0, 12, [])), (10, (0, 0, 0, 0, 11, [])), (11, (27, 0, 0, 0, 12, [])), (12, (4, 0, 0, 0, 13, [])), (13, (18, 12, 6, 0, 16, [])), (16, (2, 1, 0, 0, 17, [])), (17, (20, 0, 0, 0, 18, [])), (18, (5, 3, 0, 0, 19, [])), (19, (0, 0, 0, 0, 20, [])), (20, (5, 4, 0, 0, 22, [])), (22, (0, 0, 0, 0, 23, [])), (23, (5, 5, 0, 0, 25, [])), (25, (2, 5, 0, 0, 27, [])), (27, (0, 0, 0, 18, 29, [])), (29, (16, 1, 32, 0, 78, [])), (32, (2, 4, 0, 0, 34, [])), (34, (4, 0, 0, 0, 35, [])), (35, (18, 12, 11, 0, 38, [])), (38, (0, 0, 0, 24, 40, [])), (40, (2, 3, 0, 0, 41, [])), (41, (9, 2, 0, 0, 42, [])), (42, (2, 2, 0, 0, 43, [])), (43, (9, 0, 0, 0, 44, [])), (44, (20, 0, 0, 0, 45, [])), (45, (2, 5, 0, 0, 47, [])), (47, (9, 7, 0, 0, 48, [])), (48, (0, 0, 0, 1, 49, [])), (49, (9, 3, 0, 0, 50, [])), (50, (0, 0, 0, 1, 51, [])), (51, (16, 0, 54, 0, 68, [])), (54, (4, 0, 0, 0, 55, [])), (55, (2, 3, 0, 0, 56, [])), (56, (2, 5, 0, 0, 58, [])), (61, (17, 0, 64, 0, 68, [])), (64, (0, 0, 0, 1, 65, [])), (65, (15, 0, 0, 0, 69, [])), (68, (0, 0, 0, 0, 69, [])), (69, (9, 0, 0, 0, 70, [])), (70, (5, 4, 0, 0, 72, [])), (72, (8, 5, 0, 1, 75, [])), (75, (15, 0, 0, 0, 25, [])), (78, (0, 0, 0, 27720, 81, [])), (81, (4, 0, 0, 0, 82, [])), (82, (18, 12, 11, 0, 85, [])), (85, (0, 0, 0, 24, 87, [])), (87, (2, 3, 0, 0, 88, [])), (88, (9, 2, 0, 0, 89, [])), (89, (2, 2, 0, 0, 90, [])), (90, (9, 0, 0, 0, 91, [])), (91, (20, 0, 0, 0, 92, [])), (95, (9, 9, 0, 0, 96, [])), (96, (2, 4, 0, 0, 98, [])), (98, (9, 2, 0, 0, 99, [])), (99, (27, 0, 0, 0, 100, []))]
set_option maxRecDepth 100000 in
theorem K_X12_chanceOf : ztbok F_X12_chanceOf T_X12_chanceOf := ztbB_ok (by decide +kernel)
set_option maxRecDepth 100000 in
theorem W_X12_chanceOf : zMth yX12_chanceOf (.code yX12_chanceOf cX12_chanceOf 6 (some .int)) 2 := ⟨z_at 1736 (by decide +kernel) (by decide +kernel), z_at 13 (by decide +kernel) (by decide +kernel), ⟨by decide +kernel, by decide +kernel⟩, by decide +kernel⟩
set_option maxRecDepth 100000 in
theorem I_X12_chanceOf : Cond.instanceMethod yX12_chanceOf ∈ zws := z_at 1735 (by decide +kernel) (by decide +kernel)
set_option maxRecDepth 100000 in
theorem S_X12_chanceOf : Cond.selects yX12_chanceOf.cls yX12_chanceOf yX12_chanceOf ∈ zws := z_in (List.mem_append_left _ (List.mem_map.mpr ⟨_, List.mem_of_getElem? (i := 86) rfl, rfl⟩)) rfl
abbrev F_X12_chance : zF := (12, cX12_chance, some .int, 3, [], false)
def T_X12_chance : List (Nat × zI) := [(0, (4, 0, 0, 0, 1, [])), (1, (0, 0, 0, 0, 2, [])), (2, (19, 12, 0, 0, 5, [])), (5, (4, 0, 0, 0, 6, [])), (6, (2, 1, 0, 0, 7, [])), (10, (17, 0, 30, 0, 13, [])), (13, (4, 0, 0, 0, 14, [])), (14, (2, 2, 0, 0, 15, [])), (18, (17, 0, 30, 0, 21, [])), (21, (4, 0, 0, 0, 22, [])), (22, (2, 1, 0, 0, 23, [])), (23, (2, 2, 0, 0, 24, [])), (27, (15, 0, 0, 0, 31, [])), (30, (0, 0, 0, 0, 31, [])), (31, (27, 0, 0, 0, 32, []))]
set_option maxRecDepth 100000 in
theorem K_X12_chance : ztbok F_X12_chance T_X12_chance := ztbB_ok (by decide +kernel)
set_option maxRecDepth 100000 in
theorem W_X12_chance : zMth yX12_chance (.code yX12_chance cX12_chance 3 (some .int)) 2 := ⟨z_at 1732 (by decide +kernel) (by decide +kernel), z_at 13 (by decide +kernel) (by decide +kernel), ⟨by decide +kernel, by decide +kernel⟩, by decide +kernel⟩
set_option maxRecDepth 100000 in
theorem I_X12_chance : Cond.instanceMethod yX12_chance ∈ zws := z_at 1730 (by decide +kernel) (by decide +kernel)
set_option maxRecDepth 100000 in
theorem S_X12_chance : Cond.selects yX12_chance.cls yX12_chance yX12_chance ∈ zws := z_at 1731 (by decide +kernel) (by decide +kernel)
abbrev F_X12_bestOf : zF := (12, cX12_bestOf, some .int, 5, [], false)
def T_X12_bestOf : List (Nat × zI) := [(0, (0, 0, 0, (-1), 1, [])), (1, (5, 3, 0, 0, 2, [])), (2, (0, 0, 0, 0, 3, [])), (3, (5, 4, 0, 0, 5, [])), (5, (2, 4, 0, 0, 7, [])), (7, (2, 2, 0, 0, 8, [])), (8, (16, 1, 11, 0, 80, [])), (11, (4, 0, 0, 0, 12, [])), (12, (18, 12, 49, 0, 15, [])), (15, (2, 4, 0, 0, 17, [])), (17, (20, 0, 0, 0, 18, [])), (18, (2, 1, 0, 0, 19, [])), (19, (16, 0, 22, 0, 74, [])), (22, (4, 0, 0, 0, 23, [])), (23, (18, 12, 48, 0, 26, [])), (26, (0, 0, 0, 6, 28, [])), (28, (2, 1, 0, 0, 29, [])), (29, (9, 2, 0, 0, 30, [])), (30, (2, 4, 0, 0, 32, [])), (32, (9, 0, 0, 0, 33, [])), (33, (20, 0, 0, 0, 34, [])), (34, (17, 0, 37, 0, 40, [])), (37, (15, 0, 0, 0, 74, [])), (40, (2, 3, 0, 0, 41, [])), (41, (0, 0, 0, (-1), 42, [])), (42, (16, 0, 71, 0, 45, [])), (45, (4, 0, 0, 0, 46, [])), (46, (18, 12, 48, 0, 49, [])), (49, (0, 0, 0, 6, 51, [])), (51, (2, 1, 0, 0, 52, [])), (52, (9, 2, 0, 0, 53, [])), (53, (2, 4, 0, 0, 55, [])), (55, (9, 0, 0, 0, 56, [])), (56, (20, 0, 0, 0, 57, [])), (57, (4, 0, 0, 0, 58, [])), (58, (18, 12, 48, 0, 61, [])), (61, (0, 0, 0, 6, 63, [])), (63, (2, 1, 0, 0, 64, [])), (64, (9, 2, 0, 0, 65, [])), (65, (2, 3, 0, 0, 66, [])), (66, (9, 0, 0, 0, 67, [])), (67, (20, 0, 0, 0, 68, [])), (68, (16, 2, 71, 0, 74, [])), (71, (2, 4, 0, 0, 73, [])), (73, (5, 3, 0, 0, 74, [])), (74, (8, 4, 0, 1, 77, [])), (77, (15, 0, 0, 0, 5, [])), (80, (2, 3, 0, 0, 81, [])), (81, (27, 0, 0, 0, 82, []))]
set_option maxRecDepth 100000 in
theorem K_X12_bestOf : ztbok F_X12_bestOf T_X12_bestOf := ztbB_ok (by decide +kernel)
set_option maxRecDepth 100000 in
theorem W_X12_bestOf : zMth yX12_bestOf (.code yX12_bestOf cX12_bestOf 5 (some .int)) 2 := ⟨z_at 1748 (by decide +kernel) (by decide +kernel), z_at 13 (by decide +kernel) (by decide +kernel), ⟨by decide +kernel, by decide +kernel⟩, by decide +kernel⟩
set_option maxRecDepth 100000 in
theorem I_X12_bestOf : Cond.instanceMethod yX12_bestOf ∈ zws := z_at 1747 (by decide +kernel) (by decide +kernel)
set_option maxRecDepth 100000 in
theorem S_X12_bestOf : Cond.selects yX12_bestOf.cls yX12_bestOf yX12_bestOf ∈ zws := z_in (List.mem_append_left _ (List.mem_map.mpr ⟨_, List.mem_of_getElem? (i := 88) rfl, rfl⟩)) rfl
abbrev F_X12_all : zF := (12, cX12_all, some .int, 5, [], false)
def T_X12_all : List (Nat × zI) := [(0, (0, 0, 0, 0, 1, [])), (1, (5, 2, 0, 0, 2, [])), (2, (0, 0, 0, 0, 3, [])), (3, (5, 3, 0, 0, 4, [])), (4, (2, 3, 0, 0, 5, [])), (5, (4, 0, 0, 0, 6, [])), (6, (18, 12, 1, 0, 9, [])), (9, (16, 1, 12, 0, 51, [])), (12, (4, 0, 0, 0, 13, [])), (13, (2, 3, 0, 0, 14, [])), (14, (2, 1, 0, 0, 15, [])), (18, (5, 4, 0, 0, 20, [])), (20, (2, 2, 0, 0, 21, [])), (21, (2, 4, 0, 0, 23, [])), (23, (0, 0, 0, (-1), 24, [])), (24, (16, 0, 27, 0, 31, [])), (27, (0, 0, 0, 0, 28, [])), (28, (15, 0, 0, 0, 43, [])), (31, (4, 0, 0, 0, 32, [])), (32, (18, 12, 48, 0, 35, [])), (35, (0, 0, 0, 6, 37, [])), (37, (2, 3, 0, 0, 38, [])), (38, (9, 2, 0, 0, 39, [])), (39, (2, 4, 0, 0, 41, [])), (41, (9, 0, 0, 0, 42, [])), (42, (20, 0, 0, 0, 43, [])), (43, (9, 0, 0, 0, 44, [])), (44, (5, 2, 0, 0, 45, [])), (45, (8, 3, 0, 1, 48, [])), (48, (15, 0, 0, 0, 4, [])), (51, (2, 2, 0, 0, 52, [])), (52, (27, 0, 0, 0, 53, []))]
set_option maxRecDepth 100000 in
theorem K_X12_all : ztbok F_X12_all T_X12_all := ztbB_ok (by decide +kernel)
set_option maxRecDepth 100000 in
theorem W_X12_all : zMth yX12_all (.code yX12_all cX12_all 5 (some .int)) 1 := ⟨z_at 1744 (by decide +kernel) (by decide +kernel), z_at 13 (by decide +kernel) (by decide +kernel), ⟨by decide +kernel, by decide +kernel⟩, by decide +kernel⟩
set_option maxRecDepth 100000 in
theorem I_X12_all : Cond.instanceMethod yX12_all ∈ zws := z_at 1743 (by decide +kernel) (by decide +kernel)
set_option maxRecDepth 100000 in
theorem S_X12_all : Cond.selects yX12_all.cls yX12_all yX12_all ∈ zws := z_in (List.mem_append_left _ (List.mem_map.mpr ⟨_, List.mem_of_getElem? (i := 87) rfl, rfl⟩)) rfl
abbrev F_X12_turnsPath : zF := (12, cX12_turnsPath, some .boolean, 5, [], false)
def T_X12_turnsPath : List (Nat × zI) := [(0, (2, 1, 0, 0, 1, [])), (1, (0, 0, 0, 1, 2, [])), (2, (9, 1, 0, 0, 3, [])), (3, (5, 2, 0, 0, 4, [])), (4, (2, 2, 0, 0, 5, [])), (5, (17, 2, 8, 0, 127, [])), (8, (4, 0, 0, 0, 9, [])), (9, (18, 12, 49, 0, 12, [])), (12, (2, 2, 0, 0, 13, [])), (13, (0, 0, 0, 1, 14, [])), (14, (9, 1, 0, 0, 15, [])), (15, (20, 0, 0, 0, 16, [])), (16, (0, 0, 0, 1, 17, [])), (17, (9, 0, 0, 0, 18, [])), (18, (4, 0, 0, 0, 19, [])), (19, (18, 12, 1, 0, 22, [])), (22, (16, 1, 25, 0, 38, [])), (25, (4, 0, 0, 0, 26, [])), (26, (18, 12, 49, 0, 29, [])), (29, (2, 2, 0, 0, 30, [])), (30, (0, 0, 0, 1, 31, [])), (31, (9, 1, 0, 0, 32, [])), (32, (20, 0, 0, 0, 33, [])), (33, (0, 0, 0, 1, 34, [])), (34, (9, 0, 0, 0, 35, [])), (35, (15, 0, 0, 0, 44, [])), (38, (4, 0, 0, 0, 39, [])), (39, (18, 12, 1, 0, 42, [])), (42, (0, 0, 0, 1, 43, [])), (43, (9, 1, 0, 0, 44, [])), (44, (5, 3, 0, 0, 45, [])), (45, (4, 0, 0, 0, 46, [])), (46, (18, 12, 49, 0, 49, [])), (49, (2, 2, 0, 0, 50, [])), (50, (20, 0, 0, 0, 51, [])), (51, (2, 3, 0, 0, 52, [])), (52, (16, 0, 55, 0, 58, [])), (55, (15, 0, 0, 0, 121, [])), (58, (4, 0, 0, 0, 59, [])), (59, (18, 12, 49, 0, 62, [])), (62, (2, 2, 0, 0, 63, [])), (63, (13, 0, 0, 0, 64, [])), (64, (20, 0, 0, 0, 65, [])), (65, (0, 0, 0, 1, 66, [])), (66, (9, 0, 0, 0, 67, [])), (67, (21, 0, 0, 0, 68, [])), (68, (2, 2, 0, 0, 69, [])), (69, (0, 0, 0, 1, 70, [])), (70, (9, 0, 0, 0, 71, [])), (71, (5, 4, 0, 0, 73, [])), (73, (2, 4, 0, 0, 75, [])), (75, (2, 1, 0, 0, 76, [])), (76, (16, 1, 79, 0, 119, [])), (79, (4, 0, 0, 0, 80, [])), (80, (18, 12, 49, 0, 83, [])), (83, (2, 4, 0, 0, 85, [])), (85, (4, 0, 0, 0, 86, [])), (86, (18, 12, 49, 0, 89, [])), (89, (2, 4, 0, 0, 91, [])), (91, (0, 0, 0, 1, 92, [])), (92, (9, 1, 0, 0, 93, [])), (93, (20, 0, 0, 0, 94, [])), (94, (17, 2, 97, 0, 111, [])), (97, (4, 0, 0, 0, 98, [])), (98, (18, 12, 49, 0, 101, [])), (101, (2, 4, 0, 0, 103, [])), (103, (0, 0, 0, 1, 104, [])), (104, (9, 1, 0, 0, 105, [])), (105, (20, 0, 0, 0, 106, [])), (106, (0, 0, 0, 1, 107, [])), (107, (9, 1, 0, 0, 108, [])), (108, (15, 0, 0, 0, 112, [])), (111, (0, 0, 0, 0, 112, [])), (112, (21, 0, 0, 0, 113, [])), (113, (8, 4, 0, 1, 116, [])), (116, (15, 0, 0, 0, 73, [])), (119, (0, 0, 0, 1, 120, [])), (120, (27, 0, 0, 0, 121, [])), (121, (8, 2, 0, (-1), 124, [])), (124, (15, 0, 0, 0, 4, [])), (127, (0, 0, 0, 0, 128, [])), (128, (27, 0, 0, 0, 129, []))]
set_option maxRecDepth 100000 in
theorem K_X12_turnsPath : ztbok F_X12_turnsPath T_X12_turnsPath := ztbB_ok (by decide +kernel)
set_option maxRecDepth 100000 in
theorem W_X12_turnsPath : zMth yX12_turnsPath (.code yX12_turnsPath cX12_turnsPath 5 (some .boolean)) 1 := ⟨z_at 1752 (by decide +kernel) (by decide +kernel), z_at 13 (by decide +kernel) (by decide +kernel), ⟨by decide +kernel, by decide +kernel⟩, by decide +kernel⟩
set_option maxRecDepth 100000 in
theorem I_X12_turnsPath : Cond.instanceMethod yX12_turnsPath ∈ zws := z_at 1751 (by decide +kernel) (by decide +kernel)
set_option maxRecDepth 100000 in
theorem S_X12_turnsPath : Cond.selects yX12_turnsPath.cls yX12_turnsPath yX12_turnsPath ∈ zws := z_in (List.mem_append_left _ (List.mem_map.mpr ⟨_, List.mem_of_getElem? (i := 89) rfl, rfl⟩)) rfl
abbrev F_X12_round : zF := (12, cX12_round, some .int, 8, [], false)
def T_X12_round : List (Nat × zI) := [(0, (4, 0, 0, 0, 1, [])), (1, (0, 0, 0, 0, 2, [])), (2, (19, 12, 0, 0, 5, [])), (5, (4, 0, 0, 0, 6, [])), (6, (2, 1, 0, 0, 7, [])), (10, (17, 0, 52, 0, 13, [])), (13, (4, 0, 0, 0, 14, [])), (14, (2, 2, 0, 0, 15, [])), (18, (17, 0, 52, 0, 21, [])), (21, (4, 0, 0, 0, 22, [])), (22, (2, 3, 0, 0, 23, [])), (23, (0, 0, 0, 1, 24, [])), (24, (0, 0, 0, 6, 26, [])), (29, (17, 0, 44, 0, 32, [])), (32, (2, 2, 0, 0, 33, [])), (33, (2, 3, 0, 0, 34, [])), (34, (9, 0, 0, 0, 35, [])), (35, (0, 0, 0, 24, 37, [])), (37, (16, 2, 44, 0, 40, [])), (40, (0, 0, 0, 1, 41, [])), (41, (15, 0, 0, 0, 45, [])), (44, (0, 0, 0, 0, 45, [])), (45, (0, 0, 0, 2, 46, [])), (49, (17, 0, 52, 0, 54, [])), (52, (0, 0, 0, 0, 53, [])), (53, (27, 0, 0, 0, 54, [])), (54, (0, 0, 0, 0, 55, [])), (55, (5, 4, 0, 0, 57, [])), (57, (2, 4, 0, 0, 59, [])), (59, (4, 0, 0, 0, 60, [])), (60, (18, 12, 1, 0, 63, [])), (63, (16, 1, 66, 0, 118, [])), (66, (0, 0, 0, 0, 67, [])), (67, (5, 5, 0, 0, 69, [])), (69, (2, 5, 0, 0, 71, [])), (71, (2, 3, 0, 0, 72, [])), (72, (16, 1, 75, 0, 112, [])), (75, (4, 0, 0, 0, 76, [])), (76, (18, 12, 48, 0, 79, [])), (79, (0, 0, 0, 6, 81, [])), (81, (2, 4, 0, 0, 83, [])), (83, (9, 2, 0, 0, 84, [])), (84, (2, 5, 0, 0, 86, [])), (86, (9, 0, 0, 0, 87, [])), (87, (4, 0, 0, 0, 88, [])), (88, (18, 12, 5, 0, 91, [])), (91, (2, 4, 0, 0, 93, [])), (93, (20, 0, 0, 0, 94, [])), (94, (4, 0, 0, 0, 95, [])), (95, (2, 4, 0, 0, 97, [])), (97, (2, 2, 0, 0, 98, [])), (98, (2, 5, 0, 0, 100, [])), (100, (9, 0, 0, 0, 101, [])), (104, (9, 2, 0, 0, 105, [])), (105, (21, 0, 0, 0, 106, [])), (106, (8, 5, 0, 1, 109, [])), (109, (15, 0, 0, 0, 69, [])), (112, (8, 4, 0, 1, 115, [])), (115, (15, 0, 0, 0, 57, [])), (118, (4, 0, 0, 0, 119, [])), (119, (18, 12, 49, 0, 122, [])), (122, (0, 0, 0, 0, 123, [])), (123, (2, 1, 0, 0, 124, [])), (124, (21, 0, 0, 0, 125, [])), (125, (0, 0, 0, 1, 126, [])), (126, (5, 4, 0, 0, 128, [])), (128, (2, 4, 0, 0, 130, [])), (130, (2, 3, 0, 0, 131, [])), (131, (16, 1, 134, 0, 174, [])), (134, (4, 0, 0, 0, 135, [])), (135, (18, 12, 49, 0, 138, [])), (138, (2, 4, 0, 0, 140, [])), (140, (4, 0, 0, 0, 141, [])), (141, (18, 12, 49, 0, 144, [])), (144, (2, 4, 0, 0, 146, [])), (146, (0, 0, 0, 1, 147, [])), (147, (9, 1, 0, 0, 148, [])), (148, (20, 0, 0, 0, 149, [])), (149, (17, 2, 152, 0, 166, [])), (152, (4, 0, 0, 0, 153, [])), (153, (18, 12, 49, 0, 156, [])), (156, (2, 4, 0, 0, 158, [])), (158, (0, 0, 0, 1, 159, [])), (159, (9, 1, 0, 0, 160, [])), (160, (20, 0, 0, 0, 161, [])), (161, (0, 0, 0, 1, 162, [])), (162, (9, 1, 0, 0, 163, [])), (163, (15, 0, 0, 0, 167, [])), (166, (0, 0, 0, 0, 167, [])), (167, (21, 0, 0, 0, 168, [])), (168, (8, 4, 0, 1, 171, [])), (171, (15, 0, 0, 0, 128, [])), (174, (0, 0, 0, (-1), 175, [])), (175, (5, 4, 0, 0, 177, [])), (177, (0, 0, 0, 1, 178, [])), (178, (5, 5, 0, 0, 180, [])), (180, (2, 5, 0, 0, 182, [])), (182, (17, 0, 269, 0, 185, [])), (185, (4, 0, 0, 0, 186, [])), (186, (2, 3, 0, 0, 187, [])), (190, (5, 6, 0, 0, 192, [])), (192, (2, 6, 0, 0, 194, [])), (194, (2, 4, 0, 0, 196, [])), (196, (16, 2, 199, 0, 259, [])), (199, (2, 6, 0, 0, 201, [])), (201, (5, 4, 0, 0, 203, [])), (203, (4, 0, 0, 0, 204, [])), (204, (4, 0, 0, 0, 205, [])), (205, (18, 12, 49, 0, 208, [])), (208, (4, 0, 0, 0, 209, [])), (209, (18, 12, 50, 0, 212, [])), (215, (0, 0, 0, 0, 216, [])), (216, (5, 7, 0, 0, 218, [])), (218, (2, 7, 0, 0, 220, [])), (220, (2, 3, 0, 0, 221, [])), (221, (16, 1, 224, 0, 259, [])), (224, (4, 0, 0, 0, 225, [])), (225, (18, 12, 51, 0, 228, [])), (228, (2, 7, 0, 0, 230, [])), (230, (4, 0, 0, 0, 231, [])), (231, (4, 0, 0, 0, 232, [])), (232, (18, 12, 49, 0, 235, [])), (235, (2, 7, 0, 0, 237, [])), (237, (20, 0, 0, 0, 238, [])), (238, (2, 3, 0, 0, 239, [])), (242, (2, 7, 0, 0, 244, [])), (244, (16, 0, 247, 0, 251, [])), (247, (0, 0, 0, 1, 248, [])), (248, (15, 0, 0, 0, 252, [])), (251, (0, 0, 0, 0, 252, [])), (252, (21, 0, 0, 0, 253, [])), (253, (8, 7, 0, 1, 256, [])), (256, (15, 0, 0, 0, 218, [])), (259, (4, 0, 0, 0, 260, [])), (260, (2, 3, 0, 0, 261, [])), (264, (5, 5, 0, 0, 266, [])), (266, (15, 0, 0, 0, 180, [])), (269, (4, 0, 0, 0, 270, [])), (270, (2, 3, 0, 0, 271, [])), (271, (19, 12, 52, 0, 274, [])), (274, (2, 4, 0, 0, 276, [])), (276, (27, 0, 0, 0, 277, []))]
set_option maxRecDepth 100000 in
theorem K_X12_round : ztbok F_X12_round T_X12_round := ztbB_ok (by decide +kernel)
set_option maxRecDepth 100000 in
theorem W_X12_round : zMth yX12_round (.code yX12_round cX12_round 8 (some .int)) 3 := ⟨z_at 1740 (by decide +kernel) (by decide +kernel), z_at 13 (by decide +kernel) (by decide +kernel), ⟨by decide +kernel, by decide +kernel⟩, by decide +kernel⟩
set_option maxRecDepth 100000 in
theorem I_X12_round : Cond.instanceMethod yX12_round ∈ zws := z_at 1738 (by decide +kernel) (by decide +kernel)
set_option maxRecDepth 100000 in
theorem S_X12_round : Cond.selects yX12_round.cls yX12_round yX12_round ∈ zws := z_at 1739 (by decide +kernel) (by decide +kernel)
abbrev F_X12_path : zF := (12, cX12_path, some .int, 3, [], false)
def T_X12_path : List (Nat × zI) := [(0, (4, 0, 0, 0, 1, [])), (1, (0, 0, 0, 0, 2, [])), (2, (19, 12, 0, 0, 5, [])), (5, (4, 0, 0, 0, 6, [])), (6, (2, 1, 0, 0, 7, [])), (7, (17, 1, 22, 0, 10, [])), (10, (2, 1, 0, 0, 11, [])), (11, (4, 0, 0, 0, 12, [])), (12, (18, 12, 52, 0, 15, [])), (15, (16, 1, 18, 0, 22, [])), (18, (0, 0, 0, 1, 19, [])), (19, (15, 0, 0, 0, 23, [])), (22, (0, 0, 0, 0, 23, [])), (23, (0, 0, 0, 1, 24, [])), (27, (17, 0, 38, 0, 30, [])), (30, (4, 0, 0, 0, 31, [])), (31, (2, 2, 0, 0, 32, [])), (35, (17, 0, 38, 0, 40, [])), (38, (0, 0, 0, 0, 39, [])), (39, (27, 0, 0, 0, 40, [])), (40, (2, 2, 0, 0, 41, [])), (41, (17, 0, 44, 0, 53, [])), (44, (4, 0, 0, 0, 45, [])), (45, (18, 12, 50, 0, 48, [])), (48, (2, 1, 0, 0, 49, [])), (49, (20, 0, 0, 0, 50, [])), (50, (15, 0, 0, 0, 59, [])), (53, (4, 0, 0, 0, 54, [])), (54, (18, 12, 51, 0, 57, [])), (57, (2, 1, 0, 0, 58, [])), (58, (20, 0, 0, 0, 59, [])), (59, (27, 0, 0, 0, 60, []))]
set_option maxRecDepth 100000 in
theorem K_X12_path : ztbok F_X12_path T_X12_path := ztbB_ok (by decide +kernel)
set_option maxRecDepth 100000 in
theorem W_X12_path : zMth yX12_path (.code yX12_path cX12_path 3 (some .int)) 2 := ⟨z_at 1756 (by decide +kernel) (by decide +kernel), z_at 13 (by decide +kernel) (by decide +kernel), ⟨by decide +kernel, by decide +kernel⟩, by decide +kernel⟩
set_option maxRecDepth 100000 in
theorem I_X12_path : Cond.instanceMethod yX12_path ∈ zws := z_at 1754 (by decide +kernel) (by decide +kernel)
set_option maxRecDepth 100000 in
theorem S_X12_path : Cond.selects yX12_path.cls yX12_path yX12_path ∈ zws := z_at 1755 (by decide +kernel) (by decide +kernel)
abbrev F_X12_there : zF := (12, cX12_there, some .int, 5, [], false)
def T_X12_there : List (Nat × zI) := [(0, (0, 0, 0, 0, 1, [])), (1, (5, 3, 0, 0, 2, [])), (2, (0, 0, 0, 0, 3, [])), (3, (5, 4, 0, 0, 5, [])), (5, (2, 4, 0, 0, 7, [])), (7, (2, 2, 0, 0, 8, [])), (8, (16, 1, 11, 0, 36, [])), (11, (2, 3, 0, 0, 12, [])), (12, (4, 0, 0, 0, 13, [])), (13, (18, 12, 53, 0, 16, [])), (16, (2, 4, 0, 0, 18, [])), (18, (20, 0, 0, 0, 19, [])), (19, (2, 1, 0, 0, 20, [])), (20, (16, 0, 23, 0, 27, [])), (23, (0, 0, 0, 1, 24, [])), (24, (15, 0, 0, 0, 28, [])), (27, (0, 0, 0, 0, 28, [])), (28, (9, 0, 0, 0, 29, [])), (29, (5, 3, 0, 0, 30, [])), (30, (8, 4, 0, 1, 33, [])), (33, (15, 0, 0, 0, 5, [])), (36, (2, 3, 0, 0, 37, [])), (37, (27, 0, 0, 0, 38, []))]
set_option maxRecDepth 100000 in
theorem K_X12_there : ztbok F_X12_there T_X12_there := ztbB_ok (by decide +kernel)
set_option maxRecDepth 100000 in
theorem W_X12_there : zMth yX12_there (.code yX12_there cX12_there 5 (some .int)) 2 := ⟨z_at 1768 (by decide +kernel) (by decide +kernel), z_at 13 (by decide +kernel) (by decide +kernel), ⟨by decide +kernel, by decide +kernel⟩, by decide +kernel⟩
set_option maxRecDepth 100000 in
theorem I_X12_there : Cond.instanceMethod yX12_there ∈ zws := z_at 1767 (by decide +kernel) (by decide +kernel)
set_option maxRecDepth 100000 in
theorem S_X12_there : Cond.selects yX12_there.cls yX12_there yX12_there ∈ zws := z_in (List.mem_append_left _ (List.mem_map.mpr ⟨_, List.mem_of_getElem? (i := 91) rfl, rfl⟩)) rfl
abbrev F_X12_isRest : zF := (12, cX12_isRest, some .boolean, 5, [], false)
def T_X12_isRest : List (Nat × zI) := [(0, (0, 0, 0, 0, 1, [])), (1, (5, 2, 0, 0, 2, [])), (2, (2, 2, 0, 0, 3, [])), (3, (2, 1, 0, 0, 4, [])), (4, (16, 1, 7, 0, 89, [])), (7, (4, 0, 0, 0, 8, [])), (8, (18, 12, 55, 0, 11, [])), (11, (4, 0, 0, 0, 12, [])), (12, (18, 12, 53, 0, 15, [])), (15, (2, 2, 0, 0, 16, [])), (16, (20, 0, 0, 0, 17, [])), (17, (20, 0, 0, 0, 18, [])), (18, (4, 0, 0, 0, 19, [])), (19, (4, 0, 0, 0, 20, [])), (20, (18, 12, 53, 0, 23, [])), (23, (2, 2, 0, 0, 24, [])), (24, (20, 0, 0, 0, 25, [])), (25, (2, 1, 0, 0, 26, [])), (29, (9, 9, 0, 0, 30, [])), (30, (5, 3, 0, 0, 31, [])), (31, (0, 0, 0, 0, 32, [])), (32, (5, 4, 0, 0, 34, [])), (34, (2, 4, 0, 0, 36, [])), (36, (4, 0, 0, 0, 37, [])), (37, (18, 12, 1, 0, 40, [])), (40, (16, 1, 43, 0, 83, [])), (43, (2, 4, 0, 0, 45, [])), (45, (4, 0, 0, 0, 46, [])), (46, (18, 12, 53, 0, 49, [])), (49, (2, 2, 0, 0, 50, [])), (50, (20, 0, 0, 0, 51, [])), (51, (16, 0, 77, 0, 54, [])), (54, (4, 0, 0, 0, 55, [])), (55, (18, 12, 55, 0, 58, [])), (58, (2, 4, 0, 0, 60, [])), (60, (20, 0, 0, 0, 61, [])), (61, (4, 0, 0, 0, 62, [])), (62, (2, 4, 0, 0, 64, [])), (64, (2, 1, 0, 0, 65, [])), (68, (0, 0, 0, 1, 69, [])), (69, (9, 0, 0, 0, 70, [])), (70, (9, 9, 0, 0, 71, [])), (71, (2, 3, 0, 0, 72, [])), (72, (16, 2, 75, 0, 77, [])), (75, (0, 0, 0, 0, 76, [])), (76, (27, 0, 0, 0, 77, [])), (77, (8, 4, 0, 1, 80, [])), (80, (15, 0, 0, 0, 34, [])), (83, (8, 2, 0, 1, 86, [])), (86, (15, 0, 0, 0, 2, [])), (89, (0, 0, 0, 1, 90, [])), (90, (27, 0, 0, 0, 91, []))]
set_option maxRecDepth 100000 in
theorem K_X12_isRest : ztbok F_X12_isRest T_X12_isRest := ztbB_ok (by decide +kernel)
set_option maxRecDepth 100000 in
theorem W_X12_isRest : zMth yX12_isRest (.code yX12_isRest cX12_isRest 5 (some .boolean)) 1 := ⟨z_at 1764 (by decide +kernel) (by decide +kernel), z_at 13 (by decide +kernel) (by decide +kernel), ⟨by decide +kernel, by decide +kernel⟩, by decide +kernel⟩
set_option maxRecDepth 100000 in
theorem I_X12_isRest : Cond.instanceMethod yX12_isRest ∈ zws := z_at 1763 (by decide +kernel) (by decide +kernel)
set_option maxRecDepth 100000 in
theorem S_X12_isRest : Cond.selects yX12_isRest.cls yX12_isRest yX12_isRest ∈ zws := z_in (List.mem_append_left _ (List.mem_map.mpr ⟨_, List.mem_of_getElem? (i := 90) rfl, rfl⟩)) rfl
abbrev F_X12_rests : zF := (12, cX12_rests, some .int, 9, [], false)
def T_X12_rests : List (Nat × zI) := [(0, (4, 0, 0, 0, 1, [])), (1, (0, 0, 0, 0, 2, [])), (2, (19, 12, 0, 0, 5, [])), (5, (4, 0, 0, 0, 6, [])), (6, (2, 1, 0, 0, 7, [])), (10, (17, 0, 50, 0, 13, [])), (13, (4, 0, 0, 0, 14, [])), (14, (2, 2, 0, 0, 15, [])), (15, (0, 0, 0, 1, 16, [])), (16, (0, 0, 0, 3, 17, [])), (20, (0, 0, 0, 2, 21, [])), (24, (17, 0, 50, 0, 27, [])), (27, (4, 0, 0, 0, 28, [])), (28, (2, 3, 0, 0, 29, [])), (29, (0, 0, 0, (-1), 30, [])), (30, (16, 1, 42, 0, 33, [])), (33, (2, 3, 0, 0, 34, [])), (34, (2, 2, 0, 0, 35, [])), (35, (16, 1, 38, 0, 42, [])), (38, (0, 0, 0, 1, 39, [])), (39, (15, 0, 0, 0, 43, [])), (42, (0, 0, 0, 0, 43, [])), (43, (0, 0, 0, 1, 44, [])), (47, (17, 0, 50, 0, 52, [])), (50, (0, 0, 0, 0, 51, [])), (51, (27, 0, 0, 0, 52, [])), (52, (0, 0, 0, 0, 53, [])), (53, (5, 4, 0, 0, 55, [])), (55, (2, 4, 0, 0, 57, [])), (57, (4, 0, 0, 0, 58, [])), (58, (18, 12, 1, 0, 61, [])), (61, (16, 1, 64, 0, 92, [])), (64, (4, 0, 0, 0, 65, [])), (65, (18, 12, 55, 0, 68, [])), (68, (2, 4, 0, 0, 70, [])), (70, (4, 0, 0, 0, 71, [])), (71, (18, 12, 5, 0, 74, [])), (74, (2, 4, 0, 0, 76, [])), (76, (20, 0, 0, 0, 77, [])), (77, (4, 0, 0, 0, 78, [])), (78, (2, 4, 0, 0, 80, [])), (80, (2, 1, 0, 0, 81, [])), (84, (9, 2, 0, 0, 85, [])), (85, (21, 0, 0, 0, 86, [])), (86, (8, 4, 0, 1, 89, [])), (89, (15, 0, 0, 0, 55, [])), (92, (0, 0, 0, 1, 93, [])), (93, (5, 4, 0, 0, 95, [])), (95, (0, 0, 0, 0, 96, [])), (96, (5, 5, 0, 0, 98, [])), (98, (2, 5, 0, 0, 100, [])), (100, (2, 2, 0, 0, 101, [])), (101, (16, 1, 104, 0, 119, [])), (104, (2, 4, 0, 0, 106, [])), (106, (4, 0, 0, 0, 107, [])), (107, (18, 12, 1, 0, 110, [])), (110, (9, 2, 0, 0, 111, [])), (111, (5, 4, 0, 0, 113, [])), (113, (8, 5, 0, 1, 116, [])), (116, (15, 0, 0, 0, 98, [])), (119, (0, 0, 0, 0, 120, [])), (120, (5, 5, 0, 0, 122, [])), (122, (0, 0, 0, 0, 123, [])), (123, (5, 6, 0, 0, 125, [])), (125, (2, 6, 0, 0, 127, [])), (127, (2, 4, 0, 0, 129, [])), (129, (16, 1, 132, 0, 212, [])), (132, (2, 6, 0, 0, 134, [])), (134, (5, 7, 0, 0, 136, [])), (136, (2, 2, 0, 0, 137, [])), (137, (0, 0, 0, 1, 138, [])), (138, (9, 1, 0, 0, 139, [])), (139, (5, 8, 0, 0, 141, [])), (141, (2, 8, 0, 0, 143, [])), (143, (17, 1, 175, 0, 146, [])), (146, (4, 0, 0, 0, 147, [])), (147, (18, 12, 53, 0, 150, [])), (150, (2, 8, 0, 0, 152, [])), (152, (2, 7, 0, 0, 154, [])), (154, (4, 0, 0, 0, 155, [])), (155, (18, 12, 1, 0, 158, [])), (158, (9, 10, 0, 0, 159, [])), (159, (21, 0, 0, 0, 160, [])), (160, (2, 7, 0, 0, 162, [])), (162, (4, 0, 0, 0, 163, [])), (163, (18, 12, 1, 0, 166, [])), (166, (9, 9, 0, 0, 167, [])), (167, (5, 7, 0, 0, 169, [])), (169, (8, 8, 0, (-1), 172, [])), (172, (15, 0, 0, 0, 141, [])), (175, (4, 0, 0, 0, 176, [])), (176, (2, 2, 0, 0, 177, [])), (180, (17, 0, 183, 0, 186, [])), (183, (15, 0, 0, 0, 206, [])), (186, (2, 5, 0, 0, 188, [])), (188, (17, 0, 191, 0, 203, [])), (191, (4, 0, 0, 0, 192, [])), (192, (4, 0, 0, 0, 193, [])), (193, (18, 12, 53, 0, 196, [])), (196, (4, 0, 0, 0, 197, [])), (197, (18, 12, 54, 0, 200, [])), (203, (8, 5, 0, 1, 206, [])), (206, (8, 6, 0, 1, 209, [])), (209, (15, 0, 0, 0, 125, [])), (212, (2, 3, 0, 0, 213, [])), (213, (0, 0, 0, (-1), 214, [])), (214, (16, 0, 217, 0, 220, [])), (217, (2, 5, 0, 0, 219, [])), (219, (27, 0, 0, 0, 220, [])), (220, (4, 0, 0, 0, 221, [])), (221, (2, 5, 0, 0, 223, [])), (223, (17, 2, 226, 0, 230, [])), (226, (0, 0, 0, 1, 227, [])), (227, (15, 0, 0, 0, 231, [])), (230, (0, 0, 0, 0, 231, [])), (231, (0, 0, 0, 1, 232, [])), (235, (17, 0, 247, 0, 238, [])), (238, (4, 0, 0, 0, 239, [])), (239, (18, 12, 54, 0, 242, [])), (242, (2, 3, 0, 0, 243, [])), (243, (20, 0, 0, 0, 244, [])), (244, (15, 0, 0, 0, 248, [])), (247, (0, 0, 0, 0, 248, [])), (248, (27, 0, 0, 0, 249, []))]
set_option maxRecDepth 100000 in
theorem K_X12_rests : ztbok F_X12_rests T_X12_rests := ztbB_ok (by decide +kernel)
set_option maxRecDepth 100000 in
theorem W_X12_rests : zMth yX12_rests (.code yX12_rests cX12_rests 9 (some .int)) 3 := ⟨z_at 1760 (by decide +kernel) (by decide +kernel), z_at 13 (by decide +kernel) (by decide +kernel), ⟨by decide +kernel, by decide +kernel⟩, by decide +kernel⟩
set_option maxRecDepth 100000 in
theorem I_X12_rests : Cond.instanceMethod yX12_rests ∈ zws := z_at 1758 (by decide +kernel) (by decide +kernel)
set_option maxRecDepth 100000 in
theorem S_X12_rests : Cond.selects yX12_rests.cls yX12_rests yX12_rests ∈ zws := z_at 1759 (by decide +kernel) (by decide +kernel)
abbrev F_X12_isNeedy : zF := (12, cX12_isNeedy, some .boolean, 5, [], false)
def T_X12_isNeedy : List (Nat × zI) := [(0, (4, 0, 0, 0, 1, [])), (1, (18, 12, 59, 0, 4, [])), (4, (5, 3, 0, 0, 5, [])), (5, (2, 3, 0, 0, 6, [])), (6, (4, 0, 0, 0, 7, [])), (7, (18, 12, 60, 0, 10, [])), (10, (16, 2, 56, 0, 13, [])), (13, (4, 0, 0, 0, 14, [])), (14, (4, 0, 0, 0, 15, [])), (15, (18, 12, 38, 0, 18, [])), (18, (0, 0, 0, 24, 20, [])), (20, (2, 1, 0, 0, 21, [])), (21, (9, 2, 0, 0, 22, [])), (22, (2, 3, 0, 0, 23, [])), (23, (9, 0, 0, 0, 24, [])), (24, (20, 0, 0, 0, 25, [])), (28, (5, 4, 0, 0, 30, [])), (30, (2, 4, 0, 0, 32, [])), (32, (17, 0, 50, 0, 35, [])), (35, (2, 4, 0, 0, 37, [])), (37, (4, 0, 0, 0, 38, [])), (38, (2, 1, 0, 0, 39, [])), (42, (2, 2, 0, 0, 43, [])), (43, (9, 4, 0, 0, 44, [])), (44, (9, 3, 0, 0, 45, [])), (45, (17, 0, 48, 0, 50, [])), (48, (0, 0, 0, 1, 49, [])), (49, (27, 0, 0, 0, 50, [])), (50, (8, 3, 0, 1, 53, [])), (53, (15, 0, 0, 0, 5, [])), (56, (0, 0, 0, 0, 57, [])), (57, (27, 0, 0, 0, 58, []))]
set_option maxRecDepth 100000 in
theorem K_X12_isNeedy : ztbok F_X12_isNeedy T_X12_isNeedy := ztbB_ok (by decide +kernel)
set_option maxRecDepth 100000 in
theorem W_X12_isNeedy : zMth yX12_isNeedy (.code yX12_isNeedy cX12_isNeedy 5 (some .boolean)) 2 := ⟨z_at 1776 (by decide +kernel) (by decide +kernel), z_at 13 (by decide +kernel) (by decide +kernel), ⟨by decide +kernel, by decide +kernel⟩, by decide +kernel⟩
set_option maxRecDepth 100000 in
theorem I_X12_isNeedy : Cond.instanceMethod yX12_isNeedy ∈ zws := z_at 1775 (by decide +kernel) (by decide +kernel)
set_option maxRecDepth 100000 in
theorem S_X12_isNeedy : Cond.selects yX12_isNeedy.cls yX12_isNeedy yX12_isNeedy ∈ zws := z_in (List.mem_append_left _ (List.mem_map.mpr ⟨_, List.mem_of_getElem? (i := 92) rfl, rfl⟩)) rfl
abbrev F_X12_isFree : zF := (12, cX12_isFree, some .boolean, 4, [], false)
def T_X12_isFree : List (Nat × zI) := [(0, (4, 0, 0, 0, 1, [])), (1, (18, 12, 59, 0, 4, [])), (4, (5, 3, 0, 0, 5, [])), (5, (2, 3, 0, 0, 6, [])), (6, (4, 0, 0, 0, 7, [])), (7, (18, 12, 60, 0, 10, [])), (10, (16, 2, 41, 0, 13, [])), (13, (4, 0, 0, 0, 14, [])), (14, (4, 0, 0, 0, 15, [])), (15, (18, 12, 38, 0, 18, [])), (18, (0, 0, 0, 24, 20, [])), (20, (2, 1, 0, 0, 21, [])), (21, (9, 2, 0, 0, 22, [])), (22, (2, 3, 0, 0, 23, [])), (23, (9, 0, 0, 0, 24, [])), (24, (20, 0, 0, 0, 25, [])), (28, (2, 2, 0, 0, 29, [])), (29, (9, 3, 0, 0, 30, [])), (30, (17, 0, 35, 0, 33, [])), (33, (0, 0, 0, 0, 34, [])), (34, (27, 0, 0, 0, 35, [])), (35, (8, 3, 0, 1, 38, [])), (38, (15, 0, 0, 0, 5, [])), (41, (0, 0, 0, 1, 42, [])), (42, (27, 0, 0, 0, 43, []))]
set_option maxRecDepth 100000 in
theorem K_X12_isFree : ztbok F_X12_isFree T_X12_isFree := ztbB_ok (by decide +kernel)
set_option maxRecDepth 100000 in
theorem W_X12_isFree : zMth yX12_isFree (.code yX12_isFree cX12_isFree 4 (some .boolean)) 2 := ⟨z_at 1784 (by decide +kernel) (by decide +kernel), z_at 13 (by decide +kernel) (by decide +kernel), ⟨by decide +kernel, by decide +kernel⟩, by decide +kernel⟩
set_option maxRecDepth 100000 in
theorem I_X12_isFree : Cond.instanceMethod yX12_isFree ∈ zws := z_at 1783 (by decide +kernel) (by decide +kernel)
set_option maxRecDepth 100000 in
theorem S_X12_isFree : Cond.selects yX12_isFree.cls yX12_isFree yX12_isFree ∈ zws := z_in (List.mem_append_left _ (List.mem_map.mpr ⟨_, List.mem_of_getElem? (i := 94) rfl, rfl⟩)) rfl
abbrev F_X12_given : zF := (12, cX12_given, some .int, 5, [], false)
def T_X12_given : List (Nat × zI) := [(0, (0, 0, 0, 0, 1, [])), (1, (5, 3, 0, 0, 2, [])), (2, (0, 0, 0, 0, 3, [])), (3, (5, 4, 0, 0, 5, [])), (5, (2, 4, 0, 0, 7, [])), (7, (4, 0, 0, 0, 8, [])), (8, (18, 12, 2, 0, 11, [])), (11, (16, 1, 14, 0, 44, [])), (14, (2, 3, 0, 0, 15, [])), (15, (4, 0, 0, 0, 16, [])), (16, (18, 12, 57, 0, 19, [])), (19, (2, 4, 0, 0, 21, [])), (21, (20, 0, 0, 0, 22, [])), (22, (0, 0, 0, 10, 24, [])), (24, (2, 1, 0, 0, 25, [])), (25, (9, 2, 0, 0, 26, [])), (26, (2, 2, 0, 0, 27, [])), (27, (9, 0, 0, 0, 28, [])), (28, (16, 0, 31, 0, 35, [])), (31, (0, 0, 0, 1, 32, [])), (32, (15, 0, 0, 0, 36, [])), (35, (0, 0, 0, 0, 36, [])), (36, (9, 0, 0, 0, 37, [])), (37, (5, 3, 0, 0, 38, [])), (38, (8, 4, 0, 1, 41, [])), (41, (15, 0, 0, 0, 5, [])), (44, (2, 3, 0, 0, 45, [])), (45, (27, 0, 0, 0, 46, []))]
set_option maxRecDepth 100000 in
theorem K_X12_given : ztbok F_X12_given T_X12_given := ztbB_ok (by decide +kernel)
set_option maxRecDepth 100000 in
theorem W_X12_given : zMth yX12_given (.code yX12_given cX12_given 5 (some .int)) 2 := ⟨z_at 1788 (by decide +kernel) (by decide +kernel), z_at 13 (by decide +kernel) (by decide +kernel), ⟨by decide +kernel, by decide +kernel⟩, by decide +kernel⟩
set_option maxRecDepth 100000 in
theorem I_X12_given : Cond.instanceMethod yX12_given ∈ zws := z_at 1787 (by decide +kernel) (by decide +kernel)
set_option maxRecDepth 100000 in
theorem S_X12_given : Cond.selects yX12_given.cls yX12_given yX12_given ∈ zws := z_in (List.mem_append_left _ (List.mem_map.mpr ⟨_, List.mem_of_getElem? (i := 95) rfl, rfl⟩)) rfl
abbrev F_X12_lendable : zF := (12, cX12_lendable, some .int, 6, [], false)
def T_X12_lendable : List (Nat × zI) := [(0, (2, 2, 0, 0, 1, [])), (1, (0, 0, 0, 1, 2, [])), (2, (9, 0, 0, 0, 3, [])), (3, (5, 3, 0, 0, 4, [])), (4, (2, 3, 0, 0, 5, [])), (5, (0, 0, 0, 10, 7, [])), (7, (4, 0, 0, 0, 8, [])), (8, (18, 12, 2, 0, 11, [])), (11, (9, 2, 0, 0, 12, [])), (12, (16, 1, 15, 0, 106, [])), (15, (2, 3, 0, 0, 16, [])), (16, (0, 0, 0, 10, 18, [])), (18, (9, 9, 0, 0, 19, [])), (19, (5, 4, 0, 0, 21, [])), (21, (2, 3, 0, 0, 22, [])), (22, (0, 0, 0, 10, 24, [])), (24, (9, 10, 0, 0, 25, [])), (25, (5, 5, 0, 0, 27, [])), (27, (2, 5, 0, 0, 29, [])), (29, (0, 0, 0, 1, 30, [])), (30, (16, 0, 39, 0, 33, [])), (33, (2, 5, 0, 0, 35, [])), (35, (0, 0, 0, 2, 36, [])), (36, (16, 0, 39, 0, 100, [])), (39, (2, 4, 0, 0, 41, [])), (41, (2, 1, 0, 0, 42, [])), (42, (16, 0, 100, 0, 45, [])), (45, (4, 0, 0, 0, 46, [])), (46, (2, 1, 0, 0, 47, [])), (47, (2, 5, 0, 0, 49, [])), (52, (17, 2, 100, 0, 55, [])), (55, (4, 0, 0, 0, 56, [])), (56, (2, 4, 0, 0, 58, [])), (58, (2, 5, 0, 0, 60, [])), (63, (17, 0, 100, 0, 66, [])), (66, (4, 0, 0, 0, 67, [])), (67, (2, 4, 0, 0, 69, [])), (69, (2, 5, 0, 0, 71, [])), (74, (4, 0, 0, 0, 75, [])), (75, (2, 4, 0, 0, 77, [])), (77, (2, 5, 0, 0, 79, [])), (82, (16, 2, 88, 0, 85, [])), (85, (15, 0, 0, 0, 100, [])), (88, (4, 0, 0, 0, 89, [])), (89, (2, 1, 0, 0, 90, [])), (90, (2, 5, 0, 0, 92, [])), (95, (17, 0, 98, 0, 100, [])), (98, (2, 3, 0, 0, 99, [])), (99, (27, 0, 0, 0, 100, [])), (100, (8, 3, 0, 1, 103, [])), (103, (15, 0, 0, 0, 4, [])), (106, (0, 0, 0, (-1), 107, [])), (107, (27, 0, 0, 0, 108, []))]
set_option maxRecDepth 100000 in
theorem K_X12_lendable : ztbok F_X12_lendable T_X12_lendable := ztbB_ok (by decide +kernel)
set_option maxRecDepth 100000 in
theorem W_X12_lendable : zMth yX12_lendable (.code yX12_lendable cX12_lendable 6 (some .int)) 2 := ⟨z_at 1780 (by decide +kernel) (by decide +kernel), z_at 13 (by decide +kernel) (by decide +kernel), ⟨by decide +kernel, by decide +kernel⟩, by decide +kernel⟩
set_option maxRecDepth 100000 in
theorem I_X12_lendable : Cond.instanceMethod yX12_lendable ∈ zws := z_at 1779 (by decide +kernel) (by decide +kernel)
set_option maxRecDepth 100000 in
theorem S_X12_lendable : Cond.selects yX12_lendable.cls yX12_lendable yX12_lendable ∈ zws := z_in (List.mem_append_left _ (List.mem_map.mpr ⟨_, List.mem_of_getElem? (i := 93) rfl, rfl⟩)) rfl
abbrev F_X12_fewest : zF := (12, cX12_fewest, some .int, 7, [], false)
def T_X12_fewest : List (Nat × zI) := [(0, (4, 0, 0, 0, 1, [])), (1, (0, 0, 0, 0, 2, [])), (2, (19, 12, 0, 0, 5, [])), (5, (4, 0, 0, 0, 6, [])), (6, (2, 1, 0, 0, 7, [])), (7, (17, 1, 25, 0, 10, [])), (10, (2, 2, 0, 0, 11, [])), (11, (0, 0, 0, 23, 13, [])), (13, (16, 2, 25, 0, 16, [])), (16, (2, 1, 0, 0, 17, [])), (17, (2, 2, 0, 0, 18, [])), (18, (16, 2, 25, 0, 21, [])), (21, (0, 0, 0, 1, 22, [])), (22, (15, 0, 0, 0, 26, [])), (25, (0, 0, 0, 0, 26, [])), (26, (0, 0, 0, 1, 27, [])), (30, (17, 0, 33, 0, 35, [])), (33, (0, 0, 0, 0, 34, [])), (34, (27, 0, 0, 0, 35, [])), (35, (4, 0, 0, 0, 36, [])), (36, (2, 1, 0, 0, 37, [])), (37, (19, 12, 59, 0, 40, [])), (40, (4, 0, 0, 0, 41, [])), (41, (2, 2, 0, 0, 42, [])), (42, (19, 12, 60, 0, 45, [])), (45, (0, 0, 0, 0, 46, [])), (46, (5, 3, 0, 0, 47, [])), (47, (0, 0, 0, 0, 48, [])), (48, (5, 4, 0, 0, 50, [])), (50, (2, 4, 0, 0, 52, [])), (52, (4, 0, 0, 0, 53, [])), (53, (18, 12, 2, 0, 56, [])), (56, (16, 1, 59, 0, 94, [])), (59, (2, 3, 0, 0, 60, [])), (60, (4, 0, 0, 0, 61, [])), (61, (2, 4, 0, 0, 63, [])), (63, (0, 0, 0, 0, 64, [])), (67, (17, 0, 77, 0, 70, [])), (70, (0, 0, 0, 1, 71, [])), (71, (2, 4, 0, 0, 73, [])), (73, (9, 6, 0, 0, 74, [])), (74, (15, 0, 0, 0, 78, [])), (77, (0, 0, 0, 0, 78, [])), (78, (9, 4, 0, 0, 79, [])), (79, (5, 3, 0, 0, 80, [])), (80, (4, 0, 0, 0, 81, [])), (81, (18, 12, 57, 0, 84, [])), (84, (2, 4, 0, 0, 86, [])), (86, (0, 0, 0, (-1), 87, [])), (87, (21, 0, 0, 0, 88, [])), (88, (8, 4, 0, 1, 91, [])), (91, (15, 0, 0, 0, 50, [])), (94, (0, 0, 0, 0, 95, [])), (95, (5, 4, 0, 0, 97, [])), (97, (2, 4, 0, 0, 99, [])), (99, (17, 1, 213, 0, 102, [])), (102, (2, 4, 0, 0, 104, [])), (104, (4, 0, 0, 0, 105, [])), (105, (18, 12, 2, 0, 108, [])), (108, (16, 1, 111, 0, 213, [])), (111, (2, 3, 0, 0, 112, [])), (112, (2, 4, 0, 0, 114, [])), (114, (9, 7, 0, 0, 115, [])), (115, (0, 0, 0, 1, 116, [])), (116, (9, 3, 0, 0, 117, [])), (117, (0, 0, 0, 1, 118, [])), (118, (16, 0, 121, 0, 125, [])), (121, (0, 0, 0, 1, 122, [])), (122, (15, 0, 0, 0, 126, [])), (125, (0, 0, 0, 0, 126, [])), (126, (5, 5, 0, 0, 128, [])), (128, (2, 5, 0, 0, 130, [])), (130, (17, 0, 165, 0, 133, [])), (133, (4, 0, 0, 0, 134, [])), (134, (18, 12, 57, 0, 137, [])), (137, (2, 4, 0, 0, 139, [])), (139, (20, 0, 0, 0, 140, [])), (140, (5, 6, 0, 0, 142, [])), (142, (4, 0, 0, 0, 143, [])), (143, (18, 12, 57, 0, 146, [])), (146, (2, 4, 0, 0, 148, [])), (148, (0, 0, 0, (-1), 149, [])), (149, (21, 0, 0, 0, 150, [])), (150, (4, 0, 0, 0, 151, [])), (151, (18, 12, 57, 0, 154, [])), (154, (2, 4, 0, 0, 156, [])), (156, (4, 0, 0, 0, 157, [])), (157, (2, 4, 0, 0, 159, [])), (159, (2, 6, 0, 0, 161, [])), (164, (21, 0, 0, 0, 165, [])), (165, (2, 5, 0, 0, 167, [])), (167, (17, 0, 181, 0, 170, [])), (170, (4, 0, 0, 0, 171, [])), (171, (18, 12, 57, 0, 174, [])), (174, (2, 4, 0, 0, 176, [])), (176, (20, 0, 0, 0, 177, [])), (177, (0, 0, 0, (-1), 178, [])), (178, (16, 0, 187, 0, 181, [])), (181, (8, 4, 0, 1, 184, [])), (184, (15, 0, 0, 0, 97, [])), (187, (8, 4, 0, (-1), 190, [])), (190, (2, 4, 0, 0, 192, [])), (192, (17, 1, 210, 0, 195, [])), (195, (2, 3, 0, 0, 196, [])), (196, (2, 4, 0, 0, 198, [])), (198, (9, 7, 0, 0, 199, [])), (199, (0, 0, 0, 1, 200, [])), (200, (9, 3, 0, 0, 201, [])), (201, (17, 0, 204, 0, 210, [])), (204, (8, 4, 0, (-1), 207, [])), (207, (15, 0, 0, 0, 190, [])), (210, (15, 0, 0, 0, 97, [])), (213, (2, 4, 0, 0, 215, [])), (215, (17, 1, 218, 0, 220, [])), (218, (0, 0, 0, (-1), 219, [])), (219, (27, 0, 0, 0, 220, [])), (220, (4, 0, 0, 0, 221, [])), (221, (0, 0, 0, 1, 222, [])), (222, (19, 12, 56, 0, 225, [])), (225, (4, 0, 0, 0, 226, [])), (226, (4, 0, 0, 0, 227, [])), (227, (18, 12, 57, 0, 230, [])), (230, (4, 0, 0, 0, 231, [])), (231, (18, 12, 58, 0, 234, [])), (237, (2, 3, 0, 0, 238, [])), (241, (27, 0, 0, 0, 242, []))]
set_option maxRecDepth 100000 in
theorem K_X12_fewest : ztbok F_X12_fewest T_X12_fewest := ztbB_ok (by decide +kernel)
set_option maxRecDepth 100000 in
theorem W_X12_fewest : zMth yX12_fewest (.code yX12_fewest cX12_fewest 7 (some .int)) 2 := ⟨z_at 1772 (by decide +kernel) (by decide +kernel), z_at 13 (by decide +kernel) (by decide +kernel), ⟨by decide +kernel, by decide +kernel⟩, by decide +kernel⟩
set_option maxRecDepth 100000 in
theorem I_X12_fewest : Cond.instanceMethod yX12_fewest ∈ zws := z_at 1770 (by decide +kernel) (by decide +kernel)
set_option maxRecDepth 100000 in
theorem S_X12_fewest : Cond.selects yX12_fewest.cls yX12_fewest yX12_fewest ∈ zws := z_at 1771 (by decide +kernel) (by decide +kernel)
abbrev F_X12_lender : zF := (12, cX12_lender, some .int, 2, [], false)
def T_X12_lender : List (Nat × zI) := [(0, (4, 0, 0, 0, 1, [])), (1, (0, 0, 0, 0, 2, [])), (2, (19, 12, 0, 0, 5, [])), (5, (4, 0, 0, 0, 6, [])), (6, (2, 1, 0, 0, 7, [])), (10, (17, 0, 34, 0, 13, [])), (13, (4, 0, 0, 0, 14, [])), (14, (4, 0, 0, 0, 15, [])), (15, (18, 12, 56, 0, 18, [])), (18, (0, 0, 0, 1, 19, [])), (22, (17, 0, 34, 0, 25, [])), (25, (4, 0, 0, 0, 26, [])), (26, (18, 12, 58, 0, 29, [])), (29, (2, 1, 0, 0, 30, [])), (30, (20, 0, 0, 0, 31, [])), (31, (15, 0, 0, 0, 35, [])), (34, (0, 0, 0, 0, 35, [])), (35, (27, 0, 0, 0, 36, []))]
set_option maxRecDepth 100000 in
theorem K_X12_lender : ztbok F_X12_lender T_X12_lender := ztbB_ok (by decide +kernel)
set_option maxRecDepth 100000 in
theorem W_X12_lender : zMth yX12_lender (.code yX12_lender cX12_lender 2 (some .int)) 1 := ⟨z_at 1792 (by decide +kernel) (by decide +kernel), z_at 13 (by decide +kernel) (by decide +kernel), ⟨by decide +kernel, by decide +kernel⟩, by decide +kernel⟩
set_option maxRecDepth 100000 in
theorem I_X12_lender : Cond.instanceMethod yX12_lender ∈ zws := z_at 1790 (by decide +kernel) (by decide +kernel)
set_option maxRecDepth 100000 in
theorem S_X12_lender : Cond.selects yX12_lender.cls yX12_lender yX12_lender ∈ zws := z_at 1791 (by decide +kernel) (by decide +kernel)
abbrev F_X12_apart : zF := (12, cX12_apart, some .int, 4, [], false)
def T_X12_apart : List (Nat × zI) := [(0, (0, 0, 0, 0, 1, [])), (1, (5, 2, 0, 0, 2, [])), (2, (0, 0, 0, 0, 3, [])), (3, (5, 3, 0, 0, 4, [])), (4, (2, 3, 0, 0, 5, [])), (5, (0, 0, 0, 8, 7, [])), (7, (16, 1, 10, 0, 28, [])), (10, (2, 2, 0, 0, 11, [])), (11, (2, 0, 0, 0, 12, [])), (12, (2, 3, 0, 0, 13, [])), (13, (9, 7, 0, 0, 14, [])), (14, (2, 1, 0, 0, 15, [])), (15, (2, 3, 0, 0, 16, [])), (16, (9, 7, 0, 0, 17, [])), (17, (9, 5, 0, 0, 18, [])), (18, (0, 0, 0, 1, 19, [])), (19, (9, 3, 0, 0, 20, [])), (20, (9, 0, 0, 0, 21, [])), (21, (5, 2, 0, 0, 22, [])), (22, (8, 3, 0, 1, 25, [])), (25, (15, 0, 0, 0, 4, [])), (28, (2, 2, 0, 0, 29, [])), (29, (27, 0, 0, 0, 30, []))]
set_option maxRecDepth 100000 in
theorem K_X12_apart : ztbok F_X12_apart T_X12_apart := ztbB_ok (by decide +kernel)
set_option maxRecDepth 100000 in
theorem W_X12_apart : zMth yX12_apart (.code yX12_apart cX12_apart 4 (some .int)) 2 := ⟨z_at 1807 (by decide +kernel) (by decide +kernel), z_at 13 (by decide +kernel) (by decide +kernel), ⟨by decide +kernel, by decide +kernel⟩, by decide +kernel⟩
set_option maxRecDepth 100000 in
theorem I_X12_apart : Cond.static yX12_apart ∈ zws := z_at 1806 (by decide +kernel) (by decide +kernel)
abbrev F_X12_spells : zF := (12, cX12_spells, none, 5, [], false)
def T_X12_spells : List (Nat × zI) := [(0, (4, 0, 0, 0, 1, [])), (1, (0, 0, 0, 0, 2, [])), (2, (19, 12, 62, 0, 5, [])), (5, (0, 0, 0, 0, 6, [])), (6, (5, 2, 0, 0, 7, [])), (7, (2, 2, 0, 0, 8, [])), (8, (0, 0, 0, 256, 11, [])), (11, (16, 1, 14, 0, 92, [])), (14, (0, 0, 0, 1, 15, [])), (15, (5, 3, 0, 0, 16, [])), (16, (0, 0, 0, 0, 17, [])), (17, (5, 4, 0, 0, 19, [])), (19, (2, 4, 0, 0, 21, [])), (21, (4, 0, 0, 0, 22, [])), (22, (18, 12, 62, 0, 25, [])), (25, (16, 1, 28, 0, 59, [])), (28, (2, 3, 0, 0, 29, [])), (29, (17, 0, 59, 0, 32, [])), (32, (4, 0, 0, 0, 33, [])), (33, (18, 12, 61, 0, 36, [])), (36, (2, 4, 0, 0, 38, [])), (38, (20, 0, 0, 0, 39, [])), (39, (2, 2, 0, 0, 40, [])), (43, (2, 1, 0, 0, 44, [])), (44, (16, 1, 51, 0, 47, [])), (47, (0, 0, 0, 1, 48, [])), (48, (15, 0, 0, 0, 52, [])), (51, (0, 0, 0, 0, 52, [])), (52, (5, 3, 0, 0, 53, [])), (53, (8, 4, 0, 1, 56, [])), (56, (15, 0, 0, 0, 19, [])), (59, (2, 3, 0, 0, 60, [])), (60, (17, 0, 63, 0, 66, [])), (63, (15, 0, 0, 0, 86, [])), (66, (4, 0, 0, 0, 67, [])), (67, (18, 12, 61, 0, 70, [])), (70, (4, 0, 0, 0, 71, [])), (71, (18, 12, 62, 0, 74, [])), (74, (2, 2, 0, 0, 75, [])), (75, (21, 0, 0, 0, 76, [])), (76, (4, 0, 0, 0, 77, [])), (77, (12, 0, 0, 0, 78, [])), (78, (18, 12, 62, 0, 81, [])), (81, (0, 0, 0, 1, 82, [])), (82, (9, 0, 0, 0, 83, [])), (83, (19, 12, 62, 0, 86, [])), (86, (8, 2, 0, 1, 89, [])), (89, (15, 0, 0, 0, 7, [])), (92, (29, 0, 0, 0, 93, []))]
set_option maxRecDepth 100000 in
theorem K_X12_spells : ztbok F_X12_spells T_X12_spells := ztbB_ok (by decide +kernel)
set_option maxRecDepth 100000 in
theorem W_X12_spells : zMth yX12_spells (.code yX12_spells cX12_spells 5 (none)) 1 := ⟨z_at 1804 (by decide +kernel) (by decide +kernel), z_at 13 (by decide +kernel) (by decide +kernel), ⟨by decide +kernel, by decide +kernel⟩, by decide +kernel⟩
set_option maxRecDepth 100000 in
theorem I_X12_spells : Cond.instanceMethod yX12_spells ∈ zws := z_at 1803 (by decide +kernel) (by decide +kernel)
set_option maxRecDepth 100000 in
theorem S_X12_spells : Cond.selects yX12_spells.cls yX12_spells yX12_spells ∈ zws := z_in (List.mem_append_left _ (List.mem_map.mpr ⟨_, List.mem_of_getElem? (i := 97) rfl, rfl⟩)) rfl
abbrev F_X12_isCode : zF := (12, cX12_isCode, some .boolean, 3, [], false)
def T_X12_isCode : List (Nat × zI) := [(0, (4, 0, 0, 0, 1, [])), (1, (2, 1, 0, 0, 2, [])), (2, (0, 0, 0, 1, 3, [])), (3, (0, 0, 0, 40, 5, [])), (8, (17, 0, 24, 0, 11, [])), (11, (2, 2, 0, 0, 12, [])), (12, (0, 0, 0, 1, 13, [])), (13, (0, 0, 0, 3, 14, [])), (17, (17, 0, 24, 0, 20, [])), (20, (0, 0, 0, 1, 21, [])), (21, (15, 0, 0, 0, 25, [])), (24, (0, 0, 0, 0, 25, [])), (25, (0, 0, 0, 1, 26, [])), (29, (27, 0, 0, 0, 30, []))]
set_option maxRecDepth 100000 in
theorem K_X12_isCode : ztbok F_X12_isCode T_X12_isCode := ztbB_ok (by decide +kernel)
set_option maxRecDepth 100000 in
theorem W_X12_isCode : zMth yX12_isCode (.code yX12_isCode cX12_isCode 3 (some .boolean)) 2 := ⟨z_at 1800 (by decide +kernel) (by decide +kernel), z_at 13 (by decide +kernel) (by decide +kernel), ⟨by decide +kernel, by decide +kernel⟩, by decide +kernel⟩
set_option maxRecDepth 100000 in
theorem I_X12_isCode : Cond.instanceMethod yX12_isCode ∈ zws := z_at 1799 (by decide +kernel) (by decide +kernel)
set_option maxRecDepth 100000 in
theorem S_X12_isCode : Cond.selects yX12_isCode.cls yX12_isCode yX12_isCode ∈ zws := z_in (List.mem_append_left _ (List.mem_map.mpr ⟨_, List.mem_of_getElem? (i := 96) rfl, rfl⟩)) rfl
abbrev F_X12_kinds : zF := (12, cX12_kinds, some .int, 4, [], false)
def T_X12_kinds : List (Nat × zI) := [(0, (4, 0, 0, 0, 1, [])), (1, (0, 0, 0, 0, 2, [])), (2, (19, 12, 0, 0, 5, [])), (5, (4, 0, 0, 0, 6, [])), (6, (2, 1, 0, 0, 7, [])), (7, (2, 2, 0, 0, 8, [])), (11, (17, 0, 14, 0, 16, [])), (14, (0, 0, 0, 0, 15, [])), (15, (27, 0, 0, 0, 16, [])), (16, (4, 0, 0, 0, 17, [])), (17, (2, 2, 0, 0, 18, [])), (21, (4, 0, 0, 0, 22, [])), (22, (18, 12, 62, 0, 25, [])), (25, (2, 1, 0, 0, 26, [])), (26, (16, 1, 29, 0, 31, [])), (29, (0, 0, 0, (-1), 30, [])), (30, (27, 0, 0, 0, 31, [])), (31, (0, 0, 0, 0, 32, [])), (32, (5, 3, 0, 0, 33, [])), (33, (4, 0, 0, 0, 34, [])), (34, (18, 12, 61, 0, 37, [])), (37, (2, 1, 0, 0, 38, [])), (38, (0, 0, 0, 1, 39, [])), (39, (9, 1, 0, 0, 40, [])), (40, (20, 0, 0, 0, 41, [])), (41, (0, 0, 0, 1, 42, [])), (42, (2, 3, 0, 0, 43, [])), (43, (9, 6, 0, 0, 44, [])), (44, (16, 1, 53, 0, 47, [])), (47, (8, 3, 0, 1, 50, [])), (50, (15, 0, 0, 0, 33, [])), (53, (2, 3, 0, 0, 54, [])), (54, (27, 0, 0, 0, 55, []))]
set_option maxRecDepth 100000 in
theorem K_X12_kinds : ztbok F_X12_kinds T_X12_kinds := ztbB_ok (by decide +kernel)
set_option maxRecDepth 100000 in
theorem W_X12_kinds : zMth yX12_kinds (.code yX12_kinds cX12_kinds 4 (some .int)) 2 := ⟨z_at 1796 (by decide +kernel) (by decide +kernel), z_at 13 (by decide +kernel) (by decide +kernel), ⟨by decide +kernel, by decide +kernel⟩, by decide +kernel⟩
set_option maxRecDepth 100000 in
theorem I_X12_kinds : Cond.instanceMethod yX12_kinds ∈ zws := z_at 1794 (by decide +kernel) (by decide +kernel)
set_option maxRecDepth 100000 in
theorem S_X12_kinds : Cond.selects yX12_kinds.cls yX12_kinds yX12_kinds ∈ zws := z_at 1795 (by decide +kernel) (by decide +kernel)
abbrev F_X12_word : zF := (12, cX12_word, some .int, 3, [], false)
def T_X12_word : List (Nat × zI) := [(0, (4, 0, 0, 0, 1, [])), (1, (0, 0, 0, 0, 2, [])), (2, (19, 12, 0, 0, 5, [])), (5, (4, 0, 0, 0, 6, [])), (6, (2, 1, 0, 0, 7, [])), (7, (0, 0, 0, 0, 8, [])), (8, (0, 0, 0, 39, 10, [])), (13, (0, 0, 0, 1, 14, [])), (17, (17, 0, 34, 0, 20, [])), (20, (4, 0, 0, 0, 21, [])), (21, (2, 2, 0, 0, 22, [])), (22, (0, 0, 0, 1, 23, [])), (23, (0, 0, 0, 3, 24, [])), (27, (0, 0, 0, 2, 28, [])), (31, (17, 0, 34, 0, 36, [])), (34, (0, 0, 0, 0, 35, [])), (35, (27, 0, 0, 0, 36, [])), (36, (4, 0, 0, 0, 37, [])), (37, (2, 2, 0, 0, 38, [])), (41, (2, 1, 0, 0, 42, [])), (42, (4, 0, 0, 0, 43, [])), (43, (18, 12, 62, 0, 46, [])), (46, (16, 1, 49, 0, 58, [])), (49, (4, 0, 0, 0, 50, [])), (50, (18, 12, 61, 0, 53, [])), (53, (2, 1, 0, 0, 54, [])), (54, (20, 0, 0, 0, 55, [])), (55, (15, 0, 0, 0, 59, [])), (58, (0, 0, 0, (-1), 59, [])), (59, (27, 0, 0, 0, 60, []))]
set_option maxRecDepth 100000 in
theorem K_X12_word : ztbok F_X12_word T_X12_word := ztbB_ok (by decide +kernel)
set_option maxRecDepth 100000 in
theorem W_X12_word : zMth yX12_word (.code yX12_word cX12_word 3 (some .int)) 2 := ⟨z_at 1811 (by decide +kernel) (by decide +kernel), z_at 13 (by decide +kernel) (by decide +kernel), ⟨by decide +kernel, by decide +kernel⟩, by decide +kernel⟩
set_option maxRecDepth 100000 in
theorem I_X12_word : Cond.instanceMethod yX12_word ∈ zws := z_at 1809 (by decide +kernel) (by decide +kernel)
set_option maxRecDepth 100000 in
theorem S_X12_word : Cond.selects yX12_word.cls yX12_word yX12_word ∈ zws := z_at 1810 (by decide +kernel) (by decide +kernel)
abbrev F_X12_mend : zF := (12, cX12_mend, some .int, 6, [], false)
def T_X12_mend : List (Nat × zI) := [(0, (4, 0, 0, 0, 1, [])), (1, (0, 0, 0, 0, 2, [])), (2, (19, 12, 0, 0, 5, [])), (5, (4, 0, 0, 0, 6, [])), (6, (2, 2, 0, 0, 7, [])), (7, (2, 3, 0, 0, 8, [])), (11, (17, 0, 30, 0, 14, [])), (14, (4, 0, 0, 0, 15, [])), (15, (2, 1, 0, 0, 16, [])), (16, (0, 0, 0, 0, 17, [])), (17, (0, 0, 0, 255, 20, [])), (23, (0, 0, 0, 1, 24, [])), (27, (17, 0, 30, 0, 32, [])), (30, (0, 0, 0, 0, 31, [])), (31, (27, 0, 0, 0, 32, [])), (32, (4, 0, 0, 0, 33, [])), (33, (2, 3, 0, 0, 34, [])), (37, (4, 0, 0, 0, 38, [])), (38, (2, 2, 0, 0, 39, [])), (39, (4, 0, 0, 0, 40, [])), (40, (18, 12, 62, 0, 43, [])), (43, (16, 2, 50, 0, 46, [])), (46, (0, 0, 0, 1, 47, [])), (47, (15, 0, 0, 0, 51, [])), (50, (0, 0, 0, 0, 51, [])), (51, (0, 0, 0, 1, 52, [])), (55, (17, 0, 58, 0, 60, [])), (58, (0, 0, 0, 0, 59, [])), (59, (27, 0, 0, 0, 60, [])), (60, (0, 0, 0, 0, 61, [])), (61, (5, 4, 0, 0, 63, [])), (63, (0, 0, 0, 1, 64, [])), (64, (5, 5, 0, 0, 66, [])), (66, (2, 5, 0, 0, 68, [])), (68, (2, 2, 0, 0, 69, [])), (69, (16, 1, 72, 0, 107, [])), (72, (4, 0, 0, 0, 73, [])), (73, (18, 12, 61, 0, 76, [])), (76, (2, 5, 0, 0, 78, [])), (78, (20, 0, 0, 0, 79, [])), (79, (2, 1, 0, 0, 80, [])), (83, (4, 0, 0, 0, 84, [])), (84, (18, 12, 61, 0, 87, [])), (87, (2, 4, 0, 0, 89, [])), (89, (20, 0, 0, 0, 90, [])), (90, (2, 1, 0, 0, 91, [])), (94, (16, 1, 97, 0, 101, [])), (97, (2, 5, 0, 0, 99, [])), (99, (5, 4, 0, 0, 101, [])), (101, (8, 5, 0, 1, 104, [])), (104, (15, 0, 0, 0, 66, [])), (107, (0, 0, 0, 2, 108, [])), (108, (4, 0, 0, 0, 109, [])), (109, (18, 12, 61, 0, 112, [])), (112, (2, 4, 0, 0, 114, [])), (114, (20, 0, 0, 0, 115, [])), (115, (2, 1, 0, 0, 116, [])), (119, (9, 2, 0, 0, 120, [])), (120, (2, 3, 0, 0, 121, [])), (121, (0, 0, 0, 1, 122, [])), (122, (9, 1, 0, 0, 123, [])), (123, (16, 2, 131, 0, 126, [])), (126, (2, 4, 0, 0, 128, [])), (128, (15, 0, 0, 0, 132, [])), (131, (0, 0, 0, (-1), 132, [])), (132, (27, 0, 0, 0, 133, []))]
set_option maxRecDepth 100000 in
theorem K_X12_mend : ztbok F_X12_mend T_X12_mend := ztbB_ok (by decide +kernel)
set_option maxRecDepth 100000 in
theorem W_X12_mend : zMth yX12_mend (.code yX12_mend cX12_mend 6 (some .int)) 3 := ⟨z_at 1815 (by decide +kernel) (by decide +kernel), z_at 13 (by decide +kernel) (by decide +kernel), ⟨by decide +kernel, by decide +kernel⟩, by decide +kernel⟩
set_option maxRecDepth 100000 in
theorem I_X12_mend : Cond.instanceMethod yX12_mend ∈ zws := z_at 1813 (by decide +kernel) (by decide +kernel)
set_option maxRecDepth 100000 in
theorem S_X12_mend : Cond.selects yX12_mend.cls yX12_mend yX12_mend ∈ zws := z_at 1814 (by decide +kernel) (by decide +kernel)
abbrev F_X12_fire : zF := (12, cX12_fire, some .long, 13, [], false)
def T_X12_fire : List (Nat × zI) := [(0, (4, 0, 0, 0, 1, [])), (1, (0, 0, 0, 0, 2, [])), (2, (19, 12, 0, 0, 5, [])), (5, (4, 0, 0, 0, 6, [])), (6, (2, 1, 0, 0, 7, [])), (10, (17, 0, 54, 0, 13, [])), (13, (4, 0, 0, 0, 14, [])), (14, (2, 2, 0, 0, 15, [])), (18, (17, 0, 54, 0, 21, [])), (21, (4, 0, 0, 0, 22, [])), (22, (2, 3, 0, 0, 23, [])), (26, (17, 0, 54, 0, 29, [])), (29, (4, 0, 0, 0, 30, [])), (30, (2, 5, 0, 0, 32, [])), (35, (17, 0, 54, 0, 38, [])), (38, (4, 0, 0, 0, 39, [])), (39, (2, 4, 0, 0, 41, [])), (41, (0, 0, 0, 0, 42, [])), (42, (0, 0, 0, 10, 44, [])), (47, (0, 0, 0, 2, 48, [])), (51, (17, 0, 54, 0, 56, [])), (54, (1, 0, 0, 0, 55, [])), (55, (28, 0, 0, 0, 56, [])), (56, (4, 0, 0, 0, 57, [])), (57, (18, 12, 38, 0, 60, [])), (60, (0, 0, 0, 24, 62, [])), (62, (2, 1, 0, 0, 63, [])), (63, (9, 2, 0, 0, 64, [])), (64, (2, 3, 0, 0, 65, [])), (65, (9, 0, 0, 0, 66, [])), (66, (20, 0, 0, 0, 67, [])), (67, (0, 0, 0, 1, 68, [])), (68, (16, 0, 73, 0, 71, [])), (71, (1, 1, 0, 0, 72, [])), (72, (28, 0, 0, 0, 73, [])), (73, (4, 0, 0, 0, 74, [])), (74, (18, 12, 7, 0, 77, [])), (77, (2, 1, 0, 0, 78, [])), (78, (20, 0, 0, 0, 79, [])), (79, (2, 2, 0, 0, 80, [])), (83, (5, 6, 0, 0, 85, [])), (85, (2, 6, 0, 0, 87, [])), (87, (0, 0, 0, 2, 88, [])), (88, (16, 1, 91, 0, 96, [])), (91, (2, 6, 0, 0, 93, [])), (93, (15, 0, 0, 0, 97, [])), (96, (0, 0, 0, 2, 97, [])), (97, (5, 7, 0, 0, 99, [])), (99, (0, 0, 0, 1, 100, [])), (100, (5, 8, 0, 0, 102, [])), (102, (0, 0, 0, 1, 103, [])), (103, (5, 9, 0, 0, 105, [])), (105, (0, 0, 0, 0, 106, [])), (106, (5, 10, 0, 0, 108, [])), (108, (2, 10, 0, 0, 110, [])), (110, (2, 7, 0, 0, 112, [])), (112, (16, 1, 115, 0, 138, [])), (115, (2, 8, 0, 0, 117, [])), (117, (0, 0, 0, 10, 119, [])), (119, (2, 4, 0, 0, 121, [])), (121, (9, 1, 0, 0, 122, [])), (122, (9, 2, 0, 0, 123, [])), (123, (5, 8, 0, 0, 125, [])), (125, (2, 9, 0, 0, 127, [])), (127, (0, 0, 0, 10, 129, [])), (129, (9, 2, 0, 0, 130, [])), (130, (5, 9, 0, 0, 132, [])), (132, (8, 10, 0, 1, 135, [])), (135, (15, 0, 0, 0, 108, [])), (138, (2, 9, 0, 0, 140, [])), (140, (5, 10, 0, 0, 142, [])), (142, (2, 9, 0, 0, 144, [])), (144, (2, 8, 0, 0, 146, [])), (146, (9, 1, 0, 0, 147, [])), (147, (5, 11, 0, 0, 149, [])), (149, (2, 11, 0, 0, 151, [])), (151, (17, 0, 172, 0, 154, [])), (154, (2, 10, 0, 0, 156, [])), (156, (2, 11, 0, 0, 158, [])), (158, (9, 10, 0, 0, 159, [])), (159, (5, 12, 0, 0, 161, [])), (161, (2, 11, 0, 0, 163, [])), (163, (5, 10, 0, 0, 165, [])), (165, (2, 12, 0, 0, 167, [])), (167, (5, 11, 0, 0, 169, [])), (169, (15, 0, 0, 0, 149, [])), (172, (2, 5, 0, 0, 174, [])), (174, (17, 0, 177, 0, 189, [])), (177, (2, 9, 0, 0, 179, [])), (179, (2, 8, 0, 0, 181, [])), (181, (9, 1, 0, 0, 182, [])), (182, (2, 10, 0, 0, 184, [])), (184, (9, 9, 0, 0, 185, [])), (185, (10, 0, 0, 0, 186, [])), (186, (15, 0, 0, 0, 195, [])), (189, (2, 9, 0, 0, 191, [])), (191, (2, 10, 0, 0, 193, [])), (193, (9, 9, 0, 0, 194, [])), (194, (10, 0, 0, 0, 195, [])), (195, (28, 0, 0, 0, 196, []))]
set_option maxRecDepth 100000 in
theorem K_X12_fire : ztbok F_X12_fire T_X12_fire := ztbB_ok (by decide +kernel)
set_option maxRecDepth 100000 in
theorem W_X12_fire : zMth yX12_fire (.code yX12_fire cX12_fire 13 (some .long)) 5 := ⟨z_at 1819 (by decide +kernel) (by decide +kernel), z_at 13 (by decide +kernel) (by decide +kernel), ⟨by decide +kernel, by decide +kernel⟩, by decide +kernel⟩
set_option maxRecDepth 100000 in
theorem I_X12_fire : Cond.instanceMethod yX12_fire ∈ zws := z_at 1817 (by decide +kernel) (by decide +kernel)
set_option maxRecDepth 100000 in
theorem S_X12_fire : Cond.selects yX12_fire.cls yX12_fire yX12_fire ∈ zws := z_at 1818 (by decide +kernel) (by decide +kernel)
abbrev F_X12_image : zF := (12, cX12_image, none, 1, [], false)
def T_X12_image : List (Nat × zI) := [(0, (4, 0, 0, 0, 1, [])), (1, (0, 0, 0, 0, 2, [])), (2, (19, 12, 0, 0, 5, [])), (5, (4, 0, 0, 0, 6, [])), (6, (0, 0, 0, 1, 7, [])), (7, (19, 12, 63, 0, 10, [])), (10, (4, 0, 0, 0, 11, [])), (11, (18, 12, 64, 0, 14, [])), (14, (0, 0, 0, 0, 15, [])), (15, (4, 0, 0, 0, 16, [])), (16, (18, 12, 36, 0, 19, [])), (19, (21, 0, 0, 0, 20, [])), (20, (4, 0, 0, 0, 21, [])), (21, (18, 12, 64, 0, 24, [])), (24, (0, 0, 0, 1, 25, [])), (25, (4, 0, 0, 0, 26, [])), (26, (18, 12, 40, 0, 29, [])), (29, (21, 0, 0, 0, 30, [])), (30, (4, 0, 0, 0, 31, [])), (31, (18, 12, 64, 0, 34, [])), (34, (0, 0, 0, 2, 35, [])), (35, (4, 0, 0, 0, 36, [])), (36, (18, 12, 41, 0, 39, [])), (39, (21, 0, 0, 0, 40, [])), (40, (4, 0, 0, 0, 41, [])), (41, (4, 0, 0, 0, 42, [])), (42, (18, 12, 37, 0, 45, [])), (45, (4, 0, 0, 0, 46, [])), (46, (18, 12, 65, 0, 49, [])), (52, (4, 0, 0, 0, 53, [])), (53, (4, 0, 0, 0, 54, [])), (54, (18, 12, 42, 0, 57, [])), (57, (4, 0, 0, 0, 58, [])), (58, (18, 12, 66, 0, 61, [])), (64, (4, 0, 0, 0, 65, [])), (65, (4, 0, 0, 0, 66, [])), (66, (18, 12, 38, 0, 69, [])), (69, (4, 0, 0, 0, 70, [])), (70, (18, 12, 67, 0, 73, [])), (76, (4, 0, 0, 0, 77, [])), (77, (4, 0, 0, 0, 78, [])), (78, (18, 12, 39, 0, 81, [])), (81, (4, 0, 0, 0, 82, [])), (82, (18, 12, 68, 0, 85, [])), (88, (29, 0, 0, 0, 89, []))]
set_option maxRecDepth 100000 in
theorem K_X12_image : ztbok F_X12_image T_X12_image := ztbB_ok (by decide +kernel)
set_option maxRecDepth 100000 in
theorem W_X12_image : zMth yX12_image (.code yX12_image cX12_image 1 (none)) 0 := ⟨z_at 1826 (by decide +kernel) (by decide +kernel), z_at 13 (by decide +kernel) (by decide +kernel), ⟨by decide +kernel, by decide +kernel⟩, by decide +kernel⟩
set_option maxRecDepth 100000 in
theorem I_X12_image : Cond.instanceMethod yX12_image ∈ zws := z_at 1824 (by decide +kernel) (by decide +kernel)
set_option maxRecDepth 100000 in
theorem S_X12_image : Cond.selects yX12_image.cls yX12_image yX12_image ∈ zws := z_at 1825 (by decide +kernel) (by decide +kernel)
abbrev F_X12_restore : zF := (12, cX12_restore, some .boolean, 1, [], false)
def T_X12_restore : List (Nat × zI) := [(0, (4, 0, 0, 0, 1, [])), (1, (0, 0, 0, 0, 2, [])), (2, (19, 12, 0, 0, 5, [])), (5, (4, 0, 0, 0, 6, [])), (6, (18, 12, 63, 0, 9, [])), (9, (17, 0, 12, 0, 14, [])), (12, (0, 0, 0, 0, 13, [])), (13, (27, 0, 0, 0, 14, [])), (14, (4, 0, 0, 0, 15, [])), (15, (4, 0, 0, 0, 16, [])), (16, (18, 12, 64, 0, 19, [])), (19, (0, 0, 0, 0, 20, [])), (20, (20, 0, 0, 0, 21, [])), (21, (19, 12, 36, 0, 24, [])), (24, (4, 0, 0, 0, 25, [])), (25, (4, 0, 0, 0, 26, [])), (26, (18, 12, 64, 0, 29, [])), (29, (0, 0, 0, 1, 30, [])), (30, (20, 0, 0, 0, 31, [])), (31, (19, 12, 40, 0, 34, [])), (34, (4, 0, 0, 0, 35, [])), (35, (4, 0, 0, 0, 36, [])), (36, (18, 12, 64, 0, 39, [])), (39, (0, 0, 0, 2, 40, [])), (40, (20, 0, 0, 0, 41, [])), (41, (19, 12, 41, 0, 44, [])), (44, (4, 0, 0, 0, 45, [])), (45, (4, 0, 0, 0, 46, [])), (46, (18, 12, 65, 0, 49, [])), (49, (4, 0, 0, 0, 50, [])), (50, (18, 12, 37, 0, 53, [])), (56, (4, 0, 0, 0, 57, [])), (57, (4, 0, 0, 0, 58, [])), (58, (18, 12, 66, 0, 61, [])), (61, (4, 0, 0, 0, 62, [])), (62, (18, 12, 42, 0, 65, [])), (68, (4, 0, 0, 0, 69, [])), (69, (4, 0, 0, 0, 70, [])), (70, (18, 12, 67, 0, 73, [])), (73, (4, 0, 0, 0, 74, [])), (74, (18, 12, 38, 0, 77, [])), (80, (4, 0, 0, 0, 81, [])), (81, (4, 0, 0, 0, 82, [])), (82, (18, 12, 68, 0, 85, [])), (85, (4, 0, 0, 0, 86, [])), (86, (18, 12, 39, 0, 89, [])), (92, (0, 0, 0, 1, 93, [])), (93, (27, 0, 0, 0, 94, []))]
set_option maxRecDepth 100000 in
theorem K_X12_restore : ztbok F_X12_restore T_X12_restore := ztbB_ok (by decide +kernel)
set_option maxRecDepth 100000 in
theorem W_X12_restore : zMth yX12_restore (.code yX12_restore cX12_restore 1 (some .boolean)) 0 := ⟨z_at 1830 (by decide +kernel) (by decide +kernel), z_at 13 (by decide +kernel) (by decide +kernel), ⟨by decide +kernel, by decide +kernel⟩, by decide +kernel⟩
set_option maxRecDepth 100000 in
theorem I_X12_restore : Cond.instanceMethod yX12_restore ∈ zws := z_at 1828 (by decide +kernel) (by decide +kernel)
set_option maxRecDepth 100000 in
theorem S_X12_restore : Cond.selects yX12_restore.cls yX12_restore yX12_restore ∈ zws := z_at 1829 (by decide +kernel) (by decide +kernel)
end
section
abbrev F_L_house : zF := (13, cL_house, some .int, 4, [(0, 9, 12, 13)], false)
def T_L_house : List (Nat × zI) := [(0, (4, 2, 0, 0, 1, [])), (1, (0, 0, 0, 0, 2, [])), (2, (4, 0, 0, 0, 3, [])), (3, (2, 1, 0, 0, 4, [])), (7, (10, 0, 0, 0, 8, [])), (8, (25, 0, 0, 0, 9, [])), (9, (15, 0, 0, 0, 15, [])), (12, (7, 3, 0, 0, 13, [])), (13, (0, 0, 0, 1, 14, [])), (14, (27, 0, 0, 0, 15, [])), (15, (0, 0, 0, 0, 16, [])), (16, (27, 0, 0, 0, 17, []))]
set_option maxRecDepth 100000 in
theorem K_L_house : ztbok F_L_house T_L_house := ztbB_ok (by decide +kernel)
set_option maxRecDepth 100000 in
theorem W_L_house : zMth yL_house (.codeWith yL_house cL_house 4 (some .int) [(0, 9, 12, 13)]) 3 := ⟨z_at 541 (by decide +kernel) (by decide +kernel), z_at 0 (by decide +kernel) (by decide +kernel), ⟨by decide +kernel, by decide +kernel⟩, by decide +kernel⟩
set_option maxRecDepth 100000 in
theorem I_L_house : Cond.static yL_house ∈ zws := z_at 540 (by decide +kernel) (by decide +kernel)
abbrev F_L_count : zF := (13, cL_count, some .int, 4, [(0, 9, 12, 18)], false)
def T_L_count : List (Nat × zI) := [(0, (4, 2, 0, 0, 1, [])), (1, (0, 0, 0, 0, 2, [])), (2, (4, 0, 0, 0, 3, [])), (3, (2, 1, 0, 0, 4, [])), (7, (10, 0, 0, 0, 8, [])), (8, (25, 0, 0, 0, 9, [])), (9, (15, 0, 0, 0, 15, [])), (12, (7, 3, 0, 0, 13, [])), (13, (0, 0, 0, 1, 14, [])), (14, (27, 0, 0, 0, 15, [])), (15, (0, 0, 0, 0, 16, [])), (16, (27, 0, 0, 0, 17, []))]
set_option maxRecDepth 100000 in
theorem K_L_count : ztbok F_L_count T_L_count := ztbB_ok (by decide +kernel)
set_option maxRecDepth 100000 in
theorem W_L_count : zMth yL_count (.codeWith yL_count cL_count 4 (some .int) [(0, 9, 12, 18)]) 3 := ⟨z_at 793 (by decide +kernel) (by decide +kernel), z_at 0 (by decide +kernel) (by decide +kernel), ⟨by decide +kernel, by decide +kernel⟩, by decide +kernel⟩
set_option maxRecDepth 100000 in
theorem I_L_count : Cond.static yL_count ∈ zws := z_at 792 (by decide +kernel) (by decide +kernel)
abbrev F_L_room : zF := (13, cL_room, some .int, 5, [(0, 10, 13, 18)], false)
def T_L_room : List (Nat × zI) := [(0, (4, 3, 0, 0, 1, [])), (1, (0, 0, 0, 0, 2, [])), (2, (4, 0, 0, 0, 3, [])), (3, (2, 1, 0, 0, 4, [])), (4, (2, 2, 0, 0, 5, [])), (8, (10, 0, 0, 0, 9, [])), (9, (25, 0, 0, 0, 10, [])), (10, (15, 0, 0, 0, 17, [])), (13, (7, 4, 0, 0, 15, [])), (15, (0, 0, 0, 1, 16, [])), (16, (27, 0, 0, 0, 17, [])), (17, (0, 0, 0, 0, 18, [])), (18, (27, 0, 0, 0, 19, []))]
set_option maxRecDepth 100000 in
theorem K_L_room : ztbok F_L_room T_L_room := ztbB_ok (by decide +kernel)
set_option maxRecDepth 100000 in
theorem W_L_room : zMth yL_room (.codeWith yL_room cL_room 5 (some .int) [(0, 10, 13, 18)]) 4 := ⟨z_at 817 (by decide +kernel) (by decide +kernel), z_at 0 (by decide +kernel) (by decide +kernel), ⟨by decide +kernel, by decide +kernel⟩, by decide +kernel⟩
set_option maxRecDepth 100000 in
theorem I_L_room : Cond.static yL_room ∈ zws := z_at 816 (by decide +kernel) (by decide +kernel)
abbrev F_L_lodger : zF := (13, cL_lodger, some .int, 5, [(0, 10, 13, 18)], false)
def T_L_lodger : List (Nat × zI) := [(0, (4, 3, 0, 0, 1, [])), (1, (0, 0, 0, 0, 2, [])), (2, (4, 0, 0, 0, 3, [])), (3, (2, 1, 0, 0, 4, [])), (4, (2, 2, 0, 0, 5, [])), (8, (10, 0, 0, 0, 9, [])), (9, (25, 0, 0, 0, 10, [])), (10, (15, 0, 0, 0, 17, [])), (13, (7, 4, 0, 0, 15, [])), (15, (0, 0, 0, 1, 16, [])), (16, (27, 0, 0, 0, 17, [])), (17, (0, 0, 0, 0, 18, [])), (18, (27, 0, 0, 0, 19, []))]
set_option maxRecDepth 100000 in
theorem K_L_lodger : ztbok F_L_lodger T_L_lodger := ztbB_ok (by decide +kernel)
set_option maxRecDepth 100000 in
theorem W_L_lodger : zMth yL_lodger (.codeWith yL_lodger cL_lodger 5 (some .int) [(0, 10, 13, 18)]) 4 := ⟨z_at 833 (by decide +kernel) (by decide +kernel), z_at 0 (by decide +kernel) (by decide +kernel), ⟨by decide +kernel, by decide +kernel⟩, by decide +kernel⟩
set_option maxRecDepth 100000 in
theorem I_L_lodger : Cond.static yL_lodger ∈ zws := z_at 832 (by decide +kernel) (by decide +kernel)
abbrev F_L_may : zF := (13, cL_may, some .int, 6, [(0, 12, 15, 18)], false)
def T_L_may : List (Nat × zI) := [(0, (4, 4, 0, 0, 2, [])), (2, (0, 0, 0, 0, 3, [])), (3, (4, 0, 0, 0, 4, [])), (4, (2, 1, 0, 0, 5, [])), (5, (2, 2, 0, 0, 6, [])), (6, (2, 3, 0, 0, 7, [])), (10, (10, 0, 0, 0, 11, [])), (11, (25, 0, 0, 0, 12, [])), (12, (15, 0, 0, 0, 19, [])), (15, (7, 5, 0, 0, 17, [])), (17, (0, 0, 0, 1, 18, [])), (18, (27, 0, 0, 0, 19, [])), (19, (0, 0, 0, 0, 20, [])), (20, (27, 0, 0, 0, 21, []))]
set_option maxRecDepth 100000 in
theorem K_L_may : ztbok F_L_may T_L_may := ztbB_ok (by decide +kernel)
set_option maxRecDepth 100000 in
theorem W_L_may : zMth yL_may (.codeWith yL_may cL_may 6 (some .int) [(0, 12, 15, 18)]) 5 := ⟨z_at 849 (by decide +kernel) (by decide +kernel), z_at 0 (by decide +kernel) (by decide +kernel), ⟨by decide +kernel, by decide +kernel⟩, by decide +kernel⟩
set_option maxRecDepth 100000 in
theorem I_L_may : Cond.static yL_may ∈ zws := z_at 848 (by decide +kernel) (by decide +kernel)
abbrev F_L_says : zF := (13, cL_says, some .int, 5, [(0, 10, 13, 18)], false)
def T_L_says : List (Nat × zI) := [(0, (4, 3, 0, 0, 1, [])), (1, (0, 0, 0, 0, 2, [])), (2, (4, 0, 0, 0, 3, [])), (3, (2, 1, 0, 0, 4, [])), (4, (2, 2, 0, 0, 5, [])), (8, (10, 0, 0, 0, 9, [])), (9, (25, 0, 0, 0, 10, [])), (10, (15, 0, 0, 0, 17, [])), (13, (7, 4, 0, 0, 15, [])), (15, (0, 0, 0, 1, 16, [])), (16, (27, 0, 0, 0, 17, [])), (17, (0, 0, 0, 0, 18, [])), (18, (27, 0, 0, 0, 19, []))]
set_option maxRecDepth 100000 in
theorem K_L_says : ztbok F_L_says T_L_says := ztbB_ok (by decide +kernel)
set_option maxRecDepth 100000 in
theorem W_L_says : zMth yL_says (.codeWith yL_says cL_says 5 (some .int) [(0, 10, 13, 18)]) 4 := ⟨z_at 862 (by decide +kernel) (by decide +kernel), z_at 0 (by decide +kernel) (by decide +kernel), ⟨by decide +kernel, by decide +kernel⟩, by decide +kernel⟩
set_option maxRecDepth 100000 in
theorem I_L_says : Cond.static yL_says ∈ zws := z_at 861 (by decide +kernel) (by decide +kernel)
abbrev F_L_lend : zF := (13, cL_lend, some .int, 6, [(0, 12, 15, 18)], false)
def T_L_lend : List (Nat × zI) := [(0, (4, 4, 0, 0, 2, [])), (2, (0, 0, 0, 0, 3, [])), (3, (4, 0, 0, 0, 4, [])), (4, (2, 1, 0, 0, 5, [])), (5, (2, 2, 0, 0, 6, [])), (6, (2, 3, 0, 0, 7, [])), (10, (10, 0, 0, 0, 11, [])), (11, (25, 0, 0, 0, 12, [])), (12, (15, 0, 0, 0, 19, [])), (15, (7, 5, 0, 0, 17, [])), (17, (0, 0, 0, 1, 18, [])), (18, (27, 0, 0, 0, 19, [])), (19, (0, 0, 0, 0, 20, [])), (20, (27, 0, 0, 0, 21, []))]
set_option maxRecDepth 100000 in
theorem K_L_lend : ztbok F_L_lend T_L_lend := ztbB_ok (by decide +kernel)
set_option maxRecDepth 100000 in
theorem W_L_lend : zMth yL_lend (.codeWith yL_lend cL_lend 6 (some .int) [(0, 12, 15, 18)]) 5 := ⟨z_at 878 (by decide +kernel) (by decide +kernel), z_at 0 (by decide +kernel) (by decide +kernel), ⟨by decide +kernel, by decide +kernel⟩, by decide +kernel⟩
set_option maxRecDepth 100000 in
theorem I_L_lend : Cond.static yL_lend ∈ zws := z_at 877 (by decide +kernel) (by decide +kernel)
abbrev F_L_does : zF := (13, cL_does, some .int, 5, [(0, 10, 13, 18)], false)
def T_L_does : List (Nat × zI) := [(0, (4, 3, 0, 0, 1, [])), (1, (0, 0, 0, 0, 2, [])), (2, (4, 0, 0, 0, 3, [])), (3, (2, 1, 0, 0, 4, [])), (4, (2, 2, 0, 0, 5, [])), (8, (10, 0, 0, 0, 9, [])), (9, (25, 0, 0, 0, 10, [])), (10, (15, 0, 0, 0, 17, [])), (13, (7, 4, 0, 0, 15, [])), (15, (0, 0, 0, 1, 16, [])), (16, (27, 0, 0, 0, 17, [])), (17, (0, 0, 0, 0, 18, [])), (18, (27, 0, 0, 0, 19, []))]
set_option maxRecDepth 100000 in
theorem K_L_does : ztbok F_L_does T_L_does := ztbB_ok (by decide +kernel)
set_option maxRecDepth 100000 in
theorem W_L_does : zMth yL_does (.codeWith yL_does cL_does 5 (some .int) [(0, 10, 13, 18)]) 4 := ⟨z_at 894 (by decide +kernel) (by decide +kernel), z_at 0 (by decide +kernel) (by decide +kernel), ⟨by decide +kernel, by decide +kernel⟩, by decide +kernel⟩
set_option maxRecDepth 100000 in
theorem I_L_does : Cond.static yL_does ∈ zws := z_at 893 (by decide +kernel) (by decide +kernel)
abbrev F_L_sign : zF := (13, cL_sign, some .int, 5, [(0, 10, 13, 18)], false)
def T_L_sign : List (Nat × zI) := [(0, (4, 3, 0, 0, 1, [])), (1, (0, 0, 0, 0, 2, [])), (2, (4, 0, 0, 0, 3, [])), (3, (2, 1, 0, 0, 4, [])), (4, (2, 2, 0, 0, 5, [])), (8, (10, 0, 0, 0, 9, [])), (9, (25, 0, 0, 0, 10, [])), (10, (15, 0, 0, 0, 17, [])), (13, (7, 4, 0, 0, 15, [])), (15, (0, 0, 0, 1, 16, [])), (16, (27, 0, 0, 0, 17, [])), (17, (0, 0, 0, 0, 18, [])), (18, (27, 0, 0, 0, 19, []))]
set_option maxRecDepth 100000 in
theorem K_L_sign : ztbok F_L_sign T_L_sign := ztbB_ok (by decide +kernel)
set_option maxRecDepth 100000 in
theorem W_L_sign : zMth yL_sign (.codeWith yL_sign cL_sign 5 (some .int) [(0, 10, 13, 18)]) 4 := ⟨z_at 905 (by decide +kernel) (by decide +kernel), z_at 0 (by decide +kernel) (by decide +kernel), ⟨by decide +kernel, by decide +kernel⟩, by decide +kernel⟩
set_option maxRecDepth 100000 in
theorem I_L_sign : Cond.static yL_sign ∈ zws := z_at 904 (by decide +kernel) (by decide +kernel)
abbrev F_L_look : zF := (13, cL_look, some .int, 6, [(0, 12, 15, 18)], false)
def T_L_look : List (Nat × zI) := [(0, (4, 4, 0, 0, 2, [])), (2, (0, 0, 0, 0, 3, [])), (3, (4, 0, 0, 0, 4, [])), (4, (2, 1, 0, 0, 5, [])), (5, (2, 2, 0, 0, 6, [])), (6, (2, 3, 0, 0, 7, [])), (10, (10, 0, 0, 0, 11, [])), (11, (25, 0, 0, 0, 12, [])), (12, (15, 0, 0, 0, 19, [])), (15, (7, 5, 0, 0, 17, [])), (17, (0, 0, 0, 1, 18, [])), (18, (27, 0, 0, 0, 19, [])), (19, (0, 0, 0, 0, 20, [])), (20, (27, 0, 0, 0, 21, []))]
set_option maxRecDepth 100000 in
theorem K_L_look : ztbok F_L_look T_L_look := ztbB_ok (by decide +kernel)
set_option maxRecDepth 100000 in
theorem W_L_look : zMth yL_look (.codeWith yL_look cL_look 6 (some .int) [(0, 12, 15, 18)]) 5 := ⟨z_at 918 (by decide +kernel) (by decide +kernel), z_at 0 (by decide +kernel) (by decide +kernel), ⟨by decide +kernel, by decide +kernel⟩, by decide +kernel⟩
set_option maxRecDepth 100000 in
theorem I_L_look : Cond.static yL_look ∈ zws := z_at 917 (by decide +kernel) (by decide +kernel)
abbrev F_L_theft : zF := (13, cL_theft, some .int, 5, [(0, 10, 13, 18)], false)
def T_L_theft : List (Nat × zI) := [(0, (4, 3, 0, 0, 1, [])), (1, (0, 0, 0, 0, 2, [])), (2, (4, 0, 0, 0, 3, [])), (3, (2, 1, 0, 0, 4, [])), (4, (2, 2, 0, 0, 5, [])), (8, (10, 0, 0, 0, 9, [])), (9, (25, 0, 0, 0, 10, [])), (10, (15, 0, 0, 0, 17, [])), (13, (7, 4, 0, 0, 15, [])), (15, (0, 0, 0, 1, 16, [])), (16, (27, 0, 0, 0, 17, [])), (17, (0, 0, 0, 0, 18, [])), (18, (27, 0, 0, 0, 19, []))]
set_option maxRecDepth 100000 in
theorem K_L_theft : ztbok F_L_theft T_L_theft := ztbB_ok (by decide +kernel)
set_option maxRecDepth 100000 in
theorem W_L_theft : zMth yL_theft (.codeWith yL_theft cL_theft 5 (some .int) [(0, 10, 13, 18)]) 4 := ⟨z_at 925 (by decide +kernel) (by decide +kernel), z_at 0 (by decide +kernel) (by decide +kernel), ⟨by decide +kernel, by decide +kernel⟩, by decide +kernel⟩
set_option maxRecDepth 100000 in
theorem I_L_theft : Cond.static yL_theft ∈ zws := z_at 924 (by decide +kernel) (by decide +kernel)
abbrev F_L_see : zF := (13, cL_see, some .int, 6, [(0, 12, 15, 18)], false)
def T_L_see : List (Nat × zI) := [(0, (4, 4, 0, 0, 2, [])), (2, (0, 0, 0, 0, 3, [])), (3, (4, 0, 0, 0, 4, [])), (4, (2, 1, 0, 0, 5, [])), (5, (2, 2, 0, 0, 6, [])), (6, (2, 3, 0, 0, 7, [])), (10, (10, 0, 0, 0, 11, [])), (11, (25, 0, 0, 0, 12, [])), (12, (15, 0, 0, 0, 19, [])), (15, (7, 5, 0, 0, 17, [])), (17, (0, 0, 0, 1, 18, [])), (18, (27, 0, 0, 0, 19, [])), (19, (0, 0, 0, 0, 20, [])), (20, (27, 0, 0, 0, 21, []))]
set_option maxRecDepth 100000 in
theorem K_L_see : ztbok F_L_see T_L_see := ztbB_ok (by decide +kernel)
set_option maxRecDepth 100000 in
theorem W_L_see : zMth yL_see (.codeWith yL_see cL_see 6 (some .int) [(0, 12, 15, 18)]) 5 := ⟨z_at 940 (by decide +kernel) (by decide +kernel), z_at 0 (by decide +kernel) (by decide +kernel), ⟨by decide +kernel, by decide +kernel⟩, by decide +kernel⟩
set_option maxRecDepth 100000 in
theorem I_L_see : Cond.static yL_see ∈ zws := z_at 939 (by decide +kernel) (by decide +kernel)
abbrev F_L_inCase : zF := (13, cL_inCase, some .int, 5, [(0, 10, 13, 18)], false)
def T_L_inCase : List (Nat × zI) := [(0, (4, 3, 0, 0, 1, [])), (1, (0, 0, 0, 0, 2, [])), (2, (4, 0, 0, 0, 3, [])), (3, (2, 1, 0, 0, 4, [])), (4, (2, 2, 0, 0, 5, [])), (8, (10, 0, 0, 0, 9, [])), (9, (25, 0, 0, 0, 10, [])), (10, (15, 0, 0, 0, 17, [])), (13, (7, 4, 0, 0, 15, [])), (15, (0, 0, 0, 1, 16, [])), (16, (27, 0, 0, 0, 17, [])), (17, (0, 0, 0, 0, 18, [])), (18, (27, 0, 0, 0, 19, []))]
set_option maxRecDepth 100000 in
theorem K_L_inCase : ztbok F_L_inCase T_L_inCase := ztbB_ok (by decide +kernel)
set_option maxRecDepth 100000 in
theorem W_L_inCase : zMth yL_inCase (.codeWith yL_inCase cL_inCase 5 (some .int) [(0, 10, 13, 18)]) 4 := ⟨z_at 955 (by decide +kernel) (by decide +kernel), z_at 0 (by decide +kernel) (by decide +kernel), ⟨by decide +kernel, by decide +kernel⟩, by decide +kernel⟩
set_option maxRecDepth 100000 in
theorem I_L_inCase : Cond.static yL_inCase ∈ zws := z_at 954 (by decide +kernel) (by decide +kernel)
abbrev F_L_sure : zF := (13, cL_sure, some .int, 4, [(0, 9, 12, 18)], false)
def T_L_sure : List (Nat × zI) := [(0, (4, 2, 0, 0, 1, [])), (1, (0, 0, 0, 0, 2, [])), (2, (4, 0, 0, 0, 3, [])), (3, (2, 1, 0, 0, 4, [])), (7, (10, 0, 0, 0, 8, [])), (8, (25, 0, 0, 0, 9, [])), (9, (15, 0, 0, 0, 15, [])), (12, (7, 3, 0, 0, 13, [])), (13, (0, 0, 0, 1, 14, [])), (14, (27, 0, 0, 0, 15, [])), (15, (0, 0, 0, 0, 16, [])), (16, (27, 0, 0, 0, 17, []))]
set_option maxRecDepth 100000 in
theorem K_L_sure : ztbok F_L_sure T_L_sure := ztbB_ok (by decide +kernel)
set_option maxRecDepth 100000 in
theorem W_L_sure : zMth yL_sure (.codeWith yL_sure cL_sure 4 (some .int) [(0, 9, 12, 18)]) 3 := ⟨z_at 967 (by decide +kernel) (by decide +kernel), z_at 0 (by decide +kernel) (by decide +kernel), ⟨by decide +kernel, by decide +kernel⟩, by decide +kernel⟩
set_option maxRecDepth 100000 in
theorem I_L_sure : Cond.static yL_sure ∈ zws := z_at 966 (by decide +kernel) (by decide +kernel)
abbrev F_L_where : zF := (13, cL_where, some .int, 4, [(0, 9, 12, 18)], false)
def T_L_where : List (Nat × zI) := [(0, (4, 2, 0, 0, 1, [])), (1, (0, 0, 0, 0, 2, [])), (2, (4, 0, 0, 0, 3, [])), (3, (2, 1, 0, 0, 4, [])), (7, (10, 0, 0, 0, 8, [])), (8, (25, 0, 0, 0, 9, [])), (9, (15, 0, 0, 0, 15, [])), (12, (7, 3, 0, 0, 13, [])), (13, (0, 0, 0, 1, 14, [])), (14, (27, 0, 0, 0, 15, [])), (15, (0, 0, 0, 0, 16, [])), (16, (27, 0, 0, 0, 17, []))]
set_option maxRecDepth 100000 in
theorem K_L_where : ztbok F_L_where T_L_where := ztbB_ok (by decide +kernel)
set_option maxRecDepth 100000 in
theorem W_L_where : zMth yL_where (.codeWith yL_where cL_where 4 (some .int) [(0, 9, 12, 18)]) 3 := ⟨z_at 997 (by decide +kernel) (by decide +kernel), z_at 0 (by decide +kernel) (by decide +kernel), ⟨by decide +kernel, by decide +kernel⟩, by decide +kernel⟩
set_option maxRecDepth 100000 in
theorem I_L_where : Cond.static yL_where ∈ zws := z_at 996 (by decide +kernel) (by decide +kernel)
abbrev F_L_misled : zF := (13, cL_misled, some .int, 6, [(0, 12, 15, 18)], false)
def T_L_misled : List (Nat × zI) := [(0, (4, 4, 0, 0, 2, [])), (2, (0, 0, 0, 0, 3, [])), (3, (4, 0, 0, 0, 4, [])), (4, (2, 1, 0, 0, 5, [])), (5, (2, 2, 0, 0, 6, [])), (6, (2, 3, 0, 0, 7, [])), (10, (10, 0, 0, 0, 11, [])), (11, (25, 0, 0, 0, 12, [])), (12, (15, 0, 0, 0, 19, [])), (15, (7, 5, 0, 0, 17, [])), (17, (0, 0, 0, 1, 18, [])), (18, (27, 0, 0, 0, 19, [])), (19, (0, 0, 0, 0, 20, [])), (20, (27, 0, 0, 0, 21, []))]
set_option maxRecDepth 100000 in
theorem K_L_misled : ztbok F_L_misled T_L_misled := ztbB_ok (by decide +kernel)
set_option maxRecDepth 100000 in
theorem W_L_misled : zMth yL_misled (.codeWith yL_misled cL_misled 6 (some .int) [(0, 12, 15, 18)]) 5 := ⟨z_at 1008 (by decide +kernel) (by decide +kernel), z_at 0 (by decide +kernel) (by decide +kernel), ⟨by decide +kernel, by decide +kernel⟩, by decide +kernel⟩
set_option maxRecDepth 100000 in
theorem I_L_misled : Cond.static yL_misled ∈ zws := z_at 1007 (by decide +kernel) (by decide +kernel)
abbrev F_L_chance : zF := (13, cL_chance, some .int, 5, [(0, 10, 13, 18)], false)
def T_L_chance : List (Nat × zI) := [(0, (4, 3, 0, 0, 1, [])), (1, (0, 0, 0, 0, 2, [])), (2, (4, 0, 0, 0, 3, [])), (3, (2, 1, 0, 0, 4, [])), (4, (2, 2, 0, 0, 5, [])), (8, (10, 0, 0, 0, 9, [])), (9, (25, 0, 0, 0, 10, [])), (10, (15, 0, 0, 0, 17, [])), (13, (7, 4, 0, 0, 15, [])), (15, (0, 0, 0, 1, 16, [])), (16, (27, 0, 0, 0, 17, [])), (17, (0, 0, 0, 0, 18, [])), (18, (27, 0, 0, 0, 19, []))]
set_option maxRecDepth 100000 in
theorem K_L_chance : ztbok F_L_chance T_L_chance := ztbB_ok (by decide +kernel)
set_option maxRecDepth 100000 in
theorem W_L_chance : zMth yL_chance (.codeWith yL_chance cL_chance 5 (some .int) [(0, 10, 13, 18)]) 4 := ⟨z_at 1033 (by decide +kernel) (by decide +kernel), z_at 0 (by decide +kernel) (by decide +kernel), ⟨by decide +kernel, by decide +kernel⟩, by decide +kernel⟩
set_option maxRecDepth 100000 in
theorem I_L_chance : Cond.static yL_chance ∈ zws := z_at 1032 (by decide +kernel) (by decide +kernel)
abbrev F_L_round : zF := (13, cL_round, some .int, 6, [(0, 12, 15, 18), (0, 12, 19, 13)], false)
def T_L_round : List (Nat × zI) := [(0, (4, 4, 0, 0, 2, [])), (2, (0, 0, 0, 0, 3, [])), (3, (4, 0, 0, 0, 4, [])), (4, (2, 1, 0, 0, 5, [])), (5, (2, 2, 0, 0, 6, [])), (6, (2, 3, 0, 0, 7, [])), (10, (10, 0, 0, 0, 11, [])), (11, (25, 0, 0, 0, 12, [])), (12, (15, 0, 0, 0, 23, [])), (15, (7, 5, 0, 0, 17, [])), (17, (0, 0, 0, 1, 18, [])), (18, (27, 0, 0, 0, 19, [])), (19, (7, 5, 0, 0, 21, [])), (21, (0, 0, 0, 2, 22, [])), (22, (27, 0, 0, 0, 23, [])), (23, (0, 0, 0, 0, 24, [])), (24, (27, 0, 0, 0, 25, []))]
set_option maxRecDepth 100000 in
theorem K_L_round : ztbok F_L_round T_L_round := ztbB_ok (by decide +kernel)
set_option maxRecDepth 100000 in
theorem W_L_round : zMth yL_round (.codeWith yL_round cL_round 6 (some .int) [(0, 12, 15, 18), (0, 12, 19, 13)]) 5 := ⟨z_at 1046 (by decide +kernel) (by decide +kernel), z_at 0 (by decide +kernel) (by decide +kernel), ⟨by decide +kernel, by decide +kernel⟩, by decide +kernel⟩
set_option maxRecDepth 100000 in
theorem I_L_round : Cond.static yL_round ∈ zws := z_at 1045 (by decide +kernel) (by decide +kernel)
abbrev F_L_path : zF := (13, cL_path, some .int, 5, [(0, 10, 13, 18)], false)
def T_L_path : List (Nat × zI) := [(0, (4, 3, 0, 0, 1, [])), (1, (0, 0, 0, 0, 2, [])), (2, (4, 0, 0, 0, 3, [])), (3, (2, 1, 0, 0, 4, [])), (4, (2, 2, 0, 0, 5, [])), (8, (10, 0, 0, 0, 9, [])), (9, (25, 0, 0, 0, 10, [])), (10, (15, 0, 0, 0, 17, [])), (13, (7, 4, 0, 0, 15, [])), (15, (0, 0, 0, 1, 16, [])), (16, (27, 0, 0, 0, 17, [])), (17, (0, 0, 0, 0, 18, [])), (18, (27, 0, 0, 0, 19, []))]
set_option maxRecDepth 100000 in
theorem K_L_path : ztbok F_L_path T_L_path := ztbB_ok (by decide +kernel)
set_option maxRecDepth 100000 in
theorem W_L_path : zMth yL_path (.codeWith yL_path cL_path 5 (some .int) [(0, 10, 13, 18)]) 4 := ⟨z_at 1087 (by decide +kernel) (by decide +kernel), z_at 0 (by decide +kernel) (by decide +kernel), ⟨by decide +kernel, by decide +kernel⟩, by decide +kernel⟩
set_option maxRecDepth 100000 in
theorem I_L_path : Cond.static yL_path ∈ zws := z_at 1086 (by decide +kernel) (by decide +kernel)
abbrev F_L_rests : zF := (13, cL_rests, some .int, 6, [(0, 12, 15, 18), (0, 12, 19, 13)], false)
def T_L_rests : List (Nat × zI) := [(0, (4, 4, 0, 0, 2, [])), (2, (0, 0, 0, 0, 3, [])), (3, (4, 0, 0, 0, 4, [])), (4, (2, 1, 0, 0, 5, [])), (5, (2, 2, 0, 0, 6, [])), (6, (2, 3, 0, 0, 7, [])), (10, (10, 0, 0, 0, 11, [])), (11, (25, 0, 0, 0, 12, [])), (12, (15, 0, 0, 0, 23, [])), (15, (7, 5, 0, 0, 17, [])), (17, (0, 0, 0, 1, 18, [])), (18, (27, 0, 0, 0, 19, [])), (19, (7, 5, 0, 0, 21, [])), (21, (0, 0, 0, 2, 22, [])), (22, (27, 0, 0, 0, 23, [])), (23, (0, 0, 0, 0, 24, [])), (24, (27, 0, 0, 0, 25, []))]
set_option maxRecDepth 100000 in
theorem K_L_rests : ztbok F_L_rests T_L_rests := ztbB_ok (by decide +kernel)
set_option maxRecDepth 100000 in
theorem W_L_rests : zMth yL_rests (.codeWith yL_rests cL_rests 6 (some .int) [(0, 12, 15, 18), (0, 12, 19, 13)]) 5 := ⟨z_at 1094 (by decide +kernel) (by decide +kernel), z_at 0 (by decide +kernel) (by decide +kernel), ⟨by decide +kernel, by decide +kernel⟩, by decide +kernel⟩
set_option maxRecDepth 100000 in
theorem I_L_rests : Cond.static yL_rests ∈ zws := z_at 1093 (by decide +kernel) (by decide +kernel)
abbrev F_L_fewest : zF := (13, cL_fewest, some .int, 5, [(0, 10, 13, 13)], false)
def T_L_fewest : List (Nat × zI) := [(0, (4, 3, 0, 0, 1, [])), (1, (0, 0, 0, 0, 2, [])), (2, (4, 0, 0, 0, 3, [])), (3, (2, 1, 0, 0, 4, [])), (4, (2, 2, 0, 0, 5, [])), (8, (10, 0, 0, 0, 9, [])), (9, (25, 0, 0, 0, 10, [])), (10, (15, 0, 0, 0, 17, [])), (13, (7, 4, 0, 0, 15, [])), (15, (0, 0, 0, 1, 16, [])), (16, (27, 0, 0, 0, 17, [])), (17, (0, 0, 0, 0, 18, [])), (18, (27, 0, 0, 0, 19, []))]
set_option maxRecDepth 100000 in
theorem K_L_fewest : ztbok F_L_fewest T_L_fewest := ztbB_ok (by decide +kernel)
set_option maxRecDepth 100000 in
theorem W_L_fewest : zMth yL_fewest (.codeWith yL_fewest cL_fewest 5 (some .int) [(0, 10, 13, 13)]) 4 := ⟨z_at 1122 (by decide +kernel) (by decide +kernel), z_at 0 (by decide +kernel) (by decide +kernel), ⟨by decide +kernel, by decide +kernel⟩, by decide +kernel⟩
set_option maxRecDepth 100000 in
theorem I_L_fewest : Cond.static yL_fewest ∈ zws := z_at 1121 (by decide +kernel) (by decide +kernel)
abbrev F_L_lender : zF := (13, cL_lender, some .int, 4, [(0, 9, 12, 18)], false)
def T_L_lender : List (Nat × zI) := [(0, (4, 2, 0, 0, 1, [])), (1, (0, 0, 0, 0, 2, [])), (2, (4, 0, 0, 0, 3, [])), (3, (2, 1, 0, 0, 4, [])), (7, (10, 0, 0, 0, 8, [])), (8, (25, 0, 0, 0, 9, [])), (9, (15, 0, 0, 0, 15, [])), (12, (7, 3, 0, 0, 13, [])), (13, (0, 0, 0, 1, 14, [])), (14, (27, 0, 0, 0, 15, [])), (15, (0, 0, 0, 0, 16, [])), (16, (27, 0, 0, 0, 17, []))]
set_option maxRecDepth 100000 in
theorem K_L_lender : ztbok F_L_lender T_L_lender := ztbB_ok (by decide +kernel)
set_option maxRecDepth 100000 in
theorem W_L_lender : zMth yL_lender (.codeWith yL_lender cL_lender 4 (some .int) [(0, 9, 12, 18)]) 3 := ⟨z_at 1169 (by decide +kernel) (by decide +kernel), z_at 0 (by decide +kernel) (by decide +kernel), ⟨by decide +kernel, by decide +kernel⟩, by decide +kernel⟩
set_option maxRecDepth 100000 in
theorem I_L_lender : Cond.static yL_lender ∈ zws := z_at 1168 (by decide +kernel) (by decide +kernel)
abbrev F_L_kinds : zF := (13, cL_kinds, some .int, 5, [(0, 10, 13, 13)], false)
def T_L_kinds : List (Nat × zI) := [(0, (4, 3, 0, 0, 1, [])), (1, (0, 0, 0, 0, 2, [])), (2, (4, 0, 0, 0, 3, [])), (3, (2, 1, 0, 0, 4, [])), (4, (2, 2, 0, 0, 5, [])), (8, (10, 0, 0, 0, 9, [])), (9, (25, 0, 0, 0, 10, [])), (10, (15, 0, 0, 0, 17, [])), (13, (7, 4, 0, 0, 15, [])), (15, (0, 0, 0, 1, 16, [])), (16, (27, 0, 0, 0, 17, [])), (17, (0, 0, 0, 0, 18, [])), (18, (27, 0, 0, 0, 19, []))]
set_option maxRecDepth 100000 in
theorem K_L_kinds : ztbok F_L_kinds T_L_kinds := ztbB_ok (by decide +kernel)
set_option maxRecDepth 100000 in
theorem W_L_kinds : zMth yL_kinds (.codeWith yL_kinds cL_kinds 5 (some .int) [(0, 10, 13, 13)]) 4 := ⟨z_at 1177 (by decide +kernel) (by decide +kernel), z_at 0 (by decide +kernel) (by decide +kernel), ⟨by decide +kernel, by decide +kernel⟩, by decide +kernel⟩
set_option maxRecDepth 100000 in
theorem I_L_kinds : Cond.static yL_kinds ∈ zws := z_at 1176 (by decide +kernel) (by decide +kernel)
abbrev F_L_word : zF := (13, cL_word, some .int, 5, [(0, 10, 13, 18), (0, 10, 17, 13)], false)
def T_L_word : List (Nat × zI) := [(0, (4, 3, 0, 0, 1, [])), (1, (0, 0, 0, 0, 2, [])), (2, (4, 0, 0, 0, 3, [])), (3, (2, 1, 0, 0, 4, [])), (4, (2, 2, 0, 0, 5, [])), (8, (10, 0, 0, 0, 9, [])), (9, (25, 0, 0, 0, 10, [])), (10, (15, 0, 0, 0, 21, [])), (13, (7, 4, 0, 0, 15, [])), (15, (0, 0, 0, 1, 16, [])), (16, (27, 0, 0, 0, 17, [])), (17, (7, 4, 0, 0, 19, [])), (19, (0, 0, 0, 2, 20, [])), (20, (27, 0, 0, 0, 21, [])), (21, (0, 0, 0, 0, 22, [])), (22, (27, 0, 0, 0, 23, []))]
set_option maxRecDepth 100000 in
theorem K_L_word : ztbok F_L_word T_L_word := ztbB_ok (by decide +kernel)
set_option maxRecDepth 100000 in
theorem W_L_word : zMth yL_word (.codeWith yL_word cL_word 5 (some .int) [(0, 10, 13, 18), (0, 10, 17, 13)]) 4 := ⟨z_at 1205 (by decide +kernel) (by decide +kernel), z_at 0 (by decide +kernel) (by decide +kernel), ⟨by decide +kernel, by decide +kernel⟩, by decide +kernel⟩
set_option maxRecDepth 100000 in
theorem I_L_word : Cond.static yL_word ∈ zws := z_at 1204 (by decide +kernel) (by decide +kernel)
abbrev F_L_mend : zF := (13, cL_mend, some .int, 6, [(0, 12, 15, 13)], false)
def T_L_mend : List (Nat × zI) := [(0, (4, 4, 0, 0, 2, [])), (2, (0, 0, 0, 0, 3, [])), (3, (4, 0, 0, 0, 4, [])), (4, (2, 1, 0, 0, 5, [])), (5, (2, 2, 0, 0, 6, [])), (6, (2, 3, 0, 0, 7, [])), (10, (10, 0, 0, 0, 11, [])), (11, (25, 0, 0, 0, 12, [])), (12, (15, 0, 0, 0, 19, [])), (15, (7, 5, 0, 0, 17, [])), (17, (0, 0, 0, 1, 18, [])), (18, (27, 0, 0, 0, 19, [])), (19, (0, 0, 0, 0, 20, [])), (20, (27, 0, 0, 0, 21, []))]
set_option maxRecDepth 100000 in
theorem K_L_mend : ztbok F_L_mend T_L_mend := ztbB_ok (by decide +kernel)
set_option maxRecDepth 100000 in
theorem W_L_mend : zMth yL_mend (.codeWith yL_mend cL_mend 6 (some .int) [(0, 12, 15, 13)]) 5 := ⟨z_at 1212 (by decide +kernel) (by decide +kernel), z_at 0 (by decide +kernel) (by decide +kernel), ⟨by decide +kernel, by decide +kernel⟩, by decide +kernel⟩
set_option maxRecDepth 100000 in
theorem I_L_mend : Cond.static yL_mend ∈ zws := z_at 1211 (by decide +kernel) (by decide +kernel)
abbrev F_L_fire : zF := (13, cL_fire, some .int, 8, [(0, 15, 18, 18), (0, 15, 22, 13)], false)
def T_L_fire : List (Nat × zI) := [(0, (4, 6, 0, 0, 2, [])), (2, (0, 0, 0, 0, 3, [])), (3, (4, 0, 0, 0, 4, [])), (4, (2, 1, 0, 0, 5, [])), (5, (2, 2, 0, 0, 6, [])), (6, (2, 3, 0, 0, 7, [])), (7, (2, 4, 0, 0, 9, [])), (9, (2, 5, 0, 0, 11, [])), (14, (25, 0, 0, 0, 15, [])), (15, (15, 0, 0, 0, 26, [])), (18, (7, 7, 0, 0, 20, [])), (20, (0, 0, 0, 1, 21, [])), (21, (27, 0, 0, 0, 22, [])), (22, (7, 7, 0, 0, 24, [])), (24, (0, 0, 0, 2, 25, [])), (25, (27, 0, 0, 0, 26, [])), (26, (0, 0, 0, 0, 27, [])), (27, (27, 0, 0, 0, 28, []))]
set_option maxRecDepth 100000 in
theorem K_L_fire : ztbok F_L_fire T_L_fire := ztbB_ok (by decide +kernel)
set_option maxRecDepth 100000 in
theorem W_L_fire : zMth yL_fire (.codeWith yL_fire cL_fire 8 (some .int) [(0, 15, 18, 18), (0, 15, 22, 13)]) 7 := ⟨z_at 1225 (by decide +kernel) (by decide +kernel), z_at 0 (by decide +kernel) (by decide +kernel), ⟨by decide +kernel, by decide +kernel⟩, by decide +kernel⟩
set_option maxRecDepth 100000 in
theorem I_L_fire : Cond.static yL_fire ∈ zws := z_at 1224 (by decide +kernel) (by decide +kernel)
set_option maxRecDepth 100000 in
theorem C_11_18 : Cond.methodLink (zown 11) 18 yX6_init ∈ zws := z_at 53 (by decide +kernel) (by decide +kernel)
set_option maxRecDepth 100000 in
theorem C_11_32 : Cond.methodLink (zown 11) 32 yX7_init ∈ zws := z_at 131 (by decide +kernel) (by decide +kernel)
set_option maxRecDepth 100000 in
theorem C_11_51 : Cond.methodLink (zown 11) 51 yX3_init ∈ zws := z_at 210 (by decide +kernel) (by decide +kernel)
set_option maxRecDepth 100000 in
theorem C_11_60 : Cond.methodLink (zown 11) 60 yX1_init ∈ zws := z_at 223 (by decide +kernel) (by decide +kernel)
set_option maxRecDepth 100000 in
theorem C_11_69 : Cond.methodLink (zown 11) 69 yX2_init ∈ zws := z_at 245 (by decide +kernel) (by decide +kernel)
set_option maxRecDepth 100000 in
theorem C_11_76 : Cond.methodLink (zown 11) 76 yX10_init ∈ zws := z_at 267 (by decide +kernel) (by decide +kernel)
set_option maxRecDepth 100000 in
theorem C_11_85 : Cond.methodLink (zown 11) 85 yX4_init ∈ zws := z_at 298 (by decide +kernel) (by decide +kernel)
set_option maxRecDepth 100000 in
theorem C_11_92 : Cond.methodLink (zown 11) 92 yX5_init ∈ zws := z_at 324 (by decide +kernel) (by decide +kernel)
set_option maxRecDepth 100000 in
theorem C_11_116 : Cond.methodLink (zown 11) 116 yX9_hasRoomFor ∈ zws := z_at 432 (by decide +kernel) (by decide +kernel)
set_option maxRecDepth 100000 in
theorem C_11_120 : Cond.methodLink (zown 11) 120 yX9_append ∈ zws := z_at 436 (by decide +kernel) (by decide +kernel)
set_option maxRecDepth 100000 in
theorem C_11_134 : Cond.methodLink (zown 11) 134 yX7_read ∈ zws := z_at 613 (by decide +kernel) (by decide +kernel)
set_option maxRecDepth 100000 in
theorem C_11_141 : Cond.methodLink (zown 11) 141 yX6_copyFrom ∈ zws := z_at 781 (by decide +kernel) (by decide +kernel)
set_option maxRecDepth 100000 in
theorem C_11_145 : Cond.methodLink (zown 11) 145 yX0_begin ∈ zws := z_at 786 (by decide +kernel) (by decide +kernel)
set_option maxRecDepth 100000 in
theorem C_11_179 : Cond.methodLink (zown 11) 179 yX11_needRoom ∈ zws := z_at 822 (by decide +kernel) (by decide +kernel)
set_option maxRecDepth 100000 in
theorem C_11_182 : Cond.methodLink (zown 11) 182 yX11_needOneOf ∈ zws := z_at 827 (by decide +kernel) (by decide +kernel)
set_option maxRecDepth 100000 in
theorem C_11_192 : Cond.methodLink (zown 11) 192 yX11_needLodger ∈ zws := z_at 838 (by decide +kernel) (by decide +kernel)
set_option maxRecDepth 100000 in
theorem C_11_198 : Cond.methodLink (zown 11) 198 yX0_shoesOf ∈ zws := z_at 843 (by decide +kernel) (by decide +kernel)
set_option maxRecDepth 100000 in
theorem C_11_202 : Cond.methodLink (zown 11) 202 yX11_needHour ∈ zws := z_at 854 (by decide +kernel) (by decide +kernel)
set_option maxRecDepth 100000 in
theorem C_11_205 : Cond.methodLink (zown 11) 205 yX6_doings ∈ zws := z_at 858 (by decide +kernel) (by decide +kernel)
set_option maxRecDepth 100000 in
theorem C_11_208 : Cond.methodLink (zown 11) 208 yJ6_bitCount_0f7a4 ∈ zws := z_at 482 (by decide +kernel) (by decide +kernel)
set_option maxRecDepth 100000 in
theorem C_11_213 : Cond.methodLink (zown 11) 213 yX11_nthBit ∈ zws := z_at 859 (by decide +kernel) (by decide +kernel)
set_option maxRecDepth 100000 in
theorem C_11_216 : Cond.methodLink (zown 11) 216 yX6_canDo ∈ zws := z_at 867 (by decide +kernel) (by decide +kernel)
set_option maxRecDepth 100000 in
theorem C_11_222 : Cond.methodLink (zown 11) 222 yX3_signOf ∈ zws := z_at 872 (by decide +kernel) (by decide +kernel)
set_option maxRecDepth 100000 in
theorem C_11_225 : Cond.methodLink (zown 11) 225 yX0_canLend ∈ zws := z_at 883 (by decide +kernel) (by decide +kernel)
set_option maxRecDepth 100000 in
theorem C_11_228 : Cond.methodLink (zown 11) 228 yX0_handOver ∈ zws := z_at 888 (by decide +kernel) (by decide +kernel)
set_option maxRecDepth 100000 in
theorem C_11_232 : Cond.methodLink (zown 11) 232 yX0_handBack ∈ zws := z_at 448 (by decide +kernel) (by decide +kernel)
set_option maxRecDepth 100000 in
theorem C_11_235 : Cond.methodLink (zown 11) 235 yX0_drawDay ∈ zws := z_at 460 (by decide +kernel) (by decide +kernel)
set_option maxRecDepth 100000 in
theorem C_11_239 : Cond.methodLink (zown 11) 239 yX0_doing ∈ zws := z_at 899 (by decide +kernel) (by decide +kernel)
set_option maxRecDepth 100000 in
theorem C_11_242 : Cond.methodLink (zown 11) 242 yX3_signAt ∈ zws := z_at 910 (by decide +kernel) (by decide +kernel)
set_option maxRecDepth 100000 in
theorem C_11_248 : Cond.methodLink (zown 11) 248 yX11_hourOfTheft ∈ zws := z_at 930 (by decide +kernel) (by decide +kernel)
set_option maxRecDepth 100000 in
theorem C_11_251 : Cond.methodLink (zown 11) 251 yX11_finderAt ∈ zws := z_at 934 (by decide +kernel) (by decide +kernel)
set_option maxRecDepth 100000 in
theorem C_11_254 : Cond.methodLink (zown 11) 254 yX0_hasSeen ∈ zws := z_at 945 (by decide +kernel) (by decide +kernel)
set_option maxRecDepth 100000 in
theorem C_11_257 : Cond.methodLink (zown 11) 257 yX0_note ∈ zws := z_at 949 (by decide +kernel) (by decide +kernel)
set_option maxRecDepth 100000 in
theorem C_11_260 : Cond.methodLink (zown 11) 260 yX0_seeNothing ∈ zws := z_at 483 (by decide +kernel) (by decide +kernel)
set_option maxRecDepth 100000 in
theorem C_11_263 : Cond.methodLink (zown 11) 263 yX1_reckon ∈ zws := z_at 491 (by decide +kernel) (by decide +kernel)
set_option maxRecDepth 100000 in
theorem C_11_267 : Cond.methodLink (zown 11) 267 yX1_doingIn ∈ zws := z_at 960 (by decide +kernel) (by decide +kernel)
set_option maxRecDepth 100000 in
theorem C_11_270 : Cond.methodLink (zown 11) 270 yX1_doorToKnockAt ∈ zws := z_at 972 (by decide +kernel) (by decide +kernel)
set_option maxRecDepth 100000 in
theorem C_11_273 : Cond.methodLink (zown 11) 273 yX1_surelyEmpty ∈ zws := z_at 987 (by decide +kernel) (by decide +kernel)
set_option maxRecDepth 100000 in
theorem C_11_276 : Cond.methodLink (zown 11) 276 yX1_surelyTaken ∈ zws := z_at 991 (by decide +kernel) (by decide +kernel)
set_option maxRecDepth 100000 in
theorem C_11_279 : Cond.methodLink (zown 11) 279 yX1_roomsOf ∈ zws := z_at 1002 (by decide +kernel) (by decide +kernel)
set_option maxRecDepth 100000 in
theorem C_11_282 : Cond.methodLink (zown 11) 282 yX6_rowsOf ∈ zws := z_at 1013 (by decide +kernel) (by decide +kernel)
set_option maxRecDepth 100000 in
theorem C_11_285 : Cond.methodLink (zown 11) 285 yX2_fewestLiars ∈ zws := z_at 1014 (by decide +kernel) (by decide +kernel)
set_option maxRecDepth 100000 in
theorem C_11_288 : Cond.methodLink (zown 11) 288 yX3_chanceAt ∈ zws := z_at 1038 (by decide +kernel) (by decide +kernel)
set_option maxRecDepth 100000 in
theorem C_11_293 : Cond.methodLink (zown 11) 293 yX10_keepBest ∈ zws := z_at 1052 (by decide +kernel) (by decide +kernel)
set_option maxRecDepth 100000 in
theorem C_11_304 : Cond.methodLink (zown 11) 304 yX4_play ∈ zws := z_at 1100 (by decide +kernel) (by decide +kernel)
set_option maxRecDepth 100000 in
theorem C_11_314 : Cond.methodLink (zown 11) 314 yX5_keepFewest ∈ zws := z_at 1128 (by decide +kernel) (by decide +kernel)
set_option maxRecDepth 100000 in
theorem C_11_322 : Cond.methodLink (zown 11) 322 yX11_needWordCount ∈ zws := z_at 1182 (by decide +kernel) (by decide +kernel)
set_option maxRecDepth 100000 in
theorem C_11_325 : Cond.methodLink (zown 11) 325 yX11_needApart ∈ zws := z_at 1186 (by decide +kernel) (by decide +kernel)
set_option maxRecDepth 100000 in
theorem C_11_328 : Cond.methodLink (zown 11) 328 yX8_lay ∈ zws := z_at 1190 (by decide +kernel) (by decide +kernel)
set_option maxRecDepth 100000 in
theorem C_11_331 : Cond.methodLink (zown 11) 331 yX8_kindsFor ∈ zws := z_at 1199 (by decide +kernel) (by decide +kernel)
set_option maxRecDepth 100000 in
theorem C_11_344 : Cond.methodLink (zown 11) 344 yX8_mended ∈ zws := z_at 1219 (by decide +kernel) (by decide +kernel)
set_option maxRecDepth 100000 in
theorem C_11_349 : Cond.methodLink (zown 11) 349 yJ9_abs_0f7a4 ∈ zws := z_at 1231 (by decide +kernel) (by decide +kernel)
set_option maxRecDepth 100000 in
theorem C_11_354 : Cond.methodLink (zown 11) 354 yJ9_min_7cf53 ∈ zws := z_at 1234 (by decide +kernel) (by decide +kernel)
set_option maxRecDepth 100000 in
theorem C_11_357 : Cond.methodLink (zown 11) 357 yX11_partOfEscape ∈ zws := z_at 1235 (by decide +kernel) (by decide +kernel)
set_option maxRecDepth 100000 in
theorem C_11_360 : Cond.methodLink (zown 11) 360 yX0_copyFrom ∈ zws := z_at 528 (by decide +kernel) (by decide +kernel)
set_option maxRecDepth 100000 in
theorem C_11_375 : Cond.methodLink (zown 11) 375 yX11_commonPart ∈ zws := z_at 1238 (by decide +kernel) (by decide +kernel)
set_option maxRecDepth 100000 in
theorem C_0_40 : Cond.methodLink (zown 0) 40 yX0_seeNothing ∈ zws := z_at 790 (by decide +kernel) (by decide +kernel)
set_option maxRecDepth 100000 in
theorem C_0_51 : Cond.methodLink (zown 0) 51 yX6_doings ∈ zws := z_at 464 (by decide +kernel) (by decide +kernel)
set_option maxRecDepth 100000 in
theorem C_0_73 : Cond.methodLink (zown 0) 73 yX0_shoesOf ∈ zws := z_at 887 (by decide +kernel) (by decide +kernel)
set_option maxRecDepth 100000 in
theorem C_0_76 : Cond.methodLink (zown 0) 76 yX0_move ∈ zws := z_at 452 (by decide +kernel) (by decide +kernel)
set_option maxRecDepth 100000 in
theorem C_0_80 : Cond.methodLink (zown 0) 80 yJ6_bitCount_0f7a4 ∈ zws := z_at 468 (by decide +kernel) (by decide +kernel)
set_option maxRecDepth 100000 in
theorem C_1_33 : Cond.methodLink (zown 1) 33 yX6_rowsOf ∈ zws := z_at 495 (by decide +kernel) (by decide +kernel)
set_option maxRecDepth 100000 in
theorem C_1_42 : Cond.methodLink (zown 1) 42 yX1_emptyRoomsHold ∈ zws := z_at 501 (by decide +kernel) (by decide +kernel)
set_option maxRecDepth 100000 in
theorem C_1_49 : Cond.methodLink (zown 1) 49 yX1_doingsHeld ∈ zws := z_at 505 (by decide +kernel) (by decide +kernel)
set_option maxRecDepth 100000 in
theorem C_1_53 : Cond.methodLink (zown 1) 53 yJ6_bitCount_0f7a4 ∈ zws := z_at 523 (by decide +kernel) (by decide +kernel)
set_option maxRecDepth 100000 in
theorem C_1_73 : Cond.methodLink (zown 1) 73 yX6_doings ∈ zws := z_at 509 (by decide +kernel) (by decide +kernel)
set_option maxRecDepth 100000 in
theorem C_1_75 : Cond.methodLink (zown 1) 75 yX3_doingsBySign ∈ zws := z_at 510 (by decide +kernel) (by decide +kernel)
set_option maxRecDepth 100000 in
theorem C_1_84 : Cond.methodLink (zown 1) 84 yX6_doingsIn ∈ zws := z_at 980 (by decide +kernel) (by decide +kernel)
set_option maxRecDepth 100000 in
theorem C_1_87 : Cond.methodLink (zown 1) 87 yX1_casesWithout ∈ zws := z_at 976 (by decide +kernel) (by decide +kernel)
set_option maxRecDepth 100000 in
theorem C_1_90 : Cond.methodLink (zown 1) 90 yJ9_max_7cf53 ∈ zws := z_at 984 (by decide +kernel) (by decide +kernel)
set_option maxRecDepth 100000 in
theorem C_2_30 : Cond.methodLink (zown 2) 30 yX2_sortDoings ∈ zws := z_at 1018 (by decide +kernel) (by decide +kernel)
set_option maxRecDepth 100000 in
theorem C_2_40 : Cond.methodLink (zown 2) 40 yJ6_bitCount_0f7a4 ∈ zws := z_at 1025 (by decide +kernel) (by decide +kernel)
set_option maxRecDepth 100000 in
theorem C_2_46 : Cond.methodLink (zown 2) 46 yX2_misleads ∈ zws := z_at 1026 (by decide +kernel) (by decide +kernel)
set_option maxRecDepth 100000 in
theorem C_2_50 : Cond.methodLink (zown 2) 50 yX0_doing ∈ zws := z_at 1022 (by decide +kernel) (by decide +kernel)
set_option maxRecDepth 100000 in
theorem C_2_56 : Cond.methodLink (zown 2) 56 yX3_signOf ∈ zws := z_at 1023 (by decide +kernel) (by decide +kernel)
set_option maxRecDepth 100000 in
theorem C_2_61 : Cond.methodLink (zown 2) 61 yX3_doingsBySign ∈ zws := z_at 1024 (by decide +kernel) (by decide +kernel)
set_option maxRecDepth 100000 in
theorem C_2_65 : Cond.methodLink (zown 2) 65 yX6_doingsIn ∈ zws := z_at 1030 (by decide +kernel) (by decide +kernel)
set_option maxRecDepth 100000 in
theorem C_3_19 : Cond.methodLink (zown 3) 19 yX6_lawFor ∈ zws := z_at 519 (by decide +kernel) (by decide +kernel)
set_option maxRecDepth 100000 in
theorem C_3_25 : Cond.methodLink (zown 3) 25 yX0_shoeKinds ∈ zws := z_at 515 (by decide +kernel) (by decide +kernel)
set_option maxRecDepth 100000 in
theorem C_3_34 : Cond.methodLink (zown 3) 34 yX0_doing ∈ zws := z_at 914 (by decide +kernel) (by decide +kernel)
set_option maxRecDepth 100000 in
theorem C_3_38 : Cond.methodLink (zown 3) 38 yX3_signOf ∈ zws := z_at 915 (by decide +kernel) (by decide +kernel)
set_option maxRecDepth 100000 in
theorem C_3_41 : Cond.methodLink (zown 3) 41 yX6_doings ∈ zws := z_at 514 (by decide +kernel) (by decide +kernel)
set_option maxRecDepth 100000 in
theorem C_3_44 : Cond.methodLink (zown 3) 44 yJ6_bitCount_0f7a4 ∈ zws := z_at 1042 (by decide +kernel) (by decide +kernel)
set_option maxRecDepth 100000 in
theorem C_3_49 : Cond.methodLink (zown 3) 49 yX3_doingsBySign ∈ zws := z_at 1043 (by decide +kernel) (by decide +kernel)
set_option maxRecDepth 100000 in
theorem C_3_56 : Cond.methodLink (zown 3) 56 yX3_chanceAt ∈ zws := z_at 1064 (by decide +kernel) (by decide +kernel)
set_option maxRecDepth 100000 in
theorem C_4_38 : Cond.methodLink (zown 4) 38 yX3_worthOf ∈ zws := z_at 1104 (by decide +kernel) (by decide +kernel)
set_option maxRecDepth 100000 in
theorem C_4_44 : Cond.methodLink (zown 4) 44 yX4_layRow ∈ zws := z_at 1105 (by decide +kernel) (by decide +kernel)
set_option maxRecDepth 100000 in
theorem C_4_48 : Cond.methodLink (zown 4) 48 yX4_isAtRest ∈ zws := z_at 1110 (by decide +kernel) (by decide +kernel)
set_option maxRecDepth 100000 in
theorem C_4_58 : Cond.methodLink (zown 4) 58 yJ7_fill_53178 ∈ zws := z_at 1109 (by decide +kernel) (by decide +kernel)
set_option maxRecDepth 100000 in
theorem C_4_64 : Cond.methodLink (zown 4) 64 yX4_share ∈ zws := z_at 1114 (by decide +kernel) (by decide +kernel)
set_option maxRecDepth 100000 in
theorem C_5_42 : Cond.methodLink (zown 5) 42 yJ7_fill_53178 ∈ zws := z_at 1132 (by decide +kernel) (by decide +kernel)
set_option maxRecDepth 100000 in
theorem C_5_54 : Cond.methodLink (zown 5) 54 yX5_countSpare ∈ zws := z_at 1133 (by decide +kernel) (by decide +kernel)
set_option maxRecDepth 100000 in
theorem C_5_58 : Cond.methodLink (zown 5) 58 yX5_isShoeless ∈ zws := z_at 1140 (by decide +kernel) (by decide +kernel)
set_option maxRecDepth 100000 in
theorem C_5_62 : Cond.methodLink (zown 5) 62 yX5_helpfulShoes ∈ zws := z_at 1145 (by decide +kernel) (by decide +kernel)
set_option maxRecDepth 100000 in
theorem C_5_66 : Cond.methodLink (zown 5) 66 yX5_canServe ∈ zws := z_at 1150 (by decide +kernel) (by decide +kernel)
set_option maxRecDepth 100000 in
theorem C_5_70 : Cond.methodLink (zown 5) 70 yX5_serveAll ∈ zws := z_at 1154 (by decide +kernel) (by decide +kernel)
set_option maxRecDepth 100000 in
theorem C_5_83 : Cond.methodLink (zown 5) 83 yX0_doing ∈ zws := z_at 1137 (by decide +kernel) (by decide +kernel)
set_option maxRecDepth 100000 in
theorem C_5_89 : Cond.methodLink (zown 5) 89 yX6_lawFor ∈ zws := z_at 1138 (by decide +kernel) (by decide +kernel)
set_option maxRecDepth 100000 in
theorem C_5_93 : Cond.methodLink (zown 5) 93 yX3_signOf ∈ zws := z_at 1144 (by decide +kernel) (by decide +kernel)
set_option maxRecDepth 100000 in
theorem C_5_98 : Cond.methodLink (zown 5) 98 yX0_shoeKinds ∈ zws := z_at 1149 (by decide +kernel) (by decide +kernel)
set_option maxRecDepth 100000 in
theorem C_5_101 : Cond.methodLink (zown 5) 101 yX0_shoesOf ∈ zws := z_at 1139 (by decide +kernel) (by decide +kernel)
set_option maxRecDepth 100000 in
theorem C_5_104 : Cond.methodLink (zown 5) 104 yX5_serve ∈ zws := z_at 1158 (by decide +kernel) (by decide +kernel)
set_option maxRecDepth 100000 in
theorem C_5_108 : Cond.methodLink (zown 5) 108 yX5_canSpare ∈ zws := z_at 1162 (by decide +kernel) (by decide +kernel)
set_option maxRecDepth 100000 in
theorem C_6_33 : Cond.methodLink (zown 6) 33 yX6_setFirstLaw ∈ zws := z_at 57 (by decide +kernel) (by decide +kernel)
set_option maxRecDepth 100000 in
theorem C_6_52 : Cond.methodLink (zown 6) 52 yJ7_fill_53178 ∈ zws := z_at 624 (by decide +kernel) (by decide +kernel)
set_option maxRecDepth 100000 in
theorem C_6_64 : Cond.methodLink (zown 6) 64 yX6_doings ∈ zws := z_at 499 (by decide +kernel) (by decide +kernel)
set_option maxRecDepth 100000 in
theorem C_6_68 : Cond.methodLink (zown 6) 68 yJ6_bitCount_0f7a4 ∈ zws := z_at 500 (by decide +kernel) (by decide +kernel)
set_option maxRecDepth 100000 in
theorem C_7_19 : Cond.methodLink (zown 7) 19 yJ9_min_7cf53 ∈ zws := z_at 617 (by decide +kernel) (by decide +kernel)
set_option maxRecDepth 100000 in
theorem C_7_38 : Cond.methodLink (zown 7) 38 yX6_clear ∈ zws := z_at 620 (by decide +kernel) (by decide +kernel)
set_option maxRecDepth 100000 in
theorem C_7_43 : Cond.methodLink (zown 7) 43 yX7_advance ∈ zws := z_at 627 (by decide +kernel) (by decide +kernel)
set_option maxRecDepth 100000 in
theorem C_7_49 : Cond.methodLink (zown 7) 49 yX7_readLine ∈ zws := z_at 639 (by decide +kernel) (by decide +kernel)
set_option maxRecDepth 100000 in
theorem C_7_54 : Cond.methodLink (zown 7) 54 yX7_isWord ∈ zws := z_at 644 (by decide +kernel) (by decide +kernel)
set_option maxRecDepth 100000 in
theorem C_7_58 : Cond.methodLink (zown 7) 58 yX7_readRoom ∈ zws := z_at 696 (by decide +kernel) (by decide +kernel)
set_option maxRecDepth 100000 in
theorem C_7_63 : Cond.methodLink (zown 7) 63 yX7_readLodger ∈ zws := z_at 721 (by decide +kernel) (by decide +kernel)
set_option maxRecDepth 100000 in
theorem C_7_68 : Cond.methodLink (zown 7) 68 yX7_readFinder ∈ zws := z_at 736 (by decide +kernel) (by decide +kernel)
set_option maxRecDepth 100000 in
theorem C_7_73 : Cond.methodLink (zown 7) 73 yX7_readMay ∈ zws := z_at 745 (by decide +kernel) (by decide +kernel)
set_option maxRecDepth 100000 in
theorem C_7_78 : Cond.methodLink (zown 7) 78 yX7_readLaw ∈ zws := z_at 767 (by decide +kernel) (by decide +kernel)
set_option maxRecDepth 100000 in
theorem C_7_81 : Cond.methodLink (zown 7) 81 yX7_refuse ∈ zws := z_at 704 (by decide +kernel) (by decide +kernel)
set_option maxRecDepth 100000 in
theorem C_7_88 : Cond.methodLink (zown 7) 88 yX7_isFull ∈ zws := z_at 700 (by decide +kernel) (by decide +kernel)
set_option maxRecDepth 100000 in
theorem C_7_92 : Cond.methodLink (zown 7) 92 yX7_numberWithin ∈ zws := z_at 708 (by decide +kernel) (by decide +kernel)
set_option maxRecDepth 100000 in
theorem C_7_95 : Cond.methodLink (zown 7) 95 yX6_addRoom ∈ zws := z_at 716 (by decide +kernel) (by decide +kernel)
set_option maxRecDepth 100000 in
theorem C_7_102 : Cond.methodLink (zown 7) 102 yX7_toldNumber ∈ zws := z_at 725 (by decide +kernel) (by decide +kernel)
set_option maxRecDepth 100000 in
theorem C_7_109 : Cond.methodLink (zown 7) 109 yX6_addLodger ∈ zws := z_at 729 (by decide +kernel) (by decide +kernel)
set_option maxRecDepth 100000 in
theorem C_7_122 : Cond.methodLink (zown 7) 122 yX6_addFinder ∈ zws := z_at 740 (by decide +kernel) (by decide +kernel)
set_option maxRecDepth 100000 in
theorem C_7_128 : Cond.methodLink (zown 7) 128 yX7_readDoing ∈ zws := z_at 749 (by decide +kernel) (by decide +kernel)
set_option maxRecDepth 100000 in
theorem C_7_131 : Cond.methodLink (zown 7) 131 yX6_addMay ∈ zws := z_at 762 (by decide +kernel) (by decide +kernel)
set_option maxRecDepth 100000 in
theorem C_7_137 : Cond.methodLink (zown 7) 137 yX7_ownDoing ∈ zws := z_at 754 (by decide +kernel) (by decide +kernel)
set_option maxRecDepth 100000 in
theorem C_7_147 : Cond.methodLink (zown 7) 147 yX7_signTold ∈ zws := z_at 771 (by decide +kernel) (by decide +kernel)
set_option maxRecDepth 100000 in
theorem C_7_150 : Cond.methodLink (zown 7) 150 yX6_addLaw ∈ zws := z_at 777 (by decide +kernel) (by decide +kernel)
set_option maxRecDepth 100000 in
theorem C_7_166 : Cond.methodLink (zown 7) 166 yX7_faultOfNumber ∈ zws := z_at 712 (by decide +kernel) (by decide +kernel)
set_option maxRecDepth 100000 in
theorem C_7_175 : Cond.methodLink (zown 7) 175 yJ0_length_8abf5 ∈ zws := z_at 648 (by decide +kernel) (by decide +kernel)
set_option maxRecDepth 100000 in
theorem C_7_180 : Cond.methodLink (zown 7) 180 yJ0_charAt_5068e ∈ zws := z_at 658 (by decide +kernel) (by decide +kernel)
set_option maxRecDepth 100000 in
theorem C_7_184 : Cond.methodLink (zown 7) 184 yX7_takeRow ∈ zws := z_at 631 (by decide +kernel) (by decide +kernel)
set_option maxRecDepth 100000 in
theorem C_7_188 : Cond.methodLink (zown 7) 188 yX7_valueHere ∈ zws := z_at 635 (by decide +kernel) (by decide +kernel)
set_option maxRecDepth 100000 in
theorem C_8_22 : Cond.methodLink (zown 8) 22 yX8_isApart ∈ zws := z_at 1194 (by decide +kernel) (by decide +kernel)
set_option maxRecDepth 100000 in
theorem C_8_26 : Cond.methodLink (zown 8) 26 yJ6_bitCount_0f7a4 ∈ zws := z_at 1198 (by decide +kernel) (by decide +kernel)
set_option maxRecDepth 100000 in
theorem C_10_32 : Cond.methodLink (zown 10) 32 yX10_weigh ∈ zws := z_at 1056 (by decide +kernel) (by decide +kernel)
set_option maxRecDepth 100000 in
theorem C_10_36 : Cond.methodLink (zown 10) 36 yX10_layRow ∈ zws := z_at 1065 (by decide +kernel) (by decide +kernel)
set_option maxRecDepth 100000 in
theorem C_10_40 : Cond.methodLink (zown 10) 40 yX10_worthOfRow ∈ zws := z_at 1069 (by decide +kernel) (by decide +kernel)
set_option maxRecDepth 100000 in
theorem C_10_44 : Cond.methodLink (zown 10) 44 yX10_keepRow ∈ zws := z_at 1081 (by decide +kernel) (by decide +kernel)
set_option maxRecDepth 100000 in
theorem C_10_53 : Cond.methodLink (zown 10) 53 yX3_worthOf ∈ zws := z_at 1060 (by decide +kernel) (by decide +kernel)
set_option maxRecDepth 100000 in
theorem C_10_59 : Cond.methodLink (zown 10) 59 yX10_isLook ∈ zws := z_at 1073 (by decide +kernel) (by decide +kernel)
set_option maxRecDepth 100000 in
theorem C_10_63 : Cond.methodLink (zown 10) 63 yX10_worthAt ∈ zws := z_at 1077 (by decide +kernel) (by decide +kernel)
set_option maxRecDepth 100000 in
theorem C_13_7 : Cond.methodLink (zown 13) 7 yX11_house ∈ zws := z_at 543 (by decide +kernel) (by decide +kernel)
set_option maxRecDepth 100000 in
theorem C_13_15 : Cond.methodLink (zown 13) 15 yX11_count ∈ zws := z_at 795 (by decide +kernel) (by decide +kernel)
set_option maxRecDepth 100000 in
theorem C_13_20 : Cond.methodLink (zown 13) 20 yX11_room ∈ zws := z_at 818 (by decide +kernel) (by decide +kernel)
set_option maxRecDepth 100000 in
theorem C_13_24 : Cond.methodLink (zown 13) 24 yX11_lodger ∈ zws := z_at 834 (by decide +kernel) (by decide +kernel)
set_option maxRecDepth 100000 in
theorem C_13_27 : Cond.methodLink (zown 13) 27 yX11_may ∈ zws := z_at 850 (by decide +kernel) (by decide +kernel)
set_option maxRecDepth 100000 in
theorem C_13_31 : Cond.methodLink (zown 13) 31 yX11_says ∈ zws := z_at 863 (by decide +kernel) (by decide +kernel)
set_option maxRecDepth 100000 in
theorem C_13_34 : Cond.methodLink (zown 13) 34 yX11_lend ∈ zws := z_at 879 (by decide +kernel) (by decide +kernel)
set_option maxRecDepth 100000 in
theorem C_13_37 : Cond.methodLink (zown 13) 37 yX11_does ∈ zws := z_at 895 (by decide +kernel) (by decide +kernel)
set_option maxRecDepth 100000 in
theorem C_13_40 : Cond.methodLink (zown 13) 40 yX11_sign ∈ zws := z_at 906 (by decide +kernel) (by decide +kernel)
set_option maxRecDepth 100000 in
theorem C_13_43 : Cond.methodLink (zown 13) 43 yX11_look ∈ zws := z_at 919 (by decide +kernel) (by decide +kernel)
set_option maxRecDepth 100000 in
theorem C_13_46 : Cond.methodLink (zown 13) 46 yX11_theft ∈ zws := z_at 926 (by decide +kernel) (by decide +kernel)
set_option maxRecDepth 100000 in
theorem C_13_49 : Cond.methodLink (zown 13) 49 yX11_see ∈ zws := z_at 941 (by decide +kernel) (by decide +kernel)
set_option maxRecDepth 100000 in
theorem C_13_52 : Cond.methodLink (zown 13) 52 yX11_inCase ∈ zws := z_at 956 (by decide +kernel) (by decide +kernel)
set_option maxRecDepth 100000 in
theorem C_13_55 : Cond.methodLink (zown 13) 55 yX11_sure ∈ zws := z_at 968 (by decide +kernel) (by decide +kernel)
set_option maxRecDepth 100000 in
theorem C_13_58 : Cond.methodLink (zown 13) 58 yX11_where ∈ zws := z_at 998 (by decide +kernel) (by decide +kernel)
set_option maxRecDepth 100000 in
theorem C_13_61 : Cond.methodLink (zown 13) 61 yX11_misled ∈ zws := z_at 1009 (by decide +kernel) (by decide +kernel)
set_option maxRecDepth 100000 in
theorem C_13_64 : Cond.methodLink (zown 13) 64 yX11_chance ∈ zws := z_at 1034 (by decide +kernel) (by decide +kernel)
set_option maxRecDepth 100000 in
theorem C_13_67 : Cond.methodLink (zown 13) 67 yX11_round ∈ zws := z_at 1047 (by decide +kernel) (by decide +kernel)
set_option maxRecDepth 100000 in
theorem C_13_70 : Cond.methodLink (zown 13) 70 yX11_path ∈ zws := z_at 1088 (by decide +kernel) (by decide +kernel)
set_option maxRecDepth 100000 in
theorem C_13_73 : Cond.methodLink (zown 13) 73 yX11_rests ∈ zws := z_at 1095 (by decide +kernel) (by decide +kernel)
set_option maxRecDepth 100000 in
theorem C_13_76 : Cond.methodLink (zown 13) 76 yX11_fewest ∈ zws := z_at 1123 (by decide +kernel) (by decide +kernel)
set_option maxRecDepth 100000 in
theorem C_13_79 : Cond.methodLink (zown 13) 79 yX11_lender ∈ zws := z_at 1170 (by decide +kernel) (by decide +kernel)
set_option maxRecDepth 100000 in
theorem C_13_82 : Cond.methodLink (zown 13) 82 yX11_kinds ∈ zws := z_at 1178 (by decide +kernel) (by decide +kernel)
set_option maxRecDepth 100000 in
theorem C_13_85 : Cond.methodLink (zown 13) 85 yX11_word ∈ zws := z_at 1206 (by decide +kernel) (by decide +kernel)
set_option maxRecDepth 100000 in
theorem C_13_88 : Cond.methodLink (zown 13) 88 yX11_mend ∈ zws := z_at 1213 (by decide +kernel) (by decide +kernel)
set_option maxRecDepth 100000 in
theorem C_13_91 : Cond.methodLink (zown 13) 91 yX11_fire ∈ zws := z_at 1226 (by decide +kernel) (by decide +kernel)
set_option maxRecDepth 100000 in
theorem C_13_95 : Cond.methodLink (zown 13) 95 yX11_init ∈ zws := z_at 29 (by decide +kernel) (by decide +kernel)
set_option maxRecDepth 100000 in
theorem C_13_98 : Cond.methodLink (zown 13) 98 yX12_init ∈ zws := z_at 1243 (by decide +kernel) (by decide +kernel)
set_option maxRecDepth 100000 in
theorem C_13_99 : Cond.methodLink (zown 13) 99 yX11_feed ∈ zws := z_at 428 (by decide +kernel) (by decide +kernel)
set_option maxRecDepth 100000 in
theorem C_13_103 : Cond.methodLink (zown 13) 103 yX12_feed ∈ zws := z_at 1459 (by decide +kernel) (by decide +kernel)
set_option maxRecDepth 100000 in
theorem C_13_104 : Cond.methodLink (zown 13) 104 yL_house ∈ zws := z_at 539 (by decide +kernel) (by decide +kernel)
set_option maxRecDepth 100000 in
theorem C_13_109 : Cond.methodLink (zown 13) 109 yX12_house ∈ zws := z_at 1467 (by decide +kernel) (by decide +kernel)
set_option maxRecDepth 100000 in
theorem C_13_110 : Cond.methodLink (zown 13) 110 yX12_thrown ∈ zws := z_at 1455 (by decide +kernel) (by decide +kernel)
set_option maxRecDepth 100000 in
theorem C_13_114 : Cond.methodLink (zown 13) 114 yX11_fault ∈ zws := z_at 440 (by decide +kernel) (by decide +kernel)
set_option maxRecDepth 100000 in
theorem C_13_117 : Cond.methodLink (zown 13) 117 yX12_fault ∈ zws := z_at 1547 (by decide +kernel) (by decide +kernel)
set_option maxRecDepth 100000 in
theorem C_13_118 : Cond.methodLink (zown 13) 118 yL_count ∈ zws := z_at 791 (by decide +kernel) (by decide +kernel)
set_option maxRecDepth 100000 in
theorem C_13_120 : Cond.methodLink (zown 13) 120 yX12_count ∈ zws := z_at 1551 (by decide +kernel) (by decide +kernel)
set_option maxRecDepth 100000 in
theorem C_13_121 : Cond.methodLink (zown 13) 121 yL_room ∈ zws := z_at 815 (by decide +kernel) (by decide +kernel)
set_option maxRecDepth 100000 in
theorem C_13_124 : Cond.methodLink (zown 13) 124 yX12_room ∈ zws := z_at 1558 (by decide +kernel) (by decide +kernel)
set_option maxRecDepth 100000 in
theorem C_13_125 : Cond.methodLink (zown 13) 125 yL_lodger ∈ zws := z_at 831 (by decide +kernel) (by decide +kernel)
set_option maxRecDepth 100000 in
theorem C_13_127 : Cond.methodLink (zown 13) 127 yX12_lodger ∈ zws := z_at 1570 (by decide +kernel) (by decide +kernel)
set_option maxRecDepth 100000 in
theorem C_13_128 : Cond.methodLink (zown 13) 128 yL_may ∈ zws := z_at 847 (by decide +kernel) (by decide +kernel)
set_option maxRecDepth 100000 in
theorem C_13_131 : Cond.methodLink (zown 13) 131 yX12_may ∈ zws := z_at 1582 (by decide +kernel) (by decide +kernel)
set_option maxRecDepth 100000 in
theorem C_13_132 : Cond.methodLink (zown 13) 132 yL_says ∈ zws := z_at 860 (by decide +kernel) (by decide +kernel)
set_option maxRecDepth 100000 in
theorem C_13_134 : Cond.methodLink (zown 13) 134 yX12_says ∈ zws := z_at 1596 (by decide +kernel) (by decide +kernel)
set_option maxRecDepth 100000 in
theorem C_13_135 : Cond.methodLink (zown 13) 135 yL_lend ∈ zws := z_at 876 (by decide +kernel) (by decide +kernel)
set_option maxRecDepth 100000 in
theorem C_13_137 : Cond.methodLink (zown 13) 137 yX12_lend ∈ zws := z_at 1612 (by decide +kernel) (by decide +kernel)
set_option maxRecDepth 100000 in
theorem C_13_138 : Cond.methodLink (zown 13) 138 yX11_back ∈ zws := z_at 444 (by decide +kernel) (by decide +kernel)
set_option maxRecDepth 100000 in
theorem C_13_141 : Cond.methodLink (zown 13) 141 yX12_back ∈ zws := z_at 1620 (by decide +kernel) (by decide +kernel)
set_option maxRecDepth 100000 in
theorem C_13_142 : Cond.methodLink (zown 13) 142 yX11_draw ∈ zws := z_at 456 (by decide +kernel) (by decide +kernel)
set_option maxRecDepth 100000 in
theorem C_13_146 : Cond.methodLink (zown 13) 146 yX12_draw ∈ zws := z_at 1624 (by decide +kernel) (by decide +kernel)
set_option maxRecDepth 100000 in
theorem C_13_147 : Cond.methodLink (zown 13) 147 yL_does ∈ zws := z_at 892 (by decide +kernel) (by decide +kernel)
set_option maxRecDepth 100000 in
theorem C_13_149 : Cond.methodLink (zown 13) 149 yX12_does ∈ zws := z_at 1629 (by decide +kernel) (by decide +kernel)
set_option maxRecDepth 100000 in
theorem C_13_150 : Cond.methodLink (zown 13) 150 yL_sign ∈ zws := z_at 903 (by decide +kernel) (by decide +kernel)
set_option maxRecDepth 100000 in
theorem C_13_152 : Cond.methodLink (zown 13) 152 yX12_sign ∈ zws := z_at 1633 (by decide +kernel) (by decide +kernel)
set_option maxRecDepth 100000 in
theorem C_13_153 : Cond.methodLink (zown 13) 153 yL_look ∈ zws := z_at 916 (by decide +kernel) (by decide +kernel)
set_option maxRecDepth 100000 in
theorem C_13_155 : Cond.methodLink (zown 13) 155 yX12_look ∈ zws := z_at 1641 (by decide +kernel) (by decide +kernel)
set_option maxRecDepth 100000 in
theorem C_13_156 : Cond.methodLink (zown 13) 156 yL_theft ∈ zws := z_at 923 (by decide +kernel) (by decide +kernel)
set_option maxRecDepth 100000 in
theorem C_13_158 : Cond.methodLink (zown 13) 158 yX12_theft ∈ zws := z_at 1649 (by decide +kernel) (by decide +kernel)
set_option maxRecDepth 100000 in
theorem C_13_159 : Cond.methodLink (zown 13) 159 yL_see ∈ zws := z_at 938 (by decide +kernel) (by decide +kernel)
set_option maxRecDepth 100000 in
theorem C_13_161 : Cond.methodLink (zown 13) 161 yX12_see ∈ zws := z_at 1653 (by decide +kernel) (by decide +kernel)
set_option maxRecDepth 100000 in
theorem C_13_162 : Cond.methodLink (zown 13) 162 yX11_forget ∈ zws := z_at 478 (by decide +kernel) (by decide +kernel)
set_option maxRecDepth 100000 in
theorem C_13_165 : Cond.methodLink (zown 13) 165 yX12_forget ∈ zws := z_at 1657 (by decide +kernel) (by decide +kernel)
set_option maxRecDepth 100000 in
theorem C_13_166 : Cond.methodLink (zown 13) 166 yX11_cases ∈ zws := z_at 487 (by decide +kernel) (by decide +kernel)
set_option maxRecDepth 100000 in
theorem C_13_169 : Cond.methodLink (zown 13) 169 yX12_cases ∈ zws := z_at 1661 (by decide +kernel) (by decide +kernel)
set_option maxRecDepth 100000 in
theorem C_13_170 : Cond.methodLink (zown 13) 170 yL_inCase ∈ zws := z_at 953 (by decide +kernel) (by decide +kernel)
set_option maxRecDepth 100000 in
theorem C_13_172 : Cond.methodLink (zown 13) 172 yX12_inCase ∈ zws := z_at 1689 (by decide +kernel) (by decide +kernel)
set_option maxRecDepth 100000 in
theorem C_13_173 : Cond.methodLink (zown 13) 173 yL_sure ∈ zws := z_at 965 (by decide +kernel) (by decide +kernel)
set_option maxRecDepth 100000 in
theorem C_13_175 : Cond.methodLink (zown 13) 175 yX12_sure ∈ zws := z_at 1693 (by decide +kernel) (by decide +kernel)
set_option maxRecDepth 100000 in
theorem C_13_176 : Cond.methodLink (zown 13) 176 yL_where ∈ zws := z_at 995 (by decide +kernel) (by decide +kernel)
set_option maxRecDepth 100000 in
theorem C_13_178 : Cond.methodLink (zown 13) 178 yX12_where ∈ zws := z_at 1709 (by decide +kernel) (by decide +kernel)
set_option maxRecDepth 100000 in
theorem C_13_179 : Cond.methodLink (zown 13) 179 yL_misled ∈ zws := z_at 1006 (by decide +kernel) (by decide +kernel)
set_option maxRecDepth 100000 in
theorem C_13_181 : Cond.methodLink (zown 13) 181 yX12_misled ∈ zws := z_at 1713 (by decide +kernel) (by decide +kernel)
set_option maxRecDepth 100000 in
theorem C_13_182 : Cond.methodLink (zown 13) 182 yL_chance ∈ zws := z_at 1031 (by decide +kernel) (by decide +kernel)
set_option maxRecDepth 100000 in
theorem C_13_184 : Cond.methodLink (zown 13) 184 yX12_chance ∈ zws := z_at 1729 (by decide +kernel) (by decide +kernel)
set_option maxRecDepth 100000 in
theorem C_13_185 : Cond.methodLink (zown 13) 185 yL_round ∈ zws := z_at 1044 (by decide +kernel) (by decide +kernel)
set_option maxRecDepth 100000 in
theorem C_13_187 : Cond.methodLink (zown 13) 187 yX12_round ∈ zws := z_at 1737 (by decide +kernel) (by decide +kernel)
set_option maxRecDepth 100000 in
theorem C_13_188 : Cond.methodLink (zown 13) 188 yL_path ∈ zws := z_at 1085 (by decide +kernel) (by decide +kernel)
set_option maxRecDepth 100000 in
theorem C_13_190 : Cond.methodLink (zown 13) 190 yX12_path ∈ zws := z_at 1753 (by decide +kernel) (by decide +kernel)
set_option maxRecDepth 100000 in
theorem C_13_191 : Cond.methodLink (zown 13) 191 yL_rests ∈ zws := z_at 1092 (by decide +kernel) (by decide +kernel)
set_option maxRecDepth 100000 in
theorem C_13_193 : Cond.methodLink (zown 13) 193 yX12_rests ∈ zws := z_at 1757 (by decide +kernel) (by decide +kernel)
set_option maxRecDepth 100000 in
theorem C_13_194 : Cond.methodLink (zown 13) 194 yL_fewest ∈ zws := z_at 1120 (by decide +kernel) (by decide +kernel)
set_option maxRecDepth 100000 in
theorem C_13_196 : Cond.methodLink (zown 13) 196 yX12_fewest ∈ zws := z_at 1769 (by decide +kernel) (by decide +kernel)
set_option maxRecDepth 100000 in
theorem C_13_197 : Cond.methodLink (zown 13) 197 yL_lender ∈ zws := z_at 1167 (by decide +kernel) (by decide +kernel)
set_option maxRecDepth 100000 in
theorem C_13_199 : Cond.methodLink (zown 13) 199 yX12_lender ∈ zws := z_at 1789 (by decide +kernel) (by decide +kernel)
set_option maxRecDepth 100000 in
theorem C_13_200 : Cond.methodLink (zown 13) 200 yL_kinds ∈ zws := z_at 1175 (by decide +kernel) (by decide +kernel)
set_option maxRecDepth 100000 in
theorem C_13_202 : Cond.methodLink (zown 13) 202 yX12_kinds ∈ zws := z_at 1793 (by decide +kernel) (by decide +kernel)
set_option maxRecDepth 100000 in
theorem C_13_203 : Cond.methodLink (zown 13) 203 yL_word ∈ zws := z_at 1203 (by decide +kernel) (by decide +kernel)
set_option maxRecDepth 100000 in
theorem C_13_205 : Cond.methodLink (zown 13) 205 yX12_word ∈ zws := z_at 1808 (by decide +kernel) (by decide +kernel)
set_option maxRecDepth 100000 in
theorem C_13_206 : Cond.methodLink (zown 13) 206 yL_mend ∈ zws := z_at 1210 (by decide +kernel) (by decide +kernel)
set_option maxRecDepth 100000 in
theorem C_13_208 : Cond.methodLink (zown 13) 208 yX12_mend ∈ zws := z_at 1812 (by decide +kernel) (by decide +kernel)
set_option maxRecDepth 100000 in
theorem C_13_209 : Cond.methodLink (zown 13) 209 yL_fire ∈ zws := z_at 1223 (by decide +kernel) (by decide +kernel)
set_option maxRecDepth 100000 in
theorem C_13_212 : Cond.methodLink (zown 13) 212 yX12_fire ∈ zws := z_at 1816 (by decide +kernel) (by decide +kernel)
set_option maxRecDepth 100000 in
theorem C_13_213 : Cond.methodLink (zown 13) 213 yX11_image ∈ zws := z_at 524 (by decide +kernel) (by decide +kernel)
set_option maxRecDepth 100000 in
theorem C_13_216 : Cond.methodLink (zown 13) 216 yX12_image ∈ zws := z_at 1823 (by decide +kernel) (by decide +kernel)
set_option maxRecDepth 100000 in
theorem C_13_217 : Cond.methodLink (zown 13) 217 yX11_restore ∈ zws := z_at 535 (by decide +kernel) (by decide +kernel)
set_option maxRecDepth 100000 in
theorem C_13_221 : Cond.methodLink (zown 13) 221 yX12_restore ∈ zws := z_at 1827 (by decide +kernel) (by decide +kernel)
set_option maxRecDepth 100000 in
theorem C_12_140 : Cond.methodLink (zown 12) 140 yX12_lays ∈ zws := z_at 1463 (by decide +kernel) (by decide +kernel)
set_option maxRecDepth 100000 in
theorem C_12_150 : Cond.methodLink (zown 12) 150 yX12_byteAt ∈ zws := z_at 1479 (by decide +kernel) (by decide +kernel)
set_option maxRecDepth 100000 in
theorem C_12_167 : Cond.methodLink (zown 12) 167 yX12_isLetter ∈ zws := z_at 1483 (by decide +kernel) (by decide +kernel)
set_option maxRecDepth 100000 in
theorem C_12_171 : Cond.methodLink (zown 12) 171 yX12_isDigit ∈ zws := z_at 1486 (by decide +kernel) (by decide +kernel)
set_option maxRecDepth 100000 in
theorem C_12_179 : Cond.methodLink (zown 12) 179 yX12_spelled ∈ zws := z_at 1504 (by decide +kernel) (by decide +kernel)
set_option maxRecDepth 100000 in
theorem C_12_183 : Cond.methodLink (zown 12) 183 yX12_letters ∈ zws := z_at 1501 (by decide +kernel) (by decide +kernel)
set_option maxRecDepth 100000 in
theorem C_12_190 : Cond.methodLink (zown 12) 190 yX12_isGood ∈ zws := z_at 1489 (by decide +kernel) (by decide +kernel)
set_option maxRecDepth 100000 in
theorem C_12_194 : Cond.methodLink (zown 12) 194 yX12_steps ∈ zws := z_at 1475 (by decide +kernel) (by decide +kernel)
set_option maxRecDepth 100000 in
theorem C_12_197 : Cond.methodLink (zown 12) 197 yX12_wrong ∈ zws := z_at 1508 (by decide +kernel) (by decide +kernel)
set_option maxRecDepth 100000 in
theorem C_12_200 : Cond.methodLink (zown 12) 200 yX12_amongHere ∈ zws := z_at 1520 (by decide +kernel) (by decide +kernel)
set_option maxRecDepth 100000 in
theorem C_12_203 : Cond.methodLink (zown 12) 203 yX12_is ∈ zws := z_at 1497 (by decide +kernel) (by decide +kernel)
set_option maxRecDepth 100000 in
theorem C_12_215 : Cond.methodLink (zown 12) 215 yX12_among ∈ zws := z_at 1524 (by decide +kernel) (by decide +kernel)
set_option maxRecDepth 100000 in
theorem C_12_218 : Cond.methodLink (zown 12) 218 yX12_oneOf ∈ zws := z_at 1532 (by decide +kernel) (by decide +kernel)
set_option maxRecDepth 100000 in
theorem C_12_222 : Cond.methodLink (zown 12) 222 yX12_need ∈ zws := z_at 1536 (by decide +kernel) (by decide +kernel)
set_option maxRecDepth 100000 in
theorem C_12_226 : Cond.methodLink (zown 12) 226 yX12_number ∈ zws := z_at 1512 (by decide +kernel) (by decide +kernel)
set_option maxRecDepth 100000 in
theorem C_12_229 : Cond.methodLink (zown 12) 229 yX12_readsLodger ∈ zws := z_at 1516 (by decide +kernel) (by decide +kernel)
set_option maxRecDepth 100000 in
theorem C_12_235 : Cond.methodLink (zown 12) 235 yX12_readsMay ∈ zws := z_at 1528 (by decide +kernel) (by decide +kernel)
set_option maxRecDepth 100000 in
theorem C_12_241 : Cond.methodLink (zown 12) 241 yX12_right ∈ zws := z_at 1471 (by decide +kernel) (by decide +kernel)
set_option maxRecDepth 100000 in
theorem C_12_245 : Cond.methodLink (zown 12) 245 yX12_line ∈ zws := z_at 1493 (by decide +kernel) (by decide +kernel)
set_option maxRecDepth 100000 in
theorem C_12_260 : Cond.methodLink (zown 12) 260 yX12_copies ∈ zws := z_at 1540 (by decide +kernel) (by decide +kernel)
set_option maxRecDepth 100000 in
theorem C_12_280 : Cond.methodLink (zown 12) 280 yX12_lowest ∈ zws := z_at 1544 (by decide +kernel) (by decide +kernel)
set_option maxRecDepth 100000 in
theorem C_12_283 : Cond.methodLink (zown 12) 283 yX12_within ∈ zws := z_at 1555 (by decide +kernel) (by decide +kernel)
set_option maxRecDepth 100000 in
theorem C_12_287 : Cond.methodLink (zown 12) 287 yX12_isRoom ∈ zws := z_at 1562 (by decide +kernel) (by decide +kernel)
set_option maxRecDepth 100000 in
theorem C_12_290 : Cond.methodLink (zown 12) 290 yX12_isTwo ∈ zws := z_at 1566 (by decide +kernel) (by decide +kernel)
set_option maxRecDepth 100000 in
theorem C_12_293 : Cond.methodLink (zown 12) 293 yX12_has ∈ zws := z_at 1578 (by decide +kernel) (by decide +kernel)
set_option maxRecDepth 100000 in
theorem C_12_296 : Cond.methodLink (zown 12) 296 yX12_lawOf ∈ zws := z_at 1604 (by decide +kernel) (by decide +kernel)
set_option maxRecDepth 100000 in
theorem C_12_299 : Cond.methodLink (zown 12) 299 yX12_both ∈ zws := z_at 1608 (by decide +kernel) (by decide +kernel)
set_option maxRecDepth 100000 in
theorem C_12_302 : Cond.methodLink (zown 12) 302 yX12_isLodger ∈ zws := z_at 1574 (by decide +kernel) (by decide +kernel)
set_option maxRecDepth 100000 in
theorem C_12_305 : Cond.methodLink (zown 12) 305 yX12_isHour ∈ zws := z_at 1586 (by decide +kernel) (by decide +kernel)
set_option maxRecDepth 100000 in
theorem C_12_308 : Cond.methodLink (zown 12) 308 yX12_bits ∈ zws := z_at 1590 (by decide +kernel) (by decide +kernel)
set_option maxRecDepth 100000 in
theorem C_12_311 : Cond.methodLink (zown 12) 311 yX12_toldOf ∈ zws := z_at 1593 (by decide +kernel) (by decide +kernel)
set_option maxRecDepth 100000 in
theorem C_12_314 : Cond.methodLink (zown 12) 314 yX12_signOf ∈ zws := z_at 1600 (by decide +kernel) (by decide +kernel)
set_option maxRecDepth 100000 in
theorem C_12_317 : Cond.methodLink (zown 12) 317 yX12_refuses ∈ zws := z_at 1616 (by decide +kernel) (by decide +kernel)
set_option maxRecDepth 100000 in
theorem C_12_321 : Cond.methodLink (zown 12) 321 yX12_signAt ∈ zws := z_at 1637 (by decide +kernel) (by decide +kernel)
set_option maxRecDepth 100000 in
theorem C_12_324 : Cond.methodLink (zown 12) 324 yX12_isFinder ∈ zws := z_at 1645 (by decide +kernel) (by decide +kernel)
set_option maxRecDepth 100000 in
theorem C_12_327 : Cond.methodLink (zown 12) 327 yX12_behind ∈ zws := z_at 1685 (by decide +kernel) (by decide +kernel)
set_option maxRecDepth 100000 in
theorem C_12_334 : Cond.methodLink (zown 12) 334 yX12_fits ∈ zws := z_at 1677 (by decide +kernel) (by decide +kernel)
set_option maxRecDepth 100000 in
theorem C_12_338 : Cond.methodLink (zown 12) 338 yX12_counts ∈ zws := z_at 1681 (by decide +kernel) (by decide +kernel)
set_option maxRecDepth 100000 in
theorem C_12_341 : Cond.methodLink (zown 12) 341 yX12_hour ∈ zws := z_at 1665 (by decide +kernel) (by decide +kernel)
set_option maxRecDepth 100000 in
theorem C_12_345 : Cond.methodLink (zown 12) 345 yX12_isSpent ∈ zws := z_at 1669 (by decide +kernel) (by decide +kernel)
set_option maxRecDepth 100000 in
theorem C_12_348 : Cond.methodLink (zown 12) 348 yX12_seeks ∈ zws := z_at 1673 (by decide +kernel) (by decide +kernel)
set_option maxRecDepth 100000 in
theorem C_12_352 : Cond.methodLink (zown 12) 352 yX12_roomOf ∈ zws := z_at 1705 (by decide +kernel) (by decide +kernel)
set_option maxRecDepth 100000 in
theorem C_12_355 : Cond.methodLink (zown 12) 355 yX12_isSomebody ∈ zws := z_at 1701 (by decide +kernel) (by decide +kernel)
set_option maxRecDepth 100000 in
theorem C_12_359 : Cond.methodLink (zown 12) 359 yX12_with ∈ zws := z_at 1697 (by decide +kernel) (by decide +kernel)
set_option maxRecDepth 100000 in
theorem C_12_362 : Cond.methodLink (zown 12) 362 yX12_another ∈ zws := z_at 1721 (by decide +kernel) (by decide +kernel)
set_option maxRecDepth 100000 in
theorem C_12_365 : Cond.methodLink (zown 12) 365 yX12_turnsDoors ∈ zws := z_at 1725 (by decide +kernel) (by decide +kernel)
set_option maxRecDepth 100000 in
theorem C_12_368 : Cond.methodLink (zown 12) 368 yX12_misleads ∈ zws := z_at 1717 (by decide +kernel) (by decide +kernel)
set_option maxRecDepth 100000 in
theorem C_12_371 : Cond.methodLink (zown 12) 371 yX12_chanceOf ∈ zws := z_at 1733 (by decide +kernel) (by decide +kernel)
set_option maxRecDepth 100000 in
theorem C_12_374 : Cond.methodLink (zown 12) 374 yX12_bestOf ∈ zws := z_at 1745 (by decide +kernel) (by decide +kernel)
set_option maxRecDepth 100000 in
theorem C_12_377 : Cond.methodLink (zown 12) 377 yX12_all ∈ zws := z_at 1741 (by decide +kernel) (by decide +kernel)
set_option maxRecDepth 100000 in
theorem C_12_380 : Cond.methodLink (zown 12) 380 yX12_turnsPath ∈ zws := z_at 1749 (by decide +kernel) (by decide +kernel)
set_option maxRecDepth 100000 in
theorem C_12_383 : Cond.methodLink (zown 12) 383 yX12_there ∈ zws := z_at 1765 (by decide +kernel) (by decide +kernel)
set_option maxRecDepth 100000 in
theorem C_12_386 : Cond.methodLink (zown 12) 386 yX12_isRest ∈ zws := z_at 1761 (by decide +kernel) (by decide +kernel)
set_option maxRecDepth 100000 in
theorem C_12_395 : Cond.methodLink (zown 12) 395 yX12_isFree ∈ zws := z_at 1781 (by decide +kernel) (by decide +kernel)
set_option maxRecDepth 100000 in
theorem C_12_398 : Cond.methodLink (zown 12) 398 yX12_given ∈ zws := z_at 1785 (by decide +kernel) (by decide +kernel)
set_option maxRecDepth 100000 in
theorem C_12_401 : Cond.methodLink (zown 12) 401 yX12_isNeedy ∈ zws := z_at 1773 (by decide +kernel) (by decide +kernel)
set_option maxRecDepth 100000 in
theorem C_12_404 : Cond.methodLink (zown 12) 404 yX12_lendable ∈ zws := z_at 1777 (by decide +kernel) (by decide +kernel)
set_option maxRecDepth 100000 in
theorem C_12_410 : Cond.methodLink (zown 12) 410 yX12_apart ∈ zws := z_at 1805 (by decide +kernel) (by decide +kernel)
set_option maxRecDepth 100000 in
theorem C_12_413 : Cond.methodLink (zown 12) 413 yX12_isCode ∈ zws := z_at 1797 (by decide +kernel) (by decide +kernel)
set_option maxRecDepth 100000 in
theorem C_12_416 : Cond.methodLink (zown 12) 416 yX12_spells ∈ zws := z_at 1801 (by decide +kernel) (by decide +kernel)
set_option maxRecDepth 100000 in
theorem C_12_419 : Cond.methodLink (zown 12) 419 yX12_off ∈ zws := z_at 1820 (by decide +kernel) (by decide +kernel)
end
section
/-! THE WORLD: a memory of numbers. Cells are counted in the order of their making, from the law's first 'new' on; cell c lies at the address B + c; B: the heap's size at the law's entry. -/
/-- ghosts: class numbers and slots; array classes (int, byte, long); B; addresses of what lay there before (texts); the heap at the law's entry -/
abbrev zG : Type := va_G × (ClassId × ClassId × ClassId) × Nat × (Nat → Nat) × Heap
/-- how many cells; their kinds (0, class) (1, length: int[]) (2, length: byte[]) (3, length: long[]) (9, _: nothing is said); references (0: null, q + 1: cell q); ints; longs -/
abbrev zM : Type := Nat × (Nat → Nat × Nat) × (Nat → Nat → Nat) × (Nat → Nat → Int32) × (Nat → Nat → Int64)
def zad (g : zG) (k : Nat) : Nat := if k < 100000 then g.2.2.1 + k else g.2.2.2.1 (k - 100000)
def zc (g : zG) : Value → Value
  | .ref k => .ref (zad g k)
  | v => v
theorem zc_cat (g : zG) (v : Value) : (zc g v).category = v.category := by cases v <;> rfl
def zr : Nat → Value
  | 0 => .null
  | k + 1 => .ref k
/-- what the field k of the cell c, of the class ci, holds -/
def zfv (M : zM) (ci c k : Nat) : Value := match tyT ci k with
  | .long => .long (M.2.2.2.2 c k)
  | .object _ => zr (M.2.2.1 c k)
  | .array _ => zr (M.2.2.1 c k)
  | _ => .int (M.2.2.2.1 c k)
def zcell (g : zG) (M : zM) (H : Heap) (c : Nat) : Prop := match M.2.1 c with
  | (0, ci) => ∃ q : vw_C, zcl[ci]? = some q ∧ t_OB (g.2.2.1 + c) (g.1.1 ci) q.2.2 (g.1.2 ci) H (fun k => zc g (zfv M ci c k))
  | (1, n) => H[g.2.2.1 + c]? = some (arrV g.2.1.1 n (fun j => .int (M.2.2.2.1 c j)))
  | (2, n) => H[g.2.2.1 + c]? = some (arrV g.2.1.2.1 n (fun j => .int (M.2.2.2.1 c j)))
  | (3, n) => H[g.2.2.1 + c]? = some (arrV g.2.1.2.2 n (fun j => .long (M.2.2.2.2 c j)))
  | _ => True
/-- the heap holds the memory -/
def zH (g : zG) (M : zM) (H : Heap) : Prop := H.size = g.2.2.1 + M.1 ∧ (∀ q : Nat, q < g.2.2.1 → H[q]? = g.2.2.2.2[q]?) ∧ ∀ c : Nat, (M.2.1 c).1 ≠ 9 → c < M.1 ∧ c < 100000 ∧ zcell g M H c
def zNest : List Cond := [.methodLinkNest RX11 11 yX9_init RX11, .methodLinkNest RX11 41 yX0_init RX11, .methodLinkNest RX11 99 yX8_init RX11, .methodLinkNest RX0 55 yX11_nthBit RX11, .methodLinkNest RX1 81 yX11_nthBit RX11]
def zCast : List (String × String) := [("java/lang/IllegalArgumentException", "java/lang/IllegalArgumentException"), ("java/util/NoSuchElementException", "java/util/NoSuchElementException")]
def zDecl : List Cond := [.declares ⟨"java/lang/RuntimeException", "<init>", "()V"⟩, .declares ⟨"java/lang/RuntimeException", "<init>", "(Ljava/lang/String;)V"⟩, .declares ⟨"java/lang/Exception", "<init>", "()V"⟩, .declares ⟨"java/lang/Exception", "<init>", "(Ljava/lang/String;)V"⟩, .declares ⟨"java/lang/Throwable", "<init>", "()V"⟩, .declares ⟨"java/lang/Throwable", "<init>", "(Ljava/lang/String;)V"⟩]
/-- the texts: the class, its pool number, the text, its bytes; the reader's words first -/
def zTx : List (String × Nat × String × List Int32) := [(RX7, 52, "room", [114, 111, 111, 109]), (RX7, 61, "lodger", [108, 111, 100, 103, 101, 114]), (RX7, 112, "left", [108, 101, 102, 116]), (RX7, 117, "right", [114, 105, 103, 104, 116]), (RX7, 66, "finder", [102, 105, 110, 100, 101, 114]), (RX7, 71, "may", [109, 97, 121]), (RX7, 135, "at", [97, 116]), (RX7, 154, "out", [111, 117, 116]), (RX7, 156, "asleep", [97, 115, 108, 101, 101, 112]), (RX7, 158, "cross", [99, 114, 111, 115, 115]), (RX7, 160, "calm", [99, 97, 108, 109]), (RX7, 76, "law", [108, 97, 119]), (RX7, 162, "none", [110, 111, 110, 101]), (RX7, 164, "both", [98, 111, 116, 104]), (RX11, 129, "the tape has not so many bytes", [116, 104, 101, 32, 116, 97, 112, 101, 32, 104, 97, 115, 32, 110, 111, 116, 32, 115, 111, 32, 109, 97, 110, 121, 32, 98, 121, 116, 101, 115]), (RX11, 176, "nothing is counted by this number", [110, 111, 116, 104, 105, 110, 103, 32, 105, 115, 32, 99, 111, 117, 110, 116, 101, 100, 32, 98, 121, 32, 116, 104, 105, 115, 32, 110, 117, 109, 98, 101, 114]), (RX11, 363, "no such room", [110, 111, 32, 115, 117, 99, 104, 32, 114, 111, 111, 109]), (RX11, 369, "no such one", [110, 111, 32, 115, 117, 99, 104, 32, 111, 110, 101]), (RX11, 365, "no such lodger", [110, 111, 32, 115, 117, 99, 104, 32, 108, 111, 100, 103, 101, 114]), (RX11, 367, "no such hour", [110, 111, 32, 115, 117, 99, 104, 32, 104, 111, 117, 114]), (RX11, 220, "nothing that he can do", [110, 111, 116, 104, 105, 110, 103, 32, 116, 104, 97, 116, 32, 104, 101, 32, 99, 97, 110, 32, 100, 111]), (RX11, 291, "no such number of hours", [110, 111, 32, 115, 117, 99, 104, 32, 110, 117, 109, 98, 101, 114, 32, 111, 102, 32, 104, 111, 117, 114, 115]), (RX11, 302, "no such number of finders", [110, 111, 32, 115, 117, 99, 104, 32, 110, 117, 109, 98, 101, 114, 32, 111, 102, 32, 102, 105, 110, 100, 101, 114, 115]), (RX11, 307, "no row rests", [110, 111, 32, 114, 111, 119, 32, 114, 101, 115, 116, 115]), (RX11, 312, "no such hours", [110, 111, 32, 115, 117, 99, 104, 32, 104, 111, 117, 114, 115]), (RX11, 317, "no lending is kept", [110, 111, 32, 108, 101, 110, 100, 105, 110, 103, 32, 105, 115, 32, 107, 101, 112, 116]), (RX11, 371, "no such number of words", [110, 111, 32, 115, 117, 99, 104, 32, 110, 117, 109, 98, 101, 114, 32, 111, 102, 32, 119, 111, 114, 100, 115]), (RX11, 373, "no such number of kinds apart", [110, 111, 32, 115, 117, 99, 104, 32, 110, 117, 109, 98, 101, 114, 32, 111, 102, 32, 107, 105, 110, 100, 115, 32, 97, 112, 97, 114, 116]), (RX11, 340, "no such number", [110, 111, 32, 115, 117, 99, 104, 32, 110, 117, 109, 98, 101, 114]), (RX11, 342, "there are not so many words", [116, 104, 101, 114, 101, 32, 97, 114, 101, 32, 110, 111, 116, 32, 115, 111, 32, 109, 97, 110, 121, 32, 119, 111, 114, 100, 115]), (RX11, 347, "no such tenths", [110, 111, 32, 115, 117, 99, 104, 32, 116, 101, 110, 116, 104, 115])]
/-- a text lies there -/
def zStr (B a : Nat) (bs : List Int32) (U : State) (H : Heap) : Prop := ∃ av : Nat, va_O "java/lang/String" a (fun q => B ≤ q) U H ∧ va_OF "java/lang/String" "coder" "B" (.int 0) a (fun q => B ≤ q) U H ∧ va_OF "java/lang/String" "value" "[B" (.ref av) a (fun q => B ≤ q) U H ∧ va_T .byte av bs.length (fun j => .int (bs.getD j 0)) (fun q => B ≤ q) U H
/-- what the tables and the outer heap say -/
def zW (l : Launch) (g : zG) (U : State) : Prop :=
  va_K g.1 zcl [(g.2.1.1, .int), (g.2.1.2.1, .byte), (g.2.1.2.2, .long)] U ∧ g.2.2.2.2.size = g.2.2.1 ∧ l.stackTraces = false ∧
  vx_Zq Bundle.tN "UNASSIGNED_STACK" Bundle.steD (fun q => g.2.2.1 ≤ q) U g.2.2.2.2 ∧ vx_Zq Bundle.tN "SUPPRESSED_SENTINEL" Bundle.listD (fun q => g.2.2.1 ≤ q) U g.2.2.2.2 ∧
  va_Z "java/lang/String" "COMPACT_STRINGS" "Z" (.int 1) (fun q => g.2.2.1 ≤ q) U g.2.2.2.2 ∧
  (∀ w ∈ zNest, va_Nw w U) ∧ (∀ q ∈ zCast, va_Nw (.castable q.1 q.2) U) ∧ va_Nc "java/lang/IllegalArgumentException" "java/util/NoSuchElementException" U ∧
  (∀ (i : Nat) (q : String × Nat × String × List Int32), zTx[i]? = some q → vk_R q.1 q.2.1 q.2.2.1 (g.2.2.2.1 i) U ∧ zStr g.2.2.1 (g.2.2.2.1 i) q.2.2.2 U g.2.2.2.2) ∧ (∀ w ∈ zDecl, va_Nw w U)
theorem zW.warm {l : Launch} {g : zG} {s U : State} (hW : s.WarmedH U.vm) (h : zW l g s) : zW l g U := by
  obtain ⟨h1, h2, h3, h4, h5, h6, h7, h8, h9, h10, h11⟩ := h
  refine ⟨va_K.moved hW.alike h1, h2, h3, vx_Zq.moved hW.alike h4, vx_Zq.moved hW.alike h5, va_Z.moved hW.alike h6, ?_, ?_, va_Nc.moved hW.alike h9, fun i q hq => ⟨vk_R.warm hW (h10 i q hq).1, ?_⟩, ?_⟩
  · intro w hw
    have h := h7 w hw
    simp only [zNest, List.mem_cons, List.not_mem_nil, or_false] at hw
    rcases hw with rfl | rfl | rfl | rfl | rfl <;> exact va_Nw.warmM hW h
  · intro q hq
    exact va_Nw.warmC hW (h8 q hq)
  · obtain ⟨av, b1, b2, b3, b4⟩ := (h10 i q hq).2
    exact ⟨av, va_O.moved hW.alike b1, va_OF.moved hW.alike b2, va_OF.moved hW.alike b3, va_T.moved hW.alike b4⟩
  · intro w hw
    have h := h11 w hw
    simp only [zDecl, List.mem_cons, List.not_mem_nil, or_false] at hw
    rcases hw with rfl | rfl | rfl | rfl | rfl | rfl <;> exact va_Nw.warmD hW h
/-- how a method ends: by a value, or by an exception of a class -/
abbrev zR : Type := Option Value ⊕ String
def zQr (g : zG) (Q : zR → zM → Prop) : Array Value → State → Outcome → State → Prop := fun _ _ o t => ∃ (v : Option Value) (M : zM), o = .returned (v.map (zc g)) ∧ Q (.inl v) M ∧ zH g M t.heap
def zQx (g : zG) (Q : zR → zM → Prop) : String → State → State → Prop := fun E _ t => ∃ M : zM, Q (.inr E) M ∧ zH g M t.heap
def zrm (d mc ms : Nat) : Room := { frames := d, cells := mc, slots := ms, locals := 37 * d }
/-- A METHOD's CONTRACT: called with a in the memory M, with d frames, mc cells, ms slots to spare, it ends by Q -/
def zRet (l : Launch) (d mc ms : Nat) (y : MethodName) (cd : Cond) (a : List Value) (M : zM) (Q : zR → zM → Prop) : Prop :=
  ∀ g : zG, vx_Met l y (cd :: zws) (zrm d mc ms) (va_Pc (a.map (zc g)) (fun U => zW l g U ∧ zH g M U.heap)) (zQr g Q) (zQx g Q) mc ms (fun q => g.2.2.1 ≤ q)
def zCx (l : Launch) (g : zG) (f : zF) (p : Program) (s : State) (m : MethodId) (args : Array Value) (meth : Method) (c : Code) : Prop :=
  p.tables.exec = Jvm.exec ∧ c.code = f.2.1 ∧ meth.sig.returnType = f.2.2.1 ∧ c.maxLocals = f.2.2.2.1 ∧ s.vm.findClass (zown f.1) = some m.cls ∧ meth.locks = false ∧ (∀ w ∈ zws, w.before args s = true) ∧ zW l g s ∧ c.exceptionTable.toList = tableOf f.2.2.2.2.1 ∧ (f.2.2.2.2.2 = true → meth.name = "<init>") ∧ g.2.2.1 ≤ s.heap.size
def zlm (g : zG) (lo : List (Nat × Value)) : List (Nat × Value) := lo.map (fun q => (q.1, zc g q.2))
/-- THE FRAME GOES ON: from pc with these locals, this stack, this memory it ends by Q -/
def zGo (l : Launch) (d mc ms : Nat) (f : zF) (M : zM) (pc : Nat) (lo : List (Nat × Value)) (st : List Value) (Q : zR → zM → Prop) : Prop :=
  ∀ (g : zG) (p : Program) (e : Env) (R : Room) (s : State) (m : MethodId) (args : Array Value) (below : List Frame) (meth : Method) (c : Code) (H : Heap) (locs : List Loc) (cells slots : Nat) (ls : Array Slot),
    zCx l g f p s m args meth c → d ≤ R.frames → 37 * d ≤ R.locals → cells + mc ≤ R.cells → slots + ms ≤ R.slots → (∀ q ∈ locs, g.2.2.1 ≤ q.base) → zH g M H → lv_has ls f.2.2.2.1 (zlm g lo) →
    W p l e R s m args below meth c H locs cells slots (vx_MQ below (zQr g Q) (zQx g Q) args s R.cells R.slots (fun q => g.2.2.1 ≤ q)) (F0 m pc ls (st.map (zc g)))
theorem zlm_args (g : zG) (vs : List Value) : ∀ i : Nat, lv_args i (vs.map (zc g)) = zlm g (lv_args i vs) := by
  induction vs with
  | nil => intro i; rfl
  | cons v vs ih =>
    intro i
    show (i, zc g v) :: lv_args (if (zc g v).category = 2 then i + 2 else i + 1) (vs.map (zc g)) = (i, zc g v) :: zlm g (lv_args (if v.category = 2 then i + 2 else i + 1) vs)
    rw [zc_cat, ih]
theorem zsl_len (g : zG) (vs : List Value) : (lg_sl (vs.map (zc g))).length = (lg_sl vs).length := by
  induction vs with
  | nil => rfl
  | cons v vs ih =>
    have e : ∀ (a : Value) (as : List Value), lg_sl (a :: as) = (if a.category = 2 then [.val a, .second] else [.val a]) ++ lg_sl as := fun a as => rfl
    rw [List.map_cons, e, e, List.length_append, List.length_append, ih, zc_cat]
    by_cases h : v.category = 2 <;> simp [h]
/-- a method's contract out of its body, no handlers -/
theorem zRet_of {l : Launch} {d mc ms nL : Nat} (o : Nat) {y : MethodName} {cc : ByteArray} {ret : Option FieldType} {a : List Value} {M : zM} {Q : zR → zM → Prop} {ini : Bool} (hy : plainName y.cls = true) (ho : zown o = y.cls) (hn : (lg_sl a).length ≤ nL) (hi : ini = true → y.name = "<init>")
    (k : zGo l d mc ms (o, cc, ret, nL, [], ini) M 0 (lv_args 0 a) [] Q) : zRet l d mc ms y (.code y cc nL ret) a M Q := by
  intro g
  refine vx_ofW (cc := cc) (maxL := nL) (ret := ret) hy rfl ?_
  intro p e s m args below meth c s₁ B hml ht hv
  obtain ⟨rfl, hw, hH⟩ := hv
  have hts := atoms_spec (ws := .code y cc nL ret :: zws) B.pre
  have hl := lv_entry (a.map (zc g)) (n := nL) (by rw [zsl_len]; exact hn)
  rw [lg_entry_eq]
  generalize (lg_sl (a.map (zc g)) ++ List.replicate (nL - (lg_sl (a.map (zc g))).length) Slot.unset).toArray = ls at hl ⊢
  rw [zlm_args] at hl
  exact k g p e _ s m _ below meth c s.heap [] 0 0 ls ⟨B.exec, B.bytes, B.returns, hml, (by show s.vm.findClass (zown o) = _; rw [ho]; exact findClass_of_methodNamed B.named), B.notSynchronized, fun w hw => hts w (List.mem_cons_of_mem _ hw), hw, (by
      cases h : c.exceptionTable.toList with
      | nil => rfl
      | cons x xs => exact absurd (List.mem_cons_self (a := x) (l := xs)) (fun hx => ht x (by rw [h]; exact hx))), (fun h => by rw [(name_of_methodNamed B.named B.method).1]; exact hi h), (by rw [hH.1]; exact Nat.le_add_right _ _)⟩
    (Nat.le_refl _) (Nat.le_refl _) (by show 0 + mc ≤ mc; omega) (by show 0 + ms ≤ ms; omega) (fun q hq => by cases hq) hH hl
/-- .. and with handlers -/
theorem zRet_ofH {l : Launch} {d mc ms nL : Nat} (o : Nat) {y : MethodName} {cc : ByteArray} {ret : Option FieldType} {hh : List (Nat × Nat × Nat × Nat)} {a : List Value} {M : zM} {Q : zR → zM → Prop} (hy : plainName y.cls = true) (ho : zown o = y.cls) (hn : (lg_sl a).length ≤ nL)
    (k : zGo l d mc ms (o, cc, ret, nL, hh, false) M 0 (lv_args 0 a) [] Q) : zRet l d mc ms y (.codeWith y cc nL ret hh) a M Q := by
  intro g
  refine vx_ofWH (cc := cc) (maxL := nL) (ret := ret) (hh := hh) hy rfl ?_
  intro p e s m args below meth c s₁ B hml hv
  obtain ⟨rfl, hw, hH⟩ := hv
  have hts := atoms_spec (ws := .codeWith y cc nL ret hh :: zws) B.pre
  have hl := lv_entry (a.map (zc g)) (n := nL) (by rw [zsl_len]; exact hn)
  rw [lg_entry_eq]
  generalize (lg_sl (a.map (zc g)) ++ List.replicate (nL - (lg_sl (a.map (zc g))).length) Slot.unset).toArray = ls at hl ⊢
  rw [zlm_args] at hl
  exact k g p e _ s m _ below meth c s.heap [] 0 0 ls ⟨B.exec, B.bytes, B.returns, hml, (by show s.vm.findClass (zown o) = _; rw [ho]; exact findClass_of_methodNamed B.named), B.notSynchronized, fun w hw => hts w (List.mem_cons_of_mem _ hw), hw, vx_table (x := y) B (hts _ List.mem_cons_self), (fun h => by cases h), (by rw [hH.1]; exact Nat.le_add_right _ _)⟩
    (Nat.le_refl _) (Nat.le_refl _) (by show 0 + mc ≤ mc; omega) (by show 0 + ms ≤ ms; omega) (fun q hq => by cases hq) hH hl
/-- less is asked for -/
theorem zGo.mono {l : Launch} {d mc ms mc' ms' : Nat} {f : zF} {M : zM} {pc : Nat} {lo : List (Nat × Value)} {st : List Value} {Q : zR → zM → Prop} (h : zGo l d mc ms f M pc lo st Q) (h1 : mc ≤ mc') (h2 : ms ≤ ms') : zGo l d mc' ms' f M pc lo st Q :=
  fun g p e R s m args below meth c H locs cells slots ls a1 a2 a3 a4 a5 a6 a7 a8 => h g p e R s m args below meth c H locs cells slots ls a1 a2 a3 (by omega) (by omega) a6 a7 a8
theorem zH.cell {g : zG} {M : zM} {H : Heap} (h : zH g M H) (c : Nat) {a b : Nat} (hk : M.2.1 c = (a, b)) (ha : a ≠ 9) : c < M.1 ∧ zad g c = g.2.2.1 + c ∧ zcell g M H c := by
  obtain ⟨h1, h2, h3⟩ := h.2.2 c (by rw [hk]; exact ha)
  refine ⟨h1, ?_, h3⟩
  unfold zad
  rw [if_pos (by omega)]
/-- a cell is written: the others stay -/
theorem zH.put {g : zG} {M M' : zM} {H H' : Heap} (h : zH g M H) (c : Nat) (h1 : M'.1 = M.1) (h2 : M'.2.1 = M.2.1) (hs : H'.size = H.size) (ho : ∀ q : Nat, q ≠ g.2.2.1 + c → H'[q]? = H[q]?) (hc : c < M.1)
    (hR : ∀ x, x ≠ c → M'.2.2.1 x = M.2.2.1 x) (hI : ∀ x, x ≠ c → M'.2.2.2.1 x = M.2.2.2.1 x) (hJ : ∀ x, x ≠ c → M'.2.2.2.2 x = M.2.2.2.2 x) (hn : zcell g M' H' c) : zH g M' H' := by
  obtain ⟨a1, a2, a3⟩ := h
  refine ⟨by rw [hs, h1]; exact a1, fun q hq => by rw [ho q (by omega)]; exact a2 q hq, fun x hx => ?_⟩
  rw [h2] at hx
  obtain ⟨b1, b2, b3⟩ := a3 x hx
  refine ⟨by rw [h1]; exact b1, b2, ?_⟩
  by_cases hxc : x = c
  · subst hxc; exact hn
  · have e : H'[g.2.2.1 + x]? = H[g.2.2.1 + x]? := ho _ (by omega)
    unfold zcell at b3 ⊢
    rw [h2]
    have ef : ∀ ci k, zfv M' ci x k = zfv M ci x k := fun ci k => by unfold zfv; rw [hR x hxc, hI x hxc, hJ x hxc]
    split at b3
    · obtain ⟨q, q1, q2⟩ := b3
      exact ⟨q, q1, (q2.kept e).to (fun k _ => by rw [ef])⟩
    · rw [e, hI x hxc]; exact b3
    · rw [e, hI x hxc]; exact b3
    · rw [e, hJ x hxc]; exact b3
    · trivial
/-- a cell is made -/
theorem zH.new {g : zG} {M M' : zM} {H H' : Heap} (h : zH g M H) (h1 : M'.1 = M.1 + 1) (hlt : (M'.2.1 M.1).1 ≠ 9 → M.1 < 100000) (h2 : ∀ x, x ≠ M.1 → M'.2.1 x = M.2.1 x) (hs : H'.size = H.size + 1) (ho : ∀ q : Nat, q < H.size → H'[q]? = H[q]?)
    (hR : ∀ x, x ≠ M.1 → M'.2.2.1 x = M.2.2.1 x) (hI : ∀ x, x ≠ M.1 → M'.2.2.2.1 x = M.2.2.2.1 x) (hJ : ∀ x, x ≠ M.1 → M'.2.2.2.2 x = M.2.2.2.2 x) (hn : (M'.2.1 M.1).1 ≠ 9 → zcell g M' H' M.1) : zH g M' H' := by
  obtain ⟨a1, a2, a3⟩ := h
  refine ⟨by rw [hs, h1, a1]; omega, fun q hq => by rw [ho q (by omega)]; exact a2 q hq, fun x hx => ?_⟩
  by_cases hxc : x = M.1
  · subst hxc; exact ⟨by omega, hlt hx, hn hx⟩
  · rw [h2 x hxc] at hx
    obtain ⟨b1, b2, b3⟩ := a3 x hx
    refine ⟨by omega, by omega, ?_⟩
    have e : H'[g.2.2.1 + x]? = H[g.2.2.1 + x]? := ho _ (by omega)
    unfold zcell at b3 ⊢
    rw [h2 x hxc]
    have ef : ∀ ci k, zfv M' ci x k = zfv M ci x k := fun ci k => by unfold zfv; rw [hR x hxc, hI x hxc, hJ x hxc]
    split at b3
    · obtain ⟨q, q1, q2⟩ := b3
      exact ⟨q, q1, (q2.kept e).to (fun k _ => by rw [ef])⟩
    · rw [e, hI x hxc]; exact b3
    · rw [e, hI x hxc]; exact b3
    · rw [e, hJ x hxc]; exact b3
    · trivial
end
section
/-! ONE INSTRUCTION. zI: op, a, b, x, the next pc, targets. zpre reads it off the code; zst says what it does; z_step: zst is right. -/
def zlk : List (Nat × Value) → Nat → Option Value
  | [], _ => none
  | q :: r, i => bif q.1 == i then some q.2 else zlk r i
def zin : List (Nat × Value) → Nat → Value → List (Nat × Value)
  | [], i, v => [(i, v)]
  | q :: r, i, v => bif Nat.blt i q.1 then (i, v) :: q :: r else q :: zin r i v
def zup (lo : List (Nat × Value)) (i : Nat) (v : Value) : List (Nat × Value) := zin (lo.filter (fun q => !(q.1 == i) && !(q.1 + 1 == i && q.2.category == 2))) i v
def zup2 (lo : List (Nat × Value)) (i : Nat) (v : Value) : List (Nat × Value) := zin (lo.filter (fun q => !(q.1 == i) && (!(q.1 == i + 1) && !(q.1 + 1 == i && q.2.category == 2)))) i v
theorem zlk_mem {lo : List (Nat × Value)} {i : Nat} {v : Value} (h : zlk lo i = some v) : (i, v) ∈ lo := by
  induction lo with
  | nil => cases h
  | cons q r ih =>
    unfold zlk at h
    cases hq : (q.1 == i) with
    | true =>
      rw [hq] at h
      have e1 : q.1 = i := by simpa using hq
      have e2 : q.2 = v := Option.some.inj h
      rw [← e1, ← e2]
      exact List.mem_cons_self
    | false => rw [hq] at h; exact List.mem_cons_of_mem _ (ih h)
theorem zin_mem {lo : List (Nat × Value)} {i : Nat} {v : Value} : ∀ q ∈ zin lo i v, q = (i, v) ∨ q ∈ lo := by
  induction lo with
  | nil => intro q h; left; simpa [zin] using h
  | cons a r ih =>
    intro q h
    unfold zin at h
    cases hb : Nat.blt i a.1 with
    | true =>
      rw [hb] at h
      rcases List.mem_cons.mp h with h | h
      · exact Or.inl h
      · exact Or.inr h
    | false =>
      rw [hb] at h
      rcases List.mem_cons.mp h with h | h
      · exact Or.inr (by rw [h]; exact List.mem_cons_self)
      · rcases ih q h with h | h
        · exact Or.inl h
        · exact Or.inr (List.mem_cons_of_mem _ h)
theorem zlv {g : zG} {ls : Array Slot} {nL i : Nat} {lo : List (Nat × Value)} {v : Value} (h : lv_has ls nL (zlm g lo)) (hk : zlk lo i = some v) : ls[i]? = some (.val (zc g v)) :=
  h.2.2 (i, zc g v) (List.mem_map.mpr ⟨(i, v), zlk_mem hk, rfl⟩)
theorem zlm_filter (g : zG) (lo : List (Nat × Value)) (i : Nat) : (zlm g lo).filter (fun q => !(q.1 == i) && !(q.1 + 1 == i && q.2.category == 2)) = zlm g (lo.filter (fun q => !(q.1 == i) && !(q.1 + 1 == i && q.2.category == 2))) := by
  unfold zlm
  rw [List.filter_map]
  congr 1
  congr 1
  funext q
  simp [Function.comp, zc_cat]
theorem zlm_filter2 (g : zG) (lo : List (Nat × Value)) (i : Nat) : (zlm g lo).filter (fun q => !(q.1 == i) && (!(q.1 == i + 1) && !(q.1 + 1 == i && q.2.category == 2))) = zlm g (lo.filter (fun q => !(q.1 == i) && (!(q.1 == i + 1) && !(q.1 + 1 == i && q.2.category == 2)))) := by
  unfold zlm
  rw [List.filter_map]
  congr 1
  congr 1
  funext q
  simp [Function.comp, zc_cat]
theorem zlm_zin {g : zG} {ls : Array Slot} {nL i : Nat} {lo : List (Nat × Value)} {v : Value} (h : lv_has ls nL ((i, zc g v) :: zlm g lo)) : lv_has ls nL (zlm g (zin lo i v)) := by
  refine ⟨h.1, h.2.1, fun q hq => h.2.2 q ?_⟩
  obtain ⟨q', hq', rfl⟩ := List.mem_map.mp hq
  rcases zin_mem q' hq' with rfl | hm
  · exact List.mem_cons_self
  · exact List.mem_cons_of_mem _ (List.mem_map.mpr ⟨q', hm, rfl⟩)
/-- shapes of a stack's top -/
def t1i (st : List Value) (k : Int32 → List Value → Prop) : Prop := match st with
  | .int x :: r => k x r
  | _ => False
def t1l (st : List Value) (k : Int64 → List Value → Prop) : Prop := match st with
  | .long x :: r => k x r
  | _ => False
def t1r (st : List Value) (k : Nat → List Value → Prop) : Prop := match st with
  | .ref x :: r => k x r
  | _ => False
def t2i (st : List Value) (k : Int32 → Int32 → List Value → Prop) : Prop := match st with
  | .int y :: .int x :: r => k x y r
  | _ => False
def t2l (st : List Value) (k : Int64 → Int64 → List Value → Prop) : Prop := match st with
  | .long y :: .long x :: r => k x y r
  | _ => False
def til (st : List Value) (k : Int64 → Int32 → List Value → Prop) : Prop := match st with
  | .int y :: .long x :: r => k x y r
  | _ => False
def tir (st : List Value) (k : Nat → Int32 → List Value → Prop) : Prop := match st with
  | .int y :: .ref x :: r => k x y r
  | _ => False
def tiir (st : List Value) (k : Nat → Int32 → Int32 → List Value → Prop) : Prop := match st with
  | .int z :: .int y :: .ref x :: r => k x y z r
  | _ => False
def tlir (st : List Value) (k : Nat → Int32 → Int64 → List Value → Prop) : Prop := match st with
  | .long z :: .int y :: .ref x :: r => k x y z r
  | _ => False
def tlr (st : List Value) (k : Nat → Int64 → List Value → Prop) : Prop := match st with
  | .long z :: .ref x :: r => k x z r
  | _ => False
def trr (st : List Value) (k : Nat → Nat → List Value → Prop) : Prop := match st with
  | .ref z :: .ref x :: r => k x z r
  | _ => False
theorem t1i_ok {st : List Value} {k : Int32 → List Value → Prop} (h : t1i st k) : ∃ x r, st = .int x :: r ∧ k x r := by
  unfold t1i at h; split at h
  · exact ⟨_, _, rfl, h⟩
  · exact h.elim
theorem t1l_ok {st : List Value} {k : Int64 → List Value → Prop} (h : t1l st k) : ∃ x r, st = .long x :: r ∧ k x r := by
  unfold t1l at h; split at h
  · exact ⟨_, _, rfl, h⟩
  · exact h.elim
theorem t1r_ok {st : List Value} {k : Nat → List Value → Prop} (h : t1r st k) : ∃ x r, st = .ref x :: r ∧ k x r := by
  unfold t1r at h; split at h
  · exact ⟨_, _, rfl, h⟩
  · exact h.elim
theorem t2i_ok {st : List Value} {k : Int32 → Int32 → List Value → Prop} (h : t2i st k) : ∃ x y r, st = .int y :: .int x :: r ∧ k x y r := by
  unfold t2i at h; split at h
  · exact ⟨_, _, _, rfl, h⟩
  · exact h.elim
theorem t2l_ok {st : List Value} {k : Int64 → Int64 → List Value → Prop} (h : t2l st k) : ∃ x y r, st = .long y :: .long x :: r ∧ k x y r := by
  unfold t2l at h; split at h
  · exact ⟨_, _, _, rfl, h⟩
  · exact h.elim
theorem til_ok {st : List Value} {k : Int64 → Int32 → List Value → Prop} (h : til st k) : ∃ x y r, st = .int y :: .long x :: r ∧ k x y r := by
  unfold til at h; split at h
  · exact ⟨_, _, _, rfl, h⟩
  · exact h.elim
theorem tir_ok {st : List Value} {k : Nat → Int32 → List Value → Prop} (h : tir st k) : ∃ x y r, st = .int y :: .ref x :: r ∧ k x y r := by
  unfold tir at h; split at h
  · exact ⟨_, _, _, rfl, h⟩
  · exact h.elim
theorem tiir_ok {st : List Value} {k : Nat → Int32 → Int32 → List Value → Prop} (h : tiir st k) : ∃ x y z r, st = .int z :: .int y :: .ref x :: r ∧ k x y z r := by
  unfold tiir at h; split at h
  · exact ⟨_, _, _, _, rfl, h⟩
  · exact h.elim
theorem tlir_ok {st : List Value} {k : Nat → Int32 → Int64 → List Value → Prop} (h : tlir st k) : ∃ x y z r, st = .long z :: .int y :: .ref x :: r ∧ k x y z r := by
  unfold tlir at h; split at h
  · exact ⟨_, _, _, _, rfl, h⟩
  · exact h.elim
theorem tlr_ok {st : List Value} {k : Nat → Int64 → List Value → Prop} (h : tlr st k) : ∃ x z r, st = .long z :: .ref x :: r ∧ k x z r := by
  unfold tlr at h; split at h
  · exact ⟨_, _, _, rfl, h⟩
  · exact h.elim
theorem trr_ok {st : List Value} {k : Nat → Nat → List Value → Prop} (h : trr st k) : ∃ x z r, st = .ref z :: .ref x :: r ∧ k x z r := by
  unfold trr at h; split at h
  · exact ⟨_, _, _, rfl, h⟩
  · exact h.elim
def t1d (st : List Value) (k : Value → List Value → Prop) : Prop := match st with
  | .int x :: r => k (.int x) r
  | .ref x :: r => k (.ref x) r
  | _ => False
theorem t1d_ok {st : List Value} {k : Value → List Value → Prop} (h : t1d st k) : (∃ x r, st = .int x :: r ∧ k (.int x) r) ∨ ∃ x r, st = .ref x :: r ∧ k (.ref x) r := by
  unfold t1d at h; split at h
  · exact Or.inl ⟨_, _, rfl, h⟩
  · exact Or.inr ⟨_, _, rfl, h⟩
  · exact h.elim
def zif (b : Bool) (p : Prop) : Prop := match b with
  | true => p
  | false => False
theorem zif_ok {b : Bool} {p : Prop} (h : zif b p) : b = true ∧ p := by
  cases b
  · exact h.elim
  · exact ⟨rfl, h⟩
/-- numbers: what an int instruction of two operands answers -/
def zb2 (a : Nat) (x y : Int32) : Int32 := match a with
  | 0 => x + y
  | 1 => x - y
  | 2 => x * y
  | 3 => x &&& y
  | 4 => x ||| y
  | 5 => x ^^^ y
  | 6 => x <<< (y &&& 31)
  | 7 => x >>> (y &&& 31)
  | 8 => (x.toUInt32 >>> (y.toUInt32 &&& Int32.toUInt32 31)).toInt32
  | 9 => x / y
  | _ => x - x / y * y
def zcp (a : Nat) (x y : Int32) : Prop := match a with
  | 0 => x = y
  | 1 => x < y
  | _ => y < x
/-- writes -/
def zu {α : Type} (F : Nat → Nat → α) (c k : Nat) (v : α) : Nat → Nat → α := fun x j => bif x == c && j == k then v else F x j
def zsI (M : zM) (c k : Nat) (v : Int32) : zM := (M.1, M.2.1, M.2.2.1, zu M.2.2.2.1 c k v, M.2.2.2.2)
def zsJ (M : zM) (c k : Nat) (v : Int64) : zM := (M.1, M.2.1, M.2.2.1, M.2.2.2.1, zu M.2.2.2.2 c k v)
def zsR (M : zM) (c k : Nat) (v : Nat) : zM := (M.1, M.2.1, zu M.2.2.1 c k v, M.2.2.2.1, M.2.2.2.2)
/-- a new cell, all of it 0 -/
def znew (M : zM) (kd : Nat × Nat) : zM := (M.1 + 1, fun x => bif x == M.1 then kd else M.2.1 x, fun x j => bif x == M.1 then 0 else M.2.2.1 x j, fun x j => bif x == M.1 then 0 else M.2.2.2.1 x j, fun x j => bif x == M.1 then 0 else M.2.2.2.2 x j)
def zisk (M : zM) (c a b : Nat) : Bool := (M.2.1 c).1 == a && (M.2.1 c).2 == b
def zfin (ci k : Nat) : Bool := match zcl[ci]? with
  | some q => (q.2.1 k).2.2.2
  | none => true
def zpick : List Nat → Nat → Nat → Nat
  | [], _, d => d
  | t :: _, 0, _ => t
  | _ :: r, n + 1, d => zpick r n d
/-- what an instruction does -/
def zst (d : Nat) (f : zF) (e : zI) (mc ms : Nat) (M : zM) (lo : List (Nat × Value)) (st : List Value) (K : Nat → Nat → zM → Nat → List (Nat × Value) → List Value → Prop) (Q : zR → zM → Prop) : Prop := match e with
  | (0, _, _, x, nx, _) => K mc ms M nx lo (.int x :: st)
  | (1, a, _, _, nx, _) => K mc ms M nx lo (.long (Int64.ofNat a) :: st)
  | (2, a, _, _, nx, _) => match zlk lo a with
    | some (.int x) => K mc ms M nx lo (.int x :: st)
    | _ => False
  | (3, a, _, _, nx, _) => match zlk lo a with
    | some (.long x) => K mc ms M nx lo (.long x :: st)
    | _ => False
  | (4, a, _, _, nx, _) => match zlk lo a with
    | some (.ref x) => K mc ms M nx lo (.ref x :: st)
    | _ => False
  | (5, a, _, _, nx, _) => t1i st (fun x r => zif (Nat.blt a f.2.2.2.1) (K mc ms M nx (zup lo a (.int x)) r))
  | (6, a, _, _, nx, _) => t1l st (fun x r => zif (Nat.blt (a + 1) f.2.2.2.1) (K mc ms M nx (zup2 lo a (.long x)) r))
  | (7, a, _, _, nx, _) => t1r st (fun x r => zif (Nat.blt a f.2.2.2.1) (K mc ms M nx (zup lo a (.ref x)) r))
  | (8, a, _, x, nx, _) => match zlk lo a with
    | some (.int y) => zif (Nat.blt a f.2.2.2.1) (K mc ms M nx (zup lo a (.int (y + x))) st)
    | _ => False
  | (9, 9, _, _, nx, _) => t2i st (fun x y r => ¬ y = 0 ∧ K mc ms M nx lo (.int (x / y) :: r))
  | (9, 10, _, _, nx, _) => t2i st (fun x y r => ¬ y = 0 ∧ K mc ms M nx lo (.int (x - x / y * y) :: r))
  | (9, a, _, _, nx, _) => t2i st (fun x y r => K mc ms M nx lo (.int (zb2 a x y) :: r))
  | (10, 0, _, _, nx, _) => t1i st (fun x r => K mc ms M nx lo (.long x.toInt64 :: r))
  | (10, _, _, _, nx, _) => t1i st (fun x r => K mc ms M nx lo (.int x.toInt8.toInt32 :: r))
  | (11, 0, _, _, nx, _) => t2l st (fun x y r => K mc ms M nx lo (.long (x ||| y) :: r))
  | (11, 1, _, _, nx, _) => t2l st (fun x y r => K mc ms M nx lo (.long (x - y) :: r))
  | (11, 2, _, _, nx, _) => t2l st (fun x y r => K mc ms M nx lo (.int (lg_cmp x y) :: r))
  | (11, _, _, _, nx, _) => til st (fun x y r => K mc ms M nx lo (.long (x <<< (y.toInt64 &&& 63)) :: r))
  | (12, _, _, _, nx, _) => t1d st (fun v r => K mc ms M nx lo (v :: v :: r))
  | (13, _, _, _, nx, _) => tir st (fun x y r => K mc ms M nx lo (.int y :: .ref x :: .int y :: .ref x :: r))
  | (14, _, _, _, nx, _) => t1i st (fun _ r => K mc ms M nx lo r)
  | (15, _, _, _, nx, _) => K mc ms M nx lo st
  | (16, a, b, _, nx, _) => t2i st (fun x y r => (zcp a x y → K mc ms M b lo r) ∧ (¬ zcp a x y → K mc ms M nx lo r))
  | (17, a, b, _, nx, _) => t1i st (fun x r => (zcp a x 0 → K mc ms M b lo r) ∧ (¬ zcp a x 0 → K mc ms M nx lo r))
  | (18, a, b, _, nx, _) => t1r st (fun c r => zif (zisk M c 0 a) (K mc ms M nx lo (zfv M a c b :: r)))
  | (19, a, b, _, nx, _) => match tyT a b with
    | .int => tir st (fun c x r => zif (zisk M c 0 a && !zfin a b) (K mc ms (zsI M c b x) nx lo r))
    | .boolean => tir st (fun c x r => zif (zisk M c 0 a && !zfin a b) ((x = 0 ∨ x = 1) ∧ K mc ms (zsI M c b x) nx lo r))
    | .long => tlr st (fun c x r => zif (zisk M c 0 a && !zfin a b) (K mc ms (zsJ M c b x) nx lo r))
    | .object _ => trr st (fun c x r => zif (zisk M c 0 a && (zfin a b && (f.2.2.2.2.2 && Nat.beq f.1 a))) (K mc ms (zsR M c b (x + 1)) nx lo r))
    | .array _ => trr st (fun c x r => zif (zisk M c 0 a && (zfin a b && (f.2.2.2.2.2 && Nat.beq f.1 a))) (K mc ms (zsR M c b (x + 1)) nx lo r))
    | _ => False
  | (20, _, _, _, nx, _) => tir st (fun c i r => zif ((M.2.1 c).1 == 1) (vp_in i (M.2.1 c).2 ∧ K mc ms M nx lo (.int (M.2.2.2.1 c i.toNatClampNeg) :: r)))
  | (21, _, _, _, nx, _) => tiir st (fun c i x r => zif ((M.2.1 c).1 == 1) (vp_in i (M.2.1 c).2 ∧ K mc ms (zsI M c i.toNatClampNeg x) nx lo r))
  | (22, _, _, _, nx, _) => tir st (fun c i r => zif ((M.2.1 c).1 == 2) (vp_in i (M.2.1 c).2 ∧ K mc ms M nx lo (.int (M.2.2.2.1 c i.toNatClampNeg) :: r)))
  | (23, _, _, _, nx, _) => tiir st (fun c i x r => zif ((M.2.1 c).1 == 2) (vp_in i (M.2.1 c).2 ∧ K mc ms (zsI M c i.toNatClampNeg x.toInt8.toInt32) nx lo r))
  | (24, _, _, _, nx, _) => tir st (fun c i r => zif ((M.2.1 c).1 == 3) (vp_in i (M.2.1 c).2 ∧ K mc ms M nx lo (.long (M.2.2.2.2 c i.toNatClampNeg) :: r)))
  | (25, _, _, _, nx, _) => tlir st (fun c i x r => zif ((M.2.1 c).1 == 3) (vp_in i (M.2.1 c).2 ∧ K mc ms (zsJ M c i.toNatClampNeg x) nx lo r))
  | (26, _, _, _, nx, _) => t1r st (fun c r => zif ((M.2.1 c).1 == 1 || (M.2.1 c).1 == 2) (K mc ms M nx lo (.int (Int32.ofNat (M.2.1 c).2) :: r)))
  | (27, _, _, _, _, _) => t1i st (fun x r => r = [] ∧ match f.2.2.1 with
    | some .int => Q (.inl (some (.int x))) M
    | some .boolean => (x = 0 ∨ x = 1) ∧ Q (.inl (some (.int x))) M
    | _ => False)
  | (28, _, _, _, _, _) => t1l st (fun x r => r = [] ∧ match f.2.2.1 with
    | some .long => Q (.inl (some (.long x))) M
    | _ => False)
  | (29, _, _, _, _, _) => st = [] ∧ f.2.2.1 = none ∧ Q (.inl none) M
  | (30, a, b, _, nx, _) => zif (Nat.ble 1 mc && Nat.ble b ms && Nat.blt (M.1 + 1) 100000) (K (mc - 1) (ms - b) (znew M (0, a)) nx lo (.ref M.1 :: st))
  | (31, a, _, _, nx, _) => t1i st (fun n r => zif (Nat.ble 1 a && Nat.ble a 3 && Nat.ble 1 mc && Nat.ble n.toNatClampNeg ms && Nat.ble n.toNatClampNeg 1000000 && decide (¬ n < 0) && Nat.blt (M.1 + 1) 100000) (K (mc - 1) (ms - n.toNatClampNeg) (znew M (a, n.toNatClampNeg)) nx lo (.ref M.1 :: r)))
  | (32, _, b, _, _, ts) => t1i st (fun x r => (∀ k : Nat, k < ts.length → x = Int32.ofNat k → K mc ms M (zpick ts k b) lo r) ∧ ((x < 0 ∨ Int32.ofNat ts.length ≤ x) → K mc ms M b lo r))
  | (35, _, _, _, nx, _) => t1r st (fun _ r => zif (Nat.ble 1 d && Nat.ble ((r.map Value.category).sum) 8) (K mc ms M nx lo r))
  | _ => False
end
section
section
variable {l : Launch} {d mc ms : Nat} {f : zF} {M : zM} {pc : Nat} {lo : List (Nat × Value)} {st : List Value} {Q : zR → zM → Prop}
theorem zs_iconst {n : Int} (hd : decode f.2.1 pc = .ok (.iconst n, 1)) (h : zGo l d mc ms f M (pc + 1) lo (.int (Int32.ofInt n) :: st) Q) : zGo l d mc ms f M pc lo (st) Q := by
  intro g p e R s m args below meth c H locs cells slots ls hC a2 a3 a4 a5 a6 a7 a8
  exact lv_iconst hC.1 hC.2.1 hd rfl (h g p e R s m args below meth c H locs cells slots ls hC a2 a3 a4 a5 a6 a7 a8)
theorem zs_bipush {n : Int} (hd : decode f.2.1 pc = .ok (.bipush n, 2)) (h : zGo l d mc ms f M (pc + 2) lo (.int ((Int8.ofInt n).toInt32) :: st) Q) : zGo l d mc ms f M pc lo (st) Q := by
  intro g p e R s m args below meth c H locs cells slots ls hC a2 a3 a4 a5 a6 a7 a8
  exact lv_bipush hC.1 hC.2.1 hd rfl (h g p e R s m args below meth c H locs cells slots ls hC a2 a3 a4 a5 a6 a7 a8)
theorem zs_sipush {n : Int} (hd : decode f.2.1 pc = .ok (.sipush n, 3)) (h : zGo l d mc ms f M (pc + 3) lo (.int ((Int16.ofInt n).toInt32) :: st) Q) : zGo l d mc ms f M pc lo (st) Q := by
  intro g p e R s m args below meth c H locs cells slots ls hC a2 a3 a4 a5 a6 a7 a8
  exact lv_sipush hC.1 hC.2.1 hd rfl (h g p e R s m args below meth c H locs cells slots ls hC a2 a3 a4 a5 a6 a7 a8)
theorem zs_ldc {i : Nat} {v : Int32} (hv : zcv f.1 i = some v) (hd : decode f.2.1 pc = .ok (.ldc i, 2)) (h : zGo l d mc ms f M (pc + 2) lo (.int v :: st) Q) : zGo l d mc ms f M pc lo (st) Q := by
  intro g p e R s m args below meth c H locs cells slots ls hC a2 a3 a4 a5 a6 a7 a8
  exact lv_ldc hC.1 hC.2.1 hC.2.2.2.2.1 (hC.2.2.2.2.2.2.1 _ (zcv_ok hv)) hd (h g p e R s m args below meth c H locs cells slots ls hC a2 a3 a4 a5 a6 a7 a8)
theorem zs_ldcw {i : Nat} {v : Int32} (hv : zcv f.1 i = some v) (hd : decode f.2.1 pc = .ok (.ldc_w i, 3)) (h : zGo l d mc ms f M (pc + 3) lo (.int v :: st) Q) : zGo l d mc ms f M pc lo (st) Q := by
  intro g p e R s m args below meth c H locs cells slots ls hC a2 a3 a4 a5 a6 a7 a8
  exact lv_ldcw hC.1 hC.2.1 hC.2.2.2.2.1 (hC.2.2.2.2.2.2.1 _ (zcv_ok hv)) hd (h g p e R s m args below meth c H locs cells slots ls hC a2 a3 a4 a5 a6 a7 a8)
theorem zs_lconst {n : Fin 2} (hd : decode f.2.1 pc = .ok (.lconst n, 1)) (h : zGo l d mc ms f M (pc + 1) lo (.long (Int64.ofNat n.val) :: st) Q) : zGo l d mc ms f M pc lo (st) Q := by
  intro g p e R s m args below meth c H locs cells slots ls hC a2 a3 a4 a5 a6 a7 a8
  exact lv_lconst hC.1 hC.2.1 hd rfl (h g p e R s m args below meth c H locs cells slots ls hC a2 a3 a4 a5 a6 a7 a8)
theorem zs_ldc2 (ho : f.1 = 12) (hd : decode f.2.1 pc = .ok (.ldc2_w 177, 3)) (h : zGo l d mc ms f M (pc + 3) lo (.long (Int64.ofNat 96) :: st) Q) : zGo l d mc ms f M pc lo (st) Q := by
  intro g p e R s m args below meth c H locs cells slots ls hC a2 a3 a4 a5 a6 a7 a8
  exact lv_ldc2 (v := 96) hC.1 hC.2.1 hC.2.2.2.2.1 (by rw [ho]; exact hC.2.2.2.2.2.2.1 _ zkl) hd (h g p e R s m args below meth c H locs cells slots ls hC a2 a3 a4 a5 a6 a7 a8)
theorem zs_iload {i : Nat} {x : Int32} (hx : zlk lo i = some (.int x)) (hd : decode f.2.1 pc = .ok (.iload i, 2)) (h : zGo l d mc ms f M (pc + 2) lo (.int x :: st) Q) : zGo l d mc ms f M pc lo (st) Q := by
  intro g p e R s m args below meth c H locs cells slots ls hC a2 a3 a4 a5 a6 a7 a8
  exact lv_iload hC.1 hC.2.1 hd (zlv a8 hx) (h g p e R s m args below meth c H locs cells slots ls hC a2 a3 a4 a5 a6 a7 a8)
theorem zs_iload_n {k : Fin 4} {x : Int32} (hx : zlk lo k.val = some (.int x)) (hd : decode f.2.1 pc = .ok (.iload_n k, 1)) (h : zGo l d mc ms f M (pc + 1) lo (.int x :: st) Q) : zGo l d mc ms f M pc lo (st) Q := by
  intro g p e R s m args below meth c H locs cells slots ls hC a2 a3 a4 a5 a6 a7 a8
  exact lv_iload_n hC.1 hC.2.1 hd rfl (zlv a8 hx) (h g p e R s m args below meth c H locs cells slots ls hC a2 a3 a4 a5 a6 a7 a8)
theorem zs_lload {i : Nat} {x : Int64} (hx : zlk lo i = some (.long x)) (hd : decode f.2.1 pc = .ok (.lload i, 2)) (h : zGo l d mc ms f M (pc + 2) lo (.long x :: st) Q) : zGo l d mc ms f M pc lo (st) Q := by
  intro g p e R s m args below meth c H locs cells slots ls hC a2 a3 a4 a5 a6 a7 a8
  exact lv_lload hC.1 hC.2.1 hd (zlv a8 hx) (h g p e R s m args below meth c H locs cells slots ls hC a2 a3 a4 a5 a6 a7 a8)
theorem zs_aload {i : Nat} {x : Nat} (hx : zlk lo i = some (.ref x)) (hd : decode f.2.1 pc = .ok (.aload i, 2)) (h : zGo l d mc ms f M (pc + 2) lo (.ref x :: st) Q) : zGo l d mc ms f M pc lo (st) Q := by
  intro g p e R s m args below meth c H locs cells slots ls hC a2 a3 a4 a5 a6 a7 a8
  exact lv_aload hC.1 hC.2.1 hd (zlv a8 hx) (h g p e R s m args below meth c H locs cells slots ls hC a2 a3 a4 a5 a6 a7 a8)
theorem zs_aload_n {k : Fin 4} {x : Nat} (hx : zlk lo k.val = some (.ref x)) (hd : decode f.2.1 pc = .ok (.aload_n k, 1)) (h : zGo l d mc ms f M (pc + 1) lo (.ref x :: st) Q) : zGo l d mc ms f M pc lo (st) Q := by
  intro g p e R s m args below meth c H locs cells slots ls hC a2 a3 a4 a5 a6 a7 a8
  exact lv_aload_n hC.1 hC.2.1 hd rfl (zlv a8 hx) (h g p e R s m args below meth c H locs cells slots ls hC a2 a3 a4 a5 a6 a7 a8)
theorem zs_iadd {x y : Int32} (hd : decode f.2.1 pc = .ok (.iadd, 1)) (h : zGo l d mc ms f M (pc + 1) lo (.int (x + y) :: st) Q) : zGo l d mc ms f M pc lo (.int y :: .int x :: st) Q := by
  intro g p e R s m args below meth c H locs cells slots ls hC a2 a3 a4 a5 a6 a7 a8
  exact lv_iadd hC.1 hC.2.1 hd (h g p e R s m args below meth c H locs cells slots ls hC a2 a3 a4 a5 a6 a7 a8)
theorem zs_isub {x y : Int32} (hd : decode f.2.1 pc = .ok (.isub, 1)) (h : zGo l d mc ms f M (pc + 1) lo (.int (x - y) :: st) Q) : zGo l d mc ms f M pc lo (.int y :: .int x :: st) Q := by
  intro g p e R s m args below meth c H locs cells slots ls hC a2 a3 a4 a5 a6 a7 a8
  exact lv_isub hC.1 hC.2.1 hd (h g p e R s m args below meth c H locs cells slots ls hC a2 a3 a4 a5 a6 a7 a8)
theorem zs_imul {x y : Int32} (hd : decode f.2.1 pc = .ok (.imul, 1)) (h : zGo l d mc ms f M (pc + 1) lo (.int (x * y) :: st) Q) : zGo l d mc ms f M pc lo (.int y :: .int x :: st) Q := by
  intro g p e R s m args below meth c H locs cells slots ls hC a2 a3 a4 a5 a6 a7 a8
  exact lv_imul hC.1 hC.2.1 hd (h g p e R s m args below meth c H locs cells slots ls hC a2 a3 a4 a5 a6 a7 a8)
theorem zs_iand {x y : Int32} (hd : decode f.2.1 pc = .ok (.iand, 1)) (h : zGo l d mc ms f M (pc + 1) lo (.int (x &&& y) :: st) Q) : zGo l d mc ms f M pc lo (.int y :: .int x :: st) Q := by
  intro g p e R s m args below meth c H locs cells slots ls hC a2 a3 a4 a5 a6 a7 a8
  exact lv_iand hC.1 hC.2.1 hd (h g p e R s m args below meth c H locs cells slots ls hC a2 a3 a4 a5 a6 a7 a8)
theorem zs_ior {x y : Int32} (hd : decode f.2.1 pc = .ok (.ior, 1)) (h : zGo l d mc ms f M (pc + 1) lo (.int (x ||| y) :: st) Q) : zGo l d mc ms f M pc lo (.int y :: .int x :: st) Q := by
  intro g p e R s m args below meth c H locs cells slots ls hC a2 a3 a4 a5 a6 a7 a8
  exact lv_ior hC.1 hC.2.1 hd (h g p e R s m args below meth c H locs cells slots ls hC a2 a3 a4 a5 a6 a7 a8)
theorem zs_ixor {x y : Int32} (hd : decode f.2.1 pc = .ok (.ixor, 1)) (h : zGo l d mc ms f M (pc + 1) lo (.int (x ^^^ y) :: st) Q) : zGo l d mc ms f M pc lo (.int y :: .int x :: st) Q := by
  intro g p e R s m args below meth c H locs cells slots ls hC a2 a3 a4 a5 a6 a7 a8
  exact lv_ixor hC.1 hC.2.1 hd (h g p e R s m args below meth c H locs cells slots ls hC a2 a3 a4 a5 a6 a7 a8)
theorem zs_ishl {x y : Int32} (hd : decode f.2.1 pc = .ok (.ishl, 1)) (h : zGo l d mc ms f M (pc + 1) lo (.int (x <<< (y &&& 31)) :: st) Q) : zGo l d mc ms f M pc lo (.int y :: .int x :: st) Q := by
  intro g p e R s m args below meth c H locs cells slots ls hC a2 a3 a4 a5 a6 a7 a8
  exact lv_ishl hC.1 hC.2.1 hd (h g p e R s m args below meth c H locs cells slots ls hC a2 a3 a4 a5 a6 a7 a8)
theorem zs_ishr {x y : Int32} (hd : decode f.2.1 pc = .ok (.ishr, 1)) (h : zGo l d mc ms f M (pc + 1) lo (.int (x >>> (y &&& 31)) :: st) Q) : zGo l d mc ms f M pc lo (.int y :: .int x :: st) Q := by
  intro g p e R s m args below meth c H locs cells slots ls hC a2 a3 a4 a5 a6 a7 a8
  exact lv_ishr hC.1 hC.2.1 hd (h g p e R s m args below meth c H locs cells slots ls hC a2 a3 a4 a5 a6 a7 a8)
theorem zs_iushr {x y : Int32} (hd : decode f.2.1 pc = .ok (.iushr, 1)) (h : zGo l d mc ms f M (pc + 1) lo (.int ((x.toUInt32 >>> (y.toUInt32 &&& Int32.toUInt32 31)).toInt32) :: st) Q) : zGo l d mc ms f M pc lo (.int y :: .int x :: st) Q := by
  intro g p e R s m args below meth c H locs cells slots ls hC a2 a3 a4 a5 a6 a7 a8
  exact lv_iushr hC.1 hC.2.1 hd rfl (h g p e R s m args below meth c H locs cells slots ls hC a2 a3 a4 a5 a6 a7 a8)
theorem zs_idiv {x y : Int32} (hd : decode f.2.1 pc = .ok (.idiv, 1)) (hn : ¬ y = 0) (h : zGo l d mc ms f M (pc + 1) lo (.int (x / y) :: st) Q) : zGo l d mc ms f M pc lo (.int y :: .int x :: st) Q := by
  intro g p e R s m args below meth c H locs cells slots ls hC a2 a3 a4 a5 a6 a7 a8
  exact lv_idiv hC.1 hC.2.1 hd hn (h g p e R s m args below meth c H locs cells slots ls hC a2 a3 a4 a5 a6 a7 a8)
theorem zs_irem {x y : Int32} (hd : decode f.2.1 pc = .ok (.irem, 1)) (hn : ¬ y = 0) (h : zGo l d mc ms f M (pc + 1) lo (.int (x - x / y * y) :: st) Q) : zGo l d mc ms f M pc lo (.int y :: .int x :: st) Q := by
  intro g p e R s m args below meth c H locs cells slots ls hC a2 a3 a4 a5 a6 a7 a8
  exact lv_irem hC.1 hC.2.1 hd hn (h g p e R s m args below meth c H locs cells slots ls hC a2 a3 a4 a5 a6 a7 a8)
theorem zs_i2l {x : Int32} (hd : decode f.2.1 pc = .ok (.i2l, 1)) (h : zGo l d mc ms f M (pc + 1) lo (.long x.toInt64 :: st) Q) : zGo l d mc ms f M pc lo (.int x :: st) Q := by
  intro g p e R s m args below meth c H locs cells slots ls hC a2 a3 a4 a5 a6 a7 a8
  exact lv_i2l hC.1 hC.2.1 hd rfl (h g p e R s m args below meth c H locs cells slots ls hC a2 a3 a4 a5 a6 a7 a8)
theorem zs_i2b {x : Int32} (hd : decode f.2.1 pc = .ok (.i2b, 1)) (h : zGo l d mc ms f M (pc + 1) lo (.int x.toInt8.toInt32 :: st) Q) : zGo l d mc ms f M pc lo (.int x :: st) Q := by
  intro g p e R s m args below meth c H locs cells slots ls hC a2 a3 a4 a5 a6 a7 a8
  exact lv_i2b hC.1 hC.2.1 hd rfl (h g p e R s m args below meth c H locs cells slots ls hC a2 a3 a4 a5 a6 a7 a8)
theorem zs_lor {x y : Int64} (hd : decode f.2.1 pc = .ok (.lor, 1)) (h : zGo l d mc ms f M (pc + 1) lo (.long (x ||| y) :: st) Q) : zGo l d mc ms f M pc lo (.long y :: .long x :: st) Q := by
  intro g p e R s m args below meth c H locs cells slots ls hC a2 a3 a4 a5 a6 a7 a8
  exact lv_lor hC.1 hC.2.1 hd (h g p e R s m args below meth c H locs cells slots ls hC a2 a3 a4 a5 a6 a7 a8)
theorem zs_lsub {x y : Int64} (hd : decode f.2.1 pc = .ok (.lsub, 1)) (h : zGo l d mc ms f M (pc + 1) lo (.long (x - y) :: st) Q) : zGo l d mc ms f M pc lo (.long y :: .long x :: st) Q := by
  intro g p e R s m args below meth c H locs cells slots ls hC a2 a3 a4 a5 a6 a7 a8
  exact lv_lsub hC.1 hC.2.1 hd (h g p e R s m args below meth c H locs cells slots ls hC a2 a3 a4 a5 a6 a7 a8)
theorem zs_lcmp {x y : Int64} (hd : decode f.2.1 pc = .ok (.lcmp, 1)) (h : zGo l d mc ms f M (pc + 1) lo (.int (lg_cmp x y) :: st) Q) : zGo l d mc ms f M pc lo (.long y :: .long x :: st) Q := by
  intro g p e R s m args below meth c H locs cells slots ls hC a2 a3 a4 a5 a6 a7 a8
  exact W.lcmp hC.1 hC.2.1 hd (h g p e R s m args below meth c H locs cells slots ls hC a2 a3 a4 a5 a6 a7 a8)
theorem zs_lshl {x : Int64} {y : Int32} (hd : decode f.2.1 pc = .ok (.lshl, 1)) (h : zGo l d mc ms f M (pc + 1) lo (.long (x <<< (y.toInt64 &&& 63)) :: st) Q) : zGo l d mc ms f M pc lo (.int y :: .long x :: st) Q := by
  intro g p e R s m args below meth c H locs cells slots ls hC a2 a3 a4 a5 a6 a7 a8
  exact lv_lshl hC.1 hC.2.1 hd rfl (h g p e R s m args below meth c H locs cells slots ls hC a2 a3 a4 a5 a6 a7 a8)
theorem zs_dupi {x : Int32} (hd : decode f.2.1 pc = .ok (.dup, 1)) (h : zGo l d mc ms f M (pc + 1) lo (.int x :: .int x :: st) Q) : zGo l d mc ms f M pc lo (.int x :: st) Q := by
  intro g p e R s m args below meth c H locs cells slots ls hC a2 a3 a4 a5 a6 a7 a8
  exact lv_dup hC.1 hC.2.1 hd rfl (h g p e R s m args below meth c H locs cells slots ls hC a2 a3 a4 a5 a6 a7 a8)
theorem zs_dupr {x : Nat} (hd : decode f.2.1 pc = .ok (.dup, 1)) (h : zGo l d mc ms f M (pc + 1) lo (.ref x :: .ref x :: st) Q) : zGo l d mc ms f M pc lo (.ref x :: st) Q := by
  intro g p e R s m args below meth c H locs cells slots ls hC a2 a3 a4 a5 a6 a7 a8
  exact lv_dup hC.1 hC.2.1 hd rfl (h g p e R s m args below meth c H locs cells slots ls hC a2 a3 a4 a5 a6 a7 a8)
theorem zs_dup2 {x : Nat} {y : Int32} (hd : decode f.2.1 pc = .ok (.dup2, 1)) (h : zGo l d mc ms f M (pc + 1) lo (.int y :: .ref x :: .int y :: .ref x :: st) Q) : zGo l d mc ms f M pc lo (.int y :: .ref x :: st) Q := by
  intro g p e R s m args below meth c H locs cells slots ls hC a2 a3 a4 a5 a6 a7 a8
  exact lv_dup2_11 hC.1 hC.2.1 hd rfl rfl (h g p e R s m args below meth c H locs cells slots ls hC a2 a3 a4 a5 a6 a7 a8)
theorem zs_popi {x : Int32} (hd : decode f.2.1 pc = .ok (.pop, 1)) (h : zGo l d mc ms f M (pc + 1) lo (st) Q) : zGo l d mc ms f M pc lo (.int x :: st) Q := by
  intro g p e R s m args below meth c H locs cells slots ls hC a2 a3 a4 a5 a6 a7 a8
  exact lv_pop (va := .int x) hC.1 hC.2.1 hd rfl (h g p e R s m args below meth c H locs cells slots ls hC a2 a3 a4 a5 a6 a7 a8)
theorem zs_goto {off : Int} (hd : decode f.2.1 pc = .ok (.goto off, 3)) (hg : zgo pc off = true) (h : zGo l d mc ms f M (ztg pc off) lo st Q) : zGo l d mc ms f M pc lo st Q := by
  intro g p e R s m args below meth c H locs cells slots ls hC a2 a3 a4 a5 a6 a7 a8
  exact lv_goto hC.1 hC.2.1 hd (ztg_ok hg) (h g p e R s m args below meth c H locs cells slots ls hC a2 a3 a4 a5 a6 a7 a8)
theorem zs_icmp_eq {x y : Int32} {off : Int} (hd : decode f.2.1 pc = .ok (.if_icmp .eq off, 3)) (hg : zgo pc off = true) (h : (zcp 0 x y → zGo l d mc ms f M (ztg pc off) lo st Q) ∧ (¬ zcp 0 x y → zGo l d mc ms f M (pc + 3) lo st Q)) : zGo l d mc ms f M pc lo (.int y :: .int x :: st) Q := by
  intro g p e R s m args below meth c H locs cells slots ls hC a2 a3 a4 a5 a6 a7 a8
  exact lv_icmp_eq hC.1 hC.2.1 hd (ztg_ok hg) (fun z => h.1 z g p e R s m args below meth c H locs cells slots ls hC a2 a3 a4 a5 a6 a7 a8) (fun z => h.2 z g p e R s m args below meth c H locs cells slots ls hC a2 a3 a4 a5 a6 a7 a8)
theorem zs_if_eq {x : Int32} {off : Int} (hd : decode f.2.1 pc = .ok (.ifCond .eq off, 3)) (hg : zgo pc off = true) (h : (zcp 0 x 0 → zGo l d mc ms f M (ztg pc off) lo st Q) ∧ (¬ zcp 0 x 0 → zGo l d mc ms f M (pc + 3) lo st Q)) : zGo l d mc ms f M pc lo (.int x :: st) Q := by
  intro g p e R s m args below meth c H locs cells slots ls hC a2 a3 a4 a5 a6 a7 a8
  exact lv_if_eq hC.1 hC.2.1 hd (ztg_ok hg) (fun z => h.1 z g p e R s m args below meth c H locs cells slots ls hC a2 a3 a4 a5 a6 a7 a8) (fun z => h.2 z g p e R s m args below meth c H locs cells slots ls hC a2 a3 a4 a5 a6 a7 a8)
theorem zs_icmp_ne {x y : Int32} {off : Int} (hd : decode f.2.1 pc = .ok (.if_icmp .ne off, 3)) (hg : zgo pc off = true) (h : (zcp 0 x y → zGo l d mc ms f M (pc + 3) lo st Q) ∧ (¬ zcp 0 x y → zGo l d mc ms f M (ztg pc off) lo st Q)) : zGo l d mc ms f M pc lo (.int y :: .int x :: st) Q := by
  intro g p e R s m args below meth c H locs cells slots ls hC a2 a3 a4 a5 a6 a7 a8
  exact lv_icmp_ne hC.1 hC.2.1 hd (ztg_ok hg) (fun z => h.2 z g p e R s m args below meth c H locs cells slots ls hC a2 a3 a4 a5 a6 a7 a8) (fun z => h.1 z g p e R s m args below meth c H locs cells slots ls hC a2 a3 a4 a5 a6 a7 a8)
theorem zs_if_ne {x : Int32} {off : Int} (hd : decode f.2.1 pc = .ok (.ifCond .ne off, 3)) (hg : zgo pc off = true) (h : (zcp 0 x 0 → zGo l d mc ms f M (pc + 3) lo st Q) ∧ (¬ zcp 0 x 0 → zGo l d mc ms f M (ztg pc off) lo st Q)) : zGo l d mc ms f M pc lo (.int x :: st) Q := by
  intro g p e R s m args below meth c H locs cells slots ls hC a2 a3 a4 a5 a6 a7 a8
  exact lv_if_ne hC.1 hC.2.1 hd (ztg_ok hg) (fun z => h.2 z g p e R s m args below meth c H locs cells slots ls hC a2 a3 a4 a5 a6 a7 a8) (fun z => h.1 z g p e R s m args below meth c H locs cells slots ls hC a2 a3 a4 a5 a6 a7 a8)
theorem zs_icmp_lt {x y : Int32} {off : Int} (hd : decode f.2.1 pc = .ok (.if_icmp .lt off, 3)) (hg : zgo pc off = true) (h : (zcp 1 x y → zGo l d mc ms f M (ztg pc off) lo st Q) ∧ (¬ zcp 1 x y → zGo l d mc ms f M (pc + 3) lo st Q)) : zGo l d mc ms f M pc lo (.int y :: .int x :: st) Q := by
  intro g p e R s m args below meth c H locs cells slots ls hC a2 a3 a4 a5 a6 a7 a8
  exact lv_icmp_lt hC.1 hC.2.1 hd (ztg_ok hg) (fun z => h.1 z g p e R s m args below meth c H locs cells slots ls hC a2 a3 a4 a5 a6 a7 a8) (fun z => h.2 z g p e R s m args below meth c H locs cells slots ls hC a2 a3 a4 a5 a6 a7 a8)
theorem zs_if_lt {x : Int32} {off : Int} (hd : decode f.2.1 pc = .ok (.ifCond .lt off, 3)) (hg : zgo pc off = true) (h : (zcp 1 x 0 → zGo l d mc ms f M (ztg pc off) lo st Q) ∧ (¬ zcp 1 x 0 → zGo l d mc ms f M (pc + 3) lo st Q)) : zGo l d mc ms f M pc lo (.int x :: st) Q := by
  intro g p e R s m args below meth c H locs cells slots ls hC a2 a3 a4 a5 a6 a7 a8
  exact lv_if_lt hC.1 hC.2.1 hd (ztg_ok hg) (fun z => h.1 z g p e R s m args below meth c H locs cells slots ls hC a2 a3 a4 a5 a6 a7 a8) (fun z => h.2 z g p e R s m args below meth c H locs cells slots ls hC a2 a3 a4 a5 a6 a7 a8)
theorem zs_icmp_ge {x y : Int32} {off : Int} (hd : decode f.2.1 pc = .ok (.if_icmp .ge off, 3)) (hg : zgo pc off = true) (h : (zcp 1 x y → zGo l d mc ms f M (pc + 3) lo st Q) ∧ (¬ zcp 1 x y → zGo l d mc ms f M (ztg pc off) lo st Q)) : zGo l d mc ms f M pc lo (.int y :: .int x :: st) Q := by
  intro g p e R s m args below meth c H locs cells slots ls hC a2 a3 a4 a5 a6 a7 a8
  exact lv_icmp_ge hC.1 hC.2.1 hd (ztg_ok hg) (fun z => h.2 (Int32.not_lt.mpr z) g p e R s m args below meth c H locs cells slots ls hC a2 a3 a4 a5 a6 a7 a8) (fun z => h.1 (Int32.not_le.mp z) g p e R s m args below meth c H locs cells slots ls hC a2 a3 a4 a5 a6 a7 a8)
theorem zs_if_ge {x : Int32} {off : Int} (hd : decode f.2.1 pc = .ok (.ifCond .ge off, 3)) (hg : zgo pc off = true) (h : (zcp 1 x 0 → zGo l d mc ms f M (pc + 3) lo st Q) ∧ (¬ zcp 1 x 0 → zGo l d mc ms f M (ztg pc off) lo st Q)) : zGo l d mc ms f M pc lo (.int x :: st) Q := by
  intro g p e R s m args below meth c H locs cells slots ls hC a2 a3 a4 a5 a6 a7 a8
  exact lv_if_ge hC.1 hC.2.1 hd (ztg_ok hg) (fun z => h.2 (Int32.not_lt.mpr z) g p e R s m args below meth c H locs cells slots ls hC a2 a3 a4 a5 a6 a7 a8) (fun z => h.1 (Int32.not_le.mp z) g p e R s m args below meth c H locs cells slots ls hC a2 a3 a4 a5 a6 a7 a8)
theorem zs_icmp_gt {x y : Int32} {off : Int} (hd : decode f.2.1 pc = .ok (.if_icmp .gt off, 3)) (hg : zgo pc off = true) (h : (zcp 2 x y → zGo l d mc ms f M (ztg pc off) lo st Q) ∧ (¬ zcp 2 x y → zGo l d mc ms f M (pc + 3) lo st Q)) : zGo l d mc ms f M pc lo (.int y :: .int x :: st) Q := by
  intro g p e R s m args below meth c H locs cells slots ls hC a2 a3 a4 a5 a6 a7 a8
  exact lv_icmp_gt hC.1 hC.2.1 hd (ztg_ok hg) (fun z => h.1 z g p e R s m args below meth c H locs cells slots ls hC a2 a3 a4 a5 a6 a7 a8) (fun z => h.2 z g p e R s m args below meth c H locs cells slots ls hC a2 a3 a4 a5 a6 a7 a8)
theorem zs_if_gt {x : Int32} {off : Int} (hd : decode f.2.1 pc = .ok (.ifCond .gt off, 3)) (hg : zgo pc off = true) (h : (zcp 2 x 0 → zGo l d mc ms f M (ztg pc off) lo st Q) ∧ (¬ zcp 2 x 0 → zGo l d mc ms f M (pc + 3) lo st Q)) : zGo l d mc ms f M pc lo (.int x :: st) Q := by
  intro g p e R s m args below meth c H locs cells slots ls hC a2 a3 a4 a5 a6 a7 a8
  exact lv_if_gt hC.1 hC.2.1 hd (ztg_ok hg) (fun z => h.1 z g p e R s m args below meth c H locs cells slots ls hC a2 a3 a4 a5 a6 a7 a8) (fun z => h.2 z g p e R s m args below meth c H locs cells slots ls hC a2 a3 a4 a5 a6 a7 a8)
theorem zs_icmp_le {x y : Int32} {off : Int} (hd : decode f.2.1 pc = .ok (.if_icmp .le off, 3)) (hg : zgo pc off = true) (h : (zcp 2 x y → zGo l d mc ms f M (pc + 3) lo st Q) ∧ (¬ zcp 2 x y → zGo l d mc ms f M (ztg pc off) lo st Q)) : zGo l d mc ms f M pc lo (.int y :: .int x :: st) Q := by
  intro g p e R s m args below meth c H locs cells slots ls hC a2 a3 a4 a5 a6 a7 a8
  exact lv_icmp_le hC.1 hC.2.1 hd (ztg_ok hg) (fun z => h.2 (Int32.not_lt.mpr z) g p e R s m args below meth c H locs cells slots ls hC a2 a3 a4 a5 a6 a7 a8) (fun z => h.1 (Int32.not_le.mp z) g p e R s m args below meth c H locs cells slots ls hC a2 a3 a4 a5 a6 a7 a8)
theorem zs_if_le {x : Int32} {off : Int} (hd : decode f.2.1 pc = .ok (.ifCond .le off, 3)) (hg : zgo pc off = true) (h : (zcp 2 x 0 → zGo l d mc ms f M (pc + 3) lo st Q) ∧ (¬ zcp 2 x 0 → zGo l d mc ms f M (ztg pc off) lo st Q)) : zGo l d mc ms f M pc lo (.int x :: st) Q := by
  intro g p e R s m args below meth c H locs cells slots ls hC a2 a3 a4 a5 a6 a7 a8
  exact lv_if_le hC.1 hC.2.1 hd (ztg_ok hg) (fun z => h.2 (Int32.not_lt.mpr z) g p e R s m args below meth c H locs cells slots ls hC a2 a3 a4 a5 a6 a7 a8) (fun z => h.1 (Int32.not_le.mp z) g p e R s m args below meth c H locs cells slots ls hC a2 a3 a4 a5 a6 a7 a8)
theorem zs_istore {i : Nat} {x : Int32} (hd : decode f.2.1 pc = .ok (.istore i, 2)) (hi : Nat.blt i f.2.2.2.1 = true) (h : zGo l d mc ms f M (pc + 2) (zup lo i (.int x)) st Q) : zGo l d mc ms f M pc lo (.int x :: st) Q := by
  intro g p e R s m args below meth c H locs cells slots ls hC a2 a3 a4 a5 a6 a7 a8
  refine lv_istore hC.1 hC.2.1 hd a8 (Nat.blt_eq.mp hi) rfl (fun ls' hl => h g p e R s m args below meth c H locs cells slots ls' hC a2 a3 a4 a5 a6 a7 ?_)
  rw [zlm_filter] at hl
  exact zlm_zin (v := .int x) hl
theorem zs_istore_n {k : Fin 4} {x : Int32} (hd : decode f.2.1 pc = .ok (.istore_n k, 1)) (hi : Nat.blt k.val f.2.2.2.1 = true) (h : zGo l d mc ms f M (pc + 1) (zup lo k.val (.int x)) st Q) : zGo l d mc ms f M pc lo (.int x :: st) Q := by
  intro g p e R s m args below meth c H locs cells slots ls hC a2 a3 a4 a5 a6 a7 a8
  refine lv_istore_n hC.1 hC.2.1 hd rfl a8 (Nat.blt_eq.mp hi) rfl (fun ls' hl => h g p e R s m args below meth c H locs cells slots ls' hC a2 a3 a4 a5 a6 a7 ?_)
  rw [zlm_filter] at hl
  exact zlm_zin (v := .int x) hl
theorem zs_astore {i : Nat} {x : Nat} (hd : decode f.2.1 pc = .ok (.astore i, 2)) (hi : Nat.blt i f.2.2.2.1 = true) (h : zGo l d mc ms f M (pc + 2) (zup lo i (.ref x)) st Q) : zGo l d mc ms f M pc lo (.ref x :: st) Q := by
  intro g p e R s m args below meth c H locs cells slots ls hC a2 a3 a4 a5 a6 a7 a8
  refine lv_astore hC.1 hC.2.1 hd a8 (Nat.blt_eq.mp hi) rfl (fun ls' hl => h g p e R s m args below meth c H locs cells slots ls' hC a2 a3 a4 a5 a6 a7 ?_)
  rw [zlm_filter] at hl
  exact zlm_zin (v := .ref x) hl
theorem zs_astore_n {k : Fin 4} {x : Nat} (hd : decode f.2.1 pc = .ok (.astore_n k, 1)) (hi : Nat.blt k.val f.2.2.2.1 = true) (h : zGo l d mc ms f M (pc + 1) (zup lo k.val (.ref x)) st Q) : zGo l d mc ms f M pc lo (.ref x :: st) Q := by
  intro g p e R s m args below meth c H locs cells slots ls hC a2 a3 a4 a5 a6 a7 a8
  refine lv_astore_n hC.1 hC.2.1 hd rfl a8 (Nat.blt_eq.mp hi) rfl (fun ls' hl => h g p e R s m args below meth c H locs cells slots ls' hC a2 a3 a4 a5 a6 a7 ?_)
  rw [zlm_filter] at hl
  exact zlm_zin (v := .ref x) hl
theorem zs_lstore {i : Nat} {x : Int64} (hd : decode f.2.1 pc = .ok (.lstore i, 2)) (hi : Nat.blt (i + 1) f.2.2.2.1 = true) (h : zGo l d mc ms f M (pc + 2) (zup2 lo i (.long x)) st Q) : zGo l d mc ms f M pc lo (.long x :: st) Q := by
  intro g p e R s m args below meth c H locs cells slots ls hC a2 a3 a4 a5 a6 a7 a8
  refine lv_lstore hC.1 hC.2.1 hd a8 (Nat.blt_eq.mp hi) rfl (fun ls' hl => h g p e R s m args below meth c H locs cells slots ls' hC a2 a3 a4 a5 a6 a7 ?_)
  rw [zlm_filter2] at hl
  exact zlm_zin (v := .long x) hl
theorem zs_iinc {i : Nat} {n : Int} {x : Int32} (hd : decode f.2.1 pc = .ok (.iinc i n, 3)) (hx : zlk lo i = some (.int x)) (hi : Nat.blt i f.2.2.2.1 = true) (h : zGo l d mc ms f M (pc + 3) (zup lo i (.int (x + Int32.ofInt n))) st Q) : zGo l d mc ms f M pc lo st Q := by
  intro g p e R s m args below meth c H locs cells slots ls hC a2 a3 a4 a5 a6 a7 a8
  obtain ⟨k, hk⟩ := List.getElem?_of_mem (List.mem_map.mpr ⟨(i, .int x), zlk_mem hx, rfl⟩ : (i, Value.int x) ∈ zlm g lo)
  refine lv_iinc hC.1 hC.2.1 hd a8 hk rfl (Nat.blt_eq.mp hi) rfl (fun ls' hl => h g p e R s m args below meth c H locs cells slots ls' hC a2 a3 a4 a5 a6 a7 ?_)
  rw [zlm_filter] at hl
  exact zlm_zin (v := .int (x + Int32.ofInt n)) hl
theorem zisk_ok {c a b : Nat} (h : zisk M c a b = true) : M.2.1 c = (a, b) := by
  unfold zisk at h
  simp only [Bool.and_eq_true, beq_iff_eq] at h
  exact Prod.ext h.1 h.2
theorem zK1 {k : Nat} (h : (k == 1) = true) {x : Nat × Nat} (hx : x.1 = k) : x = (1, x.2) := by
  have e : k = 1 := by simpa using h
  exact Prod.ext (hx.trans e) rfl
theorem zs_get {i a b c0 : Nat} (hd : decode f.2.1 pc = .ok (.getfield i, 3)) (hf : zfd f.1 i = some (a, b)) (hk : zisk M c0 0 a = true) (h : zGo l d mc ms f M (pc + 3) lo (zfv M a c0 b :: st) Q) : zGo l d mc ms f M pc lo (.ref c0 :: st) Q := by
  intro g p e R s m args below meth c H locs cells slots ls hC a2 a3 a4 a5 a6 a7 a8
  obtain ⟨q, hq, hb, hlink⟩ := zfd_ok hf
  have hk := zisk_ok hk
  obtain ⟨-, had, hce⟩ := a7.cell c0 hk (by decide)
  unfold zcell at hce
  rw [hk] at hce
  obtain ⟨q', hq', cell, q1, q2, q3, q4⟩ := hce
  cases Option.some.inj (hq.symm.trans hq')
  obtain ⟨hx, hcb, hr, hml, hown, hlocks, hts, hw, ht, hin⟩ := id hC
  obtain ⟨hS, hfc, kC, hkC, hkind⟩ := hw.1.1 a q hq
  obtain ⟨cf, kf, fi, fd, hi, hsl⟩ := hS b hb
  have hl0 := u_lays hts (z_lays a q hq) hb
  show W p l e R s m args below meth c H locs cells slots _ (F0 m pc ls (.ref (zad g c0) :: st.map (zc g)))
  rw [had]
  exact W.getf hx hcb hown (hts _ hlink) hi (u_facts hfc hkC hl0 hi).1 q1 (by rw [q3]; exact fun h => by cases h) (v := zc g (zfv M a c0 b)) (by rw [hsl]; exact q4 b hb) rfl rfl hd (h g p e R s m args below meth c H locs cells slots ls hC a2 a3 a4 a5 a6 a7 a8)
end
end
section
section
variable {l : Launch} {d mc ms : Nat} {f : zF} {M : zM} {pc : Nat} {lo : List (Nat × Value)} {st : List Value} {Q : zR → zM → Prop}
theorem zkk {c a : Nat} (h : ((M.2.1 c).1 == a) = true) : M.2.1 c = (a, (M.2.1 c).2) := Prod.ext (by simpa using h) rfl
theorem zu_same {α : Type} (F : Nat → Nat → α) (c k : Nat) (v : α) : zu F c k v c k = v := by simp [zu]
theorem zu_ne {α : Type} (F : Nat → Nat → α) {c k x j : Nat} (v : α) (h : x ≠ c ∨ j ≠ k) : zu F c k v x j = F x j := by
  unfold zu
  cases h1 : (x == c && j == k) with
  | false => rfl
  | true =>
    simp only [Bool.and_eq_true, beq_iff_eq] at h1
    rcases h with h | h
    · exact absurd h1.1 h
    · exact absurd h1.2 h
theorem zu_row {α : Type} (F : Nat → Nat → α) {c k x : Nat} (v : α) (h : x ≠ c) : zu F c k v x = F x := funext fun j => zu_ne F v (Or.inl h)
theorem zu_arr {α : Type} (F : Nat → Nat → α) (c k : Nat) (v : α) (w : α → Value) : (fun j => w (zu F c k v c j)) = updV (fun j => w (F c j)) k (w v) := by
  funext j
  unfold updV
  by_cases h : j = k
  · subst h; rw [zu_same, if_pos rfl]
  · rw [zu_ne F v (Or.inr h), if_neg h]
/-- a field of a new value: the memory that holds it -/
theorem zfld {g : zG} {M' : zM} {H H' : Heap} {a b c0 fs : Nat} {q : vw_C} {v : Value} {cell : Cell} {s : State} (hH : zH g M H) (hk : M.2.1 c0 = (0, a)) (hq : zcl[a]? = some q) (hb : b < q.2.2) (q1 : H[g.2.2.1 + c0]? = some cell) (q2 : cell.cls = g.1.1 a) (q3 : cell.vm = .none) (q4 : ∀ k, k < q.2.2 → cell.slots[g.1.2 a k]? = some (zc g (zfv M a c0 k)))
    (hap : ∀ x y, x < q.2.2 → y < q.2.2 → x ≠ y → g.1.2 a x ≠ g.1.2 a y) (hsl : fs = g.1.2 a b)
    (e1 : H'[g.2.2.1 + c0]? = some (cell.setSlot fs v)) (e2 : H'.size = H.size) (e3 : ∀ x, x ≠ g.2.2.1 + c0 → H'[x]? = H[x]?)
    (m1 : M'.1 = M.1) (m2 : M'.2.1 = M.2.1) (mR : ∀ x, x ≠ c0 → M'.2.2.1 x = M.2.2.1 x) (mI : ∀ x, x ≠ c0 → M'.2.2.2.1 x = M.2.2.2.1 x) (mJ : ∀ x, x ≠ c0 → M'.2.2.2.2 x = M.2.2.2.2 x)
    (mv : zc g (zfv M' a c0 b) = v) (mo : ∀ k, k < q.2.2 → k ≠ b → zfv M' a c0 k = zfv M a c0 k) : zH g M' H' := by
  refine hH.put c0 m1 m2 e2 e3 (hH.cell c0 hk (by decide)).1 mR mI mJ ?_
  unfold zcell
  rw [m2, hk]
  refine ⟨q, hq, ?_⟩
  rw [hsl] at e1
  have h1 : t_OB (g.2.2.1 + c0) (g.1.1 a) q.2.2 (g.1.2 a) H' (updV (fun k => zc g (zfv M a c0 k)) b v) := ⟨_, e1, q2, q3, t_set q4 hap hb v⟩
  refine h1.to (fun k hkq => ?_)
  unfold updV
  by_cases h : k = b
  · subst h; rw [if_pos rfl]; exact mv.symm
  · rw [if_neg h, mo k hkq h]
theorem zfinT {a b : Nat} {q : vw_C} (hq : zcl[a]? = some q) (h : zfin a b = true) : (q.2.1 b).2.2.2 = true := by
  unfold zfin at h; rw [hq] at h; exact h
theorem zfinF {a b : Nat} {q : vw_C} (hq : zcl[a]? = some q) (h : (!zfin a b) = true) : (q.2.1 b).2.2.2 = false := by
  unfold zfin at h; rw [hq] at h; simpa using h
/-- a store into a field that isn't final -/
theorem zs_put {M' : zM} {i a b c0 : Nat} {v : Value} {ty : FieldType} (hd : decode f.2.1 pc = .ok (.putfield i, 3)) (hf : zfd f.1 i = some (a, b)) (hk : zisk M c0 0 a = true) (hfin : (!zfin a b) = true) (hty : tyT a b = ty) (hn : ∀ g, narrow ty (zc g v) = zc g v) (hfit : ∀ g, fits ty (zc g v) = true)
    (m1 : M'.1 = M.1) (m2 : M'.2.1 = M.2.1) (mR : ∀ x, x ≠ c0 → M'.2.2.1 x = M.2.2.1 x) (mI : ∀ x, x ≠ c0 → M'.2.2.2.1 x = M.2.2.2.1 x) (mJ : ∀ x, x ≠ c0 → M'.2.2.2.2 x = M.2.2.2.2 x)
    (mv : zfv M' a c0 b = v) (mo : ∀ k, k ≠ b → zfv M' a c0 k = zfv M a c0 k)
    (h : zGo l d mc ms f M' (pc + 3) lo st Q) : zGo l d mc ms f M pc lo (v :: .ref c0 :: st) Q := by
  intro g p e R s m args below meth c H locs cells slots ls hC a2 a3 a4 a5 a6 a7 a8
  obtain ⟨q, hq, hb, hlink⟩ := zfd_ok hf
  have hk := zisk_ok hk
  obtain ⟨-, had, hce⟩ := a7.cell c0 hk (by decide)
  unfold zcell at hce
  rw [hk] at hce
  obtain ⟨q', hq', cell, q1, q2, q3, q4⟩ := hce
  cases Option.some.inj (hq.symm.trans hq')
  obtain ⟨hx, hcb, hr, hml, hown, hlocks, hts, hw, ht, hin⟩ := id hC
  have hap := va_apart (own := zown f.1) hts (z_lays a q hq) (tyT a) (z_ty a q hq) (z_nm a q hq) hw.1 hq
  obtain ⟨hS, hfc, kC, hkC, hkind⟩ := hw.1.1 a q hq
  obtain ⟨cf, kf, fi, fd, hi, hsl⟩ := hS b hb
  have hlay := hts _ (z_lays a q hq _ (u_in_lay hb))
  unfold u_lay at hlay
  rw [if_neg (by rw [zfinF hq hfin]; decide)] at hlay
  have hst := (u_facts hfc hkC (u_lays hts (z_lays a q hq) hb) hi).1
  have h6 := u_store (v := zc g v) hfc hkC hkind hlay hi ((z_ty a q hq b hb).trans (by rw [hty])) (hn g) (hfit g)
  show W p l e R s m args below meth c H locs cells slots _ (F0 m pc ls (zc g v :: .ref (zad g c0) :: st.map (zc g)))
  rw [had]
  refine W.putK hx hcb (f := fd) ⟨hown, hts _ hlink, ⟨_, _, _, hi⟩, hst⟩ (by rw [q2]; exact h6) q1 q3 (by rw [hsl]; exact k2_hasslot (q4 b hb)) rfl rfl hd fun H' e1 e2 e3 => ?_
  refine h g p e R s m args below meth c H' _ cells slots ls hC a2 a3 a4 a5 (fun z hz => ?_) (zfld (s := s) a7 hk hq hb q1 q2 q3 q4 hap hsl e1 e2 e3 m1 m2 mR mI mJ (by rw [mv]) (fun k _ hk => mo k hk)) a8
  rcases List.mem_append.mp hz with hz | hz
  · exact a6 z hz
  · rw [List.mem_singleton.mp hz]; exact Nat.le_add_right _ _
/-- a store into a final field, in a constructor of its class -/
theorem zs_putF {M' : zM} {i a b c0 : Nat} {v : Value} {ty : FieldType} (hd : decode f.2.1 pc = .ok (.putfield i, 3)) (hf : zfd f.1 i = some (a, b)) (hk : zisk M c0 0 a = true) (hfin : zfin a b = true) (hini : f.2.2.2.2.2 = true) (hoa : f.1 = a) (hty : tyT a b = ty) (hn : ∀ g, narrow ty (zc g v) = zc g v) (hfit : ∀ g, fits ty (zc g v) = true)
    (m1 : M'.1 = M.1) (m2 : M'.2.1 = M.2.1) (mR : ∀ x, x ≠ c0 → M'.2.2.1 x = M.2.2.1 x) (mI : ∀ x, x ≠ c0 → M'.2.2.2.1 x = M.2.2.2.1 x) (mJ : ∀ x, x ≠ c0 → M'.2.2.2.2 x = M.2.2.2.2 x)
    (mv : zfv M' a c0 b = v) (mo : ∀ k, k ≠ b → zfv M' a c0 k = zfv M a c0 k)
    (h : zGo l d mc ms f M' (pc + 3) lo st Q) : zGo l d mc ms f M pc lo (v :: .ref c0 :: st) Q := by
  intro g p e R s m args below meth c H locs cells slots ls hC a2 a3 a4 a5 a6 a7 a8
  obtain ⟨q, hq, hb, hlink⟩ := zfd_ok hf
  have hk := zisk_ok hk
  obtain ⟨-, had, hce⟩ := a7.cell c0 hk (by decide)
  unfold zcell at hce
  rw [hk] at hce
  obtain ⟨q', hq', cell, q1, q2, q3, q4⟩ := hce
  cases Option.some.inj (hq.symm.trans hq')
  obtain ⟨hx, hcb, hr, hml, hown, hlocks, hts, hw, ht, hin⟩ := id hC
  have hap := va_apart (own := zown f.1) hts (z_lays a q hq) (tyT a) (z_ty a q hq) (z_nm a q hq) hw.1 hq
  obtain ⟨hS, hfc, kC, hkC, hkind⟩ := hw.1.1 a q hq
  obtain ⟨cf, kf, fi, fd, hi, hsl⟩ := hS b hb
  have hlay := hts _ (z_lays a q hq _ (u_in_lay hb))
  unfold u_lay at hlay
  rw [if_pos (zfinT hq hfin)] at hlay
  have hst := (u_facts hfc hkC (u_lays hts (z_lays a q hq) hb) hi).1
  have hcf : m.cls = cf := by
    obtain ⟨_, _, c', _, _, _, -, -, hf', -, -, -, hown2, -⟩ := Cond.laysFinal_spec hlay
    have e1 : c' = cf := by have := hi.symm.trans hf'; simp at this; exact this.1.symm
    rw [(z_decl a q hq).2 b hb, ← (z_decl a q hq).1, ← hoa] at hown2
    rw [← e1]; exact Option.some.inj (hown.symm.trans hown2)
  have h6 := u_fits (v := zc g v) hfc hkC hkind (Or.inr hlay) hi ((z_ty a q hq b hb).trans (by rw [hty])) (hn g) (hfit g)
  show W p l e R s m args below meth c H locs cells slots _ (F0 m pc ls (zc g v :: .ref (zad g c0) :: st.map (zc g)))
  rw [had]
  refine W.putFinK hx hcb hown (hts _ hlink) hi hst hcf (hin.1 hini) (by rw [q2]; exact h6) q1 q3 (by rw [hsl]; exact k2_hasslot (q4 b hb)) rfl rfl hd fun H' e1 e2 e3 => ?_
  refine h g p e R s m args below meth c H' _ cells slots ls hC a2 a3 a4 a5 (fun z hz => ?_) (zfld (s := s) a7 hk hq hb q1 q2 q3 q4 hap hsl e1 e2 e3 m1 m2 mR mI mJ (by rw [mv]) (fun k _ hk => mo k hk)) a8
  rcases List.mem_append.mp hz with hz | hz
  · exact a6 z hz
  · rw [List.mem_singleton.mp hz]; exact Nat.le_add_right _ _
theorem zs_putI {i a b c0 : Nat} {x : Int32} (hd : decode f.2.1 pc = .ok (.putfield i, 3)) (hf : zfd f.1 i = some (a, b)) (hk : zisk M c0 0 a = true) (hfin : (!zfin a b) = true) (hty : tyT a b = .int) (h : zGo l d mc ms f (zsI M c0 b x) (pc + 3) lo st Q) : zGo l d mc ms f M pc lo (.int x :: .ref c0 :: st) Q :=
  zs_put (M' := zsI M c0 b x) hd hf hk hfin hty (fun _ => rfl) (fun _ => rfl) rfl rfl (fun _ _ => rfl) (fun y hy => zu_row _ x hy) (fun _ _ => rfl) (by unfold zfv; rw [hty]; show Value.int (zu _ c0 b x c0 b) = _; rw [zu_same]) (fun k hk => by unfold zfv; show (match tyT a k with | .long => _ | .object _ => _ | .array _ => _ | _ => Value.int (zu _ c0 b x c0 k)) = _; rw [zu_ne _ x (Or.inr hk)]; rfl) h
theorem zs_putZ {i a b c0 : Nat} {x : Int32} (hd : decode f.2.1 pc = .ok (.putfield i, 3)) (hf : zfd f.1 i = some (a, b)) (hk : zisk M c0 0 a = true) (hfin : (!zfin a b) = true) (hty : tyT a b = .boolean) (hx : x = 0 ∨ x = 1) (h : zGo l d mc ms f (zsI M c0 b x) (pc + 3) lo st Q) : zGo l d mc ms f M pc lo (.int x :: .ref c0 :: st) Q :=
  zs_put (M' := zsI M c0 b x) hd hf hk hfin hty (fun _ => by rcases hx with rfl | rfl <;> rfl) (fun _ => by rcases hx with rfl | rfl <;> rfl) rfl rfl (fun _ _ => rfl) (fun y hy => zu_row _ x hy) (fun _ _ => rfl) (by unfold zfv; rw [hty]; show Value.int (zu _ c0 b x c0 b) = _; rw [zu_same]) (fun k hk => by unfold zfv; show (match tyT a k with | .long => _ | .object _ => _ | .array _ => _ | _ => Value.int (zu _ c0 b x c0 k)) = _; rw [zu_ne _ x (Or.inr hk)]; rfl) h
theorem zs_putJ {i a b c0 : Nat} {x : Int64} (hd : decode f.2.1 pc = .ok (.putfield i, 3)) (hf : zfd f.1 i = some (a, b)) (hk : zisk M c0 0 a = true) (hfin : (!zfin a b) = true) (hty : tyT a b = .long) (h : zGo l d mc ms f (zsJ M c0 b x) (pc + 3) lo st Q) : zGo l d mc ms f M pc lo (.long x :: .ref c0 :: st) Q :=
  zs_put (M' := zsJ M c0 b x) hd hf hk hfin hty (fun _ => rfl) (fun _ => rfl) rfl rfl (fun _ _ => rfl) (fun _ _ => rfl) (fun y hy => zu_row _ x hy) (by unfold zfv; rw [hty]; show Value.long (zu _ c0 b x c0 b) = _; rw [zu_same]) (fun k hk => by unfold zfv; show (match tyT a k with | .long => Value.long (zu _ c0 b x c0 k) | .object _ => _ | .array _ => _ | _ => _) = _; rw [zu_ne _ x (Or.inr hk)]; rfl) h
theorem zs_putR {i a b c0 x : Nat} {ty : FieldType} (hd : decode f.2.1 pc = .ok (.putfield i, 3)) (hf : zfd f.1 i = some (a, b)) (hk : zisk M c0 0 a = true) (hfin : zfin a b = true) (hini : f.2.2.2.2.2 = true) (hoa : f.1 = a) (hty : tyT a b = ty) (hr : (∃ n, ty = .object n) ∨ ∃ t, ty = .array t) (h : zGo l d mc ms f (zsR M c0 b (x + 1)) (pc + 3) lo st Q) : zGo l d mc ms f M pc lo (.ref x :: .ref c0 :: st) Q := by
  refine zs_putF (M' := zsR M c0 b (x + 1)) hd hf hk hfin hini hoa hty (fun _ => ?_) (fun _ => ?_) rfl rfl (fun y hy => zu_row _ (x + 1) hy) (fun _ _ => rfl) (fun _ _ => rfl) ?_ (fun k hk => ?_) h
  · rcases hr with ⟨n, rfl⟩ | ⟨t, rfl⟩ <;> rfl
  · rcases hr with ⟨n, rfl⟩ | ⟨t, rfl⟩ <;> rfl
  · unfold zfv
    rw [hty]
    rcases hr with ⟨n, rfl⟩ | ⟨t, rfl⟩
    · show zr (zu _ c0 b (x + 1) c0 b) = _; rw [zu_same]; rfl
    · show zr (zu _ c0 b (x + 1) c0 b) = _; rw [zu_same]; rfl
  · unfold zfv
    show (match tyT a k with | .long => _ | .object _ => zr (zu _ c0 b (x + 1) c0 k) | .array _ => zr (zu _ c0 b (x + 1) c0 k) | _ => _) = _
    rw [zu_ne _ (x + 1) (Or.inr hk)]; rfl
end
end
section
section
variable {l : Launch} {d mc ms : Nat} {f : zF} {M : zM} {pc : Nat} {lo : List (Nat × Value)} {st : List Value} {Q : zR → zM → Prop}
theorem zlocs {g : zG} {locs : List Loc} {c k : Nat} (h : ∀ q ∈ locs, g.2.2.1 ≤ q.base) : ∀ q ∈ locs ++ [(⟨g.2.2.1 + c, k⟩ : Loc)], g.2.2.1 ≤ q.base := by
  intro z hz
  rcases List.mem_append.mp hz with hz | hz
  · exact h z hz
  · rw [List.mem_singleton.mp hz]; exact Nat.le_add_right _ _
theorem zs_iald {c0 : Nat} {i : Int32} (hd : decode f.2.1 pc = .ok (.iaload, 1)) (hk : ((M.2.1 c0).1 == 1) = true) (hi : vp_in i (M.2.1 c0).2) (h : zGo l d mc ms f M (pc + 1) lo (.int (M.2.2.2.1 c0 i.toNatClampNeg) :: st) Q) : zGo l d mc ms f M pc lo (.int i :: .ref c0 :: st) Q := by
  intro g p e R s m args below meth c H locs cells slots ls hC a2 a3 a4 a5 a6 a7 a8
  have hk := zkk hk
  obtain ⟨-, had, hce⟩ := a7.cell c0 hk (by decide)
  unfold zcell at hce
  rw [hk] at hce
  show W p l e R s m args below meth c H locs cells slots _ (F0 m pc ls (.int i :: .ref (zad g c0) :: st.map (zc g)))
  rw [had]
  exact W.iald (v := .int (M.2.2.2.1 c0 i.toNatClampNeg)) hC.1 hC.2.1 hce ((hC.2.2.2.2.2.2.2.1.1.2 0 _ rfl).1 _ _) (fun q => by cases q) (by rw [arrV_size]; exact hi) (by rw [arrV_read _ _ (Nat.not_le.mp fun q => hi (Or.inr q))]) rfl rfl hd
    (h g p e R s m args below meth c H locs cells slots ls hC a2 a3 a4 a5 a6 a7 a8)
theorem zs_bald {c0 : Nat} {i : Int32} (hd : decode f.2.1 pc = .ok (.baload, 1)) (hk : ((M.2.1 c0).1 == 2) = true) (hi : vp_in i (M.2.1 c0).2) (h : zGo l d mc ms f M (pc + 1) lo (.int (M.2.2.2.1 c0 i.toNatClampNeg) :: st) Q) : zGo l d mc ms f M pc lo (.int i :: .ref c0 :: st) Q := by
  intro g p e R s m args below meth c H locs cells slots ls hC a2 a3 a4 a5 a6 a7 a8
  have hk := zkk hk
  obtain ⟨-, had, hce⟩ := a7.cell c0 hk (by decide)
  unfold zcell at hce
  rw [hk] at hce
  show W p l e R s m args below meth c H locs cells slots _ (F0 m pc ls (.int i :: .ref (zad g c0) :: st.map (zc g)))
  rw [had]
  exact W.bald (v := .int (M.2.2.2.1 c0 i.toNatClampNeg)) hC.1 hC.2.1 hce ((hC.2.2.2.2.2.2.2.1.1.2 1 _ rfl).1 _ _) (fun q => by cases q) (by rw [arrV_size]; exact hi) (by rw [arrV_read _ _ (Nat.not_le.mp fun q => hi (Or.inr q))]) rfl rfl hd
    (h g p e R s m args below meth c H locs cells slots ls hC a2 a3 a4 a5 a6 a7 a8)
theorem zs_lald {c0 : Nat} {i : Int32} (hd : decode f.2.1 pc = .ok (.laload, 1)) (hk : ((M.2.1 c0).1 == 3) = true) (hi : vp_in i (M.2.1 c0).2) (h : zGo l d mc ms f M (pc + 1) lo (.long (M.2.2.2.2 c0 i.toNatClampNeg) :: st) Q) : zGo l d mc ms f M pc lo (.int i :: .ref c0 :: st) Q := by
  intro g p e R s m args below meth c H locs cells slots ls hC a2 a3 a4 a5 a6 a7 a8
  have hk := zkk hk
  obtain ⟨-, had, hce⟩ := a7.cell c0 hk (by decide)
  unfold zcell at hce
  rw [hk] at hce
  show W p l e R s m args below meth c H locs cells slots _ (F0 m pc ls (.int i :: .ref (zad g c0) :: st.map (zc g)))
  rw [had]
  exact W.lald (v := .long (M.2.2.2.2 c0 i.toNatClampNeg)) hC.1 hC.2.1 hce ((hC.2.2.2.2.2.2.2.1.1.2 2 _ rfl).1 _ _) (fun q => by cases q) (by rw [arrV_size]; exact hi) (by rw [arrV_read _ _ (Nat.not_le.mp fun q => hi (Or.inr q))]) rfl rfl hd
    (h g p e R s m args below meth c H locs cells slots ls hC a2 a3 a4 a5 a6 a7 a8)
theorem zs_iast {c0 : Nat} {i x : Int32} (hd : decode f.2.1 pc = .ok (.iastore, 1)) (hk : ((M.2.1 c0).1 == 1) = true) (hi : vp_in i (M.2.1 c0).2) (h : zGo l d mc ms f (zsI M c0 i.toNatClampNeg x) (pc + 1) lo st Q) : zGo l d mc ms f M pc lo (.int x :: .int i :: .ref c0 :: st) Q := by
  intro g p e R s m args below meth c H locs cells slots ls hC a2 a3 a4 a5 a6 a7 a8
  have hk := zkk hk
  obtain ⟨hlt, had, hce⟩ := a7.cell c0 hk (by decide)
  unfold zcell at hce
  rw [hk] at hce
  show W p l e R s m args below meth c H locs cells slots _ (F0 m pc ls (.int x :: .int i :: .ref (zad g c0) :: st.map (zc g)))
  rw [had]
  refine W.iast hC.1 hC.2.1 hce ((hC.2.2.2.2.2.2.2.1.1.2 0 _ rfl).1 _ _) (fun q => by cases q) (by rw [arrV_size]; exact hi) rfl rfl hd fun H1 e1 z oq => ?_
  refine h g p e R s m args below meth c H1 _ cells slots ls hC a2 a3 a4 a5 (zlocs a6) (a7.put c0 rfl rfl z oq hlt (fun _ _ => rfl) (fun y hy => zu_row _ x hy) (fun _ _ => rfl) ?_) a8
  unfold zcell
  show (match M.2.1 c0 with | (0, ci) => _ | (1, n) => H1[g.2.2.1 + c0]? = some (arrV g.2.1.1 n (fun j => .int (zu M.2.2.2.1 c0 i.toNatClampNeg x c0 j))) | (2, n) => _ | (3, n) => _ | _ => _)
  rw [hk]
  show H1[g.2.2.1 + c0]? = some (arrV g.2.1.1 _ (fun j => .int (zu M.2.2.2.1 c0 i.toNatClampNeg x c0 j)))
  rw [e1, arrV_store, zu_arr _ _ _ _ Value.int]
theorem zs_bast {c0 : Nat} {i x : Int32} (hd : decode f.2.1 pc = .ok (.bastore, 1)) (hk : ((M.2.1 c0).1 == 2) = true) (hi : vp_in i (M.2.1 c0).2) (h : zGo l d mc ms f (zsI M c0 i.toNatClampNeg x.toInt8.toInt32) (pc + 1) lo st Q) : zGo l d mc ms f M pc lo (.int x :: .int i :: .ref c0 :: st) Q := by
  intro g p e R s m args below meth c H locs cells slots ls hC a2 a3 a4 a5 a6 a7 a8
  have hk := zkk hk
  obtain ⟨hlt, had, hce⟩ := a7.cell c0 hk (by decide)
  unfold zcell at hce
  rw [hk] at hce
  show W p l e R s m args below meth c H locs cells slots _ (F0 m pc ls (.int x :: .int i :: .ref (zad g c0) :: st.map (zc g)))
  rw [had]
  refine W.bast hC.1 hC.2.1 hce ((hC.2.2.2.2.2.2.2.1.1.2 1 _ rfl).1 _ _) (fun q => by cases q) (by rw [arrV_size]; exact hi) rfl rfl hd fun H1 e1 z oq => ?_
  refine h g p e R s m args below meth c H1 _ cells slots ls hC a2 a3 a4 a5 (zlocs a6) (a7.put c0 rfl rfl z oq hlt (fun _ _ => rfl) (fun y hy => zu_row _ _ hy) (fun _ _ => rfl) ?_) a8
  unfold zcell
  show (match M.2.1 c0 with | (0, ci) => _ | (1, n) => _ | (2, n) => H1[g.2.2.1 + c0]? = some (arrV g.2.1.2.1 n (fun j => .int (zu M.2.2.2.1 c0 i.toNatClampNeg x.toInt8.toInt32 c0 j))) | (3, n) => _ | _ => _)
  rw [hk]
  show H1[g.2.2.1 + c0]? = some (arrV g.2.1.2.1 _ (fun j => .int (zu M.2.2.2.1 c0 i.toNatClampNeg x.toInt8.toInt32 c0 j)))
  rw [e1, arrV_store, zu_arr _ _ _ _ Value.int]
  rfl
theorem zs_last {c0 : Nat} {i : Int32} {x : Int64} (hd : decode f.2.1 pc = .ok (.lastore, 1)) (hk : ((M.2.1 c0).1 == 3) = true) (hi : vp_in i (M.2.1 c0).2) (h : zGo l d mc ms f (zsJ M c0 i.toNatClampNeg x) (pc + 1) lo st Q) : zGo l d mc ms f M pc lo (.long x :: .int i :: .ref c0 :: st) Q := by
  intro g p e R s m args below meth c H locs cells slots ls hC a2 a3 a4 a5 a6 a7 a8
  have hk := zkk hk
  obtain ⟨hlt, had, hce⟩ := a7.cell c0 hk (by decide)
  unfold zcell at hce
  rw [hk] at hce
  show W p l e R s m args below meth c H locs cells slots _ (F0 m pc ls (.long x :: .int i :: .ref (zad g c0) :: st.map (zc g)))
  rw [had]
  refine W.last hC.1 hC.2.1 hce ((hC.2.2.2.2.2.2.2.1.1.2 2 _ rfl).1 _ _) (fun q => by cases q) (by rw [arrV_size]; exact hi) rfl rfl hd fun H1 e1 z oq => ?_
  refine h g p e R s m args below meth c H1 _ cells slots ls hC a2 a3 a4 a5 (zlocs a6) (a7.put c0 rfl rfl z oq hlt (fun _ _ => rfl) (fun _ _ => rfl) (fun y hy => zu_row _ x hy) ?_) a8
  unfold zcell
  show (match M.2.1 c0 with | (0, ci) => _ | (1, n) => _ | (2, n) => _ | (3, n) => H1[g.2.2.1 + c0]? = some (arrV g.2.1.2.2 n (fun j => .long (zu M.2.2.2.2 c0 i.toNatClampNeg x c0 j))) | _ => _)
  rw [hk]
  show H1[g.2.2.1 + c0]? = some (arrV g.2.1.2.2 _ (fun j => .long (zu M.2.2.2.2 c0 i.toNatClampNeg x c0 j)))
  rw [e1, arrV_store, zu_arr _ _ _ _ Value.long]
theorem zs_alen {c0 : Nat} (hd : decode f.2.1 pc = .ok (.arraylength, 1)) (hk : ((M.2.1 c0).1 == 1 || (M.2.1 c0).1 == 2) = true) (h : zGo l d mc ms f M (pc + 1) lo (.int (Int32.ofNat (M.2.1 c0).2) :: st) Q) : zGo l d mc ms f M pc lo (.ref c0 :: st) Q := by
  intro g p e R s m args below meth c H locs cells slots ls hC a2 a3 a4 a5 a6 a7 a8
  simp only [Bool.or_eq_true] at hk
  rcases hk with hk | hk
  · have hk := zkk hk
    obtain ⟨-, had, hce⟩ := a7.cell c0 hk (by decide)
    unfold zcell at hce
    rw [hk] at hce
    show W p l e R s m args below meth c H locs cells slots _ (F0 m pc ls (.ref (zad g c0) :: st.map (zc g)))
    rw [had]
    exact W.alen (n := Int32.ofNat (M.2.1 c0).2) hC.1 hC.2.1 hce ((hC.2.2.2.2.2.2.2.1.1.2 0 _ rfl).1 _ _) (by rw [arrV_size] <;> rfl) rfl rfl hd
      (h g p e R s m args below meth c H locs cells slots ls hC a2 a3 a4 a5 a6 a7 a8)
  · have hk := zkk hk
    obtain ⟨-, had, hce⟩ := a7.cell c0 hk (by decide)
    unfold zcell at hce
    rw [hk] at hce
    show W p l e R s m args below meth c H locs cells slots _ (F0 m pc ls (.ref (zad g c0) :: st.map (zc g)))
    rw [had]
    exact W.alen (n := Int32.ofNat (M.2.1 c0).2) hC.1 hC.2.1 hce ((hC.2.2.2.2.2.2.2.1.1.2 1 _ rfl).1 _ _) (by rw [arrV_size] <;> rfl) rfl rfl hd
      (h g p e R s m args below meth c H locs cells slots ls hC a2 a3 a4 a5 a6 a7 a8)
theorem zs_iret {x : Int32} (hd : decode f.2.1 pc = .ok (.ireturn, 1)) (hr : f.2.2.1 = some .int) (h : Q (.inl (some (.int x))) M) : zGo l d mc ms f M pc lo [.int x] Q := by
  intro g p e R s m args below meth c H locs cells slots ls hC a2 a3 a4 a5 a6 a7 a8
  refine vx_ret (W.widen (k := R.cells) (n := R.slots) (by omega) (by omega) ?_)
  exact W.iret hC.1 hC.2.1 (hC.2.2.1.trans hr) (fun t ht _ => ⟨some (.int x), M, rfl, h, by rw [ht]; exact a7⟩) a6 hd (hlocks := hC.2.2.2.2.2.1)
theorem zs_zret {x : Int32} (hd : decode f.2.1 pc = .ok (.ireturn, 1)) (hr : f.2.2.1 = some .boolean) (hx : x = 0 ∨ x = 1) (h : Q (.inl (some (.int x))) M) : zGo l d mc ms f M pc lo [.int x] Q := by
  intro g p e R s m args below meth c H locs cells slots ls hC a2 a3 a4 a5 a6 a7 a8
  refine vx_ret (W.widen (k := R.cells) (n := R.slots) (by omega) (by omega) ?_)
  exact W.zret hC.1 hC.2.1 (hC.2.2.1.trans hr) (by rcases hx with rfl | rfl <;> rfl) (fun t ht _ => ⟨some (.int x), M, rfl, h, by rw [ht]; exact a7⟩) a6 hd (hlocks := hC.2.2.2.2.2.1)
theorem zs_lret {x : Int64} (hd : decode f.2.1 pc = .ok (.lreturn, 1)) (hr : f.2.2.1 = some .long) (h : Q (.inl (some (.long x))) M) : zGo l d mc ms f M pc lo [.long x] Q := by
  intro g p e R s m args below meth c H locs cells slots ls hC a2 a3 a4 a5 a6 a7 a8
  refine vx_ret (W.widen (k := R.cells) (n := R.slots) (by omega) (by omega) ?_)
  exact W.lret hC.1 hC.2.1 (hC.2.2.1.trans hr) (fun t ht _ => ⟨some (.long x), M, rfl, h, by rw [ht]; exact a7⟩) a6 hd (hlocks := hC.2.2.2.2.2.1)
theorem zs_vret (hd : decode f.2.1 pc = .ok (.return_, 1)) (hr : f.2.2.1 = none) (h : Q (.inl none) M) : zGo l d mc ms f M pc lo [] Q := by
  intro g p e R s m args below meth c H locs cells slots ls hC a2 a3 a4 a5 a6 a7 a8
  refine vx_ret (W.widen (k := R.cells) (n := R.slots) (by omega) (by omega) ?_)
  exact W.vret hC.1 hC.2.1 (hC.2.2.1.trans hr) (fun t ht _ => ⟨none, M, rfl, h, by rw [ht]; exact a7⟩) a6 hd (hlocks := hC.2.2.2.2.2.1)
theorem zs_objinit {i c0 : Nat} (hd : decode f.2.1 pc = .ok (.invokespecial i, 3)) (hi : zoi f.1 i = true) (hq : (Nat.ble 1 d && Nat.ble ((st.map Value.category).sum) 8) = true) (h : zGo l d mc ms f M (pc + 3) lo st Q) : zGo l d mc ms f M pc lo (.ref c0 :: st) Q := by
  intro g p e R s m args below meth c H locs cells slots ls hC a2 a3 a4 a5 a6 a7 a8
  simp only [Bool.and_eq_true, Nat.ble_eq] at hq
  have hs : ((st.map (zc g)).map fun v => v.category).sum ≤ 8 := by
    rw [List.map_map]
    have e1 : ((fun v => v.category) ∘ zc g) = Value.category := funext fun v => zc_cat g v
    rw [e1]; exact hq.2
  refine W.objInit hC.1 hC.2.1 hC.2.2.2.2.1 (hC.2.2.2.2.2.2.1 _ (zoi_ok hi)) (hC.2.2.2.2.2.2.1 _ zob_i) (hC.2.2.2.2.2.2.1 _ zob_c) rfl (a8.1.trans hC.2.2.2.1.symm) (a := zad g c0) (rest := st.map (zc g)) rfl hd (by omega) ?_
    (h g p e R s m args below meth c H locs cells slots ls hC a2 a3 a4 a5 a6 a7 a8)
  show 2 * 0 + _ + 12 ≤ R.locals
  omega
theorem zs_switch {df hi : Int} {offs : Array Int} {len : Nat} {x : Int32} (hd : decode f.2.1 pc = .ok (.tableswitch df 0 hi offs, len)) (hg : (zgo pc df && offs.toList.all (zgo pc) && decide (hi = (offs.size : Int) - 1)) = true)
    (h : (∀ k : Nat, k < (offs.toList.map (ztg pc)).length → x = Int32.ofNat k → zGo l d mc ms f M (zpick (offs.toList.map (ztg pc)) k (ztg pc df)) lo st Q) ∧ ((x < 0 ∨ Int32.ofNat (offs.toList.map (ztg pc)).length ≤ x) → zGo l d mc ms f M (ztg pc df) lo st Q)) (hsz : offs.size < 1000) : zGo l d mc ms f M pc lo (.int x :: st) Q := by
  intro g p e R s m args below meth c H locs cells slots ls hC a2 a3 a4 a5 a6 a7 a8
  simp only [Bool.and_eq_true, decide_eq_true_eq] at hg
  obtain ⟨⟨hg1, hg2⟩, hg3⟩ := hg
  have hlen : (offs.toList.map (ztg pc)).length = offs.size := by simp
  rw [hlen] at h
  by_cases hx : x.toInt < 0 ∨ hi < x.toInt
  · refine lv_tableOut hC.1 hC.2.1 hd hx (ztg_ok hg1) (h.2 ?_ g p e R s m args below meth c H locs cells slots ls hC a2 a3 a4 a5 a6 a7 a8)
    rcases hx with hx | hx
    · left; rw [Int32.lt_iff_toInt_lt]; exact hx
    · right; rw [Int32.le_iff_toInt_le, show (Int32.ofNat offs.size).toInt = (offs.size : Int) from nI_toInt (by omega)]; omega
  · have h1 : ¬ x.toInt < 0 := fun q => hx (Or.inl q)
    have h2 : ¬ hi < x.toInt := fun q => hx (Or.inr q)
    have hk : (x.toInt - 0).toNat < offs.size := by omega
    have hx0 : x = Int32.ofNat (x.toInt - 0).toNat := by
      apply Int32.toInt_inj.mp
      rw [show (Int32.ofNat (x.toInt - 0).toNat).toInt = (((x.toInt - 0).toNat : Nat) : Int) from nI_toInt (by omega)]
      omega
    have ho : offs[(x.toInt - 0).toNat]? = some offs[(x.toInt - 0).toNat] := Array.getElem?_eq_getElem hk
    have hgo : zgo pc offs[(x.toInt - 0).toNat] = true := List.all_eq_true.mp hg2 _ (by rw [Array.mem_toList_iff]; exact Array.getElem_mem hk)
    have hp : ∀ (L : List Int) (k dd : Nat) (v : Int), L[k]? = some v → zpick (L.map (ztg pc)) k dd = ztg pc v := by
      intro L
      induction L with
      | nil => intro k dd v hv; cases hv
      | cons a r ih =>
        intro k dd v hv
        cases k with
        | zero => cases hv; rfl
        | succ k => exact ih k dd v hv
    have hpk := hp offs.toList (x.toInt - 0).toNat (ztg pc df) offs[(x.toInt - 0).toNat] (by rw [Array.getElem?_toList]; exact ho)
    refine lv_tableIn hC.1 hC.2.1 hd h1 h2 ho (ztg_ok hgo) ?_
    rw [← hpk]
    exact h.1 _ hk hx0 g p e R s m args below meth c H locs cells slots ls hC a2 a3 a4 a5 a6 a7 a8
end
end
section
section
variable {l : Launch} {d mc ms : Nat} {f : zF} {M : zM} {pc : Nat} {lo : List (Nat × Value)} {st : List Value} {Q : zR → zM → Prop}
theorem znew_k (M : zM) (kd : Nat × Nat) : (znew M kd).2.1 M.1 = kd := by simp [znew]
theorem znew_o (M : zM) (kd : Nat × Nat) {x : Nat} (h : x ≠ M.1) : (znew M kd).2.1 x = M.2.1 x := by show (bif x == M.1 then kd else M.2.1 x) = _; rw [show (x == M.1) = false by simpa using h]; rfl
theorem znew_b {x y : Nat} (h : x ≠ y) : (x == y) = false := by simpa using h
theorem znew_r {M : zM} {kd : Nat × Nat} {x : Nat} (h : x ≠ M.1) : (znew M kd).2.2.1 x = M.2.2.1 x := funext fun j => by show (bif x == M.1 then 0 else M.2.2.1 x j) = _; rw [znew_b h]; rfl
theorem znew_i {M : zM} {kd : Nat × Nat} {x : Nat} (h : x ≠ M.1) : (znew M kd).2.2.2.1 x = M.2.2.2.1 x := funext fun j => by show (bif x == M.1 then 0 else M.2.2.2.1 x j) = _; rw [znew_b h]; rfl
theorem znew_j {M : zM} {kd : Nat × Nat} {x : Nat} (h : x ≠ M.1) : (znew M kd).2.2.2.2 x = M.2.2.2.2 x := funext fun j => by show (bif x == M.1 then 0 else M.2.2.2.2 x j) = _; rw [znew_b h]; rfl
theorem zdef (ty : FieldType) (g : zG) (v : Value) (h : v = match ty with | .long => Value.long 0 | .object _ => Value.null | .array _ => Value.null | _ => Value.int 0) (hty : ty = .int ∨ ty = .boolean ∨ ty = .long ∨ (∃ n, ty = .object n) ∨ ∃ t, ty = .array t) : defaultValue ty = zc g v := by
  rcases hty with rfl | rfl | rfl | ⟨n, rfl⟩ | ⟨t, rfl⟩ <;> subst h <;> rfl
def zprim (t : FieldType) : Bool := match t with
  | .int => true
  | .boolean => true
  | .long => true
  | .object _ => true
  | .array _ => true
  | _ => false
theorem zprim_ok {t : FieldType} (h : zprim t = true) : t = .int ∨ t = .boolean ∨ t = .long ∨ (∃ n, t = .object n) ∨ ∃ u, t = .array u := by
  cases t <;> first | (cases h; done) | simp
theorem zprim_all : ∀ (ci : Nat) (q : vw_C), zcl[ci]? = some q → ∀ k, k < q.2.2 → zprim (tyT ci k) = true
  | 0, _, h => by cases h; decide +kernel
  | 1, _, h => by cases h; decide +kernel
  | 2, _, h => by cases h; decide +kernel
  | 3, _, h => by cases h; decide +kernel
  | 4, _, h => by cases h; decide +kernel
  | 5, _, h => by cases h; decide +kernel
  | 6, _, h => by cases h; decide +kernel
  | 7, _, h => by cases h; decide +kernel
  | 8, _, h => by cases h; decide +kernel
  | 9, _, h => by cases h; decide +kernel
  | 10, _, h => by cases h; decide +kernel
  | 11, _, h => by cases h; decide +kernel
  | 12, _, h => by cases h; decide +kernel
  | _ + 13, _, h => by cases h
theorem zs_new {i a b : Nat} (hd : decode f.2.1 pc = .ok (.new i, 3)) (hf : znc f.1 i = some (a, b)) (hq : (Nat.ble 1 mc && Nat.ble b ms && Nat.blt (M.1 + 1) 100000) = true)
    (h : zGo l d (mc - 1) (ms - b) f (znew M (0, a)) (pc + 3) lo (.ref M.1 :: st) Q) : zGo l d mc ms f M pc lo st Q := by
  intro g p e R s m args below meth c H locs cells slots ls hC a2 a3 a4 a5 a6 a7 a8
  simp only [Bool.and_eq_true, Nat.ble_eq, Nat.blt_eq] at hq
  obtain ⟨⟨hq1, hq2⟩, hq3⟩ := hq
  obtain ⟨q, hq, hb, hl1, hl2, hl3⟩ := znc_ok hf
  obtain ⟨hx, hcb, hr, hml, hown, hlocks, hts, hw, ht, hin⟩ := id hC
  have hKn := hw.1.1 a q hq
  refine W.newcK (n := q.2.2) hx hcb hown (hts _ hl1) (hts _ hl2) (hts _ hl3) rfl hd (by omega) (by omega) hKn.2.1 rfl fun H1 kC hkC e1 z1 o1 => ?_
  have hsz := a7.1
  have had : zad g M.1 = H.size := by
    unfold zad
    rw [if_pos (by omega)]; omega
  have hst : (Value.ref H.size :: st.map (zc g)) = ((.ref M.1 :: st : List Value).map (zc g)) := by
    show _ = Value.ref (zad g M.1) :: _
    rw [had]
  show W p l e R s m args below meth c H1 locs _ _ _ (F0 m (pc + 3) ls (Value.ref H.size :: st.map (zc g)))
  rw [hst]
  refine h g p e R s m args below meth c H1 locs _ _ ls hC a2 a3 (by omega) (by rw [hb]; omega) a6 (a7.new rfl (fun _ => by omega) (fun x hx => znew_o M _ hx) z1 (fun q hq => o1 q hq) (fun x hx => znew_r hx) (fun x hx => znew_i hx) (fun x hx => znew_j hx) (fun _ => ?_)) a8
  unfold zcell
  rw [znew_k]
  refine ⟨q, hq, ?_⟩
  rw [← hsz]
  refine (u_born (tyT a) hts (z_lays a q hq) hKn hkC e1 (z_ty a q hq)).to (fun k hk => ?_)
  refine zdef (tyT a k) g _ ?_ (zprim_ok (zprim_all a q hq k hk))
  unfold zfv
  simp only [znew, beq_self_eq_true, cond_true]
  rcases zprim_ok (zprim_all a q hq k hk) with h | h | h | ⟨n, h⟩ | ⟨t, h⟩ <;> rw [h] <;> rfl
theorem znewa {at0 : ArrayType} {a : Nat} {n : Int32} {ty : FieldType} {cA : zG → ClassId} (hd : decode f.2.1 pc = .ok (.newarray at0, 2)) (hty : newarray.typeOf at0 = ty) (hq : (Nat.ble 1 mc && Nat.ble n.toNatClampNeg ms && Nat.ble n.toNatClampNeg 1000000 && decide (¬ n < 0) && Nat.blt (M.1 + 1) 100000) = true) (hw0 : Cond.arrayClass ty ∈ zws) (hcb : componentBytes ty ≤ 8)
    (hca : ∀ g U, zW l g U → U.vm.findClass ("[" ++ ty.toString) = some (cA g))
    (hce : ∀ g H1, H1[g.2.2.1 + M.1]? = some (arrV (cA g) n.toNatClampNeg (fun _ => defaultValue ty)) → zcell g (znew M (a, n.toNatClampNeg)) H1 M.1)
    (h : zGo l d (mc - 1) (ms - n.toNatClampNeg) f (znew M (a, n.toNatClampNeg)) (pc + 2) lo (.ref M.1 :: st) Q) : zGo l d mc ms f M pc lo (.int n :: st) Q := by
  intro g p e R s m args below meth c H locs cells slots ls hC a2 a3 a4 a5 a6 a7 a8
  simp only [Bool.and_eq_true, Nat.ble_eq, Nat.blt_eq, decide_eq_true_eq] at hq
  obtain ⟨⟨⟨⟨q1, q2⟩, q3⟩, q4⟩, q5⟩ := hq
  obtain ⟨hx, hcc, hr, hml, hown, hlocks, hts, hw, ht, hin⟩ := id hC
  subst hty
  have hbytes : n.toNatClampNeg * componentBytes (newarray.typeOf at0) ≤ 536870912 := Nat.le_trans (Nat.mul_le_mul q3 hcb) (by decide)
  refine va_newaK hx hcc (hts _ hw0) rfl hd rfl q4 rfl hbytes (by omega) (by omega) rfl fun H1 cB e1 z1 o1 hAr hNm => ?_
  have hcA : cB = cA g := Option.some.inj (hNm.symm.trans (hca g s hw))
  subst hcA
  have hsz := a7.1
  have had : zad g M.1 = H.size := by
    unfold zad
    rw [if_pos (by omega)]; omega
  have hst : (Value.ref H.size :: st.map (zc g)) = ((.ref M.1 :: st : List Value).map (zc g)) := by
    show _ = Value.ref (zad g M.1) :: _
    rw [had]
  show W p l e R s m args below meth c H1 locs _ _ _ (F0 m (pc + 2) ls (Value.ref H.size :: st.map (zc g)))
  rw [hst]
  exact h g p e R s m args below meth c H1 locs _ _ ls hC a2 a3 (by omega) (by omega) a6 (a7.new rfl (fun _ => by omega) (fun x hx => znew_o M _ hx) z1 (fun q hq => o1 q hq) (fun x hx => znew_r hx) (fun x hx => znew_i hx) (fun x hx => znew_j hx) (fun _ => hce g H1 (by rw [← hsz]; exact e1))) a8
theorem zs_newI {n : Int32} (hd : decode f.2.1 pc = .ok (.newarray .int, 2)) (hq : (Nat.ble 1 mc && Nat.ble n.toNatClampNeg ms && Nat.ble n.toNatClampNeg 1000000 && decide (¬ n < 0) && Nat.blt (M.1 + 1) 100000) = true)
    (h : zGo l d (mc - 1) (ms - n.toNatClampNeg) f (znew M (1, n.toNatClampNeg)) (pc + 2) lo (.ref M.1 :: st) Q) : zGo l d mc ms f M pc lo (.int n :: st) Q :=
  znewa (a := 1) (cA := fun g => g.2.1.1) hd rfl hq zar_i (by decide) (fun g U hw => (hw.1.2 0 _ rfl).2) (fun g H1 e => by
    unfold zcell
    rw [znew_k]
    simp only [znew, beq_self_eq_true, cond_true]
    exact e) h
theorem zs_newB {n : Int32} (hd : decode f.2.1 pc = .ok (.newarray .byte, 2)) (hq : (Nat.ble 1 mc && Nat.ble n.toNatClampNeg ms && Nat.ble n.toNatClampNeg 1000000 && decide (¬ n < 0) && Nat.blt (M.1 + 1) 100000) = true)
    (h : zGo l d (mc - 1) (ms - n.toNatClampNeg) f (znew M (2, n.toNatClampNeg)) (pc + 2) lo (.ref M.1 :: st) Q) : zGo l d mc ms f M pc lo (.int n :: st) Q :=
  znewa (a := 2) (cA := fun g => g.2.1.2.1) hd rfl hq zar_b (by decide) (fun g U hw => (hw.1.2 1 _ rfl).2) (fun g H1 e => by
    unfold zcell
    rw [znew_k]
    simp only [znew, beq_self_eq_true, cond_true]
    exact e) h
theorem zs_newL {n : Int32} (hd : decode f.2.1 pc = .ok (.newarray .long, 2)) (hq : (Nat.ble 1 mc && Nat.ble n.toNatClampNeg ms && Nat.ble n.toNatClampNeg 1000000 && decide (¬ n < 0) && Nat.blt (M.1 + 1) 100000) = true)
    (h : zGo l d (mc - 1) (ms - n.toNatClampNeg) f (znew M (3, n.toNatClampNeg)) (pc + 2) lo (.ref M.1 :: st) Q) : zGo l d mc ms f M pc lo (.int n :: st) Q :=
  znewa (a := 3) (cA := fun g => g.2.1.2.2) hd rfl hq zar_l (by decide) (fun g U hw => (hw.1.2 2 _ rfl).2) (fun g H1 e => by
    unfold zcell
    rw [znew_k]
    simp only [znew, beq_self_eq_true, cond_true]
    exact e) h
set_option maxHeartbeats 4000000 in
/-- ONE STEP -/
theorem z_step {e : zI} (he : zpre f.1 f.2.1 pc = some e) (h : zst d f e mc ms M lo st (fun mc ms M pc lo st => zGo l d mc ms f M pc lo st Q) Q) : zGo l d mc ms f M pc lo st Q := by
  unfold zpre at he
  split at he
  case h_1 n hd => cases he; exact zs_iconst hd h
  case h_2 n hd => cases he; exact zs_bipush hd h
  case h_3 n hd => cases he; exact zs_sipush hd h
  case h_4 i hd =>
    cases hv : zcv f.1 i with
    | none => rw [hv] at he; cases he
    | some v => rw [hv] at he; cases he; exact zs_ldc hv hd h
  case h_5 i hd =>
    cases hv : zcv f.1 i with
    | none => rw [hv] at he; cases he
    | some v => rw [hv] at he; cases he; exact zs_ldcw hv hd h
  case h_6 n hd => cases he; exact zs_lconst hd h
  case h_7 i hd =>
    cases hv : (f.1 == 12 && i == 177) with
    | false => rw [hv] at he; cases he
    | true =>
      rw [hv] at he; cases he
      simp only [Bool.and_eq_true, beq_iff_eq] at hv
      obtain ⟨h1, rfl⟩ := hv
      exact zs_ldc2 h1 hd h
  case h_8 i hd =>
    cases he
    change (match zlk lo i with | some (.int x) => _ | _ => False) at h
    split at h
    · exact zs_iload (by assumption) hd h
    · exact h.elim
  case h_9 k hd =>
    cases he
    change (match zlk lo k.val with | some (.int x) => _ | _ => False) at h
    split at h
    · exact zs_iload_n (by assumption) hd h
    · exact h.elim
  case h_10 i hd =>
    cases he
    change (match zlk lo i with | some (.long x) => _ | _ => False) at h
    split at h
    · exact zs_lload (by assumption) hd h
    · exact h.elim
  case h_11 i hd =>
    cases he
    change (match zlk lo i with | some (.ref x) => _ | _ => False) at h
    split at h
    · exact zs_aload (by assumption) hd h
    · exact h.elim
  case h_12 k hd =>
    cases he
    change (match zlk lo k.val with | some (.ref x) => _ | _ => False) at h
    split at h
    · exact zs_aload_n (by assumption) hd h
    · exact h.elim
  case h_13 i hd => cases he; obtain ⟨x, r, rfl, h⟩ := t1i_ok h; obtain ⟨h1, h⟩ := zif_ok h; exact zs_istore hd h1 h
  case h_14 i hd => cases he; obtain ⟨x, r, rfl, h⟩ := t1i_ok h; obtain ⟨h1, h⟩ := zif_ok h; exact zs_istore_n hd h1 h
  case h_15 i hd => cases he; obtain ⟨x, r, rfl, h⟩ := t1l_ok h; obtain ⟨h1, h⟩ := zif_ok h; exact zs_lstore hd h1 h
  case h_16 i hd => cases he; obtain ⟨x, r, rfl, h⟩ := t1r_ok h; obtain ⟨h1, h⟩ := zif_ok h; exact zs_astore hd h1 h
  case h_17 i hd => cases he; obtain ⟨x, r, rfl, h⟩ := t1r_ok h; obtain ⟨h1, h⟩ := zif_ok h; exact zs_astore_n hd h1 h
  case h_18 i n hd =>
    cases he
    change (match zlk lo i with | some (.int y) => _ | _ => False) at h
    split at h
    · obtain ⟨h1, h⟩ := zif_ok h; exact zs_iinc hd (by assumption) h1 h
    · exact h.elim
  case h_19 hd => cases he; obtain ⟨x, y, r, rfl, h⟩ := t2i_ok h; exact zs_iadd hd h
  case h_20 hd => cases he; obtain ⟨x, y, r, rfl, h⟩ := t2i_ok h; exact zs_isub hd h
  case h_21 hd => cases he; obtain ⟨x, y, r, rfl, h⟩ := t2i_ok h; exact zs_imul hd h
  case h_22 hd => cases he; obtain ⟨x, y, r, rfl, h⟩ := t2i_ok h; exact zs_iand hd h
  case h_23 hd => cases he; obtain ⟨x, y, r, rfl, h⟩ := t2i_ok h; exact zs_ior hd h
  case h_24 hd => cases he; obtain ⟨x, y, r, rfl, h⟩ := t2i_ok h; exact zs_ixor hd h
  case h_25 hd => cases he; obtain ⟨x, y, r, rfl, h⟩ := t2i_ok h; exact zs_ishl hd h
  case h_26 hd => cases he; obtain ⟨x, y, r, rfl, h⟩ := t2i_ok h; exact zs_ishr hd h
  case h_27 hd => cases he; obtain ⟨x, y, r, rfl, h⟩ := t2i_ok h; exact zs_iushr hd h
  case h_28 hd => cases he; obtain ⟨x, y, r, rfl, h⟩ := t2i_ok h; exact zs_idiv hd h.1 h.2
  case h_29 hd => cases he; obtain ⟨x, y, r, rfl, h⟩ := t2i_ok h; exact zs_irem hd h.1 h.2
  case h_30 hd => cases he; obtain ⟨x, r, rfl, h⟩ := t1i_ok h; exact zs_i2l hd h
  case h_31 hd => cases he; obtain ⟨x, r, rfl, h⟩ := t1i_ok h; exact zs_i2b hd h
  case h_32 hd => cases he; obtain ⟨x, y, r, rfl, h⟩ := t2l_ok h; exact zs_lor hd h
  case h_33 hd => cases he; obtain ⟨x, y, r, rfl, h⟩ := t2l_ok h; exact zs_lsub hd h
  case h_34 hd => cases he; obtain ⟨x, y, r, rfl, h⟩ := t2l_ok h; exact zs_lcmp hd h
  case h_35 hd => cases he; obtain ⟨x, y, r, rfl, h⟩ := til_ok h; exact zs_lshl hd h
  case h_36 hd =>
    cases he
    rcases t1d_ok (st := st) (k := fun v r => zGo l d mc ms f M (pc + 1) lo (v :: v :: r) Q) h with ⟨x, r, rfl, h⟩ | ⟨x, r, rfl, h⟩
    · exact zs_dupi hd h
    · exact zs_dupr hd h
  case h_37 hd => cases he; obtain ⟨x, y, r, rfl, h⟩ := tir_ok h; exact zs_dup2 hd h
  case h_38 hd => cases he; obtain ⟨x, r, rfl, h⟩ := t1i_ok h; exact zs_popi hd h
  case h_39 off hd =>
    cases hv : zgo pc off with
    | false => rw [hv] at he; cases he
    | true => rw [hv] at he; cases he; exact zs_goto hd hv h
  case h_40 off hd =>
    cases hv : zgo pc off with
    | false => rw [hv] at he; cases he
    | true => rw [hv] at he; cases he; obtain ⟨x, y, r, rfl, h⟩ := t2i_ok h; exact zs_icmp_eq hd hv h
  case h_41 off hd =>
    cases hv : zgo pc off with
    | false => rw [hv] at he; cases he
    | true => rw [hv] at he; cases he; obtain ⟨x, y, r, rfl, h⟩ := t2i_ok h; exact zs_icmp_ne hd hv h
  case h_42 off hd =>
    cases hv : zgo pc off with
    | false => rw [hv] at he; cases he
    | true => rw [hv] at he; cases he; obtain ⟨x, y, r, rfl, h⟩ := t2i_ok h; exact zs_icmp_lt hd hv h
  case h_43 off hd =>
    cases hv : zgo pc off with
    | false => rw [hv] at he; cases he
    | true => rw [hv] at he; cases he; obtain ⟨x, y, r, rfl, h⟩ := t2i_ok h; exact zs_icmp_ge hd hv h
  case h_44 off hd =>
    cases hv : zgo pc off with
    | false => rw [hv] at he; cases he
    | true => rw [hv] at he; cases he; obtain ⟨x, y, r, rfl, h⟩ := t2i_ok h; exact zs_icmp_gt hd hv h
  case h_45 off hd =>
    cases hv : zgo pc off with
    | false => rw [hv] at he; cases he
    | true => rw [hv] at he; cases he; obtain ⟨x, y, r, rfl, h⟩ := t2i_ok h; exact zs_icmp_le hd hv h
  case h_46 off hd =>
    cases hv : zgo pc off with
    | false => rw [hv] at he; cases he
    | true => rw [hv] at he; cases he; obtain ⟨x, r, rfl, h⟩ := t1i_ok h; exact zs_if_eq hd hv h
  case h_47 off hd =>
    cases hv : zgo pc off with
    | false => rw [hv] at he; cases he
    | true => rw [hv] at he; cases he; obtain ⟨x, r, rfl, h⟩ := t1i_ok h; exact zs_if_ne hd hv h
  case h_48 off hd =>
    cases hv : zgo pc off with
    | false => rw [hv] at he; cases he
    | true => rw [hv] at he; cases he; obtain ⟨x, r, rfl, h⟩ := t1i_ok h; exact zs_if_lt hd hv h
  case h_49 off hd =>
    cases hv : zgo pc off with
    | false => rw [hv] at he; cases he
    | true => rw [hv] at he; cases he; obtain ⟨x, r, rfl, h⟩ := t1i_ok h; exact zs_if_ge hd hv h
  case h_50 off hd =>
    cases hv : zgo pc off with
    | false => rw [hv] at he; cases he
    | true => rw [hv] at he; cases he; obtain ⟨x, r, rfl, h⟩ := t1i_ok h; exact zs_if_gt hd hv h
  case h_51 off hd =>
    cases hv : zgo pc off with
    | false => rw [hv] at he; cases he
    | true => rw [hv] at he; cases he; obtain ⟨x, r, rfl, h⟩ := t1i_ok h; exact zs_if_le hd hv h
  case h_52 i hd =>
    cases hv : zfd f.1 i with
    | none => rw [hv] at he; cases he
    | some q => rw [hv] at he; cases he; obtain ⟨x, r, rfl, h⟩ := t1r_ok h; obtain ⟨h1, h⟩ := zif_ok h; exact zs_get hd hv h1 h
  case h_53 i hd =>
    cases hv : zfd f.1 i with
    | none => rw [hv] at he; cases he
    | some q =>
      obtain ⟨a, b⟩ := q
      rw [hv] at he; cases he
      change (match tyT a b with | .int => _ | .boolean => _ | .long => _ | .object _ => _ | .array _ => _ | _ => False) at h
      split at h
      · obtain ⟨x, y, r, rfl, h⟩ := tir_ok h; obtain ⟨h1, h⟩ := zif_ok h; simp only [Bool.and_eq_true] at h1; exact zs_putI hd hv h1.1 h1.2 (by assumption) h
      · obtain ⟨x, y, r, rfl, h⟩ := tir_ok h; obtain ⟨h1, h⟩ := zif_ok h; simp only [Bool.and_eq_true] at h1; exact zs_putZ hd hv h1.1 h1.2 (by assumption) h.1 h.2
      · obtain ⟨x, y, r, rfl, h⟩ := tlr_ok h; obtain ⟨h1, h⟩ := zif_ok h; simp only [Bool.and_eq_true] at h1; exact zs_putJ hd hv h1.1 h1.2 (by assumption) h
      · obtain ⟨x, y, r, rfl, h⟩ := trr_ok h; obtain ⟨h1, h⟩ := zif_ok h; simp only [Bool.and_eq_true] at h1; exact zs_putR hd hv h1.1 h1.2.1 h1.2.2.1 (Nat.eq_of_beq_eq_true h1.2.2.2) (by assumption) (Or.inl ⟨_, rfl⟩) h
      · obtain ⟨x, y, r, rfl, h⟩ := trr_ok h; obtain ⟨h1, h⟩ := zif_ok h; simp only [Bool.and_eq_true] at h1; exact zs_putR hd hv h1.1 h1.2.1 h1.2.2.1 (Nat.eq_of_beq_eq_true h1.2.2.2) (by assumption) (Or.inr ⟨_, rfl⟩) h
      · exact h.elim
  case h_54 hd => cases he; obtain ⟨x, y, r, rfl, h⟩ := tir_ok h; obtain ⟨h1, h⟩ := zif_ok h; exact zs_iald hd h1 h.1 h.2
  case h_55 hd => cases he; obtain ⟨x, y, z, r, rfl, h⟩ := tiir_ok h; obtain ⟨h1, h⟩ := zif_ok h; exact zs_iast hd h1 h.1 h.2
  case h_56 hd => cases he; obtain ⟨x, y, r, rfl, h⟩ := tir_ok h; obtain ⟨h1, h⟩ := zif_ok h; exact zs_bald hd h1 h.1 h.2
  case h_57 hd => cases he; obtain ⟨x, y, z, r, rfl, h⟩ := tiir_ok h; obtain ⟨h1, h⟩ := zif_ok h; exact zs_bast hd h1 h.1 h.2
  case h_58 hd => cases he; obtain ⟨x, y, r, rfl, h⟩ := tir_ok h; obtain ⟨h1, h⟩ := zif_ok h; exact zs_lald hd h1 h.1 h.2
  case h_59 hd => cases he; obtain ⟨x, y, z, r, rfl, h⟩ := tlir_ok h; obtain ⟨h1, h⟩ := zif_ok h; exact zs_last hd h1 h.1 h.2
  case h_60 hd => cases he; obtain ⟨x, r, rfl, h⟩ := t1r_ok h; obtain ⟨h1, h⟩ := zif_ok h; exact zs_alen hd h1 h
  case h_61 hd =>
    cases he
    obtain ⟨x, r, rfl, rfl, h2⟩ := t1i_ok h
    clear h
    split at h2
    · exact zs_iret hd (by assumption) h2
    · exact zs_zret hd (by assumption) h2.1 h2.2
    · exact h2.elim
  case h_62 hd =>
    cases he
    obtain ⟨x, r, rfl, rfl, h2⟩ := t1l_ok h
    clear h
    split at h2
    · exact zs_lret hd (by assumption) h2
    · exact h2.elim
  case h_63 hd => cases he; obtain ⟨rfl, h1, h⟩ := h; exact zs_vret hd h1 h
  case h_64 i hd =>
    cases hv : znc f.1 i with
    | none => rw [hv] at he; cases he
    | some q => rw [hv] at he; cases he; obtain ⟨h1, h⟩ := zif_ok h; exact zs_new hd hv h1 h
  case h_65 hd => cases he; obtain ⟨x, r, rfl, h⟩ := t1i_ok h; obtain ⟨h1, h⟩ := zif_ok h; exact zs_newI hd h1 h
  case h_66 hd => cases he; obtain ⟨x, r, rfl, h⟩ := t1i_ok h; obtain ⟨h1, h⟩ := zif_ok h; exact zs_newB hd h1 h
  case h_67 hd => cases he; obtain ⟨x, r, rfl, h⟩ := t1i_ok h; obtain ⟨h1, h⟩ := zif_ok h; exact zs_newL hd h1 h
  case h_68 df hi offs len hd =>
    cases hv : ((zgo pc df && offs.toList.all (zgo pc) && decide (hi = (offs.size : Int) - 1)) && Nat.blt offs.size 1000) with
    | false => rw [hv] at he; cases he
    | true =>
      rw [hv] at he; cases he
      obtain ⟨x, r, rfl, h⟩ := t1i_ok h
      rw [Bool.and_eq_true] at hv
      exact zs_switch hd hv.1 h (Nat.blt_eq.mp hv.2)
  case h_69 i hd =>
    cases hv : zoi f.1 i with
    | false => rw [hv] at he; cases he
    | true => rw [hv] at he; cases he; obtain ⟨x, r, rfl, h⟩ := t1r_ok h; obtain ⟨h1, h⟩ := zif_ok h; exact zs_objinit hd hv h1 h
  case h_70 => cases he
end
end
section
/-! MANY STEPS; CALLS -/
theorem t1i_m {st : List Value} {k k' : Int32 → List Value → Prop} (h : t1i st k) (hk : ∀ x r, k x r → k' x r) : t1i st k' := by
  obtain ⟨x, r, rfl, h⟩ := t1i_ok h; exact hk x r h
theorem t1l_m {st : List Value} {k k' : Int64 → List Value → Prop} (h : t1l st k) (hk : ∀ x r, k x r → k' x r) : t1l st k' := by
  obtain ⟨x, r, rfl, h⟩ := t1l_ok h; exact hk x r h
theorem t1r_m {st : List Value} {k k' : Nat → List Value → Prop} (h : t1r st k) (hk : ∀ x r, k x r → k' x r) : t1r st k' := by
  obtain ⟨x, r, rfl, h⟩ := t1r_ok h; exact hk x r h
theorem t2i_m {st : List Value} {k k' : Int32 → Int32 → List Value → Prop} (h : t2i st k) (hk : ∀ x y r, k x y r → k' x y r) : t2i st k' := by
  obtain ⟨x, y, r, rfl, h⟩ := t2i_ok h; exact hk x y r h
theorem t2l_m {st : List Value} {k k' : Int64 → Int64 → List Value → Prop} (h : t2l st k) (hk : ∀ x y r, k x y r → k' x y r) : t2l st k' := by
  obtain ⟨x, y, r, rfl, h⟩ := t2l_ok h; exact hk x y r h
theorem til_m {st : List Value} {k k' : Int64 → Int32 → List Value → Prop} (h : til st k) (hk : ∀ x y r, k x y r → k' x y r) : til st k' := by
  obtain ⟨x, y, r, rfl, h⟩ := til_ok h; exact hk x y r h
theorem tir_m {st : List Value} {k k' : Nat → Int32 → List Value → Prop} (h : tir st k) (hk : ∀ x y r, k x y r → k' x y r) : tir st k' := by
  obtain ⟨x, y, r, rfl, h⟩ := tir_ok h; exact hk x y r h
theorem tiir_m {st : List Value} {k k' : Nat → Int32 → Int32 → List Value → Prop} (h : tiir st k) (hk : ∀ x y z r, k x y z r → k' x y z r) : tiir st k' := by
  obtain ⟨x, y, z, r, rfl, h⟩ := tiir_ok h; exact hk x y z r h
theorem tlir_m {st : List Value} {k k' : Nat → Int32 → Int64 → List Value → Prop} (h : tlir st k) (hk : ∀ x y z r, k x y z r → k' x y z r) : tlir st k' := by
  obtain ⟨x, y, z, r, rfl, h⟩ := tlir_ok h; exact hk x y z r h
theorem tlr_m {st : List Value} {k k' : Nat → Int64 → List Value → Prop} (h : tlr st k) (hk : ∀ x z r, k x z r → k' x z r) : tlr st k' := by
  obtain ⟨x, z, r, rfl, h⟩ := tlr_ok h; exact hk x z r h
theorem trr_m {st : List Value} {k k' : Nat → Nat → List Value → Prop} (h : trr st k) (hk : ∀ x z r, k x z r → k' x z r) : trr st k' := by
  obtain ⟨x, z, r, rfl, h⟩ := trr_ok h; exact hk x z r h
theorem t1d_m {st : List Value} {k k' : Value → List Value → Prop} (h : t1d st k) (hk : ∀ x r, k x r → k' x r) : t1d st k' := by
  rcases t1d_ok h with ⟨x, r, rfl, h⟩ | ⟨x, r, rfl, h⟩
  · exact hk _ r h
  · exact hk _ r h
theorem zif_m {b : Bool} {p q : Prop} (h : zif b p) (hk : p → q) : zif b q := by
  cases b
  · exact h.elim
  · exact hk h
set_option maxHeartbeats 2000000 in
theorem zst_m {d : Nat} {f : zF} {e : zI} {mc ms : Nat} {M : zM} {lo : List (Nat × Value)} {st : List Value} {K K' : Nat → Nat → zM → Nat → List (Nat × Value) → List Value → Prop} {Q : zR → zM → Prop} (h : zst d f e mc ms M lo st K Q) (hK : ∀ mc ms M pc lo st, K mc ms M pc lo st → K' mc ms M pc lo st) : zst d f e mc ms M lo st K' Q := by
  unfold zst at h ⊢
  split at h
  case h_1 => exact hK _ _ _ _ _ _ h
  case h_2 => exact hK _ _ _ _ _ _ h
  case h_3 => split at h <;> first | exact hK _ _ _ _ _ _ h | exact h.elim
  case h_4 => split at h <;> first | exact hK _ _ _ _ _ _ h | exact h.elim
  case h_5 => split at h <;> first | exact hK _ _ _ _ _ _ h | exact h.elim
  case h_6 => exact t1i_m h (fun x r h => zif_m h (hK _ _ _ _ _ _))
  case h_7 => exact t1l_m h (fun x r h => zif_m h (hK _ _ _ _ _ _))
  case h_8 => exact t1r_m h (fun x r h => zif_m h (hK _ _ _ _ _ _))
  case h_9 => split at h <;> first | exact zif_m h (hK _ _ _ _ _ _) | exact h.elim
  case h_10 => exact t2i_m h (fun x y r h => ⟨h.1, hK _ _ _ _ _ _ h.2⟩)
  case h_11 => exact t2i_m h (fun x y r h => ⟨h.1, hK _ _ _ _ _ _ h.2⟩)
  case h_12 => exact t2i_m h (fun x y r h => hK _ _ _ _ _ _ h)
  case h_13 => exact t1i_m h (fun x r h => hK _ _ _ _ _ _ h)
  case h_14 => exact t1i_m h (fun x r h => hK _ _ _ _ _ _ h)
  case h_15 => exact t2l_m h (fun x y r h => hK _ _ _ _ _ _ h)
  case h_16 => exact t2l_m h (fun x y r h => hK _ _ _ _ _ _ h)
  case h_17 => exact t2l_m h (fun x y r h => hK _ _ _ _ _ _ h)
  case h_18 => exact til_m h (fun x y r h => hK _ _ _ _ _ _ h)
  case h_19 => exact t1d_m h (fun x r h => hK _ _ _ _ _ _ h)
  case h_20 => exact tir_m h (fun x y r h => hK _ _ _ _ _ _ h)
  case h_21 => exact t1i_m h (fun x r h => hK _ _ _ _ _ _ h)
  case h_22 => exact hK _ _ _ _ _ _ h
  case h_23 => exact t2i_m h (fun x y r h => ⟨fun z => hK _ _ _ _ _ _ (h.1 z), fun z => hK _ _ _ _ _ _ (h.2 z)⟩)
  case h_24 => exact t1i_m h (fun x r h => ⟨fun z => hK _ _ _ _ _ _ (h.1 z), fun z => hK _ _ _ _ _ _ (h.2 z)⟩)
  case h_25 => exact t1r_m h (fun x r h => zif_m h (hK _ _ _ _ _ _))
  case h_26 =>
    split at h
    · exact tir_m h (fun x y r h => zif_m h (hK _ _ _ _ _ _))
    · exact tir_m h (fun x y r h => zif_m h (fun h => ⟨h.1, hK _ _ _ _ _ _ h.2⟩))
    · exact tlr_m h (fun x y r h => zif_m h (hK _ _ _ _ _ _))
    · exact trr_m h (fun x y r h => zif_m h (hK _ _ _ _ _ _))
    · exact trr_m h (fun x y r h => zif_m h (hK _ _ _ _ _ _))
    · exact h.elim
  case h_27 => exact tir_m h (fun x y r h => zif_m h (fun h => ⟨h.1, hK _ _ _ _ _ _ h.2⟩))
  case h_28 => exact tiir_m h (fun x y z r h => zif_m h (fun h => ⟨h.1, hK _ _ _ _ _ _ h.2⟩))
  case h_29 => exact tir_m h (fun x y r h => zif_m h (fun h => ⟨h.1, hK _ _ _ _ _ _ h.2⟩))
  case h_30 => exact tiir_m h (fun x y z r h => zif_m h (fun h => ⟨h.1, hK _ _ _ _ _ _ h.2⟩))
  case h_31 => exact tir_m h (fun x y r h => zif_m h (fun h => ⟨h.1, hK _ _ _ _ _ _ h.2⟩))
  case h_32 => exact tlir_m h (fun x y z r h => zif_m h (fun h => ⟨h.1, hK _ _ _ _ _ _ h.2⟩))
  case h_33 => exact t1r_m h (fun x r h => zif_m h (hK _ _ _ _ _ _))
  case h_34 => exact h
  case h_35 => exact h
  case h_36 => exact h
  case h_37 => exact zif_m h (hK _ _ _ _ _ _)
  case h_38 => exact t1i_m h (fun x r h => zif_m h (hK _ _ _ _ _ _))
  case h_39 => exact t1i_m h (fun x r h => ⟨fun k hk hx => hK _ _ _ _ _ _ (h.1 k hk hx), fun z => hK _ _ _ _ _ _ (h.2 z)⟩)
  case h_40 => exact t1r_m h (fun x r h => zif_m h (hK _ _ _ _ _ _))
  case h_41 => exact h.elim
def zfind : List (Nat × zI) → Nat → Option zI
  | [], _ => none
  | q :: r, i => bif q.1 == i then some q.2 else zfind r i
theorem zfind_ok {tb : List (Nat × zI)} {i : Nat} {e : zI} (h : zfind tb i = some e) : (i, e) ∈ tb := by
  induction tb with
  | nil => cases h
  | cons q r ih =>
    unfold zfind at h
    cases hq : (q.1 == i) with
    | true =>
      rw [hq] at h
      have e1 : q.1 = i := by simpa using hq
      have e2 : q.2 = e := Option.some.inj h
      rw [← e1, ← e2]
      exact List.mem_cons_self
    | false => rw [hq] at h; exact List.mem_cons_of_mem _ (ih h)
/-- steps, up to n, until a place of sp, or one that the table hasn't -/
def zwp (d : Nat) (f : zF) (tb : List (Nat × zI)) (sp : List Nat) (K : Nat → Nat → zM → Nat → List (Nat × Value) → List Value → Prop) (Q : zR → zM → Prop) : Nat → Nat → Nat → zM → Nat → List (Nat × Value) → List Value → Prop
  | 0, mc, ms, M, pc, lo, st => K mc ms M pc lo st
  | n + 1, mc, ms, M, pc, lo, st => match zfind tb pc with
    | none => K mc ms M pc lo st
    | some e => zst d f e mc ms M lo st (fun mc ms M pc lo st => match sp.elem pc with
      | true => K mc ms M pc lo st
      | false => zwp d f tb sp K Q n mc ms M pc lo st) Q
theorem zwp_ok {l : Launch} {d : Nat} {f : zF} {tb : List (Nat × zI)} (htb : ztbok f tb) (sp : List Nat) {Q : zR → zM → Prop} (n : Nat) : ∀ {mc ms : Nat} {M : zM} {pc : Nat} {lo : List (Nat × Value)} {st : List Value},
    zwp d f tb sp (fun mc ms M pc lo st => zGo l d mc ms f M pc lo st Q) Q n mc ms M pc lo st → zGo l d mc ms f M pc lo st Q := by
  induction n with
  | zero => intro mc ms M pc lo st h; exact h
  | succ n ih =>
    intro mc ms M pc lo st h
    unfold zwp at h
    split at h
    · exact h
    · rename_i e he
      have he2 : zpre f.1 f.2.1 pc = some e := htb (pc, e) (zfind_ok he)
      have h2 : zst d f e mc ms M lo st (fun mc ms M pc lo st => zGo l d mc ms f M pc lo st Q) Q := by
        apply zst_m h
        intro mc ms M pc lo st h
        split at h
        · exact h
        · exact ih h
      exact z_step he2 h2
/-- consequence -/
theorem zRet.mono {l : Launch} {d mc ms : Nat} {y : MethodName} {cd : Cond} {a : List Value} {M : zM} {Q Q' : zR → zM → Prop} (h : zRet l d mc ms y cd a M Q) (hQ : ∀ r M', Q r M' → Q' r M') : zRet l d mc ms y cd a M Q' := by
  intro g p e ha hc hk s m args below hf happ hP hK
  obtain ⟨n, o, h1, h2, h3, h4⟩ := h g p e ha hc hk s m args below hf happ hP hK
  refine ⟨n, o, h1, h2, h3, ?_⟩
  rcases h4 with ⟨⟨v, M', hv, hq, hH⟩, hL⟩ | ⟨q, ho, E, ce, L, ⟨M', hq, hH⟩, h5⟩
  · exact Or.inl ⟨⟨v, M', hv, hQ _ _ hq, hH⟩, hL⟩
  · exact Or.inr ⟨q, ho, E, ce, L, ⟨M', hQ _ _ hq, hH⟩, h5⟩
theorem zGo.post {l : Launch} {d mc ms : Nat} {f : zF} {M : zM} {pc : Nat} {lo : List (Nat × Value)} {st : List Value} {Q Q' : zR → zM → Prop} (h : zGo l d mc ms f M pc lo st Q) (hQ : ∀ r M', Q r M' → Q' r M') : zGo l d mc ms f M pc lo st Q' := by
  intro g p e R s m args below meth c H locs cells slots ls a1 a2 a3 a4 a5 a6 a7 a8 T hT X
  obtain ⟨t, st, o, b1, b2, b3⟩ := h g p e R s m args below meth c H locs cells slots ls a1 a2 a3 a4 a5 a6 a7 a8 T hT X
  refine ⟨t, st, o, b1, b2, ?_⟩
  rcases b3 with ⟨⟨v, M', hv, hq, hH⟩, hL⟩ | ⟨q, ho, E, ce, L, ⟨M', hq, hH⟩, h5⟩
  · exact Or.inl ⟨⟨v, M', hv, hQ _ _ hq, hH⟩, hL⟩
  · exact Or.inr ⟨q, ho, E, ce, L, ⟨M', hQ _ _ hq, hH⟩, h5⟩
/-- fewer locals are known, in any order -/
theorem zGo.sub {l : Launch} {d mc ms : Nat} {f : zF} {M : zM} {pc : Nat} {lo lo' : List (Nat × Value)} {st : List Value} {Q : zR → zM → Prop} (h : zGo l d mc ms f M pc lo' st Q) (hs : ∀ q ∈ lo', q ∈ lo) : zGo l d mc ms f M pc lo st Q :=
  fun g p e R s m args below meth c H locs cells slots ls a1 a2 a3 a4 a5 a6 a7 a8 => h g p e R s m args below meth c H locs cells slots ls a1 a2 a3 a4 a5 a6 a7 ⟨a8.1, a8.2.1, fun q hq => by
    obtain ⟨q', hq', rfl⟩ := List.mem_map.mp hq
    exact a8.2.2 _ (List.mem_map.mpr ⟨q', hs q' hq', rfl⟩)⟩
theorem zblind {l : Launch} {g : zG} {M : zM} {av : List Value} : FrameBlind (va_Pc av (fun U => zW l g U ∧ zH g M U.heap)) := by
  intro a U g' mk h
  obtain ⟨h1, h2, h3⟩ := h
  exact ⟨h1, zW.warm (s := U) (U := U.calling g' mk a) (State.WarmedH.refl U) h2, h3⟩
theorem zwarm {args : Array Value} {s : State} (hts : ∀ w ∈ zws, w.before args s = true) : ∀ w ∈ zws, ∀ (a' : Array Value) (U : State), s.WarmedH U.vm → w.before a' U = true := fun w hw a' U hW => word_at hW (z_good w hw) (hts w hw)
theorem zcat (g : zG) (st : List Value) : ((st.map (zc g)).map fun v => v.category).sum = (st.map Value.category).sum := by
  rw [List.map_map]
  have e1 : ((fun v => v.category) ∘ zc g) = Value.category := funext fun v => zc_cat g v
  rw [e1]
theorem zcallB {R : Room} {s : State} {args : Array Value} {own : String} {idx : Nat} {y : MethodName} {cc : ByteArray} {nL n d mc ms : Nat} {ret : Option FieldType} (hm : zMth y (.code y cc nL ret) n) (hl : (Cond.methodLink own idx y).before args s = true) (hts : ∀ w ∈ zws, w.before args s = true) (h1 : d + 1 ≤ R.frames) (h2 : 8 + (nL + 11) + 37 * d ≤ R.locals) :
    CallB R s args own idx y cc nL ret (.code y cc nL ret :: zws) (zrm d mc ms) mc ms n := by
  obtain ⟨m1, m2, m3, m4⟩ := hm
  refine ⟨rfl, rfl, h1, h2, ?_, List.mem_cons_self, hts _ m1, hts _ m2, m3, fun sig h => ?_, hl⟩
  · intro w hw
    rcases List.mem_cons.mp hw with rfl | hw
    · exact zwarm hts _ m1
    · exact zwarm hts _ hw
  · rw [h] at m4
    exact (Option.some.inj m4).symm
/-- behind a call: the machine's end of it, as a memory -/
theorem zback {l : Launch} {d mc ms mc' ms' : Nat} {f : zF} {pc : Nat} {lo : List (Nat × Value)} {rest : List Value} {Q Qc : zR → zM → Prop} {g : zG} {p : Program} {e : Env} {R : Room} {s : State} {m : MethodId} {args : Array Value} {below : List Frame} {meth : Method} {c : Code} {H : Heap} {locs : List Loc} {cells slots : Nat} {ls : Array Slot} {st0 : List Value} {a : Array Value}
    (hr : vx_Run p l e R s m args below meth c H locs cells slots mc' ms' (F0 m pc ls st0) (rest.map (zc g)) (zQr g Qc a) (zQx g Qc) (fun q => g.2.2.1 ≤ q))
    (hC : zCx l g f p s m args meth c) (a2 : d ≤ R.frames) (a3 : 37 * d ≤ R.locals) (a4 : cells + mc ≤ R.cells) (a5 : slots + ms ≤ R.slots) (a6 : ∀ q ∈ locs, g.2.2.1 ≤ q.base) (a8 : lv_has ls f.2.2.2.1 (zlm g lo)) (hmc : mc' ≤ mc) (hms : ms' ≤ ms)
    (k : ∀ v M', Qc (.inl v) M' → zGo l d (mc - mc') (ms - ms') f M' (pc + 3) lo (v.toList ++ rest) Q)
    (kx : ∀ (E : String) (M' : zM) (ce : Cell) (q9 : Addr) (H1 : Heap) (locs1 : List Loc), Qc (.inr E) M' → zH g M' H1 → (∀ q ∈ locs1, g.2.2.1 ≤ q.base) → H1[q9]? = some ce → ce.vm = .none → s.vm.findClass E = some ce.cls → vx_W p l e R s m args below meth c H1 locs1 (cells + mc') (slots + ms') (vx_MQ below (zQr g Q) (zQx g Q) args s R.cells R.slots (fun q => g.2.2.1 ≤ q)) (F0 m pc ls (rest.map (zc g))) q9) :
    W p l e R s m args below meth c H locs cells slots (vx_MQ below (zQr g Q) (zQx g Q) args s R.cells R.slots (fun q => g.2.2.1 ≤ q)) (F0 m pc ls st0) := by
  intro T hT X
  have hL2 : ∀ {L : List Loc}, (∀ q ∈ L, g.2.2.1 ≤ q.base) → ∀ q ∈ locs ++ L, g.2.2.1 ≤ q.base := fun hL q hq => (List.mem_append.mp hq).elim (a6 q) (hL q)
  rcases hr T hT X with ⟨v, st₀, t, T', L, h0, X', hL, e1, e2, ⟨w, M', hv, hq, hH⟩, stp⟩ | ⟨q, st₀, t, T', L, E, ce, h0, X', hL, e1, e2, ⟨M', hq, hH⟩, hce, hcv, hcl, stp⟩
  · cases hv
    have hk := k w M' hq g p e R s m args below meth c T'.heap (locs ++ L) (cells + mc') (slots + ms') ls hC a2 a3 (by omega) (by omega) (hL2 hL) (by rw [e1]; exact hH) a8
    have hst : ((w.toList ++ rest).map (zc g)) = (w.map (zc g)).toList ++ rest.map (zc g) := by cases w <;> simp
    rw [hst] at hk
    obtain ⟨t2, b1, b2⟩ := hk T' rfl X'
    exact ⟨t2, stp t2 b1, b2⟩
  · obtain ⟨t2, b1, b2⟩ := kx E M' ce q T'.heap (locs ++ L) hq (by rw [e1]; exact hH) (hL2 hL) (by rw [e1]; exact hce) hcv hcl T' rfl X'
    exact ⟨t2, stp.trans b1, b2⟩
section
variable {l : Launch} {d mc ms : Nat} {f : zF} {M : zM} {pc : Nat} {lo : List (Nat × Value)} {st : List Value} {Q : zR → zM → Prop}
theorem zcallV (d' mc' ms' : Nat) {idx o ci n nL : Nat} {y : MethodName} {cc : ByteArray} {ret : Option FieldType} {a rest : List Value} {Qc : zR → zM → Prop} (hd : decode f.2.1 pc = .ok (.invokevirtual idx, 3)) (hl : Cond.methodLink (zown f.1) idx y ∈ zws) (hm : zMth y (.code y cc nL ret) n) (hi : Cond.instanceMethod y ∈ zws) (hs : Cond.selects y.cls y y ∈ zws)
    (hst : st = a.reverse ++ .ref o :: rest) (hk : zisk M o 0 ci = true) (hcl : (zcl[ci]?).map (fun q => q.1) = some y.cls) (hn : a.length = n) (hq : (Nat.ble (d' + 1) d && Nat.ble nL 18 && Nat.ble mc' mc && Nat.ble ms' ms && Nat.ble ((rest.map Value.category).sum) 8) = true) (hh : f.2.2.2.2.1 = [])
    (hR : zRet l d' mc' ms' y (.code y cc nL ret) (.ref o :: a) M Qc)
    (kx : ∀ E M', Qc (.inr E) M' → Q (.inr E) M')
    (k : ∀ v M', Qc (.inl v) M' → zGo l d (mc - mc') (ms - ms') f M' (pc + 3) lo (v.toList ++ rest) Q) : zGo l d mc ms f M pc lo st Q := by
  intro g p e R s m args below meth c H locs cells slots ls hC a2 a3 a4 a5 a6 a7 a8
  simp only [Bool.and_eq_true, Nat.ble_eq] at hq
  obtain ⟨⟨⟨⟨q1, q2⟩, q3⟩, q4⟩, q5⟩ := hq
  subst hst
  obtain ⟨hx, hcb, hr, hml, hown, hlocks, hts, hw, ht, hin⟩ := id hC
  have hk := zisk_ok hk
  obtain ⟨-, had, hce⟩ := a7.cell o hk (by decide)
  unfold zcell at hce
  rw [hk] at hce
  obtain ⟨q', hq', cell, c1, c2, c3, c4⟩ := hce
  have hcls : q'.1 = y.cls := by rw [hq'] at hcl; exact Option.some.inj hcl
  have hrun := vx_runV (l := l) (R := R) (H := H) (p := p) (e := e) (below := below) (meth := meth) (locs := locs) (cells := cells) (slots := slots) (g := F0 m pc ls ((a.reverse ++ .ref o :: rest).map (zc g))) (As := a.map (zc g)) (rest := rest.map (zc g)) (b := zad g o) (C := y.cls) (Ts := zws) ⟨hx, hcb, hml, hown, hts⟩ (hR g)
    ⟨zcallB hm (hts _ hl) hts (by omega) (by omega), hts _ hi, hts _ hs⟩
    ⟨zblind, ⟨cell, by rw [had]; exact c1, by rw [c3]; rfl, by rw [c2, ← hcls]; exact (hw.1.1 ci q' hq').2.1⟩, fun U hU hW => ⟨rfl, zW.warm hW hw, by rw [hU]; exact a7⟩⟩
    rfl (by rw [List.length_map]; exact hn) a8.1 (by simp [zc]) (by rw [zcat]; show 2 * 0 + _ ≤ 8; omega) hd ⟨by omega, by omega⟩
  refine zback hrun hC a2 a3 a4 a5 a6 a8 q3 q4 k (fun E M' ce q9 H1 locs1 hqx hH1 hl1 hce hcv hclx => ?_)
  refine vx_out (fun x hx => ?_) hlocks hce hcv hclx (fun t ht _ => ⟨M', kx E M' hqx, by rw [ht]; exact hH1⟩) hl1 (by omega) (by omega)
  rw [ht, hh] at hx
  cases hx
theorem zcallS (d' mc' ms' : Nat) {idx n nL : Nat} {y : MethodName} {cc : ByteArray} {ret : Option FieldType} {a rest : List Value} {Qc : zR → zM → Prop} (hd : decode f.2.1 pc = .ok (.invokestatic idx, 3)) (hl : Cond.methodLink (zown f.1) idx y ∈ zws) (hm : zMth y (.code y cc nL ret) n) (hi : Cond.static y ∈ zws)
    (hst : st = a.reverse ++ rest) (hn : a.length = n) (hq : (Nat.ble (d' + 1) d && Nat.ble nL 18 && Nat.ble mc' mc && Nat.ble ms' ms && Nat.ble ((rest.map Value.category).sum) 8) = true) (hh : f.2.2.2.2.1 = [])
    (hR : zRet l d' mc' ms' y (.code y cc nL ret) a M Qc)
    (kx : ∀ E M', Qc (.inr E) M' → Q (.inr E) M')
    (k : ∀ v M', Qc (.inl v) M' → zGo l d (mc - mc') (ms - ms') f M' (pc + 3) lo (v.toList ++ rest) Q) : zGo l d mc ms f M pc lo st Q := by
  intro g p e R s m args below meth c H locs cells slots ls hC a2 a3 a4 a5 a6 a7 a8
  simp only [Bool.and_eq_true, Nat.ble_eq] at hq
  obtain ⟨⟨⟨⟨q1, q2⟩, q3⟩, q4⟩, q5⟩ := hq
  subst hst
  obtain ⟨hx, hcb, hr, hml, hown, hlocks, hts, hw, ht, hin⟩ := id hC
  have hrun := vx_runS (l := l) (R := R) (H := H) (p := p) (e := e) (below := below) (meth := meth) (locs := locs) (cells := cells) (slots := slots) (g := F0 m pc ls ((a.reverse ++ rest).map (zc g))) (As := a.map (zc g)) (rest := rest.map (zc g)) (Ts := zws) ⟨hx, hcb, hml, hown, hts⟩ (hR g)
    ⟨zcallB hm (hts _ hl) hts (by omega) (by omega), hts _ hi⟩
    ⟨zblind, fun U hU hW => ⟨rfl, zW.warm hW hw, by rw [hU]; exact a7⟩⟩
    rfl (by rw [List.length_map]; exact hn) a8.1 (by simp) (by rw [zcat]; show 2 * 0 + _ ≤ 8; omega) hd ⟨by omega, by omega⟩
  refine zback hrun hC a2 a3 a4 a5 a6 a8 q3 q4 k (fun E M' ce q9 H1 locs1 hqx hH1 hl1 hce hcv hclx => ?_)
  refine vx_out (fun x hx => ?_) hlocks hce hcv hclx (fun t ht _ => ⟨M', kx E M' hqx, by rw [ht]; exact hH1⟩) hl1 (by omega) (by omega)
  rw [ht, hh] at hx
  cases hx
end
end
section
section
variable {p : Program} {l : Launch} {e : Env} {R : Room} {s : State} {m₀ : MethodId} {args : Array Value} {below : List Frame} {meth : Method} {c : Code} {W : State} {locs : List Loc} {cells slots : Nat}
def zyX : String := "java/util/NoSuchElementException"
def zyY : String := "java/lang/RuntimeException"
abbrev zyCode : ByteArray := prog_31_method_4_code
/-- the words of 'throw new NoSuchElementException("text")': its constructor's pool number is 13 -/
def zyAtoms (own : String) (ic : Nat) : List Cond :=
  Bundle.throwableAtoms ++ Bundle.throwableSAtoms ++ (Bundle.passSAtoms zyX zyY 13 zyCode ++ Bundle.chainSAtoms zyY ["java/lang/Exception"]) ++
  [.methodLink own ic (Bundle.initS zyX), .instantiable zyX 6, .castable zyX zyX, .selects zyX Bundle.tFill0 Bundle.tFill0, .selects zyX Bundle.tFill Bundle.tFill,
   .lays zyX Bundle.tN "cause" "Ljava/lang/Throwable;", .lays zyX Bundle.tN "stackTrace" Bundle.steD, .lays zyX Bundle.tN "suppressedExceptions" Bundle.listD, .lays zyX Bundle.tN "detailMessage" "Ljava/lang/String;",
   .isRef (.static Bundle.tN "UNASSIGNED_STACK" Bundle.steD), .isRef (.static Bundle.tN "SUPPRESSED_SENTINEL" Bundle.listD),
   .fieldLink Bundle.tN 198 Bundle.tN "backtrace" "Ljava/lang/Object;", .lays Bundle.tN Bundle.tN "backtrace" "Ljava/lang/Object;", .lays zyX Bundle.tN "backtrace" "Ljava/lang/Object;"]
set_option maxHeartbeats 1000000 in
theorem zy_ctor (X : Stand p l e R s m₀ args below meth c W locs cells slots) (hexec : p.tables.exec = Jvm.exec) (htr : e.platform.stackTraces = false) {own : String} {ic : Nat}
    (hown : s.vm.findClass own = some m₀.cls) 
    (h : ∀ a ∈ zyAtoms own ic, a.before args s = true)
    (hlocs : ∀ x ∈ locs, ∀ cell, s.heap[x.base]? = some cell → cell.vm.isStatics = false)
    {a : Addr} {cX : ClassId} {kX : Class} (hfoundX : s.vm.findClass zyX = some cX) (hkX : s.vm.classes[cX]? = some kX) (hcell : W.heap[a]? = some (freshCell cX kX)) (hnew : s.heap.size ≤ a)
    {msg : Value} (hmsg : msg.isRef = true)
    {g : JFrame} (hg : g.method = m₀) (hsize : g.locals.size = c.maxLocals) (hlocked : g.locked = none) (hentered : g.entered = []) {rest : List Value} (hstack : g.stack = msg :: .ref a :: .ref a :: rest)
    (hd6 : decode c.code g.pc = .ok (.invokespecial ic, 3)) (hd9 : decode c.code (g.pc + 3) = .ok (.athrow, 1)) (hout : ∀ x ∈ c.exceptionTable.toList, covers x (g.pc + 3) = false)
    (hRframes : 5 < R.frames) (hRlocals : 2 * g.monitorRoom + ((Value.ref a :: rest).map fun v => v.category).sum + 81 ≤ R.locals) (hlocks : meth.locks = false := by first | assumption | exact BodyLoose.notSynchronized (by assumption) | exact Body.notSynchronized (by assumption)) :
    ∃ U : State, Steps p.tables e below (W.setTop g) U ∧ U.status = .running ∧ Ended U below (.threw a) ∧ s.WarmedH U.vm ∧ s.sameButNew ({ U with vm := s.vm } : State) locs cells slots ∧
      ∃ ce : Cell, U.heap[a]? = some ce ∧ ce.vm = .none ∧ s.vm.findClass zyX = some ce.cls := by
  have howns : e.platform.frameOwnsMonitors = true := by rw [X.admits.platform]
  have hfin : e.platform.finalization = false := by rw [X.admits.platform]
  have hpl : e.platform.magicAccessors = ({} : Platform).magicAccessors := by rw [X.admits.platform]
  have a' : ∀ x, x ∈ zyAtoms own ic → x.holds args s none s [] = true := fun x hx => h x hx
  obtain ⟨T, Z0, L, -, Y⟩ := ThrowableC.of_atoms (args := args) howns hfin hpl (fun x hx => h x (by simp [zyAtoms, hx]))
  obtain ⟨Z, M, LZ, LM, hnZ⟩ := Init0T.ofS_atoms (args := args) hpl L Y (fun x hx => h x (by simp [zyAtoms, hx]))
  obtain ⟨P1, L1, hP1m, hP1s⟩ := PassC.ofS_atoms (args := args) (s := s) hpl (X := zyX) (Y := zyY) (index := 13) (bytes := zyCode) (by decide +kernel) (by decide +kernel) (by decide +kernel) (by decide +kernel) (by decide +kernel) (by decide +kernel) (fun x hx => h x (by simp [zyAtoms, hx]))
  obtain ⟨P2, Ps2, hlen2, L2, hL2, hP2m, hlink2, hlinkR⟩ := Bundle.chainS (args := args) hpl hnZ ["java/lang/Exception"] zyY (by decide +kernel) (by decide +kernel) (fun x hx => h x (by simp [zyAtoms, hx]))
  obtain ⟨Ps, hPs⟩ : ∃ Ps, Ps = P2 :: Ps2 := ⟨_, rfl⟩
  have hlen : Ps.length = 2 := by rw [hPs, List.length_cons, hlen2]; rfl
  have hL : ∀ P, P ∈ Ps → P.LinksS e.platform s := fun P hP => by
    rw [hPs] at hP
    rcases List.mem_cons.mp hP with rfl | hP
    · exact L2
    · exact hL2 P hP
  have hlink1 : P1.sup = firstOf (Z.m T.toThrowableT) (Ps.map (·.toPassT)) := by
    rw [hPs]
    exact Option.some.inj (hP1s.symm.trans hP2m)
  have hlink : PassesOn (Z.m T.toThrowableT) (Ps.map (·.toPassT)) := by
    rw [hPs]
    exact ⟨hlink2, hlinkR⟩
              
  have hfound : s.vm.findClass zyX = some P1.m.cls := findClass_of_methodNamed hP1m
  cases Option.some.inj (hfoundX.symm.trans hfound)
  obtain ⟨c1, kX', hc1, hk, hord, -, -, hn6⟩ := Cond.instantiable_spec (a' (.instantiable zyX 6) (by simp [zyAtoms]))
  cases Option.some.inj (hc1.symm.trans hfound)
  cases Option.some.inj (hkX.symm.trans hk)
  have hsel0 : selectMethod e.platform s.vm P1.m.cls T.fill0 = .method T.fill0 := by
    obtain ⟨c2, r2, m2, q1, q2, q3, q4, -⟩ := Cond.selects_spec (a' (.selects zyX Bundle.tFill0 Bundle.tFill0) (by simp [zyAtoms]))
    cases Option.some.inj (q1.symm.trans hfound)
    cases Option.some.inj (q2.symm.trans (State.methodFound?_of_named Y.fill0 (by decide)))
    cases Option.some.inj (q3.symm.trans Y.fill0)
    rw [Launch.admits_selectMethod X.admits]; exact q4
  have hselF : selectMethod e.platform s.vm P1.m.cls T.fill = .method T.fill := by
    obtain ⟨c2, r2, m2, q1, q2, q3, q4, -⟩ := Cond.selects_spec (a' (.selects zyX Bundle.tFill Bundle.tFill) (by simp [zyAtoms]))
    cases Option.some.inj (q1.symm.trans hfound)
    cases Option.some.inj (q2.symm.trans (State.methodFound?_of_named Y.fill (by decide)))
    cases Option.some.inj (q3.symm.trans Y.fill)
    rw [Launch.admits_selectMethod X.admits]; exact q4
  obtain ⟨cellS0, hcS0, hiss⟩ := Y.statics
  obtain ⟨u0, hu0⟩ := Cond.staticRefV Y.unassigned L.unassignedStatic L.statics hcS0 hiss (a' (.isRef (.static Bundle.tN "UNASSIGNED_STACK" Bundle.steD)) (by simp [zyAtoms]))
  obtain ⟨sen, hsen⟩ := Cond.staticRefV Y.sentinel L.sentinelStatic L.statics hcS0 hiss (a' (.isRef (.static Bundle.tN "SUPPRESSED_SENTINEL" Bundle.listD)) (by simp [zyAtoms]))
  obtain ⟨ci198, i198, fB, hk198, hg198, ha198, hsB, -, hnB, htB, hffB⟩ := Cond.ownField (t := .object "java/lang/Object") Y.found L.cls (by decide +kernel) (a' (.fieldLink Bundle.tN 198 Bundle.tN "backtrace" "Ljava/lang/Object;") (by simp [zyAtoms])) (a' (.lays Bundle.tN Bundle.tN "backtrace" "Ljava/lang/Object;") (by simp [zyAtoms])) e.platform hpl
  obtain ⟨cellS, hcS', heS, -, hkeep⟩ := X.same.2.2.2.2.2 T.aS cellS0 hcS0
  have hcellS : W.heap[T.aS]? = some cellS := hcS'
  have hout' : ∀ i, (⟨T.aS, i⟩ : Loc) ∉ locs := fun i hmem => by
    have := hlocs _ hmem cellS0 hcS0
    rw [hiss] at this; cases this
  have hknownS : cellS.vm ≠ .unknown := by
    rw [heS]; intro hu
    rw [show cellS0.vm = .unknown from hu] at hiss
    cases hiss
  have hneS : T.aS ≠ a := Nat.ne_of_lt (Nat.lt_of_lt_of_le (Array.getElem?_eq_some_iff.mp hcS0).1 hnew)
  obtain ⟨iM, hffM⟩ := Y.msg
  obtain ⟨tyC, dC, hdC, hdnC⟩ := Cond.laysAt hfound hk Y.cause (a' (.lays zyX Bundle.tN "cause" "Ljava/lang/Throwable;") (by simp [zyAtoms]))
  obtain ⟨tyS, dS, hdS, hdnS⟩ := Cond.laysAt hfound hk Y.stack (a' (.lays zyX Bundle.tN "stackTrace" Bundle.steD) (by simp [zyAtoms]))
  obtain ⟨tyP, dP, hdP, hdnP⟩ := Cond.laysAt hfound hk Y.supp (a' (.lays zyX Bundle.tN "suppressedExceptions" Bundle.listD) (by simp [zyAtoms]))
  obtain ⟨tyM, dM, hdM, hdnM⟩ := Cond.laysAt hfound hk hffM (a' (.lays zyX Bundle.tN "detailMessage" "Ljava/lang/String;") (by simp [zyAtoms]))
  obtain ⟨tyB, dB, hdB, hdnB⟩ := Cond.laysAt hfound hk hffB (a' (.lays zyX Bundle.tN "backtrace" "Ljava/lang/Object;") (by simp [zyAtoms]))
  have bC := Cond.laysApart hdB hdC hdnB hdnC (by rw [hnB, Y.causeName]; decide)
  have bS := Cond.laysApart hdB hdS hdnB hdnS (by rw [hnB, Y.stackName]; decide)
  have bP := Cond.laysApart hdB hdP hdnB hdnP (by rw [hnB, Y.suppName]; decide)
  have hskip : SkipFacts T e.platform s (fun u => u) u0 ((preparedCellV T.toThrowableT (freshCell P1.m.cls kX) a u0 sen).withEntry W.cur) :=
    ⟨{ ci198 := ci198, i198 := i198, fBack := fB }, ⟨hk198, hg198, ha198, hsB⟩, by
      have := fresh_default (c := P1.m.cls) tyB
      rw [htB] at this
      simpa [preparedCellV, Cell.setSlot, Cell.withEntry, Array.getElem?_setIfInBounds, bC, bS, bP, bC.symm, bS.symm, bP.symm, defaultValue] using this, fun _ _ => rfl⟩
                                     
  obtain ⟨tm, methC, cdC, kC, vm₁, hnC, -, -, -, -, -, -, -, hW₁, st1⟩ := Steps.initColdS (tb := p.tables) (e := e) (below := below) (s := s) (U := W) X.here hexec X.warmed hpl hown (t := Bundle.initS zyX) rfl rfl (by decide +kernel)
    (a' (.methodLink own ic (Bundle.initS zyX)) (by simp [zyAtoms])) (h (.instanceMethod (Bundle.initS zyX)) (by simp [zyAtoms, Bundle.passSAtoms])) (bytes := zyCode) (maxL := 2) (h (.code (Bundle.initS zyX) zyCode 2 none) (by simp [zyAtoms, Bundle.passSAtoms]))
    (f := g) hg (a := a) (msg := msg) (rest := .ref a :: rest) hstack hd6
  cases Option.some.inj (hnC.symm.trans hP1m)
  have X₁ := X.noted hW₁
                                 
  obtain ⟨vm₂, X₂, st2⟩ := X₁.ctorMessageOffV hexec (g := { g with stack := .ref a :: rest }) hg hsize T L Z LZ M LM (P1 :: Ps)
    (fun P hP => by rcases List.mem_cons.mp hP with rfl | hP; exact L1; exact hL P hP) ⟨hlink1, hlink⟩ (u0 := u0) (sen := sen) (self := a) hmsg (cell := freshCell P1.m.cls kX) (cellS := cellS)
    hcell (fun _ => by simp) (by simp) rfl rfl hsel0 hselF hcellS hneS hknownS (by rw [hkeep _ (hout' _)]; exact hu0) (by rw [hkeep _ (hout' _)]; exact hsen)
    (Takes.of_laid hk hord tyC (by rw [Y.causeType]; rfl)) (Takes.of_laid hk hord tyS (by rw [Y.stackType]; exact fits_refV_array _ u0)) (Takes.of_laid hk hord tyP (by rw [Y.suppType]; exact fits_refV_object _ sen))
    (Takes.of_laid hk hord tyM (by rw [Y.msgType]; exact fits_refV_object _ ⟨msg, hmsg⟩)) Y.objLocals hskip htr [] hd6
    (by simp only [List.length_cons, hlen]; omega) (by simp only [List.length_cons, hlen]; omega)
                                    
  obtain ⟨hwalk, hrun, hended, hWU, hsame⟩ := X₂.athrowLeaves hexec (g := { g with stack := .ref a :: rest, pc := g.pc + 3 }) hg hlocked hentered hout (a := a) (rest := rest) rfl hd9
  obtain ⟨c3, c4, hc3, hc4, hasg⟩ := Cond.castable_spec (a' (.castable zyX zyX) (by simp [zyAtoms]))
  cases Option.some.inj (hc3.symm.trans hfound)
  cases Option.some.inj (hc4.symm.trans hfound)
  have hlt : a < ((W.setVm vm₁).setVm vm₂).heap.size := (Array.getElem?_eq_some_iff.mp hcell).1
  have hU := heapAt_setCell_self (s := (W.setVm vm₁).setVm vm₂) (plainBareV T.toThrowableT (freshCell P1.m.cls kX) a u0 sen msg) hlt
  refine ⟨_, st1 _ (fun acts => ?_), hrun, hended, hWU, hsame.weaken (fun y hy hlt' => ?_) (Nat.le_refl _) (Nat.le_refl _), _, hU, ?_⟩
  · rw [doInvoke_state]
    exact st2 _ hwalk
  · rcases List.mem_append.mp hy with h1 | h1
    · exact h1
    · exfalso
      have hb : y.base = a := by
        simp only [List.mem_cons, List.not_mem_nil, or_false] at h1
        rcases h1 with rfl | rfl | rfl | rfl | rfl <;> rfl
      rw [hb] at hlt'
      exact Nat.not_lt.mpr hnew hlt'
  · exact ⟨rfl, hfound⟩
end
end
section
section
variable {p : Program} {l : Launch} {e : Env} {R : Room} {s : State} {m : MethodId} {args : Array Value} {below : List Frame} {meth : Method} {c : Code} {H : Heap} {locs : List Loc} {cells slots : Nat} {Q : State → Prop}
variable {mc ms : Nat} {free : Addr → Prop} {A0 A1 : Nat → Prop} {H0 : Heap} {a : Array Value} {ls : Array Slot} {st0 rest : List Value}
variable {Qc : Array Value → State → Outcome → State → Prop} {XC : String → State → State → Prop}
/-- 'throw new E("text")': new; dup; ldc; invokespecial; athrow -/
theorem zx_throwS {cc : ByteArray} {pc : Nat} (hexec : p.tables.exec = Jvm.exec) (hb : c.code = cc) (hl : l.stackTraces = false) {own cls text : String} {names : List String} {ik is ic mc ms sa : Nat} {A : Nat → Prop}
    (hown : s.vm.findClass own = some m.cls) (hcls : Bundle.fit cls = true) (hnames : ∀ n ∈ names, Bundle.fit n = true)
    (hk : (Cond.classLink own ik cls).before args s = true) (hini : (Cond.initialized cls).before args s = true) (hstr : vk_R own is text sa s) (hat : ∀ w ∈ vx_atS own ic cls names, w.before args s = true)
    (hgood : ∀ w ∈ Cond.classLink own ik cls :: Cond.initialized cls :: vx_atS own ic cls names, vx_ot w = true)
    (hU : vx_Zq Bundle.tN "UNASSIGNED_STACK" Bundle.steD A s s.heap) (hN : vx_Zq Bundle.tN "SUPPRESSED_SENTINEL" Bundle.listD A s s.heap) (hS : va_S A s.heap H locs) (hsize : ls.size = c.maxLocals)
    (d0 : decode cc pc = .ok (.new ik, 3)) (d3 : decode cc (pc + 3) = .ok (.dup, 1)) (d4 : decode cc (pc + 4) = .ok (.ldc is, 2)) (d6 : decode cc (pc + 6) = .ok (.invokespecial ic, 3)) (d9 : decode cc (pc + 9) = .ok (.athrow, 1))
    (hout : ∀ x ∈ c.exceptionTable.toList, covers x (pc + 9) = false)
    (hRframes : names.length + 3 < R.frames) (hRlocals : (rest.map fun v => v.category).sum + (13 * (names.length + 1) + 43) ≤ R.locals) (hRcells : cells + 1 ≤ R.cells) (hRslots : slots + 6 ≤ R.slots) (hlocks : meth.locks = false)
    (hx : ∀ t : State, s.vm.Alike t.vm → t.heap.size = H.size + 1 → (∀ q : Nat, q < H.size → t.heap[q]? = H[q]?) → XC cls s t)
    (hf : ∀ z ∈ locs, free z.base) (hc : cells + 1 ≤ mc) (hs : slots + 6 ≤ ms) :
    W p l e R s m args below meth c H locs cells slots (vx_MQ below Qc XC args s mc ms free) (F0 m pc ls rest) := by
  intro T hT X
  have htr : e.platform.stackTraces = false := (show e.platform.stackTraces = l.stackTraces by rw [X.admits.platform]).trans hl
  have Y := vx_rebase X (R' := { frames := R.frames, locals := R.locals, cells := 1, slots := 6 }) (Nat.le_refl _) (Nat.le_refl _) hRcells hRslots
  obtain ⟨s', hA⟩ : ∃ z, z = (T.setVm s.vm).setFrames (.invoking m args :: below) := ⟨_, rfl⟩
  rw [← hA] at Y
  have hvm : s'.vm = s.vm := by rw [hA]; rfl
  have hhp : s'.heap = H := by rw [hA]; exact hT
  have hW0 : s.WarmedH s'.vm := by rw [hvm]; exact State.WarmedH.refl s
  have hat' : ∀ w ∈ vx_atS own ic cls names, w.before args s' = true := fun w hw => vx_ot_at hW0 hvm.symm (hgood w (List.mem_cons_of_mem _ (List.mem_cons_of_mem _ hw))) (hat w hw)
  have hk' : (Cond.classLink own ik cls).before args s' = true := vx_ot_at hW0 hvm.symm (hgood _ List.mem_cons_self) hk
  have hini' : (Cond.initialized cls).before args s' = true := vx_ot_at hW0 hvm.symm (hgood _ (List.mem_cons_of_mem _ List.mem_cons_self)) hini
  have hU' : vx_Zq Bundle.tN "UNASSIGNED_STACK" Bundle.steD A s' s'.heap := by rw [hhp]; exact vx_Zq.moved hW0.alike (hU.kept hS.2.1)
  have hN' : vx_Zq Bundle.tN "SUPPRESSED_SENTINEL" Bundle.listD A s' s'.heap := by rw [hhp]; exact vx_Zq.moved hW0.alike (hN.kept hS.2.1)
  have h : ∀ w ∈ Bundle.ownAtoms own ic cls names, w.before args s' = true := vx_own hat' (vx_isRefq hU'.1) (vx_isRefq hN'.1) hU'.2.word hN'.2.word
  have hown' : s'.vm.findClass own = some m.cls := by rw [hvm]; exact hown
  have hins : (Cond.instantiable cls 6).before args s' = true := h _ (by simp [Bundle.ownAtoms])
  obtain ⟨vm₁, cX, kX, hfX, hkX, -, -, X₁, st1⟩ := Y.newCold hexec (own := own) (C := cls) (index := ik) (n := 6) hown' hk' hins hini'
    (g := F0 m pc ls rest) rfl (by rw [hb]; exact d0) (Nat.le_refl _) (Nat.le_refl _)
  generalize hT1 : (T.setVm vm₁).pushCell { cls := cX, slots := kX.instanceTypes.map defaultValue, vm := .none } = T1 at X₁ st1
  have hcat : (Value.ref T.heap.size).category = 1 := rfl
  have hcellA : T1.heap[T.heap.size]? = some (freshCell cX kX) := by rw [← hT1]; exact State.heap_pushCell_size _ _
  have d3' : decode c.code (pc + 3) = .ok (.dup, 1) := by rw [hb]; exact d3
  have d4' : decode c.code (pc + 4) = .ok (.ldc is, 2) := by rw [hb]; exact d4
  have hstr' : vk_R own is text sa s' := vk_R.warm hW0 hstr
  obtain ⟨U, hsteps, hrun, hend, hW, hsame, ce, hce, hO⟩ := X₁.ctorThrowS hexec htr (own := own) (cls := cls) (names := names) (ic := ic) hown' hcls hnames h (fun x hx => nomatch hx) hfX hkX hcellA (by rw [hhp, hT]; exact Nat.le_refl _) (msg := .ref sa) rfl
    (g := { method := m, pc := pc + 6, locals := ls, stack := .ref sa :: .ref T.heap.size :: .ref T.heap.size :: rest, locked := none }) rfl hsize rfl rfl (rest := rest) rfl
    (by rw [hb]; exact d6) (by rw [hb]; exact d9) hout hRframes (by simp only [List.map_cons, List.sum_cons, hcat]; omega) hlocks
  obtain ⟨f1, f2⟩ := vx_frame hsame
  rw [hhp] at f1 f2
  have hWs : s.WarmedH U.vm := State.WarmedH.trans hW0 hW
  have hcl : s.vm.findClass cls = some ce.cls := by
    have h9 := hO.cls
    rw [hvm] at h9
    exact h9
  have hall : s.sameButNew ({ U with vm := s.vm } : State) locs mc ms := by
    subst hA
    obtain ⟨e1, e2⟩ := hsame
    rw [State.setFrames_setFrames] at e1
    have h2 : (T.setVm s.vm).sameButNew ({ U with vm := s.vm } : State) [] (0 + 1) (0 + 6) := ⟨e1, e2⟩
    have h3 := X.same.trans h2
    rw [List.append_nil] at h3
    exact h3.mono hc hs
  have hz : U.heap.size = H.size + 1 := by
    have z1 : U.heap.size ≤ s'.heap.size + (0 + 1) := hsame.2.2.1
    have z2 := (Array.getElem?_eq_some_iff.mp hce).1
    rw [hhp] at z1
    rw [hT] at z2
    omega
  refine ⟨U, ?_, .threw T.heap.size, hrun, hend, Or.inr ⟨T.heap.size, rfl, cls, ce, locs, hx U hWs.alike hz (fun q hq => f2 q hq (fun z hz => nomatch hz)), hce, hO.vm, hcl, hWs, hall, hf⟩⟩
  refine st1 _ ?_
  show Steps p.tables e below (T1.setTop { method := m, pc := pc + 3, locals := ls, stack := .ref T.heap.size :: rest, locked := none }) _
  jvm_step X₁.here [X₁.here.top, hexec, d3', Value.category]
  exact X₁.ldcString hexec (own := own) (text := text) (index := is) (a := sa) hown' hstr'.1 hstr'.2
    (g := { method := m, pc := pc + 4, locals := ls, stack := .ref T.heap.size :: .ref T.heap.size :: rest, locked := none }) rfl d4' _ hsteps
/-- 'throw new E("text")', the text by a wide index -/
theorem zx_throwSW {cc : ByteArray} {pc : Nat} (hexec : p.tables.exec = Jvm.exec) (hb : c.code = cc) (hl : l.stackTraces = false) {own cls text : String} {names : List String} {ik is ic mc ms sa : Nat} {A : Nat → Prop}
    (hown : s.vm.findClass own = some m.cls) (hcls : Bundle.fit cls = true) (hnames : ∀ n ∈ names, Bundle.fit n = true)
    (hk : (Cond.classLink own ik cls).before args s = true) (hini : (Cond.initialized cls).before args s = true) (hstr : vk_R own is text sa s) (hat : ∀ w ∈ vx_atS own ic cls names, w.before args s = true)
    (hgood : ∀ w ∈ Cond.classLink own ik cls :: Cond.initialized cls :: vx_atS own ic cls names, vx_ot w = true)
    (hU : vx_Zq Bundle.tN "UNASSIGNED_STACK" Bundle.steD A s s.heap) (hN : vx_Zq Bundle.tN "SUPPRESSED_SENTINEL" Bundle.listD A s s.heap) (hS : va_S A s.heap H locs) (hsize : ls.size = c.maxLocals)
    (d0 : decode cc pc = .ok (.new ik, 3)) (d3 : decode cc (pc + 3) = .ok (.dup, 1)) (d4 : decode cc (pc + 4) = .ok (.ldc_w is, 3)) (d7 : decode cc (pc + 7) = .ok (.invokespecial ic, 3)) (d10 : decode cc (pc + 10) = .ok (.athrow, 1))
    (hout : ∀ x ∈ c.exceptionTable.toList, covers x (pc + 10) = false)
    (hRframes : names.length + 3 < R.frames) (hRlocals : (rest.map fun v => v.category).sum + (13 * (names.length + 1) + 43) ≤ R.locals) (hRcells : cells + 1 ≤ R.cells) (hRslots : slots + 6 ≤ R.slots) (hlocks : meth.locks = false)
    (hx : ∀ t : State, s.vm.Alike t.vm → t.heap.size = H.size + 1 → (∀ q : Nat, q < H.size → t.heap[q]? = H[q]?) → XC cls s t)
    (hf : ∀ z ∈ locs, free z.base) (hc : cells + 1 ≤ mc) (hs : slots + 6 ≤ ms) :
    W p l e R s m args below meth c H locs cells slots (vx_MQ below Qc XC args s mc ms free) (F0 m pc ls rest) := by
  intro T hT X
  have htr : e.platform.stackTraces = false := (show e.platform.stackTraces = l.stackTraces by rw [X.admits.platform]).trans hl
  have Y := vx_rebase X (R' := { frames := R.frames, locals := R.locals, cells := 1, slots := 6 }) (Nat.le_refl _) (Nat.le_refl _) hRcells hRslots
  obtain ⟨s', hA⟩ : ∃ z, z = (T.setVm s.vm).setFrames (.invoking m args :: below) := ⟨_, rfl⟩
  rw [← hA] at Y
  have hvm : s'.vm = s.vm := by rw [hA]; rfl
  have hhp : s'.heap = H := by rw [hA]; exact hT
  have hW0 : s.WarmedH s'.vm := by rw [hvm]; exact State.WarmedH.refl s
  have hat' : ∀ w ∈ vx_atS own ic cls names, w.before args s' = true := fun w hw => vx_ot_at hW0 hvm.symm (hgood w (List.mem_cons_of_mem _ (List.mem_cons_of_mem _ hw))) (hat w hw)
  have hk' : (Cond.classLink own ik cls).before args s' = true := vx_ot_at hW0 hvm.symm (hgood _ List.mem_cons_self) hk
  have hini' : (Cond.initialized cls).before args s' = true := vx_ot_at hW0 hvm.symm (hgood _ (List.mem_cons_of_mem _ List.mem_cons_self)) hini
  have hU' : vx_Zq Bundle.tN "UNASSIGNED_STACK" Bundle.steD A s' s'.heap := by rw [hhp]; exact vx_Zq.moved hW0.alike (hU.kept hS.2.1)
  have hN' : vx_Zq Bundle.tN "SUPPRESSED_SENTINEL" Bundle.listD A s' s'.heap := by rw [hhp]; exact vx_Zq.moved hW0.alike (hN.kept hS.2.1)
  have h : ∀ w ∈ Bundle.ownAtoms own ic cls names, w.before args s' = true := vx_own hat' (vx_isRefq hU'.1) (vx_isRefq hN'.1) hU'.2.word hN'.2.word
  have hown' : s'.vm.findClass own = some m.cls := by rw [hvm]; exact hown
  have hins : (Cond.instantiable cls 6).before args s' = true := h _ (by simp [Bundle.ownAtoms])
  obtain ⟨vm₁, cX, kX, hfX, hkX, -, -, X₁, st1⟩ := Y.newCold hexec (own := own) (C := cls) (index := ik) (n := 6) hown' hk' hins hini'
    (g := F0 m pc ls rest) rfl (by rw [hb]; exact d0) (Nat.le_refl _) (Nat.le_refl _)
  generalize hT1 : (T.setVm vm₁).pushCell { cls := cX, slots := kX.instanceTypes.map defaultValue, vm := .none } = T1 at X₁ st1
  have hcat : (Value.ref T.heap.size).category = 1 := rfl
  have hcellA : T1.heap[T.heap.size]? = some (freshCell cX kX) := by rw [← hT1]; exact State.heap_pushCell_size _ _
  have d3' : decode c.code (pc + 3) = .ok (.dup, 1) := by rw [hb]; exact d3
  have d4' : decode c.code (pc + 4) = .ok (.ldc_w is, 3) := by rw [hb]; exact d4
  have hstr' : vk_R own is text sa s' := vk_R.warm hW0 hstr
  obtain ⟨U, hsteps, hrun, hend, hW, hsame, ce, hce, hO⟩ := X₁.ctorThrowS hexec htr (own := own) (cls := cls) (names := names) (ic := ic) hown' hcls hnames h (fun x hx => nomatch hx) hfX hkX hcellA (by rw [hhp, hT]; exact Nat.le_refl _) (msg := .ref sa) rfl
    (g := { method := m, pc := pc + 7, locals := ls, stack := .ref sa :: .ref T.heap.size :: .ref T.heap.size :: rest, locked := none }) rfl hsize rfl rfl (rest := rest) rfl
    (by rw [hb]; exact d7) (by rw [hb]; exact d10) hout hRframes (by simp only [List.map_cons, List.sum_cons, hcat]; omega) hlocks
  obtain ⟨f1, f2⟩ := vx_frame hsame
  rw [hhp] at f1 f2
  have hWs : s.WarmedH U.vm := State.WarmedH.trans hW0 hW
  have hcl : s.vm.findClass cls = some ce.cls := by
    have h9 := hO.cls
    rw [hvm] at h9
    exact h9
  have hall : s.sameButNew ({ U with vm := s.vm } : State) locs mc ms := by
    subst hA
    obtain ⟨e1, e2⟩ := hsame
    rw [State.setFrames_setFrames] at e1
    have h2 : (T.setVm s.vm).sameButNew ({ U with vm := s.vm } : State) [] (0 + 1) (0 + 6) := ⟨e1, e2⟩
    have h3 := X.same.trans h2
    rw [List.append_nil] at h3
    exact h3.mono hc hs
  have hz : U.heap.size = H.size + 1 := by
    have z1 : U.heap.size ≤ s'.heap.size + (0 + 1) := hsame.2.2.1
    have z2 := (Array.getElem?_eq_some_iff.mp hce).1
    rw [hhp] at z1
    rw [hT] at z2
    omega
  refine ⟨U, ?_, .threw T.heap.size, hrun, hend, Or.inr ⟨T.heap.size, rfl, cls, ce, locs, hx U hWs.alike hz (fun q hq => f2 q hq (fun z hz => nomatch hz)), hce, hO.vm, hcl, hWs, hall, hf⟩⟩
  refine st1 _ ?_
  show Steps p.tables e below (T1.setTop { method := m, pc := pc + 3, locals := ls, stack := .ref T.heap.size :: rest, locked := none }) _
  jvm_step X₁.here [X₁.here.top, hexec, d3', Value.category]
  exact X₁.ldcStringW hexec (own := own) (text := text) (index := is) (a := sa) hown' hstr'.1 hstr'.2
    (g := { method := m, pc := pc + 4, locals := ls, stack := .ref T.heap.size :: .ref T.heap.size :: rest, locked := none }) rfl d4' _ hsteps
end
section
variable {p : Program} {l : Launch} {e : Env} {R : Room} {s : State} {m : MethodId} {args : Array Value} {below : List Frame} {meth : Method} {c : Code} {H : Heap} {locs : List Loc} {cells slots : Nat} {Q : State → Prop}
variable {mc ms : Nat} {free : Addr → Prop} {A0 A1 : Nat → Prop} {H0 : Heap} {a : Array Value} {ls : Array Slot} {st0 rest : List Value}
variable {Qc : Array Value → State → Outcome → State → Prop} {XC : String → State → State → Prop}
/-- 'throw new E("text")': new; dup; ldc; invokespecial; athrow -/
theorem zy_throwS {cc : ByteArray} {pc : Nat} (hexec : p.tables.exec = Jvm.exec) (hb : c.code = cc) (hl : l.stackTraces = false) {own text : String} {ik is ic mc ms sa : Nat} {A : Nat → Prop}
    (hown : s.vm.findClass own = some m.cls)
    (hk : (Cond.classLink own ik zyX).before args s = true) (hini : (Cond.initialized zyX).before args s = true) (hstr : vk_R own is text sa s) (hat : ∀ w ∈ (zyAtoms own ic).filter vx_no, w.before args s = true)
    (hgood : ∀ w ∈ Cond.classLink own ik zyX :: Cond.initialized zyX :: (zyAtoms own ic).filter vx_no, vx_ot w = true)
    (hU : vx_Zq Bundle.tN "UNASSIGNED_STACK" Bundle.steD A s s.heap) (hN : vx_Zq Bundle.tN "SUPPRESSED_SENTINEL" Bundle.listD A s s.heap) (hS : va_S A s.heap H locs) (hsize : ls.size = c.maxLocals)
    (d0 : decode cc pc = .ok (.new ik, 3)) (d3 : decode cc (pc + 3) = .ok (.dup, 1)) (d4 : decode cc (pc + 4) = .ok (.ldc is, 2)) (d6 : decode cc (pc + 6) = .ok (.invokespecial ic, 3)) (d9 : decode cc (pc + 9) = .ok (.athrow, 1))
    (hout : ∀ x ∈ c.exceptionTable.toList, covers x (pc + 9) = false)
    (hRframes : 5 < R.frames) (hRlocals : (rest.map fun v => v.category).sum + 82 ≤ R.locals) (hRcells : cells + 1 ≤ R.cells) (hRslots : slots + 6 ≤ R.slots) (hlocks : meth.locks = false)
    (hx : ∀ t : State, s.vm.Alike t.vm → t.heap.size = H.size + 1 → (∀ q : Nat, q < H.size → t.heap[q]? = H[q]?) → XC zyX s t)
    (hf : ∀ z ∈ locs, free z.base) (hc : cells + 1 ≤ mc) (hs : slots + 6 ≤ ms) :
    W p l e R s m args below meth c H locs cells slots (vx_MQ below Qc XC args s mc ms free) (F0 m pc ls rest) := by
  intro T hT X
  have htr : e.platform.stackTraces = false := (show e.platform.stackTraces = l.stackTraces by rw [X.admits.platform]).trans hl
  have Y := vx_rebase X (R' := { frames := R.frames, locals := R.locals, cells := 1, slots := 6 }) (Nat.le_refl _) (Nat.le_refl _) hRcells hRslots
  obtain ⟨s', hA⟩ : ∃ z, z = (T.setVm s.vm).setFrames (.invoking m args :: below) := ⟨_, rfl⟩
  rw [← hA] at Y
  have hvm : s'.vm = s.vm := by rw [hA]; rfl
  have hhp : s'.heap = H := by rw [hA]; exact hT
  have hW0 : s.WarmedH s'.vm := by rw [hvm]; exact State.WarmedH.refl s
  have hat' : ∀ w ∈ (zyAtoms own ic).filter vx_no, w.before args s' = true := fun w hw => vx_ot_at hW0 hvm.symm (hgood w (List.mem_cons_of_mem _ (List.mem_cons_of_mem _ hw))) (hat w hw)
  have hk' : (Cond.classLink own ik zyX).before args s' = true := vx_ot_at hW0 hvm.symm (hgood _ List.mem_cons_self) hk
  have hini' : (Cond.initialized zyX).before args s' = true := vx_ot_at hW0 hvm.symm (hgood _ (List.mem_cons_of_mem _ List.mem_cons_self)) hini
  have hU' : vx_Zq Bundle.tN "UNASSIGNED_STACK" Bundle.steD A s' s'.heap := by rw [hhp]; exact vx_Zq.moved hW0.alike (hU.kept hS.2.1)
  have hN' : vx_Zq Bundle.tN "SUPPRESSED_SENTINEL" Bundle.listD A s' s'.heap := by rw [hhp]; exact vx_Zq.moved hW0.alike (hN.kept hS.2.1)
  have h : ∀ w ∈ zyAtoms own ic, w.before args s' = true := vx_own hat' (vx_isRefq hU'.1) (vx_isRefq hN'.1) hU'.2.word hN'.2.word
  have hown' : s'.vm.findClass own = some m.cls := by rw [hvm]; exact hown
  have hins : (Cond.instantiable zyX 6).before args s' = true := h _ (by simp [zyAtoms])
  obtain ⟨vm₁, cX, kX, hfX, hkX, -, -, X₁, st1⟩ := Y.newCold hexec (own := own) (C := zyX) (index := ik) (n := 6) hown' hk' hins hini'
    (g := F0 m pc ls rest) rfl (by rw [hb]; exact d0) (Nat.le_refl _) (Nat.le_refl _)
  generalize hT1 : (T.setVm vm₁).pushCell { cls := cX, slots := kX.instanceTypes.map defaultValue, vm := .none } = T1 at X₁ st1
  have hcat : (Value.ref T.heap.size).category = 1 := rfl
  have hcellA : T1.heap[T.heap.size]? = some (freshCell cX kX) := by rw [← hT1]; exact State.heap_pushCell_size _ _
  have d3' : decode c.code (pc + 3) = .ok (.dup, 1) := by rw [hb]; exact d3
  have d4' : decode c.code (pc + 4) = .ok (.ldc is, 2) := by rw [hb]; exact d4
  have hstr' : vk_R own is text sa s' := vk_R.warm hW0 hstr
  obtain ⟨U, hsteps, hrun, hend, hW, hsame, ce, hce, hOv, hOc⟩ := zy_ctor X₁ hexec htr (own := own) (ic := ic) hown' h (fun x hx => nomatch hx) hfX hkX hcellA (by rw [hhp, hT]; exact Nat.le_refl _) (msg := .ref sa) rfl
    (g := { method := m, pc := pc + 6, locals := ls, stack := .ref sa :: .ref T.heap.size :: .ref T.heap.size :: rest, locked := none }) rfl hsize rfl rfl (rest := rest) rfl
    (by rw [hb]; exact d6) (by rw [hb]; exact d9) hout hRframes (by simp only [List.map_cons, List.sum_cons, hcat]; omega) hlocks
  obtain ⟨f1, f2⟩ := vx_frame hsame
  rw [hhp] at f1 f2
  have hWs : s.WarmedH U.vm := State.WarmedH.trans hW0 hW
  have hcl : s.vm.findClass zyX = some ce.cls := by
    have h9 := hOc
    rw [hvm] at h9
    exact h9
  have hall : s.sameButNew ({ U with vm := s.vm } : State) locs mc ms := by
    subst hA
    obtain ⟨e1, e2⟩ := hsame
    rw [State.setFrames_setFrames] at e1
    have h2 : (T.setVm s.vm).sameButNew ({ U with vm := s.vm } : State) [] (0 + 1) (0 + 6) := ⟨e1, e2⟩
    have h3 := X.same.trans h2
    rw [List.append_nil] at h3
    exact h3.mono hc hs
  have hz : U.heap.size = H.size + 1 := by
    have z1 : U.heap.size ≤ s'.heap.size + (0 + 1) := hsame.2.2.1
    have z2 := (Array.getElem?_eq_some_iff.mp hce).1
    rw [hhp] at z1
    rw [hT] at z2
    omega
  refine ⟨U, ?_, .threw T.heap.size, hrun, hend, Or.inr ⟨T.heap.size, rfl, zyX, ce, locs, hx U hWs.alike hz (fun q hq => f2 q hq (fun z hz => nomatch hz)), hce, hOv, hcl, hWs, hall, hf⟩⟩
  refine st1 _ ?_
  show Steps p.tables e below (T1.setTop { method := m, pc := pc + 3, locals := ls, stack := .ref T.heap.size :: rest, locked := none }) _
  jvm_step X₁.here [X₁.here.top, hexec, d3', Value.category]
  exact X₁.ldcString hexec (own := own) (text := text) (index := is) (a := sa) hown' hstr'.1 hstr'.2
    (g := { method := m, pc := pc + 4, locals := ls, stack := .ref T.heap.size :: .ref T.heap.size :: rest, locked := none }) rfl d4' _ hsteps
/-- 'throw new E("text")', the text by a wide index -/
theorem zy_throwSW {cc : ByteArray} {pc : Nat} (hexec : p.tables.exec = Jvm.exec) (hb : c.code = cc) (hl : l.stackTraces = false) {own text : String} {ik is ic mc ms sa : Nat} {A : Nat → Prop}
    (hown : s.vm.findClass own = some m.cls)
    (hk : (Cond.classLink own ik zyX).before args s = true) (hini : (Cond.initialized zyX).before args s = true) (hstr : vk_R own is text sa s) (hat : ∀ w ∈ (zyAtoms own ic).filter vx_no, w.before args s = true)
    (hgood : ∀ w ∈ Cond.classLink own ik zyX :: Cond.initialized zyX :: (zyAtoms own ic).filter vx_no, vx_ot w = true)
    (hU : vx_Zq Bundle.tN "UNASSIGNED_STACK" Bundle.steD A s s.heap) (hN : vx_Zq Bundle.tN "SUPPRESSED_SENTINEL" Bundle.listD A s s.heap) (hS : va_S A s.heap H locs) (hsize : ls.size = c.maxLocals)
    (d0 : decode cc pc = .ok (.new ik, 3)) (d3 : decode cc (pc + 3) = .ok (.dup, 1)) (d4 : decode cc (pc + 4) = .ok (.ldc_w is, 3)) (d7 : decode cc (pc + 7) = .ok (.invokespecial ic, 3)) (d10 : decode cc (pc + 10) = .ok (.athrow, 1))
    (hout : ∀ x ∈ c.exceptionTable.toList, covers x (pc + 10) = false)
    (hRframes : 5 < R.frames) (hRlocals : (rest.map fun v => v.category).sum + 82 ≤ R.locals) (hRcells : cells + 1 ≤ R.cells) (hRslots : slots + 6 ≤ R.slots) (hlocks : meth.locks = false)
    (hx : ∀ t : State, s.vm.Alike t.vm → t.heap.size = H.size + 1 → (∀ q : Nat, q < H.size → t.heap[q]? = H[q]?) → XC zyX s t)
    (hf : ∀ z ∈ locs, free z.base) (hc : cells + 1 ≤ mc) (hs : slots + 6 ≤ ms) :
    W p l e R s m args below meth c H locs cells slots (vx_MQ below Qc XC args s mc ms free) (F0 m pc ls rest) := by
  intro T hT X
  have htr : e.platform.stackTraces = false := (show e.platform.stackTraces = l.stackTraces by rw [X.admits.platform]).trans hl
  have Y := vx_rebase X (R' := { frames := R.frames, locals := R.locals, cells := 1, slots := 6 }) (Nat.le_refl _) (Nat.le_refl _) hRcells hRslots
  obtain ⟨s', hA⟩ : ∃ z, z = (T.setVm s.vm).setFrames (.invoking m args :: below) := ⟨_, rfl⟩
  rw [← hA] at Y
  have hvm : s'.vm = s.vm := by rw [hA]; rfl
  have hhp : s'.heap = H := by rw [hA]; exact hT
  have hW0 : s.WarmedH s'.vm := by rw [hvm]; exact State.WarmedH.refl s
  have hat' : ∀ w ∈ (zyAtoms own ic).filter vx_no, w.before args s' = true := fun w hw => vx_ot_at hW0 hvm.symm (hgood w (List.mem_cons_of_mem _ (List.mem_cons_of_mem _ hw))) (hat w hw)
  have hk' : (Cond.classLink own ik zyX).before args s' = true := vx_ot_at hW0 hvm.symm (hgood _ List.mem_cons_self) hk
  have hini' : (Cond.initialized zyX).before args s' = true := vx_ot_at hW0 hvm.symm (hgood _ (List.mem_cons_of_mem _ List.mem_cons_self)) hini
  have hU' : vx_Zq Bundle.tN "UNASSIGNED_STACK" Bundle.steD A s' s'.heap := by rw [hhp]; exact vx_Zq.moved hW0.alike (hU.kept hS.2.1)
  have hN' : vx_Zq Bundle.tN "SUPPRESSED_SENTINEL" Bundle.listD A s' s'.heap := by rw [hhp]; exact vx_Zq.moved hW0.alike (hN.kept hS.2.1)
  have h : ∀ w ∈ zyAtoms own ic, w.before args s' = true := vx_own hat' (vx_isRefq hU'.1) (vx_isRefq hN'.1) hU'.2.word hN'.2.word
  have hown' : s'.vm.findClass own = some m.cls := by rw [hvm]; exact hown
  have hins : (Cond.instantiable zyX 6).before args s' = true := h _ (by simp [zyAtoms])
  obtain ⟨vm₁, cX, kX, hfX, hkX, -, -, X₁, st1⟩ := Y.newCold hexec (own := own) (C := zyX) (index := ik) (n := 6) hown' hk' hins hini'
    (g := F0 m pc ls rest) rfl (by rw [hb]; exact d0) (Nat.le_refl _) (Nat.le_refl _)
  generalize hT1 : (T.setVm vm₁).pushCell { cls := cX, slots := kX.instanceTypes.map defaultValue, vm := .none } = T1 at X₁ st1
  have hcat : (Value.ref T.heap.size).category = 1 := rfl
  have hcellA : T1.heap[T.heap.size]? = some (freshCell cX kX) := by rw [← hT1]; exact State.heap_pushCell_size _ _
  have d3' : decode c.code (pc + 3) = .ok (.dup, 1) := by rw [hb]; exact d3
  have d4' : decode c.code (pc + 4) = .ok (.ldc_w is, 3) := by rw [hb]; exact d4
  have hstr' : vk_R own is text sa s' := vk_R.warm hW0 hstr
  obtain ⟨U, hsteps, hrun, hend, hW, hsame, ce, hce, hOv, hOc⟩ := zy_ctor X₁ hexec htr (own := own) (ic := ic) hown' h (fun x hx => nomatch hx) hfX hkX hcellA (by rw [hhp, hT]; exact Nat.le_refl _) (msg := .ref sa) rfl
    (g := { method := m, pc := pc + 7, locals := ls, stack := .ref sa :: .ref T.heap.size :: .ref T.heap.size :: rest, locked := none }) rfl hsize rfl rfl (rest := rest) rfl
    (by rw [hb]; exact d7) (by rw [hb]; exact d10) hout hRframes (by simp only [List.map_cons, List.sum_cons, hcat]; omega) hlocks
  obtain ⟨f1, f2⟩ := vx_frame hsame
  rw [hhp] at f1 f2
  have hWs : s.WarmedH U.vm := State.WarmedH.trans hW0 hW
  have hcl : s.vm.findClass zyX = some ce.cls := by
    have h9 := hOc
    rw [hvm] at h9
    exact h9
  have hall : s.sameButNew ({ U with vm := s.vm } : State) locs mc ms := by
    subst hA
    obtain ⟨e1, e2⟩ := hsame
    rw [State.setFrames_setFrames] at e1
    have h2 : (T.setVm s.vm).sameButNew ({ U with vm := s.vm } : State) [] (0 + 1) (0 + 6) := ⟨e1, e2⟩
    have h3 := X.same.trans h2
    rw [List.append_nil] at h3
    exact h3.mono hc hs
  have hz : U.heap.size = H.size + 1 := by
    have z1 : U.heap.size ≤ s'.heap.size + (0 + 1) := hsame.2.2.1
    have z2 := (Array.getElem?_eq_some_iff.mp hce).1
    rw [hhp] at z1
    rw [hT] at z2
    omega
  refine ⟨U, ?_, .threw T.heap.size, hrun, hend, Or.inr ⟨T.heap.size, rfl, zyX, ce, locs, hx U hWs.alike hz (fun q hq => f2 q hq (fun z hz => nomatch hz)), hce, hOv, hcl, hWs, hall, hf⟩⟩
  refine st1 _ ?_
  show Steps p.tables e below (T1.setTop { method := m, pc := pc + 3, locals := ls, stack := .ref T.heap.size :: rest, locked := none }) _
  jvm_step X₁.here [X₁.here.top, hexec, d3', Value.category]
  exact X₁.ldcStringW hexec (own := own) (text := text) (index := is) (a := sa) hown' hstr'.1 hstr'.2
    (g := { method := m, pc := pc + 4, locals := ls, stack := .ref T.heap.size :: .ref T.heap.size :: rest, locked := none }) rfl d4' _ hsteps
end
end
section
/-! CALLS AND THROWS over a memory -/
def zEx (x : Nat) : String := match x with
  | 0 => "java/lang/IllegalArgumentException"
  | _ => "java/util/NoSuchElementException"
def zMa (f : zF) (pc : Nat) (y : MethodName) : Prop := ∃ idx : Nat, decode f.2.1 pc = .ok (.invokestatic idx, 3) ∧ Cond.methodLink (zown f.1) idx y ∈ zws
/-- a row copied, from its beginning -/
def zcpM (M : zM) (a b n : Nat) : zM := (M.1, M.2.1, M.2.2.1, fun c j => bif c == b && Nat.blt j n then M.2.2.2.1 a j else M.2.2.2.1 c j, M.2.2.2.2)
theorem zvx_met {l : Launch} {y : MethodName} {ws : List Cond} {rm : Room} {Pc : Array Value → State → Prop} {Qc : Array Value → State → Outcome → State → Prop} {XC : String → State → State → Prop} {mc ms : Nat} {free : Addr → Prop} (h : vx_Met l y ws rm Pc Qc XC mc ms free) (hx : ∀ E st t, ¬ XC E st t) : Met l y ws rm Pc Qc mc ms free := by
  intro p e ha hc hk s m args below hf happ hP hK
  obtain ⟨n, o, h1, h2, h3, h4⟩ := h p e ha hc hk s m args below hf happ hP hK
  refine ⟨n, o, h1, h2, h3, ?_⟩
  rcases h4 with h4 | ⟨q, ho, E, ce, L, h5, -⟩
  · exact h4
  · exact absurd h5 (hx _ _ _)
theorem zmw_min : Cond.static Lib.Math.min.name ∈ zws ∧ Cond.code Lib.Math.min.name Lib.Math.min.code 2 (some .int) ∈ zws := ⟨z_at 618 (by decide +kernel) (by decide +kernel), z_at 619 (by decide +kernel) (by decide +kernel)⟩
theorem zmw_max : Cond.static Lib.Math.max.name ∈ zws ∧ Cond.code Lib.Math.max.name Lib.Math.max.code 2 (some .int) ∈ zws := ⟨z_at 985 (by decide +kernel) (by decide +kernel), z_at 986 (by decide +kernel) (by decide +kernel)⟩
theorem zmw_abs : Cond.static Lib.Math.abs.name ∈ zws ∧ Cond.code Lib.Math.abs.name Lib.Math.abs.code 1 (some .int) ∈ zws := ⟨z_at 1232 (by decide +kernel) (by decide +kernel), z_at 1233 (by decide +kernel) (by decide +kernel)⟩
theorem zmw_i : Cond.initialized "java/lang/Math" ∈ zws := z_at 18 (by decide +kernel) (by decide +kernel)
theorem zmw_c : Cond.static arraycopyName ∈ zws ∧ Cond.native arraycopyName ∈ zws ∧ Cond.initialized "java/lang/System" ∈ zws := ⟨z_at 533 (by decide +kernel) (by decide +kernel), z_at 534 (by decide +kernel) (by decide +kernel), z_at 24 (by decide +kernel) (by decide +kernel)⟩
theorem znat : nativeFrameWords "java/lang/System" "arraycopy" 5 + 11 ≤ 29 := by decide +kernel
def zthrow (ic : Nat) (x : Nat) : List Cond := match x with
  | 0 => vx_atS RX11 ic "java/lang/IllegalArgumentException" ["java/lang/RuntimeException", "java/lang/Exception"]
  | _ => (zyAtoms RX11 ic).filter vx_no
set_option maxRecDepth 100000 in
theorem zthrow_g0 : ∀ w ∈ (zthrow 131 0).filter goodWord, w ∈ lw_tbl := by decide +kernel
set_option maxRecDepth 100000 in
theorem zthrow_g1 : ∀ w ∈ (zthrow 178 1).filter goodWord, w ∈ lw_tbl := by decide +kernel
theorem zthrow_b0 : ∀ w ∈ (zthrow 131 0).filter (fun w => !goodWord w), w ∈ Cond.castable "java/lang/IllegalArgumentException" "java/lang/IllegalArgumentException" :: zDecl := by decide +kernel
theorem zthrow_b1 : ∀ w ∈ (zthrow 178 1).filter (fun w => !goodWord w), w ∈ Cond.castable "java/util/NoSuchElementException" "java/util/NoSuchElementException" :: zDecl := by decide +kernel
theorem zDecl_t : ∀ w ∈ zDecl, w.onTables = true := by decide +kernel
theorem zthrow_o0 : ∀ w ∈ Cond.classLink RX11 127 (zEx 0) :: Cond.initialized (zEx 0) :: zthrow 131 0, vx_ot w = true := by decide +kernel
theorem zthrow_o1 : ∀ w ∈ Cond.classLink RX11 174 (zEx 1) :: Cond.initialized (zEx 1) :: zthrow 178 1, vx_ot w = true := by decide +kernel
section
variable {l : Launch} {d mc ms : Nat} {f : zF} {M : zM} {pc : Nat} {lo : List (Nat × Value)} {st : List Value} {Q : zR → zM → Prop}
theorem zs_throw {x w ik is ic : Nat} (ho : f.1 = 11) (hh : f.2.2.2.2.1 = []) (hk : Cond.classLink (zown f.1) ik (zEx x) ∈ zws) (htx : ∃ (i : Nat) (q : String × Nat × String × List Int32), zTx[i]? = some q ∧ q.1 = zown f.1 ∧ q.2.1 = is) (d0 : decode f.2.1 pc = .ok (.new ik, 3)) (d3 : decode f.2.1 (pc + 3) = .ok (.dup, 1))
    (dw : (w = 0 ∧ decode f.2.1 (pc + 4) = .ok (.ldc is, 2) ∧ decode f.2.1 (pc + 6) = .ok (.invokespecial ic, 3) ∧ decode f.2.1 (pc + 9) = .ok (.athrow, 1)) ∨ (w = 1 ∧ decode f.2.1 (pc + 4) = .ok (.ldc_w is, 3) ∧ decode f.2.1 (pc + 7) = .ok (.invokespecial ic, 3) ∧ decode f.2.1 (pc + 10) = .ok (.athrow, 1)))
    (hx : (x = 0 ∧ ic = 131) ∨ (x = 1 ∧ ic = 178)) (hq : (Nat.ble 6 d && (Nat.ble 1 mc && (Nat.ble 6 ms && Nat.ble ((st.map Value.category).sum) 8))) = true) (hM9 : (M.2.1 M.1).1 = 9) (h : Q (.inr (zEx x)) (M.1 + 1, M.2)) : zGo l d mc ms f M pc lo st Q := by
  intro g p e R s m args below meth c H locs cells slots ls hC a2 a3 a4 a5 a6 a7 a8 T hT X
  simp only [Bool.and_eq_true, Nat.ble_eq, Nat.blt_eq] at hq
  obtain ⟨q1, q2, q3, q4⟩ := hq
  obtain ⟨hxx, hcb, hr, hml, hown, hlocks, hts, hw, ht, hin, hB⟩ := id hC
  obtain ⟨f1, f2⟩ := vx_frame (U := T) X.same
  have hS : va_S (fun q => g.2.2.1 ≤ q) s.heap H locs := ⟨by rw [← hT]; exact f1, fun q h1 h2 => by rw [← hT]; exact f2 q h1 (fun z hz e => h2 (by rw [← e]; exact a6 z hz)), a6⟩
  have hag : ∀ q, q < g.2.2.1 → s.heap[q]? = g.2.2.2.2[q]? := fun q hq => by rw [← hS.2.1 q (by omega) (by omega)]; exact a7.2.1 q hq
  have hsz0 := hw.2.1
  have hU := (hw.2.2.2.1).kept (H1 := s.heap) (fun a h1 h2 => hag a (by omega))
  have hN := (hw.2.2.2.2.1).kept (H1 := s.heap) (fun a h1 h2 => hag a (by omega))
  have hlt : l.stackTraces = false := hw.2.2.1
  have hown2 : s.vm.findClass RX11 = some m.cls := by rw [ho] at hown; exact hown
  have hk2 : (Cond.classLink RX11 ik (zEx x)).before args s = true := by have := hts _ hk; rw [ho] at this; exact this
  obtain ⟨i, q, hq1, hq2, hq3⟩ := htx
  have hstr : vk_R RX11 is q.2.2.1 (g.2.2.2.1 i) s := by
    have h1 := (hw.2.2.2.2.2.2.2.2.2.1 i q hq1).1
    rw [hq2, hq3, ho] at h1
    exact h1
  have hini : (Cond.initialized (zEx x)).before args s = true := by
    rcases hx with ⟨rfl, -⟩ | ⟨rfl, -⟩
    · exact hts _ (z_at 17 (by decide +kernel) (by decide +kernel))
    · exact hts _ (z_at 25 (by decide +kernel) (by decide +kernel))
  have hat : ∀ w ∈ zthrow ic x, w.before args s = true := by
    rcases hx with ⟨rfl, rfl⟩ | ⟨rfl, rfl⟩
    · refine vx_hat (fun w hw => hts w (List.mem_filter.mpr ⟨zthrow_g0 w hw, (List.mem_filter.mp hw).2⟩)) zthrow_b0 (vx_c ?_ ?_)
      · exact va_Nw.use rfl (hw.2.2.2.2.2.2.2.1 _ (by decide +kernel : (("java/lang/IllegalArgumentException", "java/lang/IllegalArgumentException") : String × String) ∈ zCast))
      · intro w hw9
        exact va_Nw.use (zDecl_t w hw9) (hw.2.2.2.2.2.2.2.2.2.2 w hw9)
    · refine vx_hat (fun w hw => hts w (List.mem_filter.mpr ⟨zthrow_g1 w hw, (List.mem_filter.mp hw).2⟩)) zthrow_b1 (vx_c ?_ ?_)
      · exact va_Nw.use rfl (hw.2.2.2.2.2.2.2.1 _ (by decide +kernel : (("java/util/NoSuchElementException", "java/util/NoSuchElementException") : String × String) ∈ zCast))
      · intro w hw9
        exact va_Nw.use (zDecl_t w hw9) (hw.2.2.2.2.2.2.2.2.2.2 w hw9)
  have hgd : ∀ w ∈ Cond.classLink RX11 ik (zEx x) :: Cond.initialized (zEx x) :: zthrow ic x, vx_ot w = true := by
    intro w hw
    rcases List.mem_cons.mp hw with rfl | hw
    · rfl
    · rcases hx with ⟨rfl, rfl⟩ | ⟨rfl, rfl⟩
      · exact zthrow_o0 w (List.mem_cons_of_mem _ hw)
      · exact zthrow_o1 w (List.mem_cons_of_mem _ hw)
  have hend : ∀ t : State, s.vm.Alike t.vm → t.heap.size = H.size + 1 → (∀ q : Nat, q < H.size → t.heap[q]? = H[q]?) → zQx g Q (zEx x) s t := by
    intro t _ h1 h2
    refine ⟨(M.1 + 1, M.2), h, ?_⟩
    exact a7.new (M' := (M.1 + 1, M.2)) rfl (fun hn => absurd hM9 hn) (fun _ _ => rfl) h1 h2 (fun _ _ => rfl) (fun _ _ => rfl) (fun _ _ => rfl) (fun hn => absurd hM9 hn)
  have hout : ∀ k, ∀ x ∈ c.exceptionTable.toList, covers x k = false := by
    intro k x hx
    rw [ht, hh] at hx
    cases hx
  have hcat := zcat g st
  rcases hx with ⟨rfl, rfl⟩ | ⟨rfl, rfl⟩
  · rcases dw with ⟨-, d4, d6, d9⟩ | ⟨-, d4, d6, d9⟩
    · exact zx_throwS (cc := f.2.1) (own := RX11) (cls := "java/lang/IllegalArgumentException") (text := q.2.2.1) (names := ["java/lang/RuntimeException", "java/lang/Exception"]) (A := fun q => g.2.2.1 ≤ q) hxx hcb hlt hown2 (by decide +kernel) (by decide +kernel) hk2 hini hstr hat hgd hU hN hS (a8.1.trans hml.symm) d0 d3 d4 d6 d9 (hout _) (by show 2 + 3 < R.frames; omega) (by rw [hcat]; show _ + (13 * (2 + 1) + 43) ≤ R.locals; omega) (by omega) (by omega) hlocks hend a6 (by omega) (by omega) T hT X
    · exact zx_throwSW (cc := f.2.1) (own := RX11) (cls := "java/lang/IllegalArgumentException") (text := q.2.2.1) (names := ["java/lang/RuntimeException", "java/lang/Exception"]) (A := fun q => g.2.2.1 ≤ q) hxx hcb hlt hown2 (by decide +kernel) (by decide +kernel) hk2 hini hstr hat hgd hU hN hS (a8.1.trans hml.symm) d0 d3 d4 d6 d9 (hout _) (by show 2 + 3 < R.frames; omega) (by rw [hcat]; show _ + (13 * (2 + 1) + 43) ≤ R.locals; omega) (by omega) (by omega) hlocks hend a6 (by omega) (by omega) T hT X
  · rcases dw with ⟨-, d4, d6, d9⟩ | ⟨-, d4, d6, d9⟩
    · exact zy_throwS (cc := f.2.1) (own := RX11) (text := q.2.2.1) (A := fun q => g.2.2.1 ≤ q) hxx hcb hlt hown2 hk2 hini hstr hat hgd hU hN hS (a8.1.trans hml.symm) d0 d3 d4 d6 d9 (hout _) (by omega) (by rw [hcat]; omega) (by omega) (by omega) hlocks hend a6 (by omega) (by omega) T hT X
    · exact zy_throwSW (cc := f.2.1) (own := RX11) (text := q.2.2.1) (A := fun q => g.2.2.1 ≤ q) hxx hcb hlt hown2 hk2 hini hstr hat hgd hU hN hS (a8.1.trans hml.symm) d0 d3 d4 d6 d9 (hout _) (by omega) (by rw [hcat]; omega) (by omega) (by omega) hlocks hend a6 (by omega) (by omega) T hT X
theorem zs_min {x y : Int32} (hm : zMa f pc Lib.Math.min.name) (hq : (Nat.ble 1 d && Nat.ble ((st.map Value.category).sum) 8) = true) (h : zGo l d mc ms f M (pc + 3) lo (.int (if y < x then y else x) :: st) Q) : zGo l d mc ms f M pc lo (.int y :: .int x :: st) Q := by
  intro g p e R s m args below meth c H locs cells slots ls hC a2 a3 a4 a5 a6 a7 a8
  simp only [Bool.and_eq_true, Nat.ble_eq] at hq
  obtain ⟨q1, q2⟩ := hq
  obtain ⟨idx, hd, hl⟩ := hm
  have hcat := zcat g st
  exact va_mmin hC.1 hC.2.1 (hC.2.2.2.1.trans a8.1.symm) hC.2.2.2.2.1 (hC.2.2.2.2.2.2.1 _ hl) (hC.2.2.2.2.2.2.1 _ zmw_min.1) (hC.2.2.2.2.2.2.1 _ zmw_i) (hC.2.2.2.2.2.2.1 _ zmw_min.2) (by omega) (by rw [hcat]; omega) (by omega) (by omega) hd
    (h g p e R s m args below meth c H locs cells slots ls hC a2 a3 a4 a5 a6 a7 a8)
theorem zs_max {x y : Int32} (hm : zMa f pc Lib.Math.max.name) (hq : (Nat.ble 1 d && Nat.ble ((st.map Value.category).sum) 8) = true) (h : zGo l d mc ms f M (pc + 3) lo (.int (if x < y then y else x) :: st) Q) : zGo l d mc ms f M pc lo (.int y :: .int x :: st) Q := by
  intro g p e R s m args below meth c H locs cells slots ls hC a2 a3 a4 a5 a6 a7 a8
  simp only [Bool.and_eq_true, Nat.ble_eq] at hq
  obtain ⟨q1, q2⟩ := hq
  obtain ⟨idx, hd, hl⟩ := hm
  have hcat := zcat g st
  exact va_mmax hC.1 hC.2.1 (hC.2.2.2.1.trans a8.1.symm) hC.2.2.2.2.1 (hC.2.2.2.2.2.2.1 _ hl) (hC.2.2.2.2.2.2.1 _ zmw_max.1) (hC.2.2.2.2.2.2.1 _ zmw_i) (hC.2.2.2.2.2.2.1 _ zmw_max.2) (by omega) (by rw [hcat]; omega) (by omega) (by omega) hd
    (h g p e R s m args below meth c H locs cells slots ls hC a2 a3 a4 a5 a6 a7 a8)
theorem zs_abs {x : Int32} (hm : zMa f pc Lib.Math.abs.name) (hq : (Nat.ble 1 d && Nat.ble ((st.map Value.category).sum) 8) = true) (h : zGo l d mc ms f M (pc + 3) lo (.int (if 0 ≤ x then x else 0 - x) :: st) Q) : zGo l d mc ms f M pc lo (.int x :: st) Q := by
  intro g p e R s m args below meth c H locs cells slots ls hC a2 a3 a4 a5 a6 a7 a8
  simp only [Bool.and_eq_true, Nat.ble_eq] at hq
  obtain ⟨q1, q2⟩ := hq
  obtain ⟨idx, hd, hl⟩ := hm
  have hcat := zcat g st
  exact va_mabs hC.1 hC.2.1 (hC.2.2.2.1.trans a8.1.symm) hC.2.2.2.2.1 (hC.2.2.2.2.2.2.1 _ hl) (hC.2.2.2.2.2.2.1 _ zmw_abs.1) (hC.2.2.2.2.2.2.1 _ zmw_i) (hC.2.2.2.2.2.2.1 _ zmw_abs.2) (by omega) (by rw [hcat]; omega) (by omega) (by omega) hd
    (h g p e R s m args below meth c H locs cells slots ls hC a2 a3 a4 a5 a6 a7 a8)
theorem zs_copy {a b : Nat} {n : Int32} (hm : zMa f pc arraycopyName) (hq : (Nat.ble 1 d && Nat.ble ((st.map Value.category).sum) 8) = true) (hka : ((M.2.1 a).1 == 1) = true) (hkb : ((M.2.1 b).1 == 1) = true) (hab : (!(a == b)) = true) (h0 : ¬ n < 0) (h4 : n.toNatClampNeg ≤ (M.2.1 a).2) (h5 : n.toNatClampNeg ≤ (M.2.1 b).2)
    (h : zGo l d mc ms f (zcpM M a b n.toNatClampNeg) (pc + 3) lo st Q) : zGo l d mc ms f M pc lo (.int n :: .int 0 :: .ref b :: .int 0 :: .ref a :: st) Q := by
  intro g p e R s m args below meth c H locs cells slots ls hC a2 a3 a4 a5 a6 a7 a8
  simp only [Bool.and_eq_true, Nat.ble_eq] at hq
  obtain ⟨r1, r2⟩ := hq
  obtain ⟨idx, hd, hl⟩ := hm
  have hcat := zcat g st
  have hka := zkk (M := M) (c := a) (a := 1) hka
  have hkb := zkk (M := M) (c := b) (a := 1) hkb
  have hne : a ≠ b := by simpa using hab
  obtain ⟨hlta, hada, hca⟩ := a7.cell a hka (by decide)
  obtain ⟨hltb, hadb, hcb⟩ := a7.cell b hkb (by decide)
  unfold zcell at hca hcb
  rw [hka] at hca
  rw [hkb] at hcb
  have nn : ∀ z : Int32, ¬ z < 0 → z.toInt = (z.toNatClampNeg : Int) := by
    intro z hz
    have hz0 : (0 : Int) ≤ z.toInt := by
      have := Int32.not_lt.mp hz
      simpa using Int32.le_iff_toInt_le.mp this
    show z.toInt = ((z.toInt.toNat : Nat) : Int)
    omega
  have hz0 : ¬ (0 : Int32) < 0 := by decide
  show W p l e R s m args below meth c H locs cells slots _ (F0 m pc ls (.int n :: .int 0 :: .ref (zad g b) :: .int 0 :: .ref (zad g a) :: st.map (zc g)))
  rw [hada, hadb]
  intro T hT X
  obtain ⟨-, k0, hk0, cm0, hkk0⟩ := (hC.2.2.2.2.2.2.2.1.1.2 0 _ rfl).1 (M.2.1 a).2 (fun j => .int (M.2.2.2.1 a j))
  obtain ⟨-, k1, hk1, cm1, hkk1⟩ := (hC.2.2.2.2.2.2.2.1.1.2 0 _ rfl).1 (M.2.1 b).2 (fun j => .int (M.2.2.2.1 b j))
  obtain ⟨vm', X', step⟩ := X.arraycopy hC.1 hC.2.2.2.2.1 (hC.2.2.2.2.2.2.1 _ hl) (hC.2.2.2.2.2.2.1 _ zmw_c.2.1) (hC.2.2.2.2.2.2.1 _ zmw_c.1) (hC.2.2.2.2.2.2.1 _ zmw_c.2.2) (src := g.2.2.1 + a) (dst := g.2.2.1 + b) (cs := arrV g.2.1.1 (M.2.1 a).2 (fun j => .int (M.2.2.2.1 a j))) (cd := arrV g.2.1.1 (M.2.1 b).2 (fun j => .int (M.2.2.2.1 b j))) (srcPos := 0) (destPos := 0) (n := n) (by rw [hT]; exact hca) (by rw [hT]; exact hcb)
    (fun _ h => by cases h) (fun _ h => by cases h) (fun h => by cases h) (fun h => by cases h) hk0 hk1 hkk0 hkk1 (by simp [show refKind .int = false from rfl]) hz0 hz0 h0
    (by rw [nn 0 hz0, nn n h0, arrV_size]; simp [sb_cl0]; omega)
    (by rw [nn 0 hz0, nn n h0, arrV_size]; simp [sb_cl0]; omega)
    (fun vm₁ _ i hi => by
      have e : (arrV g.2.1.1 (M.2.1 a).2 (fun j => .int (M.2.2.2.1 a j))).slots.getD ((0 : Int32).toNatClampNeg + i) .null = .int (M.2.2.2.1 a i) := by
        rw [Array.getD_eq_getD_getElem?, sb_cl0, Nat.zero_add, arrV_read _ _ (by omega)]
        rfl
      refine ⟨?_, ?_⟩
      · rw [e]
        rfl
      · rw [e]
        exact trivial)
    (g := F0 m pc ls (.int n :: .int 0 :: .ref (g.2.2.1 + b) :: .int 0 :: .ref (g.2.2.1 + a) :: st.map (zc g))) rfl (a8.1.trans hC.2.2.2.1.symm) (rest := st.map (zc g)) rfl (by rw [hC.2.1]; exact hd) (by omega) (by have := znat; show 2 * 0 + _ + _ ≤ _; rw [hcat]; omega)
  have e1 : copied (arrV g.2.1.1 (M.2.1 a).2 (fun j => .int (M.2.2.2.1 a j))) (arrV g.2.1.1 (M.2.1 b).2 (fun j => .int (M.2.2.2.1 b j))) 0 0 n = vp_cell g.2.1.1 ((M.2.1 b).2, .inl (va_cpy (M.2.2.2.1 a) (M.2.2.2.1 b) (0 : Int32).toNatClampNeg (0 : Int32).toNatClampNeg n.toNatClampNeg)) := va_copied (fun z => .int z) g.2.1.1 g.2.1.1 (M.2.2.2.1 a) (M.2.2.2.1 b) (by rw [sb_cl0]; omega)
  rw [e1] at X' step
  have hlB : g.2.2.1 + b < H.size := (Array.getElem?_eq_some_iff.mp hcb).1
  have hheap : ((T.setVm vm').setCell (g.2.2.1 + b) (vp_cell g.2.1.1 ((M.2.1 b).2, .inl (va_cpy (M.2.2.2.1 a) (M.2.2.2.1 b) (0 : Int32).toNatClampNeg (0 : Int32).toNatClampNeg n.toNatClampNeg)))).heap = H.setIfInBounds (g.2.2.1 + b) (vp_cell g.2.1.1 ((M.2.1 b).2, .inl (va_cpy (M.2.2.2.1 a) (M.2.2.2.1 b) (0 : Int32).toNatClampNeg (0 : Int32).toNatClampNeg n.toNatClampNeg))) := by rw [← hT]; rfl
  have hz : zH g (zcpM M a b n.toNatClampNeg) (H.setIfInBounds (g.2.2.1 + b) (vp_cell g.2.1.1 ((M.2.1 b).2, .inl (va_cpy (M.2.2.2.1 a) (M.2.2.2.1 b) (0 : Int32).toNatClampNeg (0 : Int32).toNatClampNeg n.toNatClampNeg)))) := by
    refine a7.put b rfl rfl (by simp) (fun q hq => by simp [Array.getElem?_setIfInBounds, Ne.symm hq]) hltb (fun _ _ => rfl) (fun y hy => ?_) (fun _ _ => rfl) ?_
    · funext j
      show (bif y == b && Nat.blt j n.toNatClampNeg then M.2.2.2.1 a j else M.2.2.2.1 y j) = M.2.2.2.1 y j
      rw [show (y == b) = false by simpa using hy]
      rfl
    · unfold zcell
      show (match M.2.1 b with | (0, ci) => _ | (1, n9) => (H.setIfInBounds (g.2.2.1 + b) _)[g.2.2.1 + b]? = some (arrV g.2.1.1 n9 (fun j => .int ((zcpM M a b n.toNatClampNeg).2.2.2.1 b j))) | (2, n9) => _ | (3, n9) => _ | _ => _)
      rw [show M.2.1 b = (1, (M.2.1 b).2) from hkb]
      show (H.setIfInBounds (g.2.2.1 + b) _)[g.2.2.1 + b]? = some (arrV g.2.1.1 (M.2.1 b).2 (fun j => .int ((zcpM M a b n.toNatClampNeg).2.2.2.1 b j)))
      rw [Array.getElem?_setIfInBounds_self_of_lt hlB, vp_cell_i]
      congr 2
      funext j
      congr 1
      show va_cpy _ _ _ _ _ j = (bif b == b && Nat.blt j n.toNatClampNeg then _ else _)
      unfold va_cpy
      rw [sb_cl0, Nat.zero_add, Nat.zero_add, Nat.sub_zero]
      by_cases hj : j < n.toNatClampNeg
      · rw [if_pos ⟨Nat.zero_le _, hj⟩, beq_self_eq_true, Bool.true_and, show Nat.blt j n.toNatClampNeg = true from Nat.blt_eq.mpr hj]
        rfl
      · rw [if_neg (fun z => hj z.2), beq_self_eq_true, Bool.true_and, show Nat.blt j n.toNatClampNeg = false by
          cases hb : Nat.blt j n.toNatClampNeg
          · rfl
          · exact absurd (Nat.blt_eq.mp hb) hj]
        rfl
  have hk := fun (L : List Loc) (hL : ∀ q ∈ L, g.2.2.1 ≤ q.base) => h g p e R s m args below meth c _ (locs ++ L) cells slots ls hC a2 a3 a4 a5 (fun q hq => (List.mem_append.mp hq).elim (a6 q) (hL q)) hz a8
  obtain ⟨t, b1, b2⟩ := hk _ (fun q hq => by
      obtain ⟨z, -, hz⟩ := List.mem_map.mp hq
      rw [← hz]
      exact Nat.le_add_right _ _) _ hheap X'
  exact ⟨t, step t b1, b2⟩
theorem zs_nest (d' mc' ms' : Nat) {idx n nL : Nat} {y : MethodName} {cc : ByteArray} {ret : Option FieldType} {host : String} {a rest : List Value} {Qc : zR → zM → Prop} (hd : decode f.2.1 pc = .ok (.invokestatic idx, 3)) (hl : Cond.methodLinkNest (zown f.1) idx y host ∈ zNest) (hm : zMth y (.code y cc nL ret) n) (hi : Cond.static y ∈ zws)
    (hst : st = a.reverse ++ rest) (hn : a.length = n) (hq : (Nat.ble (d' + 1) d && Nat.ble nL 18 && Nat.ble mc' mc && Nat.ble ms' ms && Nat.ble ((rest.map Value.category).sum) 8) = true)
    (hR : zRet l d' mc' ms' y (.code y cc nL ret) a M Qc) (hx : ∀ E M', ¬ Qc (.inr E) M')
    (k : ∀ v M', Qc (.inl v) M' → zGo l d (mc - mc') (ms - ms') f M' (pc + 3) lo (v.toList ++ rest) Q) : zGo l d mc ms f M pc lo st Q := by
  intro g p e R s m args below meth c H locs cells slots ls hC a2 a3 a4 a5 a6 a7 a8
  simp only [Bool.and_eq_true, Nat.ble_eq] at hq
  obtain ⟨⟨⟨⟨q1, q2⟩, q3⟩, q4⟩, q5⟩ := hq
  subst hst
  obtain ⟨hxx, hcb, hr, hml, hown, hlocks, hts, hw, ht, hin⟩ := id hC
  have hno : ∀ E st t, ¬ zQx g Qc E st t := by
    rintro E st t ⟨M', hq, -⟩
    exact hx E M' hq
  obtain ⟨m1, m2, m3, m4⟩ := id hm
  have hrun := va_runSN (l := l) (R := R) (H := H) (p := p) (e := e) (below := below) (meth := meth) (locs := locs) (cells := cells) (slots := slots) (g := F0 m pc ls ((a.reverse ++ rest).map (zc g))) (As := a.map (zc g)) (rest := rest.map (zc g)) (Ts := zws) (n := n) (host := host) ⟨hxx, hcb, hml, hown, hts⟩ (zvx_met (hR g) hno)
    ⟨⟨⟨rfl, rfl, by show d' + 1 ≤ R.frames; omega, by show 8 + (nL + 11) + 37 * d' ≤ R.locals; omega, fun w hw => (by
        rcases List.mem_cons.mp hw with rfl | hw
        · exact zwarm hts _ m1
        · exact zwarm hts _ hw), List.mem_cons_self⟩, hts _ m1, hts _ m2, m3, fun sig h => (by rw [h] at m4; exact (Option.some.inj m4).symm), va_Nw.use rfl (hw.2.2.2.2.2.2.1 _ hl)⟩, hts _ hi, trivial⟩
    ⟨zblind, fun U hU hW => ⟨rfl, zW.warm hW hw, by rw [hU]; exact a7⟩⟩
    rfl (by rw [List.length_map]; exact hn) a8.1 (by simp) (by rw [zcat]; show 2 * 0 + _ ≤ 8; omega) hd ⟨by omega, by omega⟩
  exact zback (fun T hT X => Or.inl (hrun T hT X)) hC a2 a3 a4 a5 a6 a8 q3 q4 k (fun E M' ce q9 H1 locs1 hqx => absurd hqx (hx E M'))
end
end
section
/-- the kinds of the 103 cells that the constructors make, and of the law's own row -/
def zLAY (c : Nat) : Nat × Nat := bif Nat.ble c 102 then (bif Nat.ble c 50 then (bif Nat.ble c 24 then (bif Nat.ble c 11 then (bif Nat.ble c 5 then (bif Nat.ble c 2 then (bif Nat.ble c 0 then (0, 11) else (bif Nat.ble c 1 then (0, 9) else (2, 700))) else (bif Nat.ble c 3 then (0, 6) else (1, 8))) else (bif Nat.ble c 8 then (bif Nat.ble c 6 then (1, 6) else (bif Nat.ble c 7 then (1, 6) else (1, 3))) else (bif Nat.ble c 9 then (1, 144) else (bif Nat.ble c 10 then (1, 4) else (0, 6))))) else (bif Nat.ble c 17 then (bif Nat.ble c 14 then (bif Nat.ble c 12 then (1, 8) else (bif Nat.ble c 13 then (1, 8) else (1, 6))) else (bif Nat.ble c 15 then (1, 6) else (bif Nat.ble c 16 then (1, 3) else (1, 144)))) else (bif Nat.ble c 20 then (bif Nat.ble c 18 then (1, 4) else (bif Nat.ble c 19 then (0, 7) else (0, 0))) else (1, 12)))) else (bif Nat.ble c 37 then (bif Nat.ble c 30 then (bif Nat.ble c 27 then (bif Nat.ble c 25 then (1, 144) else (bif Nat.ble c 26 then (1, 72) else (1, 8))) else (bif Nat.ble c 28 then (0, 0) else (1, 12))) else (bif Nat.ble c 33 then (bif Nat.ble c 31 then (1, 12) else (bif Nat.ble c 32 then (1, 12) else (1, 144))) else (bif Nat.ble c 35 then (bif Nat.ble c 34 then (1, 72) else (1, 8)) else (bif Nat.ble c 36 then (0, 3) else (0, 1))))) else (bif Nat.ble c 43 then (bif Nat.ble c 40 then (bif Nat.ble c 38 then (1, 6) else (bif Nat.ble c 39 then (0, 2) else (1, 6))) else (bif Nat.ble c 41 then (1, 24) else (bif Nat.ble c 42 then (0, 10) else (1, 48)))) else (bif Nat.ble c 46 then (1, 6) else (bif Nat.ble c 48 then (bif Nat.ble c 47 then (0, 4) else (1, 8)) else (bif Nat.ble c 49 then (1, 8) else (1, 3))))))) else (bif Nat.ble c 76 then (bif Nat.ble c 63 then (bif Nat.ble c 56 then (bif Nat.ble c 53 then (bif Nat.ble c 51 then (1, 3) else (bif Nat.ble c 52 then (0, 5) else (1, 6))) else (bif Nat.ble c 54 then (1, 12) else (bif Nat.ble c 55 then (1, 4) else (1, 3)))) else (bif Nat.ble c 59 then (bif Nat.ble c 57 then (1, 6) else (bif Nat.ble c 58 then (1, 6) else (0, 8))) else (bif Nat.ble c 61 then (bif Nat.ble c 60 then (1, 40) else (1, 3)) else (bif Nat.ble c 62 then (0, 12) else (1, 8))))) else (bif Nat.ble c 69 then (bif Nat.ble c 66 then (bif Nat.ble c 64 then (1, 8) else (bif Nat.ble c 65 then (1, 6) else (1, 12))) else (bif Nat.ble c 67 then (1, 3) else (bif Nat.ble c 68 then (1, 4) else (1, 144)))) else (bif Nat.ble c 72 then (bif Nat.ble c 70 then (1, 700) else (bif Nat.ble c 71 then (1, 3) else (1, 8))) else (bif Nat.ble c 74 then (bif Nat.ble c 73 then (1, 8) else (1, 6)) else (bif Nat.ble c 75 then (1, 12) else (1, 3)))))) else (bif Nat.ble c 89 then (bif Nat.ble c 82 then (bif Nat.ble c 79 then (bif Nat.ble c 77 then (1, 4) else (bif Nat.ble c 78 then (1, 144) else (1, 36))) else (bif Nat.ble c 80 then (1, 144) else (bif Nat.ble c 81 then (1, 72) else (1, 8)))) else (bif Nat.ble c 85 then (bif Nat.ble c 83 then (1, 6) else (bif Nat.ble c 84 then (1, 24000) else (1, 8))) else (bif Nat.ble c 87 then (bif Nat.ble c 86 then (1, 8) else (1, 48)) else (1, 6)))) else (bif Nat.ble c 95 then (bif Nat.ble c 92 then (bif Nat.ble c 90 then (1, 6) else (1, 3)) else (bif Nat.ble c 93 then (1, 8) else (1, 6))) else (bif Nat.ble c 98 then (bif Nat.ble c 96 then (1, 256) else (bif Nat.ble c 97 then (1, 3) else (1, 36))) else (bif Nat.ble c 100 then (bif Nat.ble c 99 then (1, 8) else (1, 144)) else (bif Nat.ble c 101 then (1, 72) else (3, 1)))))))) else (9, 0)
def zR0 (c k : Nat) : Nat := bif Nat.ble c 102 then (bif Nat.ble c 50 then (bif Nat.ble c 24 then (bif Nat.ble c 11 then (bif Nat.ble c 5 then (bif Nat.ble c 2 then (bif Nat.ble c 0 then (bif Nat.ble k 15 then (bif Nat.ble k 7 then (bif Nat.ble k 3 then (bif Nat.ble k 1 then (bif Nat.ble k 0 then 2 else 4) else (bif Nat.ble k 2 then 12 else 20)) else (bif Nat.ble k 5 then (bif Nat.ble k 4 then 21 else 29) else (bif Nat.ble k 6 then 37 else 38))) else (bif Nat.ble k 11 then (bif Nat.ble k 9 then (bif Nat.ble k 8 then 40 else 43) else (bif Nat.ble k 10 then 48 else 53)) else (bif Nat.ble k 13 then (bif Nat.ble k 12 then 60 else 62) else 0))) else 0) else (bif Nat.ble c 1 then (bif Nat.ble k 1 then (bif Nat.ble k 0 then 3 else 0) else 0) else 0)) else (bif Nat.ble c 3 then (bif Nat.ble k 11 then (bif Nat.ble k 5 then (bif Nat.ble k 2 then (bif Nat.ble k 0 then 5 else (bif Nat.ble k 1 then 6 else 7)) else (bif Nat.ble k 3 then 8 else (bif Nat.ble k 4 then 9 else 10))) else (bif Nat.ble k 8 then (bif Nat.ble k 6 then 11 else 0) else 0)) else 0) else 0)) else (bif Nat.ble c 8 then 0 else (bif Nat.ble c 9 then 0 else (bif Nat.ble c 10 then 0 else (bif Nat.ble k 11 then (bif Nat.ble k 5 then (bif Nat.ble k 2 then (bif Nat.ble k 0 then 13 else (bif Nat.ble k 1 then 14 else 15)) else (bif Nat.ble k 3 then 16 else (bif Nat.ble k 4 then 17 else 18))) else (bif Nat.ble k 8 then (bif Nat.ble k 6 then 19 else 0) else 0)) else 0))))) else (bif Nat.ble c 17 then 0 else (bif Nat.ble c 20 then (bif Nat.ble c 18 then 0 else (bif Nat.ble c 19 then (bif Nat.ble k 8 then (bif Nat.ble k 3 then (bif Nat.ble k 1 then (bif Nat.ble k 0 then 3 else 12) else 0) else 0) else 0) else (bif Nat.ble k 9 then (bif Nat.ble k 4 then (bif Nat.ble k 1 then (bif Nat.ble k 0 then 22 else 23) else (bif Nat.ble k 2 then 24 else (bif Nat.ble k 3 then 25 else 26))) else (bif Nat.ble k 6 then (bif Nat.ble k 5 then 27 else 28) else 0)) else 0))) else 0))) else (bif Nat.ble c 37 then (bif Nat.ble c 30 then (bif Nat.ble c 27 then 0 else (bif Nat.ble c 28 then (bif Nat.ble k 9 then (bif Nat.ble k 4 then (bif Nat.ble k 1 then (bif Nat.ble k 0 then 30 else 31) else (bif Nat.ble k 2 then 32 else (bif Nat.ble k 3 then 33 else 34))) else (bif Nat.ble k 6 then (bif Nat.ble k 5 then 35 else 36) else 0)) else 0) else 0)) else (bif Nat.ble c 33 then 0 else (bif Nat.ble c 35 then 0 else (bif Nat.ble c 36 then (bif Nat.ble k 1 then (bif Nat.ble k 0 then 4 else 21) else 0) else (bif Nat.ble k 4 then (bif Nat.ble k 1 then (bif Nat.ble k 0 then 4 else 21) else (bif Nat.ble k 2 then 37 else (bif Nat.ble k 3 then 39 else 0))) else 0))))) else (bif Nat.ble c 43 then (bif Nat.ble c 40 then (bif Nat.ble c 38 then 0 else (bif Nat.ble c 39 then (bif Nat.ble k 4 then (bif Nat.ble k 1 then (bif Nat.ble k 0 then 4 else 21) else (bif Nat.ble k 2 then 37 else (bif Nat.ble k 3 then 41 else 42))) else 0) else 0)) else (bif Nat.ble c 41 then 0 else (bif Nat.ble c 42 then (bif Nat.ble k 6 then (bif Nat.ble k 2 then (bif Nat.ble k 0 then 4 else (bif Nat.ble k 1 then 37 else 44)) else (bif Nat.ble k 4 then (bif Nat.ble k 3 then 45 else 46) else (bif Nat.ble k 5 then 47 else 0))) else 0) else 0))) else (bif Nat.ble c 46 then 0 else (bif Nat.ble c 48 then (bif Nat.ble c 47 then (bif Nat.ble k 5 then (bif Nat.ble k 2 then (bif Nat.ble k 0 then 4 else (bif Nat.ble k 1 then 37 else 49)) else (bif Nat.ble k 3 then 50 else (bif Nat.ble k 4 then 51 else 52))) else 0) else 0) else 0))))) else (bif Nat.ble c 76 then (bif Nat.ble c 63 then (bif Nat.ble c 56 then (bif Nat.ble c 53 then (bif Nat.ble c 51 then 0 else (bif Nat.ble c 52 then (bif Nat.ble k 9 then (bif Nat.ble k 4 then (bif Nat.ble k 1 then (bif Nat.ble k 0 then 4 else 21) else (bif Nat.ble k 2 then 37 else (bif Nat.ble k 3 then 54 else 55))) else (bif Nat.ble k 6 then (bif Nat.ble k 5 then 56 else 57) else (bif Nat.ble k 7 then 58 else (bif Nat.ble k 8 then 59 else 0)))) else 0) else 0)) else 0) else (bif Nat.ble c 59 then (bif Nat.ble c 57 then 0 else (bif Nat.ble c 58 then 0 else (bif Nat.ble k 2 then (bif Nat.ble k 0 then 61 else 0) else 0))) else (bif Nat.ble c 61 then 0 else (bif Nat.ble c 62 then (bif Nat.ble k 68 then (bif Nat.ble k 33 then (bif Nat.ble k 16 then (bif Nat.ble k 7 then (bif Nat.ble k 3 then 0 else (bif Nat.ble k 5 then (bif Nat.ble k 4 then 0 else 64) else (bif Nat.ble k 6 then 65 else 66))) else (bif Nat.ble k 11 then (bif Nat.ble k 9 then (bif Nat.ble k 8 then 67 else 68) else (bif Nat.ble k 10 then 69 else 70)) else (bif Nat.ble k 13 then (bif Nat.ble k 12 then 71 else 0) else (bif Nat.ble k 14 then 0 else (bif Nat.ble k 15 then 0 else 72))))) else (bif Nat.ble k 24 then 0 else (bif Nat.ble k 28 then 0 else (bif Nat.ble k 30 then (bif Nat.ble k 29 then 73 else 74) else (bif Nat.ble k 31 then 75 else (bif Nat.ble k 32 then 76 else 77)))))) else (bif Nat.ble k 50 then (bif Nat.ble k 41 then (bif Nat.ble k 37 then (bif Nat.ble k 35 then (bif Nat.ble k 34 then 78 else 79) else (bif Nat.ble k 36 then 0 else 80)) else (bif Nat.ble k 39 then (bif Nat.ble k 38 then 81 else 82) else 0)) else (bif Nat.ble k 45 then (bif Nat.ble k 43 then (bif Nat.ble k 42 then 83 else 84) else (bif Nat.ble k 44 then 85 else 0)) else (bif Nat.ble k 47 then (bif Nat.ble k 46 then 86 else 87) else (bif Nat.ble k 48 then 88 else (bif Nat.ble k 49 then 89 else 90))))) else (bif Nat.ble k 59 then (bif Nat.ble k 54 then (bif Nat.ble k 52 then (bif Nat.ble k 51 then 91 else 0) else (bif Nat.ble k 53 then 92 else 93)) else (bif Nat.ble k 56 then (bif Nat.ble k 55 then 94 else 0) else (bif Nat.ble k 57 then 95 else (bif Nat.ble k 58 then 96 else 0)))) else (bif Nat.ble k 63 then (bif Nat.ble k 61 then (bif Nat.ble k 60 then 0 else 97) else 0) else (bif Nat.ble k 65 then (bif Nat.ble k 64 then 98 else 99) else (bif Nat.ble k 66 then 100 else (bif Nat.ble k 67 then 101 else 102))))))) else 0) else 0)))) else 0) else 0)) else 0
/-! BEHIND THE CONSTRUCTORS: THE LAYER OF INTEGERS -/
/-- a value: an int, a cell, a long -/
abbrev zV : Type := Int ⊕ (Nat ⊕ Int)
/-- the state: ints of the cells; a long of the cell c lies at c + 1000 -/
abbrev zS : Type := Nat → Nat → Int
def zir (z : Int) : Prop := -2147483648 ≤ z ∧ z < 2147483648
def zil (z : Int) : Prop := -9223372036854775808 ≤ z ∧ z < 9223372036854775808
def zvv : zV → Value
  | .inl z => .int (Int32.ofInt z)
  | .inr (.inl k) => .ref k
  | .inr (.inr x) => .long (Int64.ofInt x)
def zok : zV → Prop
  | .inl z => zir z
  | .inr (.inl _) => True
  | .inr (.inr x) => zil x
abbrev zR2 : Type := Option zV ⊕ String
def zvr : zR2 → zR
  | .inl o => .inl (o.map zvv)
  | .inr E => .inr E
def zokr : zR2 → Prop
  | .inl (some v) => zok v
  | _ => True
def zev (M : zM) (S : zS) : Prop := 103 ≤ M.1 ∧ M.2.1 = zLAY ∧ M.2.2.1 = zR0 ∧ (∀ c k, c < 1000 → zir (S c k) ∧ M.2.2.2.1 c k = Int32.ofInt (S c k)) ∧ ∀ c k, c < 1000 → zil (S (c + 1000) k) ∧ M.2.2.2.2 c k = Int64.ofInt (S (c + 1000) k)
def zQs (Q : zR2 → zS → Prop) : zR → zM → Prop := fun r M => ∃ r' S, zvr r' = r ∧ zokr r' ∧ zev M S ∧ Q r' S
def zmp (lo : List (Nat × zV)) : List (Nat × Value) := lo.map (fun q => (q.1, zvv q.2))
def zRs (l : Launch) (d mc ms : Nat) (y : MethodName) (cd : Cond) (a : List zV) (S : zS) (Q : zR2 → zS → Prop) : Prop := ∀ M, zev M S → (∀ v ∈ a, zok v) → zRet l d mc ms y cd (a.map zvv) M (zQs Q)
def zGs (l : Launch) (d mc ms : Nat) (f : zF) (S : zS) (pc : Nat) (lo : List (Nat × zV)) (st : List zV) (Q : zR2 → zS → Prop) : Prop := ∀ M, zev M S → (∀ q ∈ lo, zok q.2) → (∀ v ∈ st, zok v) → zGo l d mc ms f M pc (zmp lo) (st.map zvv) (zQs Q)
def zc2 : zV → Nat
  | .inr (.inr _) => 2
  | _ => 1
theorem zc2_ok (v : zV) : (zvv v).category = zc2 v := by
  rcases v with z | k | x <;> rfl
def zlkN : List (Nat × zV) → Nat → Option zV
  | [], _ => none
  | q :: r, i => bif q.1 == i then some q.2 else zlkN r i
def zinN : List (Nat × zV) → Nat → zV → List (Nat × zV)
  | [], i, v => [(i, v)]
  | q :: r, i, v => bif Nat.blt i q.1 then (i, v) :: q :: r else q :: zinN r i v
def zupN (lo : List (Nat × zV)) (i : Nat) (v : zV) : List (Nat × zV) := zinN (lo.filter (fun q => !(q.1 == i) && !(q.1 + 1 == i && zc2 q.2 == 2))) i v
def zupL (lo : List (Nat × zV)) (i : Nat) (v : zV) : List (Nat × zV) := zinN (lo.filter (fun q => !(q.1 == i) && (!(q.1 == i + 1) && !(q.1 + 1 == i && zc2 q.2 == 2)))) i v
theorem zlkN_ok {lo : List (Nat × zV)} {i : Nat} {v : zV} (h : zlkN lo i = some v) : zlk (zmp lo) i = some (zvv v) ∧ (i, v) ∈ lo := by
  induction lo with
  | nil => cases h
  | cons q r ih =>
    unfold zlkN at h
    show zlk ((q.1, zvv q.2) :: zmp r) i = _ ∧ _
    unfold zlk
    cases hq : (q.1 == i) with
    | true =>
      rw [hq] at h
      have e1 : q.1 = i := by simpa using hq
      have e2 : q.2 = v := Option.some.inj h
      refine ⟨by rw [← e2]; rfl, ?_⟩
      rw [← e1, ← e2]
      exact List.mem_cons_self
    | false =>
      rw [hq] at h
      obtain ⟨h1, h2⟩ := ih h
      refine ⟨h1, List.mem_cons_of_mem _ h2⟩
theorem zinN_ok (lo : List (Nat × zV)) (i : Nat) (v : zV) : zin (zmp lo) i (zvv v) = zmp (zinN lo i v) := by
  induction lo with
  | nil => rfl
  | cons q r ih =>
    show zin ((q.1, zvv q.2) :: zmp r) i (zvv v) = zmp (zinN (q :: r) i v)
    unfold zin zinN
    show (bif Nat.blt i q.1 then _ else _) = _
    cases Nat.blt i q.1 with
    | true => rfl
    | false =>
      show (q.1, zvv q.2) :: zin (zmp r) i (zvv v) = (q.1, zvv q.2) :: zmp (zinN r i v)
      rw [ih]
theorem zinN_mem {lo : List (Nat × zV)} {i : Nat} {v : zV} : ∀ q ∈ zinN lo i v, q = (i, v) ∨ q ∈ lo := by
  induction lo with
  | nil => intro q h; left; simpa [zinN] using h
  | cons a r ih =>
    intro q h
    unfold zinN at h
    cases hb : Nat.blt i a.1 with
    | true =>
      rw [hb] at h
      rcases List.mem_cons.mp h with h | h
      · exact Or.inl h
      · exact Or.inr h
    | false =>
      rw [hb] at h
      rcases List.mem_cons.mp h with h | h
      · exact Or.inr (by rw [h]; exact List.mem_cons_self)
      · rcases ih q h with h | h
        · exact Or.inl h
        · exact Or.inr (List.mem_cons_of_mem _ h)
theorem zupN_ok (lo : List (Nat × zV)) (i : Nat) (v : zV) : zup (zmp lo) i (zvv v) = zmp (zupN lo i v) := by
  unfold zup zupN
  rw [← zinN_ok]
  congr 1
  unfold zmp
  rw [List.filter_map]
  congr 2
  funext q
  show (!(q.1 == i) && !(q.1 + 1 == i && (zvv q.2).category == 2)) = _
  rw [zc2_ok]
theorem zupL_ok (lo : List (Nat × zV)) (i : Nat) (v : zV) : zup2 (zmp lo) i (zvv v) = zmp (zupL lo i v) := by
  unfold zup2 zupL
  rw [← zinN_ok]
  congr 1
  unfold zmp
  rw [List.filter_map]
  congr 2
  funext q
  show (!(q.1 == i) && (!(q.1 == i + 1) && !(q.1 + 1 == i && (zvv q.2).category == 2))) = _
  rw [zc2_ok]
theorem zupN_rng {lo : List (Nat × zV)} {i : Nat} {v : zV} (h : ∀ q ∈ lo, zok q.2) (hv : zok v) : ∀ q ∈ zupN lo i v, zok q.2 := by
  intro q hq
  rcases zinN_mem q hq with rfl | hq
  · exact hv
  · exact h q (List.mem_filter.mp hq).1
theorem zupL_rng {lo : List (Nat × zV)} {i : Nat} {v : zV} (h : ∀ q ∈ lo, zok q.2) (hv : zok v) : ∀ q ∈ zupL lo i v, zok q.2 := by
  intro q hq
  rcases zinN_mem q hq with rfl | hq
  · exact hv
  · exact h q (List.mem_filter.mp hq).1
/-- shapes of a stack's top -/
def u1i (st : List zV) (k : Int → List zV → Prop) : Prop := match st with
  | .inl x :: r => k x r
  | _ => False
def u1l (st : List zV) (k : Int → List zV → Prop) : Prop := match st with
  | .inr (.inr x) :: r => k x r
  | _ => False
def u1r (st : List zV) (k : Nat → List zV → Prop) : Prop := match st with
  | .inr (.inl x) :: r => k x r
  | _ => False
def u2i (st : List zV) (k : Int → Int → List zV → Prop) : Prop := match st with
  | .inl y :: .inl x :: r => k x y r
  | _ => False
def u2l (st : List zV) (k : Int → Int → List zV → Prop) : Prop := match st with
  | .inr (.inr y) :: .inr (.inr x) :: r => k x y r
  | _ => False
def uil (st : List zV) (k : Int → Int → List zV → Prop) : Prop := match st with
  | .inl y :: .inr (.inr x) :: r => k x y r
  | _ => False
def uir (st : List zV) (k : Nat → Int → List zV → Prop) : Prop := match st with
  | .inl y :: .inr (.inl x) :: r => k x y r
  | _ => False
def uiir (st : List zV) (k : Nat → Int → Int → List zV → Prop) : Prop := match st with
  | .inl z :: .inl y :: .inr (.inl x) :: r => k x y z r
  | _ => False
def ulir (st : List zV) (k : Nat → Int → Int → List zV → Prop) : Prop := match st with
  | .inr (.inr z) :: .inl y :: .inr (.inl x) :: r => k x y z r
  | _ => False
def ulr (st : List zV) (k : Nat → Int → List zV → Prop) : Prop := match st with
  | .inr (.inr z) :: .inr (.inl x) :: r => k x z r
  | _ => False
def u1d (st : List zV) (k : zV → List zV → Prop) : Prop := match st with
  | .inl x :: r => k (.inl x) r
  | .inr (.inl x) :: r => k (.inr (.inl x)) r
  | _ => False
theorem u1i_ok {st : List zV} {k : Int → List zV → Prop} (h : u1i st k) : ∃ x r, st = .inl x :: r ∧ k x r := by
  unfold u1i at h; split at h
  · exact ⟨_, _, rfl, h⟩
  · exact h.elim
theorem u1l_ok {st : List zV} {k : Int → List zV → Prop} (h : u1l st k) : ∃ x r, st = .inr (.inr x) :: r ∧ k x r := by
  unfold u1l at h; split at h
  · exact ⟨_, _, rfl, h⟩
  · exact h.elim
theorem u1r_ok {st : List zV} {k : Nat → List zV → Prop} (h : u1r st k) : ∃ x r, st = .inr (.inl x) :: r ∧ k x r := by
  unfold u1r at h; split at h
  · exact ⟨_, _, rfl, h⟩
  · exact h.elim
theorem u2i_ok {st : List zV} {k : Int → Int → List zV → Prop} (h : u2i st k) : ∃ x y r, st = .inl y :: .inl x :: r ∧ k x y r := by
  unfold u2i at h; split at h
  · exact ⟨_, _, _, rfl, h⟩
  · exact h.elim
theorem u2l_ok {st : List zV} {k : Int → Int → List zV → Prop} (h : u2l st k) : ∃ x y r, st = .inr (.inr y) :: .inr (.inr x) :: r ∧ k x y r := by
  unfold u2l at h; split at h
  · exact ⟨_, _, _, rfl, h⟩
  · exact h.elim
theorem uil_ok {st : List zV} {k : Int → Int → List zV → Prop} (h : uil st k) : ∃ x y r, st = .inl y :: .inr (.inr x) :: r ∧ k x y r := by
  unfold uil at h; split at h
  · exact ⟨_, _, _, rfl, h⟩
  · exact h.elim
theorem uir_ok {st : List zV} {k : Nat → Int → List zV → Prop} (h : uir st k) : ∃ x y r, st = .inl y :: .inr (.inl x) :: r ∧ k x y r := by
  unfold uir at h; split at h
  · exact ⟨_, _, _, rfl, h⟩
  · exact h.elim
theorem uiir_ok {st : List zV} {k : Nat → Int → Int → List zV → Prop} (h : uiir st k) : ∃ x y z r, st = .inl z :: .inl y :: .inr (.inl x) :: r ∧ k x y z r := by
  unfold uiir at h; split at h
  · exact ⟨_, _, _, _, rfl, h⟩
  · exact h.elim
theorem ulir_ok {st : List zV} {k : Nat → Int → Int → List zV → Prop} (h : ulir st k) : ∃ x y z r, st = .inr (.inr z) :: .inl y :: .inr (.inl x) :: r ∧ k x y z r := by
  unfold ulir at h; split at h
  · exact ⟨_, _, _, _, rfl, h⟩
  · exact h.elim
theorem ulr_ok {st : List zV} {k : Nat → Int → List zV → Prop} (h : ulr st k) : ∃ x z r, st = .inr (.inr z) :: .inr (.inl x) :: r ∧ k x z r := by
  unfold ulr at h; split at h
  · exact ⟨_, _, _, rfl, h⟩
  · exact h.elim
theorem u1d_ok {st : List zV} {k : zV → List zV → Prop} (h : u1d st k) : (∃ x r, st = .inl x :: r ∧ k (.inl x) r) ∨ ∃ x r, st = .inr (.inl x) :: r ∧ k (.inr (.inl x)) r := by
  unfold u1d at h; split at h
  · exact Or.inl ⟨_, _, rfl, h⟩
  · exact Or.inr ⟨_, _, rfl, h⟩
  · exact h.elim
/-- bits of ints -/
def zand (x y : Int) : Int := (Int32.ofInt x &&& Int32.ofInt y).toInt
def zor (x y : Int) : Int := (Int32.ofInt x ||| Int32.ofInt y).toInt
def zxor (x y : Int) : Int := (Int32.ofInt x ^^^ Int32.ofInt y).toInt
def zshl (x y : Int) : Int := (Int32.ofInt x <<< (Int32.ofInt y &&& 31)).toInt
def zshr (x y : Int) : Int := (Int32.ofInt x >>> (Int32.ofInt y &&& 31)).toInt
def zush (x y : Int) : Int := (zb2 8 (Int32.ofInt x) (Int32.ofInt y)).toInt
def zwr (x : Int) : Int := (Int32.ofInt x).toInt
def zi2b (x : Int) : Int := (Int32.ofInt x).toInt8.toInt32.toInt
def zlor (x y : Int) : Int := (Int64.ofInt x ||| Int64.ofInt y).toInt
def zlsl (x y : Int) : Int := (Int64.ofInt x <<< ((Int32.ofInt y).toInt64 &&& 63)).toInt
def zsw (x : Int) (K : Nat → Prop) (b : Nat) : Nat → List Nat → Prop
  | j, [] => (x < 0 ∨ (j : Int) ≤ x) → K b
  | j, t :: r => (x = (j : Int) → K t) ∧ zsw x K b (j + 1) r
/-- numbers as they are written -/
def zlitL : List (Nat × Nat) → Nat → (Nat → Prop) → Prop
  | [], _, _ => False
  | (m, q) :: r, n, f => bif Nat.beq m n then f q else zlitL r n f
def zlA : List (Nat × Nat) := [(1, 0), (2, 1), (3, 2), (4, 3), (5, 4), (6, 5), (7, 6), (8, 7), (9, 8), (10, 9), (11, 10), (12, 11), (13, 12), (14, 13), (15, 14), (16, 15), (17, 16), (18, 17), (19, 18), (20, 19), (21, 20), (22, 21), (23, 22), (24, 23), (25, 24)]
def zlB : List (Nat × Nat) := [(26, 25), (27, 26), (28, 27), (29, 28), (30, 29), (31, 30), (32, 31), (33, 32), (34, 33), (35, 34), (36, 35), (37, 36), (38, 37), (39, 38), (40, 39), (41, 40), (42, 41), (43, 42), (44, 43), (45, 44), (46, 45), (47, 46), (48, 47), (49, 48), (50, 49)]
def zlC : List (Nat × Nat) := [(51, 50), (52, 51), (53, 52), (54, 53), (55, 54), (56, 55), (57, 56), (58, 57), (59, 58), (60, 59), (61, 60), (62, 61), (63, 62), (64, 63), (65, 64), (66, 65), (67, 66), (68, 67), (69, 68), (70, 69), (71, 70), (72, 71), (73, 72), (74, 73), (75, 74)]
def zlD : List (Nat × Nat) := [(76, 75), (77, 76), (78, 77), (79, 78), (80, 79), (81, 80), (82, 81), (83, 82), (84, 83), (85, 84), (86, 85), (87, 86), (88, 87), (89, 88), (90, 89), (91, 90), (92, 91), (93, 92), (94, 93), (95, 94), (96, 95), (97, 96), (98, 97), (99, 98), (100, 99), (101, 100), (102, 101), (103, 102)]
def zlit (n : Nat) (f : Nat → Prop) : Prop := bif Nat.ble n 50 then (bif Nat.ble n 25 then zlitL zlA n f else zlitL zlB n f) else (bif Nat.ble n 75 then zlitL zlC n f else zlitL zlD n f)
theorem zlitL_ok {ps : List (Nat × Nat)} {n : Nat} {f : Nat → Prop} (hp : ps.all (fun a => Nat.beq a.1 (a.2 + 1)) = true) (h : zlitL ps n f) : ∃ q, n = q + 1 ∧ f q := by
  induction ps with
  | nil => exact h.elim
  | cons a r ih =>
    obtain ⟨m, p⟩ := a
    unfold zlitL at h
    rw [List.all_cons, Bool.and_eq_true] at hp
    cases hq : Nat.beq m n with
    | true =>
      rw [hq] at h
      exact ⟨p, (Nat.eq_of_beq_eq_true hq).symm.trans (Nat.eq_of_beq_eq_true hp.1), h⟩
    | false => rw [hq] at h; exact ih hp.2 h
theorem zlit_ok {n : Nat} {f : Nat → Prop} (h : zlit n f) : ∃ q, n = q + 1 ∧ f q := by
  unfold zlit at h
  cases h1 : Nat.ble n 50 with
  | true =>
    rw [h1] at h
    cases h2 : Nat.ble n 25 with
    | true => rw [h2] at h; exact zlitL_ok (ps := zlA) (by decide +kernel) h
    | false => rw [h2] at h; exact zlitL_ok (ps := zlB) (by decide +kernel) h
  | false =>
    rw [h1] at h
    cases h2 : Nat.ble n 75 with
    | true => rw [h2] at h; exact zlitL_ok (ps := zlC) (by decide +kernel) h
    | false => rw [h2] at h; exact zlitL_ok (ps := zlD) (by decide +kernel) h
abbrev zI2 : Type := Nat × Nat × Nat × Int × Nat × List Nat
/-- what an instruction does -/
def zst3 (f : zF) (e : zI2) (mc ms : Nat) (S : zS) (lo : List (Nat × zV)) (st : List zV) (K : Nat → Nat → zS → Nat → List (Nat × zV) → List zV → Prop) (Q : zR2 → zS → Prop) : Prop := match e with
  | (0, _, _, x, nx, _) => K mc ms S nx lo (.inl x :: st)
  | (1, a, _, _, nx, _) => zif (Nat.ble a 1000000) (K mc ms S nx lo (.inr (.inr (a : Int)) :: st))
  | (2, a, _, _, nx, _) => match zlkN lo a with
    | some (.inl x) => K mc ms S nx lo (.inl x :: st)
    | _ => False
  | (3, a, _, _, nx, _) => match zlkN lo a with
    | some (.inr (.inr x)) => K mc ms S nx lo (.inr (.inr x) :: st)
    | _ => False
  | (4, a, _, _, nx, _) => match zlkN lo a with
    | some (.inr (.inl x)) => K mc ms S nx lo (.inr (.inl x) :: st)
    | _ => False
  | (5, a, _, _, nx, _) => u1i st (fun x r => zif (Nat.blt a f.2.2.2.1) (K mc ms S nx (zupN lo a (.inl x)) r))
  | (6, a, _, _, nx, _) => u1l st (fun x r => zif (Nat.blt (a + 1) f.2.2.2.1) (K mc ms S nx (zupL lo a (.inr (.inr x))) r))
  | (7, a, _, _, nx, _) => u1r st (fun x r => zif (Nat.blt a f.2.2.2.1) (K mc ms S nx (zupN lo a (.inr (.inl x))) r))
  | (8, a, _, x, nx, _) => match zlkN lo a with
    | some (.inl y) => zif (Nat.blt a f.2.2.2.1) ((-2147483648 ≤ y + x ∧ y + x < 2147483648) ∧ K mc ms S nx (zupN lo a (.inl (y + x))) st)
    | _ => False
  | (9, 0, 0, _, nx, _) => u2i st (fun x y r => (-2147483648 ≤ x + y ∧ x + y < 2147483648) ∧ K mc ms S nx lo (.inl (x + y) :: r))
  | (9, 0, 1, _, nx, _) => u2i st (fun x y r => K mc ms S nx lo (.inl (zwr (x + y)) :: r))
  | (9, 1, _, _, nx, _) => u2i st (fun x y r => (-2147483648 ≤ x - y ∧ x - y < 2147483648) ∧ K mc ms S nx lo (.inl (x - y) :: r))
  | (9, 2, 0, _, nx, _) => u2i st (fun x y r => (-2147483648 ≤ x * y ∧ x * y < 2147483648) ∧ K mc ms S nx lo (.inl (x * y) :: r))
  | (9, 2, 1, _, nx, _) => u2i st (fun x y r => K mc ms S nx lo (.inl (zwr (x * y)) :: r))
  | (9, 3, _, _, nx, _) => u2i st (fun x y r => K mc ms S nx lo (.inl (zand x y) :: r))
  | (9, 4, _, _, nx, _) => u2i st (fun x y r => K mc ms S nx lo (.inl (zor x y) :: r))
  | (9, 5, _, _, nx, _) => u2i st (fun x y r => K mc ms S nx lo (.inl (zxor x y) :: r))
  | (9, 6, _, _, nx, _) => u2i st (fun x y r => K mc ms S nx lo (.inl (zshl x y) :: r))
  | (9, 7, _, _, nx, _) => u2i st (fun x y r => K mc ms S nx lo (.inl (zshr x y) :: r))
  | (9, 8, _, _, nx, _) => u2i st (fun x y r => K mc ms S nx lo (.inl (zush x y) :: r))
  | (9, 9, _, _, nx, _) => u2i st (fun x y r => (0 ≤ x ∧ 0 < y) ∧ K mc ms S nx lo (.inl (x / y) :: r))
  | (9, 10, _, _, nx, _) => u2i st (fun x y r => (0 ≤ x ∧ 0 < y) ∧ K mc ms S nx lo (.inl (x % y) :: r))
  | (10, 0, _, _, nx, _) => u1i st (fun x r => K mc ms S nx lo (.inr (.inr x) :: r))
  | (10, 1, _, _, nx, _) => u1i st (fun x r => K mc ms S nx lo (.inl (zi2b x) :: r))
  | (11, 0, _, _, nx, _) => u2l st (fun x y r => K mc ms S nx lo (.inr (.inr (zlor x y)) :: r))
  | (11, 1, _, _, nx, _) => u2l st (fun x y r => (-9223372036854775808 ≤ x - y ∧ x - y < 9223372036854775808) ∧ K mc ms S nx lo (.inr (.inr (x - y)) :: r))
  | (11, 2, _, _, nx, _) => u2l st (fun x y r => (x < y → K mc ms S nx lo (.inl (-1) :: r)) ∧ (x = y → K mc ms S nx lo (.inl 0 :: r)) ∧ (y < x → K mc ms S nx lo (.inl 1 :: r)))
  | (11, 3, _, _, nx, _) => uil st (fun x y r => K mc ms S nx lo (.inr (.inr (zlsl x y)) :: r))
  | (12, _, _, _, nx, _) => u1d st (fun v r => K mc ms S nx lo (v :: v :: r))
  | (13, _, _, _, nx, _) => uir st (fun x y r => K mc ms S nx lo (.inl y :: .inr (.inl x) :: .inl y :: .inr (.inl x) :: r))
  | (14, _, _, _, nx, _) => u1i st (fun _ r => K mc ms S nx lo r)
  | (15, _, _, _, nx, _) => K mc ms S nx lo st
  | (16, 0, b, _, nx, _) => u2i st (fun x y r => (x = y → K mc ms S b lo r) ∧ (¬ x = y → K mc ms S nx lo r))
  | (16, 1, b, _, nx, _) => u2i st (fun x y r => (x < y → K mc ms S b lo r) ∧ (¬ x < y → K mc ms S nx lo r))
  | (16, 2, b, _, nx, _) => u2i st (fun x y r => (y < x → K mc ms S b lo r) ∧ (¬ y < x → K mc ms S nx lo r))
  | (17, 0, b, _, nx, _) => u1i st (fun x r => (x = 0 → K mc ms S b lo r) ∧ (¬ x = 0 → K mc ms S nx lo r))
  | (17, 1, b, _, nx, _) => u1i st (fun x r => (x < 0 → K mc ms S b lo r) ∧ (¬ x < 0 → K mc ms S nx lo r))
  | (17, 2, b, _, nx, _) => u1i st (fun x r => (0 < x → K mc ms S b lo r) ∧ (¬ 0 < x → K mc ms S nx lo r))
  | (18, a, b, _, nx, _) => u1r st (fun c r => zif ((zLAY c).1 == 0 && (zLAY c).2 == a && Nat.blt c 1000) (match tyT a b with
    | .long => K mc ms S nx lo (.inr (.inr (S (c + 1000) b)) :: r)
    | .object _ => zlit (zR0 c b) (fun q => K mc ms S nx lo (.inr (.inl q) :: r))
    | .array _ => zlit (zR0 c b) (fun q => K mc ms S nx lo (.inr (.inl q) :: r))
    | _ => K mc ms S nx lo (.inl (S c b) :: r)))
  | (19, a, b, _, nx, _) => match tyT a b with
    | .int => uir st (fun c x r => zif ((zLAY c).1 == 0 && (zLAY c).2 == a && (Nat.blt c 1000 && !zfin a b)) (K mc ms (zu S c b x) nx lo r))
    | .boolean => uir st (fun c x r => zif ((zLAY c).1 == 0 && (zLAY c).2 == a && (Nat.blt c 1000 && !zfin a b)) ((x = 0 ∨ x = 1) ∧ K mc ms (zu S c b x) nx lo r))
    | .long => ulr st (fun c x r => zif ((zLAY c).1 == 0 && (zLAY c).2 == a && (Nat.blt c 1000 && !zfin a b)) (K mc ms (zu S (c + 1000) b x) nx lo r))
    | _ => False
  | (20, _, _, _, nx, _) => uir st (fun c i r => match zLAY c with
    | (1, n) => zif (Nat.blt c 1000) (∃ k : Nat, (i = (k : Int) ∧ k < n) ∧ K mc ms S nx lo (.inl (S c k) :: r))
    | _ => False)
  | (21, _, _, _, nx, _) => uiir st (fun c i x r => match zLAY c with
    | (1, n) => zif (Nat.blt c 1000) (∃ k : Nat, (i = (k : Int) ∧ k < n) ∧ K mc ms (zu S c k x) nx lo r)
    | _ => False)
  | (22, _, _, _, nx, _) => uir st (fun c i r => match zLAY c with
    | (2, n) => zif (Nat.blt c 1000) (∃ k : Nat, (i = (k : Int) ∧ k < n) ∧ K mc ms S nx lo (.inl (S c k) :: r))
    | _ => False)
  | (23, _, _, _, nx, _) => uiir st (fun c i x r => match zLAY c with
    | (2, n) => zif (Nat.blt c 1000) (∃ k : Nat, (i = (k : Int) ∧ k < n) ∧ K mc ms (zu S c k (zi2b x)) nx lo r)
    | _ => False)
  | (24, _, _, _, nx, _) => uir st (fun c i r => match zLAY c with
    | (3, n) => zif (Nat.blt c 1000) (∃ k : Nat, (i = (k : Int) ∧ k < n) ∧ K mc ms S nx lo (.inr (.inr (S (c + 1000) k)) :: r))
    | _ => False)
  | (25, _, _, _, nx, _) => ulir st (fun c i x r => match zLAY c with
    | (3, n) => zif (Nat.blt c 1000) (∃ k : Nat, (i = (k : Int) ∧ k < n) ∧ K mc ms (zu S (c + 1000) k x) nx lo r)
    | _ => False)
  | (26, _, _, _, nx, _) => u1r st (fun c r => match zLAY c with
    | (1, n) => zif (Nat.ble n 1000000) (K mc ms S nx lo (.inl (n : Int) :: r))
    | (2, n) => zif (Nat.ble n 1000000) (K mc ms S nx lo (.inl (n : Int) :: r))
    | _ => False)
  | (27, _, _, _, _, _) => u1i st (fun x r => match r with
    | [] => match f.2.2.1 with
      | some .int => Q (.inl (some (.inl x))) S
      | some .boolean => (x = 0 ∨ x = 1) ∧ Q (.inl (some (.inl x))) S
      | _ => False
    | _ => False)
  | (28, _, _, _, _, _) => u1l st (fun x r => match r with
    | [] => match f.2.2.1 with
      | some .long => Q (.inl (some (.inr (.inr x)))) S
      | _ => False
    | _ => False)
  | (29, _, _, _, _, _) => match st with
    | [] => match f.2.2.1 with
      | none => Q (.inl none) S
      | _ => False
    | _ => False
  | (32, _, b, _, _, ts) => u1i st (fun x r => zif (Nat.ble ts.length 1000000) (zsw x (fun pc => K mc ms S pc lo r) b 0 ts))
  | _ => False
def zdn (e : zI2) : zI := match e with
  | (9, a, _, x, nx, ts) => (9, a, 0, Int32.ofInt x, nx, ts)
  | (op, a, b, x, nx, ts) => (op, a, b, Int32.ofInt x, nx, ts)
theorem zto {x : Int} (h : zir x) : (Int32.ofInt x).toInt = x := Int32.toInt_ofInt_of_le (by have := h.1; omega) (by have := h.2; omega)
theorem ztl {x : Int} (h : zil x) : (Int64.ofInt x).toInt = x := Int64.toInt_ofInt_of_le (by have := h.1; omega) (by have := h.2; omega)
theorem zir_to (x : Int32) : zir x.toInt := ⟨by have := x.le_toInt; omega, by have := x.toInt_lt; omega⟩
theorem zil_to (x : Int64) : zil x.toInt := ⟨by have := x.le_toInt; omega, by have := x.toInt_lt; omega⟩
theorem zof_lt {x y : Int} (hx : zir x) (hy : zir y) : Int32.ofInt x < Int32.ofInt y ↔ x < y := by rw [Int32.lt_iff_toInt_lt, zto hx, zto hy]
theorem zof_eq {x y : Int} (hx : zir x) (hy : zir y) : Int32.ofInt x = Int32.ofInt y ↔ x = y := by rw [← Int32.toInt_inj, zto hx, zto hy]
theorem zof_0 : Int32.ofInt 0 = 0 := rfl
theorem zir_0 : zir 0 := ⟨by omega, by omega⟩
theorem zof_nat (k : Nat) : Int32.ofInt (k : Int) = nI k := Int32.ofInt_eq_ofNat
theorem zof_in {k n : Nat} (h : k < n) (hn : n < 2 ^ 31) : vp_in (Int32.ofInt (k : Int)) n ∧ (Int32.ofInt (k : Int)).toNatClampNeg = k := by
  rw [zof_nat]
  exact ⟨nI_in h hn, nI_clamp (by omega)⟩
theorem zof_in2 {k n : Nat} (h : k < n) (hk : (k : Int) < 2147483648) : vp_in (Int32.ofInt (k : Int)) n ∧ (Int32.ofInt (k : Int)).toNatClampNeg = k := by
  rw [zof_nat]
  have hk2 : k < 2 ^ 31 := by omega
  refine ⟨?_, nI_clamp hk2⟩
  intro z
  rcases z with z | z
  · exact nI_pos hk2 z
  · rw [nI_clamp hk2] at z; omega
theorem zof_div {x y : Int} (hx : zir x) (hy : zir y) (h0 : 0 ≤ x) (h1 : 0 < y) : Int32.ofInt x / Int32.ofInt y = Int32.ofInt (x / y) ∧ zir (x / y) := by
  obtain ⟨a, rfl⟩ := Int.eq_ofNat_of_zero_le h0
  obtain ⟨b, rfl⟩ := Int.eq_ofNat_of_zero_le (Int.le_of_lt h1)
  have ha : a < 2 ^ 31 := by have := hx.2; omega
  have hb : b < 2 ^ 31 := by have := hy.2; omega
  have hq : a / b ≤ a := Nat.div_le_self a b
  refine ⟨?_, ?_⟩
  · show _ = Int32.ofInt (((a / b : Nat)) : Int)
    rw [Int32.ofInt_eq_ofNat, Int32.ofInt_eq_ofNat, Int32.ofInt_eq_ofNat, Int32.ofNat_div ha hb]
  · show zir (((a / b : Nat)) : Int)
    generalize a / b = q at hq
    exact ⟨by omega, by omega⟩
theorem zof_mod {x y : Int} (hx : zir x) (hy : zir y) (h0 : 0 ≤ x) (h1 : 0 < y) : Int32.ofInt x - Int32.ofInt x / Int32.ofInt y * Int32.ofInt y = Int32.ofInt (x % y) ∧ zir (x % y) := by
  refine ⟨?_, ?_⟩
  · rw [(zof_div hx hy h0 h1).1, ← Int32.ofInt_mul, ← Int32.ofInt_sub]
    congr 1
    have := Int.mul_ediv_add_emod x y
    have e : x / y * y = y * (x / y) := Int.mul_comm _ _
    omega
  · have h2 := Int.emod_nonneg x (by omega : y ≠ 0)
    have h3 := Int.emod_lt_of_pos x h1
    exact ⟨by omega, by have := hy.2; omega⟩
theorem zev_I {M : zM} {S : zS} (h : zev M S) {c k : Nat} {x : Int} (hc : c < 1000) (hx : zir x) : zev (zsI M c k (Int32.ofInt x)) (zu S c k x) := by
  obtain ⟨h1, h2, h3, h4, h5⟩ := h
  refine ⟨h1, h2, h3, fun c' k' hc' => ?_, fun c' k' hc' => ?_⟩
  · show zir (bif c' == c && k' == k then x else S c' k') ∧ (bif c' == c && k' == k then Int32.ofInt x else M.2.2.2.1 c' k') = Int32.ofInt (bif c' == c && k' == k then x else S c' k')
    cases (c' == c && k' == k)
    · exact h4 c' k' hc'
    · exact ⟨hx, rfl⟩
  · show zil (bif c' + 1000 == c && k' == k then x else S (c' + 1000) k') ∧ M.2.2.2.2 c' k' = Int64.ofInt (bif c' + 1000 == c && k' == k then x else S (c' + 1000) k')
    rw [show (c' + 1000 == c) = false by simp; omega]
    exact h5 c' k' hc'
theorem zev_J {M : zM} {S : zS} (h : zev M S) {c k : Nat} {x : Int} (hc : c < 1000) (hx : zil x) : zev (zsJ M c k (Int64.ofInt x)) (zu S (c + 1000) k x) := by
  obtain ⟨h1, h2, h3, h4, h5⟩ := h
  refine ⟨h1, h2, h3, fun c' k' hc' => ?_, fun c' k' hc' => ?_⟩
  · show zir (bif c' == c + 1000 && k' == k then x else S c' k') ∧ M.2.2.2.1 c' k' = Int32.ofInt (bif c' == c + 1000 && k' == k then x else S c' k')
    rw [show (c' == c + 1000) = false by simp; omega]
    exact h4 c' k' hc'
  · show zil (bif c' + 1000 == c + 1000 && k' == k then x else S (c' + 1000) k') ∧ (bif c' == c && k' == k then Int64.ofInt x else M.2.2.2.2 c' k') = Int64.ofInt (bif c' + 1000 == c + 1000 && k' == k then x else S (c' + 1000) k')
    rw [show (c' + 1000 == c + 1000) = (c' == c) by simp]
    cases (c' == c && k' == k)
    · exact h5 c' k' hc'
    · exact ⟨hx, rfl⟩
theorem zall2 {v : zV} {st : List zV} (h : ∀ w ∈ v :: st, zok w) : zok v ∧ ∀ w ∈ st, zok w := List.forall_mem_cons.mp h
theorem zall1 {v : zV} {st : List zV} (h1 : zok v) (h : ∀ w ∈ st, zok w) : ∀ w ∈ v :: st, zok w := List.forall_mem_cons.mpr ⟨h1, h⟩
theorem zsw_ok {x : Int} {K : Nat → Prop} {b : Nat} : ∀ {ts : List Nat} {j : Nat}, zsw x K b j ts → (∀ k : Nat, k < ts.length → x = ((j + k : Nat) : Int) → K (zpick ts k b)) ∧ ((x < 0 ∨ ((j + ts.length : Nat) : Int) ≤ x) → K b) := by
  intro ts
  induction ts with
  | nil => intro j h; exact ⟨fun k hk => absurd hk (Nat.not_lt_zero k), h⟩
  | cons t r ih =>
    intro j h
    obtain ⟨h1, h2⟩ := ih h.2
    refine ⟨fun k hk hx => ?_, fun hx => h2 (by rw [List.length_cons] at hx; omega)⟩
    cases k with
    | zero => exact h.1 hx
    | succ k => exact h1 k (Nat.lt_of_succ_lt_succ hk) (by omega)
section
variable {l : Launch} {d mc ms : Nat} {f : zF} {S : zS} {lo : List (Nat × zV)} {st : List zV} {Q : zR2 → zS → Prop} {e : zI2} {K : Nat → Nat → zS → Nat → List (Nat × zV) → List zV → Prop}
set_option maxHeartbeats 4000000 in
theorem zst3_ok (hx : zir e.2.2.2.1) (h : zst3 f e mc ms S lo st K Q) (hK : ∀ mc ms S pc lo st, K mc ms S pc lo st → zGs l d mc ms f S pc lo st Q) {M : zM} (hM : zev M S) (hlo : ∀ q ∈ lo, zok q.2) (hst : ∀ v ∈ st, zok v) :
    zst d f (zdn e) mc ms M (zmp lo) (st.map zvv) (fun mc ms M pc lo st => zGo l d mc ms f M pc lo st (zQs Q)) (zQs Q) := by
  obtain ⟨m1, m2, m3, m4, m5⟩ := id hM
  have bit : ∀ {pc : Nat} {z : Int32} {r : List zV}, K mc ms S pc lo (.inl z.toInt :: r) → (∀ v ∈ r, zok v) → zGo l d mc ms f M pc (zmp lo) (.int z :: r.map zvv) (zQs Q) := by
    intro pc z r h hr
    have := hK _ _ _ _ _ _ h M hM hlo (zall1 (zir_to z) hr)
    have e : ((Sum.inl z.toInt :: r : List zV).map zvv) = .int z :: r.map zvv := by
      show Value.int (Int32.ofInt z.toInt) :: _ = _
      rw [Int32.ofInt_toInt]
    rw [e] at this
    exact this
  have bitl : ∀ {pc : Nat} {z : Int64} {r : List zV}, K mc ms S pc lo (.inr (.inr z.toInt) :: r) → (∀ v ∈ r, zok v) → zGo l d mc ms f M pc (zmp lo) (.long z :: r.map zvv) (zQs Q) := by
    intro pc z r h hr
    have := hK _ _ _ _ _ _ h M hM hlo (zall1 (zil_to z) hr)
    have e : ((Sum.inr (Sum.inr z.toInt) :: r : List zV).map zvv) = .long z :: r.map zvv := by
      show Value.long (Int64.ofInt z.toInt) :: _ = _
      rw [Int64.ofInt_toInt]
    rw [e] at this
    exact this
  have ari : ∀ {pc : Nat} {z : Int32} {w : Int} {r : List zV}, K mc ms S pc lo (.inl w :: r) → Int32.ofInt w = z → zir w → (∀ v ∈ r, zok v) → zGo l d mc ms f M pc (zmp lo) (.int z :: r.map zvv) (zQs Q) := by
    intro pc z w r h hz hw hr
    subst hz
    exact hK _ _ _ _ _ _ h M hM hlo (zall1 hw hr)
  unfold zst3 at h
  split at h
  case h_1 => exact hK _ _ _ _ _ _ h M hM hlo (zall1 hx hst)
  case h_2 a b x nx ts =>
    replace h := zif_ok h; obtain ⟨h1, h⟩ := h
    have h1 := Nat.ble_eq.mp h1
    have := hK _ _ _ _ _ _ h M hM hlo (zall1 (v := .inr (.inr (a : Int))) ⟨by omega, by omega⟩ hst)
    have e : ((Sum.inr (Sum.inr (a : Int)) :: st : List zV).map zvv) = .long (Int64.ofNat a) :: st.map zvv := by
      show Value.long (Int64.ofInt (a : Int)) :: _ = _
      rw [Int64.ofInt_eq_ofNat]
    rw [e] at this
    exact this
  case h_3 a _ _ nx _ =>
    split at h
    · rename_i x hl
      obtain ⟨h1, h2⟩ := zlkN_ok hl
      show (match zlk (zmp lo) a with | some (.int x) => _ | _ => False)
      rw [h1]
      exact hK _ _ _ _ _ _ h M hM hlo (zall1 (hlo _ h2) hst)
    · exact h.elim
  case h_4 a _ _ nx _ =>
    split at h
    · rename_i x hl
      obtain ⟨h1, h2⟩ := zlkN_ok hl
      show (match zlk (zmp lo) a with | some (.long x) => _ | _ => False)
      rw [h1]
      exact hK _ _ _ _ _ _ h M hM hlo (zall1 (hlo _ h2) hst)
    · exact h.elim
  case h_5 a _ _ nx _ =>
    split at h
    · rename_i x hl
      obtain ⟨h1, h2⟩ := zlkN_ok hl
      show (match zlk (zmp lo) a with | some (.ref x) => _ | _ => False)
      rw [h1]
      exact hK _ _ _ _ _ _ h M hM hlo (zall1 (hlo _ h2) hst)
    · exact h.elim
  case h_6 a _ _ nx _ =>
    replace h := u1i_ok h; obtain ⟨x, r, rfl, h⟩ := h
    replace h := zif_ok h; obtain ⟨h1, h⟩ := h
    obtain ⟨s1, s2⟩ := zall2 hst
    show zif (Nat.blt a f.2.2.2.1) (zGo l d mc ms f M nx (zup (zmp lo) a (zvv (.inl x))) (r.map zvv) (zQs Q))
    rw [h1, zupN_ok]
    exact hK _ _ _ _ _ _ h M hM (zupN_rng hlo s1) s2
  case h_7 a _ _ nx _ =>
    replace h := u1l_ok h; obtain ⟨x, r, rfl, h⟩ := h
    replace h := zif_ok h; obtain ⟨h1, h⟩ := h
    obtain ⟨s1, s2⟩ := zall2 hst
    show zif (Nat.blt (a + 1) f.2.2.2.1) (zGo l d mc ms f M nx (zup2 (zmp lo) a (zvv (.inr (.inr x)))) (r.map zvv) (zQs Q))
    rw [h1, zupL_ok]
    exact hK _ _ _ _ _ _ h M hM (zupL_rng hlo s1) s2
  case h_8 a _ _ nx _ =>
    replace h := u1r_ok h; obtain ⟨x, r, rfl, h⟩ := h
    replace h := zif_ok h; obtain ⟨h1, h⟩ := h
    obtain ⟨s1, s2⟩ := zall2 hst
    show zif (Nat.blt a f.2.2.2.1) (zGo l d mc ms f M nx (zup (zmp lo) a (zvv (.inr (.inl x)))) (r.map zvv) (zQs Q))
    rw [h1, zupN_ok]
    exact hK _ _ _ _ _ _ h M hM (zupN_rng hlo s1) s2
  case h_9 a _ x nx _ =>
    split at h
    · rename_i y hl
      obtain ⟨h1, h2⟩ := zlkN_ok hl
      replace h := zif_ok h; obtain ⟨h3, h4, h⟩ := h
      show (match zlk (zmp lo) a with | some (.int y) => zif (Nat.blt a f.2.2.2.1) (zGo l d mc ms f M nx (zup (zmp lo) a (.int (y + Int32.ofInt x))) (st.map zvv) (zQs Q)) | _ => False)
      rw [h1]
      show zif (Nat.blt a f.2.2.2.1) (zGo l d mc ms f M nx (zup (zmp lo) a (.int (Int32.ofInt y + Int32.ofInt x))) (st.map zvv) (zQs Q))
      rw [h3, ← Int32.ofInt_add]
      show zGo l d mc ms f M nx (zup (zmp lo) a (zvv (.inl (y + x)))) (st.map zvv) (zQs Q)
      rw [zupN_ok]
      exact hK _ _ _ _ _ _ h M hM (zupN_rng hlo h4) hst
    · exact h.elim
  case h_10 => replace h := u2i_ok h; obtain ⟨x, y, r, rfl, h1, h⟩ := h; exact ari h (Int32.ofInt_add x y) h1 (zall2 (zall2 hst).2).2
  case h_11 => replace h := u2i_ok h; obtain ⟨x, y, r, rfl, h⟩ := h; exact ari h (by unfold zwr; rw [Int32.ofInt_toInt]; exact Int32.ofInt_add x y) (zir_to _) (zall2 (zall2 hst).2).2
  case h_12 => replace h := u2i_ok h; obtain ⟨x, y, r, rfl, h1, h⟩ := h; exact ari h (Int32.ofInt_sub x y) h1 (zall2 (zall2 hst).2).2
  case h_13 => replace h := u2i_ok h; obtain ⟨x, y, r, rfl, h1, h⟩ := h; exact ari h (Int32.ofInt_mul x y) h1 (zall2 (zall2 hst).2).2
  case h_14 => replace h := u2i_ok h; obtain ⟨x, y, r, rfl, h⟩ := h; exact ari h (by unfold zwr; rw [Int32.ofInt_toInt]; exact Int32.ofInt_mul x y) (zir_to _) (zall2 (zall2 hst).2).2
  case h_15 => replace h := u2i_ok h; obtain ⟨x, y, r, rfl, h⟩ := h; exact bit h (zall2 (zall2 hst).2).2
  case h_16 => replace h := u2i_ok h; obtain ⟨x, y, r, rfl, h⟩ := h; exact bit h (zall2 (zall2 hst).2).2
  case h_17 => replace h := u2i_ok h; obtain ⟨x, y, r, rfl, h⟩ := h; exact bit h (zall2 (zall2 hst).2).2
  case h_18 => replace h := u2i_ok h; obtain ⟨x, y, r, rfl, h⟩ := h; exact bit h (zall2 (zall2 hst).2).2
  case h_19 => replace h := u2i_ok h; obtain ⟨x, y, r, rfl, h⟩ := h; exact bit h (zall2 (zall2 hst).2).2
  case h_20 => replace h := u2i_ok h; obtain ⟨x, y, r, rfl, h⟩ := h; exact bit h (zall2 (zall2 hst).2).2
  case h_21 =>
    replace h := u2i_ok h; obtain ⟨x, y, r, rfl, h1, h⟩ := h
    have sy := (zall2 hst).1
    have sx := (zall2 (zall2 hst).2).1
    obtain ⟨e1, e2⟩ := zof_div sx sy h1.1 h1.2
    refine ⟨fun z => ?_, ari h e1.symm e2 (zall2 (zall2 hst).2).2⟩
    exact absurd ((zof_eq sy zir_0).mp z) (by omega)
  case h_22 =>
    replace h := u2i_ok h; obtain ⟨x, y, r, rfl, h1, h⟩ := h
    have sy := (zall2 hst).1
    have sx := (zall2 (zall2 hst).2).1
    obtain ⟨e1, e2⟩ := zof_mod sx sy h1.1 h1.2
    refine ⟨fun z => ?_, ari h e1.symm e2 (zall2 (zall2 hst).2).2⟩
    exact absurd ((zof_eq sy zir_0).mp z) (by omega)
  case h_23 =>
    replace h := u1i_ok h; obtain ⟨x, r, rfl, h⟩ := h
    obtain ⟨s1, s2⟩ := zall2 hst
    have s1 : zir x := s1
    have := hK _ _ _ _ _ _ h M hM hlo (zall1 (v := .inr (.inr x)) ⟨by have := s1.1; omega, by have := s1.2; omega⟩ s2)
    have e : ((Sum.inr (Sum.inr x) :: r : List zV).map zvv) = .long (Int32.ofInt x).toInt64 :: r.map zvv := by
      show Value.long (Int64.ofInt x) :: _ = _
      congr 2
      refine Int64.toInt_inj.mp ?_
      rw [Int32.toInt_toInt64, zto s1, ztl ⟨by have := s1.1; omega, by have := s1.2; omega⟩]
    rw [e] at this
    exact this
  case h_24 => replace h := u1i_ok h; obtain ⟨x, r, rfl, h⟩ := h; exact bit h (zall2 hst).2
  case h_25 => replace h := u2l_ok h; obtain ⟨x, y, r, rfl, h⟩ := h; exact bitl h (zall2 (zall2 hst).2).2
  case h_26 =>
    replace h := u2l_ok h; obtain ⟨x, y, r, rfl, h1, h⟩ := h
    have := hK _ _ _ _ _ _ h M hM hlo (zall1 (v := .inr (.inr (x - y))) h1 (zall2 (zall2 hst).2).2)
    have e : ((Sum.inr (Sum.inr (x - y)) :: r : List zV).map zvv) = .long (Int64.ofInt x - Int64.ofInt y) :: r.map zvv := by
      show Value.long (Int64.ofInt (x - y)) :: _ = _
      rw [Int64.ofInt_sub]
    rw [e] at this
    exact this
  case h_27 =>
    replace h := u2l_ok h; obtain ⟨x, y, r, rfl, h1, h2, h3⟩ := h
    have sy : zil y := (zall2 hst).1
    have sx : zil x := (zall2 (zall2 hst).2).1
    have sr := (zall2 (zall2 hst).2).2
    show zGo l d mc ms f M _ (zmp lo) (.int (lg_cmp (Int64.ofInt x) (Int64.ofInt y)) :: r.map zvv) (zQs Q)
    unfold lg_cmp
    have c1 : Int64.ofInt x > Int64.ofInt y ↔ y < x := by show Int64.ofInt y < Int64.ofInt x ↔ _; rw [Int64.lt_iff_toInt_lt, ztl sx, ztl sy]
    have c2 : Int64.ofInt x = Int64.ofInt y ↔ x = y := by rw [← Int64.toInt_inj, ztl sx, ztl sy]
    by_cases g1 : y < x
    · rw [if_pos (c1.mpr g1)]
      exact ari (w := 1) (h3 g1) rfl ⟨by omega, by omega⟩ sr
    · rw [if_neg (fun z => g1 (c1.mp z))]
      by_cases g2 : x = y
      · rw [if_pos (c2.mpr g2)]
        exact ari (w := 0) (h2 g2) rfl ⟨by omega, by omega⟩ sr
      · rw [if_neg (fun z => g2 (c2.mp z))]
        exact ari (w := -1) (h1 (by omega)) rfl ⟨by omega, by omega⟩ sr
  case h_28 => replace h := uil_ok h; obtain ⟨x, y, r, rfl, h⟩ := h; exact bitl h (zall2 (zall2 hst).2).2
  case h_29 =>
    rcases u1d_ok h with ⟨x, r, rfl, h⟩ | ⟨x, r, rfl, h⟩
    · exact hK _ _ _ _ _ _ h M hM hlo (zall1 (zall2 hst).1 hst)
    · exact hK _ _ _ _ _ _ h M hM hlo (zall1 (zall2 hst).1 hst)
  case h_30 =>
    replace h := uir_ok h; obtain ⟨x, y, r, rfl, h⟩ := h
    exact hK _ _ _ _ _ _ h M hM hlo (zall1 (zall2 hst).1 (zall1 trivial hst))
  case h_31 => replace h := u1i_ok h; obtain ⟨x, r, rfl, h⟩ := h; exact hK _ _ _ _ _ _ h M hM hlo (zall2 hst).2
  case h_32 => exact hK _ _ _ _ _ _ h M hM hlo hst
  case h_33 =>
    replace h := u2i_ok h; obtain ⟨x, y, r, rfl, h1, h2⟩ := h
    have c := zof_eq (zall2 (zall2 hst).2).1 (zall2 hst).1
    exact ⟨fun z => hK _ _ _ _ _ _ (h1 (c.mp z)) M hM hlo (zall2 (zall2 hst).2).2, fun z => hK _ _ _ _ _ _ (h2 (fun w => z (c.mpr w))) M hM hlo (zall2 (zall2 hst).2).2⟩
  case h_34 =>
    replace h := u2i_ok h; obtain ⟨x, y, r, rfl, h1, h2⟩ := h
    have c := zof_lt (zall2 (zall2 hst).2).1 (zall2 hst).1
    exact ⟨fun z => hK _ _ _ _ _ _ (h1 (c.mp z)) M hM hlo (zall2 (zall2 hst).2).2, fun z => hK _ _ _ _ _ _ (h2 (fun w => z (c.mpr w))) M hM hlo (zall2 (zall2 hst).2).2⟩
  case h_35 =>
    replace h := u2i_ok h; obtain ⟨x, y, r, rfl, h1, h2⟩ := h
    have c := zof_lt (zall2 hst).1 (zall2 (zall2 hst).2).1
    exact ⟨fun z => hK _ _ _ _ _ _ (h1 (c.mp z)) M hM hlo (zall2 (zall2 hst).2).2, fun z => hK _ _ _ _ _ _ (h2 (fun w => z (c.mpr w))) M hM hlo (zall2 (zall2 hst).2).2⟩
  case h_36 =>
    replace h := u1i_ok h; obtain ⟨x, r, rfl, h1, h2⟩ := h
    have c := zof_eq (zall2 hst).1 zir_0
    exact ⟨fun z => hK _ _ _ _ _ _ (h1 (c.mp z)) M hM hlo (zall2 hst).2, fun z => hK _ _ _ _ _ _ (h2 (fun w => z (c.mpr w))) M hM hlo (zall2 hst).2⟩
  case h_37 =>
    replace h := u1i_ok h; obtain ⟨x, r, rfl, h1, h2⟩ := h
    have c := zof_lt (zall2 hst).1 zir_0
    exact ⟨fun z => hK _ _ _ _ _ _ (h1 (c.mp z)) M hM hlo (zall2 hst).2, fun z => hK _ _ _ _ _ _ (h2 (fun w => z (c.mpr w))) M hM hlo (zall2 hst).2⟩
  case h_38 =>
    replace h := u1i_ok h; obtain ⟨x, r, rfl, h1, h2⟩ := h
    have c := zof_lt zir_0 (zall2 hst).1
    exact ⟨fun z => hK _ _ _ _ _ _ (h1 (c.mp z)) M hM hlo (zall2 hst).2, fun z => hK _ _ _ _ _ _ (h2 (fun w => z (c.mpr w))) M hM hlo (zall2 hst).2⟩
  case h_39 a b _ nx _ =>
    replace h := u1r_ok h; obtain ⟨c, r, rfl, h⟩ := h
    replace h := zif_ok h; obtain ⟨g1, h⟩ := h
    simp only [Bool.and_eq_true, Nat.blt_eq] at g1
    obtain ⟨⟨g1, g2⟩, g3⟩ := g1
    have sr := (zall2 hst).2
    show zif (zisk M c 0 a) (zGo l d mc ms f M nx (zmp lo) (zfv M a c b :: r.map zvv) (zQs Q))
    have hk : zisk M c 0 a = true := by unfold zisk; rw [m2, g1, g2]; rfl
    rw [hk]
    show zGo l d mc ms f M nx (zmp lo) (zfv M a c b :: r.map zvv) (zQs Q)
    unfold zfv
    split at h
    · rename_i ht
      rw [ht]
      show zGo l d mc ms f M nx (zmp lo) (.long (M.2.2.2.2 c b) :: r.map zvv) (zQs Q)
      rw [(m5 c b g3).2]
      exact hK _ _ _ _ _ _ h M hM hlo (zall1 (v := .inr (.inr _)) (m5 c b g3).1 sr)
    · rename_i ht
      rw [ht]
      obtain ⟨q, hq, h⟩ := zlit_ok h
      show zGo l d mc ms f M nx (zmp lo) (zr (M.2.2.1 c b) :: r.map zvv) (zQs Q)
      rw [m3, hq]
      exact hK _ _ _ _ _ _ h M hM hlo (zall1 (v := .inr (.inl _)) trivial sr)
    · rename_i ht
      rw [ht]
      obtain ⟨q, hq, h⟩ := zlit_ok h
      show zGo l d mc ms f M nx (zmp lo) (zr (M.2.2.1 c b) :: r.map zvv) (zQs Q)
      rw [m3, hq]
      exact hK _ _ _ _ _ _ h M hM hlo (zall1 (v := .inr (.inl _)) trivial sr)
    · rename_i t1 t2 t3
      have et : zfv M a c b = .int (M.2.2.2.1 c b) := by
        unfold zfv
        split
        · rename_i z; exact absurd z t1
        · rename_i z; exact absurd z (t2 _)
        · rename_i z; exact absurd z (t3 _)
        · rfl
      show zGo l d mc ms f M nx (zmp lo) (zfv M a c b :: r.map zvv) (zQs Q)
      rw [et, (m4 c b g3).2]
      exact hK _ _ _ _ _ _ h M hM hlo (zall1 (v := .inl _) (m4 c b g3).1 sr)
  case h_40 a b _ nx _ =>
    show (match tyT a b with | .int => _ | .boolean => _ | .long => _ | .object _ => _ | .array _ => _ | _ => False)
    split at h
    · rename_i ht
      rw [ht]
      replace h := uir_ok h; obtain ⟨c, x, r, rfl, h⟩ := h
      replace h := zif_ok h; obtain ⟨g1, h⟩ := h
      simp only [Bool.and_eq_true, Nat.blt_eq] at g1
      obtain ⟨⟨g1, g2⟩, g3, g4⟩ := g1
      have sr := (zall2 (zall2 hst).2).2
      show zif (zisk M c 0 a && !zfin a b) (zGo l d mc ms f (zsI M c b (Int32.ofInt x)) nx (zmp lo) (r.map zvv) (zQs Q))
      have hk : zisk M c 0 a = true := by unfold zisk; rw [m2, g1, g2]; rfl
      rw [hk, g4]
      exact hK _ _ _ _ _ _ h _ (zev_I hM g3 (zall2 hst).1) hlo sr
    · rename_i ht
      rw [ht]
      replace h := uir_ok h; obtain ⟨c, x, r, rfl, h⟩ := h
      replace h := zif_ok h; obtain ⟨g1, g5, h⟩ := h
      simp only [Bool.and_eq_true, Nat.blt_eq] at g1
      obtain ⟨⟨g1, g2⟩, g3, g4⟩ := g1
      have sr := (zall2 (zall2 hst).2).2
      show zif (zisk M c 0 a && !zfin a b) ((Int32.ofInt x = 0 ∨ Int32.ofInt x = 1) ∧ zGo l d mc ms f (zsI M c b (Int32.ofInt x)) nx (zmp lo) (r.map zvv) (zQs Q))
      have hk : zisk M c 0 a = true := by unfold zisk; rw [m2, g1, g2]; rfl
      rw [hk, g4]
      refine ⟨?_, hK _ _ _ _ _ _ h _ (zev_I hM g3 (zall2 hst).1) hlo sr⟩
      rcases g5 with rfl | rfl
      · exact Or.inl rfl
      · exact Or.inr rfl
    · rename_i ht
      rw [ht]
      replace h := ulr_ok h; obtain ⟨c, x, r, rfl, h⟩ := h
      replace h := zif_ok h; obtain ⟨g1, h⟩ := h
      simp only [Bool.and_eq_true, Nat.blt_eq] at g1
      obtain ⟨⟨g1, g2⟩, g3, g4⟩ := g1
      have sr := (zall2 (zall2 hst).2).2
      show zif (zisk M c 0 a && !zfin a b) (zGo l d mc ms f (zsJ M c b (Int64.ofInt x)) nx (zmp lo) (r.map zvv) (zQs Q))
      have hk : zisk M c 0 a = true := by unfold zisk; rw [m2, g1, g2]; rfl
      rw [hk, g4]
      exact hK _ _ _ _ _ _ h _ (zev_J hM g3 (zall2 hst).1) hlo sr
    · exact h.elim
  case h_41 =>
    replace h := uir_ok h; obtain ⟨c, i, r, rfl, h⟩ := h
    split at h
    · rename_i n hn
      replace h := zif_ok h; obtain ⟨g1, k, ⟨rfl, g2⟩, h⟩ := h
      have g1 := Nat.blt_eq.mp g1
      have hk := zof_in2 g2 (zall2 hst).1.2
      have hn2 : M.2.1 c = (1, n) := by rw [m2]; exact hn
      show zif ((M.2.1 c).1 == 1) (vp_in (Int32.ofInt (k : Int)) (M.2.1 c).2 ∧ zGo l d mc ms f M _ (zmp lo) (.int (M.2.2.2.1 c (Int32.ofInt (k : Int)).toNatClampNeg) :: r.map zvv) (zQs Q))
      rw [hn2, hk.2, (m4 c k g1).2]
      exact ⟨hk.1, hK _ _ _ _ _ _ h M hM hlo (zall1 (v := .inl _) (m4 c k g1).1 (zall2 (zall2 hst).2).2)⟩
    · exact h.elim
  case h_42 =>
    replace h := uiir_ok h; obtain ⟨c, i, x, r, rfl, h⟩ := h
    split at h
    · rename_i n hn
      replace h := zif_ok h; obtain ⟨g1, k, ⟨rfl, g2⟩, h⟩ := h
      have g1 := Nat.blt_eq.mp g1
      have hk := zof_in2 g2 (zall2 (zall2 hst).2).1.2
      have hn2 : M.2.1 c = (1, n) := by rw [m2]; exact hn
      show zif ((M.2.1 c).1 == 1) (vp_in (Int32.ofInt (k : Int)) (M.2.1 c).2 ∧ zGo l d mc ms f (zsI M c (Int32.ofInt (k : Int)).toNatClampNeg (Int32.ofInt x)) _ (zmp lo) (r.map zvv) (zQs Q))
      rw [hn2, hk.2]
      exact ⟨hk.1, hK _ _ _ _ _ _ h _ (zev_I hM g1 (zall2 hst).1) hlo (zall2 (zall2 (zall2 hst).2).2).2⟩
    · exact h.elim
  case h_43 =>
    replace h := uir_ok h; obtain ⟨c, i, r, rfl, h⟩ := h
    split at h
    · rename_i n hn
      replace h := zif_ok h; obtain ⟨g1, k, ⟨rfl, g2⟩, h⟩ := h
      have g1 := Nat.blt_eq.mp g1
      have hk := zof_in2 g2 (zall2 hst).1.2
      have hn2 : M.2.1 c = (2, n) := by rw [m2]; exact hn
      show zif ((M.2.1 c).1 == 2) (vp_in (Int32.ofInt (k : Int)) (M.2.1 c).2 ∧ zGo l d mc ms f M _ (zmp lo) (.int (M.2.2.2.1 c (Int32.ofInt (k : Int)).toNatClampNeg) :: r.map zvv) (zQs Q))
      rw [hn2, hk.2, (m4 c k g1).2]
      exact ⟨hk.1, hK _ _ _ _ _ _ h M hM hlo (zall1 (v := .inl _) (m4 c k g1).1 (zall2 (zall2 hst).2).2)⟩
    · exact h.elim
  case h_44 =>
    replace h := uiir_ok h; obtain ⟨c, i, x, r, rfl, h⟩ := h
    split at h
    · rename_i n hn
      replace h := zif_ok h; obtain ⟨g1, k, ⟨rfl, g2⟩, h⟩ := h
      have g1 := Nat.blt_eq.mp g1
      have hk := zof_in2 g2 (zall2 (zall2 hst).2).1.2
      have hn2 : M.2.1 c = (2, n) := by rw [m2]; exact hn
      show zif ((M.2.1 c).1 == 2) (vp_in (Int32.ofInt (k : Int)) (M.2.1 c).2 ∧ zGo l d mc ms f (zsI M c (Int32.ofInt (k : Int)).toNatClampNeg (Int32.ofInt x).toInt8.toInt32) _ (zmp lo) (r.map zvv) (zQs Q))
      rw [hn2, hk.2]
      have e9 : (Int32.ofInt x).toInt8.toInt32 = Int32.ofInt (zi2b x) := by unfold zi2b; rw [Int32.ofInt_toInt]
      rw [e9]
      exact ⟨hk.1, hK _ _ _ _ _ _ h _ (zev_I hM g1 (zir_to _)) hlo (zall2 (zall2 (zall2 hst).2).2).2⟩
    · exact h.elim
  case h_45 =>
    replace h := uir_ok h; obtain ⟨c, i, r, rfl, h⟩ := h
    split at h
    · rename_i n hn
      replace h := zif_ok h; obtain ⟨g1, k, ⟨rfl, g2⟩, h⟩ := h
      have g1 := Nat.blt_eq.mp g1
      have hk := zof_in2 g2 (zall2 hst).1.2
      have hn2 : M.2.1 c = (3, n) := by rw [m2]; exact hn
      show zif ((M.2.1 c).1 == 3) (vp_in (Int32.ofInt (k : Int)) (M.2.1 c).2 ∧ zGo l d mc ms f M _ (zmp lo) (.long (M.2.2.2.2 c (Int32.ofInt (k : Int)).toNatClampNeg) :: r.map zvv) (zQs Q))
      rw [hn2, hk.2, (m5 c k g1).2]
      exact ⟨hk.1, hK _ _ _ _ _ _ h M hM hlo (zall1 (v := .inr (.inr _)) (m5 c k g1).1 (zall2 (zall2 hst).2).2)⟩
    · exact h.elim
  case h_46 =>
    replace h := ulir_ok h; obtain ⟨c, i, x, r, rfl, h⟩ := h
    split at h
    · rename_i n hn
      replace h := zif_ok h; obtain ⟨g1, k, ⟨rfl, g2⟩, h⟩ := h
      have g1 := Nat.blt_eq.mp g1
      have hk := zof_in2 g2 (zall2 (zall2 hst).2).1.2
      have hn2 : M.2.1 c = (3, n) := by rw [m2]; exact hn
      show zif ((M.2.1 c).1 == 3) (vp_in (Int32.ofInt (k : Int)) (M.2.1 c).2 ∧ zGo l d mc ms f (zsJ M c (Int32.ofInt (k : Int)).toNatClampNeg (Int64.ofInt x)) _ (zmp lo) (r.map zvv) (zQs Q))
      rw [hn2, hk.2]
      exact ⟨hk.1, hK _ _ _ _ _ _ h _ (zev_J hM g1 (zall2 hst).1) hlo (zall2 (zall2 (zall2 hst).2).2).2⟩
    · exact h.elim
  case h_47 =>
    replace h := u1r_ok h; obtain ⟨c, r, rfl, h⟩ := h
    split at h
    · rename_i n hn
      replace h := zif_ok h; obtain ⟨g1, h⟩ := h
      have g1 := Nat.ble_eq.mp g1
      have hn2 : M.2.1 c = (1, n) := by rw [m2]; exact hn
      show zif ((M.2.1 c).1 == 1 || (M.2.1 c).1 == 2) (zGo l d mc ms f M _ (zmp lo) (.int (Int32.ofNat (M.2.1 c).2) :: r.map zvv) (zQs Q))
      rw [hn2]
      exact ari h Int32.ofInt_eq_ofNat ⟨by omega, by omega⟩ (zall2 hst).2
    · rename_i n hn
      replace h := zif_ok h; obtain ⟨g1, h⟩ := h
      have g1 := Nat.ble_eq.mp g1
      have hn2 : M.2.1 c = (2, n) := by rw [m2]; exact hn
      show zif ((M.2.1 c).1 == 1 || (M.2.1 c).1 == 2) (zGo l d mc ms f M _ (zmp lo) (.int (Int32.ofNat (M.2.1 c).2) :: r.map zvv) (zQs Q))
      rw [hn2]
      exact ari h Int32.ofInt_eq_ofNat ⟨by omega, by omega⟩ (zall2 hst).2
    · exact h.elim
  case h_48 =>
    replace h := u1i_ok h; obtain ⟨x, r, rfl, h⟩ := h
    split at h
    · refine ⟨rfl, ?_⟩
      split at h
      · rename_i ht
        rw [ht]
        exact ⟨.inl (some (.inl x)), S, rfl, (zall2 hst).1, hM, h⟩
      · rename_i ht
        rw [ht]
        refine ⟨?_, ⟨.inl (some (.inl x)), S, rfl, (zall2 hst).1, hM, h.2⟩⟩
        rcases h.1 with rfl | rfl
        · exact Or.inl rfl
        · exact Or.inr rfl
      · exact h.elim
    · exact h.elim
  case h_49 =>
    replace h := u1l_ok h; obtain ⟨x, r, rfl, h⟩ := h
    split at h
    · refine ⟨rfl, ?_⟩
      split at h
      · rename_i ht
        rw [ht]
        exact ⟨.inl (some (.inr (.inr x))), S, rfl, (zall2 hst).1, hM, h⟩
      · exact h.elim
    · exact h.elim
  case h_50 =>
    split at h
    · split at h
      · rename_i ht
        exact ⟨rfl, ht, .inl none, S, rfl, trivial, hM, h⟩
      · exact h.elim
    · exact h.elim
  case h_51 b _ _ ts =>
    replace h := u1i_ok h; obtain ⟨x, r, rfl, h⟩ := h
    replace h := zif_ok h; obtain ⟨g1, h⟩ := h
    have g1 := Nat.ble_eq.mp g1
    obtain ⟨h1, h2⟩ := zsw_ok h
    have sx : zir x := (zall2 hst).1
    refine ⟨fun k hk hx2 => ?_, fun hx2 => ?_⟩
    · refine hK _ _ _ _ _ _ (h1 k hk ?_) M hM hlo (zall2 hst).2
      rw [Nat.zero_add]
      refine (zof_eq sx ⟨by omega, by omega⟩).mp ?_
      rw [Int32.ofInt_eq_ofNat (n := k)]
      exact hx2
    · refine hK _ _ _ _ _ _ (h2 ?_) M hM hlo (zall2 hst).2
      rw [Nat.zero_add]
      rcases hx2 with z | z
      · exact Or.inl ((zof_lt sx zir_0).mp z)
      · refine Or.inr (Int.not_lt.mp (fun w => ?_))
        have z2 := Int32.le_iff_toInt_le.mp z
        rw [← Int32.ofInt_eq_ofNat, zto ⟨by omega, by omega⟩, zto sx] at z2
        omega
  case h_52 => exact h.elim
end
end
section
/-! STEPS AND CALLS over integers -/
abbrev zO : Type := Nat → List zV → zS → (zR2 → zS → Prop) → Prop
/-- a call's row: its kind, which, how many arguments, depth, cells, slots, the receiver's class -/
abbrev zC : Type := Nat × Nat × Nat × Nat × Nat × Nat × Nat
abbrev zE : Type := zI2 ⊕ zC
def zsum : List zV → Nat
  | [] => 0
  | v :: r => zc2 v + zsum r
theorem zsum_ok (st : List zV) : ((st.map zvv).map Value.category).sum = zsum st := by
  induction st with
  | nil => rfl
  | cons v r ih =>
    show (((zvv v).category :: (r.map zvv).map Value.category).sum) = zc2 v + zsum r
    rw [List.sum_cons, ih, zc2_ok]
def zrq (d mc ms d' mc' ms' : Nat) (rest : List zV) : Bool := Nat.ble (d' + 1) d && (Nat.ble mc' mc && (Nat.ble ms' ms && Nat.ble (zsum rest) 8))
def zaf (r : zR2) (k1 : Option zV → Prop) (k2 : String → Prop) : Prop := match r with
  | .inl v => k1 v
  | .inr E => k2 E
def ucp (st : List zV) (k : Nat → Nat → Int → List zV → Prop) : Prop := match st with
  | .inl n :: .inl z1 :: .inr (.inl b) :: .inl z2 :: .inr (.inl a) :: r => (z1 = 0 ∧ z2 = 0) ∧ k a b n r
  | _ => False
theorem ucp_ok {st : List zV} {k : Nat → Nat → Int → List zV → Prop} (h : ucp st k) : ∃ a b n r, st = .inl n :: .inl 0 :: .inr (.inl b) :: .inl 0 :: .inr (.inl a) :: r ∧ k a b n r := by
  unfold ucp at h; split at h
  · obtain ⟨⟨rfl, rfl⟩, h⟩ := h
    exact ⟨_, _, _, _, rfl, h⟩
  · exact h.elim
def uvr (st : List zV) (k : Nat → List zV → Prop) : Prop := match st with
  | .inr (.inl o) :: r => k o r
  | _ => False
theorem uvr_ok {st : List zV} {k : Nat → List zV → Prop} (h : uvr st k) : ∃ o r, st = .inr (.inl o) :: r ∧ k o r := by
  unfold uvr at h; split at h
  · exact ⟨_, _, rfl, h⟩
  · exact h.elim
/-- a row copied, from its beginning -/
def zcpI (S : zS) (a b n : Nat) : zS := fun c j => bif c == b && Nat.blt j n then S a j else S c j
/-- what a call does -/
def zca (d : Nat) (orc : zO) (e : zC) (mc ms : Nat) (S : zS) (pc : Nat) (lo : List (Nat × zV)) (st : List zV) (K : Nat → Nat → zS → Nat → List (Nat × zV) → List zV → Prop) (Q : zR2 → zS → Prop) : Prop := match e with
  | (0, j, n, d', mc', ms', ci) => uvr (st.drop n) (fun o rest => zif ((zLAY o).1 == 0 && (zLAY o).2 == ci && zrq d mc ms d' mc' ms' rest) (orc j (.inr (.inl o) :: (st.take n).reverse) S (fun r S' => zaf r (fun v => K (mc - mc') (ms - ms') S' (pc + 3) lo (v.toList ++ rest)) (fun E => Q (.inr E) S'))))
  | (1, j, n, d', mc', ms', _) => zif (Nat.ble n st.length && zrq d mc ms d' mc' ms' (st.drop n)) (orc j (st.take n).reverse S (fun r S' => zaf r (fun v => K (mc - mc') (ms - ms') S' (pc + 3) lo (v.toList ++ st.drop n)) (fun E => Q (.inr E) S')))
  | (3, j, n, d', mc', ms', _) => zif (Nat.ble n st.length && zrq d mc ms d' mc' ms' (st.drop n)) (orc j (st.take n).reverse S (fun r S' => zaf r (fun v => K (mc - mc') (ms - ms') S' (pc + 3) lo (v.toList ++ st.drop n)) (fun _ => False)))
  | (5, _) => u2i st (fun x y r => zif (zrq d mc ms 0 0 0 r) (K mc ms S (pc + 3) lo (.inl (min x y) :: r)))
  | (6, _) => u2i st (fun x y r => zif (zrq d mc ms 0 0 0 r) (K mc ms S (pc + 3) lo (.inl (max x y) :: r)))
  | (7, _) => u1i st (fun x r => zif (zrq d mc ms 0 0 0 r) (-2147483648 < x ∧ K mc ms S (pc + 3) lo (.inl (x.natAbs : Int) :: r)))
  | (8, _) => ucp st (fun a b n r => zif (zrq d mc ms 0 0 0 r && (Nat.blt a 1000 && (Nat.blt b 1000 && !(a == b)))) (match zLAY a with
    | (1, la) => match zLAY b with
      | (1, lb) => ∃ k : Nat, (n = (k : Int) ∧ k ≤ la ∧ k ≤ lb) ∧ K mc ms (zcpI S a b k) (pc + 3) lo r
      | _ => False
    | _ => False))
  | (9, x, _, _, _, _, _) => zif (Nat.ble 6 d && (Nat.ble 1 mc && (Nat.ble 6 ms && Nat.ble (zsum st) 8))) (Q (.inr (zEx x)) S)
  | _ => False
/-- that a call's row is right -/
def zcok (l : Launch) (orc : zO) (f : zF) (pc : Nat) (e : zC) : Prop := match e with
  | (0, j, n, d', mc', ms', ci) => ∃ (idx : Nat) (y : MethodName) (cc : ByteArray) (nL : Nat) (ret : Option FieldType), decode f.2.1 pc = .ok (.invokevirtual idx, 3) ∧ Cond.methodLink (zown f.1) idx y ∈ zws ∧ zMth y (.code y cc nL ret) n ∧ Cond.instanceMethod y ∈ zws ∧ Cond.selects y.cls y y ∈ zws ∧ (zcl[ci]?).map (fun q => q.1) = some y.cls ∧ Nat.ble nL 18 = true ∧ ∀ a S Q, orc j a S Q → zRs l d' mc' ms' y (.code y cc nL ret) a S Q
  | (1, j, n, d', mc', ms', _) => ∃ (idx : Nat) (y : MethodName) (cc : ByteArray) (nL : Nat) (ret : Option FieldType), decode f.2.1 pc = .ok (.invokestatic idx, 3) ∧ Cond.methodLink (zown f.1) idx y ∈ zws ∧ zMth y (.code y cc nL ret) n ∧ Cond.static y ∈ zws ∧ Nat.ble nL 18 = true ∧ ∀ a S Q, orc j a S Q → zRs l d' mc' ms' y (.code y cc nL ret) a S Q
  | (3, j, n, d', mc', ms', _) => ∃ (idx : Nat) (y : MethodName) (cc : ByteArray) (nL : Nat) (ret : Option FieldType) (host : String), decode f.2.1 pc = .ok (.invokestatic idx, 3) ∧ Cond.methodLinkNest (zown f.1) idx y host ∈ zNest ∧ zMth y (.code y cc nL ret) n ∧ Cond.static y ∈ zws ∧ Nat.ble nL 18 = true ∧ ∀ a S Q, orc j a S Q → zRs l d' mc' ms' y (.code y cc nL ret) a S Q
  | (5, _) => zMa f pc Lib.Math.min.name
  | (6, _) => zMa f pc Lib.Math.max.name
  | (7, _) => zMa f pc Lib.Math.abs.name
  | (8, _) => zMa f pc arraycopyName
  | (9, x, w, ik, is, ic, _) => f.1 = 11 ∧ f.2.2.2.2.1 = [] ∧ Cond.classLink (zown f.1) ik (zEx x) ∈ zws ∧ (∃ (i : Nat) (q : String × Nat × String × List Int32), zTx[i]? = some q ∧ q.1 = zown f.1 ∧ q.2.1 = is) ∧ decode f.2.1 pc = .ok (.new ik, 3) ∧ decode f.2.1 (pc + 3) = .ok (.dup, 1) ∧
      ((w = 0 ∧ decode f.2.1 (pc + 4) = .ok (.ldc is, 2) ∧ decode f.2.1 (pc + 6) = .ok (.invokespecial ic, 3) ∧ decode f.2.1 (pc + 9) = .ok (.athrow, 1)) ∨ (w = 1 ∧ decode f.2.1 (pc + 4) = .ok (.ldc_w is, 3) ∧ decode f.2.1 (pc + 7) = .ok (.invokespecial ic, 3) ∧ decode f.2.1 (pc + 10) = .ok (.athrow, 1))) ∧ ((x = 0 ∧ ic = 131) ∨ (x = 1 ∧ ic = 178))
  | _ => False
theorem zrq_ok {d mc ms d' mc' ms' : Nat} {rest : List zV} (h : zrq d mc ms d' mc' ms' rest = true) : d' + 1 ≤ d ∧ mc' ≤ mc ∧ ms' ≤ ms ∧ zsum rest ≤ 8 := by
  unfold zrq at h
  simp only [Bool.and_eq_true, Nat.ble_eq] at h
  exact h
theorem zrq5 {d mc ms d' mc' ms' nL : Nat} {rest : List zV} (h : zrq d mc ms d' mc' ms' rest = true) (hn : Nat.ble nL 18 = true) : (Nat.ble (d' + 1) d && Nat.ble nL 18 && Nat.ble mc' mc && Nat.ble ms' ms && Nat.ble (((rest.map zvv).map Value.category).sum) 8) = true := by
  obtain ⟨h1, h2, h3, h4⟩ := zrq_ok h
  rw [zsum_ok]
  simp only [Bool.and_eq_true, Nat.ble_eq] at hn ⊢
  exact ⟨⟨⟨⟨h1, hn⟩, h2⟩, h3⟩, h4⟩
theorem zrq1 {d mc ms : Nat} {rest : List zV} (h : zrq d mc ms 0 0 0 rest = true) : (Nat.ble 1 d && Nat.ble (((rest.map zvv).map Value.category).sum) 8) = true := by
  obtain ⟨h1, h2, h3, h4⟩ := zrq_ok h
  rw [zsum_ok]
  simp only [Bool.and_eq_true, Nat.ble_eq]
  exact ⟨h1, h4⟩
theorem zev_cp {M : zM} {S : zS} (h : zev M S) {a b n : Nat} (ha : a < 1000) (hb : b < 1000) : zev (zcpM M a b n) (zcpI S a b n) := by
  obtain ⟨h1, h2, h3, h4, h5⟩ := h
  refine ⟨h1, h2, h3, fun c' k' hc' => ?_, fun c' k' hc' => ?_⟩
  · show zir (bif c' == b && Nat.blt k' n then S a k' else S c' k') ∧ (bif c' == b && Nat.blt k' n then M.2.2.2.1 a k' else M.2.2.2.1 c' k') = Int32.ofInt (bif c' == b && Nat.blt k' n then S a k' else S c' k')
    cases (c' == b && Nat.blt k' n)
    · exact h4 c' k' hc'
    · exact h4 a k' ha
  · show zil (bif c' + 1000 == b && Nat.blt k' n then S a k' else S (c' + 1000) k') ∧ M.2.2.2.2 c' k' = Int64.ofInt (bif c' + 1000 == b && Nat.blt k' n then S a k' else S (c' + 1000) k')
    rw [show (c' + 1000 == b) = false by simp; omega]
    exact h5 c' k' hc'
section
variable {l : Launch} {d mc ms : Nat} {f : zF} {S : zS} {pc : Nat} {lo : List (Nat × zV)} {st : List zV} {Q : zR2 → zS → Prop}
theorem zaf_res {v : Option Value} {M' : zM} {k1 : Option zV → zS → Prop} {k2 : String → zS → Prop} (h : zQs (fun r S' => zaf r (fun v => k1 v S') (fun E => k2 E S')) (.inl v) M') : ∃ w S', v = w.map zvv ∧ (∀ z ∈ w.toList, zok z) ∧ zev M' S' ∧ k1 w S' := by
  obtain ⟨r', S', h1, h2, h3, h4⟩ := h
  rcases r' with w | E
  · refine ⟨w, S', (Sum.inl.inj h1).symm, ?_, h3, h4⟩
    cases w with
    | none => intro z hz; cases hz
    | some w => intro z hz; rw [Option.toList_some, List.mem_singleton] at hz; rw [hz]; exact h2
  · cases h1
theorem zaf_ex {E : String} {M' : zM} {k1 : Option zV → zS → Prop} {k2 : String → zS → Prop} (h : zQs (fun r S' => zaf r (fun v => k1 v S') (fun E => k2 E S')) (.inr E) M') : ∃ S', zev M' S' ∧ k2 E S' := by
  obtain ⟨r', S', h1, h2, h3, h4⟩ := h
  rcases r' with w | E'
  · cases h1
  · cases h1; exact ⟨S', h3, h4⟩
theorem zrest {w : Option zV} {rest : List zV} : ((w.map zvv).toList ++ rest.map zvv) = (w.toList ++ rest).map zvv := by
  cases w <;> simp
theorem zrest_ok {w : Option zV} {rest : List zV} (h1 : ∀ z ∈ w.toList, zok z) (h2 : ∀ z ∈ rest, zok z) : ∀ z ∈ w.toList ++ rest, zok z := fun z hz => (List.mem_append.mp hz).elim (h1 z) (h2 z)
set_option maxHeartbeats 2000000 in
theorem zca_ok {orc : zO} {e : zC} {K : Nat → Nat → zS → Nat → List (Nat × zV) → List zV → Prop} (he : zcok l orc f pc e) (hh : f.2.2.2.2.1 = []) (h : zca d orc e mc ms S pc lo st K Q) (hK : ∀ mc ms S pc lo st, K mc ms S pc lo st → zGs l d mc ms f S pc lo st Q) : zGs l d mc ms f S pc lo st Q := by
  intro M hM hlo hst
  obtain ⟨m1, m2, m3, m4, m5⟩ := id hM
  unfold zca at h
  split at h
  case h_1 j n d' mc' ms' ci =>
    obtain ⟨o, rest, hs, h⟩ := uvr_ok h
    obtain ⟨h1, h⟩ := zif_ok h
    simp only [Bool.and_eq_true] at h1
    obtain ⟨⟨h1, h2⟩, h3⟩ := h1
    obtain ⟨idx, y, cc, nL, ret, e1, e2, e3, e4, e5, e6, e7, e8⟩ := he
    have hst2 : st = ((st.take n).reverse).reverse ++ .inr (.inl o) :: rest := by rw [List.reverse_reverse, ← hs, List.take_append_drop]
    have hn : ((st.take n).reverse.map zvv).length = n := by
      have hl : (st.drop n).length = rest.length + 1 := by rw [hs]; rfl
      rw [List.length_drop] at hl
      rw [List.length_map, List.length_reverse, List.length_take]
      omega
    have hst3 : st.map zvv = ((st.take n).reverse.map zvv).reverse ++ .ref o :: rest.map zvv := by
      conv => lhs; rw [hst2]
      rw [List.map_append, List.map_reverse]
      rfl
    have ha : ∀ v ∈ Sum.inr (Sum.inl o) :: (st.take n).reverse, zok v := by
      intro v hv
      rcases List.mem_cons.mp hv with rfl | hv
      · trivial
      · exact hst v (List.mem_of_mem_take (List.mem_reverse.mp hv))
    have hr : ∀ v ∈ rest, zok v := fun v hv => hst v (List.mem_of_mem_drop (by rw [hs]; exact List.mem_cons_of_mem _ hv))
    have hk : zisk M o 0 ci = true := by unfold zisk; rw [m2, h1, h2]; rfl
    refine zcallV d' mc' ms' e1 e2 e3 e4 e5 hst3 hk e6 hn (zrq5 h3 e7) hh (e8 _ _ _ h M hM ha) ?_ ?_
    · intro E M' hq
      obtain ⟨S', q1, q2⟩ := zaf_ex hq
      exact ⟨.inr E, S', rfl, trivial, q1, q2⟩
    · intro v M' hq
      obtain ⟨w, S', rfl, q1, q2, q3⟩ := zaf_res hq
      rw [zrest]
      exact hK _ _ _ _ _ _ q3 M' q2 hlo (zrest_ok q1 hr)
  case h_2 j n d' mc' ms' _ =>
    obtain ⟨h1, h⟩ := zif_ok h
    rw [Bool.and_eq_true] at h1
    have hlen := Nat.ble_eq.mp h1.1
    obtain ⟨idx, y, cc, nL, ret, e1, e2, e3, e4, e7, e8⟩ := he
    have hst3 : st.map zvv = ((st.take n).reverse.map zvv).reverse ++ (st.drop n).map zvv := by rw [List.map_reverse, List.reverse_reverse, ← List.map_append, List.take_append_drop]
    have hn : ((st.take n).reverse.map zvv).length = n := by
      rw [List.length_map, List.length_reverse, List.length_take]
      omega
    have ha : ∀ v ∈ (st.take n).reverse, zok v := fun v hv => hst v (List.mem_of_mem_take (List.mem_reverse.mp hv))
    have hr : ∀ v ∈ st.drop n, zok v := fun v hv => hst v (List.mem_of_mem_drop hv)
    refine zcallS d' mc' ms' e1 e2 e3 e4 hst3 hn (zrq5 h1.2 e7) hh (e8 _ _ _ h M hM ha) ?_ ?_
    · intro E M' hq
      obtain ⟨S', q1, q2⟩ := zaf_ex hq
      exact ⟨.inr E, S', rfl, trivial, q1, q2⟩
    · intro v M' hq
      obtain ⟨w, S', rfl, q1, q2, q3⟩ := zaf_res hq
      rw [zrest]
      exact hK _ _ _ _ _ _ q3 M' q2 hlo (zrest_ok q1 hr)
  case h_3 j n d' mc' ms' _ =>
    obtain ⟨h1, h⟩ := zif_ok h
    rw [Bool.and_eq_true] at h1
    have hlen := Nat.ble_eq.mp h1.1
    obtain ⟨idx, y, cc, nL, ret, host, e1, e2, e3, e4, e7, e8⟩ := he
    have hst3 : st.map zvv = ((st.take n).reverse.map zvv).reverse ++ (st.drop n).map zvv := by rw [List.map_reverse, List.reverse_reverse, ← List.map_append, List.take_append_drop]
    have hn : ((st.take n).reverse.map zvv).length = n := by
      rw [List.length_map, List.length_reverse, List.length_take]
      omega
    have ha : ∀ v ∈ (st.take n).reverse, zok v := fun v hv => hst v (List.mem_of_mem_take (List.mem_reverse.mp hv))
    have hr : ∀ v ∈ st.drop n, zok v := fun v hv => hst v (List.mem_of_mem_drop hv)
    refine zs_nest d' mc' ms' e1 e2 e3 e4 hst3 hn (zrq5 h1.2 e7) (e8 _ _ _ h M hM ha) ?_ ?_
    · intro E M' hq
      obtain ⟨S', q1, q2⟩ := zaf_ex (k2 := fun _ _ => False) hq
      exact q2
    · intro v M' hq
      obtain ⟨w, S', rfl, q1, q2, q3⟩ := zaf_res (k2 := fun _ _ => False) hq
      rw [zrest]
      exact hK _ _ _ _ _ _ q3 M' q2 hlo (zrest_ok q1 hr)
  case h_4 =>
    replace h := u2i_ok h
    obtain ⟨x, y, r, rfl, h⟩ := h
    obtain ⟨h1, h⟩ := zif_ok h
    have sy : zir y := (zall2 hst).1
    have sx : zir x := (zall2 (zall2 hst).2).1
    refine zs_min he (zrq1 h1) ?_
    have e9 : (if Int32.ofInt y < Int32.ofInt x then Int32.ofInt y else Int32.ofInt x) = Int32.ofInt (min x y) := by
      by_cases c : y < x
      · rw [if_pos ((zof_lt sy sx).mpr c), Int.min_eq_right (by omega)]
      · rw [if_neg (fun z => c ((zof_lt sy sx).mp z)), Int.min_eq_left (by omega)]
    rw [e9]
    exact hK _ _ _ _ _ _ h M hM hlo (zall1 (v := .inl (min x y)) ⟨by have := sx.1; have := sy.1; omega, by have := sx.2; omega⟩ (zall2 (zall2 hst).2).2)
  case h_5 =>
    replace h := u2i_ok h
    obtain ⟨x, y, r, rfl, h⟩ := h
    obtain ⟨h1, h⟩ := zif_ok h
    have sy : zir y := (zall2 hst).1
    have sx : zir x := (zall2 (zall2 hst).2).1
    refine zs_max he (zrq1 h1) ?_
    have e9 : (if Int32.ofInt x < Int32.ofInt y then Int32.ofInt y else Int32.ofInt x) = Int32.ofInt (max x y) := by
      by_cases c : x < y
      · rw [if_pos ((zof_lt sx sy).mpr c), Int.max_eq_right (by omega)]
      · rw [if_neg (fun z => c ((zof_lt sx sy).mp z)), Int.max_eq_left (by omega)]
    rw [e9]
    exact hK _ _ _ _ _ _ h M hM hlo (zall1 (v := .inl (max x y)) ⟨by have := sx.1; omega, by have := sx.2; have := sy.2; omega⟩ (zall2 (zall2 hst).2).2)
  case h_6 =>
    replace h := u1i_ok h
    obtain ⟨x, r, rfl, h⟩ := h
    obtain ⟨h1, h2, h⟩ := zif_ok h
    have sx : zir x := (zall2 hst).1
    refine zs_abs he (zrq1 h1) ?_
    have e9 : (if (0 : Int32) ≤ Int32.ofInt x then Int32.ofInt x else 0 - Int32.ofInt x) = Int32.ofInt (x.natAbs : Int) := by
      by_cases c : x < 0
      · rw [if_neg (fun z : (0 : Int32) ≤ Int32.ofInt x => absurd ((zof_lt sx zir_0).mpr c) (Int32.not_lt.mpr z))]
        show Int32.ofInt 0 - Int32.ofInt x = _
        rw [← Int32.ofInt_sub]
        congr 1
        omega
      · rw [if_pos (show (0 : Int32) ≤ Int32.ofInt x from Int32.not_lt.mp (fun z => c ((zof_lt sx zir_0).mp z)))]
        congr 1
        omega
    rw [e9]
    exact hK _ _ _ _ _ _ h M hM hlo (zall1 (v := .inl (x.natAbs : Int)) ⟨by omega, by have := sx.2; omega⟩ (zall2 hst).2)
  case h_7 =>
    replace h := ucp_ok h
    obtain ⟨a, b, n, r, rfl, h⟩ := h
    replace h := zif_ok h
    obtain ⟨h1, h⟩ := h
    simp only [Bool.and_eq_true, Nat.blt_eq] at h1
    obtain ⟨h1, h2, h3, h4⟩ := h1
    split at h
    · rename_i la hla
      split at h
      · rename_i lb hlb
        obtain ⟨k, ⟨hnk, h5, h6⟩, h⟩ := h
        subst hnk
        have sn : zir (k : Int) := (zall2 hst).1
        have hkn : (Int32.ofInt (k : Int)).toNatClampNeg = k := by rw [zof_nat]; exact nI_clamp (by have := sn.2; omega)
        refine zs_copy he (zrq1 h1) (by rw [m2, hla]; rfl) (by rw [m2, hlb]; rfl) h4 (by rw [zof_nat]; exact nI_pos (by have := sn.2; omega)) (by rw [hkn, m2, hla]; exact h5) (by rw [hkn, m2, hlb]; exact h6) ?_
        rw [hkn]
        exact hK _ _ _ _ _ _ h _ (zev_cp hM h2 h3) hlo (zall2 (zall2 (zall2 (zall2 (zall2 hst).2).2).2).2).2
      · exact h.elim
    · exact h.elim
  case h_8 x w ik is ic _ =>
    obtain ⟨h1, h⟩ := zif_ok h
    obtain ⟨e1, e2, e3, e4, e5, e6, e7, e8⟩ := he
    refine zs_throw e1 e2 e3 e4 e5 e6 e7 e8 (by rw [zsum_ok]; exact h1) ?_ ?_
    · rw [m2]
      have : ∀ c, 103 ≤ c → zLAY c = (9, 0) := by
        intro c hc
        unfold zLAY
        rw [show Nat.ble c 102 = false by
          cases hb : Nat.ble c 102
          · rfl
          · have := Nat.ble_eq.mp hb; omega]
        rfl
      rw [this _ m1]
    · exact ⟨.inr _, S, rfl, trivial, ⟨by show 103 ≤ M.1 + 1; omega, m2, m3, m4, m5⟩, h⟩
  case h_9 => exact h.elim
end
def zfs : List (Nat × zE) → Nat → Option (zE × List (Nat × zE))
  | [], _ => none
  | q :: r, i => bif Nat.beq q.1 i then some (q.2, r) else zfs r i
def znx (sf tb : List (Nat × zE)) (pc : Nat) : Option (zE × List (Nat × zE)) := match sf with
  | [] => zfs tb pc
  | q :: r => bif Nat.beq q.1 pc then some (q.2, r) else zfs tb pc
/-- the table is right -/
def zTok (l : Launch) (orc : zO) (f : zF) (q : Nat × zE) : Prop := match q.2 with
  | .inl e => zpre f.1 f.2.1 q.1 = some (zdn e) ∧ zir e.2.2.2.1
  | .inr e => zcok l orc f q.1 e
theorem zfs_ok {P : Nat × zE → Prop} : ∀ {tb : List (Nat × zE)} {pc : Nat} {e : zE} {r : List (Nat × zE)}, zfs tb pc = some (e, r) → (∀ q ∈ tb, P q) → P (pc, e) ∧ ∀ q ∈ r, P q := by
  intro tb
  induction tb with
  | nil => intro pc e r h; cases h
  | cons q s ih =>
    intro pc e r h hP
    unfold zfs at h
    cases hq : Nat.beq q.1 pc with
    | true =>
      rw [hq] at h
      have e1 := Nat.eq_of_beq_eq_true hq
      obtain ⟨rfl, rfl⟩ := Prod.mk.inj (Option.some.inj h)
      refine ⟨?_, fun x hx => hP x (List.mem_cons_of_mem _ hx)⟩
      rw [← e1]
      exact hP q List.mem_cons_self
    | false => rw [hq] at h; exact ih h (fun x hx => hP x (List.mem_cons_of_mem _ hx))
theorem znx_ok {P : Nat × zE → Prop} {sf tb : List (Nat × zE)} {pc : Nat} {e : zE} {r : List (Nat × zE)} (h : znx sf tb pc = some (e, r)) (h1 : ∀ q ∈ sf, P q) (h2 : ∀ q ∈ tb, P q) : P (pc, e) ∧ ∀ q ∈ r, P q := by
  unfold znx at h
  split at h
  · exact zfs_ok h h2
  · rename_i q s
    cases hq : Nat.beq q.1 pc with
    | true =>
      rw [hq] at h
      have e1 := Nat.eq_of_beq_eq_true hq
      obtain ⟨rfl, rfl⟩ := Prod.mk.inj (Option.some.inj h)
      refine ⟨?_, fun x hx => h1 x (List.mem_cons_of_mem _ hx)⟩
      rw [← e1]
      exact h1 q List.mem_cons_self
    | false => rw [hq] at h; exact zfs_ok h h2
/-- steps and calls, up to n, until a place of sp, or one that the table hasn't -/
def zwq (d : Nat) (f : zF) (tb : List (Nat × zE)) (orc : zO) (sp : List Nat) (K : Nat → Nat → zS → Nat → List (Nat × zV) → List zV → Prop) (Q : zR2 → zS → Prop) : Nat → List (Nat × zE) → Nat → Nat → zS → Nat → List (Nat × zV) → List zV → Prop
  | 0, _, mc, ms, S, pc, lo, st => K mc ms S pc lo st
  | n + 1, sf, mc, ms, S, pc, lo, st => match znx sf tb pc with
    | some (.inl e, r) => zst3 f e mc ms S lo st (fun mc ms S pc lo st => match sp.elem pc with
      | true => K mc ms S pc lo st
      | false => zwq d f tb orc sp K Q n r mc ms S pc lo st) Q
    | some (.inr e, r) => zca d orc e mc ms S pc lo st (fun mc ms S pc lo st => match sp.elem pc with
      | true => K mc ms S pc lo st
      | false => zwq d f tb orc sp K Q n r mc ms S pc lo st) Q
    | none => K mc ms S pc lo st
theorem zwq_ok {l : Launch} {d : Nat} {f : zF} {tb : List (Nat × zE)} {orc : zO} (htb : ∀ q ∈ tb, zTok l orc f q) (hh : f.2.2.2.2.1 = []) (sp : List Nat) {K : Nat → Nat → zS → Nat → List (Nat × zV) → List zV → Prop} {Q : zR2 → zS → Prop} (hK : ∀ mc ms S pc lo st, K mc ms S pc lo st → zGs l d mc ms f S pc lo st Q) (n : Nat) : ∀ {sf : List (Nat × zE)} {mc ms : Nat} {S : zS} {pc : Nat} {lo : List (Nat × zV)} {st : List zV}, (∀ q ∈ sf, zTok l orc f q) →
    zwq d f tb orc sp K Q n sf mc ms S pc lo st → zGs l d mc ms f S pc lo st Q := by
  induction n with
  | zero => intro sf mc ms S pc lo st hsf h; exact hK _ _ _ _ _ _ h
  | succ n ih =>
    intro sf mc ms S pc lo st hsf h
    unfold zwq at h
    split at h
    · rename_i e r he
      obtain ⟨h1, h2⟩ := znx_ok (P := zTok l orc f) he hsf htb
      intro M hM hlo hst
      refine z_step h1.1 (zst3_ok h1.2 h (fun mc ms S pc lo st h => ?_) hM hlo hst)
      split at h
      · exact hK _ _ _ _ _ _ h
      · exact ih h2 h
    · rename_i e r he
      obtain ⟨h1, h2⟩ := znx_ok (P := zTok l orc f) he hsf htb
      refine zca_ok h1 hh h (fun mc ms S pc lo st h => ?_)
      split at h
      · exact hK _ _ _ _ _ _ h
      · exact ih h2 h
    · exact hK _ _ _ _ _ _ h
/-- a method's contract, no handlers -/
theorem zsl_vv (a : List zV) : (lg_sl (a.map zvv)).length = zsum a := by
  induction a with
  | nil => rfl
  | cons v r ih =>
    have e : ∀ (a : Value) (as : List Value), lg_sl (a :: as) = (if a.category = 2 then [.val a, .second] else [.val a]) ++ lg_sl as := fun a as => rfl
    rw [List.map_cons, e, List.length_append, ih, zc2_ok]
    show _ = zc2 v + zsum r
    rcases v with z | k | x <;> rfl
def zar : Nat → List zV → List (Nat × zV)
  | _, [] => []
  | i, v :: r => (i, v) :: zar (i + zc2 v) r
theorem zar_ok (a : List zV) : ∀ i : Nat, lv_args i (a.map zvv) = zmp (zar i a) := by
  induction a with
  | nil => intro i; rfl
  | cons v r ih =>
    intro i
    show (i, zvv v) :: lv_args (if (zvv v).category = 2 then i + 2 else i + 1) (r.map zvv) = (i, zvv v) :: zmp (zar (i + zc2 v) r)
    rw [zc2_ok, ih]
    rcases v with z | k | x <;> rfl
theorem zar_mem (a : List zV) : ∀ (i : Nat), ∀ q ∈ zar i a, q.2 ∈ a := by
  induction a with
  | nil => intro i q hq; cases hq
  | cons v r ih =>
    intro i q hq
    rcases List.mem_cons.mp hq with rfl | hq
    · exact List.mem_cons_self
    · exact List.mem_cons_of_mem _ (ih _ q hq)
theorem zRs_of {l : Launch} {d mc ms nL : Nat} (o : Nat) {y : MethodName} {cc : ByteArray} {ret : Option FieldType} {a : List zV} {S : zS} {Q : zR2 → zS → Prop} (hy : plainName y.cls = true) (ho : zown o = y.cls) (hn : Nat.ble (zsum a) nL = true)
    (k : zGs l d mc ms (o, cc, ret, nL, [], false) S 0 (zar 0 a) [] Q) : zRs l d mc ms y (.code y cc nL ret) a S Q := by
  intro M hM ha
  refine zRet_of (ini := false) o hy ho (by rw [zsl_vv]; exact Nat.ble_eq.mp hn) (fun h => by cases h) ?_
  rw [zar_ok]
  exact k M hM (fun q hq => ha _ (zar_mem a 0 q hq)) (fun v hv => by cases hv)
theorem zGs.sub {l : Launch} {d mc ms : Nat} {f : zF} {S : zS} {pc : Nat} {lo lo' : List (Nat × zV)} {st : List zV} {Q : zR2 → zS → Prop} (h : zGs l d mc ms f S pc lo' st Q) (hs : ∀ q ∈ lo', q ∈ lo) : zGs l d mc ms f S pc lo st Q := by
  intro M hM hlo hst
  refine zGo.sub (h M hM (fun q hq => hlo q (hs q hq)) hst) (fun q hq => ?_)
  obtain ⟨q', hq', rfl⟩ := List.mem_map.mp hq
  exact List.mem_map.mpr ⟨q', hs q' hq', rfl⟩
/-- the ranges of a state and of locals are known -/
theorem zGs.rng {l : Launch} {d mc ms : Nat} {f : zF} {S : zS} {pc : Nat} {lo : List (Nat × zV)} {st : List zV} {Q : zR2 → zS → Prop} (h : (∀ c k, c < 1000 → zir (S c k)) → (∀ q ∈ lo, zok q.2) → zGs l d mc ms f S pc lo st Q) : zGs l d mc ms f S pc lo st Q :=
  fun M hM hlo hst => h (fun c k hc => (hM.2.2.2.1 c k hc).1) hlo M hM hlo hst
theorem zRs.rng {l : Launch} {d mc ms : Nat} {y : MethodName} {cd : Cond} {a : List zV} {S : zS} {Q : zR2 → zS → Prop} (h : (∀ c k, c < 1000 → zir (S c k)) → (∀ v ∈ a, zok v) → zRs l d mc ms y cd a S Q) : zRs l d mc ms y cd a S Q :=
  fun M hM ha => h (fun c k hc => (hM.2.2.2.1 c k hc).1) ha M hM ha
end
section
/-! TABLES CHECKED; BITS of ints that are not negative -/
def zspI : List (Nat × zE) → List (Nat × zI)
  | [] => []
  | (pc, .inl e) :: r => (pc, zdn e) :: zspI r
  | (_, .inr _) :: r => zspI r
def zspC : List (Nat × zE) → List (Nat × zC)
  | [] => []
  | (_, .inl _) :: r => zspC r
  | (pc, .inr e) :: r => (pc, e) :: zspC r
def zspR : List (Nat × zE) → Bool
  | [] => true
  | (_, .inl e) :: r => decide (-2147483648 ≤ e.2.2.2.1) && (decide (e.2.2.2.1 < 2147483648) && zspR r)
  | (_, .inr _) :: r => zspR r
theorem zU_ok {l : Launch} {orc : zO} {f : zF} {U : List (Nat × zE)} : ∀ {T : List (Nat × zI)} {B : List (Nat × zC)}, zspI U = T → zspC U = B → zspR U = true → ztbok f T → (∀ q ∈ B, zcok l orc f q.1 q.2) → ∀ q ∈ U, zTok l orc f q := by
  induction U with
  | nil => intro T B _ _ _ _ _ q hq; cases hq
  | cons u r ih =>
    intro T B h1 h2 h3 h4 h5 q hq
    obtain ⟨pc, e⟩ := u
    rcases e with e | e
    · subst h1
      have h3 : (decide (-2147483648 ≤ e.2.2.2.1) && (decide (e.2.2.2.1 < 2147483648) && zspR r)) = true := h3
      simp only [Bool.and_eq_true, decide_eq_true_eq] at h3
      rcases List.mem_cons.mp hq with rfl | hq
      · exact ⟨h4 (pc, zdn e) List.mem_cons_self, h3.1, h3.2.1⟩
      · exact ih rfl h2 h3.2.2 (fun x hx => h4 x (List.mem_cons_of_mem _ hx)) h5 q hq
    · subst h2
      rcases List.mem_cons.mp hq with rfl | hq
      · exact h5 (pc, e) List.mem_cons_self
      · exact ih h1 rfl h3 h4 (fun x hx => h5 x (List.mem_cons_of_mem _ hx)) q hq
theorem zir_n {a : Nat} (h : a < 2147483648) : zir (a : Int) := ⟨by omega, by omega⟩
theorem nI_to {a : Nat} (h : a < 2147483648) : (nI a).toInt = (a : Int) := nI_toInt h
theorem nx_and (a b : Nat) : nI a &&& nI b = nI (a &&& b) := by
  apply Int32.toBitVec_inj.mp
  show BitVec.ofNat 32 a &&& BitVec.ofNat 32 b = BitVec.ofNat 32 (a &&& b)
  exact BitVec.ofNat_and.symm
theorem nx_xor (a b : Nat) : nI a ^^^ nI b = nI (a ^^^ b) := by
  apply Int32.toBitVec_inj.mp
  show BitVec.ofNat 32 a ^^^ BitVec.ofNat 32 b = BitVec.ofNat 32 (a ^^^ b)
  exact BitVec.ofNat_xor.symm
theorem s_l : ∀ n, n < 32 → ((nI n &&& 31).toBitVec.smod 32).toNat = n := by decide +kernel
theorem s_u : ∀ n, n < 32 → (((nI n).toUInt32 &&& Int32.toUInt32 31).toBitVec % 32).toNat = n := by decide +kernel
theorem zbv {x : Int32} {n : Nat} (h : x.toBitVec.toNat = n) (hn : n < 2147483648) : x.toInt = (n : Int) := by
  show x.toBitVec.toInt = _
  rw [BitVec.toInt_eq_toNat_of_lt (by omega), h]
theorem nI_bv {a : Nat} (ha : a < 2147483648) : (nI a).toBitVec.toNat = a := by
  show (BitVec.ofNat 32 a).toNat = a
  rw [BitVec.toNat_ofNat]
  omega
theorem zand_n {a b : Nat} (ha : a < 2147483648) : zand (a : Int) (b : Int) = ((a &&& b : Nat) : Int) := by
  unfold zand
  rw [zof_nat, zof_nat, nx_and]
  exact nI_to (Nat.lt_of_le_of_lt Nat.and_le_left ha)
theorem zand_n2 {a b : Nat} (hb : b < 2147483648) : zand (a : Int) (b : Int) = ((a &&& b : Nat) : Int) := by
  unfold zand
  rw [zof_nat, zof_nat, nx_and]
  exact nI_to (Nat.lt_of_le_of_lt Nat.and_le_right hb)
theorem nx_or (a b : Nat) : nI a ||| nI b = nI (a ||| b) := by
  apply Int32.toBitVec_inj.mp
  show (Int32.ofNat a ||| Int32.ofNat b).toBitVec = (Int32.ofNat (a ||| b)).toBitVec
  rw [Int32.toBitVec_or]
  show BitVec.ofNat 32 a ||| BitVec.ofNat 32 b = BitVec.ofNat 32 (a ||| b)
  exact BitVec.ofNat_or.symm
theorem zor_n {a b : Nat} (ha : a < 2147483648) (hb : b < 2147483648) : zor (a : Int) (b : Int) = ((a ||| b : Nat) : Int) := by
  unfold zor
  rw [zof_nat, zof_nat, nx_or]
  exact nI_to (Nat.or_lt_two_pow (n := 31) ha hb)
theorem zxor_n {a b : Nat} (ha : a < 2147483648) (hb : b < 2147483648) : zxor (a : Int) (b : Int) = ((a ^^^ b : Nat) : Int) := by
  unfold zxor
  rw [zof_nat, zof_nat, nx_xor]
  exact nI_to (Nat.xor_lt_two_pow (n := 31) ha hb)
theorem zshl_n {a k : Nat} (hk : k < 32) (h : a * 2 ^ k < 2147483648) : zshl (a : Int) (k : Int) = ((a * 2 ^ k : Nat) : Int) := by
  unfold zshl
  rw [zof_nat, zof_nat]
  have ha : a < 2147483648 := Nat.lt_of_le_of_lt (Nat.le_mul_of_pos_right a (Nat.two_pow_pos k)) h
  refine zbv ?_ h
  show ((nI a).toBitVec <<< ((nI k &&& 31).toBitVec.smod 32)).toNat = _
  rw [BitVec.shiftLeft_eq', s_l k hk, BitVec.toNat_shiftLeft, nI_bv ha, Nat.shiftLeft_eq]
  omega
theorem zshr_n {a k : Nat} (ha : a < 2147483648) (hk : k < 32) : zshr (a : Int) (k : Int) = ((a / 2 ^ k : Nat) : Int) := by
  unfold zshr
  rw [zof_nat, zof_nat]
  refine zbv ?_ (Nat.lt_of_le_of_lt (Nat.div_le_self _ _) ha)
  show ((nI a).toBitVec.sshiftRight' ((nI k &&& 31).toBitVec.smod 32)).toNat = _
  show ((nI a).toBitVec.sshiftRight ((nI k &&& 31).toBitVec.smod 32).toNat).toNat = _
  rw [s_l k hk, BitVec.toNat_sshiftRight_of_msb_false, nI_bv ha, Nat.shiftRight_eq_div_pow]
  rw [BitVec.msb_eq_decide, nI_bv ha]
  simp
  omega
theorem zush_n {a k : Nat} (ha : a < 2147483648) (hk : k < 32) : zush (a : Int) (k : Int) = ((a / 2 ^ k : Nat) : Int) := by
  unfold zush
  rw [zof_nat, zof_nat]
  refine zbv ?_ (Nat.lt_of_le_of_lt (Nat.div_le_self _ _) ha)
  show ((nI a).toBitVec >>> (((nI k).toUInt32 &&& Int32.toUInt32 31).toBitVec % 32)).toNat = _
  rw [BitVec.ushiftRight_eq', s_u k hk, BitVec.toNat_ushiftRight, nI_bv ha, Nat.shiftRight_eq_div_pow]
/-- the bit j of a, as a number -/
def bt1 (a j : Nat) : Nat := a / 2 ^ j % 2
theorem bt1_lt (a j : Nat) : bt1 a j < 2 := Nat.mod_lt _ (by decide)
theorem zbit_n {a j : Nat} (ha : a < 2147483648) (hj : j < 32) : zand (zshr (a : Int) (j : Int)) 1 = ((bt1 a j : Nat) : Int) := by
  rw [zshr_n ha hj]
  have := zand_n2 (a := a / 2 ^ j) (b := 1) (by decide)
  rw [show ((1 : Nat) : Int) = 1 from rfl] at this
  rw [this, Nat.and_one_is_mod]
  rfl
theorem zubit_n {a j : Nat} (ha : a < 2147483648) (hj : j < 32) : zand (zush (a : Int) (j : Int)) 1 = ((bt1 a j : Nat) : Int) := by
  rw [zush_n ha hj]
  have := zand_n2 (a := a / 2 ^ j) (b := 1) (by decide)
  rw [show ((1 : Nat) : Int) = 1 from rfl] at this
  rw [this, Nat.and_one_is_mod]
  rfl
theorem zsh1_n {k : Nat} (hk : k < 31) : zshl 1 (k : Int) = ((2 ^ k : Nat) : Int) := by
  have := zshl_n (a := 1) (k := k) (by omega) (by
    have : 2 ^ k ≤ 2 ^ 30 := Nat.pow_le_pow_right (by decide) (by omega)
    omega)
  rw [Nat.one_mul] at this
  exact this
end
section
/-! Plan, Affairs, Doors -/
def B_X6_doings : List (Nat × zC) := []
def O_X6_doings : zO := fun j a S K => match j with
  | _ => False
theorem E_X6_doings (l : Launch) : ∀ q ∈ B_X6_doings, zcok l O_X6_doings F_X6_doings q.1 q.2 := fun _ h => by cases h
def U_X6_doings : List (Nat × zE) := [(0, Sum.inl (4, 0, 0, 0, 1, [])), (1, Sum.inl (18, 6, 5, 0, 4, [])), (4, Sum.inl (2, 1, 0, 0, 5, [])), (5, Sum.inl (0, 0, 0, 24, 7, [])), (7, Sum.inl (9, 2, 0, 0, 8, [])), (8, Sum.inl (2, 2, 0, 0, 9, [])), (9, Sum.inl (9, 0, 0, 0, 10, [])), (10, Sum.inl (20, 0, 0, 0, 11, [])), (11, Sum.inl (5, 3, 0, 0, 12, [])), (12, Sum.inl (2, 3, 0, 0, 13, [])), (13, Sum.inl (17, 0, 16, 0, 20, [])), (16, Sum.inl (0, 0, 0, 1, 17, [])), (17, Sum.inl (15, 0, 0, 0, 21, [])), (20, Sum.inl (2, 3, 0, 0, 21, [])), (21, Sum.inl (27, 0, 0, 0, 22, []))]
theorem Z_X6_doings (l : Launch) : ∀ q ∈ U_X6_doings, zTok l O_X6_doings F_X6_doings q := zU_ok rfl rfl rfl K_X6_doings (E_X6_doings l)
def wp_X6_doings (a : List zV) (S : zS) (K : zR2 → zS → Prop) : Prop := zif (Nat.ble (zsum a) 4) (zwq 0 F_X6_doings U_X6_doings O_X6_doings [] (fun _ _ _ _ _ _ => False) K 16 U_X6_doings 0 0 S 0 (zar 0 a) [])
theorem R_X6_doings (l : Launch) (a : List zV) (S : zS) (Q : zR2 → zS → Prop) (h : wp_X6_doings a S Q) : zRs l 0 0 0 yX6_doings (.code yX6_doings cX6_doings 4 (some .int)) a S Q := by
  obtain ⟨h1, h⟩ := zif_ok h
  exact zRs_of 6 (by decide) rfl h1 (zwq_ok (Z_X6_doings l) rfl [] (fun _ _ _ _ _ _ h => h.elim) 16 (Z_X6_doings l) h)
def B_X6_lawFor : List (Nat × zC) := []
def O_X6_lawFor : zO := fun j a S K => match j with
  | _ => False
theorem E_X6_lawFor (l : Launch) : ∀ q ∈ B_X6_lawFor, zcok l O_X6_lawFor F_X6_lawFor q.1 q.2 := fun _ h => by cases h
def U_X6_lawFor : List (Nat × zE) := [(0, Sum.inl (2, 1, 0, 0, 1, [])), (1, Sum.inl (17, 1, 18, 0, 4, [])), (4, Sum.inl (2, 1, 0, 0, 5, [])), (5, Sum.inl (0, 0, 0, 3, 6, [])), (6, Sum.inl (16, 2, 18, 0, 9, [])), (9, Sum.inl (4, 0, 0, 0, 10, [])), (10, Sum.inl (18, 6, 6, 0, 13, [])), (13, Sum.inl (2, 1, 0, 0, 14, [])), (14, Sum.inl (20, 0, 0, 0, 15, [])), (15, Sum.inl (15, 0, 0, 0, 24, [])), (18, Sum.inl (4, 0, 0, 0, 19, [])), (19, Sum.inl (18, 6, 6, 0, 22, [])), (22, Sum.inl (0, 0, 0, 0, 23, [])), (23, Sum.inl (20, 0, 0, 0, 24, [])), (24, Sum.inl (27, 0, 0, 0, 25, []))]
theorem Z_X6_lawFor (l : Launch) : ∀ q ∈ U_X6_lawFor, zTok l O_X6_lawFor F_X6_lawFor q := zU_ok rfl rfl rfl K_X6_lawFor (E_X6_lawFor l)
def wp_X6_lawFor (a : List zV) (S : zS) (K : zR2 → zS → Prop) : Prop := zif (Nat.ble (zsum a) 2) (zwq 0 F_X6_lawFor U_X6_lawFor O_X6_lawFor [] (fun _ _ _ _ _ _ => False) K 16 U_X6_lawFor 0 0 S 0 (zar 0 a) [])
theorem R_X6_lawFor (l : Launch) (a : List zV) (S : zS) (Q : zR2 → zS → Prop) (h : wp_X6_lawFor a S Q) : zRs l 0 0 0 yX6_lawFor (.code yX6_lawFor cX6_lawFor 2 (some .int)) a S Q := by
  obtain ⟨h1, h⟩ := zif_ok h
  exact zRs_of 6 (by decide) rfl h1 (zwq_ok (Z_X6_lawFor l) rfl [] (fun _ _ _ _ _ _ h => h.elim) 16 (Z_X6_lawFor l) h)
def B_X0_doing : List (Nat × zC) := []
def O_X0_doing : zO := fun j a S K => match j with
  | _ => False
theorem E_X0_doing (l : Launch) : ∀ q ∈ B_X0_doing, zcok l O_X0_doing F_X0_doing q.1 q.2 := fun _ h => by cases h
def U_X0_doing : List (Nat × zE) := [(0, Sum.inl (4, 0, 0, 0, 1, [])), (1, Sum.inl (18, 0, 4, 0, 4, [])), (4, Sum.inl (2, 1, 0, 0, 5, [])), (5, Sum.inl (0, 0, 0, 24, 7, [])), (7, Sum.inl (9, 2, 0, 0, 8, [])), (8, Sum.inl (2, 2, 0, 0, 9, [])), (9, Sum.inl (9, 0, 0, 0, 10, [])), (10, Sum.inl (20, 0, 0, 0, 11, [])), (11, Sum.inl (27, 0, 0, 0, 12, []))]
theorem Z_X0_doing (l : Launch) : ∀ q ∈ U_X0_doing, zTok l O_X0_doing F_X0_doing q := zU_ok rfl rfl rfl K_X0_doing (E_X0_doing l)
def wp_X0_doing (a : List zV) (S : zS) (K : zR2 → zS → Prop) : Prop := zif (Nat.ble (zsum a) 3) (zwq 0 F_X0_doing U_X0_doing O_X0_doing [] (fun _ _ _ _ _ _ => False) K 10 U_X0_doing 0 0 S 0 (zar 0 a) [])
theorem R_X0_doing (l : Launch) (a : List zV) (S : zS) (Q : zR2 → zS → Prop) (h : wp_X0_doing a S Q) : zRs l 0 0 0 yX0_doing (.code yX0_doing cX0_doing 3 (some .int)) a S Q := by
  obtain ⟨h1, h⟩ := zif_ok h
  exact zRs_of 0 (by decide) rfl h1 (zwq_ok (Z_X0_doing l) rfl [] (fun _ _ _ _ _ _ h => h.elim) 10 (Z_X0_doing l) h)
def B_X0_shoeKinds : List (Nat × zC) := []
def O_X0_shoeKinds : zO := fun j a S K => match j with
  | _ => False
theorem E_X0_shoeKinds (l : Launch) : ∀ q ∈ B_X0_shoeKinds, zcok l O_X0_shoeKinds F_X0_shoeKinds q.1 q.2 := fun _ h => by cases h
def U_X0_shoeKinds : List (Nat × zE) := [(0, Sum.inl (4, 0, 0, 0, 1, [])), (1, Sum.inl (18, 0, 3, 0, 4, [])), (4, Sum.inl (2, 1, 0, 0, 5, [])), (5, Sum.inl (0, 0, 0, 2, 6, [])), (6, Sum.inl (9, 2, 0, 0, 7, [])), (7, Sum.inl (20, 0, 0, 0, 8, [])), (8, Sum.inl (17, 2, 11, 0, 15, [])), (11, Sum.inl (0, 0, 0, 1, 12, [])), (12, Sum.inl (15, 0, 0, 0, 16, [])), (15, Sum.inl (0, 0, 0, 0, 16, [])), (16, Sum.inl (5, 2, 0, 0, 17, [])), (17, Sum.inl (4, 0, 0, 0, 18, [])), (18, Sum.inl (18, 0, 3, 0, 21, [])), (21, Sum.inl (2, 1, 0, 0, 22, [])), (22, Sum.inl (0, 0, 0, 2, 23, [])), (23, Sum.inl (9, 2, 0, 0, 24, [])), (24, Sum.inl (0, 0, 0, 1, 25, [])), (25, Sum.inl (9, 0, 0, 0, 26, [])), (26, Sum.inl (20, 0, 0, 0, 27, [])), (27, Sum.inl (17, 2, 30, 0, 34, [])), (30, Sum.inl (0, 0, 0, 2, 31, [])), (31, Sum.inl (15, 0, 0, 0, 35, [])), (34, Sum.inl (0, 0, 0, 0, 35, [])), (35, Sum.inl (5, 3, 0, 0, 36, [])), (36, Sum.inl (2, 2, 0, 0, 37, [])), (37, Sum.inl (2, 3, 0, 0, 38, [])), (38, Sum.inl (9, 4, 0, 0, 39, [])), (39, Sum.inl (27, 0, 0, 0, 40, []))]
theorem Z_X0_shoeKinds (l : Launch) : ∀ q ∈ U_X0_shoeKinds, zTok l O_X0_shoeKinds F_X0_shoeKinds q := zU_ok rfl rfl rfl K_X0_shoeKinds (E_X0_shoeKinds l)
def wp_X0_shoeKinds (a : List zV) (S : zS) (K : zR2 → zS → Prop) : Prop := zif (Nat.ble (zsum a) 4) (zwq 0 F_X0_shoeKinds U_X0_shoeKinds O_X0_shoeKinds [] (fun _ _ _ _ _ _ => False) K 29 U_X0_shoeKinds 0 0 S 0 (zar 0 a) [])
theorem R_X0_shoeKinds (l : Launch) (a : List zV) (S : zS) (Q : zR2 → zS → Prop) (h : wp_X0_shoeKinds a S Q) : zRs l 0 0 0 yX0_shoeKinds (.code yX0_shoeKinds cX0_shoeKinds 4 (some .int)) a S Q := by
  obtain ⟨h1, h⟩ := zif_ok h
  exact zRs_of 0 (by decide) rfl h1 (zwq_ok (Z_X0_shoeKinds l) rfl [] (fun _ _ _ _ _ _ h => h.elim) 29 (Z_X0_shoeKinds l) h)
def B_X3_signOf : List (Nat × zC) := [(5, (0, 0, 1, 0, 0, 0, 6)), (13, (0, 1, 1, 0, 0, 0, 0))]
def O_X3_signOf : zO := fun j a S K => match j with
  | 0 => wp_X6_lawFor a S K
  | 1 => wp_X0_shoeKinds a S K
  | _ => False
theorem E_X3_signOf (l : Launch) : ∀ q ∈ B_X3_signOf, zcok l O_X3_signOf F_X3_signOf q.1 q.2 := List.forall_mem_cons.mpr ⟨⟨19, yX6_lawFor, cX6_lawFor, 2, some .int, by decide +kernel, C_3_19, W_X6_lawFor, I_X6_lawFor, S_X6_lawFor, rfl, rfl, R_X6_lawFor l⟩, List.forall_mem_cons.mpr ⟨⟨25, yX0_shoeKinds, cX0_shoeKinds, 4, some .int, by decide +kernel, C_3_25, W_X0_shoeKinds, I_X0_shoeKinds, S_X0_shoeKinds, rfl, rfl, R_X0_shoeKinds l⟩, fun _ h => by cases h⟩⟩
def U_X3_signOf : List (Nat × zE) := [(0, Sum.inl (4, 0, 0, 0, 1, [])), (1, Sum.inl (18, 3, 0, 0, 4, [])), (4, Sum.inl (2, 2, 0, 0, 5, [])), (5, Sum.inr (0, 0, 1, 0, 0, 0, 6)), (8, Sum.inl (4, 0, 0, 0, 9, [])), (9, Sum.inl (18, 3, 1, 0, 12, [])), (12, Sum.inl (2, 1, 0, 0, 13, [])), (13, Sum.inr (0, 1, 1, 0, 0, 0, 0)), (16, Sum.inl (9, 3, 0, 0, 17, [])), (17, Sum.inl (27, 0, 0, 0, 18, []))]
theorem Z_X3_signOf (l : Launch) : ∀ q ∈ U_X3_signOf, zTok l O_X3_signOf F_X3_signOf q := zU_ok rfl rfl rfl K_X3_signOf (E_X3_signOf l)
def wp_X3_signOf (a : List zV) (S : zS) (K : zR2 → zS → Prop) : Prop := zif (Nat.ble (zsum a) 3) (zwq 1 F_X3_signOf U_X3_signOf O_X3_signOf [] (fun _ _ _ _ _ _ => False) K 11 U_X3_signOf 0 0 S 0 (zar 0 a) [])
theorem R_X3_signOf (l : Launch) (a : List zV) (S : zS) (Q : zR2 → zS → Prop) (h : wp_X3_signOf a S Q) : zRs l 1 0 0 yX3_signOf (.code yX3_signOf cX3_signOf 3 (some .int)) a S Q := by
  obtain ⟨h1, h⟩ := zif_ok h
  exact zRs_of 3 (by decide) rfl h1 (zwq_ok (Z_X3_signOf l) rfl [] (fun _ _ _ _ _ _ h => h.elim) 11 (Z_X3_signOf l) h)
def B_X3_signAt : List (Nat × zC) := [(27, (0, 0, 2, 0, 0, 0, 0)), (30, (0, 1, 2, 1, 0, 0, 3))]
def O_X3_signAt : zO := fun j a S K => match j with
  | 0 => wp_X0_doing a S K
  | 1 => wp_X3_signOf a S K
  | _ => False
theorem E_X3_signAt (l : Launch) : ∀ q ∈ B_X3_signAt, zcok l O_X3_signAt F_X3_signAt q.1 q.2 := List.forall_mem_cons.mpr ⟨⟨34, yX0_doing, cX0_doing, 3, some .int, by decide +kernel, C_3_34, W_X0_doing, I_X0_doing, S_X0_doing, rfl, rfl, R_X0_doing l⟩, List.forall_mem_cons.mpr ⟨⟨38, yX3_signOf, cX3_signOf, 3, some .int, by decide +kernel, C_3_38, W_X3_signOf, I_X3_signOf, S_X3_signOf, rfl, rfl, R_X3_signOf l⟩, fun _ h => by cases h⟩⟩
def U_X3_signAt : List (Nat × zE) := [(0, Sum.inl (4, 0, 0, 0, 1, [])), (1, Sum.inl (18, 3, 0, 0, 4, [])), (4, Sum.inl (18, 6, 1, 0, 7, [])), (7, Sum.inl (2, 1, 0, 0, 8, [])), (8, Sum.inl (20, 0, 0, 0, 9, [])), (9, Sum.inl (5, 3, 0, 0, 10, [])), (10, Sum.inl (2, 3, 0, 0, 11, [])), (11, Sum.inl (0, 0, 0, (-1), 12, [])), (12, Sum.inl (16, 0, 15, 0, 19, [])), (15, Sum.inl (0, 0, 0, 3, 16, [])), (16, Sum.inl (15, 0, 0, 0, 33, [])), (19, Sum.inl (4, 0, 0, 0, 20, [])), (20, Sum.inl (2, 3, 0, 0, 21, [])), (21, Sum.inl (4, 0, 0, 0, 22, [])), (22, Sum.inl (18, 3, 1, 0, 25, [])), (25, Sum.inl (2, 3, 0, 0, 26, [])), (26, Sum.inl (2, 2, 0, 0, 27, [])), (27, Sum.inr (0, 0, 2, 0, 0, 0, 0)), (30, Sum.inr (0, 1, 2, 1, 0, 0, 3)), (33, Sum.inl (27, 0, 0, 0, 34, []))]
theorem Z_X3_signAt (l : Launch) : ∀ q ∈ U_X3_signAt, zTok l O_X3_signAt F_X3_signAt q := zU_ok rfl rfl rfl K_X3_signAt (E_X3_signAt l)
def wp_X3_signAt (a : List zV) (S : zS) (K : zR2 → zS → Prop) : Prop := zif (Nat.ble (zsum a) 4) (zwq 2 F_X3_signAt U_X3_signAt O_X3_signAt [] (fun _ _ _ _ _ _ => False) K 21 U_X3_signAt 0 0 S 0 (zar 0 a) [])
theorem R_X3_signAt (l : Launch) (a : List zV) (S : zS) (Q : zR2 → zS → Prop) (h : wp_X3_signAt a S Q) : zRs l 2 0 0 yX3_signAt (.code yX3_signAt cX3_signAt 4 (some .int)) a S Q := by
  obtain ⟨h1, h⟩ := zif_ok h
  exact zRs_of 3 (by decide) rfl h1 (zwq_ok (Z_X3_signAt l) rfl [] (fun _ _ _ _ _ _ h => h.elim) 21 (Z_X3_signAt l) h)
theorem tst_lawFor (S : zS) (x : Nat) (hx : x < 4) (K : zR2 → zS → Prop) (h : K (.inl (some (.inl (S 10 x)))) S) : wp_X6_lawFor [.inr (.inl 3), .inl (x : Int)] S K := by
  refine ⟨fun c => by omega, fun c => ⟨fun c2 => by omega, fun c2 => ⟨x, ⟨rfl, by omega⟩, h⟩⟩⟩
theorem tst_signAt (S : zS) (r hh t a : Nat) (hr : r < 8) (ht : t < 6) (h24 : hh < 24) (e1 : S 5 r = t) (ha : a < 4) (e2 : S 25 (t * 24 + hh) = a) (K : zR2 → zS → Prop) (h : K (.inl (some (.inl (zand (S 10 a) (zor 1 2))))) S) (h1 : 0 < S 24 (t * 2)) (h2 : 0 < S 24 (t * 2 + 1)) : wp_X3_signAt [.inr (.inl 36), .inl (r : Int), .inl (hh : Int)] S K := by
  refine ⟨r, ⟨rfl, by omega⟩, fun c => ?_, fun c => ?_⟩
  · omega
  · refine ⟨by omega, by omega, t * 24 + hh, ⟨by omega, by omega⟩, ?_⟩
    refine ⟨fun c => by omega, fun c => ⟨fun c2 => by omega, fun c2 => ⟨a, ⟨by omega, by omega⟩, ?_⟩⟩⟩
    refine ⟨by omega, t * 2, ⟨by omega, by omega⟩, fun c => ?_, fun c => ?_⟩
    · refine ⟨by omega, by omega, t * 2 + 1, ⟨by omega, by omega⟩, fun c => ?_, fun c => ?_⟩
      · exact h
      · omega
    · omega
end
