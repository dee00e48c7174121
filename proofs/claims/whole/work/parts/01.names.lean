-- ===== PART A: goes FIRST, ahead of the names: the tables' words, and 'selects' of the private methods out of them =====
/-- a private method of a class that the tables say can be made, by its rows of tables_1 -/
def lw_okq (q : MethodName × Nat) : Prop := (q.1.cls ≠ "java/lang/invoke/MethodHandle" ∧ q.1.cls ≠ "java/lang/invoke/VarHandle") ∧ Cond.instantiable q.1.cls q.2 ∈ tables_1 ∧ Cond.privateMethod q.1 ∈ tables_1 ∧ Cond.instanceMethod q.1 ∈ tables_1
theorem lw_p0 : lw_okq (⟨"CastGallery$Reader", "look", "()V"⟩, 8) := ⟨⟨by decide +kernel, by decide +kernel⟩, List.mem_of_getElem? (i := 26) (by decide +kernel), List.mem_of_getElem? (i := 343) (by decide +kernel), List.mem_of_getElem? (i := 344) (by decide +kernel)⟩
theorem lw_p1 : lw_okq (⟨"CastGallery$Reader", "lookAtLetters", "()V"⟩, 8) := ⟨⟨by decide +kernel, by decide +kernel⟩, List.mem_of_getElem? (i := 26) (by decide +kernel), List.mem_of_getElem? (i := 350) (by decide +kernel), List.mem_of_getElem? (i := 351) (by decide +kernel)⟩
theorem lw_p2 : lw_okq (⟨"CastGallery$Reader", "lookAtNumber", "()V"⟩, 8) := ⟨⟨by decide +kernel, by decide +kernel⟩, List.mem_of_getElem? (i := 26) (by decide +kernel), List.mem_of_getElem? (i := 357) (by decide +kernel), List.mem_of_getElem? (i := 358) (by decide +kernel)⟩
theorem lw_p3 : lw_okq (⟨"CastGallery$Reader", "readsItem", "()Z"⟩, 8) := ⟨⟨by decide +kernel, by decide +kernel⟩, List.mem_of_getElem? (i := 26) (by decide +kernel), List.mem_of_getElem? (i := 364) (by decide +kernel), List.mem_of_getElem? (i := 365) (by decide +kernel)⟩
theorem lw_p4 : lw_okq (⟨"CastGallery$Reader", "fitsThing", "(I)Z"⟩, 8) := ⟨⟨by decide +kernel, by decide +kernel⟩, List.mem_of_getElem? (i := 26) (by decide +kernel), List.mem_of_getElem? (i := 368) (by decide +kernel), List.mem_of_getElem? (i := 369) (by decide +kernel)⟩
theorem lw_p5 : lw_okq (⟨"CastGallery$Reader", "fitsCast", "(I)Z"⟩, 8) := ⟨⟨by decide +kernel, by decide +kernel⟩, List.mem_of_getElem? (i := 26) (by decide +kernel), List.mem_of_getElem? (i := 376) (by decide +kernel), List.mem_of_getElem? (i := 377) (by decide +kernel)⟩
theorem lw_p6 : lw_okq (⟨"CastGallery$Hall", "attend", "(II)V"⟩, 2) := ⟨⟨by decide +kernel, by decide +kernel⟩, List.mem_of_getElem? (i := 125) (by decide +kernel), List.mem_of_getElem? (i := 477) (by decide +kernel), List.mem_of_getElem? (i := 478) (by decide +kernel)⟩
theorem lw_p7 : lw_okq (⟨"CastGallery$Hall", "stepTo", "(II)I"⟩, 2) := ⟨⟨by decide +kernel, by decide +kernel⟩, List.mem_of_getElem? (i := 125) (by decide +kernel), List.mem_of_getElem? (i := 529) (by decide +kernel), List.mem_of_getElem? (i := 530) (by decide +kernel)⟩
theorem lw_p8 : lw_okq (⟨"CastGallery$Planner", "learnable", "(I)I"⟩, 3) := ⟨⟨by decide +kernel, by decide +kernel⟩, List.mem_of_getElem? (i := 236) (by decide +kernel), List.mem_of_getElem? (i := 559) (by decide +kernel), List.mem_of_getElem? (i := 560) (by decide +kernel)⟩
theorem lw_p9 : lw_okq (⟨"CastGallery$Planner", "sumOver", "([II)I"⟩, 3) := ⟨⟨by decide +kernel, by decide +kernel⟩, List.mem_of_getElem? (i := 236) (by decide +kernel), List.mem_of_getElem? (i := 568) (by decide +kernel), List.mem_of_getElem? (i := 569) (by decide +kernel)⟩
theorem lw_p10 : lw_okq (⟨"CastGallery$Planner", "isWhole", "(II)Z"⟩, 3) := ⟨⟨by decide +kernel, by decide +kernel⟩, List.mem_of_getElem? (i := 236) (by decide +kernel), List.mem_of_getElem? (i := 591) (by decide +kernel), List.mem_of_getElem? (i := 592) (by decide +kernel)⟩
theorem lw_p11 : lw_okq (⟨"CastGallery$Owners", "mostFrom", "(II)I"⟩, 3) := ⟨⟨by decide +kernel, by decide +kernel⟩, List.mem_of_getElem? (i := 252) (by decide +kernel), List.mem_of_getElem? (i := 605) (by decide +kernel), List.mem_of_getElem? (i := 606) (by decide +kernel)⟩
theorem lw_p12 : lw_okq (⟨"CastGallery$Owners", "firstOf", "(II)I"⟩, 3) := ⟨⟨by decide +kernel, by decide +kernel⟩, List.mem_of_getElem? (i := 252) (by decide +kernel), List.mem_of_getElem? (i := 619) (by decide +kernel), List.mem_of_getElem? (i := 620) (by decide +kernel)⟩
theorem lw_p13 : lw_okq (⟨"CastGallery$Kinds", "asApollo", "(I)I"⟩, 2) := ⟨⟨by decide +kernel, by decide +kernel⟩, List.mem_of_getElem? (i := 288) (by decide +kernel), List.mem_of_getElem? (i := 683) (by decide +kernel), List.mem_of_getElem? (i := 684) (by decide +kernel)⟩
theorem lw_p14 : lw_okq (⟨"CastGallery$Kinds", "asCast", "(I)I"⟩, 2) := ⟨⟨by decide +kernel, by decide +kernel⟩, List.mem_of_getElem? (i := 288) (by decide +kernel), List.mem_of_getElem? (i := 688) (by decide +kernel), List.mem_of_getElem? (i := 689) (by decide +kernel)⟩
theorem lw_p15 : lw_okq (⟨"CastGallery$Kinds", "asVenus", "(I)I"⟩, 2) := ⟨⟨by decide +kernel, by decide +kernel⟩, List.mem_of_getElem? (i := 288) (by decide +kernel), List.mem_of_getElem? (i := 693) (by decide +kernel), List.mem_of_getElem? (i := 694) (by decide +kernel)⟩
def lw_privs_1 : List (MethodName × Nat) := [(⟨"CastGallery$Reader", "look", "()V"⟩, 8), (⟨"CastGallery$Reader", "lookAtLetters", "()V"⟩, 8), (⟨"CastGallery$Reader", "lookAtNumber", "()V"⟩, 8), (⟨"CastGallery$Reader", "readsItem", "()Z"⟩, 8), (⟨"CastGallery$Reader", "fitsThing", "(I)Z"⟩, 8), (⟨"CastGallery$Reader", "fitsCast", "(I)Z"⟩, 8), (⟨"CastGallery$Hall", "attend", "(II)V"⟩, 2), (⟨"CastGallery$Hall", "stepTo", "(II)I"⟩, 2), (⟨"CastGallery$Planner", "learnable", "(I)I"⟩, 3), (⟨"CastGallery$Planner", "sumOver", "([II)I"⟩, 3), (⟨"CastGallery$Planner", "isWhole", "(II)Z"⟩, 3), (⟨"CastGallery$Owners", "mostFrom", "(II)I"⟩, 3), (⟨"CastGallery$Owners", "firstOf", "(II)I"⟩, 3), (⟨"CastGallery$Kinds", "asApollo", "(I)I"⟩, 2), (⟨"CastGallery$Kinds", "asCast", "(I)I"⟩, 2), (⟨"CastGallery$Kinds", "asVenus", "(I)I"⟩, 2)]
theorem lw_r1 : ∀ q ∈ lw_privs_1, lw_okq q := List.forall_mem_cons.mpr ⟨lw_p0, List.forall_mem_cons.mpr ⟨lw_p1, List.forall_mem_cons.mpr ⟨lw_p2, List.forall_mem_cons.mpr ⟨lw_p3, List.forall_mem_cons.mpr ⟨lw_p4, List.forall_mem_cons.mpr ⟨lw_p5, List.forall_mem_cons.mpr ⟨lw_p6, List.forall_mem_cons.mpr ⟨lw_p7, List.forall_mem_cons.mpr ⟨lw_p8, List.forall_mem_cons.mpr ⟨lw_p9, List.forall_mem_cons.mpr ⟨lw_p10, List.forall_mem_cons.mpr ⟨lw_p11, List.forall_mem_cons.mpr ⟨lw_p12, List.forall_mem_cons.mpr ⟨lw_p13, List.forall_mem_cons.mpr ⟨lw_p14, List.forall_mem_cons.mpr ⟨lw_p15, fun _ h => absurd h List.not_mem_nil⟩⟩⟩⟩⟩⟩⟩⟩⟩⟩⟩⟩⟩⟩⟩⟩
theorem lw_p16 : lw_okq (⟨"CastGallery$Kinds", "asThrower", "(I)I"⟩, 2) := ⟨⟨by decide +kernel, by decide +kernel⟩, List.mem_of_getElem? (i := 288) (by decide +kernel), List.mem_of_getElem? (i := 698) (by decide +kernel), List.mem_of_getElem? (i := 699) (by decide +kernel)⟩
theorem lw_p17 : lw_okq (⟨"CastGallery$Kinds", "asMuse", "(I)I"⟩, 2) := ⟨⟨by decide +kernel, by decide +kernel⟩, List.mem_of_getElem? (i := 288) (by decide +kernel), List.mem_of_getElem? (i := 703) (by decide +kernel), List.mem_of_getElem? (i := 704) (by decide +kernel)⟩
theorem lw_p18 : lw_okq (⟨"CastGallery$Kinds", "asLoan", "(I)I"⟩, 2) := ⟨⟨by decide +kernel, by decide +kernel⟩, List.mem_of_getElem? (i := 288) (by decide +kernel), List.mem_of_getElem? (i := 708) (by decide +kernel), List.mem_of_getElem? (i := 709) (by decide +kernel)⟩
theorem lw_p19 : lw_okq (⟨"CastGalleryModel", "next", "()V"⟩, 32) := ⟨⟨by decide +kernel, by decide +kernel⟩, List.mem_of_getElem? (i := 744) (by decide +kernel), List.mem_of_getElem? (i := 863) (by decide +kernel), List.mem_of_getElem? (i := 864) (by decide +kernel)⟩
theorem lw_p20 : lw_okq (⟨"CastGalleryModel", "letterAt", "(I)I"⟩, 32) := ⟨⟨by decide +kernel, by decide +kernel⟩, List.mem_of_getElem? (i := 744) (by decide +kernel), List.mem_of_getElem? (i := 867) (by decide +kernel), List.mem_of_getElem? (i := 868) (by decide +kernel)⟩
theorem lw_p21 : lw_okq (⟨"CastGalleryModel", "readItem", "()V"⟩, 32) := ⟨⟨by decide +kernel, by decide +kernel⟩, List.mem_of_getElem? (i := 744) (by decide +kernel), List.mem_of_getElem? (i := 877) (by decide +kernel), List.mem_of_getElem? (i := 878) (by decide +kernel)⟩
theorem lw_p22 : lw_okq (⟨"CastGalleryModel", "readThing", "()V"⟩, 32) := ⟨⟨by decide +kernel, by decide +kernel⟩, List.mem_of_getElem? (i := 744) (by decide +kernel), List.mem_of_getElem? (i := 881) (by decide +kernel), List.mem_of_getElem? (i := 882) (by decide +kernel)⟩
theorem lw_p23 : lw_okq (⟨"CastGalleryModel", "takesNumber", "(II)I"⟩, 32) := ⟨⟨by decide +kernel, by decide +kernel⟩, List.mem_of_getElem? (i := 744) (by decide +kernel), List.mem_of_getElem? (i := 885) (by decide +kernel), List.mem_of_getElem? (i := 886) (by decide +kernel)⟩
theorem lw_p24 : lw_okq (⟨"CastGalleryModel", "readCast", "()V"⟩, 32) := ⟨⟨by decide +kernel, by decide +kernel⟩, List.mem_of_getElem? (i := 744) (by decide +kernel), List.mem_of_getElem? (i := 889) (by decide +kernel), List.mem_of_getElem? (i := 890) (by decide +kernel)⟩
theorem lw_p25 : lw_okq (⟨"CastGalleryModel", "settles", "()V"⟩, 32) := ⟨⟨by decide +kernel, by decide +kernel⟩, List.mem_of_getElem? (i := 744) (by decide +kernel), List.mem_of_getElem? (i := 893) (by decide +kernel), List.mem_of_getElem? (i := 894) (by decide +kernel)⟩
theorem lw_p26 : lw_okq (⟨"CastGalleryModel", "isThing", "(I)Z"⟩, 32) := ⟨⟨by decide +kernel, by decide +kernel⟩, List.mem_of_getElem? (i := 744) (by decide +kernel), List.mem_of_getElem? (i := 901) (by decide +kernel), List.mem_of_getElem? (i := 902) (by decide +kernel)⟩
theorem lw_p27 : lw_okq (⟨"CastGalleryModel", "whoCan", "(I)I"⟩, 32) := ⟨⟨by decide +kernel, by decide +kernel⟩, List.mem_of_getElem? (i := 744) (by decide +kernel), List.mem_of_getElem? (i := 905) (by decide +kernel), List.mem_of_getElem? (i := 906) (by decide +kernel)⟩
theorem lw_p28 : lw_okq (⟨"CastGalleryModel", "can", "(II)Z"⟩, 32) := ⟨⟨by decide +kernel, by decide +kernel⟩, List.mem_of_getElem? (i := 744) (by decide +kernel), List.mem_of_getElem? (i := 909) (by decide +kernel), List.mem_of_getElem? (i := 910) (by decide +kernel)⟩
theorem lw_p29 : lw_okq (⟨"CastGalleryModel", "isCast", "(I)Z"⟩, 32) := ⟨⟨by decide +kernel, by decide +kernel⟩, List.mem_of_getElem? (i := 744) (by decide +kernel), List.mem_of_getElem? (i := 920) (by decide +kernel), List.mem_of_getElem? (i := 921) (by decide +kernel)⟩
theorem lw_p30 : lw_okq (⟨"CastGalleryModel", "isBroken", "(I)Z"⟩, 32) := ⟨⟨by decide +kernel, by decide +kernel⟩, List.mem_of_getElem? (i := 744) (by decide +kernel), List.mem_of_getElem? (i := 924) (by decide +kernel), List.mem_of_getElem? (i := 925) (by decide +kernel)⟩
theorem lw_p31 : lw_okq (⟨"CastGalleryModel", "mays", "(I)I"⟩, 32) := ⟨⟨by decide +kernel, by decide +kernel⟩, List.mem_of_getElem? (i := 744) (by decide +kernel), List.mem_of_getElem? (i := 928) (by decide +kernel), List.mem_of_getElem? (i := 929) (by decide +kernel)⟩
def lw_privs_2 : List (MethodName × Nat) := [(⟨"CastGallery$Kinds", "asThrower", "(I)I"⟩, 2), (⟨"CastGallery$Kinds", "asMuse", "(I)I"⟩, 2), (⟨"CastGallery$Kinds", "asLoan", "(I)I"⟩, 2), (⟨"CastGalleryModel", "next", "()V"⟩, 32), (⟨"CastGalleryModel", "letterAt", "(I)I"⟩, 32), (⟨"CastGalleryModel", "readItem", "()V"⟩, 32), (⟨"CastGalleryModel", "readThing", "()V"⟩, 32), (⟨"CastGalleryModel", "takesNumber", "(II)I"⟩, 32), (⟨"CastGalleryModel", "readCast", "()V"⟩, 32), (⟨"CastGalleryModel", "settles", "()V"⟩, 32), (⟨"CastGalleryModel", "isThing", "(I)Z"⟩, 32), (⟨"CastGalleryModel", "whoCan", "(I)I"⟩, 32), (⟨"CastGalleryModel", "can", "(II)Z"⟩, 32), (⟨"CastGalleryModel", "isCast", "(I)Z"⟩, 32), (⟨"CastGalleryModel", "isBroken", "(I)Z"⟩, 32), (⟨"CastGalleryModel", "mays", "(I)I"⟩, 32)]
theorem lw_r2 : ∀ q ∈ lw_privs_2, lw_okq q := List.forall_mem_cons.mpr ⟨lw_p16, List.forall_mem_cons.mpr ⟨lw_p17, List.forall_mem_cons.mpr ⟨lw_p18, List.forall_mem_cons.mpr ⟨lw_p19, List.forall_mem_cons.mpr ⟨lw_p20, List.forall_mem_cons.mpr ⟨lw_p21, List.forall_mem_cons.mpr ⟨lw_p22, List.forall_mem_cons.mpr ⟨lw_p23, List.forall_mem_cons.mpr ⟨lw_p24, List.forall_mem_cons.mpr ⟨lw_p25, List.forall_mem_cons.mpr ⟨lw_p26, List.forall_mem_cons.mpr ⟨lw_p27, List.forall_mem_cons.mpr ⟨lw_p28, List.forall_mem_cons.mpr ⟨lw_p29, List.forall_mem_cons.mpr ⟨lw_p30, List.forall_mem_cons.mpr ⟨lw_p31, fun _ h => absurd h List.not_mem_nil⟩⟩⟩⟩⟩⟩⟩⟩⟩⟩⟩⟩⟩⟩⟩⟩
theorem lw_p32 : lw_okq (⟨"CastGalleryModel", "may", "(II)Z"⟩, 32) := ⟨⟨by decide +kernel, by decide +kernel⟩, List.mem_of_getElem? (i := 744) (by decide +kernel), List.mem_of_getElem? (i := 932) (by decide +kernel), List.mem_of_getElem? (i := 933) (by decide +kernel)⟩
theorem lw_p33 : lw_okq (⟨"CastGalleryModel", "hasPart", "(II)Z"⟩, 32) := ⟨⟨by decide +kernel, by decide +kernel⟩, List.mem_of_getElem? (i := 744) (by decide +kernel), List.mem_of_getElem? (i := 936) (by decide +kernel), List.mem_of_getElem? (i := 937) (by decide +kernel)⟩
theorem lw_p34 : lw_okq (⟨"CastGalleryModel", "remembers", "()V"⟩, 32) := ⟨⟨by decide +kernel, by decide +kernel⟩, List.mem_of_getElem? (i := 744) (by decide +kernel), List.mem_of_getElem? (i := 948) (by decide +kernel), List.mem_of_getElem? (i := 949) (by decide +kernel)⟩
theorem lw_p35 : lw_okq (⟨"CastGalleryModel", "learns", "(II)V"⟩, 32) := ⟨⟨by decide +kernel, by decide +kernel⟩, List.mem_of_getElem? (i := 744) (by decide +kernel), List.mem_of_getElem? (i := 956) (by decide +kernel), List.mem_of_getElem? (i := 957) (by decide +kernel)⟩
theorem lw_p36 : lw_okq (⟨"CastGalleryModel", "inClass", "()I"⟩, 32) := ⟨⟨by decide +kernel, by decide +kernel⟩, List.mem_of_getElem? (i := 744) (by decide +kernel), List.mem_of_getElem? (i := 979) (by decide +kernel), List.mem_of_getElem? (i := 980) (by decide +kernel)⟩
theorem lw_p37 : lw_okq (⟨"CastGalleryModel", "learntAll", "()I"⟩, 32) := ⟨⟨by decide +kernel, by decide +kernel⟩, List.mem_of_getElem? (i := 744) (by decide +kernel), List.mem_of_getElem? (i := 983) (by decide +kernel), List.mem_of_getElem? (i := 984) (by decide +kernel)⟩
theorem lw_p38 : lw_okq (⟨"CastGalleryModel", "tree", "()I"⟩, 32) := ⟨⟨by decide +kernel, by decide +kernel⟩, List.mem_of_getElem? (i := 744) (by decide +kernel), List.mem_of_getElem? (i := 987) (by decide +kernel), List.mem_of_getElem? (i := 988) (by decide +kernel)⟩
theorem lw_p39 : lw_okq (⟨"CastGalleryModel", "between", "(II)I"⟩, 32) := ⟨⟨by decide +kernel, by decide +kernel⟩, List.mem_of_getElem? (i := 744) (by decide +kernel), List.mem_of_getElem? (i := 991) (by decide +kernel), List.mem_of_getElem? (i := 992) (by decide +kernel)⟩
theorem lw_p40 : lw_okq (⟨"CastGalleryModel", "wanted", "(II)I"⟩, 32) := ⟨⟨by decide +kernel, by decide +kernel⟩, List.mem_of_getElem? (i := 744) (by decide +kernel), List.mem_of_getElem? (i := 999) (by decide +kernel), List.mem_of_getElem? (i := 1000) (by decide +kernel)⟩
theorem lw_p41 : lw_okq (⟨"CastGalleryModel", "bears", "(II)Z"⟩, 32) := ⟨⟨by decide +kernel, by decide +kernel⟩, List.mem_of_getElem? (i := 744) (by decide +kernel), List.mem_of_getElem? (i := 1003) (by decide +kernel), List.mem_of_getElem? (i := 1004) (by decide +kernel)⟩
theorem lw_p42 : lw_okq (⟨"CastGalleryModel", "cracksOf", "(II)I"⟩, 32) := ⟨⟨by decide +kernel, by decide +kernel⟩, List.mem_of_getElem? (i := 744) (by decide +kernel), List.mem_of_getElem? (i := 1007) (by decide +kernel), List.mem_of_getElem? (i := 1008) (by decide +kernel)⟩
theorem lw_p43 : lw_okq (⟨"CastGalleryModel", "nightsFor", "(II)I"⟩, 32) := ⟨⟨by decide +kernel, by decide +kernel⟩, List.mem_of_getElem? (i := 744) (by decide +kernel), List.mem_of_getElem? (i := 1011) (by decide +kernel), List.mem_of_getElem? (i := 1012) (by decide +kernel)⟩
theorem lw_p44 : lw_okq (⟨"CastGalleryModel", "nightsOf", "(II)I"⟩, 32) := ⟨⟨by decide +kernel, by decide +kernel⟩, List.mem_of_getElem? (i := 744) (by decide +kernel), List.mem_of_getElem? (i := 1015) (by decide +kernel), List.mem_of_getElem? (i := 1016) (by decide +kernel)⟩
theorem lw_p45 : lw_okq (⟨"CastGalleryModel", "isWhole", "(II)Z"⟩, 32) := ⟨⟨by decide +kernel, by decide +kernel⟩, List.mem_of_getElem? (i := 744) (by decide +kernel), List.mem_of_getElem? (i := 1026) (by decide +kernel), List.mem_of_getElem? (i := 1027) (by decide +kernel)⟩
theorem lw_p46 : lw_okq (⟨"CastGalleryModel", "layMost", "()V"⟩, 32) := ⟨⟨by decide +kernel, by decide +kernel⟩, List.mem_of_getElem? (i := 744) (by decide +kernel), List.mem_of_getElem? (i := 1034) (by decide +kernel), List.mem_of_getElem? (i := 1035) (by decide +kernel)⟩
theorem lw_p47 : lw_okq (⟨"CastGalleryModel", "givenTo", "(II)I"⟩, 32) := ⟨⟨by decide +kernel, by decide +kernel⟩, List.mem_of_getElem? (i := 744) (by decide +kernel), List.mem_of_getElem? (i := 1038) (by decide +kernel), List.mem_of_getElem? (i := 1039) (by decide +kernel)⟩
def lw_privs_3 : List (MethodName × Nat) := [(⟨"CastGalleryModel", "may", "(II)Z"⟩, 32), (⟨"CastGalleryModel", "hasPart", "(II)Z"⟩, 32), (⟨"CastGalleryModel", "remembers", "()V"⟩, 32), (⟨"CastGalleryModel", "learns", "(II)V"⟩, 32), (⟨"CastGalleryModel", "inClass", "()I"⟩, 32), (⟨"CastGalleryModel", "learntAll", "()I"⟩, 32), (⟨"CastGalleryModel", "tree", "()I"⟩, 32), (⟨"CastGalleryModel", "between", "(II)I"⟩, 32), (⟨"CastGalleryModel", "wanted", "(II)I"⟩, 32), (⟨"CastGalleryModel", "bears", "(II)Z"⟩, 32), (⟨"CastGalleryModel", "cracksOf", "(II)I"⟩, 32), (⟨"CastGalleryModel", "nightsFor", "(II)I"⟩, 32), (⟨"CastGalleryModel", "nightsOf", "(II)I"⟩, 32), (⟨"CastGalleryModel", "isWhole", "(II)Z"⟩, 32), (⟨"CastGalleryModel", "layMost", "()V"⟩, 32), (⟨"CastGalleryModel", "givenTo", "(II)I"⟩, 32)]
theorem lw_r3 : ∀ q ∈ lw_privs_3, lw_okq q := List.forall_mem_cons.mpr ⟨lw_p32, List.forall_mem_cons.mpr ⟨lw_p33, List.forall_mem_cons.mpr ⟨lw_p34, List.forall_mem_cons.mpr ⟨lw_p35, List.forall_mem_cons.mpr ⟨lw_p36, List.forall_mem_cons.mpr ⟨lw_p37, List.forall_mem_cons.mpr ⟨lw_p38, List.forall_mem_cons.mpr ⟨lw_p39, List.forall_mem_cons.mpr ⟨lw_p40, List.forall_mem_cons.mpr ⟨lw_p41, List.forall_mem_cons.mpr ⟨lw_p42, List.forall_mem_cons.mpr ⟨lw_p43, List.forall_mem_cons.mpr ⟨lw_p44, List.forall_mem_cons.mpr ⟨lw_p45, List.forall_mem_cons.mpr ⟨lw_p46, List.forall_mem_cons.mpr ⟨lw_p47, fun _ h => absurd h List.not_mem_nil⟩⟩⟩⟩⟩⟩⟩⟩⟩⟩⟩⟩⟩⟩⟩⟩
def lw_privs : List (MethodName × Nat) := lw_privs_1 ++ (lw_privs_2 ++ (lw_privs_3))
def lw_tbl : List Cond := k2_sels lw_privs ++ tables_1
theorem lw_privs_ok : ∀ q ∈ lw_privs, lw_okq q := by
  show ∀ q ∈ lw_privs_1 ++ (lw_privs_2 ++ (lw_privs_3)), lw_okq q
  exact List.forall_mem_append.mpr ⟨lw_r1, List.forall_mem_append.mpr ⟨lw_r2, lw_r3⟩⟩

/-! ===== BEGIN words of one list among another's, by their places ===== -/
theorem goodIn_r {big : List Cond} (ws : List Cond) (ps : List Nat) (hp : ws = ps.filterMap (fun i => big[i]?)) (h : ws.all goodWord = true) : GoodIn big ws := by
  intro w hw
  have h1 := List.all_eq_true.mp h w hw
  rw [hp] at hw
  obtain ⟨i, -, hi⟩ := List.mem_filterMap.mp hw
  have hm : w ∈ big := by first | exact List.mem_of_getElem? hi | exact List.getElem?_mem hi
  exact ⟨hm, good_of_word h1⟩
theorem goodIn_app {big a b : List Cond} (ha : GoodIn big a) (hb : GoodIn big b) : GoodIn big (a ++ b) := fun w h => (List.mem_append.mp h).elim (ha w) (hb w)
theorem goodIn_ca {big a b : List Cond} {c : Cond} (ha : GoodIn big (c :: a)) (hb : GoodIn big b) : GoodIn big (c :: (a ++ b)) := fun w h => (List.mem_cons.mp h).elim (fun e => ha w (List.mem_cons.mpr (Or.inl e))) (fun h => (List.mem_append.mp h).elim (fun h => ha w (List.mem_cons.mpr (Or.inr h))) (hb w))
theorem goodIn_sub {big ws : List Cond} (hm : ∀ w ∈ ws, w ∈ big) (h : ws.all goodWord = true) : GoodIn big ws := fun w hw => ⟨hm w hw, good_of_word (List.all_eq_true.mp h w hw)⟩
/-! ===== END ===== -/
def RX0 : String := "CastGallery$Hall"
def TX0 : u_T := fun k => match k with
  | 0 => ("CastGallery$Hall", "told", "LCastGallery$Told;", true)
  | _ => ("CastGallery$Hall", "moment", "LCastGallery$Moment;", true)
def tyX0 : Nat → FieldType := fun k => match k with
  | 0 => .object "CastGallery$Told"
  | _ => .object "CastGallery$Moment"
abbrev wsX00 : List Cond := u_ws RX0 TX0 2
theorem nmX0 : ∀ a, a < 2 → ∀ b, b < 2 → a ≠ b → (TX0 a).2.1 ≠ (TX0 b).2.1 := by decide +kernel
theorem tyX0_ok : ∀ k, k < 2 → parseFieldDescriptor (TX0 k).2.2.1 = some (tyX0 k) := by decide +kernel
abbrev cX0_init : ByteArray := prog_2_method_1_code
def yX0_init : MethodName := ⟨RX0, "<init>", "()V"⟩
abbrev cX0_beginAs : ByteArray := prog_2_method_2_code
def yX0_beginAs : MethodName := ⟨RX0, "beginAs", "(LCastGallery$Told;)V"⟩
abbrev cX0_isThing : ByteArray := prog_2_method_3_code
def yX0_isThing : MethodName := ⟨RX0, "isThing", "(I)Z"⟩
abbrev cX0_isCast : ByteArray := prog_2_method_4_code
def yX0_isCast : MethodName := ⟨RX0, "isCast", "(I)Z"⟩
abbrev cX0_isBroken : ByteArray := prog_2_method_5_code
def yX0_isBroken : MethodName := ⟨RX0, "isBroken", "(I)Z"⟩
abbrev cX0_lacksPartOf : ByteArray := prog_2_method_6_code
def yX0_lacksPartOf : MethodName := ⟨RX0, "lacksPartOf", "(II)Z"⟩
abbrev cX0_may : ByteArray := prog_2_method_7_code
def yX0_may : MethodName := ⟨RX0, "may", "(II)Z"⟩
abbrev cX0_allItMay : ByteArray := prog_2_method_8_code
def yX0_allItMay : MethodName := ⟨RX0, "allItMay", "(I)I"⟩
abbrev cX0_whoCan : ByteArray := prog_2_method_9_code
def yX0_whoCan : MethodName := ⟨RX0, "whoCan", "(I)I"⟩
abbrev cX0_whoIsInClass : ByteArray := prog_2_method_10_code
def yX0_whoIsInClass : MethodName := ⟨RX0, "whoIsInClass", "()I"⟩
abbrev cX0_learntByAll : ByteArray := prog_2_method_11_code
def yX0_learntByAll : MethodName := ⟨RX0, "learntByAll", "()I"⟩
abbrev cX0_passNight : ByteArray := prog_2_method_12_code
def yX0_passNight : MethodName := ⟨RX0, "passNight", "()V"⟩
abbrev cX0_attend : ByteArray := prog_2_method_13_code
def yX0_attend : MethodName := ⟨RX0, "attend", "(II)V"⟩
abbrev cX0_joinOn : ByteArray := prog_2_method_14_code
def yX0_joinOn : MethodName := ⟨RX0, "joinOn", "(III)V"⟩
abbrev cX0_unlikeParts : ByteArray := prog_2_method_15_code
def yX0_unlikeParts : MethodName := ⟨RX0, "unlikeParts", "(II)I"⟩
abbrev cX0_leastTree : ByteArray := prog_2_method_16_code
def yX0_leastTree : MethodName := ⟨RX0, "leastTree", "()I"⟩
abbrev cX0_stepTo : ByteArray := prog_2_method_17_code
def yX0_stepTo : MethodName := ⟨RX0, "stepTo", "(II)I"⟩
def RX1 : String := "CastGallery$Hearsay"
def TX1 : u_T := fun k => match k with
  | 0 => ("CastGallery$Hearsay", "hall", "LCastGallery$Hall;", true)
  | 1 => ("CastGallery$Hearsay", "things", "[I", true)
  | 2 => ("CastGallery$Hearsay", "cans", "[I", true)
  | _ => ("CastGallery$Hearsay", "held", "I", false)
def tyX1 : Nat → FieldType := fun k => match k with
  | 0 => .object "CastGallery$Hall"
  | 1 => .array .int
  | 2 => .array .int
  | _ => .int
abbrev wsX10 : List Cond := u_ws RX1 TX1 4
theorem nmX1 : ∀ a, a < 4 → ∀ b, b < 4 → a ≠ b → (TX1 a).2.1 ≠ (TX1 b).2.1 := by decide +kernel
theorem tyX1_ok : ∀ k, k < 4 → parseFieldDescriptor (TX1 k).2.2.1 = some (tyX1 k) := by decide +kernel
abbrev cX1_init : ByteArray := prog_3_method_1_code
def yX1_init : MethodName := ⟨RX1, "<init>", "(LCastGallery$Hall;)V"⟩
abbrev cX1_add : ByteArray := prog_3_method_2_code
def yX1_add : MethodName := ⟨RX1, "add", "(II)V"⟩
abbrev cX1_suspects : ByteArray := prog_3_method_3_code
def yX1_suspects : MethodName := ⟨RX1, "suspects", "()I"⟩
abbrev cX1_bestQuestion : ByteArray := prog_3_method_4_code
def yX1_bestQuestion : MethodName := ⟨RX1, "bestQuestion", "()I"⟩
def RX2 : String := "CastGallery$Image"
def TX2 : u_T := fun k => match k with
  | 0 => ("CastGallery$Image", "row", "[I", true)
  | 1 => ("CastGallery$Image", "past", "LCastGallery$Past;", true)
  | _ => ("CastGallery$Image", "kept", "Z", false)
def tyX2 : Nat → FieldType := fun k => match k with
  | 0 => .array .int
  | 1 => .object "CastGallery$Past"
  | _ => .boolean
abbrev wsX20 : List Cond := u_ws RX2 TX2 3
theorem nmX2 : ∀ a, a < 3 → ∀ b, b < 3 → a ≠ b → (TX2 a).2.1 ≠ (TX2 b).2.1 := by decide +kernel
theorem tyX2_ok : ∀ k, k < 3 → parseFieldDescriptor (TX2 k).2.2.1 = some (tyX2 k) := by decide +kernel
abbrev cX2_init : ByteArray := prog_4_method_1_code
def yX2_init : MethodName := ⟨RX2, "<init>", "()V"⟩
abbrev cX2_take : ByteArray := prog_4_method_2_code
def yX2_take : MethodName := ⟨RX2, "take", "(LCastGallery$Moment;LCastGallery$Past;)V"⟩
abbrev cX2_give : ByteArray := prog_4_method_3_code
def yX2_give : MethodName := ⟨RX2, "give", "(LCastGallery$Moment;LCastGallery$Past;)V"⟩
def RX3 : String := "CastGallery$Kinds"
def TX3 : u_T := fun k => match k with
  | 0 => ("CastGallery$Kinds", "hall", "LCastGallery$Hall;", true)
  | _ => ("CastGallery$Kinds", "traced", "J", false)
def tyX3 : Nat → FieldType := fun k => match k with
  | 0 => .object "CastGallery$Hall"
  | _ => .long
abbrev wsX30 : List Cond := u_ws RX3 TX3 2
theorem nmX3 : ∀ a, a < 2 → ∀ b, b < 2 → a ≠ b → (TX3 a).2.1 ≠ (TX3 b).2.1 := by decide +kernel
theorem tyX3_ok : ∀ k, k < 2 → parseFieldDescriptor (TX3 k).2.2.1 = some (tyX3 k) := by decide +kernel
abbrev cX3_init : ByteArray := prog_5_method_1_code
def yX3_init : MethodName := ⟨RX3, "<init>", "(LCastGallery$Hall;)V"⟩
abbrev cX3_asKind : ByteArray := prog_5_method_2_code
def yX3_asKind : MethodName := ⟨RX3, "asKind", "(II)I"⟩
abbrev cX3_asCast : ByteArray := prog_5_method_3_code
def yX3_asCast : MethodName := ⟨RX3, "asCast", "(I)I"⟩
abbrev cX3_asApollo : ByteArray := prog_5_method_4_code
def yX3_asApollo : MethodName := ⟨RX3, "asApollo", "(I)I"⟩
abbrev cX3_asVenus : ByteArray := prog_5_method_5_code
def yX3_asVenus : MethodName := ⟨RX3, "asVenus", "(I)I"⟩
abbrev cX3_asThrower : ByteArray := prog_5_method_6_code
def yX3_asThrower : MethodName := ⟨RX3, "asThrower", "(I)I"⟩
abbrev cX3_asMuse : ByteArray := prog_5_method_7_code
def yX3_asMuse : MethodName := ⟨RX3, "asMuse", "(I)I"⟩
abbrev cX3_asLoan : ByteArray := prog_5_method_8_code
def yX3_asLoan : MethodName := ⟨RX3, "asLoan", "(I)I"⟩
def RX4 : String := "CastGallery$Moment"
def TX4 : u_T := fun k => match k with
  | 0 => ("CastGallery$Moment", "night", "I", false)
  | 1 => ("CastGallery$Moment", "broken", "I", false)
  | 2 => ("CastGallery$Moment", "far", "[I", true)
  | 3 => ("CastGallery$Moment", "can", "[I", true)
  | 4 => ("CastGallery$Moment", "lacks", "[I", true)
  | 5 => ("CastGallery$Moment", "cracks", "[I", true)
  | _ => ("CastGallery$Moment", "course", "[I", true)
def tyX4 : Nat → FieldType := fun k => match k with
  | 0 => .int
  | 1 => .int
  | 2 => .array .int
  | 3 => .array .int
  | 4 => .array .int
  | 5 => .array .int
  | _ => .array .int
abbrev wsX40 : List Cond := u_ws RX4 TX4 7
theorem nmX4 : ∀ a, a < 7 → ∀ b, b < 7 → a ≠ b → (TX4 a).2.1 ≠ (TX4 b).2.1 := by decide +kernel
theorem tyX4_ok : ∀ k, k < 7 → parseFieldDescriptor (TX4 k).2.2.1 = some (tyX4 k) := by decide +kernel
abbrev cX4_init : ByteArray := prog_6_method_1_code
def yX4_init : MethodName := ⟨RX4, "<init>", "()V"⟩
abbrev cX4_begin : ByteArray := prog_6_method_2_code
def yX4_begin : MethodName := ⟨RX4, "begin", "([I)V"⟩
abbrev cX4_writeTo : ByteArray := prog_6_method_3_code
def yX4_writeTo : MethodName := ⟨RX4, "writeTo", "([II)V"⟩
abbrev cX4_readFrom : ByteArray := prog_6_method_4_code
def yX4_readFrom : MethodName := ⟨RX4, "readFrom", "([II)V"⟩
def RX5 : String := "CastGallery$Owners"
def TX5 : u_T := fun k => match k with
  | 0 => ("CastGallery$Owners", "hall", "LCastGallery$Hall;", true)
  | 1 => ("CastGallery$Owners", "most", "[I", true)
  | _ => ("CastGallery$Owners", "may", "[I", true)
def tyX5 : Nat → FieldType := fun k => match k with
  | 0 => .object "CastGallery$Hall"
  | 1 => .array .int
  | _ => .array .int
abbrev wsX50 : List Cond := u_ws RX5 TX5 3
theorem nmX5 : ∀ a, a < 3 → ∀ b, b < 3 → a ≠ b → (TX5 a).2.1 ≠ (TX5 b).2.1 := by decide +kernel
theorem tyX5_ok : ∀ k, k < 3 → parseFieldDescriptor (TX5 k).2.2.1 = some (tyX5 k) := by decide +kernel
abbrev cX5_init : ByteArray := prog_7_method_1_code
def yX5_init : MethodName := ⟨RX5, "<init>", "(LCastGallery$Hall;)V"⟩
abbrev cX5_weigh : ByteArray := prog_7_method_2_code
def yX5_weigh : MethodName := ⟨RX5, "weigh", "()V"⟩
abbrev cX5_mostFrom : ByteArray := prog_7_method_3_code
def yX5_mostFrom : MethodName := ⟨RX5, "mostFrom", "(II)I"⟩
abbrev cX5_mostSet : ByteArray := prog_7_method_4_code
def yX5_mostSet : MethodName := ⟨RX5, "mostSet", "()I"⟩
abbrev cX5_thingOf : ByteArray := prog_7_method_5_code
def yX5_thingOf : MethodName := ⟨RX5, "thingOf", "(I)I"⟩
abbrev cX5_firstOf : ByteArray := prog_7_method_6_code
def yX5_firstOf : MethodName := ⟨RX5, "firstOf", "(II)I"⟩
def RX6 : String := "CastGallery$Past"
def TX6 : u_T := fun k => match k with
  | 0 => ("CastGallery$Past", "rows", "[I", true)
  | 1 => ("CastGallery$Past", "next", "I", false)
  | _ => ("CastGallery$Past", "held", "I", false)
def tyX6 : Nat → FieldType := fun k => match k with
  | 0 => .array .int
  | 1 => .int
  | _ => .int
abbrev wsX60 : List Cond := u_ws RX6 TX6 3
theorem nmX6 : ∀ a, a < 3 → ∀ b, b < 3 → a ≠ b → (TX6 a).2.1 ≠ (TX6 b).2.1 := by decide +kernel
theorem tyX6_ok : ∀ k, k < 3 → parseFieldDescriptor (TX6 k).2.2.1 = some (tyX6 k) := by decide +kernel
abbrev cX6_init : ByteArray := prog_8_method_1_code
def yX6_init : MethodName := ⟨RX6, "<init>", "()V"⟩
abbrev cX6_remember : ByteArray := prog_8_method_2_code
def yX6_remember : MethodName := ⟨RX6, "remember", "(LCastGallery$Moment;)V"⟩
abbrev cX6_recall : ByteArray := prog_8_method_3_code
def yX6_recall : MethodName := ⟨RX6, "recall", "(LCastGallery$Moment;)V"⟩
abbrev cX6_become : ByteArray := prog_8_method_4_code
def yX6_become : MethodName := ⟨RX6, "become", "(LCastGallery$Past;)V"⟩
def RX7 : String := "CastGallery$Planner"
def TX7 : u_T := fun k => match k with
  | 0 => ("CastGallery$Planner", "hall", "LCastGallery$Hall;", true)
  | 1 => ("CastGallery$Planner", "nightsFor", "[I", true)
  | _ => ("CastGallery$Planner", "cracksFor", "[I", true)
def tyX7 : Nat → FieldType := fun k => match k with
  | 0 => .object "CastGallery$Hall"
  | 1 => .array .int
  | _ => .array .int
abbrev wsX70 : List Cond := u_ws RX7 TX7 3
theorem nmX7 : ∀ a, a < 3 → ∀ b, b < 3 → a ≠ b → (TX7 a).2.1 ≠ (TX7 b).2.1 := by decide +kernel
theorem tyX7_ok : ∀ k, k < 3 → parseFieldDescriptor (TX7 k).2.2.1 = some (tyX7 k) := by decide +kernel
abbrev cX7_init : ByteArray := prog_9_method_1_code
def yX7_init : MethodName := ⟨RX7, "<init>", "(LCastGallery$Hall;)V"⟩
abbrev cX7_reckon : ByteArray := prog_9_method_2_code
def yX7_reckon : MethodName := ⟨RX7, "reckon", "(I)V"⟩
abbrev cX7_nightsOf : ByteArray := prog_9_method_3_code
def yX7_nightsOf : MethodName := ⟨RX7, "nightsOf", "(I)I"⟩
abbrev cX7_cracksOf : ByteArray := prog_9_method_4_code
def yX7_cracksOf : MethodName := ⟨RX7, "cracksOf", "(I)I"⟩
abbrev cX7_sumOver : ByteArray := prog_9_method_5_code
def yX7_sumOver : MethodName := ⟨RX7, "sumOver", "([II)I"⟩
abbrev cX7_toLearnFor : ByteArray := prog_9_method_6_code
def yX7_toLearnFor : MethodName := ⟨RX7, "toLearnFor", "(II)I"⟩
abbrev cX7_bears : ByteArray := prog_9_method_7_code
def yX7_bears : MethodName := ⟨RX7, "bears", "(II)Z"⟩
abbrev cX7_learnable : ByteArray := prog_9_method_8_code
def yX7_learnable : MethodName := ⟨RX7, "learnable", "(I)I"⟩
abbrev cX7_learntAt : ByteArray := prog_9_method_9_code
def yX7_learntAt : MethodName := ⟨RX7, "learntAt", "(II)I"⟩
abbrev cX7_mostIn : ByteArray := prog_9_method_10_code
def yX7_mostIn : MethodName := ⟨RX7, "mostIn", "(II)I"⟩
abbrev cX7_isWhole : ByteArray := prog_9_method_11_code
def yX7_isWhole : MethodName := ⟨RX7, "isWhole", "(II)Z"⟩
def RX8 : String := "CastGallery$Reader"
def TX8 : u_T := fun k => match k with
  | 0 => ("CastGallery$Reader", "text", "[I", true)
  | 1 => ("CastGallery$Reader", "length", "I", false)
  | 2 => ("CastGallery$Reader", "read", "LCastGallery$Told;", true)
  | 3 => ("CastGallery$Reader", "start", "I", false)
  | 4 => ("CastGallery$Reader", "next", "I", false)
  | 5 => ("CastGallery$Reader", "sort", "I", false)
  | 6 => ("CastGallery$Reader", "value", "I", false)
  | _ => ("CastGallery$Reader", "numbers", "[I", true)
def tyX8 : Nat → FieldType := fun k => match k with
  | 0 => .array .int
  | 1 => .int
  | 2 => .object "CastGallery$Told"
  | 3 => .int
  | 4 => .int
  | 5 => .int
  | 6 => .int
  | _ => .array .int
abbrev wsX80 : List Cond := u_ws RX8 TX8 8
theorem nmX8 : ∀ a, a < 8 → ∀ b, b < 8 → a ≠ b → (TX8 a).2.1 ≠ (TX8 b).2.1 := by decide +kernel
theorem tyX8_ok : ∀ k, k < 8 → parseFieldDescriptor (TX8 k).2.2.1 = some (tyX8 k) := by decide +kernel
abbrev cX8_init : ByteArray := prog_10_method_1_code
def yX8_init : MethodName := ⟨RX8, "<init>", "()V"⟩
abbrev cX8_readsAll : ByteArray := prog_10_method_2_code
def yX8_readsAll : MethodName := ⟨RX8, "readsAll", "()Z"⟩
abbrev cX8_readsItem : ByteArray := prog_10_method_3_code
def yX8_readsItem : MethodName := ⟨RX8, "readsItem", "()Z"⟩
abbrev cX8_fitsThing : ByteArray := prog_10_method_4_code
def yX8_fitsThing : MethodName := ⟨RX8, "fitsThing", "(I)Z"⟩
abbrev cX8_fitsCast : ByteArray := prog_10_method_5_code
def yX8_fitsCast : MethodName := ⟨RX8, "fitsCast", "(I)Z"⟩
abbrev cX8_look : ByteArray := prog_10_method_6_code
def yX8_look : MethodName := ⟨RX8, "look", "()V"⟩
abbrev cX8_lookAtLetters : ByteArray := prog_10_method_7_code
def yX8_lookAtLetters : MethodName := ⟨RX8, "lookAtLetters", "()V"⟩
abbrev cX8_lookAtNumber : ByteArray := prog_10_method_8_code
def yX8_lookAtNumber : MethodName := ⟨RX8, "lookAtNumber", "()V"⟩
abbrev cX8_isLetter : ByteArray := prog_10_method_9_code
def yX8_isLetter : MethodName := ⟨RX8, "isLetter", "(I)Z"⟩
abbrev cX8_isDigit : ByteArray := prog_10_method_10_code
def yX8_isDigit : MethodName := ⟨RX8, "isDigit", "(I)Z"⟩
def RX9 : String := "CastGallery$Told"
def TX9 : u_T := fun k => match k with
  | 0 => ("CastGallery$Told", "things", "I", false)
  | 1 => ("CastGallery$Told", "casts", "I", false)
  | 2 => ("CastGallery$Told", "load", "[I", true)
  | 3 => ("CastGallery$Told", "hard", "[I", true)
  | 4 => ("CastGallery$Told", "part", "[I", true)
  | 5 => ("CastGallery$Told", "needs", "[I", true)
  | 6 => ("CastGallery$Told", "lime", "[I", true)
  | 7 => ("CastGallery$Told", "wit", "[I", true)
  | _ => ("CastGallery$Told", "lacks", "[I", true)
def tyX9 : Nat → FieldType := fun k => match k with
  | 0 => .int
  | 1 => .int
  | 2 => .array .int
  | 3 => .array .int
  | 4 => .array .int
  | 5 => .array .int
  | 6 => .array .int
  | 7 => .array .int
  | _ => .array .int
abbrev wsX90 : List Cond := u_ws RX9 TX9 9
theorem nmX9 : ∀ a, a < 9 → ∀ b, b < 9 → a ≠ b → (TX9 a).2.1 ≠ (TX9 b).2.1 := by decide +kernel
theorem tyX9_ok : ∀ k, k < 9 → parseFieldDescriptor (TX9 k).2.2.1 = some (tyX9 k) := by decide +kernel
abbrev cX9_init : ByteArray := prog_11_method_1_code
def yX9_init : MethodName := ⟨RX9, "<init>", "()V"⟩
abbrev cX9_addThing : ByteArray := prog_11_method_2_code
def yX9_addThing : MethodName := ⟨RX9, "addThing", "([I)V"⟩
abbrev cX9_addCast : ByteArray := prog_11_method_3_code
def yX9_addCast : MethodName := ⟨RX9, "addCast", "([I)V"⟩
abbrev cX9_become : ByteArray := prog_11_method_4_code
def yX9_become : MethodName := ⟨RX9, "become", "(LCastGallery$Told;)V"⟩
def RX10 : String := "CastGallery"
def TX10 : u_T := fun k => match k with
  | 0 => ("CastGallery", "reader", "LCastGallery$Reader;", true)
  | 1 => ("CastGallery", "hall", "LCastGallery$Hall;", true)
  | 2 => ("CastGallery", "past", "LCastGallery$Past;", true)
  | 3 => ("CastGallery", "images", "[LCastGallery$Image;", true)
  | 4 => ("CastGallery", "planner", "LCastGallery$Planner;", true)
  | 5 => ("CastGallery", "owners", "LCastGallery$Owners;", true)
  | 6 => ("CastGallery", "hearsay", "LCastGallery$Hearsay;", true)
  | _ => ("CastGallery", "kinds", "LCastGallery$Kinds;", true)
def tyX10 : Nat → FieldType := fun k => match k with
  | 0 => .object "CastGallery$Reader"
  | 1 => .object "CastGallery$Hall"
  | 2 => .object "CastGallery$Past"
  | 3 => .array (.object "CastGallery$Image")
  | 4 => .object "CastGallery$Planner"
  | 5 => .object "CastGallery$Owners"
  | 6 => .object "CastGallery$Hearsay"
  | _ => .object "CastGallery$Kinds"
abbrev wsX100 : List Cond := u_ws RX10 TX10 8
theorem nmX10 : ∀ a, a < 8 → ∀ b, b < 8 → a ≠ b → (TX10 a).2.1 ≠ (TX10 b).2.1 := by decide +kernel
theorem tyX10_ok : ∀ k, k < 8 → parseFieldDescriptor (TX10 k).2.2.1 = some (tyX10 k) := by decide +kernel
abbrev cX10_init : ByteArray := prog_1_method_1_code
def yX10_init : MethodName := ⟨RX10, "<init>", "()V"⟩
abbrev cX10_type : ByteArray := prog_1_method_2_code
def yX10_type : MethodName := ⟨RX10, "type", "(I)I"⟩
abbrev cX10_clear : ByteArray := prog_1_method_3_code
def yX10_clear : MethodName := ⟨RX10, "clear", "()I"⟩
abbrev cX10_hall : ByteArray := prog_1_method_4_code
def yX10_hall : MethodName := ⟨RX10, "hall", "()I"⟩
abbrev cX10_thing : ByteArray := prog_1_method_5_code
def yX10_thing : MethodName := ⟨RX10, "thing", "(II)I"⟩
abbrev cX10_cast : ByteArray := prog_1_method_6_code
def yX10_cast : MethodName := ⟨RX10, "cast", "(II)I"⟩
abbrev cX10_far : ByteArray := prog_1_method_7_code
def yX10_far : MethodName := ⟨RX10, "far", "(II)I"⟩
abbrev cX10_sets : ByteArray := prog_1_method_8_code
def yX10_sets : MethodName := ⟨RX10, "sets", "(II)I"⟩
abbrev cX10_nights : ByteArray := prog_1_method_9_code
def yX10_nights : MethodName := ⟨RX10, "nights", "(I)I"⟩
abbrev cX10_mends : ByteArray := prog_1_method_10_code
def yX10_mends : MethodName := ⟨RX10, "mends", "(I)I"⟩
abbrev cX10_joins : ByteArray := prog_1_method_11_code
def yX10_joins : MethodName := ⟨RX10, "joins", "(III)I"⟩
abbrev cX10_undo : ByteArray := prog_1_method_12_code
def yX10_undo : MethodName := ⟨RX10, "undo", "()I"⟩
abbrev cX10_now : ByteArray := prog_1_method_13_code
def yX10_now : MethodName := ⟨RX10, "now", "(I)I"⟩
abbrev cX10_plan : ByteArray := prog_1_method_14_code
def yX10_plan : MethodName := ⟨RX10, "plan", "(III)I"⟩
abbrev cX10_best : ByteArray := prog_1_method_15_code
def yX10_best : MethodName := ⟨RX10, "best", "(III)I"⟩
abbrev cX10_own : ByteArray := prog_1_method_16_code
def yX10_own : MethodName := ⟨RX10, "own", "(I)I"⟩
abbrev cX10_near : ByteArray := prog_1_method_17_code
def yX10_near : MethodName := ⟨RX10, "near", "(II)I"⟩
abbrev cX10_odds : ByteArray := prog_1_method_18_code
def yX10_odds : MethodName := ⟨RX10, "odds", "(III)I"⟩
abbrev cX10_hears : ByteArray := prog_1_method_19_code
def yX10_hears : MethodName := ⟨RX10, "hears", "(II)I"⟩
abbrev cX10_forget : ByteArray := prog_1_method_20_code
def yX10_forget : MethodName := ⟨RX10, "forget", "()I"⟩
abbrev cX10_who : ByteArray := prog_1_method_21_code
def yX10_who : MethodName := ⟨RX10, "who", "()I"⟩
abbrev cX10_ask : ByteArray := prog_1_method_22_code
def yX10_ask : MethodName := ⟨RX10, "ask", "()I"⟩
abbrev cX10_mark : ByteArray := prog_1_method_23_code
def yX10_mark : MethodName := ⟨RX10, "mark", "(II)I"⟩
abbrev cX10_keep : ByteArray := prog_1_method_24_code
def yX10_keep : MethodName := ⟨RX10, "keep", "(I)I"⟩
abbrev cX10_back : ByteArray := prog_1_method_25_code
def yX10_back : MethodName := ⟨RX10, "back", "(I)I"⟩
abbrev cX10_count : ByteArray := prog_1_method_26_code
def yX10_count : MethodName := ⟨RX10, "count", "(I)I"⟩
abbrev cX10_trace : ByteArray := prog_1_method_27_code
def yX10_trace : MethodName := ⟨RX10, "trace", "()J"⟩
abbrev cX10_has : ByteArray := prog_1_method_28_code
def yX10_has : MethodName := ⟨RX10, "has", "(II)Z"⟩
abbrev cX10_orNone : ByteArray := prog_1_method_29_code
def yX10_orNone : MethodName := ⟨RX10, "orNone", "(I)I"⟩
abbrev cX10_waysToFall : ByteArray := prog_1_method_30_code
def yX10_waysToFall : MethodName := ⟨RX10, "waysToFall", "(III)I"⟩
abbrev cX10_power : ByteArray := prog_1_method_31_code
def yX10_power : MethodName := ⟨RX10, "power", "(II)I"⟩
abbrev cX10_commonDivisor : ByteArray := prog_1_method_32_code
def yX10_commonDivisor : MethodName := ⟨RX10, "commonDivisor", "(II)I"⟩
def RX11 : String := "CastGalleryModel"
def TX11 : u_T := fun k => match k with
  | 0 => ("CastGalleryModel", "things", "I", false)
  | 1 => ("CastGalleryModel", "loads", "[I", true)
  | 2 => ("CastGalleryModel", "hards", "[I", true)
  | 3 => ("CastGalleryModel", "parts", "[I", true)
  | 4 => ("CastGalleryModel", "needs", "[I", true)
  | 5 => ("CastGalleryModel", "casts", "I", false)
  | 6 => ("CastGalleryModel", "limes", "[I", true)
  | 7 => ("CastGalleryModel", "wits", "[I", true)
  | 8 => ("CastGalleryModel", "st", "[I", true)
  | 9 => ("CastGalleryModel", "images", "[I", true)
  | 10 => ("CastGalleryModel", "isKept", "[Z", true)
  | 11 => ("CastGalleryModel", "heardMany", "I", false)
  | 12 => ("CastGalleryModel", "heard", "[I", true)
  | 13 => ("CastGalleryModel", "trace", "J", false)
  | 14 => ("CastGalleryModel", "text", "[I", true)
  | 15 => ("CastGalleryModel", "texted", "I", false)
  | 16 => ("CastGalleryModel", "cursor", "I", false)
  | 17 => ("CastGalleryModel", "start", "I", false)
  | 18 => ("CastGalleryModel", "token", "I", false)
  | 19 => ("CastGalleryModel", "number", "I", false)
  | 20 => ("CastGalleryModel", "isWrong", "Z", false)
  | 21 => ("CastGalleryModel", "items", "I", false)
  | 22 => ("CastGalleryModel", "saidThings", "I", false)
  | 23 => ("CastGalleryModel", "saidLoad", "[I", true)
  | 24 => ("CastGalleryModel", "saidHard", "[I", true)
  | 25 => ("CastGalleryModel", "saidPart", "[I", true)
  | 26 => ("CastGalleryModel", "saidNeeds", "[I", true)
  | 27 => ("CastGalleryModel", "saidCasts", "I", false)
  | 28 => ("CastGalleryModel", "saidLime", "[I", true)
  | 29 => ("CastGalleryModel", "saidWit", "[I", true)
  | 30 => ("CastGalleryModel", "saidLacks", "[I", true)
  | _ => ("CastGalleryModel", "most", "[I", true)
def tyX11 : Nat → FieldType := fun k => match k with
  | 0 => .int
  | 1 => .array .int
  | 2 => .array .int
  | 3 => .array .int
  | 4 => .array .int
  | 5 => .int
  | 6 => .array .int
  | 7 => .array .int
  | 8 => .array .int
  | 9 => .array .int
  | 10 => .array .boolean
  | 11 => .int
  | 12 => .array .int
  | 13 => .long
  | 14 => .array .int
  | 15 => .int
  | 16 => .int
  | 17 => .int
  | 18 => .int
  | 19 => .int
  | 20 => .boolean
  | 21 => .int
  | 22 => .int
  | 23 => .array .int
  | 24 => .array .int
  | 25 => .array .int
  | 26 => .array .int
  | 27 => .int
  | 28 => .array .int
  | 29 => .array .int
  | 30 => .array .int
  | _ => .array .int
abbrev wsX110 : List Cond := u_ws RX11 TX11 32
theorem nmX11 : ∀ a, a < 32 → ∀ b, b < 32 → a ≠ b → (TX11 a).2.1 ≠ (TX11 b).2.1 := by decide +kernel
theorem tyX11_ok : ∀ k, k < 32 → parseFieldDescriptor (TX11 k).2.2.1 = some (tyX11 k) := by decide +kernel
abbrev cX11_init : ByteArray := prog_13_method_1_code
def yX11_init : MethodName := ⟨RX11, "<init>", "()V"⟩
abbrev cX11_in : ByteArray := prog_13_method_3_code
def yX11_in : MethodName := ⟨RX11, "in", "(III)Z"⟩
abbrev cX11_has : ByteArray := prog_13_method_4_code
def yX11_has : MethodName := ⟨RX11, "has", "(II)Z"⟩
abbrev cX11_bits : ByteArray := prog_13_method_5_code
def yX11_bits : MethodName := ⟨RX11, "bits", "(I)I"⟩
abbrev cX11_isThing : ByteArray := prog_13_method_6_code
def yX11_isThing : MethodName := ⟨RX11, "isThing", "(I)Z"⟩
abbrev cX11_isCast : ByteArray := prog_13_method_7_code
def yX11_isCast : MethodName := ⟨RX11, "isCast", "(I)Z"⟩
abbrev cX11_type : ByteArray := prog_13_method_8_code
def yX11_type : MethodName := ⟨RX11, "type", "(I)I"⟩
abbrev cX11_clear : ByteArray := prog_13_method_9_code
def yX11_clear : MethodName := ⟨RX11, "clear", "()I"⟩
abbrev cX11_letterAt : ByteArray := prog_13_method_10_code
def yX11_letterAt : MethodName := ⟨RX11, "letterAt", "(I)I"⟩
abbrev cX11_isFigure : ByteArray := prog_13_method_11_code
def yX11_isFigure : MethodName := ⟨RX11, "isFigure", "(I)Z"⟩
abbrev cX11_isLetter : ByteArray := prog_13_method_12_code
def yX11_isLetter : MethodName := ⟨RX11, "isLetter", "(I)Z"⟩
abbrev cX11_next : ByteArray := prog_13_method_13_code
def yX11_next : MethodName := ⟨RX11, "next", "()V"⟩
abbrev cX11_takesNumber : ByteArray := prog_13_method_14_code
def yX11_takesNumber : MethodName := ⟨RX11, "takesNumber", "(II)I"⟩
abbrev cX11_readThing : ByteArray := prog_13_method_15_code
def yX11_readThing : MethodName := ⟨RX11, "readThing", "()V"⟩
abbrev cX11_readCast : ByteArray := prog_13_method_16_code
def yX11_readCast : MethodName := ⟨RX11, "readCast", "()V"⟩
abbrev cX11_readItem : ByteArray := prog_13_method_17_code
def yX11_readItem : MethodName := ⟨RX11, "readItem", "()V"⟩
abbrev cX11_hall : ByteArray := prog_13_method_18_code
def yX11_hall : MethodName := ⟨RX11, "hall", "()I"⟩
abbrev cX11_settles : ByteArray := prog_13_method_19_code
def yX11_settles : MethodName := ⟨RX11, "settles", "()V"⟩
abbrev cX11_can : ByteArray := prog_13_method_20_code
def yX11_can : MethodName := ⟨RX11, "can", "(II)Z"⟩
abbrev cX11_isBroken : ByteArray := prog_13_method_21_code
def yX11_isBroken : MethodName := ⟨RX11, "isBroken", "(I)Z"⟩
abbrev cX11_hasPart : ByteArray := prog_13_method_22_code
def yX11_hasPart : MethodName := ⟨RX11, "hasPart", "(II)Z"⟩
abbrev cX11_may : ByteArray := prog_13_method_23_code
def yX11_may : MethodName := ⟨RX11, "may", "(II)Z"⟩
abbrev cX11_mays : ByteArray := prog_13_method_24_code
def yX11_mays : MethodName := ⟨RX11, "mays", "(I)I"⟩
abbrev cX11_whoCan : ByteArray := prog_13_method_25_code
def yX11_whoCan : MethodName := ⟨RX11, "whoCan", "(I)I"⟩
abbrev cX11_thing : ByteArray := prog_13_method_26_code
def yX11_thing : MethodName := ⟨RX11, "thing", "(II)I"⟩
abbrev cX11_cast : ByteArray := prog_13_method_27_code
def yX11_cast : MethodName := ⟨RX11, "cast", "(II)I"⟩
abbrev cX11_far : ByteArray := prog_13_method_28_code
def yX11_far : MethodName := ⟨RX11, "far", "(II)I"⟩
abbrev cX11_remembers : ByteArray := prog_13_method_29_code
def yX11_remembers : MethodName := ⟨RX11, "remembers", "()V"⟩
abbrev cX11_sets : ByteArray := prog_13_method_30_code
def yX11_sets : MethodName := ⟨RX11, "sets", "(II)I"⟩
abbrev cX11_learns : ByteArray := prog_13_method_31_code
def yX11_learns : MethodName := ⟨RX11, "learns", "(II)V"⟩
abbrev cX11_nights : ByteArray := prog_13_method_32_code
def yX11_nights : MethodName := ⟨RX11, "nights", "(I)I"⟩
abbrev cX11_mends : ByteArray := prog_13_method_33_code
def yX11_mends : MethodName := ⟨RX11, "mends", "(I)I"⟩
abbrev cX11_joins : ByteArray := prog_13_method_34_code
def yX11_joins : MethodName := ⟨RX11, "joins", "(III)I"⟩
abbrev cX11_undo : ByteArray := prog_13_method_35_code
def yX11_undo : MethodName := ⟨RX11, "undo", "()I"⟩
abbrev cX11_inClass : ByteArray := prog_13_method_36_code
def yX11_inClass : MethodName := ⟨RX11, "inClass", "()I"⟩
abbrev cX11_learntAll : ByteArray := prog_13_method_37_code
def yX11_learntAll : MethodName := ⟨RX11, "learntAll", "()I"⟩
abbrev cX11_now : ByteArray := prog_13_method_38_code
def yX11_now : MethodName := ⟨RX11, "now", "(I)I"⟩
abbrev cX11_nightsFor : ByteArray := prog_13_method_39_code
def yX11_nightsFor : MethodName := ⟨RX11, "nightsFor", "(II)I"⟩
abbrev cX11_nightsOf : ByteArray := prog_13_method_40_code
def yX11_nightsOf : MethodName := ⟨RX11, "nightsOf", "(II)I"⟩
abbrev cX11_cracksOf : ByteArray := prog_13_method_41_code
def yX11_cracksOf : MethodName := ⟨RX11, "cracksOf", "(II)I"⟩
abbrev cX11_bears : ByteArray := prog_13_method_42_code
def yX11_bears : MethodName := ⟨RX11, "bears", "(II)Z"⟩
abbrev cX11_wanted : ByteArray := prog_13_method_43_code
def yX11_wanted : MethodName := ⟨RX11, "wanted", "(II)I"⟩
abbrev cX11_kth : ByteArray := prog_13_method_44_code
def yX11_kth : MethodName := ⟨RX11, "kth", "(II)I"⟩
abbrev cX11_plan : ByteArray := prog_13_method_45_code
def yX11_plan : MethodName := ⟨RX11, "plan", "(III)I"⟩
abbrev cX11_isWhole : ByteArray := prog_13_method_46_code
def yX11_isWhole : MethodName := ⟨RX11, "isWhole", "(II)Z"⟩
abbrev cX11_best : ByteArray := prog_13_method_47_code
def yX11_best : MethodName := ⟨RX11, "best", "(III)I"⟩
abbrev cX11_layMost : ByteArray := prog_13_method_48_code
def yX11_layMost : MethodName := ⟨RX11, "layMost", "()V"⟩
abbrev cX11_givenTo : ByteArray := prog_13_method_49_code
def yX11_givenTo : MethodName := ⟨RX11, "givenTo", "(II)I"⟩
abbrev cX11_own : ByteArray := prog_13_method_50_code
def yX11_own : MethodName := ⟨RX11, "own", "(I)I"⟩
abbrev cX11_between : ByteArray := prog_13_method_51_code
def yX11_between : MethodName := ⟨RX11, "between", "(II)I"⟩
abbrev cX11_near : ByteArray := prog_13_method_52_code
def yX11_near : MethodName := ⟨RX11, "near", "(II)I"⟩
abbrev cX11_tree : ByteArray := prog_13_method_53_code
def yX11_tree : MethodName := ⟨RX11, "tree", "()I"⟩
abbrev cX11_lowest : ByteArray := prog_13_method_54_code
def yX11_lowest : MethodName := ⟨RX11, "lowest", "(III)I"⟩
abbrev cX11_odds : ByteArray := prog_13_method_55_code
def yX11_odds : MethodName := ⟨RX11, "odds", "(III)I"⟩
abbrev cX11_hears : ByteArray := prog_13_method_56_code
def yX11_hears : MethodName := ⟨RX11, "hears", "(II)I"⟩
abbrev cX11_forget : ByteArray := prog_13_method_57_code
def yX11_forget : MethodName := ⟨RX11, "forget", "()I"⟩
abbrev cX11_who : ByteArray := prog_13_method_58_code
def yX11_who : MethodName := ⟨RX11, "who", "()I"⟩
abbrev cX11_ask : ByteArray := prog_13_method_59_code
def yX11_ask : MethodName := ⟨RX11, "ask", "()I"⟩
abbrev cX11_mark : ByteArray := prog_13_method_60_code
def yX11_mark : MethodName := ⟨RX11, "mark", "(II)I"⟩
abbrev cX11_keep : ByteArray := prog_13_method_61_code
def yX11_keep : MethodName := ⟨RX11, "keep", "(I)I"⟩
abbrev cX11_back : ByteArray := prog_13_method_62_code
def yX11_back : MethodName := ⟨RX11, "back", "(I)I"⟩
abbrev cX11_count : ByteArray := prog_13_method_63_code
def yX11_count : MethodName := ⟨RX11, "count", "(I)I"⟩
abbrev cX11_trace : ByteArray := prog_13_method_64_code
def yX11_trace : MethodName := ⟨RX11, "trace", "()J"⟩
def RJ6 : String := "java/lang/Integer"
def TJ6 : u_T := fun k => match k with
  | _ => ("", "", "", false)
def tyJ6 : Nat → FieldType := fun k => match k with
  | _ => .int
abbrev wsJ60 : List Cond := u_ws RJ6 TJ6 0
theorem nmJ6 : ∀ a, a < 0 → ∀ b, b < 0 → a ≠ b → (TJ6 a).2.1 ≠ (TJ6 b).2.1 := by decide +kernel
theorem tyJ6_ok : ∀ k, k < 0 → parseFieldDescriptor (TJ6 k).2.2.1 = some (tyJ6 k) := by decide +kernel
abbrev cJ6_bitCount_0f7a4 : ByteArray := prog_14_method_49_code
def yJ6_bitCount_0f7a4 : MethodName := ⟨RJ6, "bitCount", "(I)I"⟩
def RJ9 : String := "java/lang/Math"
def TJ9 : u_T := fun k => match k with
  | _ => ("", "", "", false)
def tyJ9 : Nat → FieldType := fun k => match k with
  | _ => .int
abbrev wsJ90 : List Cond := u_ws RJ9 TJ9 0
theorem nmJ9 : ∀ a, a < 0 → ∀ b, b < 0 → a ≠ b → (TJ9 a).2.1 ≠ (TJ9 b).2.1 := by decide +kernel
theorem tyJ9_ok : ∀ k, k < 0 → parseFieldDescriptor (TJ9 k).2.2.1 = some (tyJ9 k) := by decide +kernel
abbrev cJ9_max_7cf53 : ByteArray := prog_15_method_65_code
def yJ9_max_7cf53 : MethodName := ⟨RJ9, "max", "(II)I"⟩
abbrev cJ9_min_7cf53 : ByteArray := prog_15_method_69_code
def yJ9_min_7cf53 : MethodName := ⟨RJ9, "min", "(II)I"⟩
def RJ10 : String := "java/lang/System"
def TJ10 : u_T := fun k => match k with
  | _ => ("", "", "", false)
def tyJ10 : Nat → FieldType := fun k => match k with
  | _ => .int
abbrev wsJ100 : List Cond := u_ws RJ10 TJ10 0
theorem nmJ10 : ∀ a, a < 0 → ∀ b, b < 0 → a ≠ b → (TJ10 a).2.1 ≠ (TJ10 b).2.1 := by decide +kernel
theorem tyJ10_ok : ∀ k, k < 0 → parseFieldDescriptor (TJ10 k).2.2.1 = some (tyJ10 k) := by decide +kernel
def RJ7 : String := "java/util/Arrays"
def TJ7 : u_T := fun k => match k with
  | _ => ("", "", "", false)
def tyJ7 : Nat → FieldType := fun k => match k with
  | _ => .int
abbrev wsJ70 : List Cond := u_ws RJ7 TJ7 0
theorem nmJ7 : ∀ a, a < 0 → ∀ b, b < 0 → a ≠ b → (TJ7 a).2.1 ≠ (TJ7 b).2.1 := by decide +kernel
theorem tyJ7_ok : ∀ k, k < 0 → parseFieldDescriptor (TJ7 k).2.2.1 = some (tyJ7 k) := by decide +kernel
abbrev cJ7_fill_53178 : ByteArray := prog_17_method_103_code
def yJ7_fill_53178 : MethodName := ⟨RJ7, "fill", "([II)V"⟩
def RL : String := "CastGalleryLaw"
abbrev cL_law : ByteArray := code
def yL_law : MethodName := ⟨RL, "law", "([I)Z"⟩
abbrev vwCl : List vw_C := [(RX0, TX0, 2), (RX1, TX1, 4), (RX2, TX2, 3), (RX3, TX3, 2), (RX4, TX4, 7), (RX5, TX5, 3), (RX6, TX6, 3), (RX7, TX7, 3), (RX8, TX8, 8), (RX9, TX9, 9), (RX10, TX10, 8), (RX11, TX11, 32)]
