section
-- ===== PART A: goes FIRST, ahead of the names: the tables' words, and 'selects' of the private methods out of them =====
/-- a private method of a class that the tables say can be made, by its rows of tables_1 -/
def lw_okq (q : MethodName × Nat) : Prop := (q.1.cls ≠ "java/lang/invoke/MethodHandle" ∧ q.1.cls ≠ "java/lang/invoke/VarHandle") ∧ Cond.instantiable q.1.cls q.2 ∈ tables_1 ∧ Cond.privateMethod q.1 ∈ tables_1 ∧ Cond.instanceMethod q.1 ∈ tables_1
theorem lw_p0 : lw_okq (⟨"CastGallery$Reader", "look", "()V"⟩, 8) := ⟨⟨by decide +kernel, by decide +kernel⟩, List.mem_of_getElem? (i := 26) (by decide +kernel), List.mem_of_getElem? (i := 343) (by decide +kernel), List.mem_of_getElem? (i := 344) (by decide +kernel)⟩
theorem lw_p1 : lw_okq (⟨"CastGallery$Reader", "lookAtLetters", "()V"⟩, 8) := ⟨⟨by decide +kernel, by decide +kernel⟩, List.mem_of_getElem? (i := 26) (by decide +kernel), List.mem_of_getElem? (i := 350) (by decide +kernel), List.mem_of_getElem? (i := 351) (by decide +kernel)⟩
theorem lw_p2 : lw_okq (⟨"CastGallery$Reader", "lookAtNumber", "()V"⟩, 8) := ⟨⟨by decide +kernel, by decide +kernel⟩, List.mem_of_getElem? (i := 26) (by decide +kernel), List.mem_of_getElem? (i := 357) (by decide +kernel), List.mem_of_getElem? (i := 358) (by decide +kernel)⟩
theorem lw_p3 : lw_okq (⟨"CastGallery$Reader", "readsItem", "()Z"⟩, 8) := ⟨⟨by decide +kernel, by decide +kernel⟩, List.mem_of_getElem? (i := 26) (by decide +kernel), List.mem_of_getElem? (i := 364) (by decide +kernel), List.mem_of_getElem? (i := 365) (by decide +kernel)⟩
theorem lw_p4 : lw_okq (⟨"CastGallery$Reader", "fitsThing", "(I)Z"⟩, 8) := ⟨⟨by decide +kernel, by decide +kernel⟩, List.mem_of_getElem? (i := 26) (by decide +kernel), List.mem_of_getElem? (i := 368) (by decide +kernel), List.mem_of_getElem? (i := 369) (by decide +kernel)⟩
theorem lw_p5 : lw_okq (⟨"CastGallery$Reader", "fitsCast", "(I)Z"⟩, 8) := ⟨⟨by decide +kernel, by decide +kernel⟩, List.mem_of_getElem? (i := 26) (by decide +kernel), List.mem_of_getElem? (i := 376) (by decide +kernel), List.mem_of_getElem? (i := 377) (by decide +kernel)⟩
theorem lw_p6 : lw_okq (⟨"CastGallery$Hall", "attend", "(II)V"⟩, 2) := ⟨⟨by decide +kernel, by decide +kernel⟩, List.mem_of_getElem? (i := 125) (by decide +kernel), List.mem_of_getElem? (i := 477) (by decide +kernel), List.mem_of_getElem? (i := 478) (by decide +kernel)⟩
theorem lw_p7 : lw_okq (⟨"CastGallery$Hall", "stepTo", "(II)I"⟩, 2) := ⟨⟨by decide +kernel, by decide +kernel⟩, List.mem_of_getElem? (i := 125) (by decide +kernel), List.mem_of_getElem? (i := 529) (by decide +kernel), List.mem_of_getElem? (i := 530) (by decide +kernel)⟩
theorem lw_p8 : lw_okq (⟨"CastGallery$Planner", "learnable", "(I)I"⟩, 3) := ⟨⟨by decide +kernel, by decide +kernel⟩, List.mem_of_getElem? (i := 236) (by decide +kernel), List.mem_of_getElem? (i := 559) (by decide +kernel), List.mem_of_getElem? (i := 560) (by decide +kernel)⟩
theorem lw_p9 : lw_okq (⟨"CastGallery$Planner", "isWhole", "(II)Z"⟩, 3) := ⟨⟨by decide +kernel, by decide +kernel⟩, List.mem_of_getElem? (i := 236) (by decide +kernel), List.mem_of_getElem? (i := 587) (by decide +kernel), List.mem_of_getElem? (i := 588) (by decide +kernel)⟩
theorem lw_p10 : lw_okq (⟨"CastGallery$Owners", "mostFrom", "(II)I"⟩, 3) := ⟨⟨by decide +kernel, by decide +kernel⟩, List.mem_of_getElem? (i := 252) (by decide +kernel), List.mem_of_getElem? (i := 601) (by decide +kernel), List.mem_of_getElem? (i := 602) (by decide +kernel)⟩
theorem lw_p11 : lw_okq (⟨"CastGallery$Owners", "firstOf", "(II)I"⟩, 3) := ⟨⟨by decide +kernel, by decide +kernel⟩, List.mem_of_getElem? (i := 252) (by decide +kernel), List.mem_of_getElem? (i := 615) (by decide +kernel), List.mem_of_getElem? (i := 616) (by decide +kernel)⟩
theorem lw_p12 : lw_okq (⟨"CastGallery$Kinds", "asApollo", "(I)I"⟩, 2) := ⟨⟨by decide +kernel, by decide +kernel⟩, List.mem_of_getElem? (i := 288) (by decide +kernel), List.mem_of_getElem? (i := 679) (by decide +kernel), List.mem_of_getElem? (i := 680) (by decide +kernel)⟩
theorem lw_p13 : lw_okq (⟨"CastGallery$Kinds", "asCast", "(I)I"⟩, 2) := ⟨⟨by decide +kernel, by decide +kernel⟩, List.mem_of_getElem? (i := 288) (by decide +kernel), List.mem_of_getElem? (i := 684) (by decide +kernel), List.mem_of_getElem? (i := 685) (by decide +kernel)⟩
theorem lw_p14 : lw_okq (⟨"CastGallery$Kinds", "asVenus", "(I)I"⟩, 2) := ⟨⟨by decide +kernel, by decide +kernel⟩, List.mem_of_getElem? (i := 288) (by decide +kernel), List.mem_of_getElem? (i := 689) (by decide +kernel), List.mem_of_getElem? (i := 690) (by decide +kernel)⟩
theorem lw_p15 : lw_okq (⟨"CastGallery$Kinds", "asThrower", "(I)I"⟩, 2) := ⟨⟨by decide +kernel, by decide +kernel⟩, List.mem_of_getElem? (i := 288) (by decide +kernel), List.mem_of_getElem? (i := 694) (by decide +kernel), List.mem_of_getElem? (i := 695) (by decide +kernel)⟩
def lw_privs_1 : List (MethodName × Nat) := [(⟨"CastGallery$Reader", "look", "()V"⟩, 8), (⟨"CastGallery$Reader", "lookAtLetters", "()V"⟩, 8), (⟨"CastGallery$Reader", "lookAtNumber", "()V"⟩, 8), (⟨"CastGallery$Reader", "readsItem", "()Z"⟩, 8), (⟨"CastGallery$Reader", "fitsThing", "(I)Z"⟩, 8), (⟨"CastGallery$Reader", "fitsCast", "(I)Z"⟩, 8), (⟨"CastGallery$Hall", "attend", "(II)V"⟩, 2), (⟨"CastGallery$Hall", "stepTo", "(II)I"⟩, 2), (⟨"CastGallery$Planner", "learnable", "(I)I"⟩, 3), (⟨"CastGallery$Planner", "isWhole", "(II)Z"⟩, 3), (⟨"CastGallery$Owners", "mostFrom", "(II)I"⟩, 3), (⟨"CastGallery$Owners", "firstOf", "(II)I"⟩, 3), (⟨"CastGallery$Kinds", "asApollo", "(I)I"⟩, 2), (⟨"CastGallery$Kinds", "asCast", "(I)I"⟩, 2), (⟨"CastGallery$Kinds", "asVenus", "(I)I"⟩, 2), (⟨"CastGallery$Kinds", "asThrower", "(I)I"⟩, 2)]
theorem lw_r1 : ∀ q ∈ lw_privs_1, lw_okq q := List.forall_mem_cons.mpr ⟨lw_p0, List.forall_mem_cons.mpr ⟨lw_p1, List.forall_mem_cons.mpr ⟨lw_p2, List.forall_mem_cons.mpr ⟨lw_p3, List.forall_mem_cons.mpr ⟨lw_p4, List.forall_mem_cons.mpr ⟨lw_p5, List.forall_mem_cons.mpr ⟨lw_p6, List.forall_mem_cons.mpr ⟨lw_p7, List.forall_mem_cons.mpr ⟨lw_p8, List.forall_mem_cons.mpr ⟨lw_p9, List.forall_mem_cons.mpr ⟨lw_p10, List.forall_mem_cons.mpr ⟨lw_p11, List.forall_mem_cons.mpr ⟨lw_p12, List.forall_mem_cons.mpr ⟨lw_p13, List.forall_mem_cons.mpr ⟨lw_p14, List.forall_mem_cons.mpr ⟨lw_p15, fun _ h => absurd h List.not_mem_nil⟩⟩⟩⟩⟩⟩⟩⟩⟩⟩⟩⟩⟩⟩⟩⟩
theorem lw_p16 : lw_okq (⟨"CastGallery$Kinds", "asMuse", "(I)I"⟩, 2) := ⟨⟨by decide +kernel, by decide +kernel⟩, List.mem_of_getElem? (i := 288) (by decide +kernel), List.mem_of_getElem? (i := 699) (by decide +kernel), List.mem_of_getElem? (i := 700) (by decide +kernel)⟩
theorem lw_p17 : lw_okq (⟨"CastGallery$Kinds", "asLoan", "(I)I"⟩, 2) := ⟨⟨by decide +kernel, by decide +kernel⟩, List.mem_of_getElem? (i := 288) (by decide +kernel), List.mem_of_getElem? (i := 704) (by decide +kernel), List.mem_of_getElem? (i := 705) (by decide +kernel)⟩
theorem lw_p18 : lw_okq (⟨"CastGalleryModel", "next", "()V"⟩, 32) := ⟨⟨by decide +kernel, by decide +kernel⟩, List.mem_of_getElem? (i := 740) (by decide +kernel), List.mem_of_getElem? (i := 859) (by decide +kernel), List.mem_of_getElem? (i := 860) (by decide +kernel)⟩
theorem lw_p19 : lw_okq (⟨"CastGalleryModel", "letterAt", "(I)I"⟩, 32) := ⟨⟨by decide +kernel, by decide +kernel⟩, List.mem_of_getElem? (i := 740) (by decide +kernel), List.mem_of_getElem? (i := 863) (by decide +kernel), List.mem_of_getElem? (i := 864) (by decide +kernel)⟩
theorem lw_p20 : lw_okq (⟨"CastGalleryModel", "readItem", "()V"⟩, 32) := ⟨⟨by decide +kernel, by decide +kernel⟩, List.mem_of_getElem? (i := 740) (by decide +kernel), List.mem_of_getElem? (i := 873) (by decide +kernel), List.mem_of_getElem? (i := 874) (by decide +kernel)⟩
theorem lw_p21 : lw_okq (⟨"CastGalleryModel", "readThing", "()V"⟩, 32) := ⟨⟨by decide +kernel, by decide +kernel⟩, List.mem_of_getElem? (i := 740) (by decide +kernel), List.mem_of_getElem? (i := 877) (by decide +kernel), List.mem_of_getElem? (i := 878) (by decide +kernel)⟩
theorem lw_p22 : lw_okq (⟨"CastGalleryModel", "takesNumber", "(II)I"⟩, 32) := ⟨⟨by decide +kernel, by decide +kernel⟩, List.mem_of_getElem? (i := 740) (by decide +kernel), List.mem_of_getElem? (i := 881) (by decide +kernel), List.mem_of_getElem? (i := 882) (by decide +kernel)⟩
theorem lw_p23 : lw_okq (⟨"CastGalleryModel", "readCast", "()V"⟩, 32) := ⟨⟨by decide +kernel, by decide +kernel⟩, List.mem_of_getElem? (i := 740) (by decide +kernel), List.mem_of_getElem? (i := 885) (by decide +kernel), List.mem_of_getElem? (i := 886) (by decide +kernel)⟩
theorem lw_p24 : lw_okq (⟨"CastGalleryModel", "settles", "()V"⟩, 32) := ⟨⟨by decide +kernel, by decide +kernel⟩, List.mem_of_getElem? (i := 740) (by decide +kernel), List.mem_of_getElem? (i := 889) (by decide +kernel), List.mem_of_getElem? (i := 890) (by decide +kernel)⟩
theorem lw_p25 : lw_okq (⟨"CastGalleryModel", "isThing", "(I)Z"⟩, 32) := ⟨⟨by decide +kernel, by decide +kernel⟩, List.mem_of_getElem? (i := 740) (by decide +kernel), List.mem_of_getElem? (i := 897) (by decide +kernel), List.mem_of_getElem? (i := 898) (by decide +kernel)⟩
theorem lw_p26 : lw_okq (⟨"CastGalleryModel", "whoCan", "(I)I"⟩, 32) := ⟨⟨by decide +kernel, by decide +kernel⟩, List.mem_of_getElem? (i := 740) (by decide +kernel), List.mem_of_getElem? (i := 901) (by decide +kernel), List.mem_of_getElem? (i := 902) (by decide +kernel)⟩
theorem lw_p27 : lw_okq (⟨"CastGalleryModel", "can", "(II)Z"⟩, 32) := ⟨⟨by decide +kernel, by decide +kernel⟩, List.mem_of_getElem? (i := 740) (by decide +kernel), List.mem_of_getElem? (i := 905) (by decide +kernel), List.mem_of_getElem? (i := 906) (by decide +kernel)⟩
theorem lw_p28 : lw_okq (⟨"CastGalleryModel", "isCast", "(I)Z"⟩, 32) := ⟨⟨by decide +kernel, by decide +kernel⟩, List.mem_of_getElem? (i := 740) (by decide +kernel), List.mem_of_getElem? (i := 916) (by decide +kernel), List.mem_of_getElem? (i := 917) (by decide +kernel)⟩
theorem lw_p29 : lw_okq (⟨"CastGalleryModel", "isBroken", "(I)Z"⟩, 32) := ⟨⟨by decide +kernel, by decide +kernel⟩, List.mem_of_getElem? (i := 740) (by decide +kernel), List.mem_of_getElem? (i := 920) (by decide +kernel), List.mem_of_getElem? (i := 921) (by decide +kernel)⟩
theorem lw_p30 : lw_okq (⟨"CastGalleryModel", "mays", "(I)I"⟩, 32) := ⟨⟨by decide +kernel, by decide +kernel⟩, List.mem_of_getElem? (i := 740) (by decide +kernel), List.mem_of_getElem? (i := 924) (by decide +kernel), List.mem_of_getElem? (i := 925) (by decide +kernel)⟩
theorem lw_p31 : lw_okq (⟨"CastGalleryModel", "may", "(II)Z"⟩, 32) := ⟨⟨by decide +kernel, by decide +kernel⟩, List.mem_of_getElem? (i := 740) (by decide +kernel), List.mem_of_getElem? (i := 928) (by decide +kernel), List.mem_of_getElem? (i := 929) (by decide +kernel)⟩
def lw_privs_2 : List (MethodName × Nat) := [(⟨"CastGallery$Kinds", "asMuse", "(I)I"⟩, 2), (⟨"CastGallery$Kinds", "asLoan", "(I)I"⟩, 2), (⟨"CastGalleryModel", "next", "()V"⟩, 32), (⟨"CastGalleryModel", "letterAt", "(I)I"⟩, 32), (⟨"CastGalleryModel", "readItem", "()V"⟩, 32), (⟨"CastGalleryModel", "readThing", "()V"⟩, 32), (⟨"CastGalleryModel", "takesNumber", "(II)I"⟩, 32), (⟨"CastGalleryModel", "readCast", "()V"⟩, 32), (⟨"CastGalleryModel", "settles", "()V"⟩, 32), (⟨"CastGalleryModel", "isThing", "(I)Z"⟩, 32), (⟨"CastGalleryModel", "whoCan", "(I)I"⟩, 32), (⟨"CastGalleryModel", "can", "(II)Z"⟩, 32), (⟨"CastGalleryModel", "isCast", "(I)Z"⟩, 32), (⟨"CastGalleryModel", "isBroken", "(I)Z"⟩, 32), (⟨"CastGalleryModel", "mays", "(I)I"⟩, 32), (⟨"CastGalleryModel", "may", "(II)Z"⟩, 32)]
theorem lw_r2 : ∀ q ∈ lw_privs_2, lw_okq q := List.forall_mem_cons.mpr ⟨lw_p16, List.forall_mem_cons.mpr ⟨lw_p17, List.forall_mem_cons.mpr ⟨lw_p18, List.forall_mem_cons.mpr ⟨lw_p19, List.forall_mem_cons.mpr ⟨lw_p20, List.forall_mem_cons.mpr ⟨lw_p21, List.forall_mem_cons.mpr ⟨lw_p22, List.forall_mem_cons.mpr ⟨lw_p23, List.forall_mem_cons.mpr ⟨lw_p24, List.forall_mem_cons.mpr ⟨lw_p25, List.forall_mem_cons.mpr ⟨lw_p26, List.forall_mem_cons.mpr ⟨lw_p27, List.forall_mem_cons.mpr ⟨lw_p28, List.forall_mem_cons.mpr ⟨lw_p29, List.forall_mem_cons.mpr ⟨lw_p30, List.forall_mem_cons.mpr ⟨lw_p31, fun _ h => absurd h List.not_mem_nil⟩⟩⟩⟩⟩⟩⟩⟩⟩⟩⟩⟩⟩⟩⟩⟩
theorem lw_p32 : lw_okq (⟨"CastGalleryModel", "hasPart", "(II)Z"⟩, 32) := ⟨⟨by decide +kernel, by decide +kernel⟩, List.mem_of_getElem? (i := 740) (by decide +kernel), List.mem_of_getElem? (i := 932) (by decide +kernel), List.mem_of_getElem? (i := 933) (by decide +kernel)⟩
theorem lw_p33 : lw_okq (⟨"CastGalleryModel", "remembers", "()V"⟩, 32) := ⟨⟨by decide +kernel, by decide +kernel⟩, List.mem_of_getElem? (i := 740) (by decide +kernel), List.mem_of_getElem? (i := 944) (by decide +kernel), List.mem_of_getElem? (i := 945) (by decide +kernel)⟩
theorem lw_p34 : lw_okq (⟨"CastGalleryModel", "learns", "(II)V"⟩, 32) := ⟨⟨by decide +kernel, by decide +kernel⟩, List.mem_of_getElem? (i := 740) (by decide +kernel), List.mem_of_getElem? (i := 952) (by decide +kernel), List.mem_of_getElem? (i := 953) (by decide +kernel)⟩
theorem lw_p35 : lw_okq (⟨"CastGalleryModel", "inClass", "()I"⟩, 32) := ⟨⟨by decide +kernel, by decide +kernel⟩, List.mem_of_getElem? (i := 740) (by decide +kernel), List.mem_of_getElem? (i := 975) (by decide +kernel), List.mem_of_getElem? (i := 976) (by decide +kernel)⟩
theorem lw_p36 : lw_okq (⟨"CastGalleryModel", "learntAll", "()I"⟩, 32) := ⟨⟨by decide +kernel, by decide +kernel⟩, List.mem_of_getElem? (i := 740) (by decide +kernel), List.mem_of_getElem? (i := 979) (by decide +kernel), List.mem_of_getElem? (i := 980) (by decide +kernel)⟩
theorem lw_p37 : lw_okq (⟨"CastGalleryModel", "tree", "()I"⟩, 32) := ⟨⟨by decide +kernel, by decide +kernel⟩, List.mem_of_getElem? (i := 740) (by decide +kernel), List.mem_of_getElem? (i := 983) (by decide +kernel), List.mem_of_getElem? (i := 984) (by decide +kernel)⟩
theorem lw_p38 : lw_okq (⟨"CastGalleryModel", "between", "(II)I"⟩, 32) := ⟨⟨by decide +kernel, by decide +kernel⟩, List.mem_of_getElem? (i := 740) (by decide +kernel), List.mem_of_getElem? (i := 987) (by decide +kernel), List.mem_of_getElem? (i := 988) (by decide +kernel)⟩
theorem lw_p39 : lw_okq (⟨"CastGalleryModel", "wanted", "(II)I"⟩, 32) := ⟨⟨by decide +kernel, by decide +kernel⟩, List.mem_of_getElem? (i := 740) (by decide +kernel), List.mem_of_getElem? (i := 995) (by decide +kernel), List.mem_of_getElem? (i := 996) (by decide +kernel)⟩
theorem lw_p40 : lw_okq (⟨"CastGalleryModel", "bears", "(II)Z"⟩, 32) := ⟨⟨by decide +kernel, by decide +kernel⟩, List.mem_of_getElem? (i := 740) (by decide +kernel), List.mem_of_getElem? (i := 999) (by decide +kernel), List.mem_of_getElem? (i := 1000) (by decide +kernel)⟩
theorem lw_p41 : lw_okq (⟨"CastGalleryModel", "cracksOf", "(II)I"⟩, 32) := ⟨⟨by decide +kernel, by decide +kernel⟩, List.mem_of_getElem? (i := 740) (by decide +kernel), List.mem_of_getElem? (i := 1003) (by decide +kernel), List.mem_of_getElem? (i := 1004) (by decide +kernel)⟩
theorem lw_p42 : lw_okq (⟨"CastGalleryModel", "nightsFor", "(II)I"⟩, 32) := ⟨⟨by decide +kernel, by decide +kernel⟩, List.mem_of_getElem? (i := 740) (by decide +kernel), List.mem_of_getElem? (i := 1007) (by decide +kernel), List.mem_of_getElem? (i := 1008) (by decide +kernel)⟩
theorem lw_p43 : lw_okq (⟨"CastGalleryModel", "nightsOf", "(II)I"⟩, 32) := ⟨⟨by decide +kernel, by decide +kernel⟩, List.mem_of_getElem? (i := 740) (by decide +kernel), List.mem_of_getElem? (i := 1011) (by decide +kernel), List.mem_of_getElem? (i := 1012) (by decide +kernel)⟩
theorem lw_p44 : lw_okq (⟨"CastGalleryModel", "isWhole", "(II)Z"⟩, 32) := ⟨⟨by decide +kernel, by decide +kernel⟩, List.mem_of_getElem? (i := 740) (by decide +kernel), List.mem_of_getElem? (i := 1022) (by decide +kernel), List.mem_of_getElem? (i := 1023) (by decide +kernel)⟩
theorem lw_p45 : lw_okq (⟨"CastGalleryModel", "layMost", "()V"⟩, 32) := ⟨⟨by decide +kernel, by decide +kernel⟩, List.mem_of_getElem? (i := 740) (by decide +kernel), List.mem_of_getElem? (i := 1030) (by decide +kernel), List.mem_of_getElem? (i := 1031) (by decide +kernel)⟩
theorem lw_p46 : lw_okq (⟨"CastGalleryModel", "givenTo", "(II)I"⟩, 32) := ⟨⟨by decide +kernel, by decide +kernel⟩, List.mem_of_getElem? (i := 740) (by decide +kernel), List.mem_of_getElem? (i := 1034) (by decide +kernel), List.mem_of_getElem? (i := 1035) (by decide +kernel)⟩
def lw_privs_3 : List (MethodName × Nat) := [(⟨"CastGalleryModel", "hasPart", "(II)Z"⟩, 32), (⟨"CastGalleryModel", "remembers", "()V"⟩, 32), (⟨"CastGalleryModel", "learns", "(II)V"⟩, 32), (⟨"CastGalleryModel", "inClass", "()I"⟩, 32), (⟨"CastGalleryModel", "learntAll", "()I"⟩, 32), (⟨"CastGalleryModel", "tree", "()I"⟩, 32), (⟨"CastGalleryModel", "between", "(II)I"⟩, 32), (⟨"CastGalleryModel", "wanted", "(II)I"⟩, 32), (⟨"CastGalleryModel", "bears", "(II)Z"⟩, 32), (⟨"CastGalleryModel", "cracksOf", "(II)I"⟩, 32), (⟨"CastGalleryModel", "nightsFor", "(II)I"⟩, 32), (⟨"CastGalleryModel", "nightsOf", "(II)I"⟩, 32), (⟨"CastGalleryModel", "isWhole", "(II)Z"⟩, 32), (⟨"CastGalleryModel", "layMost", "()V"⟩, 32), (⟨"CastGalleryModel", "givenTo", "(II)I"⟩, 32)]
theorem lw_r3 : ∀ q ∈ lw_privs_3, lw_okq q := List.forall_mem_cons.mpr ⟨lw_p32, List.forall_mem_cons.mpr ⟨lw_p33, List.forall_mem_cons.mpr ⟨lw_p34, List.forall_mem_cons.mpr ⟨lw_p35, List.forall_mem_cons.mpr ⟨lw_p36, List.forall_mem_cons.mpr ⟨lw_p37, List.forall_mem_cons.mpr ⟨lw_p38, List.forall_mem_cons.mpr ⟨lw_p39, List.forall_mem_cons.mpr ⟨lw_p40, List.forall_mem_cons.mpr ⟨lw_p41, List.forall_mem_cons.mpr ⟨lw_p42, List.forall_mem_cons.mpr ⟨lw_p43, List.forall_mem_cons.mpr ⟨lw_p44, List.forall_mem_cons.mpr ⟨lw_p45, List.forall_mem_cons.mpr ⟨lw_p46, fun _ h => absurd h List.not_mem_nil⟩⟩⟩⟩⟩⟩⟩⟩⟩⟩⟩⟩⟩⟩⟩
def lw_privs : List (MethodName × Nat) := lw_privs_1 ++ (lw_privs_2 ++ (lw_privs_3))
def lw_tbl : List Cond := k2_sels lw_privs ++ tables_1
theorem lw_privs_ok : ∀ q ∈ lw_privs, lw_okq q := by
  show ∀ q ∈ lw_privs_1 ++ (lw_privs_2 ++ (lw_privs_3)), lw_okq q
  exact List.forall_mem_append.mpr ⟨lw_r1, List.forall_mem_append.mpr ⟨lw_r2, lw_r3⟩⟩

/-! ===== BEGIN words of one list among another's, by their places ===== -/
theorem goodIn_r {big : List Cond} (ws : List Cond) (ps : List Nat) (hp : ws = ps.filterMap (fun i => big[i]?)) (h : ws.all goodWord = true) : GoodIn big ws := by
  intro w hw
  have h1 := List.all_eq_true.mp h w hw
  rw [hp] at hw
  obtain ⟨i, -, hi⟩ := List.mem_filterMap.mp hw
  have hm : w ∈ big := by first | exact List.mem_of_getElem? hi | exact List.getElem?_mem hi
  exact ⟨hm, good_of_word h1⟩
theorem goodIn_app {big a b : List Cond} (ha : GoodIn big a) (hb : GoodIn big b) : GoodIn big (a ++ b) := fun w h => (List.mem_append.mp h).elim (ha w) (hb w)
theorem goodIn_ca {big a b : List Cond} {c : Cond} (ha : GoodIn big (c :: a)) (hb : GoodIn big b) : GoodIn big (c :: (a ++ b)) := fun w h => (List.mem_cons.mp h).elim (fun e => ha w (List.mem_cons.mpr (Or.inl e))) (fun h => (List.mem_append.mp h).elim (fun h => ha w (List.mem_cons.mpr (Or.inr h))) (hb w))
theorem goodIn_sub {big ws : List Cond} (hm : ∀ w ∈ ws, w ∈ big) (h : ws.all goodWord = true) : GoodIn big ws := fun w hw => ⟨hm w hw, good_of_word (List.all_eq_true.mp h w hw)⟩
/-! ===== END ===== -/
def RX0 : String := "CastGallery$Hall"
def TX0 : u_T := fun k => match k with
  | 0 => ("CastGallery$Hall", "told", "LCastGallery$Told;", true)
  | _ => ("CastGallery$Hall", "moment", "LCastGallery$Moment;", true)
def tyX0 : Nat → FieldType := fun k => match k with
  | 0 => .object "CastGallery$Told"
  | _ => .object "CastGallery$Moment"
abbrev wsX00 : List Cond := u_ws RX0 TX0 2
theorem nmX0 : ∀ a, a < 2 → ∀ b, b < 2 → a ≠ b → (TX0 a).2.1 ≠ (TX0 b).2.1 := by decide +kernel
theorem tyX0_ok : ∀ k, k < 2 → parseFieldDescriptor (TX0 k).2.2.1 = some (tyX0 k) := by decide +kernel
abbrev cX0_init : ByteArray := prog_2_method_1_code
def yX0_init : MethodName := ⟨RX0, "<init>", "()V"⟩
abbrev cX0_beginAs : ByteArray := prog_2_method_2_code
def yX0_beginAs : MethodName := ⟨RX0, "beginAs", "(LCastGallery$Told;)V"⟩
abbrev cX0_isThing : ByteArray := prog_2_method_3_code
def yX0_isThing : MethodName := ⟨RX0, "isThing", "(I)Z"⟩
abbrev cX0_isCast : ByteArray := prog_2_method_4_code
def yX0_isCast : MethodName := ⟨RX0, "isCast", "(I)Z"⟩
abbrev cX0_isBroken : ByteArray := prog_2_method_5_code
def yX0_isBroken : MethodName := ⟨RX0, "isBroken", "(I)Z"⟩
abbrev cX0_lacksPartOf : ByteArray := prog_2_method_6_code
def yX0_lacksPartOf : MethodName := ⟨RX0, "lacksPartOf", "(II)Z"⟩
abbrev cX0_may : ByteArray := prog_2_method_7_code
def yX0_may : MethodName := ⟨RX0, "may", "(II)Z"⟩
abbrev cX0_allItMay : ByteArray := prog_2_method_8_code
def yX0_allItMay : MethodName := ⟨RX0, "allItMay", "(I)I"⟩
abbrev cX0_whoCan : ByteArray := prog_2_method_9_code
def yX0_whoCan : MethodName := ⟨RX0, "whoCan", "(I)I"⟩
abbrev cX0_whoIsInClass : ByteArray := prog_2_method_10_code
def yX0_whoIsInClass : MethodName := ⟨RX0, "whoIsInClass", "()I"⟩
abbrev cX0_learntByAll : ByteArray := prog_2_method_11_code
def yX0_learntByAll : MethodName := ⟨RX0, "learntByAll", "()I"⟩
abbrev cX0_passNight : ByteArray := prog_2_method_12_code
def yX0_passNight : MethodName := ⟨RX0, "passNight", "()V"⟩
abbrev cX0_attend : ByteArray := prog_2_method_13_code
def yX0_attend : MethodName := ⟨RX0, "attend", "(II)V"⟩
abbrev cX0_joinOn : ByteArray := prog_2_method_14_code
def yX0_joinOn : MethodName := ⟨RX0, "joinOn", "(III)V"⟩
abbrev cX0_unlikeParts : ByteArray := prog_2_method_15_code
def yX0_unlikeParts : MethodName := ⟨RX0, "unlikeParts", "(II)I"⟩
abbrev cX0_leastTree : ByteArray := prog_2_method_16_code
def yX0_leastTree : MethodName := ⟨RX0, "leastTree", "()I"⟩
abbrev cX0_stepTo : ByteArray := prog_2_method_17_code
def yX0_stepTo : MethodName := ⟨RX0, "stepTo", "(II)I"⟩
def RX1 : String := "CastGallery$Hearsay"
def TX1 : u_T := fun k => match k with
  | 0 => ("CastGallery$Hearsay", "hall", "LCastGallery$Hall;", true)
  | 1 => ("CastGallery$Hearsay", "things", "[I", true)
  | 2 => ("CastGallery$Hearsay", "cans", "[I", true)
  | _ => ("CastGallery$Hearsay", "held", "I", false)
def tyX1 : Nat → FieldType := fun k => match k with
  | 0 => .object "CastGallery$Hall"
  | 1 => .array .int
  | 2 => .array .int
  | _ => .int
abbrev wsX10 : List Cond := u_ws RX1 TX1 4
theorem nmX1 : ∀ a, a < 4 → ∀ b, b < 4 → a ≠ b → (TX1 a).2.1 ≠ (TX1 b).2.1 := by decide +kernel
theorem tyX1_ok : ∀ k, k < 4 → parseFieldDescriptor (TX1 k).2.2.1 = some (tyX1 k) := by decide +kernel
abbrev cX1_init : ByteArray := prog_3_method_1_code
def yX1_init : MethodName := ⟨RX1, "<init>", "(LCastGallery$Hall;)V"⟩
abbrev cX1_add : ByteArray := prog_3_method_2_code
def yX1_add : MethodName := ⟨RX1, "add", "(II)V"⟩
abbrev cX1_suspects : ByteArray := prog_3_method_3_code
def yX1_suspects : MethodName := ⟨RX1, "suspects", "()I"⟩
abbrev cX1_bestQuestion : ByteArray := prog_3_method_4_code
def yX1_bestQuestion : MethodName := ⟨RX1, "bestQuestion", "()I"⟩
def RX2 : String := "CastGallery$Image"
def TX2 : u_T := fun k => match k with
  | 0 => ("CastGallery$Image", "row", "[I", true)
  | 1 => ("CastGallery$Image", "past", "LCastGallery$Past;", true)
  | _ => ("CastGallery$Image", "kept", "Z", false)
def tyX2 : Nat → FieldType := fun k => match k with
  | 0 => .array .int
  | 1 => .object "CastGallery$Past"
  | _ => .boolean
abbrev wsX20 : List Cond := u_ws RX2 TX2 3
theorem nmX2 : ∀ a, a < 3 → ∀ b, b < 3 → a ≠ b → (TX2 a).2.1 ≠ (TX2 b).2.1 := by decide +kernel
theorem tyX2_ok : ∀ k, k < 3 → parseFieldDescriptor (TX2 k).2.2.1 = some (tyX2 k) := by decide +kernel
abbrev cX2_init : ByteArray := prog_4_method_1_code
def yX2_init : MethodName := ⟨RX2, "<init>", "()V"⟩
abbrev cX2_take : ByteArray := prog_4_method_2_code
def yX2_take : MethodName := ⟨RX2, "take", "(LCastGallery$Moment;LCastGallery$Past;)V"⟩
abbrev cX2_give : ByteArray := prog_4_method_3_code
def yX2_give : MethodName := ⟨RX2, "give", "(LCastGallery$Moment;LCastGallery$Past;)V"⟩
def RX3 : String := "CastGallery$Kinds"
def TX3 : u_T := fun k => match k with
  | 0 => ("CastGallery$Kinds", "hall", "LCastGallery$Hall;", true)
  | _ => ("CastGallery$Kinds", "traced", "J", false)
def tyX3 : Nat → FieldType := fun k => match k with
  | 0 => .object "CastGallery$Hall"
  | _ => .long
abbrev wsX30 : List Cond := u_ws RX3 TX3 2
theorem nmX3 : ∀ a, a < 2 → ∀ b, b < 2 → a ≠ b → (TX3 a).2.1 ≠ (TX3 b).2.1 := by decide +kernel
theorem tyX3_ok : ∀ k, k < 2 → parseFieldDescriptor (TX3 k).2.2.1 = some (tyX3 k) := by decide +kernel
abbrev cX3_init : ByteArray := prog_5_method_1_code
def yX3_init : MethodName := ⟨RX3, "<init>", "(LCastGallery$Hall;)V"⟩
abbrev cX3_asKind : ByteArray := prog_5_method_2_code
def yX3_asKind : MethodName := ⟨RX3, "asKind", "(II)I"⟩
abbrev cX3_asCast : ByteArray := prog_5_method_3_code
def yX3_asCast : MethodName := ⟨RX3, "asCast", "(I)I"⟩
abbrev cX3_asApollo : ByteArray := prog_5_method_4_code
def yX3_asApollo : MethodName := ⟨RX3, "asApollo", "(I)I"⟩
abbrev cX3_asVenus : ByteArray := prog_5_method_5_code
def yX3_asVenus : MethodName := ⟨RX3, "asVenus", "(I)I"⟩
abbrev cX3_asThrower : ByteArray := prog_5_method_6_code
def yX3_asThrower : MethodName := ⟨RX3, "asThrower", "(I)I"⟩
abbrev cX3_asMuse : ByteArray := prog_5_method_7_code
def yX3_asMuse : MethodName := ⟨RX3, "asMuse", "(I)I"⟩
abbrev cX3_asLoan : ByteArray := prog_5_method_8_code
def yX3_asLoan : MethodName := ⟨RX3, "asLoan", "(I)I"⟩
def RX4 : String := "CastGallery$Moment"
def TX4 : u_T := fun k => match k with
  | 0 => ("CastGallery$Moment", "night", "I", false)
  | 1 => ("CastGallery$Moment", "broken", "I", false)
  | 2 => ("CastGallery$Moment", "far", "[I", true)
  | 3 => ("CastGallery$Moment", "can", "[I", true)
  | 4 => ("CastGallery$Moment", "lacks", "[I", true)
  | 5 => ("CastGallery$Moment", "cracks", "[I", true)
  | _ => ("CastGallery$Moment", "course", "[I", true)
def tyX4 : Nat → FieldType := fun k => match k with
  | 0 => .int
  | 1 => .int
  | 2 => .array .int
  | 3 => .array .int
  | 4 => .array .int
  | 5 => .array .int
  | _ => .array .int
abbrev wsX40 : List Cond := u_ws RX4 TX4 7
theorem nmX4 : ∀ a, a < 7 → ∀ b, b < 7 → a ≠ b → (TX4 a).2.1 ≠ (TX4 b).2.1 := by decide +kernel
theorem tyX4_ok : ∀ k, k < 7 → parseFieldDescriptor (TX4 k).2.2.1 = some (tyX4 k) := by decide +kernel
abbrev cX4_init : ByteArray := prog_6_method_1_code
def yX4_init : MethodName := ⟨RX4, "<init>", "()V"⟩
abbrev cX4_begin : ByteArray := prog_6_method_2_code
def yX4_begin : MethodName := ⟨RX4, "begin", "([I)V"⟩
abbrev cX4_writeTo : ByteArray := prog_6_method_3_code
def yX4_writeTo : MethodName := ⟨RX4, "writeTo", "([II)V"⟩
abbrev cX4_readFrom : ByteArray := prog_6_method_4_code
def yX4_readFrom : MethodName := ⟨RX4, "readFrom", "([II)V"⟩
def RX5 : String := "CastGallery$Owners"
def TX5 : u_T := fun k => match k with
  | 0 => ("CastGallery$Owners", "hall", "LCastGallery$Hall;", true)
  | 1 => ("CastGallery$Owners", "most", "[I", true)
  | _ => ("CastGallery$Owners", "may", "[I", true)
def tyX5 : Nat → FieldType := fun k => match k with
  | 0 => .object "CastGallery$Hall"
  | 1 => .array .int
  | _ => .array .int
abbrev wsX50 : List Cond := u_ws RX5 TX5 3
theorem nmX5 : ∀ a, a < 3 → ∀ b, b < 3 → a ≠ b → (TX5 a).2.1 ≠ (TX5 b).2.1 := by decide +kernel
theorem tyX5_ok : ∀ k, k < 3 → parseFieldDescriptor (TX5 k).2.2.1 = some (tyX5 k) := by decide +kernel
abbrev cX5_init : ByteArray := prog_7_method_1_code
def yX5_init : MethodName := ⟨RX5, "<init>", "(LCastGallery$Hall;)V"⟩
abbrev cX5_weigh : ByteArray := prog_7_method_2_code
def yX5_weigh : MethodName := ⟨RX5, "weigh", "()V"⟩
abbrev cX5_mostFrom : ByteArray := prog_7_method_3_code
def yX5_mostFrom : MethodName := ⟨RX5, "mostFrom", "(II)I"⟩
abbrev cX5_mostSet : ByteArray := prog_7_method_4_code
def yX5_mostSet : MethodName := ⟨RX5, "mostSet", "()I"⟩
abbrev cX5_thingOf : ByteArray := prog_7_method_5_code
def yX5_thingOf : MethodName := ⟨RX5, "thingOf", "(I)I"⟩
abbrev cX5_firstOf : ByteArray := prog_7_method_6_code
def yX5_firstOf : MethodName := ⟨RX5, "firstOf", "(II)I"⟩
def RX6 : String := "CastGallery$Past"
def TX6 : u_T := fun k => match k with
  | 0 => ("CastGallery$Past", "rows", "[I", true)
  | 1 => ("CastGallery$Past", "next", "I", false)
  | _ => ("CastGallery$Past", "held", "I", false)
def tyX6 : Nat → FieldType := fun k => match k with
  | 0 => .array .int
  | 1 => .int
  | _ => .int
abbrev wsX60 : List Cond := u_ws RX6 TX6 3
theorem nmX6 : ∀ a, a < 3 → ∀ b, b < 3 → a ≠ b → (TX6 a).2.1 ≠ (TX6 b).2.1 := by decide +kernel
theorem tyX6_ok : ∀ k, k < 3 → parseFieldDescriptor (TX6 k).2.2.1 = some (tyX6 k) := by decide +kernel
abbrev cX6_init : ByteArray := prog_8_method_1_code
def yX6_init : MethodName := ⟨RX6, "<init>", "()V"⟩
abbrev cX6_remember : ByteArray := prog_8_method_2_code
def yX6_remember : MethodName := ⟨RX6, "remember", "(LCastGallery$Moment;)V"⟩
abbrev cX6_recall : ByteArray := prog_8_method_3_code
def yX6_recall : MethodName := ⟨RX6, "recall", "(LCastGallery$Moment;)V"⟩
abbrev cX6_become : ByteArray := prog_8_method_4_code
def yX6_become : MethodName := ⟨RX6, "become", "(LCastGallery$Past;)V"⟩
def RX7 : String := "CastGallery$Planner"
def TX7 : u_T := fun k => match k with
  | 0 => ("CastGallery$Planner", "hall", "LCastGallery$Hall;", true)
  | 1 => ("CastGallery$Planner", "nightsFor", "[I", true)
  | _ => ("CastGallery$Planner", "cracksFor", "[I", true)
def tyX7 : Nat → FieldType := fun k => match k with
  | 0 => .object "CastGallery$Hall"
  | 1 => .array .int
  | _ => .array .int
abbrev wsX70 : List Cond := u_ws RX7 TX7 3
theorem nmX7 : ∀ a, a < 3 → ∀ b, b < 3 → a ≠ b → (TX7 a).2.1 ≠ (TX7 b).2.1 := by decide +kernel
theorem tyX7_ok : ∀ k, k < 3 → parseFieldDescriptor (TX7 k).2.2.1 = some (tyX7 k) := by decide +kernel
abbrev cX7_init : ByteArray := prog_9_method_1_code
def yX7_init : MethodName := ⟨RX7, "<init>", "(LCastGallery$Hall;)V"⟩
abbrev cX7_reckon : ByteArray := prog_9_method_2_code
def yX7_reckon : MethodName := ⟨RX7, "reckon", "(I)V"⟩
abbrev cX7_nightsOf : ByteArray := prog_9_method_3_code
def yX7_nightsOf : MethodName := ⟨RX7, "nightsOf", "(I)I"⟩
abbrev cX7_cracksOf : ByteArray := prog_9_method_4_code
def yX7_cracksOf : MethodName := ⟨RX7, "cracksOf", "(I)I"⟩
abbrev cX7_toLearnFor : ByteArray := prog_9_method_5_code
def yX7_toLearnFor : MethodName := ⟨RX7, "toLearnFor", "(II)I"⟩
abbrev cX7_bears : ByteArray := prog_9_method_6_code
def yX7_bears : MethodName := ⟨RX7, "bears", "(II)Z"⟩
abbrev cX7_learnable : ByteArray := prog_9_method_7_code
def yX7_learnable : MethodName := ⟨RX7, "learnable", "(I)I"⟩
abbrev cX7_learntAt : ByteArray := prog_9_method_8_code
def yX7_learntAt : MethodName := ⟨RX7, "learntAt", "(II)I"⟩
abbrev cX7_mostIn : ByteArray := prog_9_method_9_code
def yX7_mostIn : MethodName := ⟨RX7, "mostIn", "(II)I"⟩
abbrev cX7_isWhole : ByteArray := prog_9_method_10_code
def yX7_isWhole : MethodName := ⟨RX7, "isWhole", "(II)Z"⟩
def RX8 : String := "CastGallery$Reader"
def TX8 : u_T := fun k => match k with
  | 0 => ("CastGallery$Reader", "text", "[I", true)
  | 1 => ("CastGallery$Reader", "length", "I", false)
  | 2 => ("CastGallery$Reader", "read", "LCastGallery$Told;", true)
  | 3 => ("CastGallery$Reader", "start", "I", false)
  | 4 => ("CastGallery$Reader", "next", "I", false)
  | 5 => ("CastGallery$Reader", "sort", "I", false)
  | 6 => ("CastGallery$Reader", "value", "I", false)
  | _ => ("CastGallery$Reader", "numbers", "[I", true)
def tyX8 : Nat → FieldType := fun k => match k with
  | 0 => .array .int
  | 1 => .int
  | 2 => .object "CastGallery$Told"
  | 3 => .int
  | 4 => .int
  | 5 => .int
  | 6 => .int
  | _ => .array .int
abbrev wsX80 : List Cond := u_ws RX8 TX8 8
theorem nmX8 : ∀ a, a < 8 → ∀ b, b < 8 → a ≠ b → (TX8 a).2.1 ≠ (TX8 b).2.1 := by decide +kernel
theorem tyX8_ok : ∀ k, k < 8 → parseFieldDescriptor (TX8 k).2.2.1 = some (tyX8 k) := by decide +kernel
abbrev cX8_init : ByteArray := prog_10_method_1_code
def yX8_init : MethodName := ⟨RX8, "<init>", "()V"⟩
abbrev cX8_readsAll : ByteArray := prog_10_method_2_code
def yX8_readsAll : MethodName := ⟨RX8, "readsAll", "()Z"⟩
abbrev cX8_readsItem : ByteArray := prog_10_method_3_code
def yX8_readsItem : MethodName := ⟨RX8, "readsItem", "()Z"⟩
abbrev cX8_fitsThing : ByteArray := prog_10_method_4_code
def yX8_fitsThing : MethodName := ⟨RX8, "fitsThing", "(I)Z"⟩
abbrev cX8_fitsCast : ByteArray := prog_10_method_5_code
def yX8_fitsCast : MethodName := ⟨RX8, "fitsCast", "(I)Z"⟩
abbrev cX8_look : ByteArray := prog_10_method_6_code
def yX8_look : MethodName := ⟨RX8, "look", "()V"⟩
abbrev cX8_lookAtLetters : ByteArray := prog_10_method_7_code
def yX8_lookAtLetters : MethodName := ⟨RX8, "lookAtLetters", "()V"⟩
abbrev cX8_lookAtNumber : ByteArray := prog_10_method_8_code
def yX8_lookAtNumber : MethodName := ⟨RX8, "lookAtNumber", "()V"⟩
abbrev cX8_isLetter : ByteArray := prog_10_method_9_code
def yX8_isLetter : MethodName := ⟨RX8, "isLetter", "(I)Z"⟩
abbrev cX8_isDigit : ByteArray := prog_10_method_10_code
def yX8_isDigit : MethodName := ⟨RX8, "isDigit", "(I)Z"⟩
def RX9 : String := "CastGallery$Told"
def TX9 : u_T := fun k => match k with
  | 0 => ("CastGallery$Told", "things", "I", false)
  | 1 => ("CastGallery$Told", "casts", "I", false)
  | 2 => ("CastGallery$Told", "load", "[I", true)
  | 3 => ("CastGallery$Told", "hard", "[I", true)
  | 4 => ("CastGallery$Told", "part", "[I", true)
  | 5 => ("CastGallery$Told", "needs", "[I", true)
  | 6 => ("CastGallery$Told", "lime", "[I", true)
  | 7 => ("CastGallery$Told", "wit", "[I", true)
  | _ => ("CastGallery$Told", "lacks", "[I", true)
def tyX9 : Nat → FieldType := fun k => match k with
  | 0 => .int
  | 1 => .int
  | 2 => .array .int
  | 3 => .array .int
  | 4 => .array .int
  | 5 => .array .int
  | 6 => .array .int
  | 7 => .array .int
  | _ => .array .int
abbrev wsX90 : List Cond := u_ws RX9 TX9 9
theorem nmX9 : ∀ a, a < 9 → ∀ b, b < 9 → a ≠ b → (TX9 a).2.1 ≠ (TX9 b).2.1 := by decide +kernel
theorem tyX9_ok : ∀ k, k < 9 → parseFieldDescriptor (TX9 k).2.2.1 = some (tyX9 k) := by decide +kernel
abbrev cX9_init : ByteArray := prog_11_method_1_code
def yX9_init : MethodName := ⟨RX9, "<init>", "()V"⟩
abbrev cX9_addThing : ByteArray := prog_11_method_2_code
def yX9_addThing : MethodName := ⟨RX9, "addThing", "([I)V"⟩
abbrev cX9_addCast : ByteArray := prog_11_method_3_code
def yX9_addCast : MethodName := ⟨RX9, "addCast", "([I)V"⟩
abbrev cX9_become : ByteArray := prog_11_method_4_code
def yX9_become : MethodName := ⟨RX9, "become", "(LCastGallery$Told;)V"⟩
def RX10 : String := "CastGallery"
def TX10 : u_T := fun k => match k with
  | 0 => ("CastGallery", "reader", "LCastGallery$Reader;", true)
  | 1 => ("CastGallery", "hall", "LCastGallery$Hall;", true)
  | 2 => ("CastGallery", "past", "LCastGallery$Past;", true)
  | 3 => ("CastGallery", "images", "[LCastGallery$Image;", true)
  | 4 => ("CastGallery", "planner", "LCastGallery$Planner;", true)
  | 5 => ("CastGallery", "owners", "LCastGallery$Owners;", true)
  | 6 => ("CastGallery", "hearsay", "LCastGallery$Hearsay;", true)
  | _ => ("CastGallery", "kinds", "LCastGallery$Kinds;", true)
def tyX10 : Nat → FieldType := fun k => match k with
  | 0 => .object "CastGallery$Reader"
  | 1 => .object "CastGallery$Hall"
  | 2 => .object "CastGallery$Past"
  | 3 => .array (.object "CastGallery$Image")
  | 4 => .object "CastGallery$Planner"
  | 5 => .object "CastGallery$Owners"
  | 6 => .object "CastGallery$Hearsay"
  | _ => .object "CastGallery$Kinds"
abbrev wsX100 : List Cond := u_ws RX10 TX10 8
theorem nmX10 : ∀ a, a < 8 → ∀ b, b < 8 → a ≠ b → (TX10 a).2.1 ≠ (TX10 b).2.1 := by decide +kernel
theorem tyX10_ok : ∀ k, k < 8 → parseFieldDescriptor (TX10 k).2.2.1 = some (tyX10 k) := by decide +kernel
abbrev cX10_init : ByteArray := prog_1_method_1_code
def yX10_init : MethodName := ⟨RX10, "<init>", "()V"⟩
abbrev cX10_type : ByteArray := prog_1_method_2_code
def yX10_type : MethodName := ⟨RX10, "type", "(I)I"⟩
abbrev cX10_clear : ByteArray := prog_1_method_3_code
def yX10_clear : MethodName := ⟨RX10, "clear", "()I"⟩
abbrev cX10_hall : ByteArray := prog_1_method_4_code
def yX10_hall : MethodName := ⟨RX10, "hall", "()I"⟩
abbrev cX10_thing : ByteArray := prog_1_method_5_code
def yX10_thing : MethodName := ⟨RX10, "thing", "(II)I"⟩
abbrev cX10_cast : ByteArray := prog_1_method_6_code
def yX10_cast : MethodName := ⟨RX10, "cast", "(II)I"⟩
abbrev cX10_far : ByteArray := prog_1_method_7_code
def yX10_far : MethodName := ⟨RX10, "far", "(II)I"⟩
abbrev cX10_sets : ByteArray := prog_1_method_8_code
def yX10_sets : MethodName := ⟨RX10, "sets", "(II)I"⟩
abbrev cX10_nights : ByteArray := prog_1_method_9_code
def yX10_nights : MethodName := ⟨RX10, "nights", "(I)I"⟩
abbrev cX10_mends : ByteArray := prog_1_method_10_code
def yX10_mends : MethodName := ⟨RX10, "mends", "(I)I"⟩
abbrev cX10_joins : ByteArray := prog_1_method_11_code
def yX10_joins : MethodName := ⟨RX10, "joins", "(III)I"⟩
abbrev cX10_undo : ByteArray := prog_1_method_12_code
def yX10_undo : MethodName := ⟨RX10, "undo", "()I"⟩
abbrev cX10_now : ByteArray := prog_1_method_13_code
def yX10_now : MethodName := ⟨RX10, "now", "(I)I"⟩
abbrev cX10_plan : ByteArray := prog_1_method_14_code
def yX10_plan : MethodName := ⟨RX10, "plan", "(III)I"⟩
abbrev cX10_best : ByteArray := prog_1_method_15_code
def yX10_best : MethodName := ⟨RX10, "best", "(III)I"⟩
abbrev cX10_own : ByteArray := prog_1_method_16_code
def yX10_own : MethodName := ⟨RX10, "own", "(I)I"⟩
abbrev cX10_near : ByteArray := prog_1_method_17_code
def yX10_near : MethodName := ⟨RX10, "near", "(II)I"⟩
abbrev cX10_odds : ByteArray := prog_1_method_18_code
def yX10_odds : MethodName := ⟨RX10, "odds", "(III)I"⟩
abbrev cX10_hears : ByteArray := prog_1_method_19_code
def yX10_hears : MethodName := ⟨RX10, "hears", "(II)I"⟩
abbrev cX10_forget : ByteArray := prog_1_method_20_code
def yX10_forget : MethodName := ⟨RX10, "forget", "()I"⟩
abbrev cX10_who : ByteArray := prog_1_method_21_code
def yX10_who : MethodName := ⟨RX10, "who", "()I"⟩
abbrev cX10_ask : ByteArray := prog_1_method_22_code
def yX10_ask : MethodName := ⟨RX10, "ask", "()I"⟩
abbrev cX10_mark : ByteArray := prog_1_method_23_code
def yX10_mark : MethodName := ⟨RX10, "mark", "(II)I"⟩
abbrev cX10_keep : ByteArray := prog_1_method_24_code
def yX10_keep : MethodName := ⟨RX10, "keep", "(I)I"⟩
abbrev cX10_back : ByteArray := prog_1_method_25_code
def yX10_back : MethodName := ⟨RX10, "back", "(I)I"⟩
abbrev cX10_count : ByteArray := prog_1_method_26_code
def yX10_count : MethodName := ⟨RX10, "count", "(I)I"⟩
abbrev cX10_trace : ByteArray := prog_1_method_27_code
def yX10_trace : MethodName := ⟨RX10, "trace", "()J"⟩
abbrev cX10_has : ByteArray := prog_1_method_28_code
def yX10_has : MethodName := ⟨RX10, "has", "(II)Z"⟩
abbrev cX10_orNone : ByteArray := prog_1_method_29_code
def yX10_orNone : MethodName := ⟨RX10, "orNone", "(I)I"⟩
abbrev cX10_waysToFall : ByteArray := prog_1_method_30_code
def yX10_waysToFall : MethodName := ⟨RX10, "waysToFall", "(III)I"⟩
abbrev cX10_power : ByteArray := prog_1_method_31_code
def yX10_power : MethodName := ⟨RX10, "power", "(II)I"⟩
abbrev cX10_commonDivisor : ByteArray := prog_1_method_32_code
def yX10_commonDivisor : MethodName := ⟨RX10, "commonDivisor", "(II)I"⟩
def RX11 : String := "CastGalleryModel"
def TX11 : u_T := fun k => match k with
  | 0 => ("CastGalleryModel", "things", "I", false)
  | 1 => ("CastGalleryModel", "loads", "[I", true)
  | 2 => ("CastGalleryModel", "hards", "[I", true)
  | 3 => ("CastGalleryModel", "parts", "[I", true)
  | 4 => ("CastGalleryModel", "needs", "[I", true)
  | 5 => ("CastGalleryModel", "casts", "I", false)
  | 6 => ("CastGalleryModel", "limes", "[I", true)
  | 7 => ("CastGalleryModel", "wits", "[I", true)
  | 8 => ("CastGalleryModel", "st", "[I", true)
  | 9 => ("CastGalleryModel", "images", "[I", true)
  | 10 => ("CastGalleryModel", "isKept", "[Z", true)
  | 11 => ("CastGalleryModel", "heardMany", "I", false)
  | 12 => ("CastGalleryModel", "heard", "[I", true)
  | 13 => ("CastGalleryModel", "trace", "J", false)
  | 14 => ("CastGalleryModel", "text", "[I", true)
  | 15 => ("CastGalleryModel", "texted", "I", false)
  | 16 => ("CastGalleryModel", "cursor", "I", false)
  | 17 => ("CastGalleryModel", "start", "I", false)
  | 18 => ("CastGalleryModel", "token", "I", false)
  | 19 => ("CastGalleryModel", "number", "I", false)
  | 20 => ("CastGalleryModel", "isWrong", "Z", false)
  | 21 => ("CastGalleryModel", "items", "I", false)
  | 22 => ("CastGalleryModel", "saidThings", "I", false)
  | 23 => ("CastGalleryModel", "saidLoad", "[I", true)
  | 24 => ("CastGalleryModel", "saidHard", "[I", true)
  | 25 => ("CastGalleryModel", "saidPart", "[I", true)
  | 26 => ("CastGalleryModel", "saidNeeds", "[I", true)
  | 27 => ("CastGalleryModel", "saidCasts", "I", false)
  | 28 => ("CastGalleryModel", "saidLime", "[I", true)
  | 29 => ("CastGalleryModel", "saidWit", "[I", true)
  | 30 => ("CastGalleryModel", "saidLacks", "[I", true)
  | _ => ("CastGalleryModel", "most", "[I", true)
def tyX11 : Nat → FieldType := fun k => match k with
  | 0 => .int
  | 1 => .array .int
  | 2 => .array .int
  | 3 => .array .int
  | 4 => .array .int
  | 5 => .int
  | 6 => .array .int
  | 7 => .array .int
  | 8 => .array .int
  | 9 => .array .int
  | 10 => .array .boolean
  | 11 => .int
  | 12 => .array .int
  | 13 => .long
  | 14 => .array .int
  | 15 => .int
  | 16 => .int
  | 17 => .int
  | 18 => .int
  | 19 => .int
  | 20 => .boolean
  | 21 => .int
  | 22 => .int
  | 23 => .array .int
  | 24 => .array .int
  | 25 => .array .int
  | 26 => .array .int
  | 27 => .int
  | 28 => .array .int
  | 29 => .array .int
  | 30 => .array .int
  | _ => .array .int
abbrev wsX110 : List Cond := u_ws RX11 TX11 32
theorem nmX11 : ∀ a, a < 32 → ∀ b, b < 32 → a ≠ b → (TX11 a).2.1 ≠ (TX11 b).2.1 := by decide +kernel
theorem tyX11_ok : ∀ k, k < 32 → parseFieldDescriptor (TX11 k).2.2.1 = some (tyX11 k) := by decide +kernel
abbrev cX11_init : ByteArray := prog_13_method_1_code
def yX11_init : MethodName := ⟨RX11, "<init>", "()V"⟩
abbrev cX11_in : ByteArray := prog_13_method_3_code
def yX11_in : MethodName := ⟨RX11, "in", "(III)Z"⟩
abbrev cX11_has : ByteArray := prog_13_method_4_code
def yX11_has : MethodName := ⟨RX11, "has", "(II)Z"⟩
abbrev cX11_bits : ByteArray := prog_13_method_5_code
def yX11_bits : MethodName := ⟨RX11, "bits", "(I)I"⟩
abbrev cX11_isThing : ByteArray := prog_13_method_6_code
def yX11_isThing : MethodName := ⟨RX11, "isThing", "(I)Z"⟩
abbrev cX11_isCast : ByteArray := prog_13_method_7_code
def yX11_isCast : MethodName := ⟨RX11, "isCast", "(I)Z"⟩
abbrev cX11_type : ByteArray := prog_13_method_8_code
def yX11_type : MethodName := ⟨RX11, "type", "(I)I"⟩
abbrev cX11_clear : ByteArray := prog_13_method_9_code
def yX11_clear : MethodName := ⟨RX11, "clear", "()I"⟩
abbrev cX11_letterAt : ByteArray := prog_13_method_10_code
def yX11_letterAt : MethodName := ⟨RX11, "letterAt", "(I)I"⟩
abbrev cX11_isFigure : ByteArray := prog_13_method_11_code
def yX11_isFigure : MethodName := ⟨RX11, "isFigure", "(I)Z"⟩
abbrev cX11_isLetter : ByteArray := prog_13_method_12_code
def yX11_isLetter : MethodName := ⟨RX11, "isLetter", "(I)Z"⟩
abbrev cX11_next : ByteArray := prog_13_method_13_code
def yX11_next : MethodName := ⟨RX11, "next", "()V"⟩
abbrev cX11_takesNumber : ByteArray := prog_13_method_14_code
def yX11_takesNumber : MethodName := ⟨RX11, "takesNumber", "(II)I"⟩
abbrev cX11_readThing : ByteArray := prog_13_method_15_code
def yX11_readThing : MethodName := ⟨RX11, "readThing", "()V"⟩
abbrev cX11_readCast : ByteArray := prog_13_method_16_code
def yX11_readCast : MethodName := ⟨RX11, "readCast", "()V"⟩
abbrev cX11_readItem : ByteArray := prog_13_method_17_code
def yX11_readItem : MethodName := ⟨RX11, "readItem", "()V"⟩
abbrev cX11_hall : ByteArray := prog_13_method_18_code
def yX11_hall : MethodName := ⟨RX11, "hall", "()I"⟩
abbrev cX11_settles : ByteArray := prog_13_method_19_code
def yX11_settles : MethodName := ⟨RX11, "settles", "()V"⟩
abbrev cX11_can : ByteArray := prog_13_method_20_code
def yX11_can : MethodName := ⟨RX11, "can", "(II)Z"⟩
abbrev cX11_isBroken : ByteArray := prog_13_method_21_code
def yX11_isBroken : MethodName := ⟨RX11, "isBroken", "(I)Z"⟩
abbrev cX11_hasPart : ByteArray := prog_13_method_22_code
def yX11_hasPart : MethodName := ⟨RX11, "hasPart", "(II)Z"⟩
abbrev cX11_may : ByteArray := prog_13_method_23_code
def yX11_may : MethodName := ⟨RX11, "may", "(II)Z"⟩
abbrev cX11_mays : ByteArray := prog_13_method_24_code
def yX11_mays : MethodName := ⟨RX11, "mays", "(I)I"⟩
abbrev cX11_whoCan : ByteArray := prog_13_method_25_code
def yX11_whoCan : MethodName := ⟨RX11, "whoCan", "(I)I"⟩
abbrev cX11_thing : ByteArray := prog_13_method_26_code
def yX11_thing : MethodName := ⟨RX11, "thing", "(II)I"⟩
abbrev cX11_cast : ByteArray := prog_13_method_27_code
def yX11_cast : MethodName := ⟨RX11, "cast", "(II)I"⟩
abbrev cX11_far : ByteArray := prog_13_method_28_code
def yX11_far : MethodName := ⟨RX11, "far", "(II)I"⟩
abbrev cX11_remembers : ByteArray := prog_13_method_29_code
def yX11_remembers : MethodName := ⟨RX11, "remembers", "()V"⟩
abbrev cX11_sets : ByteArray := prog_13_method_30_code
def yX11_sets : MethodName := ⟨RX11, "sets", "(II)I"⟩
abbrev cX11_learns : ByteArray := prog_13_method_31_code
def yX11_learns : MethodName := ⟨RX11, "learns", "(II)V"⟩
abbrev cX11_nights : ByteArray := prog_13_method_32_code
def yX11_nights : MethodName := ⟨RX11, "nights", "(I)I"⟩
abbrev cX11_mends : ByteArray := prog_13_method_33_code
def yX11_mends : MethodName := ⟨RX11, "mends", "(I)I"⟩
abbrev cX11_joins : ByteArray := prog_13_method_34_code
def yX11_joins : MethodName := ⟨RX11, "joins", "(III)I"⟩
abbrev cX11_undo : ByteArray := prog_13_method_35_code
def yX11_undo : MethodName := ⟨RX11, "undo", "()I"⟩
abbrev cX11_inClass : ByteArray := prog_13_method_36_code
def yX11_inClass : MethodName := ⟨RX11, "inClass", "()I"⟩
abbrev cX11_learntAll : ByteArray := prog_13_method_37_code
def yX11_learntAll : MethodName := ⟨RX11, "learntAll", "()I"⟩
abbrev cX11_now : ByteArray := prog_13_method_38_code
def yX11_now : MethodName := ⟨RX11, "now", "(I)I"⟩
abbrev cX11_nightsFor : ByteArray := prog_13_method_39_code
def yX11_nightsFor : MethodName := ⟨RX11, "nightsFor", "(II)I"⟩
abbrev cX11_nightsOf : ByteArray := prog_13_method_40_code
def yX11_nightsOf : MethodName := ⟨RX11, "nightsOf", "(II)I"⟩
abbrev cX11_cracksOf : ByteArray := prog_13_method_41_code
def yX11_cracksOf : MethodName := ⟨RX11, "cracksOf", "(II)I"⟩
abbrev cX11_bears : ByteArray := prog_13_method_42_code
def yX11_bears : MethodName := ⟨RX11, "bears", "(II)Z"⟩
abbrev cX11_wanted : ByteArray := prog_13_method_43_code
def yX11_wanted : MethodName := ⟨RX11, "wanted", "(II)I"⟩
abbrev cX11_kth : ByteArray := prog_13_method_44_code
def yX11_kth : MethodName := ⟨RX11, "kth", "(II)I"⟩
abbrev cX11_plan : ByteArray := prog_13_method_45_code
def yX11_plan : MethodName := ⟨RX11, "plan", "(III)I"⟩
abbrev cX11_isWhole : ByteArray := prog_13_method_46_code
def yX11_isWhole : MethodName := ⟨RX11, "isWhole", "(II)Z"⟩
abbrev cX11_best : ByteArray := prog_13_method_47_code
def yX11_best : MethodName := ⟨RX11, "best", "(III)I"⟩
abbrev cX11_layMost : ByteArray := prog_13_method_48_code
def yX11_layMost : MethodName := ⟨RX11, "layMost", "()V"⟩
abbrev cX11_givenTo : ByteArray := prog_13_method_49_code
def yX11_givenTo : MethodName := ⟨RX11, "givenTo", "(II)I"⟩
abbrev cX11_own : ByteArray := prog_13_method_50_code
def yX11_own : MethodName := ⟨RX11, "own", "(I)I"⟩
abbrev cX11_between : ByteArray := prog_13_method_51_code
def yX11_between : MethodName := ⟨RX11, "between", "(II)I"⟩
abbrev cX11_near : ByteArray := prog_13_method_52_code
def yX11_near : MethodName := ⟨RX11, "near", "(II)I"⟩
abbrev cX11_tree : ByteArray := prog_13_method_53_code
def yX11_tree : MethodName := ⟨RX11, "tree", "()I"⟩
abbrev cX11_lowest : ByteArray := prog_13_method_54_code
def yX11_lowest : MethodName := ⟨RX11, "lowest", "(III)I"⟩
abbrev cX11_odds : ByteArray := prog_13_method_55_code
def yX11_odds : MethodName := ⟨RX11, "odds", "(III)I"⟩
abbrev cX11_hears : ByteArray := prog_13_method_56_code
def yX11_hears : MethodName := ⟨RX11, "hears", "(II)I"⟩
abbrev cX11_forget : ByteArray := prog_13_method_57_code
def yX11_forget : MethodName := ⟨RX11, "forget", "()I"⟩
abbrev cX11_who : ByteArray := prog_13_method_58_code
def yX11_who : MethodName := ⟨RX11, "who", "()I"⟩
abbrev cX11_ask : ByteArray := prog_13_method_59_code
def yX11_ask : MethodName := ⟨RX11, "ask", "()I"⟩
abbrev cX11_mark : ByteArray := prog_13_method_60_code
def yX11_mark : MethodName := ⟨RX11, "mark", "(II)I"⟩
abbrev cX11_keep : ByteArray := prog_13_method_61_code
def yX11_keep : MethodName := ⟨RX11, "keep", "(I)I"⟩
abbrev cX11_back : ByteArray := prog_13_method_62_code
def yX11_back : MethodName := ⟨RX11, "back", "(I)I"⟩
abbrev cX11_count : ByteArray := prog_13_method_63_code
def yX11_count : MethodName := ⟨RX11, "count", "(I)I"⟩
abbrev cX11_trace : ByteArray := prog_13_method_64_code
def yX11_trace : MethodName := ⟨RX11, "trace", "()J"⟩
def RJ6 : String := "java/lang/Integer"
def TJ6 : u_T := fun k => match k with
  | _ => ("", "", "", false)
def tyJ6 : Nat → FieldType := fun k => match k with
  | _ => .int
abbrev wsJ60 : List Cond := u_ws RJ6 TJ6 0
theorem nmJ6 : ∀ a, a < 0 → ∀ b, b < 0 → a ≠ b → (TJ6 a).2.1 ≠ (TJ6 b).2.1 := by decide +kernel
theorem tyJ6_ok : ∀ k, k < 0 → parseFieldDescriptor (TJ6 k).2.2.1 = some (tyJ6 k) := by decide +kernel
abbrev cJ6_bitCount_0f7a4 : ByteArray := prog_14_method_49_code
def yJ6_bitCount_0f7a4 : MethodName := ⟨RJ6, "bitCount", "(I)I"⟩
def RJ9 : String := "java/lang/Math"
def TJ9 : u_T := fun k => match k with
  | _ => ("", "", "", false)
def tyJ9 : Nat → FieldType := fun k => match k with
  | _ => .int
abbrev wsJ90 : List Cond := u_ws RJ9 TJ9 0
theorem nmJ9 : ∀ a, a < 0 → ∀ b, b < 0 → a ≠ b → (TJ9 a).2.1 ≠ (TJ9 b).2.1 := by decide +kernel
theorem tyJ9_ok : ∀ k, k < 0 → parseFieldDescriptor (TJ9 k).2.2.1 = some (tyJ9 k) := by decide +kernel
abbrev cJ9_max_7cf53 : ByteArray := prog_15_method_65_code
def yJ9_max_7cf53 : MethodName := ⟨RJ9, "max", "(II)I"⟩
abbrev cJ9_min_7cf53 : ByteArray := prog_15_method_69_code
def yJ9_min_7cf53 : MethodName := ⟨RJ9, "min", "(II)I"⟩
def RJ10 : String := "java/lang/System"
def TJ10 : u_T := fun k => match k with
  | _ => ("", "", "", false)
def tyJ10 : Nat → FieldType := fun k => match k with
  | _ => .int
abbrev wsJ100 : List Cond := u_ws RJ10 TJ10 0
theorem nmJ10 : ∀ a, a < 0 → ∀ b, b < 0 → a ≠ b → (TJ10 a).2.1 ≠ (TJ10 b).2.1 := by decide +kernel
theorem tyJ10_ok : ∀ k, k < 0 → parseFieldDescriptor (TJ10 k).2.2.1 = some (tyJ10 k) := by decide +kernel
def RJ7 : String := "java/util/Arrays"
def TJ7 : u_T := fun k => match k with
  | _ => ("", "", "", false)
def tyJ7 : Nat → FieldType := fun k => match k with
  | _ => .int
abbrev wsJ70 : List Cond := u_ws RJ7 TJ7 0
theorem nmJ7 : ∀ a, a < 0 → ∀ b, b < 0 → a ≠ b → (TJ7 a).2.1 ≠ (TJ7 b).2.1 := by decide +kernel
theorem tyJ7_ok : ∀ k, k < 0 → parseFieldDescriptor (TJ7 k).2.2.1 = some (tyJ7 k) := by decide +kernel
abbrev cJ7_fill_53178 : ByteArray := prog_17_method_103_code
def yJ7_fill_53178 : MethodName := ⟨RJ7, "fill", "([II)V"⟩
def RL : String := "CastGalleryLaw"
abbrev cL_law : ByteArray := code
def yL_law : MethodName := ⟨RL, "law", "([I)Z"⟩
abbrev vwCl : List vw_C := [(RX0, TX0, 2), (RX1, TX1, 4), (RX2, TX2, 3), (RX3, TX3, 2), (RX4, TX4, 7), (RX5, TX5, 3), (RX6, TX6, 3), (RX7, TX7, 3), (RX8, TX8, 8), (RX9, TX9, 9), (RX10, TX10, 8), (RX11, TX11, 32)]
end
section
theorem dJ6_bitCount_0f7a4_0 : decode cJ6_bitCount_0f7a4 0 = .ok (.iload_n 0, 1) := by decide +kernel
theorem dJ6_bitCount_0f7a4_1 : decode cJ6_bitCount_0f7a4 1 = .ok (.iload_n 0, 1) := by decide +kernel
theorem dJ6_bitCount_0f7a4_2 : decode cJ6_bitCount_0f7a4 2 = .ok (.iconst 1, 1) := by decide +kernel
theorem dJ6_bitCount_0f7a4_3 : decode cJ6_bitCount_0f7a4 3 = .ok (.iushr, 1) := by decide +kernel
theorem dJ6_bitCount_0f7a4_4 : decode cJ6_bitCount_0f7a4 4 = .ok (.ldc_w 265, 3) := by decide +kernel
theorem dJ6_bitCount_0f7a4_7 : decode cJ6_bitCount_0f7a4 7 = .ok (.iand, 1) := by decide +kernel
theorem dJ6_bitCount_0f7a4_8 : decode cJ6_bitCount_0f7a4 8 = .ok (.isub, 1) := by decide +kernel
theorem dJ6_bitCount_0f7a4_9 : decode cJ6_bitCount_0f7a4 9 = .ok (.istore_n 0, 1) := by decide +kernel
theorem dJ6_bitCount_0f7a4_10 : decode cJ6_bitCount_0f7a4 10 = .ok (.iload_n 0, 1) := by decide +kernel
theorem dJ6_bitCount_0f7a4_11 : decode cJ6_bitCount_0f7a4 11 = .ok (.ldc_w 266, 3) := by decide +kernel
theorem dJ6_bitCount_0f7a4_14 : decode cJ6_bitCount_0f7a4 14 = .ok (.iand, 1) := by decide +kernel
theorem dJ6_bitCount_0f7a4_15 : decode cJ6_bitCount_0f7a4 15 = .ok (.iload_n 0, 1) := by decide +kernel
theorem dJ6_bitCount_0f7a4_16 : decode cJ6_bitCount_0f7a4 16 = .ok (.iconst 2, 1) := by decide +kernel
theorem dJ6_bitCount_0f7a4_17 : decode cJ6_bitCount_0f7a4 17 = .ok (.iushr, 1) := by decide +kernel
theorem dJ6_bitCount_0f7a4_18 : decode cJ6_bitCount_0f7a4 18 = .ok (.ldc_w 266, 3) := by decide +kernel
theorem dJ6_bitCount_0f7a4_21 : decode cJ6_bitCount_0f7a4 21 = .ok (.iand, 1) := by decide +kernel
theorem dJ6_bitCount_0f7a4_22 : decode cJ6_bitCount_0f7a4 22 = .ok (.iadd, 1) := by decide +kernel
theorem dJ6_bitCount_0f7a4_23 : decode cJ6_bitCount_0f7a4 23 = .ok (.istore_n 0, 1) := by decide +kernel
theorem dJ6_bitCount_0f7a4_24 : decode cJ6_bitCount_0f7a4 24 = .ok (.iload_n 0, 1) := by decide +kernel
theorem dJ6_bitCount_0f7a4_25 : decode cJ6_bitCount_0f7a4 25 = .ok (.iload_n 0, 1) := by decide +kernel
theorem dJ6_bitCount_0f7a4_26 : decode cJ6_bitCount_0f7a4 26 = .ok (.iconst 4, 1) := by decide +kernel
theorem dJ6_bitCount_0f7a4_27 : decode cJ6_bitCount_0f7a4 27 = .ok (.iushr, 1) := by decide +kernel
theorem dJ6_bitCount_0f7a4_28 : decode cJ6_bitCount_0f7a4 28 = .ok (.iadd, 1) := by decide +kernel
theorem dJ6_bitCount_0f7a4_29 : decode cJ6_bitCount_0f7a4 29 = .ok (.ldc_w 267, 3) := by decide +kernel
theorem dJ6_bitCount_0f7a4_32 : decode cJ6_bitCount_0f7a4 32 = .ok (.iand, 1) := by decide +kernel
theorem dJ6_bitCount_0f7a4_33 : decode cJ6_bitCount_0f7a4 33 = .ok (.istore_n 0, 1) := by decide +kernel
theorem dJ6_bitCount_0f7a4_34 : decode cJ6_bitCount_0f7a4 34 = .ok (.iload_n 0, 1) := by decide +kernel
theorem dJ6_bitCount_0f7a4_35 : decode cJ6_bitCount_0f7a4 35 = .ok (.iload_n 0, 1) := by decide +kernel
theorem dJ6_bitCount_0f7a4_36 : decode cJ6_bitCount_0f7a4 36 = .ok (.bipush 8, 2) := by decide +kernel
theorem dJ6_bitCount_0f7a4_38 : decode cJ6_bitCount_0f7a4 38 = .ok (.iushr, 1) := by decide +kernel
theorem dJ6_bitCount_0f7a4_39 : decode cJ6_bitCount_0f7a4 39 = .ok (.iadd, 1) := by decide +kernel
theorem dJ6_bitCount_0f7a4_40 : decode cJ6_bitCount_0f7a4 40 = .ok (.istore_n 0, 1) := by decide +kernel
theorem dJ6_bitCount_0f7a4_41 : decode cJ6_bitCount_0f7a4 41 = .ok (.iload_n 0, 1) := by decide +kernel
theorem dJ6_bitCount_0f7a4_42 : decode cJ6_bitCount_0f7a4 42 = .ok (.iload_n 0, 1) := by decide +kernel
theorem dJ6_bitCount_0f7a4_43 : decode cJ6_bitCount_0f7a4 43 = .ok (.bipush 16, 2) := by decide +kernel
theorem dJ6_bitCount_0f7a4_45 : decode cJ6_bitCount_0f7a4 45 = .ok (.iushr, 1) := by decide +kernel
theorem dJ6_bitCount_0f7a4_46 : decode cJ6_bitCount_0f7a4 46 = .ok (.iadd, 1) := by decide +kernel
theorem dJ6_bitCount_0f7a4_47 : decode cJ6_bitCount_0f7a4 47 = .ok (.istore_n 0, 1) := by decide +kernel
theorem dJ6_bitCount_0f7a4_48 : decode cJ6_bitCount_0f7a4 48 = .ok (.iload_n 0, 1) := by decide +kernel
theorem dJ6_bitCount_0f7a4_49 : decode cJ6_bitCount_0f7a4 49 = .ok (.bipush 63, 2) := by decide +kernel
theorem dJ6_bitCount_0f7a4_51 : decode cJ6_bitCount_0f7a4 51 = .ok (.iand, 1) := by decide +kernel
theorem dJ6_bitCount_0f7a4_52 : decode cJ6_bitCount_0f7a4 52 = .ok (.ireturn, 1) := by decide +kernel
theorem dJ7_fill_53178_0 : decode cJ7_fill_53178 0 = .ok (.iconst 0, 1) := by decide +kernel
theorem dJ7_fill_53178_1 : decode cJ7_fill_53178 1 = .ok (.istore_n 2, 1) := by decide +kernel
theorem dJ7_fill_53178_2 : decode cJ7_fill_53178 2 = .ok (.aload_n 0, 1) := by decide +kernel
theorem dJ7_fill_53178_3 : decode cJ7_fill_53178 3 = .ok (.arraylength, 1) := by decide +kernel
theorem dJ7_fill_53178_4 : decode cJ7_fill_53178 4 = .ok (.istore_n 3, 1) := by decide +kernel
theorem dJ7_fill_53178_5 : decode cJ7_fill_53178 5 = .ok (.iload_n 2, 1) := by decide +kernel
theorem dJ7_fill_53178_6 : decode cJ7_fill_53178 6 = .ok (.iload_n 3, 1) := by decide +kernel
theorem dJ7_fill_53178_7 : decode cJ7_fill_53178 7 = .ok (.if_icmp .ge 13, 3) := by decide +kernel
theorem dJ7_fill_53178_10 : decode cJ7_fill_53178 10 = .ok (.aload_n 0, 1) := by decide +kernel
theorem dJ7_fill_53178_11 : decode cJ7_fill_53178 11 = .ok (.iload_n 2, 1) := by decide +kernel
theorem dJ7_fill_53178_12 : decode cJ7_fill_53178 12 = .ok (.iload_n 1, 1) := by decide +kernel
theorem dJ7_fill_53178_13 : decode cJ7_fill_53178 13 = .ok (.iastore, 1) := by decide +kernel
theorem dJ7_fill_53178_14 : decode cJ7_fill_53178 14 = .ok (.iinc 2 1, 3) := by decide +kernel
theorem dJ7_fill_53178_17 : decode cJ7_fill_53178 17 = .ok (.goto (-12), 3) := by decide +kernel
theorem dJ7_fill_53178_20 : decode cJ7_fill_53178 20 = .ok (.return_, 1) := by decide +kernel
theorem dJ9_max_7cf53_0 : decode cJ9_max_7cf53 0 = .ok (.iload_n 0, 1) := by decide +kernel
theorem dJ9_max_7cf53_1 : decode cJ9_max_7cf53 1 = .ok (.iload_n 1, 1) := by decide +kernel
theorem dJ9_max_7cf53_2 : decode cJ9_max_7cf53 2 = .ok (.if_icmp .lt 7, 3) := by decide +kernel
theorem dJ9_max_7cf53_5 : decode cJ9_max_7cf53 5 = .ok (.iload_n 0, 1) := by decide +kernel
theorem dJ9_max_7cf53_6 : decode cJ9_max_7cf53 6 = .ok (.goto 4, 3) := by decide +kernel
theorem dJ9_max_7cf53_9 : decode cJ9_max_7cf53 9 = .ok (.iload_n 1, 1) := by decide +kernel
theorem dJ9_max_7cf53_10 : decode cJ9_max_7cf53 10 = .ok (.ireturn, 1) := by decide +kernel
theorem dJ9_min_7cf53_0 : decode cJ9_min_7cf53 0 = .ok (.iload_n 0, 1) := by decide +kernel
theorem dJ9_min_7cf53_1 : decode cJ9_min_7cf53 1 = .ok (.iload_n 1, 1) := by decide +kernel
theorem dJ9_min_7cf53_2 : decode cJ9_min_7cf53 2 = .ok (.if_icmp .gt 7, 3) := by decide +kernel
theorem dJ9_min_7cf53_5 : decode cJ9_min_7cf53 5 = .ok (.iload_n 0, 1) := by decide +kernel
theorem dJ9_min_7cf53_6 : decode cJ9_min_7cf53 6 = .ok (.goto 4, 3) := by decide +kernel
theorem dJ9_min_7cf53_9 : decode cJ9_min_7cf53 9 = .ok (.iload_n 1, 1) := by decide +kernel
theorem dJ9_min_7cf53_10 : decode cJ9_min_7cf53 10 = .ok (.ireturn, 1) := by decide +kernel
theorem dL_law_0 : decode cL_law 0 = .ok (.new 7, 3) := by decide +kernel
theorem dL_law_3 : decode cL_law 3 = .ok (.dup, 1) := by decide +kernel
theorem dL_law_4 : decode cL_law 4 = .ok (.invokespecial 9, 3) := by decide +kernel
theorem dL_law_7 : decode cL_law 7 = .ok (.astore_n 1, 1) := by decide +kernel
theorem dL_law_8 : decode cL_law 8 = .ok (.new 10, 3) := by decide +kernel
theorem dL_law_11 : decode cL_law 11 = .ok (.dup, 1) := by decide +kernel
theorem dL_law_12 : decode cL_law 12 = .ok (.invokespecial 12, 3) := by decide +kernel
theorem dL_law_15 : decode cL_law 15 = .ok (.astore_n 2, 1) := by decide +kernel
theorem dL_law_16 : decode cL_law 16 = .ok (.iconst 0, 1) := by decide +kernel
theorem dL_law_17 : decode cL_law 17 = .ok (.istore_n 3, 1) := by decide +kernel
theorem dL_law_18 : decode cL_law 18 = .ok (.iload_n 3, 1) := by decide +kernel
theorem dL_law_19 : decode cL_law 19 = .ok (.aload_n 0, 1) := by decide +kernel
theorem dL_law_20 : decode cL_law 20 = .ok (.arraylength, 1) := by decide +kernel
theorem dL_law_21 : decode cL_law 21 = .ok (.iconst 4, 1) := by decide +kernel
theorem dL_law_22 : decode cL_law 22 = .ok (.isub, 1) := by decide +kernel
theorem dL_law_23 : decode cL_law 23 = .ok (.if_icmp .gt 814, 3) := by decide +kernel
theorem dL_law_26 : decode cL_law 26 = .ok (.aload_n 0, 1) := by decide +kernel
theorem dL_law_27 : decode cL_law 27 = .ok (.iload_n 3, 1) := by decide +kernel
theorem dL_law_28 : decode cL_law 28 = .ok (.iaload, 1) := by decide +kernel
theorem dL_law_29 : decode cL_law 29 = .ok (.bipush 31, 2) := by decide +kernel
theorem dL_law_31 : decode cL_law 31 = .ok (.iand, 1) := by decide +kernel
theorem dL_law_32 : decode cL_law 32 = .ok (.tableswitch 799 0 25 #[120, 143, 156, 169, 202, 235, 268, 301, 324, 347, 390, 403, 426, 469, 512, 535, 568, 611, 644, 657, 670, 683, 716, 739, 762, 785], 120) := by decide +kernel
theorem dL_law_152 : decode cL_law 152 = .ok (.aload_n 1, 1) := by decide +kernel
theorem dL_law_153 : decode cL_law 153 = .ok (.aload_n 0, 1) := by decide +kernel
theorem dL_law_154 : decode cL_law 154 = .ok (.iload_n 3, 1) := by decide +kernel
theorem dL_law_155 : decode cL_law 155 = .ok (.iconst 1, 1) := by decide +kernel
theorem dL_law_156 : decode cL_law 156 = .ok (.iadd, 1) := by decide +kernel
theorem dL_law_157 : decode cL_law 157 = .ok (.iaload, 1) := by decide +kernel
theorem dL_law_158 : decode cL_law 158 = .ok (.invokevirtual 13, 3) := by decide +kernel
theorem dL_law_161 : decode cL_law 161 = .ok (.aload_n 2, 1) := by decide +kernel
theorem dL_law_162 : decode cL_law 162 = .ok (.aload_n 0, 1) := by decide +kernel
theorem dL_law_163 : decode cL_law 163 = .ok (.iload_n 3, 1) := by decide +kernel
theorem dL_law_164 : decode cL_law 164 = .ok (.iconst 1, 1) := by decide +kernel
theorem dL_law_165 : decode cL_law 165 = .ok (.iadd, 1) := by decide +kernel
theorem dL_law_166 : decode cL_law 166 = .ok (.iaload, 1) := by decide +kernel
theorem dL_law_167 : decode cL_law 167 = .ok (.invokevirtual 17, 3) := by decide +kernel
theorem dL_law_170 : decode cL_law 170 = .ok (.if_icmp .eq 661, 3) := by decide +kernel
theorem dL_law_173 : decode cL_law 173 = .ok (.iconst 0, 1) := by decide +kernel
theorem dL_law_174 : decode cL_law 174 = .ok (.ireturn, 1) := by decide +kernel
theorem dL_law_175 : decode cL_law 175 = .ok (.aload_n 1, 1) := by decide +kernel
theorem dL_law_176 : decode cL_law 176 = .ok (.invokevirtual 18, 3) := by decide +kernel
theorem dL_law_179 : decode cL_law 179 = .ok (.aload_n 2, 1) := by decide +kernel
theorem dL_law_180 : decode cL_law 180 = .ok (.invokevirtual 22, 3) := by decide +kernel
theorem dL_law_183 : decode cL_law 183 = .ok (.if_icmp .eq 648, 3) := by decide +kernel
theorem dL_law_186 : decode cL_law 186 = .ok (.iconst 0, 1) := by decide +kernel
theorem dL_law_187 : decode cL_law 187 = .ok (.ireturn, 1) := by decide +kernel
theorem dL_law_188 : decode cL_law 188 = .ok (.aload_n 1, 1) := by decide +kernel
theorem dL_law_189 : decode cL_law 189 = .ok (.invokevirtual 23, 3) := by decide +kernel
theorem dL_law_192 : decode cL_law 192 = .ok (.aload_n 2, 1) := by decide +kernel
theorem dL_law_193 : decode cL_law 193 = .ok (.invokevirtual 26, 3) := by decide +kernel
theorem dL_law_196 : decode cL_law 196 = .ok (.if_icmp .eq 635, 3) := by decide +kernel
theorem dL_law_199 : decode cL_law 199 = .ok (.iconst 0, 1) := by decide +kernel
theorem dL_law_200 : decode cL_law 200 = .ok (.ireturn, 1) := by decide +kernel
theorem dL_law_201 : decode cL_law 201 = .ok (.aload_n 1, 1) := by decide +kernel
theorem dL_law_202 : decode cL_law 202 = .ok (.aload_n 0, 1) := by decide +kernel
theorem dL_law_203 : decode cL_law 203 = .ok (.iload_n 3, 1) := by decide +kernel
theorem dL_law_204 : decode cL_law 204 = .ok (.iconst 1, 1) := by decide +kernel
theorem dL_law_205 : decode cL_law 205 = .ok (.iadd, 1) := by decide +kernel
theorem dL_law_206 : decode cL_law 206 = .ok (.iaload, 1) := by decide +kernel
theorem dL_law_207 : decode cL_law 207 = .ok (.aload_n 0, 1) := by decide +kernel
theorem dL_law_208 : decode cL_law 208 = .ok (.iload_n 3, 1) := by decide +kernel
theorem dL_law_209 : decode cL_law 209 = .ok (.iconst 2, 1) := by decide +kernel
theorem dL_law_210 : decode cL_law 210 = .ok (.iadd, 1) := by decide +kernel
theorem dL_law_211 : decode cL_law 211 = .ok (.iaload, 1) := by decide +kernel
theorem dL_law_212 : decode cL_law 212 = .ok (.invokevirtual 27, 3) := by decide +kernel
theorem dL_law_215 : decode cL_law 215 = .ok (.aload_n 2, 1) := by decide +kernel
theorem dL_law_216 : decode cL_law 216 = .ok (.aload_n 0, 1) := by decide +kernel
theorem dL_law_217 : decode cL_law 217 = .ok (.iload_n 3, 1) := by decide +kernel
theorem dL_law_218 : decode cL_law 218 = .ok (.iconst 1, 1) := by decide +kernel
theorem dL_law_219 : decode cL_law 219 = .ok (.iadd, 1) := by decide +kernel
theorem dL_law_220 : decode cL_law 220 = .ok (.iaload, 1) := by decide +kernel
theorem dL_law_221 : decode cL_law 221 = .ok (.aload_n 0, 1) := by decide +kernel
theorem dL_law_222 : decode cL_law 222 = .ok (.iload_n 3, 1) := by decide +kernel
theorem dL_law_223 : decode cL_law 223 = .ok (.iconst 2, 1) := by decide +kernel
theorem dL_law_224 : decode cL_law 224 = .ok (.iadd, 1) := by decide +kernel
theorem dL_law_225 : decode cL_law 225 = .ok (.iaload, 1) := by decide +kernel
theorem dL_law_226 : decode cL_law 226 = .ok (.invokevirtual 31, 3) := by decide +kernel
theorem dL_law_229 : decode cL_law 229 = .ok (.if_icmp .eq 602, 3) := by decide +kernel
theorem dL_law_232 : decode cL_law 232 = .ok (.iconst 0, 1) := by decide +kernel
theorem dL_law_233 : decode cL_law 233 = .ok (.ireturn, 1) := by decide +kernel
theorem dL_law_234 : decode cL_law 234 = .ok (.aload_n 1, 1) := by decide +kernel
theorem dL_law_235 : decode cL_law 235 = .ok (.aload_n 0, 1) := by decide +kernel
theorem dL_law_236 : decode cL_law 236 = .ok (.iload_n 3, 1) := by decide +kernel
theorem dL_law_237 : decode cL_law 237 = .ok (.iconst 1, 1) := by decide +kernel
theorem dL_law_238 : decode cL_law 238 = .ok (.iadd, 1) := by decide +kernel
theorem dL_law_239 : decode cL_law 239 = .ok (.iaload, 1) := by decide +kernel
theorem dL_law_240 : decode cL_law 240 = .ok (.aload_n 0, 1) := by decide +kernel
theorem dL_law_241 : decode cL_law 241 = .ok (.iload_n 3, 1) := by decide +kernel
theorem dL_law_242 : decode cL_law 242 = .ok (.iconst 2, 1) := by decide +kernel
theorem dL_law_243 : decode cL_law 243 = .ok (.iadd, 1) := by decide +kernel
theorem dL_law_244 : decode cL_law 244 = .ok (.iaload, 1) := by decide +kernel
theorem dL_law_245 : decode cL_law 245 = .ok (.invokevirtual 32, 3) := by decide +kernel
theorem dL_law_248 : decode cL_law 248 = .ok (.aload_n 2, 1) := by decide +kernel
theorem dL_law_249 : decode cL_law 249 = .ok (.aload_n 0, 1) := by decide +kernel
theorem dL_law_250 : decode cL_law 250 = .ok (.iload_n 3, 1) := by decide +kernel
theorem dL_law_251 : decode cL_law 251 = .ok (.iconst 1, 1) := by decide +kernel
theorem dL_law_252 : decode cL_law 252 = .ok (.iadd, 1) := by decide +kernel
theorem dL_law_253 : decode cL_law 253 = .ok (.iaload, 1) := by decide +kernel
theorem dL_law_254 : decode cL_law 254 = .ok (.aload_n 0, 1) := by decide +kernel
theorem dL_law_255 : decode cL_law 255 = .ok (.iload_n 3, 1) := by decide +kernel
theorem dL_law_256 : decode cL_law 256 = .ok (.iconst 2, 1) := by decide +kernel
theorem dL_law_257 : decode cL_law 257 = .ok (.iadd, 1) := by decide +kernel
theorem dL_law_258 : decode cL_law 258 = .ok (.iaload, 1) := by decide +kernel
theorem dL_law_259 : decode cL_law 259 = .ok (.invokevirtual 35, 3) := by decide +kernel
theorem dL_law_262 : decode cL_law 262 = .ok (.if_icmp .eq 569, 3) := by decide +kernel
theorem dL_law_265 : decode cL_law 265 = .ok (.iconst 0, 1) := by decide +kernel
theorem dL_law_266 : decode cL_law 266 = .ok (.ireturn, 1) := by decide +kernel
theorem dL_law_267 : decode cL_law 267 = .ok (.aload_n 1, 1) := by decide +kernel
theorem dL_law_268 : decode cL_law 268 = .ok (.aload_n 0, 1) := by decide +kernel
theorem dL_law_269 : decode cL_law 269 = .ok (.iload_n 3, 1) := by decide +kernel
theorem dL_law_270 : decode cL_law 270 = .ok (.iconst 1, 1) := by decide +kernel
theorem dL_law_271 : decode cL_law 271 = .ok (.iadd, 1) := by decide +kernel
theorem dL_law_272 : decode cL_law 272 = .ok (.iaload, 1) := by decide +kernel
theorem dL_law_273 : decode cL_law 273 = .ok (.aload_n 0, 1) := by decide +kernel
theorem dL_law_274 : decode cL_law 274 = .ok (.iload_n 3, 1) := by decide +kernel
theorem dL_law_275 : decode cL_law 275 = .ok (.iconst 2, 1) := by decide +kernel
theorem dL_law_276 : decode cL_law 276 = .ok (.iadd, 1) := by decide +kernel
theorem dL_law_277 : decode cL_law 277 = .ok (.iaload, 1) := by decide +kernel
theorem dL_law_278 : decode cL_law 278 = .ok (.invokevirtual 36, 3) := by decide +kernel
theorem dL_law_281 : decode cL_law 281 = .ok (.aload_n 2, 1) := by decide +kernel
theorem dL_law_282 : decode cL_law 282 = .ok (.aload_n 0, 1) := by decide +kernel
theorem dL_law_283 : decode cL_law 283 = .ok (.iload_n 3, 1) := by decide +kernel
theorem dL_law_284 : decode cL_law 284 = .ok (.iconst 1, 1) := by decide +kernel
theorem dL_law_285 : decode cL_law 285 = .ok (.iadd, 1) := by decide +kernel
theorem dL_law_286 : decode cL_law 286 = .ok (.iaload, 1) := by decide +kernel
theorem dL_law_287 : decode cL_law 287 = .ok (.aload_n 0, 1) := by decide +kernel
theorem dL_law_288 : decode cL_law 288 = .ok (.iload_n 3, 1) := by decide +kernel
theorem dL_law_289 : decode cL_law 289 = .ok (.iconst 2, 1) := by decide +kernel
theorem dL_law_290 : decode cL_law 290 = .ok (.iadd, 1) := by decide +kernel
theorem dL_law_291 : decode cL_law 291 = .ok (.iaload, 1) := by decide +kernel
theorem dL_law_292 : decode cL_law 292 = .ok (.invokevirtual 39, 3) := by decide +kernel
theorem dL_law_295 : decode cL_law 295 = .ok (.if_icmp .eq 536, 3) := by decide +kernel
theorem dL_law_298 : decode cL_law 298 = .ok (.iconst 0, 1) := by decide +kernel
theorem dL_law_299 : decode cL_law 299 = .ok (.ireturn, 1) := by decide +kernel
theorem dL_law_300 : decode cL_law 300 = .ok (.aload_n 1, 1) := by decide +kernel
theorem dL_law_301 : decode cL_law 301 = .ok (.aload_n 0, 1) := by decide +kernel
theorem dL_law_302 : decode cL_law 302 = .ok (.iload_n 3, 1) := by decide +kernel
theorem dL_law_303 : decode cL_law 303 = .ok (.iconst 1, 1) := by decide +kernel
theorem dL_law_304 : decode cL_law 304 = .ok (.iadd, 1) := by decide +kernel
theorem dL_law_305 : decode cL_law 305 = .ok (.iaload, 1) := by decide +kernel
theorem dL_law_306 : decode cL_law 306 = .ok (.aload_n 0, 1) := by decide +kernel
theorem dL_law_307 : decode cL_law 307 = .ok (.iload_n 3, 1) := by decide +kernel
theorem dL_law_308 : decode cL_law 308 = .ok (.iconst 2, 1) := by decide +kernel
theorem dL_law_309 : decode cL_law 309 = .ok (.iadd, 1) := by decide +kernel
theorem dL_law_310 : decode cL_law 310 = .ok (.iaload, 1) := by decide +kernel
theorem dL_law_311 : decode cL_law 311 = .ok (.invokevirtual 40, 3) := by decide +kernel
theorem dL_law_314 : decode cL_law 314 = .ok (.aload_n 2, 1) := by decide +kernel
theorem dL_law_315 : decode cL_law 315 = .ok (.aload_n 0, 1) := by decide +kernel
theorem dL_law_316 : decode cL_law 316 = .ok (.iload_n 3, 1) := by decide +kernel
theorem dL_law_317 : decode cL_law 317 = .ok (.iconst 1, 1) := by decide +kernel
theorem dL_law_318 : decode cL_law 318 = .ok (.iadd, 1) := by decide +kernel
theorem dL_law_319 : decode cL_law 319 = .ok (.iaload, 1) := by decide +kernel
theorem dL_law_320 : decode cL_law 320 = .ok (.aload_n 0, 1) := by decide +kernel
theorem dL_law_321 : decode cL_law 321 = .ok (.iload_n 3, 1) := by decide +kernel
theorem dL_law_322 : decode cL_law 322 = .ok (.iconst 2, 1) := by decide +kernel
theorem dL_law_323 : decode cL_law 323 = .ok (.iadd, 1) := by decide +kernel
theorem dL_law_324 : decode cL_law 324 = .ok (.iaload, 1) := by decide +kernel
theorem dL_law_325 : decode cL_law 325 = .ok (.invokevirtual 43, 3) := by decide +kernel
theorem dL_law_328 : decode cL_law 328 = .ok (.if_icmp .eq 503, 3) := by decide +kernel
theorem dL_law_331 : decode cL_law 331 = .ok (.iconst 0, 1) := by decide +kernel
theorem dL_law_332 : decode cL_law 332 = .ok (.ireturn, 1) := by decide +kernel
theorem dL_law_333 : decode cL_law 333 = .ok (.aload_n 1, 1) := by decide +kernel
theorem dL_law_334 : decode cL_law 334 = .ok (.aload_n 0, 1) := by decide +kernel
theorem dL_law_335 : decode cL_law 335 = .ok (.iload_n 3, 1) := by decide +kernel
theorem dL_law_336 : decode cL_law 336 = .ok (.iconst 1, 1) := by decide +kernel
theorem dL_law_337 : decode cL_law 337 = .ok (.iadd, 1) := by decide +kernel
theorem dL_law_338 : decode cL_law 338 = .ok (.iaload, 1) := by decide +kernel
theorem dL_law_339 : decode cL_law 339 = .ok (.invokevirtual 44, 3) := by decide +kernel
theorem dL_law_342 : decode cL_law 342 = .ok (.aload_n 2, 1) := by decide +kernel
theorem dL_law_343 : decode cL_law 343 = .ok (.aload_n 0, 1) := by decide +kernel
theorem dL_law_344 : decode cL_law 344 = .ok (.iload_n 3, 1) := by decide +kernel
theorem dL_law_345 : decode cL_law 345 = .ok (.iconst 1, 1) := by decide +kernel
theorem dL_law_346 : decode cL_law 346 = .ok (.iadd, 1) := by decide +kernel
theorem dL_law_347 : decode cL_law 347 = .ok (.iaload, 1) := by decide +kernel
theorem dL_law_348 : decode cL_law 348 = .ok (.invokevirtual 47, 3) := by decide +kernel
theorem dL_law_351 : decode cL_law 351 = .ok (.if_icmp .eq 480, 3) := by decide +kernel
theorem dL_law_354 : decode cL_law 354 = .ok (.iconst 0, 1) := by decide +kernel
theorem dL_law_355 : decode cL_law 355 = .ok (.ireturn, 1) := by decide +kernel
theorem dL_law_356 : decode cL_law 356 = .ok (.aload_n 1, 1) := by decide +kernel
theorem dL_law_357 : decode cL_law 357 = .ok (.aload_n 0, 1) := by decide +kernel
theorem dL_law_358 : decode cL_law 358 = .ok (.iload_n 3, 1) := by decide +kernel
theorem dL_law_359 : decode cL_law 359 = .ok (.iconst 1, 1) := by decide +kernel
theorem dL_law_360 : decode cL_law 360 = .ok (.iadd, 1) := by decide +kernel
theorem dL_law_361 : decode cL_law 361 = .ok (.iaload, 1) := by decide +kernel
theorem dL_law_362 : decode cL_law 362 = .ok (.invokevirtual 48, 3) := by decide +kernel
theorem dL_law_365 : decode cL_law 365 = .ok (.aload_n 2, 1) := by decide +kernel
theorem dL_law_366 : decode cL_law 366 = .ok (.aload_n 0, 1) := by decide +kernel
theorem dL_law_367 : decode cL_law 367 = .ok (.iload_n 3, 1) := by decide +kernel
theorem dL_law_368 : decode cL_law 368 = .ok (.iconst 1, 1) := by decide +kernel
theorem dL_law_369 : decode cL_law 369 = .ok (.iadd, 1) := by decide +kernel
theorem dL_law_370 : decode cL_law 370 = .ok (.iaload, 1) := by decide +kernel
theorem dL_law_371 : decode cL_law 371 = .ok (.invokevirtual 51, 3) := by decide +kernel
theorem dL_law_374 : decode cL_law 374 = .ok (.if_icmp .eq 457, 3) := by decide +kernel
theorem dL_law_377 : decode cL_law 377 = .ok (.iconst 0, 1) := by decide +kernel
theorem dL_law_378 : decode cL_law 378 = .ok (.ireturn, 1) := by decide +kernel
theorem dL_law_379 : decode cL_law 379 = .ok (.aload_n 1, 1) := by decide +kernel
theorem dL_law_380 : decode cL_law 380 = .ok (.aload_n 0, 1) := by decide +kernel
theorem dL_law_381 : decode cL_law 381 = .ok (.iload_n 3, 1) := by decide +kernel
theorem dL_law_382 : decode cL_law 382 = .ok (.iconst 1, 1) := by decide +kernel
theorem dL_law_383 : decode cL_law 383 = .ok (.iadd, 1) := by decide +kernel
theorem dL_law_384 : decode cL_law 384 = .ok (.iaload, 1) := by decide +kernel
theorem dL_law_385 : decode cL_law 385 = .ok (.aload_n 0, 1) := by decide +kernel
theorem dL_law_386 : decode cL_law 386 = .ok (.iload_n 3, 1) := by decide +kernel
theorem dL_law_387 : decode cL_law 387 = .ok (.iconst 2, 1) := by decide +kernel
theorem dL_law_388 : decode cL_law 388 = .ok (.iadd, 1) := by decide +kernel
theorem dL_law_389 : decode cL_law 389 = .ok (.iaload, 1) := by decide +kernel
theorem dL_law_390 : decode cL_law 390 = .ok (.aload_n 0, 1) := by decide +kernel
theorem dL_law_391 : decode cL_law 391 = .ok (.iload_n 3, 1) := by decide +kernel
theorem dL_law_392 : decode cL_law 392 = .ok (.iconst 3, 1) := by decide +kernel
theorem dL_law_393 : decode cL_law 393 = .ok (.iadd, 1) := by decide +kernel
theorem dL_law_394 : decode cL_law 394 = .ok (.iaload, 1) := by decide +kernel
theorem dL_law_395 : decode cL_law 395 = .ok (.invokevirtual 52, 3) := by decide +kernel
theorem dL_law_398 : decode cL_law 398 = .ok (.aload_n 2, 1) := by decide +kernel
theorem dL_law_399 : decode cL_law 399 = .ok (.aload_n 0, 1) := by decide +kernel
theorem dL_law_400 : decode cL_law 400 = .ok (.iload_n 3, 1) := by decide +kernel
theorem dL_law_401 : decode cL_law 401 = .ok (.iconst 1, 1) := by decide +kernel
theorem dL_law_402 : decode cL_law 402 = .ok (.iadd, 1) := by decide +kernel
theorem dL_law_403 : decode cL_law 403 = .ok (.iaload, 1) := by decide +kernel
theorem dL_law_404 : decode cL_law 404 = .ok (.aload_n 0, 1) := by decide +kernel
theorem dL_law_405 : decode cL_law 405 = .ok (.iload_n 3, 1) := by decide +kernel
theorem dL_law_406 : decode cL_law 406 = .ok (.iconst 2, 1) := by decide +kernel
theorem dL_law_407 : decode cL_law 407 = .ok (.iadd, 1) := by decide +kernel
theorem dL_law_408 : decode cL_law 408 = .ok (.iaload, 1) := by decide +kernel
theorem dL_law_409 : decode cL_law 409 = .ok (.aload_n 0, 1) := by decide +kernel
theorem dL_law_410 : decode cL_law 410 = .ok (.iload_n 3, 1) := by decide +kernel
theorem dL_law_411 : decode cL_law 411 = .ok (.iconst 3, 1) := by decide +kernel
theorem dL_law_412 : decode cL_law 412 = .ok (.iadd, 1) := by decide +kernel
theorem dL_law_413 : decode cL_law 413 = .ok (.iaload, 1) := by decide +kernel
theorem dL_law_414 : decode cL_law 414 = .ok (.invokevirtual 56, 3) := by decide +kernel
theorem dL_law_417 : decode cL_law 417 = .ok (.if_icmp .eq 414, 3) := by decide +kernel
theorem dL_law_420 : decode cL_law 420 = .ok (.iconst 0, 1) := by decide +kernel
theorem dL_law_421 : decode cL_law 421 = .ok (.ireturn, 1) := by decide +kernel
theorem dL_law_422 : decode cL_law 422 = .ok (.aload_n 1, 1) := by decide +kernel
theorem dL_law_423 : decode cL_law 423 = .ok (.invokevirtual 57, 3) := by decide +kernel
theorem dL_law_426 : decode cL_law 426 = .ok (.aload_n 2, 1) := by decide +kernel
theorem dL_law_427 : decode cL_law 427 = .ok (.invokevirtual 60, 3) := by decide +kernel
theorem dL_law_430 : decode cL_law 430 = .ok (.if_icmp .eq 401, 3) := by decide +kernel
theorem dL_law_433 : decode cL_law 433 = .ok (.iconst 0, 1) := by decide +kernel
theorem dL_law_434 : decode cL_law 434 = .ok (.ireturn, 1) := by decide +kernel
theorem dL_law_435 : decode cL_law 435 = .ok (.aload_n 1, 1) := by decide +kernel
theorem dL_law_436 : decode cL_law 436 = .ok (.aload_n 0, 1) := by decide +kernel
theorem dL_law_437 : decode cL_law 437 = .ok (.iload_n 3, 1) := by decide +kernel
theorem dL_law_438 : decode cL_law 438 = .ok (.iconst 1, 1) := by decide +kernel
theorem dL_law_439 : decode cL_law 439 = .ok (.iadd, 1) := by decide +kernel
theorem dL_law_440 : decode cL_law 440 = .ok (.iaload, 1) := by decide +kernel
theorem dL_law_441 : decode cL_law 441 = .ok (.invokevirtual 61, 3) := by decide +kernel
theorem dL_law_444 : decode cL_law 444 = .ok (.aload_n 2, 1) := by decide +kernel
theorem dL_law_445 : decode cL_law 445 = .ok (.aload_n 0, 1) := by decide +kernel
theorem dL_law_446 : decode cL_law 446 = .ok (.iload_n 3, 1) := by decide +kernel
theorem dL_law_447 : decode cL_law 447 = .ok (.iconst 1, 1) := by decide +kernel
theorem dL_law_448 : decode cL_law 448 = .ok (.iadd, 1) := by decide +kernel
theorem dL_law_449 : decode cL_law 449 = .ok (.iaload, 1) := by decide +kernel
theorem dL_law_450 : decode cL_law 450 = .ok (.invokevirtual 64, 3) := by decide +kernel
theorem dL_law_453 : decode cL_law 453 = .ok (.if_icmp .eq 378, 3) := by decide +kernel
theorem dL_law_456 : decode cL_law 456 = .ok (.iconst 0, 1) := by decide +kernel
theorem dL_law_457 : decode cL_law 457 = .ok (.ireturn, 1) := by decide +kernel
theorem dL_law_458 : decode cL_law 458 = .ok (.aload_n 1, 1) := by decide +kernel
theorem dL_law_459 : decode cL_law 459 = .ok (.aload_n 0, 1) := by decide +kernel
theorem dL_law_460 : decode cL_law 460 = .ok (.iload_n 3, 1) := by decide +kernel
theorem dL_law_461 : decode cL_law 461 = .ok (.iconst 1, 1) := by decide +kernel
theorem dL_law_462 : decode cL_law 462 = .ok (.iadd, 1) := by decide +kernel
theorem dL_law_463 : decode cL_law 463 = .ok (.iaload, 1) := by decide +kernel
theorem dL_law_464 : decode cL_law 464 = .ok (.aload_n 0, 1) := by decide +kernel
theorem dL_law_465 : decode cL_law 465 = .ok (.iload_n 3, 1) := by decide +kernel
theorem dL_law_466 : decode cL_law 466 = .ok (.iconst 2, 1) := by decide +kernel
theorem dL_law_467 : decode cL_law 467 = .ok (.iadd, 1) := by decide +kernel
theorem dL_law_468 : decode cL_law 468 = .ok (.iaload, 1) := by decide +kernel
theorem dL_law_469 : decode cL_law 469 = .ok (.aload_n 0, 1) := by decide +kernel
theorem dL_law_470 : decode cL_law 470 = .ok (.iload_n 3, 1) := by decide +kernel
theorem dL_law_471 : decode cL_law 471 = .ok (.iconst 3, 1) := by decide +kernel
theorem dL_law_472 : decode cL_law 472 = .ok (.iadd, 1) := by decide +kernel
theorem dL_law_473 : decode cL_law 473 = .ok (.iaload, 1) := by decide +kernel
theorem dL_law_474 : decode cL_law 474 = .ok (.invokevirtual 65, 3) := by decide +kernel
theorem dL_law_477 : decode cL_law 477 = .ok (.aload_n 2, 1) := by decide +kernel
theorem dL_law_478 : decode cL_law 478 = .ok (.aload_n 0, 1) := by decide +kernel
theorem dL_law_479 : decode cL_law 479 = .ok (.iload_n 3, 1) := by decide +kernel
theorem dL_law_480 : decode cL_law 480 = .ok (.iconst 1, 1) := by decide +kernel
theorem dL_law_481 : decode cL_law 481 = .ok (.iadd, 1) := by decide +kernel
theorem dL_law_482 : decode cL_law 482 = .ok (.iaload, 1) := by decide +kernel
theorem dL_law_483 : decode cL_law 483 = .ok (.aload_n 0, 1) := by decide +kernel
theorem dL_law_484 : decode cL_law 484 = .ok (.iload_n 3, 1) := by decide +kernel
theorem dL_law_485 : decode cL_law 485 = .ok (.iconst 2, 1) := by decide +kernel
theorem dL_law_486 : decode cL_law 486 = .ok (.iadd, 1) := by decide +kernel
theorem dL_law_487 : decode cL_law 487 = .ok (.iaload, 1) := by decide +kernel
theorem dL_law_488 : decode cL_law 488 = .ok (.aload_n 0, 1) := by decide +kernel
theorem dL_law_489 : decode cL_law 489 = .ok (.iload_n 3, 1) := by decide +kernel
theorem dL_law_490 : decode cL_law 490 = .ok (.iconst 3, 1) := by decide +kernel
theorem dL_law_491 : decode cL_law 491 = .ok (.iadd, 1) := by decide +kernel
theorem dL_law_492 : decode cL_law 492 = .ok (.iaload, 1) := by decide +kernel
theorem dL_law_493 : decode cL_law 493 = .ok (.invokevirtual 68, 3) := by decide +kernel
theorem dL_law_496 : decode cL_law 496 = .ok (.if_icmp .eq 335, 3) := by decide +kernel
theorem dL_law_499 : decode cL_law 499 = .ok (.iconst 0, 1) := by decide +kernel
theorem dL_law_500 : decode cL_law 500 = .ok (.ireturn, 1) := by decide +kernel
theorem dL_law_501 : decode cL_law 501 = .ok (.aload_n 1, 1) := by decide +kernel
theorem dL_law_502 : decode cL_law 502 = .ok (.aload_n 0, 1) := by decide +kernel
theorem dL_law_503 : decode cL_law 503 = .ok (.iload_n 3, 1) := by decide +kernel
theorem dL_law_504 : decode cL_law 504 = .ok (.iconst 1, 1) := by decide +kernel
theorem dL_law_505 : decode cL_law 505 = .ok (.iadd, 1) := by decide +kernel
theorem dL_law_506 : decode cL_law 506 = .ok (.iaload, 1) := by decide +kernel
theorem dL_law_507 : decode cL_law 507 = .ok (.aload_n 0, 1) := by decide +kernel
theorem dL_law_508 : decode cL_law 508 = .ok (.iload_n 3, 1) := by decide +kernel
theorem dL_law_509 : decode cL_law 509 = .ok (.iconst 2, 1) := by decide +kernel
theorem dL_law_510 : decode cL_law 510 = .ok (.iadd, 1) := by decide +kernel
theorem dL_law_511 : decode cL_law 511 = .ok (.iaload, 1) := by decide +kernel
theorem dL_law_512 : decode cL_law 512 = .ok (.aload_n 0, 1) := by decide +kernel
theorem dL_law_513 : decode cL_law 513 = .ok (.iload_n 3, 1) := by decide +kernel
theorem dL_law_514 : decode cL_law 514 = .ok (.iconst 3, 1) := by decide +kernel
theorem dL_law_515 : decode cL_law 515 = .ok (.iadd, 1) := by decide +kernel
theorem dL_law_516 : decode cL_law 516 = .ok (.iaload, 1) := by decide +kernel
theorem dL_law_517 : decode cL_law 517 = .ok (.invokevirtual 69, 3) := by decide +kernel
theorem dL_law_520 : decode cL_law 520 = .ok (.aload_n 2, 1) := by decide +kernel
theorem dL_law_521 : decode cL_law 521 = .ok (.aload_n 0, 1) := by decide +kernel
theorem dL_law_522 : decode cL_law 522 = .ok (.iload_n 3, 1) := by decide +kernel
theorem dL_law_523 : decode cL_law 523 = .ok (.iconst 1, 1) := by decide +kernel
theorem dL_law_524 : decode cL_law 524 = .ok (.iadd, 1) := by decide +kernel
theorem dL_law_525 : decode cL_law 525 = .ok (.iaload, 1) := by decide +kernel
theorem dL_law_526 : decode cL_law 526 = .ok (.aload_n 0, 1) := by decide +kernel
theorem dL_law_527 : decode cL_law 527 = .ok (.iload_n 3, 1) := by decide +kernel
theorem dL_law_528 : decode cL_law 528 = .ok (.iconst 2, 1) := by decide +kernel
theorem dL_law_529 : decode cL_law 529 = .ok (.iadd, 1) := by decide +kernel
theorem dL_law_530 : decode cL_law 530 = .ok (.iaload, 1) := by decide +kernel
theorem dL_law_531 : decode cL_law 531 = .ok (.aload_n 0, 1) := by decide +kernel
theorem dL_law_532 : decode cL_law 532 = .ok (.iload_n 3, 1) := by decide +kernel
theorem dL_law_533 : decode cL_law 533 = .ok (.iconst 3, 1) := by decide +kernel
theorem dL_law_534 : decode cL_law 534 = .ok (.iadd, 1) := by decide +kernel
theorem dL_law_535 : decode cL_law 535 = .ok (.iaload, 1) := by decide +kernel
theorem dL_law_536 : decode cL_law 536 = .ok (.invokevirtual 72, 3) := by decide +kernel
theorem dL_law_539 : decode cL_law 539 = .ok (.if_icmp .eq 292, 3) := by decide +kernel
theorem dL_law_542 : decode cL_law 542 = .ok (.iconst 0, 1) := by decide +kernel
theorem dL_law_543 : decode cL_law 543 = .ok (.ireturn, 1) := by decide +kernel
theorem dL_law_544 : decode cL_law 544 = .ok (.aload_n 1, 1) := by decide +kernel
theorem dL_law_545 : decode cL_law 545 = .ok (.aload_n 0, 1) := by decide +kernel
theorem dL_law_546 : decode cL_law 546 = .ok (.iload_n 3, 1) := by decide +kernel
theorem dL_law_547 : decode cL_law 547 = .ok (.iconst 1, 1) := by decide +kernel
theorem dL_law_548 : decode cL_law 548 = .ok (.iadd, 1) := by decide +kernel
theorem dL_law_549 : decode cL_law 549 = .ok (.iaload, 1) := by decide +kernel
theorem dL_law_550 : decode cL_law 550 = .ok (.invokevirtual 73, 3) := by decide +kernel
theorem dL_law_553 : decode cL_law 553 = .ok (.aload_n 2, 1) := by decide +kernel
theorem dL_law_554 : decode cL_law 554 = .ok (.aload_n 0, 1) := by decide +kernel
theorem dL_law_555 : decode cL_law 555 = .ok (.iload_n 3, 1) := by decide +kernel
theorem dL_law_556 : decode cL_law 556 = .ok (.iconst 1, 1) := by decide +kernel
theorem dL_law_557 : decode cL_law 557 = .ok (.iadd, 1) := by decide +kernel
theorem dL_law_558 : decode cL_law 558 = .ok (.iaload, 1) := by decide +kernel
theorem dL_law_559 : decode cL_law 559 = .ok (.invokevirtual 76, 3) := by decide +kernel
theorem dL_law_562 : decode cL_law 562 = .ok (.if_icmp .eq 269, 3) := by decide +kernel
theorem dL_law_565 : decode cL_law 565 = .ok (.iconst 0, 1) := by decide +kernel
theorem dL_law_566 : decode cL_law 566 = .ok (.ireturn, 1) := by decide +kernel
theorem dL_law_567 : decode cL_law 567 = .ok (.aload_n 1, 1) := by decide +kernel
theorem dL_law_568 : decode cL_law 568 = .ok (.aload_n 0, 1) := by decide +kernel
theorem dL_law_569 : decode cL_law 569 = .ok (.iload_n 3, 1) := by decide +kernel
theorem dL_law_570 : decode cL_law 570 = .ok (.iconst 1, 1) := by decide +kernel
theorem dL_law_571 : decode cL_law 571 = .ok (.iadd, 1) := by decide +kernel
theorem dL_law_572 : decode cL_law 572 = .ok (.iaload, 1) := by decide +kernel
theorem dL_law_573 : decode cL_law 573 = .ok (.aload_n 0, 1) := by decide +kernel
theorem dL_law_574 : decode cL_law 574 = .ok (.iload_n 3, 1) := by decide +kernel
theorem dL_law_575 : decode cL_law 575 = .ok (.iconst 2, 1) := by decide +kernel
theorem dL_law_576 : decode cL_law 576 = .ok (.iadd, 1) := by decide +kernel
theorem dL_law_577 : decode cL_law 577 = .ok (.iaload, 1) := by decide +kernel
theorem dL_law_578 : decode cL_law 578 = .ok (.invokevirtual 77, 3) := by decide +kernel
theorem dL_law_581 : decode cL_law 581 = .ok (.aload_n 2, 1) := by decide +kernel
theorem dL_law_582 : decode cL_law 582 = .ok (.aload_n 0, 1) := by decide +kernel
theorem dL_law_583 : decode cL_law 583 = .ok (.iload_n 3, 1) := by decide +kernel
theorem dL_law_584 : decode cL_law 584 = .ok (.iconst 1, 1) := by decide +kernel
theorem dL_law_585 : decode cL_law 585 = .ok (.iadd, 1) := by decide +kernel
theorem dL_law_586 : decode cL_law 586 = .ok (.iaload, 1) := by decide +kernel
theorem dL_law_587 : decode cL_law 587 = .ok (.aload_n 0, 1) := by decide +kernel
theorem dL_law_588 : decode cL_law 588 = .ok (.iload_n 3, 1) := by decide +kernel
theorem dL_law_589 : decode cL_law 589 = .ok (.iconst 2, 1) := by decide +kernel
theorem dL_law_590 : decode cL_law 590 = .ok (.iadd, 1) := by decide +kernel
theorem dL_law_591 : decode cL_law 591 = .ok (.iaload, 1) := by decide +kernel
theorem dL_law_592 : decode cL_law 592 = .ok (.invokevirtual 80, 3) := by decide +kernel
theorem dL_law_595 : decode cL_law 595 = .ok (.if_icmp .eq 236, 3) := by decide +kernel
theorem dL_law_598 : decode cL_law 598 = .ok (.iconst 0, 1) := by decide +kernel
theorem dL_law_599 : decode cL_law 599 = .ok (.ireturn, 1) := by decide +kernel
theorem dL_law_600 : decode cL_law 600 = .ok (.aload_n 1, 1) := by decide +kernel
theorem dL_law_601 : decode cL_law 601 = .ok (.aload_n 0, 1) := by decide +kernel
theorem dL_law_602 : decode cL_law 602 = .ok (.iload_n 3, 1) := by decide +kernel
theorem dL_law_603 : decode cL_law 603 = .ok (.iconst 1, 1) := by decide +kernel
theorem dL_law_604 : decode cL_law 604 = .ok (.iadd, 1) := by decide +kernel
theorem dL_law_605 : decode cL_law 605 = .ok (.iaload, 1) := by decide +kernel
theorem dL_law_606 : decode cL_law 606 = .ok (.aload_n 0, 1) := by decide +kernel
theorem dL_law_607 : decode cL_law 607 = .ok (.iload_n 3, 1) := by decide +kernel
theorem dL_law_608 : decode cL_law 608 = .ok (.iconst 2, 1) := by decide +kernel
theorem dL_law_609 : decode cL_law 609 = .ok (.iadd, 1) := by decide +kernel
theorem dL_law_610 : decode cL_law 610 = .ok (.iaload, 1) := by decide +kernel
theorem dL_law_611 : decode cL_law 611 = .ok (.aload_n 0, 1) := by decide +kernel
theorem dL_law_612 : decode cL_law 612 = .ok (.iload_n 3, 1) := by decide +kernel
theorem dL_law_613 : decode cL_law 613 = .ok (.iconst 3, 1) := by decide +kernel
theorem dL_law_614 : decode cL_law 614 = .ok (.iadd, 1) := by decide +kernel
theorem dL_law_615 : decode cL_law 615 = .ok (.iaload, 1) := by decide +kernel
theorem dL_law_616 : decode cL_law 616 = .ok (.invokevirtual 81, 3) := by decide +kernel
theorem dL_law_619 : decode cL_law 619 = .ok (.aload_n 2, 1) := by decide +kernel
theorem dL_law_620 : decode cL_law 620 = .ok (.aload_n 0, 1) := by decide +kernel
theorem dL_law_621 : decode cL_law 621 = .ok (.iload_n 3, 1) := by decide +kernel
theorem dL_law_622 : decode cL_law 622 = .ok (.iconst 1, 1) := by decide +kernel
theorem dL_law_623 : decode cL_law 623 = .ok (.iadd, 1) := by decide +kernel
theorem dL_law_624 : decode cL_law 624 = .ok (.iaload, 1) := by decide +kernel
theorem dL_law_625 : decode cL_law 625 = .ok (.aload_n 0, 1) := by decide +kernel
theorem dL_law_626 : decode cL_law 626 = .ok (.iload_n 3, 1) := by decide +kernel
theorem dL_law_627 : decode cL_law 627 = .ok (.iconst 2, 1) := by decide +kernel
theorem dL_law_628 : decode cL_law 628 = .ok (.iadd, 1) := by decide +kernel
theorem dL_law_629 : decode cL_law 629 = .ok (.iaload, 1) := by decide +kernel
theorem dL_law_630 : decode cL_law 630 = .ok (.aload_n 0, 1) := by decide +kernel
theorem dL_law_631 : decode cL_law 631 = .ok (.iload_n 3, 1) := by decide +kernel
theorem dL_law_632 : decode cL_law 632 = .ok (.iconst 3, 1) := by decide +kernel
theorem dL_law_633 : decode cL_law 633 = .ok (.iadd, 1) := by decide +kernel
theorem dL_law_634 : decode cL_law 634 = .ok (.iaload, 1) := by decide +kernel
theorem dL_law_635 : decode cL_law 635 = .ok (.invokevirtual 84, 3) := by decide +kernel
theorem dL_law_638 : decode cL_law 638 = .ok (.if_icmp .eq 193, 3) := by decide +kernel
theorem dL_law_641 : decode cL_law 641 = .ok (.iconst 0, 1) := by decide +kernel
theorem dL_law_642 : decode cL_law 642 = .ok (.ireturn, 1) := by decide +kernel
theorem dL_law_643 : decode cL_law 643 = .ok (.aload_n 1, 1) := by decide +kernel
theorem dL_law_644 : decode cL_law 644 = .ok (.aload_n 0, 1) := by decide +kernel
theorem dL_law_645 : decode cL_law 645 = .ok (.iload_n 3, 1) := by decide +kernel
theorem dL_law_646 : decode cL_law 646 = .ok (.iconst 1, 1) := by decide +kernel
theorem dL_law_647 : decode cL_law 647 = .ok (.iadd, 1) := by decide +kernel
theorem dL_law_648 : decode cL_law 648 = .ok (.iaload, 1) := by decide +kernel
theorem dL_law_649 : decode cL_law 649 = .ok (.aload_n 0, 1) := by decide +kernel
theorem dL_law_650 : decode cL_law 650 = .ok (.iload_n 3, 1) := by decide +kernel
theorem dL_law_651 : decode cL_law 651 = .ok (.iconst 2, 1) := by decide +kernel
theorem dL_law_652 : decode cL_law 652 = .ok (.iadd, 1) := by decide +kernel
theorem dL_law_653 : decode cL_law 653 = .ok (.iaload, 1) := by decide +kernel
theorem dL_law_654 : decode cL_law 654 = .ok (.invokevirtual 85, 3) := by decide +kernel
theorem dL_law_657 : decode cL_law 657 = .ok (.aload_n 2, 1) := by decide +kernel
theorem dL_law_658 : decode cL_law 658 = .ok (.aload_n 0, 1) := by decide +kernel
theorem dL_law_659 : decode cL_law 659 = .ok (.iload_n 3, 1) := by decide +kernel
theorem dL_law_660 : decode cL_law 660 = .ok (.iconst 1, 1) := by decide +kernel
theorem dL_law_661 : decode cL_law 661 = .ok (.iadd, 1) := by decide +kernel
theorem dL_law_662 : decode cL_law 662 = .ok (.iaload, 1) := by decide +kernel
theorem dL_law_663 : decode cL_law 663 = .ok (.aload_n 0, 1) := by decide +kernel
theorem dL_law_664 : decode cL_law 664 = .ok (.iload_n 3, 1) := by decide +kernel
theorem dL_law_665 : decode cL_law 665 = .ok (.iconst 2, 1) := by decide +kernel
theorem dL_law_666 : decode cL_law 666 = .ok (.iadd, 1) := by decide +kernel
theorem dL_law_667 : decode cL_law 667 = .ok (.iaload, 1) := by decide +kernel
theorem dL_law_668 : decode cL_law 668 = .ok (.invokevirtual 88, 3) := by decide +kernel
theorem dL_law_671 : decode cL_law 671 = .ok (.if_icmp .eq 160, 3) := by decide +kernel
theorem dL_law_674 : decode cL_law 674 = .ok (.iconst 0, 1) := by decide +kernel
theorem dL_law_675 : decode cL_law 675 = .ok (.ireturn, 1) := by decide +kernel
theorem dL_law_676 : decode cL_law 676 = .ok (.aload_n 1, 1) := by decide +kernel
theorem dL_law_677 : decode cL_law 677 = .ok (.invokevirtual 89, 3) := by decide +kernel
theorem dL_law_680 : decode cL_law 680 = .ok (.aload_n 2, 1) := by decide +kernel
theorem dL_law_681 : decode cL_law 681 = .ok (.invokevirtual 92, 3) := by decide +kernel
theorem dL_law_684 : decode cL_law 684 = .ok (.if_icmp .eq 147, 3) := by decide +kernel
theorem dL_law_687 : decode cL_law 687 = .ok (.iconst 0, 1) := by decide +kernel
theorem dL_law_688 : decode cL_law 688 = .ok (.ireturn, 1) := by decide +kernel
theorem dL_law_689 : decode cL_law 689 = .ok (.aload_n 1, 1) := by decide +kernel
theorem dL_law_690 : decode cL_law 690 = .ok (.invokevirtual 93, 3) := by decide +kernel
theorem dL_law_693 : decode cL_law 693 = .ok (.aload_n 2, 1) := by decide +kernel
theorem dL_law_694 : decode cL_law 694 = .ok (.invokevirtual 96, 3) := by decide +kernel
theorem dL_law_697 : decode cL_law 697 = .ok (.if_icmp .eq 134, 3) := by decide +kernel
theorem dL_law_700 : decode cL_law 700 = .ok (.iconst 0, 1) := by decide +kernel
theorem dL_law_701 : decode cL_law 701 = .ok (.ireturn, 1) := by decide +kernel
theorem dL_law_702 : decode cL_law 702 = .ok (.aload_n 1, 1) := by decide +kernel
theorem dL_law_703 : decode cL_law 703 = .ok (.invokevirtual 97, 3) := by decide +kernel
theorem dL_law_706 : decode cL_law 706 = .ok (.aload_n 2, 1) := by decide +kernel
theorem dL_law_707 : decode cL_law 707 = .ok (.invokevirtual 100, 3) := by decide +kernel
theorem dL_law_710 : decode cL_law 710 = .ok (.if_icmp .eq 121, 3) := by decide +kernel
theorem dL_law_713 : decode cL_law 713 = .ok (.iconst 0, 1) := by decide +kernel
theorem dL_law_714 : decode cL_law 714 = .ok (.ireturn, 1) := by decide +kernel
theorem dL_law_715 : decode cL_law 715 = .ok (.aload_n 1, 1) := by decide +kernel
theorem dL_law_716 : decode cL_law 716 = .ok (.aload_n 0, 1) := by decide +kernel
theorem dL_law_717 : decode cL_law 717 = .ok (.iload_n 3, 1) := by decide +kernel
theorem dL_law_718 : decode cL_law 718 = .ok (.iconst 1, 1) := by decide +kernel
theorem dL_law_719 : decode cL_law 719 = .ok (.iadd, 1) := by decide +kernel
theorem dL_law_720 : decode cL_law 720 = .ok (.iaload, 1) := by decide +kernel
theorem dL_law_721 : decode cL_law 721 = .ok (.aload_n 0, 1) := by decide +kernel
theorem dL_law_722 : decode cL_law 722 = .ok (.iload_n 3, 1) := by decide +kernel
theorem dL_law_723 : decode cL_law 723 = .ok (.iconst 2, 1) := by decide +kernel
theorem dL_law_724 : decode cL_law 724 = .ok (.iadd, 1) := by decide +kernel
theorem dL_law_725 : decode cL_law 725 = .ok (.iaload, 1) := by decide +kernel
theorem dL_law_726 : decode cL_law 726 = .ok (.invokevirtual 101, 3) := by decide +kernel
theorem dL_law_729 : decode cL_law 729 = .ok (.aload_n 2, 1) := by decide +kernel
theorem dL_law_730 : decode cL_law 730 = .ok (.aload_n 0, 1) := by decide +kernel
theorem dL_law_731 : decode cL_law 731 = .ok (.iload_n 3, 1) := by decide +kernel
theorem dL_law_732 : decode cL_law 732 = .ok (.iconst 1, 1) := by decide +kernel
theorem dL_law_733 : decode cL_law 733 = .ok (.iadd, 1) := by decide +kernel
theorem dL_law_734 : decode cL_law 734 = .ok (.iaload, 1) := by decide +kernel
theorem dL_law_735 : decode cL_law 735 = .ok (.aload_n 0, 1) := by decide +kernel
theorem dL_law_736 : decode cL_law 736 = .ok (.iload_n 3, 1) := by decide +kernel
theorem dL_law_737 : decode cL_law 737 = .ok (.iconst 2, 1) := by decide +kernel
theorem dL_law_738 : decode cL_law 738 = .ok (.iadd, 1) := by decide +kernel
theorem dL_law_739 : decode cL_law 739 = .ok (.iaload, 1) := by decide +kernel
theorem dL_law_740 : decode cL_law 740 = .ok (.invokevirtual 104, 3) := by decide +kernel
theorem dL_law_743 : decode cL_law 743 = .ok (.if_icmp .eq 88, 3) := by decide +kernel
theorem dL_law_746 : decode cL_law 746 = .ok (.iconst 0, 1) := by decide +kernel
theorem dL_law_747 : decode cL_law 747 = .ok (.ireturn, 1) := by decide +kernel
theorem dL_law_748 : decode cL_law 748 = .ok (.aload_n 1, 1) := by decide +kernel
theorem dL_law_749 : decode cL_law 749 = .ok (.aload_n 0, 1) := by decide +kernel
theorem dL_law_750 : decode cL_law 750 = .ok (.iload_n 3, 1) := by decide +kernel
theorem dL_law_751 : decode cL_law 751 = .ok (.iconst 1, 1) := by decide +kernel
theorem dL_law_752 : decode cL_law 752 = .ok (.iadd, 1) := by decide +kernel
theorem dL_law_753 : decode cL_law 753 = .ok (.iaload, 1) := by decide +kernel
theorem dL_law_754 : decode cL_law 754 = .ok (.invokevirtual 105, 3) := by decide +kernel
theorem dL_law_757 : decode cL_law 757 = .ok (.aload_n 2, 1) := by decide +kernel
theorem dL_law_758 : decode cL_law 758 = .ok (.aload_n 0, 1) := by decide +kernel
theorem dL_law_759 : decode cL_law 759 = .ok (.iload_n 3, 1) := by decide +kernel
theorem dL_law_760 : decode cL_law 760 = .ok (.iconst 1, 1) := by decide +kernel
theorem dL_law_761 : decode cL_law 761 = .ok (.iadd, 1) := by decide +kernel
theorem dL_law_762 : decode cL_law 762 = .ok (.iaload, 1) := by decide +kernel
theorem dL_law_763 : decode cL_law 763 = .ok (.invokevirtual 108, 3) := by decide +kernel
theorem dL_law_766 : decode cL_law 766 = .ok (.if_icmp .eq 65, 3) := by decide +kernel
theorem dL_law_769 : decode cL_law 769 = .ok (.iconst 0, 1) := by decide +kernel
theorem dL_law_770 : decode cL_law 770 = .ok (.ireturn, 1) := by decide +kernel
theorem dL_law_771 : decode cL_law 771 = .ok (.aload_n 1, 1) := by decide +kernel
theorem dL_law_772 : decode cL_law 772 = .ok (.aload_n 0, 1) := by decide +kernel
theorem dL_law_773 : decode cL_law 773 = .ok (.iload_n 3, 1) := by decide +kernel
theorem dL_law_774 : decode cL_law 774 = .ok (.iconst 1, 1) := by decide +kernel
theorem dL_law_775 : decode cL_law 775 = .ok (.iadd, 1) := by decide +kernel
theorem dL_law_776 : decode cL_law 776 = .ok (.iaload, 1) := by decide +kernel
theorem dL_law_777 : decode cL_law 777 = .ok (.invokevirtual 109, 3) := by decide +kernel
theorem dL_law_780 : decode cL_law 780 = .ok (.aload_n 2, 1) := by decide +kernel
theorem dL_law_781 : decode cL_law 781 = .ok (.aload_n 0, 1) := by decide +kernel
theorem dL_law_782 : decode cL_law 782 = .ok (.iload_n 3, 1) := by decide +kernel
theorem dL_law_783 : decode cL_law 783 = .ok (.iconst 1, 1) := by decide +kernel
theorem dL_law_784 : decode cL_law 784 = .ok (.iadd, 1) := by decide +kernel
theorem dL_law_785 : decode cL_law 785 = .ok (.iaload, 1) := by decide +kernel
theorem dL_law_786 : decode cL_law 786 = .ok (.invokevirtual 112, 3) := by decide +kernel
theorem dL_law_789 : decode cL_law 789 = .ok (.if_icmp .eq 42, 3) := by decide +kernel
theorem dL_law_792 : decode cL_law 792 = .ok (.iconst 0, 1) := by decide +kernel
theorem dL_law_793 : decode cL_law 793 = .ok (.ireturn, 1) := by decide +kernel
theorem dL_law_794 : decode cL_law 794 = .ok (.aload_n 1, 1) := by decide +kernel
theorem dL_law_795 : decode cL_law 795 = .ok (.aload_n 0, 1) := by decide +kernel
theorem dL_law_796 : decode cL_law 796 = .ok (.iload_n 3, 1) := by decide +kernel
theorem dL_law_797 : decode cL_law 797 = .ok (.iconst 1, 1) := by decide +kernel
theorem dL_law_798 : decode cL_law 798 = .ok (.iadd, 1) := by decide +kernel
theorem dL_law_799 : decode cL_law 799 = .ok (.iaload, 1) := by decide +kernel
theorem dL_law_800 : decode cL_law 800 = .ok (.invokevirtual 113, 3) := by decide +kernel
theorem dL_law_803 : decode cL_law 803 = .ok (.aload_n 2, 1) := by decide +kernel
theorem dL_law_804 : decode cL_law 804 = .ok (.aload_n 0, 1) := by decide +kernel
theorem dL_law_805 : decode cL_law 805 = .ok (.iload_n 3, 1) := by decide +kernel
theorem dL_law_806 : decode cL_law 806 = .ok (.iconst 1, 1) := by decide +kernel
theorem dL_law_807 : decode cL_law 807 = .ok (.iadd, 1) := by decide +kernel
theorem dL_law_808 : decode cL_law 808 = .ok (.iaload, 1) := by decide +kernel
theorem dL_law_809 : decode cL_law 809 = .ok (.invokevirtual 116, 3) := by decide +kernel
theorem dL_law_812 : decode cL_law 812 = .ok (.if_icmp .eq 19, 3) := by decide +kernel
theorem dL_law_815 : decode cL_law 815 = .ok (.iconst 0, 1) := by decide +kernel
theorem dL_law_816 : decode cL_law 816 = .ok (.ireturn, 1) := by decide +kernel
theorem dL_law_817 : decode cL_law 817 = .ok (.aload_n 1, 1) := by decide +kernel
theorem dL_law_818 : decode cL_law 818 = .ok (.invokevirtual 117, 3) := by decide +kernel
theorem dL_law_821 : decode cL_law 821 = .ok (.aload_n 2, 1) := by decide +kernel
theorem dL_law_822 : decode cL_law 822 = .ok (.invokevirtual 121, 3) := by decide +kernel
theorem dL_law_825 : decode cL_law 825 = .ok (.lcmp, 1) := by decide +kernel
theorem dL_law_826 : decode cL_law 826 = .ok (.ifCond .eq 5, 3) := by decide +kernel
theorem dL_law_829 : decode cL_law 829 = .ok (.iconst 0, 1) := by decide +kernel
theorem dL_law_830 : decode cL_law 830 = .ok (.ireturn, 1) := by decide +kernel
theorem dL_law_831 : decode cL_law 831 = .ok (.iinc 3 4, 3) := by decide +kernel
theorem dL_law_834 : decode cL_law 834 = .ok (.goto (-816), 3) := by decide +kernel
theorem dL_law_837 : decode cL_law 837 = .ok (.iconst 1, 1) := by decide +kernel
theorem dL_law_838 : decode cL_law 838 = .ok (.ireturn, 1) := by decide +kernel
theorem dX0_allItMay_0 : decode cX0_allItMay 0 = .ok (.iconst 0, 1) := by decide +kernel
theorem dX0_allItMay_1 : decode cX0_allItMay 1 = .ok (.istore_n 2, 1) := by decide +kernel
theorem dX0_allItMay_2 : decode cX0_allItMay 2 = .ok (.iconst 0, 1) := by decide +kernel
theorem dX0_allItMay_3 : decode cX0_allItMay 3 = .ok (.istore_n 3, 1) := by decide +kernel
theorem dX0_allItMay_4 : decode cX0_allItMay 4 = .ok (.iload_n 3, 1) := by decide +kernel
theorem dX0_allItMay_5 : decode cX0_allItMay 5 = .ok (.aload_n 0, 1) := by decide +kernel
theorem dX0_allItMay_6 : decode cX0_allItMay 6 = .ok (.getfield 12, 3) := by decide +kernel
theorem dX0_allItMay_9 : decode cX0_allItMay 9 = .ok (.getfield 37, 3) := by decide +kernel
theorem dX0_allItMay_12 : decode cX0_allItMay 12 = .ok (.if_icmp .ge 24, 3) := by decide +kernel
theorem dX0_allItMay_15 : decode cX0_allItMay 15 = .ok (.aload_n 0, 1) := by decide +kernel
theorem dX0_allItMay_16 : decode cX0_allItMay 16 = .ok (.iload_n 1, 1) := by decide +kernel
theorem dX0_allItMay_17 : decode cX0_allItMay 17 = .ok (.iload_n 3, 1) := by decide +kernel
theorem dX0_allItMay_18 : decode cX0_allItMay 18 = .ok (.invokevirtual 68, 3) := by decide +kernel
theorem dX0_allItMay_21 : decode cX0_allItMay 21 = .ok (.ifCond .eq 9, 3) := by decide +kernel
theorem dX0_allItMay_24 : decode cX0_allItMay 24 = .ok (.iload_n 2, 1) := by decide +kernel
theorem dX0_allItMay_25 : decode cX0_allItMay 25 = .ok (.iconst 1, 1) := by decide +kernel
theorem dX0_allItMay_26 : decode cX0_allItMay 26 = .ok (.iload_n 3, 1) := by decide +kernel
theorem dX0_allItMay_27 : decode cX0_allItMay 27 = .ok (.ishl, 1) := by decide +kernel
theorem dX0_allItMay_28 : decode cX0_allItMay 28 = .ok (.ior, 1) := by decide +kernel
theorem dX0_allItMay_29 : decode cX0_allItMay 29 = .ok (.istore_n 2, 1) := by decide +kernel
theorem dX0_allItMay_30 : decode cX0_allItMay 30 = .ok (.iinc 3 1, 3) := by decide +kernel
theorem dX0_allItMay_33 : decode cX0_allItMay 33 = .ok (.goto (-29), 3) := by decide +kernel
theorem dX0_allItMay_36 : decode cX0_allItMay 36 = .ok (.iload_n 2, 1) := by decide +kernel
theorem dX0_allItMay_37 : decode cX0_allItMay 37 = .ok (.ireturn, 1) := by decide +kernel
theorem dX0_attend_0 : decode cX0_attend 0 = .ok (.iload_n 1, 1) := by decide +kernel
theorem dX0_attend_1 : decode cX0_attend 1 = .ok (.bipush 8, 2) := by decide +kernel
theorem dX0_attend_3 : decode cX0_attend 3 = .ok (.imul, 1) := by decide +kernel
theorem dX0_attend_4 : decode cX0_attend 4 = .ok (.iload_n 2, 1) := by decide +kernel
theorem dX0_attend_5 : decode cX0_attend 5 = .ok (.iadd, 1) := by decide +kernel
theorem dX0_attend_6 : decode cX0_attend 6 = .ok (.istore_n 3, 1) := by decide +kernel
theorem dX0_attend_7 : decode cX0_attend 7 = .ok (.aload_n 0, 1) := by decide +kernel
theorem dX0_attend_8 : decode cX0_attend 8 = .ok (.getfield 21, 3) := by decide +kernel
theorem dX0_attend_11 : decode cX0_attend 11 = .ok (.getfield 87, 3) := by decide +kernel
theorem dX0_attend_14 : decode cX0_attend 14 = .ok (.iload_n 3, 1) := by decide +kernel
theorem dX0_attend_15 : decode cX0_attend 15 = .ok (.dup2, 1) := by decide +kernel
theorem dX0_attend_16 : decode cX0_attend 16 = .ok (.iaload, 1) := by decide +kernel
theorem dX0_attend_17 : decode cX0_attend 17 = .ok (.aload_n 0, 1) := by decide +kernel
theorem dX0_attend_18 : decode cX0_attend 18 = .ok (.getfield 12, 3) := by decide +kernel
theorem dX0_attend_21 : decode cX0_attend 21 = .ok (.getfield 90, 3) := by decide +kernel
theorem dX0_attend_24 : decode cX0_attend 24 = .ok (.iload_n 1, 1) := by decide +kernel
theorem dX0_attend_25 : decode cX0_attend 25 = .ok (.iaload, 1) := by decide +kernel
theorem dX0_attend_26 : decode cX0_attend 26 = .ok (.iadd, 1) := by decide +kernel
theorem dX0_attend_27 : decode cX0_attend 27 = .ok (.iastore, 1) := by decide +kernel
theorem dX0_attend_28 : decode cX0_attend 28 = .ok (.aload_n 0, 1) := by decide +kernel
theorem dX0_attend_29 : decode cX0_attend 29 = .ok (.getfield 21, 3) := by decide +kernel
theorem dX0_attend_32 : decode cX0_attend 32 = .ok (.getfield 93, 3) := by decide +kernel
theorem dX0_attend_35 : decode cX0_attend 35 = .ok (.iload_n 1, 1) := by decide +kernel
theorem dX0_attend_36 : decode cX0_attend 36 = .ok (.dup2, 1) := by decide +kernel
theorem dX0_attend_37 : decode cX0_attend 37 = .ok (.iaload, 1) := by decide +kernel
theorem dX0_attend_38 : decode cX0_attend 38 = .ok (.aload_n 0, 1) := by decide +kernel
theorem dX0_attend_39 : decode cX0_attend 39 = .ok (.getfield 12, 3) := by decide +kernel
theorem dX0_attend_42 : decode cX0_attend 42 = .ok (.getfield 96, 3) := by decide +kernel
theorem dX0_attend_45 : decode cX0_attend 45 = .ok (.iload_n 2, 1) := by decide +kernel
theorem dX0_attend_46 : decode cX0_attend 46 = .ok (.iaload, 1) := by decide +kernel
theorem dX0_attend_47 : decode cX0_attend 47 = .ok (.iadd, 1) := by decide +kernel
theorem dX0_attend_48 : decode cX0_attend 48 = .ok (.iastore, 1) := by decide +kernel
theorem dX0_attend_49 : decode cX0_attend 49 = .ok (.aload_n 0, 1) := by decide +kernel
theorem dX0_attend_50 : decode cX0_attend 50 = .ok (.getfield 21, 3) := by decide +kernel
theorem dX0_attend_53 : decode cX0_attend 53 = .ok (.getfield 93, 3) := by decide +kernel
theorem dX0_attend_56 : decode cX0_attend 56 = .ok (.iload_n 1, 1) := by decide +kernel
theorem dX0_attend_57 : decode cX0_attend 57 = .ok (.iaload, 1) := by decide +kernel
theorem dX0_attend_58 : decode cX0_attend 58 = .ok (.aload_n 0, 1) := by decide +kernel
theorem dX0_attend_59 : decode cX0_attend 59 = .ok (.getfield 12, 3) := by decide +kernel
theorem dX0_attend_62 : decode cX0_attend 62 = .ok (.getfield 99, 3) := by decide +kernel
theorem dX0_attend_65 : decode cX0_attend 65 = .ok (.iload_n 1, 1) := by decide +kernel
theorem dX0_attend_66 : decode cX0_attend 66 = .ok (.iaload, 1) := by decide +kernel
theorem dX0_attend_67 : decode cX0_attend 67 = .ok (.if_icmp .le 31, 3) := by decide +kernel
theorem dX0_attend_70 : decode cX0_attend 70 = .ok (.aload_n 0, 1) := by decide +kernel
theorem dX0_attend_71 : decode cX0_attend 71 = .ok (.getfield 21, 3) := by decide +kernel
theorem dX0_attend_74 : decode cX0_attend 74 = .ok (.dup, 1) := by decide +kernel
theorem dX0_attend_75 : decode cX0_attend 75 = .ok (.getfield 44, 3) := by decide +kernel
theorem dX0_attend_78 : decode cX0_attend 78 = .ok (.iconst 1, 1) := by decide +kernel
theorem dX0_attend_79 : decode cX0_attend 79 = .ok (.iload_n 1, 1) := by decide +kernel
theorem dX0_attend_80 : decode cX0_attend 80 = .ok (.ishl, 1) := by decide +kernel
theorem dX0_attend_81 : decode cX0_attend 81 = .ok (.ior, 1) := by decide +kernel
theorem dX0_attend_82 : decode cX0_attend 82 = .ok (.putfield 44, 3) := by decide +kernel
theorem dX0_attend_85 : decode cX0_attend 85 = .ok (.aload_n 0, 1) := by decide +kernel
theorem dX0_attend_86 : decode cX0_attend 86 = .ok (.getfield 21, 3) := by decide +kernel
theorem dX0_attend_89 : decode cX0_attend 89 = .ok (.getfield 71, 3) := by decide +kernel
theorem dX0_attend_92 : decode cX0_attend 92 = .ok (.iload_n 1, 1) := by decide +kernel
theorem dX0_attend_93 : decode cX0_attend 93 = .ok (.iconst (-1), 1) := by decide +kernel
theorem dX0_attend_94 : decode cX0_attend 94 = .ok (.iastore, 1) := by decide +kernel
theorem dX0_attend_95 : decode cX0_attend 95 = .ok (.goto 49, 3) := by decide +kernel
theorem dX0_attend_98 : decode cX0_attend 98 = .ok (.aload_n 0, 1) := by decide +kernel
theorem dX0_attend_99 : decode cX0_attend 99 = .ok (.getfield 21, 3) := by decide +kernel
theorem dX0_attend_102 : decode cX0_attend 102 = .ok (.getfield 87, 3) := by decide +kernel
theorem dX0_attend_105 : decode cX0_attend 105 = .ok (.iload_n 3, 1) := by decide +kernel
theorem dX0_attend_106 : decode cX0_attend 106 = .ok (.iaload, 1) := by decide +kernel
theorem dX0_attend_107 : decode cX0_attend 107 = .ok (.aload_n 0, 1) := by decide +kernel
theorem dX0_attend_108 : decode cX0_attend 108 = .ok (.getfield 12, 3) := by decide +kernel
theorem dX0_attend_111 : decode cX0_attend 111 = .ok (.getfield 102, 3) := by decide +kernel
theorem dX0_attend_114 : decode cX0_attend 114 = .ok (.iload_n 2, 1) := by decide +kernel
theorem dX0_attend_115 : decode cX0_attend 115 = .ok (.iaload, 1) := by decide +kernel
theorem dX0_attend_116 : decode cX0_attend 116 = .ok (.if_icmp .lt 28, 3) := by decide +kernel
theorem dX0_attend_119 : decode cX0_attend 119 = .ok (.aload_n 0, 1) := by decide +kernel
theorem dX0_attend_120 : decode cX0_attend 120 = .ok (.getfield 21, 3) := by decide +kernel
theorem dX0_attend_123 : decode cX0_attend 123 = .ok (.getfield 59, 3) := by decide +kernel
theorem dX0_attend_126 : decode cX0_attend 126 = .ok (.iload_n 1, 1) := by decide +kernel
theorem dX0_attend_127 : decode cX0_attend 127 = .ok (.dup2, 1) := by decide +kernel
theorem dX0_attend_128 : decode cX0_attend 128 = .ok (.iaload, 1) := by decide +kernel
theorem dX0_attend_129 : decode cX0_attend 129 = .ok (.iconst 1, 1) := by decide +kernel
theorem dX0_attend_130 : decode cX0_attend 130 = .ok (.iload_n 2, 1) := by decide +kernel
theorem dX0_attend_131 : decode cX0_attend 131 = .ok (.ishl, 1) := by decide +kernel
theorem dX0_attend_132 : decode cX0_attend 132 = .ok (.ior, 1) := by decide +kernel
theorem dX0_attend_133 : decode cX0_attend 133 = .ok (.iastore, 1) := by decide +kernel
theorem dX0_attend_134 : decode cX0_attend 134 = .ok (.aload_n 0, 1) := by decide +kernel
theorem dX0_attend_135 : decode cX0_attend 135 = .ok (.getfield 21, 3) := by decide +kernel
theorem dX0_attend_138 : decode cX0_attend 138 = .ok (.getfield 71, 3) := by decide +kernel
theorem dX0_attend_141 : decode cX0_attend 141 = .ok (.iload_n 1, 1) := by decide +kernel
theorem dX0_attend_142 : decode cX0_attend 142 = .ok (.iconst (-1), 1) := by decide +kernel
theorem dX0_attend_143 : decode cX0_attend 143 = .ok (.iastore, 1) := by decide +kernel
theorem dX0_attend_144 : decode cX0_attend 144 = .ok (.return_, 1) := by decide +kernel
theorem dX0_beginAs_0 : decode cX0_beginAs 0 = .ok (.aload_n 0, 1) := by decide +kernel
theorem dX0_beginAs_1 : decode cX0_beginAs 1 = .ok (.getfield 12, 3) := by decide +kernel
theorem dX0_beginAs_4 : decode cX0_beginAs 4 = .ok (.aload_n 1, 1) := by decide +kernel
theorem dX0_beginAs_5 : decode cX0_beginAs 5 = .ok (.invokevirtual 25, 3) := by decide +kernel
theorem dX0_beginAs_8 : decode cX0_beginAs 8 = .ok (.aload_n 0, 1) := by decide +kernel
theorem dX0_beginAs_9 : decode cX0_beginAs 9 = .ok (.getfield 21, 3) := by decide +kernel
theorem dX0_beginAs_12 : decode cX0_beginAs 12 = .ok (.aload_n 0, 1) := by decide +kernel
theorem dX0_beginAs_13 : decode cX0_beginAs 13 = .ok (.getfield 12, 3) := by decide +kernel
theorem dX0_beginAs_16 : decode cX0_beginAs 16 = .ok (.getfield 29, 3) := by decide +kernel
theorem dX0_beginAs_19 : decode cX0_beginAs 19 = .ok (.invokevirtual 33, 3) := by decide +kernel
theorem dX0_beginAs_22 : decode cX0_beginAs 22 = .ok (.return_, 1) := by decide +kernel
theorem dX0_init_0 : decode cX0_init 0 = .ok (.aload_n 0, 1) := by decide +kernel
theorem dX0_init_1 : decode cX0_init 1 = .ok (.invokespecial 3, 3) := by decide +kernel
theorem dX0_init_4 : decode cX0_init 4 = .ok (.aload_n 0, 1) := by decide +kernel
theorem dX0_init_5 : decode cX0_init 5 = .ok (.new 9, 3) := by decide +kernel
theorem dX0_init_8 : decode cX0_init 8 = .ok (.dup, 1) := by decide +kernel
theorem dX0_init_9 : decode cX0_init 9 = .ok (.invokespecial 11, 3) := by decide +kernel
theorem dX0_init_12 : decode cX0_init 12 = .ok (.putfield 12, 3) := by decide +kernel
theorem dX0_init_15 : decode cX0_init 15 = .ok (.aload_n 0, 1) := by decide +kernel
theorem dX0_init_16 : decode cX0_init 16 = .ok (.new 18, 3) := by decide +kernel
theorem dX0_init_19 : decode cX0_init 19 = .ok (.dup, 1) := by decide +kernel
theorem dX0_init_20 : decode cX0_init 20 = .ok (.invokespecial 20, 3) := by decide +kernel
theorem dX0_init_23 : decode cX0_init 23 = .ok (.putfield 21, 3) := by decide +kernel
theorem dX0_init_26 : decode cX0_init 26 = .ok (.return_, 1) := by decide +kernel
theorem dX0_isBroken_0 : decode cX0_isBroken 0 = .ok (.aload_n 0, 1) := by decide +kernel
theorem dX0_isBroken_1 : decode cX0_isBroken 1 = .ok (.getfield 21, 3) := by decide +kernel
theorem dX0_isBroken_4 : decode cX0_isBroken 4 = .ok (.getfield 44, 3) := by decide +kernel
theorem dX0_isBroken_7 : decode cX0_isBroken 7 = .ok (.iload_n 1, 1) := by decide +kernel
theorem dX0_isBroken_8 : decode cX0_isBroken 8 = .ok (.invokestatic 47, 3) := by decide +kernel
theorem dX0_isBroken_11 : decode cX0_isBroken 11 = .ok (.ireturn, 1) := by decide +kernel
theorem dX0_isCast_0 : decode cX0_isCast 0 = .ok (.iload_n 1, 1) := by decide +kernel
theorem dX0_isCast_1 : decode cX0_isCast 1 = .ok (.ifCond .lt 18, 3) := by decide +kernel
theorem dX0_isCast_4 : decode cX0_isCast 4 = .ok (.iload_n 1, 1) := by decide +kernel
theorem dX0_isCast_5 : decode cX0_isCast 5 = .ok (.aload_n 0, 1) := by decide +kernel
theorem dX0_isCast_6 : decode cX0_isCast 6 = .ok (.getfield 12, 3) := by decide +kernel
theorem dX0_isCast_9 : decode cX0_isCast 9 = .ok (.getfield 41, 3) := by decide +kernel
theorem dX0_isCast_12 : decode cX0_isCast 12 = .ok (.if_icmp .ge 7, 3) := by decide +kernel
theorem dX0_isCast_15 : decode cX0_isCast 15 = .ok (.iconst 1, 1) := by decide +kernel
theorem dX0_isCast_16 : decode cX0_isCast 16 = .ok (.goto 4, 3) := by decide +kernel
theorem dX0_isCast_19 : decode cX0_isCast 19 = .ok (.iconst 0, 1) := by decide +kernel
theorem dX0_isCast_20 : decode cX0_isCast 20 = .ok (.ireturn, 1) := by decide +kernel
theorem dX0_isThing_0 : decode cX0_isThing 0 = .ok (.iload_n 1, 1) := by decide +kernel
theorem dX0_isThing_1 : decode cX0_isThing 1 = .ok (.ifCond .lt 18, 3) := by decide +kernel
theorem dX0_isThing_4 : decode cX0_isThing 4 = .ok (.iload_n 1, 1) := by decide +kernel
theorem dX0_isThing_5 : decode cX0_isThing 5 = .ok (.aload_n 0, 1) := by decide +kernel
theorem dX0_isThing_6 : decode cX0_isThing 6 = .ok (.getfield 12, 3) := by decide +kernel
theorem dX0_isThing_9 : decode cX0_isThing 9 = .ok (.getfield 37, 3) := by decide +kernel
theorem dX0_isThing_12 : decode cX0_isThing 12 = .ok (.if_icmp .ge 7, 3) := by decide +kernel
theorem dX0_isThing_15 : decode cX0_isThing 15 = .ok (.iconst 1, 1) := by decide +kernel
theorem dX0_isThing_16 : decode cX0_isThing 16 = .ok (.goto 4, 3) := by decide +kernel
theorem dX0_isThing_19 : decode cX0_isThing 19 = .ok (.iconst 0, 1) := by decide +kernel
theorem dX0_isThing_20 : decode cX0_isThing 20 = .ok (.ireturn, 1) := by decide +kernel
theorem dX0_joinOn_0 : decode cX0_joinOn 0 = .ok (.aload_n 0, 1) := by decide +kernel
theorem dX0_joinOn_1 : decode cX0_joinOn 1 = .ok (.getfield 21, 3) := by decide +kernel
theorem dX0_joinOn_4 : decode cX0_joinOn 4 = .ok (.getfield 51, 3) := by decide +kernel
theorem dX0_joinOn_7 : decode cX0_joinOn 7 = .ok (.iload_n 1, 1) := by decide +kernel
theorem dX0_joinOn_8 : decode cX0_joinOn 8 = .ok (.dup2, 1) := by decide +kernel
theorem dX0_joinOn_9 : decode cX0_joinOn 9 = .ok (.iaload, 1) := by decide +kernel
theorem dX0_joinOn_10 : decode cX0_joinOn 10 = .ok (.iconst 1, 1) := by decide +kernel
theorem dX0_joinOn_11 : decode cX0_joinOn 11 = .ok (.iload_n 3, 1) := by decide +kernel
theorem dX0_joinOn_12 : decode cX0_joinOn 12 = .ok (.ishl, 1) := by decide +kernel
theorem dX0_joinOn_13 : decode cX0_joinOn 13 = .ok (.ior, 1) := by decide +kernel
theorem dX0_joinOn_14 : decode cX0_joinOn 14 = .ok (.iastore, 1) := by decide +kernel
theorem dX0_joinOn_15 : decode cX0_joinOn 15 = .ok (.aload_n 0, 1) := by decide +kernel
theorem dX0_joinOn_16 : decode cX0_joinOn 16 = .ok (.getfield 21, 3) := by decide +kernel
theorem dX0_joinOn_19 : decode cX0_joinOn 19 = .ok (.getfield 51, 3) := by decide +kernel
theorem dX0_joinOn_22 : decode cX0_joinOn 22 = .ok (.iload_n 2, 1) := by decide +kernel
theorem dX0_joinOn_23 : decode cX0_joinOn 23 = .ok (.dup2, 1) := by decide +kernel
theorem dX0_joinOn_24 : decode cX0_joinOn 24 = .ok (.iaload, 1) := by decide +kernel
theorem dX0_joinOn_25 : decode cX0_joinOn 25 = .ok (.iconst 1, 1) := by decide +kernel
theorem dX0_joinOn_26 : decode cX0_joinOn 26 = .ok (.iload_n 3, 1) := by decide +kernel
theorem dX0_joinOn_27 : decode cX0_joinOn 27 = .ok (.ishl, 1) := by decide +kernel
theorem dX0_joinOn_28 : decode cX0_joinOn 28 = .ok (.iconst (-1), 1) := by decide +kernel
theorem dX0_joinOn_29 : decode cX0_joinOn 29 = .ok (.ixor, 1) := by decide +kernel
theorem dX0_joinOn_30 : decode cX0_joinOn 30 = .ok (.iand, 1) := by decide +kernel
theorem dX0_joinOn_31 : decode cX0_joinOn 31 = .ok (.iastore, 1) := by decide +kernel
theorem dX0_joinOn_32 : decode cX0_joinOn 32 = .ok (.aload_n 0, 1) := by decide +kernel
theorem dX0_joinOn_33 : decode cX0_joinOn 33 = .ok (.getfield 21, 3) := by decide +kernel
theorem dX0_joinOn_36 : decode cX0_joinOn 36 = .ok (.getfield 71, 3) := by decide +kernel
theorem dX0_joinOn_39 : decode cX0_joinOn 39 = .ok (.iload_n 1, 1) := by decide +kernel
theorem dX0_joinOn_40 : decode cX0_joinOn 40 = .ok (.iaload, 1) := by decide +kernel
theorem dX0_joinOn_41 : decode cX0_joinOn 41 = .ok (.istore 4, 2) := by decide +kernel
theorem dX0_joinOn_43 : decode cX0_joinOn 43 = .ok (.iload 4, 2) := by decide +kernel
theorem dX0_joinOn_45 : decode cX0_joinOn 45 = .ok (.iconst (-1), 1) := by decide +kernel
theorem dX0_joinOn_46 : decode cX0_joinOn 46 = .ok (.if_icmp .eq 27, 3) := by decide +kernel
theorem dX0_joinOn_49 : decode cX0_joinOn 49 = .ok (.aload_n 0, 1) := by decide +kernel
theorem dX0_joinOn_50 : decode cX0_joinOn 50 = .ok (.getfield 12, 3) := by decide +kernel
theorem dX0_joinOn_53 : decode cX0_joinOn 53 = .ok (.getfield 52, 3) := by decide +kernel
theorem dX0_joinOn_56 : decode cX0_joinOn 56 = .ok (.iload 4, 2) := by decide +kernel
theorem dX0_joinOn_58 : decode cX0_joinOn 58 = .ok (.iaload, 1) := by decide +kernel
theorem dX0_joinOn_59 : decode cX0_joinOn 59 = .ok (.iload_n 3, 1) := by decide +kernel
theorem dX0_joinOn_60 : decode cX0_joinOn 60 = .ok (.if_icmp .ne 13, 3) := by decide +kernel
theorem dX0_joinOn_63 : decode cX0_joinOn 63 = .ok (.aload_n 0, 1) := by decide +kernel
theorem dX0_joinOn_64 : decode cX0_joinOn 64 = .ok (.getfield 21, 3) := by decide +kernel
theorem dX0_joinOn_67 : decode cX0_joinOn 67 = .ok (.getfield 71, 3) := by decide +kernel
theorem dX0_joinOn_70 : decode cX0_joinOn 70 = .ok (.iload_n 1, 1) := by decide +kernel
theorem dX0_joinOn_71 : decode cX0_joinOn 71 = .ok (.iconst (-1), 1) := by decide +kernel
theorem dX0_joinOn_72 : decode cX0_joinOn 72 = .ok (.iastore, 1) := by decide +kernel
theorem dX0_joinOn_73 : decode cX0_joinOn 73 = .ok (.return_, 1) := by decide +kernel
theorem dX0_lacksPartOf_0 : decode cX0_lacksPartOf 0 = .ok (.aload_n 0, 1) := by decide +kernel
theorem dX0_lacksPartOf_1 : decode cX0_lacksPartOf 1 = .ok (.getfield 21, 3) := by decide +kernel
theorem dX0_lacksPartOf_4 : decode cX0_lacksPartOf 4 = .ok (.getfield 51, 3) := by decide +kernel
theorem dX0_lacksPartOf_7 : decode cX0_lacksPartOf 7 = .ok (.iload_n 1, 1) := by decide +kernel
theorem dX0_lacksPartOf_8 : decode cX0_lacksPartOf 8 = .ok (.iaload, 1) := by decide +kernel
theorem dX0_lacksPartOf_9 : decode cX0_lacksPartOf 9 = .ok (.aload_n 0, 1) := by decide +kernel
theorem dX0_lacksPartOf_10 : decode cX0_lacksPartOf 10 = .ok (.getfield 12, 3) := by decide +kernel
theorem dX0_lacksPartOf_13 : decode cX0_lacksPartOf 13 = .ok (.getfield 52, 3) := by decide +kernel
theorem dX0_lacksPartOf_16 : decode cX0_lacksPartOf 16 = .ok (.iload_n 2, 1) := by decide +kernel
theorem dX0_lacksPartOf_17 : decode cX0_lacksPartOf 17 = .ok (.iaload, 1) := by decide +kernel
theorem dX0_lacksPartOf_18 : decode cX0_lacksPartOf 18 = .ok (.invokestatic 47, 3) := by decide +kernel
theorem dX0_lacksPartOf_21 : decode cX0_lacksPartOf 21 = .ok (.ireturn, 1) := by decide +kernel
theorem dX0_learntByAll_0 : decode cX0_learntByAll 0 = .ok (.iconst 0, 1) := by decide +kernel
theorem dX0_learntByAll_1 : decode cX0_learntByAll 1 = .ok (.istore_n 1, 1) := by decide +kernel
theorem dX0_learntByAll_2 : decode cX0_learntByAll 2 = .ok (.iconst 0, 1) := by decide +kernel
theorem dX0_learntByAll_3 : decode cX0_learntByAll 3 = .ok (.istore_n 2, 1) := by decide +kernel
theorem dX0_learntByAll_4 : decode cX0_learntByAll 4 = .ok (.iload_n 2, 1) := by decide +kernel
theorem dX0_learntByAll_5 : decode cX0_learntByAll 5 = .ok (.aload_n 0, 1) := by decide +kernel
theorem dX0_learntByAll_6 : decode cX0_learntByAll 6 = .ok (.getfield 12, 3) := by decide +kernel
theorem dX0_learntByAll_9 : decode cX0_learntByAll 9 = .ok (.getfield 41, 3) := by decide +kernel
theorem dX0_learntByAll_12 : decode cX0_learntByAll 12 = .ok (.if_icmp .ge 24, 3) := by decide +kernel
theorem dX0_learntByAll_15 : decode cX0_learntByAll 15 = .ok (.iload_n 1, 1) := by decide +kernel
theorem dX0_learntByAll_16 : decode cX0_learntByAll 16 = .ok (.aload_n 0, 1) := by decide +kernel
theorem dX0_learntByAll_17 : decode cX0_learntByAll 17 = .ok (.getfield 21, 3) := by decide +kernel
theorem dX0_learntByAll_20 : decode cX0_learntByAll 20 = .ok (.getfield 59, 3) := by decide +kernel
theorem dX0_learntByAll_23 : decode cX0_learntByAll 23 = .ok (.iload_n 2, 1) := by decide +kernel
theorem dX0_learntByAll_24 : decode cX0_learntByAll 24 = .ok (.iaload, 1) := by decide +kernel
theorem dX0_learntByAll_25 : decode cX0_learntByAll 25 = .ok (.invokestatic 74, 3) := by decide +kernel
theorem dX0_learntByAll_28 : decode cX0_learntByAll 28 = .ok (.iadd, 1) := by decide +kernel
theorem dX0_learntByAll_29 : decode cX0_learntByAll 29 = .ok (.istore_n 1, 1) := by decide +kernel
theorem dX0_learntByAll_30 : decode cX0_learntByAll 30 = .ok (.iinc 2 1, 3) := by decide +kernel
theorem dX0_learntByAll_33 : decode cX0_learntByAll 33 = .ok (.goto (-29), 3) := by decide +kernel
theorem dX0_learntByAll_36 : decode cX0_learntByAll 36 = .ok (.iload_n 1, 1) := by decide +kernel
theorem dX0_learntByAll_37 : decode cX0_learntByAll 37 = .ok (.ireturn, 1) := by decide +kernel
theorem dX0_leastTree_0 : decode cX0_leastTree 0 = .ok (.iconst 0, 1) := by decide +kernel
theorem dX0_leastTree_1 : decode cX0_leastTree 1 = .ok (.istore_n 1, 1) := by decide +kernel
theorem dX0_leastTree_2 : decode cX0_leastTree 2 = .ok (.iconst 1, 1) := by decide +kernel
theorem dX0_leastTree_3 : decode cX0_leastTree 3 = .ok (.istore_n 2, 1) := by decide +kernel
theorem dX0_leastTree_4 : decode cX0_leastTree 4 = .ok (.iconst 1, 1) := by decide +kernel
theorem dX0_leastTree_5 : decode cX0_leastTree 5 = .ok (.istore_n 3, 1) := by decide +kernel
theorem dX0_leastTree_6 : decode cX0_leastTree 6 = .ok (.iload_n 3, 1) := by decide +kernel
theorem dX0_leastTree_7 : decode cX0_leastTree 7 = .ok (.aload_n 0, 1) := by decide +kernel
theorem dX0_leastTree_8 : decode cX0_leastTree 8 = .ok (.getfield 12, 3) := by decide +kernel
theorem dX0_leastTree_11 : decode cX0_leastTree 11 = .ok (.getfield 41, 3) := by decide +kernel
theorem dX0_leastTree_14 : decode cX0_leastTree 14 = .ok (.if_icmp .ge 83, 3) := by decide +kernel
theorem dX0_leastTree_17 : decode cX0_leastTree 17 = .ok (.iconst 0, 1) := by decide +kernel
theorem dX0_leastTree_18 : decode cX0_leastTree 18 = .ok (.istore 4, 2) := by decide +kernel
theorem dX0_leastTree_20 : decode cX0_leastTree 20 = .ok (.bipush 7, 2) := by decide +kernel
theorem dX0_leastTree_22 : decode cX0_leastTree 22 = .ok (.istore 5, 2) := by decide +kernel
theorem dX0_leastTree_24 : decode cX0_leastTree 24 = .ok (.iconst 1, 1) := by decide +kernel
theorem dX0_leastTree_25 : decode cX0_leastTree 25 = .ok (.istore 6, 2) := by decide +kernel
theorem dX0_leastTree_27 : decode cX0_leastTree 27 = .ok (.iload 6, 2) := by decide +kernel
theorem dX0_leastTree_29 : decode cX0_leastTree 29 = .ok (.aload_n 0, 1) := by decide +kernel
theorem dX0_leastTree_30 : decode cX0_leastTree 30 = .ok (.getfield 12, 3) := by decide +kernel
theorem dX0_leastTree_33 : decode cX0_leastTree 33 = .ok (.getfield 41, 3) := by decide +kernel
theorem dX0_leastTree_36 : decode cX0_leastTree 36 = .ok (.if_icmp .ge 43, 3) := by decide +kernel
theorem dX0_leastTree_39 : decode cX0_leastTree 39 = .ok (.iload_n 2, 1) := by decide +kernel
theorem dX0_leastTree_40 : decode cX0_leastTree 40 = .ok (.iload 6, 2) := by decide +kernel
theorem dX0_leastTree_42 : decode cX0_leastTree 42 = .ok (.invokestatic 47, 3) := by decide +kernel
theorem dX0_leastTree_45 : decode cX0_leastTree 45 = .ok (.ifCond .ne 28, 3) := by decide +kernel
theorem dX0_leastTree_48 : decode cX0_leastTree 48 = .ok (.aload_n 0, 1) := by decide +kernel
theorem dX0_leastTree_49 : decode cX0_leastTree 49 = .ok (.iload 6, 2) := by decide +kernel
theorem dX0_leastTree_51 : decode cX0_leastTree 51 = .ok (.iload_n 2, 1) := by decide +kernel
theorem dX0_leastTree_52 : decode cX0_leastTree 52 = .ok (.invokevirtual 105, 3) := by decide +kernel
theorem dX0_leastTree_55 : decode cX0_leastTree 55 = .ok (.iload 5, 2) := by decide +kernel
theorem dX0_leastTree_57 : decode cX0_leastTree 57 = .ok (.if_icmp .ge 16, 3) := by decide +kernel
theorem dX0_leastTree_60 : decode cX0_leastTree 60 = .ok (.iload 6, 2) := by decide +kernel
theorem dX0_leastTree_62 : decode cX0_leastTree 62 = .ok (.istore 4, 2) := by decide +kernel
theorem dX0_leastTree_64 : decode cX0_leastTree 64 = .ok (.aload_n 0, 1) := by decide +kernel
theorem dX0_leastTree_65 : decode cX0_leastTree 65 = .ok (.iload 6, 2) := by decide +kernel
theorem dX0_leastTree_67 : decode cX0_leastTree 67 = .ok (.iload_n 2, 1) := by decide +kernel
theorem dX0_leastTree_68 : decode cX0_leastTree 68 = .ok (.invokevirtual 105, 3) := by decide +kernel
theorem dX0_leastTree_71 : decode cX0_leastTree 71 = .ok (.istore 5, 2) := by decide +kernel
theorem dX0_leastTree_73 : decode cX0_leastTree 73 = .ok (.iinc 6 1, 3) := by decide +kernel
theorem dX0_leastTree_76 : decode cX0_leastTree 76 = .ok (.goto (-49), 3) := by decide +kernel
theorem dX0_leastTree_79 : decode cX0_leastTree 79 = .ok (.iload_n 2, 1) := by decide +kernel
theorem dX0_leastTree_80 : decode cX0_leastTree 80 = .ok (.iconst 1, 1) := by decide +kernel
theorem dX0_leastTree_81 : decode cX0_leastTree 81 = .ok (.iload 4, 2) := by decide +kernel
theorem dX0_leastTree_83 : decode cX0_leastTree 83 = .ok (.ishl, 1) := by decide +kernel
theorem dX0_leastTree_84 : decode cX0_leastTree 84 = .ok (.ior, 1) := by decide +kernel
theorem dX0_leastTree_85 : decode cX0_leastTree 85 = .ok (.istore_n 2, 1) := by decide +kernel
theorem dX0_leastTree_86 : decode cX0_leastTree 86 = .ok (.iload_n 1, 1) := by decide +kernel
theorem dX0_leastTree_87 : decode cX0_leastTree 87 = .ok (.iload 5, 2) := by decide +kernel
theorem dX0_leastTree_89 : decode cX0_leastTree 89 = .ok (.iadd, 1) := by decide +kernel
theorem dX0_leastTree_90 : decode cX0_leastTree 90 = .ok (.istore_n 1, 1) := by decide +kernel
theorem dX0_leastTree_91 : decode cX0_leastTree 91 = .ok (.iinc 3 1, 3) := by decide +kernel
theorem dX0_leastTree_94 : decode cX0_leastTree 94 = .ok (.goto (-88), 3) := by decide +kernel
theorem dX0_leastTree_97 : decode cX0_leastTree 97 = .ok (.iload_n 1, 1) := by decide +kernel
theorem dX0_leastTree_98 : decode cX0_leastTree 98 = .ok (.ireturn, 1) := by decide +kernel
theorem dX0_may_0 : decode cX0_may 0 = .ok (.aload_n 0, 1) := by decide +kernel
theorem dX0_may_1 : decode cX0_may 1 = .ok (.iload_n 1, 1) := by decide +kernel
theorem dX0_may_2 : decode cX0_may 2 = .ok (.invokevirtual 55, 3) := by decide +kernel
theorem dX0_may_5 : decode cX0_may 5 = .ok (.ifCond .ne 56, 3) := by decide +kernel
theorem dX0_may_8 : decode cX0_may 8 = .ok (.aload_n 0, 1) := by decide +kernel
theorem dX0_may_9 : decode cX0_may 9 = .ok (.getfield 21, 3) := by decide +kernel
theorem dX0_may_12 : decode cX0_may 12 = .ok (.getfield 59, 3) := by decide +kernel
theorem dX0_may_15 : decode cX0_may 15 = .ok (.iload_n 1, 1) := by decide +kernel
theorem dX0_may_16 : decode cX0_may 16 = .ok (.iaload, 1) := by decide +kernel
theorem dX0_may_17 : decode cX0_may 17 = .ok (.iload_n 2, 1) := by decide +kernel
theorem dX0_may_18 : decode cX0_may 18 = .ok (.invokestatic 47, 3) := by decide +kernel
theorem dX0_may_21 : decode cX0_may 21 = .ok (.ifCond .ne 40, 3) := by decide +kernel
theorem dX0_may_24 : decode cX0_may 24 = .ok (.aload_n 0, 1) := by decide +kernel
theorem dX0_may_25 : decode cX0_may 25 = .ok (.getfield 12, 3) := by decide +kernel
theorem dX0_may_28 : decode cX0_may 28 = .ok (.getfield 62, 3) := by decide +kernel
theorem dX0_may_31 : decode cX0_may 31 = .ok (.iload_n 2, 1) := by decide +kernel
theorem dX0_may_32 : decode cX0_may 32 = .ok (.iaload, 1) := by decide +kernel
theorem dX0_may_33 : decode cX0_may 33 = .ok (.aload_n 0, 1) := by decide +kernel
theorem dX0_may_34 : decode cX0_may 34 = .ok (.getfield 21, 3) := by decide +kernel
theorem dX0_may_37 : decode cX0_may 37 = .ok (.getfield 59, 3) := by decide +kernel
theorem dX0_may_40 : decode cX0_may 40 = .ok (.iload_n 1, 1) := by decide +kernel
theorem dX0_may_41 : decode cX0_may 41 = .ok (.iaload, 1) := by decide +kernel
theorem dX0_may_42 : decode cX0_may 42 = .ok (.iconst (-1), 1) := by decide +kernel
theorem dX0_may_43 : decode cX0_may 43 = .ok (.ixor, 1) := by decide +kernel
theorem dX0_may_44 : decode cX0_may 44 = .ok (.iand, 1) := by decide +kernel
theorem dX0_may_45 : decode cX0_may 45 = .ok (.ifCond .ne 16, 3) := by decide +kernel
theorem dX0_may_48 : decode cX0_may 48 = .ok (.aload_n 0, 1) := by decide +kernel
theorem dX0_may_49 : decode cX0_may 49 = .ok (.iload_n 1, 1) := by decide +kernel
theorem dX0_may_50 : decode cX0_may 50 = .ok (.iload_n 2, 1) := by decide +kernel
theorem dX0_may_51 : decode cX0_may 51 = .ok (.invokevirtual 65, 3) := by decide +kernel
theorem dX0_may_54 : decode cX0_may 54 = .ok (.ifCond .ne 7, 3) := by decide +kernel
theorem dX0_may_57 : decode cX0_may 57 = .ok (.iconst 1, 1) := by decide +kernel
theorem dX0_may_58 : decode cX0_may 58 = .ok (.goto 4, 3) := by decide +kernel
theorem dX0_may_61 : decode cX0_may 61 = .ok (.iconst 0, 1) := by decide +kernel
theorem dX0_may_62 : decode cX0_may 62 = .ok (.ireturn, 1) := by decide +kernel
theorem dX0_passNight_0 : decode cX0_passNight 0 = .ok (.iconst 0, 1) := by decide +kernel
theorem dX0_passNight_1 : decode cX0_passNight 1 = .ok (.istore_n 1, 1) := by decide +kernel
theorem dX0_passNight_2 : decode cX0_passNight 2 = .ok (.iload_n 1, 1) := by decide +kernel
theorem dX0_passNight_3 : decode cX0_passNight 3 = .ok (.aload_n 0, 1) := by decide +kernel
theorem dX0_passNight_4 : decode cX0_passNight 4 = .ok (.getfield 12, 3) := by decide +kernel
theorem dX0_passNight_7 : decode cX0_passNight 7 = .ok (.getfield 41, 3) := by decide +kernel
theorem dX0_passNight_10 : decode cX0_passNight 10 = .ok (.if_icmp .ge 30, 3) := by decide +kernel
theorem dX0_passNight_13 : decode cX0_passNight 13 = .ok (.aload_n 0, 1) := by decide +kernel
theorem dX0_passNight_14 : decode cX0_passNight 14 = .ok (.getfield 21, 3) := by decide +kernel
theorem dX0_passNight_17 : decode cX0_passNight 17 = .ok (.getfield 71, 3) := by decide +kernel
theorem dX0_passNight_20 : decode cX0_passNight 20 = .ok (.iload_n 1, 1) := by decide +kernel
theorem dX0_passNight_21 : decode cX0_passNight 21 = .ok (.iaload, 1) := by decide +kernel
theorem dX0_passNight_22 : decode cX0_passNight 22 = .ok (.istore_n 2, 1) := by decide +kernel
theorem dX0_passNight_23 : decode cX0_passNight 23 = .ok (.iload_n 2, 1) := by decide +kernel
theorem dX0_passNight_24 : decode cX0_passNight 24 = .ok (.iconst (-1), 1) := by decide +kernel
theorem dX0_passNight_25 : decode cX0_passNight 25 = .ok (.if_icmp .eq 9, 3) := by decide +kernel
theorem dX0_passNight_28 : decode cX0_passNight 28 = .ok (.aload_n 0, 1) := by decide +kernel
theorem dX0_passNight_29 : decode cX0_passNight 29 = .ok (.iload_n 1, 1) := by decide +kernel
theorem dX0_passNight_30 : decode cX0_passNight 30 = .ok (.iload_n 2, 1) := by decide +kernel
theorem dX0_passNight_31 : decode cX0_passNight 31 = .ok (.invokevirtual 80, 3) := by decide +kernel
theorem dX0_passNight_34 : decode cX0_passNight 34 = .ok (.iinc 1 1, 3) := by decide +kernel
theorem dX0_passNight_37 : decode cX0_passNight 37 = .ok (.goto (-35), 3) := by decide +kernel
theorem dX0_passNight_40 : decode cX0_passNight 40 = .ok (.aload_n 0, 1) := by decide +kernel
theorem dX0_passNight_41 : decode cX0_passNight 41 = .ok (.getfield 21, 3) := by decide +kernel
theorem dX0_passNight_44 : decode cX0_passNight 44 = .ok (.dup, 1) := by decide +kernel
theorem dX0_passNight_45 : decode cX0_passNight 45 = .ok (.getfield 84, 3) := by decide +kernel
theorem dX0_passNight_48 : decode cX0_passNight 48 = .ok (.iconst 1, 1) := by decide +kernel
theorem dX0_passNight_49 : decode cX0_passNight 49 = .ok (.iadd, 1) := by decide +kernel
theorem dX0_passNight_50 : decode cX0_passNight 50 = .ok (.putfield 84, 3) := by decide +kernel
theorem dX0_passNight_53 : decode cX0_passNight 53 = .ok (.return_, 1) := by decide +kernel
theorem dX0_stepTo_0 : decode cX0_stepTo 0 = .ok (.bipush 6, 2) := by decide +kernel
theorem dX0_stepTo_2 : decode cX0_stepTo 2 = .ok (.istore_n 3, 1) := by decide +kernel
theorem dX0_stepTo_3 : decode cX0_stepTo 3 = .ok (.iconst 0, 1) := by decide +kernel
theorem dX0_stepTo_4 : decode cX0_stepTo 4 = .ok (.istore 4, 2) := by decide +kernel
theorem dX0_stepTo_6 : decode cX0_stepTo 6 = .ok (.iload 4, 2) := by decide +kernel
theorem dX0_stepTo_8 : decode cX0_stepTo 8 = .ok (.aload_n 0, 1) := by decide +kernel
theorem dX0_stepTo_9 : decode cX0_stepTo 9 = .ok (.getfield 12, 3) := by decide +kernel
theorem dX0_stepTo_12 : decode cX0_stepTo 12 = .ok (.getfield 41, 3) := by decide +kernel
theorem dX0_stepTo_15 : decode cX0_stepTo 15 = .ok (.if_icmp .ge 30, 3) := by decide +kernel
theorem dX0_stepTo_18 : decode cX0_stepTo 18 = .ok (.iload_n 2, 1) := by decide +kernel
theorem dX0_stepTo_19 : decode cX0_stepTo 19 = .ok (.iload 4, 2) := by decide +kernel
theorem dX0_stepTo_21 : decode cX0_stepTo 21 = .ok (.invokestatic 47, 3) := by decide +kernel
theorem dX0_stepTo_24 : decode cX0_stepTo 24 = .ok (.ifCond .eq 15, 3) := by decide +kernel
theorem dX0_stepTo_27 : decode cX0_stepTo 27 = .ok (.iload_n 3, 1) := by decide +kernel
theorem dX0_stepTo_28 : decode cX0_stepTo 28 = .ok (.aload_n 0, 1) := by decide +kernel
theorem dX0_stepTo_29 : decode cX0_stepTo 29 = .ok (.iload_n 1, 1) := by decide +kernel
theorem dX0_stepTo_30 : decode cX0_stepTo 30 = .ok (.iload 4, 2) := by decide +kernel
theorem dX0_stepTo_32 : decode cX0_stepTo 32 = .ok (.invokevirtual 109, 3) := by decide +kernel
theorem dX0_stepTo_35 : decode cX0_stepTo 35 = .ok (.invokestatic 112, 3) := by decide +kernel
theorem dX0_stepTo_38 : decode cX0_stepTo 38 = .ok (.istore_n 3, 1) := by decide +kernel
theorem dX0_stepTo_39 : decode cX0_stepTo 39 = .ok (.iinc 4 1, 3) := by decide +kernel
theorem dX0_stepTo_42 : decode cX0_stepTo 42 = .ok (.goto (-36), 3) := by decide +kernel
theorem dX0_stepTo_45 : decode cX0_stepTo 45 = .ok (.iload_n 3, 1) := by decide +kernel
theorem dX0_stepTo_46 : decode cX0_stepTo 46 = .ok (.ireturn, 1) := by decide +kernel
theorem dX0_unlikeParts_0 : decode cX0_unlikeParts 0 = .ok (.aload_n 0, 1) := by decide +kernel
theorem dX0_unlikeParts_1 : decode cX0_unlikeParts 1 = .ok (.getfield 21, 3) := by decide +kernel
theorem dX0_unlikeParts_4 : decode cX0_unlikeParts 4 = .ok (.getfield 51, 3) := by decide +kernel
theorem dX0_unlikeParts_7 : decode cX0_unlikeParts 7 = .ok (.iload_n 1, 1) := by decide +kernel
theorem dX0_unlikeParts_8 : decode cX0_unlikeParts 8 = .ok (.iaload, 1) := by decide +kernel
theorem dX0_unlikeParts_9 : decode cX0_unlikeParts 9 = .ok (.aload_n 0, 1) := by decide +kernel
theorem dX0_unlikeParts_10 : decode cX0_unlikeParts 10 = .ok (.getfield 21, 3) := by decide +kernel
theorem dX0_unlikeParts_13 : decode cX0_unlikeParts 13 = .ok (.getfield 51, 3) := by decide +kernel
theorem dX0_unlikeParts_16 : decode cX0_unlikeParts 16 = .ok (.iload_n 2, 1) := by decide +kernel
theorem dX0_unlikeParts_17 : decode cX0_unlikeParts 17 = .ok (.iaload, 1) := by decide +kernel
theorem dX0_unlikeParts_18 : decode cX0_unlikeParts 18 = .ok (.ixor, 1) := by decide +kernel
theorem dX0_unlikeParts_19 : decode cX0_unlikeParts 19 = .ok (.invokestatic 74, 3) := by decide +kernel
theorem dX0_unlikeParts_22 : decode cX0_unlikeParts 22 = .ok (.ireturn, 1) := by decide +kernel
theorem dX0_whoCan_0 : decode cX0_whoCan 0 = .ok (.iconst 0, 1) := by decide +kernel
theorem dX0_whoCan_1 : decode cX0_whoCan 1 = .ok (.istore_n 2, 1) := by decide +kernel
theorem dX0_whoCan_2 : decode cX0_whoCan 2 = .ok (.iconst 0, 1) := by decide +kernel
theorem dX0_whoCan_3 : decode cX0_whoCan 3 = .ok (.istore_n 3, 1) := by decide +kernel
theorem dX0_whoCan_4 : decode cX0_whoCan 4 = .ok (.iload_n 3, 1) := by decide +kernel
theorem dX0_whoCan_5 : decode cX0_whoCan 5 = .ok (.aload_n 0, 1) := by decide +kernel
theorem dX0_whoCan_6 : decode cX0_whoCan 6 = .ok (.getfield 12, 3) := by decide +kernel
theorem dX0_whoCan_9 : decode cX0_whoCan 9 = .ok (.getfield 41, 3) := by decide +kernel
theorem dX0_whoCan_12 : decode cX0_whoCan 12 = .ok (.if_icmp .ge 31, 3) := by decide +kernel
theorem dX0_whoCan_15 : decode cX0_whoCan 15 = .ok (.aload_n 0, 1) := by decide +kernel
theorem dX0_whoCan_16 : decode cX0_whoCan 16 = .ok (.getfield 21, 3) := by decide +kernel
theorem dX0_whoCan_19 : decode cX0_whoCan 19 = .ok (.getfield 59, 3) := by decide +kernel
theorem dX0_whoCan_22 : decode cX0_whoCan 22 = .ok (.iload_n 3, 1) := by decide +kernel
theorem dX0_whoCan_23 : decode cX0_whoCan 23 = .ok (.iaload, 1) := by decide +kernel
theorem dX0_whoCan_24 : decode cX0_whoCan 24 = .ok (.iload_n 1, 1) := by decide +kernel
theorem dX0_whoCan_25 : decode cX0_whoCan 25 = .ok (.invokestatic 47, 3) := by decide +kernel
theorem dX0_whoCan_28 : decode cX0_whoCan 28 = .ok (.ifCond .eq 9, 3) := by decide +kernel
theorem dX0_whoCan_31 : decode cX0_whoCan 31 = .ok (.iload_n 2, 1) := by decide +kernel
theorem dX0_whoCan_32 : decode cX0_whoCan 32 = .ok (.iconst 1, 1) := by decide +kernel
theorem dX0_whoCan_33 : decode cX0_whoCan 33 = .ok (.iload_n 3, 1) := by decide +kernel
theorem dX0_whoCan_34 : decode cX0_whoCan 34 = .ok (.ishl, 1) := by decide +kernel
theorem dX0_whoCan_35 : decode cX0_whoCan 35 = .ok (.ior, 1) := by decide +kernel
theorem dX0_whoCan_36 : decode cX0_whoCan 36 = .ok (.istore_n 2, 1) := by decide +kernel
theorem dX0_whoCan_37 : decode cX0_whoCan 37 = .ok (.iinc 3 1, 3) := by decide +kernel
theorem dX0_whoCan_40 : decode cX0_whoCan 40 = .ok (.goto (-36), 3) := by decide +kernel
theorem dX0_whoCan_43 : decode cX0_whoCan 43 = .ok (.iload_n 2, 1) := by decide +kernel
theorem dX0_whoCan_44 : decode cX0_whoCan 44 = .ok (.ireturn, 1) := by decide +kernel
theorem dX0_whoIsInClass_0 : decode cX0_whoIsInClass 0 = .ok (.iconst 0, 1) := by decide +kernel
theorem dX0_whoIsInClass_1 : decode cX0_whoIsInClass 1 = .ok (.istore_n 1, 1) := by decide +kernel
theorem dX0_whoIsInClass_2 : decode cX0_whoIsInClass 2 = .ok (.iconst 0, 1) := by decide +kernel
theorem dX0_whoIsInClass_3 : decode cX0_whoIsInClass 3 = .ok (.istore_n 2, 1) := by decide +kernel
theorem dX0_whoIsInClass_4 : decode cX0_whoIsInClass 4 = .ok (.iload_n 2, 1) := by decide +kernel
theorem dX0_whoIsInClass_5 : decode cX0_whoIsInClass 5 = .ok (.aload_n 0, 1) := by decide +kernel
theorem dX0_whoIsInClass_6 : decode cX0_whoIsInClass 6 = .ok (.getfield 12, 3) := by decide +kernel
theorem dX0_whoIsInClass_9 : decode cX0_whoIsInClass 9 = .ok (.getfield 41, 3) := by decide +kernel
theorem dX0_whoIsInClass_12 : decode cX0_whoIsInClass 12 = .ok (.if_icmp .ge 28, 3) := by decide +kernel
theorem dX0_whoIsInClass_15 : decode cX0_whoIsInClass 15 = .ok (.aload_n 0, 1) := by decide +kernel
theorem dX0_whoIsInClass_16 : decode cX0_whoIsInClass 16 = .ok (.getfield 21, 3) := by decide +kernel
theorem dX0_whoIsInClass_19 : decode cX0_whoIsInClass 19 = .ok (.getfield 71, 3) := by decide +kernel
theorem dX0_whoIsInClass_22 : decode cX0_whoIsInClass 22 = .ok (.iload_n 2, 1) := by decide +kernel
theorem dX0_whoIsInClass_23 : decode cX0_whoIsInClass 23 = .ok (.iaload, 1) := by decide +kernel
theorem dX0_whoIsInClass_24 : decode cX0_whoIsInClass 24 = .ok (.iconst (-1), 1) := by decide +kernel
theorem dX0_whoIsInClass_25 : decode cX0_whoIsInClass 25 = .ok (.if_icmp .eq 9, 3) := by decide +kernel
theorem dX0_whoIsInClass_28 : decode cX0_whoIsInClass 28 = .ok (.iload_n 1, 1) := by decide +kernel
theorem dX0_whoIsInClass_29 : decode cX0_whoIsInClass 29 = .ok (.iconst 1, 1) := by decide +kernel
theorem dX0_whoIsInClass_30 : decode cX0_whoIsInClass 30 = .ok (.iload_n 2, 1) := by decide +kernel
theorem dX0_whoIsInClass_31 : decode cX0_whoIsInClass 31 = .ok (.ishl, 1) := by decide +kernel
theorem dX0_whoIsInClass_32 : decode cX0_whoIsInClass 32 = .ok (.ior, 1) := by decide +kernel
theorem dX0_whoIsInClass_33 : decode cX0_whoIsInClass 33 = .ok (.istore_n 1, 1) := by decide +kernel
theorem dX0_whoIsInClass_34 : decode cX0_whoIsInClass 34 = .ok (.iinc 2 1, 3) := by decide +kernel
theorem dX0_whoIsInClass_37 : decode cX0_whoIsInClass 37 = .ok (.goto (-33), 3) := by decide +kernel
theorem dX0_whoIsInClass_40 : decode cX0_whoIsInClass 40 = .ok (.iload_n 1, 1) := by decide +kernel
theorem dX0_whoIsInClass_41 : decode cX0_whoIsInClass 41 = .ok (.ireturn, 1) := by decide +kernel
theorem dX10_ask_0 : decode cX10_ask 0 = .ok (.aload_n 0, 1) := by decide +kernel
theorem dX10_ask_1 : decode cX10_ask 1 = .ok (.getfield 56, 3) := by decide +kernel
theorem dX10_ask_4 : decode cX10_ask 4 = .ok (.invokevirtual 262, 3) := by decide +kernel
theorem dX10_ask_7 : decode cX10_ask 7 = .ok (.ireturn, 1) := by decide +kernel
theorem dX10_back_0 : decode cX10_back 0 = .ok (.iload_n 1, 1) := by decide +kernel
theorem dX10_back_1 : decode cX10_back 1 = .ok (.ifCond .lt 8, 3) := by decide +kernel
theorem dX10_back_4 : decode cX10_back 4 = .ok (.iload_n 1, 1) := by decide +kernel
theorem dX10_back_5 : decode cX10_back 5 = .ok (.iconst 2, 1) := by decide +kernel
theorem dX10_back_6 : decode cX10_back 6 = .ok (.if_icmp .lt 5, 3) := by decide +kernel
theorem dX10_back_9 : decode cX10_back 9 = .ok (.iconst (-1), 1) := by decide +kernel
theorem dX10_back_10 : decode cX10_back 10 = .ok (.ireturn, 1) := by decide +kernel
theorem dX10_back_11 : decode cX10_back 11 = .ok (.aload_n 0, 1) := by decide +kernel
theorem dX10_back_12 : decode cX10_back 12 = .ok (.getfield 32, 3) := by decide +kernel
theorem dX10_back_15 : decode cX10_back 15 = .ok (.iload_n 1, 1) := by decide +kernel
theorem dX10_back_16 : decode cX10_back 16 = .ok (.aaload, 1) := by decide +kernel
theorem dX10_back_17 : decode cX10_back 17 = .ok (.getfield 94, 3) := by decide +kernel
theorem dX10_back_20 : decode cX10_back 20 = .ok (.ifCond .ne 6, 3) := by decide +kernel
theorem dX10_back_23 : decode cX10_back 23 = .ok (.bipush (-2), 2) := by decide +kernel
theorem dX10_back_25 : decode cX10_back 25 = .ok (.ireturn, 1) := by decide +kernel
theorem dX10_back_26 : decode cX10_back 26 = .ok (.aload_n 0, 1) := by decide +kernel
theorem dX10_back_27 : decode cX10_back 27 = .ok (.getfield 32, 3) := by decide +kernel
theorem dX10_back_30 : decode cX10_back 30 = .ok (.iload_n 1, 1) := by decide +kernel
theorem dX10_back_31 : decode cX10_back 31 = .ok (.aaload, 1) := by decide +kernel
theorem dX10_back_32 : decode cX10_back 32 = .ok (.aload_n 0, 1) := by decide +kernel
theorem dX10_back_33 : decode cX10_back 33 = .ok (.getfield 19, 3) := by decide +kernel
theorem dX10_back_36 : decode cX10_back 36 = .ok (.getfield 138, 3) := by decide +kernel
theorem dX10_back_39 : decode cX10_back 39 = .ok (.aload_n 0, 1) := by decide +kernel
theorem dX10_back_40 : decode cX10_back 40 = .ok (.getfield 26, 3) := by decide +kernel
theorem dX10_back_43 : decode cX10_back 43 = .ok (.invokevirtual 273, 3) := by decide +kernel
theorem dX10_back_46 : decode cX10_back 46 = .ok (.aload_n 0, 1) := by decide +kernel
theorem dX10_back_47 : decode cX10_back 47 = .ok (.getfield 19, 3) := by decide +kernel
theorem dX10_back_50 : decode cX10_back 50 = .ok (.getfield 138, 3) := by decide +kernel
theorem dX10_back_53 : decode cX10_back 53 = .ok (.getfield 176, 3) := by decide +kernel
theorem dX10_back_56 : decode cX10_back 56 = .ok (.ireturn, 1) := by decide +kernel
theorem dX10_best_0 : decode cX10_best 0 = .ok (.aload_n 0, 1) := by decide +kernel
theorem dX10_best_1 : decode cX10_best 1 = .ok (.getfield 19, 3) := by decide +kernel
theorem dX10_best_4 : decode cX10_best 4 = .ok (.iload_n 1, 1) := by decide +kernel
theorem dX10_best_5 : decode cX10_best 5 = .ok (.invokevirtual 129, 3) := by decide +kernel
theorem dX10_best_8 : decode cX10_best 8 = .ok (.ifCond .eq 22, 3) := by decide +kernel
theorem dX10_best_11 : decode cX10_best 11 = .ok (.iload_n 2, 1) := by decide +kernel
theorem dX10_best_12 : decode cX10_best 12 = .ok (.ifCond .lt 18, 3) := by decide +kernel
theorem dX10_best_15 : decode cX10_best 15 = .ok (.iload_n 2, 1) := by decide +kernel
theorem dX10_best_16 : decode cX10_best 16 = .ok (.bipush 99, 2) := by decide +kernel
theorem dX10_best_18 : decode cX10_best 18 = .ok (.if_icmp .gt 12, 3) := by decide +kernel
theorem dX10_best_21 : decode cX10_best 21 = .ok (.iload_n 3, 1) := by decide +kernel
theorem dX10_best_22 : decode cX10_best 22 = .ok (.ifCond .lt 8, 3) := by decide +kernel
theorem dX10_best_25 : decode cX10_best 25 = .ok (.iload_n 3, 1) := by decide +kernel
theorem dX10_best_26 : decode cX10_best 26 = .ok (.iconst 1, 1) := by decide +kernel
theorem dX10_best_27 : decode cX10_best 27 = .ok (.if_icmp .le 5, 3) := by decide +kernel
theorem dX10_best_30 : decode cX10_best 30 = .ok (.iconst (-1), 1) := by decide +kernel
theorem dX10_best_31 : decode cX10_best 31 = .ok (.ireturn, 1) := by decide +kernel
theorem dX10_best_32 : decode cX10_best 32 = .ok (.aload_n 0, 1) := by decide +kernel
theorem dX10_best_33 : decode cX10_best 33 = .ok (.getfield 42, 3) := by decide +kernel
theorem dX10_best_36 : decode cX10_best 36 = .ok (.iload_n 1, 1) := by decide +kernel
theorem dX10_best_37 : decode cX10_best 37 = .ok (.iload_n 2, 1) := by decide +kernel
theorem dX10_best_38 : decode cX10_best 38 = .ok (.invokevirtual 230, 3) := by decide +kernel
theorem dX10_best_41 : decode cX10_best 41 = .ok (.istore 4, 2) := by decide +kernel
theorem dX10_best_43 : decode cX10_best 43 = .ok (.iload_n 3, 1) := by decide +kernel
theorem dX10_best_44 : decode cX10_best 44 = .ok (.ifCond .ne 8, 3) := by decide +kernel
theorem dX10_best_47 : decode cX10_best 47 = .ok (.iload 4, 2) := by decide +kernel
theorem dX10_best_49 : decode cX10_best 49 = .ok (.goto 12, 3) := by decide +kernel
theorem dX10_best_52 : decode cX10_best 52 = .ok (.aload_n 0, 1) := by decide +kernel
theorem dX10_best_53 : decode cX10_best 53 = .ok (.getfield 42, 3) := by decide +kernel
theorem dX10_best_56 : decode cX10_best 56 = .ok (.iload 4, 2) := by decide +kernel
theorem dX10_best_58 : decode cX10_best 58 = .ok (.invokevirtual 221, 3) := by decide +kernel
theorem dX10_best_61 : decode cX10_best 61 = .ok (.ireturn, 1) := by decide +kernel
theorem dX10_cast_0 : decode cX10_cast 0 = .ok (.aload_n 0, 1) := by decide +kernel
theorem dX10_cast_1 : decode cX10_cast 1 = .ok (.getfield 19, 3) := by decide +kernel
theorem dX10_cast_4 : decode cX10_cast 4 = .ok (.iload_n 1, 1) := by decide +kernel
theorem dX10_cast_5 : decode cX10_cast 5 = .ok (.invokevirtual 129, 3) := by decide +kernel
theorem dX10_cast_8 : decode cX10_cast 8 = .ok (.ifCond .ne 5, 3) := by decide +kernel
theorem dX10_cast_11 : decode cX10_cast 11 = .ok (.iconst (-1), 1) := by decide +kernel
theorem dX10_cast_12 : decode cX10_cast 12 = .ok (.ireturn, 1) := by decide +kernel
theorem dX10_cast_13 : decode cX10_cast 13 = .ok (.iload_n 2, 1) := by decide +kernel
theorem dX10_cast_14 : decode cX10_cast 14 = .ok (.tableswitch 153 0 7 #[46, 59, 72, 85, 98, 115, 128, 137], 46) := by decide +kernel
theorem dX10_cast_60 : decode cX10_cast 60 = .ok (.aload_n 0, 1) := by decide +kernel
theorem dX10_cast_61 : decode cX10_cast 61 = .ok (.getfield 19, 3) := by decide +kernel
theorem dX10_cast_64 : decode cX10_cast 64 = .ok (.getfield 98, 3) := by decide +kernel
theorem dX10_cast_67 : decode cX10_cast 67 = .ok (.getfield 132, 3) := by decide +kernel
theorem dX10_cast_70 : decode cX10_cast 70 = .ok (.iload_n 1, 1) := by decide +kernel
theorem dX10_cast_71 : decode cX10_cast 71 = .ok (.iaload, 1) := by decide +kernel
theorem dX10_cast_72 : decode cX10_cast 72 = .ok (.ireturn, 1) := by decide +kernel
theorem dX10_cast_73 : decode cX10_cast 73 = .ok (.aload_n 0, 1) := by decide +kernel
theorem dX10_cast_74 : decode cX10_cast 74 = .ok (.getfield 19, 3) := by decide +kernel
theorem dX10_cast_77 : decode cX10_cast 77 = .ok (.getfield 98, 3) := by decide +kernel
theorem dX10_cast_80 : decode cX10_cast 80 = .ok (.getfield 135, 3) := by decide +kernel
theorem dX10_cast_83 : decode cX10_cast 83 = .ok (.iload_n 1, 1) := by decide +kernel
theorem dX10_cast_84 : decode cX10_cast 84 = .ok (.iaload, 1) := by decide +kernel
theorem dX10_cast_85 : decode cX10_cast 85 = .ok (.ireturn, 1) := by decide +kernel
theorem dX10_cast_86 : decode cX10_cast 86 = .ok (.aload_n 0, 1) := by decide +kernel
theorem dX10_cast_87 : decode cX10_cast 87 = .ok (.getfield 19, 3) := by decide +kernel
theorem dX10_cast_90 : decode cX10_cast 90 = .ok (.getfield 138, 3) := by decide +kernel
theorem dX10_cast_93 : decode cX10_cast 93 = .ok (.getfield 142, 3) := by decide +kernel
theorem dX10_cast_96 : decode cX10_cast 96 = .ok (.iload_n 1, 1) := by decide +kernel
theorem dX10_cast_97 : decode cX10_cast 97 = .ok (.iaload, 1) := by decide +kernel
theorem dX10_cast_98 : decode cX10_cast 98 = .ok (.ireturn, 1) := by decide +kernel
theorem dX10_cast_99 : decode cX10_cast 99 = .ok (.aload_n 0, 1) := by decide +kernel
theorem dX10_cast_100 : decode cX10_cast 100 = .ok (.getfield 19, 3) := by decide +kernel
theorem dX10_cast_103 : decode cX10_cast 103 = .ok (.getfield 138, 3) := by decide +kernel
theorem dX10_cast_106 : decode cX10_cast 106 = .ok (.getfield 147, 3) := by decide +kernel
theorem dX10_cast_109 : decode cX10_cast 109 = .ok (.iload_n 1, 1) := by decide +kernel
theorem dX10_cast_110 : decode cX10_cast 110 = .ok (.iaload, 1) := by decide +kernel
theorem dX10_cast_111 : decode cX10_cast 111 = .ok (.ireturn, 1) := by decide +kernel
theorem dX10_cast_112 : decode cX10_cast 112 = .ok (.aload_n 0, 1) := by decide +kernel
theorem dX10_cast_113 : decode cX10_cast 113 = .ok (.getfield 19, 3) := by decide +kernel
theorem dX10_cast_116 : decode cX10_cast 116 = .ok (.iload_n 1, 1) := by decide +kernel
theorem dX10_cast_117 : decode cX10_cast 117 = .ok (.invokevirtual 150, 3) := by decide +kernel
theorem dX10_cast_120 : decode cX10_cast 120 = .ok (.ifCond .eq 7, 3) := by decide +kernel
theorem dX10_cast_123 : decode cX10_cast 123 = .ok (.iconst 1, 1) := by decide +kernel
theorem dX10_cast_124 : decode cX10_cast 124 = .ok (.goto 4, 3) := by decide +kernel
theorem dX10_cast_127 : decode cX10_cast 127 = .ok (.iconst 0, 1) := by decide +kernel
theorem dX10_cast_128 : decode cX10_cast 128 = .ok (.ireturn, 1) := by decide +kernel
theorem dX10_cast_129 : decode cX10_cast 129 = .ok (.aload_n 0, 1) := by decide +kernel
theorem dX10_cast_130 : decode cX10_cast 130 = .ok (.getfield 19, 3) := by decide +kernel
theorem dX10_cast_133 : decode cX10_cast 133 = .ok (.getfield 138, 3) := by decide +kernel
theorem dX10_cast_136 : decode cX10_cast 136 = .ok (.getfield 153, 3) := by decide +kernel
theorem dX10_cast_139 : decode cX10_cast 139 = .ok (.iload_n 1, 1) := by decide +kernel
theorem dX10_cast_140 : decode cX10_cast 140 = .ok (.iaload, 1) := by decide +kernel
theorem dX10_cast_141 : decode cX10_cast 141 = .ok (.ireturn, 1) := by decide +kernel
theorem dX10_cast_142 : decode cX10_cast 142 = .ok (.aload_n 0, 1) := by decide +kernel
theorem dX10_cast_143 : decode cX10_cast 143 = .ok (.getfield 19, 3) := by decide +kernel
theorem dX10_cast_146 : decode cX10_cast 146 = .ok (.iload_n 1, 1) := by decide +kernel
theorem dX10_cast_147 : decode cX10_cast 147 = .ok (.invokevirtual 156, 3) := by decide +kernel
theorem dX10_cast_150 : decode cX10_cast 150 = .ok (.ireturn, 1) := by decide +kernel
theorem dX10_cast_151 : decode cX10_cast 151 = .ok (.aload_n 0, 1) := by decide +kernel
theorem dX10_cast_152 : decode cX10_cast 152 = .ok (.getfield 19, 3) := by decide +kernel
theorem dX10_cast_155 : decode cX10_cast 155 = .ok (.getfield 138, 3) := by decide +kernel
theorem dX10_cast_158 : decode cX10_cast 158 = .ok (.getfield 159, 3) := by decide +kernel
theorem dX10_cast_161 : decode cX10_cast 161 = .ok (.iload_n 1, 1) := by decide +kernel
theorem dX10_cast_162 : decode cX10_cast 162 = .ok (.iaload, 1) := by decide +kernel
theorem dX10_cast_163 : decode cX10_cast 163 = .ok (.invokestatic 162, 3) := by decide +kernel
theorem dX10_cast_166 : decode cX10_cast 166 = .ok (.ireturn, 1) := by decide +kernel
theorem dX10_cast_167 : decode cX10_cast 167 = .ok (.iconst (-1), 1) := by decide +kernel
theorem dX10_cast_168 : decode cX10_cast 168 = .ok (.ireturn, 1) := by decide +kernel
theorem dX10_clear_0 : decode cX10_clear 0 = .ok (.aload_n 0, 1) := by decide +kernel
theorem dX10_clear_1 : decode cX10_clear 1 = .ok (.getfield 10, 3) := by decide +kernel
theorem dX10_clear_4 : decode cX10_clear 4 = .ok (.getfield 67, 3) := by decide +kernel
theorem dX10_clear_7 : decode cX10_clear 7 = .ok (.istore_n 1, 1) := by decide +kernel
theorem dX10_clear_8 : decode cX10_clear 8 = .ok (.aload_n 0, 1) := by decide +kernel
theorem dX10_clear_9 : decode cX10_clear 9 = .ok (.getfield 10, 3) := by decide +kernel
theorem dX10_clear_12 : decode cX10_clear 12 = .ok (.iconst 0, 1) := by decide +kernel
theorem dX10_clear_13 : decode cX10_clear 13 = .ok (.putfield 67, 3) := by decide +kernel
theorem dX10_clear_16 : decode cX10_clear 16 = .ok (.iload_n 1, 1) := by decide +kernel
theorem dX10_clear_17 : decode cX10_clear 17 = .ok (.ireturn, 1) := by decide +kernel
theorem dX10_commonDivisor_0 : decode cX10_commonDivisor 0 = .ok (.iload_n 1, 1) := by decide +kernel
theorem dX10_commonDivisor_1 : decode cX10_commonDivisor 1 = .ok (.istore_n 2, 1) := by decide +kernel
theorem dX10_commonDivisor_2 : decode cX10_commonDivisor 2 = .ok (.iload_n 0, 1) := by decide +kernel
theorem dX10_commonDivisor_3 : decode cX10_commonDivisor 3 = .ok (.istore_n 3, 1) := by decide +kernel
theorem dX10_commonDivisor_4 : decode cX10_commonDivisor 4 = .ok (.iconst 0, 1) := by decide +kernel
theorem dX10_commonDivisor_5 : decode cX10_commonDivisor 5 = .ok (.istore 4, 2) := by decide +kernel
theorem dX10_commonDivisor_7 : decode cX10_commonDivisor 7 = .ok (.iload 4, 2) := by decide +kernel
theorem dX10_commonDivisor_9 : decode cX10_commonDivisor 9 = .ok (.bipush 64, 2) := by decide +kernel
theorem dX10_commonDivisor_11 : decode cX10_commonDivisor 11 = .ok (.if_icmp .ge 23, 3) := by decide +kernel
theorem dX10_commonDivisor_14 : decode cX10_commonDivisor 14 = .ok (.iload_n 3, 1) := by decide +kernel
theorem dX10_commonDivisor_15 : decode cX10_commonDivisor 15 = .ok (.ifCond .eq 19, 3) := by decide +kernel
theorem dX10_commonDivisor_18 : decode cX10_commonDivisor 18 = .ok (.iload_n 2, 1) := by decide +kernel
theorem dX10_commonDivisor_19 : decode cX10_commonDivisor 19 = .ok (.iload_n 3, 1) := by decide +kernel
theorem dX10_commonDivisor_20 : decode cX10_commonDivisor 20 = .ok (.irem, 1) := by decide +kernel
theorem dX10_commonDivisor_21 : decode cX10_commonDivisor 21 = .ok (.istore 5, 2) := by decide +kernel
theorem dX10_commonDivisor_23 : decode cX10_commonDivisor 23 = .ok (.iload_n 3, 1) := by decide +kernel
theorem dX10_commonDivisor_24 : decode cX10_commonDivisor 24 = .ok (.istore_n 2, 1) := by decide +kernel
theorem dX10_commonDivisor_25 : decode cX10_commonDivisor 25 = .ok (.iload 5, 2) := by decide +kernel
theorem dX10_commonDivisor_27 : decode cX10_commonDivisor 27 = .ok (.istore_n 3, 1) := by decide +kernel
theorem dX10_commonDivisor_28 : decode cX10_commonDivisor 28 = .ok (.iinc 4 1, 3) := by decide +kernel
theorem dX10_commonDivisor_31 : decode cX10_commonDivisor 31 = .ok (.goto (-24), 3) := by decide +kernel
theorem dX10_commonDivisor_34 : decode cX10_commonDivisor 34 = .ok (.iload_n 2, 1) := by decide +kernel
theorem dX10_commonDivisor_35 : decode cX10_commonDivisor 35 = .ok (.iconst 1, 1) := by decide +kernel
theorem dX10_commonDivisor_36 : decode cX10_commonDivisor 36 = .ok (.invokestatic 280, 3) := by decide +kernel
theorem dX10_commonDivisor_39 : decode cX10_commonDivisor 39 = .ok (.ireturn, 1) := by decide +kernel
theorem dX10_count_0 : decode cX10_count 0 = .ok (.iload_n 1, 1) := by decide +kernel
theorem dX10_count_1 : decode cX10_count 1 = .ok (.tableswitch 81 0 4 #[35, 46, 57, 65, 73], 35) := by decide +kernel
theorem dX10_count_36 : decode cX10_count 36 = .ok (.aload_n 0, 1) := by decide +kernel
theorem dX10_count_37 : decode cX10_count 37 = .ok (.getfield 19, 3) := by decide +kernel
theorem dX10_count_40 : decode cX10_count 40 = .ok (.getfield 98, 3) := by decide +kernel
theorem dX10_count_43 : decode cX10_count 43 = .ok (.getfield 101, 3) := by decide +kernel
theorem dX10_count_46 : decode cX10_count 46 = .ok (.ireturn, 1) := by decide +kernel
theorem dX10_count_47 : decode cX10_count 47 = .ok (.aload_n 0, 1) := by decide +kernel
theorem dX10_count_48 : decode cX10_count 48 = .ok (.getfield 19, 3) := by decide +kernel
theorem dX10_count_51 : decode cX10_count 51 = .ok (.getfield 98, 3) := by decide +kernel
theorem dX10_count_54 : decode cX10_count 54 = .ok (.getfield 106, 3) := by decide +kernel
theorem dX10_count_57 : decode cX10_count 57 = .ok (.ireturn, 1) := by decide +kernel
theorem dX10_count_58 : decode cX10_count 58 = .ok (.aload_n 0, 1) := by decide +kernel
theorem dX10_count_59 : decode cX10_count 59 = .ok (.getfield 56, 3) := by decide +kernel
theorem dX10_count_62 : decode cX10_count 62 = .ok (.getfield 93, 3) := by decide +kernel
theorem dX10_count_65 : decode cX10_count 65 = .ok (.ireturn, 1) := by decide +kernel
theorem dX10_count_66 : decode cX10_count 66 = .ok (.aload_n 0, 1) := by decide +kernel
theorem dX10_count_67 : decode cX10_count 67 = .ok (.getfield 26, 3) := by decide +kernel
theorem dX10_count_70 : decode cX10_count 70 = .ok (.getfield 90, 3) := by decide +kernel
theorem dX10_count_73 : decode cX10_count 73 = .ok (.ireturn, 1) := by decide +kernel
theorem dX10_count_74 : decode cX10_count 74 = .ok (.aload_n 0, 1) := by decide +kernel
theorem dX10_count_75 : decode cX10_count 75 = .ok (.getfield 10, 3) := by decide +kernel
theorem dX10_count_78 : decode cX10_count 78 = .ok (.getfield 67, 3) := by decide +kernel
theorem dX10_count_81 : decode cX10_count 81 = .ok (.ireturn, 1) := by decide +kernel
theorem dX10_count_82 : decode cX10_count 82 = .ok (.iconst (-1), 1) := by decide +kernel
theorem dX10_count_83 : decode cX10_count 83 = .ok (.ireturn, 1) := by decide +kernel
theorem dX10_far_0 : decode cX10_far 0 = .ok (.aload_n 0, 1) := by decide +kernel
theorem dX10_far_1 : decode cX10_far 1 = .ok (.getfield 19, 3) := by decide +kernel
theorem dX10_far_4 : decode cX10_far 4 = .ok (.iload_n 1, 1) := by decide +kernel
theorem dX10_far_5 : decode cX10_far 5 = .ok (.invokevirtual 129, 3) := by decide +kernel
theorem dX10_far_8 : decode cX10_far 8 = .ok (.ifCond .eq 14, 3) := by decide +kernel
theorem dX10_far_11 : decode cX10_far 11 = .ok (.aload_n 0, 1) := by decide +kernel
theorem dX10_far_12 : decode cX10_far 12 = .ok (.getfield 19, 3) := by decide +kernel
theorem dX10_far_15 : decode cX10_far 15 = .ok (.iload_n 2, 1) := by decide +kernel
theorem dX10_far_16 : decode cX10_far 16 = .ok (.invokevirtual 109, 3) := by decide +kernel
theorem dX10_far_19 : decode cX10_far 19 = .ok (.ifCond .ne 5, 3) := by decide +kernel
theorem dX10_far_22 : decode cX10_far 22 = .ok (.iconst (-1), 1) := by decide +kernel
theorem dX10_far_23 : decode cX10_far 23 = .ok (.ireturn, 1) := by decide +kernel
theorem dX10_far_24 : decode cX10_far 24 = .ok (.aload_n 0, 1) := by decide +kernel
theorem dX10_far_25 : decode cX10_far 25 = .ok (.getfield 19, 3) := by decide +kernel
theorem dX10_far_28 : decode cX10_far 28 = .ok (.getfield 138, 3) := by decide +kernel
theorem dX10_far_31 : decode cX10_far 31 = .ok (.getfield 165, 3) := by decide +kernel
theorem dX10_far_34 : decode cX10_far 34 = .ok (.iload_n 1, 1) := by decide +kernel
theorem dX10_far_35 : decode cX10_far 35 = .ok (.bipush 8, 2) := by decide +kernel
theorem dX10_far_37 : decode cX10_far 37 = .ok (.imul, 1) := by decide +kernel
theorem dX10_far_38 : decode cX10_far 38 = .ok (.iload_n 2, 1) := by decide +kernel
theorem dX10_far_39 : decode cX10_far 39 = .ok (.iadd, 1) := by decide +kernel
theorem dX10_far_40 : decode cX10_far 40 = .ok (.iaload, 1) := by decide +kernel
theorem dX10_far_41 : decode cX10_far 41 = .ok (.ireturn, 1) := by decide +kernel
theorem dX10_forget_0 : decode cX10_forget 0 = .ok (.aload_n 0, 1) := by decide +kernel
theorem dX10_forget_1 : decode cX10_forget 1 = .ok (.getfield 56, 3) := by decide +kernel
theorem dX10_forget_4 : decode cX10_forget 4 = .ok (.getfield 93, 3) := by decide +kernel
theorem dX10_forget_7 : decode cX10_forget 7 = .ok (.istore_n 1, 1) := by decide +kernel
theorem dX10_forget_8 : decode cX10_forget 8 = .ok (.aload_n 0, 1) := by decide +kernel
theorem dX10_forget_9 : decode cX10_forget 9 = .ok (.getfield 56, 3) := by decide +kernel
theorem dX10_forget_12 : decode cX10_forget 12 = .ok (.iconst 0, 1) := by decide +kernel
theorem dX10_forget_13 : decode cX10_forget 13 = .ok (.putfield 93, 3) := by decide +kernel
theorem dX10_forget_16 : decode cX10_forget 16 = .ok (.iload_n 1, 1) := by decide +kernel
theorem dX10_forget_17 : decode cX10_forget 17 = .ok (.ireturn, 1) := by decide +kernel
theorem dX10_hall_0 : decode cX10_hall 0 = .ok (.aload_n 0, 1) := by decide +kernel
theorem dX10_hall_1 : decode cX10_hall 1 = .ok (.getfield 10, 3) := by decide +kernel
theorem dX10_hall_4 : decode cX10_hall 4 = .ok (.invokevirtual 75, 3) := by decide +kernel
theorem dX10_hall_7 : decode cX10_hall 7 = .ok (.ifCond .ne 14, 3) := by decide +kernel
theorem dX10_hall_10 : decode cX10_hall 10 = .ok (.bipush (-10), 2) := by decide +kernel
theorem dX10_hall_12 : decode cX10_hall 12 = .ok (.aload_n 0, 1) := by decide +kernel
theorem dX10_hall_13 : decode cX10_hall 13 = .ok (.getfield 10, 3) := by decide +kernel
theorem dX10_hall_16 : decode cX10_hall 16 = .ok (.getfield 79, 3) := by decide +kernel
theorem dX10_hall_19 : decode cX10_hall 19 = .ok (.isub, 1) := by decide +kernel
theorem dX10_hall_20 : decode cX10_hall 20 = .ok (.ireturn, 1) := by decide +kernel
theorem dX10_hall_21 : decode cX10_hall 21 = .ok (.aload_n 0, 1) := by decide +kernel
theorem dX10_hall_22 : decode cX10_hall 22 = .ok (.getfield 19, 3) := by decide +kernel
theorem dX10_hall_25 : decode cX10_hall 25 = .ok (.aload_n 0, 1) := by decide +kernel
theorem dX10_hall_26 : decode cX10_hall 26 = .ok (.getfield 10, 3) := by decide +kernel
theorem dX10_hall_29 : decode cX10_hall 29 = .ok (.getfield 82, 3) := by decide +kernel
theorem dX10_hall_32 : decode cX10_hall 32 = .ok (.invokevirtual 86, 3) := by decide +kernel
theorem dX10_hall_35 : decode cX10_hall 35 = .ok (.aload_n 0, 1) := by decide +kernel
theorem dX10_hall_36 : decode cX10_hall 36 = .ok (.getfield 26, 3) := by decide +kernel
theorem dX10_hall_39 : decode cX10_hall 39 = .ok (.iconst 0, 1) := by decide +kernel
theorem dX10_hall_40 : decode cX10_hall 40 = .ok (.putfield 90, 3) := by decide +kernel
theorem dX10_hall_43 : decode cX10_hall 43 = .ok (.aload_n 0, 1) := by decide +kernel
theorem dX10_hall_44 : decode cX10_hall 44 = .ok (.getfield 56, 3) := by decide +kernel
theorem dX10_hall_47 : decode cX10_hall 47 = .ok (.iconst 0, 1) := by decide +kernel
theorem dX10_hall_48 : decode cX10_hall 48 = .ok (.putfield 93, 3) := by decide +kernel
theorem dX10_hall_51 : decode cX10_hall 51 = .ok (.iconst 0, 1) := by decide +kernel
theorem dX10_hall_52 : decode cX10_hall 52 = .ok (.istore_n 1, 1) := by decide +kernel
theorem dX10_hall_53 : decode cX10_hall 53 = .ok (.iload_n 1, 1) := by decide +kernel
theorem dX10_hall_54 : decode cX10_hall 54 = .ok (.iconst 2, 1) := by decide +kernel
theorem dX10_hall_55 : decode cX10_hall 55 = .ok (.if_icmp .ge 19, 3) := by decide +kernel
theorem dX10_hall_58 : decode cX10_hall 58 = .ok (.aload_n 0, 1) := by decide +kernel
theorem dX10_hall_59 : decode cX10_hall 59 = .ok (.getfield 32, 3) := by decide +kernel
theorem dX10_hall_62 : decode cX10_hall 62 = .ok (.iload_n 1, 1) := by decide +kernel
theorem dX10_hall_63 : decode cX10_hall 63 = .ok (.aaload, 1) := by decide +kernel
theorem dX10_hall_64 : decode cX10_hall 64 = .ok (.iconst 0, 1) := by decide +kernel
theorem dX10_hall_65 : decode cX10_hall 65 = .ok (.putfield 94, 3) := by decide +kernel
theorem dX10_hall_68 : decode cX10_hall 68 = .ok (.iinc 1 1, 3) := by decide +kernel
theorem dX10_hall_71 : decode cX10_hall 71 = .ok (.goto (-18), 3) := by decide +kernel
theorem dX10_hall_74 : decode cX10_hall 74 = .ok (.aload_n 0, 1) := by decide +kernel
theorem dX10_hall_75 : decode cX10_hall 75 = .ok (.getfield 10, 3) := by decide +kernel
theorem dX10_hall_78 : decode cX10_hall 78 = .ok (.iconst 0, 1) := by decide +kernel
theorem dX10_hall_79 : decode cX10_hall 79 = .ok (.putfield 67, 3) := by decide +kernel
theorem dX10_hall_82 : decode cX10_hall 82 = .ok (.aload_n 0, 1) := by decide +kernel
theorem dX10_hall_83 : decode cX10_hall 83 = .ok (.getfield 19, 3) := by decide +kernel
theorem dX10_hall_86 : decode cX10_hall 86 = .ok (.getfield 98, 3) := by decide +kernel
theorem dX10_hall_89 : decode cX10_hall 89 = .ok (.getfield 101, 3) := by decide +kernel
theorem dX10_hall_92 : decode cX10_hall 92 = .ok (.aload_n 0, 1) := by decide +kernel
theorem dX10_hall_93 : decode cX10_hall 93 = .ok (.getfield 19, 3) := by decide +kernel
theorem dX10_hall_96 : decode cX10_hall 96 = .ok (.getfield 98, 3) := by decide +kernel
theorem dX10_hall_99 : decode cX10_hall 99 = .ok (.getfield 106, 3) := by decide +kernel
theorem dX10_hall_102 : decode cX10_hall 102 = .ok (.iadd, 1) := by decide +kernel
theorem dX10_hall_103 : decode cX10_hall 103 = .ok (.ireturn, 1) := by decide +kernel
theorem dX10_has_0 : decode cX10_has 0 = .ok (.iload_n 0, 1) := by decide +kernel
theorem dX10_has_1 : decode cX10_has 1 = .ok (.iload_n 1, 1) := by decide +kernel
theorem dX10_has_2 : decode cX10_has 2 = .ok (.ishr, 1) := by decide +kernel
theorem dX10_has_3 : decode cX10_has 3 = .ok (.iconst 1, 1) := by decide +kernel
theorem dX10_has_4 : decode cX10_has 4 = .ok (.iand, 1) := by decide +kernel
theorem dX10_has_5 : decode cX10_has 5 = .ok (.iconst 1, 1) := by decide +kernel
theorem dX10_has_6 : decode cX10_has 6 = .ok (.if_icmp .ne 7, 3) := by decide +kernel
theorem dX10_has_9 : decode cX10_has 9 = .ok (.iconst 1, 1) := by decide +kernel
theorem dX10_has_10 : decode cX10_has 10 = .ok (.goto 4, 3) := by decide +kernel
theorem dX10_has_13 : decode cX10_has 13 = .ok (.iconst 0, 1) := by decide +kernel
theorem dX10_has_14 : decode cX10_has 14 = .ok (.ireturn, 1) := by decide +kernel
theorem dX10_hears_0 : decode cX10_hears 0 = .ok (.aload_n 0, 1) := by decide +kernel
theorem dX10_hears_1 : decode cX10_hears 1 = .ok (.getfield 19, 3) := by decide +kernel
theorem dX10_hears_4 : decode cX10_hears 4 = .ok (.iload_n 1, 1) := by decide +kernel
theorem dX10_hears_5 : decode cX10_hears 5 = .ok (.invokevirtual 109, 3) := by decide +kernel
theorem dX10_hears_8 : decode cX10_hears 8 = .ok (.ifCond .eq 12, 3) := by decide +kernel
theorem dX10_hears_11 : decode cX10_hears 11 = .ok (.iload_n 2, 1) := by decide +kernel
theorem dX10_hears_12 : decode cX10_hears 12 = .ok (.ifCond .lt 8, 3) := by decide +kernel
theorem dX10_hears_15 : decode cX10_hears 15 = .ok (.iload_n 2, 1) := by decide +kernel
theorem dX10_hears_16 : decode cX10_hears 16 = .ok (.iconst 1, 1) := by decide +kernel
theorem dX10_hears_17 : decode cX10_hears 17 = .ok (.if_icmp .le 5, 3) := by decide +kernel
theorem dX10_hears_20 : decode cX10_hears 20 = .ok (.iconst (-1), 1) := by decide +kernel
theorem dX10_hears_21 : decode cX10_hears 21 = .ok (.ireturn, 1) := by decide +kernel
theorem dX10_hears_22 : decode cX10_hears 22 = .ok (.aload_n 0, 1) := by decide +kernel
theorem dX10_hears_23 : decode cX10_hears 23 = .ok (.getfield 56, 3) := by decide +kernel
theorem dX10_hears_26 : decode cX10_hears 26 = .ok (.getfield 93, 3) := by decide +kernel
theorem dX10_hears_29 : decode cX10_hears 29 = .ok (.bipush 6, 2) := by decide +kernel
theorem dX10_hears_31 : decode cX10_hears 31 = .ok (.if_icmp .lt 6, 3) := by decide +kernel
theorem dX10_hears_34 : decode cX10_hears 34 = .ok (.bipush (-3), 2) := by decide +kernel
theorem dX10_hears_36 : decode cX10_hears 36 = .ok (.ireturn, 1) := by decide +kernel
theorem dX10_hears_37 : decode cX10_hears 37 = .ok (.aload_n 0, 1) := by decide +kernel
theorem dX10_hears_38 : decode cX10_hears 38 = .ok (.getfield 56, 3) := by decide +kernel
theorem dX10_hears_41 : decode cX10_hears 41 = .ok (.iload_n 1, 1) := by decide +kernel
theorem dX10_hears_42 : decode cX10_hears 42 = .ok (.iload_n 2, 1) := by decide +kernel
theorem dX10_hears_43 : decode cX10_hears 43 = .ok (.invokevirtual 255, 3) := by decide +kernel
theorem dX10_hears_46 : decode cX10_hears 46 = .ok (.aload_n 0, 1) := by decide +kernel
theorem dX10_hears_47 : decode cX10_hears 47 = .ok (.getfield 56, 3) := by decide +kernel
theorem dX10_hears_50 : decode cX10_hears 50 = .ok (.getfield 93, 3) := by decide +kernel
theorem dX10_hears_53 : decode cX10_hears 53 = .ok (.ireturn, 1) := by decide +kernel
theorem dX10_init_0 : decode cX10_init 0 = .ok (.aload_n 0, 1) := by decide +kernel
theorem dX10_init_1 : decode cX10_init 1 = .ok (.invokespecial 1, 3) := by decide +kernel
theorem dX10_init_4 : decode cX10_init 4 = .ok (.aload_n 0, 1) := by decide +kernel
theorem dX10_init_5 : decode cX10_init 5 = .ok (.new 7, 3) := by decide +kernel
theorem dX10_init_8 : decode cX10_init 8 = .ok (.dup, 1) := by decide +kernel
theorem dX10_init_9 : decode cX10_init 9 = .ok (.invokespecial 9, 3) := by decide +kernel
theorem dX10_init_12 : decode cX10_init 12 = .ok (.putfield 10, 3) := by decide +kernel
theorem dX10_init_15 : decode cX10_init 15 = .ok (.aload_n 0, 1) := by decide +kernel
theorem dX10_init_16 : decode cX10_init 16 = .ok (.new 16, 3) := by decide +kernel
theorem dX10_init_19 : decode cX10_init 19 = .ok (.dup, 1) := by decide +kernel
theorem dX10_init_20 : decode cX10_init 20 = .ok (.invokespecial 18, 3) := by decide +kernel
theorem dX10_init_23 : decode cX10_init 23 = .ok (.putfield 19, 3) := by decide +kernel
theorem dX10_init_26 : decode cX10_init 26 = .ok (.aload_n 0, 1) := by decide +kernel
theorem dX10_init_27 : decode cX10_init 27 = .ok (.new 23, 3) := by decide +kernel
theorem dX10_init_30 : decode cX10_init 30 = .ok (.dup, 1) := by decide +kernel
theorem dX10_init_31 : decode cX10_init 31 = .ok (.invokespecial 25, 3) := by decide +kernel
theorem dX10_init_34 : decode cX10_init 34 = .ok (.putfield 26, 3) := by decide +kernel
theorem dX10_init_37 : decode cX10_init 37 = .ok (.aload_n 0, 1) := by decide +kernel
theorem dX10_init_38 : decode cX10_init 38 = .ok (.iconst 2, 1) := by decide +kernel
theorem dX10_init_39 : decode cX10_init 39 = .ok (.anewarray 30, 3) := by decide +kernel
theorem dX10_init_42 : decode cX10_init 42 = .ok (.putfield 32, 3) := by decide +kernel
theorem dX10_init_45 : decode cX10_init 45 = .ok (.iconst 0, 1) := by decide +kernel
theorem dX10_init_46 : decode cX10_init 46 = .ok (.istore_n 1, 1) := by decide +kernel
theorem dX10_init_47 : decode cX10_init 47 = .ok (.iload_n 1, 1) := by decide +kernel
theorem dX10_init_48 : decode cX10_init 48 = .ok (.iconst 2, 1) := by decide +kernel
theorem dX10_init_49 : decode cX10_init 49 = .ok (.if_icmp .ge 22, 3) := by decide +kernel
theorem dX10_init_52 : decode cX10_init 52 = .ok (.aload_n 0, 1) := by decide +kernel
theorem dX10_init_53 : decode cX10_init 53 = .ok (.getfield 32, 3) := by decide +kernel
theorem dX10_init_56 : decode cX10_init 56 = .ok (.iload_n 1, 1) := by decide +kernel
theorem dX10_init_57 : decode cX10_init 57 = .ok (.new 30, 3) := by decide +kernel
theorem dX10_init_60 : decode cX10_init 60 = .ok (.dup, 1) := by decide +kernel
theorem dX10_init_61 : decode cX10_init 61 = .ok (.invokespecial 36, 3) := by decide +kernel
theorem dX10_init_64 : decode cX10_init 64 = .ok (.aastore, 1) := by decide +kernel
theorem dX10_init_65 : decode cX10_init 65 = .ok (.iinc 1 1, 3) := by decide +kernel
theorem dX10_init_68 : decode cX10_init 68 = .ok (.goto (-21), 3) := by decide +kernel
theorem dX10_init_71 : decode cX10_init 71 = .ok (.aload_n 0, 1) := by decide +kernel
theorem dX10_init_72 : decode cX10_init 72 = .ok (.new 37, 3) := by decide +kernel
theorem dX10_init_75 : decode cX10_init 75 = .ok (.dup, 1) := by decide +kernel
theorem dX10_init_76 : decode cX10_init 76 = .ok (.aload_n 0, 1) := by decide +kernel
theorem dX10_init_77 : decode cX10_init 77 = .ok (.getfield 19, 3) := by decide +kernel
theorem dX10_init_80 : decode cX10_init 80 = .ok (.invokespecial 39, 3) := by decide +kernel
theorem dX10_init_83 : decode cX10_init 83 = .ok (.putfield 42, 3) := by decide +kernel
theorem dX10_init_86 : decode cX10_init 86 = .ok (.aload_n 0, 1) := by decide +kernel
theorem dX10_init_87 : decode cX10_init 87 = .ok (.new 46, 3) := by decide +kernel
theorem dX10_init_90 : decode cX10_init 90 = .ok (.dup, 1) := by decide +kernel
theorem dX10_init_91 : decode cX10_init 91 = .ok (.aload_n 0, 1) := by decide +kernel
theorem dX10_init_92 : decode cX10_init 92 = .ok (.getfield 19, 3) := by decide +kernel
theorem dX10_init_95 : decode cX10_init 95 = .ok (.invokespecial 48, 3) := by decide +kernel
theorem dX10_init_98 : decode cX10_init 98 = .ok (.putfield 49, 3) := by decide +kernel
theorem dX10_init_101 : decode cX10_init 101 = .ok (.aload_n 0, 1) := by decide +kernel
theorem dX10_init_102 : decode cX10_init 102 = .ok (.new 53, 3) := by decide +kernel
theorem dX10_init_105 : decode cX10_init 105 = .ok (.dup, 1) := by decide +kernel
theorem dX10_init_106 : decode cX10_init 106 = .ok (.aload_n 0, 1) := by decide +kernel
theorem dX10_init_107 : decode cX10_init 107 = .ok (.getfield 19, 3) := by decide +kernel
theorem dX10_init_110 : decode cX10_init 110 = .ok (.invokespecial 55, 3) := by decide +kernel
theorem dX10_init_113 : decode cX10_init 113 = .ok (.putfield 56, 3) := by decide +kernel
theorem dX10_init_116 : decode cX10_init 116 = .ok (.aload_n 0, 1) := by decide +kernel
theorem dX10_init_117 : decode cX10_init 117 = .ok (.new 60, 3) := by decide +kernel
theorem dX10_init_120 : decode cX10_init 120 = .ok (.dup, 1) := by decide +kernel
theorem dX10_init_121 : decode cX10_init 121 = .ok (.aload_n 0, 1) := by decide +kernel
theorem dX10_init_122 : decode cX10_init 122 = .ok (.getfield 19, 3) := by decide +kernel
theorem dX10_init_125 : decode cX10_init 125 = .ok (.invokespecial 62, 3) := by decide +kernel
theorem dX10_init_128 : decode cX10_init 128 = .ok (.putfield 63, 3) := by decide +kernel
theorem dX10_init_131 : decode cX10_init 131 = .ok (.return_, 1) := by decide +kernel
theorem dX10_joins_0 : decode cX10_joins 0 = .ok (.aload_n 0, 1) := by decide +kernel
theorem dX10_joins_1 : decode cX10_joins 1 = .ok (.getfield 19, 3) := by decide +kernel
theorem dX10_joins_4 : decode cX10_joins 4 = .ok (.iload_n 1, 1) := by decide +kernel
theorem dX10_joins_5 : decode cX10_joins 5 = .ok (.invokevirtual 129, 3) := by decide +kernel
theorem dX10_joins_8 : decode cX10_joins 8 = .ok (.ifCond .eq 29, 3) := by decide +kernel
theorem dX10_joins_11 : decode cX10_joins 11 = .ok (.aload_n 0, 1) := by decide +kernel
theorem dX10_joins_12 : decode cX10_joins 12 = .ok (.getfield 19, 3) := by decide +kernel
theorem dX10_joins_15 : decode cX10_joins 15 = .ok (.iload_n 2, 1) := by decide +kernel
theorem dX10_joins_16 : decode cX10_joins 16 = .ok (.invokevirtual 129, 3) := by decide +kernel
theorem dX10_joins_19 : decode cX10_joins 19 = .ok (.ifCond .eq 18, 3) := by decide +kernel
theorem dX10_joins_22 : decode cX10_joins 22 = .ok (.iload_n 1, 1) := by decide +kernel
theorem dX10_joins_23 : decode cX10_joins 23 = .ok (.iload_n 2, 1) := by decide +kernel
theorem dX10_joins_24 : decode cX10_joins 24 = .ok (.if_icmp .eq 13, 3) := by decide +kernel
theorem dX10_joins_27 : decode cX10_joins 27 = .ok (.iload_n 3, 1) := by decide +kernel
theorem dX10_joins_28 : decode cX10_joins 28 = .ok (.ifCond .lt 9, 3) := by decide +kernel
theorem dX10_joins_31 : decode cX10_joins 31 = .ok (.iload_n 3, 1) := by decide +kernel
theorem dX10_joins_32 : decode cX10_joins 32 = .ok (.bipush 6, 2) := by decide +kernel
theorem dX10_joins_34 : decode cX10_joins 34 = .ok (.if_icmp .lt 5, 3) := by decide +kernel
theorem dX10_joins_37 : decode cX10_joins 37 = .ok (.iconst (-1), 1) := by decide +kernel
theorem dX10_joins_38 : decode cX10_joins 38 = .ok (.ireturn, 1) := by decide +kernel
theorem dX10_joins_39 : decode cX10_joins 39 = .ok (.aload_n 0, 1) := by decide +kernel
theorem dX10_joins_40 : decode cX10_joins 40 = .ok (.getfield 19, 3) := by decide +kernel
theorem dX10_joins_43 : decode cX10_joins 43 = .ok (.getfield 138, 3) := by decide +kernel
theorem dX10_joins_46 : decode cX10_joins 46 = .ok (.getfield 142, 3) := by decide +kernel
theorem dX10_joins_49 : decode cX10_joins 49 = .ok (.iload_n 1, 1) := by decide +kernel
theorem dX10_joins_50 : decode cX10_joins 50 = .ok (.iaload, 1) := by decide +kernel
theorem dX10_joins_51 : decode cX10_joins 51 = .ok (.iload_n 3, 1) := by decide +kernel
theorem dX10_joins_52 : decode cX10_joins 52 = .ok (.invokestatic 190, 3) := by decide +kernel
theorem dX10_joins_55 : decode cX10_joins 55 = .ok (.ifCond .ne 22, 3) := by decide +kernel
theorem dX10_joins_58 : decode cX10_joins 58 = .ok (.aload_n 0, 1) := by decide +kernel
theorem dX10_joins_59 : decode cX10_joins 59 = .ok (.getfield 19, 3) := by decide +kernel
theorem dX10_joins_62 : decode cX10_joins 62 = .ok (.getfield 138, 3) := by decide +kernel
theorem dX10_joins_65 : decode cX10_joins 65 = .ok (.getfield 142, 3) := by decide +kernel
theorem dX10_joins_68 : decode cX10_joins 68 = .ok (.iload_n 2, 1) := by decide +kernel
theorem dX10_joins_69 : decode cX10_joins 69 = .ok (.iaload, 1) := by decide +kernel
theorem dX10_joins_70 : decode cX10_joins 70 = .ok (.iload_n 3, 1) := by decide +kernel
theorem dX10_joins_71 : decode cX10_joins 71 = .ok (.invokestatic 190, 3) := by decide +kernel
theorem dX10_joins_74 : decode cX10_joins 74 = .ok (.ifCond .ne 6, 3) := by decide +kernel
theorem dX10_joins_77 : decode cX10_joins 77 = .ok (.bipush (-2), 2) := by decide +kernel
theorem dX10_joins_79 : decode cX10_joins 79 = .ok (.ireturn, 1) := by decide +kernel
theorem dX10_joins_80 : decode cX10_joins 80 = .ok (.aload_n 0, 1) := by decide +kernel
theorem dX10_joins_81 : decode cX10_joins 81 = .ok (.getfield 26, 3) := by decide +kernel
theorem dX10_joins_84 : decode cX10_joins 84 = .ok (.aload_n 0, 1) := by decide +kernel
theorem dX10_joins_85 : decode cX10_joins 85 = .ok (.getfield 19, 3) := by decide +kernel
theorem dX10_joins_88 : decode cX10_joins 88 = .ok (.getfield 138, 3) := by decide +kernel
theorem dX10_joins_91 : decode cX10_joins 91 = .ok (.invokevirtual 172, 3) := by decide +kernel
theorem dX10_joins_94 : decode cX10_joins 94 = .ok (.aload_n 0, 1) := by decide +kernel
theorem dX10_joins_95 : decode cX10_joins 95 = .ok (.getfield 19, 3) := by decide +kernel
theorem dX10_joins_98 : decode cX10_joins 98 = .ok (.iload_n 1, 1) := by decide +kernel
theorem dX10_joins_99 : decode cX10_joins 99 = .ok (.iload_n 2, 1) := by decide +kernel
theorem dX10_joins_100 : decode cX10_joins 100 = .ok (.iload_n 3, 1) := by decide +kernel
theorem dX10_joins_101 : decode cX10_joins 101 = .ok (.invokevirtual 193, 3) := by decide +kernel
theorem dX10_joins_104 : decode cX10_joins 104 = .ok (.aload_n 0, 1) := by decide +kernel
theorem dX10_joins_105 : decode cX10_joins 105 = .ok (.getfield 19, 3) := by decide +kernel
theorem dX10_joins_108 : decode cX10_joins 108 = .ok (.getfield 138, 3) := by decide +kernel
theorem dX10_joins_111 : decode cX10_joins 111 = .ok (.getfield 142, 3) := by decide +kernel
theorem dX10_joins_114 : decode cX10_joins 114 = .ok (.iload_n 2, 1) := by decide +kernel
theorem dX10_joins_115 : decode cX10_joins 115 = .ok (.iaload, 1) := by decide +kernel
theorem dX10_joins_116 : decode cX10_joins 116 = .ok (.ireturn, 1) := by decide +kernel
end
section
theorem dX10_keep_0 : decode cX10_keep 0 = .ok (.iload_n 1, 1) := by decide +kernel
theorem dX10_keep_1 : decode cX10_keep 1 = .ok (.ifCond .lt 8, 3) := by decide +kernel
theorem dX10_keep_4 : decode cX10_keep 4 = .ok (.iload_n 1, 1) := by decide +kernel
theorem dX10_keep_5 : decode cX10_keep 5 = .ok (.iconst 2, 1) := by decide +kernel
theorem dX10_keep_6 : decode cX10_keep 6 = .ok (.if_icmp .lt 5, 3) := by decide +kernel
theorem dX10_keep_9 : decode cX10_keep 9 = .ok (.iconst (-1), 1) := by decide +kernel
theorem dX10_keep_10 : decode cX10_keep 10 = .ok (.ireturn, 1) := by decide +kernel
theorem dX10_keep_11 : decode cX10_keep 11 = .ok (.aload_n 0, 1) := by decide +kernel
theorem dX10_keep_12 : decode cX10_keep 12 = .ok (.getfield 32, 3) := by decide +kernel
theorem dX10_keep_15 : decode cX10_keep 15 = .ok (.iload_n 1, 1) := by decide +kernel
theorem dX10_keep_16 : decode cX10_keep 16 = .ok (.aaload, 1) := by decide +kernel
theorem dX10_keep_17 : decode cX10_keep 17 = .ok (.aload_n 0, 1) := by decide +kernel
theorem dX10_keep_18 : decode cX10_keep 18 = .ok (.getfield 19, 3) := by decide +kernel
theorem dX10_keep_21 : decode cX10_keep 21 = .ok (.getfield 138, 3) := by decide +kernel
theorem dX10_keep_24 : decode cX10_keep 24 = .ok (.aload_n 0, 1) := by decide +kernel
theorem dX10_keep_25 : decode cX10_keep 25 = .ok (.getfield 26, 3) := by decide +kernel
theorem dX10_keep_28 : decode cX10_keep 28 = .ok (.invokevirtual 269, 3) := by decide +kernel
theorem dX10_keep_31 : decode cX10_keep 31 = .ok (.aload_n 0, 1) := by decide +kernel
theorem dX10_keep_32 : decode cX10_keep 32 = .ok (.getfield 19, 3) := by decide +kernel
theorem dX10_keep_35 : decode cX10_keep 35 = .ok (.getfield 138, 3) := by decide +kernel
theorem dX10_keep_38 : decode cX10_keep 38 = .ok (.getfield 176, 3) := by decide +kernel
theorem dX10_keep_41 : decode cX10_keep 41 = .ok (.ireturn, 1) := by decide +kernel
theorem dX10_mark_0 : decode cX10_mark 0 = .ok (.iload_n 1, 1) := by decide +kernel
theorem dX10_mark_1 : decode cX10_mark 1 = .ok (.ifCond .lt 20, 3) := by decide +kernel
theorem dX10_mark_4 : decode cX10_mark 4 = .ok (.iload_n 1, 1) := by decide +kernel
theorem dX10_mark_5 : decode cX10_mark 5 = .ok (.bipush 6, 2) := by decide +kernel
theorem dX10_mark_7 : decode cX10_mark 7 = .ok (.if_icmp .ge 14, 3) := by decide +kernel
theorem dX10_mark_10 : decode cX10_mark 10 = .ok (.aload_n 0, 1) := by decide +kernel
theorem dX10_mark_11 : decode cX10_mark 11 = .ok (.getfield 19, 3) := by decide +kernel
theorem dX10_mark_14 : decode cX10_mark 14 = .ok (.iload_n 2, 1) := by decide +kernel
theorem dX10_mark_15 : decode cX10_mark 15 = .ok (.invokevirtual 129, 3) := by decide +kernel
theorem dX10_mark_18 : decode cX10_mark 18 = .ok (.ifCond .ne 7, 3) := by decide +kernel
theorem dX10_mark_21 : decode cX10_mark 21 = .ok (.ldc_w 265, 3) := by decide +kernel
theorem dX10_mark_24 : decode cX10_mark 24 = .ok (.ireturn, 1) := by decide +kernel
theorem dX10_mark_25 : decode cX10_mark 25 = .ok (.aload_n 0, 1) := by decide +kernel
theorem dX10_mark_26 : decode cX10_mark 26 = .ok (.getfield 63, 3) := by decide +kernel
theorem dX10_mark_29 : decode cX10_mark 29 = .ok (.iload_n 1, 1) := by decide +kernel
theorem dX10_mark_30 : decode cX10_mark 30 = .ok (.iload_n 2, 1) := by decide +kernel
theorem dX10_mark_31 : decode cX10_mark 31 = .ok (.invokevirtual 266, 3) := by decide +kernel
theorem dX10_mark_34 : decode cX10_mark 34 = .ok (.ireturn, 1) := by decide +kernel
theorem dX10_mends_0 : decode cX10_mends 0 = .ok (.aload_n 0, 1) := by decide +kernel
theorem dX10_mends_1 : decode cX10_mends 1 = .ok (.getfield 19, 3) := by decide +kernel
theorem dX10_mends_4 : decode cX10_mends 4 = .ok (.iload_n 1, 1) := by decide +kernel
theorem dX10_mends_5 : decode cX10_mends 5 = .ok (.invokevirtual 129, 3) := by decide +kernel
theorem dX10_mends_8 : decode cX10_mends 8 = .ok (.ifCond .ne 5, 3) := by decide +kernel
theorem dX10_mends_11 : decode cX10_mends 11 = .ok (.iconst (-1), 1) := by decide +kernel
theorem dX10_mends_12 : decode cX10_mends 12 = .ok (.ireturn, 1) := by decide +kernel
theorem dX10_mends_13 : decode cX10_mends 13 = .ok (.aload_n 0, 1) := by decide +kernel
theorem dX10_mends_14 : decode cX10_mends 14 = .ok (.getfield 19, 3) := by decide +kernel
theorem dX10_mends_17 : decode cX10_mends 17 = .ok (.getfield 138, 3) := by decide +kernel
theorem dX10_mends_20 : decode cX10_mends 20 = .ok (.getfield 147, 3) := by decide +kernel
theorem dX10_mends_23 : decode cX10_mends 23 = .ok (.iload_n 1, 1) := by decide +kernel
theorem dX10_mends_24 : decode cX10_mends 24 = .ok (.iaload, 1) := by decide +kernel
theorem dX10_mends_25 : decode cX10_mends 25 = .ok (.istore_n 2, 1) := by decide +kernel
theorem dX10_mends_26 : decode cX10_mends 26 = .ok (.iload_n 2, 1) := by decide +kernel
theorem dX10_mends_27 : decode cX10_mends 27 = .ok (.ifCond .ne 6, 3) := by decide +kernel
theorem dX10_mends_30 : decode cX10_mends 30 = .ok (.bipush (-2), 2) := by decide +kernel
theorem dX10_mends_32 : decode cX10_mends 32 = .ok (.ireturn, 1) := by decide +kernel
theorem dX10_mends_33 : decode cX10_mends 33 = .ok (.aload_n 0, 1) := by decide +kernel
theorem dX10_mends_34 : decode cX10_mends 34 = .ok (.getfield 26, 3) := by decide +kernel
theorem dX10_mends_37 : decode cX10_mends 37 = .ok (.aload_n 0, 1) := by decide +kernel
theorem dX10_mends_38 : decode cX10_mends 38 = .ok (.getfield 19, 3) := by decide +kernel
theorem dX10_mends_41 : decode cX10_mends 41 = .ok (.getfield 138, 3) := by decide +kernel
theorem dX10_mends_44 : decode cX10_mends 44 = .ok (.invokevirtual 172, 3) := by decide +kernel
theorem dX10_mends_47 : decode cX10_mends 47 = .ok (.aload_n 0, 1) := by decide +kernel
theorem dX10_mends_48 : decode cX10_mends 48 = .ok (.getfield 19, 3) := by decide +kernel
theorem dX10_mends_51 : decode cX10_mends 51 = .ok (.getfield 138, 3) := by decide +kernel
theorem dX10_mends_54 : decode cX10_mends 54 = .ok (.getfield 147, 3) := by decide +kernel
theorem dX10_mends_57 : decode cX10_mends 57 = .ok (.iload_n 1, 1) := by decide +kernel
theorem dX10_mends_58 : decode cX10_mends 58 = .ok (.iconst 0, 1) := by decide +kernel
theorem dX10_mends_59 : decode cX10_mends 59 = .ok (.iastore, 1) := by decide +kernel
theorem dX10_mends_60 : decode cX10_mends 60 = .ok (.aload_n 0, 1) := by decide +kernel
theorem dX10_mends_61 : decode cX10_mends 61 = .ok (.getfield 19, 3) := by decide +kernel
theorem dX10_mends_64 : decode cX10_mends 64 = .ok (.getfield 138, 3) := by decide +kernel
theorem dX10_mends_67 : decode cX10_mends 67 = .ok (.dup, 1) := by decide +kernel
theorem dX10_mends_68 : decode cX10_mends 68 = .ok (.getfield 182, 3) := by decide +kernel
theorem dX10_mends_71 : decode cX10_mends 71 = .ok (.iconst 1, 1) := by decide +kernel
theorem dX10_mends_72 : decode cX10_mends 72 = .ok (.iload_n 1, 1) := by decide +kernel
theorem dX10_mends_73 : decode cX10_mends 73 = .ok (.ishl, 1) := by decide +kernel
theorem dX10_mends_74 : decode cX10_mends 74 = .ok (.iconst (-1), 1) := by decide +kernel
theorem dX10_mends_75 : decode cX10_mends 75 = .ok (.ixor, 1) := by decide +kernel
theorem dX10_mends_76 : decode cX10_mends 76 = .ok (.iand, 1) := by decide +kernel
theorem dX10_mends_77 : decode cX10_mends 77 = .ok (.putfield 182, 3) := by decide +kernel
theorem dX10_mends_80 : decode cX10_mends 80 = .ok (.iload_n 2, 1) := by decide +kernel
theorem dX10_mends_81 : decode cX10_mends 81 = .ok (.ireturn, 1) := by decide +kernel
theorem dX10_near_0 : decode cX10_near 0 = .ok (.aload_n 0, 1) := by decide +kernel
theorem dX10_near_1 : decode cX10_near 1 = .ok (.getfield 19, 3) := by decide +kernel
theorem dX10_near_4 : decode cX10_near 4 = .ok (.iload_n 1, 1) := by decide +kernel
theorem dX10_near_5 : decode cX10_near 5 = .ok (.invokevirtual 129, 3) := by decide +kernel
theorem dX10_near_8 : decode cX10_near 8 = .ok (.ifCond .eq 19, 3) := by decide +kernel
theorem dX10_near_11 : decode cX10_near 11 = .ok (.aload_n 0, 1) := by decide +kernel
theorem dX10_near_12 : decode cX10_near 12 = .ok (.getfield 19, 3) := by decide +kernel
theorem dX10_near_15 : decode cX10_near 15 = .ok (.iload_n 2, 1) := by decide +kernel
theorem dX10_near_16 : decode cX10_near 16 = .ok (.invokevirtual 129, 3) := by decide +kernel
theorem dX10_near_19 : decode cX10_near 19 = .ok (.ifCond .eq 8, 3) := by decide +kernel
theorem dX10_near_22 : decode cX10_near 22 = .ok (.iload_n 1, 1) := by decide +kernel
theorem dX10_near_23 : decode cX10_near 23 = .ok (.iload_n 2, 1) := by decide +kernel
theorem dX10_near_24 : decode cX10_near 24 = .ok (.if_icmp .ne 5, 3) := by decide +kernel
theorem dX10_near_27 : decode cX10_near 27 = .ok (.iconst (-1), 1) := by decide +kernel
theorem dX10_near_28 : decode cX10_near 28 = .ok (.ireturn, 1) := by decide +kernel
theorem dX10_near_29 : decode cX10_near 29 = .ok (.aload_n 0, 1) := by decide +kernel
theorem dX10_near_30 : decode cX10_near 30 = .ok (.getfield 19, 3) := by decide +kernel
theorem dX10_near_33 : decode cX10_near 33 = .ok (.iload_n 1, 1) := by decide +kernel
theorem dX10_near_34 : decode cX10_near 34 = .ok (.iload_n 2, 1) := by decide +kernel
theorem dX10_near_35 : decode cX10_near 35 = .ok (.invokevirtual 242, 3) := by decide +kernel
theorem dX10_near_38 : decode cX10_near 38 = .ok (.ireturn, 1) := by decide +kernel
theorem dX10_nights_0 : decode cX10_nights 0 = .ok (.iload_n 1, 1) := by decide +kernel
theorem dX10_nights_1 : decode cX10_nights 1 = .ok (.iconst 1, 1) := by decide +kernel
theorem dX10_nights_2 : decode cX10_nights 2 = .ok (.if_icmp .lt 9, 3) := by decide +kernel
theorem dX10_nights_5 : decode cX10_nights 5 = .ok (.iload_n 1, 1) := by decide +kernel
theorem dX10_nights_6 : decode cX10_nights 6 = .ok (.bipush 9, 2) := by decide +kernel
theorem dX10_nights_8 : decode cX10_nights 8 = .ok (.if_icmp .le 5, 3) := by decide +kernel
theorem dX10_nights_11 : decode cX10_nights 11 = .ok (.iconst (-1), 1) := by decide +kernel
theorem dX10_nights_12 : decode cX10_nights 12 = .ok (.ireturn, 1) := by decide +kernel
theorem dX10_nights_13 : decode cX10_nights 13 = .ok (.aload_n 0, 1) := by decide +kernel
theorem dX10_nights_14 : decode cX10_nights 14 = .ok (.getfield 19, 3) := by decide +kernel
theorem dX10_nights_17 : decode cX10_nights 17 = .ok (.getfield 138, 3) := by decide +kernel
theorem dX10_nights_20 : decode cX10_nights 20 = .ok (.getfield 176, 3) := by decide +kernel
theorem dX10_nights_23 : decode cX10_nights 23 = .ok (.iload_n 1, 1) := by decide +kernel
theorem dX10_nights_24 : decode cX10_nights 24 = .ok (.iadd, 1) := by decide +kernel
theorem dX10_nights_25 : decode cX10_nights 25 = .ok (.sipush 999, 3) := by decide +kernel
theorem dX10_nights_28 : decode cX10_nights 28 = .ok (.if_icmp .le 6, 3) := by decide +kernel
theorem dX10_nights_31 : decode cX10_nights 31 = .ok (.bipush (-2), 2) := by decide +kernel
theorem dX10_nights_33 : decode cX10_nights 33 = .ok (.ireturn, 1) := by decide +kernel
theorem dX10_nights_34 : decode cX10_nights 34 = .ok (.aload_n 0, 1) := by decide +kernel
theorem dX10_nights_35 : decode cX10_nights 35 = .ok (.getfield 26, 3) := by decide +kernel
theorem dX10_nights_38 : decode cX10_nights 38 = .ok (.aload_n 0, 1) := by decide +kernel
theorem dX10_nights_39 : decode cX10_nights 39 = .ok (.getfield 19, 3) := by decide +kernel
theorem dX10_nights_42 : decode cX10_nights 42 = .ok (.getfield 138, 3) := by decide +kernel
theorem dX10_nights_45 : decode cX10_nights 45 = .ok (.invokevirtual 172, 3) := by decide +kernel
theorem dX10_nights_48 : decode cX10_nights 48 = .ok (.iconst 0, 1) := by decide +kernel
theorem dX10_nights_49 : decode cX10_nights 49 = .ok (.istore_n 2, 1) := by decide +kernel
theorem dX10_nights_50 : decode cX10_nights 50 = .ok (.iload_n 2, 1) := by decide +kernel
theorem dX10_nights_51 : decode cX10_nights 51 = .ok (.iload_n 1, 1) := by decide +kernel
theorem dX10_nights_52 : decode cX10_nights 52 = .ok (.if_icmp .ge 16, 3) := by decide +kernel
theorem dX10_nights_55 : decode cX10_nights 55 = .ok (.aload_n 0, 1) := by decide +kernel
theorem dX10_nights_56 : decode cX10_nights 56 = .ok (.getfield 19, 3) := by decide +kernel
theorem dX10_nights_59 : decode cX10_nights 59 = .ok (.invokevirtual 179, 3) := by decide +kernel
theorem dX10_nights_62 : decode cX10_nights 62 = .ok (.iinc 2 1, 3) := by decide +kernel
theorem dX10_nights_65 : decode cX10_nights 65 = .ok (.goto (-15), 3) := by decide +kernel
theorem dX10_nights_68 : decode cX10_nights 68 = .ok (.aload_n 0, 1) := by decide +kernel
theorem dX10_nights_69 : decode cX10_nights 69 = .ok (.getfield 19, 3) := by decide +kernel
theorem dX10_nights_72 : decode cX10_nights 72 = .ok (.getfield 138, 3) := by decide +kernel
theorem dX10_nights_75 : decode cX10_nights 75 = .ok (.getfield 182, 3) := by decide +kernel
theorem dX10_nights_78 : decode cX10_nights 78 = .ok (.invokestatic 185, 3) := by decide +kernel
theorem dX10_nights_81 : decode cX10_nights 81 = .ok (.ireturn, 1) := by decide +kernel
theorem dX10_now_0 : decode cX10_now 0 = .ok (.iload_n 1, 1) := by decide +kernel
theorem dX10_now_1 : decode cX10_now 1 = .ok (.tableswitch 81 0 4 #[35, 46, 57, 65, 73], 35) := by decide +kernel
theorem dX10_now_36 : decode cX10_now 36 = .ok (.aload_n 0, 1) := by decide +kernel
theorem dX10_now_37 : decode cX10_now 37 = .ok (.getfield 19, 3) := by decide +kernel
theorem dX10_now_40 : decode cX10_now 40 = .ok (.getfield 138, 3) := by decide +kernel
theorem dX10_now_43 : decode cX10_now 43 = .ok (.getfield 176, 3) := by decide +kernel
theorem dX10_now_46 : decode cX10_now 46 = .ok (.ireturn, 1) := by decide +kernel
theorem dX10_now_47 : decode cX10_now 47 = .ok (.aload_n 0, 1) := by decide +kernel
theorem dX10_now_48 : decode cX10_now 48 = .ok (.getfield 19, 3) := by decide +kernel
theorem dX10_now_51 : decode cX10_now 51 = .ok (.getfield 138, 3) := by decide +kernel
theorem dX10_now_54 : decode cX10_now 54 = .ok (.getfield 182, 3) := by decide +kernel
theorem dX10_now_57 : decode cX10_now 57 = .ok (.ireturn, 1) := by decide +kernel
theorem dX10_now_58 : decode cX10_now 58 = .ok (.aload_n 0, 1) := by decide +kernel
theorem dX10_now_59 : decode cX10_now 59 = .ok (.getfield 19, 3) := by decide +kernel
theorem dX10_now_62 : decode cX10_now 62 = .ok (.invokevirtual 200, 3) := by decide +kernel
theorem dX10_now_65 : decode cX10_now 65 = .ok (.ireturn, 1) := by decide +kernel
theorem dX10_now_66 : decode cX10_now 66 = .ok (.aload_n 0, 1) := by decide +kernel
theorem dX10_now_67 : decode cX10_now 67 = .ok (.getfield 19, 3) := by decide +kernel
theorem dX10_now_70 : decode cX10_now 70 = .ok (.invokevirtual 204, 3) := by decide +kernel
theorem dX10_now_73 : decode cX10_now 73 = .ok (.ireturn, 1) := by decide +kernel
theorem dX10_now_74 : decode cX10_now 74 = .ok (.aload_n 0, 1) := by decide +kernel
theorem dX10_now_75 : decode cX10_now 75 = .ok (.getfield 19, 3) := by decide +kernel
theorem dX10_now_78 : decode cX10_now 78 = .ok (.invokevirtual 207, 3) := by decide +kernel
theorem dX10_now_81 : decode cX10_now 81 = .ok (.ireturn, 1) := by decide +kernel
theorem dX10_now_82 : decode cX10_now 82 = .ok (.iconst (-1), 1) := by decide +kernel
theorem dX10_now_83 : decode cX10_now 83 = .ok (.ireturn, 1) := by decide +kernel
theorem dX10_odds_0 : decode cX10_odds 0 = .ok (.iload_n 1, 1) := by decide +kernel
theorem dX10_odds_1 : decode cX10_odds 1 = .ok (.ifCond .lt 28, 3) := by decide +kernel
theorem dX10_odds_4 : decode cX10_odds 4 = .ok (.iload_n 1, 1) := by decide +kernel
theorem dX10_odds_5 : decode cX10_odds 5 = .ok (.bipush 10, 2) := by decide +kernel
theorem dX10_odds_7 : decode cX10_odds 7 = .ok (.if_icmp .gt 22, 3) := by decide +kernel
theorem dX10_odds_10 : decode cX10_odds 10 = .ok (.iload_n 2, 1) := by decide +kernel
theorem dX10_odds_11 : decode cX10_odds 11 = .ok (.ifCond .lt 18, 3) := by decide +kernel
theorem dX10_odds_14 : decode cX10_odds 14 = .ok (.iload_n 2, 1) := by decide +kernel
theorem dX10_odds_15 : decode cX10_odds 15 = .ok (.bipush 6, 2) := by decide +kernel
theorem dX10_odds_17 : decode cX10_odds 17 = .ok (.if_icmp .gt 12, 3) := by decide +kernel
theorem dX10_odds_20 : decode cX10_odds 20 = .ok (.iload_n 3, 1) := by decide +kernel
theorem dX10_odds_21 : decode cX10_odds 21 = .ok (.ifCond .lt 8, 3) := by decide +kernel
theorem dX10_odds_24 : decode cX10_odds 24 = .ok (.iload_n 3, 1) := by decide +kernel
theorem dX10_odds_25 : decode cX10_odds 25 = .ok (.iconst 1, 1) := by decide +kernel
theorem dX10_odds_26 : decode cX10_odds 26 = .ok (.if_icmp .le 5, 3) := by decide +kernel
theorem dX10_odds_29 : decode cX10_odds 29 = .ok (.iconst (-1), 1) := by decide +kernel
theorem dX10_odds_30 : decode cX10_odds 30 = .ok (.ireturn, 1) := by decide +kernel
theorem dX10_odds_31 : decode cX10_odds 31 = .ok (.aload_n 0, 1) := by decide +kernel
theorem dX10_odds_32 : decode cX10_odds 32 = .ok (.getfield 19, 3) := by decide +kernel
theorem dX10_odds_35 : decode cX10_odds 35 = .ok (.getfield 98, 3) := by decide +kernel
theorem dX10_odds_38 : decode cX10_odds 38 = .ok (.getfield 106, 3) := by decide +kernel
theorem dX10_odds_41 : decode cX10_odds 41 = .ok (.aload_n 0, 1) := by decide +kernel
theorem dX10_odds_42 : decode cX10_odds 42 = .ok (.getfield 19, 3) := by decide +kernel
theorem dX10_odds_45 : decode cX10_odds 45 = .ok (.getfield 138, 3) := by decide +kernel
theorem dX10_odds_48 : decode cX10_odds 48 = .ok (.getfield 182, 3) := by decide +kernel
theorem dX10_odds_51 : decode cX10_odds 51 = .ok (.invokestatic 185, 3) := by decide +kernel
theorem dX10_odds_54 : decode cX10_odds 54 = .ok (.isub, 1) := by decide +kernel
theorem dX10_odds_55 : decode cX10_odds 55 = .ok (.istore 4, 2) := by decide +kernel
theorem dX10_odds_57 : decode cX10_odds 57 = .ok (.iload 4, 2) := by decide +kernel
theorem dX10_odds_59 : decode cX10_odds 59 = .ok (.iload_n 1, 1) := by decide +kernel
theorem dX10_odds_60 : decode cX10_odds 60 = .ok (.iload_n 2, 1) := by decide +kernel
theorem dX10_odds_61 : decode cX10_odds 61 = .ok (.invokestatic 245, 3) := by decide +kernel
theorem dX10_odds_64 : decode cX10_odds 64 = .ok (.istore 5, 2) := by decide +kernel
theorem dX10_odds_66 : decode cX10_odds 66 = .ok (.bipush 10, 2) := by decide +kernel
theorem dX10_odds_68 : decode cX10_odds 68 = .ok (.iload 4, 2) := by decide +kernel
theorem dX10_odds_70 : decode cX10_odds 70 = .ok (.invokestatic 249, 3) := by decide +kernel
theorem dX10_odds_73 : decode cX10_odds 73 = .ok (.istore 6, 2) := by decide +kernel
theorem dX10_odds_75 : decode cX10_odds 75 = .ok (.iload 5, 2) := by decide +kernel
theorem dX10_odds_77 : decode cX10_odds 77 = .ok (.iload 6, 2) := by decide +kernel
theorem dX10_odds_79 : decode cX10_odds 79 = .ok (.invokestatic 252, 3) := by decide +kernel
theorem dX10_odds_82 : decode cX10_odds 82 = .ok (.istore 7, 2) := by decide +kernel
theorem dX10_odds_84 : decode cX10_odds 84 = .ok (.iload_n 3, 1) := by decide +kernel
theorem dX10_odds_85 : decode cX10_odds 85 = .ok (.ifCond .ne 8, 3) := by decide +kernel
theorem dX10_odds_88 : decode cX10_odds 88 = .ok (.iload 5, 2) := by decide +kernel
theorem dX10_odds_90 : decode cX10_odds 90 = .ok (.goto 5, 3) := by decide +kernel
theorem dX10_odds_93 : decode cX10_odds 93 = .ok (.iload 6, 2) := by decide +kernel
theorem dX10_odds_95 : decode cX10_odds 95 = .ok (.iload 7, 2) := by decide +kernel
theorem dX10_odds_97 : decode cX10_odds 97 = .ok (.idiv, 1) := by decide +kernel
theorem dX10_odds_98 : decode cX10_odds 98 = .ok (.ireturn, 1) := by decide +kernel
theorem dX10_orNone_0 : decode cX10_orNone 0 = .ok (.iload_n 0, 1) := by decide +kernel
theorem dX10_orNone_1 : decode cX10_orNone 1 = .ok (.iconst (-1), 1) := by decide +kernel
theorem dX10_orNone_2 : decode cX10_orNone 2 = .ok (.if_icmp .ne 8, 3) := by decide +kernel
theorem dX10_orNone_5 : decode cX10_orNone 5 = .ok (.bipush (-9), 2) := by decide +kernel
theorem dX10_orNone_7 : decode cX10_orNone 7 = .ok (.goto 4, 3) := by decide +kernel
theorem dX10_orNone_10 : decode cX10_orNone 10 = .ok (.iload_n 0, 1) := by decide +kernel
theorem dX10_orNone_11 : decode cX10_orNone 11 = .ok (.ireturn, 1) := by decide +kernel
theorem dX10_own_0 : decode cX10_own 0 = .ok (.iload_n 1, 1) := by decide +kernel
theorem dX10_own_1 : decode cX10_own 1 = .ok (.iconst (-1), 1) := by decide +kernel
theorem dX10_own_2 : decode cX10_own 2 = .ok (.if_icmp .eq 16, 3) := by decide +kernel
theorem dX10_own_5 : decode cX10_own 5 = .ok (.aload_n 0, 1) := by decide +kernel
theorem dX10_own_6 : decode cX10_own 6 = .ok (.getfield 19, 3) := by decide +kernel
theorem dX10_own_9 : decode cX10_own 9 = .ok (.iload_n 1, 1) := by decide +kernel
theorem dX10_own_10 : decode cX10_own 10 = .ok (.invokevirtual 129, 3) := by decide +kernel
theorem dX10_own_13 : decode cX10_own 13 = .ok (.ifCond .ne 5, 3) := by decide +kernel
theorem dX10_own_16 : decode cX10_own 16 = .ok (.iconst (-1), 1) := by decide +kernel
theorem dX10_own_17 : decode cX10_own 17 = .ok (.ireturn, 1) := by decide +kernel
theorem dX10_own_18 : decode cX10_own 18 = .ok (.aload_n 0, 1) := by decide +kernel
theorem dX10_own_19 : decode cX10_own 19 = .ok (.getfield 49, 3) := by decide +kernel
theorem dX10_own_22 : decode cX10_own 22 = .ok (.invokevirtual 233, 3) := by decide +kernel
theorem dX10_own_25 : decode cX10_own 25 = .ok (.iload_n 1, 1) := by decide +kernel
theorem dX10_own_26 : decode cX10_own 26 = .ok (.iconst (-1), 1) := by decide +kernel
theorem dX10_own_27 : decode cX10_own 27 = .ok (.if_icmp .ne 13, 3) := by decide +kernel
theorem dX10_own_30 : decode cX10_own 30 = .ok (.aload_n 0, 1) := by decide +kernel
theorem dX10_own_31 : decode cX10_own 31 = .ok (.getfield 49, 3) := by decide +kernel
theorem dX10_own_34 : decode cX10_own 34 = .ok (.invokevirtual 236, 3) := by decide +kernel
theorem dX10_own_37 : decode cX10_own 37 = .ok (.goto 11, 3) := by decide +kernel
theorem dX10_own_40 : decode cX10_own 40 = .ok (.aload_n 0, 1) := by decide +kernel
theorem dX10_own_41 : decode cX10_own 41 = .ok (.getfield 49, 3) := by decide +kernel
theorem dX10_own_44 : decode cX10_own 44 = .ok (.iload_n 1, 1) := by decide +kernel
theorem dX10_own_45 : decode cX10_own 45 = .ok (.invokevirtual 239, 3) := by decide +kernel
theorem dX10_own_48 : decode cX10_own 48 = .ok (.ireturn, 1) := by decide +kernel
theorem dX10_plan_0 : decode cX10_plan 0 = .ok (.aload_n 0, 1) := by decide +kernel
theorem dX10_plan_1 : decode cX10_plan 1 = .ok (.getfield 19, 3) := by decide +kernel
theorem dX10_plan_4 : decode cX10_plan 4 = .ok (.iload_n 1, 1) := by decide +kernel
theorem dX10_plan_5 : decode cX10_plan 5 = .ok (.invokevirtual 129, 3) := by decide +kernel
theorem dX10_plan_8 : decode cX10_plan 8 = .ok (.ifCond .eq 26, 3) := by decide +kernel
theorem dX10_plan_11 : decode cX10_plan 11 = .ok (.aload_n 0, 1) := by decide +kernel
theorem dX10_plan_12 : decode cX10_plan 12 = .ok (.getfield 19, 3) := by decide +kernel
theorem dX10_plan_15 : decode cX10_plan 15 = .ok (.iload_n 2, 1) := by decide +kernel
theorem dX10_plan_16 : decode cX10_plan 16 = .ok (.invokevirtual 109, 3) := by decide +kernel
theorem dX10_plan_19 : decode cX10_plan 19 = .ok (.ifCond .eq 15, 3) := by decide +kernel
theorem dX10_plan_22 : decode cX10_plan 22 = .ok (.iload_n 3, 1) := by decide +kernel
theorem dX10_plan_23 : decode cX10_plan 23 = .ok (.bipush (-3), 2) := by decide +kernel
theorem dX10_plan_25 : decode cX10_plan 25 = .ok (.if_icmp .lt 9, 3) := by decide +kernel
theorem dX10_plan_28 : decode cX10_plan 28 = .ok (.iload_n 3, 1) := by decide +kernel
theorem dX10_plan_29 : decode cX10_plan 29 = .ok (.bipush 8, 2) := by decide +kernel
theorem dX10_plan_31 : decode cX10_plan 31 = .ok (.if_icmp .lt 5, 3) := by decide +kernel
theorem dX10_plan_34 : decode cX10_plan 34 = .ok (.iconst (-1), 1) := by decide +kernel
theorem dX10_plan_35 : decode cX10_plan 35 = .ok (.ireturn, 1) := by decide +kernel
theorem dX10_plan_36 : decode cX10_plan 36 = .ok (.aload_n 0, 1) := by decide +kernel
theorem dX10_plan_37 : decode cX10_plan 37 = .ok (.getfield 42, 3) := by decide +kernel
theorem dX10_plan_40 : decode cX10_plan 40 = .ok (.iload_n 1, 1) := by decide +kernel
theorem dX10_plan_41 : decode cX10_plan 41 = .ok (.iload_n 2, 1) := by decide +kernel
theorem dX10_plan_42 : decode cX10_plan 42 = .ok (.invokevirtual 210, 3) := by decide +kernel
theorem dX10_plan_45 : decode cX10_plan 45 = .ok (.istore 4, 2) := by decide +kernel
theorem dX10_plan_47 : decode cX10_plan 47 = .ok (.aload_n 0, 1) := by decide +kernel
theorem dX10_plan_48 : decode cX10_plan 48 = .ok (.getfield 42, 3) := by decide +kernel
theorem dX10_plan_51 : decode cX10_plan 51 = .ok (.iload_n 1, 1) := by decide +kernel
theorem dX10_plan_52 : decode cX10_plan 52 = .ok (.invokevirtual 214, 3) := by decide +kernel
theorem dX10_plan_55 : decode cX10_plan 55 = .ok (.iload 4, 2) := by decide +kernel
theorem dX10_plan_57 : decode cX10_plan 57 = .ok (.ifCond .eq 19, 3) := by decide +kernel
theorem dX10_plan_60 : decode cX10_plan 60 = .ok (.aload_n 0, 1) := by decide +kernel
theorem dX10_plan_61 : decode cX10_plan 61 = .ok (.getfield 42, 3) := by decide +kernel
theorem dX10_plan_64 : decode cX10_plan 64 = .ok (.iload_n 1, 1) := by decide +kernel
theorem dX10_plan_65 : decode cX10_plan 65 = .ok (.iload 4, 2) := by decide +kernel
theorem dX10_plan_67 : decode cX10_plan 67 = .ok (.invokevirtual 218, 3) := by decide +kernel
theorem dX10_plan_70 : decode cX10_plan 70 = .ok (.ifCond .ne 6, 3) := by decide +kernel
theorem dX10_plan_73 : decode cX10_plan 73 = .ok (.bipush (-9), 2) := by decide +kernel
theorem dX10_plan_75 : decode cX10_plan 75 = .ok (.ireturn, 1) := by decide +kernel
theorem dX10_plan_76 : decode cX10_plan 76 = .ok (.iload_n 3, 1) := by decide +kernel
theorem dX10_plan_77 : decode cX10_plan 77 = .ok (.tableswitch 50 (-3) (-1) #[40, 30, 27], 27) := by decide +kernel
theorem dX10_plan_104 : decode cX10_plan 104 = .ok (.iload 4, 2) := by decide +kernel
theorem dX10_plan_106 : decode cX10_plan 106 = .ok (.ireturn, 1) := by decide +kernel
theorem dX10_plan_107 : decode cX10_plan 107 = .ok (.aload_n 0, 1) := by decide +kernel
theorem dX10_plan_108 : decode cX10_plan 108 = .ok (.getfield 42, 3) := by decide +kernel
theorem dX10_plan_111 : decode cX10_plan 111 = .ok (.iload 4, 2) := by decide +kernel
theorem dX10_plan_113 : decode cX10_plan 113 = .ok (.invokevirtual 221, 3) := by decide +kernel
theorem dX10_plan_116 : decode cX10_plan 116 = .ok (.ireturn, 1) := by decide +kernel
theorem dX10_plan_117 : decode cX10_plan 117 = .ok (.aload_n 0, 1) := by decide +kernel
theorem dX10_plan_118 : decode cX10_plan 118 = .ok (.getfield 42, 3) := by decide +kernel
theorem dX10_plan_121 : decode cX10_plan 121 = .ok (.iload 4, 2) := by decide +kernel
theorem dX10_plan_123 : decode cX10_plan 123 = .ok (.invokevirtual 224, 3) := by decide +kernel
theorem dX10_plan_126 : decode cX10_plan 126 = .ok (.ireturn, 1) := by decide +kernel
theorem dX10_plan_127 : decode cX10_plan 127 = .ok (.aload_n 0, 1) := by decide +kernel
theorem dX10_plan_128 : decode cX10_plan 128 = .ok (.getfield 42, 3) := by decide +kernel
theorem dX10_plan_131 : decode cX10_plan 131 = .ok (.iload 4, 2) := by decide +kernel
theorem dX10_plan_133 : decode cX10_plan 133 = .ok (.iload_n 3, 1) := by decide +kernel
theorem dX10_plan_134 : decode cX10_plan 134 = .ok (.invokevirtual 227, 3) := by decide +kernel
theorem dX10_plan_137 : decode cX10_plan 137 = .ok (.ireturn, 1) := by decide +kernel
theorem dX10_power_0 : decode cX10_power 0 = .ok (.iconst 1, 1) := by decide +kernel
theorem dX10_power_1 : decode cX10_power 1 = .ok (.istore_n 2, 1) := by decide +kernel
theorem dX10_power_2 : decode cX10_power 2 = .ok (.iconst 0, 1) := by decide +kernel
theorem dX10_power_3 : decode cX10_power 3 = .ok (.istore_n 3, 1) := by decide +kernel
theorem dX10_power_4 : decode cX10_power 4 = .ok (.iload_n 3, 1) := by decide +kernel
theorem dX10_power_5 : decode cX10_power 5 = .ok (.iload_n 1, 1) := by decide +kernel
theorem dX10_power_6 : decode cX10_power 6 = .ok (.if_icmp .ge 13, 3) := by decide +kernel
theorem dX10_power_9 : decode cX10_power 9 = .ok (.iload_n 2, 1) := by decide +kernel
theorem dX10_power_10 : decode cX10_power 10 = .ok (.iload_n 0, 1) := by decide +kernel
theorem dX10_power_11 : decode cX10_power 11 = .ok (.imul, 1) := by decide +kernel
theorem dX10_power_12 : decode cX10_power 12 = .ok (.istore_n 2, 1) := by decide +kernel
theorem dX10_power_13 : decode cX10_power 13 = .ok (.iinc 3 1, 3) := by decide +kernel
theorem dX10_power_16 : decode cX10_power 16 = .ok (.goto (-12), 3) := by decide +kernel
theorem dX10_power_19 : decode cX10_power 19 = .ok (.iload_n 2, 1) := by decide +kernel
theorem dX10_power_20 : decode cX10_power 20 = .ok (.ireturn, 1) := by decide +kernel
theorem dX10_sets_0 : decode cX10_sets 0 = .ok (.aload_n 0, 1) := by decide +kernel
theorem dX10_sets_1 : decode cX10_sets 1 = .ok (.getfield 19, 3) := by decide +kernel
theorem dX10_sets_4 : decode cX10_sets 4 = .ok (.iload_n 1, 1) := by decide +kernel
theorem dX10_sets_5 : decode cX10_sets 5 = .ok (.invokevirtual 129, 3) := by decide +kernel
theorem dX10_sets_8 : decode cX10_sets 8 = .ok (.ifCond .eq 19, 3) := by decide +kernel
theorem dX10_sets_11 : decode cX10_sets 11 = .ok (.iload_n 2, 1) := by decide +kernel
theorem dX10_sets_12 : decode cX10_sets 12 = .ok (.iconst (-1), 1) := by decide +kernel
theorem dX10_sets_13 : decode cX10_sets 13 = .ok (.if_icmp .eq 16, 3) := by decide +kernel
theorem dX10_sets_16 : decode cX10_sets 16 = .ok (.aload_n 0, 1) := by decide +kernel
theorem dX10_sets_17 : decode cX10_sets 17 = .ok (.getfield 19, 3) := by decide +kernel
theorem dX10_sets_20 : decode cX10_sets 20 = .ok (.iload_n 2, 1) := by decide +kernel
theorem dX10_sets_21 : decode cX10_sets 21 = .ok (.invokevirtual 109, 3) := by decide +kernel
theorem dX10_sets_24 : decode cX10_sets 24 = .ok (.ifCond .ne 5, 3) := by decide +kernel
theorem dX10_sets_27 : decode cX10_sets 27 = .ok (.iconst (-1), 1) := by decide +kernel
theorem dX10_sets_28 : decode cX10_sets 28 = .ok (.ireturn, 1) := by decide +kernel
theorem dX10_sets_29 : decode cX10_sets 29 = .ok (.aload_n 0, 1) := by decide +kernel
theorem dX10_sets_30 : decode cX10_sets 30 = .ok (.getfield 19, 3) := by decide +kernel
theorem dX10_sets_33 : decode cX10_sets 33 = .ok (.getfield 138, 3) := by decide +kernel
theorem dX10_sets_36 : decode cX10_sets 36 = .ok (.getfield 159, 3) := by decide +kernel
theorem dX10_sets_39 : decode cX10_sets 39 = .ok (.iload_n 1, 1) := by decide +kernel
theorem dX10_sets_40 : decode cX10_sets 40 = .ok (.iaload, 1) := by decide +kernel
theorem dX10_sets_41 : decode cX10_sets 41 = .ok (.istore_n 3, 1) := by decide +kernel
theorem dX10_sets_42 : decode cX10_sets 42 = .ok (.iload_n 2, 1) := by decide +kernel
theorem dX10_sets_43 : decode cX10_sets 43 = .ok (.iload_n 3, 1) := by decide +kernel
theorem dX10_sets_44 : decode cX10_sets 44 = .ok (.if_icmp .eq 20, 3) := by decide +kernel
theorem dX10_sets_47 : decode cX10_sets 47 = .ok (.iload_n 2, 1) := by decide +kernel
theorem dX10_sets_48 : decode cX10_sets 48 = .ok (.iconst (-1), 1) := by decide +kernel
theorem dX10_sets_49 : decode cX10_sets 49 = .ok (.if_icmp .eq 18, 3) := by decide +kernel
theorem dX10_sets_52 : decode cX10_sets 52 = .ok (.aload_n 0, 1) := by decide +kernel
theorem dX10_sets_53 : decode cX10_sets 53 = .ok (.getfield 19, 3) := by decide +kernel
theorem dX10_sets_56 : decode cX10_sets 56 = .ok (.iload_n 1, 1) := by decide +kernel
theorem dX10_sets_57 : decode cX10_sets 57 = .ok (.iload_n 2, 1) := by decide +kernel
theorem dX10_sets_58 : decode cX10_sets 58 = .ok (.invokevirtual 168, 3) := by decide +kernel
theorem dX10_sets_61 : decode cX10_sets 61 = .ok (.ifCond .ne 6, 3) := by decide +kernel
theorem dX10_sets_64 : decode cX10_sets 64 = .ok (.bipush (-2), 2) := by decide +kernel
theorem dX10_sets_66 : decode cX10_sets 66 = .ok (.ireturn, 1) := by decide +kernel
theorem dX10_sets_67 : decode cX10_sets 67 = .ok (.aload_n 0, 1) := by decide +kernel
theorem dX10_sets_68 : decode cX10_sets 68 = .ok (.getfield 26, 3) := by decide +kernel
theorem dX10_sets_71 : decode cX10_sets 71 = .ok (.aload_n 0, 1) := by decide +kernel
theorem dX10_sets_72 : decode cX10_sets 72 = .ok (.getfield 19, 3) := by decide +kernel
theorem dX10_sets_75 : decode cX10_sets 75 = .ok (.getfield 138, 3) := by decide +kernel
theorem dX10_sets_78 : decode cX10_sets 78 = .ok (.invokevirtual 172, 3) := by decide +kernel
theorem dX10_sets_81 : decode cX10_sets 81 = .ok (.aload_n 0, 1) := by decide +kernel
theorem dX10_sets_82 : decode cX10_sets 82 = .ok (.getfield 19, 3) := by decide +kernel
theorem dX10_sets_85 : decode cX10_sets 85 = .ok (.getfield 138, 3) := by decide +kernel
theorem dX10_sets_88 : decode cX10_sets 88 = .ok (.getfield 159, 3) := by decide +kernel
theorem dX10_sets_91 : decode cX10_sets 91 = .ok (.iload_n 1, 1) := by decide +kernel
theorem dX10_sets_92 : decode cX10_sets 92 = .ok (.iload_n 2, 1) := by decide +kernel
theorem dX10_sets_93 : decode cX10_sets 93 = .ok (.iastore, 1) := by decide +kernel
theorem dX10_sets_94 : decode cX10_sets 94 = .ok (.iload_n 3, 1) := by decide +kernel
theorem dX10_sets_95 : decode cX10_sets 95 = .ok (.invokestatic 162, 3) := by decide +kernel
theorem dX10_sets_98 : decode cX10_sets 98 = .ok (.ireturn, 1) := by decide +kernel
theorem dX10_thing_0 : decode cX10_thing 0 = .ok (.aload_n 0, 1) := by decide +kernel
theorem dX10_thing_1 : decode cX10_thing 1 = .ok (.getfield 19, 3) := by decide +kernel
theorem dX10_thing_4 : decode cX10_thing 4 = .ok (.iload_n 1, 1) := by decide +kernel
theorem dX10_thing_5 : decode cX10_thing 5 = .ok (.invokevirtual 109, 3) := by decide +kernel
theorem dX10_thing_8 : decode cX10_thing 8 = .ok (.ifCond .ne 5, 3) := by decide +kernel
theorem dX10_thing_11 : decode cX10_thing 11 = .ok (.iconst (-1), 1) := by decide +kernel
theorem dX10_thing_12 : decode cX10_thing 12 = .ok (.ireturn, 1) := by decide +kernel
theorem dX10_thing_13 : decode cX10_thing 13 = .ok (.iload_n 2, 1) := by decide +kernel
theorem dX10_thing_14 : decode cX10_thing 14 = .ok (.tableswitch 95 0 4 #[34, 47, 60, 73, 86], 34) := by decide +kernel
theorem dX10_thing_48 : decode cX10_thing 48 = .ok (.aload_n 0, 1) := by decide +kernel
theorem dX10_thing_49 : decode cX10_thing 49 = .ok (.getfield 19, 3) := by decide +kernel
theorem dX10_thing_52 : decode cX10_thing 52 = .ok (.getfield 98, 3) := by decide +kernel
theorem dX10_thing_55 : decode cX10_thing 55 = .ok (.getfield 113, 3) := by decide +kernel
theorem dX10_thing_58 : decode cX10_thing 58 = .ok (.iload_n 1, 1) := by decide +kernel
theorem dX10_thing_59 : decode cX10_thing 59 = .ok (.iaload, 1) := by decide +kernel
theorem dX10_thing_60 : decode cX10_thing 60 = .ok (.ireturn, 1) := by decide +kernel
theorem dX10_thing_61 : decode cX10_thing 61 = .ok (.aload_n 0, 1) := by decide +kernel
theorem dX10_thing_62 : decode cX10_thing 62 = .ok (.getfield 19, 3) := by decide +kernel
theorem dX10_thing_65 : decode cX10_thing 65 = .ok (.getfield 98, 3) := by decide +kernel
theorem dX10_thing_68 : decode cX10_thing 68 = .ok (.getfield 116, 3) := by decide +kernel
theorem dX10_thing_71 : decode cX10_thing 71 = .ok (.iload_n 1, 1) := by decide +kernel
theorem dX10_thing_72 : decode cX10_thing 72 = .ok (.iaload, 1) := by decide +kernel
theorem dX10_thing_73 : decode cX10_thing 73 = .ok (.ireturn, 1) := by decide +kernel
theorem dX10_thing_74 : decode cX10_thing 74 = .ok (.aload_n 0, 1) := by decide +kernel
theorem dX10_thing_75 : decode cX10_thing 75 = .ok (.getfield 19, 3) := by decide +kernel
theorem dX10_thing_78 : decode cX10_thing 78 = .ok (.getfield 98, 3) := by decide +kernel
theorem dX10_thing_81 : decode cX10_thing 81 = .ok (.getfield 119, 3) := by decide +kernel
theorem dX10_thing_84 : decode cX10_thing 84 = .ok (.iload_n 1, 1) := by decide +kernel
theorem dX10_thing_85 : decode cX10_thing 85 = .ok (.iaload, 1) := by decide +kernel
theorem dX10_thing_86 : decode cX10_thing 86 = .ok (.ireturn, 1) := by decide +kernel
theorem dX10_thing_87 : decode cX10_thing 87 = .ok (.aload_n 0, 1) := by decide +kernel
theorem dX10_thing_88 : decode cX10_thing 88 = .ok (.getfield 19, 3) := by decide +kernel
theorem dX10_thing_91 : decode cX10_thing 91 = .ok (.getfield 98, 3) := by decide +kernel
theorem dX10_thing_94 : decode cX10_thing 94 = .ok (.getfield 122, 3) := by decide +kernel
theorem dX10_thing_97 : decode cX10_thing 97 = .ok (.iload_n 1, 1) := by decide +kernel
theorem dX10_thing_98 : decode cX10_thing 98 = .ok (.iaload, 1) := by decide +kernel
theorem dX10_thing_99 : decode cX10_thing 99 = .ok (.ireturn, 1) := by decide +kernel
theorem dX10_thing_100 : decode cX10_thing 100 = .ok (.aload_n 0, 1) := by decide +kernel
theorem dX10_thing_101 : decode cX10_thing 101 = .ok (.getfield 19, 3) := by decide +kernel
theorem dX10_thing_104 : decode cX10_thing 104 = .ok (.iload_n 1, 1) := by decide +kernel
theorem dX10_thing_105 : decode cX10_thing 105 = .ok (.invokevirtual 125, 3) := by decide +kernel
theorem dX10_thing_108 : decode cX10_thing 108 = .ok (.ireturn, 1) := by decide +kernel
theorem dX10_thing_109 : decode cX10_thing 109 = .ok (.iconst (-1), 1) := by decide +kernel
theorem dX10_thing_110 : decode cX10_thing 110 = .ok (.ireturn, 1) := by decide +kernel
theorem dX10_trace_0 : decode cX10_trace 0 = .ok (.aload_n 0, 1) := by decide +kernel
theorem dX10_trace_1 : decode cX10_trace 1 = .ok (.getfield 63, 3) := by decide +kernel
theorem dX10_trace_4 : decode cX10_trace 4 = .ok (.getfield 276, 3) := by decide +kernel
theorem dX10_trace_7 : decode cX10_trace 7 = .ok (.lreturn, 1) := by decide +kernel
theorem dX10_type_0 : decode cX10_type 0 = .ok (.iload_n 1, 1) := by decide +kernel
theorem dX10_type_1 : decode cX10_type 1 = .ok (.ifCond .lt 10, 3) := by decide +kernel
theorem dX10_type_4 : decode cX10_type 4 = .ok (.iload_n 1, 1) := by decide +kernel
theorem dX10_type_5 : decode cX10_type 5 = .ok (.sipush 255, 3) := by decide +kernel
theorem dX10_type_8 : decode cX10_type 8 = .ok (.if_icmp .le 5, 3) := by decide +kernel
theorem dX10_type_11 : decode cX10_type 11 = .ok (.iconst (-1), 1) := by decide +kernel
theorem dX10_type_12 : decode cX10_type 12 = .ok (.ireturn, 1) := by decide +kernel
theorem dX10_type_13 : decode cX10_type 13 = .ok (.aload_n 0, 1) := by decide +kernel
theorem dX10_type_14 : decode cX10_type 14 = .ok (.getfield 10, 3) := by decide +kernel
theorem dX10_type_17 : decode cX10_type 17 = .ok (.getfield 67, 3) := by decide +kernel
theorem dX10_type_20 : decode cX10_type 20 = .ok (.sipush 150, 3) := by decide +kernel
theorem dX10_type_23 : decode cX10_type 23 = .ok (.if_icmp .lt 6, 3) := by decide +kernel
theorem dX10_type_26 : decode cX10_type 26 = .ok (.bipush (-3), 2) := by decide +kernel
theorem dX10_type_28 : decode cX10_type 28 = .ok (.ireturn, 1) := by decide +kernel
theorem dX10_type_29 : decode cX10_type 29 = .ok (.aload_n 0, 1) := by decide +kernel
theorem dX10_type_30 : decode cX10_type 30 = .ok (.getfield 10, 3) := by decide +kernel
theorem dX10_type_33 : decode cX10_type 33 = .ok (.getfield 71, 3) := by decide +kernel
theorem dX10_type_36 : decode cX10_type 36 = .ok (.aload_n 0, 1) := by decide +kernel
theorem dX10_type_37 : decode cX10_type 37 = .ok (.getfield 10, 3) := by decide +kernel
theorem dX10_type_40 : decode cX10_type 40 = .ok (.getfield 67, 3) := by decide +kernel
theorem dX10_type_43 : decode cX10_type 43 = .ok (.iload_n 1, 1) := by decide +kernel
theorem dX10_type_44 : decode cX10_type 44 = .ok (.iastore, 1) := by decide +kernel
theorem dX10_type_45 : decode cX10_type 45 = .ok (.aload_n 0, 1) := by decide +kernel
theorem dX10_type_46 : decode cX10_type 46 = .ok (.getfield 10, 3) := by decide +kernel
theorem dX10_type_49 : decode cX10_type 49 = .ok (.dup, 1) := by decide +kernel
theorem dX10_type_50 : decode cX10_type 50 = .ok (.getfield 67, 3) := by decide +kernel
theorem dX10_type_53 : decode cX10_type 53 = .ok (.iconst 1, 1) := by decide +kernel
theorem dX10_type_54 : decode cX10_type 54 = .ok (.iadd, 1) := by decide +kernel
theorem dX10_type_55 : decode cX10_type 55 = .ok (.putfield 67, 3) := by decide +kernel
theorem dX10_type_58 : decode cX10_type 58 = .ok (.aload_n 0, 1) := by decide +kernel
theorem dX10_type_59 : decode cX10_type 59 = .ok (.getfield 10, 3) := by decide +kernel
theorem dX10_type_62 : decode cX10_type 62 = .ok (.getfield 67, 3) := by decide +kernel
theorem dX10_type_65 : decode cX10_type 65 = .ok (.ireturn, 1) := by decide +kernel
theorem dX10_undo_0 : decode cX10_undo 0 = .ok (.aload_n 0, 1) := by decide +kernel
theorem dX10_undo_1 : decode cX10_undo 1 = .ok (.getfield 26, 3) := by decide +kernel
theorem dX10_undo_4 : decode cX10_undo 4 = .ok (.getfield 90, 3) := by decide +kernel
theorem dX10_undo_7 : decode cX10_undo 7 = .ok (.ifCond .ne 6, 3) := by decide +kernel
theorem dX10_undo_10 : decode cX10_undo 10 = .ok (.bipush (-2), 2) := by decide +kernel
theorem dX10_undo_12 : decode cX10_undo 12 = .ok (.ireturn, 1) := by decide +kernel
theorem dX10_undo_13 : decode cX10_undo 13 = .ok (.aload_n 0, 1) := by decide +kernel
theorem dX10_undo_14 : decode cX10_undo 14 = .ok (.getfield 26, 3) := by decide +kernel
theorem dX10_undo_17 : decode cX10_undo 17 = .ok (.aload_n 0, 1) := by decide +kernel
theorem dX10_undo_18 : decode cX10_undo 18 = .ok (.getfield 19, 3) := by decide +kernel
theorem dX10_undo_21 : decode cX10_undo 21 = .ok (.getfield 138, 3) := by decide +kernel
theorem dX10_undo_24 : decode cX10_undo 24 = .ok (.invokevirtual 197, 3) := by decide +kernel
theorem dX10_undo_27 : decode cX10_undo 27 = .ok (.aload_n 0, 1) := by decide +kernel
theorem dX10_undo_28 : decode cX10_undo 28 = .ok (.getfield 26, 3) := by decide +kernel
theorem dX10_undo_31 : decode cX10_undo 31 = .ok (.getfield 90, 3) := by decide +kernel
theorem dX10_undo_34 : decode cX10_undo 34 = .ok (.ireturn, 1) := by decide +kernel
theorem dX10_waysToFall_0 : decode cX10_waysToFall 0 = .ok (.iconst 0, 1) := by decide +kernel
theorem dX10_waysToFall_1 : decode cX10_waysToFall 1 = .ok (.istore_n 3, 1) := by decide +kernel
theorem dX10_waysToFall_2 : decode cX10_waysToFall 2 = .ok (.iconst 1, 1) := by decide +kernel
theorem dX10_waysToFall_3 : decode cX10_waysToFall 3 = .ok (.istore 4, 2) := by decide +kernel
theorem dX10_waysToFall_5 : decode cX10_waysToFall 5 = .ok (.iconst 0, 1) := by decide +kernel
theorem dX10_waysToFall_6 : decode cX10_waysToFall 6 = .ok (.istore 5, 2) := by decide +kernel
theorem dX10_waysToFall_8 : decode cX10_waysToFall 8 = .ok (.iload 5, 2) := by decide +kernel
theorem dX10_waysToFall_10 : decode cX10_waysToFall 10 = .ok (.iload_n 0, 1) := by decide +kernel
theorem dX10_waysToFall_11 : decode cX10_waysToFall 11 = .ok (.if_icmp .gt 53, 3) := by decide +kernel
theorem dX10_waysToFall_14 : decode cX10_waysToFall 14 = .ok (.iload 5, 2) := by decide +kernel
theorem dX10_waysToFall_16 : decode cX10_waysToFall 16 = .ok (.iload_n 2, 1) := by decide +kernel
theorem dX10_waysToFall_17 : decode cX10_waysToFall 17 = .ok (.if_icmp .gt 47, 3) := by decide +kernel
theorem dX10_waysToFall_20 : decode cX10_waysToFall 20 = .ok (.iload_n 3, 1) := by decide +kernel
theorem dX10_waysToFall_21 : decode cX10_waysToFall 21 = .ok (.iload 4, 2) := by decide +kernel
theorem dX10_waysToFall_23 : decode cX10_waysToFall 23 = .ok (.iload_n 1, 1) := by decide +kernel
theorem dX10_waysToFall_24 : decode cX10_waysToFall 24 = .ok (.iload 5, 2) := by decide +kernel
theorem dX10_waysToFall_26 : decode cX10_waysToFall 26 = .ok (.invokestatic 249, 3) := by decide +kernel
theorem dX10_waysToFall_29 : decode cX10_waysToFall 29 = .ok (.imul, 1) := by decide +kernel
theorem dX10_waysToFall_30 : decode cX10_waysToFall 30 = .ok (.bipush 10, 2) := by decide +kernel
theorem dX10_waysToFall_32 : decode cX10_waysToFall 32 = .ok (.iload_n 1, 1) := by decide +kernel
theorem dX10_waysToFall_33 : decode cX10_waysToFall 33 = .ok (.isub, 1) := by decide +kernel
theorem dX10_waysToFall_34 : decode cX10_waysToFall 34 = .ok (.iload_n 0, 1) := by decide +kernel
theorem dX10_waysToFall_35 : decode cX10_waysToFall 35 = .ok (.iload 5, 2) := by decide +kernel
theorem dX10_waysToFall_37 : decode cX10_waysToFall 37 = .ok (.isub, 1) := by decide +kernel
theorem dX10_waysToFall_38 : decode cX10_waysToFall 38 = .ok (.invokestatic 249, 3) := by decide +kernel
theorem dX10_waysToFall_41 : decode cX10_waysToFall 41 = .ok (.imul, 1) := by decide +kernel
theorem dX10_waysToFall_42 : decode cX10_waysToFall 42 = .ok (.iadd, 1) := by decide +kernel
theorem dX10_waysToFall_43 : decode cX10_waysToFall 43 = .ok (.istore_n 3, 1) := by decide +kernel
theorem dX10_waysToFall_44 : decode cX10_waysToFall 44 = .ok (.iload 4, 2) := by decide +kernel
theorem dX10_waysToFall_46 : decode cX10_waysToFall 46 = .ok (.iload_n 0, 1) := by decide +kernel
theorem dX10_waysToFall_47 : decode cX10_waysToFall 47 = .ok (.iload 5, 2) := by decide +kernel
theorem dX10_waysToFall_49 : decode cX10_waysToFall 49 = .ok (.isub, 1) := by decide +kernel
theorem dX10_waysToFall_50 : decode cX10_waysToFall 50 = .ok (.imul, 1) := by decide +kernel
theorem dX10_waysToFall_51 : decode cX10_waysToFall 51 = .ok (.iload 5, 2) := by decide +kernel
theorem dX10_waysToFall_53 : decode cX10_waysToFall 53 = .ok (.iconst 1, 1) := by decide +kernel
theorem dX10_waysToFall_54 : decode cX10_waysToFall 54 = .ok (.iadd, 1) := by decide +kernel
theorem dX10_waysToFall_55 : decode cX10_waysToFall 55 = .ok (.idiv, 1) := by decide +kernel
theorem dX10_waysToFall_56 : decode cX10_waysToFall 56 = .ok (.istore 4, 2) := by decide +kernel
theorem dX10_waysToFall_58 : decode cX10_waysToFall 58 = .ok (.iinc 5 1, 3) := by decide +kernel
theorem dX10_waysToFall_61 : decode cX10_waysToFall 61 = .ok (.goto (-53), 3) := by decide +kernel
theorem dX10_waysToFall_64 : decode cX10_waysToFall 64 = .ok (.iload_n 3, 1) := by decide +kernel
theorem dX10_waysToFall_65 : decode cX10_waysToFall 65 = .ok (.ireturn, 1) := by decide +kernel
theorem dX10_who_0 : decode cX10_who 0 = .ok (.aload_n 0, 1) := by decide +kernel
theorem dX10_who_1 : decode cX10_who 1 = .ok (.getfield 56, 3) := by decide +kernel
theorem dX10_who_4 : decode cX10_who 4 = .ok (.invokevirtual 259, 3) := by decide +kernel
theorem dX10_who_7 : decode cX10_who 7 = .ok (.ireturn, 1) := by decide +kernel
theorem dX11_ask_0 : decode cX11_ask 0 = .ok (.aload_n 0, 1) := by decide +kernel
theorem dX11_ask_1 : decode cX11_ask 1 = .ok (.invokevirtual 222, 3) := by decide +kernel
theorem dX11_ask_4 : decode cX11_ask 4 = .ok (.istore_n 1, 1) := by decide +kernel
theorem dX11_ask_5 : decode cX11_ask 5 = .ok (.iload_n 1, 1) := by decide +kernel
theorem dX11_ask_6 : decode cX11_ask 6 = .ok (.invokestatic 175, 3) := by decide +kernel
theorem dX11_ask_9 : decode cX11_ask 9 = .ok (.istore_n 2, 1) := by decide +kernel
theorem dX11_ask_10 : decode cX11_ask 10 = .ok (.bipush (-9), 2) := by decide +kernel
theorem dX11_ask_12 : decode cX11_ask 12 = .ok (.istore_n 3, 1) := by decide +kernel
theorem dX11_ask_13 : decode cX11_ask 13 = .ok (.iload_n 2, 1) := by decide +kernel
theorem dX11_ask_14 : decode cX11_ask 14 = .ok (.istore 4, 2) := by decide +kernel
theorem dX11_ask_16 : decode cX11_ask 16 = .ok (.iconst 0, 1) := by decide +kernel
theorem dX11_ask_17 : decode cX11_ask 17 = .ok (.istore 5, 2) := by decide +kernel
theorem dX11_ask_19 : decode cX11_ask 19 = .ok (.iload 5, 2) := by decide +kernel
theorem dX11_ask_21 : decode cX11_ask 21 = .ok (.aload_n 0, 1) := by decide +kernel
theorem dX11_ask_22 : decode cX11_ask 22 = .ok (.getfield 68, 3) := by decide +kernel
theorem dX11_ask_25 : decode cX11_ask 25 = .ok (.if_icmp .ge 72, 3) := by decide +kernel
theorem dX11_ask_28 : decode cX11_ask 28 = .ok (.iload_n 1, 1) := by decide +kernel
theorem dX11_ask_29 : decode cX11_ask 29 = .ok (.aload_n 0, 1) := by decide +kernel
theorem dX11_ask_30 : decode cX11_ask 30 = .ok (.iload 5, 2) := by decide +kernel
theorem dX11_ask_32 : decode cX11_ask 32 = .ok (.invokevirtual 159, 3) := by decide +kernel
theorem dX11_ask_35 : decode cX11_ask 35 = .ok (.iand, 1) := by decide +kernel
theorem dX11_ask_36 : decode cX11_ask 36 = .ok (.invokestatic 175, 3) := by decide +kernel
theorem dX11_ask_39 : decode cX11_ask 39 = .ok (.istore 6, 2) := by decide +kernel
theorem dX11_ask_41 : decode cX11_ask 41 = .ok (.iload 6, 2) := by decide +kernel
theorem dX11_ask_43 : decode cX11_ask 43 = .ok (.iload_n 2, 1) := by decide +kernel
theorem dX11_ask_44 : decode cX11_ask 44 = .ok (.iload 6, 2) := by decide +kernel
theorem dX11_ask_46 : decode cX11_ask 46 = .ok (.isub, 1) := by decide +kernel
theorem dX11_ask_47 : decode cX11_ask 47 = .ok (.if_icmp .le 8, 3) := by decide +kernel
theorem dX11_ask_50 : decode cX11_ask 50 = .ok (.iload 6, 2) := by decide +kernel
theorem dX11_ask_52 : decode cX11_ask 52 = .ok (.goto 7, 3) := by decide +kernel
theorem dX11_ask_55 : decode cX11_ask 55 = .ok (.iload_n 2, 1) := by decide +kernel
theorem dX11_ask_56 : decode cX11_ask 56 = .ok (.iload 6, 2) := by decide +kernel
theorem dX11_ask_58 : decode cX11_ask 58 = .ok (.isub, 1) := by decide +kernel
theorem dX11_ask_59 : decode cX11_ask 59 = .ok (.istore 7, 2) := by decide +kernel
theorem dX11_ask_61 : decode cX11_ask 61 = .ok (.iload 7, 2) := by decide +kernel
theorem dX11_ask_63 : decode cX11_ask 63 = .ok (.iload 4, 2) := by decide +kernel
theorem dX11_ask_65 : decode cX11_ask 65 = .ok (.if_icmp .ge 8, 3) := by decide +kernel
theorem dX11_ask_68 : decode cX11_ask 68 = .ok (.iload 5, 2) := by decide +kernel
theorem dX11_ask_70 : decode cX11_ask 70 = .ok (.goto 4, 3) := by decide +kernel
theorem dX11_ask_73 : decode cX11_ask 73 = .ok (.iload_n 3, 1) := by decide +kernel
theorem dX11_ask_74 : decode cX11_ask 74 = .ok (.istore_n 3, 1) := by decide +kernel
theorem dX11_ask_75 : decode cX11_ask 75 = .ok (.iload 7, 2) := by decide +kernel
theorem dX11_ask_77 : decode cX11_ask 77 = .ok (.iload 4, 2) := by decide +kernel
theorem dX11_ask_79 : decode cX11_ask 79 = .ok (.if_icmp .ge 8, 3) := by decide +kernel
theorem dX11_ask_82 : decode cX11_ask 82 = .ok (.iload 7, 2) := by decide +kernel
theorem dX11_ask_84 : decode cX11_ask 84 = .ok (.goto 5, 3) := by decide +kernel
theorem dX11_ask_87 : decode cX11_ask 87 = .ok (.iload 4, 2) := by decide +kernel
theorem dX11_ask_89 : decode cX11_ask 89 = .ok (.istore 4, 2) := by decide +kernel
theorem dX11_ask_91 : decode cX11_ask 91 = .ok (.iinc 5 1, 3) := by decide +kernel
theorem dX11_ask_94 : decode cX11_ask 94 = .ok (.goto (-75), 3) := by decide +kernel
theorem dX11_ask_97 : decode cX11_ask 97 = .ok (.iload_n 3, 1) := by decide +kernel
theorem dX11_ask_98 : decode cX11_ask 98 = .ok (.ireturn, 1) := by decide +kernel
theorem dX11_back_0 : decode cX11_back 0 = .ok (.iload_n 1, 1) := by decide +kernel
theorem dX11_back_1 : decode cX11_back 1 = .ok (.iconst 0, 1) := by decide +kernel
theorem dX11_back_2 : decode cX11_back 2 = .ok (.iconst 1, 1) := by decide +kernel
theorem dX11_back_3 : decode cX11_back 3 = .ok (.invokestatic 72, 3) := by decide +kernel
theorem dX11_back_6 : decode cX11_back 6 = .ok (.ifCond .ne 5, 3) := by decide +kernel
theorem dX11_back_9 : decode cX11_back 9 = .ok (.iconst (-1), 1) := by decide +kernel
theorem dX11_back_10 : decode cX11_back 10 = .ok (.ireturn, 1) := by decide +kernel
theorem dX11_back_11 : decode cX11_back 11 = .ok (.aload_n 0, 1) := by decide +kernel
theorem dX11_back_12 : decode cX11_back 12 = .ok (.getfield 34, 3) := by decide +kernel
theorem dX11_back_15 : decode cX11_back 15 = .ok (.iload_n 1, 1) := by decide +kernel
theorem dX11_back_16 : decode cX11_back 16 = .ok (.baload, 1) := by decide +kernel
theorem dX11_back_17 : decode cX11_back 17 = .ok (.ifCond .ne 6, 3) := by decide +kernel
theorem dX11_back_20 : decode cX11_back 20 = .ok (.bipush (-2), 2) := by decide +kernel
theorem dX11_back_22 : decode cX11_back 22 = .ok (.ireturn, 1) := by decide +kernel
theorem dX11_back_23 : decode cX11_back 23 = .ok (.iconst 0, 1) := by decide +kernel
theorem dX11_back_24 : decode cX11_back 24 = .ok (.istore_n 2, 1) := by decide +kernel
theorem dX11_back_25 : decode cX11_back 25 = .ok (.iload_n 2, 1) := by decide +kernel
theorem dX11_back_26 : decode cX11_back 26 = .ok (.sipush 815, 3) := by decide +kernel
theorem dX11_back_29 : decode cX11_back 29 = .ok (.if_icmp .ge 27, 3) := by decide +kernel
theorem dX11_back_32 : decode cX11_back 32 = .ok (.aload_n 0, 1) := by decide +kernel
theorem dX11_back_33 : decode cX11_back 33 = .ok (.getfield 28, 3) := by decide +kernel
theorem dX11_back_36 : decode cX11_back 36 = .ok (.iload_n 2, 1) := by decide +kernel
theorem dX11_back_37 : decode cX11_back 37 = .ok (.aload_n 0, 1) := by decide +kernel
theorem dX11_back_38 : decode cX11_back 38 = .ok (.getfield 31, 3) := by decide +kernel
theorem dX11_back_41 : decode cX11_back 41 = .ok (.sipush 815, 3) := by decide +kernel
theorem dX11_back_44 : decode cX11_back 44 = .ok (.iload_n 1, 1) := by decide +kernel
theorem dX11_back_45 : decode cX11_back 45 = .ok (.imul, 1) := by decide +kernel
theorem dX11_back_46 : decode cX11_back 46 = .ok (.iload_n 2, 1) := by decide +kernel
theorem dX11_back_47 : decode cX11_back 47 = .ok (.iadd, 1) := by decide +kernel
theorem dX11_back_48 : decode cX11_back 48 = .ok (.iaload, 1) := by decide +kernel
theorem dX11_back_49 : decode cX11_back 49 = .ok (.iastore, 1) := by decide +kernel
theorem dX11_back_50 : decode cX11_back 50 = .ok (.iinc 2 1, 3) := by decide +kernel
theorem dX11_back_53 : decode cX11_back 53 = .ok (.goto (-28), 3) := by decide +kernel
theorem dX11_back_56 : decode cX11_back 56 = .ok (.aload_n 0, 1) := by decide +kernel
theorem dX11_back_57 : decode cX11_back 57 = .ok (.getfield 28, 3) := by decide +kernel
theorem dX11_back_60 : decode cX11_back 60 = .ok (.iconst 0, 1) := by decide +kernel
theorem dX11_back_61 : decode cX11_back 61 = .ok (.iaload, 1) := by decide +kernel
theorem dX11_back_62 : decode cX11_back 62 = .ok (.ireturn, 1) := by decide +kernel
theorem dX11_bears_0 : decode cX11_bears 0 = .ok (.aload_n 0, 1) := by decide +kernel
theorem dX11_bears_1 : decode cX11_bears 1 = .ok (.iload_n 1, 1) := by decide +kernel
theorem dX11_bears_2 : decode cX11_bears 2 = .ok (.invokevirtual 144, 3) := by decide +kernel
theorem dX11_bears_5 : decode cX11_bears 5 = .ok (.ifCond .ne 32, 3) := by decide +kernel
theorem dX11_bears_8 : decode cX11_bears 8 = .ok (.aload_n 0, 1) := by decide +kernel
theorem dX11_bears_9 : decode cX11_bears 9 = .ok (.getfield 28, 3) := by decide +kernel
theorem dX11_bears_12 : decode cX11_bears 12 = .ok (.bipush 61, 2) := by decide +kernel
theorem dX11_bears_14 : decode cX11_bears 14 = .ok (.iload_n 1, 1) := by decide +kernel
theorem dX11_bears_15 : decode cX11_bears 15 = .ok (.iadd, 1) := by decide +kernel
theorem dX11_bears_16 : decode cX11_bears 16 = .ok (.iaload, 1) := by decide +kernel
theorem dX11_bears_17 : decode cX11_bears 17 = .ok (.aload_n 0, 1) := by decide +kernel
theorem dX11_bears_18 : decode cX11_bears 18 = .ok (.iload_n 1, 1) := by decide +kernel
theorem dX11_bears_19 : decode cX11_bears 19 = .ok (.iload_n 2, 1) := by decide +kernel
theorem dX11_bears_20 : decode cX11_bears 20 = .ok (.invokevirtual 191, 3) := by decide +kernel
theorem dX11_bears_23 : decode cX11_bears 23 = .ok (.iadd, 1) := by decide +kernel
theorem dX11_bears_24 : decode cX11_bears 24 = .ok (.aload_n 0, 1) := by decide +kernel
theorem dX11_bears_25 : decode cX11_bears 25 = .ok (.getfield 22, 3) := by decide +kernel
theorem dX11_bears_28 : decode cX11_bears 28 = .ok (.iload_n 1, 1) := by decide +kernel
theorem dX11_bears_29 : decode cX11_bears 29 = .ok (.iaload, 1) := by decide +kernel
theorem dX11_bears_30 : decode cX11_bears 30 = .ok (.if_icmp .gt 7, 3) := by decide +kernel
theorem dX11_bears_33 : decode cX11_bears 33 = .ok (.iconst 1, 1) := by decide +kernel
theorem dX11_bears_34 : decode cX11_bears 34 = .ok (.goto 4, 3) := by decide +kernel
theorem dX11_bears_37 : decode cX11_bears 37 = .ok (.iconst 0, 1) := by decide +kernel
theorem dX11_bears_38 : decode cX11_bears 38 = .ok (.istore_n 3, 1) := by decide +kernel
theorem dX11_bears_39 : decode cX11_bears 39 = .ok (.iconst 0, 1) := by decide +kernel
theorem dX11_bears_40 : decode cX11_bears 40 = .ok (.istore 4, 2) := by decide +kernel
theorem dX11_bears_42 : decode cX11_bears 42 = .ok (.iload 4, 2) := by decide +kernel
theorem dX11_bears_44 : decode cX11_bears 44 = .ok (.aload_n 0, 1) := by decide +kernel
theorem dX11_bears_45 : decode cX11_bears 45 = .ok (.getfield 68, 3) := by decide +kernel
theorem dX11_bears_48 : decode cX11_bears 48 = .ok (.if_icmp .ge 38, 3) := by decide +kernel
theorem dX11_bears_51 : decode cX11_bears 51 = .ok (.iload_n 3, 1) := by decide +kernel
theorem dX11_bears_52 : decode cX11_bears 52 = .ok (.ifCond .eq 26, 3) := by decide +kernel
theorem dX11_bears_55 : decode cX11_bears 55 = .ok (.iload_n 2, 1) := by decide +kernel
theorem dX11_bears_56 : decode cX11_bears 56 = .ok (.iload 4, 2) := by decide +kernel
theorem dX11_bears_58 : decode cX11_bears 58 = .ok (.invokestatic 140, 3) := by decide +kernel
theorem dX11_bears_61 : decode cX11_bears 61 = .ok (.ifCond .eq 13, 3) := by decide +kernel
theorem dX11_bears_64 : decode cX11_bears 64 = .ok (.aload_n 0, 1) := by decide +kernel
theorem dX11_bears_65 : decode cX11_bears 65 = .ok (.iload_n 1, 1) := by decide +kernel
theorem dX11_bears_66 : decode cX11_bears 66 = .ok (.iload 4, 2) := by decide +kernel
theorem dX11_bears_68 : decode cX11_bears 68 = .ok (.invokevirtual 150, 3) := by decide +kernel
theorem dX11_bears_71 : decode cX11_bears 71 = .ok (.ifCond .eq 7, 3) := by decide +kernel
theorem dX11_bears_74 : decode cX11_bears 74 = .ok (.iconst 1, 1) := by decide +kernel
theorem dX11_bears_75 : decode cX11_bears 75 = .ok (.goto 4, 3) := by decide +kernel
theorem dX11_bears_78 : decode cX11_bears 78 = .ok (.iconst 0, 1) := by decide +kernel
theorem dX11_bears_79 : decode cX11_bears 79 = .ok (.istore_n 3, 1) := by decide +kernel
theorem dX11_bears_80 : decode cX11_bears 80 = .ok (.iinc 4 1, 3) := by decide +kernel
theorem dX11_bears_83 : decode cX11_bears 83 = .ok (.goto (-41), 3) := by decide +kernel
theorem dX11_bears_86 : decode cX11_bears 86 = .ok (.iload_n 3, 1) := by decide +kernel
theorem dX11_bears_87 : decode cX11_bears 87 = .ok (.ireturn, 1) := by decide +kernel
theorem dX11_best_0 : decode cX11_best 0 = .ok (.aload_n 0, 1) := by decide +kernel
theorem dX11_best_1 : decode cX11_best 1 = .ok (.iload_n 1, 1) := by decide +kernel
theorem dX11_best_2 : decode cX11_best 2 = .ok (.invokevirtual 162, 3) := by decide +kernel
theorem dX11_best_5 : decode cX11_best 5 = .ok (.ifCond .eq 22, 3) := by decide +kernel
theorem dX11_best_8 : decode cX11_best 8 = .ok (.iload_n 2, 1) := by decide +kernel
theorem dX11_best_9 : decode cX11_best 9 = .ok (.iconst 0, 1) := by decide +kernel
theorem dX11_best_10 : decode cX11_best 10 = .ok (.bipush 99, 2) := by decide +kernel
theorem dX11_best_12 : decode cX11_best 12 = .ok (.invokestatic 72, 3) := by decide +kernel
theorem dX11_best_15 : decode cX11_best 15 = .ok (.ifCond .eq 12, 3) := by decide +kernel
theorem dX11_best_18 : decode cX11_best 18 = .ok (.iload_n 3, 1) := by decide +kernel
theorem dX11_best_19 : decode cX11_best 19 = .ok (.iconst 0, 1) := by decide +kernel
theorem dX11_best_20 : decode cX11_best 20 = .ok (.iconst 1, 1) := by decide +kernel
theorem dX11_best_21 : decode cX11_best 21 = .ok (.invokestatic 72, 3) := by decide +kernel
theorem dX11_best_24 : decode cX11_best 24 = .ok (.ifCond .ne 5, 3) := by decide +kernel
theorem dX11_best_27 : decode cX11_best 27 = .ok (.iconst (-1), 1) := by decide +kernel
theorem dX11_best_28 : decode cX11_best 28 = .ok (.ireturn, 1) := by decide +kernel
theorem dX11_best_29 : decode cX11_best 29 = .ok (.iconst 0, 1) := by decide +kernel
theorem dX11_best_30 : decode cX11_best 30 = .ok (.istore 4, 2) := by decide +kernel
theorem dX11_best_32 : decode cX11_best 32 = .ok (.iconst 1, 1) := by decide +kernel
theorem dX11_best_33 : decode cX11_best 33 = .ok (.istore 5, 2) := by decide +kernel
theorem dX11_best_35 : decode cX11_best 35 = .ok (.iload 5, 2) := by decide +kernel
theorem dX11_best_37 : decode cX11_best 37 = .ok (.iconst 1, 1) := by decide +kernel
theorem dX11_best_38 : decode cX11_best 38 = .ok (.aload_n 0, 1) := by decide +kernel
theorem dX11_best_39 : decode cX11_best 39 = .ok (.getfield 68, 3) := by decide +kernel
theorem dX11_best_42 : decode cX11_best 42 = .ok (.ishl, 1) := by decide +kernel
theorem dX11_best_43 : decode cX11_best 43 = .ok (.if_icmp .ge 101, 3) := by decide +kernel
theorem dX11_best_46 : decode cX11_best 46 = .ok (.aload_n 0, 1) := by decide +kernel
theorem dX11_best_47 : decode cX11_best 47 = .ok (.iload_n 1, 1) := by decide +kernel
theorem dX11_best_48 : decode cX11_best 48 = .ok (.iload 5, 2) := by decide +kernel
theorem dX11_best_50 : decode cX11_best 50 = .ok (.invokevirtual 206, 3) := by decide +kernel
theorem dX11_best_53 : decode cX11_best 53 = .ok (.ifCond .eq 85, 3) := by decide +kernel
theorem dX11_best_56 : decode cX11_best 56 = .ok (.aload_n 0, 1) := by decide +kernel
theorem dX11_best_57 : decode cX11_best 57 = .ok (.iload_n 1, 1) := by decide +kernel
theorem dX11_best_58 : decode cX11_best 58 = .ok (.iload 5, 2) := by decide +kernel
theorem dX11_best_60 : decode cX11_best 60 = .ok (.invokevirtual 200, 3) := by decide +kernel
theorem dX11_best_63 : decode cX11_best 63 = .ok (.iload_n 2, 1) := by decide +kernel
theorem dX11_best_64 : decode cX11_best 64 = .ok (.if_icmp .gt 74, 3) := by decide +kernel
theorem dX11_best_67 : decode cX11_best 67 = .ok (.aload_n 0, 1) := by decide +kernel
theorem dX11_best_68 : decode cX11_best 68 = .ok (.iload_n 1, 1) := by decide +kernel
theorem dX11_best_69 : decode cX11_best 69 = .ok (.iload 5, 2) := by decide +kernel
theorem dX11_best_71 : decode cX11_best 71 = .ok (.invokevirtual 197, 3) := by decide +kernel
theorem dX11_best_74 : decode cX11_best 74 = .ok (.ifCond .eq 64, 3) := by decide +kernel
theorem dX11_best_77 : decode cX11_best 77 = .ok (.iload 5, 2) := by decide +kernel
theorem dX11_best_79 : decode cX11_best 79 = .ok (.invokestatic 175, 3) := by decide +kernel
theorem dX11_best_82 : decode cX11_best 82 = .ok (.iload 4, 2) := by decide +kernel
theorem dX11_best_84 : decode cX11_best 84 = .ok (.invokestatic 175, 3) := by decide +kernel
theorem dX11_best_87 : decode cX11_best 87 = .ok (.isub, 1) := by decide +kernel
theorem dX11_best_88 : decode cX11_best 88 = .ok (.istore 6, 2) := by decide +kernel
theorem dX11_best_90 : decode cX11_best 90 = .ok (.iload 6, 2) := by decide +kernel
theorem dX11_best_92 : decode cX11_best 92 = .ok (.ifCond .gt 25, 3) := by decide +kernel
theorem dX11_best_95 : decode cX11_best 95 = .ok (.iload 6, 2) := by decide +kernel
theorem dX11_best_97 : decode cX11_best 97 = .ok (.ifCond .ne 24, 3) := by decide +kernel
theorem dX11_best_100 : decode cX11_best 100 = .ok (.aload_n 0, 1) := by decide +kernel
theorem dX11_best_101 : decode cX11_best 101 = .ok (.iload_n 1, 1) := by decide +kernel
theorem dX11_best_102 : decode cX11_best 102 = .ok (.iload 5, 2) := by decide +kernel
theorem dX11_best_104 : decode cX11_best 104 = .ok (.invokevirtual 200, 3) := by decide +kernel
theorem dX11_best_107 : decode cX11_best 107 = .ok (.aload_n 0, 1) := by decide +kernel
theorem dX11_best_108 : decode cX11_best 108 = .ok (.iload_n 1, 1) := by decide +kernel
theorem dX11_best_109 : decode cX11_best 109 = .ok (.iload 4, 2) := by decide +kernel
theorem dX11_best_111 : decode cX11_best 111 = .ok (.invokevirtual 200, 3) := by decide +kernel
theorem dX11_best_114 : decode cX11_best 114 = .ok (.if_icmp .ge 7, 3) := by decide +kernel
theorem dX11_best_117 : decode cX11_best 117 = .ok (.iconst 1, 1) := by decide +kernel
theorem dX11_best_118 : decode cX11_best 118 = .ok (.goto 4, 3) := by decide +kernel
theorem dX11_best_121 : decode cX11_best 121 = .ok (.iconst 0, 1) := by decide +kernel
theorem dX11_best_122 : decode cX11_best 122 = .ok (.istore 7, 2) := by decide +kernel
theorem dX11_best_124 : decode cX11_best 124 = .ok (.iload 7, 2) := by decide +kernel
theorem dX11_best_126 : decode cX11_best 126 = .ok (.ifCond .eq 8, 3) := by decide +kernel
theorem dX11_best_129 : decode cX11_best 129 = .ok (.iload 5, 2) := by decide +kernel
theorem dX11_best_131 : decode cX11_best 131 = .ok (.goto 5, 3) := by decide +kernel
theorem dX11_best_134 : decode cX11_best 134 = .ok (.iload 4, 2) := by decide +kernel
theorem dX11_best_136 : decode cX11_best 136 = .ok (.istore 4, 2) := by decide +kernel
theorem dX11_best_138 : decode cX11_best 138 = .ok (.iinc 5 1, 3) := by decide +kernel
theorem dX11_best_141 : decode cX11_best 141 = .ok (.goto (-106), 3) := by decide +kernel
theorem dX11_best_144 : decode cX11_best 144 = .ok (.iload_n 3, 1) := by decide +kernel
theorem dX11_best_145 : decode cX11_best 145 = .ok (.ifCond .ne 8, 3) := by decide +kernel
theorem dX11_best_148 : decode cX11_best 148 = .ok (.iload 4, 2) := by decide +kernel
theorem dX11_best_150 : decode cX11_best 150 = .ok (.goto 10, 3) := by decide +kernel
theorem dX11_best_153 : decode cX11_best 153 = .ok (.aload_n 0, 1) := by decide +kernel
theorem dX11_best_154 : decode cX11_best 154 = .ok (.iload_n 1, 1) := by decide +kernel
theorem dX11_best_155 : decode cX11_best 155 = .ok (.iload 4, 2) := by decide +kernel
theorem dX11_best_157 : decode cX11_best 157 = .ok (.invokevirtual 200, 3) := by decide +kernel
theorem dX11_best_160 : decode cX11_best 160 = .ok (.ireturn, 1) := by decide +kernel
theorem dX11_between_0 : decode cX11_between 0 = .ok (.aload_n 0, 1) := by decide +kernel
theorem dX11_between_1 : decode cX11_between 1 = .ok (.getfield 28, 3) := by decide +kernel
theorem dX11_between_4 : decode cX11_between 4 = .ok (.bipush 55, 2) := by decide +kernel
theorem dX11_between_6 : decode cX11_between 6 = .ok (.iload_n 1, 1) := by decide +kernel
theorem dX11_between_7 : decode cX11_between 7 = .ok (.iadd, 1) := by decide +kernel
theorem dX11_between_8 : decode cX11_between 8 = .ok (.iaload, 1) := by decide +kernel
theorem dX11_between_9 : decode cX11_between 9 = .ok (.aload_n 0, 1) := by decide +kernel
theorem dX11_between_10 : decode cX11_between 10 = .ok (.getfield 28, 3) := by decide +kernel
theorem dX11_between_13 : decode cX11_between 13 = .ok (.bipush 55, 2) := by decide +kernel
theorem dX11_between_15 : decode cX11_between 15 = .ok (.iload_n 2, 1) := by decide +kernel
theorem dX11_between_16 : decode cX11_between 16 = .ok (.iadd, 1) := by decide +kernel
theorem dX11_between_17 : decode cX11_between 17 = .ok (.iaload, 1) := by decide +kernel
theorem dX11_between_18 : decode cX11_between 18 = .ok (.ixor, 1) := by decide +kernel
theorem dX11_between_19 : decode cX11_between 19 = .ok (.invokestatic 175, 3) := by decide +kernel
theorem dX11_between_22 : decode cX11_between 22 = .ok (.ireturn, 1) := by decide +kernel
theorem dX11_bits_0 : decode cX11_bits 0 = .ok (.iconst 0, 1) := by decide +kernel
theorem dX11_bits_1 : decode cX11_bits 1 = .ok (.istore_n 1, 1) := by decide +kernel
theorem dX11_bits_2 : decode cX11_bits 2 = .ok (.iconst 0, 1) := by decide +kernel
theorem dX11_bits_3 : decode cX11_bits 3 = .ok (.istore_n 2, 1) := by decide +kernel
theorem dX11_bits_4 : decode cX11_bits 4 = .ok (.iload_n 2, 1) := by decide +kernel
theorem dX11_bits_5 : decode cX11_bits 5 = .ok (.bipush 8, 2) := by decide +kernel
theorem dX11_bits_7 : decode cX11_bits 7 = .ok (.if_icmp .ge 17, 3) := by decide +kernel
theorem dX11_bits_10 : decode cX11_bits 10 = .ok (.iload_n 1, 1) := by decide +kernel
theorem dX11_bits_11 : decode cX11_bits 11 = .ok (.iload_n 0, 1) := by decide +kernel
theorem dX11_bits_12 : decode cX11_bits 12 = .ok (.iload_n 2, 1) := by decide +kernel
theorem dX11_bits_13 : decode cX11_bits 13 = .ok (.ishr, 1) := by decide +kernel
theorem dX11_bits_14 : decode cX11_bits 14 = .ok (.iconst 1, 1) := by decide +kernel
theorem dX11_bits_15 : decode cX11_bits 15 = .ok (.iand, 1) := by decide +kernel
theorem dX11_bits_16 : decode cX11_bits 16 = .ok (.iadd, 1) := by decide +kernel
theorem dX11_bits_17 : decode cX11_bits 17 = .ok (.istore_n 1, 1) := by decide +kernel
theorem dX11_bits_18 : decode cX11_bits 18 = .ok (.iinc 2 1, 3) := by decide +kernel
theorem dX11_bits_21 : decode cX11_bits 21 = .ok (.goto (-17), 3) := by decide +kernel
theorem dX11_bits_24 : decode cX11_bits 24 = .ok (.iload_n 1, 1) := by decide +kernel
theorem dX11_bits_25 : decode cX11_bits 25 = .ok (.ireturn, 1) := by decide +kernel
theorem dX11_can_0 : decode cX11_can 0 = .ok (.aload_n 0, 1) := by decide +kernel
theorem dX11_can_1 : decode cX11_can 1 = .ok (.getfield 28, 3) := by decide +kernel
theorem dX11_can_4 : decode cX11_can 4 = .ok (.bipush 49, 2) := by decide +kernel
theorem dX11_can_6 : decode cX11_can 6 = .ok (.iload_n 1, 1) := by decide +kernel
theorem dX11_can_7 : decode cX11_can 7 = .ok (.iadd, 1) := by decide +kernel
theorem dX11_can_8 : decode cX11_can 8 = .ok (.iaload, 1) := by decide +kernel
theorem dX11_can_9 : decode cX11_can 9 = .ok (.iload_n 2, 1) := by decide +kernel
theorem dX11_can_10 : decode cX11_can 10 = .ok (.invokestatic 140, 3) := by decide +kernel
theorem dX11_can_13 : decode cX11_can 13 = .ok (.ireturn, 1) := by decide +kernel
theorem dX11_cast_0 : decode cX11_cast 0 = .ok (.aload_n 0, 1) := by decide +kernel
theorem dX11_cast_1 : decode cX11_cast 1 = .ok (.iload_n 1, 1) := by decide +kernel
theorem dX11_cast_2 : decode cX11_cast 2 = .ok (.invokevirtual 162, 3) := by decide +kernel
theorem dX11_cast_5 : decode cX11_cast 5 = .ok (.ifCond .ne 5, 3) := by decide +kernel
theorem dX11_cast_8 : decode cX11_cast 8 = .ok (.iconst (-1), 1) := by decide +kernel
theorem dX11_cast_9 : decode cX11_cast 9 = .ok (.ireturn, 1) := by decide +kernel
theorem dX11_cast_10 : decode cX11_cast 10 = .ok (.iload_n 2, 1) := by decide +kernel
theorem dX11_cast_11 : decode cX11_cast 11 = .ok (.tableswitch 119 0 7 #[45, 52, 59, 69, 79, 93, 103, 109], 45) := by decide +kernel
theorem dX11_cast_56 : decode cX11_cast 56 = .ok (.aload_n 0, 1) := by decide +kernel
theorem dX11_cast_57 : decode cX11_cast 57 = .ok (.getfield 22, 3) := by decide +kernel
theorem dX11_cast_60 : decode cX11_cast 60 = .ok (.iload_n 1, 1) := by decide +kernel
theorem dX11_cast_61 : decode cX11_cast 61 = .ok (.iaload, 1) := by decide +kernel
theorem dX11_cast_62 : decode cX11_cast 62 = .ok (.ireturn, 1) := by decide +kernel
theorem dX11_cast_63 : decode cX11_cast 63 = .ok (.aload_n 0, 1) := by decide +kernel
theorem dX11_cast_64 : decode cX11_cast 64 = .ok (.getfield 25, 3) := by decide +kernel
theorem dX11_cast_67 : decode cX11_cast 67 = .ok (.iload_n 1, 1) := by decide +kernel
theorem dX11_cast_68 : decode cX11_cast 68 = .ok (.iaload, 1) := by decide +kernel
theorem dX11_cast_69 : decode cX11_cast 69 = .ok (.ireturn, 1) := by decide +kernel
theorem dX11_cast_70 : decode cX11_cast 70 = .ok (.aload_n 0, 1) := by decide +kernel
theorem dX11_cast_71 : decode cX11_cast 71 = .ok (.getfield 28, 3) := by decide +kernel
theorem dX11_cast_74 : decode cX11_cast 74 = .ok (.bipush 55, 2) := by decide +kernel
theorem dX11_cast_76 : decode cX11_cast 76 = .ok (.iload_n 1, 1) := by decide +kernel
theorem dX11_cast_77 : decode cX11_cast 77 = .ok (.iadd, 1) := by decide +kernel
theorem dX11_cast_78 : decode cX11_cast 78 = .ok (.iaload, 1) := by decide +kernel
theorem dX11_cast_79 : decode cX11_cast 79 = .ok (.ireturn, 1) := by decide +kernel
theorem dX11_cast_80 : decode cX11_cast 80 = .ok (.aload_n 0, 1) := by decide +kernel
theorem dX11_cast_81 : decode cX11_cast 81 = .ok (.getfield 28, 3) := by decide +kernel
theorem dX11_cast_84 : decode cX11_cast 84 = .ok (.bipush 61, 2) := by decide +kernel
theorem dX11_cast_86 : decode cX11_cast 86 = .ok (.iload_n 1, 1) := by decide +kernel
theorem dX11_cast_87 : decode cX11_cast 87 = .ok (.iadd, 1) := by decide +kernel
theorem dX11_cast_88 : decode cX11_cast 88 = .ok (.iaload, 1) := by decide +kernel
theorem dX11_cast_89 : decode cX11_cast 89 = .ok (.ireturn, 1) := by decide +kernel
theorem dX11_cast_90 : decode cX11_cast 90 = .ok (.aload_n 0, 1) := by decide +kernel
theorem dX11_cast_91 : decode cX11_cast 91 = .ok (.iload_n 1, 1) := by decide +kernel
theorem dX11_cast_92 : decode cX11_cast 92 = .ok (.invokevirtual 144, 3) := by decide +kernel
theorem dX11_cast_95 : decode cX11_cast 95 = .ok (.ifCond .eq 7, 3) := by decide +kernel
theorem dX11_cast_98 : decode cX11_cast 98 = .ok (.iconst 1, 1) := by decide +kernel
theorem dX11_cast_99 : decode cX11_cast 99 = .ok (.goto 4, 3) := by decide +kernel
theorem dX11_cast_102 : decode cX11_cast 102 = .ok (.iconst 0, 1) := by decide +kernel
theorem dX11_cast_103 : decode cX11_cast 103 = .ok (.ireturn, 1) := by decide +kernel
theorem dX11_cast_104 : decode cX11_cast 104 = .ok (.aload_n 0, 1) := by decide +kernel
theorem dX11_cast_105 : decode cX11_cast 105 = .ok (.getfield 28, 3) := by decide +kernel
theorem dX11_cast_108 : decode cX11_cast 108 = .ok (.bipush 49, 2) := by decide +kernel
theorem dX11_cast_110 : decode cX11_cast 110 = .ok (.iload_n 1, 1) := by decide +kernel
theorem dX11_cast_111 : decode cX11_cast 111 = .ok (.iadd, 1) := by decide +kernel
theorem dX11_cast_112 : decode cX11_cast 112 = .ok (.iaload, 1) := by decide +kernel
theorem dX11_cast_113 : decode cX11_cast 113 = .ok (.ireturn, 1) := by decide +kernel
theorem dX11_cast_114 : decode cX11_cast 114 = .ok (.aload_n 0, 1) := by decide +kernel
theorem dX11_cast_115 : decode cX11_cast 115 = .ok (.iload_n 1, 1) := by decide +kernel
theorem dX11_cast_116 : decode cX11_cast 116 = .ok (.invokevirtual 165, 3) := by decide +kernel
theorem dX11_cast_119 : decode cX11_cast 119 = .ok (.ireturn, 1) := by decide +kernel
theorem dX11_cast_120 : decode cX11_cast 120 = .ok (.aload_n 0, 1) := by decide +kernel
theorem dX11_cast_121 : decode cX11_cast 121 = .ok (.getfield 28, 3) := by decide +kernel
theorem dX11_cast_124 : decode cX11_cast 124 = .ok (.bipush 68, 2) := by decide +kernel
theorem dX11_cast_126 : decode cX11_cast 126 = .ok (.iload_n 1, 1) := by decide +kernel
theorem dX11_cast_127 : decode cX11_cast 127 = .ok (.iadd, 1) := by decide +kernel
theorem dX11_cast_128 : decode cX11_cast 128 = .ok (.iaload, 1) := by decide +kernel
theorem dX11_cast_129 : decode cX11_cast 129 = .ok (.ireturn, 1) := by decide +kernel
theorem dX11_cast_130 : decode cX11_cast 130 = .ok (.iconst (-1), 1) := by decide +kernel
theorem dX11_cast_131 : decode cX11_cast 131 = .ok (.ireturn, 1) := by decide +kernel
theorem dX11_clear_0 : decode cX11_clear 0 = .ok (.aload_n 0, 1) := by decide +kernel
theorem dX11_clear_1 : decode cX11_clear 1 = .ok (.getfield 79, 3) := by decide +kernel
theorem dX11_clear_4 : decode cX11_clear 4 = .ok (.istore_n 1, 1) := by decide +kernel
theorem dX11_clear_5 : decode cX11_clear 5 = .ok (.aload_n 0, 1) := by decide +kernel
theorem dX11_clear_6 : decode cX11_clear 6 = .ok (.iconst 0, 1) := by decide +kernel
theorem dX11_clear_7 : decode cX11_clear 7 = .ok (.putfield 79, 3) := by decide +kernel
theorem dX11_clear_10 : decode cX11_clear 10 = .ok (.iload_n 1, 1) := by decide +kernel
theorem dX11_clear_11 : decode cX11_clear 11 = .ok (.ireturn, 1) := by decide +kernel
theorem dX11_count_0 : decode cX11_count 0 = .ok (.iload_n 1, 1) := by decide +kernel
theorem dX11_count_1 : decode cX11_count 1 = .ok (.tableswitch 63 0 4 #[35, 40, 45, 50, 58], 35) := by decide +kernel
theorem dX11_count_36 : decode cX11_count 36 = .ok (.aload_n 0, 1) := by decide +kernel
theorem dX11_count_37 : decode cX11_count 37 = .ok (.getfield 68, 3) := by decide +kernel
theorem dX11_count_40 : decode cX11_count 40 = .ok (.ireturn, 1) := by decide +kernel
theorem dX11_count_41 : decode cX11_count 41 = .ok (.aload_n 0, 1) := by decide +kernel
theorem dX11_count_42 : decode cX11_count 42 = .ok (.getfield 76, 3) := by decide +kernel
theorem dX11_count_45 : decode cX11_count 45 = .ok (.ireturn, 1) := by decide +kernel
theorem dX11_count_46 : decode cX11_count 46 = .ok (.aload_n 0, 1) := by decide +kernel
theorem dX11_count_47 : decode cX11_count 47 = .ok (.getfield 137, 3) := by decide +kernel
theorem dX11_count_50 : decode cX11_count 50 = .ok (.ireturn, 1) := by decide +kernel
theorem dX11_count_51 : decode cX11_count 51 = .ok (.aload_n 0, 1) := by decide +kernel
theorem dX11_count_52 : decode cX11_count 52 = .ok (.getfield 28, 3) := by decide +kernel
theorem dX11_count_55 : decode cX11_count 55 = .ok (.bipush 74, 2) := by decide +kernel
theorem dX11_count_57 : decode cX11_count 57 = .ok (.iaload, 1) := by decide +kernel
theorem dX11_count_58 : decode cX11_count 58 = .ok (.ireturn, 1) := by decide +kernel
theorem dX11_count_59 : decode cX11_count 59 = .ok (.aload_n 0, 1) := by decide +kernel
theorem dX11_count_60 : decode cX11_count 60 = .ok (.getfield 79, 3) := by decide +kernel
theorem dX11_count_63 : decode cX11_count 63 = .ok (.ireturn, 1) := by decide +kernel
theorem dX11_count_64 : decode cX11_count 64 = .ok (.iconst (-1), 1) := by decide +kernel
theorem dX11_count_65 : decode cX11_count 65 = .ok (.ireturn, 1) := by decide +kernel
theorem dX11_cracksOf_0 : decode cX11_cracksOf 0 = .ok (.iconst 0, 1) := by decide +kernel
theorem dX11_cracksOf_1 : decode cX11_cracksOf 1 = .ok (.istore_n 3, 1) := by decide +kernel
theorem dX11_cracksOf_2 : decode cX11_cracksOf 2 = .ok (.iconst 0, 1) := by decide +kernel
theorem dX11_cracksOf_3 : decode cX11_cracksOf 3 = .ok (.istore 4, 2) := by decide +kernel
theorem dX11_cracksOf_5 : decode cX11_cracksOf 5 = .ok (.iload 4, 2) := by decide +kernel
theorem dX11_cracksOf_7 : decode cX11_cracksOf 7 = .ok (.aload_n 0, 1) := by decide +kernel
theorem dX11_cracksOf_8 : decode cX11_cracksOf 8 = .ok (.getfield 68, 3) := by decide +kernel
theorem dX11_cracksOf_11 : decode cX11_cracksOf 11 = .ok (.if_icmp .ge 40, 3) := by decide +kernel
theorem dX11_cracksOf_14 : decode cX11_cracksOf 14 = .ok (.iload_n 3, 1) := by decide +kernel
theorem dX11_cracksOf_15 : decode cX11_cracksOf 15 = .ok (.iload_n 2, 1) := by decide +kernel
theorem dX11_cracksOf_16 : decode cX11_cracksOf 16 = .ok (.iload 4, 2) := by decide +kernel
theorem dX11_cracksOf_18 : decode cX11_cracksOf 18 = .ok (.invokestatic 140, 3) := by decide +kernel
theorem dX11_cracksOf_21 : decode cX11_cracksOf 21 = .ok (.ifCond .eq 21, 3) := by decide +kernel
theorem dX11_cracksOf_24 : decode cX11_cracksOf 24 = .ok (.aload_n 0, 1) := by decide +kernel
theorem dX11_cracksOf_25 : decode cX11_cracksOf 25 = .ok (.getfield 7, 3) := by decide +kernel
theorem dX11_cracksOf_28 : decode cX11_cracksOf 28 = .ok (.iload 4, 2) := by decide +kernel
theorem dX11_cracksOf_30 : decode cX11_cracksOf 30 = .ok (.iaload, 1) := by decide +kernel
theorem dX11_cracksOf_31 : decode cX11_cracksOf 31 = .ok (.aload_n 0, 1) := by decide +kernel
theorem dX11_cracksOf_32 : decode cX11_cracksOf 32 = .ok (.iload_n 1, 1) := by decide +kernel
theorem dX11_cracksOf_33 : decode cX11_cracksOf 33 = .ok (.iload 4, 2) := by decide +kernel
theorem dX11_cracksOf_35 : decode cX11_cracksOf 35 = .ok (.invokevirtual 188, 3) := by decide +kernel
theorem dX11_cracksOf_38 : decode cX11_cracksOf 38 = .ok (.imul, 1) := by decide +kernel
theorem dX11_cracksOf_39 : decode cX11_cracksOf 39 = .ok (.goto 4, 3) := by decide +kernel
theorem dX11_cracksOf_42 : decode cX11_cracksOf 42 = .ok (.iconst 0, 1) := by decide +kernel
theorem dX11_cracksOf_43 : decode cX11_cracksOf 43 = .ok (.iadd, 1) := by decide +kernel
theorem dX11_cracksOf_44 : decode cX11_cracksOf 44 = .ok (.istore_n 3, 1) := by decide +kernel
theorem dX11_cracksOf_45 : decode cX11_cracksOf 45 = .ok (.iinc 4 1, 3) := by decide +kernel
theorem dX11_cracksOf_48 : decode cX11_cracksOf 48 = .ok (.goto (-43), 3) := by decide +kernel
theorem dX11_cracksOf_51 : decode cX11_cracksOf 51 = .ok (.iload_n 3, 1) := by decide +kernel
theorem dX11_cracksOf_52 : decode cX11_cracksOf 52 = .ok (.ireturn, 1) := by decide +kernel
theorem dX11_far_0 : decode cX11_far 0 = .ok (.aload_n 0, 1) := by decide +kernel
theorem dX11_far_1 : decode cX11_far 1 = .ok (.iload_n 1, 1) := by decide +kernel
theorem dX11_far_2 : decode cX11_far 2 = .ok (.invokevirtual 162, 3) := by decide +kernel
theorem dX11_far_5 : decode cX11_far 5 = .ok (.ifCond .eq 27, 3) := by decide +kernel
theorem dX11_far_8 : decode cX11_far 8 = .ok (.aload_n 0, 1) := by decide +kernel
theorem dX11_far_9 : decode cX11_far 9 = .ok (.iload_n 2, 1) := by decide +kernel
theorem dX11_far_10 : decode cX11_far 10 = .ok (.invokevirtual 156, 3) := by decide +kernel
theorem dX11_far_13 : decode cX11_far 13 = .ok (.ifCond .eq 19, 3) := by decide +kernel
theorem dX11_far_16 : decode cX11_far 16 = .ok (.aload_n 0, 1) := by decide +kernel
theorem dX11_far_17 : decode cX11_far 17 = .ok (.getfield 28, 3) := by decide +kernel
theorem dX11_far_20 : decode cX11_far 20 = .ok (.iconst 1, 1) := by decide +kernel
theorem dX11_far_21 : decode cX11_far 21 = .ok (.bipush 8, 2) := by decide +kernel
theorem dX11_far_23 : decode cX11_far 23 = .ok (.iload_n 1, 1) := by decide +kernel
theorem dX11_far_24 : decode cX11_far 24 = .ok (.imul, 1) := by decide +kernel
theorem dX11_far_25 : decode cX11_far 25 = .ok (.iadd, 1) := by decide +kernel
theorem dX11_far_26 : decode cX11_far 26 = .ok (.iload_n 2, 1) := by decide +kernel
theorem dX11_far_27 : decode cX11_far 27 = .ok (.iadd, 1) := by decide +kernel
theorem dX11_far_28 : decode cX11_far 28 = .ok (.iaload, 1) := by decide +kernel
theorem dX11_far_29 : decode cX11_far 29 = .ok (.goto 4, 3) := by decide +kernel
theorem dX11_far_32 : decode cX11_far 32 = .ok (.iconst (-1), 1) := by decide +kernel
theorem dX11_far_33 : decode cX11_far 33 = .ok (.ireturn, 1) := by decide +kernel
theorem dX11_forget_0 : decode cX11_forget 0 = .ok (.aload_n 0, 1) := by decide +kernel
theorem dX11_forget_1 : decode cX11_forget 1 = .ok (.getfield 137, 3) := by decide +kernel
theorem dX11_forget_4 : decode cX11_forget 4 = .ok (.istore_n 1, 1) := by decide +kernel
theorem dX11_forget_5 : decode cX11_forget 5 = .ok (.aload_n 0, 1) := by decide +kernel
theorem dX11_forget_6 : decode cX11_forget 6 = .ok (.iconst 0, 1) := by decide +kernel
theorem dX11_forget_7 : decode cX11_forget 7 = .ok (.putfield 137, 3) := by decide +kernel
theorem dX11_forget_10 : decode cX11_forget 10 = .ok (.iload_n 1, 1) := by decide +kernel
theorem dX11_forget_11 : decode cX11_forget 11 = .ok (.ireturn, 1) := by decide +kernel
theorem dX11_givenTo_0 : decode cX11_givenTo 0 = .ok (.iconst 0, 1) := by decide +kernel
theorem dX11_givenTo_1 : decode cX11_givenTo 1 = .ok (.istore_n 3, 1) := by decide +kernel
theorem dX11_givenTo_2 : decode cX11_givenTo 2 = .ok (.iload_n 3, 1) := by decide +kernel
theorem dX11_givenTo_3 : decode cX11_givenTo 3 = .ok (.aload_n 0, 1) := by decide +kernel
theorem dX11_givenTo_4 : decode cX11_givenTo 4 = .ok (.getfield 68, 3) := by decide +kernel
theorem dX11_givenTo_7 : decode cX11_givenTo 7 = .ok (.if_icmp .ge 75, 3) := by decide +kernel
theorem dX11_givenTo_10 : decode cX11_givenTo 10 = .ok (.aload_n 0, 1) := by decide +kernel
theorem dX11_givenTo_11 : decode cX11_givenTo 11 = .ok (.iload_n 1, 1) := by decide +kernel
theorem dX11_givenTo_12 : decode cX11_givenTo 12 = .ok (.iload_n 3, 1) := by decide +kernel
theorem dX11_givenTo_13 : decode cX11_givenTo 13 = .ok (.invokevirtual 153, 3) := by decide +kernel
theorem dX11_givenTo_16 : decode cX11_givenTo 16 = .ok (.ifCond .eq 15, 3) := by decide +kernel
theorem dX11_givenTo_19 : decode cX11_givenTo 19 = .ok (.iload_n 2, 1) := by decide +kernel
theorem dX11_givenTo_20 : decode cX11_givenTo 20 = .ok (.iload_n 3, 1) := by decide +kernel
theorem dX11_givenTo_21 : decode cX11_givenTo 21 = .ok (.invokestatic 140, 3) := by decide +kernel
theorem dX11_givenTo_24 : decode cX11_givenTo 24 = .ok (.ifCond .ne 7, 3) := by decide +kernel
theorem dX11_givenTo_27 : decode cX11_givenTo 27 = .ok (.iconst 1, 1) := by decide +kernel
theorem dX11_givenTo_28 : decode cX11_givenTo 28 = .ok (.goto 4, 3) := by decide +kernel
theorem dX11_givenTo_31 : decode cX11_givenTo 31 = .ok (.iconst 0, 1) := by decide +kernel
theorem dX11_givenTo_32 : decode cX11_givenTo 32 = .ok (.istore 4, 2) := by decide +kernel
theorem dX11_givenTo_34 : decode cX11_givenTo 34 = .ok (.iload 4, 2) := by decide +kernel
theorem dX11_givenTo_36 : decode cX11_givenTo 36 = .ok (.ifCond .eq 40, 3) := by decide +kernel
theorem dX11_givenTo_39 : decode cX11_givenTo 39 = .ok (.iconst 1, 1) := by decide +kernel
theorem dX11_givenTo_40 : decode cX11_givenTo 40 = .ok (.aload_n 0, 1) := by decide +kernel
theorem dX11_givenTo_41 : decode cX11_givenTo 41 = .ok (.getfield 65, 3) := by decide +kernel
theorem dX11_givenTo_44 : decode cX11_givenTo 44 = .ok (.sipush 256, 3) := by decide +kernel
theorem dX11_givenTo_47 : decode cX11_givenTo 47 = .ok (.iload_n 1, 1) := by decide +kernel
theorem dX11_givenTo_48 : decode cX11_givenTo 48 = .ok (.iconst 1, 1) := by decide +kernel
theorem dX11_givenTo_49 : decode cX11_givenTo 49 = .ok (.iadd, 1) := by decide +kernel
theorem dX11_givenTo_50 : decode cX11_givenTo 50 = .ok (.imul, 1) := by decide +kernel
theorem dX11_givenTo_51 : decode cX11_givenTo 51 = .ok (.iload_n 2, 1) := by decide +kernel
theorem dX11_givenTo_52 : decode cX11_givenTo 52 = .ok (.iconst 1, 1) := by decide +kernel
theorem dX11_givenTo_53 : decode cX11_givenTo 53 = .ok (.iload_n 3, 1) := by decide +kernel
theorem dX11_givenTo_54 : decode cX11_givenTo 54 = .ok (.ishl, 1) := by decide +kernel
theorem dX11_givenTo_55 : decode cX11_givenTo 55 = .ok (.ior, 1) := by decide +kernel
theorem dX11_givenTo_56 : decode cX11_givenTo 56 = .ok (.iadd, 1) := by decide +kernel
theorem dX11_givenTo_57 : decode cX11_givenTo 57 = .ok (.iaload, 1) := by decide +kernel
theorem dX11_givenTo_58 : decode cX11_givenTo 58 = .ok (.iadd, 1) := by decide +kernel
theorem dX11_givenTo_59 : decode cX11_givenTo 59 = .ok (.aload_n 0, 1) := by decide +kernel
theorem dX11_givenTo_60 : decode cX11_givenTo 60 = .ok (.getfield 65, 3) := by decide +kernel
theorem dX11_givenTo_63 : decode cX11_givenTo 63 = .ok (.sipush 256, 3) := by decide +kernel
theorem dX11_givenTo_66 : decode cX11_givenTo 66 = .ok (.iload_n 1, 1) := by decide +kernel
theorem dX11_givenTo_67 : decode cX11_givenTo 67 = .ok (.imul, 1) := by decide +kernel
theorem dX11_givenTo_68 : decode cX11_givenTo 68 = .ok (.iload_n 2, 1) := by decide +kernel
theorem dX11_givenTo_69 : decode cX11_givenTo 69 = .ok (.iadd, 1) := by decide +kernel
theorem dX11_givenTo_70 : decode cX11_givenTo 70 = .ok (.iaload, 1) := by decide +kernel
theorem dX11_givenTo_71 : decode cX11_givenTo 71 = .ok (.if_icmp .ne 5, 3) := by decide +kernel
theorem dX11_givenTo_74 : decode cX11_givenTo 74 = .ok (.iload_n 3, 1) := by decide +kernel
theorem dX11_givenTo_75 : decode cX11_givenTo 75 = .ok (.ireturn, 1) := by decide +kernel
theorem dX11_givenTo_76 : decode cX11_givenTo 76 = .ok (.iinc 3 1, 3) := by decide +kernel
theorem dX11_givenTo_79 : decode cX11_givenTo 79 = .ok (.goto (-77), 3) := by decide +kernel
theorem dX11_givenTo_82 : decode cX11_givenTo 82 = .ok (.bipush (-9), 2) := by decide +kernel
theorem dX11_givenTo_84 : decode cX11_givenTo 84 = .ok (.ireturn, 1) := by decide +kernel
theorem dX11_hall_0 : decode cX11_hall 0 = .ok (.aload_n 0, 1) := by decide +kernel
theorem dX11_hall_1 : decode cX11_hall 1 = .ok (.iconst 0, 1) := by decide +kernel
theorem dX11_hall_2 : decode cX11_hall 2 = .ok (.putfield 82, 3) := by decide +kernel
theorem dX11_hall_5 : decode cX11_hall 5 = .ok (.aload_n 0, 1) := by decide +kernel
theorem dX11_hall_6 : decode cX11_hall 6 = .ok (.iconst 0, 1) := by decide +kernel
theorem dX11_hall_7 : decode cX11_hall 7 = .ok (.putfield 105, 3) := by decide +kernel
theorem dX11_hall_10 : decode cX11_hall 10 = .ok (.aload_n 0, 1) := by decide +kernel
theorem dX11_hall_11 : decode cX11_hall 11 = .ok (.iconst 0, 1) := by decide +kernel
theorem dX11_hall_12 : decode cX11_hall 12 = .ok (.putfield 128, 3) := by decide +kernel
theorem dX11_hall_15 : decode cX11_hall 15 = .ok (.aload_n 0, 1) := by decide +kernel
theorem dX11_hall_16 : decode cX11_hall 16 = .ok (.iconst 0, 1) := by decide +kernel
theorem dX11_hall_17 : decode cX11_hall 17 = .ok (.putfield 112, 3) := by decide +kernel
theorem dX11_hall_20 : decode cX11_hall 20 = .ok (.aload_n 0, 1) := by decide +kernel
theorem dX11_hall_21 : decode cX11_hall 21 = .ok (.iconst 0, 1) := by decide +kernel
theorem dX11_hall_22 : decode cX11_hall 22 = .ok (.putfield 119, 3) := by decide +kernel
theorem dX11_hall_25 : decode cX11_hall 25 = .ok (.aload_n 0, 1) := by decide +kernel
theorem dX11_hall_26 : decode cX11_hall 26 = .ok (.invokevirtual 109, 3) := by decide +kernel
theorem dX11_hall_29 : decode cX11_hall 29 = .ok (.aload_n 0, 1) := by decide +kernel
theorem dX11_hall_30 : decode cX11_hall 30 = .ok (.getfield 95, 3) := by decide +kernel
theorem dX11_hall_33 : decode cX11_hall 33 = .ok (.ifCond .eq 27, 3) := by decide +kernel
theorem dX11_hall_36 : decode cX11_hall 36 = .ok (.aload_n 0, 1) := by decide +kernel
theorem dX11_hall_37 : decode cX11_hall 37 = .ok (.getfield 105, 3) := by decide +kernel
theorem dX11_hall_40 : decode cX11_hall 40 = .ok (.ifCond .ne 20, 3) := by decide +kernel
theorem dX11_hall_43 : decode cX11_hall 43 = .ok (.aload_n 0, 1) := by decide +kernel
theorem dX11_hall_44 : decode cX11_hall 44 = .ok (.invokevirtual 131, 3) := by decide +kernel
theorem dX11_hall_47 : decode cX11_hall 47 = .ok (.aload_n 0, 1) := by decide +kernel
theorem dX11_hall_48 : decode cX11_hall 48 = .ok (.dup, 1) := by decide +kernel
theorem dX11_hall_49 : decode cX11_hall 49 = .ok (.getfield 128, 3) := by decide +kernel
theorem dX11_hall_52 : decode cX11_hall 52 = .ok (.iconst 1, 1) := by decide +kernel
theorem dX11_hall_53 : decode cX11_hall 53 = .ok (.iadd, 1) := by decide +kernel
theorem dX11_hall_54 : decode cX11_hall 54 = .ok (.putfield 128, 3) := by decide +kernel
theorem dX11_hall_57 : decode cX11_hall 57 = .ok (.goto (-28), 3) := by decide +kernel
theorem dX11_hall_60 : decode cX11_hall 60 = .ok (.aload_n 0, 1) := by decide +kernel
theorem dX11_hall_61 : decode cX11_hall 61 = .ok (.getfield 105, 3) := by decide +kernel
theorem dX11_hall_64 : decode cX11_hall 64 = .ok (.ifCond .eq 11, 3) := by decide +kernel
theorem dX11_hall_67 : decode cX11_hall 67 = .ok (.bipush (-10), 2) := by decide +kernel
theorem dX11_hall_69 : decode cX11_hall 69 = .ok (.aload_n 0, 1) := by decide +kernel
theorem dX11_hall_70 : decode cX11_hall 70 = .ok (.getfield 89, 3) := by decide +kernel
theorem dX11_hall_73 : decode cX11_hall 73 = .ok (.isub, 1) := by decide +kernel
theorem dX11_hall_74 : decode cX11_hall 74 = .ok (.ireturn, 1) := by decide +kernel
theorem dX11_hall_75 : decode cX11_hall 75 = .ok (.aload_n 0, 1) := by decide +kernel
theorem dX11_hall_76 : decode cX11_hall 76 = .ok (.invokevirtual 134, 3) := by decide +kernel
theorem dX11_hall_79 : decode cX11_hall 79 = .ok (.aload_n 0, 1) := by decide +kernel
theorem dX11_hall_80 : decode cX11_hall 80 = .ok (.getfield 128, 3) := by decide +kernel
theorem dX11_hall_83 : decode cX11_hall 83 = .ok (.ireturn, 1) := by decide +kernel
theorem dX11_has_0 : decode cX11_has 0 = .ok (.iload_n 0, 1) := by decide +kernel
theorem dX11_has_1 : decode cX11_has 1 = .ok (.iload_n 1, 1) := by decide +kernel
theorem dX11_has_2 : decode cX11_has 2 = .ok (.ishr, 1) := by decide +kernel
theorem dX11_has_3 : decode cX11_has 3 = .ok (.iconst 1, 1) := by decide +kernel
theorem dX11_has_4 : decode cX11_has 4 = .ok (.iand, 1) := by decide +kernel
theorem dX11_has_5 : decode cX11_has 5 = .ok (.iconst 1, 1) := by decide +kernel
theorem dX11_has_6 : decode cX11_has 6 = .ok (.if_icmp .ne 7, 3) := by decide +kernel
theorem dX11_has_9 : decode cX11_has 9 = .ok (.iconst 1, 1) := by decide +kernel
theorem dX11_has_10 : decode cX11_has 10 = .ok (.goto 4, 3) := by decide +kernel
theorem dX11_has_13 : decode cX11_has 13 = .ok (.iconst 0, 1) := by decide +kernel
theorem dX11_has_14 : decode cX11_has 14 = .ok (.ireturn, 1) := by decide +kernel
theorem dX11_hasPart_0 : decode cX11_hasPart 0 = .ok (.aload_n 0, 1) := by decide +kernel
theorem dX11_hasPart_1 : decode cX11_hasPart 1 = .ok (.getfield 16, 3) := by decide +kernel
theorem dX11_hasPart_4 : decode cX11_hasPart 4 = .ok (.iload_n 2, 1) := by decide +kernel
theorem dX11_hasPart_5 : decode cX11_hasPart 5 = .ok (.iaload, 1) := by decide +kernel
theorem dX11_hasPart_6 : decode cX11_hasPart 6 = .ok (.bipush 6, 2) := by decide +kernel
theorem dX11_hasPart_8 : decode cX11_hasPart 8 = .ok (.if_icmp .eq 24, 3) := by decide +kernel
theorem dX11_hasPart_11 : decode cX11_hasPart 11 = .ok (.aload_n 0, 1) := by decide +kernel
theorem dX11_hasPart_12 : decode cX11_hasPart 12 = .ok (.getfield 28, 3) := by decide +kernel
theorem dX11_hasPart_15 : decode cX11_hasPart 15 = .ok (.bipush 55, 2) := by decide +kernel
theorem dX11_hasPart_17 : decode cX11_hasPart 17 = .ok (.iload_n 1, 1) := by decide +kernel
theorem dX11_hasPart_18 : decode cX11_hasPart 18 = .ok (.iadd, 1) := by decide +kernel
theorem dX11_hasPart_19 : decode cX11_hasPart 19 = .ok (.iaload, 1) := by decide +kernel
theorem dX11_hasPart_20 : decode cX11_hasPart 20 = .ok (.aload_n 0, 1) := by decide +kernel
theorem dX11_hasPart_21 : decode cX11_hasPart 21 = .ok (.getfield 16, 3) := by decide +kernel
theorem dX11_hasPart_24 : decode cX11_hasPart 24 = .ok (.iload_n 2, 1) := by decide +kernel
theorem dX11_hasPart_25 : decode cX11_hasPart 25 = .ok (.iaload, 1) := by decide +kernel
theorem dX11_hasPart_26 : decode cX11_hasPart 26 = .ok (.invokestatic 140, 3) := by decide +kernel
theorem dX11_hasPart_29 : decode cX11_hasPart 29 = .ok (.ifCond .ne 7, 3) := by decide +kernel
theorem dX11_hasPart_32 : decode cX11_hasPart 32 = .ok (.iconst 1, 1) := by decide +kernel
theorem dX11_hasPart_33 : decode cX11_hasPart 33 = .ok (.goto 4, 3) := by decide +kernel
theorem dX11_hasPart_36 : decode cX11_hasPart 36 = .ok (.iconst 0, 1) := by decide +kernel
theorem dX11_hasPart_37 : decode cX11_hasPart 37 = .ok (.ireturn, 1) := by decide +kernel
theorem dX11_hears_0 : decode cX11_hears 0 = .ok (.aload_n 0, 1) := by decide +kernel
theorem dX11_hears_1 : decode cX11_hears 1 = .ok (.iload_n 1, 1) := by decide +kernel
theorem dX11_hears_2 : decode cX11_hears 2 = .ok (.invokevirtual 156, 3) := by decide +kernel
theorem dX11_hears_5 : decode cX11_hears 5 = .ok (.ifCond .eq 12, 3) := by decide +kernel
theorem dX11_hears_8 : decode cX11_hears 8 = .ok (.iload_n 2, 1) := by decide +kernel
theorem dX11_hears_9 : decode cX11_hears 9 = .ok (.iconst 0, 1) := by decide +kernel
theorem dX11_hears_10 : decode cX11_hears 10 = .ok (.iconst 1, 1) := by decide +kernel
theorem dX11_hears_11 : decode cX11_hears 11 = .ok (.invokestatic 72, 3) := by decide +kernel
theorem dX11_hears_14 : decode cX11_hears 14 = .ok (.ifCond .ne 5, 3) := by decide +kernel
theorem dX11_hears_17 : decode cX11_hears 17 = .ok (.iconst (-1), 1) := by decide +kernel
theorem dX11_hears_18 : decode cX11_hears 18 = .ok (.ireturn, 1) := by decide +kernel
theorem dX11_hears_19 : decode cX11_hears 19 = .ok (.aload_n 0, 1) := by decide +kernel
theorem dX11_hears_20 : decode cX11_hears 20 = .ok (.getfield 137, 3) := by decide +kernel
theorem dX11_hears_23 : decode cX11_hears 23 = .ok (.bipush 6, 2) := by decide +kernel
theorem dX11_hears_25 : decode cX11_hears 25 = .ok (.if_icmp .ne 6, 3) := by decide +kernel
theorem dX11_hears_28 : decode cX11_hears 28 = .ok (.bipush (-3), 2) := by decide +kernel
theorem dX11_hears_30 : decode cX11_hears 30 = .ok (.ireturn, 1) := by decide +kernel
theorem dX11_hears_31 : decode cX11_hears 31 = .ok (.aload_n 0, 1) := by decide +kernel
theorem dX11_hears_32 : decode cX11_hears 32 = .ok (.getfield 38, 3) := by decide +kernel
theorem dX11_hears_35 : decode cX11_hears 35 = .ok (.iconst 2, 1) := by decide +kernel
theorem dX11_hears_36 : decode cX11_hears 36 = .ok (.aload_n 0, 1) := by decide +kernel
theorem dX11_hears_37 : decode cX11_hears 37 = .ok (.getfield 137, 3) := by decide +kernel
theorem dX11_hears_40 : decode cX11_hears 40 = .ok (.imul, 1) := by decide +kernel
theorem dX11_hears_41 : decode cX11_hears 41 = .ok (.iload_n 1, 1) := by decide +kernel
theorem dX11_hears_42 : decode cX11_hears 42 = .ok (.iastore, 1) := by decide +kernel
theorem dX11_hears_43 : decode cX11_hears 43 = .ok (.aload_n 0, 1) := by decide +kernel
theorem dX11_hears_44 : decode cX11_hears 44 = .ok (.getfield 38, 3) := by decide +kernel
theorem dX11_hears_47 : decode cX11_hears 47 = .ok (.iconst 2, 1) := by decide +kernel
theorem dX11_hears_48 : decode cX11_hears 48 = .ok (.aload_n 0, 1) := by decide +kernel
theorem dX11_hears_49 : decode cX11_hears 49 = .ok (.getfield 137, 3) := by decide +kernel
theorem dX11_hears_52 : decode cX11_hears 52 = .ok (.imul, 1) := by decide +kernel
theorem dX11_hears_53 : decode cX11_hears 53 = .ok (.iconst 1, 1) := by decide +kernel
theorem dX11_hears_54 : decode cX11_hears 54 = .ok (.iadd, 1) := by decide +kernel
theorem dX11_hears_55 : decode cX11_hears 55 = .ok (.iload_n 2, 1) := by decide +kernel
theorem dX11_hears_56 : decode cX11_hears 56 = .ok (.iastore, 1) := by decide +kernel
theorem dX11_hears_57 : decode cX11_hears 57 = .ok (.aload_n 0, 1) := by decide +kernel
theorem dX11_hears_58 : decode cX11_hears 58 = .ok (.dup, 1) := by decide +kernel
theorem dX11_hears_59 : decode cX11_hears 59 = .ok (.getfield 137, 3) := by decide +kernel
theorem dX11_hears_62 : decode cX11_hears 62 = .ok (.iconst 1, 1) := by decide +kernel
theorem dX11_hears_63 : decode cX11_hears 63 = .ok (.iadd, 1) := by decide +kernel
theorem dX11_hears_64 : decode cX11_hears 64 = .ok (.putfield 137, 3) := by decide +kernel
theorem dX11_hears_67 : decode cX11_hears 67 = .ok (.aload_n 0, 1) := by decide +kernel
theorem dX11_hears_68 : decode cX11_hears 68 = .ok (.getfield 137, 3) := by decide +kernel
theorem dX11_hears_71 : decode cX11_hears 71 = .ok (.ireturn, 1) := by decide +kernel
theorem dX11_in_0 : decode cX11_in 0 = .ok (.iload_n 0, 1) := by decide +kernel
theorem dX11_in_1 : decode cX11_in 1 = .ok (.iload_n 1, 1) := by decide +kernel
theorem dX11_in_2 : decode cX11_in 2 = .ok (.if_icmp .lt 12, 3) := by decide +kernel
theorem dX11_in_5 : decode cX11_in 5 = .ok (.iload_n 0, 1) := by decide +kernel
theorem dX11_in_6 : decode cX11_in 6 = .ok (.iload_n 2, 1) := by decide +kernel
theorem dX11_in_7 : decode cX11_in 7 = .ok (.if_icmp .gt 7, 3) := by decide +kernel
theorem dX11_in_10 : decode cX11_in 10 = .ok (.iconst 1, 1) := by decide +kernel
theorem dX11_in_11 : decode cX11_in 11 = .ok (.goto 4, 3) := by decide +kernel
theorem dX11_in_14 : decode cX11_in 14 = .ok (.iconst 0, 1) := by decide +kernel
theorem dX11_in_15 : decode cX11_in 15 = .ok (.ireturn, 1) := by decide +kernel
theorem dX11_inClass_0 : decode cX11_inClass 0 = .ok (.iconst 0, 1) := by decide +kernel
theorem dX11_inClass_1 : decode cX11_inClass 1 = .ok (.istore_n 1, 1) := by decide +kernel
theorem dX11_inClass_2 : decode cX11_inClass 2 = .ok (.iconst 0, 1) := by decide +kernel
theorem dX11_inClass_3 : decode cX11_inClass 3 = .ok (.istore_n 2, 1) := by decide +kernel
theorem dX11_inClass_4 : decode cX11_inClass 4 = .ok (.iload_n 2, 1) := by decide +kernel
theorem dX11_inClass_5 : decode cX11_inClass 5 = .ok (.aload_n 0, 1) := by decide +kernel
theorem dX11_inClass_6 : decode cX11_inClass 6 = .ok (.getfield 76, 3) := by decide +kernel
theorem dX11_inClass_9 : decode cX11_inClass 9 = .ok (.if_icmp .ge 33, 3) := by decide +kernel
theorem dX11_inClass_12 : decode cX11_inClass 12 = .ok (.iload_n 1, 1) := by decide +kernel
theorem dX11_inClass_13 : decode cX11_inClass 13 = .ok (.aload_n 0, 1) := by decide +kernel
theorem dX11_inClass_14 : decode cX11_inClass 14 = .ok (.getfield 28, 3) := by decide +kernel
theorem dX11_inClass_17 : decode cX11_inClass 17 = .ok (.bipush 68, 2) := by decide +kernel
theorem dX11_inClass_19 : decode cX11_inClass 19 = .ok (.iload_n 2, 1) := by decide +kernel
theorem dX11_inClass_20 : decode cX11_inClass 20 = .ok (.iadd, 1) := by decide +kernel
theorem dX11_inClass_21 : decode cX11_inClass 21 = .ok (.iaload, 1) := by decide +kernel
theorem dX11_inClass_22 : decode cX11_inClass 22 = .ok (.bipush (-9), 2) := by decide +kernel
theorem dX11_inClass_24 : decode cX11_inClass 24 = .ok (.if_icmp .eq 9, 3) := by decide +kernel
theorem dX11_inClass_27 : decode cX11_inClass 27 = .ok (.iconst 1, 1) := by decide +kernel
theorem dX11_inClass_28 : decode cX11_inClass 28 = .ok (.iload_n 2, 1) := by decide +kernel
theorem dX11_inClass_29 : decode cX11_inClass 29 = .ok (.ishl, 1) := by decide +kernel
theorem dX11_inClass_30 : decode cX11_inClass 30 = .ok (.goto 4, 3) := by decide +kernel
theorem dX11_inClass_33 : decode cX11_inClass 33 = .ok (.iconst 0, 1) := by decide +kernel
theorem dX11_inClass_34 : decode cX11_inClass 34 = .ok (.ior, 1) := by decide +kernel
theorem dX11_inClass_35 : decode cX11_inClass 35 = .ok (.istore_n 1, 1) := by decide +kernel
theorem dX11_inClass_36 : decode cX11_inClass 36 = .ok (.iinc 2 1, 3) := by decide +kernel
theorem dX11_inClass_39 : decode cX11_inClass 39 = .ok (.goto (-35), 3) := by decide +kernel
theorem dX11_inClass_42 : decode cX11_inClass 42 = .ok (.iload_n 1, 1) := by decide +kernel
theorem dX11_inClass_43 : decode cX11_inClass 43 = .ok (.ireturn, 1) := by decide +kernel
theorem dX11_init_0 : decode cX11_init 0 = .ok (.aload_n 0, 1) := by decide +kernel
theorem dX11_init_1 : decode cX11_init 1 = .ok (.invokespecial 1, 3) := by decide +kernel
theorem dX11_init_4 : decode cX11_init 4 = .ok (.aload_n 0, 1) := by decide +kernel
theorem dX11_init_5 : decode cX11_init 5 = .ok (.bipush 8, 2) := by decide +kernel
theorem dX11_init_7 : decode cX11_init 7 = .ok (.newarray .int, 2) := by decide +kernel
theorem dX11_init_9 : decode cX11_init 9 = .ok (.putfield 7, 3) := by decide +kernel
theorem dX11_init_12 : decode cX11_init 12 = .ok (.aload_n 0, 1) := by decide +kernel
theorem dX11_init_13 : decode cX11_init 13 = .ok (.bipush 8, 2) := by decide +kernel
theorem dX11_init_15 : decode cX11_init 15 = .ok (.newarray .int, 2) := by decide +kernel
theorem dX11_init_17 : decode cX11_init 17 = .ok (.putfield 13, 3) := by decide +kernel
theorem dX11_init_20 : decode cX11_init 20 = .ok (.aload_n 0, 1) := by decide +kernel
theorem dX11_init_21 : decode cX11_init 21 = .ok (.bipush 8, 2) := by decide +kernel
theorem dX11_init_23 : decode cX11_init 23 = .ok (.newarray .int, 2) := by decide +kernel
theorem dX11_init_25 : decode cX11_init 25 = .ok (.putfield 16, 3) := by decide +kernel
theorem dX11_init_28 : decode cX11_init 28 = .ok (.aload_n 0, 1) := by decide +kernel
theorem dX11_init_29 : decode cX11_init 29 = .ok (.bipush 8, 2) := by decide +kernel
theorem dX11_init_31 : decode cX11_init 31 = .ok (.newarray .int, 2) := by decide +kernel
theorem dX11_init_33 : decode cX11_init 33 = .ok (.putfield 19, 3) := by decide +kernel
theorem dX11_init_36 : decode cX11_init 36 = .ok (.aload_n 0, 1) := by decide +kernel
theorem dX11_init_37 : decode cX11_init 37 = .ok (.bipush 6, 2) := by decide +kernel
theorem dX11_init_39 : decode cX11_init 39 = .ok (.newarray .int, 2) := by decide +kernel
theorem dX11_init_41 : decode cX11_init 41 = .ok (.putfield 22, 3) := by decide +kernel
theorem dX11_init_44 : decode cX11_init 44 = .ok (.aload_n 0, 1) := by decide +kernel
theorem dX11_init_45 : decode cX11_init 45 = .ok (.bipush 6, 2) := by decide +kernel
theorem dX11_init_47 : decode cX11_init 47 = .ok (.newarray .int, 2) := by decide +kernel
theorem dX11_init_49 : decode cX11_init 49 = .ok (.putfield 25, 3) := by decide +kernel
theorem dX11_init_52 : decode cX11_init 52 = .ok (.aload_n 0, 1) := by decide +kernel
theorem dX11_init_53 : decode cX11_init 53 = .ok (.sipush 815, 3) := by decide +kernel
theorem dX11_init_56 : decode cX11_init 56 = .ok (.newarray .int, 2) := by decide +kernel
theorem dX11_init_58 : decode cX11_init 58 = .ok (.putfield 28, 3) := by decide +kernel
theorem dX11_init_61 : decode cX11_init 61 = .ok (.aload_n 0, 1) := by decide +kernel
theorem dX11_init_62 : decode cX11_init 62 = .ok (.sipush 1630, 3) := by decide +kernel
theorem dX11_init_65 : decode cX11_init 65 = .ok (.newarray .int, 2) := by decide +kernel
theorem dX11_init_67 : decode cX11_init 67 = .ok (.putfield 31, 3) := by decide +kernel
theorem dX11_init_70 : decode cX11_init 70 = .ok (.aload_n 0, 1) := by decide +kernel
theorem dX11_init_71 : decode cX11_init 71 = .ok (.iconst 2, 1) := by decide +kernel
theorem dX11_init_72 : decode cX11_init 72 = .ok (.newarray .boolean, 2) := by decide +kernel
theorem dX11_init_74 : decode cX11_init 74 = .ok (.putfield 34, 3) := by decide +kernel
theorem dX11_init_77 : decode cX11_init 77 = .ok (.aload_n 0, 1) := by decide +kernel
theorem dX11_init_78 : decode cX11_init 78 = .ok (.bipush 12, 2) := by decide +kernel
theorem dX11_init_80 : decode cX11_init 80 = .ok (.newarray .int, 2) := by decide +kernel
theorem dX11_init_82 : decode cX11_init 82 = .ok (.putfield 38, 3) := by decide +kernel
theorem dX11_init_85 : decode cX11_init 85 = .ok (.aload_n 0, 1) := by decide +kernel
theorem dX11_init_86 : decode cX11_init 86 = .ok (.sipush 150, 3) := by decide +kernel
theorem dX11_init_89 : decode cX11_init 89 = .ok (.newarray .int, 2) := by decide +kernel
theorem dX11_init_91 : decode cX11_init 91 = .ok (.putfield 41, 3) := by decide +kernel
theorem dX11_init_94 : decode cX11_init 94 = .ok (.aload_n 0, 1) := by decide +kernel
theorem dX11_init_95 : decode cX11_init 95 = .ok (.bipush 8, 2) := by decide +kernel
theorem dX11_init_97 : decode cX11_init 97 = .ok (.newarray .int, 2) := by decide +kernel
theorem dX11_init_99 : decode cX11_init 99 = .ok (.putfield 44, 3) := by decide +kernel
theorem dX11_init_102 : decode cX11_init 102 = .ok (.aload_n 0, 1) := by decide +kernel
theorem dX11_init_103 : decode cX11_init 103 = .ok (.bipush 8, 2) := by decide +kernel
theorem dX11_init_105 : decode cX11_init 105 = .ok (.newarray .int, 2) := by decide +kernel
theorem dX11_init_107 : decode cX11_init 107 = .ok (.putfield 47, 3) := by decide +kernel
theorem dX11_init_110 : decode cX11_init 110 = .ok (.aload_n 0, 1) := by decide +kernel
theorem dX11_init_111 : decode cX11_init 111 = .ok (.bipush 8, 2) := by decide +kernel
theorem dX11_init_113 : decode cX11_init 113 = .ok (.newarray .int, 2) := by decide +kernel
theorem dX11_init_115 : decode cX11_init 115 = .ok (.putfield 50, 3) := by decide +kernel
theorem dX11_init_118 : decode cX11_init 118 = .ok (.aload_n 0, 1) := by decide +kernel
theorem dX11_init_119 : decode cX11_init 119 = .ok (.bipush 8, 2) := by decide +kernel
theorem dX11_init_121 : decode cX11_init 121 = .ok (.newarray .int, 2) := by decide +kernel
theorem dX11_init_123 : decode cX11_init 123 = .ok (.putfield 53, 3) := by decide +kernel
theorem dX11_init_126 : decode cX11_init 126 = .ok (.aload_n 0, 1) := by decide +kernel
theorem dX11_init_127 : decode cX11_init 127 = .ok (.bipush 6, 2) := by decide +kernel
theorem dX11_init_129 : decode cX11_init 129 = .ok (.newarray .int, 2) := by decide +kernel
theorem dX11_init_131 : decode cX11_init 131 = .ok (.putfield 56, 3) := by decide +kernel
theorem dX11_init_134 : decode cX11_init 134 = .ok (.aload_n 0, 1) := by decide +kernel
theorem dX11_init_135 : decode cX11_init 135 = .ok (.bipush 6, 2) := by decide +kernel
theorem dX11_init_137 : decode cX11_init 137 = .ok (.newarray .int, 2) := by decide +kernel
theorem dX11_init_139 : decode cX11_init 139 = .ok (.putfield 59, 3) := by decide +kernel
theorem dX11_init_142 : decode cX11_init 142 = .ok (.aload_n 0, 1) := by decide +kernel
theorem dX11_init_143 : decode cX11_init 143 = .ok (.bipush 6, 2) := by decide +kernel
theorem dX11_init_145 : decode cX11_init 145 = .ok (.newarray .int, 2) := by decide +kernel
theorem dX11_init_147 : decode cX11_init 147 = .ok (.putfield 62, 3) := by decide +kernel
theorem dX11_init_150 : decode cX11_init 150 = .ok (.aload_n 0, 1) := by decide +kernel
theorem dX11_init_151 : decode cX11_init 151 = .ok (.sipush 1792, 3) := by decide +kernel
theorem dX11_init_154 : decode cX11_init 154 = .ok (.newarray .int, 2) := by decide +kernel
theorem dX11_init_156 : decode cX11_init 156 = .ok (.putfield 65, 3) := by decide +kernel
theorem dX11_init_159 : decode cX11_init 159 = .ok (.return_, 1) := by decide +kernel
theorem dX11_isBroken_0 : decode cX11_isBroken 0 = .ok (.aload_n 0, 1) := by decide +kernel
theorem dX11_isBroken_1 : decode cX11_isBroken 1 = .ok (.getfield 28, 3) := by decide +kernel
theorem dX11_isBroken_4 : decode cX11_isBroken 4 = .ok (.bipush 67, 2) := by decide +kernel
theorem dX11_isBroken_6 : decode cX11_isBroken 6 = .ok (.iaload, 1) := by decide +kernel
theorem dX11_isBroken_7 : decode cX11_isBroken 7 = .ok (.iload_n 1, 1) := by decide +kernel
theorem dX11_isBroken_8 : decode cX11_isBroken 8 = .ok (.invokestatic 140, 3) := by decide +kernel
theorem dX11_isBroken_11 : decode cX11_isBroken 11 = .ok (.ireturn, 1) := by decide +kernel
theorem dX11_isCast_0 : decode cX11_isCast 0 = .ok (.iload_n 1, 1) := by decide +kernel
theorem dX11_isCast_1 : decode cX11_isCast 1 = .ok (.iconst 0, 1) := by decide +kernel
theorem dX11_isCast_2 : decode cX11_isCast 2 = .ok (.aload_n 0, 1) := by decide +kernel
theorem dX11_isCast_3 : decode cX11_isCast 3 = .ok (.getfield 76, 3) := by decide +kernel
theorem dX11_isCast_6 : decode cX11_isCast 6 = .ok (.iconst 1, 1) := by decide +kernel
theorem dX11_isCast_7 : decode cX11_isCast 7 = .ok (.isub, 1) := by decide +kernel
theorem dX11_isCast_8 : decode cX11_isCast 8 = .ok (.invokestatic 72, 3) := by decide +kernel
theorem dX11_isCast_11 : decode cX11_isCast 11 = .ok (.ireturn, 1) := by decide +kernel
theorem dX11_isFigure_0 : decode cX11_isFigure 0 = .ok (.iload_n 0, 1) := by decide +kernel
theorem dX11_isFigure_1 : decode cX11_isFigure 1 = .ok (.bipush 48, 2) := by decide +kernel
theorem dX11_isFigure_3 : decode cX11_isFigure 3 = .ok (.bipush 57, 2) := by decide +kernel
theorem dX11_isFigure_5 : decode cX11_isFigure 5 = .ok (.invokestatic 72, 3) := by decide +kernel
theorem dX11_isFigure_8 : decode cX11_isFigure 8 = .ok (.ireturn, 1) := by decide +kernel
theorem dX11_isLetter_0 : decode cX11_isLetter 0 = .ok (.iload_n 0, 1) := by decide +kernel
theorem dX11_isLetter_1 : decode cX11_isLetter 1 = .ok (.bipush 97, 2) := by decide +kernel
theorem dX11_isLetter_3 : decode cX11_isLetter 3 = .ok (.bipush 122, 2) := by decide +kernel
theorem dX11_isLetter_5 : decode cX11_isLetter 5 = .ok (.invokestatic 72, 3) := by decide +kernel
theorem dX11_isLetter_8 : decode cX11_isLetter 8 = .ok (.ireturn, 1) := by decide +kernel
theorem dX11_isThing_0 : decode cX11_isThing 0 = .ok (.iload_n 1, 1) := by decide +kernel
theorem dX11_isThing_1 : decode cX11_isThing 1 = .ok (.iconst 0, 1) := by decide +kernel
theorem dX11_isThing_2 : decode cX11_isThing 2 = .ok (.aload_n 0, 1) := by decide +kernel
theorem dX11_isThing_3 : decode cX11_isThing 3 = .ok (.getfield 68, 3) := by decide +kernel
theorem dX11_isThing_6 : decode cX11_isThing 6 = .ok (.iconst 1, 1) := by decide +kernel
theorem dX11_isThing_7 : decode cX11_isThing 7 = .ok (.isub, 1) := by decide +kernel
theorem dX11_isThing_8 : decode cX11_isThing 8 = .ok (.invokestatic 72, 3) := by decide +kernel
theorem dX11_isThing_11 : decode cX11_isThing 11 = .ok (.ireturn, 1) := by decide +kernel
theorem dX11_isWhole_0 : decode cX11_isWhole 0 = .ok (.iload_n 2, 1) := by decide +kernel
theorem dX11_isWhole_1 : decode cX11_isWhole 1 = .ok (.aload_n 0, 1) := by decide +kernel
theorem dX11_isWhole_2 : decode cX11_isWhole 2 = .ok (.getfield 28, 3) := by decide +kernel
theorem dX11_isWhole_5 : decode cX11_isWhole 5 = .ok (.bipush 49, 2) := by decide +kernel
theorem dX11_isWhole_7 : decode cX11_isWhole 7 = .ok (.iload_n 1, 1) := by decide +kernel
theorem dX11_isWhole_8 : decode cX11_isWhole 8 = .ok (.iadd, 1) := by decide +kernel
theorem dX11_isWhole_9 : decode cX11_isWhole 9 = .ok (.iaload, 1) := by decide +kernel
theorem dX11_isWhole_10 : decode cX11_isWhole 10 = .ok (.iand, 1) := by decide +kernel
theorem dX11_isWhole_11 : decode cX11_isWhole 11 = .ok (.ifCond .ne 7, 3) := by decide +kernel
theorem dX11_isWhole_14 : decode cX11_isWhole 14 = .ok (.iconst 1, 1) := by decide +kernel
theorem dX11_isWhole_15 : decode cX11_isWhole 15 = .ok (.goto 4, 3) := by decide +kernel
theorem dX11_isWhole_18 : decode cX11_isWhole 18 = .ok (.iconst 0, 1) := by decide +kernel
theorem dX11_isWhole_19 : decode cX11_isWhole 19 = .ok (.istore_n 3, 1) := by decide +kernel
theorem dX11_isWhole_20 : decode cX11_isWhole 20 = .ok (.iconst 0, 1) := by decide +kernel
theorem dX11_isWhole_21 : decode cX11_isWhole 21 = .ok (.istore 4, 2) := by decide +kernel
theorem dX11_isWhole_23 : decode cX11_isWhole 23 = .ok (.iload 4, 2) := by decide +kernel
theorem dX11_isWhole_25 : decode cX11_isWhole 25 = .ok (.aload_n 0, 1) := by decide +kernel
theorem dX11_isWhole_26 : decode cX11_isWhole 26 = .ok (.getfield 68, 3) := by decide +kernel
theorem dX11_isWhole_29 : decode cX11_isWhole 29 = .ok (.if_icmp .ge 54, 3) := by decide +kernel
theorem dX11_isWhole_32 : decode cX11_isWhole 32 = .ok (.iload_n 3, 1) := by decide +kernel
theorem dX11_isWhole_33 : decode cX11_isWhole 33 = .ok (.ifCond .eq 42, 3) := by decide +kernel
theorem dX11_isWhole_36 : decode cX11_isWhole 36 = .ok (.iload_n 2, 1) := by decide +kernel
theorem dX11_isWhole_37 : decode cX11_isWhole 37 = .ok (.iload 4, 2) := by decide +kernel
theorem dX11_isWhole_39 : decode cX11_isWhole 39 = .ok (.invokestatic 140, 3) := by decide +kernel
theorem dX11_isWhole_42 : decode cX11_isWhole 42 = .ok (.ifCond .eq 29, 3) := by decide +kernel
theorem dX11_isWhole_45 : decode cX11_isWhole 45 = .ok (.aload_n 0, 1) := by decide +kernel
theorem dX11_isWhole_46 : decode cX11_isWhole 46 = .ok (.getfield 19, 3) := by decide +kernel
theorem dX11_isWhole_49 : decode cX11_isWhole 49 = .ok (.iload 4, 2) := by decide +kernel
theorem dX11_isWhole_51 : decode cX11_isWhole 51 = .ok (.iaload, 1) := by decide +kernel
theorem dX11_isWhole_52 : decode cX11_isWhole 52 = .ok (.aload_n 0, 1) := by decide +kernel
theorem dX11_isWhole_53 : decode cX11_isWhole 53 = .ok (.getfield 28, 3) := by decide +kernel
theorem dX11_isWhole_56 : decode cX11_isWhole 56 = .ok (.bipush 49, 2) := by decide +kernel
theorem dX11_isWhole_58 : decode cX11_isWhole 58 = .ok (.iload_n 1, 1) := by decide +kernel
theorem dX11_isWhole_59 : decode cX11_isWhole 59 = .ok (.iadd, 1) := by decide +kernel
theorem dX11_isWhole_60 : decode cX11_isWhole 60 = .ok (.iaload, 1) := by decide +kernel
theorem dX11_isWhole_61 : decode cX11_isWhole 61 = .ok (.iconst (-1), 1) := by decide +kernel
theorem dX11_isWhole_62 : decode cX11_isWhole 62 = .ok (.ixor, 1) := by decide +kernel
theorem dX11_isWhole_63 : decode cX11_isWhole 63 = .ok (.iand, 1) := by decide +kernel
theorem dX11_isWhole_64 : decode cX11_isWhole 64 = .ok (.iload_n 2, 1) := by decide +kernel
theorem dX11_isWhole_65 : decode cX11_isWhole 65 = .ok (.iconst (-1), 1) := by decide +kernel
theorem dX11_isWhole_66 : decode cX11_isWhole 66 = .ok (.ixor, 1) := by decide +kernel
theorem dX11_isWhole_67 : decode cX11_isWhole 67 = .ok (.iand, 1) := by decide +kernel
theorem dX11_isWhole_68 : decode cX11_isWhole 68 = .ok (.ifCond .ne 7, 3) := by decide +kernel
theorem dX11_isWhole_71 : decode cX11_isWhole 71 = .ok (.iconst 1, 1) := by decide +kernel
theorem dX11_isWhole_72 : decode cX11_isWhole 72 = .ok (.goto 4, 3) := by decide +kernel
theorem dX11_isWhole_75 : decode cX11_isWhole 75 = .ok (.iconst 0, 1) := by decide +kernel
theorem dX11_isWhole_76 : decode cX11_isWhole 76 = .ok (.istore_n 3, 1) := by decide +kernel
theorem dX11_isWhole_77 : decode cX11_isWhole 77 = .ok (.iinc 4 1, 3) := by decide +kernel
theorem dX11_isWhole_80 : decode cX11_isWhole 80 = .ok (.goto (-57), 3) := by decide +kernel
theorem dX11_isWhole_83 : decode cX11_isWhole 83 = .ok (.iload_n 3, 1) := by decide +kernel
theorem dX11_isWhole_84 : decode cX11_isWhole 84 = .ok (.ireturn, 1) := by decide +kernel
theorem dX11_joins_0 : decode cX11_joins 0 = .ok (.aload_n 0, 1) := by decide +kernel
theorem dX11_joins_1 : decode cX11_joins 1 = .ok (.iload_n 1, 1) := by decide +kernel
theorem dX11_joins_2 : decode cX11_joins 2 = .ok (.invokevirtual 162, 3) := by decide +kernel
theorem dX11_joins_5 : decode cX11_joins 5 = .ok (.ifCond .eq 25, 3) := by decide +kernel
theorem dX11_joins_8 : decode cX11_joins 8 = .ok (.aload_n 0, 1) := by decide +kernel
theorem dX11_joins_9 : decode cX11_joins 9 = .ok (.iload_n 2, 1) := by decide +kernel
theorem dX11_joins_10 : decode cX11_joins 10 = .ok (.invokevirtual 162, 3) := by decide +kernel
theorem dX11_joins_13 : decode cX11_joins 13 = .ok (.ifCond .eq 17, 3) := by decide +kernel
theorem dX11_joins_16 : decode cX11_joins 16 = .ok (.iload_n 1, 1) := by decide +kernel
theorem dX11_joins_17 : decode cX11_joins 17 = .ok (.iload_n 2, 1) := by decide +kernel
theorem dX11_joins_18 : decode cX11_joins 18 = .ok (.if_icmp .eq 12, 3) := by decide +kernel
theorem dX11_joins_21 : decode cX11_joins 21 = .ok (.iload_n 3, 1) := by decide +kernel
theorem dX11_joins_22 : decode cX11_joins 22 = .ok (.iconst 0, 1) := by decide +kernel
theorem dX11_joins_23 : decode cX11_joins 23 = .ok (.iconst 5, 1) := by decide +kernel
theorem dX11_joins_24 : decode cX11_joins 24 = .ok (.invokestatic 72, 3) := by decide +kernel
theorem dX11_joins_27 : decode cX11_joins 27 = .ok (.ifCond .ne 5, 3) := by decide +kernel
theorem dX11_joins_30 : decode cX11_joins 30 = .ok (.iconst (-1), 1) := by decide +kernel
theorem dX11_joins_31 : decode cX11_joins 31 = .ok (.ireturn, 1) := by decide +kernel
theorem dX11_joins_32 : decode cX11_joins 32 = .ok (.aload_n 0, 1) := by decide +kernel
theorem dX11_joins_33 : decode cX11_joins 33 = .ok (.getfield 28, 3) := by decide +kernel
theorem dX11_joins_36 : decode cX11_joins 36 = .ok (.bipush 55, 2) := by decide +kernel
theorem dX11_joins_38 : decode cX11_joins 38 = .ok (.iload_n 1, 1) := by decide +kernel
theorem dX11_joins_39 : decode cX11_joins 39 = .ok (.iadd, 1) := by decide +kernel
theorem dX11_joins_40 : decode cX11_joins 40 = .ok (.iaload, 1) := by decide +kernel
theorem dX11_joins_41 : decode cX11_joins 41 = .ok (.iload_n 3, 1) := by decide +kernel
theorem dX11_joins_42 : decode cX11_joins 42 = .ok (.invokestatic 140, 3) := by decide +kernel
theorem dX11_joins_45 : decode cX11_joins 45 = .ok (.ifCond .ne 19, 3) := by decide +kernel
theorem dX11_joins_48 : decode cX11_joins 48 = .ok (.aload_n 0, 1) := by decide +kernel
theorem dX11_joins_49 : decode cX11_joins 49 = .ok (.getfield 28, 3) := by decide +kernel
theorem dX11_joins_52 : decode cX11_joins 52 = .ok (.bipush 55, 2) := by decide +kernel
theorem dX11_joins_54 : decode cX11_joins 54 = .ok (.iload_n 2, 1) := by decide +kernel
theorem dX11_joins_55 : decode cX11_joins 55 = .ok (.iadd, 1) := by decide +kernel
theorem dX11_joins_56 : decode cX11_joins 56 = .ok (.iaload, 1) := by decide +kernel
theorem dX11_joins_57 : decode cX11_joins 57 = .ok (.iload_n 3, 1) := by decide +kernel
theorem dX11_joins_58 : decode cX11_joins 58 = .ok (.invokestatic 140, 3) := by decide +kernel
theorem dX11_joins_61 : decode cX11_joins 61 = .ok (.ifCond .ne 6, 3) := by decide +kernel
theorem dX11_joins_64 : decode cX11_joins 64 = .ok (.bipush (-2), 2) := by decide +kernel
theorem dX11_joins_66 : decode cX11_joins 66 = .ok (.ireturn, 1) := by decide +kernel
theorem dX11_joins_67 : decode cX11_joins 67 = .ok (.aload_n 0, 1) := by decide +kernel
theorem dX11_joins_68 : decode cX11_joins 68 = .ok (.invokevirtual 168, 3) := by decide +kernel
theorem dX11_joins_71 : decode cX11_joins 71 = .ok (.aload_n 0, 1) := by decide +kernel
theorem dX11_joins_72 : decode cX11_joins 72 = .ok (.getfield 28, 3) := by decide +kernel
theorem dX11_joins_75 : decode cX11_joins 75 = .ok (.bipush 55, 2) := by decide +kernel
theorem dX11_joins_77 : decode cX11_joins 77 = .ok (.iload_n 1, 1) := by decide +kernel
theorem dX11_joins_78 : decode cX11_joins 78 = .ok (.iadd, 1) := by decide +kernel
theorem dX11_joins_79 : decode cX11_joins 79 = .ok (.dup2, 1) := by decide +kernel
theorem dX11_joins_80 : decode cX11_joins 80 = .ok (.iaload, 1) := by decide +kernel
theorem dX11_joins_81 : decode cX11_joins 81 = .ok (.iconst 1, 1) := by decide +kernel
theorem dX11_joins_82 : decode cX11_joins 82 = .ok (.iload_n 3, 1) := by decide +kernel
theorem dX11_joins_83 : decode cX11_joins 83 = .ok (.ishl, 1) := by decide +kernel
theorem dX11_joins_84 : decode cX11_joins 84 = .ok (.ior, 1) := by decide +kernel
theorem dX11_joins_85 : decode cX11_joins 85 = .ok (.iastore, 1) := by decide +kernel
theorem dX11_joins_86 : decode cX11_joins 86 = .ok (.aload_n 0, 1) := by decide +kernel
theorem dX11_joins_87 : decode cX11_joins 87 = .ok (.getfield 28, 3) := by decide +kernel
theorem dX11_joins_90 : decode cX11_joins 90 = .ok (.bipush 55, 2) := by decide +kernel
theorem dX11_joins_92 : decode cX11_joins 92 = .ok (.iload_n 2, 1) := by decide +kernel
theorem dX11_joins_93 : decode cX11_joins 93 = .ok (.iadd, 1) := by decide +kernel
theorem dX11_joins_94 : decode cX11_joins 94 = .ok (.dup2, 1) := by decide +kernel
theorem dX11_joins_95 : decode cX11_joins 95 = .ok (.iaload, 1) := by decide +kernel
theorem dX11_joins_96 : decode cX11_joins 96 = .ok (.iconst 1, 1) := by decide +kernel
theorem dX11_joins_97 : decode cX11_joins 97 = .ok (.iload_n 3, 1) := by decide +kernel
theorem dX11_joins_98 : decode cX11_joins 98 = .ok (.ishl, 1) := by decide +kernel
theorem dX11_joins_99 : decode cX11_joins 99 = .ok (.iconst (-1), 1) := by decide +kernel
theorem dX11_joins_100 : decode cX11_joins 100 = .ok (.ixor, 1) := by decide +kernel
theorem dX11_joins_101 : decode cX11_joins 101 = .ok (.iand, 1) := by decide +kernel
theorem dX11_joins_102 : decode cX11_joins 102 = .ok (.iastore, 1) := by decide +kernel
theorem dX11_joins_103 : decode cX11_joins 103 = .ok (.aload_n 0, 1) := by decide +kernel
theorem dX11_joins_104 : decode cX11_joins 104 = .ok (.getfield 28, 3) := by decide +kernel
theorem dX11_joins_107 : decode cX11_joins 107 = .ok (.bipush 68, 2) := by decide +kernel
theorem dX11_joins_109 : decode cX11_joins 109 = .ok (.iload_n 1, 1) := by decide +kernel
theorem dX11_joins_110 : decode cX11_joins 110 = .ok (.iadd, 1) := by decide +kernel
theorem dX11_joins_111 : decode cX11_joins 111 = .ok (.iaload, 1) := by decide +kernel
theorem dX11_joins_112 : decode cX11_joins 112 = .ok (.istore 4, 2) := by decide +kernel
theorem dX11_joins_114 : decode cX11_joins 114 = .ok (.aload_n 0, 1) := by decide +kernel
theorem dX11_joins_115 : decode cX11_joins 115 = .ok (.getfield 28, 3) := by decide +kernel
theorem dX11_joins_118 : decode cX11_joins 118 = .ok (.bipush 68, 2) := by decide +kernel
theorem dX11_joins_120 : decode cX11_joins 120 = .ok (.iload_n 1, 1) := by decide +kernel
theorem dX11_joins_121 : decode cX11_joins 121 = .ok (.iadd, 1) := by decide +kernel
theorem dX11_joins_122 : decode cX11_joins 122 = .ok (.iload 4, 2) := by decide +kernel
theorem dX11_joins_124 : decode cX11_joins 124 = .ok (.bipush (-9), 2) := by decide +kernel
theorem dX11_joins_126 : decode cX11_joins 126 = .ok (.if_icmp .eq 19, 3) := by decide +kernel
theorem dX11_joins_129 : decode cX11_joins 129 = .ok (.aload_n 0, 1) := by decide +kernel
theorem dX11_joins_130 : decode cX11_joins 130 = .ok (.getfield 16, 3) := by decide +kernel
theorem dX11_joins_133 : decode cX11_joins 133 = .ok (.iload 4, 2) := by decide +kernel
theorem dX11_joins_135 : decode cX11_joins 135 = .ok (.iaload, 1) := by decide +kernel
theorem dX11_joins_136 : decode cX11_joins 136 = .ok (.iload_n 3, 1) := by decide +kernel
theorem dX11_joins_137 : decode cX11_joins 137 = .ok (.if_icmp .ne 8, 3) := by decide +kernel
theorem dX11_joins_140 : decode cX11_joins 140 = .ok (.bipush (-9), 2) := by decide +kernel
theorem dX11_joins_142 : decode cX11_joins 142 = .ok (.goto 5, 3) := by decide +kernel
theorem dX11_joins_145 : decode cX11_joins 145 = .ok (.iload 4, 2) := by decide +kernel
theorem dX11_joins_147 : decode cX11_joins 147 = .ok (.iastore, 1) := by decide +kernel
theorem dX11_joins_148 : decode cX11_joins 148 = .ok (.aload_n 0, 1) := by decide +kernel
theorem dX11_joins_149 : decode cX11_joins 149 = .ok (.getfield 28, 3) := by decide +kernel
theorem dX11_joins_152 : decode cX11_joins 152 = .ok (.bipush 55, 2) := by decide +kernel
theorem dX11_joins_154 : decode cX11_joins 154 = .ok (.iload_n 2, 1) := by decide +kernel
theorem dX11_joins_155 : decode cX11_joins 155 = .ok (.iadd, 1) := by decide +kernel
theorem dX11_joins_156 : decode cX11_joins 156 = .ok (.iaload, 1) := by decide +kernel
theorem dX11_joins_157 : decode cX11_joins 157 = .ok (.ireturn, 1) := by decide +kernel
theorem dX11_keep_0 : decode cX11_keep 0 = .ok (.iload_n 1, 1) := by decide +kernel
theorem dX11_keep_1 : decode cX11_keep 1 = .ok (.iconst 0, 1) := by decide +kernel
theorem dX11_keep_2 : decode cX11_keep 2 = .ok (.iconst 1, 1) := by decide +kernel
theorem dX11_keep_3 : decode cX11_keep 3 = .ok (.invokestatic 72, 3) := by decide +kernel
theorem dX11_keep_6 : decode cX11_keep 6 = .ok (.ifCond .ne 5, 3) := by decide +kernel
theorem dX11_keep_9 : decode cX11_keep 9 = .ok (.iconst (-1), 1) := by decide +kernel
theorem dX11_keep_10 : decode cX11_keep 10 = .ok (.ireturn, 1) := by decide +kernel
theorem dX11_keep_11 : decode cX11_keep 11 = .ok (.iconst 0, 1) := by decide +kernel
theorem dX11_keep_12 : decode cX11_keep 12 = .ok (.istore_n 2, 1) := by decide +kernel
theorem dX11_keep_13 : decode cX11_keep 13 = .ok (.iload_n 2, 1) := by decide +kernel
theorem dX11_keep_14 : decode cX11_keep 14 = .ok (.sipush 815, 3) := by decide +kernel
theorem dX11_keep_17 : decode cX11_keep 17 = .ok (.if_icmp .ge 27, 3) := by decide +kernel
theorem dX11_keep_20 : decode cX11_keep 20 = .ok (.aload_n 0, 1) := by decide +kernel
theorem dX11_keep_21 : decode cX11_keep 21 = .ok (.getfield 31, 3) := by decide +kernel
theorem dX11_keep_24 : decode cX11_keep 24 = .ok (.sipush 815, 3) := by decide +kernel
theorem dX11_keep_27 : decode cX11_keep 27 = .ok (.iload_n 1, 1) := by decide +kernel
theorem dX11_keep_28 : decode cX11_keep 28 = .ok (.imul, 1) := by decide +kernel
theorem dX11_keep_29 : decode cX11_keep 29 = .ok (.iload_n 2, 1) := by decide +kernel
theorem dX11_keep_30 : decode cX11_keep 30 = .ok (.iadd, 1) := by decide +kernel
theorem dX11_keep_31 : decode cX11_keep 31 = .ok (.aload_n 0, 1) := by decide +kernel
theorem dX11_keep_32 : decode cX11_keep 32 = .ok (.getfield 28, 3) := by decide +kernel
theorem dX11_keep_35 : decode cX11_keep 35 = .ok (.iload_n 2, 1) := by decide +kernel
theorem dX11_keep_36 : decode cX11_keep 36 = .ok (.iaload, 1) := by decide +kernel
theorem dX11_keep_37 : decode cX11_keep 37 = .ok (.iastore, 1) := by decide +kernel
theorem dX11_keep_38 : decode cX11_keep 38 = .ok (.iinc 2 1, 3) := by decide +kernel
theorem dX11_keep_41 : decode cX11_keep 41 = .ok (.goto (-28), 3) := by decide +kernel
theorem dX11_keep_44 : decode cX11_keep 44 = .ok (.aload_n 0, 1) := by decide +kernel
theorem dX11_keep_45 : decode cX11_keep 45 = .ok (.getfield 34, 3) := by decide +kernel
theorem dX11_keep_48 : decode cX11_keep 48 = .ok (.iload_n 1, 1) := by decide +kernel
theorem dX11_keep_49 : decode cX11_keep 49 = .ok (.iconst 1, 1) := by decide +kernel
theorem dX11_keep_50 : decode cX11_keep 50 = .ok (.bastore, 1) := by decide +kernel
theorem dX11_keep_51 : decode cX11_keep 51 = .ok (.aload_n 0, 1) := by decide +kernel
theorem dX11_keep_52 : decode cX11_keep 52 = .ok (.getfield 28, 3) := by decide +kernel
theorem dX11_keep_55 : decode cX11_keep 55 = .ok (.iconst 0, 1) := by decide +kernel
theorem dX11_keep_56 : decode cX11_keep 56 = .ok (.iaload, 1) := by decide +kernel
theorem dX11_keep_57 : decode cX11_keep 57 = .ok (.ireturn, 1) := by decide +kernel
theorem dX11_kth_0 : decode cX11_kth 0 = .ok (.iload_n 1, 1) := by decide +kernel
theorem dX11_kth_1 : decode cX11_kth 1 = .ok (.istore_n 2, 1) := by decide +kernel
theorem dX11_kth_2 : decode cX11_kth 2 = .ok (.iconst 0, 1) := by decide +kernel
theorem dX11_kth_3 : decode cX11_kth 3 = .ok (.istore_n 3, 1) := by decide +kernel
theorem dX11_kth_4 : decode cX11_kth 4 = .ok (.iload_n 3, 1) := by decide +kernel
theorem dX11_kth_5 : decode cX11_kth 5 = .ok (.bipush 8, 2) := by decide +kernel
theorem dX11_kth_7 : decode cX11_kth 7 = .ok (.if_icmp .ge 26, 3) := by decide +kernel
theorem dX11_kth_10 : decode cX11_kth 10 = .ok (.iload_n 0, 1) := by decide +kernel
theorem dX11_kth_11 : decode cX11_kth 11 = .ok (.iload_n 3, 1) := by decide +kernel
theorem dX11_kth_12 : decode cX11_kth 12 = .ok (.invokestatic 140, 3) := by decide +kernel
theorem dX11_kth_15 : decode cX11_kth 15 = .ok (.ifCond .eq 12, 3) := by decide +kernel
theorem dX11_kth_18 : decode cX11_kth 18 = .ok (.iload_n 2, 1) := by decide +kernel
theorem dX11_kth_19 : decode cX11_kth 19 = .ok (.ifCond .ne 5, 3) := by decide +kernel
theorem dX11_kth_22 : decode cX11_kth 22 = .ok (.iload_n 3, 1) := by decide +kernel
theorem dX11_kth_23 : decode cX11_kth 23 = .ok (.ireturn, 1) := by decide +kernel
theorem dX11_kth_24 : decode cX11_kth 24 = .ok (.iinc 2 (-1), 3) := by decide +kernel
theorem dX11_kth_27 : decode cX11_kth 27 = .ok (.iinc 3 1, 3) := by decide +kernel
theorem dX11_kth_30 : decode cX11_kth 30 = .ok (.goto (-26), 3) := by decide +kernel
theorem dX11_kth_33 : decode cX11_kth 33 = .ok (.bipush (-9), 2) := by decide +kernel
theorem dX11_kth_35 : decode cX11_kth 35 = .ok (.ireturn, 1) := by decide +kernel
theorem dX11_layMost_0 : decode cX11_layMost 0 = .ok (.iconst 0, 1) := by decide +kernel
theorem dX11_layMost_1 : decode cX11_layMost 1 = .ok (.istore_n 1, 1) := by decide +kernel
theorem dX11_layMost_2 : decode cX11_layMost 2 = .ok (.iload_n 1, 1) := by decide +kernel
theorem dX11_layMost_3 : decode cX11_layMost 3 = .ok (.sipush 256, 3) := by decide +kernel
theorem dX11_layMost_6 : decode cX11_layMost 6 = .ok (.if_icmp .ge 25, 3) := by decide +kernel
theorem dX11_layMost_9 : decode cX11_layMost 9 = .ok (.aload_n 0, 1) := by decide +kernel
theorem dX11_layMost_10 : decode cX11_layMost 10 = .ok (.getfield 65, 3) := by decide +kernel
theorem dX11_layMost_13 : decode cX11_layMost 13 = .ok (.sipush 256, 3) := by decide +kernel
theorem dX11_layMost_16 : decode cX11_layMost 16 = .ok (.aload_n 0, 1) := by decide +kernel
theorem dX11_layMost_17 : decode cX11_layMost 17 = .ok (.getfield 76, 3) := by decide +kernel
theorem dX11_layMost_20 : decode cX11_layMost 20 = .ok (.imul, 1) := by decide +kernel
theorem dX11_layMost_21 : decode cX11_layMost 21 = .ok (.iload_n 1, 1) := by decide +kernel
theorem dX11_layMost_22 : decode cX11_layMost 22 = .ok (.iadd, 1) := by decide +kernel
theorem dX11_layMost_23 : decode cX11_layMost 23 = .ok (.iconst 0, 1) := by decide +kernel
theorem dX11_layMost_24 : decode cX11_layMost 24 = .ok (.iastore, 1) := by decide +kernel
theorem dX11_layMost_25 : decode cX11_layMost 25 = .ok (.iinc 1 1, 3) := by decide +kernel
theorem dX11_layMost_28 : decode cX11_layMost 28 = .ok (.goto (-26), 3) := by decide +kernel
theorem dX11_layMost_31 : decode cX11_layMost 31 = .ok (.aload_n 0, 1) := by decide +kernel
theorem dX11_layMost_32 : decode cX11_layMost 32 = .ok (.getfield 76, 3) := by decide +kernel
theorem dX11_layMost_35 : decode cX11_layMost 35 = .ok (.iconst 1, 1) := by decide +kernel
theorem dX11_layMost_36 : decode cX11_layMost 36 = .ok (.isub, 1) := by decide +kernel
theorem dX11_layMost_37 : decode cX11_layMost 37 = .ok (.istore_n 1, 1) := by decide +kernel
theorem dX11_layMost_38 : decode cX11_layMost 38 = .ok (.iload_n 1, 1) := by decide +kernel
theorem dX11_layMost_39 : decode cX11_layMost 39 = .ok (.ifCond .lt 129, 3) := by decide +kernel
theorem dX11_layMost_42 : decode cX11_layMost 42 = .ok (.iconst 0, 1) := by decide +kernel
theorem dX11_layMost_43 : decode cX11_layMost 43 = .ok (.istore_n 2, 1) := by decide +kernel
theorem dX11_layMost_44 : decode cX11_layMost 44 = .ok (.iload_n 2, 1) := by decide +kernel
theorem dX11_layMost_45 : decode cX11_layMost 45 = .ok (.sipush 256, 3) := by decide +kernel
theorem dX11_layMost_48 : decode cX11_layMost 48 = .ok (.if_icmp .ge 114, 3) := by decide +kernel
theorem dX11_layMost_51 : decode cX11_layMost 51 = .ok (.aload_n 0, 1) := by decide +kernel
theorem dX11_layMost_52 : decode cX11_layMost 52 = .ok (.getfield 65, 3) := by decide +kernel
theorem dX11_layMost_55 : decode cX11_layMost 55 = .ok (.sipush 256, 3) := by decide +kernel
theorem dX11_layMost_58 : decode cX11_layMost 58 = .ok (.iload_n 1, 1) := by decide +kernel
theorem dX11_layMost_59 : decode cX11_layMost 59 = .ok (.iconst 1, 1) := by decide +kernel
theorem dX11_layMost_60 : decode cX11_layMost 60 = .ok (.iadd, 1) := by decide +kernel
theorem dX11_layMost_61 : decode cX11_layMost 61 = .ok (.imul, 1) := by decide +kernel
theorem dX11_layMost_62 : decode cX11_layMost 62 = .ok (.iload_n 2, 1) := by decide +kernel
theorem dX11_layMost_63 : decode cX11_layMost 63 = .ok (.iadd, 1) := by decide +kernel
theorem dX11_layMost_64 : decode cX11_layMost 64 = .ok (.iaload, 1) := by decide +kernel
theorem dX11_layMost_65 : decode cX11_layMost 65 = .ok (.istore_n 3, 1) := by decide +kernel
theorem dX11_layMost_66 : decode cX11_layMost 66 = .ok (.iconst 0, 1) := by decide +kernel
theorem dX11_layMost_67 : decode cX11_layMost 67 = .ok (.istore 4, 2) := by decide +kernel
theorem dX11_layMost_69 : decode cX11_layMost 69 = .ok (.iload 4, 2) := by decide +kernel
theorem dX11_layMost_71 : decode cX11_layMost 71 = .ok (.aload_n 0, 1) := by decide +kernel
theorem dX11_layMost_72 : decode cX11_layMost 72 = .ok (.getfield 68, 3) := by decide +kernel
theorem dX11_layMost_75 : decode cX11_layMost 75 = .ok (.if_icmp .ge 68, 3) := by decide +kernel
theorem dX11_layMost_78 : decode cX11_layMost 78 = .ok (.aload_n 0, 1) := by decide +kernel
theorem dX11_layMost_79 : decode cX11_layMost 79 = .ok (.iload_n 1, 1) := by decide +kernel
theorem dX11_layMost_80 : decode cX11_layMost 80 = .ok (.iload 4, 2) := by decide +kernel
theorem dX11_layMost_82 : decode cX11_layMost 82 = .ok (.invokevirtual 153, 3) := by decide +kernel
theorem dX11_layMost_85 : decode cX11_layMost 85 = .ok (.ifCond .eq 36, 3) := by decide +kernel
theorem dX11_layMost_88 : decode cX11_layMost 88 = .ok (.iload_n 2, 1) := by decide +kernel
theorem dX11_layMost_89 : decode cX11_layMost 89 = .ok (.iload 4, 2) := by decide +kernel
theorem dX11_layMost_91 : decode cX11_layMost 91 = .ok (.invokestatic 140, 3) := by decide +kernel
theorem dX11_layMost_94 : decode cX11_layMost 94 = .ok (.ifCond .ne 27, 3) := by decide +kernel
theorem dX11_layMost_97 : decode cX11_layMost 97 = .ok (.iconst 1, 1) := by decide +kernel
theorem dX11_layMost_98 : decode cX11_layMost 98 = .ok (.aload_n 0, 1) := by decide +kernel
theorem dX11_layMost_99 : decode cX11_layMost 99 = .ok (.getfield 65, 3) := by decide +kernel
theorem dX11_layMost_102 : decode cX11_layMost 102 = .ok (.sipush 256, 3) := by decide +kernel
theorem dX11_layMost_105 : decode cX11_layMost 105 = .ok (.iload_n 1, 1) := by decide +kernel
theorem dX11_layMost_106 : decode cX11_layMost 106 = .ok (.iconst 1, 1) := by decide +kernel
theorem dX11_layMost_107 : decode cX11_layMost 107 = .ok (.iadd, 1) := by decide +kernel
theorem dX11_layMost_108 : decode cX11_layMost 108 = .ok (.imul, 1) := by decide +kernel
theorem dX11_layMost_109 : decode cX11_layMost 109 = .ok (.iload_n 2, 1) := by decide +kernel
theorem dX11_layMost_110 : decode cX11_layMost 110 = .ok (.iconst 1, 1) := by decide +kernel
theorem dX11_layMost_111 : decode cX11_layMost 111 = .ok (.iload 4, 2) := by decide +kernel
theorem dX11_layMost_113 : decode cX11_layMost 113 = .ok (.ishl, 1) := by decide +kernel
theorem dX11_layMost_114 : decode cX11_layMost 114 = .ok (.ior, 1) := by decide +kernel
theorem dX11_layMost_115 : decode cX11_layMost 115 = .ok (.iadd, 1) := by decide +kernel
theorem dX11_layMost_116 : decode cX11_layMost 116 = .ok (.iaload, 1) := by decide +kernel
theorem dX11_layMost_117 : decode cX11_layMost 117 = .ok (.iadd, 1) := by decide +kernel
theorem dX11_layMost_118 : decode cX11_layMost 118 = .ok (.goto 4, 3) := by decide +kernel
theorem dX11_layMost_121 : decode cX11_layMost 121 = .ok (.iconst 0, 1) := by decide +kernel
theorem dX11_layMost_122 : decode cX11_layMost 122 = .ok (.istore 5, 2) := by decide +kernel
theorem dX11_layMost_124 : decode cX11_layMost 124 = .ok (.iload 5, 2) := by decide +kernel
theorem dX11_layMost_126 : decode cX11_layMost 126 = .ok (.iload_n 3, 1) := by decide +kernel
theorem dX11_layMost_127 : decode cX11_layMost 127 = .ok (.if_icmp .le 8, 3) := by decide +kernel
theorem dX11_layMost_130 : decode cX11_layMost 130 = .ok (.iload 5, 2) := by decide +kernel
theorem dX11_layMost_132 : decode cX11_layMost 132 = .ok (.goto 4, 3) := by decide +kernel
theorem dX11_layMost_135 : decode cX11_layMost 135 = .ok (.iload_n 3, 1) := by decide +kernel
theorem dX11_layMost_136 : decode cX11_layMost 136 = .ok (.istore_n 3, 1) := by decide +kernel
theorem dX11_layMost_137 : decode cX11_layMost 137 = .ok (.iinc 4 1, 3) := by decide +kernel
theorem dX11_layMost_140 : decode cX11_layMost 140 = .ok (.goto (-71), 3) := by decide +kernel
theorem dX11_layMost_143 : decode cX11_layMost 143 = .ok (.aload_n 0, 1) := by decide +kernel
theorem dX11_layMost_144 : decode cX11_layMost 144 = .ok (.getfield 65, 3) := by decide +kernel
theorem dX11_layMost_147 : decode cX11_layMost 147 = .ok (.sipush 256, 3) := by decide +kernel
theorem dX11_layMost_150 : decode cX11_layMost 150 = .ok (.iload_n 1, 1) := by decide +kernel
theorem dX11_layMost_151 : decode cX11_layMost 151 = .ok (.imul, 1) := by decide +kernel
theorem dX11_layMost_152 : decode cX11_layMost 152 = .ok (.iload_n 2, 1) := by decide +kernel
theorem dX11_layMost_153 : decode cX11_layMost 153 = .ok (.iadd, 1) := by decide +kernel
theorem dX11_layMost_154 : decode cX11_layMost 154 = .ok (.iload_n 3, 1) := by decide +kernel
theorem dX11_layMost_155 : decode cX11_layMost 155 = .ok (.iastore, 1) := by decide +kernel
theorem dX11_layMost_156 : decode cX11_layMost 156 = .ok (.iinc 2 1, 3) := by decide +kernel
theorem dX11_layMost_159 : decode cX11_layMost 159 = .ok (.goto (-115), 3) := by decide +kernel
theorem dX11_layMost_162 : decode cX11_layMost 162 = .ok (.iinc 1 (-1), 3) := by decide +kernel
theorem dX11_layMost_165 : decode cX11_layMost 165 = .ok (.goto (-127), 3) := by decide +kernel
theorem dX11_layMost_168 : decode cX11_layMost 168 = .ok (.return_, 1) := by decide +kernel
end
section
theorem dX11_learns_0 : decode cX11_learns 0 = .ok (.iconst 1, 1) := by decide +kernel
theorem dX11_learns_1 : decode cX11_learns 1 = .ok (.bipush 8, 2) := by decide +kernel
theorem dX11_learns_3 : decode cX11_learns 3 = .ok (.iload_n 1, 1) := by decide +kernel
theorem dX11_learns_4 : decode cX11_learns 4 = .ok (.imul, 1) := by decide +kernel
theorem dX11_learns_5 : decode cX11_learns 5 = .ok (.iadd, 1) := by decide +kernel
theorem dX11_learns_6 : decode cX11_learns 6 = .ok (.iload_n 2, 1) := by decide +kernel
theorem dX11_learns_7 : decode cX11_learns 7 = .ok (.iadd, 1) := by decide +kernel
theorem dX11_learns_8 : decode cX11_learns 8 = .ok (.istore_n 3, 1) := by decide +kernel
theorem dX11_learns_9 : decode cX11_learns 9 = .ok (.aload_n 0, 1) := by decide +kernel
theorem dX11_learns_10 : decode cX11_learns 10 = .ok (.getfield 28, 3) := by decide +kernel
theorem dX11_learns_13 : decode cX11_learns 13 = .ok (.iload_n 3, 1) := by decide +kernel
theorem dX11_learns_14 : decode cX11_learns 14 = .ok (.dup2, 1) := by decide +kernel
theorem dX11_learns_15 : decode cX11_learns 15 = .ok (.iaload, 1) := by decide +kernel
theorem dX11_learns_16 : decode cX11_learns 16 = .ok (.aload_n 0, 1) := by decide +kernel
theorem dX11_learns_17 : decode cX11_learns 17 = .ok (.getfield 25, 3) := by decide +kernel
theorem dX11_learns_20 : decode cX11_learns 20 = .ok (.iload_n 1, 1) := by decide +kernel
theorem dX11_learns_21 : decode cX11_learns 21 = .ok (.iaload, 1) := by decide +kernel
theorem dX11_learns_22 : decode cX11_learns 22 = .ok (.iadd, 1) := by decide +kernel
theorem dX11_learns_23 : decode cX11_learns 23 = .ok (.iastore, 1) := by decide +kernel
theorem dX11_learns_24 : decode cX11_learns 24 = .ok (.aload_n 0, 1) := by decide +kernel
theorem dX11_learns_25 : decode cX11_learns 25 = .ok (.getfield 28, 3) := by decide +kernel
theorem dX11_learns_28 : decode cX11_learns 28 = .ok (.bipush 61, 2) := by decide +kernel
theorem dX11_learns_30 : decode cX11_learns 30 = .ok (.iload_n 1, 1) := by decide +kernel
theorem dX11_learns_31 : decode cX11_learns 31 = .ok (.iadd, 1) := by decide +kernel
theorem dX11_learns_32 : decode cX11_learns 32 = .ok (.dup2, 1) := by decide +kernel
theorem dX11_learns_33 : decode cX11_learns 33 = .ok (.iaload, 1) := by decide +kernel
theorem dX11_learns_34 : decode cX11_learns 34 = .ok (.aload_n 0, 1) := by decide +kernel
theorem dX11_learns_35 : decode cX11_learns 35 = .ok (.getfield 7, 3) := by decide +kernel
theorem dX11_learns_38 : decode cX11_learns 38 = .ok (.iload_n 2, 1) := by decide +kernel
theorem dX11_learns_39 : decode cX11_learns 39 = .ok (.iaload, 1) := by decide +kernel
theorem dX11_learns_40 : decode cX11_learns 40 = .ok (.iadd, 1) := by decide +kernel
theorem dX11_learns_41 : decode cX11_learns 41 = .ok (.iastore, 1) := by decide +kernel
theorem dX11_learns_42 : decode cX11_learns 42 = .ok (.aload_n 0, 1) := by decide +kernel
theorem dX11_learns_43 : decode cX11_learns 43 = .ok (.getfield 28, 3) := by decide +kernel
theorem dX11_learns_46 : decode cX11_learns 46 = .ok (.bipush 61, 2) := by decide +kernel
theorem dX11_learns_48 : decode cX11_learns 48 = .ok (.iload_n 1, 1) := by decide +kernel
theorem dX11_learns_49 : decode cX11_learns 49 = .ok (.iadd, 1) := by decide +kernel
theorem dX11_learns_50 : decode cX11_learns 50 = .ok (.iaload, 1) := by decide +kernel
theorem dX11_learns_51 : decode cX11_learns 51 = .ok (.aload_n 0, 1) := by decide +kernel
theorem dX11_learns_52 : decode cX11_learns 52 = .ok (.getfield 22, 3) := by decide +kernel
theorem dX11_learns_55 : decode cX11_learns 55 = .ok (.iload_n 1, 1) := by decide +kernel
theorem dX11_learns_56 : decode cX11_learns 56 = .ok (.iaload, 1) := by decide +kernel
theorem dX11_learns_57 : decode cX11_learns 57 = .ok (.if_icmp .le 7, 3) := by decide +kernel
theorem dX11_learns_60 : decode cX11_learns 60 = .ok (.iconst 1, 1) := by decide +kernel
theorem dX11_learns_61 : decode cX11_learns 61 = .ok (.goto 4, 3) := by decide +kernel
theorem dX11_learns_64 : decode cX11_learns 64 = .ok (.iconst 0, 1) := by decide +kernel
theorem dX11_learns_65 : decode cX11_learns 65 = .ok (.istore 4, 2) := by decide +kernel
theorem dX11_learns_67 : decode cX11_learns 67 = .ok (.iload 4, 2) := by decide +kernel
theorem dX11_learns_69 : decode cX11_learns 69 = .ok (.ifCond .ne 22, 3) := by decide +kernel
theorem dX11_learns_72 : decode cX11_learns 72 = .ok (.aload_n 0, 1) := by decide +kernel
theorem dX11_learns_73 : decode cX11_learns 73 = .ok (.getfield 28, 3) := by decide +kernel
theorem dX11_learns_76 : decode cX11_learns 76 = .ok (.iload_n 3, 1) := by decide +kernel
theorem dX11_learns_77 : decode cX11_learns 77 = .ok (.iaload, 1) := by decide +kernel
theorem dX11_learns_78 : decode cX11_learns 78 = .ok (.aload_n 0, 1) := by decide +kernel
theorem dX11_learns_79 : decode cX11_learns 79 = .ok (.getfield 13, 3) := by decide +kernel
theorem dX11_learns_82 : decode cX11_learns 82 = .ok (.iload_n 2, 1) := by decide +kernel
theorem dX11_learns_83 : decode cX11_learns 83 = .ok (.iaload, 1) := by decide +kernel
theorem dX11_learns_84 : decode cX11_learns 84 = .ok (.if_icmp .lt 7, 3) := by decide +kernel
theorem dX11_learns_87 : decode cX11_learns 87 = .ok (.iconst 1, 1) := by decide +kernel
theorem dX11_learns_88 : decode cX11_learns 88 = .ok (.goto 4, 3) := by decide +kernel
theorem dX11_learns_91 : decode cX11_learns 91 = .ok (.iconst 0, 1) := by decide +kernel
theorem dX11_learns_92 : decode cX11_learns 92 = .ok (.istore 5, 2) := by decide +kernel
theorem dX11_learns_94 : decode cX11_learns 94 = .ok (.aload_n 0, 1) := by decide +kernel
theorem dX11_learns_95 : decode cX11_learns 95 = .ok (.getfield 28, 3) := by decide +kernel
theorem dX11_learns_98 : decode cX11_learns 98 = .ok (.bipush 67, 2) := by decide +kernel
theorem dX11_learns_100 : decode cX11_learns 100 = .ok (.dup2, 1) := by decide +kernel
theorem dX11_learns_101 : decode cX11_learns 101 = .ok (.iaload, 1) := by decide +kernel
theorem dX11_learns_102 : decode cX11_learns 102 = .ok (.iload 4, 2) := by decide +kernel
theorem dX11_learns_104 : decode cX11_learns 104 = .ok (.ifCond .eq 9, 3) := by decide +kernel
theorem dX11_learns_107 : decode cX11_learns 107 = .ok (.iconst 1, 1) := by decide +kernel
theorem dX11_learns_108 : decode cX11_learns 108 = .ok (.iload_n 1, 1) := by decide +kernel
theorem dX11_learns_109 : decode cX11_learns 109 = .ok (.ishl, 1) := by decide +kernel
theorem dX11_learns_110 : decode cX11_learns 110 = .ok (.goto 4, 3) := by decide +kernel
theorem dX11_learns_113 : decode cX11_learns 113 = .ok (.iconst 0, 1) := by decide +kernel
theorem dX11_learns_114 : decode cX11_learns 114 = .ok (.ior, 1) := by decide +kernel
theorem dX11_learns_115 : decode cX11_learns 115 = .ok (.iastore, 1) := by decide +kernel
theorem dX11_learns_116 : decode cX11_learns 116 = .ok (.aload_n 0, 1) := by decide +kernel
theorem dX11_learns_117 : decode cX11_learns 117 = .ok (.getfield 28, 3) := by decide +kernel
theorem dX11_learns_120 : decode cX11_learns 120 = .ok (.bipush 49, 2) := by decide +kernel
theorem dX11_learns_122 : decode cX11_learns 122 = .ok (.iload_n 1, 1) := by decide +kernel
theorem dX11_learns_123 : decode cX11_learns 123 = .ok (.iadd, 1) := by decide +kernel
theorem dX11_learns_124 : decode cX11_learns 124 = .ok (.dup2, 1) := by decide +kernel
theorem dX11_learns_125 : decode cX11_learns 125 = .ok (.iaload, 1) := by decide +kernel
theorem dX11_learns_126 : decode cX11_learns 126 = .ok (.iload 5, 2) := by decide +kernel
theorem dX11_learns_128 : decode cX11_learns 128 = .ok (.ifCond .eq 9, 3) := by decide +kernel
theorem dX11_learns_131 : decode cX11_learns 131 = .ok (.iconst 1, 1) := by decide +kernel
theorem dX11_learns_132 : decode cX11_learns 132 = .ok (.iload_n 2, 1) := by decide +kernel
theorem dX11_learns_133 : decode cX11_learns 133 = .ok (.ishl, 1) := by decide +kernel
theorem dX11_learns_134 : decode cX11_learns 134 = .ok (.goto 4, 3) := by decide +kernel
theorem dX11_learns_137 : decode cX11_learns 137 = .ok (.iconst 0, 1) := by decide +kernel
theorem dX11_learns_138 : decode cX11_learns 138 = .ok (.ior, 1) := by decide +kernel
theorem dX11_learns_139 : decode cX11_learns 139 = .ok (.iastore, 1) := by decide +kernel
theorem dX11_learns_140 : decode cX11_learns 140 = .ok (.aload_n 0, 1) := by decide +kernel
theorem dX11_learns_141 : decode cX11_learns 141 = .ok (.getfield 28, 3) := by decide +kernel
theorem dX11_learns_144 : decode cX11_learns 144 = .ok (.bipush 68, 2) := by decide +kernel
theorem dX11_learns_146 : decode cX11_learns 146 = .ok (.iload_n 1, 1) := by decide +kernel
theorem dX11_learns_147 : decode cX11_learns 147 = .ok (.iadd, 1) := by decide +kernel
theorem dX11_learns_148 : decode cX11_learns 148 = .ok (.iload 4, 2) := by decide +kernel
theorem dX11_learns_150 : decode cX11_learns 150 = .ok (.ifCond .ne 8, 3) := by decide +kernel
theorem dX11_learns_153 : decode cX11_learns 153 = .ok (.iload 5, 2) := by decide +kernel
theorem dX11_learns_155 : decode cX11_learns 155 = .ok (.ifCond .eq 8, 3) := by decide +kernel
theorem dX11_learns_158 : decode cX11_learns 158 = .ok (.bipush (-9), 2) := by decide +kernel
theorem dX11_learns_160 : decode cX11_learns 160 = .ok (.goto 4, 3) := by decide +kernel
theorem dX11_learns_163 : decode cX11_learns 163 = .ok (.iload_n 2, 1) := by decide +kernel
theorem dX11_learns_164 : decode cX11_learns 164 = .ok (.iastore, 1) := by decide +kernel
theorem dX11_learns_165 : decode cX11_learns 165 = .ok (.return_, 1) := by decide +kernel
theorem dX11_learntAll_0 : decode cX11_learntAll 0 = .ok (.iconst 0, 1) := by decide +kernel
theorem dX11_learntAll_1 : decode cX11_learntAll 1 = .ok (.istore_n 1, 1) := by decide +kernel
theorem dX11_learntAll_2 : decode cX11_learntAll 2 = .ok (.iconst 0, 1) := by decide +kernel
theorem dX11_learntAll_3 : decode cX11_learntAll 3 = .ok (.istore_n 2, 1) := by decide +kernel
theorem dX11_learntAll_4 : decode cX11_learntAll 4 = .ok (.iload_n 2, 1) := by decide +kernel
theorem dX11_learntAll_5 : decode cX11_learntAll 5 = .ok (.aload_n 0, 1) := by decide +kernel
theorem dX11_learntAll_6 : decode cX11_learntAll 6 = .ok (.getfield 76, 3) := by decide +kernel
theorem dX11_learntAll_9 : decode cX11_learntAll 9 = .ok (.if_icmp .ge 24, 3) := by decide +kernel
theorem dX11_learntAll_12 : decode cX11_learntAll 12 = .ok (.iload_n 1, 1) := by decide +kernel
theorem dX11_learntAll_13 : decode cX11_learntAll 13 = .ok (.aload_n 0, 1) := by decide +kernel
theorem dX11_learntAll_14 : decode cX11_learntAll 14 = .ok (.getfield 28, 3) := by decide +kernel
theorem dX11_learntAll_17 : decode cX11_learntAll 17 = .ok (.bipush 49, 2) := by decide +kernel
theorem dX11_learntAll_19 : decode cX11_learntAll 19 = .ok (.iload_n 2, 1) := by decide +kernel
theorem dX11_learntAll_20 : decode cX11_learntAll 20 = .ok (.iadd, 1) := by decide +kernel
theorem dX11_learntAll_21 : decode cX11_learntAll 21 = .ok (.iaload, 1) := by decide +kernel
theorem dX11_learntAll_22 : decode cX11_learntAll 22 = .ok (.invokestatic 175, 3) := by decide +kernel
theorem dX11_learntAll_25 : decode cX11_learntAll 25 = .ok (.iadd, 1) := by decide +kernel
theorem dX11_learntAll_26 : decode cX11_learntAll 26 = .ok (.istore_n 1, 1) := by decide +kernel
theorem dX11_learntAll_27 : decode cX11_learntAll 27 = .ok (.iinc 2 1, 3) := by decide +kernel
theorem dX11_learntAll_30 : decode cX11_learntAll 30 = .ok (.goto (-26), 3) := by decide +kernel
theorem dX11_learntAll_33 : decode cX11_learntAll 33 = .ok (.iload_n 1, 1) := by decide +kernel
theorem dX11_learntAll_34 : decode cX11_learntAll 34 = .ok (.ireturn, 1) := by decide +kernel
theorem dX11_letterAt_0 : decode cX11_letterAt 0 = .ok (.iload_n 1, 1) := by decide +kernel
theorem dX11_letterAt_1 : decode cX11_letterAt 1 = .ok (.aload_n 0, 1) := by decide +kernel
theorem dX11_letterAt_2 : decode cX11_letterAt 2 = .ok (.getfield 79, 3) := by decide +kernel
theorem dX11_letterAt_5 : decode cX11_letterAt 5 = .ok (.if_icmp .ge 12, 3) := by decide +kernel
theorem dX11_letterAt_8 : decode cX11_letterAt 8 = .ok (.aload_n 0, 1) := by decide +kernel
theorem dX11_letterAt_9 : decode cX11_letterAt 9 = .ok (.getfield 41, 3) := by decide +kernel
theorem dX11_letterAt_12 : decode cX11_letterAt 12 = .ok (.iload_n 1, 1) := by decide +kernel
theorem dX11_letterAt_13 : decode cX11_letterAt 13 = .ok (.iaload, 1) := by decide +kernel
theorem dX11_letterAt_14 : decode cX11_letterAt 14 = .ok (.goto 4, 3) := by decide +kernel
theorem dX11_letterAt_17 : decode cX11_letterAt 17 = .ok (.iconst (-1), 1) := by decide +kernel
theorem dX11_letterAt_18 : decode cX11_letterAt 18 = .ok (.ireturn, 1) := by decide +kernel
theorem dX11_lowest_0 : decode cX11_lowest 0 = .ok (.iload_n 0, 1) := by decide +kernel
theorem dX11_lowest_1 : decode cX11_lowest 1 = .ok (.istore_n 3, 1) := by decide +kernel
theorem dX11_lowest_2 : decode cX11_lowest 2 = .ok (.iload_n 1, 1) := by decide +kernel
theorem dX11_lowest_3 : decode cX11_lowest 3 = .ok (.istore 4, 2) := by decide +kernel
theorem dX11_lowest_5 : decode cX11_lowest 5 = .ok (.iload 4, 2) := by decide +kernel
theorem dX11_lowest_7 : decode cX11_lowest 7 = .ok (.ifCond .le 19, 3) := by decide +kernel
theorem dX11_lowest_10 : decode cX11_lowest 10 = .ok (.iload_n 3, 1) := by decide +kernel
theorem dX11_lowest_11 : decode cX11_lowest 11 = .ok (.iload 4, 2) := by decide +kernel
theorem dX11_lowest_13 : decode cX11_lowest 13 = .ok (.irem, 1) := by decide +kernel
theorem dX11_lowest_14 : decode cX11_lowest 14 = .ok (.istore 5, 2) := by decide +kernel
theorem dX11_lowest_16 : decode cX11_lowest 16 = .ok (.iload 4, 2) := by decide +kernel
theorem dX11_lowest_18 : decode cX11_lowest 18 = .ok (.istore_n 3, 1) := by decide +kernel
theorem dX11_lowest_19 : decode cX11_lowest 19 = .ok (.iload 5, 2) := by decide +kernel
theorem dX11_lowest_21 : decode cX11_lowest 21 = .ok (.istore 4, 2) := by decide +kernel
theorem dX11_lowest_23 : decode cX11_lowest 23 = .ok (.goto (-18), 3) := by decide +kernel
theorem dX11_lowest_26 : decode cX11_lowest 26 = .ok (.iload_n 2, 1) := by decide +kernel
theorem dX11_lowest_27 : decode cX11_lowest 27 = .ok (.ifCond .ne 7, 3) := by decide +kernel
theorem dX11_lowest_30 : decode cX11_lowest 30 = .ok (.iload_n 0, 1) := by decide +kernel
theorem dX11_lowest_31 : decode cX11_lowest 31 = .ok (.goto 4, 3) := by decide +kernel
theorem dX11_lowest_34 : decode cX11_lowest 34 = .ok (.iload_n 1, 1) := by decide +kernel
theorem dX11_lowest_35 : decode cX11_lowest 35 = .ok (.iload_n 3, 1) := by decide +kernel
theorem dX11_lowest_36 : decode cX11_lowest 36 = .ok (.idiv, 1) := by decide +kernel
theorem dX11_lowest_37 : decode cX11_lowest 37 = .ok (.ireturn, 1) := by decide +kernel
theorem dX11_mark_0 : decode cX11_mark 0 = .ok (.iload_n 1, 1) := by decide +kernel
theorem dX11_mark_1 : decode cX11_mark 1 = .ok (.iconst 0, 1) := by decide +kernel
theorem dX11_mark_2 : decode cX11_mark 2 = .ok (.iconst 5, 1) := by decide +kernel
theorem dX11_mark_3 : decode cX11_mark 3 = .ok (.invokestatic 72, 3) := by decide +kernel
theorem dX11_mark_6 : decode cX11_mark 6 = .ok (.ifCond .eq 11, 3) := by decide +kernel
theorem dX11_mark_9 : decode cX11_mark 9 = .ok (.aload_n 0, 1) := by decide +kernel
theorem dX11_mark_10 : decode cX11_mark 10 = .ok (.iload_n 2, 1) := by decide +kernel
theorem dX11_mark_11 : decode cX11_mark 11 = .ok (.invokevirtual 162, 3) := by decide +kernel
theorem dX11_mark_14 : decode cX11_mark 14 = .ok (.ifCond .ne 6, 3) := by decide +kernel
theorem dX11_mark_17 : decode cX11_mark 17 = .ok (.ldc 225, 2) := by decide +kernel
theorem dX11_mark_19 : decode cX11_mark 19 = .ok (.ireturn, 1) := by decide +kernel
theorem dX11_mark_20 : decode cX11_mark 20 = .ok (.aload_n 0, 1) := by decide +kernel
theorem dX11_mark_21 : decode cX11_mark 21 = .ok (.getfield 28, 3) := by decide +kernel
theorem dX11_mark_24 : decode cX11_mark 24 = .ok (.bipush 61, 2) := by decide +kernel
theorem dX11_mark_26 : decode cX11_mark 26 = .ok (.iload_n 2, 1) := by decide +kernel
theorem dX11_mark_27 : decode cX11_mark 27 = .ok (.iadd, 1) := by decide +kernel
theorem dX11_mark_28 : decode cX11_mark 28 = .ok (.iaload, 1) := by decide +kernel
theorem dX11_mark_29 : decode cX11_mark 29 = .ok (.istore_n 3, 1) := by decide +kernel
theorem dX11_mark_30 : decode cX11_mark 30 = .ok (.iload_n 3, 1) := by decide +kernel
theorem dX11_mark_31 : decode cX11_mark 31 = .ok (.aload_n 0, 1) := by decide +kernel
theorem dX11_mark_32 : decode cX11_mark 32 = .ok (.getfield 28, 3) := by decide +kernel
theorem dX11_mark_35 : decode cX11_mark 35 = .ok (.bipush 49, 2) := by decide +kernel
theorem dX11_mark_37 : decode cX11_mark 37 = .ok (.iload_n 2, 1) := by decide +kernel
theorem dX11_mark_38 : decode cX11_mark 38 = .ok (.iadd, 1) := by decide +kernel
theorem dX11_mark_39 : decode cX11_mark 39 = .ok (.iaload, 1) := by decide +kernel
theorem dX11_mark_40 : decode cX11_mark 40 = .ok (.invokestatic 175, 3) := by decide +kernel
theorem dX11_mark_43 : decode cX11_mark 43 = .ok (.iadd, 1) := by decide +kernel
theorem dX11_mark_44 : decode cX11_mark 44 = .ok (.istore 4, 2) := by decide +kernel
theorem dX11_mark_46 : decode cX11_mark 46 = .ok (.iload_n 3, 1) := by decide +kernel
theorem dX11_mark_47 : decode cX11_mark 47 = .ok (.aload_n 0, 1) := by decide +kernel
theorem dX11_mark_48 : decode cX11_mark 48 = .ok (.getfield 28, 3) := by decide +kernel
theorem dX11_mark_51 : decode cX11_mark 51 = .ok (.bipush 55, 2) := by decide +kernel
theorem dX11_mark_53 : decode cX11_mark 53 = .ok (.iload_n 2, 1) := by decide +kernel
theorem dX11_mark_54 : decode cX11_mark 54 = .ok (.iadd, 1) := by decide +kernel
theorem dX11_mark_55 : decode cX11_mark 55 = .ok (.iaload, 1) := by decide +kernel
theorem dX11_mark_56 : decode cX11_mark 56 = .ok (.invokestatic 175, 3) := by decide +kernel
theorem dX11_mark_59 : decode cX11_mark 59 = .ok (.isub, 1) := by decide +kernel
theorem dX11_mark_60 : decode cX11_mark 60 = .ok (.istore 5, 2) := by decide +kernel
theorem dX11_mark_62 : decode cX11_mark 62 = .ok (.iload_n 1, 1) := by decide +kernel
theorem dX11_mark_63 : decode cX11_mark 63 = .ok (.tableswitch 118 1 5 #[33, 48, 63, 80, 97], 33) := by decide +kernel
theorem dX11_mark_96 : decode cX11_mark 96 = .ok (.aload_n 0, 1) := by decide +kernel
theorem dX11_mark_97 : decode cX11_mark 97 = .ok (.dup, 1) := by decide +kernel
theorem dX11_mark_98 : decode cX11_mark 98 = .ok (.getfield 226, 3) := by decide +kernel
theorem dX11_mark_101 : decode cX11_mark 101 = .ok (.ldc2_w 230, 3) := by decide +kernel
theorem dX11_mark_104 : decode cX11_mark 104 = .ok (.ladd, 1) := by decide +kernel
theorem dX11_mark_105 : decode cX11_mark 105 = .ok (.putfield 226, 3) := by decide +kernel
theorem dX11_mark_108 : decode cX11_mark 108 = .ok (.iload 4, 2) := by decide +kernel
theorem dX11_mark_110 : decode cX11_mark 110 = .ok (.ireturn, 1) := by decide +kernel
theorem dX11_mark_111 : decode cX11_mark 111 = .ok (.aload_n 0, 1) := by decide +kernel
theorem dX11_mark_112 : decode cX11_mark 112 = .ok (.dup, 1) := by decide +kernel
theorem dX11_mark_113 : decode cX11_mark 113 = .ok (.getfield 226, 3) := by decide +kernel
theorem dX11_mark_116 : decode cX11_mark 116 = .ok (.ldc2_w 232, 3) := by decide +kernel
theorem dX11_mark_119 : decode cX11_mark 119 = .ok (.ladd, 1) := by decide +kernel
theorem dX11_mark_120 : decode cX11_mark 120 = .ok (.putfield 226, 3) := by decide +kernel
theorem dX11_mark_123 : decode cX11_mark 123 = .ok (.iload 5, 2) := by decide +kernel
theorem dX11_mark_125 : decode cX11_mark 125 = .ok (.ireturn, 1) := by decide +kernel
theorem dX11_mark_126 : decode cX11_mark 126 = .ok (.aload_n 0, 1) := by decide +kernel
theorem dX11_mark_127 : decode cX11_mark 127 = .ok (.dup, 1) := by decide +kernel
theorem dX11_mark_128 : decode cX11_mark 128 = .ok (.getfield 226, 3) := by decide +kernel
theorem dX11_mark_131 : decode cX11_mark 131 = .ok (.ldc2_w 234, 3) := by decide +kernel
theorem dX11_mark_134 : decode cX11_mark 134 = .ok (.ladd, 1) := by decide +kernel
theorem dX11_mark_135 : decode cX11_mark 135 = .ok (.putfield 226, 3) := by decide +kernel
theorem dX11_mark_138 : decode cX11_mark 138 = .ok (.iconst 2, 1) := by decide +kernel
theorem dX11_mark_139 : decode cX11_mark 139 = .ok (.iload 4, 2) := by decide +kernel
theorem dX11_mark_141 : decode cX11_mark 141 = .ok (.imul, 1) := by decide +kernel
theorem dX11_mark_142 : decode cX11_mark 142 = .ok (.ireturn, 1) := by decide +kernel
theorem dX11_mark_143 : decode cX11_mark 143 = .ok (.aload_n 0, 1) := by decide +kernel
theorem dX11_mark_144 : decode cX11_mark 144 = .ok (.dup, 1) := by decide +kernel
theorem dX11_mark_145 : decode cX11_mark 145 = .ok (.getfield 226, 3) := by decide +kernel
theorem dX11_mark_148 : decode cX11_mark 148 = .ok (.ldc2_w 236, 3) := by decide +kernel
theorem dX11_mark_151 : decode cX11_mark 151 = .ok (.ladd, 1) := by decide +kernel
theorem dX11_mark_152 : decode cX11_mark 152 = .ok (.putfield 226, 3) := by decide +kernel
theorem dX11_mark_155 : decode cX11_mark 155 = .ok (.iload 5, 2) := by decide +kernel
theorem dX11_mark_157 : decode cX11_mark 157 = .ok (.iload_n 2, 1) := by decide +kernel
theorem dX11_mark_158 : decode cX11_mark 158 = .ok (.iadd, 1) := by decide +kernel
theorem dX11_mark_159 : decode cX11_mark 159 = .ok (.ireturn, 1) := by decide +kernel
theorem dX11_mark_160 : decode cX11_mark 160 = .ok (.aload_n 0, 1) := by decide +kernel
theorem dX11_mark_161 : decode cX11_mark 161 = .ok (.dup, 1) := by decide +kernel
theorem dX11_mark_162 : decode cX11_mark 162 = .ok (.getfield 226, 3) := by decide +kernel
theorem dX11_mark_165 : decode cX11_mark 165 = .ok (.ldc2_w 238, 3) := by decide +kernel
theorem dX11_mark_168 : decode cX11_mark 168 = .ok (.ladd, 1) := by decide +kernel
theorem dX11_mark_169 : decode cX11_mark 169 = .ok (.putfield 226, 3) := by decide +kernel
theorem dX11_mark_172 : decode cX11_mark 172 = .ok (.iload_n 3, 1) := by decide +kernel
theorem dX11_mark_173 : decode cX11_mark 173 = .ok (.aload_n 0, 1) := by decide +kernel
theorem dX11_mark_174 : decode cX11_mark 174 = .ok (.getfield 28, 3) := by decide +kernel
theorem dX11_mark_177 : decode cX11_mark 177 = .ok (.iconst 0, 1) := by decide +kernel
theorem dX11_mark_178 : decode cX11_mark 178 = .ok (.iaload, 1) := by decide +kernel
theorem dX11_mark_179 : decode cX11_mark 179 = .ok (.iadd, 1) := by decide +kernel
theorem dX11_mark_180 : decode cX11_mark 180 = .ok (.ireturn, 1) := by decide +kernel
theorem dX11_mark_181 : decode cX11_mark 181 = .ok (.aload_n 0, 1) := by decide +kernel
theorem dX11_mark_182 : decode cX11_mark 182 = .ok (.dup, 1) := by decide +kernel
theorem dX11_mark_183 : decode cX11_mark 183 = .ok (.getfield 226, 3) := by decide +kernel
theorem dX11_mark_186 : decode cX11_mark 186 = .ok (.lconst 1, 1) := by decide +kernel
theorem dX11_mark_187 : decode cX11_mark 187 = .ok (.ladd, 1) := by decide +kernel
theorem dX11_mark_188 : decode cX11_mark 188 = .ok (.putfield 226, 3) := by decide +kernel
theorem dX11_mark_191 : decode cX11_mark 191 = .ok (.iload_n 3, 1) := by decide +kernel
theorem dX11_mark_192 : decode cX11_mark 192 = .ok (.ireturn, 1) := by decide +kernel
theorem dX11_may_0 : decode cX11_may 0 = .ok (.aload_n 0, 1) := by decide +kernel
theorem dX11_may_1 : decode cX11_may 1 = .ok (.iload_n 1, 1) := by decide +kernel
theorem dX11_may_2 : decode cX11_may 2 = .ok (.invokevirtual 144, 3) := by decide +kernel
theorem dX11_may_5 : decode cX11_may 5 = .ok (.ifCond .ne 46, 3) := by decide +kernel
theorem dX11_may_8 : decode cX11_may 8 = .ok (.aload_n 0, 1) := by decide +kernel
theorem dX11_may_9 : decode cX11_may 9 = .ok (.iload_n 1, 1) := by decide +kernel
theorem dX11_may_10 : decode cX11_may 10 = .ok (.iload_n 2, 1) := by decide +kernel
theorem dX11_may_11 : decode cX11_may 11 = .ok (.invokevirtual 147, 3) := by decide +kernel
theorem dX11_may_14 : decode cX11_may 14 = .ok (.ifCond .ne 37, 3) := by decide +kernel
theorem dX11_may_17 : decode cX11_may 17 = .ok (.aload_n 0, 1) := by decide +kernel
theorem dX11_may_18 : decode cX11_may 18 = .ok (.getfield 19, 3) := by decide +kernel
theorem dX11_may_21 : decode cX11_may 21 = .ok (.iload_n 2, 1) := by decide +kernel
theorem dX11_may_22 : decode cX11_may 22 = .ok (.iaload, 1) := by decide +kernel
theorem dX11_may_23 : decode cX11_may 23 = .ok (.aload_n 0, 1) := by decide +kernel
theorem dX11_may_24 : decode cX11_may 24 = .ok (.getfield 28, 3) := by decide +kernel
theorem dX11_may_27 : decode cX11_may 27 = .ok (.bipush 49, 2) := by decide +kernel
theorem dX11_may_29 : decode cX11_may 29 = .ok (.iload_n 1, 1) := by decide +kernel
theorem dX11_may_30 : decode cX11_may 30 = .ok (.iadd, 1) := by decide +kernel
theorem dX11_may_31 : decode cX11_may 31 = .ok (.iaload, 1) := by decide +kernel
theorem dX11_may_32 : decode cX11_may 32 = .ok (.iconst (-1), 1) := by decide +kernel
theorem dX11_may_33 : decode cX11_may 33 = .ok (.ixor, 1) := by decide +kernel
theorem dX11_may_34 : decode cX11_may 34 = .ok (.iand, 1) := by decide +kernel
theorem dX11_may_35 : decode cX11_may 35 = .ok (.ifCond .ne 16, 3) := by decide +kernel
theorem dX11_may_38 : decode cX11_may 38 = .ok (.aload_n 0, 1) := by decide +kernel
theorem dX11_may_39 : decode cX11_may 39 = .ok (.iload_n 1, 1) := by decide +kernel
theorem dX11_may_40 : decode cX11_may 40 = .ok (.iload_n 2, 1) := by decide +kernel
theorem dX11_may_41 : decode cX11_may 41 = .ok (.invokevirtual 150, 3) := by decide +kernel
theorem dX11_may_44 : decode cX11_may 44 = .ok (.ifCond .eq 7, 3) := by decide +kernel
theorem dX11_may_47 : decode cX11_may 47 = .ok (.iconst 1, 1) := by decide +kernel
theorem dX11_may_48 : decode cX11_may 48 = .ok (.goto 4, 3) := by decide +kernel
theorem dX11_may_51 : decode cX11_may 51 = .ok (.iconst 0, 1) := by decide +kernel
theorem dX11_may_52 : decode cX11_may 52 = .ok (.ireturn, 1) := by decide +kernel
theorem dX11_mays_0 : decode cX11_mays 0 = .ok (.iconst 0, 1) := by decide +kernel
theorem dX11_mays_1 : decode cX11_mays 1 = .ok (.istore_n 2, 1) := by decide +kernel
theorem dX11_mays_2 : decode cX11_mays 2 = .ok (.iconst 0, 1) := by decide +kernel
theorem dX11_mays_3 : decode cX11_mays 3 = .ok (.istore_n 3, 1) := by decide +kernel
theorem dX11_mays_4 : decode cX11_mays 4 = .ok (.iload_n 3, 1) := by decide +kernel
theorem dX11_mays_5 : decode cX11_mays 5 = .ok (.aload_n 0, 1) := by decide +kernel
theorem dX11_mays_6 : decode cX11_mays 6 = .ok (.getfield 68, 3) := by decide +kernel
theorem dX11_mays_9 : decode cX11_mays 9 = .ok (.if_icmp .ge 28, 3) := by decide +kernel
theorem dX11_mays_12 : decode cX11_mays 12 = .ok (.iload_n 2, 1) := by decide +kernel
theorem dX11_mays_13 : decode cX11_mays 13 = .ok (.aload_n 0, 1) := by decide +kernel
theorem dX11_mays_14 : decode cX11_mays 14 = .ok (.iload_n 1, 1) := by decide +kernel
theorem dX11_mays_15 : decode cX11_mays 15 = .ok (.iload_n 3, 1) := by decide +kernel
theorem dX11_mays_16 : decode cX11_mays 16 = .ok (.invokevirtual 153, 3) := by decide +kernel
theorem dX11_mays_19 : decode cX11_mays 19 = .ok (.ifCond .eq 9, 3) := by decide +kernel
theorem dX11_mays_22 : decode cX11_mays 22 = .ok (.iconst 1, 1) := by decide +kernel
theorem dX11_mays_23 : decode cX11_mays 23 = .ok (.iload_n 3, 1) := by decide +kernel
theorem dX11_mays_24 : decode cX11_mays 24 = .ok (.ishl, 1) := by decide +kernel
theorem dX11_mays_25 : decode cX11_mays 25 = .ok (.goto 4, 3) := by decide +kernel
theorem dX11_mays_28 : decode cX11_mays 28 = .ok (.iconst 0, 1) := by decide +kernel
theorem dX11_mays_29 : decode cX11_mays 29 = .ok (.ior, 1) := by decide +kernel
theorem dX11_mays_30 : decode cX11_mays 30 = .ok (.istore_n 2, 1) := by decide +kernel
theorem dX11_mays_31 : decode cX11_mays 31 = .ok (.iinc 3 1, 3) := by decide +kernel
theorem dX11_mays_34 : decode cX11_mays 34 = .ok (.goto (-30), 3) := by decide +kernel
theorem dX11_mays_37 : decode cX11_mays 37 = .ok (.iload_n 2, 1) := by decide +kernel
theorem dX11_mays_38 : decode cX11_mays 38 = .ok (.ireturn, 1) := by decide +kernel
theorem dX11_mends_0 : decode cX11_mends 0 = .ok (.aload_n 0, 1) := by decide +kernel
theorem dX11_mends_1 : decode cX11_mends 1 = .ok (.iload_n 1, 1) := by decide +kernel
theorem dX11_mends_2 : decode cX11_mends 2 = .ok (.invokevirtual 162, 3) := by decide +kernel
theorem dX11_mends_5 : decode cX11_mends 5 = .ok (.ifCond .ne 5, 3) := by decide +kernel
theorem dX11_mends_8 : decode cX11_mends 8 = .ok (.iconst (-1), 1) := by decide +kernel
theorem dX11_mends_9 : decode cX11_mends 9 = .ok (.ireturn, 1) := by decide +kernel
theorem dX11_mends_10 : decode cX11_mends 10 = .ok (.aload_n 0, 1) := by decide +kernel
theorem dX11_mends_11 : decode cX11_mends 11 = .ok (.getfield 28, 3) := by decide +kernel
theorem dX11_mends_14 : decode cX11_mends 14 = .ok (.bipush 61, 2) := by decide +kernel
theorem dX11_mends_16 : decode cX11_mends 16 = .ok (.iload_n 1, 1) := by decide +kernel
theorem dX11_mends_17 : decode cX11_mends 17 = .ok (.iadd, 1) := by decide +kernel
theorem dX11_mends_18 : decode cX11_mends 18 = .ok (.iaload, 1) := by decide +kernel
theorem dX11_mends_19 : decode cX11_mends 19 = .ok (.istore_n 2, 1) := by decide +kernel
theorem dX11_mends_20 : decode cX11_mends 20 = .ok (.iload_n 2, 1) := by decide +kernel
theorem dX11_mends_21 : decode cX11_mends 21 = .ok (.ifCond .ne 6, 3) := by decide +kernel
theorem dX11_mends_24 : decode cX11_mends 24 = .ok (.bipush (-2), 2) := by decide +kernel
theorem dX11_mends_26 : decode cX11_mends 26 = .ok (.ireturn, 1) := by decide +kernel
theorem dX11_mends_27 : decode cX11_mends 27 = .ok (.aload_n 0, 1) := by decide +kernel
theorem dX11_mends_28 : decode cX11_mends 28 = .ok (.invokevirtual 168, 3) := by decide +kernel
theorem dX11_mends_31 : decode cX11_mends 31 = .ok (.aload_n 0, 1) := by decide +kernel
theorem dX11_mends_32 : decode cX11_mends 32 = .ok (.getfield 28, 3) := by decide +kernel
theorem dX11_mends_35 : decode cX11_mends 35 = .ok (.bipush 61, 2) := by decide +kernel
theorem dX11_mends_37 : decode cX11_mends 37 = .ok (.iload_n 1, 1) := by decide +kernel
theorem dX11_mends_38 : decode cX11_mends 38 = .ok (.iadd, 1) := by decide +kernel
theorem dX11_mends_39 : decode cX11_mends 39 = .ok (.iconst 0, 1) := by decide +kernel
theorem dX11_mends_40 : decode cX11_mends 40 = .ok (.iastore, 1) := by decide +kernel
theorem dX11_mends_41 : decode cX11_mends 41 = .ok (.aload_n 0, 1) := by decide +kernel
theorem dX11_mends_42 : decode cX11_mends 42 = .ok (.getfield 28, 3) := by decide +kernel
theorem dX11_mends_45 : decode cX11_mends 45 = .ok (.bipush 67, 2) := by decide +kernel
theorem dX11_mends_47 : decode cX11_mends 47 = .ok (.dup2, 1) := by decide +kernel
theorem dX11_mends_48 : decode cX11_mends 48 = .ok (.iaload, 1) := by decide +kernel
theorem dX11_mends_49 : decode cX11_mends 49 = .ok (.iconst 1, 1) := by decide +kernel
theorem dX11_mends_50 : decode cX11_mends 50 = .ok (.iload_n 1, 1) := by decide +kernel
theorem dX11_mends_51 : decode cX11_mends 51 = .ok (.ishl, 1) := by decide +kernel
theorem dX11_mends_52 : decode cX11_mends 52 = .ok (.iconst (-1), 1) := by decide +kernel
theorem dX11_mends_53 : decode cX11_mends 53 = .ok (.ixor, 1) := by decide +kernel
theorem dX11_mends_54 : decode cX11_mends 54 = .ok (.iand, 1) := by decide +kernel
theorem dX11_mends_55 : decode cX11_mends 55 = .ok (.iastore, 1) := by decide +kernel
theorem dX11_mends_56 : decode cX11_mends 56 = .ok (.iload_n 2, 1) := by decide +kernel
theorem dX11_mends_57 : decode cX11_mends 57 = .ok (.ireturn, 1) := by decide +kernel
theorem dX11_near_0 : decode cX11_near 0 = .ok (.aload_n 0, 1) := by decide +kernel
theorem dX11_near_1 : decode cX11_near 1 = .ok (.iload_n 1, 1) := by decide +kernel
theorem dX11_near_2 : decode cX11_near 2 = .ok (.invokevirtual 162, 3) := by decide +kernel
theorem dX11_near_5 : decode cX11_near 5 = .ok (.ifCond .eq 25, 3) := by decide +kernel
theorem dX11_near_8 : decode cX11_near 8 = .ok (.aload_n 0, 1) := by decide +kernel
theorem dX11_near_9 : decode cX11_near 9 = .ok (.iload_n 2, 1) := by decide +kernel
theorem dX11_near_10 : decode cX11_near 10 = .ok (.invokevirtual 162, 3) := by decide +kernel
theorem dX11_near_13 : decode cX11_near 13 = .ok (.ifCond .eq 17, 3) := by decide +kernel
theorem dX11_near_16 : decode cX11_near 16 = .ok (.iload_n 1, 1) := by decide +kernel
theorem dX11_near_17 : decode cX11_near 17 = .ok (.iload_n 2, 1) := by decide +kernel
theorem dX11_near_18 : decode cX11_near 18 = .ok (.if_icmp .eq 12, 3) := by decide +kernel
theorem dX11_near_21 : decode cX11_near 21 = .ok (.aload_n 0, 1) := by decide +kernel
theorem dX11_near_22 : decode cX11_near 22 = .ok (.iload_n 1, 1) := by decide +kernel
theorem dX11_near_23 : decode cX11_near 23 = .ok (.iload_n 2, 1) := by decide +kernel
theorem dX11_near_24 : decode cX11_near 24 = .ok (.invokevirtual 215, 3) := by decide +kernel
theorem dX11_near_27 : decode cX11_near 27 = .ok (.goto 4, 3) := by decide +kernel
theorem dX11_near_30 : decode cX11_near 30 = .ok (.iconst (-1), 1) := by decide +kernel
theorem dX11_near_31 : decode cX11_near 31 = .ok (.ireturn, 1) := by decide +kernel
theorem dX11_next_0 : decode cX11_next 0 = .ok (.aload_n 0, 1) := by decide +kernel
theorem dX11_next_1 : decode cX11_next 1 = .ok (.aload_n 0, 1) := by decide +kernel
theorem dX11_next_2 : decode cX11_next 2 = .ok (.getfield 82, 3) := by decide +kernel
theorem dX11_next_5 : decode cX11_next 5 = .ok (.invokevirtual 85, 3) := by decide +kernel
theorem dX11_next_8 : decode cX11_next 8 = .ok (.bipush 32, 2) := by decide +kernel
theorem dX11_next_10 : decode cX11_next 10 = .ok (.if_icmp .ne 16, 3) := by decide +kernel
theorem dX11_next_13 : decode cX11_next 13 = .ok (.aload_n 0, 1) := by decide +kernel
theorem dX11_next_14 : decode cX11_next 14 = .ok (.dup, 1) := by decide +kernel
theorem dX11_next_15 : decode cX11_next 15 = .ok (.getfield 82, 3) := by decide +kernel
theorem dX11_next_18 : decode cX11_next 18 = .ok (.iconst 1, 1) := by decide +kernel
theorem dX11_next_19 : decode cX11_next 19 = .ok (.iadd, 1) := by decide +kernel
theorem dX11_next_20 : decode cX11_next 20 = .ok (.putfield 82, 3) := by decide +kernel
theorem dX11_next_23 : decode cX11_next 23 = .ok (.goto (-23), 3) := by decide +kernel
theorem dX11_next_26 : decode cX11_next 26 = .ok (.aload_n 0, 1) := by decide +kernel
theorem dX11_next_27 : decode cX11_next 27 = .ok (.aload_n 0, 1) := by decide +kernel
theorem dX11_next_28 : decode cX11_next 28 = .ok (.getfield 82, 3) := by decide +kernel
theorem dX11_next_31 : decode cX11_next 31 = .ok (.putfield 89, 3) := by decide +kernel
theorem dX11_next_34 : decode cX11_next 34 = .ok (.aload_n 0, 1) := by decide +kernel
theorem dX11_next_35 : decode cX11_next 35 = .ok (.aload_n 0, 1) := by decide +kernel
theorem dX11_next_36 : decode cX11_next 36 = .ok (.getfield 82, 3) := by decide +kernel
theorem dX11_next_39 : decode cX11_next 39 = .ok (.invokevirtual 85, 3) := by decide +kernel
theorem dX11_next_42 : decode cX11_next 42 = .ok (.istore_n 1, 1) := by decide +kernel
theorem dX11_next_43 : decode cX11_next 43 = .ok (.aload_n 0, 1) := by decide +kernel
theorem dX11_next_44 : decode cX11_next 44 = .ok (.iconst 0, 1) := by decide +kernel
theorem dX11_next_45 : decode cX11_next 45 = .ok (.putfield 92, 3) := by decide +kernel
theorem dX11_next_48 : decode cX11_next 48 = .ok (.iload_n 1, 1) := by decide +kernel
theorem dX11_next_49 : decode cX11_next 49 = .ok (.ifCond .ge 11, 3) := by decide +kernel
theorem dX11_next_52 : decode cX11_next 52 = .ok (.aload_n 0, 1) := by decide +kernel
theorem dX11_next_53 : decode cX11_next 53 = .ok (.iconst 0, 1) := by decide +kernel
theorem dX11_next_54 : decode cX11_next 54 = .ok (.putfield 95, 3) := by decide +kernel
theorem dX11_next_57 : decode cX11_next 57 = .ok (.goto 205, 3) := by decide +kernel
theorem dX11_next_60 : decode cX11_next 60 = .ok (.iload_n 1, 1) := by decide +kernel
theorem dX11_next_61 : decode cX11_next 61 = .ok (.invokestatic 98, 3) := by decide +kernel
theorem dX11_next_64 : decode cX11_next 64 = .ok (.ifCond .eq 109, 3) := by decide +kernel
theorem dX11_next_67 : decode cX11_next 67 = .ok (.aload_n 0, 1) := by decide +kernel
theorem dX11_next_68 : decode cX11_next 68 = .ok (.aload_n 0, 1) := by decide +kernel
theorem dX11_next_69 : decode cX11_next 69 = .ok (.getfield 82, 3) := by decide +kernel
theorem dX11_next_72 : decode cX11_next 72 = .ok (.invokevirtual 85, 3) := by decide +kernel
theorem dX11_next_75 : decode cX11_next 75 = .ok (.invokestatic 98, 3) := by decide +kernel
theorem dX11_next_78 : decode cX11_next 78 = .ok (.ifCond .eq 55, 3) := by decide +kernel
theorem dX11_next_81 : decode cX11_next 81 = .ok (.aload_n 0, 1) := by decide +kernel
theorem dX11_next_82 : decode cX11_next 82 = .ok (.aload_n 0, 1) := by decide +kernel
theorem dX11_next_83 : decode cX11_next 83 = .ok (.getfield 92, 3) := by decide +kernel
theorem dX11_next_86 : decode cX11_next 86 = .ok (.bipush 99, 2) := by decide +kernel
theorem dX11_next_88 : decode cX11_next 88 = .ok (.if_icmp .le 10, 3) := by decide +kernel
theorem dX11_next_91 : decode cX11_next 91 = .ok (.aload_n 0, 1) := by decide +kernel
theorem dX11_next_92 : decode cX11_next 92 = .ok (.getfield 92, 3) := by decide +kernel
theorem dX11_next_95 : decode cX11_next 95 = .ok (.goto 22, 3) := by decide +kernel
theorem dX11_next_98 : decode cX11_next 98 = .ok (.bipush 10, 2) := by decide +kernel
theorem dX11_next_100 : decode cX11_next 100 = .ok (.aload_n 0, 1) := by decide +kernel
theorem dX11_next_101 : decode cX11_next 101 = .ok (.getfield 92, 3) := by decide +kernel
theorem dX11_next_104 : decode cX11_next 104 = .ok (.imul, 1) := by decide +kernel
theorem dX11_next_105 : decode cX11_next 105 = .ok (.aload_n 0, 1) := by decide +kernel
theorem dX11_next_106 : decode cX11_next 106 = .ok (.aload_n 0, 1) := by decide +kernel
theorem dX11_next_107 : decode cX11_next 107 = .ok (.getfield 82, 3) := by decide +kernel
theorem dX11_next_110 : decode cX11_next 110 = .ok (.invokevirtual 85, 3) := by decide +kernel
theorem dX11_next_113 : decode cX11_next 113 = .ok (.iadd, 1) := by decide +kernel
theorem dX11_next_114 : decode cX11_next 114 = .ok (.bipush 48, 2) := by decide +kernel
theorem dX11_next_116 : decode cX11_next 116 = .ok (.isub, 1) := by decide +kernel
theorem dX11_next_117 : decode cX11_next 117 = .ok (.putfield 92, 3) := by decide +kernel
theorem dX11_next_120 : decode cX11_next 120 = .ok (.aload_n 0, 1) := by decide +kernel
theorem dX11_next_121 : decode cX11_next 121 = .ok (.dup, 1) := by decide +kernel
theorem dX11_next_122 : decode cX11_next 122 = .ok (.getfield 82, 3) := by decide +kernel
theorem dX11_next_125 : decode cX11_next 125 = .ok (.iconst 1, 1) := by decide +kernel
theorem dX11_next_126 : decode cX11_next 126 = .ok (.iadd, 1) := by decide +kernel
theorem dX11_next_127 : decode cX11_next 127 = .ok (.putfield 82, 3) := by decide +kernel
theorem dX11_next_130 : decode cX11_next 130 = .ok (.goto (-63), 3) := by decide +kernel
theorem dX11_next_133 : decode cX11_next 133 = .ok (.aload_n 0, 1) := by decide +kernel
theorem dX11_next_134 : decode cX11_next 134 = .ok (.aload_n 0, 1) := by decide +kernel
theorem dX11_next_135 : decode cX11_next 135 = .ok (.getfield 92, 3) := by decide +kernel
theorem dX11_next_138 : decode cX11_next 138 = .ok (.bipush 99, 2) := by decide +kernel
theorem dX11_next_140 : decode cX11_next 140 = .ok (.if_icmp .gt 22, 3) := by decide +kernel
theorem dX11_next_143 : decode cX11_next 143 = .ok (.iload_n 1, 1) := by decide +kernel
theorem dX11_next_144 : decode cX11_next 144 = .ok (.bipush 48, 2) := by decide +kernel
theorem dX11_next_146 : decode cX11_next 146 = .ok (.if_icmp .ne 20, 3) := by decide +kernel
theorem dX11_next_149 : decode cX11_next 149 = .ok (.aload_n 0, 1) := by decide +kernel
theorem dX11_next_150 : decode cX11_next 150 = .ok (.getfield 82, 3) := by decide +kernel
theorem dX11_next_153 : decode cX11_next 153 = .ok (.aload_n 0, 1) := by decide +kernel
theorem dX11_next_154 : decode cX11_next 154 = .ok (.getfield 89, 3) := by decide +kernel
theorem dX11_next_157 : decode cX11_next 157 = .ok (.isub, 1) := by decide +kernel
theorem dX11_next_158 : decode cX11_next 158 = .ok (.iconst 1, 1) := by decide +kernel
theorem dX11_next_159 : decode cX11_next 159 = .ok (.if_icmp .le 7, 3) := by decide +kernel
theorem dX11_next_162 : decode cX11_next 162 = .ok (.iconst 4, 1) := by decide +kernel
theorem dX11_next_163 : decode cX11_next 163 = .ok (.goto 4, 3) := by decide +kernel
theorem dX11_next_166 : decode cX11_next 166 = .ok (.iconst 2, 1) := by decide +kernel
theorem dX11_next_167 : decode cX11_next 167 = .ok (.putfield 95, 3) := by decide +kernel
theorem dX11_next_170 : decode cX11_next 170 = .ok (.goto 92, 3) := by decide +kernel
theorem dX11_next_173 : decode cX11_next 173 = .ok (.iload_n 1, 1) := by decide +kernel
theorem dX11_next_174 : decode cX11_next 174 = .ok (.invokestatic 102, 3) := by decide +kernel
theorem dX11_next_177 : decode cX11_next 177 = .ok (.ifCond .eq 60, 3) := by decide +kernel
theorem dX11_next_180 : decode cX11_next 180 = .ok (.aload_n 0, 1) := by decide +kernel
theorem dX11_next_181 : decode cX11_next 181 = .ok (.aload_n 0, 1) := by decide +kernel
theorem dX11_next_182 : decode cX11_next 182 = .ok (.getfield 82, 3) := by decide +kernel
theorem dX11_next_185 : decode cX11_next 185 = .ok (.invokevirtual 85, 3) := by decide +kernel
theorem dX11_next_188 : decode cX11_next 188 = .ok (.invokestatic 102, 3) := by decide +kernel
theorem dX11_next_191 : decode cX11_next 191 = .ok (.ifCond .eq 16, 3) := by decide +kernel
theorem dX11_next_194 : decode cX11_next 194 = .ok (.aload_n 0, 1) := by decide +kernel
theorem dX11_next_195 : decode cX11_next 195 = .ok (.dup, 1) := by decide +kernel
theorem dX11_next_196 : decode cX11_next 196 = .ok (.getfield 82, 3) := by decide +kernel
theorem dX11_next_199 : decode cX11_next 199 = .ok (.iconst 1, 1) := by decide +kernel
theorem dX11_next_200 : decode cX11_next 200 = .ok (.iadd, 1) := by decide +kernel
theorem dX11_next_201 : decode cX11_next 201 = .ok (.putfield 82, 3) := by decide +kernel
theorem dX11_next_204 : decode cX11_next 204 = .ok (.goto (-24), 3) := by decide +kernel
theorem dX11_next_207 : decode cX11_next 207 = .ok (.aload_n 0, 1) := by decide +kernel
theorem dX11_next_208 : decode cX11_next 208 = .ok (.iconst 1, 1) := by decide +kernel
theorem dX11_next_209 : decode cX11_next 209 = .ok (.putfield 95, 3) := by decide +kernel
theorem dX11_next_212 : decode cX11_next 212 = .ok (.aload_n 0, 1) := by decide +kernel
theorem dX11_next_213 : decode cX11_next 213 = .ok (.aload_n 0, 1) := by decide +kernel
theorem dX11_next_214 : decode cX11_next 214 = .ok (.getfield 82, 3) := by decide +kernel
theorem dX11_next_217 : decode cX11_next 217 = .ok (.aload_n 0, 1) := by decide +kernel
theorem dX11_next_218 : decode cX11_next 218 = .ok (.getfield 89, 3) := by decide +kernel
theorem dX11_next_221 : decode cX11_next 221 = .ok (.isub, 1) := by decide +kernel
theorem dX11_next_222 : decode cX11_next 222 = .ok (.iconst 1, 1) := by decide +kernel
theorem dX11_next_223 : decode cX11_next 223 = .ok (.if_icmp .ne 7, 3) := by decide +kernel
theorem dX11_next_226 : decode cX11_next 226 = .ok (.iload_n 1, 1) := by decide +kernel
theorem dX11_next_227 : decode cX11_next 227 = .ok (.goto 4, 3) := by decide +kernel
theorem dX11_next_230 : decode cX11_next 230 = .ok (.iconst 0, 1) := by decide +kernel
theorem dX11_next_231 : decode cX11_next 231 = .ok (.putfield 92, 3) := by decide +kernel
theorem dX11_next_234 : decode cX11_next 234 = .ok (.goto 28, 3) := by decide +kernel
theorem dX11_next_237 : decode cX11_next 237 = .ok (.aload_n 0, 1) := by decide +kernel
theorem dX11_next_238 : decode cX11_next 238 = .ok (.iload_n 1, 1) := by decide +kernel
theorem dX11_next_239 : decode cX11_next 239 = .ok (.bipush 59, 2) := by decide +kernel
theorem dX11_next_241 : decode cX11_next 241 = .ok (.if_icmp .ne 7, 3) := by decide +kernel
theorem dX11_next_244 : decode cX11_next 244 = .ok (.iconst 3, 1) := by decide +kernel
theorem dX11_next_245 : decode cX11_next 245 = .ok (.goto 4, 3) := by decide +kernel
theorem dX11_next_248 : decode cX11_next 248 = .ok (.iconst 4, 1) := by decide +kernel
theorem dX11_next_249 : decode cX11_next 249 = .ok (.putfield 95, 3) := by decide +kernel
theorem dX11_next_252 : decode cX11_next 252 = .ok (.aload_n 0, 1) := by decide +kernel
theorem dX11_next_253 : decode cX11_next 253 = .ok (.dup, 1) := by decide +kernel
theorem dX11_next_254 : decode cX11_next 254 = .ok (.getfield 82, 3) := by decide +kernel
theorem dX11_next_257 : decode cX11_next 257 = .ok (.iconst 1, 1) := by decide +kernel
theorem dX11_next_258 : decode cX11_next 258 = .ok (.iadd, 1) := by decide +kernel
theorem dX11_next_259 : decode cX11_next 259 = .ok (.putfield 82, 3) := by decide +kernel
theorem dX11_next_262 : decode cX11_next 262 = .ok (.return_, 1) := by decide +kernel
theorem dX11_nights_0 : decode cX11_nights 0 = .ok (.iload_n 1, 1) := by decide +kernel
theorem dX11_nights_1 : decode cX11_nights 1 = .ok (.iconst 1, 1) := by decide +kernel
theorem dX11_nights_2 : decode cX11_nights 2 = .ok (.bipush 9, 2) := by decide +kernel
theorem dX11_nights_4 : decode cX11_nights 4 = .ok (.invokestatic 72, 3) := by decide +kernel
theorem dX11_nights_7 : decode cX11_nights 7 = .ok (.ifCond .ne 5, 3) := by decide +kernel
theorem dX11_nights_10 : decode cX11_nights 10 = .ok (.iconst (-1), 1) := by decide +kernel
theorem dX11_nights_11 : decode cX11_nights 11 = .ok (.ireturn, 1) := by decide +kernel
theorem dX11_nights_12 : decode cX11_nights 12 = .ok (.aload_n 0, 1) := by decide +kernel
theorem dX11_nights_13 : decode cX11_nights 13 = .ok (.getfield 28, 3) := by decide +kernel
theorem dX11_nights_16 : decode cX11_nights 16 = .ok (.iconst 0, 1) := by decide +kernel
theorem dX11_nights_17 : decode cX11_nights 17 = .ok (.iaload, 1) := by decide +kernel
theorem dX11_nights_18 : decode cX11_nights 18 = .ok (.iload_n 1, 1) := by decide +kernel
theorem dX11_nights_19 : decode cX11_nights 19 = .ok (.iadd, 1) := by decide +kernel
theorem dX11_nights_20 : decode cX11_nights 20 = .ok (.sipush 999, 3) := by decide +kernel
theorem dX11_nights_23 : decode cX11_nights 23 = .ok (.if_icmp .le 6, 3) := by decide +kernel
theorem dX11_nights_26 : decode cX11_nights 26 = .ok (.bipush (-2), 2) := by decide +kernel
theorem dX11_nights_28 : decode cX11_nights 28 = .ok (.ireturn, 1) := by decide +kernel
theorem dX11_nights_29 : decode cX11_nights 29 = .ok (.aload_n 0, 1) := by decide +kernel
theorem dX11_nights_30 : decode cX11_nights 30 = .ok (.invokevirtual 168, 3) := by decide +kernel
theorem dX11_nights_33 : decode cX11_nights 33 = .ok (.iconst 0, 1) := by decide +kernel
theorem dX11_nights_34 : decode cX11_nights 34 = .ok (.istore_n 2, 1) := by decide +kernel
theorem dX11_nights_35 : decode cX11_nights 35 = .ok (.iload_n 2, 1) := by decide +kernel
theorem dX11_nights_36 : decode cX11_nights 36 = .ok (.iload_n 1, 1) := by decide +kernel
theorem dX11_nights_37 : decode cX11_nights 37 = .ok (.if_icmp .ge 63, 3) := by decide +kernel
theorem dX11_nights_40 : decode cX11_nights 40 = .ok (.iconst 0, 1) := by decide +kernel
theorem dX11_nights_41 : decode cX11_nights 41 = .ok (.istore_n 3, 1) := by decide +kernel
theorem dX11_nights_42 : decode cX11_nights 42 = .ok (.iload_n 3, 1) := by decide +kernel
theorem dX11_nights_43 : decode cX11_nights 43 = .ok (.aload_n 0, 1) := by decide +kernel
theorem dX11_nights_44 : decode cX11_nights 44 = .ok (.getfield 76, 3) := by decide +kernel
theorem dX11_nights_47 : decode cX11_nights 47 = .ok (.if_icmp .ge 37, 3) := by decide +kernel
theorem dX11_nights_50 : decode cX11_nights 50 = .ok (.aload_n 0, 1) := by decide +kernel
theorem dX11_nights_51 : decode cX11_nights 51 = .ok (.getfield 28, 3) := by decide +kernel
theorem dX11_nights_54 : decode cX11_nights 54 = .ok (.bipush 68, 2) := by decide +kernel
theorem dX11_nights_56 : decode cX11_nights 56 = .ok (.iload_n 3, 1) := by decide +kernel
theorem dX11_nights_57 : decode cX11_nights 57 = .ok (.iadd, 1) := by decide +kernel
theorem dX11_nights_58 : decode cX11_nights 58 = .ok (.iaload, 1) := by decide +kernel
theorem dX11_nights_59 : decode cX11_nights 59 = .ok (.bipush (-9), 2) := by decide +kernel
theorem dX11_nights_61 : decode cX11_nights 61 = .ok (.if_icmp .eq 17, 3) := by decide +kernel
theorem dX11_nights_64 : decode cX11_nights 64 = .ok (.aload_n 0, 1) := by decide +kernel
theorem dX11_nights_65 : decode cX11_nights 65 = .ok (.iload_n 3, 1) := by decide +kernel
theorem dX11_nights_66 : decode cX11_nights 66 = .ok (.aload_n 0, 1) := by decide +kernel
theorem dX11_nights_67 : decode cX11_nights 67 = .ok (.getfield 28, 3) := by decide +kernel
theorem dX11_nights_70 : decode cX11_nights 70 = .ok (.bipush 68, 2) := by decide +kernel
theorem dX11_nights_72 : decode cX11_nights 72 = .ok (.iload_n 3, 1) := by decide +kernel
theorem dX11_nights_73 : decode cX11_nights 73 = .ok (.iadd, 1) := by decide +kernel
theorem dX11_nights_74 : decode cX11_nights 74 = .ok (.iaload, 1) := by decide +kernel
theorem dX11_nights_75 : decode cX11_nights 75 = .ok (.invokevirtual 171, 3) := by decide +kernel
theorem dX11_nights_78 : decode cX11_nights 78 = .ok (.iinc 3 1, 3) := by decide +kernel
theorem dX11_nights_81 : decode cX11_nights 81 = .ok (.goto (-39), 3) := by decide +kernel
theorem dX11_nights_84 : decode cX11_nights 84 = .ok (.aload_n 0, 1) := by decide +kernel
theorem dX11_nights_85 : decode cX11_nights 85 = .ok (.getfield 28, 3) := by decide +kernel
theorem dX11_nights_88 : decode cX11_nights 88 = .ok (.iconst 0, 1) := by decide +kernel
theorem dX11_nights_89 : decode cX11_nights 89 = .ok (.dup2, 1) := by decide +kernel
theorem dX11_nights_90 : decode cX11_nights 90 = .ok (.iaload, 1) := by decide +kernel
theorem dX11_nights_91 : decode cX11_nights 91 = .ok (.iconst 1, 1) := by decide +kernel
theorem dX11_nights_92 : decode cX11_nights 92 = .ok (.iadd, 1) := by decide +kernel
theorem dX11_nights_93 : decode cX11_nights 93 = .ok (.iastore, 1) := by decide +kernel
theorem dX11_nights_94 : decode cX11_nights 94 = .ok (.iinc 2 1, 3) := by decide +kernel
theorem dX11_nights_97 : decode cX11_nights 97 = .ok (.goto (-62), 3) := by decide +kernel
theorem dX11_nights_100 : decode cX11_nights 100 = .ok (.aload_n 0, 1) := by decide +kernel
theorem dX11_nights_101 : decode cX11_nights 101 = .ok (.getfield 28, 3) := by decide +kernel
theorem dX11_nights_104 : decode cX11_nights 104 = .ok (.bipush 67, 2) := by decide +kernel
theorem dX11_nights_106 : decode cX11_nights 106 = .ok (.iaload, 1) := by decide +kernel
theorem dX11_nights_107 : decode cX11_nights 107 = .ok (.invokestatic 175, 3) := by decide +kernel
theorem dX11_nights_110 : decode cX11_nights 110 = .ok (.ireturn, 1) := by decide +kernel
theorem dX11_nightsFor_0 : decode cX11_nightsFor 0 = .ok (.aload_n 0, 1) := by decide +kernel
theorem dX11_nightsFor_1 : decode cX11_nightsFor 1 = .ok (.getfield 13, 3) := by decide +kernel
theorem dX11_nightsFor_4 : decode cX11_nightsFor 4 = .ok (.iload_n 2, 1) := by decide +kernel
theorem dX11_nightsFor_5 : decode cX11_nightsFor 5 = .ok (.iaload, 1) := by decide +kernel
theorem dX11_nightsFor_6 : decode cX11_nightsFor 6 = .ok (.aload_n 0, 1) := by decide +kernel
theorem dX11_nightsFor_7 : decode cX11_nightsFor 7 = .ok (.getfield 28, 3) := by decide +kernel
theorem dX11_nightsFor_10 : decode cX11_nightsFor 10 = .ok (.iconst 1, 1) := by decide +kernel
theorem dX11_nightsFor_11 : decode cX11_nightsFor 11 = .ok (.bipush 8, 2) := by decide +kernel
theorem dX11_nightsFor_13 : decode cX11_nightsFor 13 = .ok (.iload_n 1, 1) := by decide +kernel
theorem dX11_nightsFor_14 : decode cX11_nightsFor 14 = .ok (.imul, 1) := by decide +kernel
theorem dX11_nightsFor_15 : decode cX11_nightsFor 15 = .ok (.iadd, 1) := by decide +kernel
theorem dX11_nightsFor_16 : decode cX11_nightsFor 16 = .ok (.iload_n 2, 1) := by decide +kernel
theorem dX11_nightsFor_17 : decode cX11_nightsFor 17 = .ok (.iadd, 1) := by decide +kernel
theorem dX11_nightsFor_18 : decode cX11_nightsFor 18 = .ok (.iaload, 1) := by decide +kernel
theorem dX11_nightsFor_19 : decode cX11_nightsFor 19 = .ok (.isub, 1) := by decide +kernel
theorem dX11_nightsFor_20 : decode cX11_nightsFor 20 = .ok (.istore_n 3, 1) := by decide +kernel
theorem dX11_nightsFor_21 : decode cX11_nightsFor 21 = .ok (.iload_n 3, 1) := by decide +kernel
theorem dX11_nightsFor_22 : decode cX11_nightsFor 22 = .ok (.aload_n 0, 1) := by decide +kernel
theorem dX11_nightsFor_23 : decode cX11_nightsFor 23 = .ok (.getfield 25, 3) := by decide +kernel
theorem dX11_nightsFor_26 : decode cX11_nightsFor 26 = .ok (.iload_n 1, 1) := by decide +kernel
theorem dX11_nightsFor_27 : decode cX11_nightsFor 27 = .ok (.iaload, 1) := by decide +kernel
theorem dX11_nightsFor_28 : decode cX11_nightsFor 28 = .ok (.iadd, 1) := by decide +kernel
theorem dX11_nightsFor_29 : decode cX11_nightsFor 29 = .ok (.iconst 1, 1) := by decide +kernel
theorem dX11_nightsFor_30 : decode cX11_nightsFor 30 = .ok (.isub, 1) := by decide +kernel
theorem dX11_nightsFor_31 : decode cX11_nightsFor 31 = .ok (.aload_n 0, 1) := by decide +kernel
theorem dX11_nightsFor_32 : decode cX11_nightsFor 32 = .ok (.getfield 25, 3) := by decide +kernel
theorem dX11_nightsFor_35 : decode cX11_nightsFor 35 = .ok (.iload_n 1, 1) := by decide +kernel
theorem dX11_nightsFor_36 : decode cX11_nightsFor 36 = .ok (.iaload, 1) := by decide +kernel
theorem dX11_nightsFor_37 : decode cX11_nightsFor 37 = .ok (.idiv, 1) := by decide +kernel
theorem dX11_nightsFor_38 : decode cX11_nightsFor 38 = .ok (.istore 4, 2) := by decide +kernel
theorem dX11_nightsFor_40 : decode cX11_nightsFor 40 = .ok (.iload_n 3, 1) := by decide +kernel
theorem dX11_nightsFor_41 : decode cX11_nightsFor 41 = .ok (.iconst 1, 1) := by decide +kernel
theorem dX11_nightsFor_42 : decode cX11_nightsFor 42 = .ok (.if_icmp .lt 9, 3) := by decide +kernel
theorem dX11_nightsFor_45 : decode cX11_nightsFor 45 = .ok (.iload 4, 2) := by decide +kernel
theorem dX11_nightsFor_47 : decode cX11_nightsFor 47 = .ok (.iconst 1, 1) := by decide +kernel
theorem dX11_nightsFor_48 : decode cX11_nightsFor 48 = .ok (.if_icmp .ge 7, 3) := by decide +kernel
theorem dX11_nightsFor_51 : decode cX11_nightsFor 51 = .ok (.iconst 1, 1) := by decide +kernel
theorem dX11_nightsFor_52 : decode cX11_nightsFor 52 = .ok (.goto 5, 3) := by decide +kernel
theorem dX11_nightsFor_55 : decode cX11_nightsFor 55 = .ok (.iload 4, 2) := by decide +kernel
theorem dX11_nightsFor_57 : decode cX11_nightsFor 57 = .ok (.ireturn, 1) := by decide +kernel
theorem dX11_nightsOf_0 : decode cX11_nightsOf 0 = .ok (.iconst 0, 1) := by decide +kernel
theorem dX11_nightsOf_1 : decode cX11_nightsOf 1 = .ok (.istore_n 3, 1) := by decide +kernel
theorem dX11_nightsOf_2 : decode cX11_nightsOf 2 = .ok (.iconst 0, 1) := by decide +kernel
theorem dX11_nightsOf_3 : decode cX11_nightsOf 3 = .ok (.istore 4, 2) := by decide +kernel
theorem dX11_nightsOf_5 : decode cX11_nightsOf 5 = .ok (.iload 4, 2) := by decide +kernel
theorem dX11_nightsOf_7 : decode cX11_nightsOf 7 = .ok (.aload_n 0, 1) := by decide +kernel
theorem dX11_nightsOf_8 : decode cX11_nightsOf 8 = .ok (.getfield 68, 3) := by decide +kernel
theorem dX11_nightsOf_11 : decode cX11_nightsOf 11 = .ok (.if_icmp .ge 32, 3) := by decide +kernel
theorem dX11_nightsOf_14 : decode cX11_nightsOf 14 = .ok (.iload_n 3, 1) := by decide +kernel
theorem dX11_nightsOf_15 : decode cX11_nightsOf 15 = .ok (.iload_n 2, 1) := by decide +kernel
theorem dX11_nightsOf_16 : decode cX11_nightsOf 16 = .ok (.iload 4, 2) := by decide +kernel
theorem dX11_nightsOf_18 : decode cX11_nightsOf 18 = .ok (.invokestatic 140, 3) := by decide +kernel
theorem dX11_nightsOf_21 : decode cX11_nightsOf 21 = .ok (.ifCond .eq 13, 3) := by decide +kernel
theorem dX11_nightsOf_24 : decode cX11_nightsOf 24 = .ok (.aload_n 0, 1) := by decide +kernel
theorem dX11_nightsOf_25 : decode cX11_nightsOf 25 = .ok (.iload_n 1, 1) := by decide +kernel
theorem dX11_nightsOf_26 : decode cX11_nightsOf 26 = .ok (.iload 4, 2) := by decide +kernel
theorem dX11_nightsOf_28 : decode cX11_nightsOf 28 = .ok (.invokevirtual 188, 3) := by decide +kernel
theorem dX11_nightsOf_31 : decode cX11_nightsOf 31 = .ok (.goto 4, 3) := by decide +kernel
theorem dX11_nightsOf_34 : decode cX11_nightsOf 34 = .ok (.iconst 0, 1) := by decide +kernel
theorem dX11_nightsOf_35 : decode cX11_nightsOf 35 = .ok (.iadd, 1) := by decide +kernel
theorem dX11_nightsOf_36 : decode cX11_nightsOf 36 = .ok (.istore_n 3, 1) := by decide +kernel
theorem dX11_nightsOf_37 : decode cX11_nightsOf 37 = .ok (.iinc 4 1, 3) := by decide +kernel
theorem dX11_nightsOf_40 : decode cX11_nightsOf 40 = .ok (.goto (-35), 3) := by decide +kernel
theorem dX11_nightsOf_43 : decode cX11_nightsOf 43 = .ok (.iload_n 3, 1) := by decide +kernel
theorem dX11_nightsOf_44 : decode cX11_nightsOf 44 = .ok (.ireturn, 1) := by decide +kernel
theorem dX11_now_0 : decode cX11_now 0 = .ok (.iload_n 1, 1) := by decide +kernel
theorem dX11_now_1 : decode cX11_now 1 = .ok (.tableswitch 65 0 4 #[35, 42, 50, 55, 60], 35) := by decide +kernel
theorem dX11_now_36 : decode cX11_now 36 = .ok (.aload_n 0, 1) := by decide +kernel
theorem dX11_now_37 : decode cX11_now 37 = .ok (.getfield 28, 3) := by decide +kernel
theorem dX11_now_40 : decode cX11_now 40 = .ok (.iconst 0, 1) := by decide +kernel
theorem dX11_now_41 : decode cX11_now 41 = .ok (.iaload, 1) := by decide +kernel
theorem dX11_now_42 : decode cX11_now 42 = .ok (.ireturn, 1) := by decide +kernel
theorem dX11_now_43 : decode cX11_now 43 = .ok (.aload_n 0, 1) := by decide +kernel
theorem dX11_now_44 : decode cX11_now 44 = .ok (.getfield 28, 3) := by decide +kernel
theorem dX11_now_47 : decode cX11_now 47 = .ok (.bipush 67, 2) := by decide +kernel
theorem dX11_now_49 : decode cX11_now 49 = .ok (.iaload, 1) := by decide +kernel
theorem dX11_now_50 : decode cX11_now 50 = .ok (.ireturn, 1) := by decide +kernel
theorem dX11_now_51 : decode cX11_now 51 = .ok (.aload_n 0, 1) := by decide +kernel
theorem dX11_now_52 : decode cX11_now 52 = .ok (.invokevirtual 178, 3) := by decide +kernel
theorem dX11_now_55 : decode cX11_now 55 = .ok (.ireturn, 1) := by decide +kernel
theorem dX11_now_56 : decode cX11_now 56 = .ok (.aload_n 0, 1) := by decide +kernel
theorem dX11_now_57 : decode cX11_now 57 = .ok (.invokevirtual 182, 3) := by decide +kernel
theorem dX11_now_60 : decode cX11_now 60 = .ok (.ireturn, 1) := by decide +kernel
theorem dX11_now_61 : decode cX11_now 61 = .ok (.aload_n 0, 1) := by decide +kernel
theorem dX11_now_62 : decode cX11_now 62 = .ok (.invokevirtual 185, 3) := by decide +kernel
theorem dX11_now_65 : decode cX11_now 65 = .ok (.ireturn, 1) := by decide +kernel
theorem dX11_now_66 : decode cX11_now 66 = .ok (.iconst (-1), 1) := by decide +kernel
theorem dX11_now_67 : decode cX11_now 67 = .ok (.ireturn, 1) := by decide +kernel
theorem dX11_odds_0 : decode cX11_odds 0 = .ok (.iload_n 1, 1) := by decide +kernel
theorem dX11_odds_1 : decode cX11_odds 1 = .ok (.iconst 0, 1) := by decide +kernel
theorem dX11_odds_2 : decode cX11_odds 2 = .ok (.bipush 10, 2) := by decide +kernel
theorem dX11_odds_4 : decode cX11_odds 4 = .ok (.invokestatic 72, 3) := by decide +kernel
theorem dX11_odds_7 : decode cX11_odds 7 = .ok (.ifCond .eq 22, 3) := by decide +kernel
theorem dX11_odds_10 : decode cX11_odds 10 = .ok (.iload_n 2, 1) := by decide +kernel
theorem dX11_odds_11 : decode cX11_odds 11 = .ok (.iconst 0, 1) := by decide +kernel
theorem dX11_odds_12 : decode cX11_odds 12 = .ok (.bipush 6, 2) := by decide +kernel
theorem dX11_odds_14 : decode cX11_odds 14 = .ok (.invokestatic 72, 3) := by decide +kernel
theorem dX11_odds_17 : decode cX11_odds 17 = .ok (.ifCond .eq 12, 3) := by decide +kernel
theorem dX11_odds_20 : decode cX11_odds 20 = .ok (.iload_n 3, 1) := by decide +kernel
theorem dX11_odds_21 : decode cX11_odds 21 = .ok (.iconst 0, 1) := by decide +kernel
theorem dX11_odds_22 : decode cX11_odds 22 = .ok (.iconst 1, 1) := by decide +kernel
theorem dX11_odds_23 : decode cX11_odds 23 = .ok (.invokestatic 72, 3) := by decide +kernel
theorem dX11_odds_26 : decode cX11_odds 26 = .ok (.ifCond .ne 5, 3) := by decide +kernel
theorem dX11_odds_29 : decode cX11_odds 29 = .ok (.iconst (-1), 1) := by decide +kernel
theorem dX11_odds_30 : decode cX11_odds 30 = .ok (.ireturn, 1) := by decide +kernel
theorem dX11_odds_31 : decode cX11_odds 31 = .ok (.aload_n 0, 1) := by decide +kernel
theorem dX11_odds_32 : decode cX11_odds 32 = .ok (.getfield 76, 3) := by decide +kernel
theorem dX11_odds_35 : decode cX11_odds 35 = .ok (.aload_n 0, 1) := by decide +kernel
theorem dX11_odds_36 : decode cX11_odds 36 = .ok (.getfield 28, 3) := by decide +kernel
theorem dX11_odds_39 : decode cX11_odds 39 = .ok (.bipush 67, 2) := by decide +kernel
theorem dX11_odds_41 : decode cX11_odds 41 = .ok (.iaload, 1) := by decide +kernel
theorem dX11_odds_42 : decode cX11_odds 42 = .ok (.invokestatic 175, 3) := by decide +kernel
theorem dX11_odds_45 : decode cX11_odds 45 = .ok (.isub, 1) := by decide +kernel
theorem dX11_odds_46 : decode cX11_odds 46 = .ok (.istore 4, 2) := by decide +kernel
theorem dX11_odds_48 : decode cX11_odds 48 = .ok (.iconst 0, 1) := by decide +kernel
theorem dX11_odds_49 : decode cX11_odds 49 = .ok (.istore 5, 2) := by decide +kernel
theorem dX11_odds_51 : decode cX11_odds 51 = .ok (.iconst 1, 1) := by decide +kernel
theorem dX11_odds_52 : decode cX11_odds 52 = .ok (.istore 6, 2) := by decide +kernel
theorem dX11_odds_54 : decode cX11_odds 54 = .ok (.iconst 0, 1) := by decide +kernel
theorem dX11_odds_55 : decode cX11_odds 55 = .ok (.istore 7, 2) := by decide +kernel
theorem dX11_odds_57 : decode cX11_odds 57 = .ok (.iload 7, 2) := by decide +kernel
theorem dX11_odds_59 : decode cX11_odds 59 = .ok (.iload 4, 2) := by decide +kernel
theorem dX11_odds_61 : decode cX11_odds 61 = .ok (.if_icmp .ge 16, 3) := by decide +kernel
theorem dX11_odds_64 : decode cX11_odds 64 = .ok (.iload 6, 2) := by decide +kernel
theorem dX11_odds_66 : decode cX11_odds 66 = .ok (.bipush 10, 2) := by decide +kernel
theorem dX11_odds_68 : decode cX11_odds 68 = .ok (.imul, 1) := by decide +kernel
theorem dX11_odds_69 : decode cX11_odds 69 = .ok (.istore 6, 2) := by decide +kernel
theorem dX11_odds_71 : decode cX11_odds 71 = .ok (.iinc 7 1, 3) := by decide +kernel
theorem dX11_odds_74 : decode cX11_odds 74 = .ok (.goto (-17), 3) := by decide +kernel
theorem dX11_odds_77 : decode cX11_odds 77 = .ok (.iconst 0, 1) := by decide +kernel
theorem dX11_odds_78 : decode cX11_odds 78 = .ok (.istore 7, 2) := by decide +kernel
theorem dX11_odds_80 : decode cX11_odds 80 = .ok (.iload 7, 2) := by decide +kernel
theorem dX11_odds_82 : decode cX11_odds 82 = .ok (.iconst 1, 1) := by decide +kernel
theorem dX11_odds_83 : decode cX11_odds 83 = .ok (.iload 4, 2) := by decide +kernel
theorem dX11_odds_85 : decode cX11_odds 85 = .ok (.ishl, 1) := by decide +kernel
theorem dX11_odds_86 : decode cX11_odds 86 = .ok (.if_icmp .ge 71, 3) := by decide +kernel
theorem dX11_odds_89 : decode cX11_odds 89 = .ok (.iconst 1, 1) := by decide +kernel
theorem dX11_odds_90 : decode cX11_odds 90 = .ok (.istore 8, 2) := by decide +kernel
theorem dX11_odds_92 : decode cX11_odds 92 = .ok (.iconst 0, 1) := by decide +kernel
theorem dX11_odds_93 : decode cX11_odds 93 = .ok (.istore 9, 2) := by decide +kernel
theorem dX11_odds_95 : decode cX11_odds 95 = .ok (.iload 9, 2) := by decide +kernel
theorem dX11_odds_97 : decode cX11_odds 97 = .ok (.iload 4, 2) := by decide +kernel
theorem dX11_odds_99 : decode cX11_odds 99 = .ok (.if_icmp .ge 32, 3) := by decide +kernel
theorem dX11_odds_102 : decode cX11_odds 102 = .ok (.iload 8, 2) := by decide +kernel
theorem dX11_odds_104 : decode cX11_odds 104 = .ok (.iload 7, 2) := by decide +kernel
theorem dX11_odds_106 : decode cX11_odds 106 = .ok (.iload 9, 2) := by decide +kernel
theorem dX11_odds_108 : decode cX11_odds 108 = .ok (.invokestatic 140, 3) := by decide +kernel
theorem dX11_odds_111 : decode cX11_odds 111 = .ok (.ifCond .eq 7, 3) := by decide +kernel
theorem dX11_odds_114 : decode cX11_odds 114 = .ok (.iload_n 1, 1) := by decide +kernel
theorem dX11_odds_115 : decode cX11_odds 115 = .ok (.goto 7, 3) := by decide +kernel
theorem dX11_odds_118 : decode cX11_odds 118 = .ok (.bipush 10, 2) := by decide +kernel
theorem dX11_odds_120 : decode cX11_odds 120 = .ok (.iload_n 1, 1) := by decide +kernel
theorem dX11_odds_121 : decode cX11_odds 121 = .ok (.isub, 1) := by decide +kernel
theorem dX11_odds_122 : decode cX11_odds 122 = .ok (.imul, 1) := by decide +kernel
theorem dX11_odds_123 : decode cX11_odds 123 = .ok (.istore 8, 2) := by decide +kernel
theorem dX11_odds_125 : decode cX11_odds 125 = .ok (.iinc 9 1, 3) := by decide +kernel
theorem dX11_odds_128 : decode cX11_odds 128 = .ok (.goto (-33), 3) := by decide +kernel
theorem dX11_odds_131 : decode cX11_odds 131 = .ok (.iload 5, 2) := by decide +kernel
theorem dX11_odds_133 : decode cX11_odds 133 = .ok (.iload 7, 2) := by decide +kernel
theorem dX11_odds_135 : decode cX11_odds 135 = .ok (.invokestatic 175, 3) := by decide +kernel
theorem dX11_odds_138 : decode cX11_odds 138 = .ok (.iload_n 2, 1) := by decide +kernel
theorem dX11_odds_139 : decode cX11_odds 139 = .ok (.if_icmp .gt 8, 3) := by decide +kernel
theorem dX11_odds_142 : decode cX11_odds 142 = .ok (.iload 8, 2) := by decide +kernel
theorem dX11_odds_144 : decode cX11_odds 144 = .ok (.goto 4, 3) := by decide +kernel
theorem dX11_odds_147 : decode cX11_odds 147 = .ok (.iconst 0, 1) := by decide +kernel
theorem dX11_odds_148 : decode cX11_odds 148 = .ok (.iadd, 1) := by decide +kernel
theorem dX11_odds_149 : decode cX11_odds 149 = .ok (.istore 5, 2) := by decide +kernel
theorem dX11_odds_151 : decode cX11_odds 151 = .ok (.iinc 7 1, 3) := by decide +kernel
theorem dX11_odds_154 : decode cX11_odds 154 = .ok (.goto (-74), 3) := by decide +kernel
theorem dX11_odds_157 : decode cX11_odds 157 = .ok (.iload 5, 2) := by decide +kernel
theorem dX11_odds_159 : decode cX11_odds 159 = .ok (.iload 6, 2) := by decide +kernel
theorem dX11_odds_161 : decode cX11_odds 161 = .ok (.iload_n 3, 1) := by decide +kernel
theorem dX11_odds_162 : decode cX11_odds 162 = .ok (.invokestatic 218, 3) := by decide +kernel
theorem dX11_odds_165 : decode cX11_odds 165 = .ok (.ireturn, 1) := by decide +kernel
theorem dX11_own_0 : decode cX11_own 0 = .ok (.iload_n 1, 1) := by decide +kernel
theorem dX11_own_1 : decode cX11_own 1 = .ok (.iconst (-1), 1) := by decide +kernel
theorem dX11_own_2 : decode cX11_own 2 = .ok (.aload_n 0, 1) := by decide +kernel
theorem dX11_own_3 : decode cX11_own 3 = .ok (.getfield 76, 3) := by decide +kernel
theorem dX11_own_6 : decode cX11_own 6 = .ok (.iconst 1, 1) := by decide +kernel
theorem dX11_own_7 : decode cX11_own 7 = .ok (.isub, 1) := by decide +kernel
theorem dX11_own_8 : decode cX11_own 8 = .ok (.invokestatic 72, 3) := by decide +kernel
theorem dX11_own_11 : decode cX11_own 11 = .ok (.ifCond .ne 5, 3) := by decide +kernel
theorem dX11_own_14 : decode cX11_own 14 = .ok (.iconst (-1), 1) := by decide +kernel
theorem dX11_own_15 : decode cX11_own 15 = .ok (.ireturn, 1) := by decide +kernel
theorem dX11_own_16 : decode cX11_own 16 = .ok (.aload_n 0, 1) := by decide +kernel
theorem dX11_own_17 : decode cX11_own 17 = .ok (.invokevirtual 209, 3) := by decide +kernel
theorem dX11_own_20 : decode cX11_own 20 = .ok (.iconst 0, 1) := by decide +kernel
theorem dX11_own_21 : decode cX11_own 21 = .ok (.istore_n 2, 1) := by decide +kernel
theorem dX11_own_22 : decode cX11_own 22 = .ok (.iconst 0, 1) := by decide +kernel
theorem dX11_own_23 : decode cX11_own 23 = .ok (.istore_n 3, 1) := by decide +kernel
theorem dX11_own_24 : decode cX11_own 24 = .ok (.iload_n 3, 1) := by decide +kernel
theorem dX11_own_25 : decode cX11_own 25 = .ok (.iload_n 1, 1) := by decide +kernel
theorem dX11_own_26 : decode cX11_own 26 = .ok (.if_icmp .ge 35, 3) := by decide +kernel
theorem dX11_own_29 : decode cX11_own 29 = .ok (.aload_n 0, 1) := by decide +kernel
theorem dX11_own_30 : decode cX11_own 30 = .ok (.iload_n 3, 1) := by decide +kernel
theorem dX11_own_31 : decode cX11_own 31 = .ok (.iload_n 2, 1) := by decide +kernel
theorem dX11_own_32 : decode cX11_own 32 = .ok (.invokevirtual 212, 3) := by decide +kernel
theorem dX11_own_35 : decode cX11_own 35 = .ok (.istore 4, 2) := by decide +kernel
theorem dX11_own_37 : decode cX11_own 37 = .ok (.iload_n 2, 1) := by decide +kernel
theorem dX11_own_38 : decode cX11_own 38 = .ok (.iload 4, 2) := by decide +kernel
theorem dX11_own_40 : decode cX11_own 40 = .ok (.bipush (-9), 2) := by decide +kernel
theorem dX11_own_42 : decode cX11_own 42 = .ok (.if_icmp .ne 7, 3) := by decide +kernel
theorem dX11_own_45 : decode cX11_own 45 = .ok (.iconst 0, 1) := by decide +kernel
theorem dX11_own_46 : decode cX11_own 46 = .ok (.goto 7, 3) := by decide +kernel
theorem dX11_own_49 : decode cX11_own 49 = .ok (.iconst 1, 1) := by decide +kernel
theorem dX11_own_50 : decode cX11_own 50 = .ok (.iload 4, 2) := by decide +kernel
theorem dX11_own_52 : decode cX11_own 52 = .ok (.ishl, 1) := by decide +kernel
theorem dX11_own_53 : decode cX11_own 53 = .ok (.ior, 1) := by decide +kernel
theorem dX11_own_54 : decode cX11_own 54 = .ok (.istore_n 2, 1) := by decide +kernel
theorem dX11_own_55 : decode cX11_own 55 = .ok (.iinc 3 1, 3) := by decide +kernel
theorem dX11_own_58 : decode cX11_own 58 = .ok (.goto (-34), 3) := by decide +kernel
theorem dX11_own_61 : decode cX11_own 61 = .ok (.iload_n 1, 1) := by decide +kernel
theorem dX11_own_62 : decode cX11_own 62 = .ok (.ifCond .ge 12, 3) := by decide +kernel
theorem dX11_own_65 : decode cX11_own 65 = .ok (.aload_n 0, 1) := by decide +kernel
theorem dX11_own_66 : decode cX11_own 66 = .ok (.getfield 65, 3) := by decide +kernel
theorem dX11_own_69 : decode cX11_own 69 = .ok (.iconst 0, 1) := by decide +kernel
theorem dX11_own_70 : decode cX11_own 70 = .ok (.iaload, 1) := by decide +kernel
theorem dX11_own_71 : decode cX11_own 71 = .ok (.goto 9, 3) := by decide +kernel
theorem dX11_own_74 : decode cX11_own 74 = .ok (.aload_n 0, 1) := by decide +kernel
theorem dX11_own_75 : decode cX11_own 75 = .ok (.iload_n 1, 1) := by decide +kernel
theorem dX11_own_76 : decode cX11_own 76 = .ok (.iload_n 2, 1) := by decide +kernel
theorem dX11_own_77 : decode cX11_own 77 = .ok (.invokevirtual 212, 3) := by decide +kernel
theorem dX11_own_80 : decode cX11_own 80 = .ok (.ireturn, 1) := by decide +kernel
theorem dX11_plan_0 : decode cX11_plan 0 = .ok (.aload_n 0, 1) := by decide +kernel
theorem dX11_plan_1 : decode cX11_plan 1 = .ok (.iload_n 1, 1) := by decide +kernel
theorem dX11_plan_2 : decode cX11_plan 2 = .ok (.invokevirtual 162, 3) := by decide +kernel
theorem dX11_plan_5 : decode cX11_plan 5 = .ok (.ifCond .eq 22, 3) := by decide +kernel
theorem dX11_plan_8 : decode cX11_plan 8 = .ok (.aload_n 0, 1) := by decide +kernel
theorem dX11_plan_9 : decode cX11_plan 9 = .ok (.iload_n 2, 1) := by decide +kernel
theorem dX11_plan_10 : decode cX11_plan 10 = .ok (.invokevirtual 156, 3) := by decide +kernel
theorem dX11_plan_13 : decode cX11_plan 13 = .ok (.ifCond .eq 14, 3) := by decide +kernel
theorem dX11_plan_16 : decode cX11_plan 16 = .ok (.iload_n 3, 1) := by decide +kernel
theorem dX11_plan_17 : decode cX11_plan 17 = .ok (.bipush (-3), 2) := by decide +kernel
theorem dX11_plan_19 : decode cX11_plan 19 = .ok (.bipush 7, 2) := by decide +kernel
theorem dX11_plan_21 : decode cX11_plan 21 = .ok (.invokestatic 72, 3) := by decide +kernel
theorem dX11_plan_24 : decode cX11_plan 24 = .ok (.ifCond .ne 5, 3) := by decide +kernel
theorem dX11_plan_27 : decode cX11_plan 27 = .ok (.iconst (-1), 1) := by decide +kernel
theorem dX11_plan_28 : decode cX11_plan 28 = .ok (.ireturn, 1) := by decide +kernel
theorem dX11_plan_29 : decode cX11_plan 29 = .ok (.aload_n 0, 1) := by decide +kernel
theorem dX11_plan_30 : decode cX11_plan 30 = .ok (.iload_n 1, 1) := by decide +kernel
theorem dX11_plan_31 : decode cX11_plan 31 = .ok (.iload_n 2, 1) := by decide +kernel
theorem dX11_plan_32 : decode cX11_plan 32 = .ok (.invokevirtual 147, 3) := by decide +kernel
theorem dX11_plan_35 : decode cX11_plan 35 = .ok (.ifCond .eq 7, 3) := by decide +kernel
theorem dX11_plan_38 : decode cX11_plan 38 = .ok (.iconst 0, 1) := by decide +kernel
theorem dX11_plan_39 : decode cX11_plan 39 = .ok (.goto 9, 3) := by decide +kernel
theorem dX11_plan_42 : decode cX11_plan 42 = .ok (.aload_n 0, 1) := by decide +kernel
theorem dX11_plan_43 : decode cX11_plan 43 = .ok (.iload_n 1, 1) := by decide +kernel
theorem dX11_plan_44 : decode cX11_plan 44 = .ok (.iload_n 2, 1) := by decide +kernel
theorem dX11_plan_45 : decode cX11_plan 45 = .ok (.invokevirtual 194, 3) := by decide +kernel
theorem dX11_plan_48 : decode cX11_plan 48 = .ok (.istore 4, 2) := by decide +kernel
theorem dX11_plan_50 : decode cX11_plan 50 = .ok (.iload 4, 2) := by decide +kernel
theorem dX11_plan_52 : decode cX11_plan 52 = .ok (.ifCond .eq 16, 3) := by decide +kernel
theorem dX11_plan_55 : decode cX11_plan 55 = .ok (.aload_n 0, 1) := by decide +kernel
theorem dX11_plan_56 : decode cX11_plan 56 = .ok (.iload_n 1, 1) := by decide +kernel
theorem dX11_plan_57 : decode cX11_plan 57 = .ok (.iload 4, 2) := by decide +kernel
theorem dX11_plan_59 : decode cX11_plan 59 = .ok (.invokevirtual 197, 3) := by decide +kernel
theorem dX11_plan_62 : decode cX11_plan 62 = .ok (.ifCond .ne 6, 3) := by decide +kernel
theorem dX11_plan_65 : decode cX11_plan 65 = .ok (.bipush (-9), 2) := by decide +kernel
theorem dX11_plan_67 : decode cX11_plan 67 = .ok (.ireturn, 1) := by decide +kernel
theorem dX11_plan_68 : decode cX11_plan 68 = .ok (.iload_n 3, 1) := by decide +kernel
theorem dX11_plan_69 : decode cX11_plan 69 = .ok (.iconst (-1), 1) := by decide +kernel
theorem dX11_plan_70 : decode cX11_plan 70 = .ok (.if_icmp .ne 8, 3) := by decide +kernel
theorem dX11_plan_73 : decode cX11_plan 73 = .ok (.iload 4, 2) := by decide +kernel
theorem dX11_plan_75 : decode cX11_plan 75 = .ok (.goto 41, 3) := by decide +kernel
theorem dX11_plan_78 : decode cX11_plan 78 = .ok (.iload_n 3, 1) := by decide +kernel
theorem dX11_plan_79 : decode cX11_plan 79 = .ok (.bipush (-2), 2) := by decide +kernel
theorem dX11_plan_81 : decode cX11_plan 81 = .ok (.if_icmp .ne 13, 3) := by decide +kernel
theorem dX11_plan_84 : decode cX11_plan 84 = .ok (.aload_n 0, 1) := by decide +kernel
theorem dX11_plan_85 : decode cX11_plan 85 = .ok (.iload_n 1, 1) := by decide +kernel
theorem dX11_plan_86 : decode cX11_plan 86 = .ok (.iload 4, 2) := by decide +kernel
theorem dX11_plan_88 : decode cX11_plan 88 = .ok (.invokevirtual 200, 3) := by decide +kernel
theorem dX11_plan_91 : decode cX11_plan 91 = .ok (.goto 25, 3) := by decide +kernel
theorem dX11_plan_94 : decode cX11_plan 94 = .ok (.iload_n 3, 1) := by decide +kernel
theorem dX11_plan_95 : decode cX11_plan 95 = .ok (.bipush (-3), 2) := by decide +kernel
theorem dX11_plan_97 : decode cX11_plan 97 = .ok (.if_icmp .ne 13, 3) := by decide +kernel
theorem dX11_plan_100 : decode cX11_plan 100 = .ok (.aload_n 0, 1) := by decide +kernel
theorem dX11_plan_101 : decode cX11_plan 101 = .ok (.iload_n 1, 1) := by decide +kernel
theorem dX11_plan_102 : decode cX11_plan 102 = .ok (.iload 4, 2) := by decide +kernel
theorem dX11_plan_104 : decode cX11_plan 104 = .ok (.invokevirtual 191, 3) := by decide +kernel
theorem dX11_plan_107 : decode cX11_plan 107 = .ok (.goto 9, 3) := by decide +kernel
theorem dX11_plan_110 : decode cX11_plan 110 = .ok (.iload 4, 2) := by decide +kernel
theorem dX11_plan_112 : decode cX11_plan 112 = .ok (.iload_n 3, 1) := by decide +kernel
theorem dX11_plan_113 : decode cX11_plan 113 = .ok (.invokestatic 203, 3) := by decide +kernel
theorem dX11_plan_116 : decode cX11_plan 116 = .ok (.ireturn, 1) := by decide +kernel
theorem dX11_readCast_0 : decode cX11_readCast 0 = .ok (.aload_n 0, 1) := by decide +kernel
theorem dX11_readCast_1 : decode cX11_readCast 1 = .ok (.getfield 56, 3) := by decide +kernel
theorem dX11_readCast_4 : decode cX11_readCast 4 = .ok (.aload_n 0, 1) := by decide +kernel
theorem dX11_readCast_5 : decode cX11_readCast 5 = .ok (.getfield 119, 3) := by decide +kernel
theorem dX11_readCast_8 : decode cX11_readCast 8 = .ok (.aload_n 0, 1) := by decide +kernel
theorem dX11_readCast_9 : decode cX11_readCast 9 = .ok (.iconst 1, 1) := by decide +kernel
theorem dX11_readCast_10 : decode cX11_readCast 10 = .ok (.bipush 99, 2) := by decide +kernel
theorem dX11_readCast_12 : decode cX11_readCast 12 = .ok (.invokevirtual 115, 3) := by decide +kernel
theorem dX11_readCast_15 : decode cX11_readCast 15 = .ok (.iastore, 1) := by decide +kernel
theorem dX11_readCast_16 : decode cX11_readCast 16 = .ok (.aload_n 0, 1) := by decide +kernel
theorem dX11_readCast_17 : decode cX11_readCast 17 = .ok (.getfield 59, 3) := by decide +kernel
theorem dX11_readCast_20 : decode cX11_readCast 20 = .ok (.aload_n 0, 1) := by decide +kernel
theorem dX11_readCast_21 : decode cX11_readCast 21 = .ok (.getfield 119, 3) := by decide +kernel
theorem dX11_readCast_24 : decode cX11_readCast 24 = .ok (.aload_n 0, 1) := by decide +kernel
theorem dX11_readCast_25 : decode cX11_readCast 25 = .ok (.iconst 1, 1) := by decide +kernel
theorem dX11_readCast_26 : decode cX11_readCast 26 = .ok (.bipush 9, 2) := by decide +kernel
theorem dX11_readCast_28 : decode cX11_readCast 28 = .ok (.invokevirtual 115, 3) := by decide +kernel
theorem dX11_readCast_31 : decode cX11_readCast 31 = .ok (.iastore, 1) := by decide +kernel
theorem dX11_readCast_32 : decode cX11_readCast 32 = .ok (.aload_n 0, 1) := by decide +kernel
theorem dX11_readCast_33 : decode cX11_readCast 33 = .ok (.getfield 62, 3) := by decide +kernel
theorem dX11_readCast_36 : decode cX11_readCast 36 = .ok (.aload_n 0, 1) := by decide +kernel
theorem dX11_readCast_37 : decode cX11_readCast 37 = .ok (.getfield 119, 3) := by decide +kernel
theorem dX11_readCast_40 : decode cX11_readCast 40 = .ok (.aload_n 0, 1) := by decide +kernel
theorem dX11_readCast_41 : decode cX11_readCast 41 = .ok (.iconst 0, 1) := by decide +kernel
theorem dX11_readCast_42 : decode cX11_readCast 42 = .ok (.bipush 63, 2) := by decide +kernel
theorem dX11_readCast_44 : decode cX11_readCast 44 = .ok (.invokevirtual 115, 3) := by decide +kernel
theorem dX11_readCast_47 : decode cX11_readCast 47 = .ok (.iastore, 1) := by decide +kernel
theorem dX11_readCast_48 : decode cX11_readCast 48 = .ok (.aload_n 0, 1) := by decide +kernel
theorem dX11_readCast_49 : decode cX11_readCast 49 = .ok (.dup, 1) := by decide +kernel
theorem dX11_readCast_50 : decode cX11_readCast 50 = .ok (.getfield 119, 3) := by decide +kernel
theorem dX11_readCast_53 : decode cX11_readCast 53 = .ok (.iconst 1, 1) := by decide +kernel
theorem dX11_readCast_54 : decode cX11_readCast 54 = .ok (.iadd, 1) := by decide +kernel
theorem dX11_readCast_55 : decode cX11_readCast 55 = .ok (.putfield 119, 3) := by decide +kernel
theorem dX11_readCast_58 : decode cX11_readCast 58 = .ok (.return_, 1) := by decide +kernel
theorem dX11_readItem_0 : decode cX11_readItem 0 = .ok (.aload_n 0, 1) := by decide +kernel
theorem dX11_readItem_1 : decode cX11_readItem 1 = .ok (.getfield 92, 3) := by decide +kernel
theorem dX11_readItem_4 : decode cX11_readItem 4 = .ok (.istore_n 1, 1) := by decide +kernel
theorem dX11_readItem_5 : decode cX11_readItem 5 = .ok (.iload_n 1, 1) := by decide +kernel
theorem dX11_readItem_6 : decode cX11_readItem 6 = .ok (.bipush 116, 2) := by decide +kernel
theorem dX11_readItem_8 : decode cX11_readItem 8 = .ok (.if_icmp .ne 20, 3) := by decide +kernel
theorem dX11_readItem_11 : decode cX11_readItem 11 = .ok (.aload_n 0, 1) := by decide +kernel
theorem dX11_readItem_12 : decode cX11_readItem 12 = .ok (.getfield 112, 3) := by decide +kernel
theorem dX11_readItem_15 : decode cX11_readItem 15 = .ok (.bipush 8, 2) := by decide +kernel
theorem dX11_readItem_17 : decode cX11_readItem 17 = .ok (.if_icmp .ge 7, 3) := by decide +kernel
theorem dX11_readItem_20 : decode cX11_readItem 20 = .ok (.iconst 1, 1) := by decide +kernel
theorem dX11_readItem_21 : decode cX11_readItem 21 = .ok (.goto 27, 3) := by decide +kernel
theorem dX11_readItem_24 : decode cX11_readItem 24 = .ok (.iconst 0, 1) := by decide +kernel
theorem dX11_readItem_25 : decode cX11_readItem 25 = .ok (.goto 23, 3) := by decide +kernel
theorem dX11_readItem_28 : decode cX11_readItem 28 = .ok (.iload_n 1, 1) := by decide +kernel
theorem dX11_readItem_29 : decode cX11_readItem 29 = .ok (.bipush 99, 2) := by decide +kernel
theorem dX11_readItem_31 : decode cX11_readItem 31 = .ok (.if_icmp .ne 16, 3) := by decide +kernel
theorem dX11_readItem_34 : decode cX11_readItem 34 = .ok (.aload_n 0, 1) := by decide +kernel
theorem dX11_readItem_35 : decode cX11_readItem 35 = .ok (.getfield 119, 3) := by decide +kernel
theorem dX11_readItem_38 : decode cX11_readItem 38 = .ok (.bipush 6, 2) := by decide +kernel
theorem dX11_readItem_40 : decode cX11_readItem 40 = .ok (.if_icmp .ge 7, 3) := by decide +kernel
theorem dX11_readItem_43 : decode cX11_readItem 43 = .ok (.iconst 1, 1) := by decide +kernel
theorem dX11_readItem_44 : decode cX11_readItem 44 = .ok (.goto 4, 3) := by decide +kernel
theorem dX11_readItem_47 : decode cX11_readItem 47 = .ok (.iconst 0, 1) := by decide +kernel
theorem dX11_readItem_48 : decode cX11_readItem 48 = .ok (.istore_n 2, 1) := by decide +kernel
theorem dX11_readItem_49 : decode cX11_readItem 49 = .ok (.aload_n 0, 1) := by decide +kernel
theorem dX11_readItem_50 : decode cX11_readItem 50 = .ok (.getfield 95, 3) := by decide +kernel
theorem dX11_readItem_53 : decode cX11_readItem 53 = .ok (.iconst 1, 1) := by decide +kernel
theorem dX11_readItem_54 : decode cX11_readItem 54 = .ok (.if_icmp .ne 7, 3) := by decide +kernel
theorem dX11_readItem_57 : decode cX11_readItem 57 = .ok (.iload_n 2, 1) := by decide +kernel
theorem dX11_readItem_58 : decode cX11_readItem 58 = .ok (.ifCond .ne 9, 3) := by decide +kernel
theorem dX11_readItem_61 : decode cX11_readItem 61 = .ok (.aload_n 0, 1) := by decide +kernel
theorem dX11_readItem_62 : decode cX11_readItem 62 = .ok (.iconst 1, 1) := by decide +kernel
theorem dX11_readItem_63 : decode cX11_readItem 63 = .ok (.putfield 105, 3) := by decide +kernel
theorem dX11_readItem_66 : decode cX11_readItem 66 = .ok (.return_, 1) := by decide +kernel
theorem dX11_readItem_67 : decode cX11_readItem 67 = .ok (.aload_n 0, 1) := by decide +kernel
theorem dX11_readItem_68 : decode cX11_readItem 68 = .ok (.invokevirtual 109, 3) := by decide +kernel
theorem dX11_readItem_71 : decode cX11_readItem 71 = .ok (.iload_n 1, 1) := by decide +kernel
theorem dX11_readItem_72 : decode cX11_readItem 72 = .ok (.bipush 116, 2) := by decide +kernel
theorem dX11_readItem_74 : decode cX11_readItem 74 = .ok (.if_icmp .ne 10, 3) := by decide +kernel
theorem dX11_readItem_77 : decode cX11_readItem 77 = .ok (.aload_n 0, 1) := by decide +kernel
theorem dX11_readItem_78 : decode cX11_readItem 78 = .ok (.invokevirtual 122, 3) := by decide +kernel
theorem dX11_readItem_81 : decode cX11_readItem 81 = .ok (.goto 7, 3) := by decide +kernel
theorem dX11_readItem_84 : decode cX11_readItem 84 = .ok (.aload_n 0, 1) := by decide +kernel
theorem dX11_readItem_85 : decode cX11_readItem 85 = .ok (.invokevirtual 125, 3) := by decide +kernel
theorem dX11_readItem_88 : decode cX11_readItem 88 = .ok (.aload_n 0, 1) := by decide +kernel
theorem dX11_readItem_89 : decode cX11_readItem 89 = .ok (.aload_n 0, 1) := by decide +kernel
theorem dX11_readItem_90 : decode cX11_readItem 90 = .ok (.getfield 105, 3) := by decide +kernel
theorem dX11_readItem_93 : decode cX11_readItem 93 = .ok (.ifCond .ne 11, 3) := by decide +kernel
theorem dX11_readItem_96 : decode cX11_readItem 96 = .ok (.aload_n 0, 1) := by decide +kernel
theorem dX11_readItem_97 : decode cX11_readItem 97 = .ok (.getfield 95, 3) := by decide +kernel
theorem dX11_readItem_100 : decode cX11_readItem 100 = .ok (.iconst 3, 1) := by decide +kernel
theorem dX11_readItem_101 : decode cX11_readItem 101 = .ok (.if_icmp .eq 7, 3) := by decide +kernel
theorem dX11_readItem_104 : decode cX11_readItem 104 = .ok (.iconst 1, 1) := by decide +kernel
theorem dX11_readItem_105 : decode cX11_readItem 105 = .ok (.goto 4, 3) := by decide +kernel
theorem dX11_readItem_108 : decode cX11_readItem 108 = .ok (.iconst 0, 1) := by decide +kernel
theorem dX11_readItem_109 : decode cX11_readItem 109 = .ok (.putfield 105, 3) := by decide +kernel
theorem dX11_readItem_112 : decode cX11_readItem 112 = .ok (.aload_n 0, 1) := by decide +kernel
theorem dX11_readItem_113 : decode cX11_readItem 113 = .ok (.getfield 105, 3) := by decide +kernel
theorem dX11_readItem_116 : decode cX11_readItem 116 = .ok (.ifCond .ne 7, 3) := by decide +kernel
theorem dX11_readItem_119 : decode cX11_readItem 119 = .ok (.aload_n 0, 1) := by decide +kernel
theorem dX11_readItem_120 : decode cX11_readItem 120 = .ok (.invokevirtual 109, 3) := by decide +kernel
theorem dX11_readItem_123 : decode cX11_readItem 123 = .ok (.return_, 1) := by decide +kernel
theorem dX11_readThing_0 : decode cX11_readThing 0 = .ok (.aload_n 0, 1) := by decide +kernel
theorem dX11_readThing_1 : decode cX11_readThing 1 = .ok (.getfield 112, 3) := by decide +kernel
theorem dX11_readThing_4 : decode cX11_readThing 4 = .ok (.istore_n 1, 1) := by decide +kernel
theorem dX11_readThing_5 : decode cX11_readThing 5 = .ok (.aload_n 0, 1) := by decide +kernel
theorem dX11_readThing_6 : decode cX11_readThing 6 = .ok (.getfield 44, 3) := by decide +kernel
theorem dX11_readThing_9 : decode cX11_readThing 9 = .ok (.iload_n 1, 1) := by decide +kernel
theorem dX11_readThing_10 : decode cX11_readThing 10 = .ok (.aload_n 0, 1) := by decide +kernel
theorem dX11_readThing_11 : decode cX11_readThing 11 = .ok (.iconst 0, 1) := by decide +kernel
theorem dX11_readThing_12 : decode cX11_readThing 12 = .ok (.bipush 9, 2) := by decide +kernel
theorem dX11_readThing_14 : decode cX11_readThing 14 = .ok (.invokevirtual 115, 3) := by decide +kernel
theorem dX11_readThing_17 : decode cX11_readThing 17 = .ok (.iastore, 1) := by decide +kernel
theorem dX11_readThing_18 : decode cX11_readThing 18 = .ok (.aload_n 0, 1) := by decide +kernel
theorem dX11_readThing_19 : decode cX11_readThing 19 = .ok (.getfield 47, 3) := by decide +kernel
theorem dX11_readThing_22 : decode cX11_readThing 22 = .ok (.iload_n 1, 1) := by decide +kernel
theorem dX11_readThing_23 : decode cX11_readThing 23 = .ok (.aload_n 0, 1) := by decide +kernel
theorem dX11_readThing_24 : decode cX11_readThing 24 = .ok (.iconst 1, 1) := by decide +kernel
theorem dX11_readThing_25 : decode cX11_readThing 25 = .ok (.bipush 30, 2) := by decide +kernel
theorem dX11_readThing_27 : decode cX11_readThing 27 = .ok (.invokevirtual 115, 3) := by decide +kernel
theorem dX11_readThing_30 : decode cX11_readThing 30 = .ok (.iastore, 1) := by decide +kernel
theorem dX11_readThing_31 : decode cX11_readThing 31 = .ok (.aload_n 0, 1) := by decide +kernel
theorem dX11_readThing_32 : decode cX11_readThing 32 = .ok (.getfield 50, 3) := by decide +kernel
theorem dX11_readThing_35 : decode cX11_readThing 35 = .ok (.iload_n 1, 1) := by decide +kernel
theorem dX11_readThing_36 : decode cX11_readThing 36 = .ok (.aload_n 0, 1) := by decide +kernel
theorem dX11_readThing_37 : decode cX11_readThing 37 = .ok (.iconst 0, 1) := by decide +kernel
theorem dX11_readThing_38 : decode cX11_readThing 38 = .ok (.bipush 6, 2) := by decide +kernel
theorem dX11_readThing_40 : decode cX11_readThing 40 = .ok (.invokevirtual 115, 3) := by decide +kernel
theorem dX11_readThing_43 : decode cX11_readThing 43 = .ok (.iastore, 1) := by decide +kernel
theorem dX11_readThing_44 : decode cX11_readThing 44 = .ok (.aload_n 0, 1) := by decide +kernel
theorem dX11_readThing_45 : decode cX11_readThing 45 = .ok (.iconst 0, 1) := by decide +kernel
theorem dX11_readThing_46 : decode cX11_readThing 46 = .ok (.iload_n 1, 1) := by decide +kernel
theorem dX11_readThing_47 : decode cX11_readThing 47 = .ok (.invokevirtual 115, 3) := by decide +kernel
theorem dX11_readThing_50 : decode cX11_readThing 50 = .ok (.istore_n 2, 1) := by decide +kernel
theorem dX11_readThing_51 : decode cX11_readThing 51 = .ok (.aload_n 0, 1) := by decide +kernel
theorem dX11_readThing_52 : decode cX11_readThing 52 = .ok (.iconst 0, 1) := by decide +kernel
theorem dX11_readThing_53 : decode cX11_readThing 53 = .ok (.iload_n 1, 1) := by decide +kernel
theorem dX11_readThing_54 : decode cX11_readThing 54 = .ok (.invokevirtual 115, 3) := by decide +kernel
theorem dX11_readThing_57 : decode cX11_readThing 57 = .ok (.istore_n 3, 1) := by decide +kernel
theorem dX11_readThing_58 : decode cX11_readThing 58 = .ok (.aload_n 0, 1) := by decide +kernel
theorem dX11_readThing_59 : decode cX11_readThing 59 = .ok (.getfield 53, 3) := by decide +kernel
theorem dX11_readThing_62 : decode cX11_readThing 62 = .ok (.iload_n 1, 1) := by decide +kernel
theorem dX11_readThing_63 : decode cX11_readThing 63 = .ok (.iconst 1, 1) := by decide +kernel
theorem dX11_readThing_64 : decode cX11_readThing 64 = .ok (.iload_n 2, 1) := by decide +kernel
theorem dX11_readThing_65 : decode cX11_readThing 65 = .ok (.ishl, 1) := by decide +kernel
theorem dX11_readThing_66 : decode cX11_readThing 66 = .ok (.iconst 1, 1) := by decide +kernel
theorem dX11_readThing_67 : decode cX11_readThing 67 = .ok (.iload_n 3, 1) := by decide +kernel
theorem dX11_readThing_68 : decode cX11_readThing 68 = .ok (.ishl, 1) := by decide +kernel
theorem dX11_readThing_69 : decode cX11_readThing 69 = .ok (.ior, 1) := by decide +kernel
theorem dX11_readThing_70 : decode cX11_readThing 70 = .ok (.iconst 1, 1) := by decide +kernel
theorem dX11_readThing_71 : decode cX11_readThing 71 = .ok (.iload_n 1, 1) := by decide +kernel
theorem dX11_readThing_72 : decode cX11_readThing 72 = .ok (.ishl, 1) := by decide +kernel
theorem dX11_readThing_73 : decode cX11_readThing 73 = .ok (.iconst (-1), 1) := by decide +kernel
theorem dX11_readThing_74 : decode cX11_readThing 74 = .ok (.ixor, 1) := by decide +kernel
theorem dX11_readThing_75 : decode cX11_readThing 75 = .ok (.iand, 1) := by decide +kernel
theorem dX11_readThing_76 : decode cX11_readThing 76 = .ok (.iastore, 1) := by decide +kernel
theorem dX11_readThing_77 : decode cX11_readThing 77 = .ok (.aload_n 0, 1) := by decide +kernel
theorem dX11_readThing_78 : decode cX11_readThing 78 = .ok (.dup, 1) := by decide +kernel
theorem dX11_readThing_79 : decode cX11_readThing 79 = .ok (.getfield 112, 3) := by decide +kernel
theorem dX11_readThing_82 : decode cX11_readThing 82 = .ok (.iconst 1, 1) := by decide +kernel
theorem dX11_readThing_83 : decode cX11_readThing 83 = .ok (.iadd, 1) := by decide +kernel
theorem dX11_readThing_84 : decode cX11_readThing 84 = .ok (.putfield 112, 3) := by decide +kernel
theorem dX11_readThing_87 : decode cX11_readThing 87 = .ok (.return_, 1) := by decide +kernel
theorem dX11_remembers_0 : decode cX11_remembers 0 = .ok (.aload_n 0, 1) := by decide +kernel
theorem dX11_remembers_1 : decode cX11_remembers 1 = .ok (.getfield 28, 3) := by decide +kernel
theorem dX11_remembers_4 : decode cX11_remembers 4 = .ok (.bipush 74, 2) := by decide +kernel
theorem dX11_remembers_6 : decode cX11_remembers 6 = .ok (.iaload, 1) := by decide +kernel
theorem dX11_remembers_7 : decode cX11_remembers 7 = .ok (.bipush 10, 2) := by decide +kernel
theorem dX11_remembers_9 : decode cX11_remembers 9 = .ok (.if_icmp .ne 45, 3) := by decide +kernel
theorem dX11_remembers_12 : decode cX11_remembers 12 = .ok (.bipush 75, 2) := by decide +kernel
theorem dX11_remembers_14 : decode cX11_remembers 14 = .ok (.istore_n 1, 1) := by decide +kernel
theorem dX11_remembers_15 : decode cX11_remembers 15 = .ok (.iload_n 1, 1) := by decide +kernel
theorem dX11_remembers_16 : decode cX11_remembers 16 = .ok (.sipush 741, 3) := by decide +kernel
theorem dX11_remembers_19 : decode cX11_remembers 19 = .ok (.if_icmp .ge 24, 3) := by decide +kernel
theorem dX11_remembers_22 : decode cX11_remembers 22 = .ok (.aload_n 0, 1) := by decide +kernel
theorem dX11_remembers_23 : decode cX11_remembers 23 = .ok (.getfield 28, 3) := by decide +kernel
theorem dX11_remembers_26 : decode cX11_remembers 26 = .ok (.iload_n 1, 1) := by decide +kernel
theorem dX11_remembers_27 : decode cX11_remembers 27 = .ok (.aload_n 0, 1) := by decide +kernel
theorem dX11_remembers_28 : decode cX11_remembers 28 = .ok (.getfield 28, 3) := by decide +kernel
theorem dX11_remembers_31 : decode cX11_remembers 31 = .ok (.iload_n 1, 1) := by decide +kernel
theorem dX11_remembers_32 : decode cX11_remembers 32 = .ok (.bipush 74, 2) := by decide +kernel
theorem dX11_remembers_34 : decode cX11_remembers 34 = .ok (.iadd, 1) := by decide +kernel
theorem dX11_remembers_35 : decode cX11_remembers 35 = .ok (.iaload, 1) := by decide +kernel
theorem dX11_remembers_36 : decode cX11_remembers 36 = .ok (.iastore, 1) := by decide +kernel
theorem dX11_remembers_37 : decode cX11_remembers 37 = .ok (.iinc 1 1, 3) := by decide +kernel
theorem dX11_remembers_40 : decode cX11_remembers 40 = .ok (.goto (-25), 3) := by decide +kernel
theorem dX11_remembers_43 : decode cX11_remembers 43 = .ok (.aload_n 0, 1) := by decide +kernel
theorem dX11_remembers_44 : decode cX11_remembers 44 = .ok (.getfield 28, 3) := by decide +kernel
theorem dX11_remembers_47 : decode cX11_remembers 47 = .ok (.bipush 74, 2) := by decide +kernel
theorem dX11_remembers_49 : decode cX11_remembers 49 = .ok (.dup2, 1) := by decide +kernel
theorem dX11_remembers_50 : decode cX11_remembers 50 = .ok (.iaload, 1) := by decide +kernel
theorem dX11_remembers_51 : decode cX11_remembers 51 = .ok (.iconst 1, 1) := by decide +kernel
theorem dX11_remembers_52 : decode cX11_remembers 52 = .ok (.isub, 1) := by decide +kernel
theorem dX11_remembers_53 : decode cX11_remembers 53 = .ok (.iastore, 1) := by decide +kernel
theorem dX11_remembers_54 : decode cX11_remembers 54 = .ok (.bipush 75, 2) := by decide +kernel
theorem dX11_remembers_56 : decode cX11_remembers 56 = .ok (.bipush 74, 2) := by decide +kernel
theorem dX11_remembers_58 : decode cX11_remembers 58 = .ok (.aload_n 0, 1) := by decide +kernel
theorem dX11_remembers_59 : decode cX11_remembers 59 = .ok (.getfield 28, 3) := by decide +kernel
theorem dX11_remembers_62 : decode cX11_remembers 62 = .ok (.bipush 74, 2) := by decide +kernel
theorem dX11_remembers_64 : decode cX11_remembers 64 = .ok (.iaload, 1) := by decide +kernel
theorem dX11_remembers_65 : decode cX11_remembers 65 = .ok (.imul, 1) := by decide +kernel
theorem dX11_remembers_66 : decode cX11_remembers 66 = .ok (.iadd, 1) := by decide +kernel
theorem dX11_remembers_67 : decode cX11_remembers 67 = .ok (.istore_n 1, 1) := by decide +kernel
theorem dX11_remembers_68 : decode cX11_remembers 68 = .ok (.iconst 0, 1) := by decide +kernel
theorem dX11_remembers_69 : decode cX11_remembers 69 = .ok (.istore_n 2, 1) := by decide +kernel
theorem dX11_remembers_70 : decode cX11_remembers 70 = .ok (.iload_n 2, 1) := by decide +kernel
theorem dX11_remembers_71 : decode cX11_remembers 71 = .ok (.bipush 74, 2) := by decide +kernel
theorem dX11_remembers_73 : decode cX11_remembers 73 = .ok (.if_icmp .ge 23, 3) := by decide +kernel
theorem dX11_remembers_76 : decode cX11_remembers 76 = .ok (.aload_n 0, 1) := by decide +kernel
theorem dX11_remembers_77 : decode cX11_remembers 77 = .ok (.getfield 28, 3) := by decide +kernel
theorem dX11_remembers_80 : decode cX11_remembers 80 = .ok (.iload_n 1, 1) := by decide +kernel
theorem dX11_remembers_81 : decode cX11_remembers 81 = .ok (.iload_n 2, 1) := by decide +kernel
theorem dX11_remembers_82 : decode cX11_remembers 82 = .ok (.iadd, 1) := by decide +kernel
theorem dX11_remembers_83 : decode cX11_remembers 83 = .ok (.aload_n 0, 1) := by decide +kernel
theorem dX11_remembers_84 : decode cX11_remembers 84 = .ok (.getfield 28, 3) := by decide +kernel
theorem dX11_remembers_87 : decode cX11_remembers 87 = .ok (.iload_n 2, 1) := by decide +kernel
theorem dX11_remembers_88 : decode cX11_remembers 88 = .ok (.iaload, 1) := by decide +kernel
theorem dX11_remembers_89 : decode cX11_remembers 89 = .ok (.iastore, 1) := by decide +kernel
theorem dX11_remembers_90 : decode cX11_remembers 90 = .ok (.iinc 2 1, 3) := by decide +kernel
theorem dX11_remembers_93 : decode cX11_remembers 93 = .ok (.goto (-23), 3) := by decide +kernel
theorem dX11_remembers_96 : decode cX11_remembers 96 = .ok (.aload_n 0, 1) := by decide +kernel
theorem dX11_remembers_97 : decode cX11_remembers 97 = .ok (.getfield 28, 3) := by decide +kernel
theorem dX11_remembers_100 : decode cX11_remembers 100 = .ok (.bipush 74, 2) := by decide +kernel
theorem dX11_remembers_102 : decode cX11_remembers 102 = .ok (.dup2, 1) := by decide +kernel
theorem dX11_remembers_103 : decode cX11_remembers 103 = .ok (.iaload, 1) := by decide +kernel
theorem dX11_remembers_104 : decode cX11_remembers 104 = .ok (.iconst 1, 1) := by decide +kernel
theorem dX11_remembers_105 : decode cX11_remembers 105 = .ok (.iadd, 1) := by decide +kernel
theorem dX11_remembers_106 : decode cX11_remembers 106 = .ok (.iastore, 1) := by decide +kernel
theorem dX11_remembers_107 : decode cX11_remembers 107 = .ok (.return_, 1) := by decide +kernel
theorem dX11_sets_0 : decode cX11_sets 0 = .ok (.aload_n 0, 1) := by decide +kernel
theorem dX11_sets_1 : decode cX11_sets 1 = .ok (.iload_n 1, 1) := by decide +kernel
theorem dX11_sets_2 : decode cX11_sets 2 = .ok (.invokevirtual 162, 3) := by decide +kernel
theorem dX11_sets_5 : decode cX11_sets 5 = .ok (.ifCond .eq 16, 3) := by decide +kernel
theorem dX11_sets_8 : decode cX11_sets 8 = .ok (.iload_n 2, 1) := by decide +kernel
theorem dX11_sets_9 : decode cX11_sets 9 = .ok (.iconst (-1), 1) := by decide +kernel
theorem dX11_sets_10 : decode cX11_sets 10 = .ok (.if_icmp .eq 13, 3) := by decide +kernel
theorem dX11_sets_13 : decode cX11_sets 13 = .ok (.aload_n 0, 1) := by decide +kernel
theorem dX11_sets_14 : decode cX11_sets 14 = .ok (.iload_n 2, 1) := by decide +kernel
theorem dX11_sets_15 : decode cX11_sets 15 = .ok (.invokevirtual 156, 3) := by decide +kernel
theorem dX11_sets_18 : decode cX11_sets 18 = .ok (.ifCond .ne 5, 3) := by decide +kernel
theorem dX11_sets_21 : decode cX11_sets 21 = .ok (.iconst (-1), 1) := by decide +kernel
theorem dX11_sets_22 : decode cX11_sets 22 = .ok (.ireturn, 1) := by decide +kernel
theorem dX11_sets_23 : decode cX11_sets 23 = .ok (.aload_n 0, 1) := by decide +kernel
theorem dX11_sets_24 : decode cX11_sets 24 = .ok (.getfield 28, 3) := by decide +kernel
theorem dX11_sets_27 : decode cX11_sets 27 = .ok (.bipush 68, 2) := by decide +kernel
theorem dX11_sets_29 : decode cX11_sets 29 = .ok (.iload_n 1, 1) := by decide +kernel
theorem dX11_sets_30 : decode cX11_sets 30 = .ok (.iadd, 1) := by decide +kernel
theorem dX11_sets_31 : decode cX11_sets 31 = .ok (.iaload, 1) := by decide +kernel
theorem dX11_sets_32 : decode cX11_sets 32 = .ok (.istore_n 3, 1) := by decide +kernel
theorem dX11_sets_33 : decode cX11_sets 33 = .ok (.iload_n 2, 1) := by decide +kernel
theorem dX11_sets_34 : decode cX11_sets 34 = .ok (.ifCond .ge 17, 3) := by decide +kernel
theorem dX11_sets_37 : decode cX11_sets 37 = .ok (.iload_n 3, 1) := by decide +kernel
theorem dX11_sets_38 : decode cX11_sets 38 = .ok (.bipush (-9), 2) := by decide +kernel
theorem dX11_sets_40 : decode cX11_sets 40 = .ok (.if_icmp .ne 7, 3) := by decide +kernel
theorem dX11_sets_43 : decode cX11_sets 43 = .ok (.iconst 1, 1) := by decide +kernel
theorem dX11_sets_44 : decode cX11_sets 44 = .ok (.goto 26, 3) := by decide +kernel
theorem dX11_sets_47 : decode cX11_sets 47 = .ok (.iconst 0, 1) := by decide +kernel
theorem dX11_sets_48 : decode cX11_sets 48 = .ok (.goto 22, 3) := by decide +kernel
theorem dX11_sets_51 : decode cX11_sets 51 = .ok (.iload_n 3, 1) := by decide +kernel
theorem dX11_sets_52 : decode cX11_sets 52 = .ok (.iload_n 2, 1) := by decide +kernel
theorem dX11_sets_53 : decode cX11_sets 53 = .ok (.if_icmp .eq 12, 3) := by decide +kernel
theorem dX11_sets_56 : decode cX11_sets 56 = .ok (.aload_n 0, 1) := by decide +kernel
theorem dX11_sets_57 : decode cX11_sets 57 = .ok (.iload_n 1, 1) := by decide +kernel
theorem dX11_sets_58 : decode cX11_sets 58 = .ok (.iload_n 2, 1) := by decide +kernel
theorem dX11_sets_59 : decode cX11_sets 59 = .ok (.invokevirtual 153, 3) := by decide +kernel
theorem dX11_sets_62 : decode cX11_sets 62 = .ok (.ifCond .ne 7, 3) := by decide +kernel
theorem dX11_sets_65 : decode cX11_sets 65 = .ok (.iconst 1, 1) := by decide +kernel
theorem dX11_sets_66 : decode cX11_sets 66 = .ok (.goto 4, 3) := by decide +kernel
theorem dX11_sets_69 : decode cX11_sets 69 = .ok (.iconst 0, 1) := by decide +kernel
theorem dX11_sets_70 : decode cX11_sets 70 = .ok (.istore 4, 2) := by decide +kernel
theorem dX11_sets_72 : decode cX11_sets 72 = .ok (.iload 4, 2) := by decide +kernel
theorem dX11_sets_74 : decode cX11_sets 74 = .ok (.ifCond .eq 6, 3) := by decide +kernel
theorem dX11_sets_77 : decode cX11_sets 77 = .ok (.bipush (-2), 2) := by decide +kernel
theorem dX11_sets_79 : decode cX11_sets 79 = .ok (.ireturn, 1) := by decide +kernel
theorem dX11_sets_80 : decode cX11_sets 80 = .ok (.aload_n 0, 1) := by decide +kernel
theorem dX11_sets_81 : decode cX11_sets 81 = .ok (.invokevirtual 168, 3) := by decide +kernel
theorem dX11_sets_84 : decode cX11_sets 84 = .ok (.aload_n 0, 1) := by decide +kernel
theorem dX11_sets_85 : decode cX11_sets 85 = .ok (.getfield 28, 3) := by decide +kernel
theorem dX11_sets_88 : decode cX11_sets 88 = .ok (.bipush 68, 2) := by decide +kernel
theorem dX11_sets_90 : decode cX11_sets 90 = .ok (.iload_n 1, 1) := by decide +kernel
theorem dX11_sets_91 : decode cX11_sets 91 = .ok (.iadd, 1) := by decide +kernel
theorem dX11_sets_92 : decode cX11_sets 92 = .ok (.iload_n 2, 1) := by decide +kernel
theorem dX11_sets_93 : decode cX11_sets 93 = .ok (.ifCond .ge 8, 3) := by decide +kernel
theorem dX11_sets_96 : decode cX11_sets 96 = .ok (.bipush (-9), 2) := by decide +kernel
theorem dX11_sets_98 : decode cX11_sets 98 = .ok (.goto 4, 3) := by decide +kernel
theorem dX11_sets_101 : decode cX11_sets 101 = .ok (.iload_n 2, 1) := by decide +kernel
theorem dX11_sets_102 : decode cX11_sets 102 = .ok (.iastore, 1) := by decide +kernel
theorem dX11_sets_103 : decode cX11_sets 103 = .ok (.iload_n 3, 1) := by decide +kernel
theorem dX11_sets_104 : decode cX11_sets 104 = .ok (.ireturn, 1) := by decide +kernel
theorem dX11_settles_0 : decode cX11_settles 0 = .ok (.aload_n 0, 1) := by decide +kernel
theorem dX11_settles_1 : decode cX11_settles 1 = .ok (.aload_n 0, 1) := by decide +kernel
theorem dX11_settles_2 : decode cX11_settles 2 = .ok (.getfield 112, 3) := by decide +kernel
theorem dX11_settles_5 : decode cX11_settles 5 = .ok (.putfield 68, 3) := by decide +kernel
theorem dX11_settles_8 : decode cX11_settles 8 = .ok (.aload_n 0, 1) := by decide +kernel
theorem dX11_settles_9 : decode cX11_settles 9 = .ok (.aload_n 0, 1) := by decide +kernel
theorem dX11_settles_10 : decode cX11_settles 10 = .ok (.getfield 119, 3) := by decide +kernel
theorem dX11_settles_13 : decode cX11_settles 13 = .ok (.putfield 76, 3) := by decide +kernel
theorem dX11_settles_16 : decode cX11_settles 16 = .ok (.iconst 0, 1) := by decide +kernel
theorem dX11_settles_17 : decode cX11_settles 17 = .ok (.istore_n 1, 1) := by decide +kernel
theorem dX11_settles_18 : decode cX11_settles 18 = .ok (.iload_n 1, 1) := by decide +kernel
theorem dX11_settles_19 : decode cX11_settles 19 = .ok (.sipush 815, 3) := by decide +kernel
theorem dX11_settles_22 : decode cX11_settles 22 = .ok (.if_icmp .ge 16, 3) := by decide +kernel
theorem dX11_settles_25 : decode cX11_settles 25 = .ok (.aload_n 0, 1) := by decide +kernel
theorem dX11_settles_26 : decode cX11_settles 26 = .ok (.getfield 28, 3) := by decide +kernel
theorem dX11_settles_29 : decode cX11_settles 29 = .ok (.iload_n 1, 1) := by decide +kernel
theorem dX11_settles_30 : decode cX11_settles 30 = .ok (.iconst 0, 1) := by decide +kernel
theorem dX11_settles_31 : decode cX11_settles 31 = .ok (.iastore, 1) := by decide +kernel
theorem dX11_settles_32 : decode cX11_settles 32 = .ok (.iinc 1 1, 3) := by decide +kernel
theorem dX11_settles_35 : decode cX11_settles 35 = .ok (.goto (-17), 3) := by decide +kernel
theorem dX11_settles_38 : decode cX11_settles 38 = .ok (.iconst 0, 1) := by decide +kernel
theorem dX11_settles_39 : decode cX11_settles 39 = .ok (.istore_n 1, 1) := by decide +kernel
theorem dX11_settles_40 : decode cX11_settles 40 = .ok (.iload_n 1, 1) := by decide +kernel
theorem dX11_settles_41 : decode cX11_settles 41 = .ok (.bipush 8, 2) := by decide +kernel
theorem dX11_settles_43 : decode cX11_settles 43 = .ok (.if_icmp .ge 57, 3) := by decide +kernel
theorem dX11_settles_46 : decode cX11_settles 46 = .ok (.aload_n 0, 1) := by decide +kernel
theorem dX11_settles_47 : decode cX11_settles 47 = .ok (.getfield 7, 3) := by decide +kernel
theorem dX11_settles_50 : decode cX11_settles 50 = .ok (.iload_n 1, 1) := by decide +kernel
theorem dX11_settles_51 : decode cX11_settles 51 = .ok (.aload_n 0, 1) := by decide +kernel
theorem dX11_settles_52 : decode cX11_settles 52 = .ok (.getfield 44, 3) := by decide +kernel
theorem dX11_settles_55 : decode cX11_settles 55 = .ok (.iload_n 1, 1) := by decide +kernel
theorem dX11_settles_56 : decode cX11_settles 56 = .ok (.iaload, 1) := by decide +kernel
theorem dX11_settles_57 : decode cX11_settles 57 = .ok (.iastore, 1) := by decide +kernel
theorem dX11_settles_58 : decode cX11_settles 58 = .ok (.aload_n 0, 1) := by decide +kernel
theorem dX11_settles_59 : decode cX11_settles 59 = .ok (.getfield 13, 3) := by decide +kernel
theorem dX11_settles_62 : decode cX11_settles 62 = .ok (.iload_n 1, 1) := by decide +kernel
theorem dX11_settles_63 : decode cX11_settles 63 = .ok (.aload_n 0, 1) := by decide +kernel
theorem dX11_settles_64 : decode cX11_settles 64 = .ok (.getfield 47, 3) := by decide +kernel
theorem dX11_settles_67 : decode cX11_settles 67 = .ok (.iload_n 1, 1) := by decide +kernel
theorem dX11_settles_68 : decode cX11_settles 68 = .ok (.iaload, 1) := by decide +kernel
theorem dX11_settles_69 : decode cX11_settles 69 = .ok (.iastore, 1) := by decide +kernel
theorem dX11_settles_70 : decode cX11_settles 70 = .ok (.aload_n 0, 1) := by decide +kernel
theorem dX11_settles_71 : decode cX11_settles 71 = .ok (.getfield 16, 3) := by decide +kernel
theorem dX11_settles_74 : decode cX11_settles 74 = .ok (.iload_n 1, 1) := by decide +kernel
theorem dX11_settles_75 : decode cX11_settles 75 = .ok (.aload_n 0, 1) := by decide +kernel
theorem dX11_settles_76 : decode cX11_settles 76 = .ok (.getfield 50, 3) := by decide +kernel
theorem dX11_settles_79 : decode cX11_settles 79 = .ok (.iload_n 1, 1) := by decide +kernel
theorem dX11_settles_80 : decode cX11_settles 80 = .ok (.iaload, 1) := by decide +kernel
theorem dX11_settles_81 : decode cX11_settles 81 = .ok (.iastore, 1) := by decide +kernel
theorem dX11_settles_82 : decode cX11_settles 82 = .ok (.aload_n 0, 1) := by decide +kernel
theorem dX11_settles_83 : decode cX11_settles 83 = .ok (.getfield 19, 3) := by decide +kernel
theorem dX11_settles_86 : decode cX11_settles 86 = .ok (.iload_n 1, 1) := by decide +kernel
theorem dX11_settles_87 : decode cX11_settles 87 = .ok (.aload_n 0, 1) := by decide +kernel
theorem dX11_settles_88 : decode cX11_settles 88 = .ok (.getfield 53, 3) := by decide +kernel
theorem dX11_settles_91 : decode cX11_settles 91 = .ok (.iload_n 1, 1) := by decide +kernel
theorem dX11_settles_92 : decode cX11_settles 92 = .ok (.iaload, 1) := by decide +kernel
theorem dX11_settles_93 : decode cX11_settles 93 = .ok (.iastore, 1) := by decide +kernel
theorem dX11_settles_94 : decode cX11_settles 94 = .ok (.iinc 1 1, 3) := by decide +kernel
theorem dX11_settles_97 : decode cX11_settles 97 = .ok (.goto (-57), 3) := by decide +kernel
theorem dX11_settles_100 : decode cX11_settles 100 = .ok (.iconst 0, 1) := by decide +kernel
theorem dX11_settles_101 : decode cX11_settles 101 = .ok (.istore_n 1, 1) := by decide +kernel
theorem dX11_settles_102 : decode cX11_settles 102 = .ok (.iload_n 1, 1) := by decide +kernel
theorem dX11_settles_103 : decode cX11_settles 103 = .ok (.bipush 6, 2) := by decide +kernel
theorem dX11_settles_105 : decode cX11_settles 105 = .ok (.if_icmp .ge 59, 3) := by decide +kernel
theorem dX11_settles_108 : decode cX11_settles 108 = .ok (.aload_n 0, 1) := by decide +kernel
theorem dX11_settles_109 : decode cX11_settles 109 = .ok (.getfield 22, 3) := by decide +kernel
theorem dX11_settles_112 : decode cX11_settles 112 = .ok (.iload_n 1, 1) := by decide +kernel
theorem dX11_settles_113 : decode cX11_settles 113 = .ok (.aload_n 0, 1) := by decide +kernel
theorem dX11_settles_114 : decode cX11_settles 114 = .ok (.getfield 56, 3) := by decide +kernel
theorem dX11_settles_117 : decode cX11_settles 117 = .ok (.iload_n 1, 1) := by decide +kernel
theorem dX11_settles_118 : decode cX11_settles 118 = .ok (.iaload, 1) := by decide +kernel
theorem dX11_settles_119 : decode cX11_settles 119 = .ok (.iastore, 1) := by decide +kernel
theorem dX11_settles_120 : decode cX11_settles 120 = .ok (.aload_n 0, 1) := by decide +kernel
theorem dX11_settles_121 : decode cX11_settles 121 = .ok (.getfield 25, 3) := by decide +kernel
theorem dX11_settles_124 : decode cX11_settles 124 = .ok (.iload_n 1, 1) := by decide +kernel
theorem dX11_settles_125 : decode cX11_settles 125 = .ok (.aload_n 0, 1) := by decide +kernel
theorem dX11_settles_126 : decode cX11_settles 126 = .ok (.getfield 59, 3) := by decide +kernel
theorem dX11_settles_129 : decode cX11_settles 129 = .ok (.iload_n 1, 1) := by decide +kernel
theorem dX11_settles_130 : decode cX11_settles 130 = .ok (.iaload, 1) := by decide +kernel
theorem dX11_settles_131 : decode cX11_settles 131 = .ok (.iastore, 1) := by decide +kernel
theorem dX11_settles_132 : decode cX11_settles 132 = .ok (.aload_n 0, 1) := by decide +kernel
theorem dX11_settles_133 : decode cX11_settles 133 = .ok (.getfield 28, 3) := by decide +kernel
theorem dX11_settles_136 : decode cX11_settles 136 = .ok (.bipush 55, 2) := by decide +kernel
theorem dX11_settles_138 : decode cX11_settles 138 = .ok (.iload_n 1, 1) := by decide +kernel
theorem dX11_settles_139 : decode cX11_settles 139 = .ok (.iadd, 1) := by decide +kernel
theorem dX11_settles_140 : decode cX11_settles 140 = .ok (.aload_n 0, 1) := by decide +kernel
theorem dX11_settles_141 : decode cX11_settles 141 = .ok (.getfield 62, 3) := by decide +kernel
theorem dX11_settles_144 : decode cX11_settles 144 = .ok (.iload_n 1, 1) := by decide +kernel
theorem dX11_settles_145 : decode cX11_settles 145 = .ok (.iaload, 1) := by decide +kernel
theorem dX11_settles_146 : decode cX11_settles 146 = .ok (.iastore, 1) := by decide +kernel
theorem dX11_settles_147 : decode cX11_settles 147 = .ok (.aload_n 0, 1) := by decide +kernel
theorem dX11_settles_148 : decode cX11_settles 148 = .ok (.getfield 28, 3) := by decide +kernel
theorem dX11_settles_151 : decode cX11_settles 151 = .ok (.bipush 68, 2) := by decide +kernel
theorem dX11_settles_153 : decode cX11_settles 153 = .ok (.iload_n 1, 1) := by decide +kernel
theorem dX11_settles_154 : decode cX11_settles 154 = .ok (.iadd, 1) := by decide +kernel
theorem dX11_settles_155 : decode cX11_settles 155 = .ok (.bipush (-9), 2) := by decide +kernel
theorem dX11_settles_157 : decode cX11_settles 157 = .ok (.iastore, 1) := by decide +kernel
theorem dX11_settles_158 : decode cX11_settles 158 = .ok (.iinc 1 1, 3) := by decide +kernel
theorem dX11_settles_161 : decode cX11_settles 161 = .ok (.goto (-59), 3) := by decide +kernel
theorem dX11_settles_164 : decode cX11_settles 164 = .ok (.aload_n 0, 1) := by decide +kernel
theorem dX11_settles_165 : decode cX11_settles 165 = .ok (.iconst 0, 1) := by decide +kernel
theorem dX11_settles_166 : decode cX11_settles 166 = .ok (.putfield 137, 3) := by decide +kernel
theorem dX11_settles_169 : decode cX11_settles 169 = .ok (.aload_n 0, 1) := by decide +kernel
theorem dX11_settles_170 : decode cX11_settles 170 = .ok (.getfield 34, 3) := by decide +kernel
theorem dX11_settles_173 : decode cX11_settles 173 = .ok (.iconst 0, 1) := by decide +kernel
theorem dX11_settles_174 : decode cX11_settles 174 = .ok (.iconst 0, 1) := by decide +kernel
theorem dX11_settles_175 : decode cX11_settles 175 = .ok (.bastore, 1) := by decide +kernel
theorem dX11_settles_176 : decode cX11_settles 176 = .ok (.aload_n 0, 1) := by decide +kernel
theorem dX11_settles_177 : decode cX11_settles 177 = .ok (.getfield 34, 3) := by decide +kernel
theorem dX11_settles_180 : decode cX11_settles 180 = .ok (.iconst 1, 1) := by decide +kernel
theorem dX11_settles_181 : decode cX11_settles 181 = .ok (.iconst 0, 1) := by decide +kernel
theorem dX11_settles_182 : decode cX11_settles 182 = .ok (.bastore, 1) := by decide +kernel
theorem dX11_settles_183 : decode cX11_settles 183 = .ok (.aload_n 0, 1) := by decide +kernel
theorem dX11_settles_184 : decode cX11_settles 184 = .ok (.iconst 0, 1) := by decide +kernel
theorem dX11_settles_185 : decode cX11_settles 185 = .ok (.putfield 79, 3) := by decide +kernel
theorem dX11_settles_188 : decode cX11_settles 188 = .ok (.return_, 1) := by decide +kernel
theorem dX11_takesNumber_0 : decode cX11_takesNumber 0 = .ok (.aload_n 0, 1) := by decide +kernel
theorem dX11_takesNumber_1 : decode cX11_takesNumber 1 = .ok (.getfield 105, 3) := by decide +kernel
theorem dX11_takesNumber_4 : decode cX11_takesNumber 4 = .ok (.ifCond .ne 27, 3) := by decide +kernel
theorem dX11_takesNumber_7 : decode cX11_takesNumber 7 = .ok (.aload_n 0, 1) := by decide +kernel
theorem dX11_takesNumber_8 : decode cX11_takesNumber 8 = .ok (.getfield 95, 3) := by decide +kernel
theorem dX11_takesNumber_11 : decode cX11_takesNumber 11 = .ok (.iconst 2, 1) := by decide +kernel
theorem dX11_takesNumber_12 : decode cX11_takesNumber 12 = .ok (.if_icmp .ne 19, 3) := by decide +kernel
theorem dX11_takesNumber_15 : decode cX11_takesNumber 15 = .ok (.aload_n 0, 1) := by decide +kernel
theorem dX11_takesNumber_16 : decode cX11_takesNumber 16 = .ok (.getfield 92, 3) := by decide +kernel
theorem dX11_takesNumber_19 : decode cX11_takesNumber 19 = .ok (.iload_n 1, 1) := by decide +kernel
theorem dX11_takesNumber_20 : decode cX11_takesNumber 20 = .ok (.iload_n 2, 1) := by decide +kernel
theorem dX11_takesNumber_21 : decode cX11_takesNumber 21 = .ok (.invokestatic 72, 3) := by decide +kernel
theorem dX11_takesNumber_24 : decode cX11_takesNumber 24 = .ok (.ifCond .eq 7, 3) := by decide +kernel
theorem dX11_takesNumber_27 : decode cX11_takesNumber 27 = .ok (.iconst 1, 1) := by decide +kernel
theorem dX11_takesNumber_28 : decode cX11_takesNumber 28 = .ok (.goto 4, 3) := by decide +kernel
theorem dX11_takesNumber_31 : decode cX11_takesNumber 31 = .ok (.iconst 0, 1) := by decide +kernel
theorem dX11_takesNumber_32 : decode cX11_takesNumber 32 = .ok (.istore_n 3, 1) := by decide +kernel
theorem dX11_takesNumber_33 : decode cX11_takesNumber 33 = .ok (.aload_n 0, 1) := by decide +kernel
theorem dX11_takesNumber_34 : decode cX11_takesNumber 34 = .ok (.iload_n 3, 1) := by decide +kernel
theorem dX11_takesNumber_35 : decode cX11_takesNumber 35 = .ok (.ifCond .ne 7, 3) := by decide +kernel
theorem dX11_takesNumber_38 : decode cX11_takesNumber 38 = .ok (.iconst 1, 1) := by decide +kernel
theorem dX11_takesNumber_39 : decode cX11_takesNumber 39 = .ok (.goto 4, 3) := by decide +kernel
theorem dX11_takesNumber_42 : decode cX11_takesNumber 42 = .ok (.iconst 0, 1) := by decide +kernel
theorem dX11_takesNumber_43 : decode cX11_takesNumber 43 = .ok (.putfield 105, 3) := by decide +kernel
theorem dX11_takesNumber_46 : decode cX11_takesNumber 46 = .ok (.aload_n 0, 1) := by decide +kernel
theorem dX11_takesNumber_47 : decode cX11_takesNumber 47 = .ok (.getfield 92, 3) := by decide +kernel
theorem dX11_takesNumber_50 : decode cX11_takesNumber 50 = .ok (.istore 4, 2) := by decide +kernel
theorem dX11_takesNumber_52 : decode cX11_takesNumber 52 = .ok (.iload_n 3, 1) := by decide +kernel
theorem dX11_takesNumber_53 : decode cX11_takesNumber 53 = .ok (.ifCond .eq 7, 3) := by decide +kernel
theorem dX11_takesNumber_56 : decode cX11_takesNumber 56 = .ok (.aload_n 0, 1) := by decide +kernel
theorem dX11_takesNumber_57 : decode cX11_takesNumber 57 = .ok (.invokevirtual 109, 3) := by decide +kernel
theorem dX11_takesNumber_60 : decode cX11_takesNumber 60 = .ok (.iload_n 3, 1) := by decide +kernel
theorem dX11_takesNumber_61 : decode cX11_takesNumber 61 = .ok (.ifCond .eq 8, 3) := by decide +kernel
theorem dX11_takesNumber_64 : decode cX11_takesNumber 64 = .ok (.iload 4, 2) := by decide +kernel
theorem dX11_takesNumber_66 : decode cX11_takesNumber 66 = .ok (.goto 4, 3) := by decide +kernel
theorem dX11_takesNumber_69 : decode cX11_takesNumber 69 = .ok (.iconst 0, 1) := by decide +kernel
theorem dX11_takesNumber_70 : decode cX11_takesNumber 70 = .ok (.ireturn, 1) := by decide +kernel
theorem dX11_thing_0 : decode cX11_thing 0 = .ok (.aload_n 0, 1) := by decide +kernel
theorem dX11_thing_1 : decode cX11_thing 1 = .ok (.iload_n 1, 1) := by decide +kernel
theorem dX11_thing_2 : decode cX11_thing 2 = .ok (.invokevirtual 156, 3) := by decide +kernel
theorem dX11_thing_5 : decode cX11_thing 5 = .ok (.ifCond .ne 5, 3) := by decide +kernel
theorem dX11_thing_8 : decode cX11_thing 8 = .ok (.iconst (-1), 1) := by decide +kernel
theorem dX11_thing_9 : decode cX11_thing 9 = .ok (.ireturn, 1) := by decide +kernel
theorem dX11_thing_10 : decode cX11_thing 10 = .ok (.iload_n 2, 1) := by decide +kernel
theorem dX11_thing_11 : decode cX11_thing 11 = .ok (.tableswitch 67 0 4 #[33, 40, 47, 54, 61], 33) := by decide +kernel
theorem dX11_thing_44 : decode cX11_thing 44 = .ok (.aload_n 0, 1) := by decide +kernel
theorem dX11_thing_45 : decode cX11_thing 45 = .ok (.getfield 7, 3) := by decide +kernel
theorem dX11_thing_48 : decode cX11_thing 48 = .ok (.iload_n 1, 1) := by decide +kernel
theorem dX11_thing_49 : decode cX11_thing 49 = .ok (.iaload, 1) := by decide +kernel
theorem dX11_thing_50 : decode cX11_thing 50 = .ok (.ireturn, 1) := by decide +kernel
theorem dX11_thing_51 : decode cX11_thing 51 = .ok (.aload_n 0, 1) := by decide +kernel
theorem dX11_thing_52 : decode cX11_thing 52 = .ok (.getfield 13, 3) := by decide +kernel
theorem dX11_thing_55 : decode cX11_thing 55 = .ok (.iload_n 1, 1) := by decide +kernel
theorem dX11_thing_56 : decode cX11_thing 56 = .ok (.iaload, 1) := by decide +kernel
theorem dX11_thing_57 : decode cX11_thing 57 = .ok (.ireturn, 1) := by decide +kernel
theorem dX11_thing_58 : decode cX11_thing 58 = .ok (.aload_n 0, 1) := by decide +kernel
theorem dX11_thing_59 : decode cX11_thing 59 = .ok (.getfield 16, 3) := by decide +kernel
theorem dX11_thing_62 : decode cX11_thing 62 = .ok (.iload_n 1, 1) := by decide +kernel
theorem dX11_thing_63 : decode cX11_thing 63 = .ok (.iaload, 1) := by decide +kernel
theorem dX11_thing_64 : decode cX11_thing 64 = .ok (.ireturn, 1) := by decide +kernel
theorem dX11_thing_65 : decode cX11_thing 65 = .ok (.aload_n 0, 1) := by decide +kernel
theorem dX11_thing_66 : decode cX11_thing 66 = .ok (.getfield 19, 3) := by decide +kernel
theorem dX11_thing_69 : decode cX11_thing 69 = .ok (.iload_n 1, 1) := by decide +kernel
theorem dX11_thing_70 : decode cX11_thing 70 = .ok (.iaload, 1) := by decide +kernel
theorem dX11_thing_71 : decode cX11_thing 71 = .ok (.ireturn, 1) := by decide +kernel
theorem dX11_thing_72 : decode cX11_thing 72 = .ok (.aload_n 0, 1) := by decide +kernel
theorem dX11_thing_73 : decode cX11_thing 73 = .ok (.iload_n 1, 1) := by decide +kernel
theorem dX11_thing_74 : decode cX11_thing 74 = .ok (.invokevirtual 159, 3) := by decide +kernel
theorem dX11_thing_77 : decode cX11_thing 77 = .ok (.ireturn, 1) := by decide +kernel
theorem dX11_thing_78 : decode cX11_thing 78 = .ok (.iconst (-1), 1) := by decide +kernel
theorem dX11_thing_79 : decode cX11_thing 79 = .ok (.ireturn, 1) := by decide +kernel
theorem dX11_trace_0 : decode cX11_trace 0 = .ok (.aload_n 0, 1) := by decide +kernel
theorem dX11_trace_1 : decode cX11_trace 1 = .ok (.getfield 226, 3) := by decide +kernel
theorem dX11_trace_4 : decode cX11_trace 4 = .ok (.lreturn, 1) := by decide +kernel
theorem dX11_tree_0 : decode cX11_tree 0 = .ok (.iconst 1, 1) := by decide +kernel
theorem dX11_tree_1 : decode cX11_tree 1 = .ok (.istore_n 1, 1) := by decide +kernel
theorem dX11_tree_2 : decode cX11_tree 2 = .ok (.iconst 0, 1) := by decide +kernel
theorem dX11_tree_3 : decode cX11_tree 3 = .ok (.istore_n 2, 1) := by decide +kernel
theorem dX11_tree_4 : decode cX11_tree 4 = .ok (.iconst 1, 1) := by decide +kernel
theorem dX11_tree_5 : decode cX11_tree 5 = .ok (.istore_n 3, 1) := by decide +kernel
theorem dX11_tree_6 : decode cX11_tree 6 = .ok (.iload_n 3, 1) := by decide +kernel
theorem dX11_tree_7 : decode cX11_tree 7 = .ok (.aload_n 0, 1) := by decide +kernel
theorem dX11_tree_8 : decode cX11_tree 8 = .ok (.getfield 76, 3) := by decide +kernel
theorem dX11_tree_11 : decode cX11_tree 11 = .ok (.if_icmp .ge 136, 3) := by decide +kernel
theorem dX11_tree_14 : decode cX11_tree 14 = .ok (.bipush 99, 2) := by decide +kernel
theorem dX11_tree_16 : decode cX11_tree 16 = .ok (.istore 4, 2) := by decide +kernel
theorem dX11_tree_18 : decode cX11_tree 18 = .ok (.iconst 0, 1) := by decide +kernel
theorem dX11_tree_19 : decode cX11_tree 19 = .ok (.istore 5, 2) := by decide +kernel
theorem dX11_tree_21 : decode cX11_tree 21 = .ok (.iconst 0, 1) := by decide +kernel
theorem dX11_tree_22 : decode cX11_tree 22 = .ok (.istore 6, 2) := by decide +kernel
theorem dX11_tree_24 : decode cX11_tree 24 = .ok (.iload 6, 2) := by decide +kernel
theorem dX11_tree_26 : decode cX11_tree 26 = .ok (.aload_n 0, 1) := by decide +kernel
theorem dX11_tree_27 : decode cX11_tree 27 = .ok (.getfield 76, 3) := by decide +kernel
theorem dX11_tree_30 : decode cX11_tree 30 = .ok (.if_icmp .ge 99, 3) := by decide +kernel
theorem dX11_tree_33 : decode cX11_tree 33 = .ok (.iconst 0, 1) := by decide +kernel
theorem dX11_tree_34 : decode cX11_tree 34 = .ok (.istore 7, 2) := by decide +kernel
theorem dX11_tree_36 : decode cX11_tree 36 = .ok (.iload 7, 2) := by decide +kernel
theorem dX11_tree_38 : decode cX11_tree 38 = .ok (.aload_n 0, 1) := by decide +kernel
theorem dX11_tree_39 : decode cX11_tree 39 = .ok (.getfield 76, 3) := by decide +kernel
theorem dX11_tree_42 : decode cX11_tree 42 = .ok (.if_icmp .ge 81, 3) := by decide +kernel
theorem dX11_tree_45 : decode cX11_tree 45 = .ok (.iload_n 1, 1) := by decide +kernel
theorem dX11_tree_46 : decode cX11_tree 46 = .ok (.iload 6, 2) := by decide +kernel
theorem dX11_tree_48 : decode cX11_tree 48 = .ok (.invokestatic 140, 3) := by decide +kernel
theorem dX11_tree_51 : decode cX11_tree 51 = .ok (.ifCond .eq 29, 3) := by decide +kernel
theorem dX11_tree_54 : decode cX11_tree 54 = .ok (.iload_n 1, 1) := by decide +kernel
theorem dX11_tree_55 : decode cX11_tree 55 = .ok (.iload 7, 2) := by decide +kernel
theorem dX11_tree_57 : decode cX11_tree 57 = .ok (.invokestatic 140, 3) := by decide +kernel
theorem dX11_tree_60 : decode cX11_tree 60 = .ok (.ifCond .ne 20, 3) := by decide +kernel
theorem dX11_tree_63 : decode cX11_tree 63 = .ok (.aload_n 0, 1) := by decide +kernel
theorem dX11_tree_64 : decode cX11_tree 64 = .ok (.iload 6, 2) := by decide +kernel
theorem dX11_tree_66 : decode cX11_tree 66 = .ok (.iload 7, 2) := by decide +kernel
theorem dX11_tree_68 : decode cX11_tree 68 = .ok (.invokevirtual 215, 3) := by decide +kernel
theorem dX11_tree_71 : decode cX11_tree 71 = .ok (.iload 4, 2) := by decide +kernel
theorem dX11_tree_73 : decode cX11_tree 73 = .ok (.if_icmp .ge 7, 3) := by decide +kernel
theorem dX11_tree_76 : decode cX11_tree 76 = .ok (.iconst 1, 1) := by decide +kernel
theorem dX11_tree_77 : decode cX11_tree 77 = .ok (.goto 4, 3) := by decide +kernel
theorem dX11_tree_80 : decode cX11_tree 80 = .ok (.iconst 0, 1) := by decide +kernel
theorem dX11_tree_81 : decode cX11_tree 81 = .ok (.istore 8, 2) := by decide +kernel
theorem dX11_tree_83 : decode cX11_tree 83 = .ok (.iload 8, 2) := by decide +kernel
theorem dX11_tree_85 : decode cX11_tree 85 = .ok (.ifCond .eq 8, 3) := by decide +kernel
theorem dX11_tree_88 : decode cX11_tree 88 = .ok (.iload 7, 2) := by decide +kernel
theorem dX11_tree_90 : decode cX11_tree 90 = .ok (.goto 5, 3) := by decide +kernel
theorem dX11_tree_93 : decode cX11_tree 93 = .ok (.iload 5, 2) := by decide +kernel
theorem dX11_tree_95 : decode cX11_tree 95 = .ok (.istore 5, 2) := by decide +kernel
theorem dX11_tree_97 : decode cX11_tree 97 = .ok (.iload 8, 2) := by decide +kernel
theorem dX11_tree_99 : decode cX11_tree 99 = .ok (.ifCond .eq 14, 3) := by decide +kernel
theorem dX11_tree_102 : decode cX11_tree 102 = .ok (.aload_n 0, 1) := by decide +kernel
theorem dX11_tree_103 : decode cX11_tree 103 = .ok (.iload 6, 2) := by decide +kernel
theorem dX11_tree_105 : decode cX11_tree 105 = .ok (.iload 7, 2) := by decide +kernel
theorem dX11_tree_107 : decode cX11_tree 107 = .ok (.invokevirtual 215, 3) := by decide +kernel
theorem dX11_tree_110 : decode cX11_tree 110 = .ok (.goto 5, 3) := by decide +kernel
theorem dX11_tree_113 : decode cX11_tree 113 = .ok (.iload 4, 2) := by decide +kernel
theorem dX11_tree_115 : decode cX11_tree 115 = .ok (.istore 4, 2) := by decide +kernel
theorem dX11_tree_117 : decode cX11_tree 117 = .ok (.iinc 7 1, 3) := by decide +kernel
theorem dX11_tree_120 : decode cX11_tree 120 = .ok (.goto (-84), 3) := by decide +kernel
theorem dX11_tree_123 : decode cX11_tree 123 = .ok (.iinc 6 1, 3) := by decide +kernel
theorem dX11_tree_126 : decode cX11_tree 126 = .ok (.goto (-102), 3) := by decide +kernel
theorem dX11_tree_129 : decode cX11_tree 129 = .ok (.iload_n 1, 1) := by decide +kernel
theorem dX11_tree_130 : decode cX11_tree 130 = .ok (.iconst 1, 1) := by decide +kernel
theorem dX11_tree_131 : decode cX11_tree 131 = .ok (.iload 5, 2) := by decide +kernel
theorem dX11_tree_133 : decode cX11_tree 133 = .ok (.ishl, 1) := by decide +kernel
theorem dX11_tree_134 : decode cX11_tree 134 = .ok (.ior, 1) := by decide +kernel
theorem dX11_tree_135 : decode cX11_tree 135 = .ok (.istore_n 1, 1) := by decide +kernel
theorem dX11_tree_136 : decode cX11_tree 136 = .ok (.iload_n 2, 1) := by decide +kernel
theorem dX11_tree_137 : decode cX11_tree 137 = .ok (.iload 4, 2) := by decide +kernel
theorem dX11_tree_139 : decode cX11_tree 139 = .ok (.iadd, 1) := by decide +kernel
theorem dX11_tree_140 : decode cX11_tree 140 = .ok (.istore_n 2, 1) := by decide +kernel
theorem dX11_tree_141 : decode cX11_tree 141 = .ok (.iinc 3 1, 3) := by decide +kernel
theorem dX11_tree_144 : decode cX11_tree 144 = .ok (.goto (-138), 3) := by decide +kernel
theorem dX11_tree_147 : decode cX11_tree 147 = .ok (.iload_n 2, 1) := by decide +kernel
theorem dX11_tree_148 : decode cX11_tree 148 = .ok (.ireturn, 1) := by decide +kernel
theorem dX11_type_0 : decode cX11_type 0 = .ok (.iload_n 1, 1) := by decide +kernel
theorem dX11_type_1 : decode cX11_type 1 = .ok (.iconst 0, 1) := by decide +kernel
theorem dX11_type_2 : decode cX11_type 2 = .ok (.sipush 255, 3) := by decide +kernel
theorem dX11_type_5 : decode cX11_type 5 = .ok (.invokestatic 72, 3) := by decide +kernel
theorem dX11_type_8 : decode cX11_type 8 = .ok (.ifCond .ne 5, 3) := by decide +kernel
theorem dX11_type_11 : decode cX11_type 11 = .ok (.iconst (-1), 1) := by decide +kernel
theorem dX11_type_12 : decode cX11_type 12 = .ok (.ireturn, 1) := by decide +kernel
theorem dX11_type_13 : decode cX11_type 13 = .ok (.aload_n 0, 1) := by decide +kernel
theorem dX11_type_14 : decode cX11_type 14 = .ok (.getfield 79, 3) := by decide +kernel
theorem dX11_type_17 : decode cX11_type 17 = .ok (.sipush 150, 3) := by decide +kernel
theorem dX11_type_20 : decode cX11_type 20 = .ok (.if_icmp .ne 6, 3) := by decide +kernel
theorem dX11_type_23 : decode cX11_type 23 = .ok (.bipush (-3), 2) := by decide +kernel
theorem dX11_type_25 : decode cX11_type 25 = .ok (.ireturn, 1) := by decide +kernel
theorem dX11_type_26 : decode cX11_type 26 = .ok (.aload_n 0, 1) := by decide +kernel
theorem dX11_type_27 : decode cX11_type 27 = .ok (.getfield 41, 3) := by decide +kernel
theorem dX11_type_30 : decode cX11_type 30 = .ok (.aload_n 0, 1) := by decide +kernel
theorem dX11_type_31 : decode cX11_type 31 = .ok (.getfield 79, 3) := by decide +kernel
theorem dX11_type_34 : decode cX11_type 34 = .ok (.iload_n 1, 1) := by decide +kernel
theorem dX11_type_35 : decode cX11_type 35 = .ok (.iastore, 1) := by decide +kernel
theorem dX11_type_36 : decode cX11_type 36 = .ok (.aload_n 0, 1) := by decide +kernel
theorem dX11_type_37 : decode cX11_type 37 = .ok (.dup, 1) := by decide +kernel
theorem dX11_type_38 : decode cX11_type 38 = .ok (.getfield 79, 3) := by decide +kernel
theorem dX11_type_41 : decode cX11_type 41 = .ok (.iconst 1, 1) := by decide +kernel
theorem dX11_type_42 : decode cX11_type 42 = .ok (.iadd, 1) := by decide +kernel
theorem dX11_type_43 : decode cX11_type 43 = .ok (.putfield 79, 3) := by decide +kernel
theorem dX11_type_46 : decode cX11_type 46 = .ok (.aload_n 0, 1) := by decide +kernel
theorem dX11_type_47 : decode cX11_type 47 = .ok (.getfield 79, 3) := by decide +kernel
theorem dX11_type_50 : decode cX11_type 50 = .ok (.ireturn, 1) := by decide +kernel
theorem dX11_undo_0 : decode cX11_undo 0 = .ok (.aload_n 0, 1) := by decide +kernel
theorem dX11_undo_1 : decode cX11_undo 1 = .ok (.getfield 28, 3) := by decide +kernel
theorem dX11_undo_4 : decode cX11_undo 4 = .ok (.bipush 74, 2) := by decide +kernel
theorem dX11_undo_6 : decode cX11_undo 6 = .ok (.iaload, 1) := by decide +kernel
theorem dX11_undo_7 : decode cX11_undo 7 = .ok (.ifCond .ne 6, 3) := by decide +kernel
theorem dX11_undo_10 : decode cX11_undo 10 = .ok (.bipush (-2), 2) := by decide +kernel
theorem dX11_undo_12 : decode cX11_undo 12 = .ok (.ireturn, 1) := by decide +kernel
theorem dX11_undo_13 : decode cX11_undo 13 = .ok (.aload_n 0, 1) := by decide +kernel
theorem dX11_undo_14 : decode cX11_undo 14 = .ok (.getfield 28, 3) := by decide +kernel
theorem dX11_undo_17 : decode cX11_undo 17 = .ok (.bipush 74, 2) := by decide +kernel
theorem dX11_undo_19 : decode cX11_undo 19 = .ok (.dup2, 1) := by decide +kernel
theorem dX11_undo_20 : decode cX11_undo 20 = .ok (.iaload, 1) := by decide +kernel
theorem dX11_undo_21 : decode cX11_undo 21 = .ok (.iconst 1, 1) := by decide +kernel
theorem dX11_undo_22 : decode cX11_undo 22 = .ok (.isub, 1) := by decide +kernel
theorem dX11_undo_23 : decode cX11_undo 23 = .ok (.iastore, 1) := by decide +kernel
theorem dX11_undo_24 : decode cX11_undo 24 = .ok (.bipush 75, 2) := by decide +kernel
theorem dX11_undo_26 : decode cX11_undo 26 = .ok (.bipush 74, 2) := by decide +kernel
theorem dX11_undo_28 : decode cX11_undo 28 = .ok (.aload_n 0, 1) := by decide +kernel
theorem dX11_undo_29 : decode cX11_undo 29 = .ok (.getfield 28, 3) := by decide +kernel
theorem dX11_undo_32 : decode cX11_undo 32 = .ok (.bipush 74, 2) := by decide +kernel
theorem dX11_undo_34 : decode cX11_undo 34 = .ok (.iaload, 1) := by decide +kernel
theorem dX11_undo_35 : decode cX11_undo 35 = .ok (.imul, 1) := by decide +kernel
theorem dX11_undo_36 : decode cX11_undo 36 = .ok (.iadd, 1) := by decide +kernel
theorem dX11_undo_37 : decode cX11_undo 37 = .ok (.istore_n 1, 1) := by decide +kernel
theorem dX11_undo_38 : decode cX11_undo 38 = .ok (.iconst 0, 1) := by decide +kernel
theorem dX11_undo_39 : decode cX11_undo 39 = .ok (.istore_n 2, 1) := by decide +kernel
theorem dX11_undo_40 : decode cX11_undo 40 = .ok (.iload_n 2, 1) := by decide +kernel
theorem dX11_undo_41 : decode cX11_undo 41 = .ok (.bipush 74, 2) := by decide +kernel
theorem dX11_undo_43 : decode cX11_undo 43 = .ok (.if_icmp .ge 23, 3) := by decide +kernel
theorem dX11_undo_46 : decode cX11_undo 46 = .ok (.aload_n 0, 1) := by decide +kernel
theorem dX11_undo_47 : decode cX11_undo 47 = .ok (.getfield 28, 3) := by decide +kernel
theorem dX11_undo_50 : decode cX11_undo 50 = .ok (.iload_n 2, 1) := by decide +kernel
theorem dX11_undo_51 : decode cX11_undo 51 = .ok (.aload_n 0, 1) := by decide +kernel
theorem dX11_undo_52 : decode cX11_undo 52 = .ok (.getfield 28, 3) := by decide +kernel
theorem dX11_undo_55 : decode cX11_undo 55 = .ok (.iload_n 1, 1) := by decide +kernel
theorem dX11_undo_56 : decode cX11_undo 56 = .ok (.iload_n 2, 1) := by decide +kernel
theorem dX11_undo_57 : decode cX11_undo 57 = .ok (.iadd, 1) := by decide +kernel
theorem dX11_undo_58 : decode cX11_undo 58 = .ok (.iaload, 1) := by decide +kernel
theorem dX11_undo_59 : decode cX11_undo 59 = .ok (.iastore, 1) := by decide +kernel
theorem dX11_undo_60 : decode cX11_undo 60 = .ok (.iinc 2 1, 3) := by decide +kernel
theorem dX11_undo_63 : decode cX11_undo 63 = .ok (.goto (-23), 3) := by decide +kernel
theorem dX11_undo_66 : decode cX11_undo 66 = .ok (.aload_n 0, 1) := by decide +kernel
theorem dX11_undo_67 : decode cX11_undo 67 = .ok (.getfield 28, 3) := by decide +kernel
theorem dX11_undo_70 : decode cX11_undo 70 = .ok (.bipush 74, 2) := by decide +kernel
theorem dX11_undo_72 : decode cX11_undo 72 = .ok (.iaload, 1) := by decide +kernel
theorem dX11_undo_73 : decode cX11_undo 73 = .ok (.ireturn, 1) := by decide +kernel
theorem dX11_wanted_0 : decode cX11_wanted 0 = .ok (.iconst 1, 1) := by decide +kernel
theorem dX11_wanted_1 : decode cX11_wanted 1 = .ok (.iload_n 2, 1) := by decide +kernel
theorem dX11_wanted_2 : decode cX11_wanted 2 = .ok (.ishl, 1) := by decide +kernel
theorem dX11_wanted_3 : decode cX11_wanted 3 = .ok (.istore_n 3, 1) := by decide +kernel
theorem dX11_wanted_4 : decode cX11_wanted 4 = .ok (.iload_n 2, 1) := by decide +kernel
theorem dX11_wanted_5 : decode cX11_wanted 5 = .ok (.istore 4, 2) := by decide +kernel
theorem dX11_wanted_7 : decode cX11_wanted 7 = .ok (.iload 4, 2) := by decide +kernel
theorem dX11_wanted_9 : decode cX11_wanted 9 = .ok (.ifCond .lt 44, 3) := by decide +kernel
theorem dX11_wanted_12 : decode cX11_wanted 12 = .ok (.iload_n 3, 1) := by decide +kernel
theorem dX11_wanted_13 : decode cX11_wanted 13 = .ok (.iload_n 3, 1) := by decide +kernel
theorem dX11_wanted_14 : decode cX11_wanted 14 = .ok (.iload 4, 2) := by decide +kernel
theorem dX11_wanted_16 : decode cX11_wanted 16 = .ok (.invokestatic 140, 3) := by decide +kernel
theorem dX11_wanted_19 : decode cX11_wanted 19 = .ok (.ifCond .eq 25, 3) := by decide +kernel
theorem dX11_wanted_22 : decode cX11_wanted 22 = .ok (.aload_n 0, 1) := by decide +kernel
theorem dX11_wanted_23 : decode cX11_wanted 23 = .ok (.getfield 19, 3) := by decide +kernel
theorem dX11_wanted_26 : decode cX11_wanted 26 = .ok (.iload 4, 2) := by decide +kernel
theorem dX11_wanted_28 : decode cX11_wanted 28 = .ok (.iaload, 1) := by decide +kernel
theorem dX11_wanted_29 : decode cX11_wanted 29 = .ok (.aload_n 0, 1) := by decide +kernel
theorem dX11_wanted_30 : decode cX11_wanted 30 = .ok (.getfield 28, 3) := by decide +kernel
theorem dX11_wanted_33 : decode cX11_wanted 33 = .ok (.bipush 49, 2) := by decide +kernel
theorem dX11_wanted_35 : decode cX11_wanted 35 = .ok (.iload_n 1, 1) := by decide +kernel
theorem dX11_wanted_36 : decode cX11_wanted 36 = .ok (.iadd, 1) := by decide +kernel
theorem dX11_wanted_37 : decode cX11_wanted 37 = .ok (.iaload, 1) := by decide +kernel
theorem dX11_wanted_38 : decode cX11_wanted 38 = .ok (.iconst (-1), 1) := by decide +kernel
theorem dX11_wanted_39 : decode cX11_wanted 39 = .ok (.ixor, 1) := by decide +kernel
theorem dX11_wanted_40 : decode cX11_wanted 40 = .ok (.iand, 1) := by decide +kernel
theorem dX11_wanted_41 : decode cX11_wanted 41 = .ok (.goto 4, 3) := by decide +kernel
theorem dX11_wanted_44 : decode cX11_wanted 44 = .ok (.iconst 0, 1) := by decide +kernel
theorem dX11_wanted_45 : decode cX11_wanted 45 = .ok (.ior, 1) := by decide +kernel
theorem dX11_wanted_46 : decode cX11_wanted 46 = .ok (.istore_n 3, 1) := by decide +kernel
theorem dX11_wanted_47 : decode cX11_wanted 47 = .ok (.iinc 4 (-1), 3) := by decide +kernel
theorem dX11_wanted_50 : decode cX11_wanted 50 = .ok (.goto (-43), 3) := by decide +kernel
theorem dX11_wanted_53 : decode cX11_wanted 53 = .ok (.iload_n 3, 1) := by decide +kernel
theorem dX11_wanted_54 : decode cX11_wanted 54 = .ok (.ireturn, 1) := by decide +kernel
end
section
theorem dX11_who_0 : decode cX11_who 0 = .ok (.iconst 0, 1) := by decide +kernel
theorem dX11_who_1 : decode cX11_who 1 = .ok (.istore_n 1, 1) := by decide +kernel
theorem dX11_who_2 : decode cX11_who 2 = .ok (.iconst 0, 1) := by decide +kernel
theorem dX11_who_3 : decode cX11_who 3 = .ok (.istore_n 2, 1) := by decide +kernel
theorem dX11_who_4 : decode cX11_who 4 = .ok (.iload_n 2, 1) := by decide +kernel
theorem dX11_who_5 : decode cX11_who 5 = .ok (.aload_n 0, 1) := by decide +kernel
theorem dX11_who_6 : decode cX11_who 6 = .ok (.getfield 76, 3) := by decide +kernel
theorem dX11_who_9 : decode cX11_who 9 = .ok (.if_icmp .ge 90, 3) := by decide +kernel
theorem dX11_who_12 : decode cX11_who 12 = .ok (.iconst 1, 1) := by decide +kernel
theorem dX11_who_13 : decode cX11_who 13 = .ok (.istore_n 3, 1) := by decide +kernel
theorem dX11_who_14 : decode cX11_who 14 = .ok (.iconst 0, 1) := by decide +kernel
theorem dX11_who_15 : decode cX11_who 15 = .ok (.istore 4, 2) := by decide +kernel
theorem dX11_who_17 : decode cX11_who 17 = .ok (.iload 4, 2) := by decide +kernel
theorem dX11_who_19 : decode cX11_who 19 = .ok (.aload_n 0, 1) := by decide +kernel
theorem dX11_who_20 : decode cX11_who 20 = .ok (.getfield 137, 3) := by decide +kernel
theorem dX11_who_23 : decode cX11_who 23 = .ok (.if_icmp .ge 56, 3) := by decide +kernel
theorem dX11_who_26 : decode cX11_who 26 = .ok (.iload_n 3, 1) := by decide +kernel
theorem dX11_who_27 : decode cX11_who 27 = .ok (.ifCond .eq 44, 3) := by decide +kernel
theorem dX11_who_30 : decode cX11_who 30 = .ok (.aload_n 0, 1) := by decide +kernel
theorem dX11_who_31 : decode cX11_who 31 = .ok (.iload_n 2, 1) := by decide +kernel
theorem dX11_who_32 : decode cX11_who 32 = .ok (.aload_n 0, 1) := by decide +kernel
theorem dX11_who_33 : decode cX11_who 33 = .ok (.getfield 38, 3) := by decide +kernel
theorem dX11_who_36 : decode cX11_who 36 = .ok (.iconst 2, 1) := by decide +kernel
theorem dX11_who_37 : decode cX11_who 37 = .ok (.iload 4, 2) := by decide +kernel
theorem dX11_who_39 : decode cX11_who 39 = .ok (.imul, 1) := by decide +kernel
theorem dX11_who_40 : decode cX11_who 40 = .ok (.iaload, 1) := by decide +kernel
theorem dX11_who_41 : decode cX11_who 41 = .ok (.invokevirtual 147, 3) := by decide +kernel
theorem dX11_who_44 : decode cX11_who 44 = .ok (.aload_n 0, 1) := by decide +kernel
theorem dX11_who_45 : decode cX11_who 45 = .ok (.getfield 38, 3) := by decide +kernel
theorem dX11_who_48 : decode cX11_who 48 = .ok (.iconst 2, 1) := by decide +kernel
theorem dX11_who_49 : decode cX11_who 49 = .ok (.iload 4, 2) := by decide +kernel
theorem dX11_who_51 : decode cX11_who 51 = .ok (.imul, 1) := by decide +kernel
theorem dX11_who_52 : decode cX11_who 52 = .ok (.iconst 1, 1) := by decide +kernel
theorem dX11_who_53 : decode cX11_who 53 = .ok (.iadd, 1) := by decide +kernel
theorem dX11_who_54 : decode cX11_who 54 = .ok (.iaload, 1) := by decide +kernel
theorem dX11_who_55 : decode cX11_who 55 = .ok (.iconst 1, 1) := by decide +kernel
theorem dX11_who_56 : decode cX11_who 56 = .ok (.if_icmp .ne 7, 3) := by decide +kernel
theorem dX11_who_59 : decode cX11_who 59 = .ok (.iconst 1, 1) := by decide +kernel
theorem dX11_who_60 : decode cX11_who 60 = .ok (.goto 4, 3) := by decide +kernel
theorem dX11_who_63 : decode cX11_who 63 = .ok (.iconst 0, 1) := by decide +kernel
theorem dX11_who_64 : decode cX11_who 64 = .ok (.if_icmp .ne 7, 3) := by decide +kernel
theorem dX11_who_67 : decode cX11_who 67 = .ok (.iconst 1, 1) := by decide +kernel
theorem dX11_who_68 : decode cX11_who 68 = .ok (.goto 4, 3) := by decide +kernel
theorem dX11_who_71 : decode cX11_who 71 = .ok (.iconst 0, 1) := by decide +kernel
theorem dX11_who_72 : decode cX11_who 72 = .ok (.istore_n 3, 1) := by decide +kernel
theorem dX11_who_73 : decode cX11_who 73 = .ok (.iinc 4 1, 3) := by decide +kernel
theorem dX11_who_76 : decode cX11_who 76 = .ok (.goto (-59), 3) := by decide +kernel
theorem dX11_who_79 : decode cX11_who 79 = .ok (.iload_n 1, 1) := by decide +kernel
theorem dX11_who_80 : decode cX11_who 80 = .ok (.iload_n 3, 1) := by decide +kernel
theorem dX11_who_81 : decode cX11_who 81 = .ok (.ifCond .eq 9, 3) := by decide +kernel
theorem dX11_who_84 : decode cX11_who 84 = .ok (.iconst 1, 1) := by decide +kernel
theorem dX11_who_85 : decode cX11_who 85 = .ok (.iload_n 2, 1) := by decide +kernel
theorem dX11_who_86 : decode cX11_who 86 = .ok (.ishl, 1) := by decide +kernel
theorem dX11_who_87 : decode cX11_who 87 = .ok (.goto 4, 3) := by decide +kernel
theorem dX11_who_90 : decode cX11_who 90 = .ok (.iconst 0, 1) := by decide +kernel
theorem dX11_who_91 : decode cX11_who 91 = .ok (.ior, 1) := by decide +kernel
theorem dX11_who_92 : decode cX11_who 92 = .ok (.istore_n 1, 1) := by decide +kernel
theorem dX11_who_93 : decode cX11_who 93 = .ok (.iinc 2 1, 3) := by decide +kernel
theorem dX11_who_96 : decode cX11_who 96 = .ok (.goto (-92), 3) := by decide +kernel
theorem dX11_who_99 : decode cX11_who 99 = .ok (.iload_n 1, 1) := by decide +kernel
theorem dX11_who_100 : decode cX11_who 100 = .ok (.ireturn, 1) := by decide +kernel
theorem dX11_whoCan_0 : decode cX11_whoCan 0 = .ok (.iconst 0, 1) := by decide +kernel
theorem dX11_whoCan_1 : decode cX11_whoCan 1 = .ok (.istore_n 2, 1) := by decide +kernel
theorem dX11_whoCan_2 : decode cX11_whoCan 2 = .ok (.iconst 0, 1) := by decide +kernel
theorem dX11_whoCan_3 : decode cX11_whoCan 3 = .ok (.istore_n 3, 1) := by decide +kernel
theorem dX11_whoCan_4 : decode cX11_whoCan 4 = .ok (.iload_n 3, 1) := by decide +kernel
theorem dX11_whoCan_5 : decode cX11_whoCan 5 = .ok (.aload_n 0, 1) := by decide +kernel
theorem dX11_whoCan_6 : decode cX11_whoCan 6 = .ok (.getfield 76, 3) := by decide +kernel
theorem dX11_whoCan_9 : decode cX11_whoCan 9 = .ok (.if_icmp .ge 28, 3) := by decide +kernel
theorem dX11_whoCan_12 : decode cX11_whoCan 12 = .ok (.iload_n 2, 1) := by decide +kernel
theorem dX11_whoCan_13 : decode cX11_whoCan 13 = .ok (.aload_n 0, 1) := by decide +kernel
theorem dX11_whoCan_14 : decode cX11_whoCan 14 = .ok (.iload_n 3, 1) := by decide +kernel
theorem dX11_whoCan_15 : decode cX11_whoCan 15 = .ok (.iload_n 1, 1) := by decide +kernel
theorem dX11_whoCan_16 : decode cX11_whoCan 16 = .ok (.invokevirtual 147, 3) := by decide +kernel
theorem dX11_whoCan_19 : decode cX11_whoCan 19 = .ok (.ifCond .eq 9, 3) := by decide +kernel
theorem dX11_whoCan_22 : decode cX11_whoCan 22 = .ok (.iconst 1, 1) := by decide +kernel
theorem dX11_whoCan_23 : decode cX11_whoCan 23 = .ok (.iload_n 3, 1) := by decide +kernel
theorem dX11_whoCan_24 : decode cX11_whoCan 24 = .ok (.ishl, 1) := by decide +kernel
theorem dX11_whoCan_25 : decode cX11_whoCan 25 = .ok (.goto 4, 3) := by decide +kernel
theorem dX11_whoCan_28 : decode cX11_whoCan 28 = .ok (.iconst 0, 1) := by decide +kernel
theorem dX11_whoCan_29 : decode cX11_whoCan 29 = .ok (.ior, 1) := by decide +kernel
theorem dX11_whoCan_30 : decode cX11_whoCan 30 = .ok (.istore_n 2, 1) := by decide +kernel
theorem dX11_whoCan_31 : decode cX11_whoCan 31 = .ok (.iinc 3 1, 3) := by decide +kernel
theorem dX11_whoCan_34 : decode cX11_whoCan 34 = .ok (.goto (-30), 3) := by decide +kernel
theorem dX11_whoCan_37 : decode cX11_whoCan 37 = .ok (.iload_n 2, 1) := by decide +kernel
theorem dX11_whoCan_38 : decode cX11_whoCan 38 = .ok (.ireturn, 1) := by decide +kernel
theorem dX1_add_0 : decode cX1_add 0 = .ok (.aload_n 0, 1) := by decide +kernel
theorem dX1_add_1 : decode cX1_add 1 = .ok (.getfield 11, 3) := by decide +kernel
theorem dX1_add_4 : decode cX1_add 4 = .ok (.aload_n 0, 1) := by decide +kernel
theorem dX1_add_5 : decode cX1_add 5 = .ok (.getfield 22, 3) := by decide +kernel
theorem dX1_add_8 : decode cX1_add 8 = .ok (.iload_n 1, 1) := by decide +kernel
theorem dX1_add_9 : decode cX1_add 9 = .ok (.iastore, 1) := by decide +kernel
theorem dX1_add_10 : decode cX1_add 10 = .ok (.aload_n 0, 1) := by decide +kernel
theorem dX1_add_11 : decode cX1_add 11 = .ok (.getfield 15, 3) := by decide +kernel
theorem dX1_add_14 : decode cX1_add 14 = .ok (.aload_n 0, 1) := by decide +kernel
theorem dX1_add_15 : decode cX1_add 15 = .ok (.getfield 22, 3) := by decide +kernel
theorem dX1_add_18 : decode cX1_add 18 = .ok (.iload_n 2, 1) := by decide +kernel
theorem dX1_add_19 : decode cX1_add 19 = .ok (.iastore, 1) := by decide +kernel
theorem dX1_add_20 : decode cX1_add 20 = .ok (.aload_n 0, 1) := by decide +kernel
theorem dX1_add_21 : decode cX1_add 21 = .ok (.dup, 1) := by decide +kernel
theorem dX1_add_22 : decode cX1_add 22 = .ok (.getfield 22, 3) := by decide +kernel
theorem dX1_add_25 : decode cX1_add 25 = .ok (.iconst 1, 1) := by decide +kernel
theorem dX1_add_26 : decode cX1_add 26 = .ok (.iadd, 1) := by decide +kernel
theorem dX1_add_27 : decode cX1_add 27 = .ok (.putfield 22, 3) := by decide +kernel
theorem dX1_add_30 : decode cX1_add 30 = .ok (.return_, 1) := by decide +kernel
theorem dX1_bestQuestion_0 : decode cX1_bestQuestion 0 = .ok (.aload_n 0, 1) := by decide +kernel
theorem dX1_bestQuestion_1 : decode cX1_bestQuestion 1 = .ok (.invokevirtual 41, 3) := by decide +kernel
theorem dX1_bestQuestion_4 : decode cX1_bestQuestion 4 = .ok (.istore_n 1, 1) := by decide +kernel
theorem dX1_bestQuestion_5 : decode cX1_bestQuestion 5 = .ok (.iload_n 1, 1) := by decide +kernel
theorem dX1_bestQuestion_6 : decode cX1_bestQuestion 6 = .ok (.invokestatic 45, 3) := by decide +kernel
theorem dX1_bestQuestion_9 : decode cX1_bestQuestion 9 = .ok (.istore_n 2, 1) := by decide +kernel
theorem dX1_bestQuestion_10 : decode cX1_bestQuestion 10 = .ok (.bipush (-9), 2) := by decide +kernel
theorem dX1_bestQuestion_12 : decode cX1_bestQuestion 12 = .ok (.istore_n 3, 1) := by decide +kernel
theorem dX1_bestQuestion_13 : decode cX1_bestQuestion 13 = .ok (.iload_n 2, 1) := by decide +kernel
theorem dX1_bestQuestion_14 : decode cX1_bestQuestion 14 = .ok (.istore 4, 2) := by decide +kernel
theorem dX1_bestQuestion_16 : decode cX1_bestQuestion 16 = .ok (.iconst 0, 1) := by decide +kernel
theorem dX1_bestQuestion_17 : decode cX1_bestQuestion 17 = .ok (.istore 5, 2) := by decide +kernel
theorem dX1_bestQuestion_19 : decode cX1_bestQuestion 19 = .ok (.iload 5, 2) := by decide +kernel
theorem dX1_bestQuestion_21 : decode cX1_bestQuestion 21 = .ok (.aload_n 0, 1) := by decide +kernel
theorem dX1_bestQuestion_22 : decode cX1_bestQuestion 22 = .ok (.getfield 18, 3) := by decide +kernel
theorem dX1_bestQuestion_25 : decode cX1_bestQuestion 25 = .ok (.getfield 26, 3) := by decide +kernel
theorem dX1_bestQuestion_28 : decode cX1_bestQuestion 28 = .ok (.getfield 50, 3) := by decide +kernel
theorem dX1_bestQuestion_31 : decode cX1_bestQuestion 31 = .ok (.if_icmp .ge 50, 3) := by decide +kernel
theorem dX1_bestQuestion_34 : decode cX1_bestQuestion 34 = .ok (.iload_n 1, 1) := by decide +kernel
theorem dX1_bestQuestion_35 : decode cX1_bestQuestion 35 = .ok (.aload_n 0, 1) := by decide +kernel
theorem dX1_bestQuestion_36 : decode cX1_bestQuestion 36 = .ok (.getfield 18, 3) := by decide +kernel
theorem dX1_bestQuestion_39 : decode cX1_bestQuestion 39 = .ok (.iload 5, 2) := by decide +kernel
theorem dX1_bestQuestion_41 : decode cX1_bestQuestion 41 = .ok (.invokevirtual 37, 3) := by decide +kernel
theorem dX1_bestQuestion_44 : decode cX1_bestQuestion 44 = .ok (.iand, 1) := by decide +kernel
theorem dX1_bestQuestion_45 : decode cX1_bestQuestion 45 = .ok (.invokestatic 45, 3) := by decide +kernel
theorem dX1_bestQuestion_48 : decode cX1_bestQuestion 48 = .ok (.istore 6, 2) := by decide +kernel
theorem dX1_bestQuestion_50 : decode cX1_bestQuestion 50 = .ok (.iload 6, 2) := by decide +kernel
theorem dX1_bestQuestion_52 : decode cX1_bestQuestion 52 = .ok (.iload_n 2, 1) := by decide +kernel
theorem dX1_bestQuestion_53 : decode cX1_bestQuestion 53 = .ok (.iload 6, 2) := by decide +kernel
theorem dX1_bestQuestion_55 : decode cX1_bestQuestion 55 = .ok (.isub, 1) := by decide +kernel
theorem dX1_bestQuestion_56 : decode cX1_bestQuestion 56 = .ok (.invokestatic 52, 3) := by decide +kernel
theorem dX1_bestQuestion_59 : decode cX1_bestQuestion 59 = .ok (.istore 7, 2) := by decide +kernel
theorem dX1_bestQuestion_61 : decode cX1_bestQuestion 61 = .ok (.iload 7, 2) := by decide +kernel
theorem dX1_bestQuestion_63 : decode cX1_bestQuestion 63 = .ok (.iload 4, 2) := by decide +kernel
theorem dX1_bestQuestion_65 : decode cX1_bestQuestion 65 = .ok (.if_icmp .ge 10, 3) := by decide +kernel
theorem dX1_bestQuestion_68 : decode cX1_bestQuestion 68 = .ok (.iload 5, 2) := by decide +kernel
theorem dX1_bestQuestion_70 : decode cX1_bestQuestion 70 = .ok (.istore_n 3, 1) := by decide +kernel
theorem dX1_bestQuestion_71 : decode cX1_bestQuestion 71 = .ok (.iload 7, 2) := by decide +kernel
theorem dX1_bestQuestion_73 : decode cX1_bestQuestion 73 = .ok (.istore 4, 2) := by decide +kernel
theorem dX1_bestQuestion_75 : decode cX1_bestQuestion 75 = .ok (.iinc 5 1, 3) := by decide +kernel
theorem dX1_bestQuestion_78 : decode cX1_bestQuestion 78 = .ok (.goto (-59), 3) := by decide +kernel
theorem dX1_bestQuestion_81 : decode cX1_bestQuestion 81 = .ok (.iload_n 3, 1) := by decide +kernel
theorem dX1_bestQuestion_82 : decode cX1_bestQuestion 82 = .ok (.ireturn, 1) := by decide +kernel
theorem dX1_init_0 : decode cX1_init 0 = .ok (.aload_n 0, 1) := by decide +kernel
theorem dX1_init_1 : decode cX1_init 1 = .ok (.invokespecial 3, 3) := by decide +kernel
theorem dX1_init_4 : decode cX1_init 4 = .ok (.aload_n 0, 1) := by decide +kernel
theorem dX1_init_5 : decode cX1_init 5 = .ok (.bipush 6, 2) := by decide +kernel
theorem dX1_init_7 : decode cX1_init 7 = .ok (.newarray .int, 2) := by decide +kernel
theorem dX1_init_9 : decode cX1_init 9 = .ok (.putfield 11, 3) := by decide +kernel
theorem dX1_init_12 : decode cX1_init 12 = .ok (.aload_n 0, 1) := by decide +kernel
theorem dX1_init_13 : decode cX1_init 13 = .ok (.bipush 6, 2) := by decide +kernel
theorem dX1_init_15 : decode cX1_init 15 = .ok (.newarray .int, 2) := by decide +kernel
theorem dX1_init_17 : decode cX1_init 17 = .ok (.putfield 15, 3) := by decide +kernel
theorem dX1_init_20 : decode cX1_init 20 = .ok (.aload_n 0, 1) := by decide +kernel
theorem dX1_init_21 : decode cX1_init 21 = .ok (.aload_n 1, 1) := by decide +kernel
theorem dX1_init_22 : decode cX1_init 22 = .ok (.putfield 18, 3) := by decide +kernel
theorem dX1_init_25 : decode cX1_init 25 = .ok (.return_, 1) := by decide +kernel
theorem dX1_suspects_0 : decode cX1_suspects 0 = .ok (.iconst 1, 1) := by decide +kernel
theorem dX1_suspects_1 : decode cX1_suspects 1 = .ok (.aload_n 0, 1) := by decide +kernel
theorem dX1_suspects_2 : decode cX1_suspects 2 = .ok (.getfield 18, 3) := by decide +kernel
theorem dX1_suspects_5 : decode cX1_suspects 5 = .ok (.getfield 26, 3) := by decide +kernel
theorem dX1_suspects_8 : decode cX1_suspects 8 = .ok (.getfield 32, 3) := by decide +kernel
theorem dX1_suspects_11 : decode cX1_suspects 11 = .ok (.ishl, 1) := by decide +kernel
theorem dX1_suspects_12 : decode cX1_suspects 12 = .ok (.iconst 1, 1) := by decide +kernel
theorem dX1_suspects_13 : decode cX1_suspects 13 = .ok (.isub, 1) := by decide +kernel
theorem dX1_suspects_14 : decode cX1_suspects 14 = .ok (.istore_n 1, 1) := by decide +kernel
theorem dX1_suspects_15 : decode cX1_suspects 15 = .ok (.iconst 0, 1) := by decide +kernel
theorem dX1_suspects_16 : decode cX1_suspects 16 = .ok (.istore_n 2, 1) := by decide +kernel
theorem dX1_suspects_17 : decode cX1_suspects 17 = .ok (.iload_n 2, 1) := by decide +kernel
theorem dX1_suspects_18 : decode cX1_suspects 18 = .ok (.aload_n 0, 1) := by decide +kernel
theorem dX1_suspects_19 : decode cX1_suspects 19 = .ok (.getfield 22, 3) := by decide +kernel
theorem dX1_suspects_22 : decode cX1_suspects 22 = .ok (.if_icmp .ge 43, 3) := by decide +kernel
theorem dX1_suspects_25 : decode cX1_suspects 25 = .ok (.aload_n 0, 1) := by decide +kernel
theorem dX1_suspects_26 : decode cX1_suspects 26 = .ok (.getfield 18, 3) := by decide +kernel
theorem dX1_suspects_29 : decode cX1_suspects 29 = .ok (.aload_n 0, 1) := by decide +kernel
theorem dX1_suspects_30 : decode cX1_suspects 30 = .ok (.getfield 11, 3) := by decide +kernel
theorem dX1_suspects_33 : decode cX1_suspects 33 = .ok (.iload_n 2, 1) := by decide +kernel
theorem dX1_suspects_34 : decode cX1_suspects 34 = .ok (.iaload, 1) := by decide +kernel
theorem dX1_suspects_35 : decode cX1_suspects 35 = .ok (.invokevirtual 37, 3) := by decide +kernel
theorem dX1_suspects_38 : decode cX1_suspects 38 = .ok (.istore_n 3, 1) := by decide +kernel
theorem dX1_suspects_39 : decode cX1_suspects 39 = .ok (.iload_n 1, 1) := by decide +kernel
theorem dX1_suspects_40 : decode cX1_suspects 40 = .ok (.aload_n 0, 1) := by decide +kernel
theorem dX1_suspects_41 : decode cX1_suspects 41 = .ok (.getfield 15, 3) := by decide +kernel
theorem dX1_suspects_44 : decode cX1_suspects 44 = .ok (.iload_n 2, 1) := by decide +kernel
theorem dX1_suspects_45 : decode cX1_suspects 45 = .ok (.iaload, 1) := by decide +kernel
theorem dX1_suspects_46 : decode cX1_suspects 46 = .ok (.iconst 1, 1) := by decide +kernel
theorem dX1_suspects_47 : decode cX1_suspects 47 = .ok (.if_icmp .ne 7, 3) := by decide +kernel
theorem dX1_suspects_50 : decode cX1_suspects 50 = .ok (.iload_n 3, 1) := by decide +kernel
theorem dX1_suspects_51 : decode cX1_suspects 51 = .ok (.goto 6, 3) := by decide +kernel
theorem dX1_suspects_54 : decode cX1_suspects 54 = .ok (.iload_n 3, 1) := by decide +kernel
theorem dX1_suspects_55 : decode cX1_suspects 55 = .ok (.iconst (-1), 1) := by decide +kernel
theorem dX1_suspects_56 : decode cX1_suspects 56 = .ok (.ixor, 1) := by decide +kernel
theorem dX1_suspects_57 : decode cX1_suspects 57 = .ok (.iand, 1) := by decide +kernel
theorem dX1_suspects_58 : decode cX1_suspects 58 = .ok (.istore_n 1, 1) := by decide +kernel
theorem dX1_suspects_59 : decode cX1_suspects 59 = .ok (.iinc 2 1, 3) := by decide +kernel
theorem dX1_suspects_62 : decode cX1_suspects 62 = .ok (.goto (-45), 3) := by decide +kernel
theorem dX1_suspects_65 : decode cX1_suspects 65 = .ok (.iload_n 1, 1) := by decide +kernel
theorem dX1_suspects_66 : decode cX1_suspects 66 = .ok (.ireturn, 1) := by decide +kernel
theorem dX2_give_0 : decode cX2_give 0 = .ok (.aload_n 1, 1) := by decide +kernel
theorem dX2_give_1 : decode cX2_give 1 = .ok (.aload_n 0, 1) := by decide +kernel
theorem dX2_give_2 : decode cX2_give 2 = .ok (.getfield 9, 3) := by decide +kernel
theorem dX2_give_5 : decode cX2_give 5 = .ok (.iconst 0, 1) := by decide +kernel
theorem dX2_give_6 : decode cX2_give 6 = .ok (.invokevirtual 34, 3) := by decide +kernel
theorem dX2_give_9 : decode cX2_give 9 = .ok (.aload_n 2, 1) := by decide +kernel
theorem dX2_give_10 : decode cX2_give 10 = .ok (.aload_n 0, 1) := by decide +kernel
theorem dX2_give_11 : decode cX2_give 11 = .ok (.getfield 18, 3) := by decide +kernel
theorem dX2_give_14 : decode cX2_give 14 = .ok (.invokevirtual 26, 3) := by decide +kernel
theorem dX2_give_17 : decode cX2_give 17 = .ok (.return_, 1) := by decide +kernel
theorem dX2_init_0 : decode cX2_init 0 = .ok (.aload_n 0, 1) := by decide +kernel
theorem dX2_init_1 : decode cX2_init 1 = .ok (.invokespecial 1, 3) := by decide +kernel
theorem dX2_init_4 : decode cX2_init 4 = .ok (.aload_n 0, 1) := by decide +kernel
theorem dX2_init_5 : decode cX2_init 5 = .ok (.bipush 74, 2) := by decide +kernel
theorem dX2_init_7 : decode cX2_init 7 = .ok (.newarray .int, 2) := by decide +kernel
theorem dX2_init_9 : decode cX2_init 9 = .ok (.putfield 9, 3) := by decide +kernel
theorem dX2_init_12 : decode cX2_init 12 = .ok (.aload_n 0, 1) := by decide +kernel
theorem dX2_init_13 : decode cX2_init 13 = .ok (.new 15, 3) := by decide +kernel
theorem dX2_init_16 : decode cX2_init 16 = .ok (.dup, 1) := by decide +kernel
theorem dX2_init_17 : decode cX2_init 17 = .ok (.invokespecial 17, 3) := by decide +kernel
theorem dX2_init_20 : decode cX2_init 20 = .ok (.putfield 18, 3) := by decide +kernel
theorem dX2_init_23 : decode cX2_init 23 = .ok (.return_, 1) := by decide +kernel
theorem dX2_take_0 : decode cX2_take 0 = .ok (.aload_n 1, 1) := by decide +kernel
theorem dX2_take_1 : decode cX2_take 1 = .ok (.aload_n 0, 1) := by decide +kernel
theorem dX2_take_2 : decode cX2_take 2 = .ok (.getfield 9, 3) := by decide +kernel
theorem dX2_take_5 : decode cX2_take 5 = .ok (.iconst 0, 1) := by decide +kernel
theorem dX2_take_6 : decode cX2_take 6 = .ok (.invokevirtual 22, 3) := by decide +kernel
theorem dX2_take_9 : decode cX2_take 9 = .ok (.aload_n 0, 1) := by decide +kernel
theorem dX2_take_10 : decode cX2_take 10 = .ok (.getfield 18, 3) := by decide +kernel
theorem dX2_take_13 : decode cX2_take 13 = .ok (.aload_n 2, 1) := by decide +kernel
theorem dX2_take_14 : decode cX2_take 14 = .ok (.invokevirtual 26, 3) := by decide +kernel
theorem dX2_take_17 : decode cX2_take 17 = .ok (.aload_n 0, 1) := by decide +kernel
theorem dX2_take_18 : decode cX2_take 18 = .ok (.iconst 1, 1) := by decide +kernel
theorem dX2_take_19 : decode cX2_take 19 = .ok (.putfield 30, 3) := by decide +kernel
theorem dX2_take_22 : decode cX2_take 22 = .ok (.return_, 1) := by decide +kernel
theorem dX3_asApollo_0 : decode cX3_asApollo 0 = .ok (.aload_n 0, 1) := by decide +kernel
theorem dX3_asApollo_1 : decode cX3_asApollo 1 = .ok (.dup, 1) := by decide +kernel
theorem dX3_asApollo_2 : decode cX3_asApollo 2 = .ok (.getfield 32, 3) := by decide +kernel
theorem dX3_asApollo_5 : decode cX3_asApollo 5 = .ok (.ldc2_w 48, 3) := by decide +kernel
theorem dX3_asApollo_8 : decode cX3_asApollo 8 = .ok (.ladd, 1) := by decide +kernel
theorem dX3_asApollo_9 : decode cX3_asApollo 9 = .ok (.putfield 32, 3) := by decide +kernel
theorem dX3_asApollo_12 : decode cX3_asApollo 12 = .ok (.aload_n 0, 1) := by decide +kernel
theorem dX3_asApollo_13 : decode cX3_asApollo 13 = .ok (.iload_n 1, 1) := by decide +kernel
theorem dX3_asApollo_14 : decode cX3_asApollo 14 = .ok (.invokevirtual 29, 3) := by decide +kernel
theorem dX3_asApollo_17 : decode cX3_asApollo 17 = .ok (.aload_n 0, 1) := by decide +kernel
theorem dX3_asApollo_18 : decode cX3_asApollo 18 = .ok (.getfield 7, 3) := by decide +kernel
theorem dX3_asApollo_21 : decode cX3_asApollo 21 = .ok (.getfield 36, 3) := by decide +kernel
theorem dX3_asApollo_24 : decode cX3_asApollo 24 = .ok (.getfield 50, 3) := by decide +kernel
theorem dX3_asApollo_27 : decode cX3_asApollo 27 = .ok (.iload_n 1, 1) := by decide +kernel
theorem dX3_asApollo_28 : decode cX3_asApollo 28 = .ok (.iaload, 1) := by decide +kernel
theorem dX3_asApollo_29 : decode cX3_asApollo 29 = .ok (.invokestatic 53, 3) := by decide +kernel
theorem dX3_asApollo_32 : decode cX3_asApollo 32 = .ok (.iadd, 1) := by decide +kernel
theorem dX3_asApollo_33 : decode cX3_asApollo 33 = .ok (.ireturn, 1) := by decide +kernel
theorem dX3_asCast_0 : decode cX3_asCast 0 = .ok (.aload_n 0, 1) := by decide +kernel
theorem dX3_asCast_1 : decode cX3_asCast 1 = .ok (.dup, 1) := by decide +kernel
theorem dX3_asCast_2 : decode cX3_asCast 2 = .ok (.getfield 32, 3) := by decide +kernel
theorem dX3_asCast_5 : decode cX3_asCast 5 = .ok (.lconst 1, 1) := by decide +kernel
theorem dX3_asCast_6 : decode cX3_asCast 6 = .ok (.ladd, 1) := by decide +kernel
theorem dX3_asCast_7 : decode cX3_asCast 7 = .ok (.putfield 32, 3) := by decide +kernel
theorem dX3_asCast_10 : decode cX3_asCast 10 = .ok (.aload_n 0, 1) := by decide +kernel
theorem dX3_asCast_11 : decode cX3_asCast 11 = .ok (.getfield 7, 3) := by decide +kernel
theorem dX3_asCast_14 : decode cX3_asCast 14 = .ok (.getfield 36, 3) := by decide +kernel
theorem dX3_asCast_17 : decode cX3_asCast 17 = .ok (.getfield 42, 3) := by decide +kernel
theorem dX3_asCast_20 : decode cX3_asCast 20 = .ok (.iload_n 1, 1) := by decide +kernel
theorem dX3_asCast_21 : decode cX3_asCast 21 = .ok (.iaload, 1) := by decide +kernel
theorem dX3_asCast_22 : decode cX3_asCast 22 = .ok (.ireturn, 1) := by decide +kernel
theorem dX3_asKind_0 : decode cX3_asKind 0 = .ok (.iload_n 1, 1) := by decide +kernel
theorem dX3_asKind_1 : decode cX3_asKind 1 = .ok (.tableswitch 65 1 5 #[35, 41, 47, 53, 59], 35) := by decide +kernel
theorem dX3_asKind_36 : decode cX3_asKind 36 = .ok (.aload_n 0, 1) := by decide +kernel
theorem dX3_asKind_37 : decode cX3_asKind 37 = .ok (.iload_n 2, 1) := by decide +kernel
theorem dX3_asKind_38 : decode cX3_asKind 38 = .ok (.invokevirtual 13, 3) := by decide +kernel
theorem dX3_asKind_41 : decode cX3_asKind 41 = .ok (.ireturn, 1) := by decide +kernel
theorem dX3_asKind_42 : decode cX3_asKind 42 = .ok (.aload_n 0, 1) := by decide +kernel
theorem dX3_asKind_43 : decode cX3_asKind 43 = .ok (.iload_n 2, 1) := by decide +kernel
theorem dX3_asKind_44 : decode cX3_asKind 44 = .ok (.invokevirtual 17, 3) := by decide +kernel
theorem dX3_asKind_47 : decode cX3_asKind 47 = .ok (.ireturn, 1) := by decide +kernel
theorem dX3_asKind_48 : decode cX3_asKind 48 = .ok (.aload_n 0, 1) := by decide +kernel
theorem dX3_asKind_49 : decode cX3_asKind 49 = .ok (.iload_n 2, 1) := by decide +kernel
theorem dX3_asKind_50 : decode cX3_asKind 50 = .ok (.invokevirtual 20, 3) := by decide +kernel
theorem dX3_asKind_53 : decode cX3_asKind 53 = .ok (.ireturn, 1) := by decide +kernel
theorem dX3_asKind_54 : decode cX3_asKind 54 = .ok (.aload_n 0, 1) := by decide +kernel
theorem dX3_asKind_55 : decode cX3_asKind 55 = .ok (.iload_n 2, 1) := by decide +kernel
theorem dX3_asKind_56 : decode cX3_asKind 56 = .ok (.invokevirtual 23, 3) := by decide +kernel
theorem dX3_asKind_59 : decode cX3_asKind 59 = .ok (.ireturn, 1) := by decide +kernel
theorem dX3_asKind_60 : decode cX3_asKind 60 = .ok (.aload_n 0, 1) := by decide +kernel
theorem dX3_asKind_61 : decode cX3_asKind 61 = .ok (.iload_n 2, 1) := by decide +kernel
theorem dX3_asKind_62 : decode cX3_asKind 62 = .ok (.invokevirtual 26, 3) := by decide +kernel
theorem dX3_asKind_65 : decode cX3_asKind 65 = .ok (.ireturn, 1) := by decide +kernel
theorem dX3_asKind_66 : decode cX3_asKind 66 = .ok (.aload_n 0, 1) := by decide +kernel
theorem dX3_asKind_67 : decode cX3_asKind 67 = .ok (.iload_n 2, 1) := by decide +kernel
theorem dX3_asKind_68 : decode cX3_asKind 68 = .ok (.invokevirtual 29, 3) := by decide +kernel
theorem dX3_asKind_71 : decode cX3_asKind 71 = .ok (.ireturn, 1) := by decide +kernel
theorem dX3_asLoan_0 : decode cX3_asLoan 0 = .ok (.aload_n 0, 1) := by decide +kernel
theorem dX3_asLoan_1 : decode cX3_asLoan 1 = .ok (.dup, 1) := by decide +kernel
theorem dX3_asLoan_2 : decode cX3_asLoan 2 = .ok (.getfield 32, 3) := by decide +kernel
theorem dX3_asLoan_5 : decode cX3_asLoan 5 = .ok (.ldc2_w 67, 3) := by decide +kernel
theorem dX3_asLoan_8 : decode cX3_asLoan 8 = .ok (.ladd, 1) := by decide +kernel
theorem dX3_asLoan_9 : decode cX3_asLoan 9 = .ok (.putfield 32, 3) := by decide +kernel
theorem dX3_asLoan_12 : decode cX3_asLoan 12 = .ok (.aload_n 0, 1) := by decide +kernel
theorem dX3_asLoan_13 : decode cX3_asLoan 13 = .ok (.iload_n 1, 1) := by decide +kernel
theorem dX3_asLoan_14 : decode cX3_asLoan 14 = .ok (.invokevirtual 29, 3) := by decide +kernel
theorem dX3_asLoan_17 : decode cX3_asLoan 17 = .ok (.aload_n 0, 1) := by decide +kernel
theorem dX3_asLoan_18 : decode cX3_asLoan 18 = .ok (.getfield 7, 3) := by decide +kernel
theorem dX3_asLoan_21 : decode cX3_asLoan 21 = .ok (.getfield 36, 3) := by decide +kernel
theorem dX3_asLoan_24 : decode cX3_asLoan 24 = .ok (.getfield 69, 3) := by decide +kernel
theorem dX3_asLoan_27 : decode cX3_asLoan 27 = .ok (.iadd, 1) := by decide +kernel
theorem dX3_asLoan_28 : decode cX3_asLoan 28 = .ok (.ireturn, 1) := by decide +kernel
theorem dX3_asMuse_0 : decode cX3_asMuse 0 = .ok (.aload_n 0, 1) := by decide +kernel
theorem dX3_asMuse_1 : decode cX3_asMuse 1 = .ok (.dup, 1) := by decide +kernel
theorem dX3_asMuse_2 : decode cX3_asMuse 2 = .ok (.getfield 32, 3) := by decide +kernel
theorem dX3_asMuse_5 : decode cX3_asMuse 5 = .ok (.ldc2_w 65, 3) := by decide +kernel
theorem dX3_asMuse_8 : decode cX3_asMuse 8 = .ok (.ladd, 1) := by decide +kernel
theorem dX3_asMuse_9 : decode cX3_asMuse 9 = .ok (.putfield 32, 3) := by decide +kernel
theorem dX3_asMuse_12 : decode cX3_asMuse 12 = .ok (.aload_n 0, 1) := by decide +kernel
theorem dX3_asMuse_13 : decode cX3_asMuse 13 = .ok (.iload_n 1, 1) := by decide +kernel
theorem dX3_asMuse_14 : decode cX3_asMuse 14 = .ok (.invokevirtual 17, 3) := by decide +kernel
theorem dX3_asMuse_17 : decode cX3_asMuse 17 = .ok (.iload_n 1, 1) := by decide +kernel
theorem dX3_asMuse_18 : decode cX3_asMuse 18 = .ok (.iadd, 1) := by decide +kernel
theorem dX3_asMuse_19 : decode cX3_asMuse 19 = .ok (.ireturn, 1) := by decide +kernel
theorem dX3_asThrower_0 : decode cX3_asThrower 0 = .ok (.aload_n 0, 1) := by decide +kernel
theorem dX3_asThrower_1 : decode cX3_asThrower 1 = .ok (.dup, 1) := by decide +kernel
theorem dX3_asThrower_2 : decode cX3_asThrower 2 = .ok (.getfield 32, 3) := by decide +kernel
theorem dX3_asThrower_5 : decode cX3_asThrower 5 = .ok (.ldc2_w 63, 3) := by decide +kernel
theorem dX3_asThrower_8 : decode cX3_asThrower 8 = .ok (.ladd, 1) := by decide +kernel
theorem dX3_asThrower_9 : decode cX3_asThrower 9 = .ok (.putfield 32, 3) := by decide +kernel
theorem dX3_asThrower_12 : decode cX3_asThrower 12 = .ok (.aload_n 0, 1) := by decide +kernel
theorem dX3_asThrower_13 : decode cX3_asThrower 13 = .ok (.iload_n 1, 1) := by decide +kernel
theorem dX3_asThrower_14 : decode cX3_asThrower 14 = .ok (.invokevirtual 13, 3) := by decide +kernel
theorem dX3_asThrower_17 : decode cX3_asThrower 17 = .ok (.iconst 2, 1) := by decide +kernel
theorem dX3_asThrower_18 : decode cX3_asThrower 18 = .ok (.imul, 1) := by decide +kernel
theorem dX3_asThrower_19 : decode cX3_asThrower 19 = .ok (.ireturn, 1) := by decide +kernel
theorem dX3_asVenus_0 : decode cX3_asVenus 0 = .ok (.aload_n 0, 1) := by decide +kernel
theorem dX3_asVenus_1 : decode cX3_asVenus 1 = .ok (.dup, 1) := by decide +kernel
theorem dX3_asVenus_2 : decode cX3_asVenus 2 = .ok (.getfield 32, 3) := by decide +kernel
theorem dX3_asVenus_5 : decode cX3_asVenus 5 = .ok (.ldc2_w 58, 3) := by decide +kernel
theorem dX3_asVenus_8 : decode cX3_asVenus 8 = .ok (.ladd, 1) := by decide +kernel
theorem dX3_asVenus_9 : decode cX3_asVenus 9 = .ok (.putfield 32, 3) := by decide +kernel
theorem dX3_asVenus_12 : decode cX3_asVenus 12 = .ok (.aload_n 0, 1) := by decide +kernel
theorem dX3_asVenus_13 : decode cX3_asVenus 13 = .ok (.iload_n 1, 1) := by decide +kernel
theorem dX3_asVenus_14 : decode cX3_asVenus 14 = .ok (.invokevirtual 29, 3) := by decide +kernel
theorem dX3_asVenus_17 : decode cX3_asVenus 17 = .ok (.aload_n 0, 1) := by decide +kernel
theorem dX3_asVenus_18 : decode cX3_asVenus 18 = .ok (.getfield 7, 3) := by decide +kernel
theorem dX3_asVenus_21 : decode cX3_asVenus 21 = .ok (.getfield 36, 3) := by decide +kernel
theorem dX3_asVenus_24 : decode cX3_asVenus 24 = .ok (.getfield 60, 3) := by decide +kernel
theorem dX3_asVenus_27 : decode cX3_asVenus 27 = .ok (.iload_n 1, 1) := by decide +kernel
theorem dX3_asVenus_28 : decode cX3_asVenus 28 = .ok (.iaload, 1) := by decide +kernel
theorem dX3_asVenus_29 : decode cX3_asVenus 29 = .ok (.invokestatic 53, 3) := by decide +kernel
theorem dX3_asVenus_32 : decode cX3_asVenus 32 = .ok (.isub, 1) := by decide +kernel
theorem dX3_asVenus_33 : decode cX3_asVenus 33 = .ok (.ireturn, 1) := by decide +kernel
theorem dX3_init_0 : decode cX3_init 0 = .ok (.aload_n 0, 1) := by decide +kernel
theorem dX3_init_1 : decode cX3_init 1 = .ok (.invokespecial 1, 3) := by decide +kernel
theorem dX3_init_4 : decode cX3_init 4 = .ok (.aload_n 0, 1) := by decide +kernel
theorem dX3_init_5 : decode cX3_init 5 = .ok (.aload_n 1, 1) := by decide +kernel
theorem dX3_init_6 : decode cX3_init 6 = .ok (.putfield 7, 3) := by decide +kernel
theorem dX3_init_9 : decode cX3_init 9 = .ok (.return_, 1) := by decide +kernel
theorem dX4_begin_0 : decode cX4_begin 0 = .ok (.aload_n 0, 1) := by decide +kernel
theorem dX4_begin_1 : decode cX4_begin 1 = .ok (.iconst 0, 1) := by decide +kernel
theorem dX4_begin_2 : decode cX4_begin 2 = .ok (.putfield 33, 3) := by decide +kernel
theorem dX4_begin_5 : decode cX4_begin 5 = .ok (.aload_n 0, 1) := by decide +kernel
theorem dX4_begin_6 : decode cX4_begin 6 = .ok (.iconst 0, 1) := by decide +kernel
theorem dX4_begin_7 : decode cX4_begin 7 = .ok (.putfield 37, 3) := by decide +kernel
theorem dX4_begin_10 : decode cX4_begin 10 = .ok (.aload_n 0, 1) := by decide +kernel
theorem dX4_begin_11 : decode cX4_begin 11 = .ok (.getfield 9, 3) := by decide +kernel
theorem dX4_begin_14 : decode cX4_begin 14 = .ok (.iconst 0, 1) := by decide +kernel
theorem dX4_begin_15 : decode cX4_begin 15 = .ok (.invokestatic 27, 3) := by decide +kernel
theorem dX4_begin_18 : decode cX4_begin 18 = .ok (.aload_n 0, 1) := by decide +kernel
theorem dX4_begin_19 : decode cX4_begin 19 = .ok (.getfield 15, 3) := by decide +kernel
theorem dX4_begin_22 : decode cX4_begin 22 = .ok (.iconst 0, 1) := by decide +kernel
theorem dX4_begin_23 : decode cX4_begin 23 = .ok (.invokestatic 27, 3) := by decide +kernel
theorem dX4_begin_26 : decode cX4_begin 26 = .ok (.aload_n 1, 1) := by decide +kernel
theorem dX4_begin_27 : decode cX4_begin 27 = .ok (.iconst 0, 1) := by decide +kernel
theorem dX4_begin_28 : decode cX4_begin 28 = .ok (.aload_n 0, 1) := by decide +kernel
theorem dX4_begin_29 : decode cX4_begin 29 = .ok (.getfield 18, 3) := by decide +kernel
theorem dX4_begin_32 : decode cX4_begin 32 = .ok (.iconst 0, 1) := by decide +kernel
theorem dX4_begin_33 : decode cX4_begin 33 = .ok (.bipush 6, 2) := by decide +kernel
theorem dX4_begin_35 : decode cX4_begin 35 = .ok (.invokestatic 40, 3) := by decide +kernel
theorem dX4_begin_38 : decode cX4_begin 38 = .ok (.aload_n 0, 1) := by decide +kernel
theorem dX4_begin_39 : decode cX4_begin 39 = .ok (.getfield 21, 3) := by decide +kernel
theorem dX4_begin_42 : decode cX4_begin 42 = .ok (.iconst 0, 1) := by decide +kernel
theorem dX4_begin_43 : decode cX4_begin 43 = .ok (.invokestatic 27, 3) := by decide +kernel
theorem dX4_begin_46 : decode cX4_begin 46 = .ok (.aload_n 0, 1) := by decide +kernel
theorem dX4_begin_47 : decode cX4_begin 47 = .ok (.getfield 24, 3) := by decide +kernel
theorem dX4_begin_50 : decode cX4_begin 50 = .ok (.iconst (-1), 1) := by decide +kernel
theorem dX4_begin_51 : decode cX4_begin 51 = .ok (.invokestatic 27, 3) := by decide +kernel
theorem dX4_begin_54 : decode cX4_begin 54 = .ok (.return_, 1) := by decide +kernel
theorem dX4_init_0 : decode cX4_init 0 = .ok (.aload_n 0, 1) := by decide +kernel
theorem dX4_init_1 : decode cX4_init 1 = .ok (.invokespecial 3, 3) := by decide +kernel
theorem dX4_init_4 : decode cX4_init 4 = .ok (.aload_n 0, 1) := by decide +kernel
theorem dX4_init_5 : decode cX4_init 5 = .ok (.bipush 48, 2) := by decide +kernel
theorem dX4_init_7 : decode cX4_init 7 = .ok (.newarray .int, 2) := by decide +kernel
theorem dX4_init_9 : decode cX4_init 9 = .ok (.putfield 9, 3) := by decide +kernel
theorem dX4_init_12 : decode cX4_init 12 = .ok (.aload_n 0, 1) := by decide +kernel
theorem dX4_init_13 : decode cX4_init 13 = .ok (.bipush 6, 2) := by decide +kernel
theorem dX4_init_15 : decode cX4_init 15 = .ok (.newarray .int, 2) := by decide +kernel
theorem dX4_init_17 : decode cX4_init 17 = .ok (.putfield 15, 3) := by decide +kernel
theorem dX4_init_20 : decode cX4_init 20 = .ok (.aload_n 0, 1) := by decide +kernel
theorem dX4_init_21 : decode cX4_init 21 = .ok (.bipush 6, 2) := by decide +kernel
theorem dX4_init_23 : decode cX4_init 23 = .ok (.newarray .int, 2) := by decide +kernel
theorem dX4_init_25 : decode cX4_init 25 = .ok (.putfield 18, 3) := by decide +kernel
theorem dX4_init_28 : decode cX4_init 28 = .ok (.aload_n 0, 1) := by decide +kernel
theorem dX4_init_29 : decode cX4_init 29 = .ok (.bipush 6, 2) := by decide +kernel
theorem dX4_init_31 : decode cX4_init 31 = .ok (.newarray .int, 2) := by decide +kernel
theorem dX4_init_33 : decode cX4_init 33 = .ok (.putfield 21, 3) := by decide +kernel
theorem dX4_init_36 : decode cX4_init 36 = .ok (.aload_n 0, 1) := by decide +kernel
theorem dX4_init_37 : decode cX4_init 37 = .ok (.bipush 6, 2) := by decide +kernel
theorem dX4_init_39 : decode cX4_init 39 = .ok (.newarray .int, 2) := by decide +kernel
theorem dX4_init_41 : decode cX4_init 41 = .ok (.putfield 24, 3) := by decide +kernel
theorem dX4_init_44 : decode cX4_init 44 = .ok (.aload_n 0, 1) := by decide +kernel
theorem dX4_init_45 : decode cX4_init 45 = .ok (.getfield 24, 3) := by decide +kernel
theorem dX4_init_48 : decode cX4_init 48 = .ok (.iconst (-1), 1) := by decide +kernel
theorem dX4_init_49 : decode cX4_init 49 = .ok (.invokestatic 27, 3) := by decide +kernel
theorem dX4_init_52 : decode cX4_init 52 = .ok (.return_, 1) := by decide +kernel
theorem dX4_readFrom_0 : decode cX4_readFrom 0 = .ok (.iload_n 2, 1) := by decide +kernel
theorem dX4_readFrom_1 : decode cX4_readFrom 1 = .ok (.istore_n 3, 1) := by decide +kernel
theorem dX4_readFrom_2 : decode cX4_readFrom 2 = .ok (.aload_n 1, 1) := by decide +kernel
theorem dX4_readFrom_3 : decode cX4_readFrom 3 = .ok (.iload_n 3, 1) := by decide +kernel
theorem dX4_readFrom_4 : decode cX4_readFrom 4 = .ok (.aload_n 0, 1) := by decide +kernel
theorem dX4_readFrom_5 : decode cX4_readFrom 5 = .ok (.getfield 9, 3) := by decide +kernel
theorem dX4_readFrom_8 : decode cX4_readFrom 8 = .ok (.iconst 0, 1) := by decide +kernel
theorem dX4_readFrom_9 : decode cX4_readFrom 9 = .ok (.bipush 48, 2) := by decide +kernel
theorem dX4_readFrom_11 : decode cX4_readFrom 11 = .ok (.invokestatic 40, 3) := by decide +kernel
theorem dX4_readFrom_14 : decode cX4_readFrom 14 = .ok (.iinc 3 48, 3) := by decide +kernel
theorem dX4_readFrom_17 : decode cX4_readFrom 17 = .ok (.aload_n 1, 1) := by decide +kernel
theorem dX4_readFrom_18 : decode cX4_readFrom 18 = .ok (.iload_n 3, 1) := by decide +kernel
theorem dX4_readFrom_19 : decode cX4_readFrom 19 = .ok (.aload_n 0, 1) := by decide +kernel
theorem dX4_readFrom_20 : decode cX4_readFrom 20 = .ok (.getfield 15, 3) := by decide +kernel
theorem dX4_readFrom_23 : decode cX4_readFrom 23 = .ok (.iconst 0, 1) := by decide +kernel
theorem dX4_readFrom_24 : decode cX4_readFrom 24 = .ok (.bipush 6, 2) := by decide +kernel
theorem dX4_readFrom_26 : decode cX4_readFrom 26 = .ok (.invokestatic 40, 3) := by decide +kernel
theorem dX4_readFrom_29 : decode cX4_readFrom 29 = .ok (.iinc 3 6, 3) := by decide +kernel
theorem dX4_readFrom_32 : decode cX4_readFrom 32 = .ok (.aload_n 1, 1) := by decide +kernel
theorem dX4_readFrom_33 : decode cX4_readFrom 33 = .ok (.iload_n 3, 1) := by decide +kernel
theorem dX4_readFrom_34 : decode cX4_readFrom 34 = .ok (.aload_n 0, 1) := by decide +kernel
theorem dX4_readFrom_35 : decode cX4_readFrom 35 = .ok (.getfield 18, 3) := by decide +kernel
theorem dX4_readFrom_38 : decode cX4_readFrom 38 = .ok (.iconst 0, 1) := by decide +kernel
theorem dX4_readFrom_39 : decode cX4_readFrom 39 = .ok (.bipush 6, 2) := by decide +kernel
theorem dX4_readFrom_41 : decode cX4_readFrom 41 = .ok (.invokestatic 40, 3) := by decide +kernel
theorem dX4_readFrom_44 : decode cX4_readFrom 44 = .ok (.iinc 3 6, 3) := by decide +kernel
theorem dX4_readFrom_47 : decode cX4_readFrom 47 = .ok (.aload_n 1, 1) := by decide +kernel
theorem dX4_readFrom_48 : decode cX4_readFrom 48 = .ok (.iload_n 3, 1) := by decide +kernel
theorem dX4_readFrom_49 : decode cX4_readFrom 49 = .ok (.aload_n 0, 1) := by decide +kernel
theorem dX4_readFrom_50 : decode cX4_readFrom 50 = .ok (.getfield 21, 3) := by decide +kernel
theorem dX4_readFrom_53 : decode cX4_readFrom 53 = .ok (.iconst 0, 1) := by decide +kernel
theorem dX4_readFrom_54 : decode cX4_readFrom 54 = .ok (.bipush 6, 2) := by decide +kernel
theorem dX4_readFrom_56 : decode cX4_readFrom 56 = .ok (.invokestatic 40, 3) := by decide +kernel
theorem dX4_readFrom_59 : decode cX4_readFrom 59 = .ok (.iinc 3 6, 3) := by decide +kernel
theorem dX4_readFrom_62 : decode cX4_readFrom 62 = .ok (.aload_n 1, 1) := by decide +kernel
theorem dX4_readFrom_63 : decode cX4_readFrom 63 = .ok (.iload_n 3, 1) := by decide +kernel
theorem dX4_readFrom_64 : decode cX4_readFrom 64 = .ok (.aload_n 0, 1) := by decide +kernel
theorem dX4_readFrom_65 : decode cX4_readFrom 65 = .ok (.getfield 24, 3) := by decide +kernel
theorem dX4_readFrom_68 : decode cX4_readFrom 68 = .ok (.iconst 0, 1) := by decide +kernel
theorem dX4_readFrom_69 : decode cX4_readFrom 69 = .ok (.bipush 6, 2) := by decide +kernel
theorem dX4_readFrom_71 : decode cX4_readFrom 71 = .ok (.invokestatic 40, 3) := by decide +kernel
theorem dX4_readFrom_74 : decode cX4_readFrom 74 = .ok (.iinc 3 6, 3) := by decide +kernel
theorem dX4_readFrom_77 : decode cX4_readFrom 77 = .ok (.aload_n 0, 1) := by decide +kernel
theorem dX4_readFrom_78 : decode cX4_readFrom 78 = .ok (.aload_n 1, 1) := by decide +kernel
theorem dX4_readFrom_79 : decode cX4_readFrom 79 = .ok (.iload_n 3, 1) := by decide +kernel
theorem dX4_readFrom_80 : decode cX4_readFrom 80 = .ok (.iaload, 1) := by decide +kernel
theorem dX4_readFrom_81 : decode cX4_readFrom 81 = .ok (.putfield 33, 3) := by decide +kernel
theorem dX4_readFrom_84 : decode cX4_readFrom 84 = .ok (.aload_n 0, 1) := by decide +kernel
theorem dX4_readFrom_85 : decode cX4_readFrom 85 = .ok (.aload_n 1, 1) := by decide +kernel
theorem dX4_readFrom_86 : decode cX4_readFrom 86 = .ok (.iload_n 3, 1) := by decide +kernel
theorem dX4_readFrom_87 : decode cX4_readFrom 87 = .ok (.iconst 1, 1) := by decide +kernel
theorem dX4_readFrom_88 : decode cX4_readFrom 88 = .ok (.iadd, 1) := by decide +kernel
theorem dX4_readFrom_89 : decode cX4_readFrom 89 = .ok (.iaload, 1) := by decide +kernel
theorem dX4_readFrom_90 : decode cX4_readFrom 90 = .ok (.putfield 37, 3) := by decide +kernel
theorem dX4_readFrom_93 : decode cX4_readFrom 93 = .ok (.return_, 1) := by decide +kernel
theorem dX4_writeTo_0 : decode cX4_writeTo 0 = .ok (.iload_n 2, 1) := by decide +kernel
theorem dX4_writeTo_1 : decode cX4_writeTo 1 = .ok (.istore_n 3, 1) := by decide +kernel
theorem dX4_writeTo_2 : decode cX4_writeTo 2 = .ok (.aload_n 0, 1) := by decide +kernel
theorem dX4_writeTo_3 : decode cX4_writeTo 3 = .ok (.getfield 9, 3) := by decide +kernel
theorem dX4_writeTo_6 : decode cX4_writeTo 6 = .ok (.iconst 0, 1) := by decide +kernel
theorem dX4_writeTo_7 : decode cX4_writeTo 7 = .ok (.aload_n 1, 1) := by decide +kernel
theorem dX4_writeTo_8 : decode cX4_writeTo 8 = .ok (.iload_n 3, 1) := by decide +kernel
theorem dX4_writeTo_9 : decode cX4_writeTo 9 = .ok (.bipush 48, 2) := by decide +kernel
theorem dX4_writeTo_11 : decode cX4_writeTo 11 = .ok (.invokestatic 40, 3) := by decide +kernel
theorem dX4_writeTo_14 : decode cX4_writeTo 14 = .ok (.iinc 3 48, 3) := by decide +kernel
theorem dX4_writeTo_17 : decode cX4_writeTo 17 = .ok (.aload_n 0, 1) := by decide +kernel
theorem dX4_writeTo_18 : decode cX4_writeTo 18 = .ok (.getfield 15, 3) := by decide +kernel
theorem dX4_writeTo_21 : decode cX4_writeTo 21 = .ok (.iconst 0, 1) := by decide +kernel
theorem dX4_writeTo_22 : decode cX4_writeTo 22 = .ok (.aload_n 1, 1) := by decide +kernel
theorem dX4_writeTo_23 : decode cX4_writeTo 23 = .ok (.iload_n 3, 1) := by decide +kernel
theorem dX4_writeTo_24 : decode cX4_writeTo 24 = .ok (.bipush 6, 2) := by decide +kernel
theorem dX4_writeTo_26 : decode cX4_writeTo 26 = .ok (.invokestatic 40, 3) := by decide +kernel
theorem dX4_writeTo_29 : decode cX4_writeTo 29 = .ok (.iinc 3 6, 3) := by decide +kernel
theorem dX4_writeTo_32 : decode cX4_writeTo 32 = .ok (.aload_n 0, 1) := by decide +kernel
theorem dX4_writeTo_33 : decode cX4_writeTo 33 = .ok (.getfield 18, 3) := by decide +kernel
theorem dX4_writeTo_36 : decode cX4_writeTo 36 = .ok (.iconst 0, 1) := by decide +kernel
theorem dX4_writeTo_37 : decode cX4_writeTo 37 = .ok (.aload_n 1, 1) := by decide +kernel
theorem dX4_writeTo_38 : decode cX4_writeTo 38 = .ok (.iload_n 3, 1) := by decide +kernel
theorem dX4_writeTo_39 : decode cX4_writeTo 39 = .ok (.bipush 6, 2) := by decide +kernel
theorem dX4_writeTo_41 : decode cX4_writeTo 41 = .ok (.invokestatic 40, 3) := by decide +kernel
theorem dX4_writeTo_44 : decode cX4_writeTo 44 = .ok (.iinc 3 6, 3) := by decide +kernel
theorem dX4_writeTo_47 : decode cX4_writeTo 47 = .ok (.aload_n 0, 1) := by decide +kernel
theorem dX4_writeTo_48 : decode cX4_writeTo 48 = .ok (.getfield 21, 3) := by decide +kernel
theorem dX4_writeTo_51 : decode cX4_writeTo 51 = .ok (.iconst 0, 1) := by decide +kernel
theorem dX4_writeTo_52 : decode cX4_writeTo 52 = .ok (.aload_n 1, 1) := by decide +kernel
theorem dX4_writeTo_53 : decode cX4_writeTo 53 = .ok (.iload_n 3, 1) := by decide +kernel
theorem dX4_writeTo_54 : decode cX4_writeTo 54 = .ok (.bipush 6, 2) := by decide +kernel
theorem dX4_writeTo_56 : decode cX4_writeTo 56 = .ok (.invokestatic 40, 3) := by decide +kernel
theorem dX4_writeTo_59 : decode cX4_writeTo 59 = .ok (.iinc 3 6, 3) := by decide +kernel
theorem dX4_writeTo_62 : decode cX4_writeTo 62 = .ok (.aload_n 0, 1) := by decide +kernel
theorem dX4_writeTo_63 : decode cX4_writeTo 63 = .ok (.getfield 24, 3) := by decide +kernel
theorem dX4_writeTo_66 : decode cX4_writeTo 66 = .ok (.iconst 0, 1) := by decide +kernel
theorem dX4_writeTo_67 : decode cX4_writeTo 67 = .ok (.aload_n 1, 1) := by decide +kernel
theorem dX4_writeTo_68 : decode cX4_writeTo 68 = .ok (.iload_n 3, 1) := by decide +kernel
theorem dX4_writeTo_69 : decode cX4_writeTo 69 = .ok (.bipush 6, 2) := by decide +kernel
theorem dX4_writeTo_71 : decode cX4_writeTo 71 = .ok (.invokestatic 40, 3) := by decide +kernel
theorem dX4_writeTo_74 : decode cX4_writeTo 74 = .ok (.iinc 3 6, 3) := by decide +kernel
theorem dX4_writeTo_77 : decode cX4_writeTo 77 = .ok (.aload_n 1, 1) := by decide +kernel
theorem dX4_writeTo_78 : decode cX4_writeTo 78 = .ok (.iload_n 3, 1) := by decide +kernel
theorem dX4_writeTo_79 : decode cX4_writeTo 79 = .ok (.aload_n 0, 1) := by decide +kernel
theorem dX4_writeTo_80 : decode cX4_writeTo 80 = .ok (.getfield 33, 3) := by decide +kernel
theorem dX4_writeTo_83 : decode cX4_writeTo 83 = .ok (.iastore, 1) := by decide +kernel
theorem dX4_writeTo_84 : decode cX4_writeTo 84 = .ok (.aload_n 1, 1) := by decide +kernel
theorem dX4_writeTo_85 : decode cX4_writeTo 85 = .ok (.iload_n 3, 1) := by decide +kernel
theorem dX4_writeTo_86 : decode cX4_writeTo 86 = .ok (.iconst 1, 1) := by decide +kernel
theorem dX4_writeTo_87 : decode cX4_writeTo 87 = .ok (.iadd, 1) := by decide +kernel
theorem dX4_writeTo_88 : decode cX4_writeTo 88 = .ok (.aload_n 0, 1) := by decide +kernel
theorem dX4_writeTo_89 : decode cX4_writeTo 89 = .ok (.getfield 37, 3) := by decide +kernel
theorem dX4_writeTo_92 : decode cX4_writeTo 92 = .ok (.iastore, 1) := by decide +kernel
theorem dX4_writeTo_93 : decode cX4_writeTo 93 = .ok (.return_, 1) := by decide +kernel
theorem dX5_firstOf_0 : decode cX5_firstOf 0 = .ok (.aload_n 0, 1) := by decide +kernel
theorem dX5_firstOf_1 : decode cX5_firstOf 1 = .ok (.getfield 15, 3) := by decide +kernel
theorem dX5_firstOf_4 : decode cX5_firstOf 4 = .ok (.iload_n 1, 1) := by decide +kernel
theorem dX5_firstOf_5 : decode cX5_firstOf 5 = .ok (.iaload, 1) := by decide +kernel
theorem dX5_firstOf_6 : decode cX5_firstOf 6 = .ok (.iload_n 2, 1) := by decide +kernel
theorem dX5_firstOf_7 : decode cX5_firstOf 7 = .ok (.iconst (-1), 1) := by decide +kernel
theorem dX5_firstOf_8 : decode cX5_firstOf 8 = .ok (.ixor, 1) := by decide +kernel
theorem dX5_firstOf_9 : decode cX5_firstOf 9 = .ok (.iand, 1) := by decide +kernel
theorem dX5_firstOf_10 : decode cX5_firstOf 10 = .ok (.istore_n 3, 1) := by decide +kernel
theorem dX5_firstOf_11 : decode cX5_firstOf 11 = .ok (.aload_n 0, 1) := by decide +kernel
theorem dX5_firstOf_12 : decode cX5_firstOf 12 = .ok (.getfield 11, 3) := by decide +kernel
theorem dX5_firstOf_15 : decode cX5_firstOf 15 = .ok (.iload_n 1, 1) := by decide +kernel
theorem dX5_firstOf_16 : decode cX5_firstOf 16 = .ok (.sipush 256, 3) := by decide +kernel
theorem dX5_firstOf_19 : decode cX5_firstOf 19 = .ok (.imul, 1) := by decide +kernel
theorem dX5_firstOf_20 : decode cX5_firstOf 20 = .ok (.iload_n 2, 1) := by decide +kernel
theorem dX5_firstOf_21 : decode cX5_firstOf 21 = .ok (.iadd, 1) := by decide +kernel
theorem dX5_firstOf_22 : decode cX5_firstOf 22 = .ok (.iaload, 1) := by decide +kernel
theorem dX5_firstOf_23 : decode cX5_firstOf 23 = .ok (.istore 4, 2) := by decide +kernel
theorem dX5_firstOf_25 : decode cX5_firstOf 25 = .ok (.iconst 0, 1) := by decide +kernel
theorem dX5_firstOf_26 : decode cX5_firstOf 26 = .ok (.istore 5, 2) := by decide +kernel
theorem dX5_firstOf_28 : decode cX5_firstOf 28 = .ok (.iload 5, 2) := by decide +kernel
theorem dX5_firstOf_30 : decode cX5_firstOf 30 = .ok (.aload_n 0, 1) := by decide +kernel
theorem dX5_firstOf_31 : decode cX5_firstOf 31 = .ok (.getfield 18, 3) := by decide +kernel
theorem dX5_firstOf_34 : decode cX5_firstOf 34 = .ok (.getfield 22, 3) := by decide +kernel
theorem dX5_firstOf_37 : decode cX5_firstOf 37 = .ok (.getfield 34, 3) := by decide +kernel
theorem dX5_firstOf_40 : decode cX5_firstOf 40 = .ok (.if_icmp .ge 47, 3) := by decide +kernel
theorem dX5_firstOf_43 : decode cX5_firstOf 43 = .ok (.iload_n 3, 1) := by decide +kernel
theorem dX5_firstOf_44 : decode cX5_firstOf 44 = .ok (.iload 5, 2) := by decide +kernel
theorem dX5_firstOf_46 : decode cX5_firstOf 46 = .ok (.invokestatic 45, 3) := by decide +kernel
theorem dX5_firstOf_49 : decode cX5_firstOf 49 = .ok (.ifCond .eq 32, 3) := by decide +kernel
theorem dX5_firstOf_52 : decode cX5_firstOf 52 = .ok (.iconst 1, 1) := by decide +kernel
theorem dX5_firstOf_53 : decode cX5_firstOf 53 = .ok (.aload_n 0, 1) := by decide +kernel
theorem dX5_firstOf_54 : decode cX5_firstOf 54 = .ok (.getfield 11, 3) := by decide +kernel
theorem dX5_firstOf_57 : decode cX5_firstOf 57 = .ok (.iload_n 1, 1) := by decide +kernel
theorem dX5_firstOf_58 : decode cX5_firstOf 58 = .ok (.iconst 1, 1) := by decide +kernel
theorem dX5_firstOf_59 : decode cX5_firstOf 59 = .ok (.iadd, 1) := by decide +kernel
theorem dX5_firstOf_60 : decode cX5_firstOf 60 = .ok (.sipush 256, 3) := by decide +kernel
theorem dX5_firstOf_63 : decode cX5_firstOf 63 = .ok (.imul, 1) := by decide +kernel
theorem dX5_firstOf_64 : decode cX5_firstOf 64 = .ok (.iload_n 2, 1) := by decide +kernel
theorem dX5_firstOf_65 : decode cX5_firstOf 65 = .ok (.iconst 1, 1) := by decide +kernel
theorem dX5_firstOf_66 : decode cX5_firstOf 66 = .ok (.iload 5, 2) := by decide +kernel
theorem dX5_firstOf_68 : decode cX5_firstOf 68 = .ok (.ishl, 1) := by decide +kernel
theorem dX5_firstOf_69 : decode cX5_firstOf 69 = .ok (.ior, 1) := by decide +kernel
theorem dX5_firstOf_70 : decode cX5_firstOf 70 = .ok (.iadd, 1) := by decide +kernel
theorem dX5_firstOf_71 : decode cX5_firstOf 71 = .ok (.iaload, 1) := by decide +kernel
theorem dX5_firstOf_72 : decode cX5_firstOf 72 = .ok (.iadd, 1) := by decide +kernel
theorem dX5_firstOf_73 : decode cX5_firstOf 73 = .ok (.iload 4, 2) := by decide +kernel
theorem dX5_firstOf_75 : decode cX5_firstOf 75 = .ok (.if_icmp .ne 6, 3) := by decide +kernel
theorem dX5_firstOf_78 : decode cX5_firstOf 78 = .ok (.iload 5, 2) := by decide +kernel
theorem dX5_firstOf_80 : decode cX5_firstOf 80 = .ok (.ireturn, 1) := by decide +kernel
theorem dX5_firstOf_81 : decode cX5_firstOf 81 = .ok (.iinc 5 1, 3) := by decide +kernel
theorem dX5_firstOf_84 : decode cX5_firstOf 84 = .ok (.goto (-56), 3) := by decide +kernel
theorem dX5_firstOf_87 : decode cX5_firstOf 87 = .ok (.bipush (-9), 2) := by decide +kernel
theorem dX5_firstOf_89 : decode cX5_firstOf 89 = .ok (.ireturn, 1) := by decide +kernel
theorem dX5_init_0 : decode cX5_init 0 = .ok (.aload_n 0, 1) := by decide +kernel
theorem dX5_init_1 : decode cX5_init 1 = .ok (.invokespecial 3, 3) := by decide +kernel
theorem dX5_init_4 : decode cX5_init 4 = .ok (.aload_n 0, 1) := by decide +kernel
theorem dX5_init_5 : decode cX5_init 5 = .ok (.sipush 1792, 3) := by decide +kernel
theorem dX5_init_8 : decode cX5_init 8 = .ok (.newarray .int, 2) := by decide +kernel
theorem dX5_init_10 : decode cX5_init 10 = .ok (.putfield 11, 3) := by decide +kernel
theorem dX5_init_13 : decode cX5_init 13 = .ok (.aload_n 0, 1) := by decide +kernel
theorem dX5_init_14 : decode cX5_init 14 = .ok (.bipush 6, 2) := by decide +kernel
theorem dX5_init_16 : decode cX5_init 16 = .ok (.newarray .int, 2) := by decide +kernel
theorem dX5_init_18 : decode cX5_init 18 = .ok (.putfield 15, 3) := by decide +kernel
theorem dX5_init_21 : decode cX5_init 21 = .ok (.aload_n 0, 1) := by decide +kernel
theorem dX5_init_22 : decode cX5_init 22 = .ok (.aload_n 1, 1) := by decide +kernel
theorem dX5_init_23 : decode cX5_init 23 = .ok (.putfield 18, 3) := by decide +kernel
theorem dX5_init_26 : decode cX5_init 26 = .ok (.return_, 1) := by decide +kernel
theorem dX5_mostFrom_0 : decode cX5_mostFrom 0 = .ok (.iload_n 1, 1) := by decide +kernel
theorem dX5_mostFrom_1 : decode cX5_mostFrom 1 = .ok (.iconst 1, 1) := by decide +kernel
theorem dX5_mostFrom_2 : decode cX5_mostFrom 2 = .ok (.iadd, 1) := by decide +kernel
theorem dX5_mostFrom_3 : decode cX5_mostFrom 3 = .ok (.sipush 256, 3) := by decide +kernel
theorem dX5_mostFrom_6 : decode cX5_mostFrom 6 = .ok (.imul, 1) := by decide +kernel
theorem dX5_mostFrom_7 : decode cX5_mostFrom 7 = .ok (.istore_n 3, 1) := by decide +kernel
theorem dX5_mostFrom_8 : decode cX5_mostFrom 8 = .ok (.aload_n 0, 1) := by decide +kernel
theorem dX5_mostFrom_9 : decode cX5_mostFrom 9 = .ok (.getfield 11, 3) := by decide +kernel
theorem dX5_mostFrom_12 : decode cX5_mostFrom 12 = .ok (.iload_n 3, 1) := by decide +kernel
theorem dX5_mostFrom_13 : decode cX5_mostFrom 13 = .ok (.iload_n 2, 1) := by decide +kernel
theorem dX5_mostFrom_14 : decode cX5_mostFrom 14 = .ok (.iadd, 1) := by decide +kernel
theorem dX5_mostFrom_15 : decode cX5_mostFrom 15 = .ok (.iaload, 1) := by decide +kernel
theorem dX5_mostFrom_16 : decode cX5_mostFrom 16 = .ok (.istore 4, 2) := by decide +kernel
theorem dX5_mostFrom_18 : decode cX5_mostFrom 18 = .ok (.aload_n 0, 1) := by decide +kernel
theorem dX5_mostFrom_19 : decode cX5_mostFrom 19 = .ok (.getfield 15, 3) := by decide +kernel
theorem dX5_mostFrom_22 : decode cX5_mostFrom 22 = .ok (.iload_n 1, 1) := by decide +kernel
theorem dX5_mostFrom_23 : decode cX5_mostFrom 23 = .ok (.iaload, 1) := by decide +kernel
theorem dX5_mostFrom_24 : decode cX5_mostFrom 24 = .ok (.iload_n 2, 1) := by decide +kernel
theorem dX5_mostFrom_25 : decode cX5_mostFrom 25 = .ok (.iconst (-1), 1) := by decide +kernel
theorem dX5_mostFrom_26 : decode cX5_mostFrom 26 = .ok (.ixor, 1) := by decide +kernel
theorem dX5_mostFrom_27 : decode cX5_mostFrom 27 = .ok (.iand, 1) := by decide +kernel
theorem dX5_mostFrom_28 : decode cX5_mostFrom 28 = .ok (.istore 5, 2) := by decide +kernel
theorem dX5_mostFrom_30 : decode cX5_mostFrom 30 = .ok (.iconst 0, 1) := by decide +kernel
theorem dX5_mostFrom_31 : decode cX5_mostFrom 31 = .ok (.istore 6, 2) := by decide +kernel
theorem dX5_mostFrom_33 : decode cX5_mostFrom 33 = .ok (.iload 6, 2) := by decide +kernel
theorem dX5_mostFrom_35 : decode cX5_mostFrom 35 = .ok (.aload_n 0, 1) := by decide +kernel
theorem dX5_mostFrom_36 : decode cX5_mostFrom 36 = .ok (.getfield 18, 3) := by decide +kernel
theorem dX5_mostFrom_39 : decode cX5_mostFrom 39 = .ok (.getfield 22, 3) := by decide +kernel
theorem dX5_mostFrom_42 : decode cX5_mostFrom 42 = .ok (.getfield 34, 3) := by decide +kernel
theorem dX5_mostFrom_45 : decode cX5_mostFrom 45 = .ok (.if_icmp .ge 41, 3) := by decide +kernel
theorem dX5_mostFrom_48 : decode cX5_mostFrom 48 = .ok (.iload 5, 2) := by decide +kernel
theorem dX5_mostFrom_50 : decode cX5_mostFrom 50 = .ok (.iload 6, 2) := by decide +kernel
theorem dX5_mostFrom_52 : decode cX5_mostFrom 52 = .ok (.invokestatic 45, 3) := by decide +kernel
theorem dX5_mostFrom_55 : decode cX5_mostFrom 55 = .ok (.ifCond .eq 25, 3) := by decide +kernel
theorem dX5_mostFrom_58 : decode cX5_mostFrom 58 = .ok (.iload 4, 2) := by decide +kernel
theorem dX5_mostFrom_60 : decode cX5_mostFrom 60 = .ok (.iconst 1, 1) := by decide +kernel
theorem dX5_mostFrom_61 : decode cX5_mostFrom 61 = .ok (.aload_n 0, 1) := by decide +kernel
theorem dX5_mostFrom_62 : decode cX5_mostFrom 62 = .ok (.getfield 11, 3) := by decide +kernel
theorem dX5_mostFrom_65 : decode cX5_mostFrom 65 = .ok (.iload_n 3, 1) := by decide +kernel
theorem dX5_mostFrom_66 : decode cX5_mostFrom 66 = .ok (.iload_n 2, 1) := by decide +kernel
theorem dX5_mostFrom_67 : decode cX5_mostFrom 67 = .ok (.iconst 1, 1) := by decide +kernel
theorem dX5_mostFrom_68 : decode cX5_mostFrom 68 = .ok (.iload 6, 2) := by decide +kernel
theorem dX5_mostFrom_70 : decode cX5_mostFrom 70 = .ok (.ishl, 1) := by decide +kernel
theorem dX5_mostFrom_71 : decode cX5_mostFrom 71 = .ok (.ior, 1) := by decide +kernel
theorem dX5_mostFrom_72 : decode cX5_mostFrom 72 = .ok (.iadd, 1) := by decide +kernel
theorem dX5_mostFrom_73 : decode cX5_mostFrom 73 = .ok (.iaload, 1) := by decide +kernel
theorem dX5_mostFrom_74 : decode cX5_mostFrom 74 = .ok (.iadd, 1) := by decide +kernel
theorem dX5_mostFrom_75 : decode cX5_mostFrom 75 = .ok (.invokestatic 49, 3) := by decide +kernel
theorem dX5_mostFrom_78 : decode cX5_mostFrom 78 = .ok (.istore 4, 2) := by decide +kernel
theorem dX5_mostFrom_80 : decode cX5_mostFrom 80 = .ok (.iinc 6 1, 3) := by decide +kernel
theorem dX5_mostFrom_83 : decode cX5_mostFrom 83 = .ok (.goto (-50), 3) := by decide +kernel
theorem dX5_mostFrom_86 : decode cX5_mostFrom 86 = .ok (.iload 4, 2) := by decide +kernel
theorem dX5_mostFrom_88 : decode cX5_mostFrom 88 = .ok (.ireturn, 1) := by decide +kernel
theorem dX5_mostSet_0 : decode cX5_mostSet 0 = .ok (.aload_n 0, 1) := by decide +kernel
theorem dX5_mostSet_1 : decode cX5_mostSet 1 = .ok (.getfield 11, 3) := by decide +kernel
theorem dX5_mostSet_4 : decode cX5_mostSet 4 = .ok (.iconst 0, 1) := by decide +kernel
theorem dX5_mostSet_5 : decode cX5_mostSet 5 = .ok (.iaload, 1) := by decide +kernel
theorem dX5_mostSet_6 : decode cX5_mostSet 6 = .ok (.ireturn, 1) := by decide +kernel
theorem dX5_thingOf_0 : decode cX5_thingOf 0 = .ok (.iconst 0, 1) := by decide +kernel
theorem dX5_thingOf_1 : decode cX5_thingOf 1 = .ok (.istore_n 2, 1) := by decide +kernel
theorem dX5_thingOf_2 : decode cX5_thingOf 2 = .ok (.bipush (-9), 2) := by decide +kernel
theorem dX5_thingOf_4 : decode cX5_thingOf 4 = .ok (.istore_n 3, 1) := by decide +kernel
theorem dX5_thingOf_5 : decode cX5_thingOf 5 = .ok (.iconst 0, 1) := by decide +kernel
theorem dX5_thingOf_6 : decode cX5_thingOf 6 = .ok (.istore 4, 2) := by decide +kernel
theorem dX5_thingOf_8 : decode cX5_thingOf 8 = .ok (.iload 4, 2) := by decide +kernel
theorem dX5_thingOf_10 : decode cX5_thingOf 10 = .ok (.iload_n 1, 1) := by decide +kernel
theorem dX5_thingOf_11 : decode cX5_thingOf 11 = .ok (.if_icmp .gt 29, 3) := by decide +kernel
theorem dX5_thingOf_14 : decode cX5_thingOf 14 = .ok (.aload_n 0, 1) := by decide +kernel
theorem dX5_thingOf_15 : decode cX5_thingOf 15 = .ok (.iload 4, 2) := by decide +kernel
theorem dX5_thingOf_17 : decode cX5_thingOf 17 = .ok (.iload_n 2, 1) := by decide +kernel
theorem dX5_thingOf_18 : decode cX5_thingOf 18 = .ok (.invokevirtual 54, 3) := by decide +kernel
theorem dX5_thingOf_21 : decode cX5_thingOf 21 = .ok (.istore_n 3, 1) := by decide +kernel
theorem dX5_thingOf_22 : decode cX5_thingOf 22 = .ok (.iload_n 3, 1) := by decide +kernel
theorem dX5_thingOf_23 : decode cX5_thingOf 23 = .ok (.bipush (-9), 2) := by decide +kernel
theorem dX5_thingOf_25 : decode cX5_thingOf 25 = .ok (.if_icmp .eq 9, 3) := by decide +kernel
theorem dX5_thingOf_28 : decode cX5_thingOf 28 = .ok (.iload_n 2, 1) := by decide +kernel
theorem dX5_thingOf_29 : decode cX5_thingOf 29 = .ok (.iconst 1, 1) := by decide +kernel
theorem dX5_thingOf_30 : decode cX5_thingOf 30 = .ok (.iload_n 3, 1) := by decide +kernel
theorem dX5_thingOf_31 : decode cX5_thingOf 31 = .ok (.ishl, 1) := by decide +kernel
theorem dX5_thingOf_32 : decode cX5_thingOf 32 = .ok (.ior, 1) := by decide +kernel
theorem dX5_thingOf_33 : decode cX5_thingOf 33 = .ok (.istore_n 2, 1) := by decide +kernel
theorem dX5_thingOf_34 : decode cX5_thingOf 34 = .ok (.iinc 4 1, 3) := by decide +kernel
theorem dX5_thingOf_37 : decode cX5_thingOf 37 = .ok (.goto (-29), 3) := by decide +kernel
theorem dX5_thingOf_40 : decode cX5_thingOf 40 = .ok (.iload_n 3, 1) := by decide +kernel
theorem dX5_thingOf_41 : decode cX5_thingOf 41 = .ok (.ireturn, 1) := by decide +kernel
theorem dX5_weigh_0 : decode cX5_weigh 0 = .ok (.aload_n 0, 1) := by decide +kernel
theorem dX5_weigh_1 : decode cX5_weigh 1 = .ok (.getfield 18, 3) := by decide +kernel
theorem dX5_weigh_4 : decode cX5_weigh 4 = .ok (.getfield 22, 3) := by decide +kernel
theorem dX5_weigh_7 : decode cX5_weigh 7 = .ok (.getfield 28, 3) := by decide +kernel
theorem dX5_weigh_10 : decode cX5_weigh 10 = .ok (.istore_n 1, 1) := by decide +kernel
theorem dX5_weigh_11 : decode cX5_weigh 11 = .ok (.iconst 1, 1) := by decide +kernel
theorem dX5_weigh_12 : decode cX5_weigh 12 = .ok (.aload_n 0, 1) := by decide +kernel
theorem dX5_weigh_13 : decode cX5_weigh 13 = .ok (.getfield 18, 3) := by decide +kernel
theorem dX5_weigh_16 : decode cX5_weigh 16 = .ok (.getfield 22, 3) := by decide +kernel
theorem dX5_weigh_19 : decode cX5_weigh 19 = .ok (.getfield 34, 3) := by decide +kernel
theorem dX5_weigh_22 : decode cX5_weigh 22 = .ok (.ishl, 1) := by decide +kernel
theorem dX5_weigh_23 : decode cX5_weigh 23 = .ok (.istore_n 2, 1) := by decide +kernel
theorem dX5_weigh_24 : decode cX5_weigh 24 = .ok (.iconst 0, 1) := by decide +kernel
theorem dX5_weigh_25 : decode cX5_weigh 25 = .ok (.istore_n 3, 1) := by decide +kernel
theorem dX5_weigh_26 : decode cX5_weigh 26 = .ok (.iload_n 3, 1) := by decide +kernel
theorem dX5_weigh_27 : decode cX5_weigh 27 = .ok (.iload_n 2, 1) := by decide +kernel
theorem dX5_weigh_28 : decode cX5_weigh 28 = .ok (.if_icmp .ge 22, 3) := by decide +kernel
theorem dX5_weigh_31 : decode cX5_weigh 31 = .ok (.aload_n 0, 1) := by decide +kernel
theorem dX5_weigh_32 : decode cX5_weigh 32 = .ok (.getfield 11, 3) := by decide +kernel
theorem dX5_weigh_35 : decode cX5_weigh 35 = .ok (.iload_n 1, 1) := by decide +kernel
theorem dX5_weigh_36 : decode cX5_weigh 36 = .ok (.sipush 256, 3) := by decide +kernel
theorem dX5_weigh_39 : decode cX5_weigh 39 = .ok (.imul, 1) := by decide +kernel
theorem dX5_weigh_40 : decode cX5_weigh 40 = .ok (.iload_n 3, 1) := by decide +kernel
theorem dX5_weigh_41 : decode cX5_weigh 41 = .ok (.iadd, 1) := by decide +kernel
theorem dX5_weigh_42 : decode cX5_weigh 42 = .ok (.iconst 0, 1) := by decide +kernel
theorem dX5_weigh_43 : decode cX5_weigh 43 = .ok (.iastore, 1) := by decide +kernel
theorem dX5_weigh_44 : decode cX5_weigh 44 = .ok (.iinc 3 1, 3) := by decide +kernel
theorem dX5_weigh_47 : decode cX5_weigh 47 = .ok (.goto (-21), 3) := by decide +kernel
theorem dX5_weigh_50 : decode cX5_weigh 50 = .ok (.iload_n 1, 1) := by decide +kernel
theorem dX5_weigh_51 : decode cX5_weigh 51 = .ok (.iconst 1, 1) := by decide +kernel
theorem dX5_weigh_52 : decode cX5_weigh 52 = .ok (.isub, 1) := by decide +kernel
theorem dX5_weigh_53 : decode cX5_weigh 53 = .ok (.istore_n 3, 1) := by decide +kernel
theorem dX5_weigh_54 : decode cX5_weigh 54 = .ok (.iload_n 3, 1) := by decide +kernel
theorem dX5_weigh_55 : decode cX5_weigh 55 = .ok (.ifCond .lt 58, 3) := by decide +kernel
theorem dX5_weigh_58 : decode cX5_weigh 58 = .ok (.aload_n 0, 1) := by decide +kernel
theorem dX5_weigh_59 : decode cX5_weigh 59 = .ok (.getfield 15, 3) := by decide +kernel
theorem dX5_weigh_62 : decode cX5_weigh 62 = .ok (.iload_n 3, 1) := by decide +kernel
theorem dX5_weigh_63 : decode cX5_weigh 63 = .ok (.aload_n 0, 1) := by decide +kernel
theorem dX5_weigh_64 : decode cX5_weigh 64 = .ok (.getfield 18, 3) := by decide +kernel
theorem dX5_weigh_67 : decode cX5_weigh 67 = .ok (.iload_n 3, 1) := by decide +kernel
theorem dX5_weigh_68 : decode cX5_weigh 68 = .ok (.invokevirtual 37, 3) := by decide +kernel
theorem dX5_weigh_71 : decode cX5_weigh 71 = .ok (.iastore, 1) := by decide +kernel
theorem dX5_weigh_72 : decode cX5_weigh 72 = .ok (.iconst 0, 1) := by decide +kernel
theorem dX5_weigh_73 : decode cX5_weigh 73 = .ok (.istore 4, 2) := by decide +kernel
theorem dX5_weigh_75 : decode cX5_weigh 75 = .ok (.iload 4, 2) := by decide +kernel
theorem dX5_weigh_77 : decode cX5_weigh 77 = .ok (.iload_n 2, 1) := by decide +kernel
theorem dX5_weigh_78 : decode cX5_weigh 78 = .ok (.if_icmp .ge 29, 3) := by decide +kernel
theorem dX5_weigh_81 : decode cX5_weigh 81 = .ok (.aload_n 0, 1) := by decide +kernel
theorem dX5_weigh_82 : decode cX5_weigh 82 = .ok (.getfield 11, 3) := by decide +kernel
theorem dX5_weigh_85 : decode cX5_weigh 85 = .ok (.iload_n 3, 1) := by decide +kernel
theorem dX5_weigh_86 : decode cX5_weigh 86 = .ok (.sipush 256, 3) := by decide +kernel
theorem dX5_weigh_89 : decode cX5_weigh 89 = .ok (.imul, 1) := by decide +kernel
theorem dX5_weigh_90 : decode cX5_weigh 90 = .ok (.iload 4, 2) := by decide +kernel
theorem dX5_weigh_92 : decode cX5_weigh 92 = .ok (.iadd, 1) := by decide +kernel
theorem dX5_weigh_93 : decode cX5_weigh 93 = .ok (.aload_n 0, 1) := by decide +kernel
theorem dX5_weigh_94 : decode cX5_weigh 94 = .ok (.iload_n 3, 1) := by decide +kernel
theorem dX5_weigh_95 : decode cX5_weigh 95 = .ok (.iload 4, 2) := by decide +kernel
theorem dX5_weigh_97 : decode cX5_weigh 97 = .ok (.invokevirtual 41, 3) := by decide +kernel
theorem dX5_weigh_100 : decode cX5_weigh 100 = .ok (.iastore, 1) := by decide +kernel
theorem dX5_weigh_101 : decode cX5_weigh 101 = .ok (.iinc 4 1, 3) := by decide +kernel
theorem dX5_weigh_104 : decode cX5_weigh 104 = .ok (.goto (-29), 3) := by decide +kernel
theorem dX5_weigh_107 : decode cX5_weigh 107 = .ok (.iinc 3 (-1), 3) := by decide +kernel
theorem dX5_weigh_110 : decode cX5_weigh 110 = .ok (.goto (-56), 3) := by decide +kernel
theorem dX5_weigh_113 : decode cX5_weigh 113 = .ok (.return_, 1) := by decide +kernel
theorem dX6_become_0 : decode cX6_become 0 = .ok (.aload_n 1, 1) := by decide +kernel
theorem dX6_become_1 : decode cX6_become 1 = .ok (.getfield 11, 3) := by decide +kernel
theorem dX6_become_4 : decode cX6_become 4 = .ok (.iconst 0, 1) := by decide +kernel
theorem dX6_become_5 : decode cX6_become 5 = .ok (.aload_n 0, 1) := by decide +kernel
theorem dX6_become_6 : decode cX6_become 6 = .ok (.getfield 11, 3) := by decide +kernel
theorem dX6_become_9 : decode cX6_become 9 = .ok (.iconst 0, 1) := by decide +kernel
theorem dX6_become_10 : decode cX6_become 10 = .ok (.sipush 740, 3) := by decide +kernel
theorem dX6_become_13 : decode cX6_become 13 = .ok (.invokestatic 35, 3) := by decide +kernel
theorem dX6_become_16 : decode cX6_become 16 = .ok (.aload_n 0, 1) := by decide +kernel
theorem dX6_become_17 : decode cX6_become 17 = .ok (.aload_n 1, 1) := by decide +kernel
theorem dX6_become_18 : decode cX6_become 18 = .ok (.getfield 15, 3) := by decide +kernel
theorem dX6_become_21 : decode cX6_become 21 = .ok (.putfield 15, 3) := by decide +kernel
theorem dX6_become_24 : decode cX6_become 24 = .ok (.aload_n 0, 1) := by decide +kernel
theorem dX6_become_25 : decode cX6_become 25 = .ok (.aload_n 1, 1) := by decide +kernel
theorem dX6_become_26 : decode cX6_become 26 = .ok (.getfield 23, 3) := by decide +kernel
theorem dX6_become_29 : decode cX6_become 29 = .ok (.putfield 23, 3) := by decide +kernel
theorem dX6_become_32 : decode cX6_become 32 = .ok (.return_, 1) := by decide +kernel
theorem dX6_init_0 : decode cX6_init 0 = .ok (.aload_n 0, 1) := by decide +kernel
theorem dX6_init_1 : decode cX6_init 1 = .ok (.invokespecial 1, 3) := by decide +kernel
theorem dX6_init_4 : decode cX6_init 4 = .ok (.aload_n 0, 1) := by decide +kernel
theorem dX6_init_5 : decode cX6_init 5 = .ok (.sipush 740, 3) := by decide +kernel
theorem dX6_init_8 : decode cX6_init 8 = .ok (.newarray .int, 2) := by decide +kernel
theorem dX6_init_10 : decode cX6_init 10 = .ok (.putfield 11, 3) := by decide +kernel
theorem dX6_init_13 : decode cX6_init 13 = .ok (.return_, 1) := by decide +kernel
theorem dX6_recall_0 : decode cX6_recall 0 = .ok (.aload_n 0, 1) := by decide +kernel
theorem dX6_recall_1 : decode cX6_recall 1 = .ok (.aload_n 0, 1) := by decide +kernel
theorem dX6_recall_2 : decode cX6_recall 2 = .ok (.getfield 15, 3) := by decide +kernel
theorem dX6_recall_5 : decode cX6_recall 5 = .ok (.bipush 10, 2) := by decide +kernel
theorem dX6_recall_7 : decode cX6_recall 7 = .ok (.iadd, 1) := by decide +kernel
theorem dX6_recall_8 : decode cX6_recall 8 = .ok (.iconst 1, 1) := by decide +kernel
theorem dX6_recall_9 : decode cX6_recall 9 = .ok (.isub, 1) := by decide +kernel
theorem dX6_recall_10 : decode cX6_recall 10 = .ok (.bipush 10, 2) := by decide +kernel
theorem dX6_recall_12 : decode cX6_recall 12 = .ok (.irem, 1) := by decide +kernel
theorem dX6_recall_13 : decode cX6_recall 13 = .ok (.putfield 15, 3) := by decide +kernel
theorem dX6_recall_16 : decode cX6_recall 16 = .ok (.aload_n 0, 1) := by decide +kernel
theorem dX6_recall_17 : decode cX6_recall 17 = .ok (.dup, 1) := by decide +kernel
theorem dX6_recall_18 : decode cX6_recall 18 = .ok (.getfield 23, 3) := by decide +kernel
theorem dX6_recall_21 : decode cX6_recall 21 = .ok (.iconst 1, 1) := by decide +kernel
theorem dX6_recall_22 : decode cX6_recall 22 = .ok (.isub, 1) := by decide +kernel
theorem dX6_recall_23 : decode cX6_recall 23 = .ok (.putfield 23, 3) := by decide +kernel
theorem dX6_recall_26 : decode cX6_recall 26 = .ok (.aload_n 1, 1) := by decide +kernel
theorem dX6_recall_27 : decode cX6_recall 27 = .ok (.aload_n 0, 1) := by decide +kernel
theorem dX6_recall_28 : decode cX6_recall 28 = .ok (.getfield 11, 3) := by decide +kernel
theorem dX6_recall_31 : decode cX6_recall 31 = .ok (.aload_n 0, 1) := by decide +kernel
theorem dX6_recall_32 : decode cX6_recall 32 = .ok (.getfield 15, 3) := by decide +kernel
theorem dX6_recall_35 : decode cX6_recall 35 = .ok (.bipush 74, 2) := by decide +kernel
theorem dX6_recall_37 : decode cX6_recall 37 = .ok (.imul, 1) := by decide +kernel
theorem dX6_recall_38 : decode cX6_recall 38 = .ok (.invokevirtual 32, 3) := by decide +kernel
theorem dX6_recall_41 : decode cX6_recall 41 = .ok (.return_, 1) := by decide +kernel
theorem dX6_remember_0 : decode cX6_remember 0 = .ok (.aload_n 1, 1) := by decide +kernel
theorem dX6_remember_1 : decode cX6_remember 1 = .ok (.aload_n 0, 1) := by decide +kernel
theorem dX6_remember_2 : decode cX6_remember 2 = .ok (.getfield 11, 3) := by decide +kernel
theorem dX6_remember_5 : decode cX6_remember 5 = .ok (.aload_n 0, 1) := by decide +kernel
theorem dX6_remember_6 : decode cX6_remember 6 = .ok (.getfield 15, 3) := by decide +kernel
theorem dX6_remember_9 : decode cX6_remember 9 = .ok (.bipush 74, 2) := by decide +kernel
theorem dX6_remember_11 : decode cX6_remember 11 = .ok (.imul, 1) := by decide +kernel
theorem dX6_remember_12 : decode cX6_remember 12 = .ok (.invokevirtual 19, 3) := by decide +kernel
theorem dX6_remember_15 : decode cX6_remember 15 = .ok (.aload_n 0, 1) := by decide +kernel
theorem dX6_remember_16 : decode cX6_remember 16 = .ok (.aload_n 0, 1) := by decide +kernel
theorem dX6_remember_17 : decode cX6_remember 17 = .ok (.getfield 15, 3) := by decide +kernel
theorem dX6_remember_20 : decode cX6_remember 20 = .ok (.iconst 1, 1) := by decide +kernel
theorem dX6_remember_21 : decode cX6_remember 21 = .ok (.iadd, 1) := by decide +kernel
theorem dX6_remember_22 : decode cX6_remember 22 = .ok (.bipush 10, 2) := by decide +kernel
theorem dX6_remember_24 : decode cX6_remember 24 = .ok (.irem, 1) := by decide +kernel
theorem dX6_remember_25 : decode cX6_remember 25 = .ok (.putfield 15, 3) := by decide +kernel
theorem dX6_remember_28 : decode cX6_remember 28 = .ok (.aload_n 0, 1) := by decide +kernel
theorem dX6_remember_29 : decode cX6_remember 29 = .ok (.aload_n 0, 1) := by decide +kernel
theorem dX6_remember_30 : decode cX6_remember 30 = .ok (.getfield 23, 3) := by decide +kernel
theorem dX6_remember_33 : decode cX6_remember 33 = .ok (.iconst 1, 1) := by decide +kernel
theorem dX6_remember_34 : decode cX6_remember 34 = .ok (.iadd, 1) := by decide +kernel
theorem dX6_remember_35 : decode cX6_remember 35 = .ok (.bipush 10, 2) := by decide +kernel
theorem dX6_remember_37 : decode cX6_remember 37 = .ok (.invokestatic 26, 3) := by decide +kernel
theorem dX6_remember_40 : decode cX6_remember 40 = .ok (.putfield 23, 3) := by decide +kernel
theorem dX6_remember_43 : decode cX6_remember 43 = .ok (.return_, 1) := by decide +kernel
theorem dX7_bears_0 : decode cX7_bears 0 = .ok (.aload_n 0, 1) := by decide +kernel
theorem dX7_bears_1 : decode cX7_bears 1 = .ok (.getfield 18, 3) := by decide +kernel
theorem dX7_bears_4 : decode cX7_bears 4 = .ok (.iload_n 1, 1) := by decide +kernel
theorem dX7_bears_5 : decode cX7_bears 5 = .ok (.invokevirtual 68, 3) := by decide +kernel
theorem dX7_bears_8 : decode cX7_bears 8 = .ok (.ifCond .ne 52, 3) := by decide +kernel
theorem dX7_bears_11 : decode cX7_bears 11 = .ok (.iload_n 2, 1) := by decide +kernel
theorem dX7_bears_12 : decode cX7_bears 12 = .ok (.aload_n 0, 1) := by decide +kernel
theorem dX7_bears_13 : decode cX7_bears 13 = .ok (.iload_n 1, 1) := by decide +kernel
theorem dX7_bears_14 : decode cX7_bears 14 = .ok (.invokevirtual 72, 3) := by decide +kernel
theorem dX7_bears_17 : decode cX7_bears 17 = .ok (.iconst (-1), 1) := by decide +kernel
theorem dX7_bears_18 : decode cX7_bears 18 = .ok (.ixor, 1) := by decide +kernel
theorem dX7_bears_19 : decode cX7_bears 19 = .ok (.iand, 1) := by decide +kernel
theorem dX7_bears_20 : decode cX7_bears 20 = .ok (.ifCond .ne 40, 3) := by decide +kernel
theorem dX7_bears_23 : decode cX7_bears 23 = .ok (.aload_n 0, 1) := by decide +kernel
theorem dX7_bears_24 : decode cX7_bears 24 = .ok (.getfield 18, 3) := by decide +kernel
theorem dX7_bears_27 : decode cX7_bears 27 = .ok (.getfield 46, 3) := by decide +kernel
theorem dX7_bears_30 : decode cX7_bears 30 = .ok (.getfield 76, 3) := by decide +kernel
theorem dX7_bears_33 : decode cX7_bears 33 = .ok (.iload_n 1, 1) := by decide +kernel
theorem dX7_bears_34 : decode cX7_bears 34 = .ok (.iaload, 1) := by decide +kernel
theorem dX7_bears_35 : decode cX7_bears 35 = .ok (.aload_n 0, 1) := by decide +kernel
theorem dX7_bears_36 : decode cX7_bears 36 = .ok (.iload_n 2, 1) := by decide +kernel
theorem dX7_bears_37 : decode cX7_bears 37 = .ok (.invokevirtual 79, 3) := by decide +kernel
theorem dX7_bears_40 : decode cX7_bears 40 = .ok (.iadd, 1) := by decide +kernel
theorem dX7_bears_41 : decode cX7_bears 41 = .ok (.aload_n 0, 1) := by decide +kernel
theorem dX7_bears_42 : decode cX7_bears 42 = .ok (.getfield 18, 3) := by decide +kernel
theorem dX7_bears_45 : decode cX7_bears 45 = .ok (.getfield 22, 3) := by decide +kernel
theorem dX7_bears_48 : decode cX7_bears 48 = .ok (.getfield 82, 3) := by decide +kernel
theorem dX7_bears_51 : decode cX7_bears 51 = .ok (.iload_n 1, 1) := by decide +kernel
theorem dX7_bears_52 : decode cX7_bears 52 = .ok (.iaload, 1) := by decide +kernel
theorem dX7_bears_53 : decode cX7_bears 53 = .ok (.if_icmp .gt 7, 3) := by decide +kernel
theorem dX7_bears_56 : decode cX7_bears 56 = .ok (.iconst 1, 1) := by decide +kernel
theorem dX7_bears_57 : decode cX7_bears 57 = .ok (.goto 4, 3) := by decide +kernel
theorem dX7_bears_60 : decode cX7_bears 60 = .ok (.iconst 0, 1) := by decide +kernel
theorem dX7_bears_61 : decode cX7_bears 61 = .ok (.ireturn, 1) := by decide +kernel
theorem dX7_cracksOf_0 : decode cX7_cracksOf 0 = .ok (.iconst 0, 1) := by decide +kernel
theorem dX7_cracksOf_1 : decode cX7_cracksOf 1 = .ok (.istore_n 2, 1) := by decide +kernel
theorem dX7_cracksOf_2 : decode cX7_cracksOf 2 = .ok (.iconst 0, 1) := by decide +kernel
theorem dX7_cracksOf_3 : decode cX7_cracksOf 3 = .ok (.istore_n 3, 1) := by decide +kernel
theorem dX7_cracksOf_4 : decode cX7_cracksOf 4 = .ok (.iload_n 3, 1) := by decide +kernel
theorem dX7_cracksOf_5 : decode cX7_cracksOf 5 = .ok (.aload_n 0, 1) := by decide +kernel
theorem dX7_cracksOf_6 : decode cX7_cracksOf 6 = .ok (.getfield 18, 3) := by decide +kernel
theorem dX7_cracksOf_9 : decode cX7_cracksOf 9 = .ok (.getfield 22, 3) := by decide +kernel
theorem dX7_cracksOf_12 : decode cX7_cracksOf 12 = .ok (.getfield 39, 3) := by decide +kernel
theorem dX7_cracksOf_15 : decode cX7_cracksOf 15 = .ok (.if_icmp .ge 26, 3) := by decide +kernel
theorem dX7_cracksOf_18 : decode cX7_cracksOf 18 = .ok (.iload_n 1, 1) := by decide +kernel
theorem dX7_cracksOf_19 : decode cX7_cracksOf 19 = .ok (.iload_n 3, 1) := by decide +kernel
theorem dX7_cracksOf_20 : decode cX7_cracksOf 20 = .ok (.invokestatic 58, 3) := by decide +kernel
theorem dX7_cracksOf_23 : decode cX7_cracksOf 23 = .ok (.ifCond .eq 12, 3) := by decide +kernel
theorem dX7_cracksOf_26 : decode cX7_cracksOf 26 = .ok (.iload_n 2, 1) := by decide +kernel
theorem dX7_cracksOf_27 : decode cX7_cracksOf 27 = .ok (.aload_n 0, 1) := by decide +kernel
theorem dX7_cracksOf_28 : decode cX7_cracksOf 28 = .ok (.getfield 15, 3) := by decide +kernel
theorem dX7_cracksOf_31 : decode cX7_cracksOf 31 = .ok (.iload_n 3, 1) := by decide +kernel
theorem dX7_cracksOf_32 : decode cX7_cracksOf 32 = .ok (.iaload, 1) := by decide +kernel
theorem dX7_cracksOf_33 : decode cX7_cracksOf 33 = .ok (.iadd, 1) := by decide +kernel
theorem dX7_cracksOf_34 : decode cX7_cracksOf 34 = .ok (.istore_n 2, 1) := by decide +kernel
theorem dX7_cracksOf_35 : decode cX7_cracksOf 35 = .ok (.iinc 3 1, 3) := by decide +kernel
theorem dX7_cracksOf_38 : decode cX7_cracksOf 38 = .ok (.goto (-34), 3) := by decide +kernel
theorem dX7_cracksOf_41 : decode cX7_cracksOf 41 = .ok (.iload_n 2, 1) := by decide +kernel
theorem dX7_cracksOf_42 : decode cX7_cracksOf 42 = .ok (.ireturn, 1) := by decide +kernel
theorem dX7_init_0 : decode cX7_init 0 = .ok (.aload_n 0, 1) := by decide +kernel
theorem dX7_init_1 : decode cX7_init 1 = .ok (.invokespecial 3, 3) := by decide +kernel
theorem dX7_init_4 : decode cX7_init 4 = .ok (.aload_n 0, 1) := by decide +kernel
theorem dX7_init_5 : decode cX7_init 5 = .ok (.bipush 8, 2) := by decide +kernel
theorem dX7_init_7 : decode cX7_init 7 = .ok (.newarray .int, 2) := by decide +kernel
theorem dX7_init_9 : decode cX7_init 9 = .ok (.putfield 9, 3) := by decide +kernel
theorem dX7_init_12 : decode cX7_init 12 = .ok (.aload_n 0, 1) := by decide +kernel
theorem dX7_init_13 : decode cX7_init 13 = .ok (.bipush 8, 2) := by decide +kernel
theorem dX7_init_15 : decode cX7_init 15 = .ok (.newarray .int, 2) := by decide +kernel
theorem dX7_init_17 : decode cX7_init 17 = .ok (.putfield 15, 3) := by decide +kernel
theorem dX7_init_20 : decode cX7_init 20 = .ok (.aload_n 0, 1) := by decide +kernel
theorem dX7_init_21 : decode cX7_init 21 = .ok (.aload_n 1, 1) := by decide +kernel
theorem dX7_init_22 : decode cX7_init 22 = .ok (.putfield 18, 3) := by decide +kernel
theorem dX7_init_25 : decode cX7_init 25 = .ok (.return_, 1) := by decide +kernel
theorem dX7_isWhole_0 : decode cX7_isWhole 0 = .ok (.iload_n 2, 1) := by decide +kernel
theorem dX7_isWhole_1 : decode cX7_isWhole 1 = .ok (.aload_n 0, 1) := by decide +kernel
theorem dX7_isWhole_2 : decode cX7_isWhole 2 = .ok (.getfield 18, 3) := by decide +kernel
theorem dX7_isWhole_5 : decode cX7_isWhole 5 = .ok (.getfield 46, 3) := by decide +kernel
theorem dX7_isWhole_8 : decode cX7_isWhole 8 = .ok (.getfield 65, 3) := by decide +kernel
theorem dX7_isWhole_11 : decode cX7_isWhole 11 = .ok (.iload_n 1, 1) := by decide +kernel
theorem dX7_isWhole_12 : decode cX7_isWhole 12 = .ok (.iaload, 1) := by decide +kernel
theorem dX7_isWhole_13 : decode cX7_isWhole 13 = .ok (.ior, 1) := by decide +kernel
theorem dX7_isWhole_14 : decode cX7_isWhole 14 = .ok (.istore_n 3, 1) := by decide +kernel
theorem dX7_isWhole_15 : decode cX7_isWhole 15 = .ok (.iconst 0, 1) := by decide +kernel
theorem dX7_isWhole_16 : decode cX7_isWhole 16 = .ok (.istore 4, 2) := by decide +kernel
theorem dX7_isWhole_18 : decode cX7_isWhole 18 = .ok (.iload 4, 2) := by decide +kernel
theorem dX7_isWhole_20 : decode cX7_isWhole 20 = .ok (.aload_n 0, 1) := by decide +kernel
theorem dX7_isWhole_21 : decode cX7_isWhole 21 = .ok (.getfield 18, 3) := by decide +kernel
theorem dX7_isWhole_24 : decode cX7_isWhole 24 = .ok (.getfield 22, 3) := by decide +kernel
theorem dX7_isWhole_27 : decode cX7_isWhole 27 = .ok (.getfield 39, 3) := by decide +kernel
theorem dX7_isWhole_30 : decode cX7_isWhole 30 = .ok (.if_icmp .ge 40, 3) := by decide +kernel
theorem dX7_isWhole_33 : decode cX7_isWhole 33 = .ok (.iload_n 2, 1) := by decide +kernel
theorem dX7_isWhole_34 : decode cX7_isWhole 34 = .ok (.iload 4, 2) := by decide +kernel
theorem dX7_isWhole_36 : decode cX7_isWhole 36 = .ok (.invokestatic 58, 3) := by decide +kernel
theorem dX7_isWhole_39 : decode cX7_isWhole 39 = .ok (.ifCond .eq 25, 3) := by decide +kernel
theorem dX7_isWhole_42 : decode cX7_isWhole 42 = .ok (.aload_n 0, 1) := by decide +kernel
theorem dX7_isWhole_43 : decode cX7_isWhole 43 = .ok (.getfield 18, 3) := by decide +kernel
theorem dX7_isWhole_46 : decode cX7_isWhole 46 = .ok (.getfield 22, 3) := by decide +kernel
theorem dX7_isWhole_49 : decode cX7_isWhole 49 = .ok (.getfield 62, 3) := by decide +kernel
theorem dX7_isWhole_52 : decode cX7_isWhole 52 = .ok (.iload 4, 2) := by decide +kernel
theorem dX7_isWhole_54 : decode cX7_isWhole 54 = .ok (.iaload, 1) := by decide +kernel
theorem dX7_isWhole_55 : decode cX7_isWhole 55 = .ok (.iload_n 3, 1) := by decide +kernel
theorem dX7_isWhole_56 : decode cX7_isWhole 56 = .ok (.iconst (-1), 1) := by decide +kernel
theorem dX7_isWhole_57 : decode cX7_isWhole 57 = .ok (.ixor, 1) := by decide +kernel
theorem dX7_isWhole_58 : decode cX7_isWhole 58 = .ok (.iand, 1) := by decide +kernel
theorem dX7_isWhole_59 : decode cX7_isWhole 59 = .ok (.ifCond .eq 5, 3) := by decide +kernel
theorem dX7_isWhole_62 : decode cX7_isWhole 62 = .ok (.iconst 0, 1) := by decide +kernel
theorem dX7_isWhole_63 : decode cX7_isWhole 63 = .ok (.ireturn, 1) := by decide +kernel
theorem dX7_isWhole_64 : decode cX7_isWhole 64 = .ok (.iinc 4 1, 3) := by decide +kernel
theorem dX7_isWhole_67 : decode cX7_isWhole 67 = .ok (.goto (-49), 3) := by decide +kernel
theorem dX7_isWhole_70 : decode cX7_isWhole 70 = .ok (.iconst 1, 1) := by decide +kernel
theorem dX7_isWhole_71 : decode cX7_isWhole 71 = .ok (.ireturn, 1) := by decide +kernel
theorem dX7_learnable_0 : decode cX7_learnable 0 = .ok (.iconst 0, 1) := by decide +kernel
theorem dX7_learnable_1 : decode cX7_learnable 1 = .ok (.istore_n 2, 1) := by decide +kernel
theorem dX7_learnable_2 : decode cX7_learnable 2 = .ok (.iconst 0, 1) := by decide +kernel
theorem dX7_learnable_3 : decode cX7_learnable 3 = .ok (.istore_n 3, 1) := by decide +kernel
theorem dX7_learnable_4 : decode cX7_learnable 4 = .ok (.iload_n 3, 1) := by decide +kernel
theorem dX7_learnable_5 : decode cX7_learnable 5 = .ok (.aload_n 0, 1) := by decide +kernel
theorem dX7_learnable_6 : decode cX7_learnable 6 = .ok (.getfield 18, 3) := by decide +kernel
theorem dX7_learnable_9 : decode cX7_learnable 9 = .ok (.getfield 22, 3) := by decide +kernel
theorem dX7_learnable_12 : decode cX7_learnable 12 = .ok (.getfield 39, 3) := by decide +kernel
theorem dX7_learnable_15 : decode cX7_learnable 15 = .ok (.if_icmp .ge 46, 3) := by decide +kernel
theorem dX7_learnable_18 : decode cX7_learnable 18 = .ok (.aload_n 0, 1) := by decide +kernel
theorem dX7_learnable_19 : decode cX7_learnable 19 = .ok (.getfield 18, 3) := by decide +kernel
theorem dX7_learnable_22 : decode cX7_learnable 22 = .ok (.getfield 46, 3) := by decide +kernel
theorem dX7_learnable_25 : decode cX7_learnable 25 = .ok (.getfield 65, 3) := by decide +kernel
theorem dX7_learnable_28 : decode cX7_learnable 28 = .ok (.iload_n 1, 1) := by decide +kernel
theorem dX7_learnable_29 : decode cX7_learnable 29 = .ok (.iaload, 1) := by decide +kernel
theorem dX7_learnable_30 : decode cX7_learnable 30 = .ok (.iload_n 3, 1) := by decide +kernel
theorem dX7_learnable_31 : decode cX7_learnable 31 = .ok (.invokestatic 58, 3) := by decide +kernel
theorem dX7_learnable_34 : decode cX7_learnable 34 = .ok (.ifCond .ne 21, 3) := by decide +kernel
theorem dX7_learnable_37 : decode cX7_learnable 37 = .ok (.aload_n 0, 1) := by decide +kernel
theorem dX7_learnable_38 : decode cX7_learnable 38 = .ok (.getfield 18, 3) := by decide +kernel
theorem dX7_learnable_41 : decode cX7_learnable 41 = .ok (.iload_n 1, 1) := by decide +kernel
theorem dX7_learnable_42 : decode cX7_learnable 42 = .ok (.iload_n 3, 1) := by decide +kernel
theorem dX7_learnable_43 : decode cX7_learnable 43 = .ok (.invokevirtual 85, 3) := by decide +kernel
theorem dX7_learnable_46 : decode cX7_learnable 46 = .ok (.ifCond .ne 9, 3) := by decide +kernel
theorem dX7_learnable_49 : decode cX7_learnable 49 = .ok (.iload_n 2, 1) := by decide +kernel
theorem dX7_learnable_50 : decode cX7_learnable 50 = .ok (.iconst 1, 1) := by decide +kernel
theorem dX7_learnable_51 : decode cX7_learnable 51 = .ok (.iload_n 3, 1) := by decide +kernel
theorem dX7_learnable_52 : decode cX7_learnable 52 = .ok (.ishl, 1) := by decide +kernel
theorem dX7_learnable_53 : decode cX7_learnable 53 = .ok (.ior, 1) := by decide +kernel
theorem dX7_learnable_54 : decode cX7_learnable 54 = .ok (.istore_n 2, 1) := by decide +kernel
theorem dX7_learnable_55 : decode cX7_learnable 55 = .ok (.iinc 3 1, 3) := by decide +kernel
theorem dX7_learnable_58 : decode cX7_learnable 58 = .ok (.goto (-54), 3) := by decide +kernel
theorem dX7_learnable_61 : decode cX7_learnable 61 = .ok (.iload_n 2, 1) := by decide +kernel
theorem dX7_learnable_62 : decode cX7_learnable 62 = .ok (.ireturn, 1) := by decide +kernel
theorem dX7_learntAt_0 : decode cX7_learntAt 0 = .ok (.iconst 0, 1) := by decide +kernel
theorem dX7_learntAt_1 : decode cX7_learntAt 1 = .ok (.istore_n 3, 1) := by decide +kernel
theorem dX7_learntAt_2 : decode cX7_learntAt 2 = .ok (.iconst 0, 1) := by decide +kernel
theorem dX7_learntAt_3 : decode cX7_learntAt 3 = .ok (.istore 4, 2) := by decide +kernel
theorem dX7_learntAt_5 : decode cX7_learntAt 5 = .ok (.iload 4, 2) := by decide +kernel
theorem dX7_learntAt_7 : decode cX7_learntAt 7 = .ok (.aload_n 0, 1) := by decide +kernel
theorem dX7_learntAt_8 : decode cX7_learntAt 8 = .ok (.getfield 18, 3) := by decide +kernel
theorem dX7_learntAt_11 : decode cX7_learntAt 11 = .ok (.getfield 22, 3) := by decide +kernel
theorem dX7_learntAt_14 : decode cX7_learntAt 14 = .ok (.getfield 39, 3) := by decide +kernel
theorem dX7_learntAt_17 : decode cX7_learntAt 17 = .ok (.if_icmp .ge 29, 3) := by decide +kernel
theorem dX7_learntAt_20 : decode cX7_learntAt 20 = .ok (.iload_n 1, 1) := by decide +kernel
theorem dX7_learntAt_21 : decode cX7_learntAt 21 = .ok (.iload 4, 2) := by decide +kernel
theorem dX7_learntAt_23 : decode cX7_learntAt 23 = .ok (.invokestatic 58, 3) := by decide +kernel
theorem dX7_learntAt_26 : decode cX7_learntAt 26 = .ok (.ifCond .eq 14, 3) := by decide +kernel
theorem dX7_learntAt_29 : decode cX7_learntAt 29 = .ok (.iload_n 3, 1) := by decide +kernel
theorem dX7_learntAt_30 : decode cX7_learntAt 30 = .ok (.iload_n 2, 1) := by decide +kernel
theorem dX7_learntAt_31 : decode cX7_learntAt 31 = .ok (.if_icmp .ne 6, 3) := by decide +kernel
theorem dX7_learntAt_34 : decode cX7_learntAt 34 = .ok (.iload 4, 2) := by decide +kernel
theorem dX7_learntAt_36 : decode cX7_learntAt 36 = .ok (.ireturn, 1) := by decide +kernel
theorem dX7_learntAt_37 : decode cX7_learntAt 37 = .ok (.iinc 3 1, 3) := by decide +kernel
theorem dX7_learntAt_40 : decode cX7_learntAt 40 = .ok (.iinc 4 1, 3) := by decide +kernel
theorem dX7_learntAt_43 : decode cX7_learntAt 43 = .ok (.goto (-38), 3) := by decide +kernel
theorem dX7_learntAt_46 : decode cX7_learntAt 46 = .ok (.bipush (-9), 2) := by decide +kernel
theorem dX7_learntAt_48 : decode cX7_learntAt 48 = .ok (.ireturn, 1) := by decide +kernel
theorem dX7_mostIn_0 : decode cX7_mostIn 0 = .ok (.aload_n 0, 1) := by decide +kernel
theorem dX7_mostIn_1 : decode cX7_mostIn 1 = .ok (.iload_n 1, 1) := by decide +kernel
theorem dX7_mostIn_2 : decode cX7_mostIn 2 = .ok (.invokevirtual 88, 3) := by decide +kernel
theorem dX7_mostIn_5 : decode cX7_mostIn 5 = .ok (.iconst 0, 1) := by decide +kernel
theorem dX7_mostIn_6 : decode cX7_mostIn 6 = .ok (.istore_n 3, 1) := by decide +kernel
theorem dX7_mostIn_7 : decode cX7_mostIn 7 = .ok (.iconst 0, 1) := by decide +kernel
theorem dX7_mostIn_8 : decode cX7_mostIn 8 = .ok (.istore 4, 2) := by decide +kernel
theorem dX7_mostIn_10 : decode cX7_mostIn 10 = .ok (.iconst 0, 1) := by decide +kernel
theorem dX7_mostIn_11 : decode cX7_mostIn 11 = .ok (.istore 5, 2) := by decide +kernel
theorem dX7_mostIn_13 : decode cX7_mostIn 13 = .ok (.aload_n 0, 1) := by decide +kernel
theorem dX7_mostIn_14 : decode cX7_mostIn 14 = .ok (.getfield 18, 3) := by decide +kernel
theorem dX7_mostIn_17 : decode cX7_mostIn 17 = .ok (.iload_n 1, 1) := by decide +kernel
theorem dX7_mostIn_18 : decode cX7_mostIn 18 = .ok (.invokevirtual 68, 3) := by decide +kernel
theorem dX7_mostIn_21 : decode cX7_mostIn 21 = .ok (.ifCond .eq 7, 3) := by decide +kernel
theorem dX7_mostIn_24 : decode cX7_mostIn 24 = .ok (.iconst 0, 1) := by decide +kernel
theorem dX7_mostIn_25 : decode cX7_mostIn 25 = .ok (.goto 8, 3) := by decide +kernel
theorem dX7_mostIn_28 : decode cX7_mostIn 28 = .ok (.aload_n 0, 1) := by decide +kernel
theorem dX7_mostIn_29 : decode cX7_mostIn 29 = .ok (.iload_n 1, 1) := by decide +kernel
theorem dX7_mostIn_30 : decode cX7_mostIn 30 = .ok (.invokevirtual 72, 3) := by decide +kernel
theorem dX7_mostIn_33 : decode cX7_mostIn 33 = .ok (.istore 6, 2) := by decide +kernel
theorem dX7_mostIn_35 : decode cX7_mostIn 35 = .ok (.aload_n 0, 1) := by decide +kernel
theorem dX7_mostIn_36 : decode cX7_mostIn 36 = .ok (.getfield 18, 3) := by decide +kernel
theorem dX7_mostIn_39 : decode cX7_mostIn 39 = .ok (.getfield 22, 3) := by decide +kernel
theorem dX7_mostIn_42 : decode cX7_mostIn 42 = .ok (.getfield 82, 3) := by decide +kernel
theorem dX7_mostIn_45 : decode cX7_mostIn 45 = .ok (.iload_n 1, 1) := by decide +kernel
theorem dX7_mostIn_46 : decode cX7_mostIn 46 = .ok (.iaload, 1) := by decide +kernel
theorem dX7_mostIn_47 : decode cX7_mostIn 47 = .ok (.aload_n 0, 1) := by decide +kernel
theorem dX7_mostIn_48 : decode cX7_mostIn 48 = .ok (.getfield 18, 3) := by decide +kernel
theorem dX7_mostIn_51 : decode cX7_mostIn 51 = .ok (.getfield 46, 3) := by decide +kernel
theorem dX7_mostIn_54 : decode cX7_mostIn 54 = .ok (.getfield 76, 3) := by decide +kernel
theorem dX7_mostIn_57 : decode cX7_mostIn 57 = .ok (.iload_n 1, 1) := by decide +kernel
theorem dX7_mostIn_58 : decode cX7_mostIn 58 = .ok (.iaload, 1) := by decide +kernel
theorem dX7_mostIn_59 : decode cX7_mostIn 59 = .ok (.isub, 1) := by decide +kernel
theorem dX7_mostIn_60 : decode cX7_mostIn 60 = .ok (.istore 7, 2) := by decide +kernel
theorem dX7_mostIn_62 : decode cX7_mostIn 62 = .ok (.iconst 1, 1) := by decide +kernel
theorem dX7_mostIn_63 : decode cX7_mostIn 63 = .ok (.istore 8, 2) := by decide +kernel
theorem dX7_mostIn_65 : decode cX7_mostIn 65 = .ok (.iload 8, 2) := by decide +kernel
theorem dX7_mostIn_67 : decode cX7_mostIn 67 = .ok (.iload 6, 2) := by decide +kernel
theorem dX7_mostIn_69 : decode cX7_mostIn 69 = .ok (.if_icmp .gt 96, 3) := by decide +kernel
theorem dX7_mostIn_72 : decode cX7_mostIn 72 = .ok (.iload 8, 2) := by decide +kernel
theorem dX7_mostIn_74 : decode cX7_mostIn 74 = .ok (.invokestatic 92, 3) := by decide +kernel
theorem dX7_mostIn_77 : decode cX7_mostIn 77 = .ok (.istore 9, 2) := by decide +kernel
theorem dX7_mostIn_79 : decode cX7_mostIn 79 = .ok (.iload 8, 2) := by decide +kernel
theorem dX7_mostIn_81 : decode cX7_mostIn 81 = .ok (.iload 6, 2) := by decide +kernel
theorem dX7_mostIn_83 : decode cX7_mostIn 83 = .ok (.iconst (-1), 1) := by decide +kernel
theorem dX7_mostIn_84 : decode cX7_mostIn 84 = .ok (.ixor, 1) := by decide +kernel
theorem dX7_mostIn_85 : decode cX7_mostIn 85 = .ok (.iand, 1) := by decide +kernel
theorem dX7_mostIn_86 : decode cX7_mostIn 86 = .ok (.ifCond .ne 73, 3) := by decide +kernel
theorem dX7_mostIn_89 : decode cX7_mostIn 89 = .ok (.iload 9, 2) := by decide +kernel
theorem dX7_mostIn_91 : decode cX7_mostIn 91 = .ok (.iload 4, 2) := by decide +kernel
theorem dX7_mostIn_93 : decode cX7_mostIn 93 = .ok (.if_icmp .lt 66, 3) := by decide +kernel
theorem dX7_mostIn_96 : decode cX7_mostIn 96 = .ok (.aload_n 0, 1) := by decide +kernel
theorem dX7_mostIn_97 : decode cX7_mostIn 97 = .ok (.iload_n 1, 1) := by decide +kernel
theorem dX7_mostIn_98 : decode cX7_mostIn 98 = .ok (.iload 8, 2) := by decide +kernel
theorem dX7_mostIn_100 : decode cX7_mostIn 100 = .ok (.invokevirtual 97, 3) := by decide +kernel
theorem dX7_mostIn_103 : decode cX7_mostIn 103 = .ok (.ifCond .eq 56, 3) := by decide +kernel
theorem dX7_mostIn_106 : decode cX7_mostIn 106 = .ok (.aload_n 0, 1) := by decide +kernel
theorem dX7_mostIn_107 : decode cX7_mostIn 107 = .ok (.iload 8, 2) := by decide +kernel
theorem dX7_mostIn_109 : decode cX7_mostIn 109 = .ok (.invokevirtual 79, 3) := by decide +kernel
theorem dX7_mostIn_112 : decode cX7_mostIn 112 = .ok (.iload 7, 2) := by decide +kernel
theorem dX7_mostIn_114 : decode cX7_mostIn 114 = .ok (.if_icmp .le 6, 3) := by decide +kernel
theorem dX7_mostIn_117 : decode cX7_mostIn 117 = .ok (.goto 42, 3) := by decide +kernel
theorem dX7_mostIn_120 : decode cX7_mostIn 120 = .ok (.aload_n 0, 1) := by decide +kernel
theorem dX7_mostIn_121 : decode cX7_mostIn 121 = .ok (.iload 8, 2) := by decide +kernel
theorem dX7_mostIn_123 : decode cX7_mostIn 123 = .ok (.invokevirtual 100, 3) := by decide +kernel
theorem dX7_mostIn_126 : decode cX7_mostIn 126 = .ok (.istore 10, 2) := by decide +kernel
theorem dX7_mostIn_128 : decode cX7_mostIn 128 = .ok (.iload 10, 2) := by decide +kernel
theorem dX7_mostIn_130 : decode cX7_mostIn 130 = .ok (.iload_n 2, 1) := by decide +kernel
theorem dX7_mostIn_131 : decode cX7_mostIn 131 = .ok (.if_icmp .gt 28, 3) := by decide +kernel
theorem dX7_mostIn_134 : decode cX7_mostIn 134 = .ok (.iload 9, 2) := by decide +kernel
theorem dX7_mostIn_136 : decode cX7_mostIn 136 = .ok (.iload 4, 2) := by decide +kernel
theorem dX7_mostIn_138 : decode cX7_mostIn 138 = .ok (.if_icmp .gt 10, 3) := by decide +kernel
theorem dX7_mostIn_141 : decode cX7_mostIn 141 = .ok (.iload 10, 2) := by decide +kernel
theorem dX7_mostIn_143 : decode cX7_mostIn 143 = .ok (.iload 5, 2) := by decide +kernel
theorem dX7_mostIn_145 : decode cX7_mostIn 145 = .ok (.if_icmp .ge 14, 3) := by decide +kernel
theorem dX7_mostIn_148 : decode cX7_mostIn 148 = .ok (.iload 8, 2) := by decide +kernel
theorem dX7_mostIn_150 : decode cX7_mostIn 150 = .ok (.istore_n 3, 1) := by decide +kernel
theorem dX7_mostIn_151 : decode cX7_mostIn 151 = .ok (.iload 9, 2) := by decide +kernel
theorem dX7_mostIn_153 : decode cX7_mostIn 153 = .ok (.istore 4, 2) := by decide +kernel
theorem dX7_mostIn_155 : decode cX7_mostIn 155 = .ok (.iload 10, 2) := by decide +kernel
theorem dX7_mostIn_157 : decode cX7_mostIn 157 = .ok (.istore 5, 2) := by decide +kernel
theorem dX7_mostIn_159 : decode cX7_mostIn 159 = .ok (.iinc 8 1, 3) := by decide +kernel
theorem dX7_mostIn_162 : decode cX7_mostIn 162 = .ok (.goto (-97), 3) := by decide +kernel
theorem dX7_mostIn_165 : decode cX7_mostIn 165 = .ok (.iload_n 3, 1) := by decide +kernel
theorem dX7_mostIn_166 : decode cX7_mostIn 166 = .ok (.ireturn, 1) := by decide +kernel
theorem dX7_nightsOf_0 : decode cX7_nightsOf 0 = .ok (.iconst 0, 1) := by decide +kernel
theorem dX7_nightsOf_1 : decode cX7_nightsOf 1 = .ok (.istore_n 2, 1) := by decide +kernel
theorem dX7_nightsOf_2 : decode cX7_nightsOf 2 = .ok (.iconst 0, 1) := by decide +kernel
theorem dX7_nightsOf_3 : decode cX7_nightsOf 3 = .ok (.istore_n 3, 1) := by decide +kernel
theorem dX7_nightsOf_4 : decode cX7_nightsOf 4 = .ok (.iload_n 3, 1) := by decide +kernel
theorem dX7_nightsOf_5 : decode cX7_nightsOf 5 = .ok (.aload_n 0, 1) := by decide +kernel
theorem dX7_nightsOf_6 : decode cX7_nightsOf 6 = .ok (.getfield 18, 3) := by decide +kernel
theorem dX7_nightsOf_9 : decode cX7_nightsOf 9 = .ok (.getfield 22, 3) := by decide +kernel
theorem dX7_nightsOf_12 : decode cX7_nightsOf 12 = .ok (.getfield 39, 3) := by decide +kernel
theorem dX7_nightsOf_15 : decode cX7_nightsOf 15 = .ok (.if_icmp .ge 26, 3) := by decide +kernel
theorem dX7_nightsOf_18 : decode cX7_nightsOf 18 = .ok (.iload_n 1, 1) := by decide +kernel
theorem dX7_nightsOf_19 : decode cX7_nightsOf 19 = .ok (.iload_n 3, 1) := by decide +kernel
theorem dX7_nightsOf_20 : decode cX7_nightsOf 20 = .ok (.invokestatic 58, 3) := by decide +kernel
theorem dX7_nightsOf_23 : decode cX7_nightsOf 23 = .ok (.ifCond .eq 12, 3) := by decide +kernel
theorem dX7_nightsOf_26 : decode cX7_nightsOf 26 = .ok (.iload_n 2, 1) := by decide +kernel
theorem dX7_nightsOf_27 : decode cX7_nightsOf 27 = .ok (.aload_n 0, 1) := by decide +kernel
theorem dX7_nightsOf_28 : decode cX7_nightsOf 28 = .ok (.getfield 9, 3) := by decide +kernel
theorem dX7_nightsOf_31 : decode cX7_nightsOf 31 = .ok (.iload_n 3, 1) := by decide +kernel
theorem dX7_nightsOf_32 : decode cX7_nightsOf 32 = .ok (.iaload, 1) := by decide +kernel
theorem dX7_nightsOf_33 : decode cX7_nightsOf 33 = .ok (.iadd, 1) := by decide +kernel
theorem dX7_nightsOf_34 : decode cX7_nightsOf 34 = .ok (.istore_n 2, 1) := by decide +kernel
theorem dX7_nightsOf_35 : decode cX7_nightsOf 35 = .ok (.iinc 3 1, 3) := by decide +kernel
theorem dX7_nightsOf_38 : decode cX7_nightsOf 38 = .ok (.goto (-34), 3) := by decide +kernel
theorem dX7_nightsOf_41 : decode cX7_nightsOf 41 = .ok (.iload_n 2, 1) := by decide +kernel
theorem dX7_nightsOf_42 : decode cX7_nightsOf 42 = .ok (.ireturn, 1) := by decide +kernel
theorem dX7_reckon_0 : decode cX7_reckon 0 = .ok (.aload_n 0, 1) := by decide +kernel
theorem dX7_reckon_1 : decode cX7_reckon 1 = .ok (.getfield 18, 3) := by decide +kernel
theorem dX7_reckon_4 : decode cX7_reckon 4 = .ok (.getfield 22, 3) := by decide +kernel
theorem dX7_reckon_7 : decode cX7_reckon 7 = .ok (.getfield 28, 3) := by decide +kernel
theorem dX7_reckon_10 : decode cX7_reckon 10 = .ok (.iload_n 1, 1) := by decide +kernel
theorem dX7_reckon_11 : decode cX7_reckon 11 = .ok (.iaload, 1) := by decide +kernel
theorem dX7_reckon_12 : decode cX7_reckon 12 = .ok (.iconst 1, 1) := by decide +kernel
theorem dX7_reckon_13 : decode cX7_reckon 13 = .ok (.invokestatic 33, 3) := by decide +kernel
theorem dX7_reckon_16 : decode cX7_reckon 16 = .ok (.istore_n 2, 1) := by decide +kernel
theorem dX7_reckon_17 : decode cX7_reckon 17 = .ok (.iconst 0, 1) := by decide +kernel
theorem dX7_reckon_18 : decode cX7_reckon 18 = .ok (.istore_n 3, 1) := by decide +kernel
theorem dX7_reckon_19 : decode cX7_reckon 19 = .ok (.iload_n 3, 1) := by decide +kernel
theorem dX7_reckon_20 : decode cX7_reckon 20 = .ok (.aload_n 0, 1) := by decide +kernel
theorem dX7_reckon_21 : decode cX7_reckon 21 = .ok (.getfield 18, 3) := by decide +kernel
theorem dX7_reckon_24 : decode cX7_reckon 24 = .ok (.getfield 22, 3) := by decide +kernel
theorem dX7_reckon_27 : decode cX7_reckon 27 = .ok (.getfield 39, 3) := by decide +kernel
theorem dX7_reckon_30 : decode cX7_reckon 30 = .ok (.if_icmp .ge 90, 3) := by decide +kernel
theorem dX7_reckon_33 : decode cX7_reckon 33 = .ok (.aload_n 0, 1) := by decide +kernel
theorem dX7_reckon_34 : decode cX7_reckon 34 = .ok (.getfield 18, 3) := by decide +kernel
theorem dX7_reckon_37 : decode cX7_reckon 37 = .ok (.getfield 22, 3) := by decide +kernel
theorem dX7_reckon_40 : decode cX7_reckon 40 = .ok (.getfield 43, 3) := by decide +kernel
theorem dX7_reckon_43 : decode cX7_reckon 43 = .ok (.iload_n 3, 1) := by decide +kernel
theorem dX7_reckon_44 : decode cX7_reckon 44 = .ok (.iaload, 1) := by decide +kernel
theorem dX7_reckon_45 : decode cX7_reckon 45 = .ok (.aload_n 0, 1) := by decide +kernel
theorem dX7_reckon_46 : decode cX7_reckon 46 = .ok (.getfield 18, 3) := by decide +kernel
theorem dX7_reckon_49 : decode cX7_reckon 49 = .ok (.getfield 46, 3) := by decide +kernel
theorem dX7_reckon_52 : decode cX7_reckon 52 = .ok (.getfield 50, 3) := by decide +kernel
theorem dX7_reckon_55 : decode cX7_reckon 55 = .ok (.iload_n 1, 1) := by decide +kernel
theorem dX7_reckon_56 : decode cX7_reckon 56 = .ok (.bipush 8, 2) := by decide +kernel
theorem dX7_reckon_58 : decode cX7_reckon 58 = .ok (.imul, 1) := by decide +kernel
theorem dX7_reckon_59 : decode cX7_reckon 59 = .ok (.iload_n 3, 1) := by decide +kernel
theorem dX7_reckon_60 : decode cX7_reckon 60 = .ok (.iadd, 1) := by decide +kernel
theorem dX7_reckon_61 : decode cX7_reckon 61 = .ok (.iaload, 1) := by decide +kernel
theorem dX7_reckon_62 : decode cX7_reckon 62 = .ok (.isub, 1) := by decide +kernel
theorem dX7_reckon_63 : decode cX7_reckon 63 = .ok (.istore 4, 2) := by decide +kernel
theorem dX7_reckon_65 : decode cX7_reckon 65 = .ok (.aload_n 0, 1) := by decide +kernel
theorem dX7_reckon_66 : decode cX7_reckon 66 = .ok (.getfield 9, 3) := by decide +kernel
theorem dX7_reckon_69 : decode cX7_reckon 69 = .ok (.iload_n 3, 1) := by decide +kernel
theorem dX7_reckon_70 : decode cX7_reckon 70 = .ok (.iload 4, 2) := by decide +kernel
theorem dX7_reckon_72 : decode cX7_reckon 72 = .ok (.iload_n 2, 1) := by decide +kernel
theorem dX7_reckon_73 : decode cX7_reckon 73 = .ok (.if_icmp .gt 7, 3) := by decide +kernel
theorem dX7_reckon_76 : decode cX7_reckon 76 = .ok (.iconst 1, 1) := by decide +kernel
theorem dX7_reckon_77 : decode cX7_reckon 77 = .ok (.goto 11, 3) := by decide +kernel
theorem dX7_reckon_80 : decode cX7_reckon 80 = .ok (.iload 4, 2) := by decide +kernel
theorem dX7_reckon_82 : decode cX7_reckon 82 = .ok (.iload_n 2, 1) := by decide +kernel
theorem dX7_reckon_83 : decode cX7_reckon 83 = .ok (.iadd, 1) := by decide +kernel
theorem dX7_reckon_84 : decode cX7_reckon 84 = .ok (.iconst 1, 1) := by decide +kernel
theorem dX7_reckon_85 : decode cX7_reckon 85 = .ok (.isub, 1) := by decide +kernel
theorem dX7_reckon_86 : decode cX7_reckon 86 = .ok (.iload_n 2, 1) := by decide +kernel
theorem dX7_reckon_87 : decode cX7_reckon 87 = .ok (.idiv, 1) := by decide +kernel
theorem dX7_reckon_88 : decode cX7_reckon 88 = .ok (.iastore, 1) := by decide +kernel
theorem dX7_reckon_89 : decode cX7_reckon 89 = .ok (.aload_n 0, 1) := by decide +kernel
theorem dX7_reckon_90 : decode cX7_reckon 90 = .ok (.getfield 15, 3) := by decide +kernel
theorem dX7_reckon_93 : decode cX7_reckon 93 = .ok (.iload_n 3, 1) := by decide +kernel
theorem dX7_reckon_94 : decode cX7_reckon 94 = .ok (.aload_n 0, 1) := by decide +kernel
theorem dX7_reckon_95 : decode cX7_reckon 95 = .ok (.getfield 18, 3) := by decide +kernel
theorem dX7_reckon_98 : decode cX7_reckon 98 = .ok (.getfield 22, 3) := by decide +kernel
theorem dX7_reckon_101 : decode cX7_reckon 101 = .ok (.getfield 55, 3) := by decide +kernel
theorem dX7_reckon_104 : decode cX7_reckon 104 = .ok (.iload_n 3, 1) := by decide +kernel
theorem dX7_reckon_105 : decode cX7_reckon 105 = .ok (.iaload, 1) := by decide +kernel
theorem dX7_reckon_106 : decode cX7_reckon 106 = .ok (.aload_n 0, 1) := by decide +kernel
theorem dX7_reckon_107 : decode cX7_reckon 107 = .ok (.getfield 9, 3) := by decide +kernel
theorem dX7_reckon_110 : decode cX7_reckon 110 = .ok (.iload_n 3, 1) := by decide +kernel
theorem dX7_reckon_111 : decode cX7_reckon 111 = .ok (.iaload, 1) := by decide +kernel
theorem dX7_reckon_112 : decode cX7_reckon 112 = .ok (.imul, 1) := by decide +kernel
theorem dX7_reckon_113 : decode cX7_reckon 113 = .ok (.iastore, 1) := by decide +kernel
theorem dX7_reckon_114 : decode cX7_reckon 114 = .ok (.iinc 3 1, 3) := by decide +kernel
theorem dX7_reckon_117 : decode cX7_reckon 117 = .ok (.goto (-98), 3) := by decide +kernel
theorem dX7_reckon_120 : decode cX7_reckon 120 = .ok (.return_, 1) := by decide +kernel
theorem dX7_toLearnFor_0 : decode cX7_toLearnFor 0 = .ok (.iconst 1, 1) := by decide +kernel
theorem dX7_toLearnFor_1 : decode cX7_toLearnFor 1 = .ok (.iload_n 2, 1) := by decide +kernel
theorem dX7_toLearnFor_2 : decode cX7_toLearnFor 2 = .ok (.ishl, 1) := by decide +kernel
theorem dX7_toLearnFor_3 : decode cX7_toLearnFor 3 = .ok (.istore_n 3, 1) := by decide +kernel
theorem dX7_toLearnFor_4 : decode cX7_toLearnFor 4 = .ok (.iload_n 2, 1) := by decide +kernel
theorem dX7_toLearnFor_5 : decode cX7_toLearnFor 5 = .ok (.istore 4, 2) := by decide +kernel
theorem dX7_toLearnFor_7 : decode cX7_toLearnFor 7 = .ok (.iload 4, 2) := by decide +kernel
theorem dX7_toLearnFor_9 : decode cX7_toLearnFor 9 = .ok (.ifCond .lt 34, 3) := by decide +kernel
theorem dX7_toLearnFor_12 : decode cX7_toLearnFor 12 = .ok (.iload_n 3, 1) := by decide +kernel
theorem dX7_toLearnFor_13 : decode cX7_toLearnFor 13 = .ok (.iload 4, 2) := by decide +kernel
theorem dX7_toLearnFor_15 : decode cX7_toLearnFor 15 = .ok (.invokestatic 58, 3) := by decide +kernel
theorem dX7_toLearnFor_18 : decode cX7_toLearnFor 18 = .ok (.ifCond .eq 19, 3) := by decide +kernel
theorem dX7_toLearnFor_21 : decode cX7_toLearnFor 21 = .ok (.iload_n 3, 1) := by decide +kernel
theorem dX7_toLearnFor_22 : decode cX7_toLearnFor 22 = .ok (.aload_n 0, 1) := by decide +kernel
theorem dX7_toLearnFor_23 : decode cX7_toLearnFor 23 = .ok (.getfield 18, 3) := by decide +kernel
theorem dX7_toLearnFor_26 : decode cX7_toLearnFor 26 = .ok (.getfield 22, 3) := by decide +kernel
theorem dX7_toLearnFor_29 : decode cX7_toLearnFor 29 = .ok (.getfield 62, 3) := by decide +kernel
theorem dX7_toLearnFor_32 : decode cX7_toLearnFor 32 = .ok (.iload 4, 2) := by decide +kernel
theorem dX7_toLearnFor_34 : decode cX7_toLearnFor 34 = .ok (.iaload, 1) := by decide +kernel
theorem dX7_toLearnFor_35 : decode cX7_toLearnFor 35 = .ok (.ior, 1) := by decide +kernel
theorem dX7_toLearnFor_36 : decode cX7_toLearnFor 36 = .ok (.istore_n 3, 1) := by decide +kernel
theorem dX7_toLearnFor_37 : decode cX7_toLearnFor 37 = .ok (.iinc 4 (-1), 3) := by decide +kernel
theorem dX7_toLearnFor_40 : decode cX7_toLearnFor 40 = .ok (.goto (-33), 3) := by decide +kernel
theorem dX7_toLearnFor_43 : decode cX7_toLearnFor 43 = .ok (.iload_n 3, 1) := by decide +kernel
theorem dX7_toLearnFor_44 : decode cX7_toLearnFor 44 = .ok (.aload_n 0, 1) := by decide +kernel
theorem dX7_toLearnFor_45 : decode cX7_toLearnFor 45 = .ok (.getfield 18, 3) := by decide +kernel
theorem dX7_toLearnFor_48 : decode cX7_toLearnFor 48 = .ok (.getfield 46, 3) := by decide +kernel
theorem dX7_toLearnFor_51 : decode cX7_toLearnFor 51 = .ok (.getfield 65, 3) := by decide +kernel
theorem dX7_toLearnFor_54 : decode cX7_toLearnFor 54 = .ok (.iload_n 1, 1) := by decide +kernel
theorem dX7_toLearnFor_55 : decode cX7_toLearnFor 55 = .ok (.iaload, 1) := by decide +kernel
theorem dX7_toLearnFor_56 : decode cX7_toLearnFor 56 = .ok (.iconst (-1), 1) := by decide +kernel
theorem dX7_toLearnFor_57 : decode cX7_toLearnFor 57 = .ok (.ixor, 1) := by decide +kernel
theorem dX7_toLearnFor_58 : decode cX7_toLearnFor 58 = .ok (.iand, 1) := by decide +kernel
theorem dX7_toLearnFor_59 : decode cX7_toLearnFor 59 = .ok (.ireturn, 1) := by decide +kernel
theorem dX8_fitsCast_0 : decode cX8_fitsCast 0 = .ok (.aload_n 0, 1) := by decide +kernel
theorem dX8_fitsCast_1 : decode cX8_fitsCast 1 = .ok (.getfield 38, 3) := by decide +kernel
theorem dX8_fitsCast_4 : decode cX8_fitsCast 4 = .ok (.iconst 2, 1) := by decide +kernel
theorem dX8_fitsCast_5 : decode cX8_fitsCast 5 = .ok (.if_icmp .ne 31, 3) := by decide +kernel
theorem dX8_fitsCast_8 : decode cX8_fitsCast 8 = .ok (.aload_n 0, 1) := by decide +kernel
theorem dX8_fitsCast_9 : decode cX8_fitsCast 9 = .ok (.getfield 45, 3) := by decide +kernel
theorem dX8_fitsCast_12 : decode cX8_fitsCast 12 = .ok (.getstatic 68, 3) := by decide +kernel
theorem dX8_fitsCast_15 : decode cX8_fitsCast 15 = .ok (.iload_n 1, 1) := by decide +kernel
theorem dX8_fitsCast_16 : decode cX8_fitsCast 16 = .ok (.iaload, 1) := by decide +kernel
theorem dX8_fitsCast_17 : decode cX8_fitsCast 17 = .ok (.if_icmp .lt 19, 3) := by decide +kernel
theorem dX8_fitsCast_20 : decode cX8_fitsCast 20 = .ok (.aload_n 0, 1) := by decide +kernel
theorem dX8_fitsCast_21 : decode cX8_fitsCast 21 = .ok (.getfield 45, 3) := by decide +kernel
theorem dX8_fitsCast_24 : decode cX8_fitsCast 24 = .ok (.getstatic 71, 3) := by decide +kernel
theorem dX8_fitsCast_27 : decode cX8_fitsCast 27 = .ok (.iload_n 1, 1) := by decide +kernel
theorem dX8_fitsCast_28 : decode cX8_fitsCast 28 = .ok (.iaload, 1) := by decide +kernel
theorem dX8_fitsCast_29 : decode cX8_fitsCast 29 = .ok (.if_icmp .gt 7, 3) := by decide +kernel
theorem dX8_fitsCast_32 : decode cX8_fitsCast 32 = .ok (.iconst 1, 1) := by decide +kernel
theorem dX8_fitsCast_33 : decode cX8_fitsCast 33 = .ok (.goto 4, 3) := by decide +kernel
theorem dX8_fitsCast_36 : decode cX8_fitsCast 36 = .ok (.iconst 0, 1) := by decide +kernel
theorem dX8_fitsCast_37 : decode cX8_fitsCast 37 = .ok (.ireturn, 1) := by decide +kernel
theorem dX8_fitsThing_0 : decode cX8_fitsThing 0 = .ok (.aload_n 0, 1) := by decide +kernel
theorem dX8_fitsThing_1 : decode cX8_fitsThing 1 = .ok (.getfield 38, 3) := by decide +kernel
theorem dX8_fitsThing_4 : decode cX8_fitsThing 4 = .ok (.iconst 2, 1) := by decide +kernel
theorem dX8_fitsThing_5 : decode cX8_fitsThing 5 = .ok (.if_icmp .eq 5, 3) := by decide +kernel
theorem dX8_fitsThing_8 : decode cX8_fitsThing 8 = .ok (.iconst 0, 1) := by decide +kernel
theorem dX8_fitsThing_9 : decode cX8_fitsThing 9 = .ok (.ireturn, 1) := by decide +kernel
theorem dX8_fitsThing_10 : decode cX8_fitsThing 10 = .ok (.iload_n 1, 1) := by decide +kernel
theorem dX8_fitsThing_11 : decode cX8_fitsThing 11 = .ok (.iconst 3, 1) := by decide +kernel
theorem dX8_fitsThing_12 : decode cX8_fitsThing 12 = .ok (.if_icmp .ge 35, 3) := by decide +kernel
theorem dX8_fitsThing_15 : decode cX8_fitsThing 15 = .ok (.aload_n 0, 1) := by decide +kernel
theorem dX8_fitsThing_16 : decode cX8_fitsThing 16 = .ok (.getfield 45, 3) := by decide +kernel
theorem dX8_fitsThing_19 : decode cX8_fitsThing 19 = .ok (.getstatic 62, 3) := by decide +kernel
theorem dX8_fitsThing_22 : decode cX8_fitsThing 22 = .ok (.iload_n 1, 1) := by decide +kernel
theorem dX8_fitsThing_23 : decode cX8_fitsThing 23 = .ok (.iaload, 1) := by decide +kernel
theorem dX8_fitsThing_24 : decode cX8_fitsThing 24 = .ok (.if_icmp .lt 19, 3) := by decide +kernel
theorem dX8_fitsThing_27 : decode cX8_fitsThing 27 = .ok (.aload_n 0, 1) := by decide +kernel
theorem dX8_fitsThing_28 : decode cX8_fitsThing 28 = .ok (.getfield 45, 3) := by decide +kernel
theorem dX8_fitsThing_31 : decode cX8_fitsThing 31 = .ok (.getstatic 65, 3) := by decide +kernel
theorem dX8_fitsThing_34 : decode cX8_fitsThing 34 = .ok (.iload_n 1, 1) := by decide +kernel
theorem dX8_fitsThing_35 : decode cX8_fitsThing 35 = .ok (.iaload, 1) := by decide +kernel
theorem dX8_fitsThing_36 : decode cX8_fitsThing 36 = .ok (.if_icmp .gt 7, 3) := by decide +kernel
theorem dX8_fitsThing_39 : decode cX8_fitsThing 39 = .ok (.iconst 1, 1) := by decide +kernel
theorem dX8_fitsThing_40 : decode cX8_fitsThing 40 = .ok (.goto 26, 3) := by decide +kernel
theorem dX8_fitsThing_43 : decode cX8_fitsThing 43 = .ok (.iconst 0, 1) := by decide +kernel
theorem dX8_fitsThing_44 : decode cX8_fitsThing 44 = .ok (.goto 22, 3) := by decide +kernel
theorem dX8_fitsThing_47 : decode cX8_fitsThing 47 = .ok (.aload_n 0, 1) := by decide +kernel
theorem dX8_fitsThing_48 : decode cX8_fitsThing 48 = .ok (.getfield 45, 3) := by decide +kernel
theorem dX8_fitsThing_51 : decode cX8_fitsThing 51 = .ok (.aload_n 0, 1) := by decide +kernel
theorem dX8_fitsThing_52 : decode cX8_fitsThing 52 = .ok (.getfield 18, 3) := by decide +kernel
theorem dX8_fitsThing_55 : decode cX8_fitsThing 55 = .ok (.getfield 25, 3) := by decide +kernel
theorem dX8_fitsThing_58 : decode cX8_fitsThing 58 = .ok (.if_icmp .gt 7, 3) := by decide +kernel
theorem dX8_fitsThing_61 : decode cX8_fitsThing 61 = .ok (.iconst 1, 1) := by decide +kernel
theorem dX8_fitsThing_62 : decode cX8_fitsThing 62 = .ok (.goto 4, 3) := by decide +kernel
theorem dX8_fitsThing_65 : decode cX8_fitsThing 65 = .ok (.iconst 0, 1) := by decide +kernel
theorem dX8_fitsThing_66 : decode cX8_fitsThing 66 = .ok (.ireturn, 1) := by decide +kernel
theorem dX8_init_0 : decode cX8_init 0 = .ok (.aload_n 0, 1) := by decide +kernel
theorem dX8_init_1 : decode cX8_init 1 = .ok (.invokespecial 3, 3) := by decide +kernel
theorem dX8_init_4 : decode cX8_init 4 = .ok (.aload_n 0, 1) := by decide +kernel
theorem dX8_init_5 : decode cX8_init 5 = .ok (.sipush 150, 3) := by decide +kernel
theorem dX8_init_8 : decode cX8_init 8 = .ok (.newarray .int, 2) := by decide +kernel
theorem dX8_init_10 : decode cX8_init 10 = .ok (.putfield 9, 3) := by decide +kernel
theorem dX8_init_13 : decode cX8_init 13 = .ok (.aload_n 0, 1) := by decide +kernel
theorem dX8_init_14 : decode cX8_init 14 = .ok (.new 15, 3) := by decide +kernel
theorem dX8_init_17 : decode cX8_init 17 = .ok (.dup, 1) := by decide +kernel
theorem dX8_init_18 : decode cX8_init 18 = .ok (.invokespecial 17, 3) := by decide +kernel
theorem dX8_init_21 : decode cX8_init 21 = .ok (.putfield 18, 3) := by decide +kernel
theorem dX8_init_24 : decode cX8_init 24 = .ok (.aload_n 0, 1) := by decide +kernel
theorem dX8_init_25 : decode cX8_init 25 = .ok (.iconst 5, 1) := by decide +kernel
theorem dX8_init_26 : decode cX8_init 26 = .ok (.newarray .int, 2) := by decide +kernel
theorem dX8_init_28 : decode cX8_init 28 = .ok (.putfield 22, 3) := by decide +kernel
theorem dX8_init_31 : decode cX8_init 31 = .ok (.return_, 1) := by decide +kernel
theorem dX8_isDigit_0 : decode cX8_isDigit 0 = .ok (.iload_n 0, 1) := by decide +kernel
theorem dX8_isDigit_1 : decode cX8_isDigit 1 = .ok (.bipush 48, 2) := by decide +kernel
theorem dX8_isDigit_3 : decode cX8_isDigit 3 = .ok (.if_icmp .lt 13, 3) := by decide +kernel
theorem dX8_isDigit_6 : decode cX8_isDigit 6 = .ok (.iload_n 0, 1) := by decide +kernel
theorem dX8_isDigit_7 : decode cX8_isDigit 7 = .ok (.bipush 57, 2) := by decide +kernel
theorem dX8_isDigit_9 : decode cX8_isDigit 9 = .ok (.if_icmp .gt 7, 3) := by decide +kernel
theorem dX8_isDigit_12 : decode cX8_isDigit 12 = .ok (.iconst 1, 1) := by decide +kernel
theorem dX8_isDigit_13 : decode cX8_isDigit 13 = .ok (.goto 4, 3) := by decide +kernel
theorem dX8_isDigit_16 : decode cX8_isDigit 16 = .ok (.iconst 0, 1) := by decide +kernel
theorem dX8_isDigit_17 : decode cX8_isDigit 17 = .ok (.ireturn, 1) := by decide +kernel
theorem dX8_isLetter_0 : decode cX8_isLetter 0 = .ok (.iload_n 0, 1) := by decide +kernel
theorem dX8_isLetter_1 : decode cX8_isLetter 1 = .ok (.bipush 97, 2) := by decide +kernel
theorem dX8_isLetter_3 : decode cX8_isLetter 3 = .ok (.if_icmp .lt 13, 3) := by decide +kernel
theorem dX8_isLetter_6 : decode cX8_isLetter 6 = .ok (.iload_n 0, 1) := by decide +kernel
theorem dX8_isLetter_7 : decode cX8_isLetter 7 = .ok (.bipush 122, 2) := by decide +kernel
theorem dX8_isLetter_9 : decode cX8_isLetter 9 = .ok (.if_icmp .gt 7, 3) := by decide +kernel
theorem dX8_isLetter_12 : decode cX8_isLetter 12 = .ok (.iconst 1, 1) := by decide +kernel
theorem dX8_isLetter_13 : decode cX8_isLetter 13 = .ok (.goto 4, 3) := by decide +kernel
theorem dX8_isLetter_16 : decode cX8_isLetter 16 = .ok (.iconst 0, 1) := by decide +kernel
theorem dX8_isLetter_17 : decode cX8_isLetter 17 = .ok (.ireturn, 1) := by decide +kernel
theorem dX8_look_0 : decode cX8_look 0 = .ok (.aload_n 0, 1) := by decide +kernel
theorem dX8_look_1 : decode cX8_look 1 = .ok (.getfield 32, 3) := by decide +kernel
theorem dX8_look_4 : decode cX8_look 4 = .ok (.aload_n 0, 1) := by decide +kernel
theorem dX8_look_5 : decode cX8_look 5 = .ok (.getfield 74, 3) := by decide +kernel
theorem dX8_look_8 : decode cX8_look 8 = .ok (.if_icmp .ge 30, 3) := by decide +kernel
theorem dX8_look_11 : decode cX8_look 11 = .ok (.aload_n 0, 1) := by decide +kernel
theorem dX8_look_12 : decode cX8_look 12 = .ok (.getfield 9, 3) := by decide +kernel
theorem dX8_look_15 : decode cX8_look 15 = .ok (.aload_n 0, 1) := by decide +kernel
theorem dX8_look_16 : decode cX8_look 16 = .ok (.getfield 32, 3) := by decide +kernel
theorem dX8_look_19 : decode cX8_look 19 = .ok (.iaload, 1) := by decide +kernel
theorem dX8_look_20 : decode cX8_look 20 = .ok (.bipush 32, 2) := by decide +kernel
theorem dX8_look_22 : decode cX8_look 22 = .ok (.if_icmp .ne 16, 3) := by decide +kernel
theorem dX8_look_25 : decode cX8_look 25 = .ok (.aload_n 0, 1) := by decide +kernel
theorem dX8_look_26 : decode cX8_look 26 = .ok (.dup, 1) := by decide +kernel
theorem dX8_look_27 : decode cX8_look 27 = .ok (.getfield 32, 3) := by decide +kernel
theorem dX8_look_30 : decode cX8_look 30 = .ok (.iconst 1, 1) := by decide +kernel
theorem dX8_look_31 : decode cX8_look 31 = .ok (.iadd, 1) := by decide +kernel
theorem dX8_look_32 : decode cX8_look 32 = .ok (.putfield 32, 3) := by decide +kernel
theorem dX8_look_35 : decode cX8_look 35 = .ok (.goto (-35), 3) := by decide +kernel
theorem dX8_look_38 : decode cX8_look 38 = .ok (.aload_n 0, 1) := by decide +kernel
theorem dX8_look_39 : decode cX8_look 39 = .ok (.aload_n 0, 1) := by decide +kernel
theorem dX8_look_40 : decode cX8_look 40 = .ok (.getfield 32, 3) := by decide +kernel
theorem dX8_look_43 : decode cX8_look 43 = .ok (.putfield 77, 3) := by decide +kernel
theorem dX8_look_46 : decode cX8_look 46 = .ok (.aload_n 0, 1) := by decide +kernel
theorem dX8_look_47 : decode cX8_look 47 = .ok (.getfield 32, 3) := by decide +kernel
theorem dX8_look_50 : decode cX8_look 50 = .ok (.aload_n 0, 1) := by decide +kernel
theorem dX8_look_51 : decode cX8_look 51 = .ok (.getfield 74, 3) := by decide +kernel
theorem dX8_look_54 : decode cX8_look 54 = .ok (.if_icmp .lt 11, 3) := by decide +kernel
theorem dX8_look_57 : decode cX8_look 57 = .ok (.aload_n 0, 1) := by decide +kernel
theorem dX8_look_58 : decode cX8_look 58 = .ok (.iconst 0, 1) := by decide +kernel
theorem dX8_look_59 : decode cX8_look 59 = .ok (.putfield 38, 3) := by decide +kernel
theorem dX8_look_62 : decode cX8_look 62 = .ok (.goto 80, 3) := by decide +kernel
theorem dX8_look_65 : decode cX8_look 65 = .ok (.aload_n 0, 1) := by decide +kernel
theorem dX8_look_66 : decode cX8_look 66 = .ok (.getfield 9, 3) := by decide +kernel
theorem dX8_look_69 : decode cX8_look 69 = .ok (.aload_n 0, 1) := by decide +kernel
theorem dX8_look_70 : decode cX8_look 70 = .ok (.getfield 32, 3) := by decide +kernel
theorem dX8_look_73 : decode cX8_look 73 = .ok (.iaload, 1) := by decide +kernel
theorem dX8_look_74 : decode cX8_look 74 = .ok (.invokestatic 80, 3) := by decide +kernel
theorem dX8_look_77 : decode cX8_look 77 = .ok (.ifCond .eq 10, 3) := by decide +kernel
theorem dX8_look_80 : decode cX8_look 80 = .ok (.aload_n 0, 1) := by decide +kernel
theorem dX8_look_81 : decode cX8_look 81 = .ok (.invokevirtual 83, 3) := by decide +kernel
theorem dX8_look_84 : decode cX8_look 84 = .ok (.goto 58, 3) := by decide +kernel
theorem dX8_look_87 : decode cX8_look 87 = .ok (.aload_n 0, 1) := by decide +kernel
theorem dX8_look_88 : decode cX8_look 88 = .ok (.getfield 9, 3) := by decide +kernel
theorem dX8_look_91 : decode cX8_look 91 = .ok (.aload_n 0, 1) := by decide +kernel
theorem dX8_look_92 : decode cX8_look 92 = .ok (.getfield 32, 3) := by decide +kernel
theorem dX8_look_95 : decode cX8_look 95 = .ok (.iaload, 1) := by decide +kernel
theorem dX8_look_96 : decode cX8_look 96 = .ok (.invokestatic 86, 3) := by decide +kernel
theorem dX8_look_99 : decode cX8_look 99 = .ok (.ifCond .eq 10, 3) := by decide +kernel
theorem dX8_look_102 : decode cX8_look 102 = .ok (.aload_n 0, 1) := by decide +kernel
theorem dX8_look_103 : decode cX8_look 103 = .ok (.invokevirtual 89, 3) := by decide +kernel
theorem dX8_look_106 : decode cX8_look 106 = .ok (.goto 36, 3) := by decide +kernel
theorem dX8_look_109 : decode cX8_look 109 = .ok (.aload_n 0, 1) := by decide +kernel
theorem dX8_look_110 : decode cX8_look 110 = .ok (.aload_n 0, 1) := by decide +kernel
theorem dX8_look_111 : decode cX8_look 111 = .ok (.getfield 9, 3) := by decide +kernel
theorem dX8_look_114 : decode cX8_look 114 = .ok (.aload_n 0, 1) := by decide +kernel
theorem dX8_look_115 : decode cX8_look 115 = .ok (.getfield 32, 3) := by decide +kernel
theorem dX8_look_118 : decode cX8_look 118 = .ok (.iaload, 1) := by decide +kernel
theorem dX8_look_119 : decode cX8_look 119 = .ok (.bipush 59, 2) := by decide +kernel
theorem dX8_look_121 : decode cX8_look 121 = .ok (.if_icmp .ne 7, 3) := by decide +kernel
theorem dX8_look_124 : decode cX8_look 124 = .ok (.iconst 3, 1) := by decide +kernel
theorem dX8_look_125 : decode cX8_look 125 = .ok (.goto 4, 3) := by decide +kernel
theorem dX8_look_128 : decode cX8_look 128 = .ok (.iconst 4, 1) := by decide +kernel
theorem dX8_look_129 : decode cX8_look 129 = .ok (.putfield 38, 3) := by decide +kernel
theorem dX8_look_132 : decode cX8_look 132 = .ok (.aload_n 0, 1) := by decide +kernel
theorem dX8_look_133 : decode cX8_look 133 = .ok (.dup, 1) := by decide +kernel
theorem dX8_look_134 : decode cX8_look 134 = .ok (.getfield 32, 3) := by decide +kernel
theorem dX8_look_137 : decode cX8_look 137 = .ok (.iconst 1, 1) := by decide +kernel
theorem dX8_look_138 : decode cX8_look 138 = .ok (.iadd, 1) := by decide +kernel
theorem dX8_look_139 : decode cX8_look 139 = .ok (.putfield 32, 3) := by decide +kernel
theorem dX8_look_142 : decode cX8_look 142 = .ok (.return_, 1) := by decide +kernel
theorem dX8_lookAtLetters_0 : decode cX8_lookAtLetters 0 = .ok (.aload_n 0, 1) := by decide +kernel
theorem dX8_lookAtLetters_1 : decode cX8_lookAtLetters 1 = .ok (.getfield 9, 3) := by decide +kernel
theorem dX8_lookAtLetters_4 : decode cX8_lookAtLetters 4 = .ok (.aload_n 0, 1) := by decide +kernel
theorem dX8_lookAtLetters_5 : decode cX8_lookAtLetters 5 = .ok (.getfield 32, 3) := by decide +kernel
theorem dX8_lookAtLetters_8 : decode cX8_lookAtLetters 8 = .ok (.iaload, 1) := by decide +kernel
theorem dX8_lookAtLetters_9 : decode cX8_lookAtLetters 9 = .ok (.istore_n 1, 1) := by decide +kernel
theorem dX8_lookAtLetters_10 : decode cX8_lookAtLetters 10 = .ok (.iconst 0, 1) := by decide +kernel
theorem dX8_lookAtLetters_11 : decode cX8_lookAtLetters 11 = .ok (.istore_n 2, 1) := by decide +kernel
theorem dX8_lookAtLetters_12 : decode cX8_lookAtLetters 12 = .ok (.aload_n 0, 1) := by decide +kernel
theorem dX8_lookAtLetters_13 : decode cX8_lookAtLetters 13 = .ok (.getfield 32, 3) := by decide +kernel
theorem dX8_lookAtLetters_16 : decode cX8_lookAtLetters 16 = .ok (.aload_n 0, 1) := by decide +kernel
theorem dX8_lookAtLetters_17 : decode cX8_lookAtLetters 17 = .ok (.getfield 74, 3) := by decide +kernel
theorem dX8_lookAtLetters_20 : decode cX8_lookAtLetters 20 = .ok (.if_icmp .ge 34, 3) := by decide +kernel
theorem dX8_lookAtLetters_23 : decode cX8_lookAtLetters 23 = .ok (.aload_n 0, 1) := by decide +kernel
theorem dX8_lookAtLetters_24 : decode cX8_lookAtLetters 24 = .ok (.getfield 9, 3) := by decide +kernel
theorem dX8_lookAtLetters_27 : decode cX8_lookAtLetters 27 = .ok (.aload_n 0, 1) := by decide +kernel
theorem dX8_lookAtLetters_28 : decode cX8_lookAtLetters 28 = .ok (.getfield 32, 3) := by decide +kernel
theorem dX8_lookAtLetters_31 : decode cX8_lookAtLetters 31 = .ok (.iaload, 1) := by decide +kernel
theorem dX8_lookAtLetters_32 : decode cX8_lookAtLetters 32 = .ok (.invokestatic 80, 3) := by decide +kernel
theorem dX8_lookAtLetters_35 : decode cX8_lookAtLetters 35 = .ok (.ifCond .eq 19, 3) := by decide +kernel
theorem dX8_lookAtLetters_38 : decode cX8_lookAtLetters 38 = .ok (.iinc 2 1, 3) := by decide +kernel
theorem dX8_lookAtLetters_41 : decode cX8_lookAtLetters 41 = .ok (.aload_n 0, 1) := by decide +kernel
theorem dX8_lookAtLetters_42 : decode cX8_lookAtLetters 42 = .ok (.dup, 1) := by decide +kernel
theorem dX8_lookAtLetters_43 : decode cX8_lookAtLetters 43 = .ok (.getfield 32, 3) := by decide +kernel
theorem dX8_lookAtLetters_46 : decode cX8_lookAtLetters 46 = .ok (.iconst 1, 1) := by decide +kernel
theorem dX8_lookAtLetters_47 : decode cX8_lookAtLetters 47 = .ok (.iadd, 1) := by decide +kernel
theorem dX8_lookAtLetters_48 : decode cX8_lookAtLetters 48 = .ok (.putfield 32, 3) := by decide +kernel
theorem dX8_lookAtLetters_51 : decode cX8_lookAtLetters 51 = .ok (.goto (-39), 3) := by decide +kernel
theorem dX8_lookAtLetters_54 : decode cX8_lookAtLetters 54 = .ok (.aload_n 0, 1) := by decide +kernel
theorem dX8_lookAtLetters_55 : decode cX8_lookAtLetters 55 = .ok (.iconst 1, 1) := by decide +kernel
theorem dX8_lookAtLetters_56 : decode cX8_lookAtLetters 56 = .ok (.putfield 38, 3) := by decide +kernel
theorem dX8_lookAtLetters_59 : decode cX8_lookAtLetters 59 = .ok (.aload_n 0, 1) := by decide +kernel
theorem dX8_lookAtLetters_60 : decode cX8_lookAtLetters 60 = .ok (.iload_n 2, 1) := by decide +kernel
theorem dX8_lookAtLetters_61 : decode cX8_lookAtLetters 61 = .ok (.iconst 1, 1) := by decide +kernel
theorem dX8_lookAtLetters_62 : decode cX8_lookAtLetters 62 = .ok (.if_icmp .ne 7, 3) := by decide +kernel
theorem dX8_lookAtLetters_65 : decode cX8_lookAtLetters 65 = .ok (.iload_n 1, 1) := by decide +kernel
theorem dX8_lookAtLetters_66 : decode cX8_lookAtLetters 66 = .ok (.goto 4, 3) := by decide +kernel
theorem dX8_lookAtLetters_69 : decode cX8_lookAtLetters 69 = .ok (.iconst 0, 1) := by decide +kernel
theorem dX8_lookAtLetters_70 : decode cX8_lookAtLetters 70 = .ok (.putfield 45, 3) := by decide +kernel
theorem dX8_lookAtLetters_73 : decode cX8_lookAtLetters 73 = .ok (.return_, 1) := by decide +kernel
theorem dX8_lookAtNumber_0 : decode cX8_lookAtNumber 0 = .ok (.aload_n 0, 1) := by decide +kernel
theorem dX8_lookAtNumber_1 : decode cX8_lookAtNumber 1 = .ok (.getfield 9, 3) := by decide +kernel
theorem dX8_lookAtNumber_4 : decode cX8_lookAtNumber 4 = .ok (.aload_n 0, 1) := by decide +kernel
theorem dX8_lookAtNumber_5 : decode cX8_lookAtNumber 5 = .ok (.getfield 32, 3) := by decide +kernel
theorem dX8_lookAtNumber_8 : decode cX8_lookAtNumber 8 = .ok (.iaload, 1) := by decide +kernel
theorem dX8_lookAtNumber_9 : decode cX8_lookAtNumber 9 = .ok (.istore_n 1, 1) := by decide +kernel
theorem dX8_lookAtNumber_10 : decode cX8_lookAtNumber 10 = .ok (.iconst 0, 1) := by decide +kernel
theorem dX8_lookAtNumber_11 : decode cX8_lookAtNumber 11 = .ok (.istore_n 2, 1) := by decide +kernel
theorem dX8_lookAtNumber_12 : decode cX8_lookAtNumber 12 = .ok (.aload_n 0, 1) := by decide +kernel
theorem dX8_lookAtNumber_13 : decode cX8_lookAtNumber 13 = .ok (.iconst 0, 1) := by decide +kernel
theorem dX8_lookAtNumber_14 : decode cX8_lookAtNumber 14 = .ok (.putfield 45, 3) := by decide +kernel
theorem dX8_lookAtNumber_17 : decode cX8_lookAtNumber 17 = .ok (.aload_n 0, 1) := by decide +kernel
theorem dX8_lookAtNumber_18 : decode cX8_lookAtNumber 18 = .ok (.getfield 32, 3) := by decide +kernel
theorem dX8_lookAtNumber_21 : decode cX8_lookAtNumber 21 = .ok (.aload_n 0, 1) := by decide +kernel
theorem dX8_lookAtNumber_22 : decode cX8_lookAtNumber 22 = .ok (.getfield 74, 3) := by decide +kernel
theorem dX8_lookAtNumber_25 : decode cX8_lookAtNumber 25 = .ok (.if_icmp .ge 63, 3) := by decide +kernel
theorem dX8_lookAtNumber_28 : decode cX8_lookAtNumber 28 = .ok (.aload_n 0, 1) := by decide +kernel
theorem dX8_lookAtNumber_29 : decode cX8_lookAtNumber 29 = .ok (.getfield 9, 3) := by decide +kernel
theorem dX8_lookAtNumber_32 : decode cX8_lookAtNumber 32 = .ok (.aload_n 0, 1) := by decide +kernel
theorem dX8_lookAtNumber_33 : decode cX8_lookAtNumber 33 = .ok (.getfield 32, 3) := by decide +kernel
theorem dX8_lookAtNumber_36 : decode cX8_lookAtNumber 36 = .ok (.iaload, 1) := by decide +kernel
theorem dX8_lookAtNumber_37 : decode cX8_lookAtNumber 37 = .ok (.invokestatic 86, 3) := by decide +kernel
theorem dX8_lookAtNumber_40 : decode cX8_lookAtNumber 40 = .ok (.ifCond .eq 48, 3) := by decide +kernel
theorem dX8_lookAtNumber_43 : decode cX8_lookAtNumber 43 = .ok (.aload_n 0, 1) := by decide +kernel
theorem dX8_lookAtNumber_44 : decode cX8_lookAtNumber 44 = .ok (.aload_n 0, 1) := by decide +kernel
theorem dX8_lookAtNumber_45 : decode cX8_lookAtNumber 45 = .ok (.getfield 45, 3) := by decide +kernel
theorem dX8_lookAtNumber_48 : decode cX8_lookAtNumber 48 = .ok (.bipush 10, 2) := by decide +kernel
theorem dX8_lookAtNumber_50 : decode cX8_lookAtNumber 50 = .ok (.imul, 1) := by decide +kernel
theorem dX8_lookAtNumber_51 : decode cX8_lookAtNumber 51 = .ok (.aload_n 0, 1) := by decide +kernel
theorem dX8_lookAtNumber_52 : decode cX8_lookAtNumber 52 = .ok (.getfield 9, 3) := by decide +kernel
theorem dX8_lookAtNumber_55 : decode cX8_lookAtNumber 55 = .ok (.aload_n 0, 1) := by decide +kernel
theorem dX8_lookAtNumber_56 : decode cX8_lookAtNumber 56 = .ok (.getfield 32, 3) := by decide +kernel
theorem dX8_lookAtNumber_59 : decode cX8_lookAtNumber 59 = .ok (.iaload, 1) := by decide +kernel
theorem dX8_lookAtNumber_60 : decode cX8_lookAtNumber 60 = .ok (.iadd, 1) := by decide +kernel
theorem dX8_lookAtNumber_61 : decode cX8_lookAtNumber 61 = .ok (.bipush 48, 2) := by decide +kernel
theorem dX8_lookAtNumber_63 : decode cX8_lookAtNumber 63 = .ok (.isub, 1) := by decide +kernel
theorem dX8_lookAtNumber_64 : decode cX8_lookAtNumber 64 = .ok (.bipush 100, 2) := by decide +kernel
theorem dX8_lookAtNumber_66 : decode cX8_lookAtNumber 66 = .ok (.invokestatic 92, 3) := by decide +kernel
theorem dX8_lookAtNumber_69 : decode cX8_lookAtNumber 69 = .ok (.putfield 45, 3) := by decide +kernel
theorem dX8_lookAtNumber_72 : decode cX8_lookAtNumber 72 = .ok (.iinc 2 1, 3) := by decide +kernel
theorem dX8_lookAtNumber_75 : decode cX8_lookAtNumber 75 = .ok (.aload_n 0, 1) := by decide +kernel
theorem dX8_lookAtNumber_76 : decode cX8_lookAtNumber 76 = .ok (.dup, 1) := by decide +kernel
theorem dX8_lookAtNumber_77 : decode cX8_lookAtNumber 77 = .ok (.getfield 32, 3) := by decide +kernel
theorem dX8_lookAtNumber_80 : decode cX8_lookAtNumber 80 = .ok (.iconst 1, 1) := by decide +kernel
theorem dX8_lookAtNumber_81 : decode cX8_lookAtNumber 81 = .ok (.iadd, 1) := by decide +kernel
theorem dX8_lookAtNumber_82 : decode cX8_lookAtNumber 82 = .ok (.putfield 32, 3) := by decide +kernel
theorem dX8_lookAtNumber_85 : decode cX8_lookAtNumber 85 = .ok (.goto (-68), 3) := by decide +kernel
theorem dX8_lookAtNumber_88 : decode cX8_lookAtNumber 88 = .ok (.iload_n 1, 1) := by decide +kernel
theorem dX8_lookAtNumber_89 : decode cX8_lookAtNumber 89 = .ok (.bipush 48, 2) := by decide +kernel
theorem dX8_lookAtNumber_91 : decode cX8_lookAtNumber 91 = .ok (.if_icmp .ne 12, 3) := by decide +kernel
theorem dX8_lookAtNumber_94 : decode cX8_lookAtNumber 94 = .ok (.iload_n 2, 1) := by decide +kernel
theorem dX8_lookAtNumber_95 : decode cX8_lookAtNumber 95 = .ok (.iconst 1, 1) := by decide +kernel
theorem dX8_lookAtNumber_96 : decode cX8_lookAtNumber 96 = .ok (.if_icmp .le 7, 3) := by decide +kernel
theorem dX8_lookAtNumber_99 : decode cX8_lookAtNumber 99 = .ok (.iconst 1, 1) := by decide +kernel
theorem dX8_lookAtNumber_100 : decode cX8_lookAtNumber 100 = .ok (.goto 4, 3) := by decide +kernel
theorem dX8_lookAtNumber_103 : decode cX8_lookAtNumber 103 = .ok (.iconst 0, 1) := by decide +kernel
theorem dX8_lookAtNumber_104 : decode cX8_lookAtNumber 104 = .ok (.istore_n 3, 1) := by decide +kernel
theorem dX8_lookAtNumber_105 : decode cX8_lookAtNumber 105 = .ok (.aload_n 0, 1) := by decide +kernel
theorem dX8_lookAtNumber_106 : decode cX8_lookAtNumber 106 = .ok (.iload_n 3, 1) := by decide +kernel
theorem dX8_lookAtNumber_107 : decode cX8_lookAtNumber 107 = .ok (.ifCond .ne 12, 3) := by decide +kernel
theorem dX8_lookAtNumber_110 : decode cX8_lookAtNumber 110 = .ok (.aload_n 0, 1) := by decide +kernel
theorem dX8_lookAtNumber_111 : decode cX8_lookAtNumber 111 = .ok (.getfield 45, 3) := by decide +kernel
theorem dX8_lookAtNumber_114 : decode cX8_lookAtNumber 114 = .ok (.bipush 99, 2) := by decide +kernel
theorem dX8_lookAtNumber_116 : decode cX8_lookAtNumber 116 = .ok (.if_icmp .le 7, 3) := by decide +kernel
theorem dX8_lookAtNumber_119 : decode cX8_lookAtNumber 119 = .ok (.iconst 4, 1) := by decide +kernel
theorem dX8_lookAtNumber_120 : decode cX8_lookAtNumber 120 = .ok (.goto 4, 3) := by decide +kernel
theorem dX8_lookAtNumber_123 : decode cX8_lookAtNumber 123 = .ok (.iconst 2, 1) := by decide +kernel
theorem dX8_lookAtNumber_124 : decode cX8_lookAtNumber 124 = .ok (.putfield 38, 3) := by decide +kernel
theorem dX8_lookAtNumber_127 : decode cX8_lookAtNumber 127 = .ok (.return_, 1) := by decide +kernel
theorem dX8_readsAll_0 : decode cX8_readsAll 0 = .ok (.aload_n 0, 1) := by decide +kernel
theorem dX8_readsAll_1 : decode cX8_readsAll 1 = .ok (.getfield 18, 3) := by decide +kernel
theorem dX8_readsAll_4 : decode cX8_readsAll 4 = .ok (.iconst 0, 1) := by decide +kernel
theorem dX8_readsAll_5 : decode cX8_readsAll 5 = .ok (.putfield 25, 3) := by decide +kernel
theorem dX8_readsAll_8 : decode cX8_readsAll 8 = .ok (.aload_n 0, 1) := by decide +kernel
theorem dX8_readsAll_9 : decode cX8_readsAll 9 = .ok (.getfield 18, 3) := by decide +kernel
theorem dX8_readsAll_12 : decode cX8_readsAll 12 = .ok (.iconst 0, 1) := by decide +kernel
theorem dX8_readsAll_13 : decode cX8_readsAll 13 = .ok (.putfield 29, 3) := by decide +kernel
theorem dX8_readsAll_16 : decode cX8_readsAll 16 = .ok (.aload_n 0, 1) := by decide +kernel
theorem dX8_readsAll_17 : decode cX8_readsAll 17 = .ok (.iconst 0, 1) := by decide +kernel
theorem dX8_readsAll_18 : decode cX8_readsAll 18 = .ok (.putfield 32, 3) := by decide +kernel
theorem dX8_readsAll_21 : decode cX8_readsAll 21 = .ok (.aload_n 0, 1) := by decide +kernel
theorem dX8_readsAll_22 : decode cX8_readsAll 22 = .ok (.invokevirtual 35, 3) := by decide +kernel
theorem dX8_readsAll_25 : decode cX8_readsAll 25 = .ok (.iconst 0, 1) := by decide +kernel
theorem dX8_readsAll_26 : decode cX8_readsAll 26 = .ok (.istore_n 1, 1) := by decide +kernel
theorem dX8_readsAll_27 : decode cX8_readsAll 27 = .ok (.iload_n 1, 1) := by decide +kernel
theorem dX8_readsAll_28 : decode cX8_readsAll 28 = .ok (.sipush 150, 3) := by decide +kernel
theorem dX8_readsAll_31 : decode cX8_readsAll 31 = .ok (.if_icmp .ge 25, 3) := by decide +kernel
theorem dX8_readsAll_34 : decode cX8_readsAll 34 = .ok (.aload_n 0, 1) := by decide +kernel
theorem dX8_readsAll_35 : decode cX8_readsAll 35 = .ok (.getfield 38, 3) := by decide +kernel
theorem dX8_readsAll_38 : decode cX8_readsAll 38 = .ok (.ifCond .eq 18, 3) := by decide +kernel
theorem dX8_readsAll_41 : decode cX8_readsAll 41 = .ok (.aload_n 0, 1) := by decide +kernel
theorem dX8_readsAll_42 : decode cX8_readsAll 42 = .ok (.invokevirtual 41, 3) := by decide +kernel
theorem dX8_readsAll_45 : decode cX8_readsAll 45 = .ok (.ifCond .ne 5, 3) := by decide +kernel
theorem dX8_readsAll_48 : decode cX8_readsAll 48 = .ok (.iconst 0, 1) := by decide +kernel
theorem dX8_readsAll_49 : decode cX8_readsAll 49 = .ok (.ireturn, 1) := by decide +kernel
theorem dX8_readsAll_50 : decode cX8_readsAll 50 = .ok (.iinc 1 1, 3) := by decide +kernel
theorem dX8_readsAll_53 : decode cX8_readsAll 53 = .ok (.goto (-26), 3) := by decide +kernel
theorem dX8_readsAll_56 : decode cX8_readsAll 56 = .ok (.aload_n 0, 1) := by decide +kernel
theorem dX8_readsAll_57 : decode cX8_readsAll 57 = .ok (.getfield 38, 3) := by decide +kernel
theorem dX8_readsAll_60 : decode cX8_readsAll 60 = .ok (.ifCond .ne 7, 3) := by decide +kernel
theorem dX8_readsAll_63 : decode cX8_readsAll 63 = .ok (.iconst 1, 1) := by decide +kernel
theorem dX8_readsAll_64 : decode cX8_readsAll 64 = .ok (.goto 4, 3) := by decide +kernel
theorem dX8_readsAll_67 : decode cX8_readsAll 67 = .ok (.iconst 0, 1) := by decide +kernel
theorem dX8_readsAll_68 : decode cX8_readsAll 68 = .ok (.ireturn, 1) := by decide +kernel
end
section
theorem dX8_readsItem_0 : decode cX8_readsItem 0 = .ok (.aload_n 0, 1) := by decide +kernel
theorem dX8_readsItem_1 : decode cX8_readsItem 1 = .ok (.getfield 38, 3) := by decide +kernel
theorem dX8_readsItem_4 : decode cX8_readsItem 4 = .ok (.iconst 1, 1) := by decide +kernel
theorem dX8_readsItem_5 : decode cX8_readsItem 5 = .ok (.if_icmp .ne 28, 3) := by decide +kernel
theorem dX8_readsItem_8 : decode cX8_readsItem 8 = .ok (.aload_n 0, 1) := by decide +kernel
theorem dX8_readsItem_9 : decode cX8_readsItem 9 = .ok (.getfield 45, 3) := by decide +kernel
theorem dX8_readsItem_12 : decode cX8_readsItem 12 = .ok (.bipush 116, 2) := by decide +kernel
theorem dX8_readsItem_14 : decode cX8_readsItem 14 = .ok (.if_icmp .ne 19, 3) := by decide +kernel
theorem dX8_readsItem_17 : decode cX8_readsItem 17 = .ok (.aload_n 0, 1) := by decide +kernel
theorem dX8_readsItem_18 : decode cX8_readsItem 18 = .ok (.getfield 18, 3) := by decide +kernel
theorem dX8_readsItem_21 : decode cX8_readsItem 21 = .ok (.getfield 25, 3) := by decide +kernel
theorem dX8_readsItem_24 : decode cX8_readsItem 24 = .ok (.bipush 8, 2) := by decide +kernel
theorem dX8_readsItem_26 : decode cX8_readsItem 26 = .ok (.if_icmp .ge 7, 3) := by decide +kernel
theorem dX8_readsItem_29 : decode cX8_readsItem 29 = .ok (.iconst 1, 1) := by decide +kernel
theorem dX8_readsItem_30 : decode cX8_readsItem 30 = .ok (.goto 4, 3) := by decide +kernel
theorem dX8_readsItem_33 : decode cX8_readsItem 33 = .ok (.iconst 0, 1) := by decide +kernel
theorem dX8_readsItem_34 : decode cX8_readsItem 34 = .ok (.istore_n 1, 1) := by decide +kernel
theorem dX8_readsItem_35 : decode cX8_readsItem 35 = .ok (.aload_n 0, 1) := by decide +kernel
theorem dX8_readsItem_36 : decode cX8_readsItem 36 = .ok (.getfield 38, 3) := by decide +kernel
theorem dX8_readsItem_39 : decode cX8_readsItem 39 = .ok (.iconst 1, 1) := by decide +kernel
theorem dX8_readsItem_40 : decode cX8_readsItem 40 = .ok (.if_icmp .ne 28, 3) := by decide +kernel
theorem dX8_readsItem_43 : decode cX8_readsItem 43 = .ok (.aload_n 0, 1) := by decide +kernel
theorem dX8_readsItem_44 : decode cX8_readsItem 44 = .ok (.getfield 45, 3) := by decide +kernel
theorem dX8_readsItem_47 : decode cX8_readsItem 47 = .ok (.bipush 99, 2) := by decide +kernel
theorem dX8_readsItem_49 : decode cX8_readsItem 49 = .ok (.if_icmp .ne 19, 3) := by decide +kernel
theorem dX8_readsItem_52 : decode cX8_readsItem 52 = .ok (.aload_n 0, 1) := by decide +kernel
theorem dX8_readsItem_53 : decode cX8_readsItem 53 = .ok (.getfield 18, 3) := by decide +kernel
theorem dX8_readsItem_56 : decode cX8_readsItem 56 = .ok (.getfield 29, 3) := by decide +kernel
theorem dX8_readsItem_59 : decode cX8_readsItem 59 = .ok (.bipush 6, 2) := by decide +kernel
theorem dX8_readsItem_61 : decode cX8_readsItem 61 = .ok (.if_icmp .ge 7, 3) := by decide +kernel
theorem dX8_readsItem_64 : decode cX8_readsItem 64 = .ok (.iconst 1, 1) := by decide +kernel
theorem dX8_readsItem_65 : decode cX8_readsItem 65 = .ok (.goto 4, 3) := by decide +kernel
theorem dX8_readsItem_68 : decode cX8_readsItem 68 = .ok (.iconst 0, 1) := by decide +kernel
theorem dX8_readsItem_69 : decode cX8_readsItem 69 = .ok (.istore_n 2, 1) := by decide +kernel
theorem dX8_readsItem_70 : decode cX8_readsItem 70 = .ok (.iload_n 1, 1) := by decide +kernel
theorem dX8_readsItem_71 : decode cX8_readsItem 71 = .ok (.ifCond .ne 9, 3) := by decide +kernel
theorem dX8_readsItem_74 : decode cX8_readsItem 74 = .ok (.iload_n 2, 1) := by decide +kernel
theorem dX8_readsItem_75 : decode cX8_readsItem 75 = .ok (.ifCond .ne 5, 3) := by decide +kernel
theorem dX8_readsItem_78 : decode cX8_readsItem 78 = .ok (.iconst 0, 1) := by decide +kernel
theorem dX8_readsItem_79 : decode cX8_readsItem 79 = .ok (.ireturn, 1) := by decide +kernel
theorem dX8_readsItem_80 : decode cX8_readsItem 80 = .ok (.aload_n 0, 1) := by decide +kernel
theorem dX8_readsItem_81 : decode cX8_readsItem 81 = .ok (.invokevirtual 35, 3) := by decide +kernel
theorem dX8_readsItem_84 : decode cX8_readsItem 84 = .ok (.iload_n 1, 1) := by decide +kernel
theorem dX8_readsItem_85 : decode cX8_readsItem 85 = .ok (.ifCond .eq 7, 3) := by decide +kernel
theorem dX8_readsItem_88 : decode cX8_readsItem 88 = .ok (.iconst 5, 1) := by decide +kernel
theorem dX8_readsItem_89 : decode cX8_readsItem 89 = .ok (.goto 4, 3) := by decide +kernel
theorem dX8_readsItem_92 : decode cX8_readsItem 92 = .ok (.iconst 3, 1) := by decide +kernel
theorem dX8_readsItem_93 : decode cX8_readsItem 93 = .ok (.istore_n 3, 1) := by decide +kernel
theorem dX8_readsItem_94 : decode cX8_readsItem 94 = .ok (.iconst 0, 1) := by decide +kernel
theorem dX8_readsItem_95 : decode cX8_readsItem 95 = .ok (.istore 4, 2) := by decide +kernel
theorem dX8_readsItem_97 : decode cX8_readsItem 97 = .ok (.iload 4, 2) := by decide +kernel
theorem dX8_readsItem_99 : decode cX8_readsItem 99 = .ok (.iload_n 3, 1) := by decide +kernel
theorem dX8_readsItem_100 : decode cX8_readsItem 100 = .ok (.if_icmp .ge 51, 3) := by decide +kernel
theorem dX8_readsItem_103 : decode cX8_readsItem 103 = .ok (.iload_n 1, 1) := by decide +kernel
theorem dX8_readsItem_104 : decode cX8_readsItem 104 = .ok (.ifCond .eq 15, 3) := by decide +kernel
theorem dX8_readsItem_107 : decode cX8_readsItem 107 = .ok (.aload_n 0, 1) := by decide +kernel
theorem dX8_readsItem_108 : decode cX8_readsItem 108 = .ok (.iload 4, 2) := by decide +kernel
theorem dX8_readsItem_110 : decode cX8_readsItem 110 = .ok (.invokevirtual 48, 3) := by decide +kernel
theorem dX8_readsItem_113 : decode cX8_readsItem 113 = .ok (.ifCond .ne 17, 3) := by decide +kernel
theorem dX8_readsItem_116 : decode cX8_readsItem 116 = .ok (.goto 12, 3) := by decide +kernel
theorem dX8_readsItem_119 : decode cX8_readsItem 119 = .ok (.aload_n 0, 1) := by decide +kernel
theorem dX8_readsItem_120 : decode cX8_readsItem 120 = .ok (.iload 4, 2) := by decide +kernel
theorem dX8_readsItem_122 : decode cX8_readsItem 122 = .ok (.invokevirtual 52, 3) := by decide +kernel
theorem dX8_readsItem_125 : decode cX8_readsItem 125 = .ok (.ifCond .ne 5, 3) := by decide +kernel
theorem dX8_readsItem_128 : decode cX8_readsItem 128 = .ok (.iconst 0, 1) := by decide +kernel
theorem dX8_readsItem_129 : decode cX8_readsItem 129 = .ok (.ireturn, 1) := by decide +kernel
theorem dX8_readsItem_130 : decode cX8_readsItem 130 = .ok (.aload_n 0, 1) := by decide +kernel
theorem dX8_readsItem_131 : decode cX8_readsItem 131 = .ok (.getfield 22, 3) := by decide +kernel
theorem dX8_readsItem_134 : decode cX8_readsItem 134 = .ok (.iload 4, 2) := by decide +kernel
theorem dX8_readsItem_136 : decode cX8_readsItem 136 = .ok (.aload_n 0, 1) := by decide +kernel
theorem dX8_readsItem_137 : decode cX8_readsItem 137 = .ok (.getfield 45, 3) := by decide +kernel
theorem dX8_readsItem_140 : decode cX8_readsItem 140 = .ok (.iastore, 1) := by decide +kernel
theorem dX8_readsItem_141 : decode cX8_readsItem 141 = .ok (.aload_n 0, 1) := by decide +kernel
theorem dX8_readsItem_142 : decode cX8_readsItem 142 = .ok (.invokevirtual 35, 3) := by decide +kernel
theorem dX8_readsItem_145 : decode cX8_readsItem 145 = .ok (.iinc 4 1, 3) := by decide +kernel
theorem dX8_readsItem_148 : decode cX8_readsItem 148 = .ok (.goto (-51), 3) := by decide +kernel
theorem dX8_readsItem_151 : decode cX8_readsItem 151 = .ok (.aload_n 0, 1) := by decide +kernel
theorem dX8_readsItem_152 : decode cX8_readsItem 152 = .ok (.getfield 38, 3) := by decide +kernel
theorem dX8_readsItem_155 : decode cX8_readsItem 155 = .ok (.iconst 3, 1) := by decide +kernel
theorem dX8_readsItem_156 : decode cX8_readsItem 156 = .ok (.if_icmp .eq 5, 3) := by decide +kernel
theorem dX8_readsItem_159 : decode cX8_readsItem 159 = .ok (.iconst 0, 1) := by decide +kernel
theorem dX8_readsItem_160 : decode cX8_readsItem 160 = .ok (.ireturn, 1) := by decide +kernel
theorem dX8_readsItem_161 : decode cX8_readsItem 161 = .ok (.aload_n 0, 1) := by decide +kernel
theorem dX8_readsItem_162 : decode cX8_readsItem 162 = .ok (.invokevirtual 35, 3) := by decide +kernel
theorem dX8_readsItem_165 : decode cX8_readsItem 165 = .ok (.iload_n 1, 1) := by decide +kernel
theorem dX8_readsItem_166 : decode cX8_readsItem 166 = .ok (.ifCond .eq 17, 3) := by decide +kernel
theorem dX8_readsItem_169 : decode cX8_readsItem 169 = .ok (.aload_n 0, 1) := by decide +kernel
theorem dX8_readsItem_170 : decode cX8_readsItem 170 = .ok (.getfield 18, 3) := by decide +kernel
theorem dX8_readsItem_173 : decode cX8_readsItem 173 = .ok (.aload_n 0, 1) := by decide +kernel
theorem dX8_readsItem_174 : decode cX8_readsItem 174 = .ok (.getfield 22, 3) := by decide +kernel
theorem dX8_readsItem_177 : decode cX8_readsItem 177 = .ok (.invokevirtual 55, 3) := by decide +kernel
theorem dX8_readsItem_180 : decode cX8_readsItem 180 = .ok (.goto 14, 3) := by decide +kernel
theorem dX8_readsItem_183 : decode cX8_readsItem 183 = .ok (.aload_n 0, 1) := by decide +kernel
theorem dX8_readsItem_184 : decode cX8_readsItem 184 = .ok (.getfield 18, 3) := by decide +kernel
theorem dX8_readsItem_187 : decode cX8_readsItem 187 = .ok (.aload_n 0, 1) := by decide +kernel
theorem dX8_readsItem_188 : decode cX8_readsItem 188 = .ok (.getfield 22, 3) := by decide +kernel
theorem dX8_readsItem_191 : decode cX8_readsItem 191 = .ok (.invokevirtual 59, 3) := by decide +kernel
theorem dX8_readsItem_194 : decode cX8_readsItem 194 = .ok (.iconst 1, 1) := by decide +kernel
theorem dX8_readsItem_195 : decode cX8_readsItem 195 = .ok (.ireturn, 1) := by decide +kernel
theorem dX9_addCast_0 : decode cX9_addCast 0 = .ok (.aload_n 0, 1) := by decide +kernel
theorem dX9_addCast_1 : decode cX9_addCast 1 = .ok (.getfield 24, 3) := by decide +kernel
theorem dX9_addCast_4 : decode cX9_addCast 4 = .ok (.aload_n 0, 1) := by decide +kernel
theorem dX9_addCast_5 : decode cX9_addCast 5 = .ok (.getfield 37, 3) := by decide +kernel
theorem dX9_addCast_8 : decode cX9_addCast 8 = .ok (.aload_n 1, 1) := by decide +kernel
theorem dX9_addCast_9 : decode cX9_addCast 9 = .ok (.iconst 0, 1) := by decide +kernel
theorem dX9_addCast_10 : decode cX9_addCast 10 = .ok (.iaload, 1) := by decide +kernel
theorem dX9_addCast_11 : decode cX9_addCast 11 = .ok (.iastore, 1) := by decide +kernel
theorem dX9_addCast_12 : decode cX9_addCast 12 = .ok (.aload_n 0, 1) := by decide +kernel
theorem dX9_addCast_13 : decode cX9_addCast 13 = .ok (.getfield 27, 3) := by decide +kernel
theorem dX9_addCast_16 : decode cX9_addCast 16 = .ok (.aload_n 0, 1) := by decide +kernel
theorem dX9_addCast_17 : decode cX9_addCast 17 = .ok (.getfield 37, 3) := by decide +kernel
theorem dX9_addCast_20 : decode cX9_addCast 20 = .ok (.aload_n 1, 1) := by decide +kernel
theorem dX9_addCast_21 : decode cX9_addCast 21 = .ok (.iconst 1, 1) := by decide +kernel
theorem dX9_addCast_22 : decode cX9_addCast 22 = .ok (.iaload, 1) := by decide +kernel
theorem dX9_addCast_23 : decode cX9_addCast 23 = .ok (.iastore, 1) := by decide +kernel
theorem dX9_addCast_24 : decode cX9_addCast 24 = .ok (.aload_n 0, 1) := by decide +kernel
theorem dX9_addCast_25 : decode cX9_addCast 25 = .ok (.getfield 30, 3) := by decide +kernel
theorem dX9_addCast_28 : decode cX9_addCast 28 = .ok (.aload_n 0, 1) := by decide +kernel
theorem dX9_addCast_29 : decode cX9_addCast 29 = .ok (.getfield 37, 3) := by decide +kernel
theorem dX9_addCast_32 : decode cX9_addCast 32 = .ok (.aload_n 1, 1) := by decide +kernel
theorem dX9_addCast_33 : decode cX9_addCast 33 = .ok (.iconst 2, 1) := by decide +kernel
theorem dX9_addCast_34 : decode cX9_addCast 34 = .ok (.iaload, 1) := by decide +kernel
theorem dX9_addCast_35 : decode cX9_addCast 35 = .ok (.iastore, 1) := by decide +kernel
theorem dX9_addCast_36 : decode cX9_addCast 36 = .ok (.aload_n 0, 1) := by decide +kernel
theorem dX9_addCast_37 : decode cX9_addCast 37 = .ok (.dup, 1) := by decide +kernel
theorem dX9_addCast_38 : decode cX9_addCast 38 = .ok (.getfield 37, 3) := by decide +kernel
theorem dX9_addCast_41 : decode cX9_addCast 41 = .ok (.iconst 1, 1) := by decide +kernel
theorem dX9_addCast_42 : decode cX9_addCast 42 = .ok (.iadd, 1) := by decide +kernel
theorem dX9_addCast_43 : decode cX9_addCast 43 = .ok (.putfield 37, 3) := by decide +kernel
theorem dX9_addCast_46 : decode cX9_addCast 46 = .ok (.return_, 1) := by decide +kernel
theorem dX9_addThing_0 : decode cX9_addThing 0 = .ok (.aload_n 0, 1) := by decide +kernel
theorem dX9_addThing_1 : decode cX9_addThing 1 = .ok (.getfield 9, 3) := by decide +kernel
theorem dX9_addThing_4 : decode cX9_addThing 4 = .ok (.aload_n 0, 1) := by decide +kernel
theorem dX9_addThing_5 : decode cX9_addThing 5 = .ok (.getfield 33, 3) := by decide +kernel
theorem dX9_addThing_8 : decode cX9_addThing 8 = .ok (.aload_n 1, 1) := by decide +kernel
theorem dX9_addThing_9 : decode cX9_addThing 9 = .ok (.iconst 0, 1) := by decide +kernel
theorem dX9_addThing_10 : decode cX9_addThing 10 = .ok (.iaload, 1) := by decide +kernel
theorem dX9_addThing_11 : decode cX9_addThing 11 = .ok (.iastore, 1) := by decide +kernel
theorem dX9_addThing_12 : decode cX9_addThing 12 = .ok (.aload_n 0, 1) := by decide +kernel
theorem dX9_addThing_13 : decode cX9_addThing 13 = .ok (.getfield 15, 3) := by decide +kernel
theorem dX9_addThing_16 : decode cX9_addThing 16 = .ok (.aload_n 0, 1) := by decide +kernel
theorem dX9_addThing_17 : decode cX9_addThing 17 = .ok (.getfield 33, 3) := by decide +kernel
theorem dX9_addThing_20 : decode cX9_addThing 20 = .ok (.aload_n 1, 1) := by decide +kernel
theorem dX9_addThing_21 : decode cX9_addThing 21 = .ok (.iconst 1, 1) := by decide +kernel
theorem dX9_addThing_22 : decode cX9_addThing 22 = .ok (.iaload, 1) := by decide +kernel
theorem dX9_addThing_23 : decode cX9_addThing 23 = .ok (.iastore, 1) := by decide +kernel
theorem dX9_addThing_24 : decode cX9_addThing 24 = .ok (.aload_n 0, 1) := by decide +kernel
theorem dX9_addThing_25 : decode cX9_addThing 25 = .ok (.getfield 18, 3) := by decide +kernel
theorem dX9_addThing_28 : decode cX9_addThing 28 = .ok (.aload_n 0, 1) := by decide +kernel
theorem dX9_addThing_29 : decode cX9_addThing 29 = .ok (.getfield 33, 3) := by decide +kernel
theorem dX9_addThing_32 : decode cX9_addThing 32 = .ok (.aload_n 1, 1) := by decide +kernel
theorem dX9_addThing_33 : decode cX9_addThing 33 = .ok (.iconst 2, 1) := by decide +kernel
theorem dX9_addThing_34 : decode cX9_addThing 34 = .ok (.iaload, 1) := by decide +kernel
theorem dX9_addThing_35 : decode cX9_addThing 35 = .ok (.iastore, 1) := by decide +kernel
theorem dX9_addThing_36 : decode cX9_addThing 36 = .ok (.aload_n 0, 1) := by decide +kernel
theorem dX9_addThing_37 : decode cX9_addThing 37 = .ok (.getfield 21, 3) := by decide +kernel
theorem dX9_addThing_40 : decode cX9_addThing 40 = .ok (.aload_n 0, 1) := by decide +kernel
theorem dX9_addThing_41 : decode cX9_addThing 41 = .ok (.getfield 33, 3) := by decide +kernel
theorem dX9_addThing_44 : decode cX9_addThing 44 = .ok (.iconst 1, 1) := by decide +kernel
theorem dX9_addThing_45 : decode cX9_addThing 45 = .ok (.aload_n 1, 1) := by decide +kernel
theorem dX9_addThing_46 : decode cX9_addThing 46 = .ok (.iconst 3, 1) := by decide +kernel
theorem dX9_addThing_47 : decode cX9_addThing 47 = .ok (.iaload, 1) := by decide +kernel
theorem dX9_addThing_48 : decode cX9_addThing 48 = .ok (.ishl, 1) := by decide +kernel
theorem dX9_addThing_49 : decode cX9_addThing 49 = .ok (.iconst 1, 1) := by decide +kernel
theorem dX9_addThing_50 : decode cX9_addThing 50 = .ok (.aload_n 1, 1) := by decide +kernel
theorem dX9_addThing_51 : decode cX9_addThing 51 = .ok (.iconst 4, 1) := by decide +kernel
theorem dX9_addThing_52 : decode cX9_addThing 52 = .ok (.iaload, 1) := by decide +kernel
theorem dX9_addThing_53 : decode cX9_addThing 53 = .ok (.ishl, 1) := by decide +kernel
theorem dX9_addThing_54 : decode cX9_addThing 54 = .ok (.ior, 1) := by decide +kernel
theorem dX9_addThing_55 : decode cX9_addThing 55 = .ok (.iconst 1, 1) := by decide +kernel
theorem dX9_addThing_56 : decode cX9_addThing 56 = .ok (.aload_n 0, 1) := by decide +kernel
theorem dX9_addThing_57 : decode cX9_addThing 57 = .ok (.getfield 33, 3) := by decide +kernel
theorem dX9_addThing_60 : decode cX9_addThing 60 = .ok (.ishl, 1) := by decide +kernel
theorem dX9_addThing_61 : decode cX9_addThing 61 = .ok (.iconst (-1), 1) := by decide +kernel
theorem dX9_addThing_62 : decode cX9_addThing 62 = .ok (.ixor, 1) := by decide +kernel
theorem dX9_addThing_63 : decode cX9_addThing 63 = .ok (.iand, 1) := by decide +kernel
theorem dX9_addThing_64 : decode cX9_addThing 64 = .ok (.iastore, 1) := by decide +kernel
theorem dX9_addThing_65 : decode cX9_addThing 65 = .ok (.aload_n 0, 1) := by decide +kernel
theorem dX9_addThing_66 : decode cX9_addThing 66 = .ok (.dup, 1) := by decide +kernel
theorem dX9_addThing_67 : decode cX9_addThing 67 = .ok (.getfield 33, 3) := by decide +kernel
theorem dX9_addThing_70 : decode cX9_addThing 70 = .ok (.iconst 1, 1) := by decide +kernel
theorem dX9_addThing_71 : decode cX9_addThing 71 = .ok (.iadd, 1) := by decide +kernel
theorem dX9_addThing_72 : decode cX9_addThing 72 = .ok (.putfield 33, 3) := by decide +kernel
theorem dX9_addThing_75 : decode cX9_addThing 75 = .ok (.return_, 1) := by decide +kernel
theorem dX9_become_0 : decode cX9_become 0 = .ok (.aload_n 0, 1) := by decide +kernel
theorem dX9_become_1 : decode cX9_become 1 = .ok (.aload_n 1, 1) := by decide +kernel
theorem dX9_become_2 : decode cX9_become 2 = .ok (.getfield 33, 3) := by decide +kernel
theorem dX9_become_5 : decode cX9_become 5 = .ok (.putfield 33, 3) := by decide +kernel
theorem dX9_become_8 : decode cX9_become 8 = .ok (.aload_n 0, 1) := by decide +kernel
theorem dX9_become_9 : decode cX9_become 9 = .ok (.aload_n 1, 1) := by decide +kernel
theorem dX9_become_10 : decode cX9_become 10 = .ok (.getfield 37, 3) := by decide +kernel
theorem dX9_become_13 : decode cX9_become 13 = .ok (.putfield 37, 3) := by decide +kernel
theorem dX9_become_16 : decode cX9_become 16 = .ok (.aload_n 1, 1) := by decide +kernel
theorem dX9_become_17 : decode cX9_become 17 = .ok (.getfield 9, 3) := by decide +kernel
theorem dX9_become_20 : decode cX9_become 20 = .ok (.iconst 0, 1) := by decide +kernel
theorem dX9_become_21 : decode cX9_become 21 = .ok (.aload_n 0, 1) := by decide +kernel
theorem dX9_become_22 : decode cX9_become 22 = .ok (.getfield 9, 3) := by decide +kernel
theorem dX9_become_25 : decode cX9_become 25 = .ok (.iconst 0, 1) := by decide +kernel
theorem dX9_become_26 : decode cX9_become 26 = .ok (.bipush 8, 2) := by decide +kernel
theorem dX9_become_28 : decode cX9_become 28 = .ok (.invokestatic 40, 3) := by decide +kernel
theorem dX9_become_31 : decode cX9_become 31 = .ok (.aload_n 1, 1) := by decide +kernel
theorem dX9_become_32 : decode cX9_become 32 = .ok (.getfield 15, 3) := by decide +kernel
theorem dX9_become_35 : decode cX9_become 35 = .ok (.iconst 0, 1) := by decide +kernel
theorem dX9_become_36 : decode cX9_become 36 = .ok (.aload_n 0, 1) := by decide +kernel
theorem dX9_become_37 : decode cX9_become 37 = .ok (.getfield 15, 3) := by decide +kernel
theorem dX9_become_40 : decode cX9_become 40 = .ok (.iconst 0, 1) := by decide +kernel
theorem dX9_become_41 : decode cX9_become 41 = .ok (.bipush 8, 2) := by decide +kernel
theorem dX9_become_43 : decode cX9_become 43 = .ok (.invokestatic 40, 3) := by decide +kernel
theorem dX9_become_46 : decode cX9_become 46 = .ok (.aload_n 1, 1) := by decide +kernel
theorem dX9_become_47 : decode cX9_become 47 = .ok (.getfield 18, 3) := by decide +kernel
theorem dX9_become_50 : decode cX9_become 50 = .ok (.iconst 0, 1) := by decide +kernel
theorem dX9_become_51 : decode cX9_become 51 = .ok (.aload_n 0, 1) := by decide +kernel
theorem dX9_become_52 : decode cX9_become 52 = .ok (.getfield 18, 3) := by decide +kernel
theorem dX9_become_55 : decode cX9_become 55 = .ok (.iconst 0, 1) := by decide +kernel
theorem dX9_become_56 : decode cX9_become 56 = .ok (.bipush 8, 2) := by decide +kernel
theorem dX9_become_58 : decode cX9_become 58 = .ok (.invokestatic 40, 3) := by decide +kernel
theorem dX9_become_61 : decode cX9_become 61 = .ok (.aload_n 1, 1) := by decide +kernel
theorem dX9_become_62 : decode cX9_become 62 = .ok (.getfield 21, 3) := by decide +kernel
theorem dX9_become_65 : decode cX9_become 65 = .ok (.iconst 0, 1) := by decide +kernel
theorem dX9_become_66 : decode cX9_become 66 = .ok (.aload_n 0, 1) := by decide +kernel
theorem dX9_become_67 : decode cX9_become 67 = .ok (.getfield 21, 3) := by decide +kernel
theorem dX9_become_70 : decode cX9_become 70 = .ok (.iconst 0, 1) := by decide +kernel
theorem dX9_become_71 : decode cX9_become 71 = .ok (.bipush 8, 2) := by decide +kernel
theorem dX9_become_73 : decode cX9_become 73 = .ok (.invokestatic 40, 3) := by decide +kernel
theorem dX9_become_76 : decode cX9_become 76 = .ok (.aload_n 1, 1) := by decide +kernel
theorem dX9_become_77 : decode cX9_become 77 = .ok (.getfield 24, 3) := by decide +kernel
theorem dX9_become_80 : decode cX9_become 80 = .ok (.iconst 0, 1) := by decide +kernel
theorem dX9_become_81 : decode cX9_become 81 = .ok (.aload_n 0, 1) := by decide +kernel
theorem dX9_become_82 : decode cX9_become 82 = .ok (.getfield 24, 3) := by decide +kernel
theorem dX9_become_85 : decode cX9_become 85 = .ok (.iconst 0, 1) := by decide +kernel
theorem dX9_become_86 : decode cX9_become 86 = .ok (.bipush 6, 2) := by decide +kernel
theorem dX9_become_88 : decode cX9_become 88 = .ok (.invokestatic 40, 3) := by decide +kernel
theorem dX9_become_91 : decode cX9_become 91 = .ok (.aload_n 1, 1) := by decide +kernel
theorem dX9_become_92 : decode cX9_become 92 = .ok (.getfield 27, 3) := by decide +kernel
theorem dX9_become_95 : decode cX9_become 95 = .ok (.iconst 0, 1) := by decide +kernel
theorem dX9_become_96 : decode cX9_become 96 = .ok (.aload_n 0, 1) := by decide +kernel
theorem dX9_become_97 : decode cX9_become 97 = .ok (.getfield 27, 3) := by decide +kernel
theorem dX9_become_100 : decode cX9_become 100 = .ok (.iconst 0, 1) := by decide +kernel
theorem dX9_become_101 : decode cX9_become 101 = .ok (.bipush 6, 2) := by decide +kernel
theorem dX9_become_103 : decode cX9_become 103 = .ok (.invokestatic 40, 3) := by decide +kernel
theorem dX9_become_106 : decode cX9_become 106 = .ok (.aload_n 1, 1) := by decide +kernel
theorem dX9_become_107 : decode cX9_become 107 = .ok (.getfield 30, 3) := by decide +kernel
theorem dX9_become_110 : decode cX9_become 110 = .ok (.iconst 0, 1) := by decide +kernel
theorem dX9_become_111 : decode cX9_become 111 = .ok (.aload_n 0, 1) := by decide +kernel
theorem dX9_become_112 : decode cX9_become 112 = .ok (.getfield 30, 3) := by decide +kernel
theorem dX9_become_115 : decode cX9_become 115 = .ok (.iconst 0, 1) := by decide +kernel
theorem dX9_become_116 : decode cX9_become 116 = .ok (.bipush 6, 2) := by decide +kernel
theorem dX9_become_118 : decode cX9_become 118 = .ok (.invokestatic 40, 3) := by decide +kernel
theorem dX9_become_121 : decode cX9_become 121 = .ok (.return_, 1) := by decide +kernel
theorem dX9_init_0 : decode cX9_init 0 = .ok (.aload_n 0, 1) := by decide +kernel
theorem dX9_init_1 : decode cX9_init 1 = .ok (.invokespecial 3, 3) := by decide +kernel
theorem dX9_init_4 : decode cX9_init 4 = .ok (.aload_n 0, 1) := by decide +kernel
theorem dX9_init_5 : decode cX9_init 5 = .ok (.bipush 8, 2) := by decide +kernel
theorem dX9_init_7 : decode cX9_init 7 = .ok (.newarray .int, 2) := by decide +kernel
theorem dX9_init_9 : decode cX9_init 9 = .ok (.putfield 9, 3) := by decide +kernel
theorem dX9_init_12 : decode cX9_init 12 = .ok (.aload_n 0, 1) := by decide +kernel
theorem dX9_init_13 : decode cX9_init 13 = .ok (.bipush 8, 2) := by decide +kernel
theorem dX9_init_15 : decode cX9_init 15 = .ok (.newarray .int, 2) := by decide +kernel
theorem dX9_init_17 : decode cX9_init 17 = .ok (.putfield 15, 3) := by decide +kernel
theorem dX9_init_20 : decode cX9_init 20 = .ok (.aload_n 0, 1) := by decide +kernel
theorem dX9_init_21 : decode cX9_init 21 = .ok (.bipush 8, 2) := by decide +kernel
theorem dX9_init_23 : decode cX9_init 23 = .ok (.newarray .int, 2) := by decide +kernel
theorem dX9_init_25 : decode cX9_init 25 = .ok (.putfield 18, 3) := by decide +kernel
theorem dX9_init_28 : decode cX9_init 28 = .ok (.aload_n 0, 1) := by decide +kernel
theorem dX9_init_29 : decode cX9_init 29 = .ok (.bipush 8, 2) := by decide +kernel
theorem dX9_init_31 : decode cX9_init 31 = .ok (.newarray .int, 2) := by decide +kernel
theorem dX9_init_33 : decode cX9_init 33 = .ok (.putfield 21, 3) := by decide +kernel
theorem dX9_init_36 : decode cX9_init 36 = .ok (.aload_n 0, 1) := by decide +kernel
theorem dX9_init_37 : decode cX9_init 37 = .ok (.bipush 6, 2) := by decide +kernel
theorem dX9_init_39 : decode cX9_init 39 = .ok (.newarray .int, 2) := by decide +kernel
theorem dX9_init_41 : decode cX9_init 41 = .ok (.putfield 24, 3) := by decide +kernel
theorem dX9_init_44 : decode cX9_init 44 = .ok (.aload_n 0, 1) := by decide +kernel
theorem dX9_init_45 : decode cX9_init 45 = .ok (.bipush 6, 2) := by decide +kernel
theorem dX9_init_47 : decode cX9_init 47 = .ok (.newarray .int, 2) := by decide +kernel
theorem dX9_init_49 : decode cX9_init 49 = .ok (.putfield 27, 3) := by decide +kernel
theorem dX9_init_52 : decode cX9_init 52 = .ok (.aload_n 0, 1) := by decide +kernel
theorem dX9_init_53 : decode cX9_init 53 = .ok (.bipush 6, 2) := by decide +kernel
theorem dX9_init_55 : decode cX9_init 55 = .ok (.newarray .int, 2) := by decide +kernel
theorem dX9_init_57 : decode cX9_init 57 = .ok (.putfield 30, 3) := by decide +kernel
theorem dX9_init_60 : decode cX9_init 60 = .ok (.return_, 1) := by decide +kernel
end
section
/-! ===== the pure state of a world: the ints of each cell, and one long ===== -/
abbrev xU : Type := (Nat → Nat → Int32) × Int64
def sp (u : xU) (k : Nat) (f : Nat → Int32) : xU := (fun j => if j = k then f else u.1 j, u.2)
def sl (u : xU) (v : Int64) : xU := (u.1, v)
def b2i (b : Bool) : Int32 := match b with
  | true => 1
  | false => 0
theorem b2i_z (b : Bool) : narrow .boolean (.int (b2i b)) = .int (b2i b) := by cases b <;> rfl
/-! ===== the words ===== -/
def xT : List Cond := lw_tbl.filter goodWord
theorem xm {w : Cond} (i : Nat) (h : lw_tbl[i]? = some w) (g : goodWord w = true) : w ∈ xT := List.mem_filter.mpr ⟨List.mem_of_getElem? h, g⟩
theorem xTT : GoodIn xT xT := fun w h => ⟨h, good_of_word (List.mem_filter.mp h).2⟩
theorem xGc {w : Cond} (h : w ∈ xT) : GoodIn xT (w :: xT) := fun v hv => (List.mem_cons.mp hv).elim (fun e => by rw [e]; exact xTT _ h) (fun h => xTT _ h)
def xnl : List (String × Nat × MethodName × String) := [(RX10, 9, yX8_init, RX10), (RX8, 17, yX9_init, RX10), (RX10, 18, yX0_init, RX10), (RX0, 11, yX9_init, RX10), (RX10, 25, yX6_init, RX10), (RX10, 36, yX2_init, RX10), (RX2, 17, yX6_init, RX10), (RX0, 47, yX10_has, RX10), (RX7, 58, yX10_has, RX10), (RX5, 45, yX10_has, RX10)]
def xN (U : State) : Prop := ∀ q ∈ xnl, va_Nw (.methodLinkNest q.1 q.2.1 q.2.2.1 q.2.2.2) U
def xzn (k : Nat) : String := match k with
  | 0 => "THING_LEAST"
  | 1 => "THING_MOST"
  | 2 => "CAST_LEAST"
  | _ => "CAST_MOST"
def xzv (k j : Nat) : Int32 := match k with
  | 0 => (match j with | 0 => 0 | 1 => 1 | _ => 0)
  | 1 => (match j with | 0 => 9 | 1 => 30 | _ => 6)
  | 2 => (match j with | 0 => 1 | 1 => 1 | _ => 0)
  | _ => (match j with | 0 => 99 | 1 => 9 | _ => 63)
def xE (ts : Nat → Nat) (A : Nat → Prop) (U : State) : Prop := xN U ∧ ∀ k, k < 4 → va_Z RX8 (xzn k) "[I" (.ref (ts k)) A U U.heap ∧ va_T .int (ts k) 3 (fun j => .int (xzv k j)) A U U.heap
theorem xE.blind {ts : Nat → Nat} {A : Nat → Prop} {U : State} (h : xE ts A U) (g : JFrame) (mk : MethodId) (a : Array Value) : xE ts A (U.calling g mk a) :=
  ⟨fun q hq => va_Nw.same rfl rfl (h.1 q hq), fun k hk => ⟨va_Z.moved (u := U) (U := U.calling g mk a) (Vm.Alike.refl U.vm) (h.2 k hk).1, va_T.moved (u := U) (U := U.calling g mk a) (Vm.Alike.refl U.vm) (h.2 k hk).2⟩⟩
theorem xE.to {ts : Nat → Nat} {A B : Nat → Prop} {s U : State} {H : Heap} {locs : List Loc} (h : xE ts A s) (hS : va_S A s.heap H locs) (hU : U.heap = H) (hW : s.WarmedH U.vm) (hAB : ∀ q, B q → A q) : xE ts B U := by
  subst hU
  exact ⟨fun q hq => va_Nw.warmM hW (h.1 q hq), fun k hk => ⟨(va_Z.moved hW.alike ((h.2 k hk).1.kept hS.2.1)).narrow hAB, (va_T.moved hW.alike ((h.2 k hk).2.kept hS.2.1)).narrow hAB⟩⟩
/-! ===== worlds and contracts ===== -/
def xw (D : va_G) (wf : xU → va_W) (A : Nat → Prop) (H0 H : Heap) (locs : List Loc) (u : xU) : Prop := va_P D vwCl (wf u) H ∧ va_D A (wf u) ∧ va_S A H0 H locs
def xPre (D : va_G) (tys : List (ClassId × FieldType)) (wf : xU → va_W) (ts : Nat → Nat) (sz : Nat) (u : xU) (U : State) : Prop :=
  U.heap.size = sz ∧ va_P D vwCl (wf u) U.heap ∧ va_K D vwCl tys U ∧ va_D (va_A (wf u) sz) (wf u) ∧ xE ts (va_A (wf u) sz) U
def xPost (D : va_G) (wf : xU → va_W) (A : Nat → Prop) (v : xU) (t : State) : Prop := va_P D vwCl (wf v) t.heap ∧ va_D A (wf v)
/-- a method that answers an int: the answer and the new state are V -/
def xMi (l : Launch) (y : MethodName) (cc : ByteArray) (n : Nat) (ret : Option FieldType) (rm : Room) (D : va_G) (tys : List (ClassId × FieldType)) (wf : xU → va_W) (ts : Nat → Nat) (av : List Value) (u : xU) (V : Int32 × xU) : Prop :=
  ∀ sz, Met l y (.code y cc n ret :: xT) rm (va_Pc av (xPre D tys wf ts sz u)) (va_Qi (fun r v => (r, v) = V) (xPost D wf (va_A (wf u) sz)) (va_A (wf u) sz)) 0 0 (va_A (wf u) sz)
def xMl (l : Launch) (y : MethodName) (cc : ByteArray) (n : Nat) (ret : Option FieldType) (rm : Room) (D : va_G) (tys : List (ClassId × FieldType)) (wf : xU → va_W) (ts : Nat → Nat) (av : List Value) (u : xU) (V : Int64 × xU) : Prop :=
  ∀ sz, Met l y (.code y cc n ret :: xT) rm (va_Pc av (xPre D tys wf ts sz u)) (va_Ql (fun r v => (r, v) = V) (xPost D wf (va_A (wf u) sz)) (va_A (wf u) sz)) 0 0 (va_A (wf u) sz)
def xMv (l : Launch) (y : MethodName) (cc : ByteArray) (n : Nat) (ret : Option FieldType) (rm : Room) (D : va_G) (tys : List (ClassId × FieldType)) (wf : xU → va_W) (ts : Nat → Nat) (av : List Value) (u : xU) (V : xU) : Prop :=
  ∀ sz, Met l y (.code y cc n ret :: xT) rm (va_Pc av (xPre D tys wf ts sz u)) (va_Qv (fun v => v = V) (xPost D wf (va_A (wf u) sz)) (va_A (wf u) sz)) 0 0 (va_A (wf u) sz)
/-- a static method of ints alone -/
def xP (l : Launch) (y : MethodName) (cc : ByteArray) (n : Nat) (ret : Option FieldType) (rm : Room) (av : List Value) (V : Int32) : Prop :=
  Met l y (.code y cc n ret :: xT) rm (va_Pc av (fun _ => True)) (va_Qi (fun r (_ : Unit) => r = V) (fun _ _ => True) (fun _ => False)) 0 0 (fun _ => False)
abbrev xRm (f n : Nat) : Room := { frames := f, cells := 0, slots := 0, locals := n }
theorem xPre.blind (D : va_G) (tys : List (ClassId × FieldType)) (wf : xU → va_W) (ts : Nat → Nat) (sz : Nat) (u : xU) (av : List Value) : FrameBlind (va_Pc av (xPre D tys wf ts sz u)) := fun a U g mk q => by
  obtain ⟨q0, q1, qP, qK, qD, qE⟩ := q
  exact ⟨q0, q1, qP, va_K.moved (u := U) (U := U.calling g mk a) (Vm.Alike.refl U.vm) qK, qD, qE.blind g mk a⟩
theorem xA {A0 : Nat → Prop} {ws : va_W} {H0 H : Heap} {locs : List Loc} (hD : va_D A0 ws) (hS : va_S A0 H0 H locs) (hA : ∀ q, H0.size ≤ q → A0 q) : ∀ q, va_A ws H.size q → A0 q := by
  intro q h
  rcases h with ⟨k, e, h⟩ | h
  · exact hD.2 k (q, e) h
  · exact hA q (Nat.le_trans hS.1 h)
/-- what a static, an instance method's words are -/
def xYs (y : MethodName) (cc : ByteArray) (n : Nat) (ret : Option FieldType) (k : Nat) : Prop := Cond.code y cc n ret ∈ xT ∧ Cond.static y ∈ xT ∧ Cond.initialized y.cls ∈ xT ∧ (y.cls ≠ "java/lang/invoke/MethodHandle" ∧ y.cls ≠ "java/lang/invoke/VarHandle" ∧ (parseMethodDescriptor y.desc).map (fun d => d.parameters.length) = some k)
def xYv (C : String) (y : MethodName) (cc : ByteArray) (n : Nat) (ret : Option FieldType) (k : Nat) : Prop := Cond.code y cc n ret ∈ xT ∧ Cond.instanceMethod y ∈ xT ∧ Cond.selects C y y ∈ xT ∧ Cond.initialized y.cls ∈ xT ∧ (y.cls ≠ "java/lang/invoke/MethodHandle" ∧ y.cls ≠ "java/lang/invoke/VarHandle" ∧ (parseMethodDescriptor y.desc).map (fun d => d.parameters.length) = some k)
section XW
variable {p : Program} {l : Launch} {e : Env} {R : Room} {s : State} {m : MethodId} {args : Array Value} {below : List Frame} {meth : Method} {c : Code} {H : Heap} {locs : List Loc} {cells slots : Nat} {Q : State → Prop}
variable {cc : ByteArray} {pc nL index : Nat} {ls : Array Slot} {rest : List Value} {own : String} {D : va_G} {tys : List (ClassId × FieldType)} {wf : xU → va_W} {ts : Nat → Nat} {A : Nat → Prop} {u : xU} {a ci : Nat} {fs : List Value} {C : String} {T : u_T} {N : Nat}
theorem xget (S : CallFix p m c cc nL s args xT own) (hK : va_K D vwCl tys s) (hw : xw D wf A s.heap H locs u) (q0 : Nat) (he : (wf u)[q0]? = some (a, .inr (ci, fs))) (hc : vwCl[ci]? = some (C, T, N)) (hin : ∀ w ∈ u_ws C T N, w ∈ xT) (k : Nat) (hk : k < N) (hlink : Cond.fieldLink own index (T k).1 (T k).2.1 (T k).2.2.1 ∈ xT) {v : Value} (hv : fs[k]? = some v) (hdg : decode cc pc = .ok (.getfield index, 3))
    (kk : W p l e R s m args below meth c H locs cells slots Q (F0 m (pc + 3) ls (v :: rest))) : W p l e R s m args below meth c H locs cells slots Q (F0 m pc ls (.ref a :: rest)) :=
  va_get S.1 S.2.1 S.2.2.2.2 hin S.2.2.2.1 hK hw.1 q0 he hc k hk (S.2.2.2.2 _ hlink) (fun _ h => h) hv hdg kk
theorem xputi (S : CallFix p m c cc nL s args xT own) (hK : va_K D vwCl tys s) (hw : xw D wf A s.heap H locs u) (q0 : Nat) (he : (wf u)[q0]? = some (a, .inr (ci, fs))) (hc : vwCl[ci]? = some (C, T, N)) (hin : ∀ w ∈ u_ws C T N, w ∈ xT) (ty0 : Nat → FieldType) (hty : ∀ k, k < N → parseFieldDescriptor (T k).2.2.1 = some (ty0 k)) (hnm : ∀ a, a < N → ∀ b, b < N → a ≠ b → (T a).2.1 ≠ (T b).2.1) (k : Nat) (hk : k < N) (hlink : Cond.fieldLink own index (T k).1 (T k).2.1 (T k).2.2.1 ∈ xT) (hfin : (T k).2.2.2 = false) {ty : FieldType} {x : Int32} (hd : parseFieldDescriptor (T k).2.2.1 = some ty) (hn : narrow ty (.int x) = .int x) (hfit : fits ty (.int x) = true) (hl : k < fs.length)
    (hset : (wf u).set q0 (a, .inr (ci, fs.set k (.int x))) = wf (sp u q0 (upd (u.1 q0) k x)))
    (hdg : decode cc pc = .ok (.putfield index, 3)) (kk : ∀ (H1 : Heap) (locs1 : List Loc), xw D wf A s.heap H1 locs1 (sp u q0 (upd (u.1 q0) k x)) → W p l e R s m args below meth c H1 locs1 cells slots Q (F0 m (pc + 3) ls rest)) : W p l e R s m args below meth c H locs cells slots Q (F0 m pc ls (.int x :: .ref a :: rest)) :=
  va_put S.1 S.2.1 S.2.2.2.2 hin ty0 hty hnm S.2.2.2.1 hK hw.1 hw.2.1 hw.2.2 q0 he hc k hk (S.2.2.2.2 _ hlink) (fun _ h => h) hfin hd hn hfit hl hdg (fun H1 locs1 h1 h2 h3 => kk H1 locs1 ⟨hset ▸ h1, hset ▸ h2, h3⟩)
theorem xputl (S : CallFix p m c cc nL s args xT own) (hK : va_K D vwCl tys s) (hw : xw D wf A s.heap H locs u) (q0 : Nat) (he : (wf u)[q0]? = some (a, .inr (ci, fs))) (hc : vwCl[ci]? = some (C, T, N)) (hin : ∀ w ∈ u_ws C T N, w ∈ xT) (ty0 : Nat → FieldType) (hty : ∀ k, k < N → parseFieldDescriptor (T k).2.2.1 = some (ty0 k)) (hnm : ∀ a, a < N → ∀ b, b < N → a ≠ b → (T a).2.1 ≠ (T b).2.1) (k : Nat) (hk : k < N) (hlink : Cond.fieldLink own index (T k).1 (T k).2.1 (T k).2.2.1 ∈ xT) (hfin : (T k).2.2.2 = false) {x : Int64} (hd : parseFieldDescriptor (T k).2.2.1 = some .long) (hl : k < fs.length)
    (hset : (wf u).set q0 (a, .inr (ci, fs.set k (.long x))) = wf (sl u x))
    (hdg : decode cc pc = .ok (.putfield index, 3)) (kk : ∀ (H1 : Heap) (locs1 : List Loc), xw D wf A s.heap H1 locs1 (sl u x) → W p l e R s m args below meth c H1 locs1 cells slots Q (F0 m (pc + 3) ls rest)) : W p l e R s m args below meth c H locs cells slots Q (F0 m pc ls (.long x :: .ref a :: rest)) :=
  va_put S.1 S.2.1 S.2.2.2.2 hin ty0 hty hnm S.2.2.2.1 hK hw.1 hw.2.1 hw.2.2 q0 he hc k hk (S.2.2.2.2 _ hlink) (fun _ h => h) hfin hd rfl rfl hl hdg (fun H1 locs1 h1 h2 h3 => kk H1 locs1 ⟨hset ▸ h1, hset ▸ h2, h3⟩)
theorem xald (S : CallFix p m c cc nL s args xT own) (hK : va_K D vwCl tys s) (hw : xw D wf A s.heap H locs u) (q0 t0 : Nat) {cA : ClassId} {n : Nat} {f : Nat → Int32} (ha : (wf u)[q0]? = some (a, .inl (cA, n, .inl f))) (ht : tys[t0]? = some (cA, .int)) {i : Int32} (hin : vp_in i n) (hdg : decode cc pc = .ok (.iaload, 1))
    (kk : W p l e R s m args below meth c H locs cells slots Q (F0 m (pc + 1) ls (.int (f i.toNatClampNeg) :: rest))) : W p l e R s m args below meth c H locs cells slots Q (F0 m pc ls (.int i :: .ref a :: rest)) :=
  va_iald S.1 S.2.1 hK hw.1 q0 t0 ha ht hin hdg kk
theorem xaldz (S : CallFix p m c cc nL s args xT own) (hK : va_K D vwCl tys s) (hw : xw D wf A s.heap H locs u) (q0 t0 : Nat) {cA : ClassId} {n : Nat} {f : Nat → Int32} (ha : (wf u)[q0]? = some (a, .inl (cA, n, .inl f))) (ht : tys[t0]? = some (cA, .boolean)) {i : Int32} (hin : vp_in i n) (hdg : decode cc pc = .ok (.baload, 1))
    (kk : W p l e R s m args below meth c H locs cells slots Q (F0 m (pc + 1) ls (.int (f i.toNatClampNeg) :: rest))) : W p l e R s m args below meth c H locs cells slots Q (F0 m pc ls (.int i :: .ref a :: rest)) :=
  va_zald S.1 S.2.1 hK hw.1 q0 t0 ha ht hin hdg kk
theorem xast (S : CallFix p m c cc nL s args xT own) (hK : va_K D vwCl tys s) (hw : xw D wf A s.heap H locs u) (q0 t0 : Nat) {cA : ClassId} {n : Nat} (ha : (wf u)[q0]? = some (a, .inl (cA, n, .inl (u.1 q0)))) (ht : tys[t0]? = some (cA, .int)) {i x : Int32} (hin : vp_in i n)
    (hset : (wf u).set q0 (a, .inl (cA, n, .inl (upd (u.1 q0) i.toNatClampNeg x))) = wf (sp u q0 (upd (u.1 q0) i.toNatClampNeg x))) (hdg : decode cc pc = .ok (.iastore, 1))
    (kk : ∀ (H1 : Heap) (locs1 : List Loc), xw D wf A s.heap H1 locs1 (sp u q0 (upd (u.1 q0) i.toNatClampNeg x)) → W p l e R s m args below meth c H1 locs1 cells slots Q (F0 m (pc + 1) ls rest)) : W p l e R s m args below meth c H locs cells slots Q (F0 m pc ls (.int x :: .int i :: .ref a :: rest)) :=
  va_iast S.1 S.2.1 hK hw.1 hw.2.1 hw.2.2 q0 t0 ha ht hin hdg (fun H1 locs1 h1 h2 h3 => kk H1 locs1 ⟨hset ▸ h1, hset ▸ h2, h3⟩)
theorem xastz (S : CallFix p m c cc nL s args xT own) (hK : va_K D vwCl tys s) (hw : xw D wf A s.heap H locs u) (q0 t0 : Nat) {cA : ClassId} {n : Nat} (ha : (wf u)[q0]? = some (a, .inl (cA, n, .inl (u.1 q0)))) (ht : tys[t0]? = some (cA, .boolean)) {i x : Int32} (hx : vp_nar .boolean x = x) (hin : vp_in i n)
    (hset : (wf u).set q0 (a, .inl (cA, n, .inl (upd (u.1 q0) i.toNatClampNeg x))) = wf (sp u q0 (upd (u.1 q0) i.toNatClampNeg x))) (hdg : decode cc pc = .ok (.bastore, 1))
    (kk : ∀ (H1 : Heap) (locs1 : List Loc), xw D wf A s.heap H1 locs1 (sp u q0 (upd (u.1 q0) i.toNatClampNeg x)) → W p l e R s m args below meth c H1 locs1 cells slots Q (F0 m (pc + 1) ls rest)) : W p l e R s m args below meth c H locs cells slots Q (F0 m pc ls (.int x :: .int i :: .ref a :: rest)) :=
  va_zast S.1 S.2.1 hK hw.1 hw.2.1 hw.2.2 q0 t0 ha ht hin hdg (fun H1 locs1 h1 h2 h3 => kk H1 locs1 ⟨hset ▸ hx ▸ h1, hset ▸ hx ▸ h2, h3⟩)
theorem xcpy (S : CallFix p m c cc nL s args xT own) (hlk : Cond.methodLink own index arraycopyName ∈ xT) (hnat : Cond.native arraycopyName ∈ xT) (hstat : Cond.static arraycopyName ∈ xT) (hini : Cond.initialized "java/lang/System" ∈ xT)
    (hK : va_K D vwCl tys s) (hw : xw D wf A s.heap H locs u) (hls : ls.size = nL) (q0 q1 t0 : Nat) {a0 : Nat} {cA : ClassId} {n0 n1 : Nat} {f : Nat → Int32} (ha0 : (wf u)[q0]? = some (a0, .inl (cA, n0, .inl f))) (ha1 : (wf u)[q1]? = some (a, .inl (cA, n1, .inl (u.1 q1)))) (ht : tys[t0]? = some (cA, .int))
    {x y n : Int32} (h1 : 0 ≤ x.toInt) (h2 : 0 ≤ y.toInt) (h3 : 0 ≤ n.toInt) (h4 : x.toInt + n.toInt ≤ n0) (h5 : y.toInt + n.toInt ≤ n1)
    (hR : 1 ≤ R.frames ∧ (rest.map fun v => v.category).sum + (nativeFrameWords "java/lang/System" "arraycopy" 5 + 11) ≤ R.locals)
    (hset : (wf u).set q1 (a, .inl (cA, n1, .inl (va_cpy f (u.1 q1) x.toNatClampNeg y.toNatClampNeg n.toNatClampNeg))) = wf (sp u q1 (va_cpy f (u.1 q1) x.toNatClampNeg y.toNatClampNeg n.toNatClampNeg))) (hdg : decode cc pc = .ok (.invokestatic index, 3))
    (kk : ∀ (H1 : Heap) (locs1 : List Loc), xw D wf A s.heap H1 locs1 (sp u q1 (va_cpy f (u.1 q1) x.toNatClampNeg y.toNatClampNeg n.toNatClampNeg)) → W p l e R s m args below meth c H1 locs1 cells slots Q (F0 m (pc + 3) ls rest)) : W p l e R s m args below meth c H locs cells slots Q (F0 m pc ls (.int n :: .int y :: .ref a :: .int x :: .ref a0 :: rest)) := by
  have nn : ∀ z : Int32, 0 ≤ z.toInt → ¬ z < 0 := fun z hz h => by
    have := Int32.lt_iff_toInt_lt.mp h
    have h0 : (0 : Int32).toInt = 0 := rfl
    omega
  have nc : ∀ z : Int32, 0 ≤ z.toInt → (z.toNatClampNeg : Int) = z.toInt := fun z hz => by
    show ((z.toInt.toNat : Nat) : Int) = _
    omega
  have e1 := nc x h1
  have e2 := nc y h2
  have e3 := nc n h3
  exact va_copyi S.1 S.2.1 (S.2.2.1.trans hls.symm) S.2.2.2.1 (S.2.2.2.2 _ hlk) (S.2.2.2.2 _ hnat) (S.2.2.2.2 _ hstat) (S.2.2.2.2 _ hini) hK hw.1 hw.2.1 hw.2.2 q0 q1 t0 t0 ha0 ha1 ht ht rfl (nn x h1) (nn y h2) (nn n h3) (by omega) (by omega) (fun _ _ => rfl) hR.1 hR.2 hdg (fun H1 locs1 g1 g2 g3 => kk H1 locs1 ⟨hset ▸ g1, hset ▸ g2, g3⟩)
/-! calls -/
theorem xcP {y : MethodName} {bytes : ByteArray} {maxL n : Nat} {ret : Option FieldType} {rm : Room} {As st0 : List Value} {V : Int32} (S : CallFix p m c cc nL s args xT own) (hw : xw D wf A s.heap H locs u) (hY : xYs y bytes maxL ret n) (hM : xP l y bytes maxL ret rm As V) (hlk : Cond.methodLink own index y ∈ xT) (hn : As.length = n) (hst : st0 = As.reverse ++ rest) (hls : ls.size = nL) (hz : rm.cells = 0 ∧ rm.slots = 0 ∧ rm.frames + 1 ≤ R.frames ∧ 8 + (maxL + 11) + rm.locals ≤ R.locals ∧ (rest.map fun v => v.category).sum ≤ 8 ∧ cells ≤ R.cells ∧ slots ≤ R.slots) (hdg : decode cc pc = .ok (.invokestatic index, 3))
    (kk : ∀ (H1 : Heap) (locs1 : List Loc), xw D wf A s.heap H1 locs1 u → W p l e R s m args below meth c H1 locs1 cells slots Q (F0 m (pc + 3) ls (.int V :: rest))) : W p l e R s m args below meth c H locs cells slots Q (F0 m pc ls st0) := by
  obtain ⟨hcode, hstat, hini, hd⟩ := hY
  obtain ⟨z1, z2, z3, z4, z5, z6, z7⟩ := hz
  refine va_calli (A0 := A) (H0 := s.heap) (va_runS (As := As) (rest := rest) S hM ⟨callB_of n S.2.2.2.2 (xGc hcode) rfl z1 z2 (S.2.2.2.2 _ hini) (S.2.2.2.2 _ hlk) hd ⟨z3, z4⟩, S.2.2.2.2 _ hstat⟩ ⟨fun a U g mk q => ⟨q.1, trivial⟩, fun U hU hW => ⟨rfl, trivial⟩⟩ rfl hn hls hst (lv_room z5) hdg ⟨z6, z7⟩) hw.2.2 (fun q _ h => h.elim) (fun q h => h.elim) (fun r v t H1 locs1 ht hvm hp hB hz1 hk1 hS => ?_)
  subst hp
  exact kk H1 locs1 ⟨hw.1.kept (fun k q hk => hk1 q.1 (hw.1 k q hk).lt (fun h => h)), hw.2.1, hS⟩
theorem xcPN {y : MethodName} {bytes : ByteArray} {maxL n : Nat} {ret : Option FieldType} {rm : Room} {As st0 : List Value} {V : Int32} {host : String} (S : CallFix p m c cc nL s args xT own) (hE : xE ts A s) (hw : xw D wf A s.heap H locs u) (hY : xYs y bytes maxL ret n) (hM : xP l y bytes maxL ret rm As V) (hlk : (own, index, y, host) ∈ xnl) (hn : As.length = n) (hst : st0 = As.reverse ++ rest) (hls : ls.size = nL) (hz : rm.cells = 0 ∧ rm.slots = 0 ∧ rm.frames + 1 ≤ R.frames ∧ 8 + (maxL + 11) + rm.locals ≤ R.locals ∧ (rest.map fun v => v.category).sum ≤ 8 ∧ cells ≤ R.cells ∧ slots ≤ R.slots) (hdg : decode cc pc = .ok (.invokestatic index, 3))
    (kk : ∀ (H1 : Heap) (locs1 : List Loc), xw D wf A s.heap H1 locs1 u → W p l e R s m args below meth c H1 locs1 cells slots Q (F0 m (pc + 3) ls (.int V :: rest))) : W p l e R s m args below meth c H locs cells slots Q (F0 m pc ls st0) := by
  obtain ⟨hcode, hstat, hini, hd⟩ := hY
  obtain ⟨z1, z2, z3, z4, z5, z6, z7⟩ := hz
  refine va_calli (A0 := A) (H0 := s.heap) (va_runSN (As := As) (rest := rest) S hM ⟨va_cnB n S.2.2.2.2 (xGc hcode) rfl z1 z2 (hE.1 _ hlk) (S.2.2.2.2 _ hini) hd ⟨z3, z4⟩, S.2.2.2.2 _ hstat, trivial⟩ ⟨fun a U g mk q => ⟨q.1, trivial⟩, fun U hU hW => ⟨rfl, trivial⟩⟩ rfl hn hls hst (lv_room z5) hdg ⟨z6, z7⟩) hw.2.2 (fun q _ h => h.elim) (fun q h => h.elim) (fun r v t H1 locs1 ht hvm hp hB hz1 hk1 hS => ?_)
  subst hp
  exact kk H1 locs1 ⟨hw.1.kept (fun k q hk => hk1 q.1 (hw.1 k q hk).lt (fun h => h)), hw.2.1, hS⟩
theorem xcVp {y : MethodName} {bytes : ByteArray} {maxL n : Nat} {ret : Option FieldType} {rm : Room} {As : List Value} {fc : FieldType} {b q0 : Nat} (hK : va_K D vwCl tys s) (hE : xE ts A s) (hA : ∀ q, s.heap.size ≤ q → A q) (hw : xw D wf A s.heap H locs u) (he : (wf u)[q0]? = some (b, .inr (ci, fs))) (hc : vwCl[ci]? = some (C, T, N)) : PreV s H C b (va_Pc (.ref b :: As) (xPre D tys wf ts H.size u)) As :=
  ⟨xPre.blind D tys wf ts H.size u _, va_recv hK hw.1 hc he, fun U hU hW => ⟨rfl, by rw [hU], by rw [hU]; exact hw.1, va_K.moved hW.alike hK, hw.2.1.self, hE.to hw.2.2 hU hW (xA hw.2.1 hw.2.2 hA)⟩⟩
theorem xcV {y : MethodName} {bytes : ByteArray} {maxL n : Nat} {ret : Option FieldType} {rm : Room} {As st0 : List Value} {V : Int32 × xU} {b : Nat} (S : CallFix p m c cc nL s args xT own) (hK : va_K D vwCl tys s) (hE : xE ts A s) (hA : ∀ q, s.heap.size ≤ q → A q) (hw : xw D wf A s.heap H locs u) (hY : xYv C y bytes maxL ret n) (hM : xMi l y bytes maxL ret rm D tys wf ts (.ref b :: As) u V) (q0 : Nat) (he : (wf u)[q0]? = some (b, .inr (ci, fs))) (hc : vwCl[ci]? = some (C, T, N)) (hlk : Cond.methodLink own index y ∈ xT) (hn : As.length = n) (hst : st0 = As.reverse ++ .ref b :: rest) (hls : ls.size = nL) (hz : rm.cells = 0 ∧ rm.slots = 0 ∧ rm.frames + 1 ≤ R.frames ∧ 8 + (maxL + 11) + rm.locals ≤ R.locals ∧ (rest.map fun v => v.category).sum ≤ 8 ∧ cells ≤ R.cells ∧ slots ≤ R.slots) (hdg : decode cc pc = .ok (.invokevirtual index, 3))
    (kk : ∀ (H1 : Heap) (locs1 : List Loc), xw D wf A s.heap H1 locs1 V.2 → W p l e R s m args below meth c H1 locs1 cells slots Q (F0 m (pc + 3) ls (.int V.1 :: rest))) : W p l e R s m args below meth c H locs cells slots Q (F0 m pc ls st0) := by
  obtain ⟨hcode, hinst, hsel, hini, hd⟩ := hY
  obtain ⟨z1, z2, z3, z4, z5, z6, z7⟩ := hz
  refine va_calli (A0 := A) (H0 := s.heap) (va_runV (As := As) (rest := rest) S (hM H.size) ⟨callB_of n S.2.2.2.2 (xGc hcode) rfl z1 z2 (S.2.2.2.2 _ hini) (S.2.2.2.2 _ hlk) hd ⟨z3, z4⟩, S.2.2.2.2 _ hinst, S.2.2.2.2 _ hsel⟩ (xcVp (y := y) (bytes := bytes) (maxL := maxL) (n := n) (ret := ret) (rm := rm) (fc := .int) hK hE hA hw he hc) rfl hn hls hst (lv_room z5) hdg ⟨z6, z7⟩) hw.2.2 (fun q _ h => xA hw.2.1 hw.2.2 hA q h) (xA hw.2.1 hw.2.2 hA) (fun r v t H1 locs1 ht hvm hp hB hz1 hk1 hS => ?_)
  subst hp
  exact kk H1 locs1 ⟨ht ▸ hB.1, hB.2.weaken (fun k q _ h => xA hw.2.1 hw.2.2 hA q.1 h), hS⟩
theorem xcVl {y : MethodName} {bytes : ByteArray} {maxL n : Nat} {ret : Option FieldType} {rm : Room} {As st0 : List Value} {V : Int64 × xU} {b : Nat} (S : CallFix p m c cc nL s args xT own) (hK : va_K D vwCl tys s) (hE : xE ts A s) (hA : ∀ q, s.heap.size ≤ q → A q) (hw : xw D wf A s.heap H locs u) (hY : xYv C y bytes maxL ret n) (hM : xMl l y bytes maxL ret rm D tys wf ts (.ref b :: As) u V) (q0 : Nat) (he : (wf u)[q0]? = some (b, .inr (ci, fs))) (hc : vwCl[ci]? = some (C, T, N)) (hlk : Cond.methodLink own index y ∈ xT) (hn : As.length = n) (hst : st0 = As.reverse ++ .ref b :: rest) (hls : ls.size = nL) (hz : rm.cells = 0 ∧ rm.slots = 0 ∧ rm.frames + 1 ≤ R.frames ∧ 8 + (maxL + 11) + rm.locals ≤ R.locals ∧ (rest.map fun v => v.category).sum ≤ 8 ∧ cells ≤ R.cells ∧ slots ≤ R.slots) (hdg : decode cc pc = .ok (.invokevirtual index, 3))
    (kk : ∀ (H1 : Heap) (locs1 : List Loc), xw D wf A s.heap H1 locs1 V.2 → W p l e R s m args below meth c H1 locs1 cells slots Q (F0 m (pc + 3) ls (.long V.1 :: rest))) : W p l e R s m args below meth c H locs cells slots Q (F0 m pc ls st0) := by
  obtain ⟨hcode, hinst, hsel, hini, hd⟩ := hY
  obtain ⟨z1, z2, z3, z4, z5, z6, z7⟩ := hz
  refine va_calll (A0 := A) (H0 := s.heap) (va_runV (As := As) (rest := rest) S (hM H.size) ⟨callB_of n S.2.2.2.2 (xGc hcode) rfl z1 z2 (S.2.2.2.2 _ hini) (S.2.2.2.2 _ hlk) hd ⟨z3, z4⟩, S.2.2.2.2 _ hinst, S.2.2.2.2 _ hsel⟩ (xcVp (y := y) (bytes := bytes) (maxL := maxL) (n := n) (ret := ret) (rm := rm) (fc := .int) hK hE hA hw he hc) rfl hn hls hst (lv_room z5) hdg ⟨z6, z7⟩) hw.2.2 (fun q _ h => xA hw.2.1 hw.2.2 hA q h) (xA hw.2.1 hw.2.2 hA) (fun r v t H1 locs1 ht hvm hp hB hz1 hk1 hS => ?_)
  subst hp
  exact kk H1 locs1 ⟨ht ▸ hB.1, hB.2.weaken (fun k q _ h => xA hw.2.1 hw.2.2 hA q.1 h), hS⟩
theorem xcVv {y : MethodName} {bytes : ByteArray} {maxL n : Nat} {ret : Option FieldType} {rm : Room} {As st0 : List Value} {V : xU} {b : Nat} (S : CallFix p m c cc nL s args xT own) (hK : va_K D vwCl tys s) (hE : xE ts A s) (hA : ∀ q, s.heap.size ≤ q → A q) (hw : xw D wf A s.heap H locs u) (hY : xYv C y bytes maxL ret n) (hM : xMv l y bytes maxL ret rm D tys wf ts (.ref b :: As) u V) (q0 : Nat) (he : (wf u)[q0]? = some (b, .inr (ci, fs))) (hc : vwCl[ci]? = some (C, T, N)) (hlk : Cond.methodLink own index y ∈ xT) (hn : As.length = n) (hst : st0 = As.reverse ++ .ref b :: rest) (hls : ls.size = nL) (hz : rm.cells = 0 ∧ rm.slots = 0 ∧ rm.frames + 1 ≤ R.frames ∧ 8 + (maxL + 11) + rm.locals ≤ R.locals ∧ (rest.map fun v => v.category).sum ≤ 8 ∧ cells ≤ R.cells ∧ slots ≤ R.slots) (hdg : decode cc pc = .ok (.invokevirtual index, 3))
    (kk : ∀ (H1 : Heap) (locs1 : List Loc), xw D wf A s.heap H1 locs1 V → W p l e R s m args below meth c H1 locs1 cells slots Q (F0 m (pc + 3) ls rest)) : W p l e R s m args below meth c H locs cells slots Q (F0 m pc ls st0) := by
  obtain ⟨hcode, hinst, hsel, hini, hd⟩ := hY
  obtain ⟨z1, z2, z3, z4, z5, z6, z7⟩ := hz
  refine va_callv (A0 := A) (H0 := s.heap) (va_runV (As := As) (rest := rest) S (hM H.size) ⟨callB_of n S.2.2.2.2 (xGc hcode) rfl z1 z2 (S.2.2.2.2 _ hini) (S.2.2.2.2 _ hlk) hd ⟨z3, z4⟩, S.2.2.2.2 _ hinst, S.2.2.2.2 _ hsel⟩ (xcVp (y := y) (bytes := bytes) (maxL := maxL) (n := n) (ret := ret) (rm := rm) (fc := .int) hK hE hA hw he hc) rfl hn hls hst (lv_room z5) hdg ⟨z6, z7⟩) hw.2.2 (fun q _ h => xA hw.2.1 hw.2.2 hA q h) (xA hw.2.1 hw.2.2 hA) (fun v t H1 locs1 ht hvm hp hB hz1 hk1 hS => ?_)
  subst hp
  exact kk H1 locs1 ⟨ht ▸ hB.1, hB.2.weaken (fun k q _ h => xA hw.2.1 hw.2.2 hA q.1 h), hS⟩
theorem xmax (S : CallFix p m c cc nL s args xT own) (hls : ls.size = nL) (hlk : Cond.methodLink own index Lib.Math.max.name ∈ xT) (hstat : Cond.static Lib.Math.max.name ∈ xT) (hini : Cond.initialized "java/lang/Math" ∈ xT) (hcode : Cond.code Lib.Math.max.name Lib.Math.max.code 2 (some .int) ∈ xT) (hz : 1 ≤ R.frames ∧ (rest.map fun v => v.category).sum + 13 ≤ R.locals ∧ cells ≤ R.cells ∧ slots ≤ R.slots) {x y : Int32} (hdg : decode cc pc = .ok (.invokestatic index, 3))
    (kk : W p l e R s m args below meth c H locs cells slots Q (F0 m (pc + 3) ls (.int (if x < y then y else x) :: rest))) : W p l e R s m args below meth c H locs cells slots Q (F0 m pc ls (.int y :: .int x :: rest)) :=
  va_mmax S.1 S.2.1 (S.2.2.1.trans hls.symm) S.2.2.2.1 (S.2.2.2.2 _ hlk) (S.2.2.2.2 _ hstat) (S.2.2.2.2 _ hini) (S.2.2.2.2 _ hcode) hz.1 hz.2.1 hz.2.2.1 hz.2.2.2 hdg kk
theorem xmin (S : CallFix p m c cc nL s args xT own) (hls : ls.size = nL) (hlk : Cond.methodLink own index Lib.Math.min.name ∈ xT) (hstat : Cond.static Lib.Math.min.name ∈ xT) (hini : Cond.initialized "java/lang/Math" ∈ xT) (hcode : Cond.code Lib.Math.min.name Lib.Math.min.code 2 (some .int) ∈ xT) (hz : 1 ≤ R.frames ∧ (rest.map fun v => v.category).sum + 13 ≤ R.locals ∧ cells ≤ R.cells ∧ slots ≤ R.slots) {x y : Int32} (hdg : decode cc pc = .ok (.invokestatic index, 3))
    (kk : W p l e R s m args below meth c H locs cells slots Q (F0 m (pc + 3) ls (.int (if y < x then y else x) :: rest))) : W p l e R s m args below meth c H locs cells slots Q (F0 m pc ls (.int y :: .int x :: rest)) :=
  va_mmin S.1 S.2.1 (S.2.2.1.trans hls.symm) S.2.2.2.1 (S.2.2.2.2 _ hlk) (S.2.2.2.2 _ hstat) (S.2.2.2.2 _ hini) (S.2.2.2.2 _ hcode) hz.1 hz.2.1 hz.2.2.1 hz.2.2.2 hdg kk
/-! ends -/
theorem xri {V : Int32 × xU} {r : Int32} (S : CallFix p m c cc nL s args xT own) (hr : meth.sig.returnType = some .int) (hlocks : meth.locks = false) (hw : xw D wf A s.heap H locs u) (hV : V = (r, u)) (hdg : decode cc pc = .ok (.ireturn, 1)) : W p l e R s m args below meth c H locs 0 0 (MQ below (va_Qi (fun r v => (r, v) = V) (xPost D wf A) A) args s 0 0 A) (F0 m pc ls [.int r]) :=
  W.iret (v := r) S.1 S.2.1 hr (fun t ht hW => ⟨⟨r, u, rfl, hV.symm, ht ▸ hw.1, hw.2.1⟩, hw.2.2.F ht⟩) hw.2.2.2.2 hdg hlocks
theorem xrz {V : Int32 × xU} {r : Int32} (S : CallFix p m c cc nL s args xT own) (hr : meth.sig.returnType = some .boolean) (hlocks : meth.locks = false) (hw : xw D wf A s.heap H locs u) (hn : narrow .boolean (.int r) = .int r) (hV : V = (r, u)) (hdg : decode cc pc = .ok (.ireturn, 1)) : W p l e R s m args below meth c H locs 0 0 (MQ below (va_Qi (fun r v => (r, v) = V) (xPost D wf A) A) args s 0 0 A) (F0 m pc ls [.int r]) :=
  W.zret (v := r) S.1 S.2.1 hr hn (fun t ht hW => ⟨⟨r, u, rfl, hV.symm, ht ▸ hw.1, hw.2.1⟩, hw.2.2.F ht⟩) hw.2.2.2.2 hdg hlocks
theorem xrl {V : Int64 × xU} {r : Int64} (S : CallFix p m c cc nL s args xT own) (hr : meth.sig.returnType = some .long) (hlocks : meth.locks = false) (hw : xw D wf A s.heap H locs u) (hV : V = (r, u)) (hdg : decode cc pc = .ok (.lreturn, 1)) : W p l e R s m args below meth c H locs 0 0 (MQ below (va_Ql (fun r v => (r, v) = V) (xPost D wf A) A) args s 0 0 A) (F0 m pc ls [.long r]) :=
  W.lret (v := r) S.1 S.2.1 hr (fun t ht hW => ⟨⟨r, u, rfl, hV.symm, ht ▸ hw.1, hw.2.1⟩, hw.2.2.F ht⟩) hw.2.2.2.2 hdg hlocks
theorem xrv {V : xU} (S : CallFix p m c cc nL s args xT own) (hr : meth.sig.returnType = none) (hlocks : meth.locks = false) (hw : xw D wf A s.heap H locs u) (hV : V = u) (hdg : decode cc pc = .ok (.return_, 1)) : W p l e R s m args below meth c H locs 0 0 (MQ below (va_Qv (fun v => v = V) (xPost D wf A) A) args s 0 0 A) (F0 m pc ls []) :=
  W.vret S.1 S.2.1 hr (fun t ht hW => ⟨⟨u, rfl, hV.symm, ht ▸ hw.1, hw.2.1⟩, hw.2.2.F ht⟩) hw.2.2.2.2 hdg hlocks
/-! the same of a static method of ints: its world is nothing -/
theorem yri {V r : Int32} (S : CallFix p m c cc nL s args xT own) (hr : meth.sig.returnType = some .int) (hlocks : meth.locks = false) (hw : xw D wf (fun _ => False) s.heap H locs u) (hV : V = r) (hdg : decode cc pc = .ok (.ireturn, 1)) : W p l e R s m args below meth c H locs 0 0 (MQ below (va_Qi (fun r (_ : Unit) => r = V) (fun _ _ => True) (fun _ => False)) args s 0 0 (fun _ => False)) (F0 m pc ls [.int r]) :=
  W.iret (v := r) S.1 S.2.1 hr (fun t ht hW => ⟨⟨r, (), rfl, hV.symm, trivial⟩, hw.2.2.F ht⟩) hw.2.2.2.2 hdg hlocks
theorem yrz {V r : Int32} (S : CallFix p m c cc nL s args xT own) (hr : meth.sig.returnType = some .boolean) (hlocks : meth.locks = false) (hw : xw D wf (fun _ => False) s.heap H locs u) (hn : narrow .boolean (.int r) = .int r) (hV : V = r) (hdg : decode cc pc = .ok (.ireturn, 1)) : W p l e R s m args below meth c H locs 0 0 (MQ below (va_Qi (fun r (_ : Unit) => r = V) (fun _ _ => True) (fun _ => False)) args s 0 0 (fun _ => False)) (F0 m pc ls [.int r]) :=
  W.zret (v := r) S.1 S.2.1 hr hn (fun t ht hW => ⟨⟨r, (), rfl, hV.symm, trivial⟩, hw.2.2.F ht⟩) hw.2.2.2.2 hdg hlocks
end XW
/-! entries -/
def xEnt (n : Nat) (av : List Value) (ls : Array Slot) : Prop := lv_has ls n (lv_args 0 av)
theorem xofP {l : Launch} {y : MethodName} {cc : ByteArray} {n : Nat} {ret : Option FieldType} {rm : Room} {av : List Value} {V : Int32} (own : String) (hown : y.cls = own) (hy : plainName y.cls = true) (hn : (lg_sl av).length ≤ n)
    (body : ∀ p e s m args below meth c ls H locs, CallFix p m c cc n s args xT own → meth.sig.returnType = ret → meth.locks = false → lv_has ls n (lv_args 0 av) → xw (fun _ => 0, fun _ _ => 0) (fun _ => []) (fun _ => False) s.heap H locs (fun _ _ => 0, 0) → W p l e rm s m args below meth c H locs 0 0 (MQ below (va_Qi (fun r (_ : Unit) => r = V) (fun _ _ => True) (fun _ => False)) args s 0 0 (fun _ => False)) (F0 m 0 ls [])) : xP l y cc n ret rm av V := by
  refine Met.ofW (cc := cc) (maxL := n) (ret := ret) hy rfl ?_
  intro p e s m args below meth c s₁ B hml hv
  obtain ⟨rfl, -⟩ := hv
  rw [lg_entry_eq]
  have hts := atoms_spec (ws := .code y cc n ret :: xT) B.pre
  refine body p e s m _ below meth c _ s.heap [] ⟨B.exec, B.bytes, hml, hown ▸ findClass_of_methodNamed B.named, fun w h => hts w (List.mem_cons_of_mem _ h)⟩ B.returns B.notSynchronized (lv_entry av hn) ⟨fun k q h => by simp at h, ⟨fun i j p q h => by simp at h, fun k q h => by simp at h⟩, va_S.rf⟩
section XO
variable {l : Launch} {y : MethodName} {cc : ByteArray} {n : Nat} {ret : Option FieldType} {rm : Room} {av : List Value} {D : va_G} {tys : List (ClassId × FieldType)} {wf : xU → va_W} {ts : Nat → Nat} {u : xU}
theorem xof {Qc : Nat → Array Value → State → Outcome → State → Prop} {sz : Nat} (own : String) (hown : y.cls = own) (hy : plainName y.cls = true) (hn : (lg_sl av).length ≤ n)
    (body : ∀ p e s m args below meth c ls H locs A, CallFix p m c cc n s args xT own → meth.sig.returnType = ret → meth.locks = false → lv_has ls n (lv_args 0 av) → va_K D vwCl tys s → xE ts A s → (∀ q, s.heap.size ≤ q → A q) → A = va_A (wf u) sz → xw D wf A s.heap H locs u → W p l e rm s m args below meth c H locs 0 0 (MQ below (Qc sz) args s 0 0 A) (F0 m 0 ls [])) : Met l y (.code y cc n ret :: xT) rm (va_Pc av (xPre D tys wf ts sz u)) (Qc sz) 0 0 (va_A (wf u) sz) := by
  refine Met.ofW (cc := cc) (maxL := n) (ret := ret) hy rfl ?_
  intro p e s m args below meth c s₁ B hml hv
  obtain ⟨rfl, hsz, hP, hK, hD, hE⟩ := hv
  rw [lg_entry_eq]
  have hts := atoms_spec (ws := .code y cc n ret :: xT) B.pre
  exact body p e s m _ below meth c _ s.heap [] _ ⟨B.exec, B.bytes, hml, hown ▸ findClass_of_methodNamed B.named, fun w h => hts w (List.mem_cons_of_mem _ h)⟩ B.returns B.notSynchronized (lv_entry av hn) hK hE (fun q h => Or.inr (hsz ▸ h)) rfl ⟨hP, hD, va_S.rf⟩
theorem xofi {V : Int32 × xU} (own : String) (hown : y.cls = own) (hy : plainName y.cls = true) (hn : (lg_sl av).length ≤ n)
    (body : ∀ p e s m args below meth c ls H locs A, CallFix p m c cc n s args xT own → meth.sig.returnType = ret → meth.locks = false → lv_has ls n (lv_args 0 av) → va_K D vwCl tys s → xE ts A s → (∀ q, s.heap.size ≤ q → A q) → xw D wf A s.heap H locs u → W p l e rm s m args below meth c H locs 0 0 (MQ below (va_Qi (fun r v => (r, v) = V) (xPost D wf A) A) args s 0 0 A) (F0 m 0 ls [])) : xMi l y cc n ret rm D tys wf ts av u V := fun sz =>
  xof (Qc := fun sz => va_Qi (fun r v => (r, v) = V) (xPost D wf (va_A (wf u) sz)) (va_A (wf u) sz)) own hown hy hn (fun p e s m args below meth c ls H locs A h1 h2 h3 h4 h5 h6 h7 h8 h9 => by subst h8; exact body p e s m args below meth c ls H locs _ h1 h2 h3 h4 h5 h6 h7 h9)
theorem xofl {V : Int64 × xU} (own : String) (hown : y.cls = own) (hy : plainName y.cls = true) (hn : (lg_sl av).length ≤ n)
    (body : ∀ p e s m args below meth c ls H locs A, CallFix p m c cc n s args xT own → meth.sig.returnType = ret → meth.locks = false → lv_has ls n (lv_args 0 av) → va_K D vwCl tys s → xE ts A s → (∀ q, s.heap.size ≤ q → A q) → xw D wf A s.heap H locs u → W p l e rm s m args below meth c H locs 0 0 (MQ below (va_Ql (fun r v => (r, v) = V) (xPost D wf A) A) args s 0 0 A) (F0 m 0 ls [])) : xMl l y cc n ret rm D tys wf ts av u V := fun sz =>
  xof (Qc := fun sz => va_Ql (fun r v => (r, v) = V) (xPost D wf (va_A (wf u) sz)) (va_A (wf u) sz)) own hown hy hn (fun p e s m args below meth c ls H locs A h1 h2 h3 h4 h5 h6 h7 h8 h9 => by subst h8; exact body p e s m args below meth c ls H locs _ h1 h2 h3 h4 h5 h6 h7 h9)
theorem xofv {V : xU} (own : String) (hown : y.cls = own) (hy : plainName y.cls = true) (hn : (lg_sl av).length ≤ n)
    (body : ∀ p e s m args below meth c ls H locs A, CallFix p m c cc n s args xT own → meth.sig.returnType = ret → meth.locks = false → lv_has ls n (lv_args 0 av) → va_K D vwCl tys s → xE ts A s → (∀ q, s.heap.size ≤ q → A q) → xw D wf A s.heap H locs u → W p l e rm s m args below meth c H locs 0 0 (MQ below (va_Qv (fun v => v = V) (xPost D wf A) A) args s 0 0 A) (F0 m 0 ls [])) : xMv l y cc n ret rm D tys wf ts av u V := fun sz =>
  xof (Qc := fun sz => va_Qv (fun v => v = V) (xPost D wf (va_A (wf u) sz)) (va_A (wf u) sz)) own hown hy hn (fun p e s m args below meth c ls H locs A h1 h2 h3 h4 h5 h6 h7 h8 h9 => by subst h8; exact body p e s m args below meth c ls H locs _ h1 h2 h3 h4 h5 h6 h7 h9)
end XO
end
section
theorem xin (ws : List Cond) (h : ws.all (fun w => decide (w ∈ lw_tbl) && goodWord w) = true) : ∀ w ∈ ws, w ∈ xT := fun w hw => by
  have h1 := List.all_eq_true.mp h w hw
  simp only [Bool.and_eq_true, decide_eq_true_eq] at h1
  exact List.mem_filter.mpr ⟨h1.1, h1.2⟩
theorem inX0 : ∀ w ∈ u_ws RX0 TX0 2, w ∈ xT := xin _ (by decide +kernel)
theorem inX1 : ∀ w ∈ u_ws RX1 TX1 4, w ∈ xT := xin _ (by decide +kernel)
theorem inX2 : ∀ w ∈ u_ws RX2 TX2 3, w ∈ xT := xin _ (by decide +kernel)
theorem inX3 : ∀ w ∈ u_ws RX3 TX3 2, w ∈ xT := xin _ (by decide +kernel)
theorem inX4 : ∀ w ∈ u_ws RX4 TX4 7, w ∈ xT := xin _ (by decide +kernel)
theorem inX5 : ∀ w ∈ u_ws RX5 TX5 3, w ∈ xT := xin _ (by decide +kernel)
theorem inX6 : ∀ w ∈ u_ws RX6 TX6 3, w ∈ xT := xin _ (by decide +kernel)
theorem inX7 : ∀ w ∈ u_ws RX7 TX7 3, w ∈ xT := xin _ (by decide +kernel)
theorem inX8 : ∀ w ∈ u_ws RX8 TX8 8, w ∈ xT := xin _ (by decide +kernel)
theorem inX9 : ∀ w ∈ u_ws RX9 TX9 9, w ∈ xT := xin _ (by decide +kernel)
theorem inX10 : ∀ w ∈ u_ws RX10 TX10 8, w ∈ xT := xin _ (by decide +kernel)
theorem inX11 : ∀ w ∈ u_ws RX11 TX11 32, w ∈ xT := xin _ (by decide +kernel)
theorem mlL_9 : Cond.methodLink RL 9 yX10_init ∈ xT := xm 66 (by decide +kernel) rfl
theorem mlX10_1 : Cond.methodLink RX10 1 objectInit ∈ xT := xm 69 (by decide +kernel) rfl
theorem mlX8_3 : Cond.methodLink RX8 3 objectInit ∈ xT := xm 77 (by decide +kernel) rfl
theorem mlX9_3 : Cond.methodLink RX9 3 objectInit ∈ xT := xm 83 (by decide +kernel) rfl
theorem mfX8_25 : Cond.fieldLink RX8 25 "CastGallery$Told" "things" "I" ∈ xT := xm 84 (by decide +kernel) rfl
theorem mfX9_33 : Cond.fieldLink RX9 33 "CastGallery$Told" "things" "I" ∈ xT := xm 85 (by decide +kernel) rfl
theorem mfX5_34 : Cond.fieldLink RX5 34 "CastGallery$Told" "things" "I" ∈ xT := xm 86 (by decide +kernel) rfl
theorem mfX7_39 : Cond.fieldLink RX7 39 "CastGallery$Told" "things" "I" ∈ xT := xm 87 (by decide +kernel) rfl
theorem mfX0_37 : Cond.fieldLink RX0 37 "CastGallery$Told" "things" "I" ∈ xT := xm 88 (by decide +kernel) rfl
theorem mfX1_50 : Cond.fieldLink RX1 50 "CastGallery$Told" "things" "I" ∈ xT := xm 89 (by decide +kernel) rfl
theorem mfX10_101 : Cond.fieldLink RX10 101 "CastGallery$Told" "things" "I" ∈ xT := xm 90 (by decide +kernel) rfl
theorem mfX5_28 : Cond.fieldLink RX5 28 "CastGallery$Told" "casts" "I" ∈ xT := xm 91 (by decide +kernel) rfl
theorem mfX8_29 : Cond.fieldLink RX8 29 "CastGallery$Told" "casts" "I" ∈ xT := xm 92 (by decide +kernel) rfl
theorem mfX9_37 : Cond.fieldLink RX9 37 "CastGallery$Told" "casts" "I" ∈ xT := xm 93 (by decide +kernel) rfl
theorem mfX1_32 : Cond.fieldLink RX1 32 "CastGallery$Told" "casts" "I" ∈ xT := xm 94 (by decide +kernel) rfl
theorem mfX0_41 : Cond.fieldLink RX0 41 "CastGallery$Told" "casts" "I" ∈ xT := xm 95 (by decide +kernel) rfl
theorem mfX10_106 : Cond.fieldLink RX10 106 "CastGallery$Told" "casts" "I" ∈ xT := xm 96 (by decide +kernel) rfl
theorem mfX9_9 : Cond.fieldLink RX9 9 "CastGallery$Told" "load" "[I" ∈ xT := xm 97 (by decide +kernel) rfl
theorem mfX7_55 : Cond.fieldLink RX7 55 "CastGallery$Told" "load" "[I" ∈ xT := xm 98 (by decide +kernel) rfl
theorem mfX10_113 : Cond.fieldLink RX10 113 "CastGallery$Told" "load" "[I" ∈ xT := xm 99 (by decide +kernel) rfl
theorem mfX0_96 : Cond.fieldLink RX0 96 "CastGallery$Told" "load" "[I" ∈ xT := xm 100 (by decide +kernel) rfl
theorem mfX9_15 : Cond.fieldLink RX9 15 "CastGallery$Told" "hard" "[I" ∈ xT := xm 101 (by decide +kernel) rfl
theorem mfX7_43 : Cond.fieldLink RX7 43 "CastGallery$Told" "hard" "[I" ∈ xT := xm 102 (by decide +kernel) rfl
theorem mfX10_116 : Cond.fieldLink RX10 116 "CastGallery$Told" "hard" "[I" ∈ xT := xm 103 (by decide +kernel) rfl
theorem mfX0_102 : Cond.fieldLink RX0 102 "CastGallery$Told" "hard" "[I" ∈ xT := xm 104 (by decide +kernel) rfl
theorem mfX9_18 : Cond.fieldLink RX9 18 "CastGallery$Told" "part" "[I" ∈ xT := xm 105 (by decide +kernel) rfl
theorem mfX10_119 : Cond.fieldLink RX10 119 "CastGallery$Told" "part" "[I" ∈ xT := xm 106 (by decide +kernel) rfl
theorem mfX0_52 : Cond.fieldLink RX0 52 "CastGallery$Told" "part" "[I" ∈ xT := xm 107 (by decide +kernel) rfl
theorem mfX9_21 : Cond.fieldLink RX9 21 "CastGallery$Told" "needs" "[I" ∈ xT := xm 108 (by decide +kernel) rfl
theorem mfX7_62 : Cond.fieldLink RX7 62 "CastGallery$Told" "needs" "[I" ∈ xT := xm 109 (by decide +kernel) rfl
theorem mfX10_122 : Cond.fieldLink RX10 122 "CastGallery$Told" "needs" "[I" ∈ xT := xm 110 (by decide +kernel) rfl
theorem mfX0_62 : Cond.fieldLink RX0 62 "CastGallery$Told" "needs" "[I" ∈ xT := xm 111 (by decide +kernel) rfl
theorem mfX9_24 : Cond.fieldLink RX9 24 "CastGallery$Told" "lime" "[I" ∈ xT := xm 112 (by decide +kernel) rfl
theorem mfX7_82 : Cond.fieldLink RX7 82 "CastGallery$Told" "lime" "[I" ∈ xT := xm 113 (by decide +kernel) rfl
theorem mfX10_132 : Cond.fieldLink RX10 132 "CastGallery$Told" "lime" "[I" ∈ xT := xm 114 (by decide +kernel) rfl
theorem mfX0_99 : Cond.fieldLink RX0 99 "CastGallery$Told" "lime" "[I" ∈ xT := xm 115 (by decide +kernel) rfl
theorem mfX9_27 : Cond.fieldLink RX9 27 "CastGallery$Told" "wit" "[I" ∈ xT := xm 116 (by decide +kernel) rfl
theorem mfX7_28 : Cond.fieldLink RX7 28 "CastGallery$Told" "wit" "[I" ∈ xT := xm 117 (by decide +kernel) rfl
theorem mfX10_135 : Cond.fieldLink RX10 135 "CastGallery$Told" "wit" "[I" ∈ xT := xm 118 (by decide +kernel) rfl
theorem mfX0_90 : Cond.fieldLink RX0 90 "CastGallery$Told" "wit" "[I" ∈ xT := xm 119 (by decide +kernel) rfl
theorem mfX9_30 : Cond.fieldLink RX9 30 "CastGallery$Told" "lacks" "[I" ∈ xT := xm 120 (by decide +kernel) rfl
theorem mfX0_29 : Cond.fieldLink RX0 29 "CastGallery$Told" "lacks" "[I" ∈ xT := xm 121 (by decide +kernel) rfl
theorem mfX8_9 : Cond.fieldLink RX8 9 "CastGallery$Reader" "text" "[I" ∈ xT := xm 142 (by decide +kernel) rfl
theorem mfX10_71 : Cond.fieldLink RX10 71 "CastGallery$Reader" "text" "[I" ∈ xT := xm 143 (by decide +kernel) rfl
theorem mfX10_67 : Cond.fieldLink RX10 67 "CastGallery$Reader" "length" "I" ∈ xT := xm 144 (by decide +kernel) rfl
theorem mfX8_74 : Cond.fieldLink RX8 74 "CastGallery$Reader" "length" "I" ∈ xT := xm 145 (by decide +kernel) rfl
theorem mfX8_18 : Cond.fieldLink RX8 18 "CastGallery$Reader" "read" "LCastGallery$Told;" ∈ xT := xm 146 (by decide +kernel) rfl
theorem mfX10_82 : Cond.fieldLink RX10 82 "CastGallery$Reader" "read" "LCastGallery$Told;" ∈ xT := xm 147 (by decide +kernel) rfl
theorem mfX10_79 : Cond.fieldLink RX10 79 "CastGallery$Reader" "start" "I" ∈ xT := xm 148 (by decide +kernel) rfl
theorem mfX8_77 : Cond.fieldLink RX8 77 "CastGallery$Reader" "start" "I" ∈ xT := xm 149 (by decide +kernel) rfl
theorem mfX8_32 : Cond.fieldLink RX8 32 "CastGallery$Reader" "next" "I" ∈ xT := xm 150 (by decide +kernel) rfl
theorem mfX8_38 : Cond.fieldLink RX8 38 "CastGallery$Reader" "sort" "I" ∈ xT := xm 151 (by decide +kernel) rfl
theorem mfX8_45 : Cond.fieldLink RX8 45 "CastGallery$Reader" "value" "I" ∈ xT := xm 152 (by decide +kernel) rfl
theorem mfX8_22 : Cond.fieldLink RX8 22 "CastGallery$Reader" "numbers" "[I" ∈ xT := xm 153 (by decide +kernel) rfl
theorem mlX0_3 : Cond.methodLink RX0 3 objectInit ∈ xT := xm 176 (by decide +kernel) rfl
theorem mlX0_20 : Cond.methodLink RX0 20 yX4_init ∈ xT := xm 181 (by decide +kernel) rfl
theorem mlX4_3 : Cond.methodLink RX4 3 objectInit ∈ xT := xm 184 (by decide +kernel) rfl
theorem mlX4_27 : Cond.methodLink RX4 27 yJ7_fill_53178 ∈ xT := xm 185 (by decide +kernel) rfl
theorem mfX4_33 : Cond.fieldLink RX4 33 "CastGallery$Moment" "night" "I" ∈ xT := xm 188 (by decide +kernel) rfl
theorem mfX3_69 : Cond.fieldLink RX3 69 "CastGallery$Moment" "night" "I" ∈ xT := xm 189 (by decide +kernel) rfl
theorem mfX10_176 : Cond.fieldLink RX10 176 "CastGallery$Moment" "night" "I" ∈ xT := xm 190 (by decide +kernel) rfl
theorem mfX0_84 : Cond.fieldLink RX0 84 "CastGallery$Moment" "night" "I" ∈ xT := xm 191 (by decide +kernel) rfl
theorem mfX4_37 : Cond.fieldLink RX4 37 "CastGallery$Moment" "broken" "I" ∈ xT := xm 192 (by decide +kernel) rfl
theorem mfX0_44 : Cond.fieldLink RX0 44 "CastGallery$Moment" "broken" "I" ∈ xT := xm 193 (by decide +kernel) rfl
theorem mfX10_182 : Cond.fieldLink RX10 182 "CastGallery$Moment" "broken" "I" ∈ xT := xm 194 (by decide +kernel) rfl
theorem mfX4_9 : Cond.fieldLink RX4 9 "CastGallery$Moment" "far" "[I" ∈ xT := xm 195 (by decide +kernel) rfl
theorem mfX7_50 : Cond.fieldLink RX7 50 "CastGallery$Moment" "far" "[I" ∈ xT := xm 196 (by decide +kernel) rfl
theorem mfX10_165 : Cond.fieldLink RX10 165 "CastGallery$Moment" "far" "[I" ∈ xT := xm 197 (by decide +kernel) rfl
theorem mfX0_87 : Cond.fieldLink RX0 87 "CastGallery$Moment" "far" "[I" ∈ xT := xm 198 (by decide +kernel) rfl
theorem mfX4_15 : Cond.fieldLink RX4 15 "CastGallery$Moment" "can" "[I" ∈ xT := xm 199 (by decide +kernel) rfl
theorem mfX3_50 : Cond.fieldLink RX3 50 "CastGallery$Moment" "can" "[I" ∈ xT := xm 200 (by decide +kernel) rfl
theorem mfX7_65 : Cond.fieldLink RX7 65 "CastGallery$Moment" "can" "[I" ∈ xT := xm 201 (by decide +kernel) rfl
theorem mfX10_153 : Cond.fieldLink RX10 153 "CastGallery$Moment" "can" "[I" ∈ xT := xm 202 (by decide +kernel) rfl
theorem mfX0_59 : Cond.fieldLink RX0 59 "CastGallery$Moment" "can" "[I" ∈ xT := xm 203 (by decide +kernel) rfl
theorem mfX4_18 : Cond.fieldLink RX4 18 "CastGallery$Moment" "lacks" "[I" ∈ xT := xm 204 (by decide +kernel) rfl
theorem mfX3_60 : Cond.fieldLink RX3 60 "CastGallery$Moment" "lacks" "[I" ∈ xT := xm 205 (by decide +kernel) rfl
theorem mfX0_51 : Cond.fieldLink RX0 51 "CastGallery$Moment" "lacks" "[I" ∈ xT := xm 206 (by decide +kernel) rfl
theorem mfX10_142 : Cond.fieldLink RX10 142 "CastGallery$Moment" "lacks" "[I" ∈ xT := xm 207 (by decide +kernel) rfl
theorem mfX4_21 : Cond.fieldLink RX4 21 "CastGallery$Moment" "cracks" "[I" ∈ xT := xm 208 (by decide +kernel) rfl
theorem mfX3_42 : Cond.fieldLink RX3 42 "CastGallery$Moment" "cracks" "[I" ∈ xT := xm 209 (by decide +kernel) rfl
theorem mfX7_76 : Cond.fieldLink RX7 76 "CastGallery$Moment" "cracks" "[I" ∈ xT := xm 210 (by decide +kernel) rfl
theorem mfX10_147 : Cond.fieldLink RX10 147 "CastGallery$Moment" "cracks" "[I" ∈ xT := xm 211 (by decide +kernel) rfl
theorem mfX0_93 : Cond.fieldLink RX0 93 "CastGallery$Moment" "cracks" "[I" ∈ xT := xm 212 (by decide +kernel) rfl
theorem mfX4_24 : Cond.fieldLink RX4 24 "CastGallery$Moment" "course" "[I" ∈ xT := xm 213 (by decide +kernel) rfl
theorem mfX10_159 : Cond.fieldLink RX10 159 "CastGallery$Moment" "course" "[I" ∈ xT := xm 214 (by decide +kernel) rfl
theorem mfX0_71 : Cond.fieldLink RX0 71 "CastGallery$Moment" "course" "[I" ∈ xT := xm 215 (by decide +kernel) rfl
theorem mfX0_12 : Cond.fieldLink RX0 12 "CastGallery$Hall" "told" "LCastGallery$Told;" ∈ xT := xm 231 (by decide +kernel) rfl
theorem mfX7_22 : Cond.fieldLink RX7 22 "CastGallery$Hall" "told" "LCastGallery$Told;" ∈ xT := xm 232 (by decide +kernel) rfl
theorem mfX5_22 : Cond.fieldLink RX5 22 "CastGallery$Hall" "told" "LCastGallery$Told;" ∈ xT := xm 233 (by decide +kernel) rfl
theorem mfX1_26 : Cond.fieldLink RX1 26 "CastGallery$Hall" "told" "LCastGallery$Told;" ∈ xT := xm 234 (by decide +kernel) rfl
theorem mfX10_98 : Cond.fieldLink RX10 98 "CastGallery$Hall" "told" "LCastGallery$Told;" ∈ xT := xm 235 (by decide +kernel) rfl
theorem mfX0_21 : Cond.fieldLink RX0 21 "CastGallery$Hall" "moment" "LCastGallery$Moment;" ∈ xT := xm 236 (by decide +kernel) rfl
theorem mfX7_46 : Cond.fieldLink RX7 46 "CastGallery$Hall" "moment" "LCastGallery$Moment;" ∈ xT := xm 237 (by decide +kernel) rfl
theorem mfX3_36 : Cond.fieldLink RX3 36 "CastGallery$Hall" "moment" "LCastGallery$Moment;" ∈ xT := xm 238 (by decide +kernel) rfl
theorem mfX10_138 : Cond.fieldLink RX10 138 "CastGallery$Hall" "moment" "LCastGallery$Moment;" ∈ xT := xm 239 (by decide +kernel) rfl
theorem mlX6_1 : Cond.methodLink RX6 1 objectInit ∈ xT := xm 250 (by decide +kernel) rfl
theorem mfX6_11 : Cond.fieldLink RX6 11 "CastGallery$Past" "rows" "[I" ∈ xT := xm 251 (by decide +kernel) rfl
theorem mfX6_15 : Cond.fieldLink RX6 15 "CastGallery$Past" "next" "I" ∈ xT := xm 252 (by decide +kernel) rfl
theorem mfX6_23 : Cond.fieldLink RX6 23 "CastGallery$Past" "held" "I" ∈ xT := xm 253 (by decide +kernel) rfl
theorem mfX10_90 : Cond.fieldLink RX10 90 "CastGallery$Past" "held" "I" ∈ xT := xm 254 (by decide +kernel) rfl
theorem mlX2_1 : Cond.methodLink RX2 1 objectInit ∈ xT := xm 268 (by decide +kernel) rfl
theorem mfX2_9 : Cond.fieldLink RX2 9 "CastGallery$Image" "row" "[I" ∈ xT := xm 271 (by decide +kernel) rfl
theorem mfX2_18 : Cond.fieldLink RX2 18 "CastGallery$Image" "past" "LCastGallery$Past;" ∈ xT := xm 272 (by decide +kernel) rfl
theorem mfX2_30 : Cond.fieldLink RX2 30 "CastGallery$Image" "kept" "Z" ∈ xT := xm 273 (by decide +kernel) rfl
theorem mfX10_94 : Cond.fieldLink RX10 94 "CastGallery$Image" "kept" "Z" ∈ xT := xm 274 (by decide +kernel) rfl
theorem mlX10_39 : Cond.methodLink RX10 39 yX7_init ∈ xT := xm 284 (by decide +kernel) rfl
theorem mlX7_3 : Cond.methodLink RX7 3 objectInit ∈ xT := xm 287 (by decide +kernel) rfl
theorem mfX7_18 : Cond.fieldLink RX7 18 "CastGallery$Planner" "hall" "LCastGallery$Hall;" ∈ xT := xm 288 (by decide +kernel) rfl
theorem mfX7_9 : Cond.fieldLink RX7 9 "CastGallery$Planner" "nightsFor" "[I" ∈ xT := xm 289 (by decide +kernel) rfl
theorem mfX7_15 : Cond.fieldLink RX7 15 "CastGallery$Planner" "cracksFor" "[I" ∈ xT := xm 290 (by decide +kernel) rfl
theorem mlX10_48 : Cond.methodLink RX10 48 yX5_init ∈ xT := xm 300 (by decide +kernel) rfl
theorem mlX5_3 : Cond.methodLink RX5 3 objectInit ∈ xT := xm 303 (by decide +kernel) rfl
theorem mfX5_18 : Cond.fieldLink RX5 18 "CastGallery$Owners" "hall" "LCastGallery$Hall;" ∈ xT := xm 304 (by decide +kernel) rfl
theorem mfX5_11 : Cond.fieldLink RX5 11 "CastGallery$Owners" "most" "[I" ∈ xT := xm 305 (by decide +kernel) rfl
theorem mfX5_15 : Cond.fieldLink RX5 15 "CastGallery$Owners" "may" "[I" ∈ xT := xm 306 (by decide +kernel) rfl
theorem mlX10_55 : Cond.methodLink RX10 55 yX1_init ∈ xT := xm 316 (by decide +kernel) rfl
theorem mlX1_3 : Cond.methodLink RX1 3 objectInit ∈ xT := xm 319 (by decide +kernel) rfl
theorem mfX1_18 : Cond.fieldLink RX1 18 "CastGallery$Hearsay" "hall" "LCastGallery$Hall;" ∈ xT := xm 320 (by decide +kernel) rfl
theorem mfX1_11 : Cond.fieldLink RX1 11 "CastGallery$Hearsay" "things" "[I" ∈ xT := xm 321 (by decide +kernel) rfl
theorem mfX1_15 : Cond.fieldLink RX1 15 "CastGallery$Hearsay" "cans" "[I" ∈ xT := xm 322 (by decide +kernel) rfl
theorem mfX1_22 : Cond.fieldLink RX1 22 "CastGallery$Hearsay" "held" "I" ∈ xT := xm 323 (by decide +kernel) rfl
theorem mfX10_93 : Cond.fieldLink RX10 93 "CastGallery$Hearsay" "held" "I" ∈ xT := xm 324 (by decide +kernel) rfl
theorem mlX10_62 : Cond.methodLink RX10 62 yX3_init ∈ xT := xm 336 (by decide +kernel) rfl
theorem mlX3_1 : Cond.methodLink RX3 1 objectInit ∈ xT := xm 339 (by decide +kernel) rfl
theorem mfX3_7 : Cond.fieldLink RX3 7 "CastGallery$Kinds" "hall" "LCastGallery$Hall;" ∈ xT := xm 340 (by decide +kernel) rfl
theorem mfX3_32 : Cond.fieldLink RX3 32 "CastGallery$Kinds" "traced" "J" ∈ xT := xm 341 (by decide +kernel) rfl
theorem mfX10_276 : Cond.fieldLink RX10 276 "CastGallery$Kinds" "traced" "J" ∈ xT := xm 342 (by decide +kernel) rfl
theorem mfX10_10 : Cond.fieldLink RX10 10 "CastGallery" "reader" "LCastGallery$Reader;" ∈ xT := xm 348 (by decide +kernel) rfl
theorem mfX10_19 : Cond.fieldLink RX10 19 "CastGallery" "hall" "LCastGallery$Hall;" ∈ xT := xm 349 (by decide +kernel) rfl
theorem mfX10_26 : Cond.fieldLink RX10 26 "CastGallery" "past" "LCastGallery$Past;" ∈ xT := xm 350 (by decide +kernel) rfl
theorem mfX10_32 : Cond.fieldLink RX10 32 "CastGallery" "images" "[LCastGallery$Image;" ∈ xT := xm 351 (by decide +kernel) rfl
theorem mfX10_42 : Cond.fieldLink RX10 42 "CastGallery" "planner" "LCastGallery$Planner;" ∈ xT := xm 352 (by decide +kernel) rfl
theorem mfX10_49 : Cond.fieldLink RX10 49 "CastGallery" "owners" "LCastGallery$Owners;" ∈ xT := xm 353 (by decide +kernel) rfl
theorem mfX10_56 : Cond.fieldLink RX10 56 "CastGallery" "hearsay" "LCastGallery$Hearsay;" ∈ xT := xm 354 (by decide +kernel) rfl
theorem mfX10_63 : Cond.fieldLink RX10 63 "CastGallery" "kinds" "LCastGallery$Kinds;" ∈ xT := xm 355 (by decide +kernel) rfl
theorem mlL_13 : Cond.methodLink RL 13 yX10_type ∈ xT := xm 373 (by decide +kernel) rfl
theorem mlL_18 : Cond.methodLink RL 18 yX10_clear ∈ xT := xm 377 (by decide +kernel) rfl
theorem mlL_23 : Cond.methodLink RL 23 yX10_hall ∈ xT := xm 381 (by decide +kernel) rfl
theorem mlX10_75 : Cond.methodLink RX10 75 yX8_readsAll ∈ xT := xm 385 (by decide +kernel) rfl
theorem mlX8_35 : Cond.methodLink RX8 35 yX8_look ∈ xT := xm 389 (by decide +kernel) rfl
theorem mlX8_80 : Cond.methodLink RX8 80 yX8_isLetter ∈ xT := xm 393 (by decide +kernel) rfl
theorem mlX8_83 : Cond.methodLink RX8 83 yX8_lookAtLetters ∈ xT := xm 396 (by decide +kernel) rfl
theorem mlX8_86 : Cond.methodLink RX8 86 yX8_isDigit ∈ xT := xm 400 (by decide +kernel) rfl
theorem mlX8_89 : Cond.methodLink RX8 89 yX8_lookAtNumber ∈ xT := xm 403 (by decide +kernel) rfl
theorem mlX8_92 : Cond.methodLink RX8 92 Lib.Math.min.name ∈ xT := xm 407 (by decide +kernel) rfl
theorem mlX8_41 : Cond.methodLink RX8 41 yX8_readsItem ∈ xT := xm 410 (by decide +kernel) rfl
theorem mlX8_48 : Cond.methodLink RX8 48 yX8_fitsThing ∈ xT := xm 414 (by decide +kernel) rfl
theorem mfX8_62 : Cond.fieldLink RX8 62 "CastGallery$Reader" "THING_LEAST" "[I" ∈ xT := xm 418 (by decide +kernel) rfl
theorem mfX8_65 : Cond.fieldLink RX8 65 "CastGallery$Reader" "THING_MOST" "[I" ∈ xT := xm 420 (by decide +kernel) rfl
theorem mlX8_52 : Cond.methodLink RX8 52 yX8_fitsCast ∈ xT := xm 422 (by decide +kernel) rfl
theorem mfX8_68 : Cond.fieldLink RX8 68 "CastGallery$Reader" "CAST_LEAST" "[I" ∈ xT := xm 426 (by decide +kernel) rfl
theorem mfX8_71 : Cond.fieldLink RX8 71 "CastGallery$Reader" "CAST_MOST" "[I" ∈ xT := xm 428 (by decide +kernel) rfl
theorem mlX8_55 : Cond.methodLink RX8 55 yX9_addThing ∈ xT := xm 430 (by decide +kernel) rfl
theorem mlX8_59 : Cond.methodLink RX8 59 yX9_addCast ∈ xT := xm 434 (by decide +kernel) rfl
theorem mlX10_86 : Cond.methodLink RX10 86 yX0_beginAs ∈ xT := xm 438 (by decide +kernel) rfl
theorem mlX0_25 : Cond.methodLink RX0 25 yX9_become ∈ xT := xm 442 (by decide +kernel) rfl
theorem mlX9_40 : Cond.methodLink RX9 40 arraycopyName ∈ xT := xm 446 (by decide +kernel) rfl
theorem mlX0_33 : Cond.methodLink RX0 33 yX4_begin ∈ xT := xm 449 (by decide +kernel) rfl
theorem mlX4_40 : Cond.methodLink RX4 40 arraycopyName ∈ xT := xm 453 (by decide +kernel) rfl
theorem mlL_27 : Cond.methodLink RL 27 yX10_thing ∈ xT := xm 454 (by decide +kernel) rfl
theorem mlX10_109 : Cond.methodLink RX10 109 yX0_isThing ∈ xT := xm 458 (by decide +kernel) rfl
theorem mlX10_125 : Cond.methodLink RX10 125 yX0_whoCan ∈ xT := xm 462 (by decide +kernel) rfl
theorem mlL_32 : Cond.methodLink RL 32 yX10_cast ∈ xT := xm 469 (by decide +kernel) rfl
theorem mlX10_129 : Cond.methodLink RX10 129 yX0_isCast ∈ xT := xm 473 (by decide +kernel) rfl
theorem mlX10_150 : Cond.methodLink RX10 150 yX0_isBroken ∈ xT := xm 477 (by decide +kernel) rfl
theorem mlX10_156 : Cond.methodLink RX10 156 yX0_allItMay ∈ xT := xm 481 (by decide +kernel) rfl
theorem mlX0_68 : Cond.methodLink RX0 68 yX0_may ∈ xT := xm 485 (by decide +kernel) rfl
theorem mlX0_55 : Cond.methodLink RX0 55 yX0_isBroken ∈ xT := xm 489 (by decide +kernel) rfl
theorem mlX0_65 : Cond.methodLink RX0 65 yX0_lacksPartOf ∈ xT := xm 490 (by decide +kernel) rfl
theorem mlX10_162 : Cond.methodLink RX10 162 yX10_orNone ∈ xT := xm 494 (by decide +kernel) rfl
theorem mlL_36 : Cond.methodLink RL 36 yX10_far ∈ xT := xm 497 (by decide +kernel) rfl
theorem mlL_40 : Cond.methodLink RL 40 yX10_sets ∈ xT := xm 501 (by decide +kernel) rfl
theorem mlX10_168 : Cond.methodLink RX10 168 yX0_may ∈ xT := xm 505 (by decide +kernel) rfl
theorem mlX10_172 : Cond.methodLink RX10 172 yX6_remember ∈ xT := xm 506 (by decide +kernel) rfl
theorem mlX6_19 : Cond.methodLink RX6 19 yX4_writeTo ∈ xT := xm 510 (by decide +kernel) rfl
theorem mlX6_26 : Cond.methodLink RX6 26 Lib.Math.min.name ∈ xT := xm 514 (by decide +kernel) rfl
theorem mlL_44 : Cond.methodLink RL 44 yX10_nights ∈ xT := xm 515 (by decide +kernel) rfl
theorem mlX10_179 : Cond.methodLink RX10 179 yX0_passNight ∈ xT := xm 519 (by decide +kernel) rfl
theorem mlX0_80 : Cond.methodLink RX0 80 yX0_attend ∈ xT := xm 523 (by decide +kernel) rfl
theorem mlX10_185 : Cond.methodLink RX10 185 yJ6_bitCount_0f7a4 ∈ xT := xm 527 (by decide +kernel) rfl
theorem mlL_48 : Cond.methodLink RL 48 yX10_mends ∈ xT := xm 533 (by decide +kernel) rfl
theorem mlL_52 : Cond.methodLink RL 52 yX10_joins ∈ xT := xm 537 (by decide +kernel) rfl
theorem mlX10_190 : Cond.methodLink RX10 190 yX10_has ∈ xT := xm 541 (by decide +kernel) rfl
theorem mlX10_193 : Cond.methodLink RX10 193 yX0_joinOn ∈ xT := xm 542 (by decide +kernel) rfl
theorem mlL_57 : Cond.methodLink RL 57 yX10_undo ∈ xT := xm 546 (by decide +kernel) rfl
theorem mlX10_197 : Cond.methodLink RX10 197 yX6_recall ∈ xT := xm 550 (by decide +kernel) rfl
theorem mlX6_32 : Cond.methodLink RX6 32 yX4_readFrom ∈ xT := xm 554 (by decide +kernel) rfl
theorem mlL_61 : Cond.methodLink RL 61 yX10_now ∈ xT := xm 558 (by decide +kernel) rfl
theorem mlX10_200 : Cond.methodLink RX10 200 yX0_whoIsInClass ∈ xT := xm 562 (by decide +kernel) rfl
theorem mlX10_204 : Cond.methodLink RX10 204 yX0_learntByAll ∈ xT := xm 566 (by decide +kernel) rfl
theorem mlX0_74 : Cond.methodLink RX0 74 yJ6_bitCount_0f7a4 ∈ xT := xm 570 (by decide +kernel) rfl
theorem mlX10_207 : Cond.methodLink RX10 207 yX0_leastTree ∈ xT := xm 571 (by decide +kernel) rfl
theorem mlX0_105 : Cond.methodLink RX0 105 yX0_stepTo ∈ xT := xm 575 (by decide +kernel) rfl
theorem mlX0_109 : Cond.methodLink RX0 109 yX0_unlikeParts ∈ xT := xm 579 (by decide +kernel) rfl
theorem mlX0_112 : Cond.methodLink RX0 112 Lib.Math.min.name ∈ xT := xm 583 (by decide +kernel) rfl
theorem mlL_65 : Cond.methodLink RL 65 yX10_plan ∈ xT := xm 584 (by decide +kernel) rfl
theorem mlX10_210 : Cond.methodLink RX10 210 yX7_toLearnFor ∈ xT := xm 588 (by decide +kernel) rfl
theorem mlX10_214 : Cond.methodLink RX10 214 yX7_reckon ∈ xT := xm 593 (by decide +kernel) rfl
theorem mlX7_33 : Cond.methodLink RX7 33 Lib.Math.max.name ∈ xT := xm 597 (by decide +kernel) rfl
theorem mlX10_218 : Cond.methodLink RX10 218 yX7_bears ∈ xT := xm 600 (by decide +kernel) rfl
theorem mlX7_68 : Cond.methodLink RX7 68 yX0_isBroken ∈ xT := xm 604 (by decide +kernel) rfl
theorem mlX7_72 : Cond.methodLink RX7 72 yX7_learnable ∈ xT := xm 605 (by decide +kernel) rfl
theorem mlX7_85 : Cond.methodLink RX7 85 yX0_lacksPartOf ∈ xT := xm 609 (by decide +kernel) rfl
theorem mlX7_79 : Cond.methodLink RX7 79 yX7_cracksOf ∈ xT := xm 610 (by decide +kernel) rfl
theorem mlX10_221 : Cond.methodLink RX10 221 yX7_nightsOf ∈ xT := xm 614 (by decide +kernel) rfl
theorem mlX10_224 : Cond.methodLink RX10 224 yX7_cracksOf ∈ xT := xm 618 (by decide +kernel) rfl
theorem mlX10_227 : Cond.methodLink RX10 227 yX7_learntAt ∈ xT := xm 619 (by decide +kernel) rfl
theorem mlL_69 : Cond.methodLink RL 69 yX10_best ∈ xT := xm 623 (by decide +kernel) rfl
theorem mlX10_230 : Cond.methodLink RX10 230 yX7_mostIn ∈ xT := xm 627 (by decide +kernel) rfl
theorem mlX7_88 : Cond.methodLink RX7 88 yX7_reckon ∈ xT := xm 631 (by decide +kernel) rfl
theorem mlX7_92 : Cond.methodLink RX7 92 yJ6_bitCount_0f7a4 ∈ xT := xm 632 (by decide +kernel) rfl
theorem mlX7_97 : Cond.methodLink RX7 97 yX7_isWhole ∈ xT := xm 633 (by decide +kernel) rfl
theorem mlX7_100 : Cond.methodLink RX7 100 yX7_nightsOf ∈ xT := xm 637 (by decide +kernel) rfl
theorem mlL_73 : Cond.methodLink RL 73 yX10_own ∈ xT := xm 638 (by decide +kernel) rfl
theorem mlX10_233 : Cond.methodLink RX10 233 yX5_weigh ∈ xT := xm 642 (by decide +kernel) rfl
theorem mlX5_37 : Cond.methodLink RX5 37 yX0_allItMay ∈ xT := xm 646 (by decide +kernel) rfl
theorem mlX5_41 : Cond.methodLink RX5 41 yX5_mostFrom ∈ xT := xm 647 (by decide +kernel) rfl
theorem mlX5_49 : Cond.methodLink RX5 49 Lib.Math.max.name ∈ xT := xm 652 (by decide +kernel) rfl
theorem mlX10_236 : Cond.methodLink RX10 236 yX5_mostSet ∈ xT := xm 653 (by decide +kernel) rfl
theorem mlX10_239 : Cond.methodLink RX10 239 yX5_thingOf ∈ xT := xm 657 (by decide +kernel) rfl
theorem mlX5_54 : Cond.methodLink RX5 54 yX5_firstOf ∈ xT := xm 661 (by decide +kernel) rfl
theorem mlL_77 : Cond.methodLink RL 77 yX10_near ∈ xT := xm 665 (by decide +kernel) rfl
theorem mlX10_242 : Cond.methodLink RX10 242 yX0_unlikeParts ∈ xT := xm 669 (by decide +kernel) rfl
theorem mlL_81 : Cond.methodLink RL 81 yX10_odds ∈ xT := xm 670 (by decide +kernel) rfl
theorem mlX10_245 : Cond.methodLink RX10 245 yX10_waysToFall ∈ xT := xm 674 (by decide +kernel) rfl
theorem mlX10_249 : Cond.methodLink RX10 249 yX10_power ∈ xT := xm 677 (by decide +kernel) rfl
theorem mlX10_252 : Cond.methodLink RX10 252 yX10_commonDivisor ∈ xT := xm 680 (by decide +kernel) rfl
theorem mlX10_280 : Cond.methodLink RX10 280 Lib.Math.max.name ∈ xT := xm 683 (by decide +kernel) rfl
theorem mlL_85 : Cond.methodLink RL 85 yX10_hears ∈ xT := xm 684 (by decide +kernel) rfl
theorem mlX10_255 : Cond.methodLink RX10 255 yX1_add ∈ xT := xm 688 (by decide +kernel) rfl
theorem mlL_89 : Cond.methodLink RL 89 yX10_forget ∈ xT := xm 692 (by decide +kernel) rfl
theorem mlL_93 : Cond.methodLink RL 93 yX10_who ∈ xT := xm 696 (by decide +kernel) rfl
theorem mlX10_259 : Cond.methodLink RX10 259 yX1_suspects ∈ xT := xm 700 (by decide +kernel) rfl
theorem mlX1_37 : Cond.methodLink RX1 37 yX0_whoCan ∈ xT := xm 704 (by decide +kernel) rfl
theorem mlL_97 : Cond.methodLink RL 97 yX10_ask ∈ xT := xm 705 (by decide +kernel) rfl
theorem mlX10_262 : Cond.methodLink RX10 262 yX1_bestQuestion ∈ xT := xm 709 (by decide +kernel) rfl
theorem mlX1_41 : Cond.methodLink RX1 41 yX1_suspects ∈ xT := xm 713 (by decide +kernel) rfl
theorem mlX1_45 : Cond.methodLink RX1 45 yJ6_bitCount_0f7a4 ∈ xT := xm 714 (by decide +kernel) rfl
theorem mlX1_52 : Cond.methodLink RX1 52 Lib.Math.max.name ∈ xT := xm 715 (by decide +kernel) rfl
theorem mlL_101 : Cond.methodLink RL 101 yX10_mark ∈ xT := xm 716 (by decide +kernel) rfl
theorem mlX10_266 : Cond.methodLink RX10 266 yX3_asKind ∈ xT := xm 721 (by decide +kernel) rfl
theorem mlX3_13 : Cond.methodLink RX3 13 yX3_asApollo ∈ xT := xm 725 (by decide +kernel) rfl
theorem mlX3_29 : Cond.methodLink RX3 29 yX3_asCast ∈ xT := xm 730 (by decide +kernel) rfl
theorem mlX3_53 : Cond.methodLink RX3 53 yJ6_bitCount_0f7a4 ∈ xT := xm 734 (by decide +kernel) rfl
theorem mlX3_17 : Cond.methodLink RX3 17 yX3_asVenus ∈ xT := xm 735 (by decide +kernel) rfl
theorem mlX3_20 : Cond.methodLink RX3 20 yX3_asThrower ∈ xT := xm 740 (by decide +kernel) rfl
theorem mlX3_23 : Cond.methodLink RX3 23 yX3_asMuse ∈ xT := xm 745 (by decide +kernel) rfl
theorem mlX3_26 : Cond.methodLink RX3 26 yX3_asLoan ∈ xT := xm 750 (by decide +kernel) rfl
theorem mlL_105 : Cond.methodLink RL 105 yX10_keep ∈ xT := xm 755 (by decide +kernel) rfl
theorem mlX10_269 : Cond.methodLink RX10 269 yX2_take ∈ xT := xm 759 (by decide +kernel) rfl
theorem mlX2_22 : Cond.methodLink RX2 22 yX4_writeTo ∈ xT := xm 763 (by decide +kernel) rfl
theorem mlX2_26 : Cond.methodLink RX2 26 yX6_become ∈ xT := xm 764 (by decide +kernel) rfl
theorem mlX6_35 : Cond.methodLink RX6 35 arraycopyName ∈ xT := xm 768 (by decide +kernel) rfl
theorem mlL_109 : Cond.methodLink RL 109 yX10_back ∈ xT := xm 769 (by decide +kernel) rfl
theorem mlX10_273 : Cond.methodLink RX10 273 yX2_give ∈ xT := xm 773 (by decide +kernel) rfl
theorem mlX2_34 : Cond.methodLink RX2 34 yX4_readFrom ∈ xT := xm 777 (by decide +kernel) rfl
theorem mlL_113 : Cond.methodLink RL 113 yX10_count ∈ xT := xm 778 (by decide +kernel) rfl
theorem mlL_117 : Cond.methodLink RL 117 yX10_trace ∈ xT := xm 782 (by decide +kernel) rfl
theorem mlL_12 : Cond.methodLink RL 12 yX11_init ∈ xT := xm 788 (by decide +kernel) rfl
theorem mlX11_1 : Cond.methodLink RX11 1 objectInit ∈ xT := xm 791 (by decide +kernel) rfl
theorem mfX11_68 : Cond.fieldLink RX11 68 "CastGalleryModel" "things" "I" ∈ xT := xm 792 (by decide +kernel) rfl
theorem mfX11_7 : Cond.fieldLink RX11 7 "CastGalleryModel" "loads" "[I" ∈ xT := xm 793 (by decide +kernel) rfl
theorem mfX11_13 : Cond.fieldLink RX11 13 "CastGalleryModel" "hards" "[I" ∈ xT := xm 794 (by decide +kernel) rfl
theorem mfX11_16 : Cond.fieldLink RX11 16 "CastGalleryModel" "parts" "[I" ∈ xT := xm 795 (by decide +kernel) rfl
theorem mfX11_19 : Cond.fieldLink RX11 19 "CastGalleryModel" "needs" "[I" ∈ xT := xm 796 (by decide +kernel) rfl
theorem mfX11_76 : Cond.fieldLink RX11 76 "CastGalleryModel" "casts" "I" ∈ xT := xm 797 (by decide +kernel) rfl
theorem mfX11_22 : Cond.fieldLink RX11 22 "CastGalleryModel" "limes" "[I" ∈ xT := xm 798 (by decide +kernel) rfl
theorem mfX11_25 : Cond.fieldLink RX11 25 "CastGalleryModel" "wits" "[I" ∈ xT := xm 799 (by decide +kernel) rfl
theorem mfX11_28 : Cond.fieldLink RX11 28 "CastGalleryModel" "st" "[I" ∈ xT := xm 800 (by decide +kernel) rfl
theorem mfX11_31 : Cond.fieldLink RX11 31 "CastGalleryModel" "images" "[I" ∈ xT := xm 801 (by decide +kernel) rfl
theorem mfX11_34 : Cond.fieldLink RX11 34 "CastGalleryModel" "isKept" "[Z" ∈ xT := xm 802 (by decide +kernel) rfl
theorem mfX11_137 : Cond.fieldLink RX11 137 "CastGalleryModel" "heardMany" "I" ∈ xT := xm 803 (by decide +kernel) rfl
theorem mfX11_38 : Cond.fieldLink RX11 38 "CastGalleryModel" "heard" "[I" ∈ xT := xm 804 (by decide +kernel) rfl
theorem mfX11_226 : Cond.fieldLink RX11 226 "CastGalleryModel" "trace" "J" ∈ xT := xm 805 (by decide +kernel) rfl
theorem mfX11_41 : Cond.fieldLink RX11 41 "CastGalleryModel" "text" "[I" ∈ xT := xm 806 (by decide +kernel) rfl
theorem mfX11_79 : Cond.fieldLink RX11 79 "CastGalleryModel" "texted" "I" ∈ xT := xm 807 (by decide +kernel) rfl
theorem mfX11_82 : Cond.fieldLink RX11 82 "CastGalleryModel" "cursor" "I" ∈ xT := xm 808 (by decide +kernel) rfl
theorem mfX11_89 : Cond.fieldLink RX11 89 "CastGalleryModel" "start" "I" ∈ xT := xm 809 (by decide +kernel) rfl
theorem mfX11_95 : Cond.fieldLink RX11 95 "CastGalleryModel" "token" "I" ∈ xT := xm 810 (by decide +kernel) rfl
theorem mfX11_92 : Cond.fieldLink RX11 92 "CastGalleryModel" "number" "I" ∈ xT := xm 811 (by decide +kernel) rfl
theorem mfX11_105 : Cond.fieldLink RX11 105 "CastGalleryModel" "isWrong" "Z" ∈ xT := xm 812 (by decide +kernel) rfl
theorem mfX11_128 : Cond.fieldLink RX11 128 "CastGalleryModel" "items" "I" ∈ xT := xm 813 (by decide +kernel) rfl
theorem mfX11_112 : Cond.fieldLink RX11 112 "CastGalleryModel" "saidThings" "I" ∈ xT := xm 814 (by decide +kernel) rfl
theorem mfX11_44 : Cond.fieldLink RX11 44 "CastGalleryModel" "saidLoad" "[I" ∈ xT := xm 815 (by decide +kernel) rfl
theorem mfX11_47 : Cond.fieldLink RX11 47 "CastGalleryModel" "saidHard" "[I" ∈ xT := xm 816 (by decide +kernel) rfl
theorem mfX11_50 : Cond.fieldLink RX11 50 "CastGalleryModel" "saidPart" "[I" ∈ xT := xm 817 (by decide +kernel) rfl
theorem mfX11_53 : Cond.fieldLink RX11 53 "CastGalleryModel" "saidNeeds" "[I" ∈ xT := xm 818 (by decide +kernel) rfl
theorem mfX11_119 : Cond.fieldLink RX11 119 "CastGalleryModel" "saidCasts" "I" ∈ xT := xm 819 (by decide +kernel) rfl
theorem mfX11_56 : Cond.fieldLink RX11 56 "CastGalleryModel" "saidLime" "[I" ∈ xT := xm 820 (by decide +kernel) rfl
theorem mfX11_59 : Cond.fieldLink RX11 59 "CastGalleryModel" "saidWit" "[I" ∈ xT := xm 821 (by decide +kernel) rfl
theorem mfX11_62 : Cond.fieldLink RX11 62 "CastGalleryModel" "saidLacks" "[I" ∈ xT := xm 822 (by decide +kernel) rfl
theorem mfX11_65 : Cond.fieldLink RX11 65 "CastGalleryModel" "most" "[I" ∈ xT := xm 823 (by decide +kernel) rfl
theorem mlL_17 : Cond.methodLink RL 17 yX11_type ∈ xT := xm 890 (by decide +kernel) rfl
theorem mlX11_72 : Cond.methodLink RX11 72 yX11_in ∈ xT := xm 894 (by decide +kernel) rfl
theorem mlL_22 : Cond.methodLink RL 22 yX11_clear ∈ xT := xm 897 (by decide +kernel) rfl
theorem mlL_26 : Cond.methodLink RL 26 yX11_hall ∈ xT := xm 901 (by decide +kernel) rfl
theorem mlX11_109 : Cond.methodLink RX11 109 yX11_next ∈ xT := xm 905 (by decide +kernel) rfl
theorem mlX11_85 : Cond.methodLink RX11 85 yX11_letterAt ∈ xT := xm 909 (by decide +kernel) rfl
theorem mlX11_98 : Cond.methodLink RX11 98 yX11_isFigure ∈ xT := xm 913 (by decide +kernel) rfl
theorem mlX11_102 : Cond.methodLink RX11 102 yX11_isLetter ∈ xT := xm 916 (by decide +kernel) rfl
theorem mlX11_131 : Cond.methodLink RX11 131 yX11_readItem ∈ xT := xm 919 (by decide +kernel) rfl
theorem mlX11_122 : Cond.methodLink RX11 122 yX11_readThing ∈ xT := xm 923 (by decide +kernel) rfl
theorem mlX11_115 : Cond.methodLink RX11 115 yX11_takesNumber ∈ xT := xm 927 (by decide +kernel) rfl
theorem mlX11_125 : Cond.methodLink RX11 125 yX11_readCast ∈ xT := xm 931 (by decide +kernel) rfl
theorem mlX11_134 : Cond.methodLink RX11 134 yX11_settles ∈ xT := xm 935 (by decide +kernel) rfl
theorem mlL_31 : Cond.methodLink RL 31 yX11_thing ∈ xT := xm 939 (by decide +kernel) rfl
theorem mlX11_156 : Cond.methodLink RX11 156 yX11_isThing ∈ xT := xm 943 (by decide +kernel) rfl
theorem mlX11_159 : Cond.methodLink RX11 159 yX11_whoCan ∈ xT := xm 947 (by decide +kernel) rfl
theorem mlX11_147 : Cond.methodLink RX11 147 yX11_can ∈ xT := xm 951 (by decide +kernel) rfl
theorem mlX11_140 : Cond.methodLink RX11 140 yX11_has ∈ xT := xm 955 (by decide +kernel) rfl
theorem mlL_35 : Cond.methodLink RL 35 yX11_cast ∈ xT := xm 958 (by decide +kernel) rfl
theorem mlX11_162 : Cond.methodLink RX11 162 yX11_isCast ∈ xT := xm 962 (by decide +kernel) rfl
theorem mlX11_144 : Cond.methodLink RX11 144 yX11_isBroken ∈ xT := xm 966 (by decide +kernel) rfl
theorem mlX11_165 : Cond.methodLink RX11 165 yX11_mays ∈ xT := xm 970 (by decide +kernel) rfl
theorem mlX11_153 : Cond.methodLink RX11 153 yX11_may ∈ xT := xm 974 (by decide +kernel) rfl
theorem mlX11_150 : Cond.methodLink RX11 150 yX11_hasPart ∈ xT := xm 978 (by decide +kernel) rfl
theorem mlL_39 : Cond.methodLink RL 39 yX11_far ∈ xT := xm 982 (by decide +kernel) rfl
theorem mlL_43 : Cond.methodLink RL 43 yX11_sets ∈ xT := xm 986 (by decide +kernel) rfl
theorem mlX11_168 : Cond.methodLink RX11 168 yX11_remembers ∈ xT := xm 990 (by decide +kernel) rfl
theorem mlL_47 : Cond.methodLink RL 47 yX11_nights ∈ xT := xm 994 (by decide +kernel) rfl
theorem mlX11_171 : Cond.methodLink RX11 171 yX11_learns ∈ xT := xm 998 (by decide +kernel) rfl
theorem mlX11_175 : Cond.methodLink RX11 175 yX11_bits ∈ xT := xm 1002 (by decide +kernel) rfl
theorem mlL_51 : Cond.methodLink RL 51 yX11_mends ∈ xT := xm 1005 (by decide +kernel) rfl
theorem mlL_56 : Cond.methodLink RL 56 yX11_joins ∈ xT := xm 1009 (by decide +kernel) rfl
theorem mlL_60 : Cond.methodLink RL 60 yX11_undo ∈ xT := xm 1013 (by decide +kernel) rfl
theorem mlL_64 : Cond.methodLink RL 64 yX11_now ∈ xT := xm 1017 (by decide +kernel) rfl
theorem mlX11_178 : Cond.methodLink RX11 178 yX11_inClass ∈ xT := xm 1021 (by decide +kernel) rfl
theorem mlX11_182 : Cond.methodLink RX11 182 yX11_learntAll ∈ xT := xm 1025 (by decide +kernel) rfl
theorem mlX11_185 : Cond.methodLink RX11 185 yX11_tree ∈ xT := xm 1029 (by decide +kernel) rfl
theorem mlX11_215 : Cond.methodLink RX11 215 yX11_between ∈ xT := xm 1033 (by decide +kernel) rfl
theorem mlL_68 : Cond.methodLink RL 68 yX11_plan ∈ xT := xm 1037 (by decide +kernel) rfl
theorem mlX11_194 : Cond.methodLink RX11 194 yX11_wanted ∈ xT := xm 1041 (by decide +kernel) rfl
theorem mlX11_197 : Cond.methodLink RX11 197 yX11_bears ∈ xT := xm 1045 (by decide +kernel) rfl
theorem mlX11_191 : Cond.methodLink RX11 191 yX11_cracksOf ∈ xT := xm 1049 (by decide +kernel) rfl
theorem mlX11_188 : Cond.methodLink RX11 188 yX11_nightsFor ∈ xT := xm 1053 (by decide +kernel) rfl
theorem mlX11_200 : Cond.methodLink RX11 200 yX11_nightsOf ∈ xT := xm 1057 (by decide +kernel) rfl
theorem mlX11_203 : Cond.methodLink RX11 203 yX11_kth ∈ xT := xm 1061 (by decide +kernel) rfl
theorem mlL_72 : Cond.methodLink RL 72 yX11_best ∈ xT := xm 1064 (by decide +kernel) rfl
theorem mlX11_206 : Cond.methodLink RX11 206 yX11_isWhole ∈ xT := xm 1068 (by decide +kernel) rfl
theorem mlL_76 : Cond.methodLink RL 76 yX11_own ∈ xT := xm 1072 (by decide +kernel) rfl
theorem mlX11_209 : Cond.methodLink RX11 209 yX11_layMost ∈ xT := xm 1076 (by decide +kernel) rfl
theorem mlX11_212 : Cond.methodLink RX11 212 yX11_givenTo ∈ xT := xm 1080 (by decide +kernel) rfl
theorem mlL_80 : Cond.methodLink RL 80 yX11_near ∈ xT := xm 1084 (by decide +kernel) rfl
theorem mlL_84 : Cond.methodLink RL 84 yX11_odds ∈ xT := xm 1088 (by decide +kernel) rfl
theorem mlX11_218 : Cond.methodLink RX11 218 yX11_lowest ∈ xT := xm 1092 (by decide +kernel) rfl
theorem mlL_88 : Cond.methodLink RL 88 yX11_hears ∈ xT := xm 1095 (by decide +kernel) rfl
theorem mlL_92 : Cond.methodLink RL 92 yX11_forget ∈ xT := xm 1099 (by decide +kernel) rfl
theorem mlL_96 : Cond.methodLink RL 96 yX11_who ∈ xT := xm 1103 (by decide +kernel) rfl
theorem mlL_100 : Cond.methodLink RL 100 yX11_ask ∈ xT := xm 1107 (by decide +kernel) rfl
theorem mlX11_222 : Cond.methodLink RX11 222 yX11_who ∈ xT := xm 1111 (by decide +kernel) rfl
theorem mlL_104 : Cond.methodLink RL 104 yX11_mark ∈ xT := xm 1112 (by decide +kernel) rfl
theorem mlL_108 : Cond.methodLink RL 108 yX11_keep ∈ xT := xm 1122 (by decide +kernel) rfl
theorem mlL_112 : Cond.methodLink RL 112 yX11_back ∈ xT := xm 1126 (by decide +kernel) rfl
theorem mlL_116 : Cond.methodLink RL 116 yX11_count ∈ xT := xm 1130 (by decide +kernel) rfl
theorem mlL_121 : Cond.methodLink RL 121 yX11_trace ∈ xT := xm 1134 (by decide +kernel) rfl
theorem yfX0_beginAs : xYv RX0 yX0_beginAs cX0_beginAs 2 none 1 := ⟨xm 441 (by decide +kernel) rfl, xm 439 (by decide +kernel) rfl, xm 440 (by decide +kernel) rfl, xm 51 (by decide +kernel) rfl, by decide +kernel, by decide +kernel, by decide +kernel⟩
theorem yfX0_isThing : xYv RX0 yX0_isThing cX0_isThing 2 (some .boolean) 1 := ⟨xm 461 (by decide +kernel) rfl, xm 459 (by decide +kernel) rfl, xm 460 (by decide +kernel) rfl, xm 51 (by decide +kernel) rfl, by decide +kernel, by decide +kernel, by decide +kernel⟩
theorem yfX0_isCast : xYv RX0 yX0_isCast cX0_isCast 2 (some .boolean) 1 := ⟨xm 476 (by decide +kernel) rfl, xm 474 (by decide +kernel) rfl, xm 475 (by decide +kernel) rfl, xm 51 (by decide +kernel) rfl, by decide +kernel, by decide +kernel, by decide +kernel⟩
theorem yfX0_isBroken : xYv RX0 yX0_isBroken cX0_isBroken 2 (some .boolean) 1 := ⟨xm 480 (by decide +kernel) rfl, xm 478 (by decide +kernel) rfl, xm 479 (by decide +kernel) rfl, xm 51 (by decide +kernel) rfl, by decide +kernel, by decide +kernel, by decide +kernel⟩
theorem yfX0_lacksPartOf : xYv RX0 yX0_lacksPartOf cX0_lacksPartOf 3 (some .boolean) 2 := ⟨xm 493 (by decide +kernel) rfl, xm 491 (by decide +kernel) rfl, xm 492 (by decide +kernel) rfl, xm 51 (by decide +kernel) rfl, by decide +kernel, by decide +kernel, by decide +kernel⟩
theorem yfX0_may : xYv RX0 yX0_may cX0_may 3 (some .boolean) 2 := ⟨xm 488 (by decide +kernel) rfl, xm 486 (by decide +kernel) rfl, xm 487 (by decide +kernel) rfl, xm 51 (by decide +kernel) rfl, by decide +kernel, by decide +kernel, by decide +kernel⟩
theorem yfX0_allItMay : xYv RX0 yX0_allItMay cX0_allItMay 4 (some .int) 1 := ⟨xm 484 (by decide +kernel) rfl, xm 482 (by decide +kernel) rfl, xm 483 (by decide +kernel) rfl, xm 51 (by decide +kernel) rfl, by decide +kernel, by decide +kernel, by decide +kernel⟩
theorem yfX0_whoCan : xYv RX0 yX0_whoCan cX0_whoCan 4 (some .int) 1 := ⟨xm 465 (by decide +kernel) rfl, xm 463 (by decide +kernel) rfl, xm 464 (by decide +kernel) rfl, xm 51 (by decide +kernel) rfl, by decide +kernel, by decide +kernel, by decide +kernel⟩
theorem yfX0_whoIsInClass : xYv RX0 yX0_whoIsInClass cX0_whoIsInClass 3 (some .int) 0 := ⟨xm 565 (by decide +kernel) rfl, xm 563 (by decide +kernel) rfl, xm 564 (by decide +kernel) rfl, xm 51 (by decide +kernel) rfl, by decide +kernel, by decide +kernel, by decide +kernel⟩
theorem yfX0_learntByAll : xYv RX0 yX0_learntByAll cX0_learntByAll 3 (some .int) 0 := ⟨xm 569 (by decide +kernel) rfl, xm 567 (by decide +kernel) rfl, xm 568 (by decide +kernel) rfl, xm 51 (by decide +kernel) rfl, by decide +kernel, by decide +kernel, by decide +kernel⟩
theorem yfX0_passNight : xYv RX0 yX0_passNight cX0_passNight 3 none 0 := ⟨xm 522 (by decide +kernel) rfl, xm 520 (by decide +kernel) rfl, xm 521 (by decide +kernel) rfl, xm 51 (by decide +kernel) rfl, by decide +kernel, by decide +kernel, by decide +kernel⟩
theorem yfX0_attend : xYv RX0 yX0_attend cX0_attend 4 none 2 := ⟨xm 526 (by decide +kernel) rfl, xm 525 (by decide +kernel) rfl, xm 6 (by decide +kernel) rfl, xm 51 (by decide +kernel) rfl, by decide +kernel, by decide +kernel, by decide +kernel⟩
theorem yfX0_joinOn : xYv RX0 yX0_joinOn cX0_joinOn 5 none 3 := ⟨xm 545 (by decide +kernel) rfl, xm 543 (by decide +kernel) rfl, xm 544 (by decide +kernel) rfl, xm 51 (by decide +kernel) rfl, by decide +kernel, by decide +kernel, by decide +kernel⟩
theorem yfX0_unlikeParts : xYv RX0 yX0_unlikeParts cX0_unlikeParts 3 (some .int) 2 := ⟨xm 582 (by decide +kernel) rfl, xm 580 (by decide +kernel) rfl, xm 581 (by decide +kernel) rfl, xm 51 (by decide +kernel) rfl, by decide +kernel, by decide +kernel, by decide +kernel⟩
theorem yfX0_leastTree : xYv RX0 yX0_leastTree cX0_leastTree 7 (some .int) 0 := ⟨xm 574 (by decide +kernel) rfl, xm 572 (by decide +kernel) rfl, xm 573 (by decide +kernel) rfl, xm 51 (by decide +kernel) rfl, by decide +kernel, by decide +kernel, by decide +kernel⟩
theorem yfX0_stepTo : xYv RX0 yX0_stepTo cX0_stepTo 5 (some .int) 2 := ⟨xm 578 (by decide +kernel) rfl, xm 577 (by decide +kernel) rfl, xm 7 (by decide +kernel) rfl, xm 51 (by decide +kernel) rfl, by decide +kernel, by decide +kernel, by decide +kernel⟩
theorem yfX1_add : xYv RX1 yX1_add cX1_add 3 none 2 := ⟨xm 691 (by decide +kernel) rfl, xm 689 (by decide +kernel) rfl, xm 690 (by decide +kernel) rfl, xm 58 (by decide +kernel) rfl, by decide +kernel, by decide +kernel, by decide +kernel⟩
theorem yfX1_suspects : xYv RX1 yX1_suspects cX1_suspects 4 (some .int) 0 := ⟨xm 703 (by decide +kernel) rfl, xm 701 (by decide +kernel) rfl, xm 702 (by decide +kernel) rfl, xm 58 (by decide +kernel) rfl, by decide +kernel, by decide +kernel, by decide +kernel⟩
theorem yfX1_bestQuestion : xYv RX1 yX1_bestQuestion cX1_bestQuestion 8 (some .int) 0 := ⟨xm 712 (by decide +kernel) rfl, xm 710 (by decide +kernel) rfl, xm 711 (by decide +kernel) rfl, xm 58 (by decide +kernel) rfl, by decide +kernel, by decide +kernel, by decide +kernel⟩
theorem yfX2_take : xYv RX2 yX2_take cX2_take 3 none 2 := ⟨xm 762 (by decide +kernel) rfl, xm 760 (by decide +kernel) rfl, xm 761 (by decide +kernel) rfl, xm 55 (by decide +kernel) rfl, by decide +kernel, by decide +kernel, by decide +kernel⟩
theorem yfX2_give : xYv RX2 yX2_give cX2_give 3 none 2 := ⟨xm 776 (by decide +kernel) rfl, xm 774 (by decide +kernel) rfl, xm 775 (by decide +kernel) rfl, xm 55 (by decide +kernel) rfl, by decide +kernel, by decide +kernel, by decide +kernel⟩
theorem yfX3_asKind : xYv RX3 yX3_asKind cX3_asKind 3 (some .int) 2 := ⟨xm 724 (by decide +kernel) rfl, xm 722 (by decide +kernel) rfl, xm 723 (by decide +kernel) rfl, xm 59 (by decide +kernel) rfl, by decide +kernel, by decide +kernel, by decide +kernel⟩
theorem yfX3_asCast : xYv RX3 yX3_asCast cX3_asCast 2 (some .int) 1 := ⟨xm 733 (by decide +kernel) rfl, xm 732 (by decide +kernel) rfl, xm 13 (by decide +kernel) rfl, xm 59 (by decide +kernel) rfl, by decide +kernel, by decide +kernel, by decide +kernel⟩
theorem yfX3_asApollo : xYv RX3 yX3_asApollo cX3_asApollo 2 (some .int) 1 := ⟨xm 728 (by decide +kernel) rfl, xm 727 (by decide +kernel) rfl, xm 12 (by decide +kernel) rfl, xm 59 (by decide +kernel) rfl, by decide +kernel, by decide +kernel, by decide +kernel⟩
theorem yfX3_asVenus : xYv RX3 yX3_asVenus cX3_asVenus 2 (some .int) 1 := ⟨xm 738 (by decide +kernel) rfl, xm 737 (by decide +kernel) rfl, xm 14 (by decide +kernel) rfl, xm 59 (by decide +kernel) rfl, by decide +kernel, by decide +kernel, by decide +kernel⟩
theorem yfX3_asThrower : xYv RX3 yX3_asThrower cX3_asThrower 2 (some .int) 1 := ⟨xm 743 (by decide +kernel) rfl, xm 742 (by decide +kernel) rfl, xm 15 (by decide +kernel) rfl, xm 59 (by decide +kernel) rfl, by decide +kernel, by decide +kernel, by decide +kernel⟩
theorem yfX3_asMuse : xYv RX3 yX3_asMuse cX3_asMuse 2 (some .int) 1 := ⟨xm 748 (by decide +kernel) rfl, xm 747 (by decide +kernel) rfl, xm 16 (by decide +kernel) rfl, xm 59 (by decide +kernel) rfl, by decide +kernel, by decide +kernel, by decide +kernel⟩
theorem yfX3_asLoan : xYv RX3 yX3_asLoan cX3_asLoan 2 (some .int) 1 := ⟨xm 753 (by decide +kernel) rfl, xm 752 (by decide +kernel) rfl, xm 17 (by decide +kernel) rfl, xm 59 (by decide +kernel) rfl, by decide +kernel, by decide +kernel, by decide +kernel⟩
theorem yfX4_begin : xYv RX4 yX4_begin cX4_begin 2 none 1 := ⟨xm 452 (by decide +kernel) rfl, xm 450 (by decide +kernel) rfl, xm 451 (by decide +kernel) rfl, xm 52 (by decide +kernel) rfl, by decide +kernel, by decide +kernel, by decide +kernel⟩
theorem yfX4_writeTo : xYv RX4 yX4_writeTo cX4_writeTo 4 none 2 := ⟨xm 513 (by decide +kernel) rfl, xm 511 (by decide +kernel) rfl, xm 512 (by decide +kernel) rfl, xm 52 (by decide +kernel) rfl, by decide +kernel, by decide +kernel, by decide +kernel⟩
theorem yfX4_readFrom : xYv RX4 yX4_readFrom cX4_readFrom 4 none 2 := ⟨xm 557 (by decide +kernel) rfl, xm 555 (by decide +kernel) rfl, xm 556 (by decide +kernel) rfl, xm 52 (by decide +kernel) rfl, by decide +kernel, by decide +kernel, by decide +kernel⟩
theorem yfX5_weigh : xYv RX5 yX5_weigh cX5_weigh 5 none 0 := ⟨xm 645 (by decide +kernel) rfl, xm 643 (by decide +kernel) rfl, xm 644 (by decide +kernel) rfl, xm 57 (by decide +kernel) rfl, by decide +kernel, by decide +kernel, by decide +kernel⟩
theorem yfX5_mostFrom : xYv RX5 yX5_mostFrom cX5_mostFrom 7 (some .int) 2 := ⟨xm 650 (by decide +kernel) rfl, xm 649 (by decide +kernel) rfl, xm 10 (by decide +kernel) rfl, xm 57 (by decide +kernel) rfl, by decide +kernel, by decide +kernel, by decide +kernel⟩
theorem yfX5_mostSet : xYv RX5 yX5_mostSet cX5_mostSet 1 (some .int) 0 := ⟨xm 656 (by decide +kernel) rfl, xm 654 (by decide +kernel) rfl, xm 655 (by decide +kernel) rfl, xm 57 (by decide +kernel) rfl, by decide +kernel, by decide +kernel, by decide +kernel⟩
theorem yfX5_thingOf : xYv RX5 yX5_thingOf cX5_thingOf 5 (some .int) 1 := ⟨xm 660 (by decide +kernel) rfl, xm 658 (by decide +kernel) rfl, xm 659 (by decide +kernel) rfl, xm 57 (by decide +kernel) rfl, by decide +kernel, by decide +kernel, by decide +kernel⟩
theorem yfX5_firstOf : xYv RX5 yX5_firstOf cX5_firstOf 6 (some .int) 2 := ⟨xm 664 (by decide +kernel) rfl, xm 663 (by decide +kernel) rfl, xm 11 (by decide +kernel) rfl, xm 57 (by decide +kernel) rfl, by decide +kernel, by decide +kernel, by decide +kernel⟩
theorem yfX6_remember : xYv RX6 yX6_remember cX6_remember 2 none 1 := ⟨xm 509 (by decide +kernel) rfl, xm 507 (by decide +kernel) rfl, xm 508 (by decide +kernel) rfl, xm 54 (by decide +kernel) rfl, by decide +kernel, by decide +kernel, by decide +kernel⟩
theorem yfX6_recall : xYv RX6 yX6_recall cX6_recall 2 none 1 := ⟨xm 553 (by decide +kernel) rfl, xm 551 (by decide +kernel) rfl, xm 552 (by decide +kernel) rfl, xm 54 (by decide +kernel) rfl, by decide +kernel, by decide +kernel, by decide +kernel⟩
theorem yfX6_become : xYv RX6 yX6_become cX6_become 2 none 1 := ⟨xm 767 (by decide +kernel) rfl, xm 765 (by decide +kernel) rfl, xm 766 (by decide +kernel) rfl, xm 54 (by decide +kernel) rfl, by decide +kernel, by decide +kernel, by decide +kernel⟩
theorem yfX7_reckon : xYv RX7 yX7_reckon cX7_reckon 5 none 1 := ⟨xm 596 (by decide +kernel) rfl, xm 594 (by decide +kernel) rfl, xm 595 (by decide +kernel) rfl, xm 56 (by decide +kernel) rfl, by decide +kernel, by decide +kernel, by decide +kernel⟩
theorem yfX7_nightsOf : xYv RX7 yX7_nightsOf cX7_nightsOf 4 (some .int) 1 := ⟨xm 617 (by decide +kernel) rfl, xm 615 (by decide +kernel) rfl, xm 616 (by decide +kernel) rfl, xm 56 (by decide +kernel) rfl, by decide +kernel, by decide +kernel, by decide +kernel⟩
theorem yfX7_cracksOf : xYv RX7 yX7_cracksOf cX7_cracksOf 4 (some .int) 1 := ⟨xm 613 (by decide +kernel) rfl, xm 611 (by decide +kernel) rfl, xm 612 (by decide +kernel) rfl, xm 56 (by decide +kernel) rfl, by decide +kernel, by decide +kernel, by decide +kernel⟩
theorem yfX7_toLearnFor : xYv RX7 yX7_toLearnFor cX7_toLearnFor 5 (some .int) 2 := ⟨xm 591 (by decide +kernel) rfl, xm 589 (by decide +kernel) rfl, xm 590 (by decide +kernel) rfl, xm 56 (by decide +kernel) rfl, by decide +kernel, by decide +kernel, by decide +kernel⟩
theorem yfX7_bears : xYv RX7 yX7_bears cX7_bears 3 (some .boolean) 2 := ⟨xm 603 (by decide +kernel) rfl, xm 601 (by decide +kernel) rfl, xm 602 (by decide +kernel) rfl, xm 56 (by decide +kernel) rfl, by decide +kernel, by decide +kernel, by decide +kernel⟩
theorem yfX7_learnable : xYv RX7 yX7_learnable cX7_learnable 4 (some .int) 1 := ⟨xm 608 (by decide +kernel) rfl, xm 607 (by decide +kernel) rfl, xm 8 (by decide +kernel) rfl, xm 56 (by decide +kernel) rfl, by decide +kernel, by decide +kernel, by decide +kernel⟩
theorem yfX7_learntAt : xYv RX7 yX7_learntAt cX7_learntAt 5 (some .int) 2 := ⟨xm 622 (by decide +kernel) rfl, xm 620 (by decide +kernel) rfl, xm 621 (by decide +kernel) rfl, xm 56 (by decide +kernel) rfl, by decide +kernel, by decide +kernel, by decide +kernel⟩
theorem yfX7_mostIn : xYv RX7 yX7_mostIn cX7_mostIn 11 (some .int) 2 := ⟨xm 630 (by decide +kernel) rfl, xm 628 (by decide +kernel) rfl, xm 629 (by decide +kernel) rfl, xm 56 (by decide +kernel) rfl, by decide +kernel, by decide +kernel, by decide +kernel⟩
theorem yfX7_isWhole : xYv RX7 yX7_isWhole cX7_isWhole 5 (some .boolean) 2 := ⟨xm 636 (by decide +kernel) rfl, xm 635 (by decide +kernel) rfl, xm 9 (by decide +kernel) rfl, xm 56 (by decide +kernel) rfl, by decide +kernel, by decide +kernel, by decide +kernel⟩
theorem yfX8_readsAll : xYv RX8 yX8_readsAll cX8_readsAll 2 (some .boolean) 0 := ⟨xm 388 (by decide +kernel) rfl, xm 386 (by decide +kernel) rfl, xm 387 (by decide +kernel) rfl, xm 49 (by decide +kernel) rfl, by decide +kernel, by decide +kernel, by decide +kernel⟩
theorem yfX8_readsItem : xYv RX8 yX8_readsItem cX8_readsItem 5 (some .boolean) 0 := ⟨xm 413 (by decide +kernel) rfl, xm 412 (by decide +kernel) rfl, xm 3 (by decide +kernel) rfl, xm 49 (by decide +kernel) rfl, by decide +kernel, by decide +kernel, by decide +kernel⟩
theorem yfX8_fitsThing : xYv RX8 yX8_fitsThing cX8_fitsThing 2 (some .boolean) 1 := ⟨xm 417 (by decide +kernel) rfl, xm 416 (by decide +kernel) rfl, xm 4 (by decide +kernel) rfl, xm 49 (by decide +kernel) rfl, by decide +kernel, by decide +kernel, by decide +kernel⟩
theorem yfX8_fitsCast : xYv RX8 yX8_fitsCast cX8_fitsCast 2 (some .boolean) 1 := ⟨xm 425 (by decide +kernel) rfl, xm 424 (by decide +kernel) rfl, xm 5 (by decide +kernel) rfl, xm 49 (by decide +kernel) rfl, by decide +kernel, by decide +kernel, by decide +kernel⟩
theorem yfX8_look : xYv RX8 yX8_look cX8_look 1 none 0 := ⟨xm 392 (by decide +kernel) rfl, xm 391 (by decide +kernel) rfl, xm 0 (by decide +kernel) rfl, xm 49 (by decide +kernel) rfl, by decide +kernel, by decide +kernel, by decide +kernel⟩
theorem yfX8_lookAtLetters : xYv RX8 yX8_lookAtLetters cX8_lookAtLetters 3 none 0 := ⟨xm 399 (by decide +kernel) rfl, xm 398 (by decide +kernel) rfl, xm 1 (by decide +kernel) rfl, xm 49 (by decide +kernel) rfl, by decide +kernel, by decide +kernel, by decide +kernel⟩
theorem yfX8_lookAtNumber : xYv RX8 yX8_lookAtNumber cX8_lookAtNumber 4 none 0 := ⟨xm 406 (by decide +kernel) rfl, xm 405 (by decide +kernel) rfl, xm 2 (by decide +kernel) rfl, xm 49 (by decide +kernel) rfl, by decide +kernel, by decide +kernel, by decide +kernel⟩
theorem yfX8_isLetter : xYs yX8_isLetter cX8_isLetter 1 (some .boolean) 1 := ⟨xm 395 (by decide +kernel) rfl, xm 394 (by decide +kernel) rfl, xm 49 (by decide +kernel) rfl, by decide +kernel, by decide +kernel, by decide +kernel⟩
theorem yfX8_isDigit : xYs yX8_isDigit cX8_isDigit 1 (some .boolean) 1 := ⟨xm 402 (by decide +kernel) rfl, xm 401 (by decide +kernel) rfl, xm 49 (by decide +kernel) rfl, by decide +kernel, by decide +kernel, by decide +kernel⟩
theorem yfX9_addThing : xYv RX9 yX9_addThing cX9_addThing 2 none 1 := ⟨xm 433 (by decide +kernel) rfl, xm 431 (by decide +kernel) rfl, xm 432 (by decide +kernel) rfl, xm 50 (by decide +kernel) rfl, by decide +kernel, by decide +kernel, by decide +kernel⟩
theorem yfX9_addCast : xYv RX9 yX9_addCast cX9_addCast 2 none 1 := ⟨xm 437 (by decide +kernel) rfl, xm 435 (by decide +kernel) rfl, xm 436 (by decide +kernel) rfl, xm 50 (by decide +kernel) rfl, by decide +kernel, by decide +kernel, by decide +kernel⟩
theorem yfX9_become : xYv RX9 yX9_become cX9_become 2 none 1 := ⟨xm 445 (by decide +kernel) rfl, xm 443 (by decide +kernel) rfl, xm 444 (by decide +kernel) rfl, xm 50 (by decide +kernel) rfl, by decide +kernel, by decide +kernel, by decide +kernel⟩
theorem yfX10_type : xYv RX10 yX10_type cX10_type 2 (some .int) 1 := ⟨xm 376 (by decide +kernel) rfl, xm 374 (by decide +kernel) rfl, xm 375 (by decide +kernel) rfl, xm 48 (by decide +kernel) rfl, by decide +kernel, by decide +kernel, by decide +kernel⟩
theorem yfX10_clear : xYv RX10 yX10_clear cX10_clear 2 (some .int) 0 := ⟨xm 380 (by decide +kernel) rfl, xm 378 (by decide +kernel) rfl, xm 379 (by decide +kernel) rfl, xm 48 (by decide +kernel) rfl, by decide +kernel, by decide +kernel, by decide +kernel⟩
theorem yfX10_hall : xYv RX10 yX10_hall cX10_hall 2 (some .int) 0 := ⟨xm 384 (by decide +kernel) rfl, xm 382 (by decide +kernel) rfl, xm 383 (by decide +kernel) rfl, xm 48 (by decide +kernel) rfl, by decide +kernel, by decide +kernel, by decide +kernel⟩
theorem yfX10_thing : xYv RX10 yX10_thing cX10_thing 3 (some .int) 2 := ⟨xm 457 (by decide +kernel) rfl, xm 455 (by decide +kernel) rfl, xm 456 (by decide +kernel) rfl, xm 48 (by decide +kernel) rfl, by decide +kernel, by decide +kernel, by decide +kernel⟩
theorem yfX10_cast : xYv RX10 yX10_cast cX10_cast 3 (some .int) 2 := ⟨xm 472 (by decide +kernel) rfl, xm 470 (by decide +kernel) rfl, xm 471 (by decide +kernel) rfl, xm 48 (by decide +kernel) rfl, by decide +kernel, by decide +kernel, by decide +kernel⟩
theorem yfX10_far : xYv RX10 yX10_far cX10_far 3 (some .int) 2 := ⟨xm 500 (by decide +kernel) rfl, xm 498 (by decide +kernel) rfl, xm 499 (by decide +kernel) rfl, xm 48 (by decide +kernel) rfl, by decide +kernel, by decide +kernel, by decide +kernel⟩
theorem yfX10_sets : xYv RX10 yX10_sets cX10_sets 4 (some .int) 2 := ⟨xm 504 (by decide +kernel) rfl, xm 502 (by decide +kernel) rfl, xm 503 (by decide +kernel) rfl, xm 48 (by decide +kernel) rfl, by decide +kernel, by decide +kernel, by decide +kernel⟩
theorem yfX10_nights : xYv RX10 yX10_nights cX10_nights 3 (some .int) 1 := ⟨xm 518 (by decide +kernel) rfl, xm 516 (by decide +kernel) rfl, xm 517 (by decide +kernel) rfl, xm 48 (by decide +kernel) rfl, by decide +kernel, by decide +kernel, by decide +kernel⟩
theorem yfX10_mends : xYv RX10 yX10_mends cX10_mends 3 (some .int) 1 := ⟨xm 536 (by decide +kernel) rfl, xm 534 (by decide +kernel) rfl, xm 535 (by decide +kernel) rfl, xm 48 (by decide +kernel) rfl, by decide +kernel, by decide +kernel, by decide +kernel⟩
theorem yfX10_joins : xYv RX10 yX10_joins cX10_joins 4 (some .int) 3 := ⟨xm 540 (by decide +kernel) rfl, xm 538 (by decide +kernel) rfl, xm 539 (by decide +kernel) rfl, xm 48 (by decide +kernel) rfl, by decide +kernel, by decide +kernel, by decide +kernel⟩
theorem yfX10_undo : xYv RX10 yX10_undo cX10_undo 1 (some .int) 0 := ⟨xm 549 (by decide +kernel) rfl, xm 547 (by decide +kernel) rfl, xm 548 (by decide +kernel) rfl, xm 48 (by decide +kernel) rfl, by decide +kernel, by decide +kernel, by decide +kernel⟩
theorem yfX10_now : xYv RX10 yX10_now cX10_now 2 (some .int) 1 := ⟨xm 561 (by decide +kernel) rfl, xm 559 (by decide +kernel) rfl, xm 560 (by decide +kernel) rfl, xm 48 (by decide +kernel) rfl, by decide +kernel, by decide +kernel, by decide +kernel⟩
theorem yfX10_plan : xYv RX10 yX10_plan cX10_plan 5 (some .int) 3 := ⟨xm 587 (by decide +kernel) rfl, xm 585 (by decide +kernel) rfl, xm 586 (by decide +kernel) rfl, xm 48 (by decide +kernel) rfl, by decide +kernel, by decide +kernel, by decide +kernel⟩
theorem yfX10_best : xYv RX10 yX10_best cX10_best 5 (some .int) 3 := ⟨xm 626 (by decide +kernel) rfl, xm 624 (by decide +kernel) rfl, xm 625 (by decide +kernel) rfl, xm 48 (by decide +kernel) rfl, by decide +kernel, by decide +kernel, by decide +kernel⟩
theorem yfX10_own : xYv RX10 yX10_own cX10_own 2 (some .int) 1 := ⟨xm 641 (by decide +kernel) rfl, xm 639 (by decide +kernel) rfl, xm 640 (by decide +kernel) rfl, xm 48 (by decide +kernel) rfl, by decide +kernel, by decide +kernel, by decide +kernel⟩
theorem yfX10_near : xYv RX10 yX10_near cX10_near 3 (some .int) 2 := ⟨xm 668 (by decide +kernel) rfl, xm 666 (by decide +kernel) rfl, xm 667 (by decide +kernel) rfl, xm 48 (by decide +kernel) rfl, by decide +kernel, by decide +kernel, by decide +kernel⟩
theorem yfX10_odds : xYv RX10 yX10_odds cX10_odds 8 (some .int) 3 := ⟨xm 673 (by decide +kernel) rfl, xm 671 (by decide +kernel) rfl, xm 672 (by decide +kernel) rfl, xm 48 (by decide +kernel) rfl, by decide +kernel, by decide +kernel, by decide +kernel⟩
theorem yfX10_hears : xYv RX10 yX10_hears cX10_hears 3 (some .int) 2 := ⟨xm 687 (by decide +kernel) rfl, xm 685 (by decide +kernel) rfl, xm 686 (by decide +kernel) rfl, xm 48 (by decide +kernel) rfl, by decide +kernel, by decide +kernel, by decide +kernel⟩
theorem yfX10_forget : xYv RX10 yX10_forget cX10_forget 2 (some .int) 0 := ⟨xm 695 (by decide +kernel) rfl, xm 693 (by decide +kernel) rfl, xm 694 (by decide +kernel) rfl, xm 48 (by decide +kernel) rfl, by decide +kernel, by decide +kernel, by decide +kernel⟩
theorem yfX10_who : xYv RX10 yX10_who cX10_who 1 (some .int) 0 := ⟨xm 699 (by decide +kernel) rfl, xm 697 (by decide +kernel) rfl, xm 698 (by decide +kernel) rfl, xm 48 (by decide +kernel) rfl, by decide +kernel, by decide +kernel, by decide +kernel⟩
theorem yfX10_ask : xYv RX10 yX10_ask cX10_ask 1 (some .int) 0 := ⟨xm 708 (by decide +kernel) rfl, xm 706 (by decide +kernel) rfl, xm 707 (by decide +kernel) rfl, xm 48 (by decide +kernel) rfl, by decide +kernel, by decide +kernel, by decide +kernel⟩
theorem yfX10_mark : xYv RX10 yX10_mark cX10_mark 3 (some .int) 2 := ⟨xm 719 (by decide +kernel) rfl, xm 717 (by decide +kernel) rfl, xm 718 (by decide +kernel) rfl, xm 48 (by decide +kernel) rfl, by decide +kernel, by decide +kernel, by decide +kernel⟩
theorem yfX10_keep : xYv RX10 yX10_keep cX10_keep 2 (some .int) 1 := ⟨xm 758 (by decide +kernel) rfl, xm 756 (by decide +kernel) rfl, xm 757 (by decide +kernel) rfl, xm 48 (by decide +kernel) rfl, by decide +kernel, by decide +kernel, by decide +kernel⟩
theorem yfX10_back : xYv RX10 yX10_back cX10_back 2 (some .int) 1 := ⟨xm 772 (by decide +kernel) rfl, xm 770 (by decide +kernel) rfl, xm 771 (by decide +kernel) rfl, xm 48 (by decide +kernel) rfl, by decide +kernel, by decide +kernel, by decide +kernel⟩
theorem yfX10_count : xYv RX10 yX10_count cX10_count 2 (some .int) 1 := ⟨xm 781 (by decide +kernel) rfl, xm 779 (by decide +kernel) rfl, xm 780 (by decide +kernel) rfl, xm 48 (by decide +kernel) rfl, by decide +kernel, by decide +kernel, by decide +kernel⟩
theorem yfX10_trace : xYv RX10 yX10_trace cX10_trace 1 (some .long) 0 := ⟨xm 785 (by decide +kernel) rfl, xm 783 (by decide +kernel) rfl, xm 784 (by decide +kernel) rfl, xm 48 (by decide +kernel) rfl, by decide +kernel, by decide +kernel, by decide +kernel⟩
theorem yfX10_has : xYs yX10_has cX10_has 2 (some .boolean) 2 := ⟨xm 468 (by decide +kernel) rfl, xm 467 (by decide +kernel) rfl, xm 48 (by decide +kernel) rfl, by decide +kernel, by decide +kernel, by decide +kernel⟩
theorem yfX10_orNone : xYs yX10_orNone cX10_orNone 1 (some .int) 1 := ⟨xm 496 (by decide +kernel) rfl, xm 495 (by decide +kernel) rfl, xm 48 (by decide +kernel) rfl, by decide +kernel, by decide +kernel, by decide +kernel⟩
theorem yfX10_waysToFall : xYs yX10_waysToFall cX10_waysToFall 6 (some .int) 3 := ⟨xm 676 (by decide +kernel) rfl, xm 675 (by decide +kernel) rfl, xm 48 (by decide +kernel) rfl, by decide +kernel, by decide +kernel, by decide +kernel⟩
theorem yfX10_power : xYs yX10_power cX10_power 4 (some .int) 2 := ⟨xm 679 (by decide +kernel) rfl, xm 678 (by decide +kernel) rfl, xm 48 (by decide +kernel) rfl, by decide +kernel, by decide +kernel, by decide +kernel⟩
theorem yfX10_commonDivisor : xYs yX10_commonDivisor cX10_commonDivisor 6 (some .int) 2 := ⟨xm 682 (by decide +kernel) rfl, xm 681 (by decide +kernel) rfl, xm 48 (by decide +kernel) rfl, by decide +kernel, by decide +kernel, by decide +kernel⟩
theorem yfX11_in : xYs yX11_in cX11_in 3 (some .boolean) 3 := ⟨xm 896 (by decide +kernel) rfl, xm 895 (by decide +kernel) rfl, xm 60 (by decide +kernel) rfl, by decide +kernel, by decide +kernel, by decide +kernel⟩
theorem yfX11_has : xYs yX11_has cX11_has 2 (some .boolean) 2 := ⟨xm 957 (by decide +kernel) rfl, xm 956 (by decide +kernel) rfl, xm 60 (by decide +kernel) rfl, by decide +kernel, by decide +kernel, by decide +kernel⟩
theorem yfX11_bits : xYs yX11_bits cX11_bits 3 (some .int) 1 := ⟨xm 1004 (by decide +kernel) rfl, xm 1003 (by decide +kernel) rfl, xm 60 (by decide +kernel) rfl, by decide +kernel, by decide +kernel, by decide +kernel⟩
theorem yfX11_isThing : xYv RX11 yX11_isThing cX11_isThing 2 (some .boolean) 1 := ⟨xm 946 (by decide +kernel) rfl, xm 945 (by decide +kernel) rfl, xm 25 (by decide +kernel) rfl, xm 60 (by decide +kernel) rfl, by decide +kernel, by decide +kernel, by decide +kernel⟩
theorem yfX11_isCast : xYv RX11 yX11_isCast cX11_isCast 2 (some .boolean) 1 := ⟨xm 965 (by decide +kernel) rfl, xm 964 (by decide +kernel) rfl, xm 28 (by decide +kernel) rfl, xm 60 (by decide +kernel) rfl, by decide +kernel, by decide +kernel, by decide +kernel⟩
theorem yfX11_type : xYv RX11 yX11_type cX11_type 2 (some .int) 1 := ⟨xm 893 (by decide +kernel) rfl, xm 891 (by decide +kernel) rfl, xm 892 (by decide +kernel) rfl, xm 60 (by decide +kernel) rfl, by decide +kernel, by decide +kernel, by decide +kernel⟩
theorem yfX11_clear : xYv RX11 yX11_clear cX11_clear 2 (some .int) 0 := ⟨xm 900 (by decide +kernel) rfl, xm 898 (by decide +kernel) rfl, xm 899 (by decide +kernel) rfl, xm 60 (by decide +kernel) rfl, by decide +kernel, by decide +kernel, by decide +kernel⟩
theorem yfX11_letterAt : xYv RX11 yX11_letterAt cX11_letterAt 2 (some .int) 1 := ⟨xm 912 (by decide +kernel) rfl, xm 911 (by decide +kernel) rfl, xm 19 (by decide +kernel) rfl, xm 60 (by decide +kernel) rfl, by decide +kernel, by decide +kernel, by decide +kernel⟩
theorem yfX11_isFigure : xYs yX11_isFigure cX11_isFigure 1 (some .boolean) 1 := ⟨xm 915 (by decide +kernel) rfl, xm 914 (by decide +kernel) rfl, xm 60 (by decide +kernel) rfl, by decide +kernel, by decide +kernel, by decide +kernel⟩
theorem yfX11_isLetter : xYs yX11_isLetter cX11_isLetter 1 (some .boolean) 1 := ⟨xm 918 (by decide +kernel) rfl, xm 917 (by decide +kernel) rfl, xm 60 (by decide +kernel) rfl, by decide +kernel, by decide +kernel, by decide +kernel⟩
theorem yfX11_next : xYv RX11 yX11_next cX11_next 2 none 0 := ⟨xm 908 (by decide +kernel) rfl, xm 907 (by decide +kernel) rfl, xm 18 (by decide +kernel) rfl, xm 60 (by decide +kernel) rfl, by decide +kernel, by decide +kernel, by decide +kernel⟩
theorem yfX11_takesNumber : xYv RX11 yX11_takesNumber cX11_takesNumber 5 (some .int) 2 := ⟨xm 930 (by decide +kernel) rfl, xm 929 (by decide +kernel) rfl, xm 22 (by decide +kernel) rfl, xm 60 (by decide +kernel) rfl, by decide +kernel, by decide +kernel, by decide +kernel⟩
theorem yfX11_readThing : xYv RX11 yX11_readThing cX11_readThing 4 none 0 := ⟨xm 926 (by decide +kernel) rfl, xm 925 (by decide +kernel) rfl, xm 21 (by decide +kernel) rfl, xm 60 (by decide +kernel) rfl, by decide +kernel, by decide +kernel, by decide +kernel⟩
theorem yfX11_readCast : xYv RX11 yX11_readCast cX11_readCast 1 none 0 := ⟨xm 934 (by decide +kernel) rfl, xm 933 (by decide +kernel) rfl, xm 23 (by decide +kernel) rfl, xm 60 (by decide +kernel) rfl, by decide +kernel, by decide +kernel, by decide +kernel⟩
theorem yfX11_readItem : xYv RX11 yX11_readItem cX11_readItem 3 none 0 := ⟨xm 922 (by decide +kernel) rfl, xm 921 (by decide +kernel) rfl, xm 20 (by decide +kernel) rfl, xm 60 (by decide +kernel) rfl, by decide +kernel, by decide +kernel, by decide +kernel⟩
theorem yfX11_hall : xYv RX11 yX11_hall cX11_hall 1 (some .int) 0 := ⟨xm 904 (by decide +kernel) rfl, xm 902 (by decide +kernel) rfl, xm 903 (by decide +kernel) rfl, xm 60 (by decide +kernel) rfl, by decide +kernel, by decide +kernel, by decide +kernel⟩
theorem yfX11_settles : xYv RX11 yX11_settles cX11_settles 2 none 0 := ⟨xm 938 (by decide +kernel) rfl, xm 937 (by decide +kernel) rfl, xm 24 (by decide +kernel) rfl, xm 60 (by decide +kernel) rfl, by decide +kernel, by decide +kernel, by decide +kernel⟩
theorem yfX11_can : xYv RX11 yX11_can cX11_can 3 (some .boolean) 2 := ⟨xm 954 (by decide +kernel) rfl, xm 953 (by decide +kernel) rfl, xm 27 (by decide +kernel) rfl, xm 60 (by decide +kernel) rfl, by decide +kernel, by decide +kernel, by decide +kernel⟩
theorem yfX11_isBroken : xYv RX11 yX11_isBroken cX11_isBroken 2 (some .boolean) 1 := ⟨xm 969 (by decide +kernel) rfl, xm 968 (by decide +kernel) rfl, xm 29 (by decide +kernel) rfl, xm 60 (by decide +kernel) rfl, by decide +kernel, by decide +kernel, by decide +kernel⟩
theorem yfX11_hasPart : xYv RX11 yX11_hasPart cX11_hasPart 3 (some .boolean) 2 := ⟨xm 981 (by decide +kernel) rfl, xm 980 (by decide +kernel) rfl, xm 32 (by decide +kernel) rfl, xm 60 (by decide +kernel) rfl, by decide +kernel, by decide +kernel, by decide +kernel⟩
theorem yfX11_may : xYv RX11 yX11_may cX11_may 3 (some .boolean) 2 := ⟨xm 977 (by decide +kernel) rfl, xm 976 (by decide +kernel) rfl, xm 31 (by decide +kernel) rfl, xm 60 (by decide +kernel) rfl, by decide +kernel, by decide +kernel, by decide +kernel⟩
theorem yfX11_mays : xYv RX11 yX11_mays cX11_mays 4 (some .int) 1 := ⟨xm 973 (by decide +kernel) rfl, xm 972 (by decide +kernel) rfl, xm 30 (by decide +kernel) rfl, xm 60 (by decide +kernel) rfl, by decide +kernel, by decide +kernel, by decide +kernel⟩
theorem yfX11_whoCan : xYv RX11 yX11_whoCan cX11_whoCan 4 (some .int) 1 := ⟨xm 950 (by decide +kernel) rfl, xm 949 (by decide +kernel) rfl, xm 26 (by decide +kernel) rfl, xm 60 (by decide +kernel) rfl, by decide +kernel, by decide +kernel, by decide +kernel⟩
theorem yfX11_thing : xYv RX11 yX11_thing cX11_thing 3 (some .int) 2 := ⟨xm 942 (by decide +kernel) rfl, xm 940 (by decide +kernel) rfl, xm 941 (by decide +kernel) rfl, xm 60 (by decide +kernel) rfl, by decide +kernel, by decide +kernel, by decide +kernel⟩
theorem yfX11_cast : xYv RX11 yX11_cast cX11_cast 3 (some .int) 2 := ⟨xm 961 (by decide +kernel) rfl, xm 959 (by decide +kernel) rfl, xm 960 (by decide +kernel) rfl, xm 60 (by decide +kernel) rfl, by decide +kernel, by decide +kernel, by decide +kernel⟩
theorem yfX11_far : xYv RX11 yX11_far cX11_far 3 (some .int) 2 := ⟨xm 985 (by decide +kernel) rfl, xm 983 (by decide +kernel) rfl, xm 984 (by decide +kernel) rfl, xm 60 (by decide +kernel) rfl, by decide +kernel, by decide +kernel, by decide +kernel⟩
theorem yfX11_remembers : xYv RX11 yX11_remembers cX11_remembers 3 none 0 := ⟨xm 993 (by decide +kernel) rfl, xm 992 (by decide +kernel) rfl, xm 33 (by decide +kernel) rfl, xm 60 (by decide +kernel) rfl, by decide +kernel, by decide +kernel, by decide +kernel⟩
theorem yfX11_sets : xYv RX11 yX11_sets cX11_sets 5 (some .int) 2 := ⟨xm 989 (by decide +kernel) rfl, xm 987 (by decide +kernel) rfl, xm 988 (by decide +kernel) rfl, xm 60 (by decide +kernel) rfl, by decide +kernel, by decide +kernel, by decide +kernel⟩
theorem yfX11_learns : xYv RX11 yX11_learns cX11_learns 6 none 2 := ⟨xm 1001 (by decide +kernel) rfl, xm 1000 (by decide +kernel) rfl, xm 34 (by decide +kernel) rfl, xm 60 (by decide +kernel) rfl, by decide +kernel, by decide +kernel, by decide +kernel⟩
theorem yfX11_nights : xYv RX11 yX11_nights cX11_nights 4 (some .int) 1 := ⟨xm 997 (by decide +kernel) rfl, xm 995 (by decide +kernel) rfl, xm 996 (by decide +kernel) rfl, xm 60 (by decide +kernel) rfl, by decide +kernel, by decide +kernel, by decide +kernel⟩
theorem yfX11_mends : xYv RX11 yX11_mends cX11_mends 3 (some .int) 1 := ⟨xm 1008 (by decide +kernel) rfl, xm 1006 (by decide +kernel) rfl, xm 1007 (by decide +kernel) rfl, xm 60 (by decide +kernel) rfl, by decide +kernel, by decide +kernel, by decide +kernel⟩
theorem yfX11_joins : xYv RX11 yX11_joins cX11_joins 5 (some .int) 3 := ⟨xm 1012 (by decide +kernel) rfl, xm 1010 (by decide +kernel) rfl, xm 1011 (by decide +kernel) rfl, xm 60 (by decide +kernel) rfl, by decide +kernel, by decide +kernel, by decide +kernel⟩
theorem yfX11_undo : xYv RX11 yX11_undo cX11_undo 3 (some .int) 0 := ⟨xm 1016 (by decide +kernel) rfl, xm 1014 (by decide +kernel) rfl, xm 1015 (by decide +kernel) rfl, xm 60 (by decide +kernel) rfl, by decide +kernel, by decide +kernel, by decide +kernel⟩
theorem yfX11_inClass : xYv RX11 yX11_inClass cX11_inClass 3 (some .int) 0 := ⟨xm 1024 (by decide +kernel) rfl, xm 1023 (by decide +kernel) rfl, xm 35 (by decide +kernel) rfl, xm 60 (by decide +kernel) rfl, by decide +kernel, by decide +kernel, by decide +kernel⟩
theorem yfX11_learntAll : xYv RX11 yX11_learntAll cX11_learntAll 3 (some .int) 0 := ⟨xm 1028 (by decide +kernel) rfl, xm 1027 (by decide +kernel) rfl, xm 36 (by decide +kernel) rfl, xm 60 (by decide +kernel) rfl, by decide +kernel, by decide +kernel, by decide +kernel⟩
theorem yfX11_now : xYv RX11 yX11_now cX11_now 2 (some .int) 1 := ⟨xm 1020 (by decide +kernel) rfl, xm 1018 (by decide +kernel) rfl, xm 1019 (by decide +kernel) rfl, xm 60 (by decide +kernel) rfl, by decide +kernel, by decide +kernel, by decide +kernel⟩
theorem yfX11_nightsFor : xYv RX11 yX11_nightsFor cX11_nightsFor 5 (some .int) 2 := ⟨xm 1056 (by decide +kernel) rfl, xm 1055 (by decide +kernel) rfl, xm 42 (by decide +kernel) rfl, xm 60 (by decide +kernel) rfl, by decide +kernel, by decide +kernel, by decide +kernel⟩
theorem yfX11_nightsOf : xYv RX11 yX11_nightsOf cX11_nightsOf 5 (some .int) 2 := ⟨xm 1060 (by decide +kernel) rfl, xm 1059 (by decide +kernel) rfl, xm 43 (by decide +kernel) rfl, xm 60 (by decide +kernel) rfl, by decide +kernel, by decide +kernel, by decide +kernel⟩
theorem yfX11_cracksOf : xYv RX11 yX11_cracksOf cX11_cracksOf 5 (some .int) 2 := ⟨xm 1052 (by decide +kernel) rfl, xm 1051 (by decide +kernel) rfl, xm 41 (by decide +kernel) rfl, xm 60 (by decide +kernel) rfl, by decide +kernel, by decide +kernel, by decide +kernel⟩
theorem yfX11_bears : xYv RX11 yX11_bears cX11_bears 5 (some .boolean) 2 := ⟨xm 1048 (by decide +kernel) rfl, xm 1047 (by decide +kernel) rfl, xm 40 (by decide +kernel) rfl, xm 60 (by decide +kernel) rfl, by decide +kernel, by decide +kernel, by decide +kernel⟩
theorem yfX11_wanted : xYv RX11 yX11_wanted cX11_wanted 5 (some .int) 2 := ⟨xm 1044 (by decide +kernel) rfl, xm 1043 (by decide +kernel) rfl, xm 39 (by decide +kernel) rfl, xm 60 (by decide +kernel) rfl, by decide +kernel, by decide +kernel, by decide +kernel⟩
theorem yfX11_kth : xYs yX11_kth cX11_kth 4 (some .int) 2 := ⟨xm 1063 (by decide +kernel) rfl, xm 1062 (by decide +kernel) rfl, xm 60 (by decide +kernel) rfl, by decide +kernel, by decide +kernel, by decide +kernel⟩
theorem yfX11_plan : xYv RX11 yX11_plan cX11_plan 5 (some .int) 3 := ⟨xm 1040 (by decide +kernel) rfl, xm 1038 (by decide +kernel) rfl, xm 1039 (by decide +kernel) rfl, xm 60 (by decide +kernel) rfl, by decide +kernel, by decide +kernel, by decide +kernel⟩
theorem yfX11_isWhole : xYv RX11 yX11_isWhole cX11_isWhole 5 (some .boolean) 2 := ⟨xm 1071 (by decide +kernel) rfl, xm 1070 (by decide +kernel) rfl, xm 44 (by decide +kernel) rfl, xm 60 (by decide +kernel) rfl, by decide +kernel, by decide +kernel, by decide +kernel⟩
theorem yfX11_best : xYv RX11 yX11_best cX11_best 8 (some .int) 3 := ⟨xm 1067 (by decide +kernel) rfl, xm 1065 (by decide +kernel) rfl, xm 1066 (by decide +kernel) rfl, xm 60 (by decide +kernel) rfl, by decide +kernel, by decide +kernel, by decide +kernel⟩
theorem yfX11_layMost : xYv RX11 yX11_layMost cX11_layMost 6 none 0 := ⟨xm 1079 (by decide +kernel) rfl, xm 1078 (by decide +kernel) rfl, xm 45 (by decide +kernel) rfl, xm 60 (by decide +kernel) rfl, by decide +kernel, by decide +kernel, by decide +kernel⟩
theorem yfX11_givenTo : xYv RX11 yX11_givenTo cX11_givenTo 5 (some .int) 2 := ⟨xm 1083 (by decide +kernel) rfl, xm 1082 (by decide +kernel) rfl, xm 46 (by decide +kernel) rfl, xm 60 (by decide +kernel) rfl, by decide +kernel, by decide +kernel, by decide +kernel⟩
theorem yfX11_own : xYv RX11 yX11_own cX11_own 5 (some .int) 1 := ⟨xm 1075 (by decide +kernel) rfl, xm 1073 (by decide +kernel) rfl, xm 1074 (by decide +kernel) rfl, xm 60 (by decide +kernel) rfl, by decide +kernel, by decide +kernel, by decide +kernel⟩
theorem yfX11_between : xYv RX11 yX11_between cX11_between 3 (some .int) 2 := ⟨xm 1036 (by decide +kernel) rfl, xm 1035 (by decide +kernel) rfl, xm 38 (by decide +kernel) rfl, xm 60 (by decide +kernel) rfl, by decide +kernel, by decide +kernel, by decide +kernel⟩
theorem yfX11_near : xYv RX11 yX11_near cX11_near 3 (some .int) 2 := ⟨xm 1087 (by decide +kernel) rfl, xm 1085 (by decide +kernel) rfl, xm 1086 (by decide +kernel) rfl, xm 60 (by decide +kernel) rfl, by decide +kernel, by decide +kernel, by decide +kernel⟩
theorem yfX11_tree : xYv RX11 yX11_tree cX11_tree 9 (some .int) 0 := ⟨xm 1032 (by decide +kernel) rfl, xm 1031 (by decide +kernel) rfl, xm 37 (by decide +kernel) rfl, xm 60 (by decide +kernel) rfl, by decide +kernel, by decide +kernel, by decide +kernel⟩
theorem yfX11_lowest : xYs yX11_lowest cX11_lowest 6 (some .int) 3 := ⟨xm 1094 (by decide +kernel) rfl, xm 1093 (by decide +kernel) rfl, xm 60 (by decide +kernel) rfl, by decide +kernel, by decide +kernel, by decide +kernel⟩
theorem yfX11_odds : xYv RX11 yX11_odds cX11_odds 10 (some .int) 3 := ⟨xm 1091 (by decide +kernel) rfl, xm 1089 (by decide +kernel) rfl, xm 1090 (by decide +kernel) rfl, xm 60 (by decide +kernel) rfl, by decide +kernel, by decide +kernel, by decide +kernel⟩
theorem yfX11_hears : xYv RX11 yX11_hears cX11_hears 3 (some .int) 2 := ⟨xm 1098 (by decide +kernel) rfl, xm 1096 (by decide +kernel) rfl, xm 1097 (by decide +kernel) rfl, xm 60 (by decide +kernel) rfl, by decide +kernel, by decide +kernel, by decide +kernel⟩
theorem yfX11_forget : xYv RX11 yX11_forget cX11_forget 2 (some .int) 0 := ⟨xm 1102 (by decide +kernel) rfl, xm 1100 (by decide +kernel) rfl, xm 1101 (by decide +kernel) rfl, xm 60 (by decide +kernel) rfl, by decide +kernel, by decide +kernel, by decide +kernel⟩
theorem yfX11_who : xYv RX11 yX11_who cX11_who 5 (some .int) 0 := ⟨xm 1106 (by decide +kernel) rfl, xm 1104 (by decide +kernel) rfl, xm 1105 (by decide +kernel) rfl, xm 60 (by decide +kernel) rfl, by decide +kernel, by decide +kernel, by decide +kernel⟩
theorem yfX11_ask : xYv RX11 yX11_ask cX11_ask 8 (some .int) 0 := ⟨xm 1110 (by decide +kernel) rfl, xm 1108 (by decide +kernel) rfl, xm 1109 (by decide +kernel) rfl, xm 60 (by decide +kernel) rfl, by decide +kernel, by decide +kernel, by decide +kernel⟩
theorem yfX11_mark : xYv RX11 yX11_mark cX11_mark 6 (some .int) 2 := ⟨xm 1115 (by decide +kernel) rfl, xm 1113 (by decide +kernel) rfl, xm 1114 (by decide +kernel) rfl, xm 60 (by decide +kernel) rfl, by decide +kernel, by decide +kernel, by decide +kernel⟩
theorem yfX11_keep : xYv RX11 yX11_keep cX11_keep 3 (some .int) 1 := ⟨xm 1125 (by decide +kernel) rfl, xm 1123 (by decide +kernel) rfl, xm 1124 (by decide +kernel) rfl, xm 60 (by decide +kernel) rfl, by decide +kernel, by decide +kernel, by decide +kernel⟩
theorem yfX11_back : xYv RX11 yX11_back cX11_back 3 (some .int) 1 := ⟨xm 1129 (by decide +kernel) rfl, xm 1127 (by decide +kernel) rfl, xm 1128 (by decide +kernel) rfl, xm 60 (by decide +kernel) rfl, by decide +kernel, by decide +kernel, by decide +kernel⟩
theorem yfX11_count : xYv RX11 yX11_count cX11_count 2 (some .int) 1 := ⟨xm 1133 (by decide +kernel) rfl, xm 1131 (by decide +kernel) rfl, xm 1132 (by decide +kernel) rfl, xm 60 (by decide +kernel) rfl, by decide +kernel, by decide +kernel, by decide +kernel⟩
theorem yfX11_trace : xYv RX11 yX11_trace cX11_trace 1 (some .long) 0 := ⟨xm 1137 (by decide +kernel) rfl, xm 1135 (by decide +kernel) rfl, xm 1136 (by decide +kernel) rfl, xm 60 (by decide +kernel) rfl, by decide +kernel, by decide +kernel, by decide +kernel⟩
theorem yfJ6_bitCount_0f7a4 : xYs yJ6_bitCount_0f7a4 cJ6_bitCount_0f7a4 1 (some .int) 1 := ⟨xm 529 (by decide +kernel) rfl, xm 528 (by decide +kernel) rfl, xm 63 (by decide +kernel) rfl, by decide +kernel, by decide +kernel, by decide +kernel⟩
theorem yfJ7_fill_53178 : xYs yJ7_fill_53178 cJ7_fill_53178 4 none 2 := ⟨xm 187 (by decide +kernel) rfl, xm 186 (by decide +kernel) rfl, xm 53 (by decide +kernel) rfl, by decide +kernel, by decide +kernel, by decide +kernel⟩
theorem ac_nat : Cond.native arraycopyName ∈ xT := xm 448 (by decide +kernel) rfl
theorem ac_st : Cond.static arraycopyName ∈ xT := xm 447 (by decide +kernel) rfl
theorem ac_in : Cond.initialized "java/lang/System" ∈ xT := xm 62 (by decide +kernel) rfl
theorem mmax_st : Cond.static Lib.Math.max.name ∈ xT := xm 598 (by decide +kernel) rfl
theorem mmax_cd : Cond.code Lib.Math.max.name Lib.Math.max.code 2 (some .int) ∈ xT := xm 599 (by decide +kernel) rfl
theorem mmin_st : Cond.static Lib.Math.min.name ∈ xT := xm 408 (by decide +kernel) rfl
theorem mmin_cd : Cond.code Lib.Math.min.name Lib.Math.min.code 2 (some .int) ∈ xT := xm 409 (by decide +kernel) rfl
theorem math_in : Cond.initialized "java/lang/Math" ∈ xT := xm 61 (by decide +kernel) rfl
theorem kcJ6_265 : Cond.constant RJ6 265 (1431655765) ∈ xT := xm 530 (by decide +kernel) rfl
theorem kcJ6_266 : Cond.constant RJ6 266 (858993459) ∈ xT := xm 531 (by decide +kernel) rfl
theorem kcJ6_267 : Cond.constant RJ6 267 (252645135) ∈ xT := xm 532 (by decide +kernel) rfl
theorem kcX10_265 : Cond.constant RX10 265 (-1000000) ∈ xT := xm 720 (by decide +kernel) rfl
theorem klX3_48 : Cond.constantLong RX3 48 (10) ∈ xT := xm 729 (by decide +kernel) rfl
theorem klX3_58 : Cond.constantLong RX3 58 (100) ∈ xT := xm 739 (by decide +kernel) rfl
theorem klX3_63 : Cond.constantLong RX3 63 (1000) ∈ xT := xm 744 (by decide +kernel) rfl
theorem klX3_65 : Cond.constantLong RX3 65 (10000) ∈ xT := xm 749 (by decide +kernel) rfl
theorem klX3_67 : Cond.constantLong RX3 67 (100000) ∈ xT := xm 754 (by decide +kernel) rfl
theorem kcX11_225 : Cond.constant RX11 225 (-1000000) ∈ xT := xm 1116 (by decide +kernel) rfl
theorem klX11_230 : Cond.constantLong RX11 230 (11) ∈ xT := xm 1117 (by decide +kernel) rfl
theorem klX11_232 : Cond.constantLong RX11 232 (101) ∈ xT := xm 1118 (by decide +kernel) rfl
theorem klX11_234 : Cond.constantLong RX11 234 (1011) ∈ xT := xm 1119 (by decide +kernel) rfl
theorem klX11_236 : Cond.constantLong RX11 236 (10101) ∈ xT := xm 1120 (by decide +kernel) rfl
theorem klX11_238 : Cond.constantLong RX11 238 (100001) ∈ xT := xm 1121 (by decide +kernel) rfl
abbrev xty (Y : Nat → ClassId) : List (ClassId × FieldType) := [(Y 0, .int), (Y 1, .boolean), (Y 2, .object "CastGallery$Image")]
def wC (a : Nat → Nat) (Y : Nat → ClassId) (u : xU) : va_W := [(a 0, .inr (10, [.ref (a 1), .ref (a 12), .ref (a 27), .ref (a 29), .ref (a 38), .ref (a 41), .ref (a 44), .ref (a 47)])), (a 1, .inr (8, [.ref (a 2), .int (u.1 1 1), .ref (a 4), .int (u.1 1 3), .int (u.1 1 4), .int (u.1 1 5), .int (u.1 1 6), .ref (a 3)])), (a 2, .inl (Y 0, 150, .inl (u.1 2))), (a 3, .inl (Y 0, 5, .inl (u.1 3))), (a 4, .inr (9, [.int (u.1 4 0), .int (u.1 4 1), .ref (a 5), .ref (a 6), .ref (a 7), .ref (a 8), .ref (a 9), .ref (a 10), .ref (a 11)])), (a 5, .inl (Y 0, 8, .inl (u.1 5))), (a 6, .inl (Y 0, 8, .inl (u.1 6))), (a 7, .inl (Y 0, 8, .inl (u.1 7))), (a 8, .inl (Y 0, 8, .inl (u.1 8))), (a 9, .inl (Y 0, 6, .inl (u.1 9))), (a 10, .inl (Y 0, 6, .inl (u.1 10))), (a 11, .inl (Y 0, 6, .inl (u.1 11))), (a 12, .inr (0, [.ref (a 13), .ref (a 21)])), (a 13, .inr (9, [.int (u.1 13 0), .int (u.1 13 1), .ref (a 14), .ref (a 15), .ref (a 16), .ref (a 17), .ref (a 18), .ref (a 19), .ref (a 20)])), (a 14, .inl (Y 0, 8, .inl (u.1 14))), (a 15, .inl (Y 0, 8, .inl (u.1 15))), (a 16, .inl (Y 0, 8, .inl (u.1 16))), (a 17, .inl (Y 0, 8, .inl (u.1 17))), (a 18, .inl (Y 0, 6, .inl (u.1 18))), (a 19, .inl (Y 0, 6, .inl (u.1 19))), (a 20, .inl (Y 0, 6, .inl (u.1 20))), (a 21, .inr (4, [.int (u.1 21 0), .int (u.1 21 1), .ref (a 22), .ref (a 23), .ref (a 24), .ref (a 25), .ref (a 26)])), (a 22, .inl (Y 0, 48, .inl (u.1 22))), (a 23, .inl (Y 0, 6, .inl (u.1 23))), (a 24, .inl (Y 0, 6, .inl (u.1 24))), (a 25, .inl (Y 0, 6, .inl (u.1 25))), (a 26, .inl (Y 0, 6, .inl (u.1 26))), (a 27, .inr (6, [.ref (a 28), .int (u.1 27 1), .int (u.1 27 2)])), (a 28, .inl (Y 0, 740, .inl (u.1 28))), (a 29, .inl (Y 2, 2, .inr (.inr (.inr (.inr (fun j => if j = 0 then some (a 30) else some (a 34))))))), (a 30, .inr (2, [.ref (a 31), .ref (a 32), .int (u.1 30 2)])), (a 31, .inl (Y 0, 74, .inl (u.1 31))), (a 32, .inr (6, [.ref (a 33), .int (u.1 32 1), .int (u.1 32 2)])), (a 33, .inl (Y 0, 740, .inl (u.1 33))), (a 34, .inr (2, [.ref (a 35), .ref (a 36), .int (u.1 34 2)])), (a 35, .inl (Y 0, 74, .inl (u.1 35))), (a 36, .inr (6, [.ref (a 37), .int (u.1 36 1), .int (u.1 36 2)])), (a 37, .inl (Y 0, 740, .inl (u.1 37))), (a 38, .inr (7, [.ref (a 12), .ref (a 39), .ref (a 40)])), (a 39, .inl (Y 0, 8, .inl (u.1 39))), (a 40, .inl (Y 0, 8, .inl (u.1 40))), (a 41, .inr (5, [.ref (a 12), .ref (a 42), .ref (a 43)])), (a 42, .inl (Y 0, 1792, .inl (u.1 42))), (a 43, .inl (Y 0, 6, .inl (u.1 43))), (a 44, .inr (1, [.ref (a 12), .ref (a 45), .ref (a 46), .int (u.1 44 3)])), (a 45, .inl (Y 0, 6, .inl (u.1 45))), (a 46, .inl (Y 0, 6, .inl (u.1 46))), (a 47, .inr (3, [.ref (a 12), .long u.2]))]
def wM (a : Nat → Nat) (Y : Nat → ClassId) (u : xU) : va_W := [(a 0, .inr (11, [.int (u.1 0 0), .ref (a 1), .ref (a 2), .ref (a 3), .ref (a 4), .int (u.1 0 5), .ref (a 5), .ref (a 6), .ref (a 7), .ref (a 8), .ref (a 9), .int (u.1 0 11), .ref (a 10), .long u.2, .ref (a 11), .int (u.1 0 15), .int (u.1 0 16), .int (u.1 0 17), .int (u.1 0 18), .int (u.1 0 19), .int (u.1 0 20), .int (u.1 0 21), .int (u.1 0 22), .ref (a 12), .ref (a 13), .ref (a 14), .ref (a 15), .int (u.1 0 27), .ref (a 16), .ref (a 17), .ref (a 18), .ref (a 19)])), (a 1, .inl (Y 0, 8, .inl (u.1 1))), (a 2, .inl (Y 0, 8, .inl (u.1 2))), (a 3, .inl (Y 0, 8, .inl (u.1 3))), (a 4, .inl (Y 0, 8, .inl (u.1 4))), (a 5, .inl (Y 0, 6, .inl (u.1 5))), (a 6, .inl (Y 0, 6, .inl (u.1 6))), (a 7, .inl (Y 0, 815, .inl (u.1 7))), (a 8, .inl (Y 0, 1630, .inl (u.1 8))), (a 9, .inl (Y 1, 2, .inl (u.1 9))), (a 10, .inl (Y 0, 12, .inl (u.1 10))), (a 11, .inl (Y 0, 150, .inl (u.1 11))), (a 12, .inl (Y 0, 8, .inl (u.1 12))), (a 13, .inl (Y 0, 8, .inl (u.1 13))), (a 14, .inl (Y 0, 8, .inl (u.1 14))), (a 15, .inl (Y 0, 8, .inl (u.1 15))), (a 16, .inl (Y 0, 6, .inl (u.1 16))), (a 17, .inl (Y 0, 6, .inl (u.1 17))), (a 18, .inl (Y 0, 6, .inl (u.1 18))), (a 19, .inl (Y 0, 1792, .inl (u.1 19)))]
end
section
theorem xq_lt {x y : Int32} {a b : Int} (h : x < y) (hx : x.toInt = a) (hy : y.toInt = b) : a < b := by rw [← hx, ← hy]; exact Int32.lt_iff_toInt_lt.mp h
theorem xq_nlt {x y : Int32} {a b : Int} (h : ¬ x < y) (hx : x.toInt = a) (hy : y.toInt = b) : b ≤ a := by
  rw [Int32.lt_iff_toInt_lt, hx, hy] at h; omega
theorem xq_le {x y : Int32} {a b : Int} (h : x ≤ y) (hx : x.toInt = a) (hy : y.toInt = b) : a ≤ b := by rw [← hx, ← hy]; exact Int32.le_iff_toInt_le.mp h
theorem xq_nle {x y : Int32} {a b : Int} (h : ¬ x ≤ y) (hx : x.toInt = a) (hy : y.toInt = b) : b < a := by
  rw [Int32.le_iff_toInt_le, hx, hy] at h; omega
theorem xq_eq {x y : Int32} {a b : Int} (h : x = y) (hx : x.toInt = a) (hy : y.toInt = b) : a = b := by rw [← hx, ← hy, h]
theorem xq_ne {x y : Int32} {a b : Int} (h : ¬ x = y) (hx : x.toInt = a) (hy : y.toInt = b) : ¬ a = b := fun e => h (Int32.toInt_inj.mp (by rw [hx, hy, e]))
theorem xbm {z : Int} (h1 : -2147483648 ≤ z) (h2 : z < 2147483648) : z.bmod (2 ^ 32) = z := by
  rw [Int.bmod_eq_of_le (by omega) (by omega)]
theorem xadd {x y : Int32} {a b : Int} (hx : x.toInt = a) (hy : y.toInt = b) (h1 : -2147483648 ≤ a + b) (h2 : a + b < 2147483648) : (x + y).toInt = a + b := by rw [Int32.toInt_add, hx, hy, xbm h1 h2]
theorem xsub {x y : Int32} {a b : Int} (hx : x.toInt = a) (hy : y.toInt = b) (h1 : -2147483648 ≤ a - b) (h2 : a - b < 2147483648) : (x - y).toInt = a - b := by rw [Int32.toInt_sub, hx, hy, xbm h1 h2]
theorem xmul {x y : Int32} {a b : Int} (hx : x.toInt = a) (hy : y.toInt = b) (h1 : -2147483648 ≤ a * b) (h2 : a * b < 2147483648) : (x * y).toInt = a * b := by rw [Int32.toInt_mul, hx, hy, xbm h1 h2]
theorem xvi {x : Int32} {a : Int} {n : Nat} (hx : x.toInt = a) (h0 : 0 ≤ a) (h1 : a < n) : vp_in x n := vp_in_iff.mpr ⟨by omega, by omega⟩
theorem xof8 {x : Int32} {n : Nat} (h0 : 0 ≤ x.toInt) (h1 : x.toInt < n) (hn : n < 2147483648) : ∃ j : Nat, j < n ∧ x = nI j := ⟨x.toInt.toNat, by omega, Int32.toInt_inj.mp (by rw [nI_toInt (by omega)]; omega)⟩
theorem xsh1 {t : Int32} (h0 : 0 ≤ t.toInt) (h1 : t.toInt < 8) : 0 ≤ ((1 : Int32) <<< (t &&& 31)).toInt ∧ ((1 : Int32) <<< (t &&& 31)).toInt < 256 := by
  obtain ⟨j, hj, rfl⟩ := xof8 (n := 8) h0 h1 (by decide)
  have : ∀ k : Fin 8, 0 ≤ ((1 : Int32) <<< (nI k.val &&& 31)).toInt ∧ ((1 : Int32) <<< (nI k.val &&& 31)).toInt < 256 := by decide +kernel
  exact this ⟨j, hj⟩
theorem xsh0 {t : Int32} (h0 : 0 ≤ t.toInt) (h1 : t.toInt ≤ 8) : 1 ≤ ((1 : Int32) <<< (t &&& 31)).toInt ∧ ((1 : Int32) <<< (t &&& 31)).toInt ≤ 256 := by
  obtain ⟨j, hj, rfl⟩ := xof8 h0 (n := 9) (by omega) (by decide)
  have : ∀ k : Fin 9, 1 ≤ ((1 : Int32) <<< (nI k.val &&& 31)).toInt ∧ ((1 : Int32) <<< (nI k.val &&& 31)).toInt ≤ 256 := by decide +kernel
  exact this ⟨j, hj⟩
theorem xor8 {x y : Int32} (h0 : 0 ≤ x.toInt) (h1 : x.toInt < 256) (g0 : 0 ≤ y.toInt) (g1 : y.toInt < 256) : 0 ≤ (x ||| y).toInt ∧ (x ||| y).toInt < 256 := by
  obtain ⟨i, hi, rfl⟩ := xof8 (n := 256) h0 h1 (by decide)
  obtain ⟨j, hj, rfl⟩ := xof8 (n := 256) g0 g1 (by decide)
  have e : nI i ||| nI j = nI (i ||| j) := by
    apply Int32.toBitVec_inj.1
    show BitVec.ofNat 32 i ||| BitVec.ofNat 32 j = BitVec.ofNat 32 (i ||| j)
    apply BitVec.eq_of_toNat_eq
    have hij : i ||| j < 256 := Nat.or_lt_two_pow (n := 8) hi hj
    rw [BitVec.toNat_or, BitVec.toNat_ofNat, BitVec.toNat_ofNat, BitVec.toNat_ofNat, Nat.mod_eq_of_lt (by omega), Nat.mod_eq_of_lt (by omega), Nat.mod_eq_of_lt (by omega)]
  have hij : i ||| j < 256 := Nat.or_lt_two_pow (n := 8) hi hj
  rw [e, nI_toInt (by omega)]
  omega
theorem xnI {x : Int32} (h0 : 0 ≤ x.toInt) : ∃ j : Nat, j < 2 ^ 31 ∧ x = nI j := ⟨x.toInt.toNat, by have := Int32.toInt_lt x; omega, Int32.toInt_inj.mp (by rw [nI_toInt (by have := Int32.toInt_lt x; omega)]; omega)⟩
theorem xrem {y z : Int32} (hy : 0 ≤ y.toInt) (hz : 0 < z.toInt) : 0 ≤ (y - y / z * z).toInt ∧ (y - y / z * z).toInt < z.toInt := by
  obtain ⟨i, hi, rfl⟩ := xnI hy
  obtain ⟨j, hj, rfl⟩ := xnI (x := z) (by omega)
  have e := nI_toInt hj
  have hj0 : 0 < j := by omega
  have hl := Nat.mod_lt i hj0
  rw [pk_rem hi hj0 hj, nI_toInt (by omega), e]
  omega
theorem xbn {x : Int32} (h : x.toInt = 0 ∨ x.toInt = 1) : narrow .boolean (.int x) = .int x := by
  rcases h with h | h
  · rw [show x = 0 from Int32.toInt_inj.mp h]; rfl
  · rw [show x = 1 from Int32.toInt_inj.mp h]; rfl
theorem xbb {x : Int32} (h : x.toInt = 0 ∨ x.toInt = 1) : b2i (x != 0) = x := by
  rcases h with h | h
  · rw [show x = 0 from Int32.toInt_inj.mp h]; rfl
  · rw [show x = 1 from Int32.toInt_inj.mp h]; rfl
section XC
variable {p : Program} {l : Launch} {e : Env} {R : Room} {s : State} {m : MethodId} {args : Array Value} {below : List Frame} {meth : Method} {c : Code} {H : Heap} {locs : List Loc} {cells slots : Nat} {Q : State → Prop}
variable {cc : ByteArray} {pc nL index : Nat} {ls : Array Slot} {rest : List Value} {own : String} {D : va_G} {tys : List (ClassId × FieldType)} {wf : xU → va_W} {ts : Nat → Nat} {A : Nat → Prop} {u : xU} {a ci : Nat} {fs : List Value} {C : String} {T : u_T} {N : Nat}
theorem xci {y : MethodName} {bytes : ByteArray} {maxL n : Nat} {ret : Option FieldType} {rm : Room} {As st0 : List Value} {r : Int32} {v : xU} {b : Nat} (S : CallFix p m c cc nL s args xT own) (hK : va_K D vwCl tys s) (hE : xE ts A s) (hA : ∀ q, s.heap.size ≤ q → A q) (hw : xw D wf A s.heap H locs u) (hY : xYv C y bytes maxL ret n) (hM : xMi l y bytes maxL ret rm D tys wf ts (.ref b :: As) u (r, v)) (q0 : Nat) (he : (wf u)[q0]? = some (b, .inr (ci, fs))) (hc : vwCl[ci]? = some (C, T, N)) (hlk : Cond.methodLink own index y ∈ xT) (hn : As.length = n) (hst : st0 = As.reverse ++ .ref b :: rest) (hls : ls.size = nL) (hz : rm.cells = 0 ∧ rm.slots = 0 ∧ rm.frames + 1 ≤ R.frames ∧ 8 + (maxL + 11) + rm.locals ≤ R.locals ∧ (rest.map fun v => v.category).sum ≤ 8 ∧ cells ≤ R.cells ∧ slots ≤ R.slots) (hdg : decode cc pc = .ok (.invokevirtual index, 3))
    (kk : ∀ (H1 : Heap) (locs1 : List Loc), xw D wf A s.heap H1 locs1 v → W p l e R s m args below meth c H1 locs1 cells slots Q (F0 m (pc + 3) ls (.int r :: rest))) : W p l e R s m args below meth c H locs cells slots Q (F0 m pc ls st0) := xcV S hK hE hA hw hY hM q0 he hc hlk hn hst hls hz hdg kk
theorem xcl {y : MethodName} {bytes : ByteArray} {maxL n : Nat} {ret : Option FieldType} {rm : Room} {As st0 : List Value} {r : Int64} {v : xU} {b : Nat} (S : CallFix p m c cc nL s args xT own) (hK : va_K D vwCl tys s) (hE : xE ts A s) (hA : ∀ q, s.heap.size ≤ q → A q) (hw : xw D wf A s.heap H locs u) (hY : xYv C y bytes maxL ret n) (hM : xMl l y bytes maxL ret rm D tys wf ts (.ref b :: As) u (r, v)) (q0 : Nat) (he : (wf u)[q0]? = some (b, .inr (ci, fs))) (hc : vwCl[ci]? = some (C, T, N)) (hlk : Cond.methodLink own index y ∈ xT) (hn : As.length = n) (hst : st0 = As.reverse ++ .ref b :: rest) (hls : ls.size = nL) (hz : rm.cells = 0 ∧ rm.slots = 0 ∧ rm.frames + 1 ≤ R.frames ∧ 8 + (maxL + 11) + rm.locals ≤ R.locals ∧ (rest.map fun v => v.category).sum ≤ 8 ∧ cells ≤ R.cells ∧ slots ≤ R.slots) (hdg : decode cc pc = .ok (.invokevirtual index, 3))
    (kk : ∀ (H1 : Heap) (locs1 : List Loc), xw D wf A s.heap H1 locs1 v → W p l e R s m args below meth c H1 locs1 cells slots Q (F0 m (pc + 3) ls (.long r :: rest))) : W p l e R s m args below meth c H locs cells slots Q (F0 m pc ls st0) := xcVl S hK hE hA hw hY hM q0 he hc hlk hn hst hls hz hdg kk
/-- a static array of the class -/
theorem xgst (S : CallFix p m c cc nL s args xT own) (hE : xE ts A s) (hw : xw D wf A s.heap H locs u) (k : Nat) (hk : k < 4) (hlk : Cond.fieldLink own index RX8 (xzn k) "[I" ∈ xT) (hdg : decode cc pc = .ok (.getstatic index, 3))
    (kk : W p l e R s m args below meth c H locs cells slots Q (F0 m (pc + 3) ls (.ref (ts k) :: rest))) : W p l e R s m args below meth c H locs cells slots Q (F0 m pc ls rest) :=
  va_gets S.1 S.2.1 (hE.2 k hk).1 hw.2.2 S.2.2.2.1 (S.2.2.2.2 _ hlk) (fun _ h => h) hdg kk
theorem xtld (S : CallFix p m c cc nL s args xT own) (hE : xE ts A s) (hw : xw D wf A s.heap H locs u) (k : Nat) (hk : k < 4) {i : Int32} (hin : vp_in i 3) (hdg : decode cc pc = .ok (.iaload, 1))
    (kk : W p l e R s m args below meth c H locs cells slots Q (F0 m (pc + 1) ls (.int (xzv k i.toNatClampNeg) :: rest))) : W p l e R s m args below meth c H locs cells slots Q (F0 m pc ls (.int i :: .ref (ts k) :: rest)) :=
  va_ti S.1 S.2.1 (hE.2 k hk).2 hw.2.2 hin rfl hdg kk
end XC
end
section
def k_has (p1 : Int32) (p2 : Int32) : Bool :=
    (if ((p1 >>> (p2 &&& 31)) &&& (1 : Int32)) = (1 : Int32) then
    true
    else
    false)
set_option maxHeartbeats 4000000 in
set_option maxRecDepth 100000 in
theorem c_k_has (l : Launch) (p1 : Int32) (p2 : Int32) : xP l yX10_has cX10_has 2 (some .boolean) (xRm 0 0) [.int p1, .int p2] (b2i (k_has p1 p2)) := by
  suffices h : ∀ V, V = k_has p1 p2 → xP l yX10_has cX10_has 2 (some .boolean) (xRm 0 0) [.int p1, .int p2] (b2i V) from h _ rfl
  intro V hV
  refine xofP RX10 rfl (by decide) (Nat.le_of_ble_eq_true rfl) ?_
  intro p e s m args below meth c ls H locs S hr hlk hl hw
  have hl : lv_has ls 2 [(0, .int p1), (1, .int p2)] := hl
  refine lv_iload_n S.1 S.2.1 dX10_has_0 rfl (lv_at hl 0 rfl) ?_
  refine lv_iload_n S.1 S.2.1 dX10_has_1 rfl (lv_at hl 1 rfl) ?_
  refine lv_ishr S.1 S.2.1 dX10_has_2 ?_
  refine lv_iconst (v := 1) S.1 S.2.1 dX10_has_3 (by decide) ?_
  refine lv_iand S.1 S.2.1 dX10_has_4 ?_
  refine lv_iconst (v := 1) S.1 S.2.1 dX10_has_5 (by decide) ?_
  refine lv_icmp_ne (tgt := 13) S.1 S.2.1 dX10_has_6 (by decide) (fun c_1 => ?_) (fun c_1 => ?_)
  · replace hV := hV.trans (if_neg c_1)
    have gc_1 : ¬ (((p1 >>> (p2 &&& 31)) &&& (1 : Int32))).toInt = 1 := xq_ne c_1 rfl rfl
    refine lv_iconst (v := 0) S.1 S.2.1 dX10_has_13 (by decide) ?_
    exact yrz S hr hlk hw rfl (congrArg b2i hV) dX10_has_14
  · replace hV := hV.trans (if_pos c_1)
    have gc_1 : (((p1 >>> (p2 &&& 31)) &&& (1 : Int32))).toInt = 1 := xq_eq c_1 rfl rfl
    refine lv_iconst (v := 1) S.1 S.2.1 dX10_has_9 (by decide) ?_
    refine lv_goto (tgt := 14) S.1 S.2.1 dX10_has_10 (by decide) ?_
    exact yrz S hr hlk hw rfl (congrArg b2i hV) dX10_has_14
def k_orNone (p1 : Int32) : Int32 :=
    (if p1 = (-1 : Int32) then
    (-9 : Int32)
    else
    p1)
set_option maxHeartbeats 4000000 in
set_option maxRecDepth 100000 in
theorem c_k_orNone (l : Launch) (p1 : Int32) : xP l yX10_orNone cX10_orNone 1 (some .int) (xRm 0 0) [.int p1] ((k_orNone p1)) := by
  suffices h : ∀ V, V = k_orNone p1 → xP l yX10_orNone cX10_orNone 1 (some .int) (xRm 0 0) [.int p1] (V) from h _ rfl
  intro V hV
  refine xofP RX10 rfl (by decide) (Nat.le_of_ble_eq_true rfl) ?_
  intro p e s m args below meth c ls H locs S hr hlk hl hw
  have hl : lv_has ls 1 [(0, .int p1)] := hl
  refine lv_iload_n S.1 S.2.1 dX10_orNone_0 rfl (lv_at hl 0 rfl) ?_
  refine lv_iconst (v := -1) S.1 S.2.1 dX10_orNone_1 (by decide) ?_
  refine lv_icmp_ne (tgt := 10) S.1 S.2.1 dX10_orNone_2 (by decide) (fun c_1 => ?_) (fun c_1 => ?_)
  · replace hV := hV.trans (if_neg c_1)
    have gc_1 : ¬ (p1).toInt = (-1) := xq_ne c_1 rfl rfl
    refine lv_iload_n S.1 S.2.1 dX10_orNone_10 rfl (lv_at hl 0 rfl) ?_
    exact yri S hr hlk hw hV dX10_orNone_11
  · replace hV := hV.trans (if_pos c_1)
    have gc_1 : (p1).toInt = (-1) := xq_eq c_1 rfl rfl
    refine lv_bipush (v := -9) S.1 S.2.1 dX10_orNone_5 (by decide) ?_
    refine lv_goto (tgt := 11) S.1 S.2.1 dX10_orNone_7 (by decide) ?_
    exact yri S hr hlk hw hV dX10_orNone_11
def k_power_L4 (x0 : Int32) (x1 : Int32) : Nat → Int32 → Int32 → Int32
  | 0, _, _ => 0
  | n + 1, x2, x3 =>
    (if x1 ≤ x3 then
    x2
    else
    k_power_L4 x0 x1 n (x2 * x0) (x3 + (1 : Int32)))
def k_power (p1 : Int32) (p2 : Int32) : Int32 :=
    k_power_L4 p1 p2 8 (1 : Int32) (0 : Int32)
set_option maxHeartbeats 4000000 in
set_option maxRecDepth 100000 in
theorem c_k_power (l : Launch) (p1 : Int32) (p2 : Int32) (hp1 : 0 ≤ (p2).toInt ∧ (p2).toInt < 7) : xP l yX10_power cX10_power 4 (some .int) (xRm 0 0) [.int p1, .int p2] ((k_power p1 p2)) := by
  suffices h : ∀ V, V = k_power p1 p2 → xP l yX10_power cX10_power 4 (some .int) (xRm 0 0) [.int p1, .int p2] (V) from h _ rfl
  intro V hV
  refine xofP RX10 rfl (by decide) (Nat.le_of_ble_eq_true rfl) ?_
  intro p e s m args below meth c ls H locs S hr hlk hl hw
  have hl : lv_has ls 4 [(0, .int p1), (1, .int p2)] := hl
  refine lv_iconst (v := 1) S.1 S.2.1 dX10_power_0 (by decide) ?_
  refine lv_istore_n (lv' := [(2, .int (1 : Int32)), (0, .int p1), (1, .int p2)]) S.1 S.2.1 dX10_power_1 rfl hl (by decide) rfl (fun ls hl => ?_)
  refine lv_iconst (v := 0) S.1 S.2.1 dX10_power_2 (by decide) ?_
  refine lv_istore_n (lv' := [(3, .int (0 : Int32)), (2, .int (1 : Int32)), (0, .int p1), (1, .int p2)]) S.1 S.2.1 dX10_power_3 rfl hl (by decide) rfl (fun ls hl => ?_)
  have lp_1 : ∀ (n : Nat) (x2_1 : Int32) (x3_1 : Int32) (H : Heap) (locs : List Loc) (ls : Array Slot), (0 ≤ (x3_1).toInt) → ((p2).toInt - (x3_1).toInt < (n : Int) ∧ 1 ≤ n) → lv_has ls 4 [(0, .int p1), (1, .int p2), (2, .int x2_1), (3, .int x3_1)] → xw (fun _ => 0, fun _ _ => 0) (fun _ => []) (fun _ => False) s.heap H locs (fun _ _ => 0, 0) → V = k_power_L4 p1 p2 n x2_1 x3_1 → W p l e (xRm 0 0) s m args below meth c H locs 0 0 (MQ below (va_Qi (fun r (_ : Unit) => r = V) (fun _ _ => True) (fun _ => False)) args s 0 0 (fun _ => False)) (F0 m 4 ls []) := by
    intro n
    induction n with
    | zero => intro x2_1 x3_1 H locs ls i0_1 hn; exact absurd hn.2 (by decide)
    | succ n ih_1 =>
      intro x2_1 x3_1 H locs ls i0_1 hn_1 hl hw hV
      refine lv_iload_n S.1 S.2.1 dX10_power_4 rfl (lv_at hl 3 rfl) ?_
      refine lv_iload_n S.1 S.2.1 dX10_power_5 rfl (lv_at hl 1 rfl) ?_
      refine lv_icmp_ge (tgt := 19) S.1 S.2.1 dX10_power_6 (by decide) (fun c_2 => ?_) (fun c_2 => ?_)
      · replace hV := hV.trans (if_pos c_2)
        have gc_2 : (p2).toInt ≤ (x3_1).toInt := xq_le c_2 rfl rfl
        refine lv_iload_n S.1 S.2.1 dX10_power_19 rfl (lv_at hl 2 rfl) ?_
        exact yri S hr hlk hw hV dX10_power_20
      · replace hV := hV.trans (if_neg c_2)
        have gc_2 : (x3_1).toInt < (p2).toInt := xq_nle c_2 rfl rfl
        refine lv_iload_n S.1 S.2.1 dX10_power_9 rfl (lv_at hl 2 rfl) ?_
        refine lv_iload_n S.1 S.2.1 dX10_power_10 rfl (lv_at hl 0 rfl) ?_
        refine lv_imul S.1 S.2.1 dX10_power_11 ?_
        refine lv_istore_n (lv' := [(2, .int (x2_1 * p1)), (0, .int p1), (1, .int p2), (3, .int x3_1)]) S.1 S.2.1 dX10_power_12 rfl hl (by decide) rfl (fun ls hl => ?_)
        refine lv_iinc (v := (x3_1 + (1 : Int32))) (lv' := [(3, .int (x3_1 + (1 : Int32))), (2, .int (x2_1 * p1)), (0, .int p1), (1, .int p2)]) S.1 S.2.1 dX10_power_13 hl (k := 3) rfl rfl (by decide) rfl (fun ls hl => ?_)
        refine lv_goto (tgt := 4) S.1 S.2.1 dX10_power_16 (by decide) ?_
        have e_3 : ((x3_1 + (1 : Int32))).toInt = (x3_1).toInt + 1 := xadd rfl rfl (by omega) (by omega)
        exact ih_1 (x2_1 * p1) (x3_1 + (1 : Int32)) _ _ _ (by omega) (by constructor <;> omega) (lv_sub hl [2, 3, 1, 0] rfl) hw hV
  have k_4 : (1 : Int32).toInt = 1 := rfl
  have k_5 : (0 : Int32).toInt = 0 := rfl
  exact lp_1 8 (1 : Int32) (0 : Int32) _ _ _ (by omega) (by constructor <;> omega) (lv_sub hl [2, 3, 1, 0] rfl) hw hV
def k_waysToFall_L8 (x0 : Int32) (x1 : Int32) (x2 : Int32) : Nat → Int32 → Int32 → Int32 → Int32
  | 0, _, _, _ => 0
  | n + 1, x3, x4, x5 =>
    (if x0 < x5 then
    x3
    else
    (if x2 < x5 then
    x3
    else
    let t_5 := (x3 + ((x4 * (k_power x1 x5)) * (k_power ((10 : Int32) - x1) (x0 - x5))))
    k_waysToFall_L8 x0 x1 x2 n t_5 ((x4 * (x0 - x5)) / (x5 + (1 : Int32))) (x5 + (1 : Int32))))
def k_waysToFall (p1 : Int32) (p2 : Int32) (p3 : Int32) : Int32 :=
    k_waysToFall_L8 p1 p2 p3 8 (0 : Int32) (1 : Int32) (0 : Int32)
set_option maxHeartbeats 4000000 in
set_option maxRecDepth 100000 in
theorem c_k_waysToFall (l : Launch) (p1 : Int32) (p2 : Int32) (p3 : Int32) (hp0 : 0 ≤ (p1).toInt ∧ (p1).toInt < 7) : xP l yX10_waysToFall cX10_waysToFall 6 (some .int) (xRm 1 23) [.int p1, .int p2, .int p3] ((k_waysToFall p1 p2 p3)) := by
  suffices h : ∀ V, V = k_waysToFall p1 p2 p3 → xP l yX10_waysToFall cX10_waysToFall 6 (some .int) (xRm 1 23) [.int p1, .int p2, .int p3] (V) from h _ rfl
  intro V hV
  refine xofP RX10 rfl (by decide) (Nat.le_of_ble_eq_true rfl) ?_
  intro p e s m args below meth c ls H locs S hr hlk hl hw
  have hl : lv_has ls 6 [(0, .int p1), (1, .int p2), (2, .int p3)] := hl
  refine lv_iconst (v := 0) S.1 S.2.1 dX10_waysToFall_0 (by decide) ?_
  refine lv_istore_n (lv' := [(3, .int (0 : Int32)), (0, .int p1), (1, .int p2), (2, .int p3)]) S.1 S.2.1 dX10_waysToFall_1 rfl hl (by decide) rfl (fun ls hl => ?_)
  refine lv_iconst (v := 1) S.1 S.2.1 dX10_waysToFall_2 (by decide) ?_
  refine lv_istore (lv' := [(4, .int (1 : Int32)), (3, .int (0 : Int32)), (0, .int p1), (1, .int p2), (2, .int p3)]) S.1 S.2.1 dX10_waysToFall_3 hl (by decide) rfl (fun ls hl => ?_)
  refine lv_iconst (v := 0) S.1 S.2.1 dX10_waysToFall_5 (by decide) ?_
  refine lv_istore (lv' := [(5, .int (0 : Int32)), (4, .int (1 : Int32)), (3, .int (0 : Int32)), (0, .int p1), (1, .int p2), (2, .int p3)]) S.1 S.2.1 dX10_waysToFall_6 hl (by decide) rfl (fun ls hl => ?_)
  have lp_1 : ∀ (n : Nat) (x3_1 : Int32) (x4_1 : Int32) (x5_1 : Int32) (H : Heap) (locs : List Loc) (ls : Array Slot), (0 ≤ (x5_1).toInt) → ((p1).toInt - (x5_1).toInt + 1 < (n : Int) ∧ 1 ≤ n) → lv_has ls 6 [(0, .int p1), (1, .int p2), (2, .int p3), (3, .int x3_1), (4, .int x4_1), (5, .int x5_1)] → xw (fun _ => 0, fun _ _ => 0) (fun _ => []) (fun _ => False) s.heap H locs (fun _ _ => 0, 0) → V = k_waysToFall_L8 p1 p2 p3 n x3_1 x4_1 x5_1 → W p l e (xRm 1 23) s m args below meth c H locs 0 0 (MQ below (va_Qi (fun r (_ : Unit) => r = V) (fun _ _ => True) (fun _ => False)) args s 0 0 (fun _ => False)) (F0 m 8 ls []) := by
    intro n
    induction n with
    | zero => intro x3_1 x4_1 x5_1 H locs ls i0_1 hn; exact absurd hn.2 (by decide)
    | succ n ih_1 =>
      intro x3_1 x4_1 x5_1 H locs ls i0_1 hn_1 hl hw hV
      refine lv_iload S.1 S.2.1 dX10_waysToFall_8 (lv_at hl 5 rfl) ?_
      refine lv_iload_n S.1 S.2.1 dX10_waysToFall_10 rfl (lv_at hl 0 rfl) ?_
      refine lv_icmp_gt (tgt := 64) S.1 S.2.1 dX10_waysToFall_11 (by decide) (fun c_2 => ?_) (fun c_2 => ?_)
      · replace hV := hV.trans (if_pos c_2)
        have gc_2 : (p1).toInt < (x5_1).toInt := xq_lt c_2 rfl rfl
        refine lv_iload_n S.1 S.2.1 dX10_waysToFall_64 rfl (lv_at hl 3 rfl) ?_
        exact yri S hr hlk hw hV dX10_waysToFall_65
      · replace hV := hV.trans (if_neg c_2)
        have gc_2 : (x5_1).toInt ≤ (p1).toInt := xq_nlt c_2 rfl rfl
        refine lv_iload S.1 S.2.1 dX10_waysToFall_14 (lv_at hl 5 rfl) ?_
        refine lv_iload_n S.1 S.2.1 dX10_waysToFall_16 rfl (lv_at hl 2 rfl) ?_
        refine lv_icmp_gt (tgt := 64) S.1 S.2.1 dX10_waysToFall_17 (by decide) (fun c_3 => ?_) (fun c_3 => ?_)
        · replace hV := hV.trans (if_pos c_3)
          have gc_3 : (p3).toInt < (x5_1).toInt := xq_lt c_3 rfl rfl
          refine lv_iload_n S.1 S.2.1 dX10_waysToFall_64 rfl (lv_at hl 3 rfl) ?_
          exact yri S hr hlk hw hV dX10_waysToFall_65
        · replace hV := hV.trans (if_neg c_3)
          have gc_3 : (x5_1).toInt ≤ (p3).toInt := xq_nlt c_3 rfl rfl
          refine lv_iload_n S.1 S.2.1 dX10_waysToFall_20 rfl (lv_at hl 3 rfl) ?_
          refine lv_iload S.1 S.2.1 dX10_waysToFall_21 (lv_at hl 4 rfl) ?_
          refine lv_iload_n S.1 S.2.1 dX10_waysToFall_23 rfl (lv_at hl 1 rfl) ?_
          refine lv_iload S.1 S.2.1 dX10_waysToFall_24 (lv_at hl 5 rfl) ?_
          refine xcP (rest := [.int x4_1, .int x3_1]) S hw yfX10_power (c_k_power l p2 x5_1 (show 0 ≤ (x5_1).toInt ∧ (x5_1).toInt < 7 from by have := (rfl : (x5_1).toInt = (x5_1).toInt); omega)) mlX10_249 rfl rfl hl.1 ⟨rfl, rfl, Nat.le_of_ble_eq_true rfl, Nat.le_of_ble_eq_true rfl, Nat.le_of_ble_eq_true rfl, Nat.zero_le _, Nat.zero_le _⟩ dX10_waysToFall_26 (fun H locs hw => ?_)
          refine lv_imul S.1 S.2.1 dX10_waysToFall_29 ?_
          refine lv_bipush (v := 10) S.1 S.2.1 dX10_waysToFall_30 (by decide) ?_
          refine lv_iload_n S.1 S.2.1 dX10_waysToFall_32 rfl (lv_at hl 1 rfl) ?_
          refine lv_isub S.1 S.2.1 dX10_waysToFall_33 ?_
          refine lv_iload_n S.1 S.2.1 dX10_waysToFall_34 rfl (lv_at hl 0 rfl) ?_
          refine lv_iload S.1 S.2.1 dX10_waysToFall_35 (lv_at hl 5 rfl) ?_
          refine lv_isub S.1 S.2.1 dX10_waysToFall_37 ?_
          have e_4 : ((p1 - x5_1)).toInt = (p1).toInt - (x5_1).toInt := xsub rfl rfl (by omega) (by omega)
          refine xcP (rest := [.int (x4_1 * (k_power p2 x5_1)), .int x3_1]) S hw yfX10_power (c_k_power l ((10 : Int32) - p2) (p1 - x5_1) (show 0 ≤ ((p1 - x5_1)).toInt ∧ ((p1 - x5_1)).toInt < 7 from by have := (e_4 : ((p1 - x5_1)).toInt = ((p1).toInt - (x5_1).toInt)); omega)) mlX10_249 rfl rfl hl.1 ⟨rfl, rfl, Nat.le_of_ble_eq_true rfl, Nat.le_of_ble_eq_true rfl, Nat.le_of_ble_eq_true rfl, Nat.zero_le _, Nat.zero_le _⟩ dX10_waysToFall_38 (fun H locs hw => ?_)
          refine lv_imul S.1 S.2.1 dX10_waysToFall_41 ?_
          refine lv_iadd S.1 S.2.1 dX10_waysToFall_42 ?_
          refine lv_istore_n (lv' := [(3, .int (x3_1 + ((x4_1 * (k_power p2 x5_1)) * (k_power ((10 : Int32) - p2) (p1 - x5_1))))), (0, .int p1), (1, .int p2), (2, .int p3), (4, .int x4_1), (5, .int x5_1)]) S.1 S.2.1 dX10_waysToFall_43 rfl hl (by decide) rfl (fun ls hl => ?_)
          refine lv_iload S.1 S.2.1 dX10_waysToFall_44 (lv_at hl 4 rfl) ?_
          refine lv_iload_n S.1 S.2.1 dX10_waysToFall_46 rfl (lv_at hl 1 rfl) ?_
          refine lv_iload S.1 S.2.1 dX10_waysToFall_47 (lv_at hl 5 rfl) ?_
          refine lv_isub S.1 S.2.1 dX10_waysToFall_49 ?_
          refine lv_imul S.1 S.2.1 dX10_waysToFall_50 ?_
          refine lv_iload S.1 S.2.1 dX10_waysToFall_51 (lv_at hl 5 rfl) ?_
          refine lv_iconst (v := 1) S.1 S.2.1 dX10_waysToFall_53 (by decide) ?_
          refine lv_iadd S.1 S.2.1 dX10_waysToFall_54 ?_
          have e_6 : ((x5_1 + (1 : Int32))).toInt = (x5_1).toInt + 1 := xadd rfl rfl (by omega) (by omega)
          refine lv_idiv S.1 S.2.1 dX10_waysToFall_55 (fun z => by have : ((x5_1).toInt + 1) = 0 := xq_eq z e_6 rfl; omega) ?_
          refine lv_istore (lv' := [(4, .int ((x4_1 * (p1 - x5_1)) / (x5_1 + (1 : Int32)))), (3, .int (x3_1 + ((x4_1 * (k_power p2 x5_1)) * (k_power ((10 : Int32) - p2) (p1 - x5_1))))), (0, .int p1), (1, .int p2), (2, .int p3), (5, .int x5_1)]) S.1 S.2.1 dX10_waysToFall_56 hl (by decide) rfl (fun ls hl => ?_)
          refine lv_iinc (v := (x5_1 + (1 : Int32))) (lv' := [(5, .int (x5_1 + (1 : Int32))), (4, .int ((x4_1 * (p1 - x5_1)) / (x5_1 + (1 : Int32)))), (3, .int (x3_1 + ((x4_1 * (k_power p2 x5_1)) * (k_power ((10 : Int32) - p2) (p1 - x5_1))))), (0, .int p1), (1, .int p2), (2, .int p3)]) S.1 S.2.1 dX10_waysToFall_58 hl (k := 5) rfl rfl (by decide) rfl (fun ls hl => ?_)
          refine lv_goto (tgt := 8) S.1 S.2.1 dX10_waysToFall_61 (by decide) ?_
          exact ih_1 (x3_1 + ((x4_1 * (k_power p2 x5_1)) * (k_power ((10 : Int32) - p2) (p1 - x5_1)))) ((x4_1 * (p1 - x5_1)) / (x5_1 + (1 : Int32))) (x5_1 + (1 : Int32)) _ _ _ (by omega) (by constructor <;> omega) (lv_sub hl [3, 4, 5, 2, 1, 0] rfl) hw hV
  have k_7 : (0 : Int32).toInt = 0 := rfl
  have k_8 : (1 : Int32).toInt = 1 := rfl
  exact lp_1 8 (0 : Int32) (1 : Int32) (0 : Int32) _ _ _ (by omega) (by constructor <;> omega) (lv_sub hl [3, 4, 5, 2, 1, 0] rfl) hw hV
def k_commonDivisor_L7 : Nat → Int32 → Int32 → Int32 → Int32
  | 0, _, _, _ => 0
  | n + 1, x2, x3, x4 =>
    (if (64 : Int32) ≤ x4 then
    (if x2 < (1 : Int32) then (1 : Int32) else x2)
    else
    (if x3 = (0 : Int32) then
    (if x2 < (1 : Int32) then (1 : Int32) else x2)
    else
    k_commonDivisor_L7 n x3 (x2 - x2 / x3 * x3) (x4 + (1 : Int32))))
def k_commonDivisor (p1 : Int32) (p2 : Int32) : Int32 :=
    k_commonDivisor_L7 65 p2 p1 (0 : Int32)
set_option maxHeartbeats 4000000 in
set_option maxRecDepth 100000 in
theorem c_k_commonDivisor (l : Launch) (p1 : Int32) (p2 : Int32) : xP l yX10_commonDivisor cX10_commonDivisor 6 (some .int) (xRm 1 30) [.int p1, .int p2] ((k_commonDivisor p1 p2)) := by
  suffices h : ∀ V, V = k_commonDivisor p1 p2 → xP l yX10_commonDivisor cX10_commonDivisor 6 (some .int) (xRm 1 30) [.int p1, .int p2] (V) from h _ rfl
  intro V hV
  refine xofP RX10 rfl (by decide) (Nat.le_of_ble_eq_true rfl) ?_
  intro p e s m args below meth c ls H locs S hr hlk hl hw
  have hl : lv_has ls 6 [(0, .int p1), (1, .int p2)] := hl
  refine lv_iload_n S.1 S.2.1 dX10_commonDivisor_0 rfl (lv_at hl 1 rfl) ?_
  refine lv_istore_n (lv' := [(2, .int p2), (0, .int p1), (1, .int p2)]) S.1 S.2.1 dX10_commonDivisor_1 rfl hl (by decide) rfl (fun ls hl => ?_)
  refine lv_iload_n S.1 S.2.1 dX10_commonDivisor_2 rfl (lv_at hl 1 rfl) ?_
  refine lv_istore_n (lv' := [(3, .int p1), (2, .int p2), (0, .int p1), (1, .int p2)]) S.1 S.2.1 dX10_commonDivisor_3 rfl hl (by decide) rfl (fun ls hl => ?_)
  refine lv_iconst (v := 0) S.1 S.2.1 dX10_commonDivisor_4 (by decide) ?_
  refine lv_istore (lv' := [(4, .int (0 : Int32)), (3, .int p1), (2, .int p2), (0, .int p1), (1, .int p2)]) S.1 S.2.1 dX10_commonDivisor_5 hl (by decide) rfl (fun ls hl => ?_)
  have lp_1 : ∀ (n : Nat) (x2_1 : Int32) (x3_1 : Int32) (x4_1 : Int32) (H : Heap) (locs : List Loc) (ls : Array Slot), (0 ≤ (x4_1).toInt) → (64 - (x4_1).toInt < (n : Int) ∧ 1 ≤ n) → lv_has ls 6 [(2, .int x2_1), (3, .int x3_1), (4, .int x4_1)] → xw (fun _ => 0, fun _ _ => 0) (fun _ => []) (fun _ => False) s.heap H locs (fun _ _ => 0, 0) → V = k_commonDivisor_L7 n x2_1 x3_1 x4_1 → W p l e (xRm 1 30) s m args below meth c H locs 0 0 (MQ below (va_Qi (fun r (_ : Unit) => r = V) (fun _ _ => True) (fun _ => False)) args s 0 0 (fun _ => False)) (F0 m 7 ls []) := by
    intro n
    induction n with
    | zero => intro x2_1 x3_1 x4_1 H locs ls i0_1 hn; exact absurd hn.2 (by decide)
    | succ n ih_1 =>
      intro x2_1 x3_1 x4_1 H locs ls i0_1 hn_1 hl hw hV
      refine lv_iload S.1 S.2.1 dX10_commonDivisor_7 (lv_at hl 2 rfl) ?_
      refine lv_bipush (v := 64) S.1 S.2.1 dX10_commonDivisor_9 (by decide) ?_
      refine lv_icmp_ge (tgt := 34) S.1 S.2.1 dX10_commonDivisor_11 (by decide) (fun c_2 => ?_) (fun c_2 => ?_)
      · replace hV := hV.trans (if_pos c_2)
        have gc_2 : 64 ≤ (x4_1).toInt := xq_le c_2 rfl rfl
        refine lv_iload_n S.1 S.2.1 dX10_commonDivisor_34 rfl (lv_at hl 0 rfl) ?_
        refine lv_iconst (v := 1) S.1 S.2.1 dX10_commonDivisor_35 (by decide) ?_
        refine xmax S hl.1 mlX10_280 mmax_st math_in mmax_cd ⟨Nat.le_of_ble_eq_true rfl, Nat.le_of_ble_eq_true rfl, Nat.zero_le _, Nat.zero_le _⟩ dX10_commonDivisor_36 ?_
        exact yri S hr hlk hw hV dX10_commonDivisor_39
      · replace hV := hV.trans (if_neg c_2)
        have gc_2 : (x4_1).toInt < 64 := xq_nle c_2 rfl rfl
        refine lv_iload_n S.1 S.2.1 dX10_commonDivisor_14 rfl (lv_at hl 1 rfl) ?_
        refine lv_if_eq (tgt := 34) S.1 S.2.1 dX10_commonDivisor_15 (by decide) (fun c_3 => ?_) (fun c_3 => ?_)
        · replace hV := hV.trans (if_pos c_3)
          have gc_3 : (x3_1).toInt = 0 := xq_eq c_3 rfl rfl
          refine lv_iload_n S.1 S.2.1 dX10_commonDivisor_34 rfl (lv_at hl 0 rfl) ?_
          refine lv_iconst (v := 1) S.1 S.2.1 dX10_commonDivisor_35 (by decide) ?_
          refine xmax S hl.1 mlX10_280 mmax_st math_in mmax_cd ⟨Nat.le_of_ble_eq_true rfl, Nat.le_of_ble_eq_true rfl, Nat.zero_le _, Nat.zero_le _⟩ dX10_commonDivisor_36 ?_
          exact yri S hr hlk hw hV dX10_commonDivisor_39
        · replace hV := hV.trans (if_neg c_3)
          have gc_3 : ¬ (x3_1).toInt = 0 := xq_ne c_3 rfl rfl
          refine lv_iload_n S.1 S.2.1 dX10_commonDivisor_18 rfl (lv_at hl 0 rfl) ?_
          refine lv_iload_n S.1 S.2.1 dX10_commonDivisor_19 rfl (lv_at hl 1 rfl) ?_
          refine lv_irem S.1 S.2.1 dX10_commonDivisor_20 (fun z => by have : (x3_1).toInt = 0 := xq_eq z rfl rfl; omega) ?_
          refine lv_istore (lv' := [(5, .int (x2_1 - x2_1 / x3_1 * x3_1)), (2, .int x2_1), (3, .int x3_1), (4, .int x4_1)]) S.1 S.2.1 dX10_commonDivisor_21 hl (by decide) rfl (fun ls hl => ?_)
          refine lv_iload_n S.1 S.2.1 dX10_commonDivisor_23 rfl (lv_at hl 2 rfl) ?_
          refine lv_istore_n (lv' := [(2, .int x3_1), (5, .int (x2_1 - x2_1 / x3_1 * x3_1)), (3, .int x3_1), (4, .int x4_1)]) S.1 S.2.1 dX10_commonDivisor_24 rfl hl (by decide) rfl (fun ls hl => ?_)
          refine lv_iload S.1 S.2.1 dX10_commonDivisor_25 (lv_at hl 1 rfl) ?_
          refine lv_istore_n (lv' := [(3, .int (x2_1 - x2_1 / x3_1 * x3_1)), (2, .int x3_1), (5, .int (x2_1 - x2_1 / x3_1 * x3_1)), (4, .int x4_1)]) S.1 S.2.1 dX10_commonDivisor_27 rfl hl (by decide) rfl (fun ls hl => ?_)
          refine lv_iinc (v := (x4_1 + (1 : Int32))) (lv' := [(4, .int (x4_1 + (1 : Int32))), (3, .int (x2_1 - x2_1 / x3_1 * x3_1)), (2, .int x3_1), (5, .int (x2_1 - x2_1 / x3_1 * x3_1))]) S.1 S.2.1 dX10_commonDivisor_28 hl (k := 3) rfl rfl (by decide) rfl (fun ls hl => ?_)
          refine lv_goto (tgt := 7) S.1 S.2.1 dX10_commonDivisor_31 (by decide) ?_
          have e_4 : ((x4_1 + (1 : Int32))).toInt = (x4_1).toInt + 1 := xadd rfl rfl (by omega) (by omega)
          exact ih_1 x3_1 (x2_1 - x2_1 / x3_1 * x3_1) (x4_1 + (1 : Int32)) _ _ _ (by omega) (by constructor <;> omega) (lv_sub hl [2, 1, 0] rfl) hw hV
  have k_5 : (0 : Int32).toInt = 0 := rfl
  exact lp_1 65 p2 p1 (0 : Int32) _ _ _ (by omega) (by constructor <;> omega) (lv_sub hl [2, 1, 0] rfl) hw hV
def j_bitCount (p1 : Int32) : Int32 :=
    let t_1 := (p1 - ((((p1).toUInt32 >>> (((1 : Int32)).toUInt32 &&& Int32.toUInt32 31)).toInt32) &&& (1431655765 : Int32)))
    let t_2 := ((t_1 &&& (858993459 : Int32)) + ((((t_1).toUInt32 >>> (((2 : Int32)).toUInt32 &&& Int32.toUInt32 31)).toInt32) &&& (858993459 : Int32)))
    let t_3 := ((t_2 + (((t_2).toUInt32 >>> (((4 : Int32)).toUInt32 &&& Int32.toUInt32 31)).toInt32)) &&& (252645135 : Int32))
    let t_4 := (t_3 + (((t_3).toUInt32 >>> (((8 : Int32)).toUInt32 &&& Int32.toUInt32 31)).toInt32))
    let t_5 := (t_4 + (((t_4).toUInt32 >>> (((16 : Int32)).toUInt32 &&& Int32.toUInt32 31)).toInt32))
    (t_5 &&& (63 : Int32))
set_option maxHeartbeats 4000000 in
set_option maxRecDepth 100000 in
theorem c_j_bitCount (l : Launch) (p1 : Int32) : xP l yJ6_bitCount_0f7a4 cJ6_bitCount_0f7a4 1 (some .int) (xRm 0 0) [.int p1] ((j_bitCount p1)) := by
  suffices h : ∀ V, V = j_bitCount p1 → xP l yJ6_bitCount_0f7a4 cJ6_bitCount_0f7a4 1 (some .int) (xRm 0 0) [.int p1] (V) from h _ rfl
  intro V hV
  refine xofP RJ6 rfl (by decide) (Nat.le_of_ble_eq_true rfl) ?_
  intro p e s m args below meth c ls H locs S hr hlk hl hw
  have hl : lv_has ls 1 [(0, .int p1)] := hl
  refine lv_iload_n S.1 S.2.1 dJ6_bitCount_0f7a4_0 rfl (lv_at hl 0 rfl) ?_
  refine lv_iload_n S.1 S.2.1 dJ6_bitCount_0f7a4_1 rfl (lv_at hl 0 rfl) ?_
  refine lv_iconst (v := 1) S.1 S.2.1 dJ6_bitCount_0f7a4_2 (by decide) ?_
  refine lv_iushr (v := ((p1).toUInt32 >>> (((1 : Int32)).toUInt32 &&& Int32.toUInt32 31)).toInt32) S.1 S.2.1 dJ6_bitCount_0f7a4_3 rfl ?_
  refine lv_ldcw (v := 1431655765) S.1 S.2.1 S.2.2.2.1 (S.2.2.2.2 _ kcJ6_265) dJ6_bitCount_0f7a4_4 ?_
  refine lv_iand S.1 S.2.1 dJ6_bitCount_0f7a4_7 ?_
  refine lv_isub S.1 S.2.1 dJ6_bitCount_0f7a4_8 ?_
  refine lv_istore_n (lv' := [(0, .int (p1 - ((((p1).toUInt32 >>> (((1 : Int32)).toUInt32 &&& Int32.toUInt32 31)).toInt32) &&& (1431655765 : Int32))))]) S.1 S.2.1 dJ6_bitCount_0f7a4_9 rfl hl (by decide) rfl (fun ls hl => ?_)
  refine lv_iload_n S.1 S.2.1 dJ6_bitCount_0f7a4_10 rfl (lv_at hl 0 rfl) ?_
  refine lv_ldcw (v := 858993459) S.1 S.2.1 S.2.2.2.1 (S.2.2.2.2 _ kcJ6_266) dJ6_bitCount_0f7a4_11 ?_
  refine lv_iand S.1 S.2.1 dJ6_bitCount_0f7a4_14 ?_
  refine lv_iload_n S.1 S.2.1 dJ6_bitCount_0f7a4_15 rfl (lv_at hl 0 rfl) ?_
  refine lv_iconst (v := 2) S.1 S.2.1 dJ6_bitCount_0f7a4_16 (by decide) ?_
  refine lv_iushr (v := (((p1 - ((((p1).toUInt32 >>> (((1 : Int32)).toUInt32 &&& Int32.toUInt32 31)).toInt32) &&& (1431655765 : Int32)))).toUInt32 >>> (((2 : Int32)).toUInt32 &&& Int32.toUInt32 31)).toInt32) S.1 S.2.1 dJ6_bitCount_0f7a4_17 rfl ?_
  refine lv_ldcw (v := 858993459) S.1 S.2.1 S.2.2.2.1 (S.2.2.2.2 _ kcJ6_266) dJ6_bitCount_0f7a4_18 ?_
  refine lv_iand S.1 S.2.1 dJ6_bitCount_0f7a4_21 ?_
  refine lv_iadd S.1 S.2.1 dJ6_bitCount_0f7a4_22 ?_
  refine lv_istore_n (lv' := [(0, .int (((p1 - ((((p1).toUInt32 >>> (((1 : Int32)).toUInt32 &&& Int32.toUInt32 31)).toInt32) &&& (1431655765 : Int32))) &&& (858993459 : Int32)) + (((((p1 - ((((p1).toUInt32 >>> (((1 : Int32)).toUInt32 &&& Int32.toUInt32 31)).toInt32) &&& (1431655765 : Int32)))).toUInt32 >>> (((2 : Int32)).toUInt32 &&& Int32.toUInt32 31)).toInt32) &&& (858993459 : Int32))))]) S.1 S.2.1 dJ6_bitCount_0f7a4_23 rfl hl (by decide) rfl (fun ls hl => ?_)
  refine lv_iload_n S.1 S.2.1 dJ6_bitCount_0f7a4_24 rfl (lv_at hl 0 rfl) ?_
  refine lv_iload_n S.1 S.2.1 dJ6_bitCount_0f7a4_25 rfl (lv_at hl 0 rfl) ?_
  refine lv_iconst (v := 4) S.1 S.2.1 dJ6_bitCount_0f7a4_26 (by decide) ?_
  refine lv_iushr (v := (((((p1 - ((((p1).toUInt32 >>> (((1 : Int32)).toUInt32 &&& Int32.toUInt32 31)).toInt32) &&& (1431655765 : Int32))) &&& (858993459 : Int32)) + (((((p1 - ((((p1).toUInt32 >>> (((1 : Int32)).toUInt32 &&& Int32.toUInt32 31)).toInt32) &&& (1431655765 : Int32)))).toUInt32 >>> (((2 : Int32)).toUInt32 &&& Int32.toUInt32 31)).toInt32) &&& (858993459 : Int32)))).toUInt32 >>> (((4 : Int32)).toUInt32 &&& Int32.toUInt32 31)).toInt32) S.1 S.2.1 dJ6_bitCount_0f7a4_27 rfl ?_
  refine lv_iadd S.1 S.2.1 dJ6_bitCount_0f7a4_28 ?_
  refine lv_ldcw (v := 252645135) S.1 S.2.1 S.2.2.2.1 (S.2.2.2.2 _ kcJ6_267) dJ6_bitCount_0f7a4_29 ?_
  refine lv_iand S.1 S.2.1 dJ6_bitCount_0f7a4_32 ?_
  refine lv_istore_n (lv' := [(0, .int (((((p1 - ((((p1).toUInt32 >>> (((1 : Int32)).toUInt32 &&& Int32.toUInt32 31)).toInt32) &&& (1431655765 : Int32))) &&& (858993459 : Int32)) + (((((p1 - ((((p1).toUInt32 >>> (((1 : Int32)).toUInt32 &&& Int32.toUInt32 31)).toInt32) &&& (1431655765 : Int32)))).toUInt32 >>> (((2 : Int32)).toUInt32 &&& Int32.toUInt32 31)).toInt32) &&& (858993459 : Int32))) + ((((((p1 - ((((p1).toUInt32 >>> (((1 : Int32)).toUInt32 &&& Int32.toUInt32 31)).toInt32) &&& (1431655765 : Int32))) &&& (858993459 : Int32)) + (((((p1 - ((((p1).toUInt32 >>> (((1 : Int32)).toUInt32 &&& Int32.toUInt32 31)).toInt32) &&& (1431655765 : Int32)))).toUInt32 >>> (((2 : Int32)).toUInt32 &&& Int32.toUInt32 31)).toInt32) &&& (858993459 : Int32)))).toUInt32 >>> (((4 : Int32)).toUInt32 &&& Int32.toUInt32 31)).toInt32)) &&& (252645135 : Int32)))]) S.1 S.2.1 dJ6_bitCount_0f7a4_33 rfl hl (by decide) rfl (fun ls hl => ?_)
  refine lv_iload_n S.1 S.2.1 dJ6_bitCount_0f7a4_34 rfl (lv_at hl 0 rfl) ?_
  refine lv_iload_n S.1 S.2.1 dJ6_bitCount_0f7a4_35 rfl (lv_at hl 0 rfl) ?_
  refine lv_bipush (v := 8) S.1 S.2.1 dJ6_bitCount_0f7a4_36 (by decide) ?_
  refine lv_iushr (v := (((((((p1 - ((((p1).toUInt32 >>> (((1 : Int32)).toUInt32 &&& Int32.toUInt32 31)).toInt32) &&& (1431655765 : Int32))) &&& (858993459 : Int32)) + (((((p1 - ((((p1).toUInt32 >>> (((1 : Int32)).toUInt32 &&& Int32.toUInt32 31)).toInt32) &&& (1431655765 : Int32)))).toUInt32 >>> (((2 : Int32)).toUInt32 &&& Int32.toUInt32 31)).toInt32) &&& (858993459 : Int32))) + ((((((p1 - ((((p1).toUInt32 >>> (((1 : Int32)).toUInt32 &&& Int32.toUInt32 31)).toInt32) &&& (1431655765 : Int32))) &&& (858993459 : Int32)) + (((((p1 - ((((p1).toUInt32 >>> (((1 : Int32)).toUInt32 &&& Int32.toUInt32 31)).toInt32) &&& (1431655765 : Int32)))).toUInt32 >>> (((2 : Int32)).toUInt32 &&& Int32.toUInt32 31)).toInt32) &&& (858993459 : Int32)))).toUInt32 >>> (((4 : Int32)).toUInt32 &&& Int32.toUInt32 31)).toInt32)) &&& (252645135 : Int32))).toUInt32 >>> (((8 : Int32)).toUInt32 &&& Int32.toUInt32 31)).toInt32) S.1 S.2.1 dJ6_bitCount_0f7a4_38 rfl ?_
  refine lv_iadd S.1 S.2.1 dJ6_bitCount_0f7a4_39 ?_
  refine lv_istore_n (lv' := [(0, .int ((((((p1 - ((((p1).toUInt32 >>> (((1 : Int32)).toUInt32 &&& Int32.toUInt32 31)).toInt32) &&& (1431655765 : Int32))) &&& (858993459 : Int32)) + (((((p1 - ((((p1).toUInt32 >>> (((1 : Int32)).toUInt32 &&& Int32.toUInt32 31)).toInt32) &&& (1431655765 : Int32)))).toUInt32 >>> (((2 : Int32)).toUInt32 &&& Int32.toUInt32 31)).toInt32) &&& (858993459 : Int32))) + ((((((p1 - ((((p1).toUInt32 >>> (((1 : Int32)).toUInt32 &&& Int32.toUInt32 31)).toInt32) &&& (1431655765 : Int32))) &&& (858993459 : Int32)) + (((((p1 - ((((p1).toUInt32 >>> (((1 : Int32)).toUInt32 &&& Int32.toUInt32 31)).toInt32) &&& (1431655765 : Int32)))).toUInt32 >>> (((2 : Int32)).toUInt32 &&& Int32.toUInt32 31)).toInt32) &&& (858993459 : Int32)))).toUInt32 >>> (((4 : Int32)).toUInt32 &&& Int32.toUInt32 31)).toInt32)) &&& (252645135 : Int32)) + ((((((((p1 - ((((p1).toUInt32 >>> (((1 : Int32)).toUInt32 &&& Int32.toUInt32 31)).toInt32) &&& (1431655765 : Int32))) &&& (858993459 : Int32)) + (((((p1 - ((((p1).toUInt32 >>> (((1 : Int32)).toUInt32 &&& Int32.toUInt32 31)).toInt32) &&& (1431655765 : Int32)))).toUInt32 >>> (((2 : Int32)).toUInt32 &&& Int32.toUInt32 31)).toInt32) &&& (858993459 : Int32))) + ((((((p1 - ((((p1).toUInt32 >>> (((1 : Int32)).toUInt32 &&& Int32.toUInt32 31)).toInt32) &&& (1431655765 : Int32))) &&& (858993459 : Int32)) + (((((p1 - ((((p1).toUInt32 >>> (((1 : Int32)).toUInt32 &&& Int32.toUInt32 31)).toInt32) &&& (1431655765 : Int32)))).toUInt32 >>> (((2 : Int32)).toUInt32 &&& Int32.toUInt32 31)).toInt32) &&& (858993459 : Int32)))).toUInt32 >>> (((4 : Int32)).toUInt32 &&& Int32.toUInt32 31)).toInt32)) &&& (252645135 : Int32))).toUInt32 >>> (((8 : Int32)).toUInt32 &&& Int32.toUInt32 31)).toInt32)))]) S.1 S.2.1 dJ6_bitCount_0f7a4_40 rfl hl (by decide) rfl (fun ls hl => ?_)
  refine lv_iload_n S.1 S.2.1 dJ6_bitCount_0f7a4_41 rfl (lv_at hl 0 rfl) ?_
  refine lv_iload_n S.1 S.2.1 dJ6_bitCount_0f7a4_42 rfl (lv_at hl 0 rfl) ?_
  refine lv_bipush (v := 16) S.1 S.2.1 dJ6_bitCount_0f7a4_43 (by decide) ?_
  refine lv_iushr (v := ((((((((p1 - ((((p1).toUInt32 >>> (((1 : Int32)).toUInt32 &&& Int32.toUInt32 31)).toInt32) &&& (1431655765 : Int32))) &&& (858993459 : Int32)) + (((((p1 - ((((p1).toUInt32 >>> (((1 : Int32)).toUInt32 &&& Int32.toUInt32 31)).toInt32) &&& (1431655765 : Int32)))).toUInt32 >>> (((2 : Int32)).toUInt32 &&& Int32.toUInt32 31)).toInt32) &&& (858993459 : Int32))) + ((((((p1 - ((((p1).toUInt32 >>> (((1 : Int32)).toUInt32 &&& Int32.toUInt32 31)).toInt32) &&& (1431655765 : Int32))) &&& (858993459 : Int32)) + (((((p1 - ((((p1).toUInt32 >>> (((1 : Int32)).toUInt32 &&& Int32.toUInt32 31)).toInt32) &&& (1431655765 : Int32)))).toUInt32 >>> (((2 : Int32)).toUInt32 &&& Int32.toUInt32 31)).toInt32) &&& (858993459 : Int32)))).toUInt32 >>> (((4 : Int32)).toUInt32 &&& Int32.toUInt32 31)).toInt32)) &&& (252645135 : Int32)) + ((((((((p1 - ((((p1).toUInt32 >>> (((1 : Int32)).toUInt32 &&& Int32.toUInt32 31)).toInt32) &&& (1431655765 : Int32))) &&& (858993459 : Int32)) + (((((p1 - ((((p1).toUInt32 >>> (((1 : Int32)).toUInt32 &&& Int32.toUInt32 31)).toInt32) &&& (1431655765 : Int32)))).toUInt32 >>> (((2 : Int32)).toUInt32 &&& Int32.toUInt32 31)).toInt32) &&& (858993459 : Int32))) + ((((((p1 - ((((p1).toUInt32 >>> (((1 : Int32)).toUInt32 &&& Int32.toUInt32 31)).toInt32) &&& (1431655765 : Int32))) &&& (858993459 : Int32)) + (((((p1 - ((((p1).toUInt32 >>> (((1 : Int32)).toUInt32 &&& Int32.toUInt32 31)).toInt32) &&& (1431655765 : Int32)))).toUInt32 >>> (((2 : Int32)).toUInt32 &&& Int32.toUInt32 31)).toInt32) &&& (858993459 : Int32)))).toUInt32 >>> (((4 : Int32)).toUInt32 &&& Int32.toUInt32 31)).toInt32)) &&& (252645135 : Int32))).toUInt32 >>> (((8 : Int32)).toUInt32 &&& Int32.toUInt32 31)).toInt32))).toUInt32 >>> (((16 : Int32)).toUInt32 &&& Int32.toUInt32 31)).toInt32) S.1 S.2.1 dJ6_bitCount_0f7a4_45 rfl ?_
  refine lv_iadd S.1 S.2.1 dJ6_bitCount_0f7a4_46 ?_
  refine lv_istore_n (lv' := [(0, .int (((((((p1 - ((((p1).toUInt32 >>> (((1 : Int32)).toUInt32 &&& Int32.toUInt32 31)).toInt32) &&& (1431655765 : Int32))) &&& (858993459 : Int32)) + (((((p1 - ((((p1).toUInt32 >>> (((1 : Int32)).toUInt32 &&& Int32.toUInt32 31)).toInt32) &&& (1431655765 : Int32)))).toUInt32 >>> (((2 : Int32)).toUInt32 &&& Int32.toUInt32 31)).toInt32) &&& (858993459 : Int32))) + ((((((p1 - ((((p1).toUInt32 >>> (((1 : Int32)).toUInt32 &&& Int32.toUInt32 31)).toInt32) &&& (1431655765 : Int32))) &&& (858993459 : Int32)) + (((((p1 - ((((p1).toUInt32 >>> (((1 : Int32)).toUInt32 &&& Int32.toUInt32 31)).toInt32) &&& (1431655765 : Int32)))).toUInt32 >>> (((2 : Int32)).toUInt32 &&& Int32.toUInt32 31)).toInt32) &&& (858993459 : Int32)))).toUInt32 >>> (((4 : Int32)).toUInt32 &&& Int32.toUInt32 31)).toInt32)) &&& (252645135 : Int32)) + ((((((((p1 - ((((p1).toUInt32 >>> (((1 : Int32)).toUInt32 &&& Int32.toUInt32 31)).toInt32) &&& (1431655765 : Int32))) &&& (858993459 : Int32)) + (((((p1 - ((((p1).toUInt32 >>> (((1 : Int32)).toUInt32 &&& Int32.toUInt32 31)).toInt32) &&& (1431655765 : Int32)))).toUInt32 >>> (((2 : Int32)).toUInt32 &&& Int32.toUInt32 31)).toInt32) &&& (858993459 : Int32))) + ((((((p1 - ((((p1).toUInt32 >>> (((1 : Int32)).toUInt32 &&& Int32.toUInt32 31)).toInt32) &&& (1431655765 : Int32))) &&& (858993459 : Int32)) + (((((p1 - ((((p1).toUInt32 >>> (((1 : Int32)).toUInt32 &&& Int32.toUInt32 31)).toInt32) &&& (1431655765 : Int32)))).toUInt32 >>> (((2 : Int32)).toUInt32 &&& Int32.toUInt32 31)).toInt32) &&& (858993459 : Int32)))).toUInt32 >>> (((4 : Int32)).toUInt32 &&& Int32.toUInt32 31)).toInt32)) &&& (252645135 : Int32))).toUInt32 >>> (((8 : Int32)).toUInt32 &&& Int32.toUInt32 31)).toInt32)) + (((((((((p1 - ((((p1).toUInt32 >>> (((1 : Int32)).toUInt32 &&& Int32.toUInt32 31)).toInt32) &&& (1431655765 : Int32))) &&& (858993459 : Int32)) + (((((p1 - ((((p1).toUInt32 >>> (((1 : Int32)).toUInt32 &&& Int32.toUInt32 31)).toInt32) &&& (1431655765 : Int32)))).toUInt32 >>> (((2 : Int32)).toUInt32 &&& Int32.toUInt32 31)).toInt32) &&& (858993459 : Int32))) + ((((((p1 - ((((p1).toUInt32 >>> (((1 : Int32)).toUInt32 &&& Int32.toUInt32 31)).toInt32) &&& (1431655765 : Int32))) &&& (858993459 : Int32)) + (((((p1 - ((((p1).toUInt32 >>> (((1 : Int32)).toUInt32 &&& Int32.toUInt32 31)).toInt32) &&& (1431655765 : Int32)))).toUInt32 >>> (((2 : Int32)).toUInt32 &&& Int32.toUInt32 31)).toInt32) &&& (858993459 : Int32)))).toUInt32 >>> (((4 : Int32)).toUInt32 &&& Int32.toUInt32 31)).toInt32)) &&& (252645135 : Int32)) + ((((((((p1 - ((((p1).toUInt32 >>> (((1 : Int32)).toUInt32 &&& Int32.toUInt32 31)).toInt32) &&& (1431655765 : Int32))) &&& (858993459 : Int32)) + (((((p1 - ((((p1).toUInt32 >>> (((1 : Int32)).toUInt32 &&& Int32.toUInt32 31)).toInt32) &&& (1431655765 : Int32)))).toUInt32 >>> (((2 : Int32)).toUInt32 &&& Int32.toUInt32 31)).toInt32) &&& (858993459 : Int32))) + ((((((p1 - ((((p1).toUInt32 >>> (((1 : Int32)).toUInt32 &&& Int32.toUInt32 31)).toInt32) &&& (1431655765 : Int32))) &&& (858993459 : Int32)) + (((((p1 - ((((p1).toUInt32 >>> (((1 : Int32)).toUInt32 &&& Int32.toUInt32 31)).toInt32) &&& (1431655765 : Int32)))).toUInt32 >>> (((2 : Int32)).toUInt32 &&& Int32.toUInt32 31)).toInt32) &&& (858993459 : Int32)))).toUInt32 >>> (((4 : Int32)).toUInt32 &&& Int32.toUInt32 31)).toInt32)) &&& (252645135 : Int32))).toUInt32 >>> (((8 : Int32)).toUInt32 &&& Int32.toUInt32 31)).toInt32))).toUInt32 >>> (((16 : Int32)).toUInt32 &&& Int32.toUInt32 31)).toInt32)))]) S.1 S.2.1 dJ6_bitCount_0f7a4_47 rfl hl (by decide) rfl (fun ls hl => ?_)
  refine lv_iload_n S.1 S.2.1 dJ6_bitCount_0f7a4_48 rfl (lv_at hl 0 rfl) ?_
  refine lv_bipush (v := 63) S.1 S.2.1 dJ6_bitCount_0f7a4_49 (by decide) ?_
  refine lv_iand S.1 S.2.1 dJ6_bitCount_0f7a4_51 ?_
  exact yri S hr hlk hw hV dJ6_bitCount_0f7a4_52
def m_in (p1 : Int32) (p2 : Int32) (p3 : Int32) : Bool :=
    (if p1 < p2 then
    false
    else
    (if p3 < p1 then
    false
    else
    true))
set_option maxHeartbeats 4000000 in
set_option maxRecDepth 100000 in
theorem c_m_in (l : Launch) (p1 : Int32) (p2 : Int32) (p3 : Int32) : xP l yX11_in cX11_in 3 (some .boolean) (xRm 0 0) [.int p1, .int p2, .int p3] (b2i (m_in p1 p2 p3)) := by
  suffices h : ∀ V, V = m_in p1 p2 p3 → xP l yX11_in cX11_in 3 (some .boolean) (xRm 0 0) [.int p1, .int p2, .int p3] (b2i V) from h _ rfl
  intro V hV
  refine xofP RX11 rfl (by decide) (Nat.le_of_ble_eq_true rfl) ?_
  intro p e s m args below meth c ls H locs S hr hlk hl hw
  have hl : lv_has ls 3 [(0, .int p1), (1, .int p2), (2, .int p3)] := hl
  refine lv_iload_n S.1 S.2.1 dX11_in_0 rfl (lv_at hl 0 rfl) ?_
  refine lv_iload_n S.1 S.2.1 dX11_in_1 rfl (lv_at hl 1 rfl) ?_
  refine lv_icmp_lt (tgt := 14) S.1 S.2.1 dX11_in_2 (by decide) (fun c_1 => ?_) (fun c_1 => ?_)
  · replace hV := hV.trans (if_pos c_1)
    have gc_1 : (p1).toInt < (p2).toInt := xq_lt c_1 rfl rfl
    refine lv_iconst (v := 0) S.1 S.2.1 dX11_in_14 (by decide) ?_
    exact yrz S hr hlk hw rfl (congrArg b2i hV) dX11_in_15
  · replace hV := hV.trans (if_neg c_1)
    have gc_1 : (p2).toInt ≤ (p1).toInt := xq_nlt c_1 rfl rfl
    refine lv_iload_n S.1 S.2.1 dX11_in_5 rfl (lv_at hl 0 rfl) ?_
    refine lv_iload_n S.1 S.2.1 dX11_in_6 rfl (lv_at hl 2 rfl) ?_
    refine lv_icmp_gt (tgt := 14) S.1 S.2.1 dX11_in_7 (by decide) (fun c_2 => ?_) (fun c_2 => ?_)
    · replace hV := hV.trans (if_pos c_2)
      have gc_2 : (p3).toInt < (p1).toInt := xq_lt c_2 rfl rfl
      refine lv_iconst (v := 0) S.1 S.2.1 dX11_in_14 (by decide) ?_
      exact yrz S hr hlk hw rfl (congrArg b2i hV) dX11_in_15
    · replace hV := hV.trans (if_neg c_2)
      have gc_2 : (p1).toInt ≤ (p3).toInt := xq_nlt c_2 rfl rfl
      refine lv_iconst (v := 1) S.1 S.2.1 dX11_in_10 (by decide) ?_
      refine lv_goto (tgt := 15) S.1 S.2.1 dX11_in_11 (by decide) ?_
      exact yrz S hr hlk hw rfl (congrArg b2i hV) dX11_in_15
def m_has (p1 : Int32) (p2 : Int32) : Bool :=
    (if ((p1 >>> (p2 &&& 31)) &&& (1 : Int32)) = (1 : Int32) then
    true
    else
    false)
set_option maxHeartbeats 4000000 in
set_option maxRecDepth 100000 in
theorem c_m_has (l : Launch) (p1 : Int32) (p2 : Int32) : xP l yX11_has cX11_has 2 (some .boolean) (xRm 0 0) [.int p1, .int p2] (b2i (m_has p1 p2)) := by
  suffices h : ∀ V, V = m_has p1 p2 → xP l yX11_has cX11_has 2 (some .boolean) (xRm 0 0) [.int p1, .int p2] (b2i V) from h _ rfl
  intro V hV
  refine xofP RX11 rfl (by decide) (Nat.le_of_ble_eq_true rfl) ?_
  intro p e s m args below meth c ls H locs S hr hlk hl hw
  have hl : lv_has ls 2 [(0, .int p1), (1, .int p2)] := hl
  refine lv_iload_n S.1 S.2.1 dX11_has_0 rfl (lv_at hl 0 rfl) ?_
  refine lv_iload_n S.1 S.2.1 dX11_has_1 rfl (lv_at hl 1 rfl) ?_
  refine lv_ishr S.1 S.2.1 dX11_has_2 ?_
  refine lv_iconst (v := 1) S.1 S.2.1 dX11_has_3 (by decide) ?_
  refine lv_iand S.1 S.2.1 dX11_has_4 ?_
  refine lv_iconst (v := 1) S.1 S.2.1 dX11_has_5 (by decide) ?_
  refine lv_icmp_ne (tgt := 13) S.1 S.2.1 dX11_has_6 (by decide) (fun c_1 => ?_) (fun c_1 => ?_)
  · replace hV := hV.trans (if_neg c_1)
    have gc_1 : ¬ (((p1 >>> (p2 &&& 31)) &&& (1 : Int32))).toInt = 1 := xq_ne c_1 rfl rfl
    refine lv_iconst (v := 0) S.1 S.2.1 dX11_has_13 (by decide) ?_
    exact yrz S hr hlk hw rfl (congrArg b2i hV) dX11_has_14
  · replace hV := hV.trans (if_pos c_1)
    have gc_1 : (((p1 >>> (p2 &&& 31)) &&& (1 : Int32))).toInt = 1 := xq_eq c_1 rfl rfl
    refine lv_iconst (v := 1) S.1 S.2.1 dX11_has_9 (by decide) ?_
    refine lv_goto (tgt := 14) S.1 S.2.1 dX11_has_10 (by decide) ?_
    exact yrz S hr hlk hw rfl (congrArg b2i hV) dX11_has_14
def m_bits_L4 (x0 : Int32) : Nat → Int32 → Int32 → Int32
  | 0, _, _ => 0
  | n + 1, x1, x2 =>
    (if (8 : Int32) ≤ x2 then
    x1
    else
    let t_3 := (x1 + ((x0 >>> (x2 &&& 31)) &&& (1 : Int32)))
    m_bits_L4 x0 n t_3 (x2 + (1 : Int32)))
def m_bits (p1 : Int32) : Int32 :=
    m_bits_L4 p1 9 (0 : Int32) (0 : Int32)
set_option maxHeartbeats 4000000 in
set_option maxRecDepth 100000 in
theorem c_m_bits (l : Launch) (p1 : Int32) : xP l yX11_bits cX11_bits 3 (some .int) (xRm 0 0) [.int p1] ((m_bits p1)) := by
  suffices h : ∀ V, V = m_bits p1 → xP l yX11_bits cX11_bits 3 (some .int) (xRm 0 0) [.int p1] (V) from h _ rfl
  intro V hV
  refine xofP RX11 rfl (by decide) (Nat.le_of_ble_eq_true rfl) ?_
  intro p e s m args below meth c ls H locs S hr hlk hl hw
  have hl : lv_has ls 3 [(0, .int p1)] := hl
  refine lv_iconst (v := 0) S.1 S.2.1 dX11_bits_0 (by decide) ?_
  refine lv_istore_n (lv' := [(1, .int (0 : Int32)), (0, .int p1)]) S.1 S.2.1 dX11_bits_1 rfl hl (by decide) rfl (fun ls hl => ?_)
  refine lv_iconst (v := 0) S.1 S.2.1 dX11_bits_2 (by decide) ?_
  refine lv_istore_n (lv' := [(2, .int (0 : Int32)), (1, .int (0 : Int32)), (0, .int p1)]) S.1 S.2.1 dX11_bits_3 rfl hl (by decide) rfl (fun ls hl => ?_)
  have lp_1 : ∀ (n : Nat) (x1_1 : Int32) (x2_1 : Int32) (H : Heap) (locs : List Loc) (ls : Array Slot), (0 ≤ (x2_1).toInt) → (8 - (x2_1).toInt < (n : Int) ∧ 1 ≤ n) → lv_has ls 3 [(0, .int p1), (1, .int x1_1), (2, .int x2_1)] → xw (fun _ => 0, fun _ _ => 0) (fun _ => []) (fun _ => False) s.heap H locs (fun _ _ => 0, 0) → V = m_bits_L4 p1 n x1_1 x2_1 → W p l e (xRm 0 0) s m args below meth c H locs 0 0 (MQ below (va_Qi (fun r (_ : Unit) => r = V) (fun _ _ => True) (fun _ => False)) args s 0 0 (fun _ => False)) (F0 m 4 ls []) := by
    intro n
    induction n with
    | zero => intro x1_1 x2_1 H locs ls i0_1 hn; exact absurd hn.2 (by decide)
    | succ n ih_1 =>
      intro x1_1 x2_1 H locs ls i0_1 hn_1 hl hw hV
      refine lv_iload_n S.1 S.2.1 dX11_bits_4 rfl (lv_at hl 2 rfl) ?_
      refine lv_bipush (v := 8) S.1 S.2.1 dX11_bits_5 (by decide) ?_
      refine lv_icmp_ge (tgt := 24) S.1 S.2.1 dX11_bits_7 (by decide) (fun c_2 => ?_) (fun c_2 => ?_)
      · replace hV := hV.trans (if_pos c_2)
        have gc_2 : 8 ≤ (x2_1).toInt := xq_le c_2 rfl rfl
        refine lv_iload_n S.1 S.2.1 dX11_bits_24 rfl (lv_at hl 1 rfl) ?_
        exact yri S hr hlk hw hV dX11_bits_25
      · replace hV := hV.trans (if_neg c_2)
        have gc_2 : (x2_1).toInt < 8 := xq_nle c_2 rfl rfl
        refine lv_iload_n S.1 S.2.1 dX11_bits_10 rfl (lv_at hl 1 rfl) ?_
        refine lv_iload_n S.1 S.2.1 dX11_bits_11 rfl (lv_at hl 0 rfl) ?_
        refine lv_iload_n S.1 S.2.1 dX11_bits_12 rfl (lv_at hl 2 rfl) ?_
        refine lv_ishr S.1 S.2.1 dX11_bits_13 ?_
        refine lv_iconst (v := 1) S.1 S.2.1 dX11_bits_14 (by decide) ?_
        refine lv_iand S.1 S.2.1 dX11_bits_15 ?_
        refine lv_iadd S.1 S.2.1 dX11_bits_16 ?_
        refine lv_istore_n (lv' := [(1, .int (x1_1 + ((p1 >>> (x2_1 &&& 31)) &&& (1 : Int32)))), (0, .int p1), (2, .int x2_1)]) S.1 S.2.1 dX11_bits_17 rfl hl (by decide) rfl (fun ls hl => ?_)
        refine lv_iinc (v := (x2_1 + (1 : Int32))) (lv' := [(2, .int (x2_1 + (1 : Int32))), (1, .int (x1_1 + ((p1 >>> (x2_1 &&& 31)) &&& (1 : Int32)))), (0, .int p1)]) S.1 S.2.1 dX11_bits_18 hl (k := 2) rfl rfl (by decide) rfl (fun ls hl => ?_)
        refine lv_goto (tgt := 4) S.1 S.2.1 dX11_bits_21 (by decide) ?_
        have e_4 : ((x2_1 + (1 : Int32))).toInt = (x2_1).toInt + 1 := xadd rfl rfl (by omega) (by omega)
        exact ih_1 (x1_1 + ((p1 >>> (x2_1 &&& 31)) &&& (1 : Int32))) (x2_1 + (1 : Int32)) _ _ _ (by omega) (by constructor <;> omega) (lv_sub hl [2, 1, 0] rfl) hw hV
  have k_5 : (0 : Int32).toInt = 0 := rfl
  exact lp_1 9 (0 : Int32) (0 : Int32) _ _ _ (by omega) (by constructor <;> omega) (lv_sub hl [2, 1, 0] rfl) hw hV
def m_isFigure (p1 : Int32) : Bool :=
    (m_in p1 (48 : Int32) (57 : Int32))
set_option maxHeartbeats 4000000 in
set_option maxRecDepth 100000 in
theorem c_m_isFigure (l : Launch) (p1 : Int32) : xP l yX11_isFigure cX11_isFigure 1 (some .boolean) (xRm 1 22) [.int p1] (b2i (m_isFigure p1)) := by
  suffices h : ∀ V, V = m_isFigure p1 → xP l yX11_isFigure cX11_isFigure 1 (some .boolean) (xRm 1 22) [.int p1] (b2i V) from h _ rfl
  intro V hV
  refine xofP RX11 rfl (by decide) (Nat.le_of_ble_eq_true rfl) ?_
  intro p e s m args below meth c ls H locs S hr hlk hl hw
  have hl : lv_has ls 1 [(0, .int p1)] := hl
  refine lv_iload_n S.1 S.2.1 dX11_isFigure_0 rfl (lv_at hl 0 rfl) ?_
  refine lv_bipush (v := 48) S.1 S.2.1 dX11_isFigure_1 (by decide) ?_
  refine lv_bipush (v := 57) S.1 S.2.1 dX11_isFigure_3 (by decide) ?_
  refine xcP (rest := []) S hw yfX11_in (c_m_in l p1 (48 : Int32) (57 : Int32)) mlX11_72 rfl rfl hl.1 ⟨rfl, rfl, Nat.le_of_ble_eq_true rfl, Nat.le_of_ble_eq_true rfl, Nat.le_of_ble_eq_true rfl, Nat.zero_le _, Nat.zero_le _⟩ dX11_isFigure_5 (fun H locs hw => ?_)
  exact yrz S hr hlk hw (b2i_z _) (congrArg b2i hV) dX11_isFigure_8
def m_isLetter (p1 : Int32) : Bool :=
    (m_in p1 (97 : Int32) (122 : Int32))
set_option maxHeartbeats 4000000 in
set_option maxRecDepth 100000 in
theorem c_m_isLetter (l : Launch) (p1 : Int32) : xP l yX11_isLetter cX11_isLetter 1 (some .boolean) (xRm 1 22) [.int p1] (b2i (m_isLetter p1)) := by
  suffices h : ∀ V, V = m_isLetter p1 → xP l yX11_isLetter cX11_isLetter 1 (some .boolean) (xRm 1 22) [.int p1] (b2i V) from h _ rfl
  intro V hV
  refine xofP RX11 rfl (by decide) (Nat.le_of_ble_eq_true rfl) ?_
  intro p e s m args below meth c ls H locs S hr hlk hl hw
  have hl : lv_has ls 1 [(0, .int p1)] := hl
  refine lv_iload_n S.1 S.2.1 dX11_isLetter_0 rfl (lv_at hl 0 rfl) ?_
  refine lv_bipush (v := 97) S.1 S.2.1 dX11_isLetter_1 (by decide) ?_
  refine lv_bipush (v := 122) S.1 S.2.1 dX11_isLetter_3 (by decide) ?_
  refine xcP (rest := []) S hw yfX11_in (c_m_in l p1 (97 : Int32) (122 : Int32)) mlX11_72 rfl rfl hl.1 ⟨rfl, rfl, Nat.le_of_ble_eq_true rfl, Nat.le_of_ble_eq_true rfl, Nat.le_of_ble_eq_true rfl, Nat.zero_le _, Nat.zero_le _⟩ dX11_isLetter_5 (fun H locs hw => ?_)
  exact yrz S hr hlk hw (b2i_z _) (congrArg b2i hV) dX11_isLetter_8
def m_kth_L4 (x0 : Int32) : Nat → Int32 → Int32 → Int32
  | 0, _, _ => 0
  | n + 1, x2, x3 =>
    (if (8 : Int32) ≤ x3 then
    (-9 : Int32)
    else
    (if (b2i (m_has x0 x3)) = (0 : Int32) then
    m_kth_L4 x0 n x2 (x3 + (1 : Int32))
    else
    (if x2 = (0 : Int32) then
    x3
    else
    m_kth_L4 x0 n (x2 + (-1 : Int32)) (x3 + (1 : Int32)))))
def m_kth (p1 : Int32) (p2 : Int32) : Int32 :=
    m_kth_L4 p1 9 p2 (0 : Int32)
set_option maxHeartbeats 4000000 in
set_option maxRecDepth 100000 in
theorem c_m_kth (l : Launch) (p1 : Int32) (p2 : Int32) : xP l yX11_kth cX11_kth 4 (some .int) (xRm 1 21) [.int p1, .int p2] ((m_kth p1 p2)) := by
  suffices h : ∀ V, V = m_kth p1 p2 → xP l yX11_kth cX11_kth 4 (some .int) (xRm 1 21) [.int p1, .int p2] (V) from h _ rfl
  intro V hV
  refine xofP RX11 rfl (by decide) (Nat.le_of_ble_eq_true rfl) ?_
  intro p e s m args below meth c ls H locs S hr hlk hl hw
  have hl : lv_has ls 4 [(0, .int p1), (1, .int p2)] := hl
  refine lv_iload_n S.1 S.2.1 dX11_kth_0 rfl (lv_at hl 1 rfl) ?_
  refine lv_istore_n (lv' := [(2, .int p2), (0, .int p1), (1, .int p2)]) S.1 S.2.1 dX11_kth_1 rfl hl (by decide) rfl (fun ls hl => ?_)
  refine lv_iconst (v := 0) S.1 S.2.1 dX11_kth_2 (by decide) ?_
  refine lv_istore_n (lv' := [(3, .int (0 : Int32)), (2, .int p2), (0, .int p1), (1, .int p2)]) S.1 S.2.1 dX11_kth_3 rfl hl (by decide) rfl (fun ls hl => ?_)
  have lp_1 : ∀ (n : Nat) (x2_1 : Int32) (x3_1 : Int32) (H : Heap) (locs : List Loc) (ls : Array Slot), (0 ≤ (x3_1).toInt) → (8 - (x3_1).toInt < (n : Int) ∧ 1 ≤ n) → lv_has ls 4 [(0, .int p1), (2, .int x2_1), (3, .int x3_1)] → xw (fun _ => 0, fun _ _ => 0) (fun _ => []) (fun _ => False) s.heap H locs (fun _ _ => 0, 0) → V = m_kth_L4 p1 n x2_1 x3_1 → W p l e (xRm 1 21) s m args below meth c H locs 0 0 (MQ below (va_Qi (fun r (_ : Unit) => r = V) (fun _ _ => True) (fun _ => False)) args s 0 0 (fun _ => False)) (F0 m 4 ls []) := by
    intro n
    induction n with
    | zero => intro x2_1 x3_1 H locs ls i0_1 hn; exact absurd hn.2 (by decide)
    | succ n ih_1 =>
      intro x2_1 x3_1 H locs ls i0_1 hn_1 hl hw hV
      refine lv_iload_n S.1 S.2.1 dX11_kth_4 rfl (lv_at hl 2 rfl) ?_
      refine lv_bipush (v := 8) S.1 S.2.1 dX11_kth_5 (by decide) ?_
      refine lv_icmp_ge (tgt := 33) S.1 S.2.1 dX11_kth_7 (by decide) (fun c_2 => ?_) (fun c_2 => ?_)
      · replace hV := hV.trans (if_pos c_2)
        have gc_2 : 8 ≤ (x3_1).toInt := xq_le c_2 rfl rfl
        refine lv_bipush (v := -9) S.1 S.2.1 dX11_kth_33 (by decide) ?_
        exact yri S hr hlk hw hV dX11_kth_35
      · replace hV := hV.trans (if_neg c_2)
        have gc_2 : (x3_1).toInt < 8 := xq_nle c_2 rfl rfl
        refine lv_iload_n S.1 S.2.1 dX11_kth_10 rfl (lv_at hl 0 rfl) ?_
        refine lv_iload_n S.1 S.2.1 dX11_kth_11 rfl (lv_at hl 2 rfl) ?_
        refine xcP (rest := []) S hw yfX11_has (c_m_has l p1 x3_1) mlX11_140 rfl rfl hl.1 ⟨rfl, rfl, Nat.le_of_ble_eq_true rfl, Nat.le_of_ble_eq_true rfl, Nat.le_of_ble_eq_true rfl, Nat.zero_le _, Nat.zero_le _⟩ dX11_kth_12 (fun H locs hw => ?_)
        refine lv_if_eq (tgt := 27) S.1 S.2.1 dX11_kth_15 (by decide) (fun c_3 => ?_) (fun c_3 => ?_)
        · replace hV := hV.trans (if_pos c_3)
          have gc_3 : ((b2i (m_has p1 x3_1))).toInt = 0 := xq_eq c_3 rfl rfl
          refine lv_iinc (v := (x3_1 + (1 : Int32))) (lv' := [(3, .int (x3_1 + (1 : Int32))), (0, .int p1), (2, .int x2_1)]) S.1 S.2.1 dX11_kth_27 hl (k := 2) rfl rfl (by decide) rfl (fun ls hl => ?_)
          refine lv_goto (tgt := 4) S.1 S.2.1 dX11_kth_30 (by decide) ?_
          have e_4 : ((x3_1 + (1 : Int32))).toInt = (x3_1).toInt + 1 := xadd rfl rfl (by omega) (by omega)
          exact ih_1 x2_1 (x3_1 + (1 : Int32)) _ _ _ (by omega) (by constructor <;> omega) (lv_sub hl [1, 2, 0] rfl) hw hV
        · replace hV := hV.trans (if_neg c_3)
          have gc_3 : ¬ ((b2i (m_has p1 x3_1))).toInt = 0 := xq_ne c_3 rfl rfl
          refine lv_iload_n S.1 S.2.1 dX11_kth_18 rfl (lv_at hl 1 rfl) ?_
          refine lv_if_ne (tgt := 24) S.1 S.2.1 dX11_kth_19 (by decide) (fun c_5 => ?_) (fun c_5 => ?_)
          · replace hV := hV.trans (if_neg c_5)
            have gc_5 : ¬ (x2_1).toInt = 0 := xq_ne c_5 rfl rfl
            refine lv_iinc (v := (x2_1 + (-1 : Int32))) (lv' := [(2, .int (x2_1 + (-1 : Int32))), (0, .int p1), (3, .int x3_1)]) S.1 S.2.1 dX11_kth_24 hl (k := 1) rfl rfl (by decide) rfl (fun ls hl => ?_)
            refine lv_iinc (v := (x3_1 + (1 : Int32))) (lv' := [(3, .int (x3_1 + (1 : Int32))), (2, .int (x2_1 + (-1 : Int32))), (0, .int p1)]) S.1 S.2.1 dX11_kth_27 hl (k := 2) rfl rfl (by decide) rfl (fun ls hl => ?_)
            refine lv_goto (tgt := 4) S.1 S.2.1 dX11_kth_30 (by decide) ?_
            have e_6 : ((x3_1 + (1 : Int32))).toInt = (x3_1).toInt + 1 := xadd rfl rfl (by omega) (by omega)
            exact ih_1 (x2_1 + (-1 : Int32)) (x3_1 + (1 : Int32)) _ _ _ (by omega) (by constructor <;> omega) (lv_sub hl [2, 1, 0] rfl) hw hV
          · replace hV := hV.trans (if_pos c_5)
            have gc_5 : (x2_1).toInt = 0 := xq_eq c_5 rfl rfl
            refine lv_iload_n S.1 S.2.1 dX11_kth_22 rfl (lv_at hl 2 rfl) ?_
            exact yri S hr hlk hw hV dX11_kth_23
  have k_7 : (0 : Int32).toInt = 0 := rfl
  exact lp_1 9 p2 (0 : Int32) _ _ _ (by omega) (by constructor <;> omega) (lv_sub hl [2, 1, 0] rfl) hw hV
def m_lowest_L5 (x0 : Int32) (x1 : Int32) (x2 : Int32) : Nat → Int32 → Int32 → Int32
  | 0, _, _ => 0
  | n + 1, x3, x4 =>
    (if x4 ≤ (0 : Int32) then
    (if x2 = (0 : Int32) then
    (x0 / x3)
    else
    (x1 / x3))
    else
    m_lowest_L5 x0 x1 x2 n x4 (x3 - x3 / x4 * x4))
def m_lowest (p1 : Int32) (p2 : Int32) (p3 : Int32) : Int32 :=
    m_lowest_L5 p1 p2 p3 (p2.toNatClampNeg + 1) p1 p2
set_option maxHeartbeats 4000000 in
set_option maxRecDepth 100000 in
theorem c_m_lowest (l : Launch) (p1 : Int32) (p2 : Int32) (p3 : Int32) (hp0 : 0 ≤ (p1).toInt ∧ (p1).toInt < 2147483648) (hp1 : 1 ≤ (p2).toInt ∧ (p2).toInt < 2147483648) : xP l yX11_lowest cX11_lowest 6 (some .int) (xRm 0 0) [.int p1, .int p2, .int p3] ((m_lowest p1 p2 p3)) := by
  suffices h : ∀ V, V = m_lowest p1 p2 p3 → xP l yX11_lowest cX11_lowest 6 (some .int) (xRm 0 0) [.int p1, .int p2, .int p3] (V) from h _ rfl
  intro V hV
  refine xofP RX11 rfl (by decide) (Nat.le_of_ble_eq_true rfl) ?_
  intro p e s m args below meth c ls H locs S hr hlk hl hw
  have hl : lv_has ls 6 [(0, .int p1), (1, .int p2), (2, .int p3)] := hl
  have kz : ((p2).toNatClampNeg : Int) = (p2).toInt := by show ((p2.toInt.toNat : Nat) : Int) = _; omega
  refine lv_iload_n S.1 S.2.1 dX11_lowest_0 rfl (lv_at hl 0 rfl) ?_
  refine lv_istore_n (lv' := [(3, .int p1), (0, .int p1), (1, .int p2), (2, .int p3)]) S.1 S.2.1 dX11_lowest_1 rfl hl (by decide) rfl (fun ls hl => ?_)
  refine lv_iload_n S.1 S.2.1 dX11_lowest_2 rfl (lv_at hl 2 rfl) ?_
  refine lv_istore (lv' := [(4, .int p2), (3, .int p1), (0, .int p1), (1, .int p2), (2, .int p3)]) S.1 S.2.1 dX11_lowest_3 hl (by decide) rfl (fun ls hl => ?_)
  have lp_1 : ∀ (n : Nat) (x3_1 : Int32) (x4_1 : Int32) (H : Heap) (locs : List Loc) (ls : Array Slot), (0 ≤ (x3_1).toInt ∧ 0 ≤ (x4_1).toInt ∧ ((x3_1).toInt ≠ 0 ∨ 0 < (x4_1).toInt)) → ((x4_1).toInt < (n : Int) ∧ 1 ≤ n) → lv_has ls 6 [(0, .int p1), (1, .int p2), (2, .int p3), (3, .int x3_1), (4, .int x4_1)] → xw (fun _ => 0, fun _ _ => 0) (fun _ => []) (fun _ => False) s.heap H locs (fun _ _ => 0, 0) → V = m_lowest_L5 p1 p2 p3 n x3_1 x4_1 → W p l e (xRm 0 0) s m args below meth c H locs 0 0 (MQ below (va_Qi (fun r (_ : Unit) => r = V) (fun _ _ => True) (fun _ => False)) args s 0 0 (fun _ => False)) (F0 m 5 ls []) := by
    intro n
    induction n with
    | zero => intro x3_1 x4_1 H locs ls i0_1 hn; exact absurd hn.2 (by decide)
    | succ n ih_1 =>
      intro x3_1 x4_1 H locs ls i0_1 hn_1 hl hw hV
      refine lv_iload S.1 S.2.1 dX11_lowest_5 (lv_at hl 4 rfl) ?_
      refine lv_if_le (tgt := 26) S.1 S.2.1 dX11_lowest_7 (by decide) (fun c_2 => ?_) (fun c_2 => ?_)
      · replace hV := hV.trans (if_pos c_2)
        have gc_2 : (x4_1).toInt ≤ 0 := xq_le c_2 rfl rfl
        refine lv_iload_n S.1 S.2.1 dX11_lowest_26 rfl (lv_at hl 2 rfl) ?_
        refine lv_if_ne (tgt := 34) S.1 S.2.1 dX11_lowest_27 (by decide) (fun c_3 => ?_) (fun c_3 => ?_)
        · replace hV := hV.trans (if_neg c_3)
          have gc_3 : ¬ (p3).toInt = 0 := xq_ne c_3 rfl rfl
          refine lv_iload_n S.1 S.2.1 dX11_lowest_34 rfl (lv_at hl 1 rfl) ?_
          refine lv_iload_n S.1 S.2.1 dX11_lowest_35 rfl (lv_at hl 3 rfl) ?_
          refine lv_idiv S.1 S.2.1 dX11_lowest_36 (fun z => by have : (x3_1).toInt = 0 := xq_eq z rfl rfl; omega) ?_
          exact yri S hr hlk hw hV dX11_lowest_37
        · replace hV := hV.trans (if_pos c_3)
          have gc_3 : (p3).toInt = 0 := xq_eq c_3 rfl rfl
          refine lv_iload_n S.1 S.2.1 dX11_lowest_30 rfl (lv_at hl 0 rfl) ?_
          refine lv_goto (tgt := 35) S.1 S.2.1 dX11_lowest_31 (by decide) ?_
          refine lv_iload_n S.1 S.2.1 dX11_lowest_35 rfl (lv_at hl 3 rfl) ?_
          refine lv_idiv S.1 S.2.1 dX11_lowest_36 (fun z => by have : (x3_1).toInt = 0 := xq_eq z rfl rfl; omega) ?_
          exact yri S hr hlk hw hV dX11_lowest_37
      · replace hV := hV.trans (if_neg c_2)
        have gc_2 : 0 < (x4_1).toInt := xq_nle c_2 rfl rfl
        refine lv_iload_n S.1 S.2.1 dX11_lowest_10 rfl (lv_at hl 3 rfl) ?_
        refine lv_iload S.1 S.2.1 dX11_lowest_11 (lv_at hl 4 rfl) ?_
        refine lv_irem S.1 S.2.1 dX11_lowest_13 (fun z => by have : (x4_1).toInt = 0 := xq_eq z rfl rfl; omega) ?_
        have qr := xrem (y := x3_1) (z := x4_1) (by omega) (by omega)
        refine lv_istore (lv' := [(5, .int (x3_1 - x3_1 / x4_1 * x4_1)), (0, .int p1), (1, .int p2), (2, .int p3), (3, .int x3_1), (4, .int x4_1)]) S.1 S.2.1 dX11_lowest_14 hl (by decide) rfl (fun ls hl => ?_)
        refine lv_iload S.1 S.2.1 dX11_lowest_16 (lv_at hl 5 rfl) ?_
        refine lv_istore_n (lv' := [(3, .int x4_1), (5, .int (x3_1 - x3_1 / x4_1 * x4_1)), (0, .int p1), (1, .int p2), (2, .int p3), (4, .int x4_1)]) S.1 S.2.1 dX11_lowest_18 rfl hl (by decide) rfl (fun ls hl => ?_)
        refine lv_iload S.1 S.2.1 dX11_lowest_19 (lv_at hl 1 rfl) ?_
        refine lv_istore (lv' := [(4, .int (x3_1 - x3_1 / x4_1 * x4_1)), (3, .int x4_1), (5, .int (x3_1 - x3_1 / x4_1 * x4_1)), (0, .int p1), (1, .int p2), (2, .int p3)]) S.1 S.2.1 dX11_lowest_21 hl (by decide) rfl (fun ls hl => ?_)
        refine lv_goto (tgt := 5) S.1 S.2.1 dX11_lowest_23 (by decide) ?_
        exact ih_1 x4_1 (x3_1 - x3_1 / x4_1 * x4_1) _ _ _ (by omega) (by constructor <;> omega) (lv_sub hl [3, 4, 5, 1, 0] rfl) hw hV
  exact lp_1 (p2.toNatClampNeg + 1) p1 p2 _ _ _ (by omega) (by constructor <;> omega) (lv_sub hl [2, 3, 4, 1, 0] rfl) hw hV
def k_Reader_isLetter (p1 : Int32) : Bool :=
    (if p1 < (97 : Int32) then
    false
    else
    (if (122 : Int32) < p1 then
    false
    else
    true))
set_option maxHeartbeats 4000000 in
set_option maxRecDepth 100000 in
theorem c_k_Reader_isLetter (l : Launch) (p1 : Int32) : xP l yX8_isLetter cX8_isLetter 1 (some .boolean) (xRm 0 0) [.int p1] (b2i (k_Reader_isLetter p1)) := by
  suffices h : ∀ V, V = k_Reader_isLetter p1 → xP l yX8_isLetter cX8_isLetter 1 (some .boolean) (xRm 0 0) [.int p1] (b2i V) from h _ rfl
  intro V hV
  refine xofP RX8 rfl (by decide) (Nat.le_of_ble_eq_true rfl) ?_
  intro p e s m args below meth c ls H locs S hr hlk hl hw
  have hl : lv_has ls 1 [(0, .int p1)] := hl
  refine lv_iload_n S.1 S.2.1 dX8_isLetter_0 rfl (lv_at hl 0 rfl) ?_
  refine lv_bipush (v := 97) S.1 S.2.1 dX8_isLetter_1 (by decide) ?_
  refine lv_icmp_lt (tgt := 16) S.1 S.2.1 dX8_isLetter_3 (by decide) (fun c_1 => ?_) (fun c_1 => ?_)
  · replace hV := hV.trans (if_pos c_1)
    have gc_1 : (p1).toInt < 97 := xq_lt c_1 rfl rfl
    refine lv_iconst (v := 0) S.1 S.2.1 dX8_isLetter_16 (by decide) ?_
    exact yrz S hr hlk hw rfl (congrArg b2i hV) dX8_isLetter_17
  · replace hV := hV.trans (if_neg c_1)
    have gc_1 : 97 ≤ (p1).toInt := xq_nlt c_1 rfl rfl
    refine lv_iload_n S.1 S.2.1 dX8_isLetter_6 rfl (lv_at hl 0 rfl) ?_
    refine lv_bipush (v := 122) S.1 S.2.1 dX8_isLetter_7 (by decide) ?_
    refine lv_icmp_gt (tgt := 16) S.1 S.2.1 dX8_isLetter_9 (by decide) (fun c_2 => ?_) (fun c_2 => ?_)
    · replace hV := hV.trans (if_pos c_2)
      have gc_2 : 122 < (p1).toInt := xq_lt c_2 rfl rfl
      refine lv_iconst (v := 0) S.1 S.2.1 dX8_isLetter_16 (by decide) ?_
      exact yrz S hr hlk hw rfl (congrArg b2i hV) dX8_isLetter_17
    · replace hV := hV.trans (if_neg c_2)
      have gc_2 : (p1).toInt ≤ 122 := xq_nlt c_2 rfl rfl
      refine lv_iconst (v := 1) S.1 S.2.1 dX8_isLetter_12 (by decide) ?_
      refine lv_goto (tgt := 17) S.1 S.2.1 dX8_isLetter_13 (by decide) ?_
      exact yrz S hr hlk hw rfl (congrArg b2i hV) dX8_isLetter_17
def k_Reader_isDigit (p1 : Int32) : Bool :=
    (if p1 < (48 : Int32) then
    false
    else
    (if (57 : Int32) < p1 then
    false
    else
    true))
set_option maxHeartbeats 4000000 in
set_option maxRecDepth 100000 in
theorem c_k_Reader_isDigit (l : Launch) (p1 : Int32) : xP l yX8_isDigit cX8_isDigit 1 (some .boolean) (xRm 0 0) [.int p1] (b2i (k_Reader_isDigit p1)) := by
  suffices h : ∀ V, V = k_Reader_isDigit p1 → xP l yX8_isDigit cX8_isDigit 1 (some .boolean) (xRm 0 0) [.int p1] (b2i V) from h _ rfl
  intro V hV
  refine xofP RX8 rfl (by decide) (Nat.le_of_ble_eq_true rfl) ?_
  intro p e s m args below meth c ls H locs S hr hlk hl hw
  have hl : lv_has ls 1 [(0, .int p1)] := hl
  refine lv_iload_n S.1 S.2.1 dX8_isDigit_0 rfl (lv_at hl 0 rfl) ?_
  refine lv_bipush (v := 48) S.1 S.2.1 dX8_isDigit_1 (by decide) ?_
  refine lv_icmp_lt (tgt := 16) S.1 S.2.1 dX8_isDigit_3 (by decide) (fun c_1 => ?_) (fun c_1 => ?_)
  · replace hV := hV.trans (if_pos c_1)
    have gc_1 : (p1).toInt < 48 := xq_lt c_1 rfl rfl
    refine lv_iconst (v := 0) S.1 S.2.1 dX8_isDigit_16 (by decide) ?_
    exact yrz S hr hlk hw rfl (congrArg b2i hV) dX8_isDigit_17
  · replace hV := hV.trans (if_neg c_1)
    have gc_1 : 48 ≤ (p1).toInt := xq_nlt c_1 rfl rfl
    refine lv_iload_n S.1 S.2.1 dX8_isDigit_6 rfl (lv_at hl 0 rfl) ?_
    refine lv_bipush (v := 57) S.1 S.2.1 dX8_isDigit_7 (by decide) ?_
    refine lv_icmp_gt (tgt := 16) S.1 S.2.1 dX8_isDigit_9 (by decide) (fun c_2 => ?_) (fun c_2 => ?_)
    · replace hV := hV.trans (if_pos c_2)
      have gc_2 : 57 < (p1).toInt := xq_lt c_2 rfl rfl
      refine lv_iconst (v := 0) S.1 S.2.1 dX8_isDigit_16 (by decide) ?_
      exact yrz S hr hlk hw rfl (congrArg b2i hV) dX8_isDigit_17
    · replace hV := hV.trans (if_neg c_2)
      have gc_2 : (p1).toInt ≤ 57 := xq_nlt c_2 rfl rfl
      refine lv_iconst (v := 1) S.1 S.2.1 dX8_isDigit_12 (by decide) ?_
      refine lv_goto (tgt := 17) S.1 S.2.1 dX8_isDigit_13 (by decide) ?_
      exact yrz S hr hlk hw rfl (congrArg b2i hV) dX8_isDigit_17
def k_Hall_isThing (u : xU) (p1 : Int32) : Bool :=
    (if p1 < (0 : Int32) then
    false
    else
    (if (u.1 13 0) ≤ p1 then
    false
    else
    true))
set_option maxHeartbeats 4000000 in
set_option maxRecDepth 100000 in
theorem c_k_Hall_isThing (l : Launch) (D : va_G) (a : Nat → Nat) (Y : Nat → ClassId) (ts : Nat → Nat) (u : xU) (p1 : Int32) (hT : (0 ≤ ((u.1 13 0)).toInt ∧ ((u.1 13 0)).toInt ≤ 8)) (hC : (0 ≤ ((u.1 13 1)).toInt ∧ ((u.1 13 1)).toInt ≤ 6)) (hp0 : 0 ≤ (p1).toInt ∧ (p1).toInt < 8) : xMi l yX0_isThing cX0_isThing 2 (some .boolean) (xRm 0 0) D (xty Y) (wC a Y) ts [.ref (a 12), .int p1] u (b2i (k_Hall_isThing u p1), u) := by
  suffices h : ∀ V, V = k_Hall_isThing u p1 → xMi l yX0_isThing cX0_isThing 2 (some .boolean) (xRm 0 0) D (xty Y) (wC a Y) ts [.ref (a 12), .int p1] u (b2i V, u) from h _ rfl
  intro V hV
  refine xofi RX0 rfl (by decide) (Nat.le_of_ble_eq_true rfl) ?_
  intro p e s m args below meth c ls H locs A S hr hlk hl hK hE hA hw
  have hl : lv_has ls 2 [(0, .ref (a 12)), (1, .int p1)] := hl
  refine lv_iload_n S.1 S.2.1 dX0_isThing_0 rfl (lv_at hl 1 rfl) ?_
  refine lv_if_lt (tgt := 19) S.1 S.2.1 dX0_isThing_1 (by decide) (fun c_1 => ?_) (fun c_1 => ?_)
  · replace hV := hV.trans (if_pos c_1)
    have gc_1 : (p1).toInt < 0 := xq_lt c_1 rfl rfl
    refine lv_iconst (v := 0) S.1 S.2.1 dX0_isThing_19 (by decide) ?_
    exact xrz S hr hlk hw rfl (congrArg (fun b => (b2i b, u)) hV) dX0_isThing_20
  · replace hV := hV.trans (if_neg c_1)
    have gc_1 : 0 ≤ (p1).toInt := xq_nlt c_1 rfl rfl
    refine lv_iload_n S.1 S.2.1 dX0_isThing_4 rfl (lv_at hl 1 rfl) ?_
    refine lv_aload_n S.1 S.2.1 dX0_isThing_5 rfl (lv_at hl 0 rfl) ?_
    refine xget (v := .ref (a 13)) S hK hw 12 rfl rfl inX0 0 (by decide) mfX0_12 rfl dX0_isThing_6 ?_
    refine xget (v := .int (u.1 13 0)) S hK hw 13 rfl rfl inX9 0 (by decide) mfX0_37 rfl dX0_isThing_9 ?_
    refine lv_icmp_ge (tgt := 19) S.1 S.2.1 dX0_isThing_12 (by decide) (fun c_2 => ?_) (fun c_2 => ?_)
    · replace hV := hV.trans (if_pos c_2)
      have gc_2 : ((u.1 13 0)).toInt ≤ (p1).toInt := xq_le c_2 rfl rfl
      refine lv_iconst (v := 0) S.1 S.2.1 dX0_isThing_19 (by decide) ?_
      exact xrz S hr hlk hw rfl (congrArg (fun b => (b2i b, u)) hV) dX0_isThing_20
    · replace hV := hV.trans (if_neg c_2)
      have gc_2 : (p1).toInt < ((u.1 13 0)).toInt := xq_nle c_2 rfl rfl
      refine lv_iconst (v := 1) S.1 S.2.1 dX0_isThing_15 (by decide) ?_
      refine lv_goto (tgt := 20) S.1 S.2.1 dX0_isThing_16 (by decide) ?_
      exact xrz S hr hlk hw rfl (congrArg (fun b => (b2i b, u)) hV) dX0_isThing_20
def m_isThing (u : xU) (p1 : Int32) : Bool :=
    (m_in p1 (0 : Int32) ((u.1 0 0) - (1 : Int32)))
set_option maxHeartbeats 4000000 in
set_option maxRecDepth 100000 in
theorem c_m_isThing (l : Launch) (D : va_G) (a : Nat → Nat) (Y : Nat → ClassId) (ts : Nat → Nat) (u : xU) (p1 : Int32) (hT : (0 ≤ ((u.1 0 0)).toInt ∧ ((u.1 0 0)).toInt ≤ 8)) (hC : (0 ≤ ((u.1 0 5)).toInt ∧ ((u.1 0 5)).toInt ≤ 6)) (hp0 : 0 ≤ (p1).toInt ∧ (p1).toInt < 8) : xMi l yX11_isThing cX11_isThing 2 (some .boolean) (xRm 1 22) D (xty Y) (wM a Y) ts [.ref (a 0), .int p1] u (b2i (m_isThing u p1), u) := by
  suffices h : ∀ V, V = m_isThing u p1 → xMi l yX11_isThing cX11_isThing 2 (some .boolean) (xRm 1 22) D (xty Y) (wM a Y) ts [.ref (a 0), .int p1] u (b2i V, u) from h _ rfl
  intro V hV
  refine xofi RX11 rfl (by decide) (Nat.le_of_ble_eq_true rfl) ?_
  intro p e s m args below meth c ls H locs A S hr hlk hl hK hE hA hw
  have hl : lv_has ls 2 [(0, .ref (a 0)), (1, .int p1)] := hl
  refine lv_iload_n S.1 S.2.1 dX11_isThing_0 rfl (lv_at hl 1 rfl) ?_
  refine lv_iconst (v := 0) S.1 S.2.1 dX11_isThing_1 (by decide) ?_
  refine lv_aload_n S.1 S.2.1 dX11_isThing_2 rfl (lv_at hl 0 rfl) ?_
  refine xget (v := .int (u.1 0 0)) S hK hw 0 rfl rfl inX11 0 (by decide) mfX11_68 rfl dX11_isThing_3 ?_
  refine lv_iconst (v := 1) S.1 S.2.1 dX11_isThing_6 (by decide) ?_
  refine lv_isub S.1 S.2.1 dX11_isThing_7 ?_
  refine xcP (rest := []) S hw yfX11_in (c_m_in l p1 (0 : Int32) ((u.1 0 0) - (1 : Int32))) mlX11_72 rfl rfl hl.1 ⟨rfl, rfl, Nat.le_of_ble_eq_true rfl, Nat.le_of_ble_eq_true rfl, Nat.le_of_ble_eq_true rfl, Nat.zero_le _, Nat.zero_le _⟩ dX11_isThing_8 (fun H locs hw => ?_)
  exact xrz S hr hlk hw (b2i_z _) (congrArg (fun b => (b2i b, u)) hV) dX11_isThing_11
def k_Hall_isCast (u : xU) (p1 : Int32) : Bool :=
    (if p1 < (0 : Int32) then
    false
    else
    (if (u.1 13 1) ≤ p1 then
    false
    else
    true))
set_option maxHeartbeats 4000000 in
set_option maxRecDepth 100000 in
theorem c_k_Hall_isCast (l : Launch) (D : va_G) (a : Nat → Nat) (Y : Nat → ClassId) (ts : Nat → Nat) (u : xU) (p1 : Int32) (hT : (0 ≤ ((u.1 13 0)).toInt ∧ ((u.1 13 0)).toInt ≤ 8)) (hC : (0 ≤ ((u.1 13 1)).toInt ∧ ((u.1 13 1)).toInt ≤ 6)) (hp0 : 0 ≤ (p1).toInt ∧ (p1).toInt < 6) : xMi l yX0_isCast cX0_isCast 2 (some .boolean) (xRm 0 0) D (xty Y) (wC a Y) ts [.ref (a 12), .int p1] u (b2i (k_Hall_isCast u p1), u) := by
  suffices h : ∀ V, V = k_Hall_isCast u p1 → xMi l yX0_isCast cX0_isCast 2 (some .boolean) (xRm 0 0) D (xty Y) (wC a Y) ts [.ref (a 12), .int p1] u (b2i V, u) from h _ rfl
  intro V hV
  refine xofi RX0 rfl (by decide) (Nat.le_of_ble_eq_true rfl) ?_
  intro p e s m args below meth c ls H locs A S hr hlk hl hK hE hA hw
  have hl : lv_has ls 2 [(0, .ref (a 12)), (1, .int p1)] := hl
  refine lv_iload_n S.1 S.2.1 dX0_isCast_0 rfl (lv_at hl 1 rfl) ?_
  refine lv_if_lt (tgt := 19) S.1 S.2.1 dX0_isCast_1 (by decide) (fun c_1 => ?_) (fun c_1 => ?_)
  · replace hV := hV.trans (if_pos c_1)
    have gc_1 : (p1).toInt < 0 := xq_lt c_1 rfl rfl
    refine lv_iconst (v := 0) S.1 S.2.1 dX0_isCast_19 (by decide) ?_
    exact xrz S hr hlk hw rfl (congrArg (fun b => (b2i b, u)) hV) dX0_isCast_20
  · replace hV := hV.trans (if_neg c_1)
    have gc_1 : 0 ≤ (p1).toInt := xq_nlt c_1 rfl rfl
    refine lv_iload_n S.1 S.2.1 dX0_isCast_4 rfl (lv_at hl 1 rfl) ?_
    refine lv_aload_n S.1 S.2.1 dX0_isCast_5 rfl (lv_at hl 0 rfl) ?_
    refine xget (v := .ref (a 13)) S hK hw 12 rfl rfl inX0 0 (by decide) mfX0_12 rfl dX0_isCast_6 ?_
    refine xget (v := .int (u.1 13 1)) S hK hw 13 rfl rfl inX9 1 (by decide) mfX0_41 rfl dX0_isCast_9 ?_
    refine lv_icmp_ge (tgt := 19) S.1 S.2.1 dX0_isCast_12 (by decide) (fun c_2 => ?_) (fun c_2 => ?_)
    · replace hV := hV.trans (if_pos c_2)
      have gc_2 : ((u.1 13 1)).toInt ≤ (p1).toInt := xq_le c_2 rfl rfl
      refine lv_iconst (v := 0) S.1 S.2.1 dX0_isCast_19 (by decide) ?_
      exact xrz S hr hlk hw rfl (congrArg (fun b => (b2i b, u)) hV) dX0_isCast_20
    · replace hV := hV.trans (if_neg c_2)
      have gc_2 : (p1).toInt < ((u.1 13 1)).toInt := xq_nle c_2 rfl rfl
      refine lv_iconst (v := 1) S.1 S.2.1 dX0_isCast_15 (by decide) ?_
      refine lv_goto (tgt := 20) S.1 S.2.1 dX0_isCast_16 (by decide) ?_
      exact xrz S hr hlk hw rfl (congrArg (fun b => (b2i b, u)) hV) dX0_isCast_20
def m_isCast (u : xU) (p1 : Int32) : Bool :=
    (m_in p1 (0 : Int32) ((u.1 0 5) - (1 : Int32)))
set_option maxHeartbeats 4000000 in
set_option maxRecDepth 100000 in
theorem c_m_isCast (l : Launch) (D : va_G) (a : Nat → Nat) (Y : Nat → ClassId) (ts : Nat → Nat) (u : xU) (p1 : Int32) (hT : (0 ≤ ((u.1 0 0)).toInt ∧ ((u.1 0 0)).toInt ≤ 8)) (hC : (0 ≤ ((u.1 0 5)).toInt ∧ ((u.1 0 5)).toInt ≤ 6)) (hp0 : 0 ≤ (p1).toInt ∧ (p1).toInt < 6) : xMi l yX11_isCast cX11_isCast 2 (some .boolean) (xRm 1 22) D (xty Y) (wM a Y) ts [.ref (a 0), .int p1] u (b2i (m_isCast u p1), u) := by
  suffices h : ∀ V, V = m_isCast u p1 → xMi l yX11_isCast cX11_isCast 2 (some .boolean) (xRm 1 22) D (xty Y) (wM a Y) ts [.ref (a 0), .int p1] u (b2i V, u) from h _ rfl
  intro V hV
  refine xofi RX11 rfl (by decide) (Nat.le_of_ble_eq_true rfl) ?_
  intro p e s m args below meth c ls H locs A S hr hlk hl hK hE hA hw
  have hl : lv_has ls 2 [(0, .ref (a 0)), (1, .int p1)] := hl
  refine lv_iload_n S.1 S.2.1 dX11_isCast_0 rfl (lv_at hl 1 rfl) ?_
  refine lv_iconst (v := 0) S.1 S.2.1 dX11_isCast_1 (by decide) ?_
  refine lv_aload_n S.1 S.2.1 dX11_isCast_2 rfl (lv_at hl 0 rfl) ?_
  refine xget (v := .int (u.1 0 5)) S hK hw 0 rfl rfl inX11 5 (by decide) mfX11_76 rfl dX11_isCast_3 ?_
  refine lv_iconst (v := 1) S.1 S.2.1 dX11_isCast_6 (by decide) ?_
  refine lv_isub S.1 S.2.1 dX11_isCast_7 ?_
  refine xcP (rest := []) S hw yfX11_in (c_m_in l p1 (0 : Int32) ((u.1 0 5) - (1 : Int32))) mlX11_72 rfl rfl hl.1 ⟨rfl, rfl, Nat.le_of_ble_eq_true rfl, Nat.le_of_ble_eq_true rfl, Nat.le_of_ble_eq_true rfl, Nat.zero_le _, Nat.zero_le _⟩ dX11_isCast_8 (fun H locs hw => ?_)
  exact xrz S hr hlk hw (b2i_z _) (congrArg (fun b => (b2i b, u)) hV) dX11_isCast_11
end
