-- ===== PART A: goes FIRST, ahead of the names: the tables' words, and 'selects' of the private methods out of them =====
/-- a private method of a class that the tables say can be made, by its rows of tables_1 -/
def lw_okq (q : MethodName × Nat) : Prop := (q.1.cls ≠ "java/lang/invoke/MethodHandle" ∧ q.1.cls ≠ "java/lang/invoke/VarHandle") ∧ Cond.instantiable q.1.cls q.2 ∈ tables_1 ∧ Cond.privateMethod q.1 ∈ tables_1 ∧ Cond.instanceMethod q.1 ∈ tables_1
theorem lw_p0 : lw_okq (⟨"WishToChip$Reader", "takes", "(I)Z"⟩, 5) := ⟨⟨by decide +kernel, by decide +kernel⟩, List.mem_of_getElem? (i := 112) (by decide +kernel), List.mem_of_getElem? (i := 417) (by decide +kernel), List.mem_of_getElem? (i := 418) (by decide +kernel)⟩
theorem lw_p1 : lw_okq (⟨"WishToChip$Reader", "takesLetter", "(I)Z"⟩, 5) := ⟨⟨by decide +kernel, by decide +kernel⟩, List.mem_of_getElem? (i := 112) (by decide +kernel), List.mem_of_getElem? (i := 421) (by decide +kernel), List.mem_of_getElem? (i := 422) (by decide +kernel)⟩
theorem lw_p2 : lw_okq (⟨"WishToChip$Reader", "takesEnd", "()Z"⟩, 5) := ⟨⟨by decide +kernel, by decide +kernel⟩, List.mem_of_getElem? (i := 112) (by decide +kernel), List.mem_of_getElem? (i := 435) (by decide +kernel), List.mem_of_getElem? (i := 436) (by decide +kernel)⟩
theorem lw_p3 : lw_okq (⟨"WishToChip$Reader", "takesToken", "(I)Z"⟩, 5) := ⟨⟨by decide +kernel, by decide +kernel⟩, List.mem_of_getElem? (i := 112) (by decide +kernel), List.mem_of_getElem? (i := 445) (by decide +kernel), List.mem_of_getElem? (i := 446) (by decide +kernel)⟩
theorem lw_p4 : lw_okq (⟨"WishToChip$View", "orderNext", "(I)V"⟩, 8) := ⟨⟨by decide +kernel, by decide +kernel⟩, List.mem_of_getElem? (i := 47) (by decide +kernel), List.mem_of_getElem? (i := 493) (by decide +kernel), List.mem_of_getElem? (i := 494) (by decide +kernel)⟩
theorem lw_p5 : lw_okq (⟨"WishToChip$Steps", "make", "(LWishToChip$View;I)I"⟩, 4) := ⟨⟨by decide +kernel, by decide +kernel⟩, List.mem_of_getElem? (i := 137) (by decide +kernel), List.mem_of_getElem? (i := 532) (by decide +kernel), List.mem_of_getElem? (i := 533) (by decide +kernel)⟩
theorem lw_p6 : lw_okq (⟨"WishToChip$Lanes", "run", "(LWishToChip$View;)V"⟩, 5) := ⟨⟨by decide +kernel, by decide +kernel⟩, List.mem_of_getElem? (i := 159) (by decide +kernel), List.mem_of_getElem? (i := 572) (by decide +kernel), List.mem_of_getElem? (i := 573) (by decide +kernel)⟩
theorem lw_p7 : lw_okq (⟨"WishToChip$Lanes", "stuck", "(IJ)J"⟩, 5) := ⟨⟨by decide +kernel, by decide +kernel⟩, List.mem_of_getElem? (i := 159) (by decide +kernel), List.mem_of_getElem? (i := 577) (by decide +kernel), List.mem_of_getElem? (i := 578) (by decide +kernel)⟩
theorem lw_p8 : lw_okq (⟨"WishToChip$Lanes", "make", "(LWishToChip$View;I)J"⟩, 5) := ⟨⟨by decide +kernel, by decide +kernel⟩, List.mem_of_getElem? (i := 159) (by decide +kernel), List.mem_of_getElem? (i := 582) (by decide +kernel), List.mem_of_getElem? (i := 583) (by decide +kernel)⟩
theorem lw_p9 : lw_okq (⟨"WishToChip$Lanes", "statesShown", "()I"⟩, 5) := ⟨⟨by decide +kernel, by decide +kernel⟩, List.mem_of_getElem? (i := 159) (by decide +kernel), List.mem_of_getElem? (i := 621) (by decide +kernel), List.mem_of_getElem? (i := 622) (by decide +kernel)⟩
theorem lw_p10 : lw_okq (⟨"WishToChip$Covers", "coverToken", "(II[I)V"⟩, 2) := ⟨⟨by decide +kernel, by decide +kernel⟩, List.mem_of_getElem? (i := 202) (by decide +kernel), List.mem_of_getElem? (i := 682) (by decide +kernel), List.mem_of_getElem? (i := 683) (by decide +kernel)⟩
theorem lw_p11 : lw_okq (⟨"WishToChip$Covers", "put", "(III)V"⟩, 2) := ⟨⟨by decide +kernel, by decide +kernel⟩, List.mem_of_getElem? (i := 202) (by decide +kernel), List.mem_of_getElem? (i := 686) (by decide +kernel), List.mem_of_getElem? (i := 687) (by decide +kernel)⟩
theorem lw_p12 : lw_okq (⟨"WishToChip$Times", "findLine", "(LWishToChip$View;ILWishToChip$Gates;I)V"⟩, 4) := ⟨⟨by decide +kernel, by decide +kernel⟩, List.mem_of_getElem? (i := 215) (by decide +kernel), List.mem_of_getElem? (i := 703) (by decide +kernel), List.mem_of_getElem? (i := 704) (by decide +kernel)⟩
theorem lw_p13 : lw_okq (⟨"WishToChip$Times", "takeLatest", "(II)V"⟩, 4) := ⟨⟨by decide +kernel, by decide +kernel⟩, List.mem_of_getElem? (i := 215) (by decide +kernel), List.mem_of_getElem? (i := 710) (by decide +kernel), List.mem_of_getElem? (i := 711) (by decide +kernel)⟩
theorem lw_p14 : lw_okq (⟨"WishToChip$Floor", "placesOf", "(I)I"⟩, 9) := ⟨⟨by decide +kernel, by decide +kernel⟩, List.mem_of_getElem? (i := 235) (by decide +kernel), List.mem_of_getElem? (i := 750) (by decide +kernel), List.mem_of_getElem? (i := 751) (by decide +kernel)⟩
theorem lw_p15 : lw_okq (⟨"WishToChip$Floor", "wireToCome", "()I"⟩, 9) := ⟨⟨by decide +kernel, by decide +kernel⟩, List.mem_of_getElem? (i := 235) (by decide +kernel), List.mem_of_getElem? (i := 808) (by decide +kernel), List.mem_of_getElem? (i := 809) (by decide +kernel)⟩
def lw_privs_1 : List (MethodName × Nat) := [(⟨"WishToChip$Reader", "takes", "(I)Z"⟩, 5), (⟨"WishToChip$Reader", "takesLetter", "(I)Z"⟩, 5), (⟨"WishToChip$Reader", "takesEnd", "()Z"⟩, 5), (⟨"WishToChip$Reader", "takesToken", "(I)Z"⟩, 5), (⟨"WishToChip$View", "orderNext", "(I)V"⟩, 8), (⟨"WishToChip$Steps", "make", "(LWishToChip$View;I)I"⟩, 4), (⟨"WishToChip$Lanes", "run", "(LWishToChip$View;)V"⟩, 5), (⟨"WishToChip$Lanes", "stuck", "(IJ)J"⟩, 5), (⟨"WishToChip$Lanes", "make", "(LWishToChip$View;I)J"⟩, 5), (⟨"WishToChip$Lanes", "statesShown", "()I"⟩, 5), (⟨"WishToChip$Covers", "coverToken", "(II[I)V"⟩, 2), (⟨"WishToChip$Covers", "put", "(III)V"⟩, 2), (⟨"WishToChip$Times", "findLine", "(LWishToChip$View;ILWishToChip$Gates;I)V"⟩, 4), (⟨"WishToChip$Times", "takeLatest", "(II)V"⟩, 4), (⟨"WishToChip$Floor", "placesOf", "(I)I"⟩, 9), (⟨"WishToChip$Floor", "wireToCome", "()I"⟩, 9)]
theorem lw_r1 : ∀ q ∈ lw_privs_1, lw_okq q := List.forall_mem_cons.mpr ⟨lw_p0, List.forall_mem_cons.mpr ⟨lw_p1, List.forall_mem_cons.mpr ⟨lw_p2, List.forall_mem_cons.mpr ⟨lw_p3, List.forall_mem_cons.mpr ⟨lw_p4, List.forall_mem_cons.mpr ⟨lw_p5, List.forall_mem_cons.mpr ⟨lw_p6, List.forall_mem_cons.mpr ⟨lw_p7, List.forall_mem_cons.mpr ⟨lw_p8, List.forall_mem_cons.mpr ⟨lw_p9, List.forall_mem_cons.mpr ⟨lw_p10, List.forall_mem_cons.mpr ⟨lw_p11, List.forall_mem_cons.mpr ⟨lw_p12, List.forall_mem_cons.mpr ⟨lw_p13, List.forall_mem_cons.mpr ⟨lw_p14, List.forall_mem_cons.mpr ⟨lw_p15, fun _ h => absurd h List.not_mem_nil⟩⟩⟩⟩⟩⟩⟩⟩⟩⟩⟩⟩⟩⟩⟩⟩
theorem lw_p16 : lw_okq (⟨"WishToChip$Floor", "turnNetPlaces", "(II)V"⟩, 9) := ⟨⟨by decide +kernel, by decide +kernel⟩, List.mem_of_getElem? (i := 235) (by decide +kernel), List.mem_of_getElem? (i := 819) (by decide +kernel), List.mem_of_getElem? (i := 820) (by decide +kernel)⟩
theorem lw_p17 : lw_okq (⟨"WishToChip$Floor", "swapBest", "()Z"⟩, 9) := ⟨⟨by decide +kernel, by decide +kernel⟩, List.mem_of_getElem? (i := 235) (by decide +kernel), List.mem_of_getElem? (i := 831) (by decide +kernel), List.mem_of_getElem? (i := 832) (by decide +kernel)⟩
theorem lw_p18 : lw_okq (⟨"WishToChip$Floor", "exchange", "(II)V"⟩, 9) := ⟨⟨by decide +kernel, by decide +kernel⟩, List.mem_of_getElem? (i := 235) (by decide +kernel), List.mem_of_getElem? (i := 836) (by decide +kernel), List.mem_of_getElem? (i := 837) (by decide +kernel)⟩
theorem lw_p19 : lw_okq (⟨"WishToChip$Trials", "lanesFailing", "(I)J"⟩, 6) := ⟨⟨by decide +kernel, by decide +kernel⟩, List.mem_of_getElem? (i := 273) (by decide +kernel), List.mem_of_getElem? (i := 893) (by decide +kernel), List.mem_of_getElem? (i := 894) (by decide +kernel)⟩
theorem lw_p20 : lw_okq (⟨"WishToChip$Trials", "foundBy", "(I)J"⟩, 6) := ⟨⟨by decide +kernel, by decide +kernel⟩, List.mem_of_getElem? (i := 273) (by decide +kernel), List.mem_of_getElem? (i := 903) (by decide +kernel), List.mem_of_getElem? (i := 904) (by decide +kernel)⟩
theorem lw_p21 : lw_okq (⟨"WishToChip$Trials", "greatestAlike", "(J)I"⟩, 6) := ⟨⟨by decide +kernel, by decide +kernel⟩, List.mem_of_getElem? (i := 273) (by decide +kernel), List.mem_of_getElem? (i := 933) (by decide +kernel), List.mem_of_getElem? (i := 934) (by decide +kernel)⟩
theorem lw_p22 : lw_okq (⟨"WishToChipModel", "read", "(I)I"⟩, 40) := ⟨⟨by decide +kernel, by decide +kernel⟩, List.mem_of_getElem? (i := 951) (by decide +kernel), List.mem_of_getElem? (i := 1095) (by decide +kernel), List.mem_of_getElem? (i := 1096) (by decide +kernel)⟩
theorem lw_p23 : lw_okq (⟨"WishToChipModel", "ringOf", "(I)I"⟩, 40) := ⟨⟨by decide +kernel, by decide +kernel⟩, List.mem_of_getElem? (i := 951) (by decide +kernel), List.mem_of_getElem? (i := 1106) (by decide +kernel), List.mem_of_getElem? (i := 1107) (by decide +kernel)⟩
theorem lw_p24 : lw_okq (⟨"WishToChipModel", "leans", "(II)I"⟩, 40) := ⟨⟨by decide +kernel, by decide +kernel⟩, List.mem_of_getElem? (i := 951) (by decide +kernel), List.mem_of_getElem? (i := 1110) (by decide +kernel), List.mem_of_getElem? (i := 1111) (by decide +kernel)⟩
theorem lw_p25 : lw_okq (⟨"WishToChipModel", "namesIn", "(II)I"⟩, 40) := ⟨⟨by decide +kernel, by decide +kernel⟩, List.mem_of_getElem? (i := 951) (by decide +kernel), List.mem_of_getElem? (i := 1114) (by decide +kernel), List.mem_of_getElem? (i := 1115) (by decide +kernel)⟩
theorem lw_p26 : lw_okq (⟨"WishToChipModel", "lackOf", "(I)I"⟩, 40) := ⟨⟨by decide +kernel, by decide +kernel⟩, List.mem_of_getElem? (i := 951) (by decide +kernel), List.mem_of_getElem? (i := 1118) (by decide +kernel), List.mem_of_getElem? (i := 1119) (by decide +kernel)⟩
theorem lw_p27 : lw_okq (⟨"WishToChipModel", "reads", "(I)Z"⟩, 40) := ⟨⟨by decide +kernel, by decide +kernel⟩, List.mem_of_getElem? (i := 951) (by decide +kernel), List.mem_of_getElem? (i := 1126) (by decide +kernel), List.mem_of_getElem? (i := 1127) (by decide +kernel)⟩
theorem lw_p28 : lw_okq (⟨"WishToChipModel", "layOrder", "(I)V"⟩, 40) := ⟨⟨by decide +kernel, by decide +kernel⟩, List.mem_of_getElem? (i := 951) (by decide +kernel), List.mem_of_getElem? (i := 1130) (by decide +kernel), List.mem_of_getElem? (i := 1131) (by decide +kernel)⟩
theorem lw_p29 : lw_okq (⟨"WishToChipModel", "copyView", "(II)V"⟩, 40) := ⟨⟨by decide +kernel, by decide +kernel⟩, List.mem_of_getElem? (i := 951) (by decide +kernel), List.mem_of_getElem? (i := 1134) (by decide +kernel), List.mem_of_getElem? (i := 1135) (by decide +kernel)⟩
theorem lw_p30 : lw_okq (⟨"WishToChipModel", "has", "(II)Z"⟩, 40) := ⟨⟨by decide +kernel, by decide +kernel⟩, List.mem_of_getElem? (i := 951) (by decide +kernel), List.mem_of_getElem? (i := 1142) (by decide +kernel), List.mem_of_getElem? (i := 1143) (by decide +kernel)⟩
theorem lw_p31 : lw_okq (⟨"WishToChipModel", "uses", "(II)I"⟩, 40) := ⟨⟨by decide +kernel, by decide +kernel⟩, List.mem_of_getElem? (i := 951) (by decide +kernel), List.mem_of_getElem? (i := 1146) (by decide +kernel), List.mem_of_getElem? (i := 1147) (by decide +kernel)⟩
def lw_privs_2 : List (MethodName × Nat) := [(⟨"WishToChip$Floor", "turnNetPlaces", "(II)V"⟩, 9), (⟨"WishToChip$Floor", "swapBest", "()Z"⟩, 9), (⟨"WishToChip$Floor", "exchange", "(II)V"⟩, 9), (⟨"WishToChip$Trials", "lanesFailing", "(I)J"⟩, 6), (⟨"WishToChip$Trials", "foundBy", "(I)J"⟩, 6), (⟨"WishToChip$Trials", "greatestAlike", "(J)I"⟩, 6), (⟨"WishToChipModel", "read", "(I)I"⟩, 40), (⟨"WishToChipModel", "ringOf", "(I)I"⟩, 40), (⟨"WishToChipModel", "leans", "(II)I"⟩, 40), (⟨"WishToChipModel", "namesIn", "(II)I"⟩, 40), (⟨"WishToChipModel", "lackOf", "(I)I"⟩, 40), (⟨"WishToChipModel", "reads", "(I)Z"⟩, 40), (⟨"WishToChipModel", "layOrder", "(I)V"⟩, 40), (⟨"WishToChipModel", "copyView", "(II)V"⟩, 40), (⟨"WishToChipModel", "has", "(II)Z"⟩, 40), (⟨"WishToChipModel", "uses", "(II)I"⟩, 40)]
theorem lw_r2 : ∀ q ∈ lw_privs_2, lw_okq q := List.forall_mem_cons.mpr ⟨lw_p16, List.forall_mem_cons.mpr ⟨lw_p17, List.forall_mem_cons.mpr ⟨lw_p18, List.forall_mem_cons.mpr ⟨lw_p19, List.forall_mem_cons.mpr ⟨lw_p20, List.forall_mem_cons.mpr ⟨lw_p21, List.forall_mem_cons.mpr ⟨lw_p22, List.forall_mem_cons.mpr ⟨lw_p23, List.forall_mem_cons.mpr ⟨lw_p24, List.forall_mem_cons.mpr ⟨lw_p25, List.forall_mem_cons.mpr ⟨lw_p26, List.forall_mem_cons.mpr ⟨lw_p27, List.forall_mem_cons.mpr ⟨lw_p28, List.forall_mem_cons.mpr ⟨lw_p29, List.forall_mem_cons.mpr ⟨lw_p30, List.forall_mem_cons.mpr ⟨lw_p31, fun _ h => absurd h List.not_mem_nil⟩⟩⟩⟩⟩⟩⟩⟩⟩⟩⟩⟩⟩⟩⟩⟩
theorem lw_p32 : lw_okq (⟨"WishToChipModel", "stateNow", "()I"⟩, 40) := ⟨⟨by decide +kernel, by decide +kernel⟩, List.mem_of_getElem? (i := 951) (by decide +kernel), List.mem_of_getElem? (i := 1154) (by decide +kernel), List.mem_of_getElem? (i := 1155) (by decide +kernel)⟩
theorem lw_p33 : lw_okq (⟨"WishToChipModel", "layWires", "(II)V"⟩, 40) := ⟨⟨by decide +kernel, by decide +kernel⟩, List.mem_of_getElem? (i := 951) (by decide +kernel), List.mem_of_getElem? (i := 1162) (by decide +kernel), List.mem_of_getElem? (i := 1163) (by decide +kernel)⟩
theorem lw_p34 : lw_okq (⟨"WishToChipModel", "made", "(II)I"⟩, 40) := ⟨⟨by decide +kernel, by decide +kernel⟩, List.mem_of_getElem? (i := 951) (by decide +kernel), List.mem_of_getElem? (i := 1166) (by decide +kernel), List.mem_of_getElem? (i := 1167) (by decide +kernel)⟩
theorem lw_p35 : lw_okq (⟨"WishToChipModel", "used", "(I)I"⟩, 40) := ⟨⟨by decide +kernel, by decide +kernel⟩, List.mem_of_getElem? (i := 951) (by decide +kernel), List.mem_of_getElem? (i := 1170) (by decide +kernel), List.mem_of_getElem? (i := 1171) (by decide +kernel)⟩
theorem lw_p36 : lw_okq (⟨"WishToChipModel", "told", "(II)I"⟩, 40) := ⟨⟨by decide +kernel, by decide +kernel⟩, List.mem_of_getElem? (i := 951) (by decide +kernel), List.mem_of_getElem? (i := 1180) (by decide +kernel), List.mem_of_getElem? (i := 1181) (by decide +kernel)⟩
theorem lw_p37 : lw_okq (⟨"WishToChipModel", "layRow", "(II)V"⟩, 40) := ⟨⟨by decide +kernel, by decide +kernel⟩, List.mem_of_getElem? (i := 951) (by decide +kernel), List.mem_of_getElem? (i := 1192) (by decide +kernel), List.mem_of_getElem? (i := 1193) (by decide +kernel)⟩
theorem lw_p38 : lw_okq (⟨"WishToChipModel", "coverOf", "(II)I"⟩, 40) := ⟨⟨by decide +kernel, by decide +kernel⟩, List.mem_of_getElem? (i := 951) (by decide +kernel), List.mem_of_getElem? (i := 1229) (by decide +kernel), List.mem_of_getElem? (i := 1230) (by decide +kernel)⟩
theorem lw_p39 : lw_okq (⟨"WishToChipModel", "cost", "(II)V"⟩, 40) := ⟨⟨by decide +kernel, by decide +kernel⟩, List.mem_of_getElem? (i := 951) (by decide +kernel), List.mem_of_getElem? (i := 1233) (by decide +kernel), List.mem_of_getElem? (i := 1234) (by decide +kernel)⟩
theorem lw_p40 : lw_okq (⟨"WishToChipModel", "layArrivals", "(II)V"⟩, 40) := ⟨⟨by decide +kernel, by decide +kernel⟩, List.mem_of_getElem? (i := 951) (by decide +kernel), List.mem_of_getElem? (i := 1244) (by decide +kernel), List.mem_of_getElem? (i := 1245) (by decide +kernel)⟩
theorem lw_p41 : lw_okq (⟨"WishToChipModel", "arrive", "(III)V"⟩, 40) := ⟨⟨by decide +kernel, by decide +kernel⟩, List.mem_of_getElem? (i := 951) (by decide +kernel), List.mem_of_getElem? (i := 1248) (by decide +kernel), List.mem_of_getElem? (i := 1249) (by decide +kernel)⟩
theorem lw_p42 : lw_okq (⟨"WishToChipModel", "blockAt", "(I)I"⟩, 40) := ⟨⟨by decide +kernel, by decide +kernel⟩, List.mem_of_getElem? (i := 951) (by decide +kernel), List.mem_of_getElem? (i := 1263) (by decide +kernel), List.mem_of_getElem? (i := 1264) (by decide +kernel)⟩
theorem lw_p43 : lw_okq (⟨"WishToChipModel", "tryNow", "()V"⟩, 40) := ⟨⟨by decide +kernel, by decide +kernel⟩, List.mem_of_getElem? (i := 951) (by decide +kernel), List.mem_of_getElem? (i := 1279) (by decide +kernel), List.mem_of_getElem? (i := 1280) (by decide +kernel)⟩
theorem lw_p44 : lw_okq (⟨"WishToChipModel", "allWire", "()I"⟩, 40) := ⟨⟨by decide +kernel, by decide +kernel⟩, List.mem_of_getElem? (i := 951) (by decide +kernel), List.mem_of_getElem? (i := 1283) (by decide +kernel), List.mem_of_getElem? (i := 1284) (by decide +kernel)⟩
theorem lw_p45 : lw_okq (⟨"WishToChipModel", "wireOf", "(I)I"⟩, 40) := ⟨⟨by decide +kernel, by decide +kernel⟩, List.mem_of_getElem? (i := 951) (by decide +kernel), List.mem_of_getElem? (i := 1287) (by decide +kernel), List.mem_of_getElem? (i := 1288) (by decide +kernel)⟩
theorem lw_p46 : lw_okq (⟨"WishToChipModel", "layLeast", "()I"⟩, 40) := ⟨⟨by decide +kernel, by decide +kernel⟩, List.mem_of_getElem? (i := 951) (by decide +kernel), List.mem_of_getElem? (i := 1295) (by decide +kernel), List.mem_of_getElem? (i := 1296) (by decide +kernel)⟩
theorem lw_p47 : lw_okq (⟨"WishToChipModel", "isFree", "(II)Z"⟩, 40) := ⟨⟨by decide +kernel, by decide +kernel⟩, List.mem_of_getElem? (i := 951) (by decide +kernel), List.mem_of_getElem? (i := 1300) (by decide +kernel), List.mem_of_getElem? (i := 1301) (by decide +kernel)⟩
def lw_privs_3 : List (MethodName × Nat) := [(⟨"WishToChipModel", "stateNow", "()I"⟩, 40), (⟨"WishToChipModel", "layWires", "(II)V"⟩, 40), (⟨"WishToChipModel", "made", "(II)I"⟩, 40), (⟨"WishToChipModel", "used", "(I)I"⟩, 40), (⟨"WishToChipModel", "told", "(II)I"⟩, 40), (⟨"WishToChipModel", "layRow", "(II)V"⟩, 40), (⟨"WishToChipModel", "coverOf", "(II)I"⟩, 40), (⟨"WishToChipModel", "cost", "(II)V"⟩, 40), (⟨"WishToChipModel", "layArrivals", "(II)V"⟩, 40), (⟨"WishToChipModel", "arrive", "(III)V"⟩, 40), (⟨"WishToChipModel", "blockAt", "(I)I"⟩, 40), (⟨"WishToChipModel", "tryNow", "()V"⟩, 40), (⟨"WishToChipModel", "allWire", "()I"⟩, 40), (⟨"WishToChipModel", "wireOf", "(I)I"⟩, 40), (⟨"WishToChipModel", "layLeast", "()I"⟩, 40), (⟨"WishToChipModel", "isFree", "(II)Z"⟩, 40)]
theorem lw_r3 : ∀ q ∈ lw_privs_3, lw_okq q := List.forall_mem_cons.mpr ⟨lw_p32, List.forall_mem_cons.mpr ⟨lw_p33, List.forall_mem_cons.mpr ⟨lw_p34, List.forall_mem_cons.mpr ⟨lw_p35, List.forall_mem_cons.mpr ⟨lw_p36, List.forall_mem_cons.mpr ⟨lw_p37, List.forall_mem_cons.mpr ⟨lw_p38, List.forall_mem_cons.mpr ⟨lw_p39, List.forall_mem_cons.mpr ⟨lw_p40, List.forall_mem_cons.mpr ⟨lw_p41, List.forall_mem_cons.mpr ⟨lw_p42, List.forall_mem_cons.mpr ⟨lw_p43, List.forall_mem_cons.mpr ⟨lw_p44, List.forall_mem_cons.mpr ⟨lw_p45, List.forall_mem_cons.mpr ⟨lw_p46, List.forall_mem_cons.mpr ⟨lw_p47, fun _ h => absurd h List.not_mem_nil⟩⟩⟩⟩⟩⟩⟩⟩⟩⟩⟩⟩⟩⟩⟩⟩
theorem lw_p48 : lw_okq (⟨"WishToChipModel", "change", "(II)V"⟩, 40) := ⟨⟨by decide +kernel, by decide +kernel⟩, List.mem_of_getElem? (i := 951) (by decide +kernel), List.mem_of_getElem? (i := 1308) (by decide +kernel), List.mem_of_getElem? (i := 1309) (by decide +kernel)⟩
theorem lw_p49 : lw_okq (⟨"WishToChipModel", "failsOf", "(II)I"⟩, 40) := ⟨⟨by decide +kernel, by decide +kernel⟩, List.mem_of_getElem? (i := 951) (by decide +kernel), List.mem_of_getElem? (i := 1321) (by decide +kernel), List.mem_of_getElem? (i := 1322) (by decide +kernel)⟩
theorem lw_p50 : lw_okq (⟨"WishToChipModel", "endsOf", "(I)I"⟩, 40) := ⟨⟨by decide +kernel, by decide +kernel⟩, List.mem_of_getElem? (i := 951) (by decide +kernel), List.mem_of_getElem? (i := 1325) (by decide +kernel), List.mem_of_getElem? (i := 1326) (by decide +kernel)⟩
theorem lw_p51 : lw_okq (⟨"WishToChipModel", "foundBy", "(I)J"⟩, 40) := ⟨⟨by decide +kernel, by decide +kernel⟩, List.mem_of_getElem? (i := 951) (by decide +kernel), List.mem_of_getElem? (i := 1345) (by decide +kernel), List.mem_of_getElem? (i := 1346) (by decide +kernel)⟩
theorem lw_p52 : lw_okq (⟨"WishToChipModel", "isSo", "(I)Z"⟩, 40) := ⟨⟨by decide +kernel, by decide +kernel⟩, List.mem_of_getElem? (i := 951) (by decide +kernel), List.mem_of_getElem? (i := 1357) (by decide +kernel), List.mem_of_getElem? (i := 1358) (by decide +kernel)⟩
theorem lw_p53 : lw_okq (⟨"WishToChipModel", "failsAt", "(II)I"⟩, 40) := ⟨⟨by decide +kernel, by decide +kernel⟩, List.mem_of_getElem? (i := 951) (by decide +kernel), List.mem_of_getElem? (i := 1361) (by decide +kernel), List.mem_of_getElem? (i := 1362) (by decide +kernel)⟩
theorem lw_p54 : lw_okq (⟨"WishToChipModel", "copyRest", "(II)V"⟩, 40) := ⟨⟨by decide +kernel, by decide +kernel⟩, List.mem_of_getElem? (i := 951) (by decide +kernel), List.mem_of_getElem? (i := 1373) (by decide +kernel), List.mem_of_getElem? (i := 1374) (by decide +kernel)⟩
def lw_privs_4 : List (MethodName × Nat) := [(⟨"WishToChipModel", "change", "(II)V"⟩, 40), (⟨"WishToChipModel", "failsOf", "(II)I"⟩, 40), (⟨"WishToChipModel", "endsOf", "(I)I"⟩, 40), (⟨"WishToChipModel", "foundBy", "(I)J"⟩, 40), (⟨"WishToChipModel", "isSo", "(I)Z"⟩, 40), (⟨"WishToChipModel", "failsAt", "(II)I"⟩, 40), (⟨"WishToChipModel", "copyRest", "(II)V"⟩, 40)]
theorem lw_r4 : ∀ q ∈ lw_privs_4, lw_okq q := List.forall_mem_cons.mpr ⟨lw_p48, List.forall_mem_cons.mpr ⟨lw_p49, List.forall_mem_cons.mpr ⟨lw_p50, List.forall_mem_cons.mpr ⟨lw_p51, List.forall_mem_cons.mpr ⟨lw_p52, List.forall_mem_cons.mpr ⟨lw_p53, List.forall_mem_cons.mpr ⟨lw_p54, fun _ h => absurd h List.not_mem_nil⟩⟩⟩⟩⟩⟩⟩
def lw_privs : List (MethodName × Nat) := lw_privs_1 ++ (lw_privs_2 ++ (lw_privs_3 ++ (lw_privs_4)))
def lw_tbl : List Cond := k2_sels lw_privs ++ tables_1
theorem lw_privs_ok : ∀ q ∈ lw_privs, lw_okq q := by
  show ∀ q ∈ lw_privs_1 ++ (lw_privs_2 ++ (lw_privs_3 ++ (lw_privs_4))), lw_okq q
  exact List.forall_mem_append.mpr ⟨lw_r1, List.forall_mem_append.mpr ⟨lw_r2, List.forall_mem_append.mpr ⟨lw_r3, lw_r4⟩⟩⟩
def RX0 : String := "WishToChip$Covers"
def TX0 : u_T := fun k => match k with
  | 0 => ("WishToChip$Covers", "plain", "[I", true)
  | _ => ("WishToChip$Covers", "turned", "[I", true)
def tyX0 : Nat → FieldType := fun k => match k with
  | 0 => .array .int
  | _ => .array .int
theorem nmX0 : ∀ a, a < 2 → ∀ b, b < 2 → a ≠ b → (TX0 a).2.1 ≠ (TX0 b).2.1 := by decide +kernel
theorem tyX0_ok : ∀ k, k < 2 → parseFieldDescriptor (TX0 k).2.2.1 = some (tyX0 k) := by decide +kernel
abbrev cX0_init : ByteArray := prog_2_method_1_code
def yX0_init : MethodName := ⟨RX0, "<init>", "()V"⟩
abbrev cX0_ofAll : ByteArray := prog_2_method_2_code
def yX0_ofAll : MethodName := ⟨RX0, "ofAll", "(LWishToChip$View;[I)I"⟩
abbrev cX0_ofLine : ByteArray := prog_2_method_3_code
def yX0_ofLine : MethodName := ⟨RX0, "ofLine", "(LWishToChip$View;I[I)I"⟩
abbrev cX0_coverToken : ByteArray := prog_2_method_4_code
def yX0_coverToken : MethodName := ⟨RX0, "coverToken", "(II[I)V"⟩
abbrev cX0_put : ByteArray := prog_2_method_5_code
def yX0_put : MethodName := ⟨RX0, "put", "(III)V"⟩
def RX1 : String := "WishToChip$Floor"
def TX1 : u_T := fun k => match k with
  | 0 => ("WishToChip$Floor", "places", "[I", true)
  | 1 => ("WishToChip$Floor", "netBlocks", "[I", true)
  | 2 => ("WishToChip$Floor", "blocks", "I", false)
  | 3 => ("WishToChip$Floor", "nets", "I", false)
  | 4 => ("WishToChip$Floor", "leastPlaces", "[I", true)
  | 5 => ("WishToChip$Floor", "leastWire", "I", false)
  | 6 => ("WishToChip$Floor", "leastKnown", "Z", false)
  | 7 => ("WishToChip$Floor", "tried", "[I", true)
  | _ => ("WishToChip$Floor", "netPlaces", "[I", true)
def tyX1 : Nat → FieldType := fun k => match k with
  | 0 => .array .int
  | 1 => .array .int
  | 2 => .int
  | 3 => .int
  | 4 => .array .int
  | 5 => .int
  | 6 => .boolean
  | 7 => .array .int
  | _ => .array .int
theorem nmX1 : ∀ a, a < 9 → ∀ b, b < 9 → a ≠ b → (TX1 a).2.1 ≠ (TX1 b).2.1 := by decide +kernel
theorem tyX1_ok : ∀ k, k < 9 → parseFieldDescriptor (TX1 k).2.2.1 = some (tyX1 k) := by decide +kernel
abbrev cX1_init : ByteArray := prog_3_method_1_code
def yX1_init : MethodName := ⟨RX1, "<init>", "()V"⟩
abbrev cX1_addBlock : ByteArray := prog_3_method_2_code
def yX1_addBlock : MethodName := ⟨RX1, "addBlock", "()I"⟩
abbrev cX1_areBlocks : ByteArray := prog_3_method_3_code
def yX1_areBlocks : MethodName := ⟨RX1, "areBlocks", "(I)Z"⟩
abbrev cX1_addNet : ByteArray := prog_3_method_4_code
def yX1_addNet : MethodName := ⟨RX1, "addNet", "(I)I"⟩
abbrev cX1_move : ByteArray := prog_3_method_5_code
def yX1_move : MethodName := ⟨RX1, "move", "(II)I"⟩
abbrev cX1_placesOf : ByteArray := prog_3_method_6_code
def yX1_placesOf : MethodName := ⟨RX1, "placesOf", "(I)I"⟩
abbrev cX1_wireOf : ByteArray := prog_3_method_7_code
def yX1_wireOf : MethodName := ⟨RX1, "wireOf", "(I)I"⟩
abbrev cX1_wireOfAll : ByteArray := prog_3_method_8_code
def yX1_wireOfAll : MethodName := ⟨RX1, "wireOfAll", "()I"⟩
abbrev cX1_span : ByteArray := prog_3_method_9_code
def yX1_span : MethodName := ⟨RX1, "span", "(I)I"⟩
abbrev cX1_findLeast : ByteArray := prog_3_method_10_code
def yX1_findLeast : MethodName := ⟨RX1, "findLeast", "()V"⟩
abbrev cX1_layFrom : ByteArray := prog_3_method_11_code
def yX1_layFrom : MethodName := ⟨RX1, "layFrom", "(LWishToChip$Floor;II)V"⟩
abbrev cX1_turnNetPlaces : ByteArray := prog_3_method_12_code
def yX1_turnNetPlaces : MethodName := ⟨RX1, "turnNetPlaces", "(II)V"⟩
abbrev cX1_wireToCome : ByteArray := prog_3_method_13_code
def yX1_wireToCome : MethodName := ⟨RX1, "wireToCome", "()I"⟩
abbrev cX1_swapWhileItHelps : ByteArray := prog_3_method_14_code
def yX1_swapWhileItHelps : MethodName := ⟨RX1, "swapWhileItHelps", "()I"⟩
abbrev cX1_swapBest : ByteArray := prog_3_method_15_code
def yX1_swapBest : MethodName := ⟨RX1, "swapBest", "()Z"⟩
abbrev cX1_exchange : ByteArray := prog_3_method_16_code
def yX1_exchange : MethodName := ⟨RX1, "exchange", "(II)V"⟩
def RX2 : String := "WishToChip$Gates"
def TX2 : u_T := fun k => match k with
  | 0 => ("WishToChip$Gates", "prices", "[I", true)
  | 1 => ("WishToChip$Gates", "delays", "[I", true)
  | _ => ("WishToChip$Gates", "rules", "[I", true)
def tyX2 : Nat → FieldType := fun k => match k with
  | 0 => .array .int
  | 1 => .array .int
  | _ => .array .int
theorem nmX2 : ∀ a, a < 3 → ∀ b, b < 3 → a ≠ b → (TX2 a).2.1 ≠ (TX2 b).2.1 := by decide +kernel
theorem tyX2_ok : ∀ k, k < 3 → parseFieldDescriptor (TX2 k).2.2.1 = some (tyX2 k) := by decide +kernel
abbrev cX2_init : ByteArray := prog_4_method_1_code
def yX2_init : MethodName := ⟨RX2, "<init>", "()V"⟩
abbrev cX2_isRule : ByteArray := prog_4_method_2_code
def yX2_isRule : MethodName := ⟨RX2, "isRule", "(II)Z"⟩
abbrev cX2_changeRule : ByteArray := prog_4_method_3_code
def yX2_changeRule : MethodName := ⟨RX2, "changeRule", "(II)I"⟩
abbrev cX2_load : ByteArray := prog_4_method_4_code
def yX2_load : MethodName := ⟨RX2, "load", "()I"⟩
abbrev cX2_clock : ByteArray := prog_4_method_5_code
def yX2_clock : MethodName := ⟨RX2, "clock", "()I"⟩
abbrev cX2_takes : ByteArray := prog_4_method_6_code
def yX2_takes : MethodName := ⟨RX2, "takes", "(II)I"⟩
abbrev cX2_gateFor : ByteArray := prog_4_method_7_code
def yX2_gateFor : MethodName := ⟨RX2, "gateFor", "(I)I"⟩
def RX3 : String := "WishToChip$Kept"
def TX3 : u_T := fun k => match k with
  | 0 => ("WishToChip$Kept", "wish", "LWishToChip$View;", true)
  | 1 => ("WishToChip$Kept", "net", "LWishToChip$View;", true)
  | 2 => ("WishToChip$Kept", "registers", "I", false)
  | 3 => ("WishToChip$Kept", "startState", "I", false)
  | _ => ("WishToChip$Kept", "endBits", "I", false)
def tyX3 : Nat → FieldType := fun k => match k with
  | 0 => .object "WishToChip$View"
  | 1 => .object "WishToChip$View"
  | 2 => .int
  | 3 => .int
  | _ => .int
theorem nmX3 : ∀ a, a < 5 → ∀ b, b < 5 → a ≠ b → (TX3 a).2.1 ≠ (TX3 b).2.1 := by decide +kernel
theorem tyX3_ok : ∀ k, k < 5 → parseFieldDescriptor (TX3 k).2.2.1 = some (tyX3 k) := by decide +kernel
abbrev cX3_init : ByteArray := prog_5_method_1_code
def yX3_init : MethodName := ⟨RX3, "<init>", "()V"⟩
def RX4 : String := "WishToChip$Lanes"
def TX4 : u_T := fun k => match k with
  | 0 => ("WishToChip$Lanes", "used", "[J", true)
  | 1 => ("WishToChip$Lanes", "shown", "[J", true)
  | 2 => ("WishToChip$Lanes", "stuckAt0", "[J", true)
  | 3 => ("WishToChip$Lanes", "stuckAt1", "[J", true)
  | _ => ("WishToChip$Lanes", "slots", "[J", true)
def tyX4 : Nat → FieldType := fun k => match k with
  | 0 => .array .long
  | 1 => .array .long
  | 2 => .array .long
  | 3 => .array .long
  | _ => .array .long
theorem nmX4 : ∀ a, a < 5 → ∀ b, b < 5 → a ≠ b → (TX4 a).2.1 ≠ (TX4 b).2.1 := by decide +kernel
theorem tyX4_ok : ∀ k, k < 5 → parseFieldDescriptor (TX4 k).2.2.1 = some (tyX4 k) := by decide +kernel
abbrev cX4_init : ByteArray := prog_6_method_1_code
def yX4_init : MethodName := ⟨RX4, "<init>", "()V"⟩
abbrev cX4_stickOne : ByteArray := prog_6_method_2_code
def yX4_stickOne : MethodName := ⟨RX4, "stickOne", "(II)V"⟩
abbrev cX4_stickEachInItsLane : ByteArray := prog_6_method_3_code
def yX4_stickEachInItsLane : MethodName := ⟨RX4, "stickEachInItsLane", "()V"⟩
abbrev cX4_runState : ByteArray := prog_6_method_4_code
def yX4_runState : MethodName := ⟨RX4, "runState", "(LWishToChip$View;I)V"⟩
abbrev cX4_runRow : ByteArray := prog_6_method_5_code
def yX4_runRow : MethodName := ⟨RX4, "runRow", "(LWishToChip$View;I)V"⟩
abbrev cX4_inAllLanes : ByteArray := prog_6_method_6_code
def yX4_inAllLanes : MethodName := ⟨RX4, "inAllLanes", "(I)J"⟩
abbrev cX4_run : ByteArray := prog_6_method_7_code
def yX4_run : MethodName := ⟨RX4, "run", "(LWishToChip$View;)V"⟩
abbrev cX4_stuck : ByteArray := prog_6_method_8_code
def yX4_stuck : MethodName := ⟨RX4, "stuck", "(IJ)J"⟩
abbrev cX4_make : ByteArray := prog_6_method_9_code
def yX4_make : MethodName := ⟨RX4, "make", "(LWishToChip$View;I)J"⟩
abbrev cX4_gateOf : ByteArray := prog_6_method_10_code
def yX4_gateOf : MethodName := ⟨RX4, "gateOf", "(IJJJ)J"⟩
abbrev cX4_unlike : ByteArray := prog_6_method_11_code
def yX4_unlike : MethodName := ⟨RX4, "unlike", "(LWishToChip$Lanes;I)J"⟩
abbrev cX4_statesFrom : ByteArray := prog_6_method_12_code
def yX4_statesFrom : MethodName := ⟨RX4, "statesFrom", "(LWishToChip$View;I)I"⟩
abbrev cX4_statesShown : ByteArray := prog_6_method_13_code
def yX4_statesShown : MethodName := ⟨RX4, "statesShown", "()I"⟩
def RX5 : String := "WishToChip$Reader"
def TX5 : u_T := fun k => match k with
  | 0 => ("WishToChip$Reader", "draft", "LWishToChip$View;", true)
  | 1 => ("WishToChip$Reader", "awaited", "I", false)
  | 2 => ("WishToChip$Reader", "name", "I", false)
  | 3 => ("WishToChip$Reader", "size", "I", false)
  | _ => ("WishToChip$Reader", "values", "I", false)
def tyX5 : Nat → FieldType := fun k => match k with
  | 0 => .object "WishToChip$View"
  | 1 => .int
  | 2 => .int
  | 3 => .int
  | _ => .int
theorem nmX5 : ∀ a, a < 5 → ∀ b, b < 5 → a ≠ b → (TX5 a).2.1 ≠ (TX5 b).2.1 := by decide +kernel
theorem tyX5_ok : ∀ k, k < 5 → parseFieldDescriptor (TX5 k).2.2.1 = some (tyX5 k) := by decide +kernel
abbrev cX5_init : ByteArray := prog_7_method_1_code
def yX5_init : MethodName := ⟨RX5, "<init>", "()V"⟩
abbrev cX5_read : ByteArray := prog_7_method_2_code
def yX5_read : MethodName := ⟨RX5, "read", "(LWishToChip$Text;)I"⟩
abbrev cX5_readsSound : ByteArray := prog_7_method_3_code
def yX5_readsSound : MethodName := ⟨RX5, "readsSound", "(LWishToChip$Text;)Z"⟩
abbrev cX5_takes : ByteArray := prog_7_method_4_code
def yX5_takes : MethodName := ⟨RX5, "takes", "(I)Z"⟩
abbrev cX5_takesLetter : ByteArray := prog_7_method_5_code
def yX5_takesLetter : MethodName := ⟨RX5, "takesLetter", "(I)Z"⟩
abbrev cX5_takesEnd : ByteArray := prog_7_method_6_code
def yX5_takesEnd : MethodName := ⟨RX5, "takesEnd", "()Z"⟩
abbrev cX5_takesToken : ByteArray := prog_7_method_7_code
def yX5_takesToken : MethodName := ⟨RX5, "takesToken", "(I)Z"⟩
abbrev cX5_valuesTaken : ByteArray := prog_7_method_8_code
def yX5_valuesTaken : MethodName := ⟨RX5, "valuesTaken", "(I)I"⟩
abbrev cX5_kindOfSign : ByteArray := prog_7_method_9_code
def yX5_kindOfSign : MethodName := ⟨RX5, "kindOfSign", "(I)I"⟩
def RX6 : String := "WishToChip$Steps"
def TX6 : u_T := fun k => match k with
  | 0 => ("WishToChip$Steps", "last", "[I", true)
  | 1 => ("WishToChip$Steps", "slots", "[I", true)
  | 2 => ("WishToChip$Steps", "registers", "I", false)
  | _ => ("WishToChip$Steps", "taken", "I", false)
def tyX6 : Nat → FieldType := fun k => match k with
  | 0 => .array .int
  | 1 => .array .int
  | 2 => .int
  | _ => .int
theorem nmX6 : ∀ a, a < 4 → ∀ b, b < 4 → a ≠ b → (TX6 a).2.1 ≠ (TX6 b).2.1 := by decide +kernel
theorem tyX6_ok : ∀ k, k < 4 → parseFieldDescriptor (TX6 k).2.2.1 = some (tyX6 k) := by decide +kernel
abbrev cX6_init : ByteArray := prog_8_method_1_code
def yX6_init : MethodName := ⟨RX6, "<init>", "()V"⟩
abbrev cX6_areRegisters : ByteArray := prog_8_method_2_code
def yX6_areRegisters : MethodName := ⟨RX6, "areRegisters", "(I)Z"⟩
abbrev cX6_restart : ByteArray := prog_8_method_3_code
def yX6_restart : MethodName := ⟨RX6, "restart", "()V"⟩
abbrev cX6_take : ByteArray := prog_8_method_4_code
def yX6_take : MethodName := ⟨RX6, "take", "(LWishToChip$View;II)I"⟩
abbrev cX6_make : ByteArray := prog_8_method_5_code
def yX6_make : MethodName := ⟨RX6, "make", "(LWishToChip$View;I)I"⟩
abbrev cX6_gateOf : ByteArray := prog_8_method_6_code
def yX6_gateOf : MethodName := ⟨RX6, "gateOf", "(IIII)I"⟩
abbrev cX6_turned : ByteArray := prog_8_method_7_code
def yX6_turned : MethodName := ⟨RX6, "turned", "(I)I"⟩
abbrev cX6_both : ByteArray := prog_8_method_8_code
def yX6_both : MethodName := ⟨RX6, "both", "(II)I"⟩
abbrev cX6_chosen : ByteArray := prog_8_method_9_code
def yX6_chosen : MethodName := ⟨RX6, "chosen", "(III)I"⟩
def RX7 : String := "WishToChip$Text"
def TX7 : u_T := fun k => match k with
  | 0 => ("WishToChip$Text", "bytes", "[I", true)
  | _ => ("WishToChip$Text", "length", "I", false)
def tyX7 : Nat → FieldType := fun k => match k with
  | 0 => .array .int
  | _ => .int
theorem nmX7 : ∀ a, a < 2 → ∀ b, b < 2 → a ≠ b → (TX7 a).2.1 ≠ (TX7 b).2.1 := by decide +kernel
theorem tyX7_ok : ∀ k, k < 2 → parseFieldDescriptor (TX7 k).2.2.1 = some (tyX7 k) := by decide +kernel
abbrev cX7_init : ByteArray := prog_9_method_1_code
def yX7_init : MethodName := ⟨RX7, "<init>", "()V"⟩
abbrev cX7_append : ByteArray := prog_9_method_2_code
def yX7_append : MethodName := ⟨RX7, "append", "(IJ)I"⟩
def RX8 : String := "WishToChip$Times"
def TX8 : u_T := fun k => match k with
  | 0 => ("WishToChip$Times", "arrives", "[I", true)
  | 1 => ("WishToChip$Times", "cause", "[I", true)
  | 2 => ("WishToChip$Times", "slotArrives", "[I", true)
  | _ => ("WishToChip$Times", "slotCause", "[I", true)
def tyX8 : Nat → FieldType := fun k => match k with
  | 0 => .array .int
  | 1 => .array .int
  | 2 => .array .int
  | _ => .array .int
theorem nmX8 : ∀ a, a < 4 → ∀ b, b < 4 → a ≠ b → (TX8 a).2.1 ≠ (TX8 b).2.1 := by decide +kernel
theorem tyX8_ok : ∀ k, k < 4 → parseFieldDescriptor (TX8 k).2.2.1 = some (tyX8 k) := by decide +kernel
abbrev cX8_init : ByteArray := prog_10_method_1_code
def yX8_init : MethodName := ⟨RX8, "<init>", "()V"⟩
abbrev cX8_find : ByteArray := prog_10_method_2_code
def yX8_find : MethodName := ⟨RX8, "find", "(LWishToChip$View;LWishToChip$Gates;I)V"⟩
abbrev cX8_findLine : ByteArray := prog_10_method_3_code
def yX8_findLine : MethodName := ⟨RX8, "findLine", "(LWishToChip$View;ILWishToChip$Gates;I)V"⟩
abbrev cX8_takeLatest : ByteArray := prog_10_method_4_code
def yX8_takeLatest : MethodName := ⟨RX8, "takeLatest", "(II)V"⟩
abbrev cX8_latest : ByteArray := prog_10_method_5_code
def yX8_latest : MethodName := ⟨RX8, "latest", "(LWishToChip$View;)I"⟩
abbrev cX8_nameOnWay : ByteArray := prog_10_method_6_code
def yX8_nameOnWay : MethodName := ⟨RX8, "nameOnWay", "(II)I"⟩
def RX9 : String := "WishToChip$Trials"
def TX9 : u_T := fun k => match k with
  | 0 => ("WishToChip$Trials", "rows", "[I", true)
  | 1 => ("WishToChip$Trials", "seen", "[I", true)
  | 2 => ("WishToChip$Trials", "size", "I", false)
  | 3 => ("WishToChip$Trials", "found", "[J", true)
  | 4 => ("WishToChip$Trials", "bench", "LWishToChip$Lanes;", true)
  | _ => ("WishToChip$Trials", "failing", "[J", true)
def tyX9 : Nat → FieldType := fun k => match k with
  | 0 => .array .int
  | 1 => .array .int
  | 2 => .int
  | 3 => .array .long
  | 4 => .object "WishToChip$Lanes"
  | _ => .array .long
theorem nmX9 : ∀ a, a < 6 → ∀ b, b < 6 → a ≠ b → (TX9 a).2.1 ≠ (TX9 b).2.1 := by decide +kernel
theorem tyX9_ok : ∀ k, k < 6 → parseFieldDescriptor (TX9 k).2.2.1 = some (tyX9 k) := by decide +kernel
abbrev cX9_init : ByteArray := prog_11_method_1_code
def yX9_init : MethodName := ⟨RX9, "<init>", "()V"⟩
abbrev cX9_add : ByteArray := prog_11_method_2_code
def yX9_add : MethodName := ⟨RX9, "add", "(I)I"⟩
abbrev cX9_make : ByteArray := prog_11_method_3_code
def yX9_make : MethodName := ⟨RX9, "make", "(LWishToChip$View;II)V"⟩
abbrev cX9_failsOf : ByteArray := prog_11_method_4_code
def yX9_failsOf : MethodName := ⟨RX9, "failsOf", "(I)I"⟩
abbrev cX9_lanesFailing : ByteArray := prog_11_method_5_code
def yX9_lanesFailing : MethodName := ⟨RX9, "lanesFailing", "(I)J"⟩
abbrev cX9_findAll : ByteArray := prog_11_method_6_code
def yX9_findAll : MethodName := ⟨RX9, "findAll", "(LWishToChip$View;I)J"⟩
abbrev cX9_leastSet : ByteArray := prog_11_method_7_code
def yX9_leastSet : MethodName := ⟨RX9, "leastSet", "(J)I"⟩
abbrev cX9_foundBy : ByteArray := prog_11_method_8_code
def yX9_foundBy : MethodName := ⟨RX9, "foundBy", "(I)J"⟩
abbrev cX9_thatCouldBe : ByteArray := prog_11_method_9_code
def yX9_thatCouldBe : MethodName := ⟨RX9, "thatCouldBe", "(LWishToChip$View;I)J"⟩
abbrev cX9_bestToPart : ByteArray := prog_11_method_10_code
def yX9_bestToPart : MethodName := ⟨RX9, "bestToPart", "(LWishToChip$View;I)I"⟩
abbrev cX9_greatestAlike : ByteArray := prog_11_method_11_code
def yX9_greatestAlike : MethodName := ⟨RX9, "greatestAlike", "(J)I"⟩
abbrev cX9_bitNumber : ByteArray := prog_11_method_12_code
def yX9_bitNumber : MethodName := ⟨RX9, "bitNumber", "(JI)I"⟩
def RX10 : String := "WishToChip$View"
def TX10 : u_T := fun k => match k with
  | 0 => ("WishToChip$View", "tokens", "[I", true)
  | 1 => ("WishToChip$View", "from", "[I", true)
  | 2 => ("WishToChip$View", "to", "[I", true)
  | 3 => ("WishToChip$View", "leans", "[I", true)
  | 4 => ("WishToChip$View", "uses", "[I", true)
  | 5 => ("WishToChip$View", "order", "[I", true)
  | 6 => ("WishToChip$View", "told", "I", false)
  | _ => ("WishToChip$View", "lines", "I", false)
def tyX10 : Nat → FieldType := fun k => match k with
  | 0 => .array .int
  | 1 => .array .int
  | 2 => .array .int
  | 3 => .array .int
  | 4 => .array .int
  | 5 => .array .int
  | 6 => .int
  | _ => .int
theorem nmX10 : ∀ a, a < 8 → ∀ b, b < 8 → a ≠ b → (TX10 a).2.1 ≠ (TX10 b).2.1 := by decide +kernel
theorem tyX10_ok : ∀ k, k < 8 → parseFieldDescriptor (TX10 k).2.2.1 = some (tyX10 k) := by decide +kernel
abbrev cX10_init : ByteArray := prog_12_method_1_code
def yX10_init : MethodName := ⟨RX10, "<init>", "()V"⟩
abbrev cX10_hasLine : ByteArray := prog_12_method_2_code
def yX10_hasLine : MethodName := ⟨RX10, "hasLine", "(I)Z"⟩
abbrev cX10_forget : ByteArray := prog_12_method_3_code
def yX10_forget : MethodName := ⟨RX10, "forget", "()V"⟩
abbrev cX10_become : ByteArray := prog_12_method_4_code
def yX10_become : MethodName := ⟨RX10, "become", "(LWishToChip$View;)V"⟩
abbrev cX10_leanThroughWires : ByteArray := prog_12_method_5_code
def yX10_leanThroughWires : MethodName := ⟨RX10, "leanThroughWires", "()V"⟩
abbrev cX10_leastInRing : ByteArray := prog_12_method_6_code
def yX10_leastInRing : MethodName := ⟨RX10, "leastInRing", "()I"⟩
abbrev cX10_leastLacking : ByteArray := prog_12_method_7_code
def yX10_leastLacking : MethodName := ⟨RX10, "leastLacking", "()I"⟩
abbrev cX10_putInOrder : ByteArray := prog_12_method_8_code
def yX10_putInOrder : MethodName := ⟨RX10, "putInOrder", "()V"⟩
abbrev cX10_orderNext : ByteArray := prog_12_method_9_code
def yX10_orderNext : MethodName := ⟨RX10, "orderNext", "(I)V"⟩
def RX11 : String := "WishToChip"
def TX11 : u_T := fun k => match k with
  | 0 => ("WishToChip", "texts", "[LWishToChip$Text;", true)
  | 1 => ("WishToChip", "views", "[LWishToChip$View;", true)
  | 2 => ("WishToChip", "reader", "LWishToChip$Reader;", true)
  | 3 => ("WishToChip", "steps", "LWishToChip$Steps;", true)
  | 4 => ("WishToChip", "lanes", "LWishToChip$Lanes;", true)
  | 5 => ("WishToChip", "otherLanes", "LWishToChip$Lanes;", true)
  | 6 => ("WishToChip", "stuckLanes", "LWishToChip$Lanes;", true)
  | 7 => ("WishToChip", "gates", "LWishToChip$Gates;", true)
  | 8 => ("WishToChip", "covers", "LWishToChip$Covers;", true)
  | 9 => ("WishToChip", "times", "LWishToChip$Times;", true)
  | 10 => ("WishToChip", "floor", "LWishToChip$Floor;", true)
  | 11 => ("WishToChip", "trials", "LWishToChip$Trials;", true)
  | 12 => ("WishToChip", "kept", "[LWishToChip$Kept;", true)
  | 13 => ("WishToChip", "keptCount", "I", false)
  | 14 => ("WishToChip", "startState", "I", false)
  | _ => ("WishToChip", "endBits", "I", false)
def tyX11 : Nat → FieldType := fun k => match k with
  | 0 => .array (.object "WishToChip$Text")
  | 1 => .array (.object "WishToChip$View")
  | 2 => .object "WishToChip$Reader"
  | 3 => .object "WishToChip$Steps"
  | 4 => .object "WishToChip$Lanes"
  | 5 => .object "WishToChip$Lanes"
  | 6 => .object "WishToChip$Lanes"
  | 7 => .object "WishToChip$Gates"
  | 8 => .object "WishToChip$Covers"
  | 9 => .object "WishToChip$Times"
  | 10 => .object "WishToChip$Floor"
  | 11 => .object "WishToChip$Trials"
  | 12 => .array (.object "WishToChip$Kept")
  | 13 => .int
  | 14 => .int
  | _ => .int
theorem nmX11 : ∀ a, a < 16 → ∀ b, b < 16 → a ≠ b → (TX11 a).2.1 ≠ (TX11 b).2.1 := by decide +kernel
theorem tyX11_ok : ∀ k, k < 16 → parseFieldDescriptor (TX11 k).2.2.1 = some (tyX11 k) := by decide +kernel
abbrev cX11_init : ByteArray := prog_1_method_1_code
def yX11_init : MethodName := ⟨RX11, "<init>", "()V"⟩
abbrev cX11_write : ByteArray := prog_1_method_2_code
def yX11_write : MethodName := ⟨RX11, "write", "(IIJ)I"⟩
abbrev cX11_clear : ByteArray := prog_1_method_3_code
def yX11_clear : MethodName := ⟨RX11, "clear", "(I)I"⟩
abbrev cX11_fault : ByteArray := prog_1_method_4_code
def yX11_fault : MethodName := ⟨RX11, "fault", "(I)I"⟩
abbrev cX11_ring : ByteArray := prog_1_method_5_code
def yX11_ring : MethodName := ⟨RX11, "ring", "(II)I"⟩
abbrev cX11_build : ByteArray := prog_1_method_6_code
def yX11_build : MethodName := ⟨RX11, "build", "(I)I"⟩
abbrev cX11_line : ByteArray := prog_1_method_7_code
def yX11_line : MethodName := ⟨RX11, "line", "(III)I"⟩
abbrev cX11_state : ByteArray := prog_1_method_8_code
def yX11_state : MethodName := ⟨RX11, "state", "(I)I"⟩
abbrev cX11_step : ByteArray := prog_1_method_9_code
def yX11_step : MethodName := ⟨RX11, "step", "(II)I"⟩
abbrev cX11_value : ByteArray := prog_1_method_10_code
def yX11_value : MethodName := ⟨RX11, "value", "(I)I"⟩
abbrev cX11_truth : ByteArray := prog_1_method_11_code
def yX11_truth : MethodName := ⟨RX11, "truth", "(III)I"⟩
abbrev cX11_ones : ByteArray := prog_1_method_12_code
def yX11_ones : MethodName := ⟨RX11, "ones", "(II)I"⟩
abbrev cX11_start : ByteArray := prog_1_method_13_code
def yX11_start : MethodName := ⟨RX11, "start", "(I)I"⟩
abbrev cX11_states : ByteArray := prog_1_method_14_code
def yX11_states : MethodName := ⟨RX11, "states", "()I"⟩
abbrev cX11_differ : ByteArray := prog_1_method_15_code
def yX11_differ : MethodName := ⟨RX11, "differ", "(I)I"⟩
abbrev cX11_touched : ByteArray := prog_1_method_16_code
def yX11_touched : MethodName := ⟨RX11, "touched", "()I"⟩
abbrev cX11_gate : ByteArray := prog_1_method_17_code
def yX11_gate : MethodName := ⟨RX11, "gate", "(III)I"⟩
abbrev cX11_rule : ByteArray := prog_1_method_18_code
def yX11_rule : MethodName := ⟨RX11, "rule", "(II)I"⟩
abbrev cX11_cover : ByteArray := prog_1_method_19_code
def yX11_cover : MethodName := ⟨RX11, "cover", "(II)I"⟩
abbrev cX11_arrival : ByteArray := prog_1_method_20_code
def yX11_arrival : MethodName := ⟨RX11, "arrival", "(III)I"⟩
abbrev cX11_worst : ByteArray := prog_1_method_21_code
def yX11_worst : MethodName := ⟨RX11, "worst", "(III)I"⟩
abbrev cX11_block : ByteArray := prog_1_method_22_code
def yX11_block : MethodName := ⟨RX11, "block", "()I"⟩
abbrev cX11_net : ByteArray := prog_1_method_23_code
def yX11_net : MethodName := ⟨RX11, "net", "(I)I"⟩
abbrev cX11_place : ByteArray := prog_1_method_24_code
def yX11_place : MethodName := ⟨RX11, "place", "(II)I"⟩
abbrev cX11_wire : ByteArray := prog_1_method_25_code
def yX11_wire : MethodName := ⟨RX11, "wire", "(I)I"⟩
abbrev cX11_least : ByteArray := prog_1_method_26_code
def yX11_least : MethodName := ⟨RX11, "least", "(I)I"⟩
abbrev cX11_swap : ByteArray := prog_1_method_27_code
def yX11_swap : MethodName := ⟨RX11, "swap", "()I"⟩
abbrev cX11_ends : ByteArray := prog_1_method_28_code
def yX11_ends : MethodName := ⟨RX11, "ends", "(I)I"⟩
abbrev cX11_fails : ByteArray := prog_1_method_29_code
def yX11_fails : MethodName := ⟨RX11, "fails", "(II)I"⟩
abbrev cX11_finds : ByteArray := prog_1_method_30_code
def yX11_finds : MethodName := ⟨RX11, "finds", "(I)I"⟩
abbrev cX11_trial : ByteArray := prog_1_method_31_code
def yX11_trial : MethodName := ⟨RX11, "trial", "(I)I"⟩
abbrev cX11_noTrials : ByteArray := prog_1_method_32_code
def yX11_noTrials : MethodName := ⟨RX11, "noTrials", "()I"⟩
abbrev cX11_fewest : ByteArray := prog_1_method_33_code
def yX11_fewest : MethodName := ⟨RX11, "fewest", "(I)I"⟩
abbrev cX11_see : ByteArray := prog_1_method_34_code
def yX11_see : MethodName := ⟨RX11, "see", "(II)I"⟩
abbrev cX11_could : ByteArray := prog_1_method_35_code
def yX11_could : MethodName := ⟨RX11, "could", "(I)I"⟩
abbrev cX11_parts : ByteArray := prog_1_method_36_code
def yX11_parts : MethodName := ⟨RX11, "parts", "()I"⟩
abbrev cX11_keep : ByteArray := prog_1_method_37_code
def yX11_keep : MethodName := ⟨RX11, "keep", "()I"⟩
abbrev cX11_back : ByteArray := prog_1_method_38_code
def yX11_back : MethodName := ⟨RX11, "back", "()I"⟩
abbrev cX11_count : ByteArray := prog_1_method_39_code
def yX11_count : MethodName := ⟨RX11, "count", "(I)I"⟩
abbrev cX11_isBelow : ByteArray := prog_1_method_40_code
def yX11_isBelow : MethodName := ⟨RX11, "isBelow", "(II)Z"⟩
abbrev cX11_isView : ByteArray := prog_1_method_41_code
def yX11_isView : MethodName := ⟨RX11, "isView", "(I)Z"⟩
abbrev cX11_mayHaveLine : ByteArray := prog_1_method_42_code
def yX11_mayHaveLine : MethodName := ⟨RX11, "mayHaveLine", "(I)Z"⟩
abbrev cX11_isWire : ByteArray := prog_1_method_43_code
def yX11_isWire : MethodName := ⟨RX11, "isWire", "(I)Z"⟩
abbrev cX11_hasBit : ByteArray := prog_1_method_44_code
def yX11_hasBit : MethodName := ⟨RX11, "hasBit", "(II)Z"⟩
abbrev cX11_leastRow : ByteArray := prog_1_method_45_code
def yX11_leastRow : MethodName := ⟨RX11, "leastRow", "(IJ)I"⟩
abbrev cX11_tokenOf : ByteArray := prog_1_method_46_code
def yX11_tokenOf : MethodName := ⟨RX11, "tokenOf", "(II)I"⟩
abbrev cX11_kindOf : ByteArray := prog_1_method_47_code
def yX11_kindOf : MethodName := ⟨RX11, "kindOf", "(I)I"⟩
abbrev cX11_slotOf : ByteArray := prog_1_method_48_code
def yX11_slotOf : MethodName := ⟨RX11, "slotOf", "(I)I"⟩
def RX12 : String := "WishToChipModel"
def TX12 : u_T := fun k => match k with
  | 0 => ("WishToChipModel", "text", "[I", true)
  | 1 => ("WishToChipModel", "length", "[I", true)
  | 2 => ("WishToChipModel", "lines", "[I", true)
  | 3 => ("WishToChipModel", "lineAt", "[I", true)
  | 4 => ("WishToChipModel", "lineLong", "[I", true)
  | 5 => ("WishToChipModel", "lineMany", "[I", true)
  | 6 => ("WishToChipModel", "order", "[I", true)
  | 7 => ("WishToChipModel", "orderMany", "[I", true)
  | 8 => ("WishToChipModel", "registers", "[I", true)
  | 9 => ("WishToChipModel", "starts", "[I", true)
  | 10 => ("WishToChipModel", "ends", "[I", true)
  | 11 => ("WishToChipModel", "keptMany", "I", false)
  | 12 => ("WishToChipModel", "steps", "I", false)
  | 13 => ("WishToChipModel", "price", "[I", true)
  | 14 => ("WishToChipModel", "delay", "[I", true)
  | 15 => ("WishToChipModel", "rules", "[I", true)
  | 16 => ("WishToChipModel", "values", "[I", true)
  | 17 => ("WishToChipModel", "stack", "[I", true)
  | 18 => ("WishToChipModel", "stuckName", "I", false)
  | 19 => ("WishToChipModel", "stuckAt", "I", false)
  | 20 => ("WishToChipModel", "last", "[I", true)
  | 21 => ("WishToChipModel", "plain", "[I", true)
  | 22 => ("WishToChipModel", "turned", "[I", true)
  | 23 => ("WishToChipModel", "arrivals", "[I", true)
  | 24 => ("WishToChipModel", "cameBy", "[I", true)
  | 25 => ("WishToChipModel", "came", "[I", true)
  | 26 => ("WishToChipModel", "by", "[I", true)
  | 27 => ("WishToChipModel", "blockMany", "I", false)
  | 28 => ("WishToChipModel", "places", "[I", true)
  | 29 => ("WishToChipModel", "netMany", "I", false)
  | 30 => ("WishToChipModel", "nets", "[I", true)
  | 31 => ("WishToChipModel", "tried", "[I", true)
  | 32 => ("WishToChipModel", "best", "[I", true)
  | 33 => ("WishToChipModel", "trialMany", "I", false)
  | 34 => ("WishToChipModel", "trials", "[I", true)
  | 35 => ("WishToChipModel", "seen", "[I", true)
  | 36 => ("WishToChipModel", "found", "[J", true)
  | 37 => ("WishToChipModel", "soMany", "I", false)
  | 38 => ("WishToChipModel", "so", "[I", true)
  | _ => ("WishToChipModel", "soFails", "[I", true)
def tyX12 : Nat → FieldType := fun k => match k with
  | 0 => .array .int
  | 1 => .array .int
  | 2 => .array .int
  | 3 => .array .int
  | 4 => .array .int
  | 5 => .array .int
  | 6 => .array .int
  | 7 => .array .int
  | 8 => .array .int
  | 9 => .array .int
  | 10 => .array .int
  | 11 => .int
  | 12 => .int
  | 13 => .array .int
  | 14 => .array .int
  | 15 => .array .int
  | 16 => .array .int
  | 17 => .array .int
  | 18 => .int
  | 19 => .int
  | 20 => .array .int
  | 21 => .array .int
  | 22 => .array .int
  | 23 => .array .int
  | 24 => .array .int
  | 25 => .array .int
  | 26 => .array .int
  | 27 => .int
  | 28 => .array .int
  | 29 => .int
  | 30 => .array .int
  | 31 => .array .int
  | 32 => .array .int
  | 33 => .int
  | 34 => .array .int
  | 35 => .array .int
  | 36 => .array .long
  | 37 => .int
  | 38 => .array .int
  | _ => .array .int
theorem nmX12 : ∀ a, a < 40 → ∀ b, b < 40 → a ≠ b → (TX12 a).2.1 ≠ (TX12 b).2.1 := by decide +kernel
theorem tyX12_ok : ∀ k, k < 40 → parseFieldDescriptor (TX12 k).2.2.1 = some (tyX12 k) := by decide +kernel
abbrev cX12_init : ByteArray := prog_14_method_1_code
def yX12_init : MethodName := ⟨RX12, "<init>", "()V"⟩
abbrev cX12_in : ByteArray := prog_14_method_2_code
def yX12_in : MethodName := ⟨RX12, "in", "(III)Z"⟩
abbrev cX12_write : ByteArray := prog_14_method_3_code
def yX12_write : MethodName := ⟨RX12, "write", "(IIJ)I"⟩
abbrev cX12_clear : ByteArray := prog_14_method_4_code
def yX12_clear : MethodName := ⟨RX12, "clear", "(I)I"⟩
abbrev cX12_takes : ByteArray := prog_14_method_5_code
def yX12_takes : MethodName := ⟨RX12, "takes", "(I)I"⟩
abbrev cX12_read : ByteArray := prog_14_method_6_code
def yX12_read : MethodName := ⟨RX12, "read", "(I)I"⟩
abbrev cX12_namesIn : ByteArray := prog_14_method_7_code
def yX12_namesIn : MethodName := ⟨RX12, "namesIn", "(II)I"⟩
abbrev cX12_leans : ByteArray := prog_14_method_8_code
def yX12_leans : MethodName := ⟨RX12, "leans", "(II)I"⟩
abbrev cX12_ringOf : ByteArray := prog_14_method_9_code
def yX12_ringOf : MethodName := ⟨RX12, "ringOf", "(I)I"⟩
abbrev cX12_lackOf : ByteArray := prog_14_method_10_code
def yX12_lackOf : MethodName := ⟨RX12, "lackOf", "(I)I"⟩
abbrev cX12_fault : ByteArray := prog_14_method_11_code
def yX12_fault : MethodName := ⟨RX12, "fault", "(I)I"⟩
abbrev cX12_ring : ByteArray := prog_14_method_12_code
def yX12_ring : MethodName := ⟨RX12, "ring", "(II)I"⟩
abbrev cX12_layOrder : ByteArray := prog_14_method_13_code
def yX12_layOrder : MethodName := ⟨RX12, "layOrder", "(I)V"⟩
abbrev cX12_copyView : ByteArray := prog_14_method_14_code
def yX12_copyView : MethodName := ⟨RX12, "copyView", "(II)V"⟩
abbrev cX12_reads : ByteArray := prog_14_method_15_code
def yX12_reads : MethodName := ⟨RX12, "reads", "(I)Z"⟩
abbrev cX12_build : ByteArray := prog_14_method_16_code
def yX12_build : MethodName := ⟨RX12, "build", "(I)I"⟩
abbrev cX12_has : ByteArray := prog_14_method_17_code
def yX12_has : MethodName := ⟨RX12, "has", "(II)Z"⟩
abbrev cX12_uses : ByteArray := prog_14_method_18_code
def yX12_uses : MethodName := ⟨RX12, "uses", "(II)I"⟩
abbrev cX12_line : ByteArray := prog_14_method_19_code
def yX12_line : MethodName := ⟨RX12, "line", "(III)I"⟩
abbrev cX12_joined : ByteArray := prog_14_method_20_code
def yX12_joined : MethodName := ⟨RX12, "joined", "(III)I"⟩
abbrev cX12_chosen : ByteArray := prog_14_method_21_code
def yX12_chosen : MethodName := ⟨RX12, "chosen", "(III)I"⟩
abbrev cX12_used : ByteArray := prog_14_method_22_code
def yX12_used : MethodName := ⟨RX12, "used", "(I)I"⟩
abbrev cX12_made : ByteArray := prog_14_method_23_code
def yX12_made : MethodName := ⟨RX12, "made", "(II)I"⟩
abbrev cX12_layWires : ByteArray := prog_14_method_24_code
def yX12_layWires : MethodName := ⟨RX12, "layWires", "(II)V"⟩
abbrev cX12_layRow : ByteArray := prog_14_method_25_code
def yX12_layRow : MethodName := ⟨RX12, "layRow", "(II)V"⟩
abbrev cX12_told : ByteArray := prog_14_method_26_code
def yX12_told : MethodName := ⟨RX12, "told", "(II)I"⟩
abbrev cX12_stateNow : ByteArray := prog_14_method_27_code
def yX12_stateNow : MethodName := ⟨RX12, "stateNow", "()I"⟩
abbrev cX12_state : ByteArray := prog_14_method_28_code
def yX12_state : MethodName := ⟨RX12, "state", "(I)I"⟩
abbrev cX12_step : ByteArray := prog_14_method_29_code
def yX12_step : MethodName := ⟨RX12, "step", "(II)I"⟩
abbrev cX12_value : ByteArray := prog_14_method_30_code
def yX12_value : MethodName := ⟨RX12, "value", "(I)I"⟩
abbrev cX12_truth : ByteArray := prog_14_method_31_code
def yX12_truth : MethodName := ⟨RX12, "truth", "(III)I"⟩
abbrev cX12_ones : ByteArray := prog_14_method_32_code
def yX12_ones : MethodName := ⟨RX12, "ones", "(II)I"⟩
abbrev cX12_start : ByteArray := prog_14_method_33_code
def yX12_start : MethodName := ⟨RX12, "start", "(I)I"⟩
abbrev cX12_states : ByteArray := prog_14_method_34_code
def yX12_states : MethodName := ⟨RX12, "states", "()I"⟩
abbrev cX12_differ : ByteArray := prog_14_method_35_code
def yX12_differ : MethodName := ⟨RX12, "differ", "(I)I"⟩
abbrev cX12_touched : ByteArray := prog_14_method_36_code
def yX12_touched : MethodName := ⟨RX12, "touched", "()I"⟩
abbrev cX12_gate : ByteArray := prog_14_method_37_code
def yX12_gate : MethodName := ⟨RX12, "gate", "(III)I"⟩
abbrev cX12_rule : ByteArray := prog_14_method_38_code
def yX12_rule : MethodName := ⟨RX12, "rule", "(II)I"⟩
abbrev cX12_less : ByteArray := prog_14_method_39_code
def yX12_less : MethodName := ⟨RX12, "less", "(II)I"⟩
abbrev cX12_cost : ByteArray := prog_14_method_40_code
def yX12_cost : MethodName := ⟨RX12, "cost", "(II)V"⟩
abbrev cX12_coverOf : ByteArray := prog_14_method_41_code
def yX12_coverOf : MethodName := ⟨RX12, "coverOf", "(II)I"⟩
abbrev cX12_cover : ByteArray := prog_14_method_42_code
def yX12_cover : MethodName := ⟨RX12, "cover", "(II)I"⟩
abbrev cX12_kindOf : ByteArray := prog_14_method_43_code
def yX12_kindOf : MethodName := ⟨RX12, "kindOf", "(I)I"⟩
abbrev cX12_arrive : ByteArray := prog_14_method_44_code
def yX12_arrive : MethodName := ⟨RX12, "arrive", "(III)V"⟩
abbrev cX12_layArrivals : ByteArray := prog_14_method_45_code
def yX12_layArrivals : MethodName := ⟨RX12, "layArrivals", "(II)V"⟩
abbrev cX12_arrival : ByteArray := prog_14_method_46_code
def yX12_arrival : MethodName := ⟨RX12, "arrival", "(III)I"⟩
abbrev cX12_worst : ByteArray := prog_14_method_47_code
def yX12_worst : MethodName := ⟨RX12, "worst", "(III)I"⟩
abbrev cX12_blockAt : ByteArray := prog_14_method_48_code
def yX12_blockAt : MethodName := ⟨RX12, "blockAt", "(I)I"⟩
abbrev cX12_block : ByteArray := prog_14_method_49_code
def yX12_block : MethodName := ⟨RX12, "block", "()I"⟩
abbrev cX12_net : ByteArray := prog_14_method_50_code
def yX12_net : MethodName := ⟨RX12, "net", "(I)I"⟩
abbrev cX12_place : ByteArray := prog_14_method_51_code
def yX12_place : MethodName := ⟨RX12, "place", "(II)I"⟩
abbrev cX12_wireOf : ByteArray := prog_14_method_52_code
def yX12_wireOf : MethodName := ⟨RX12, "wireOf", "(I)I"⟩
abbrev cX12_allWire : ByteArray := prog_14_method_53_code
def yX12_allWire : MethodName := ⟨RX12, "allWire", "()I"⟩
abbrev cX12_tryNow : ByteArray := prog_14_method_54_code
def yX12_tryNow : MethodName := ⟨RX12, "tryNow", "()V"⟩
abbrev cX12_wire : ByteArray := prog_14_method_55_code
def yX12_wire : MethodName := ⟨RX12, "wire", "(I)I"⟩
abbrev cX12_isFree : ByteArray := prog_14_method_56_code
def yX12_isFree : MethodName := ⟨RX12, "isFree", "(II)Z"⟩
abbrev cX12_layLeast : ByteArray := prog_14_method_57_code
def yX12_layLeast : MethodName := ⟨RX12, "layLeast", "()I"⟩
abbrev cX12_least : ByteArray := prog_14_method_58_code
def yX12_least : MethodName := ⟨RX12, "least", "(I)I"⟩
abbrev cX12_change : ByteArray := prog_14_method_59_code
def yX12_change : MethodName := ⟨RX12, "change", "(II)V"⟩
abbrev cX12_swap : ByteArray := prog_14_method_60_code
def yX12_swap : MethodName := ⟨RX12, "swap", "()I"⟩
abbrev cX12_ends : ByteArray := prog_14_method_61_code
def yX12_ends : MethodName := ⟨RX12, "ends", "(I)I"⟩
abbrev cX12_endsOf : ByteArray := prog_14_method_62_code
def yX12_endsOf : MethodName := ⟨RX12, "endsOf", "(I)I"⟩
abbrev cX12_failsOf : ByteArray := prog_14_method_63_code
def yX12_failsOf : MethodName := ⟨RX12, "failsOf", "(II)I"⟩
abbrev cX12_fails : ByteArray := prog_14_method_64_code
def yX12_fails : MethodName := ⟨RX12, "fails", "(II)I"⟩
abbrev cX12_finds : ByteArray := prog_14_method_65_code
def yX12_finds : MethodName := ⟨RX12, "finds", "(I)I"⟩
abbrev cX12_trial : ByteArray := prog_14_method_66_code
def yX12_trial : MethodName := ⟨RX12, "trial", "(I)I"⟩
abbrev cX12_noTrials : ByteArray := prog_14_method_67_code
def yX12_noTrials : MethodName := ⟨RX12, "noTrials", "()I"⟩
abbrev cX12_foundBy : ByteArray := prog_14_method_68_code
def yX12_foundBy : MethodName := ⟨RX12, "foundBy", "(I)J"⟩
abbrev cX12_fewest : ByteArray := prog_14_method_69_code
def yX12_fewest : MethodName := ⟨RX12, "fewest", "(I)I"⟩
abbrev cX12_see : ByteArray := prog_14_method_70_code
def yX12_see : MethodName := ⟨RX12, "see", "(II)I"⟩
abbrev cX12_failsAt : ByteArray := prog_14_method_71_code
def yX12_failsAt : MethodName := ⟨RX12, "failsAt", "(II)I"⟩
abbrev cX12_isSo : ByteArray := prog_14_method_72_code
def yX12_isSo : MethodName := ⟨RX12, "isSo", "(I)Z"⟩
abbrev cX12_could : ByteArray := prog_14_method_73_code
def yX12_could : MethodName := ⟨RX12, "could", "(I)I"⟩
abbrev cX12_parts : ByteArray := prog_14_method_74_code
def yX12_parts : MethodName := ⟨RX12, "parts", "()I"⟩
abbrev cX12_copyRest : ByteArray := prog_14_method_75_code
def yX12_copyRest : MethodName := ⟨RX12, "copyRest", "(II)V"⟩
abbrev cX12_keep : ByteArray := prog_14_method_76_code
def yX12_keep : MethodName := ⟨RX12, "keep", "()I"⟩
abbrev cX12_back : ByteArray := prog_14_method_77_code
def yX12_back : MethodName := ⟨RX12, "back", "()I"⟩
abbrev cX12_count : ByteArray := prog_14_method_78_code
def yX12_count : MethodName := ⟨RX12, "count", "(I)I"⟩
def RJ6 : String := "java/lang/Integer"
abbrev cJ6_numberOfLeadingZeros_0f7a4 : ByteArray := prog_15_method_47_code
def yJ6_numberOfLeadingZeros_0f7a4 : MethodName := ⟨RJ6, "numberOfLeadingZeros", "(I)I"⟩
abbrev cJ6_numberOfTrailingZeros_0f7a4 : ByteArray := prog_15_method_48_code
def yJ6_numberOfTrailingZeros_0f7a4 : MethodName := ⟨RJ6, "numberOfTrailingZeros", "(I)I"⟩
abbrev cJ6_bitCount_0f7a4 : ByteArray := prog_15_method_49_code
def yJ6_bitCount_0f7a4 : MethodName := ⟨RJ6, "bitCount", "(I)I"⟩
def RJ13 : String := "java/lang/Long"
abbrev cJ13_numberOfTrailingZeros_95d88 : ByteArray := prog_16_method_49_code
def yJ13_numberOfTrailingZeros_95d88 : MethodName := ⟨RJ13, "numberOfTrailingZeros", "(J)I"⟩
abbrev cJ13_bitCount_95d88 : ByteArray := prog_16_method_50_code
def yJ13_bitCount_95d88 : MethodName := ⟨RJ13, "bitCount", "(J)I"⟩
def RJ9 : String := "java/lang/Math"
abbrev cJ9_max_7cf53 : ByteArray := prog_17_method_65_code
def yJ9_max_7cf53 : MethodName := ⟨RJ9, "max", "(II)I"⟩
abbrev cJ9_min_7cf53 : ByteArray := prog_17_method_69_code
def yJ9_min_7cf53 : MethodName := ⟨RJ9, "min", "(II)I"⟩
def RJ10 : String := "java/lang/System"
def RJ7 : String := "java/util/Arrays"
abbrev cJ7_fill_d0a16 : ByteArray := prog_19_method_101_code
def yJ7_fill_d0a16 : MethodName := ⟨RJ7, "fill", "([JJ)V"⟩
abbrev cJ7_fill_53178 : ByteArray := prog_19_method_103_code
def yJ7_fill_53178 : MethodName := ⟨RJ7, "fill", "([II)V"⟩
def RL : String := "WishToChipLaw"
