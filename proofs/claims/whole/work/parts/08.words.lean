/-! words of the tables, the methods, by program -/
def zty : List zY := [
  (yX0_init, cX0_init, 1, none),
  (yX0_ofAll, cX0_ofAll, 5, (some .int)),
  (yX0_ofLine, cX0_ofLine, 6, (some .int)),
  (yX0_coverToken, cX0_coverToken, 8, none),
  (yX0_put, cX0_put, 4, none),
  (yX1_init, cX1_init, 1, none),
  (yX1_addBlock, cX1_addBlock, 1, (some .int)),
  (yX1_areBlocks, cX1_areBlocks, 2, (some .boolean)),
  (yX1_addNet, cX1_addNet, 2, (some .int)),
  (yX1_move, cX1_move, 4, (some .int)),
  (yX1_placesOf, cX1_placesOf, 4, (some .int)),
  (yX1_wireOf, cX1_wireOf, 2, (some .int)),
  (yX1_wireOfAll, cX1_wireOfAll, 3, (some .int)),
  (yX1_span, cX1_span, 6, (some .int)),
  (yX1_findLeast, cX1_findLeast, 1, none),
  (yX1_layFrom, cX1_layFrom, 5, none),
  (yX1_turnNetPlaces, cX1_turnNetPlaces, 4, none),
  (yX1_wireToCome, cX1_wireToCome, 3, (some .int)),
  (yX1_swapWhileItHelps, cX1_swapWhileItHelps, 2, (some .int)),
  (yX1_swapBest, cX1_swapBest, 7, (some .boolean)),
  (yX1_exchange, cX1_exchange, 4, none),
  (yX2_init, cX2_init, 1, none),
  (yX2_isRule, cX2_isRule, 2, (some .boolean)),
  (yX2_changeRule, cX2_changeRule, 4, (some .int)),
  (yX2_load, cX2_load, 1, (some .int)),
  (yX2_clock, cX2_clock, 1, (some .int)),
  (yX2_takes, cX2_takes, 3, (some .int)),
  (yX2_gateFor, cX2_gateFor, 1, (some .int)),
  (yX3_init, cX3_init, 1, none),
  (yX4_init, cX4_init, 1, none),
  (yX4_stickOne, cX4_stickOne, 3, none),
  (yX4_stickEachInItsLane, cX4_stickEachInItsLane, 2, none),
  (yX4_runState, cX4_runState, 4, none),
  (yX4_runRow, cX4_runRow, 4, none),
  (yX4_inAllLanes, cX4_inAllLanes, 1, (some .long)),
  (yX4_run, cX4_run, 6, none),
  (yX4_stuck, cX4_stuck, 4, (some .long)),
  (yX4_make, cX4_make, 6, (some .long)),
  (yX4_gateOf, cX4_gateOf, 7, (some .long)),
  (yX4_unlike, cX4_unlike, 6, (some .long)),
  (yX4_statesFrom, cX4_statesFrom, 8, (some .int)),
  (yX4_statesShown, cX4_statesShown, 6, (some .int)),
  (yX5_init, cX5_init, 1, none),
  (yX5_read, cX5_read, 3, (some .int)),
  (yX5_readsSound, cX5_readsSound, 2, (some .boolean)),
  (yX5_takes, cX5_takes, 2, (some .boolean)),
  (yX5_takesLetter, cX5_takesLetter, 2, (some .boolean)),
  (yX5_takesEnd, cX5_takesEnd, 1, (some .boolean)),
  (yX5_takesToken, cX5_takesToken, 3, (some .boolean)),
  (yX5_valuesTaken, cX5_valuesTaken, 1, (some .int)),
  (yX5_kindOfSign, cX5_kindOfSign, 1, (some .int)),
  (yX6_init, cX6_init, 1, none),
  (yX6_areRegisters, cX6_areRegisters, 1, (some .boolean)),
  (yX6_restart, cX6_restart, 1, none),
  (yX6_take, cX6_take, 8, (some .int)),
  (yX6_make, cX6_make, 6, (some .int)),
  (yX6_gateOf, cX6_gateOf, 4, (some .int)),
  (yX6_turned, cX6_turned, 1, (some .int)),
  (yX6_both, cX6_both, 2, (some .int)),
  (yX6_chosen, cX6_chosen, 3, (some .int)),
  (yX7_init, cX7_init, 1, none),
  (yX7_append, cX7_append, 5, (some .int)),
  (yX8_init, cX8_init, 1, none),
  (yX8_find, cX8_find, 6, none),
  (yX8_findLine, cX8_findLine, 8, none),
  (yX8_takeLatest, cX8_takeLatest, 5, none),
  (yX8_latest, cX8_latest, 4, (some .int)),
  (yX8_nameOnWay, cX8_nameOnWay, 6, (some .int)),
  (yX9_init, cX9_init, 1, none),
  (yX9_add, cX9_add, 2, (some .int)),
  (yX9_make, cX9_make, 8, none),
  (yX9_failsOf, cX9_failsOf, 4, (some .int)),
  (yX9_lanesFailing, cX9_lanesFailing, 5, (some .long)),
  (yX9_findAll, cX9_findAll, 6, (some .long)),
  (yX9_leastSet, cX9_leastSet, 5, (some .int)),
  (yX9_foundBy, cX9_foundBy, 5, (some .long)),
  (yX9_thatCouldBe, cX9_thatCouldBe, 6, (some .long)),
  (yX9_bestToPart, cX9_bestToPart, 9, (some .int)),
  (yX9_greatestAlike, cX9_greatestAlike, 9, (some .int)),
  (yX9_bitNumber, cX9_bitNumber, 6, (some .int)),
  (yX10_init, cX10_init, 1, none),
  (yX10_hasLine, cX10_hasLine, 2, (some .boolean)),
  (yX10_forget, cX10_forget, 1, none),
  (yX10_become, cX10_become, 2, none),
  (yX10_leanThroughWires, cX10_leanThroughWires, 3, none),
  (yX10_leastInRing, cX10_leastInRing, 2, (some .int)),
  (yX10_leastLacking, cX10_leastLacking, 2, (some .int)),
  (yX10_putInOrder, cX10_putInOrder, 3, none),
  (yX10_orderNext, cX10_orderNext, 2, none),
  (yX11_init, cX11_init, 1, none),
  (yX11_write, cX11_write, 5, (some .int)),
  (yX11_clear, cX11_clear, 3, (some .int)),
  (yX11_fault, cX11_fault, 2, (some .int)),
  (yX11_ring, cX11_ring, 3, (some .int)),
  (yX11_build, cX11_build, 2, (some .int)),
  (yX11_line, cX11_line, 5, (some .int)),
  (yX11_state, cX11_state, 3, (some .int)),
  (yX11_step, cX11_step, 3, (some .int)),
  (yX11_value, cX11_value, 2, (some .int)),
  (yX11_truth, cX11_truth, 4, (some .int)),
  (yX11_ones, cX11_ones, 5, (some .int)),
  (yX11_start, cX11_start, 3, (some .int)),
  (yX11_states, cX11_states, 1, (some .int)),
  (yX11_differ, cX11_differ, 6, (some .int)),
  (yX11_touched, cX11_touched, 4, (some .int)),
  (yX11_gate, cX11_gate, 6, (some .int)),
  (yX11_rule, cX11_rule, 3, (some .int)),
  (yX11_cover, cX11_cover, 3, (some .int)),
  (yX11_arrival, cX11_arrival, 4, (some .int)),
  (yX11_worst, cX11_worst, 5, (some .int)),
  (yX11_block, cX11_block, 1, (some .int)),
  (yX11_net, cX11_net, 2, (some .int)),
  (yX11_place, cX11_place, 3, (some .int)),
  (yX11_wire, cX11_wire, 2, (some .int)),
  (yX11_least, cX11_least, 2, (some .int)),
  (yX11_swap, cX11_swap, 1, (some .int)),
  (yX11_ends, cX11_ends, 3, (some .int)),
  (yX11_fails, cX11_fails, 3, (some .int)),
  (yX11_finds, cX11_finds, 6, (some .int)),
  (yX11_trial, cX11_trial, 2, (some .int)),
  (yX11_noTrials, cX11_noTrials, 2, (some .int)),
  (yX11_fewest, cX11_fewest, 4, (some .int)),
  (yX11_see, cX11_see, 4, (some .int)),
  (yX11_could, cX11_could, 4, (some .int)),
  (yX11_parts, cX11_parts, 1, (some .int)),
  (yX11_keep, cX11_keep, 2, (some .int)),
  (yX11_back, cX11_back, 2, (some .int)),
  (yX11_count, cX11_count, 2, (some .int)),
  (yX11_isBelow, cX11_isBelow, 2, (some .boolean)),
  (yX11_isView, cX11_isView, 1, (some .boolean)),
  (yX11_mayHaveLine, cX11_mayHaveLine, 1, (some .boolean)),
  (yX11_isWire, cX11_isWire, 1, (some .boolean)),
  (yX11_hasBit, cX11_hasBit, 2, (some .boolean)),
  (yX11_leastRow, cX11_leastRow, 3, (some .int)),
  (yX11_tokenOf, cX11_tokenOf, 2, (some .int)),
  (yX11_kindOf, cX11_kindOf, 1, (some .int)),
  (yX11_slotOf, cX11_slotOf, 1, (some .int)),
  (yX12_init, cX12_init, 2, none),
  (yX12_in, cX12_in, 3, (some .boolean)),
  (yX12_write, cX12_write, 6, (some .int)),
  (yX12_clear, cX12_clear, 3, (some .int)),
  (yX12_takes, cX12_takes, 1, (some .int)),
  (yX12_read, cX12_read, 8, (some .int)),
  (yX12_namesIn, cX12_namesIn, 6, (some .int)),
  (yX12_leans, cX12_leans, 6, (some .int)),
  (yX12_ringOf, cX12_ringOf, 3, (some .int)),
  (yX12_lackOf, cX12_lackOf, 4, (some .int)),
  (yX12_fault, cX12_fault, 2, (some .int)),
  (yX12_ring, cX12_ring, 3, (some .int)),
  (yX12_layOrder, cX12_layOrder, 6, none),
  (yX12_copyView, cX12_copyView, 4, none),
  (yX12_reads, cX12_reads, 2, (some .boolean)),
  (yX12_build, cX12_build, 3, (some .int)),
  (yX12_has, cX12_has, 3, (some .boolean)),
  (yX12_uses, cX12_uses, 6, (some .int)),
  (yX12_line, cX12_line, 4, (some .int)),
  (yX12_joined, cX12_joined, 3, (some .int)),
  (yX12_chosen, cX12_chosen, 3, (some .int)),
  (yX12_used, cX12_used, 2, (some .int)),
  (yX12_made, cX12_made, 6, (some .int)),
  (yX12_layWires, cX12_layWires, 5, none),
  (yX12_layRow, cX12_layRow, 4, none),
  (yX12_told, cX12_told, 3, (some .int)),
  (yX12_stateNow, cX12_stateNow, 3, (some .int)),
  (yX12_state, cX12_state, 5, (some .int)),
  (yX12_step, cX12_step, 4, (some .int)),
  (yX12_value, cX12_value, 2, (some .int)),
  (yX12_truth, cX12_truth, 4, (some .int)),
  (yX12_ones, cX12_ones, 5, (some .int)),
  (yX12_start, cX12_start, 3, (some .int)),
  (yX12_states, cX12_states, 6, (some .int)),
  (yX12_differ, cX12_differ, 5, (some .int)),
  (yX12_touched, cX12_touched, 5, (some .int)),
  (yX12_gate, cX12_gate, 5, (some .int)),
  (yX12_rule, cX12_rule, 4, (some .int)),
  (yX12_less, cX12_less, 2, (some .int)),
  (yX12_cost, cX12_cost, 9, none),
  (yX12_coverOf, cX12_coverOf, 6, (some .int)),
  (yX12_cover, cX12_cover, 5, (some .int)),
  (yX12_kindOf, cX12_kindOf, 1, (some .int)),
  (yX12_arrive, cX12_arrive, 9, none),
  (yX12_layArrivals, cX12_layArrivals, 4, none),
  (yX12_arrival, cX12_arrival, 4, (some .int)),
  (yX12_worst, cX12_worst, 7, (some .int)),
  (yX12_blockAt, cX12_blockAt, 3, (some .int)),
  (yX12_block, cX12_block, 2, (some .int)),
  (yX12_net, cX12_net, 4, (some .int)),
  (yX12_place, cX12_place, 5, (some .int)),
  (yX12_wireOf, cX12_wireOf, 9, (some .int)),
  (yX12_allWire, cX12_allWire, 3, (some .int)),
  (yX12_tryNow, cX12_tryNow, 2, none),
  (yX12_wire, cX12_wire, 2, (some .int)),
  (yX12_isFree, cX12_isFree, 5, (some .boolean)),
  (yX12_layLeast, cX12_layLeast, 5, (some .int)),
  (yX12_least, cX12_least, 3, (some .int)),
  (yX12_change, cX12_change, 4, none),
  (yX12_swap, cX12_swap, 9, (some .int)),
  (yX12_ends, cX12_ends, 3, (some .int)),
  (yX12_endsOf, cX12_endsOf, 4, (some .int)),
  (yX12_failsOf, cX12_failsOf, 5, (some .int)),
  (yX12_fails, cX12_fails, 3, (some .int)),
  (yX12_finds, cX12_finds, 3, (some .int)),
  (yX12_trial, cX12_trial, 2, (some .int)),
  (yX12_noTrials, cX12_noTrials, 2, (some .int)),
  (yX12_foundBy, cX12_foundBy, 5, (some .long)),
  (yX12_fewest, cX12_fewest, 10, (some .int)),
  (yX12_see, cX12_see, 4, (some .int)),
  (yX12_failsAt, cX12_failsAt, 3, (some .int)),
  (yX12_isSo, cX12_isSo, 4, (some .boolean)),
  (yX12_could, cX12_could, 4, (some .int)),
  (yX12_parts, cX12_parts, 8, (some .int)),
  (yX12_copyRest, cX12_copyRest, 4, none),
  (yX12_keep, cX12_keep, 1, (some .int)),
  (yX12_back, cX12_back, 1, (some .int)),
  (yX12_count, cX12_count, 2, (some .int)),
  (yJ6_numberOfLeadingZeros_0f7a4, cJ6_numberOfLeadingZeros_0f7a4, 2, (some .int)),
  (yJ6_numberOfTrailingZeros_0f7a4, cJ6_numberOfTrailingZeros_0f7a4, 2, (some .int)),
  (yJ6_bitCount_0f7a4, cJ6_bitCount_0f7a4, 1, (some .int)),
  (yJ13_numberOfTrailingZeros_95d88, cJ13_numberOfTrailingZeros_95d88, 3, (some .int)),
  (yJ13_bitCount_95d88, cJ13_bitCount_95d88, 2, (some .int)),
  (yJ7_fill_d0a16, cJ7_fill_d0a16, 5, none),
  (yJ7_fill_53178, cJ7_fill_53178, 4, none)]
theorem zgw_k {w : Cond} (h : w ∈ tables_1) (hg : goodWord w = true) : w ∈ zgw := zgw_of (List.mem_append_right _ h) hg
theorem zNw_k {w : Cond} (h : w ∈ tables_1) (hg : zIsN w = true) : w ∈ zNw := List.mem_filter.mpr ⟨h, hg⟩
theorem tt1 : ∀ w ∈ tables_1_1, w ∈ tables_1 := fun _ h => (List.mem_append_left _ h)
theorem tt2 : ∀ w ∈ tables_1_2, w ∈ tables_1 := fun _ h => (List.mem_append_right _ (List.mem_append_left _ h))
theorem tt3 : ∀ w ∈ tables_1_3, w ∈ tables_1 := fun _ h => (List.mem_append_right _ (List.mem_append_right _ (List.mem_append_left _ h)))
theorem tt4 : ∀ w ∈ tables_1_4, w ∈ tables_1 := fun _ h => (List.mem_append_right _ (List.mem_append_right _ (List.mem_append_right _ (List.mem_append_left _ h))))
theorem tt5 : ∀ w ∈ tables_1_5, w ∈ tables_1 := fun _ h => (List.mem_append_right _ (List.mem_append_right _ (List.mem_append_right _ (List.mem_append_right _ (List.mem_append_left _ h)))))
theorem tt6 : ∀ w ∈ tables_1_6, w ∈ tables_1 := fun _ h => (List.mem_append_right _ (List.mem_append_right _ (List.mem_append_right _ (List.mem_append_right _ (List.mem_append_right _ h)))))
theorem w1 : (Cond.initialized "WishToChip") ∈ zgw := zgw_k (tt1 _ (List.mem_of_getElem? (i := 1) rfl)) rfl
theorem w2 : (Cond.initialized "WishToChip$Text") ∈ zgw := zgw_k (tt1 _ (List.mem_of_getElem? (i := 2) rfl)) rfl
theorem w3 : (Cond.initialized "WishToChip$View") ∈ zgw := zgw_k (tt1 _ (List.mem_of_getElem? (i := 3) rfl)) rfl
theorem w4 : (Cond.initialized "WishToChip$Reader") ∈ zgw := zgw_k (tt1 _ (List.mem_of_getElem? (i := 4) rfl)) rfl
theorem w5 : (Cond.initialized "WishToChip$Steps") ∈ zgw := zgw_k (tt1 _ (List.mem_of_getElem? (i := 5) rfl)) rfl
theorem w6 : (Cond.initialized "WishToChip$Lanes") ∈ zgw := zgw_k (tt1 _ (List.mem_of_getElem? (i := 6) rfl)) rfl
theorem w7 : (Cond.initialized "WishToChip$Gates") ∈ zgw := zgw_k (tt1 _ (List.mem_of_getElem? (i := 7) rfl)) rfl
theorem w8 : (Cond.initialized "WishToChip$Covers") ∈ zgw := zgw_k (tt1 _ (List.mem_of_getElem? (i := 8) rfl)) rfl
theorem w9 : (Cond.initialized "WishToChip$Times") ∈ zgw := zgw_k (tt1 _ (List.mem_of_getElem? (i := 9) rfl)) rfl
theorem w10 : (Cond.initialized "WishToChip$Floor") ∈ zgw := zgw_k (tt1 _ (List.mem_of_getElem? (i := 10) rfl)) rfl
theorem w11 : (Cond.initialized "WishToChip$Trials") ∈ zgw := zgw_k (tt1 _ (List.mem_of_getElem? (i := 11) rfl)) rfl
theorem w12 : (Cond.initialized "WishToChip$Kept") ∈ zgw := zgw_k (tt1 _ (List.mem_of_getElem? (i := 12) rfl)) rfl
theorem w13 : (Cond.initialized "WishToChipModel") ∈ zgw := zgw_k (tt1 _ (List.mem_of_getElem? (i := 13) rfl)) rfl
theorem w14 : (Cond.initialized "java/util/Arrays") ∈ zgw := zgw_k (tt1 _ (List.mem_of_getElem? (i := 14) rfl)) rfl
theorem w15 : (Cond.initialized "java/lang/Integer") ∈ zgw := zgw_k (tt1 _ (List.mem_of_getElem? (i := 15) rfl)) rfl
theorem w16 : (Cond.initialized "java/lang/System") ∈ zgw := zgw_k (tt1 _ (List.mem_of_getElem? (i := 16) rfl)) rfl
theorem w17 : (Cond.initialized "java/lang/Long") ∈ zgw := zgw_k (tt1 _ (List.mem_of_getElem? (i := 17) rfl)) rfl
theorem w18 : (Cond.initialized "java/lang/Math") ∈ zgw := zgw_k (tt1 _ (List.mem_of_getElem? (i := 18) rfl)) rfl
theorem w19 : (Cond.classLink "WishToChipLaw" (7 : Nat) "WishToChip") ∈ zgw := zgw_k (tt1 _ (List.mem_of_getElem? (i := 19) rfl)) rfl
theorem w20 : (Cond.instantiable "WishToChip" (16 : Nat)) ∈ zgw := zgw_k (tt1 _ (List.mem_of_getElem? (i := 20) rfl)) rfl
theorem w21 : (Cond.methodLink "WishToChipLaw" (9 : Nat) ({ cls := "WishToChip", name := "<init>", desc := "()V" } : MethodName)) ∈ zgw := zgw_k (tt1 _ (List.mem_of_getElem? (i := 21) rfl)) rfl
theorem w22 : (Cond.instanceMethod ({ cls := "WishToChip", name := "<init>", desc := "()V" } : MethodName)) ∈ zgw := zgw_k (tt1 _ (List.mem_of_getElem? (i := 22) rfl)) rfl
theorem w23 : (Cond.code ({ cls := "WishToChip", name := "<init>", desc := "()V" } : MethodName) prog_1_method_1_code (1 : Nat) (Option.none : Option FieldType)) ∈ zgw := zgw_k (tt1 _ (List.mem_of_getElem? (i := 23) rfl)) rfl
theorem w24 : (Cond.methodLink "WishToChip" (1 : Nat) ({ cls := "java/lang/Object", name := "<init>", desc := "()V" } : MethodName)) ∈ zgw := zgw_k (tt1 _ (List.mem_of_getElem? (i := 24) rfl)) rfl
theorem w25 : (Cond.instanceMethod ({ cls := "java/lang/Object", name := "<init>", desc := "()V" } : MethodName)) ∈ zgw := zgw_k (tt1 _ (List.mem_of_getElem? (i := 25) rfl)) rfl
theorem w26 : (Cond.code ({ cls := "java/lang/Object", name := "<init>", desc := "()V" } : MethodName) object_method_1_code (1 : Nat) (Option.none : Option FieldType)) ∈ zgw := zgw_k (tt1 _ (List.mem_of_getElem? (i := 26) rfl)) rfl
theorem w27 : (Cond.classLink "WishToChip" (7 : Nat) "WishToChip$Text") ∈ zgw := zgw_k (tt1 _ (List.mem_of_getElem? (i := 27) rfl)) rfl
theorem w29 : (Cond.instantiable "WishToChip$Text" (2 : Nat)) ∈ zgw := zgw_k (tt1 _ (List.mem_of_getElem? (i := 29) rfl)) rfl
theorem n30 : (Cond.methodLinkNest "WishToChip" (9 : Nat) ({ cls := "WishToChip$Text", name := "<init>", desc := "()V" } : MethodName) "WishToChip") ∈ zNw := zNw_k (tt1 _ (List.mem_of_getElem? (i := 30) rfl)) rfl
theorem w31 : (Cond.instanceMethod ({ cls := "WishToChip$Text", name := "<init>", desc := "()V" } : MethodName)) ∈ zgw := zgw_k (tt1 _ (List.mem_of_getElem? (i := 31) rfl)) rfl
theorem w32 : (Cond.code ({ cls := "WishToChip$Text", name := "<init>", desc := "()V" } : MethodName) prog_9_method_1_code (1 : Nat) (Option.none : Option FieldType)) ∈ zgw := zgw_k (tt1 _ (List.mem_of_getElem? (i := 32) rfl)) rfl
theorem w33 : (Cond.methodLink "WishToChip$Text" (3 : Nat) ({ cls := "java/lang/Object", name := "<init>", desc := "()V" } : MethodName)) ∈ zgw := zgw_k (tt1 _ (List.mem_of_getElem? (i := 33) rfl)) rfl
theorem w34 : (Cond.fieldLink "WishToChip$Text" (9 : Nat) "WishToChip$Text" "bytes" "[I") ∈ zgw := zgw_k (tt1 _ (List.mem_of_getElem? (i := 34) rfl)) rfl
theorem w35 : (Cond.fieldLink "WishToChip$Reader" (39 : Nat) "WishToChip$Text" "bytes" "[I") ∈ zgw := zgw_k (tt1 _ (List.mem_of_getElem? (i := 35) rfl)) rfl
theorem w36 : (Cond.fieldLink "WishToChip$Text" (15 : Nat) "WishToChip$Text" "length" "I") ∈ zgw := zgw_k (tt1 _ (List.mem_of_getElem? (i := 36) rfl)) rfl
theorem w37 : (Cond.fieldLink "WishToChip$Reader" (34 : Nat) "WishToChip$Text" "length" "I") ∈ zgw := zgw_k (tt1 _ (List.mem_of_getElem? (i := 37) rfl)) rfl
theorem w38 : (Cond.fieldLink "WishToChip" (111 : Nat) "WishToChip$Text" "length" "I") ∈ zgw := zgw_k (tt1 _ (List.mem_of_getElem? (i := 38) rfl)) rfl
theorem w44 : (Cond.arrayClass FieldType.int) ∈ zgw := zgw_k (tt1 _ (List.mem_of_getElem? (i := 44) rfl)) rfl
theorem w45 : (Cond.classLink "WishToChip" (16 : Nat) "WishToChip$View") ∈ zgw := zgw_k (tt1 _ (List.mem_of_getElem? (i := 45) rfl)) rfl
theorem w47 : (Cond.instantiable "WishToChip$View" (8 : Nat)) ∈ zgw := zgw_k (tt1 _ (List.mem_of_getElem? (i := 47) rfl)) rfl
theorem n48 : (Cond.methodLinkNest "WishToChip" (18 : Nat) ({ cls := "WishToChip$View", name := "<init>", desc := "()V" } : MethodName) "WishToChip") ∈ zNw := zNw_k (tt1 _ (List.mem_of_getElem? (i := 48) rfl)) rfl
theorem w49 : (Cond.instanceMethod ({ cls := "WishToChip$View", name := "<init>", desc := "()V" } : MethodName)) ∈ zgw := zgw_k (tt1 _ (List.mem_of_getElem? (i := 49) rfl)) rfl
theorem w50 : (Cond.code ({ cls := "WishToChip$View", name := "<init>", desc := "()V" } : MethodName) prog_12_method_1_code (1 : Nat) (Option.none : Option FieldType)) ∈ zgw := zgw_k (tt1 _ (List.mem_of_getElem? (i := 50) rfl)) rfl
theorem w51 : (Cond.methodLink "WishToChip$View" (3 : Nat) ({ cls := "java/lang/Object", name := "<init>", desc := "()V" } : MethodName)) ∈ zgw := zgw_k (tt1 _ (List.mem_of_getElem? (i := 51) rfl)) rfl
theorem w52 : (Cond.fieldLink "WishToChip$View" (9 : Nat) "WishToChip$View" "tokens" "[I") ∈ zgw := zgw_k (tt1 _ (List.mem_of_getElem? (i := 52) rfl)) rfl
theorem w53 : (Cond.fieldLink "WishToChip$Covers" (37 : Nat) "WishToChip$View" "tokens" "[I") ∈ zgw := zgw_k (tt1 _ (List.mem_of_getElem? (i := 53) rfl)) rfl
theorem w54 : (Cond.fieldLink "WishToChip$Times" (62 : Nat) "WishToChip$View" "tokens" "[I") ∈ zgw := zgw_k (tt1 _ (List.mem_of_getElem? (i := 54) rfl)) rfl
theorem w55 : (Cond.fieldLink "WishToChip$Steps" (54 : Nat) "WishToChip$View" "tokens" "[I") ∈ zgw := zgw_k (tt1 _ (List.mem_of_getElem? (i := 55) rfl)) rfl
theorem w56 : (Cond.fieldLink "WishToChip$Reader" (96 : Nat) "WishToChip$View" "tokens" "[I") ∈ zgw := zgw_k (tt1 _ (List.mem_of_getElem? (i := 56) rfl)) rfl
theorem w57 : (Cond.fieldLink "WishToChip$Lanes" (80 : Nat) "WishToChip$View" "tokens" "[I") ∈ zgw := zgw_k (tt1 _ (List.mem_of_getElem? (i := 57) rfl)) rfl
theorem w58 : (Cond.fieldLink "WishToChip$View" (15 : Nat) "WishToChip$View" "from" "[I") ∈ zgw := zgw_k (tt1 _ (List.mem_of_getElem? (i := 58) rfl)) rfl
theorem w59 : (Cond.fieldLink "WishToChip$Covers" (31 : Nat) "WishToChip$View" "from" "[I") ∈ zgw := zgw_k (tt1 _ (List.mem_of_getElem? (i := 59) rfl)) rfl
theorem w60 : (Cond.fieldLink "WishToChip$Times" (56 : Nat) "WishToChip$View" "from" "[I") ∈ zgw := zgw_k (tt1 _ (List.mem_of_getElem? (i := 60) rfl)) rfl
theorem w61 : (Cond.fieldLink "WishToChip$Steps" (48 : Nat) "WishToChip$View" "from" "[I") ∈ zgw := zgw_k (tt1 _ (List.mem_of_getElem? (i := 61) rfl)) rfl
theorem w62 : (Cond.fieldLink "WishToChip$Reader" (87 : Nat) "WishToChip$View" "from" "[I") ∈ zgw := zgw_k (tt1 _ (List.mem_of_getElem? (i := 62) rfl)) rfl
theorem w63 : (Cond.fieldLink "WishToChip" (153 : Nat) "WishToChip$View" "from" "[I") ∈ zgw := zgw_k (tt1 _ (List.mem_of_getElem? (i := 63) rfl)) rfl
theorem w64 : (Cond.fieldLink "WishToChip$Lanes" (74 : Nat) "WishToChip$View" "from" "[I") ∈ zgw := zgw_k (tt1 _ (List.mem_of_getElem? (i := 64) rfl)) rfl
theorem w65 : (Cond.fieldLink "WishToChip$View" (18 : Nat) "WishToChip$View" "to" "[I") ∈ zgw := zgw_k (tt1 _ (List.mem_of_getElem? (i := 65) rfl)) rfl
theorem w66 : (Cond.fieldLink "WishToChip$Covers" (34 : Nat) "WishToChip$View" "to" "[I") ∈ zgw := zgw_k (tt1 _ (List.mem_of_getElem? (i := 66) rfl)) rfl
theorem w67 : (Cond.fieldLink "WishToChip$Times" (59 : Nat) "WishToChip$View" "to" "[I") ∈ zgw := zgw_k (tt1 _ (List.mem_of_getElem? (i := 67) rfl)) rfl
theorem w68 : (Cond.fieldLink "WishToChip$Steps" (51 : Nat) "WishToChip$View" "to" "[I") ∈ zgw := zgw_k (tt1 _ (List.mem_of_getElem? (i := 68) rfl)) rfl
theorem w69 : (Cond.fieldLink "WishToChip$Reader" (90 : Nat) "WishToChip$View" "to" "[I") ∈ zgw := zgw_k (tt1 _ (List.mem_of_getElem? (i := 69) rfl)) rfl
theorem w70 : (Cond.fieldLink "WishToChip" (149 : Nat) "WishToChip$View" "to" "[I") ∈ zgw := zgw_k (tt1 _ (List.mem_of_getElem? (i := 70) rfl)) rfl
theorem w71 : (Cond.fieldLink "WishToChip$Lanes" (77 : Nat) "WishToChip$View" "to" "[I") ∈ zgw := zgw_k (tt1 _ (List.mem_of_getElem? (i := 71) rfl)) rfl
theorem w72 : (Cond.fieldLink "WishToChip$View" (21 : Nat) "WishToChip$View" "leans" "[I") ∈ zgw := zgw_k (tt1 _ (List.mem_of_getElem? (i := 72) rfl)) rfl
theorem w73 : (Cond.fieldLink "WishToChip" (156 : Nat) "WishToChip$View" "leans" "[I") ∈ zgw := zgw_k (tt1 _ (List.mem_of_getElem? (i := 73) rfl)) rfl
theorem w74 : (Cond.fieldLink "WishToChip$Reader" (106 : Nat) "WishToChip$View" "leans" "[I") ∈ zgw := zgw_k (tt1 _ (List.mem_of_getElem? (i := 74) rfl)) rfl
theorem w75 : (Cond.fieldLink "WishToChip$View" (24 : Nat) "WishToChip$View" "uses" "[I") ∈ zgw := zgw_k (tt1 _ (List.mem_of_getElem? (i := 75) rfl)) rfl
theorem w76 : (Cond.fieldLink "WishToChip$Times" (53 : Nat) "WishToChip$View" "uses" "[I") ∈ zgw := zgw_k (tt1 _ (List.mem_of_getElem? (i := 76) rfl)) rfl
theorem w77 : (Cond.fieldLink "WishToChip$Reader" (103 : Nat) "WishToChip$View" "uses" "[I") ∈ zgw := zgw_k (tt1 _ (List.mem_of_getElem? (i := 77) rfl)) rfl
theorem w78 : (Cond.fieldLink "WishToChip" (159 : Nat) "WishToChip$View" "uses" "[I") ∈ zgw := zgw_k (tt1 _ (List.mem_of_getElem? (i := 78) rfl)) rfl
theorem w79 : (Cond.fieldLink "WishToChip$View" (27 : Nat) "WishToChip$View" "order" "[I") ∈ zgw := zgw_k (tt1 _ (List.mem_of_getElem? (i := 79) rfl)) rfl
theorem w80 : (Cond.fieldLink "WishToChip$Covers" (24 : Nat) "WishToChip$View" "order" "[I") ∈ zgw := zgw_k (tt1 _ (List.mem_of_getElem? (i := 80) rfl)) rfl
theorem w81 : (Cond.fieldLink "WishToChip$Times" (36 : Nat) "WishToChip$View" "order" "[I") ∈ zgw := zgw_k (tt1 _ (List.mem_of_getElem? (i := 81) rfl)) rfl
theorem w82 : (Cond.fieldLink "WishToChip$Steps" (37 : Nat) "WishToChip$View" "order" "[I") ∈ zgw := zgw_k (tt1 _ (List.mem_of_getElem? (i := 82) rfl)) rfl
theorem w83 : (Cond.fieldLink "WishToChip$Lanes" (66 : Nat) "WishToChip$View" "order" "[I") ∈ zgw := zgw_k (tt1 _ (List.mem_of_getElem? (i := 83) rfl)) rfl
theorem w84 : (Cond.fieldLink "WishToChip$View" (30 : Nat) "WishToChip$View" "told" "I") ∈ zgw := zgw_k (tt1 _ (List.mem_of_getElem? (i := 84) rfl)) rfl
theorem w85 : (Cond.fieldLink "WishToChip$Trials" (46 : Nat) "WishToChip$View" "told" "I") ∈ zgw := zgw_k (tt1 _ (List.mem_of_getElem? (i := 85) rfl)) rfl
theorem w86 : (Cond.fieldLink "WishToChip$Reader" (84 : Nat) "WishToChip$View" "told" "I") ∈ zgw := zgw_k (tt1 _ (List.mem_of_getElem? (i := 86) rfl)) rfl
theorem w87 : (Cond.fieldLink "WishToChip" (304 : Nat) "WishToChip$View" "told" "I") ∈ zgw := zgw_k (tt1 _ (List.mem_of_getElem? (i := 87) rfl)) rfl
theorem w88 : (Cond.fieldLink "WishToChip$View" (34 : Nat) "WishToChip$View" "lines" "I") ∈ zgw := zgw_k (tt1 _ (List.mem_of_getElem? (i := 88) rfl)) rfl
theorem w89 : (Cond.fieldLink "WishToChip$Covers" (18 : Nat) "WishToChip$View" "lines" "I") ∈ zgw := zgw_k (tt1 _ (List.mem_of_getElem? (i := 89) rfl)) rfl
theorem w90 : (Cond.fieldLink "WishToChip$Times" (30 : Nat) "WishToChip$View" "lines" "I") ∈ zgw := zgw_k (tt1 _ (List.mem_of_getElem? (i := 90) rfl)) rfl
theorem w91 : (Cond.fieldLink "WishToChip$Steps" (32 : Nat) "WishToChip$View" "lines" "I") ∈ zgw := zgw_k (tt1 _ (List.mem_of_getElem? (i := 91) rfl)) rfl
theorem w92 : (Cond.fieldLink "WishToChip" (140 : Nat) "WishToChip$View" "lines" "I") ∈ zgw := zgw_k (tt1 _ (List.mem_of_getElem? (i := 92) rfl)) rfl
theorem w93 : (Cond.fieldLink "WishToChip$Lanes" (60 : Nat) "WishToChip$View" "lines" "I") ∈ zgw := zgw_k (tt1 _ (List.mem_of_getElem? (i := 93) rfl)) rfl
theorem w111 : (Cond.classLink "WishToChip" (23 : Nat) "WishToChip$Reader") ∈ zgw := zgw_k (tt1 _ (List.mem_of_getElem? (i := 111) rfl)) rfl
theorem w112 : (Cond.instantiable "WishToChip$Reader" (5 : Nat)) ∈ zgw := zgw_k (tt1 _ (List.mem_of_getElem? (i := 112) rfl)) rfl
theorem n113 : (Cond.methodLinkNest "WishToChip" (25 : Nat) ({ cls := "WishToChip$Reader", name := "<init>", desc := "()V" } : MethodName) "WishToChip") ∈ zNw := zNw_k (tt1 _ (List.mem_of_getElem? (i := 113) rfl)) rfl
theorem w114 : (Cond.instanceMethod ({ cls := "WishToChip$Reader", name := "<init>", desc := "()V" } : MethodName)) ∈ zgw := zgw_k (tt1 _ (List.mem_of_getElem? (i := 114) rfl)) rfl
theorem w115 : (Cond.code ({ cls := "WishToChip$Reader", name := "<init>", desc := "()V" } : MethodName) prog_7_method_1_code (1 : Nat) (Option.none : Option FieldType)) ∈ zgw := zgw_k (tt1 _ (List.mem_of_getElem? (i := 115) rfl)) rfl
theorem w116 : (Cond.methodLink "WishToChip$Reader" (3 : Nat) ({ cls := "java/lang/Object", name := "<init>", desc := "()V" } : MethodName)) ∈ zgw := zgw_k (tt1 _ (List.mem_of_getElem? (i := 116) rfl)) rfl
theorem w117 : (Cond.classLink "WishToChip$Reader" (9 : Nat) "WishToChip$View") ∈ zgw := zgw_k (tt1 _ (List.mem_of_getElem? (i := 117) rfl)) rfl
theorem n118 : (Cond.methodLinkNest "WishToChip$Reader" (11 : Nat) ({ cls := "WishToChip$View", name := "<init>", desc := "()V" } : MethodName) "WishToChip") ∈ zNw := zNw_k (tt1 _ (List.mem_of_getElem? (i := 118) rfl)) rfl
theorem w119 : (Cond.fieldLink "WishToChip$Reader" (12 : Nat) "WishToChip$Reader" "draft" "LWishToChip$View;") ∈ zgw := zgw_k (tt1 _ (List.mem_of_getElem? (i := 119) rfl)) rfl
theorem w120 : (Cond.fieldLink "WishToChip" (118 : Nat) "WishToChip$Reader" "draft" "LWishToChip$View;") ∈ zgw := zgw_k (tt1 _ (List.mem_of_getElem? (i := 120) rfl)) rfl
theorem w121 : (Cond.fieldLink "WishToChip$Reader" (18 : Nat) "WishToChip$Reader" "awaited" "I") ∈ zgw := zgw_k (tt1 _ (List.mem_of_getElem? (i := 121) rfl)) rfl
theorem w122 : (Cond.fieldLink "WishToChip$Reader" (22 : Nat) "WishToChip$Reader" "name" "I") ∈ zgw := zgw_k (tt1 _ (List.mem_of_getElem? (i := 122) rfl)) rfl
theorem w123 : (Cond.fieldLink "WishToChip$Reader" (25 : Nat) "WishToChip$Reader" "size" "I") ∈ zgw := zgw_k (tt1 _ (List.mem_of_getElem? (i := 123) rfl)) rfl
theorem w124 : (Cond.fieldLink "WishToChip$Reader" (28 : Nat) "WishToChip$Reader" "values" "I") ∈ zgw := zgw_k (tt1 _ (List.mem_of_getElem? (i := 124) rfl)) rfl
theorem w136 : (Cond.classLink "WishToChip" (30 : Nat) "WishToChip$Steps") ∈ zgw := zgw_k (tt1 _ (List.mem_of_getElem? (i := 136) rfl)) rfl
theorem w137 : (Cond.instantiable "WishToChip$Steps" (4 : Nat)) ∈ zgw := zgw_k (tt1 _ (List.mem_of_getElem? (i := 137) rfl)) rfl
theorem n138 : (Cond.methodLinkNest "WishToChip" (32 : Nat) ({ cls := "WishToChip$Steps", name := "<init>", desc := "()V" } : MethodName) "WishToChip") ∈ zNw := zNw_k (tt1 _ (List.mem_of_getElem? (i := 138) rfl)) rfl
theorem w139 : (Cond.instanceMethod ({ cls := "WishToChip$Steps", name := "<init>", desc := "()V" } : MethodName)) ∈ zgw := zgw_k (tt1 _ (List.mem_of_getElem? (i := 139) rfl)) rfl
theorem w140 : (Cond.code ({ cls := "WishToChip$Steps", name := "<init>", desc := "()V" } : MethodName) prog_8_method_1_code (1 : Nat) (Option.none : Option FieldType)) ∈ zgw := zgw_k (tt1 _ (List.mem_of_getElem? (i := 140) rfl)) rfl
theorem w141 : (Cond.methodLink "WishToChip$Steps" (3 : Nat) ({ cls := "java/lang/Object", name := "<init>", desc := "()V" } : MethodName)) ∈ zgw := zgw_k (tt1 _ (List.mem_of_getElem? (i := 141) rfl)) rfl
theorem w142 : (Cond.fieldLink "WishToChip$Steps" (9 : Nat) "WishToChip$Steps" "last" "[I") ∈ zgw := zgw_k (tt1 _ (List.mem_of_getElem? (i := 142) rfl)) rfl
theorem w143 : (Cond.fieldLink "WishToChip" (179 : Nat) "WishToChip$Steps" "last" "[I") ∈ zgw := zgw_k (tt1 _ (List.mem_of_getElem? (i := 143) rfl)) rfl
theorem w144 : (Cond.fieldLink "WishToChip$Steps" (15 : Nat) "WishToChip$Steps" "slots" "[I") ∈ zgw := zgw_k (tt1 _ (List.mem_of_getElem? (i := 144) rfl)) rfl
theorem w145 : (Cond.fieldLink "WishToChip$Steps" (18 : Nat) "WishToChip$Steps" "registers" "I") ∈ zgw := zgw_k (tt1 _ (List.mem_of_getElem? (i := 145) rfl)) rfl
theorem w146 : (Cond.fieldLink "WishToChip" (165 : Nat) "WishToChip$Steps" "registers" "I") ∈ zgw := zgw_k (tt1 _ (List.mem_of_getElem? (i := 146) rfl)) rfl
theorem w147 : (Cond.fieldLink "WishToChip$Steps" (22 : Nat) "WishToChip$Steps" "taken" "I") ∈ zgw := zgw_k (tt1 _ (List.mem_of_getElem? (i := 147) rfl)) rfl
theorem w148 : (Cond.fieldLink "WishToChip" (176 : Nat) "WishToChip$Steps" "taken" "I") ∈ zgw := zgw_k (tt1 _ (List.mem_of_getElem? (i := 148) rfl)) rfl
theorem w158 : (Cond.classLink "WishToChip" (37 : Nat) "WishToChip$Lanes") ∈ zgw := zgw_k (tt1 _ (List.mem_of_getElem? (i := 158) rfl)) rfl
theorem w159 : (Cond.instantiable "WishToChip$Lanes" (5 : Nat)) ∈ zgw := zgw_k (tt1 _ (List.mem_of_getElem? (i := 159) rfl)) rfl
theorem n160 : (Cond.methodLinkNest "WishToChip" (39 : Nat) ({ cls := "WishToChip$Lanes", name := "<init>", desc := "()V" } : MethodName) "WishToChip") ∈ zNw := zNw_k (tt1 _ (List.mem_of_getElem? (i := 160) rfl)) rfl
theorem w161 : (Cond.instanceMethod ({ cls := "WishToChip$Lanes", name := "<init>", desc := "()V" } : MethodName)) ∈ zgw := zgw_k (tt1 _ (List.mem_of_getElem? (i := 161) rfl)) rfl
theorem w162 : (Cond.code ({ cls := "WishToChip$Lanes", name := "<init>", desc := "()V" } : MethodName) prog_6_method_1_code (1 : Nat) (Option.none : Option FieldType)) ∈ zgw := zgw_k (tt1 _ (List.mem_of_getElem? (i := 162) rfl)) rfl
theorem w163 : (Cond.methodLink "WishToChip$Lanes" (3 : Nat) ({ cls := "java/lang/Object", name := "<init>", desc := "()V" } : MethodName)) ∈ zgw := zgw_k (tt1 _ (List.mem_of_getElem? (i := 163) rfl)) rfl
theorem w164 : (Cond.fieldLink "WishToChip$Lanes" (9 : Nat) "WishToChip$Lanes" "used" "[J") ∈ zgw := zgw_k (tt1 _ (List.mem_of_getElem? (i := 164) rfl)) rfl
theorem w165 : (Cond.fieldLink "WishToChip$Lanes" (15 : Nat) "WishToChip$Lanes" "shown" "[J") ∈ zgw := zgw_k (tt1 _ (List.mem_of_getElem? (i := 165) rfl)) rfl
theorem w166 : (Cond.fieldLink "WishToChip$Trials" (43 : Nat) "WishToChip$Lanes" "shown" "[J") ∈ zgw := zgw_k (tt1 _ (List.mem_of_getElem? (i := 166) rfl)) rfl
theorem w167 : (Cond.fieldLink "WishToChip" (186 : Nat) "WishToChip$Lanes" "shown" "[J") ∈ zgw := zgw_k (tt1 _ (List.mem_of_getElem? (i := 167) rfl)) rfl
theorem w168 : (Cond.fieldLink "WishToChip$Lanes" (18 : Nat) "WishToChip$Lanes" "stuckAt0" "[J") ∈ zgw := zgw_k (tt1 _ (List.mem_of_getElem? (i := 168) rfl)) rfl
theorem w169 : (Cond.fieldLink "WishToChip$Lanes" (21 : Nat) "WishToChip$Lanes" "stuckAt1" "[J") ∈ zgw := zgw_k (tt1 _ (List.mem_of_getElem? (i := 169) rfl)) rfl
theorem w170 : (Cond.fieldLink "WishToChip$Lanes" (24 : Nat) "WishToChip$Lanes" "slots" "[J") ∈ zgw := zgw_k (tt1 _ (List.mem_of_getElem? (i := 170) rfl)) rfl
theorem w182 : (Cond.arrayClass FieldType.long) ∈ zgw := zgw_k (tt1 _ (List.mem_of_getElem? (i := 182) rfl)) rfl
theorem w183 : (Cond.classLink "WishToChip" (50 : Nat) "WishToChip$Gates") ∈ zgw := zgw_k (tt1 _ (List.mem_of_getElem? (i := 183) rfl)) rfl
theorem w184 : (Cond.instantiable "WishToChip$Gates" (3 : Nat)) ∈ zgw := zgw_k (tt1 _ (List.mem_of_getElem? (i := 184) rfl)) rfl
theorem n185 : (Cond.methodLinkNest "WishToChip" (52 : Nat) ({ cls := "WishToChip$Gates", name := "<init>", desc := "()V" } : MethodName) "WishToChip") ∈ zNw := zNw_k (tt1 _ (List.mem_of_getElem? (i := 185) rfl)) rfl
theorem w186 : (Cond.instanceMethod ({ cls := "WishToChip$Gates", name := "<init>", desc := "()V" } : MethodName)) ∈ zgw := zgw_k (tt1 _ (List.mem_of_getElem? (i := 186) rfl)) rfl
theorem w187 : (Cond.code ({ cls := "WishToChip$Gates", name := "<init>", desc := "()V" } : MethodName) prog_4_method_1_code (1 : Nat) (Option.none : Option FieldType)) ∈ zgw := zgw_k (tt1 _ (List.mem_of_getElem? (i := 187) rfl)) rfl
theorem w188 : (Cond.methodLink "WishToChip$Gates" (3 : Nat) ({ cls := "java/lang/Object", name := "<init>", desc := "()V" } : MethodName)) ∈ zgw := zgw_k (tt1 _ (List.mem_of_getElem? (i := 188) rfl)) rfl
theorem w189 : (Cond.fieldLink "WishToChip$Gates" (9 : Nat) "WishToChip$Gates" "prices" "[I") ∈ zgw := zgw_k (tt1 _ (List.mem_of_getElem? (i := 189) rfl)) rfl
theorem w190 : (Cond.fieldLink "WishToChip" (213 : Nat) "WishToChip$Gates" "prices" "[I") ∈ zgw := zgw_k (tt1 _ (List.mem_of_getElem? (i := 190) rfl)) rfl
theorem w191 : (Cond.fieldLink "WishToChip$Gates" (15 : Nat) "WishToChip$Gates" "delays" "[I") ∈ zgw := zgw_k (tt1 _ (List.mem_of_getElem? (i := 191) rfl)) rfl
theorem w192 : (Cond.fieldLink "WishToChip" (216 : Nat) "WishToChip$Gates" "delays" "[I") ∈ zgw := zgw_k (tt1 _ (List.mem_of_getElem? (i := 192) rfl)) rfl
theorem w193 : (Cond.fieldLink "WishToChip$Gates" (18 : Nat) "WishToChip$Gates" "rules" "[I") ∈ zgw := zgw_k (tt1 _ (List.mem_of_getElem? (i := 193) rfl)) rfl
theorem w201 : (Cond.classLink "WishToChip" (57 : Nat) "WishToChip$Covers") ∈ zgw := zgw_k (tt1 _ (List.mem_of_getElem? (i := 201) rfl)) rfl
theorem w202 : (Cond.instantiable "WishToChip$Covers" (2 : Nat)) ∈ zgw := zgw_k (tt1 _ (List.mem_of_getElem? (i := 202) rfl)) rfl
theorem n203 : (Cond.methodLinkNest "WishToChip" (59 : Nat) ({ cls := "WishToChip$Covers", name := "<init>", desc := "()V" } : MethodName) "WishToChip") ∈ zNw := zNw_k (tt1 _ (List.mem_of_getElem? (i := 203) rfl)) rfl
theorem w204 : (Cond.instanceMethod ({ cls := "WishToChip$Covers", name := "<init>", desc := "()V" } : MethodName)) ∈ zgw := zgw_k (tt1 _ (List.mem_of_getElem? (i := 204) rfl)) rfl
theorem w205 : (Cond.code ({ cls := "WishToChip$Covers", name := "<init>", desc := "()V" } : MethodName) prog_2_method_1_code (1 : Nat) (Option.none : Option FieldType)) ∈ zgw := zgw_k (tt1 _ (List.mem_of_getElem? (i := 205) rfl)) rfl
theorem w206 : (Cond.methodLink "WishToChip$Covers" (3 : Nat) ({ cls := "java/lang/Object", name := "<init>", desc := "()V" } : MethodName)) ∈ zgw := zgw_k (tt1 _ (List.mem_of_getElem? (i := 206) rfl)) rfl
theorem w207 : (Cond.fieldLink "WishToChip$Covers" (9 : Nat) "WishToChip$Covers" "plain" "[I") ∈ zgw := zgw_k (tt1 _ (List.mem_of_getElem? (i := 207) rfl)) rfl
theorem w208 : (Cond.fieldLink "WishToChip$Covers" (15 : Nat) "WishToChip$Covers" "turned" "[I") ∈ zgw := zgw_k (tt1 _ (List.mem_of_getElem? (i := 208) rfl)) rfl
theorem w214 : (Cond.classLink "WishToChip" (64 : Nat) "WishToChip$Times") ∈ zgw := zgw_k (tt1 _ (List.mem_of_getElem? (i := 214) rfl)) rfl
theorem w215 : (Cond.instantiable "WishToChip$Times" (4 : Nat)) ∈ zgw := zgw_k (tt1 _ (List.mem_of_getElem? (i := 215) rfl)) rfl
theorem n216 : (Cond.methodLinkNest "WishToChip" (66 : Nat) ({ cls := "WishToChip$Times", name := "<init>", desc := "()V" } : MethodName) "WishToChip") ∈ zNw := zNw_k (tt1 _ (List.mem_of_getElem? (i := 216) rfl)) rfl
theorem w217 : (Cond.instanceMethod ({ cls := "WishToChip$Times", name := "<init>", desc := "()V" } : MethodName)) ∈ zgw := zgw_k (tt1 _ (List.mem_of_getElem? (i := 217) rfl)) rfl
theorem w218 : (Cond.code ({ cls := "WishToChip$Times", name := "<init>", desc := "()V" } : MethodName) prog_10_method_1_code (1 : Nat) (Option.none : Option FieldType)) ∈ zgw := zgw_k (tt1 _ (List.mem_of_getElem? (i := 218) rfl)) rfl
theorem w219 : (Cond.methodLink "WishToChip$Times" (3 : Nat) ({ cls := "java/lang/Object", name := "<init>", desc := "()V" } : MethodName)) ∈ zgw := zgw_k (tt1 _ (List.mem_of_getElem? (i := 219) rfl)) rfl
theorem w220 : (Cond.fieldLink "WishToChip$Times" (9 : Nat) "WishToChip$Times" "arrives" "[I") ∈ zgw := zgw_k (tt1 _ (List.mem_of_getElem? (i := 220) rfl)) rfl
theorem w221 : (Cond.fieldLink "WishToChip" (238 : Nat) "WishToChip$Times" "arrives" "[I") ∈ zgw := zgw_k (tt1 _ (List.mem_of_getElem? (i := 221) rfl)) rfl
theorem w222 : (Cond.fieldLink "WishToChip$Times" (15 : Nat) "WishToChip$Times" "cause" "[I") ∈ zgw := zgw_k (tt1 _ (List.mem_of_getElem? (i := 222) rfl)) rfl
theorem w223 : (Cond.fieldLink "WishToChip$Times" (18 : Nat) "WishToChip$Times" "slotArrives" "[I") ∈ zgw := zgw_k (tt1 _ (List.mem_of_getElem? (i := 223) rfl)) rfl
theorem w224 : (Cond.fieldLink "WishToChip$Times" (21 : Nat) "WishToChip$Times" "slotCause" "[I") ∈ zgw := zgw_k (tt1 _ (List.mem_of_getElem? (i := 224) rfl)) rfl
theorem w234 : (Cond.classLink "WishToChip" (71 : Nat) "WishToChip$Floor") ∈ zgw := zgw_k (tt1 _ (List.mem_of_getElem? (i := 234) rfl)) rfl
theorem w235 : (Cond.instantiable "WishToChip$Floor" (9 : Nat)) ∈ zgw := zgw_k (tt1 _ (List.mem_of_getElem? (i := 235) rfl)) rfl
theorem n236 : (Cond.methodLinkNest "WishToChip" (73 : Nat) ({ cls := "WishToChip$Floor", name := "<init>", desc := "()V" } : MethodName) "WishToChip") ∈ zNw := zNw_k (tt1 _ (List.mem_of_getElem? (i := 236) rfl)) rfl
theorem w237 : (Cond.instanceMethod ({ cls := "WishToChip$Floor", name := "<init>", desc := "()V" } : MethodName)) ∈ zgw := zgw_k (tt1 _ (List.mem_of_getElem? (i := 237) rfl)) rfl
theorem w238 : (Cond.code ({ cls := "WishToChip$Floor", name := "<init>", desc := "()V" } : MethodName) prog_3_method_1_code (1 : Nat) (Option.none : Option FieldType)) ∈ zgw := zgw_k (tt1 _ (List.mem_of_getElem? (i := 238) rfl)) rfl
theorem w239 : (Cond.methodLink "WishToChip$Floor" (3 : Nat) ({ cls := "java/lang/Object", name := "<init>", desc := "()V" } : MethodName)) ∈ zgw := zgw_k (tt1 _ (List.mem_of_getElem? (i := 239) rfl)) rfl
theorem w240 : (Cond.fieldLink "WishToChip$Floor" (11 : Nat) "WishToChip$Floor" "places" "[I") ∈ zgw := zgw_k (tt2 _ (List.mem_of_getElem? (i := 0) rfl)) rfl
theorem w241 : (Cond.fieldLink "WishToChip$Floor" (15 : Nat) "WishToChip$Floor" "netBlocks" "[I") ∈ zgw := zgw_k (tt2 _ (List.mem_of_getElem? (i := 1) rfl)) rfl
theorem w242 : (Cond.fieldLink "WishToChip$Floor" (18 : Nat) "WishToChip$Floor" "blocks" "I") ∈ zgw := zgw_k (tt2 _ (List.mem_of_getElem? (i := 2) rfl)) rfl
theorem w243 : (Cond.fieldLink "WishToChip" (265 : Nat) "WishToChip$Floor" "blocks" "I") ∈ zgw := zgw_k (tt2 _ (List.mem_of_getElem? (i := 3) rfl)) rfl
theorem w244 : (Cond.fieldLink "WishToChip$Floor" (22 : Nat) "WishToChip$Floor" "nets" "I") ∈ zgw := zgw_k (tt2 _ (List.mem_of_getElem? (i := 4) rfl)) rfl
theorem w245 : (Cond.fieldLink "WishToChip" (274 : Nat) "WishToChip$Floor" "nets" "I") ∈ zgw := zgw_k (tt2 _ (List.mem_of_getElem? (i := 5) rfl)) rfl
theorem w246 : (Cond.fieldLink "WishToChip$Floor" (25 : Nat) "WishToChip$Floor" "leastPlaces" "[I") ∈ zgw := zgw_k (tt2 _ (List.mem_of_getElem? (i := 6) rfl)) rfl
theorem w247 : (Cond.fieldLink "WishToChip" (286 : Nat) "WishToChip$Floor" "leastPlaces" "[I") ∈ zgw := zgw_k (tt2 _ (List.mem_of_getElem? (i := 7) rfl)) rfl
theorem w248 : (Cond.fieldLink "WishToChip$Floor" (28 : Nat) "WishToChip$Floor" "leastWire" "I") ∈ zgw := zgw_k (tt2 _ (List.mem_of_getElem? (i := 8) rfl)) rfl
theorem w249 : (Cond.fieldLink "WishToChip" (283 : Nat) "WishToChip$Floor" "leastWire" "I") ∈ zgw := zgw_k (tt2 _ (List.mem_of_getElem? (i := 9) rfl)) rfl
theorem w250 : (Cond.fieldLink "WishToChip$Floor" (31 : Nat) "WishToChip$Floor" "leastKnown" "Z") ∈ zgw := zgw_k (tt2 _ (List.mem_of_getElem? (i := 10) rfl)) rfl
theorem w251 : (Cond.fieldLink "WishToChip$Floor" (35 : Nat) "WishToChip$Floor" "tried" "[I") ∈ zgw := zgw_k (tt2 _ (List.mem_of_getElem? (i := 11) rfl)) rfl
theorem w252 : (Cond.fieldLink "WishToChip$Floor" (38 : Nat) "WishToChip$Floor" "netPlaces" "[I") ∈ zgw := zgw_k (tt2 _ (List.mem_of_getElem? (i := 12) rfl)) rfl
theorem w272 : (Cond.classLink "WishToChip" (78 : Nat) "WishToChip$Trials") ∈ zgw := zgw_k (tt2 _ (List.mem_of_getElem? (i := 32) rfl)) rfl
theorem w273 : (Cond.instantiable "WishToChip$Trials" (6 : Nat)) ∈ zgw := zgw_k (tt2 _ (List.mem_of_getElem? (i := 33) rfl)) rfl
theorem w274 : (Cond.methodLink "WishToChip" (80 : Nat) ({ cls := "WishToChip$Trials", name := "<init>", desc := "()V" } : MethodName)) ∈ zgw := zgw_k (tt2 _ (List.mem_of_getElem? (i := 34) rfl)) rfl
theorem w275 : (Cond.instanceMethod ({ cls := "WishToChip$Trials", name := "<init>", desc := "()V" } : MethodName)) ∈ zgw := zgw_k (tt2 _ (List.mem_of_getElem? (i := 35) rfl)) rfl
theorem w276 : (Cond.code ({ cls := "WishToChip$Trials", name := "<init>", desc := "()V" } : MethodName) prog_11_method_1_code (1 : Nat) (Option.none : Option FieldType)) ∈ zgw := zgw_k (tt2 _ (List.mem_of_getElem? (i := 36) rfl)) rfl
theorem w277 : (Cond.methodLink "WishToChip$Trials" (3 : Nat) ({ cls := "java/lang/Object", name := "<init>", desc := "()V" } : MethodName)) ∈ zgw := zgw_k (tt2 _ (List.mem_of_getElem? (i := 37) rfl)) rfl
theorem w278 : (Cond.classLink "WishToChip$Trials" (26 : Nat) "WishToChip$Lanes") ∈ zgw := zgw_k (tt2 _ (List.mem_of_getElem? (i := 38) rfl)) rfl
theorem n279 : (Cond.methodLinkNest "WishToChip$Trials" (28 : Nat) ({ cls := "WishToChip$Lanes", name := "<init>", desc := "()V" } : MethodName) "WishToChip") ∈ zNw := zNw_k (tt2 _ (List.mem_of_getElem? (i := 39) rfl)) rfl
theorem w280 : (Cond.methodLink "WishToChip$Trials" (36 : Nat) ({ cls := "WishToChip$Lanes", name := "stickEachInItsLane", desc := "()V" } : MethodName)) ∈ zgw := zgw_k (tt2 _ (List.mem_of_getElem? (i := 40) rfl)) rfl
theorem w281 : (Cond.instanceMethod ({ cls := "WishToChip$Lanes", name := "stickEachInItsLane", desc := "()V" } : MethodName)) ∈ zgw := zgw_k (tt2 _ (List.mem_of_getElem? (i := 41) rfl)) rfl
theorem w282 : (Cond.selects "WishToChip$Lanes" ({ cls := "WishToChip$Lanes", name := "stickEachInItsLane", desc := "()V" } : MethodName) ({ cls := "WishToChip$Lanes", name := "stickEachInItsLane", desc := "()V" } : MethodName)) ∈ zgw := zgw_k (tt2 _ (List.mem_of_getElem? (i := 42) rfl)) rfl
theorem w283 : (Cond.code ({ cls := "WishToChip$Lanes", name := "stickEachInItsLane", desc := "()V" } : MethodName) prog_6_method_3_code (2 : Nat) (Option.none : Option FieldType)) ∈ zgw := zgw_k (tt2 _ (List.mem_of_getElem? (i := 43) rfl)) rfl
theorem w284 : (Cond.constantLong "WishToChip$Lanes" (39 : Nat) (2 : Int64)) ∈ zgw := zgw_k (tt2 _ (List.mem_of_getElem? (i := 44) rfl)) rfl
theorem w285 : (Cond.fieldLink "WishToChip$Trials" (11 : Nat) "WishToChip$Trials" "rows" "[I") ∈ zgw := zgw_k (tt2 _ (List.mem_of_getElem? (i := 45) rfl)) rfl
theorem w286 : (Cond.fieldLink "WishToChip$Trials" (15 : Nat) "WishToChip$Trials" "seen" "[I") ∈ zgw := zgw_k (tt2 _ (List.mem_of_getElem? (i := 46) rfl)) rfl
theorem w287 : (Cond.fieldLink "WishToChip" (320 : Nat) "WishToChip$Trials" "seen" "[I") ∈ zgw := zgw_k (tt2 _ (List.mem_of_getElem? (i := 47) rfl)) rfl
theorem w288 : (Cond.fieldLink "WishToChip$Trials" (18 : Nat) "WishToChip$Trials" "size" "I") ∈ zgw := zgw_k (tt2 _ (List.mem_of_getElem? (i := 48) rfl)) rfl
theorem w289 : (Cond.fieldLink "WishToChip" (310 : Nat) "WishToChip$Trials" "size" "I") ∈ zgw := zgw_k (tt2 _ (List.mem_of_getElem? (i := 49) rfl)) rfl
theorem w290 : (Cond.fieldLink "WishToChip$Trials" (22 : Nat) "WishToChip$Trials" "found" "[J") ∈ zgw := zgw_k (tt2 _ (List.mem_of_getElem? (i := 50) rfl)) rfl
theorem w291 : (Cond.fieldLink "WishToChip$Trials" (29 : Nat) "WishToChip$Trials" "bench" "LWishToChip$Lanes;") ∈ zgw := zgw_k (tt2 _ (List.mem_of_getElem? (i := 51) rfl)) rfl
theorem w292 : (Cond.fieldLink "WishToChip$Trials" (33 : Nat) "WishToChip$Trials" "failing" "[J") ∈ zgw := zgw_k (tt2 _ (List.mem_of_getElem? (i := 52) rfl)) rfl
theorem w306 : (Cond.classLink "WishToChip" (85 : Nat) "WishToChip$Kept") ∈ zgw := zgw_k (tt2 _ (List.mem_of_getElem? (i := 66) rfl)) rfl
theorem w308 : (Cond.instantiable "WishToChip$Kept" (5 : Nat)) ∈ zgw := zgw_k (tt2 _ (List.mem_of_getElem? (i := 68) rfl)) rfl
theorem n309 : (Cond.methodLinkNest "WishToChip" (87 : Nat) ({ cls := "WishToChip$Kept", name := "<init>", desc := "()V" } : MethodName) "WishToChip") ∈ zNw := zNw_k (tt2 _ (List.mem_of_getElem? (i := 69) rfl)) rfl
theorem w310 : (Cond.instanceMethod ({ cls := "WishToChip$Kept", name := "<init>", desc := "()V" } : MethodName)) ∈ zgw := zgw_k (tt2 _ (List.mem_of_getElem? (i := 70) rfl)) rfl
theorem w311 : (Cond.code ({ cls := "WishToChip$Kept", name := "<init>", desc := "()V" } : MethodName) prog_5_method_1_code (1 : Nat) (Option.none : Option FieldType)) ∈ zgw := zgw_k (tt2 _ (List.mem_of_getElem? (i := 71) rfl)) rfl
theorem w312 : (Cond.methodLink "WishToChip$Kept" (1 : Nat) ({ cls := "java/lang/Object", name := "<init>", desc := "()V" } : MethodName)) ∈ zgw := zgw_k (tt2 _ (List.mem_of_getElem? (i := 72) rfl)) rfl
theorem w313 : (Cond.classLink "WishToChip$Kept" (7 : Nat) "WishToChip$View") ∈ zgw := zgw_k (tt2 _ (List.mem_of_getElem? (i := 73) rfl)) rfl
theorem n314 : (Cond.methodLinkNest "WishToChip$Kept" (9 : Nat) ({ cls := "WishToChip$View", name := "<init>", desc := "()V" } : MethodName) "WishToChip") ∈ zNw := zNw_k (tt2 _ (List.mem_of_getElem? (i := 74) rfl)) rfl
theorem w315 : (Cond.fieldLink "WishToChip$Kept" (10 : Nat) "WishToChip$Kept" "wish" "LWishToChip$View;") ∈ zgw := zgw_k (tt2 _ (List.mem_of_getElem? (i := 75) rfl)) rfl
theorem w316 : (Cond.fieldLink "WishToChip" (333 : Nat) "WishToChip$Kept" "wish" "LWishToChip$View;") ∈ zgw := zgw_k (tt2 _ (List.mem_of_getElem? (i := 76) rfl)) rfl
theorem w317 : (Cond.fieldLink "WishToChip$Kept" (16 : Nat) "WishToChip$Kept" "net" "LWishToChip$View;") ∈ zgw := zgw_k (tt2 _ (List.mem_of_getElem? (i := 77) rfl)) rfl
theorem w318 : (Cond.fieldLink "WishToChip" (336 : Nat) "WishToChip$Kept" "net" "LWishToChip$View;") ∈ zgw := zgw_k (tt2 _ (List.mem_of_getElem? (i := 78) rfl)) rfl
theorem w319 : (Cond.fieldLink "WishToChip$Kept" (19 : Nat) "WishToChip$Kept" "registers" "I") ∈ zgw := zgw_k (tt2 _ (List.mem_of_getElem? (i := 79) rfl)) rfl
theorem w320 : (Cond.fieldLink "WishToChip" (339 : Nat) "WishToChip$Kept" "registers" "I") ∈ zgw := zgw_k (tt2 _ (List.mem_of_getElem? (i := 80) rfl)) rfl
theorem w321 : (Cond.fieldLink "WishToChip$Kept" (23 : Nat) "WishToChip$Kept" "startState" "I") ∈ zgw := zgw_k (tt2 _ (List.mem_of_getElem? (i := 81) rfl)) rfl
theorem w322 : (Cond.fieldLink "WishToChip" (340 : Nat) "WishToChip$Kept" "startState" "I") ∈ zgw := zgw_k (tt2 _ (List.mem_of_getElem? (i := 82) rfl)) rfl
theorem w323 : (Cond.fieldLink "WishToChip$Kept" (26 : Nat) "WishToChip$Kept" "endBits" "I") ∈ zgw := zgw_k (tt2 _ (List.mem_of_getElem? (i := 83) rfl)) rfl
theorem w324 : (Cond.fieldLink "WishToChip" (341 : Nat) "WishToChip$Kept" "endBits" "I") ∈ zgw := zgw_k (tt2 _ (List.mem_of_getElem? (i := 84) rfl)) rfl
theorem w336 : (Cond.constant "WishToChip" (99 : Nat) (524224 : Int32)) ∈ zgw := zgw_k (tt2 _ (List.mem_of_getElem? (i := 96) rfl)) rfl
theorem w337 : (Cond.fieldLink "WishToChip" (10 : Nat) "WishToChip" "texts" "[LWishToChip$Text;") ∈ zgw := zgw_k (tt2 _ (List.mem_of_getElem? (i := 97) rfl)) rfl
theorem w338 : (Cond.fieldLink "WishToChip" (19 : Nat) "WishToChip" "views" "[LWishToChip$View;") ∈ zgw := zgw_k (tt2 _ (List.mem_of_getElem? (i := 98) rfl)) rfl
theorem w339 : (Cond.fieldLink "WishToChip" (26 : Nat) "WishToChip" "reader" "LWishToChip$Reader;") ∈ zgw := zgw_k (tt2 _ (List.mem_of_getElem? (i := 99) rfl)) rfl
theorem w340 : (Cond.fieldLink "WishToChip" (33 : Nat) "WishToChip" "steps" "LWishToChip$Steps;") ∈ zgw := zgw_k (tt2 _ (List.mem_of_getElem? (i := 100) rfl)) rfl
theorem w341 : (Cond.fieldLink "WishToChip" (40 : Nat) "WishToChip" "lanes" "LWishToChip$Lanes;") ∈ zgw := zgw_k (tt2 _ (List.mem_of_getElem? (i := 101) rfl)) rfl
theorem w342 : (Cond.fieldLink "WishToChip" (44 : Nat) "WishToChip" "otherLanes" "LWishToChip$Lanes;") ∈ zgw := zgw_k (tt2 _ (List.mem_of_getElem? (i := 102) rfl)) rfl
theorem w343 : (Cond.fieldLink "WishToChip" (47 : Nat) "WishToChip" "stuckLanes" "LWishToChip$Lanes;") ∈ zgw := zgw_k (tt2 _ (List.mem_of_getElem? (i := 103) rfl)) rfl
theorem w344 : (Cond.fieldLink "WishToChip" (53 : Nat) "WishToChip" "gates" "LWishToChip$Gates;") ∈ zgw := zgw_k (tt2 _ (List.mem_of_getElem? (i := 104) rfl)) rfl
theorem w345 : (Cond.fieldLink "WishToChip" (60 : Nat) "WishToChip" "covers" "LWishToChip$Covers;") ∈ zgw := zgw_k (tt2 _ (List.mem_of_getElem? (i := 105) rfl)) rfl
theorem w346 : (Cond.fieldLink "WishToChip" (67 : Nat) "WishToChip" "times" "LWishToChip$Times;") ∈ zgw := zgw_k (tt2 _ (List.mem_of_getElem? (i := 106) rfl)) rfl
theorem w347 : (Cond.fieldLink "WishToChip" (74 : Nat) "WishToChip" "floor" "LWishToChip$Floor;") ∈ zgw := zgw_k (tt2 _ (List.mem_of_getElem? (i := 107) rfl)) rfl
theorem w348 : (Cond.fieldLink "WishToChip" (81 : Nat) "WishToChip" "trials" "LWishToChip$Trials;") ∈ zgw := zgw_k (tt2 _ (List.mem_of_getElem? (i := 108) rfl)) rfl
theorem w349 : (Cond.fieldLink "WishToChip" (88 : Nat) "WishToChip" "kept" "[LWishToChip$Kept;") ∈ zgw := zgw_k (tt2 _ (List.mem_of_getElem? (i := 109) rfl)) rfl
theorem w350 : (Cond.fieldLink "WishToChip" (92 : Nat) "WishToChip" "keptCount" "I") ∈ zgw := zgw_k (tt2 _ (List.mem_of_getElem? (i := 110) rfl)) rfl
theorem w351 : (Cond.fieldLink "WishToChip" (96 : Nat) "WishToChip" "startState" "I") ∈ zgw := zgw_k (tt2 _ (List.mem_of_getElem? (i := 111) rfl)) rfl
theorem w352 : (Cond.fieldLink "WishToChip" (100 : Nat) "WishToChip" "endBits" "I") ∈ zgw := zgw_k (tt2 _ (List.mem_of_getElem? (i := 112) rfl)) rfl
theorem w386 : (Cond.methodLink "WishToChipLaw" (15 : Nat) ({ cls := "WishToChip", name := "write", desc := "(IIJ)I" } : MethodName)) ∈ zgw := zgw_k (tt2 _ (List.mem_of_getElem? (i := 146) rfl)) rfl
theorem w387 : (Cond.instanceMethod ({ cls := "WishToChip", name := "write", desc := "(IIJ)I" } : MethodName)) ∈ zgw := zgw_k (tt2 _ (List.mem_of_getElem? (i := 147) rfl)) rfl
theorem w388 : (Cond.selects "WishToChip" ({ cls := "WishToChip", name := "write", desc := "(IIJ)I" } : MethodName) ({ cls := "WishToChip", name := "write", desc := "(IIJ)I" } : MethodName)) ∈ zgw := zgw_k (tt2 _ (List.mem_of_getElem? (i := 148) rfl)) rfl
theorem w389 : (Cond.code ({ cls := "WishToChip", name := "write", desc := "(IIJ)I" } : MethodName) prog_1_method_2_code (5 : Nat) (Option.some FieldType.int)) ∈ zgw := zgw_k (tt2 _ (List.mem_of_getElem? (i := 149) rfl)) rfl
theorem w390 : (Cond.methodLink "WishToChip" (103 : Nat) ({ cls := "WishToChip", name := "isView", desc := "(I)Z" } : MethodName)) ∈ zgw := zgw_k (tt2 _ (List.mem_of_getElem? (i := 150) rfl)) rfl
theorem w391 : (Cond.static ({ cls := "WishToChip", name := "isView", desc := "(I)Z" } : MethodName)) ∈ zgw := zgw_k (tt2 _ (List.mem_of_getElem? (i := 151) rfl)) rfl
theorem w392 : (Cond.code ({ cls := "WishToChip", name := "isView", desc := "(I)Z" } : MethodName) prog_1_method_41_code (1 : Nat) (Option.some FieldType.boolean)) ∈ zgw := zgw_k (tt2 _ (List.mem_of_getElem? (i := 152) rfl)) rfl
theorem w393 : (Cond.methodLink "WishToChip" (107 : Nat) ({ cls := "WishToChip$Text", name := "append", desc := "(IJ)I" } : MethodName)) ∈ zgw := zgw_k (tt2 _ (List.mem_of_getElem? (i := 153) rfl)) rfl
theorem w394 : (Cond.instanceMethod ({ cls := "WishToChip$Text", name := "append", desc := "(IJ)I" } : MethodName)) ∈ zgw := zgw_k (tt2 _ (List.mem_of_getElem? (i := 154) rfl)) rfl
theorem w395 : (Cond.selects "WishToChip$Text" ({ cls := "WishToChip$Text", name := "append", desc := "(IJ)I" } : MethodName) ({ cls := "WishToChip$Text", name := "append", desc := "(IJ)I" } : MethodName)) ∈ zgw := zgw_k (tt2 _ (List.mem_of_getElem? (i := 155) rfl)) rfl
theorem w396 : (Cond.code ({ cls := "WishToChip$Text", name := "append", desc := "(IJ)I" } : MethodName) prog_9_method_2_code (5 : Nat) (Option.some FieldType.int)) ∈ zgw := zgw_k (tt2 _ (List.mem_of_getElem? (i := 156) rfl)) rfl
theorem w397 : (Cond.methodLink "WishToChipLaw" (20 : Nat) ({ cls := "WishToChip", name := "clear", desc := "(I)I" } : MethodName)) ∈ zgw := zgw_k (tt2 _ (List.mem_of_getElem? (i := 157) rfl)) rfl
theorem w398 : (Cond.instanceMethod ({ cls := "WishToChip", name := "clear", desc := "(I)I" } : MethodName)) ∈ zgw := zgw_k (tt2 _ (List.mem_of_getElem? (i := 158) rfl)) rfl
theorem w399 : (Cond.selects "WishToChip" ({ cls := "WishToChip", name := "clear", desc := "(I)I" } : MethodName) ({ cls := "WishToChip", name := "clear", desc := "(I)I" } : MethodName)) ∈ zgw := zgw_k (tt2 _ (List.mem_of_getElem? (i := 159) rfl)) rfl
theorem w400 : (Cond.code ({ cls := "WishToChip", name := "clear", desc := "(I)I" } : MethodName) prog_1_method_3_code (3 : Nat) (Option.some FieldType.int)) ∈ zgw := zgw_k (tt2 _ (List.mem_of_getElem? (i := 160) rfl)) rfl
theorem w401 : (Cond.methodLink "WishToChipLaw" (25 : Nat) ({ cls := "WishToChip", name := "fault", desc := "(I)I" } : MethodName)) ∈ zgw := zgw_k (tt2 _ (List.mem_of_getElem? (i := 161) rfl)) rfl
theorem w402 : (Cond.instanceMethod ({ cls := "WishToChip", name := "fault", desc := "(I)I" } : MethodName)) ∈ zgw := zgw_k (tt2 _ (List.mem_of_getElem? (i := 162) rfl)) rfl
theorem w403 : (Cond.selects "WishToChip" ({ cls := "WishToChip", name := "fault", desc := "(I)I" } : MethodName) ({ cls := "WishToChip", name := "fault", desc := "(I)I" } : MethodName)) ∈ zgw := zgw_k (tt2 _ (List.mem_of_getElem? (i := 163) rfl)) rfl
theorem w404 : (Cond.code ({ cls := "WishToChip", name := "fault", desc := "(I)I" } : MethodName) prog_1_method_4_code (2 : Nat) (Option.some FieldType.int)) ∈ zgw := zgw_k (tt2 _ (List.mem_of_getElem? (i := 164) rfl)) rfl
theorem w405 : (Cond.methodLink "WishToChip" (114 : Nat) ({ cls := "WishToChip$Reader", name := "read", desc := "(LWishToChip$Text;)I" } : MethodName)) ∈ zgw := zgw_k (tt2 _ (List.mem_of_getElem? (i := 165) rfl)) rfl
theorem w406 : (Cond.instanceMethod ({ cls := "WishToChip$Reader", name := "read", desc := "(LWishToChip$Text;)I" } : MethodName)) ∈ zgw := zgw_k (tt2 _ (List.mem_of_getElem? (i := 166) rfl)) rfl
theorem w407 : (Cond.selects "WishToChip$Reader" ({ cls := "WishToChip$Reader", name := "read", desc := "(LWishToChip$Text;)I" } : MethodName) ({ cls := "WishToChip$Reader", name := "read", desc := "(LWishToChip$Text;)I" } : MethodName)) ∈ zgw := zgw_k (tt2 _ (List.mem_of_getElem? (i := 167) rfl)) rfl
theorem w408 : (Cond.code ({ cls := "WishToChip$Reader", name := "read", desc := "(LWishToChip$Text;)I" } : MethodName) prog_7_method_2_code (3 : Nat) (Option.some FieldType.int)) ∈ zgw := zgw_k (tt2 _ (List.mem_of_getElem? (i := 168) rfl)) rfl
theorem w409 : (Cond.methodLink "WishToChip$Reader" (31 : Nat) ({ cls := "WishToChip$View", name := "forget", desc := "()V" } : MethodName)) ∈ zgw := zgw_k (tt2 _ (List.mem_of_getElem? (i := 169) rfl)) rfl
theorem w410 : (Cond.instanceMethod ({ cls := "WishToChip$View", name := "forget", desc := "()V" } : MethodName)) ∈ zgw := zgw_k (tt2 _ (List.mem_of_getElem? (i := 170) rfl)) rfl
theorem w411 : (Cond.selects "WishToChip$View" ({ cls := "WishToChip$View", name := "forget", desc := "()V" } : MethodName) ({ cls := "WishToChip$View", name := "forget", desc := "()V" } : MethodName)) ∈ zgw := zgw_k (tt2 _ (List.mem_of_getElem? (i := 171) rfl)) rfl
theorem w412 : (Cond.code ({ cls := "WishToChip$View", name := "forget", desc := "()V" } : MethodName) prog_12_method_3_code (1 : Nat) (Option.none : Option FieldType)) ∈ zgw := zgw_k (tt2 _ (List.mem_of_getElem? (i := 172) rfl)) rfl
theorem w413 : (Cond.methodLink "WishToChip$View" (41 : Nat) ({ cls := "java/util/Arrays", name := "fill", desc := "([II)V" } : MethodName)) ∈ zgw := zgw_k (tt2 _ (List.mem_of_getElem? (i := 173) rfl)) rfl
theorem w414 : (Cond.static ({ cls := "java/util/Arrays", name := "fill", desc := "([II)V" } : MethodName)) ∈ zgw := zgw_k (tt2 _ (List.mem_of_getElem? (i := 174) rfl)) rfl
theorem w415 : (Cond.code ({ cls := "java/util/Arrays", name := "fill", desc := "([II)V" } : MethodName) prog_19_method_103_code (4 : Nat) (Option.none : Option FieldType)) ∈ zgw := zgw_k (tt2 _ (List.mem_of_getElem? (i := 175) rfl)) rfl
theorem w416 : (Cond.methodLink "WishToChip$Reader" (43 : Nat) ({ cls := "WishToChip$Reader", name := "takes", desc := "(I)Z" } : MethodName)) ∈ zgw := zgw_k (tt2 _ (List.mem_of_getElem? (i := 176) rfl)) rfl
theorem w418 : (Cond.instanceMethod ({ cls := "WishToChip$Reader", name := "takes", desc := "(I)Z" } : MethodName)) ∈ zgw := zgw_k (tt2 _ (List.mem_of_getElem? (i := 178) rfl)) rfl
theorem w419 : (Cond.code ({ cls := "WishToChip$Reader", name := "takes", desc := "(I)Z" } : MethodName) prog_7_method_4_code (2 : Nat) (Option.some FieldType.boolean)) ∈ zgw := zgw_k (tt2 _ (List.mem_of_getElem? (i := 179) rfl)) rfl
theorem w420 : (Cond.methodLink "WishToChip$Reader" (64 : Nat) ({ cls := "WishToChip$Reader", name := "takesLetter", desc := "(I)Z" } : MethodName)) ∈ zgw := zgw_k (tt2 _ (List.mem_of_getElem? (i := 180) rfl)) rfl
theorem w422 : (Cond.instanceMethod ({ cls := "WishToChip$Reader", name := "takesLetter", desc := "(I)Z" } : MethodName)) ∈ zgw := zgw_k (tt2 _ (List.mem_of_getElem? (i := 182) rfl)) rfl
theorem w423 : (Cond.code ({ cls := "WishToChip$Reader", name := "takesLetter", desc := "(I)Z" } : MethodName) prog_7_method_5_code (2 : Nat) (Option.some FieldType.boolean)) ∈ zgw := zgw_k (tt2 _ (List.mem_of_getElem? (i := 183) rfl)) rfl
theorem n424 : (Cond.methodLinkNest "WishToChip$Reader" (78 : Nat) ({ cls := "WishToChip", name := "mayHaveLine", desc := "(I)Z" } : MethodName) "WishToChip") ∈ zNw := zNw_k (tt2 _ (List.mem_of_getElem? (i := 184) rfl)) rfl
theorem w425 : (Cond.static ({ cls := "WishToChip", name := "mayHaveLine", desc := "(I)Z" } : MethodName)) ∈ zgw := zgw_k (tt2 _ (List.mem_of_getElem? (i := 185) rfl)) rfl
theorem w426 : (Cond.code ({ cls := "WishToChip", name := "mayHaveLine", desc := "(I)Z" } : MethodName) prog_1_method_42_code (1 : Nat) (Option.some FieldType.boolean)) ∈ zgw := zgw_k (tt2 _ (List.mem_of_getElem? (i := 186) rfl)) rfl
theorem w427 : (Cond.methodLink "WishToChip$Reader" (81 : Nat) ({ cls := "WishToChip$View", name := "hasLine", desc := "(I)Z" } : MethodName)) ∈ zgw := zgw_k (tt2 _ (List.mem_of_getElem? (i := 187) rfl)) rfl
theorem w428 : (Cond.instanceMethod ({ cls := "WishToChip$View", name := "hasLine", desc := "(I)Z" } : MethodName)) ∈ zgw := zgw_k (tt2 _ (List.mem_of_getElem? (i := 188) rfl)) rfl
theorem w429 : (Cond.selects "WishToChip$View" ({ cls := "WishToChip$View", name := "hasLine", desc := "(I)Z" } : MethodName) ({ cls := "WishToChip$View", name := "hasLine", desc := "(I)Z" } : MethodName)) ∈ zgw := zgw_k (tt2 _ (List.mem_of_getElem? (i := 189) rfl)) rfl
theorem w430 : (Cond.code ({ cls := "WishToChip$View", name := "hasLine", desc := "(I)Z" } : MethodName) prog_12_method_2_code (2 : Nat) (Option.some FieldType.boolean)) ∈ zgw := zgw_k (tt2 _ (List.mem_of_getElem? (i := 190) rfl)) rfl
theorem n431 : (Cond.methodLinkNest "WishToChip$View" (37 : Nat) ({ cls := "WishToChip", name := "hasBit", desc := "(II)Z" } : MethodName) "WishToChip") ∈ zNw := zNw_k (tt2 _ (List.mem_of_getElem? (i := 191) rfl)) rfl
theorem w432 : (Cond.static ({ cls := "WishToChip", name := "hasBit", desc := "(II)Z" } : MethodName)) ∈ zgw := zgw_k (tt2 _ (List.mem_of_getElem? (i := 192) rfl)) rfl
theorem w433 : (Cond.code ({ cls := "WishToChip", name := "hasBit", desc := "(II)Z" } : MethodName) prog_1_method_44_code (2 : Nat) (Option.some FieldType.boolean)) ∈ zgw := zgw_k (tt2 _ (List.mem_of_getElem? (i := 193) rfl)) rfl
theorem w434 : (Cond.methodLink "WishToChip$Reader" (67 : Nat) ({ cls := "WishToChip$Reader", name := "takesEnd", desc := "()Z" } : MethodName)) ∈ zgw := zgw_k (tt2 _ (List.mem_of_getElem? (i := 194) rfl)) rfl
theorem w436 : (Cond.instanceMethod ({ cls := "WishToChip$Reader", name := "takesEnd", desc := "()Z" } : MethodName)) ∈ zgw := zgw_k (tt2 _ (List.mem_of_getElem? (i := 196) rfl)) rfl
theorem w437 : (Cond.code ({ cls := "WishToChip$Reader", name := "takesEnd", desc := "()Z" } : MethodName) prog_7_method_6_code (1 : Nat) (Option.some FieldType.boolean)) ∈ zgw := zgw_k (tt2 _ (List.mem_of_getElem? (i := 197) rfl)) rfl
theorem w438 : (Cond.methodLink "WishToChip$Reader" (71 : Nat) ({ cls := "WishToChip$Reader", name := "kindOfSign", desc := "(I)I" } : MethodName)) ∈ zgw := zgw_k (tt2 _ (List.mem_of_getElem? (i := 198) rfl)) rfl
theorem w439 : (Cond.static ({ cls := "WishToChip$Reader", name := "kindOfSign", desc := "(I)I" } : MethodName)) ∈ zgw := zgw_k (tt2 _ (List.mem_of_getElem? (i := 199) rfl)) rfl
theorem w440 : (Cond.code ({ cls := "WishToChip$Reader", name := "kindOfSign", desc := "(I)I" } : MethodName) prog_7_method_9_code (1 : Nat) (Option.some FieldType.int)) ∈ zgw := zgw_k (tt2 _ (List.mem_of_getElem? (i := 200) rfl)) rfl
theorem n441 : (Cond.methodLinkNest "WishToChip$Reader" (109 : Nat) ({ cls := "WishToChip", name := "isBelow", desc := "(II)Z" } : MethodName) "WishToChip") ∈ zNw := zNw_k (tt2 _ (List.mem_of_getElem? (i := 201) rfl)) rfl
theorem w442 : (Cond.static ({ cls := "WishToChip", name := "isBelow", desc := "(II)Z" } : MethodName)) ∈ zgw := zgw_k (tt2 _ (List.mem_of_getElem? (i := 202) rfl)) rfl
theorem w443 : (Cond.code ({ cls := "WishToChip", name := "isBelow", desc := "(II)Z" } : MethodName) prog_1_method_40_code (2 : Nat) (Option.some FieldType.boolean)) ∈ zgw := zgw_k (tt2 _ (List.mem_of_getElem? (i := 203) rfl)) rfl
theorem w444 : (Cond.methodLink "WishToChip$Reader" (75 : Nat) ({ cls := "WishToChip$Reader", name := "takesToken", desc := "(I)Z" } : MethodName)) ∈ zgw := zgw_k (tt2 _ (List.mem_of_getElem? (i := 204) rfl)) rfl
theorem w446 : (Cond.instanceMethod ({ cls := "WishToChip$Reader", name := "takesToken", desc := "(I)Z" } : MethodName)) ∈ zgw := zgw_k (tt2 _ (List.mem_of_getElem? (i := 206) rfl)) rfl
theorem w447 : (Cond.code ({ cls := "WishToChip$Reader", name := "takesToken", desc := "(I)Z" } : MethodName) prog_7_method_7_code (3 : Nat) (Option.some FieldType.boolean)) ∈ zgw := zgw_k (tt2 _ (List.mem_of_getElem? (i := 207) rfl)) rfl
theorem w448 : (Cond.methodLink "WishToChip$Reader" (93 : Nat) ({ cls := "WishToChip$Reader", name := "valuesTaken", desc := "(I)I" } : MethodName)) ∈ zgw := zgw_k (tt2 _ (List.mem_of_getElem? (i := 208) rfl)) rfl
theorem w449 : (Cond.static ({ cls := "WishToChip$Reader", name := "valuesTaken", desc := "(I)I" } : MethodName)) ∈ zgw := zgw_k (tt2 _ (List.mem_of_getElem? (i := 209) rfl)) rfl
theorem w450 : (Cond.code ({ cls := "WishToChip$Reader", name := "valuesTaken", desc := "(I)I" } : MethodName) prog_7_method_8_code (1 : Nat) (Option.some FieldType.int)) ∈ zgw := zgw_k (tt2 _ (List.mem_of_getElem? (i := 210) rfl)) rfl
theorem n451 : (Cond.methodLinkNest "WishToChip$Reader" (99 : Nat) ({ cls := "WishToChip", name := "tokenOf", desc := "(II)I" } : MethodName) "WishToChip") ∈ zNw := zNw_k (tt2 _ (List.mem_of_getElem? (i := 211) rfl)) rfl
theorem w452 : (Cond.static ({ cls := "WishToChip", name := "tokenOf", desc := "(II)I" } : MethodName)) ∈ zgw := zgw_k (tt2 _ (List.mem_of_getElem? (i := 212) rfl)) rfl
theorem w453 : (Cond.code ({ cls := "WishToChip", name := "tokenOf", desc := "(II)I" } : MethodName) prog_1_method_46_code (2 : Nat) (Option.some FieldType.int)) ∈ zgw := zgw_k (tt2 _ (List.mem_of_getElem? (i := 213) rfl)) rfl
theorem w454 : (Cond.methodLink "WishToChip$Reader" (47 : Nat) ({ cls := "WishToChip$View", name := "leanThroughWires", desc := "()V" } : MethodName)) ∈ zgw := zgw_k (tt2 _ (List.mem_of_getElem? (i := 214) rfl)) rfl
theorem w455 : (Cond.instanceMethod ({ cls := "WishToChip$View", name := "leanThroughWires", desc := "()V" } : MethodName)) ∈ zgw := zgw_k (tt2 _ (List.mem_of_getElem? (i := 215) rfl)) rfl
theorem w456 : (Cond.selects "WishToChip$View" ({ cls := "WishToChip$View", name := "leanThroughWires", desc := "()V" } : MethodName) ({ cls := "WishToChip$View", name := "leanThroughWires", desc := "()V" } : MethodName)) ∈ zgw := zgw_k (tt2 _ (List.mem_of_getElem? (i := 216) rfl)) rfl
theorem w457 : (Cond.code ({ cls := "WishToChip$View", name := "leanThroughWires", desc := "()V" } : MethodName) prog_12_method_5_code (3 : Nat) (Option.none : Option FieldType)) ∈ zgw := zgw_k (tt2 _ (List.mem_of_getElem? (i := 217) rfl)) rfl
theorem w458 : (Cond.methodLink "WishToChipLaw" (29 : Nat) ({ cls := "WishToChip", name := "ring", desc := "(II)I" } : MethodName)) ∈ zgw := zgw_k (tt2 _ (List.mem_of_getElem? (i := 218) rfl)) rfl
theorem w459 : (Cond.instanceMethod ({ cls := "WishToChip", name := "ring", desc := "(II)I" } : MethodName)) ∈ zgw := zgw_k (tt2 _ (List.mem_of_getElem? (i := 219) rfl)) rfl
theorem w460 : (Cond.selects "WishToChip" ({ cls := "WishToChip", name := "ring", desc := "(II)I" } : MethodName) ({ cls := "WishToChip", name := "ring", desc := "(II)I" } : MethodName)) ∈ zgw := zgw_k (tt2 _ (List.mem_of_getElem? (i := 220) rfl)) rfl
theorem w461 : (Cond.code ({ cls := "WishToChip", name := "ring", desc := "(II)I" } : MethodName) prog_1_method_5_code (3 : Nat) (Option.some FieldType.int)) ∈ zgw := zgw_k (tt2 _ (List.mem_of_getElem? (i := 221) rfl)) rfl
theorem w462 : (Cond.methodLink "WishToChip" (122 : Nat) ({ cls := "WishToChip$View", name := "leastInRing", desc := "()I" } : MethodName)) ∈ zgw := zgw_k (tt2 _ (List.mem_of_getElem? (i := 222) rfl)) rfl
theorem w463 : (Cond.instanceMethod ({ cls := "WishToChip$View", name := "leastInRing", desc := "()I" } : MethodName)) ∈ zgw := zgw_k (tt2 _ (List.mem_of_getElem? (i := 223) rfl)) rfl
theorem w464 : (Cond.selects "WishToChip$View" ({ cls := "WishToChip$View", name := "leastInRing", desc := "()I" } : MethodName) ({ cls := "WishToChip$View", name := "leastInRing", desc := "()I" } : MethodName)) ∈ zgw := zgw_k (tt2 _ (List.mem_of_getElem? (i := 224) rfl)) rfl
theorem w465 : (Cond.code ({ cls := "WishToChip$View", name := "leastInRing", desc := "()I" } : MethodName) prog_12_method_6_code (2 : Nat) (Option.some FieldType.int)) ∈ zgw := zgw_k (tt2 _ (List.mem_of_getElem? (i := 225) rfl)) rfl
theorem w466 : (Cond.methodLink "WishToChip" (126 : Nat) ({ cls := "WishToChip$View", name := "leastLacking", desc := "()I" } : MethodName)) ∈ zgw := zgw_k (tt2 _ (List.mem_of_getElem? (i := 226) rfl)) rfl
theorem w467 : (Cond.instanceMethod ({ cls := "WishToChip$View", name := "leastLacking", desc := "()I" } : MethodName)) ∈ zgw := zgw_k (tt2 _ (List.mem_of_getElem? (i := 227) rfl)) rfl
theorem w468 : (Cond.selects "WishToChip$View" ({ cls := "WishToChip$View", name := "leastLacking", desc := "()I" } : MethodName) ({ cls := "WishToChip$View", name := "leastLacking", desc := "()I" } : MethodName)) ∈ zgw := zgw_k (tt2 _ (List.mem_of_getElem? (i := 228) rfl)) rfl
theorem w469 : (Cond.code ({ cls := "WishToChip$View", name := "leastLacking", desc := "()I" } : MethodName) prog_12_method_7_code (2 : Nat) (Option.some FieldType.int)) ∈ zgw := zgw_k (tt2 _ (List.mem_of_getElem? (i := 229) rfl)) rfl
theorem w470 : (Cond.methodLink "WishToChip$View" (53 : Nat) ({ cls := "WishToChip$View", name := "hasLine", desc := "(I)Z" } : MethodName)) ∈ zgw := zgw_k (tt2 _ (List.mem_of_getElem? (i := 230) rfl)) rfl
theorem w471 : (Cond.methodLink "WishToChipLaw" (34 : Nat) ({ cls := "WishToChip", name := "build", desc := "(I)I" } : MethodName)) ∈ zgw := zgw_k (tt2 _ (List.mem_of_getElem? (i := 231) rfl)) rfl
theorem w472 : (Cond.instanceMethod ({ cls := "WishToChip", name := "build", desc := "(I)I" } : MethodName)) ∈ zgw := zgw_k (tt2 _ (List.mem_of_getElem? (i := 232) rfl)) rfl
theorem w473 : (Cond.selects "WishToChip" ({ cls := "WishToChip", name := "build", desc := "(I)I" } : MethodName) ({ cls := "WishToChip", name := "build", desc := "(I)I" } : MethodName)) ∈ zgw := zgw_k (tt2 _ (List.mem_of_getElem? (i := 233) rfl)) rfl
theorem w474 : (Cond.code ({ cls := "WishToChip", name := "build", desc := "(I)I" } : MethodName) prog_1_method_6_code (2 : Nat) (Option.some FieldType.int)) ∈ zgw := zgw_k (tt2 _ (List.mem_of_getElem? (i := 234) rfl)) rfl
theorem w475 : (Cond.methodLink "WishToChip" (129 : Nat) ({ cls := "WishToChip$Reader", name := "readsSound", desc := "(LWishToChip$Text;)Z" } : MethodName)) ∈ zgw := zgw_k (tt2 _ (List.mem_of_getElem? (i := 235) rfl)) rfl
theorem w476 : (Cond.instanceMethod ({ cls := "WishToChip$Reader", name := "readsSound", desc := "(LWishToChip$Text;)Z" } : MethodName)) ∈ zgw := zgw_k (tt2 _ (List.mem_of_getElem? (i := 236) rfl)) rfl
theorem w477 : (Cond.selects "WishToChip$Reader" ({ cls := "WishToChip$Reader", name := "readsSound", desc := "(LWishToChip$Text;)Z" } : MethodName) ({ cls := "WishToChip$Reader", name := "readsSound", desc := "(LWishToChip$Text;)Z" } : MethodName)) ∈ zgw := zgw_k (tt2 _ (List.mem_of_getElem? (i := 237) rfl)) rfl
theorem w478 : (Cond.code ({ cls := "WishToChip$Reader", name := "readsSound", desc := "(LWishToChip$Text;)Z" } : MethodName) prog_7_method_3_code (2 : Nat) (Option.some FieldType.boolean)) ∈ zgw := zgw_k (tt2 _ (List.mem_of_getElem? (i := 238) rfl)) rfl
theorem w479 : (Cond.methodLink "WishToChip$Reader" (50 : Nat) ({ cls := "WishToChip$Reader", name := "read", desc := "(LWishToChip$Text;)I" } : MethodName)) ∈ zgw := zgw_k (tt2 _ (List.mem_of_getElem? (i := 239) rfl)) rfl
theorem w480 : (Cond.methodLink "WishToChip$Reader" (54 : Nat) ({ cls := "WishToChip$View", name := "leastInRing", desc := "()I" } : MethodName)) ∈ zgw := zgw_k (tt3 _ (List.mem_of_getElem? (i := 0) rfl)) rfl
theorem w481 : (Cond.methodLink "WishToChip$Reader" (58 : Nat) ({ cls := "WishToChip$View", name := "leastLacking", desc := "()I" } : MethodName)) ∈ zgw := zgw_k (tt3 _ (List.mem_of_getElem? (i := 1) rfl)) rfl
theorem w482 : (Cond.methodLink "WishToChip$Reader" (61 : Nat) ({ cls := "WishToChip$View", name := "putInOrder", desc := "()V" } : MethodName)) ∈ zgw := zgw_k (tt3 _ (List.mem_of_getElem? (i := 2) rfl)) rfl
theorem w483 : (Cond.instanceMethod ({ cls := "WishToChip$View", name := "putInOrder", desc := "()V" } : MethodName)) ∈ zgw := zgw_k (tt3 _ (List.mem_of_getElem? (i := 3) rfl)) rfl
theorem w484 : (Cond.selects "WishToChip$View" ({ cls := "WishToChip$View", name := "putInOrder", desc := "()V" } : MethodName) ({ cls := "WishToChip$View", name := "putInOrder", desc := "()V" } : MethodName)) ∈ zgw := zgw_k (tt3 _ (List.mem_of_getElem? (i := 4) rfl)) rfl
theorem w485 : (Cond.code ({ cls := "WishToChip$View", name := "putInOrder", desc := "()V" } : MethodName) prog_12_method_8_code (3 : Nat) (Option.none : Option FieldType)) ∈ zgw := zgw_k (tt3 _ (List.mem_of_getElem? (i := 5) rfl)) rfl
theorem w486 : (Cond.methodLink "WishToChip$View" (57 : Nat) ({ cls := "java/lang/Integer", name := "bitCount", desc := "(I)I" } : MethodName)) ∈ zgw := zgw_k (tt3 _ (List.mem_of_getElem? (i := 6) rfl)) rfl
theorem w487 : (Cond.static ({ cls := "java/lang/Integer", name := "bitCount", desc := "(I)I" } : MethodName)) ∈ zgw := zgw_k (tt3 _ (List.mem_of_getElem? (i := 7) rfl)) rfl
theorem w488 : (Cond.code ({ cls := "java/lang/Integer", name := "bitCount", desc := "(I)I" } : MethodName) prog_15_method_49_code (1 : Nat) (Option.some FieldType.int)) ∈ zgw := zgw_k (tt3 _ (List.mem_of_getElem? (i := 8) rfl)) rfl
theorem w489 : (Cond.constant "java/lang/Integer" (265 : Nat) (1431655765 : Int32)) ∈ zgw := zgw_k (tt3 _ (List.mem_of_getElem? (i := 9) rfl)) rfl
theorem w490 : (Cond.constant "java/lang/Integer" (266 : Nat) (858993459 : Int32)) ∈ zgw := zgw_k (tt3 _ (List.mem_of_getElem? (i := 10) rfl)) rfl
theorem w491 : (Cond.constant "java/lang/Integer" (267 : Nat) (252645135 : Int32)) ∈ zgw := zgw_k (tt3 _ (List.mem_of_getElem? (i := 11) rfl)) rfl
theorem w492 : (Cond.methodLink "WishToChip$View" (63 : Nat) ({ cls := "WishToChip$View", name := "orderNext", desc := "(I)V" } : MethodName)) ∈ zgw := zgw_k (tt3 _ (List.mem_of_getElem? (i := 12) rfl)) rfl
theorem w494 : (Cond.instanceMethod ({ cls := "WishToChip$View", name := "orderNext", desc := "(I)V" } : MethodName)) ∈ zgw := zgw_k (tt3 _ (List.mem_of_getElem? (i := 14) rfl)) rfl
theorem w495 : (Cond.code ({ cls := "WishToChip$View", name := "orderNext", desc := "(I)V" } : MethodName) prog_12_method_9_code (2 : Nat) (Option.none : Option FieldType)) ∈ zgw := zgw_k (tt3 _ (List.mem_of_getElem? (i := 15) rfl)) rfl
theorem w496 : (Cond.methodLink "WishToChip" (133 : Nat) ({ cls := "WishToChip$View", name := "become", desc := "(LWishToChip$View;)V" } : MethodName)) ∈ zgw := zgw_k (tt3 _ (List.mem_of_getElem? (i := 16) rfl)) rfl
theorem w497 : (Cond.instanceMethod ({ cls := "WishToChip$View", name := "become", desc := "(LWishToChip$View;)V" } : MethodName)) ∈ zgw := zgw_k (tt3 _ (List.mem_of_getElem? (i := 17) rfl)) rfl
theorem w498 : (Cond.selects "WishToChip$View" ({ cls := "WishToChip$View", name := "become", desc := "(LWishToChip$View;)V" } : MethodName) ({ cls := "WishToChip$View", name := "become", desc := "(LWishToChip$View;)V" } : MethodName)) ∈ zgw := zgw_k (tt3 _ (List.mem_of_getElem? (i := 18) rfl)) rfl
theorem w499 : (Cond.code ({ cls := "WishToChip$View", name := "become", desc := "(LWishToChip$View;)V" } : MethodName) prog_12_method_4_code (2 : Nat) (Option.none : Option FieldType)) ∈ zgw := zgw_k (tt3 _ (List.mem_of_getElem? (i := 19) rfl)) rfl
theorem w500 : (Cond.methodLink "WishToChip$View" (47 : Nat) ({ cls := "java/lang/System", name := "arraycopy", desc := "(Ljava/lang/Object;ILjava/lang/Object;II)V" } : MethodName)) ∈ zgw := zgw_k (tt3 _ (List.mem_of_getElem? (i := 20) rfl)) rfl
theorem w501 : (Cond.static ({ cls := "java/lang/System", name := "arraycopy", desc := "(Ljava/lang/Object;ILjava/lang/Object;II)V" } : MethodName)) ∈ zgw := zgw_k (tt3 _ (List.mem_of_getElem? (i := 21) rfl)) rfl
theorem w502 : (Cond.native ({ cls := "java/lang/System", name := "arraycopy", desc := "(Ljava/lang/Object;ILjava/lang/Object;II)V" } : MethodName)) ∈ zgw := zgw_k (tt3 _ (List.mem_of_getElem? (i := 22) rfl)) rfl
theorem w503 : (Cond.methodLink "WishToChip" (137 : Nat) ({ cls := "WishToChip$Steps", name := "restart", desc := "()V" } : MethodName)) ∈ zgw := zgw_k (tt3 _ (List.mem_of_getElem? (i := 23) rfl)) rfl
theorem w504 : (Cond.instanceMethod ({ cls := "WishToChip$Steps", name := "restart", desc := "()V" } : MethodName)) ∈ zgw := zgw_k (tt3 _ (List.mem_of_getElem? (i := 24) rfl)) rfl
theorem w505 : (Cond.selects "WishToChip$Steps" ({ cls := "WishToChip$Steps", name := "restart", desc := "()V" } : MethodName) ({ cls := "WishToChip$Steps", name := "restart", desc := "()V" } : MethodName)) ∈ zgw := zgw_k (tt3 _ (List.mem_of_getElem? (i := 25) rfl)) rfl
theorem w506 : (Cond.code ({ cls := "WishToChip$Steps", name := "restart", desc := "()V" } : MethodName) prog_8_method_3_code (1 : Nat) (Option.none : Option FieldType)) ∈ zgw := zgw_k (tt3 _ (List.mem_of_getElem? (i := 26) rfl)) rfl
theorem w507 : (Cond.methodLink "WishToChipLaw" (38 : Nat) ({ cls := "WishToChip", name := "line", desc := "(III)I" } : MethodName)) ∈ zgw := zgw_k (tt3 _ (List.mem_of_getElem? (i := 27) rfl)) rfl
theorem w508 : (Cond.instanceMethod ({ cls := "WishToChip", name := "line", desc := "(III)I" } : MethodName)) ∈ zgw := zgw_k (tt3 _ (List.mem_of_getElem? (i := 28) rfl)) rfl
theorem w509 : (Cond.selects "WishToChip" ({ cls := "WishToChip", name := "line", desc := "(III)I" } : MethodName) ({ cls := "WishToChip", name := "line", desc := "(III)I" } : MethodName)) ∈ zgw := zgw_k (tt3 _ (List.mem_of_getElem? (i := 29) rfl)) rfl
theorem w510 : (Cond.code ({ cls := "WishToChip", name := "line", desc := "(III)I" } : MethodName) prog_1_method_7_code (5 : Nat) (Option.some FieldType.int)) ∈ zgw := zgw_k (tt3 _ (List.mem_of_getElem? (i := 30) rfl)) rfl
theorem w511 : (Cond.methodLink "WishToChip" (143 : Nat) ({ cls := "WishToChip", name := "mayHaveLine", desc := "(I)Z" } : MethodName)) ∈ zgw := zgw_k (tt3 _ (List.mem_of_getElem? (i := 31) rfl)) rfl
theorem w512 : (Cond.methodLink "WishToChip" (146 : Nat) ({ cls := "WishToChip$View", name := "hasLine", desc := "(I)Z" } : MethodName)) ∈ zgw := zgw_k (tt3 _ (List.mem_of_getElem? (i := 32) rfl)) rfl
theorem w513 : (Cond.methodLink "WishToChipLaw" (43 : Nat) ({ cls := "WishToChip", name := "state", desc := "(I)I" } : MethodName)) ∈ zgw := zgw_k (tt3 _ (List.mem_of_getElem? (i := 33) rfl)) rfl
theorem w514 : (Cond.instanceMethod ({ cls := "WishToChip", name := "state", desc := "(I)I" } : MethodName)) ∈ zgw := zgw_k (tt3 _ (List.mem_of_getElem? (i := 34) rfl)) rfl
theorem w515 : (Cond.selects "WishToChip" ({ cls := "WishToChip", name := "state", desc := "(I)I" } : MethodName) ({ cls := "WishToChip", name := "state", desc := "(I)I" } : MethodName)) ∈ zgw := zgw_k (tt3 _ (List.mem_of_getElem? (i := 35) rfl)) rfl
theorem w516 : (Cond.code ({ cls := "WishToChip", name := "state", desc := "(I)I" } : MethodName) prog_1_method_8_code (3 : Nat) (Option.some FieldType.int)) ∈ zgw := zgw_k (tt3 _ (List.mem_of_getElem? (i := 36) rfl)) rfl
theorem w517 : (Cond.methodLink "WishToChip" (162 : Nat) ({ cls := "WishToChip$Steps", name := "areRegisters", desc := "(I)Z" } : MethodName)) ∈ zgw := zgw_k (tt3 _ (List.mem_of_getElem? (i := 37) rfl)) rfl
theorem w518 : (Cond.static ({ cls := "WishToChip$Steps", name := "areRegisters", desc := "(I)Z" } : MethodName)) ∈ zgw := zgw_k (tt3 _ (List.mem_of_getElem? (i := 38) rfl)) rfl
theorem w519 : (Cond.code ({ cls := "WishToChip$Steps", name := "areRegisters", desc := "(I)Z" } : MethodName) prog_8_method_2_code (1 : Nat) (Option.some FieldType.boolean)) ∈ zgw := zgw_k (tt3 _ (List.mem_of_getElem? (i := 39) rfl)) rfl
theorem n520 : (Cond.methodLinkNest "WishToChip$Steps" (25 : Nat) ({ cls := "WishToChip", name := "isBelow", desc := "(II)Z" } : MethodName) "WishToChip") ∈ zNw := zNw_k (tt3 _ (List.mem_of_getElem? (i := 40) rfl)) rfl
theorem w521 : (Cond.methodLink "WishToChipLaw" (47 : Nat) ({ cls := "WishToChip", name := "step", desc := "(II)I" } : MethodName)) ∈ zgw := zgw_k (tt3 _ (List.mem_of_getElem? (i := 41) rfl)) rfl
theorem w522 : (Cond.instanceMethod ({ cls := "WishToChip", name := "step", desc := "(II)I" } : MethodName)) ∈ zgw := zgw_k (tt3 _ (List.mem_of_getElem? (i := 42) rfl)) rfl
theorem w523 : (Cond.selects "WishToChip" ({ cls := "WishToChip", name := "step", desc := "(II)I" } : MethodName) ({ cls := "WishToChip", name := "step", desc := "(II)I" } : MethodName)) ∈ zgw := zgw_k (tt3 _ (List.mem_of_getElem? (i := 43) rfl)) rfl
theorem w524 : (Cond.code ({ cls := "WishToChip", name := "step", desc := "(II)I" } : MethodName) prog_1_method_9_code (3 : Nat) (Option.some FieldType.int)) ∈ zgw := zgw_k (tt3 _ (List.mem_of_getElem? (i := 44) rfl)) rfl
theorem w525 : (Cond.methodLink "WishToChip" (168 : Nat) ({ cls := "WishToChip", name := "isBelow", desc := "(II)Z" } : MethodName)) ∈ zgw := zgw_k (tt3 _ (List.mem_of_getElem? (i := 45) rfl)) rfl
theorem w526 : (Cond.methodLink "WishToChip" (172 : Nat) ({ cls := "WishToChip$Steps", name := "take", desc := "(LWishToChip$View;II)I" } : MethodName)) ∈ zgw := zgw_k (tt3 _ (List.mem_of_getElem? (i := 46) rfl)) rfl
theorem w527 : (Cond.instanceMethod ({ cls := "WishToChip$Steps", name := "take", desc := "(LWishToChip$View;II)I" } : MethodName)) ∈ zgw := zgw_k (tt3 _ (List.mem_of_getElem? (i := 47) rfl)) rfl
theorem w528 : (Cond.selects "WishToChip$Steps" ({ cls := "WishToChip$Steps", name := "take", desc := "(LWishToChip$View;II)I" } : MethodName) ({ cls := "WishToChip$Steps", name := "take", desc := "(LWishToChip$View;II)I" } : MethodName)) ∈ zgw := zgw_k (tt3 _ (List.mem_of_getElem? (i := 48) rfl)) rfl
theorem w529 : (Cond.code ({ cls := "WishToChip$Steps", name := "take", desc := "(LWishToChip$View;II)I" } : MethodName) prog_8_method_4_code (8 : Nat) (Option.some FieldType.int)) ∈ zgw := zgw_k (tt3 _ (List.mem_of_getElem? (i := 49) rfl)) rfl
theorem n530 : (Cond.methodLinkNest "WishToChip$Steps" (29 : Nat) ({ cls := "WishToChip", name := "hasBit", desc := "(II)Z" } : MethodName) "WishToChip") ∈ zNw := zNw_k (tt3 _ (List.mem_of_getElem? (i := 50) rfl)) rfl
theorem w531 : (Cond.methodLink "WishToChip$Steps" (40 : Nat) ({ cls := "WishToChip$Steps", name := "make", desc := "(LWishToChip$View;I)I" } : MethodName)) ∈ zgw := zgw_k (tt3 _ (List.mem_of_getElem? (i := 51) rfl)) rfl
theorem w533 : (Cond.instanceMethod ({ cls := "WishToChip$Steps", name := "make", desc := "(LWishToChip$View;I)I" } : MethodName)) ∈ zgw := zgw_k (tt3 _ (List.mem_of_getElem? (i := 53) rfl)) rfl
theorem w534 : (Cond.code ({ cls := "WishToChip$Steps", name := "make", desc := "(LWishToChip$View;I)I" } : MethodName) prog_8_method_5_code (6 : Nat) (Option.some FieldType.int)) ∈ zgw := zgw_k (tt3 _ (List.mem_of_getElem? (i := 54) rfl)) rfl
theorem n535 : (Cond.methodLinkNest "WishToChip$Steps" (57 : Nat) ({ cls := "WishToChip", name := "kindOf", desc := "(I)I" } : MethodName) "WishToChip") ∈ zNw := zNw_k (tt3 _ (List.mem_of_getElem? (i := 55) rfl)) rfl
theorem w536 : (Cond.static ({ cls := "WishToChip", name := "kindOf", desc := "(I)I" } : MethodName)) ∈ zgw := zgw_k (tt3 _ (List.mem_of_getElem? (i := 56) rfl)) rfl
theorem w537 : (Cond.code ({ cls := "WishToChip", name := "kindOf", desc := "(I)I" } : MethodName) prog_1_method_47_code (1 : Nat) (Option.some FieldType.int)) ∈ zgw := zgw_k (tt3 _ (List.mem_of_getElem? (i := 57) rfl)) rfl
theorem n538 : (Cond.methodLinkNest "WishToChip$Steps" (61 : Nat) ({ cls := "WishToChip", name := "slotOf", desc := "(I)I" } : MethodName) "WishToChip") ∈ zNw := zNw_k (tt3 _ (List.mem_of_getElem? (i := 58) rfl)) rfl
theorem w539 : (Cond.static ({ cls := "WishToChip", name := "slotOf", desc := "(I)I" } : MethodName)) ∈ zgw := zgw_k (tt3 _ (List.mem_of_getElem? (i := 59) rfl)) rfl
theorem w540 : (Cond.code ({ cls := "WishToChip", name := "slotOf", desc := "(I)I" } : MethodName) prog_1_method_48_code (1 : Nat) (Option.some FieldType.int)) ∈ zgw := zgw_k (tt3 _ (List.mem_of_getElem? (i := 60) rfl)) rfl
theorem w541 : (Cond.methodLink "WishToChip$Steps" (64 : Nat) ({ cls := "WishToChip$Steps", name := "gateOf", desc := "(IIII)I" } : MethodName)) ∈ zgw := zgw_k (tt3 _ (List.mem_of_getElem? (i := 61) rfl)) rfl
theorem w542 : (Cond.static ({ cls := "WishToChip$Steps", name := "gateOf", desc := "(IIII)I" } : MethodName)) ∈ zgw := zgw_k (tt3 _ (List.mem_of_getElem? (i := 62) rfl)) rfl
theorem w543 : (Cond.code ({ cls := "WishToChip$Steps", name := "gateOf", desc := "(IIII)I" } : MethodName) prog_8_method_6_code (4 : Nat) (Option.some FieldType.int)) ∈ zgw := zgw_k (tt3 _ (List.mem_of_getElem? (i := 63) rfl)) rfl
theorem w544 : (Cond.methodLink "WishToChip$Steps" (68 : Nat) ({ cls := "WishToChip$Steps", name := "turned", desc := "(I)I" } : MethodName)) ∈ zgw := zgw_k (tt3 _ (List.mem_of_getElem? (i := 64) rfl)) rfl
theorem w545 : (Cond.static ({ cls := "WishToChip$Steps", name := "turned", desc := "(I)I" } : MethodName)) ∈ zgw := zgw_k (tt3 _ (List.mem_of_getElem? (i := 65) rfl)) rfl
theorem w546 : (Cond.code ({ cls := "WishToChip$Steps", name := "turned", desc := "(I)I" } : MethodName) prog_8_method_7_code (1 : Nat) (Option.some FieldType.int)) ∈ zgw := zgw_k (tt3 _ (List.mem_of_getElem? (i := 66) rfl)) rfl
theorem w547 : (Cond.methodLink "WishToChip$Steps" (71 : Nat) ({ cls := "WishToChip$Steps", name := "both", desc := "(II)I" } : MethodName)) ∈ zgw := zgw_k (tt3 _ (List.mem_of_getElem? (i := 67) rfl)) rfl
theorem w548 : (Cond.static ({ cls := "WishToChip$Steps", name := "both", desc := "(II)I" } : MethodName)) ∈ zgw := zgw_k (tt3 _ (List.mem_of_getElem? (i := 68) rfl)) rfl
theorem w549 : (Cond.code ({ cls := "WishToChip$Steps", name := "both", desc := "(II)I" } : MethodName) prog_8_method_8_code (2 : Nat) (Option.some FieldType.int)) ∈ zgw := zgw_k (tt3 _ (List.mem_of_getElem? (i := 69) rfl)) rfl
theorem w550 : (Cond.methodLink "WishToChip$Steps" (75 : Nat) ({ cls := "WishToChip$Steps", name := "chosen", desc := "(III)I" } : MethodName)) ∈ zgw := zgw_k (tt3 _ (List.mem_of_getElem? (i := 70) rfl)) rfl
theorem w551 : (Cond.static ({ cls := "WishToChip$Steps", name := "chosen", desc := "(III)I" } : MethodName)) ∈ zgw := zgw_k (tt3 _ (List.mem_of_getElem? (i := 71) rfl)) rfl
theorem w552 : (Cond.code ({ cls := "WishToChip$Steps", name := "chosen", desc := "(III)I" } : MethodName) prog_8_method_9_code (3 : Nat) (Option.some FieldType.int)) ∈ zgw := zgw_k (tt3 _ (List.mem_of_getElem? (i := 72) rfl)) rfl
theorem n553 : (Cond.methodLinkNest "WishToChip$Steps" (44 : Nat) ({ cls := "WishToChip", name := "isWire", desc := "(I)Z" } : MethodName) "WishToChip") ∈ zNw := zNw_k (tt3 _ (List.mem_of_getElem? (i := 73) rfl)) rfl
theorem w554 : (Cond.static ({ cls := "WishToChip", name := "isWire", desc := "(I)Z" } : MethodName)) ∈ zgw := zgw_k (tt3 _ (List.mem_of_getElem? (i := 74) rfl)) rfl
theorem w555 : (Cond.code ({ cls := "WishToChip", name := "isWire", desc := "(I)Z" } : MethodName) prog_1_method_43_code (1 : Nat) (Option.some FieldType.boolean)) ∈ zgw := zgw_k (tt3 _ (List.mem_of_getElem? (i := 75) rfl)) rfl
theorem w556 : (Cond.methodLink "WishToChipLaw" (51 : Nat) ({ cls := "WishToChip", name := "value", desc := "(I)I" } : MethodName)) ∈ zgw := zgw_k (tt3 _ (List.mem_of_getElem? (i := 76) rfl)) rfl
theorem w557 : (Cond.instanceMethod ({ cls := "WishToChip", name := "value", desc := "(I)I" } : MethodName)) ∈ zgw := zgw_k (tt3 _ (List.mem_of_getElem? (i := 77) rfl)) rfl
theorem w558 : (Cond.selects "WishToChip" ({ cls := "WishToChip", name := "value", desc := "(I)I" } : MethodName) ({ cls := "WishToChip", name := "value", desc := "(I)I" } : MethodName)) ∈ zgw := zgw_k (tt3 _ (List.mem_of_getElem? (i := 78) rfl)) rfl
theorem w559 : (Cond.code ({ cls := "WishToChip", name := "value", desc := "(I)I" } : MethodName) prog_1_method_10_code (2 : Nat) (Option.some FieldType.int)) ∈ zgw := zgw_k (tt3 _ (List.mem_of_getElem? (i := 79) rfl)) rfl
theorem w560 : (Cond.methodLink "WishToChipLaw" (55 : Nat) ({ cls := "WishToChip", name := "truth", desc := "(III)I" } : MethodName)) ∈ zgw := zgw_k (tt3 _ (List.mem_of_getElem? (i := 80) rfl)) rfl
theorem w561 : (Cond.instanceMethod ({ cls := "WishToChip", name := "truth", desc := "(III)I" } : MethodName)) ∈ zgw := zgw_k (tt3 _ (List.mem_of_getElem? (i := 81) rfl)) rfl
theorem w562 : (Cond.selects "WishToChip" ({ cls := "WishToChip", name := "truth", desc := "(III)I" } : MethodName) ({ cls := "WishToChip", name := "truth", desc := "(III)I" } : MethodName)) ∈ zgw := zgw_k (tt3 _ (List.mem_of_getElem? (i := 82) rfl)) rfl
theorem w563 : (Cond.code ({ cls := "WishToChip", name := "truth", desc := "(III)I" } : MethodName) prog_1_method_11_code (4 : Nat) (Option.some FieldType.int)) ∈ zgw := zgw_k (tt3 _ (List.mem_of_getElem? (i := 83) rfl)) rfl
theorem w564 : (Cond.methodLink "WishToChip" (182 : Nat) ({ cls := "WishToChip$Lanes", name := "runRow", desc := "(LWishToChip$View;I)V" } : MethodName)) ∈ zgw := zgw_k (tt3 _ (List.mem_of_getElem? (i := 84) rfl)) rfl
theorem w565 : (Cond.instanceMethod ({ cls := "WishToChip$Lanes", name := "runRow", desc := "(LWishToChip$View;I)V" } : MethodName)) ∈ zgw := zgw_k (tt3 _ (List.mem_of_getElem? (i := 85) rfl)) rfl
theorem w566 : (Cond.selects "WishToChip$Lanes" ({ cls := "WishToChip$Lanes", name := "runRow", desc := "(LWishToChip$View;I)V" } : MethodName) ({ cls := "WishToChip$Lanes", name := "runRow", desc := "(LWishToChip$View;I)V" } : MethodName)) ∈ zgw := zgw_k (tt3 _ (List.mem_of_getElem? (i := 86) rfl)) rfl
theorem w567 : (Cond.code ({ cls := "WishToChip$Lanes", name := "runRow", desc := "(LWishToChip$View;I)V" } : MethodName) prog_6_method_5_code (4 : Nat) (Option.none : Option FieldType)) ∈ zgw := zgw_k (tt3 _ (List.mem_of_getElem? (i := 87) rfl)) rfl
theorem w568 : (Cond.methodLink "WishToChip$Lanes" (44 : Nat) ({ cls := "WishToChip$Lanes", name := "inAllLanes", desc := "(I)J" } : MethodName)) ∈ zgw := zgw_k (tt3 _ (List.mem_of_getElem? (i := 88) rfl)) rfl
theorem w569 : (Cond.static ({ cls := "WishToChip$Lanes", name := "inAllLanes", desc := "(I)J" } : MethodName)) ∈ zgw := zgw_k (tt3 _ (List.mem_of_getElem? (i := 89) rfl)) rfl
theorem w570 : (Cond.code ({ cls := "WishToChip$Lanes", name := "inAllLanes", desc := "(I)J" } : MethodName) prog_6_method_6_code (1 : Nat) (Option.some FieldType.long)) ∈ zgw := zgw_k (tt3 _ (List.mem_of_getElem? (i := 90) rfl)) rfl
theorem w571 : (Cond.methodLink "WishToChip$Lanes" (48 : Nat) ({ cls := "WishToChip$Lanes", name := "run", desc := "(LWishToChip$View;)V" } : MethodName)) ∈ zgw := zgw_k (tt3 _ (List.mem_of_getElem? (i := 91) rfl)) rfl
theorem w573 : (Cond.instanceMethod ({ cls := "WishToChip$Lanes", name := "run", desc := "(LWishToChip$View;)V" } : MethodName)) ∈ zgw := zgw_k (tt3 _ (List.mem_of_getElem? (i := 93) rfl)) rfl
theorem w574 : (Cond.code ({ cls := "WishToChip$Lanes", name := "run", desc := "(LWishToChip$View;)V" } : MethodName) prog_6_method_7_code (6 : Nat) (Option.none : Option FieldType)) ∈ zgw := zgw_k (tt3 _ (List.mem_of_getElem? (i := 94) rfl)) rfl
theorem n575 : (Cond.methodLinkNest "WishToChip$Lanes" (52 : Nat) ({ cls := "WishToChip", name := "isWire", desc := "(I)Z" } : MethodName) "WishToChip") ∈ zNw := zNw_k (tt3 _ (List.mem_of_getElem? (i := 95) rfl)) rfl
theorem w576 : (Cond.methodLink "WishToChip$Lanes" (56 : Nat) ({ cls := "WishToChip$Lanes", name := "stuck", desc := "(IJ)J" } : MethodName)) ∈ zgw := zgw_k (tt3 _ (List.mem_of_getElem? (i := 96) rfl)) rfl
theorem w578 : (Cond.instanceMethod ({ cls := "WishToChip$Lanes", name := "stuck", desc := "(IJ)J" } : MethodName)) ∈ zgw := zgw_k (tt3 _ (List.mem_of_getElem? (i := 98) rfl)) rfl
theorem w579 : (Cond.code ({ cls := "WishToChip$Lanes", name := "stuck", desc := "(IJ)J" } : MethodName) prog_6_method_8_code (4 : Nat) (Option.some FieldType.long)) ∈ zgw := zgw_k (tt3 _ (List.mem_of_getElem? (i := 99) rfl)) rfl
theorem w580 : (Cond.constantLong "WishToChip$Lanes" (37 : Nat) (-1 : Int64)) ∈ zgw := zgw_k (tt3 _ (List.mem_of_getElem? (i := 100) rfl)) rfl
theorem w581 : (Cond.methodLink "WishToChip$Lanes" (70 : Nat) ({ cls := "WishToChip$Lanes", name := "make", desc := "(LWishToChip$View;I)J" } : MethodName)) ∈ zgw := zgw_k (tt3 _ (List.mem_of_getElem? (i := 101) rfl)) rfl
theorem w583 : (Cond.instanceMethod ({ cls := "WishToChip$Lanes", name := "make", desc := "(LWishToChip$View;I)J" } : MethodName)) ∈ zgw := zgw_k (tt3 _ (List.mem_of_getElem? (i := 103) rfl)) rfl
theorem w584 : (Cond.code ({ cls := "WishToChip$Lanes", name := "make", desc := "(LWishToChip$View;I)J" } : MethodName) prog_6_method_9_code (6 : Nat) (Option.some FieldType.long)) ∈ zgw := zgw_k (tt3 _ (List.mem_of_getElem? (i := 104) rfl)) rfl
theorem n585 : (Cond.methodLinkNest "WishToChip$Lanes" (83 : Nat) ({ cls := "WishToChip", name := "kindOf", desc := "(I)I" } : MethodName) "WishToChip") ∈ zNw := zNw_k (tt3 _ (List.mem_of_getElem? (i := 105) rfl)) rfl
theorem n586 : (Cond.methodLinkNest "WishToChip$Lanes" (87 : Nat) ({ cls := "WishToChip", name := "slotOf", desc := "(I)I" } : MethodName) "WishToChip") ∈ zNw := zNw_k (tt3 _ (List.mem_of_getElem? (i := 106) rfl)) rfl
theorem w587 : (Cond.methodLink "WishToChip$Lanes" (90 : Nat) ({ cls := "WishToChip$Lanes", name := "gateOf", desc := "(IJJJ)J" } : MethodName)) ∈ zgw := zgw_k (tt3 _ (List.mem_of_getElem? (i := 107) rfl)) rfl
theorem w588 : (Cond.static ({ cls := "WishToChip$Lanes", name := "gateOf", desc := "(IJJJ)J" } : MethodName)) ∈ zgw := zgw_k (tt3 _ (List.mem_of_getElem? (i := 108) rfl)) rfl
theorem w589 : (Cond.code ({ cls := "WishToChip$Lanes", name := "gateOf", desc := "(IJJJ)J" } : MethodName) prog_6_method_10_code (7 : Nat) (Option.some FieldType.long)) ∈ zgw := zgw_k (tt3 _ (List.mem_of_getElem? (i := 109) rfl)) rfl
theorem w590 : (Cond.methodLink "WishToChipLaw" (59 : Nat) ({ cls := "WishToChip", name := "ones", desc := "(II)I" } : MethodName)) ∈ zgw := zgw_k (tt3 _ (List.mem_of_getElem? (i := 110) rfl)) rfl
theorem w591 : (Cond.instanceMethod ({ cls := "WishToChip", name := "ones", desc := "(II)I" } : MethodName)) ∈ zgw := zgw_k (tt3 _ (List.mem_of_getElem? (i := 111) rfl)) rfl
theorem w592 : (Cond.selects "WishToChip" ({ cls := "WishToChip", name := "ones", desc := "(II)I" } : MethodName) ({ cls := "WishToChip", name := "ones", desc := "(II)I" } : MethodName)) ∈ zgw := zgw_k (tt3 _ (List.mem_of_getElem? (i := 112) rfl)) rfl
theorem w593 : (Cond.code ({ cls := "WishToChip", name := "ones", desc := "(II)I" } : MethodName) prog_1_method_12_code (5 : Nat) (Option.some FieldType.int)) ∈ zgw := zgw_k (tt3 _ (List.mem_of_getElem? (i := 113) rfl)) rfl
theorem w594 : (Cond.methodLink "WishToChip" (190 : Nat) ({ cls := "WishToChip$Lanes", name := "runState", desc := "(LWishToChip$View;I)V" } : MethodName)) ∈ zgw := zgw_k (tt3 _ (List.mem_of_getElem? (i := 114) rfl)) rfl
theorem w595 : (Cond.instanceMethod ({ cls := "WishToChip$Lanes", name := "runState", desc := "(LWishToChip$View;I)V" } : MethodName)) ∈ zgw := zgw_k (tt3 _ (List.mem_of_getElem? (i := 115) rfl)) rfl
theorem w596 : (Cond.selects "WishToChip$Lanes" ({ cls := "WishToChip$Lanes", name := "runState", desc := "(LWishToChip$View;I)V" } : MethodName) ({ cls := "WishToChip$Lanes", name := "runState", desc := "(LWishToChip$View;I)V" } : MethodName)) ∈ zgw := zgw_k (tt3 _ (List.mem_of_getElem? (i := 116) rfl)) rfl
theorem w597 : (Cond.code ({ cls := "WishToChip$Lanes", name := "runState", desc := "(LWishToChip$View;I)V" } : MethodName) prog_6_method_4_code (4 : Nat) (Option.none : Option FieldType)) ∈ zgw := zgw_k (tt3 _ (List.mem_of_getElem? (i := 117) rfl)) rfl
theorem w598 : (Cond.fieldLink "WishToChip$Lanes" (41 : Nat) "WishToChip$Lanes" "INPUT_LANES" "[J") ∈ zgw := zgw_k (tt3 _ (List.mem_of_getElem? (i := 118) rfl)) rfl
theorem w600 : (Cond.methodLink "WishToChip" (193 : Nat) ({ cls := "java/lang/Long", name := "bitCount", desc := "(J)I" } : MethodName)) ∈ zgw := zgw_k (tt3 _ (List.mem_of_getElem? (i := 120) rfl)) rfl
theorem w601 : (Cond.static ({ cls := "java/lang/Long", name := "bitCount", desc := "(J)I" } : MethodName)) ∈ zgw := zgw_k (tt3 _ (List.mem_of_getElem? (i := 121) rfl)) rfl
theorem w602 : (Cond.code ({ cls := "java/lang/Long", name := "bitCount", desc := "(J)I" } : MethodName) prog_16_method_50_code (2 : Nat) (Option.some FieldType.int)) ∈ zgw := zgw_k (tt3 _ (List.mem_of_getElem? (i := 122) rfl)) rfl
theorem w603 : (Cond.constantLong "java/lang/Long" (314 : Nat) (6148914691236517205 : Int64)) ∈ zgw := zgw_k (tt3 _ (List.mem_of_getElem? (i := 123) rfl)) rfl
theorem w604 : (Cond.constantLong "java/lang/Long" (316 : Nat) (3689348814741910323 : Int64)) ∈ zgw := zgw_k (tt3 _ (List.mem_of_getElem? (i := 124) rfl)) rfl
theorem w605 : (Cond.constantLong "java/lang/Long" (318 : Nat) (1085102592571150095 : Int64)) ∈ zgw := zgw_k (tt3 _ (List.mem_of_getElem? (i := 125) rfl)) rfl
theorem w606 : (Cond.methodLink "WishToChipLaw" (63 : Nat) ({ cls := "WishToChip", name := "start", desc := "(I)I" } : MethodName)) ∈ zgw := zgw_k (tt3 _ (List.mem_of_getElem? (i := 126) rfl)) rfl
theorem w607 : (Cond.instanceMethod ({ cls := "WishToChip", name := "start", desc := "(I)I" } : MethodName)) ∈ zgw := zgw_k (tt3 _ (List.mem_of_getElem? (i := 127) rfl)) rfl
theorem w608 : (Cond.selects "WishToChip" ({ cls := "WishToChip", name := "start", desc := "(I)I" } : MethodName) ({ cls := "WishToChip", name := "start", desc := "(I)I" } : MethodName)) ∈ zgw := zgw_k (tt3 _ (List.mem_of_getElem? (i := 128) rfl)) rfl
theorem w609 : (Cond.code ({ cls := "WishToChip", name := "start", desc := "(I)I" } : MethodName) prog_1_method_13_code (3 : Nat) (Option.some FieldType.int)) ∈ zgw := zgw_k (tt3 _ (List.mem_of_getElem? (i := 129) rfl)) rfl
theorem w610 : (Cond.methodLink "WishToChipLaw" (67 : Nat) ({ cls := "WishToChip", name := "states", desc := "()I" } : MethodName)) ∈ zgw := zgw_k (tt3 _ (List.mem_of_getElem? (i := 130) rfl)) rfl
theorem w611 : (Cond.instanceMethod ({ cls := "WishToChip", name := "states", desc := "()I" } : MethodName)) ∈ zgw := zgw_k (tt3 _ (List.mem_of_getElem? (i := 131) rfl)) rfl
theorem w612 : (Cond.selects "WishToChip" ({ cls := "WishToChip", name := "states", desc := "()I" } : MethodName) ({ cls := "WishToChip", name := "states", desc := "()I" } : MethodName)) ∈ zgw := zgw_k (tt3 _ (List.mem_of_getElem? (i := 132) rfl)) rfl
theorem w613 : (Cond.code ({ cls := "WishToChip", name := "states", desc := "()I" } : MethodName) prog_1_method_14_code (1 : Nat) (Option.some FieldType.int)) ∈ zgw := zgw_k (tt3 _ (List.mem_of_getElem? (i := 133) rfl)) rfl
theorem w614 : (Cond.methodLink "WishToChip" (199 : Nat) ({ cls := "WishToChip$Lanes", name := "statesFrom", desc := "(LWishToChip$View;I)I" } : MethodName)) ∈ zgw := zgw_k (tt3 _ (List.mem_of_getElem? (i := 134) rfl)) rfl
theorem w615 : (Cond.instanceMethod ({ cls := "WishToChip$Lanes", name := "statesFrom", desc := "(LWishToChip$View;I)I" } : MethodName)) ∈ zgw := zgw_k (tt3 _ (List.mem_of_getElem? (i := 135) rfl)) rfl
theorem w616 : (Cond.selects "WishToChip$Lanes" ({ cls := "WishToChip$Lanes", name := "statesFrom", desc := "(LWishToChip$View;I)I" } : MethodName) ({ cls := "WishToChip$Lanes", name := "statesFrom", desc := "(LWishToChip$View;I)I" } : MethodName)) ∈ zgw := zgw_k (tt3 _ (List.mem_of_getElem? (i := 136) rfl)) rfl
theorem w617 : (Cond.code ({ cls := "WishToChip$Lanes", name := "statesFrom", desc := "(LWishToChip$View;I)I" } : MethodName) prog_6_method_12_code (8 : Nat) (Option.some FieldType.int)) ∈ zgw := zgw_k (tt3 _ (List.mem_of_getElem? (i := 137) rfl)) rfl
theorem n618 : (Cond.methodLinkNest "WishToChip$Lanes" (94 : Nat) ({ cls := "WishToChip", name := "hasBit", desc := "(II)Z" } : MethodName) "WishToChip") ∈ zNw := zNw_k (tt3 _ (List.mem_of_getElem? (i := 138) rfl)) rfl
theorem w619 : (Cond.methodLink "WishToChip$Lanes" (97 : Nat) ({ cls := "WishToChip$Lanes", name := "runState", desc := "(LWishToChip$View;I)V" } : MethodName)) ∈ zgw := zgw_k (tt3 _ (List.mem_of_getElem? (i := 139) rfl)) rfl
theorem w620 : (Cond.methodLink "WishToChip$Lanes" (101 : Nat) ({ cls := "WishToChip$Lanes", name := "statesShown", desc := "()I" } : MethodName)) ∈ zgw := zgw_k (tt3 _ (List.mem_of_getElem? (i := 140) rfl)) rfl
theorem w622 : (Cond.instanceMethod ({ cls := "WishToChip$Lanes", name := "statesShown", desc := "()I" } : MethodName)) ∈ zgw := zgw_k (tt3 _ (List.mem_of_getElem? (i := 142) rfl)) rfl
theorem w623 : (Cond.code ({ cls := "WishToChip$Lanes", name := "statesShown", desc := "()I" } : MethodName) prog_6_method_13_code (6 : Nat) (Option.some FieldType.int)) ∈ zgw := zgw_k (tt3 _ (List.mem_of_getElem? (i := 143) rfl)) rfl
theorem w624 : (Cond.methodLink "WishToChipLaw" (72 : Nat) ({ cls := "WishToChip", name := "differ", desc := "(I)I" } : MethodName)) ∈ zgw := zgw_k (tt3 _ (List.mem_of_getElem? (i := 144) rfl)) rfl
theorem w625 : (Cond.instanceMethod ({ cls := "WishToChip", name := "differ", desc := "(I)I" } : MethodName)) ∈ zgw := zgw_k (tt3 _ (List.mem_of_getElem? (i := 145) rfl)) rfl
theorem w626 : (Cond.selects "WishToChip" ({ cls := "WishToChip", name := "differ", desc := "(I)I" } : MethodName) ({ cls := "WishToChip", name := "differ", desc := "(I)I" } : MethodName)) ∈ zgw := zgw_k (tt3 _ (List.mem_of_getElem? (i := 146) rfl)) rfl
theorem w627 : (Cond.code ({ cls := "WishToChip", name := "differ", desc := "(I)I" } : MethodName) prog_1_method_15_code (6 : Nat) (Option.some FieldType.int)) ∈ zgw := zgw_k (tt3 _ (List.mem_of_getElem? (i := 147) rfl)) rfl
theorem w628 : (Cond.methodLink "WishToChip" (203 : Nat) ({ cls := "WishToChip", name := "hasBit", desc := "(II)Z" } : MethodName)) ∈ zgw := zgw_k (tt3 _ (List.mem_of_getElem? (i := 148) rfl)) rfl
theorem w629 : (Cond.methodLink "WishToChip" (206 : Nat) ({ cls := "WishToChip$Lanes", name := "unlike", desc := "(LWishToChip$Lanes;I)J" } : MethodName)) ∈ zgw := zgw_k (tt3 _ (List.mem_of_getElem? (i := 149) rfl)) rfl
theorem w630 : (Cond.instanceMethod ({ cls := "WishToChip$Lanes", name := "unlike", desc := "(LWishToChip$Lanes;I)J" } : MethodName)) ∈ zgw := zgw_k (tt3 _ (List.mem_of_getElem? (i := 150) rfl)) rfl
theorem w631 : (Cond.selects "WishToChip$Lanes" ({ cls := "WishToChip$Lanes", name := "unlike", desc := "(LWishToChip$Lanes;I)J" } : MethodName) ({ cls := "WishToChip$Lanes", name := "unlike", desc := "(LWishToChip$Lanes;I)J" } : MethodName)) ∈ zgw := zgw_k (tt3 _ (List.mem_of_getElem? (i := 151) rfl)) rfl
theorem w632 : (Cond.code ({ cls := "WishToChip$Lanes", name := "unlike", desc := "(LWishToChip$Lanes;I)J" } : MethodName) prog_6_method_11_code (6 : Nat) (Option.some FieldType.long)) ∈ zgw := zgw_k (tt3 _ (List.mem_of_getElem? (i := 152) rfl)) rfl
theorem w633 : (Cond.methodLink "WishToChip" (210 : Nat) ({ cls := "WishToChip", name := "leastRow", desc := "(IJ)I" } : MethodName)) ∈ zgw := zgw_k (tt3 _ (List.mem_of_getElem? (i := 153) rfl)) rfl
theorem w634 : (Cond.static ({ cls := "WishToChip", name := "leastRow", desc := "(IJ)I" } : MethodName)) ∈ zgw := zgw_k (tt3 _ (List.mem_of_getElem? (i := 154) rfl)) rfl
theorem w635 : (Cond.code ({ cls := "WishToChip", name := "leastRow", desc := "(IJ)I" } : MethodName) prog_1_method_45_code (3 : Nat) (Option.some FieldType.int)) ∈ zgw := zgw_k (tt3 _ (List.mem_of_getElem? (i := 155) rfl)) rfl
theorem w636 : (Cond.methodLink "WishToChip" (342 : Nat) ({ cls := "java/lang/Long", name := "numberOfTrailingZeros", desc := "(J)I" } : MethodName)) ∈ zgw := zgw_k (tt3 _ (List.mem_of_getElem? (i := 156) rfl)) rfl
theorem w637 : (Cond.static ({ cls := "java/lang/Long", name := "numberOfTrailingZeros", desc := "(J)I" } : MethodName)) ∈ zgw := zgw_k (tt3 _ (List.mem_of_getElem? (i := 157) rfl)) rfl
theorem w638 : (Cond.code ({ cls := "java/lang/Long", name := "numberOfTrailingZeros", desc := "(J)I" } : MethodName) prog_16_method_49_code (3 : Nat) (Option.some FieldType.int)) ∈ zgw := zgw_k (tt3 _ (List.mem_of_getElem? (i := 158) rfl)) rfl
theorem w639 : (Cond.methodLink "java/lang/Long" (311 : Nat) ({ cls := "java/lang/Integer", name := "numberOfTrailingZeros", desc := "(I)I" } : MethodName)) ∈ zgw := zgw_k (tt3 _ (List.mem_of_getElem? (i := 159) rfl)) rfl
theorem w640 : (Cond.static ({ cls := "java/lang/Integer", name := "numberOfTrailingZeros", desc := "(I)I" } : MethodName)) ∈ zgw := zgw_k (tt3 _ (List.mem_of_getElem? (i := 160) rfl)) rfl
theorem w641 : (Cond.code ({ cls := "java/lang/Integer", name := "numberOfTrailingZeros", desc := "(I)I" } : MethodName) prog_15_method_48_code (2 : Nat) (Option.some FieldType.int)) ∈ zgw := zgw_k (tt3 _ (List.mem_of_getElem? (i := 161) rfl)) rfl
theorem w642 : (Cond.constant "java/lang/Integer" (264 : Nat) (65536 : Int32)) ∈ zgw := zgw_k (tt3 _ (List.mem_of_getElem? (i := 162) rfl)) rfl
theorem w643 : (Cond.methodLink "WishToChipLaw" (76 : Nat) ({ cls := "WishToChip", name := "touched", desc := "()I" } : MethodName)) ∈ zgw := zgw_k (tt3 _ (List.mem_of_getElem? (i := 163) rfl)) rfl
theorem w644 : (Cond.instanceMethod ({ cls := "WishToChip", name := "touched", desc := "()I" } : MethodName)) ∈ zgw := zgw_k (tt3 _ (List.mem_of_getElem? (i := 164) rfl)) rfl
theorem w645 : (Cond.selects "WishToChip" ({ cls := "WishToChip", name := "touched", desc := "()I" } : MethodName) ({ cls := "WishToChip", name := "touched", desc := "()I" } : MethodName)) ∈ zgw := zgw_k (tt3 _ (List.mem_of_getElem? (i := 165) rfl)) rfl
theorem w646 : (Cond.code ({ cls := "WishToChip", name := "touched", desc := "()I" } : MethodName) prog_1_method_16_code (4 : Nat) (Option.some FieldType.int)) ∈ zgw := zgw_k (tt3 _ (List.mem_of_getElem? (i := 166) rfl)) rfl
theorem w647 : (Cond.methodLink "WishToChipLaw" (80 : Nat) ({ cls := "WishToChip", name := "gate", desc := "(III)I" } : MethodName)) ∈ zgw := zgw_k (tt3 _ (List.mem_of_getElem? (i := 167) rfl)) rfl
theorem w648 : (Cond.instanceMethod ({ cls := "WishToChip", name := "gate", desc := "(III)I" } : MethodName)) ∈ zgw := zgw_k (tt3 _ (List.mem_of_getElem? (i := 168) rfl)) rfl
theorem w649 : (Cond.selects "WishToChip" ({ cls := "WishToChip", name := "gate", desc := "(III)I" } : MethodName) ({ cls := "WishToChip", name := "gate", desc := "(III)I" } : MethodName)) ∈ zgw := zgw_k (tt3 _ (List.mem_of_getElem? (i := 169) rfl)) rfl
theorem w650 : (Cond.code ({ cls := "WishToChip", name := "gate", desc := "(III)I" } : MethodName) prog_1_method_17_code (6 : Nat) (Option.some FieldType.int)) ∈ zgw := zgw_k (tt3 _ (List.mem_of_getElem? (i := 170) rfl)) rfl
theorem w651 : (Cond.methodLink "WishToChipLaw" (84 : Nat) ({ cls := "WishToChip", name := "rule", desc := "(II)I" } : MethodName)) ∈ zgw := zgw_k (tt3 _ (List.mem_of_getElem? (i := 171) rfl)) rfl
theorem w652 : (Cond.instanceMethod ({ cls := "WishToChip", name := "rule", desc := "(II)I" } : MethodName)) ∈ zgw := zgw_k (tt3 _ (List.mem_of_getElem? (i := 172) rfl)) rfl
theorem w653 : (Cond.selects "WishToChip" ({ cls := "WishToChip", name := "rule", desc := "(II)I" } : MethodName) ({ cls := "WishToChip", name := "rule", desc := "(II)I" } : MethodName)) ∈ zgw := zgw_k (tt3 _ (List.mem_of_getElem? (i := 173) rfl)) rfl
theorem w654 : (Cond.code ({ cls := "WishToChip", name := "rule", desc := "(II)I" } : MethodName) prog_1_method_18_code (3 : Nat) (Option.some FieldType.int)) ∈ zgw := zgw_k (tt3 _ (List.mem_of_getElem? (i := 174) rfl)) rfl
theorem w655 : (Cond.methodLink "WishToChip" (219 : Nat) ({ cls := "WishToChip$Gates", name := "isRule", desc := "(II)Z" } : MethodName)) ∈ zgw := zgw_k (tt3 _ (List.mem_of_getElem? (i := 175) rfl)) rfl
theorem w656 : (Cond.static ({ cls := "WishToChip$Gates", name := "isRule", desc := "(II)Z" } : MethodName)) ∈ zgw := zgw_k (tt3 _ (List.mem_of_getElem? (i := 176) rfl)) rfl
theorem w657 : (Cond.code ({ cls := "WishToChip$Gates", name := "isRule", desc := "(II)Z" } : MethodName) prog_4_method_2_code (2 : Nat) (Option.some FieldType.boolean)) ∈ zgw := zgw_k (tt3 _ (List.mem_of_getElem? (i := 177) rfl)) rfl
theorem w658 : (Cond.fieldLink "WishToChip$Gates" (21 : Nat) "WishToChip$Gates" "LEAST_RULE" "[I") ∈ zgw := zgw_k (tt3 _ (List.mem_of_getElem? (i := 178) rfl)) rfl
theorem n660 : (Cond.methodLinkNest "WishToChip$Gates" (24 : Nat) ({ cls := "WishToChip", name := "isBelow", desc := "(II)Z" } : MethodName) "WishToChip") ∈ zNw := zNw_k (tt3 _ (List.mem_of_getElem? (i := 180) rfl)) rfl
theorem w661 : (Cond.fieldLink "WishToChip$Gates" (28 : Nat) "WishToChip$Gates" "MOST_RULE" "[I") ∈ zgw := zgw_k (tt3 _ (List.mem_of_getElem? (i := 181) rfl)) rfl
theorem w663 : (Cond.methodLink "WishToChip" (222 : Nat) ({ cls := "WishToChip$Gates", name := "changeRule", desc := "(II)I" } : MethodName)) ∈ zgw := zgw_k (tt3 _ (List.mem_of_getElem? (i := 183) rfl)) rfl
theorem w664 : (Cond.instanceMethod ({ cls := "WishToChip$Gates", name := "changeRule", desc := "(II)I" } : MethodName)) ∈ zgw := zgw_k (tt3 _ (List.mem_of_getElem? (i := 184) rfl)) rfl
theorem w665 : (Cond.selects "WishToChip$Gates" ({ cls := "WishToChip$Gates", name := "changeRule", desc := "(II)I" } : MethodName) ({ cls := "WishToChip$Gates", name := "changeRule", desc := "(II)I" } : MethodName)) ∈ zgw := zgw_k (tt3 _ (List.mem_of_getElem? (i := 185) rfl)) rfl
theorem w666 : (Cond.code ({ cls := "WishToChip$Gates", name := "changeRule", desc := "(II)I" } : MethodName) prog_4_method_3_code (4 : Nat) (Option.some FieldType.int)) ∈ zgw := zgw_k (tt3 _ (List.mem_of_getElem? (i := 186) rfl)) rfl
theorem w667 : (Cond.methodLink "WishToChipLaw" (88 : Nat) ({ cls := "WishToChip", name := "cover", desc := "(II)I" } : MethodName)) ∈ zgw := zgw_k (tt3 _ (List.mem_of_getElem? (i := 187) rfl)) rfl
theorem w668 : (Cond.instanceMethod ({ cls := "WishToChip", name := "cover", desc := "(II)I" } : MethodName)) ∈ zgw := zgw_k (tt3 _ (List.mem_of_getElem? (i := 188) rfl)) rfl
theorem w669 : (Cond.selects "WishToChip" ({ cls := "WishToChip", name := "cover", desc := "(II)I" } : MethodName) ({ cls := "WishToChip", name := "cover", desc := "(II)I" } : MethodName)) ∈ zgw := zgw_k (tt3 _ (List.mem_of_getElem? (i := 189) rfl)) rfl
theorem w670 : (Cond.code ({ cls := "WishToChip", name := "cover", desc := "(II)I" } : MethodName) prog_1_method_19_code (3 : Nat) (Option.some FieldType.int)) ∈ zgw := zgw_k (tt3 _ (List.mem_of_getElem? (i := 190) rfl)) rfl
theorem w671 : (Cond.methodLink "WishToChip" (226 : Nat) ({ cls := "WishToChip$Covers", name := "ofAll", desc := "(LWishToChip$View;[I)I" } : MethodName)) ∈ zgw := zgw_k (tt3 _ (List.mem_of_getElem? (i := 191) rfl)) rfl
theorem w672 : (Cond.instanceMethod ({ cls := "WishToChip$Covers", name := "ofAll", desc := "(LWishToChip$View;[I)I" } : MethodName)) ∈ zgw := zgw_k (tt3 _ (List.mem_of_getElem? (i := 192) rfl)) rfl
theorem w673 : (Cond.selects "WishToChip$Covers" ({ cls := "WishToChip$Covers", name := "ofAll", desc := "(LWishToChip$View;[I)I" } : MethodName) ({ cls := "WishToChip$Covers", name := "ofAll", desc := "(LWishToChip$View;[I)I" } : MethodName)) ∈ zgw := zgw_k (tt3 _ (List.mem_of_getElem? (i := 193) rfl)) rfl
theorem w674 : (Cond.code ({ cls := "WishToChip$Covers", name := "ofAll", desc := "(LWishToChip$View;[I)I" } : MethodName) prog_2_method_2_code (5 : Nat) (Option.some FieldType.int)) ∈ zgw := zgw_k (tt3 _ (List.mem_of_getElem? (i := 194) rfl)) rfl
theorem w675 : (Cond.methodLink "WishToChip$Covers" (27 : Nat) ({ cls := "WishToChip$Covers", name := "ofLine", desc := "(LWishToChip$View;I[I)I" } : MethodName)) ∈ zgw := zgw_k (tt3 _ (List.mem_of_getElem? (i := 195) rfl)) rfl
theorem w676 : (Cond.instanceMethod ({ cls := "WishToChip$Covers", name := "ofLine", desc := "(LWishToChip$View;I[I)I" } : MethodName)) ∈ zgw := zgw_k (tt3 _ (List.mem_of_getElem? (i := 196) rfl)) rfl
theorem w677 : (Cond.selects "WishToChip$Covers" ({ cls := "WishToChip$Covers", name := "ofLine", desc := "(LWishToChip$View;I[I)I" } : MethodName) ({ cls := "WishToChip$Covers", name := "ofLine", desc := "(LWishToChip$View;I[I)I" } : MethodName)) ∈ zgw := zgw_k (tt3 _ (List.mem_of_getElem? (i := 197) rfl)) rfl
theorem w678 : (Cond.code ({ cls := "WishToChip$Covers", name := "ofLine", desc := "(LWishToChip$View;I[I)I" } : MethodName) prog_2_method_3_code (6 : Nat) (Option.some FieldType.int)) ∈ zgw := zgw_k (tt3 _ (List.mem_of_getElem? (i := 198) rfl)) rfl
theorem n679 : (Cond.methodLinkNest "WishToChip$Covers" (40 : Nat) ({ cls := "WishToChip", name := "slotOf", desc := "(I)I" } : MethodName) "WishToChip") ∈ zNw := zNw_k (tt3 _ (List.mem_of_getElem? (i := 199) rfl)) rfl
theorem n680 : (Cond.methodLinkNest "WishToChip$Covers" (44 : Nat) ({ cls := "WishToChip", name := "kindOf", desc := "(I)I" } : MethodName) "WishToChip") ∈ zNw := zNw_k (tt3 _ (List.mem_of_getElem? (i := 200) rfl)) rfl
theorem w681 : (Cond.methodLink "WishToChip$Covers" (47 : Nat) ({ cls := "WishToChip$Covers", name := "coverToken", desc := "(II[I)V" } : MethodName)) ∈ zgw := zgw_k (tt3 _ (List.mem_of_getElem? (i := 201) rfl)) rfl
theorem w683 : (Cond.instanceMethod ({ cls := "WishToChip$Covers", name := "coverToken", desc := "(II[I)V" } : MethodName)) ∈ zgw := zgw_k (tt3 _ (List.mem_of_getElem? (i := 203) rfl)) rfl
theorem w684 : (Cond.code ({ cls := "WishToChip$Covers", name := "coverToken", desc := "(II[I)V" } : MethodName) prog_2_method_4_code (8 : Nat) (Option.none : Option FieldType)) ∈ zgw := zgw_k (tt3 _ (List.mem_of_getElem? (i := 204) rfl)) rfl
theorem w685 : (Cond.methodLink "WishToChip$Covers" (57 : Nat) ({ cls := "WishToChip$Covers", name := "put", desc := "(III)V" } : MethodName)) ∈ zgw := zgw_k (tt3 _ (List.mem_of_getElem? (i := 205) rfl)) rfl
theorem w687 : (Cond.instanceMethod ({ cls := "WishToChip$Covers", name := "put", desc := "(III)V" } : MethodName)) ∈ zgw := zgw_k (tt3 _ (List.mem_of_getElem? (i := 207) rfl)) rfl
theorem w688 : (Cond.code ({ cls := "WishToChip$Covers", name := "put", desc := "(III)V" } : MethodName) prog_2_method_5_code (4 : Nat) (Option.none : Option FieldType)) ∈ zgw := zgw_k (tt3 _ (List.mem_of_getElem? (i := 208) rfl)) rfl
theorem w689 : (Cond.methodLink "WishToChip$Covers" (51 : Nat) ({ cls := "java/lang/Math", name := "min", desc := "(II)I" } : MethodName)) ∈ zgw := zgw_k (tt3 _ (List.mem_of_getElem? (i := 209) rfl)) rfl
theorem w690 : (Cond.static ({ cls := "java/lang/Math", name := "min", desc := "(II)I" } : MethodName)) ∈ zgw := zgw_k (tt3 _ (List.mem_of_getElem? (i := 210) rfl)) rfl
theorem w691 : (Cond.code ({ cls := "java/lang/Math", name := "min", desc := "(II)I" } : MethodName) prog_17_method_69_code (2 : Nat) (Option.some FieldType.int)) ∈ zgw := zgw_k (tt3 _ (List.mem_of_getElem? (i := 211) rfl)) rfl
theorem w692 : (Cond.methodLink "WishToChip" (230 : Nat) ({ cls := "WishToChip$Covers", name := "ofLine", desc := "(LWishToChip$View;I[I)I" } : MethodName)) ∈ zgw := zgw_k (tt3 _ (List.mem_of_getElem? (i := 212) rfl)) rfl
theorem w693 : (Cond.methodLink "WishToChipLaw" (92 : Nat) ({ cls := "WishToChip", name := "arrival", desc := "(III)I" } : MethodName)) ∈ zgw := zgw_k (tt3 _ (List.mem_of_getElem? (i := 213) rfl)) rfl
theorem w694 : (Cond.instanceMethod ({ cls := "WishToChip", name := "arrival", desc := "(III)I" } : MethodName)) ∈ zgw := zgw_k (tt3 _ (List.mem_of_getElem? (i := 214) rfl)) rfl
theorem w695 : (Cond.selects "WishToChip" ({ cls := "WishToChip", name := "arrival", desc := "(III)I" } : MethodName) ({ cls := "WishToChip", name := "arrival", desc := "(III)I" } : MethodName)) ∈ zgw := zgw_k (tt3 _ (List.mem_of_getElem? (i := 215) rfl)) rfl
theorem w696 : (Cond.code ({ cls := "WishToChip", name := "arrival", desc := "(III)I" } : MethodName) prog_1_method_20_code (4 : Nat) (Option.some FieldType.int)) ∈ zgw := zgw_k (tt3 _ (List.mem_of_getElem? (i := 216) rfl)) rfl
theorem w697 : (Cond.methodLink "WishToChip" (234 : Nat) ({ cls := "WishToChip$Times", name := "find", desc := "(LWishToChip$View;LWishToChip$Gates;I)V" } : MethodName)) ∈ zgw := zgw_k (tt3 _ (List.mem_of_getElem? (i := 217) rfl)) rfl
theorem w698 : (Cond.instanceMethod ({ cls := "WishToChip$Times", name := "find", desc := "(LWishToChip$View;LWishToChip$Gates;I)V" } : MethodName)) ∈ zgw := zgw_k (tt3 _ (List.mem_of_getElem? (i := 218) rfl)) rfl
theorem w699 : (Cond.selects "WishToChip$Times" ({ cls := "WishToChip$Times", name := "find", desc := "(LWishToChip$View;LWishToChip$Gates;I)V" } : MethodName) ({ cls := "WishToChip$Times", name := "find", desc := "(LWishToChip$View;LWishToChip$Gates;I)V" } : MethodName)) ∈ zgw := zgw_k (tt3 _ (List.mem_of_getElem? (i := 219) rfl)) rfl
theorem w700 : (Cond.code ({ cls := "WishToChip$Times", name := "find", desc := "(LWishToChip$View;LWishToChip$Gates;I)V" } : MethodName) prog_10_method_2_code (6 : Nat) (Option.none : Option FieldType)) ∈ zgw := zgw_k (tt3 _ (List.mem_of_getElem? (i := 220) rfl)) rfl
theorem w701 : (Cond.methodLink "WishToChip$Times" (24 : Nat) ({ cls := "java/util/Arrays", name := "fill", desc := "([II)V" } : MethodName)) ∈ zgw := zgw_k (tt3 _ (List.mem_of_getElem? (i := 221) rfl)) rfl
theorem w702 : (Cond.methodLink "WishToChip$Times" (39 : Nat) ({ cls := "WishToChip$Times", name := "findLine", desc := "(LWishToChip$View;ILWishToChip$Gates;I)V" } : MethodName)) ∈ zgw := zgw_k (tt3 _ (List.mem_of_getElem? (i := 222) rfl)) rfl
theorem w704 : (Cond.instanceMethod ({ cls := "WishToChip$Times", name := "findLine", desc := "(LWishToChip$View;ILWishToChip$Gates;I)V" } : MethodName)) ∈ zgw := zgw_k (tt3 _ (List.mem_of_getElem? (i := 224) rfl)) rfl
theorem w705 : (Cond.code ({ cls := "WishToChip$Times", name := "findLine", desc := "(LWishToChip$View;ILWishToChip$Gates;I)V" } : MethodName) prog_10_method_3_code (8 : Nat) (Option.none : Option FieldType)) ∈ zgw := zgw_k (tt3 _ (List.mem_of_getElem? (i := 225) rfl)) rfl
theorem n706 : (Cond.methodLinkNest "WishToChip$Times" (65 : Nat) ({ cls := "WishToChip", name := "kindOf", desc := "(I)I" } : MethodName) "WishToChip") ∈ zNw := zNw_k (tt3 _ (List.mem_of_getElem? (i := 226) rfl)) rfl
theorem n707 : (Cond.methodLinkNest "WishToChip$Times" (69 : Nat) ({ cls := "WishToChip", name := "slotOf", desc := "(I)I" } : MethodName) "WishToChip") ∈ zNw := zNw_k (tt3 _ (List.mem_of_getElem? (i := 227) rfl)) rfl
theorem n708 : (Cond.methodLinkNest "WishToChip$Times" (43 : Nat) ({ cls := "WishToChip", name := "isWire", desc := "(I)Z" } : MethodName) "WishToChip") ∈ zNw := zNw_k (tt3 _ (List.mem_of_getElem? (i := 228) rfl)) rfl
theorem w709 : (Cond.methodLink "WishToChip$Times" (72 : Nat) ({ cls := "WishToChip$Times", name := "takeLatest", desc := "(II)V" } : MethodName)) ∈ zgw := zgw_k (tt3 _ (List.mem_of_getElem? (i := 229) rfl)) rfl
theorem w711 : (Cond.instanceMethod ({ cls := "WishToChip$Times", name := "takeLatest", desc := "(II)V" } : MethodName)) ∈ zgw := zgw_k (tt3 _ (List.mem_of_getElem? (i := 231) rfl)) rfl
theorem w712 : (Cond.code ({ cls := "WishToChip$Times", name := "takeLatest", desc := "(II)V" } : MethodName) prog_10_method_4_code (5 : Nat) (Option.none : Option FieldType)) ∈ zgw := zgw_k (tt3 _ (List.mem_of_getElem? (i := 232) rfl)) rfl
theorem w713 : (Cond.methodLink "WishToChip$Times" (76 : Nat) ({ cls := "WishToChip$Gates", name := "takes", desc := "(II)I" } : MethodName)) ∈ zgw := zgw_k (tt3 _ (List.mem_of_getElem? (i := 233) rfl)) rfl
theorem w714 : (Cond.instanceMethod ({ cls := "WishToChip$Gates", name := "takes", desc := "(II)I" } : MethodName)) ∈ zgw := zgw_k (tt3 _ (List.mem_of_getElem? (i := 234) rfl)) rfl
theorem w715 : (Cond.selects "WishToChip$Gates" ({ cls := "WishToChip$Gates", name := "takes", desc := "(II)I" } : MethodName) ({ cls := "WishToChip$Gates", name := "takes", desc := "(II)I" } : MethodName)) ∈ zgw := zgw_k (tt3 _ (List.mem_of_getElem? (i := 235) rfl)) rfl
theorem w716 : (Cond.code ({ cls := "WishToChip$Gates", name := "takes", desc := "(II)I" } : MethodName) prog_4_method_6_code (3 : Nat) (Option.some FieldType.int)) ∈ zgw := zgw_k (tt3 _ (List.mem_of_getElem? (i := 236) rfl)) rfl
theorem w717 : (Cond.methodLink "WishToChip$Gates" (31 : Nat) ({ cls := "WishToChip$Gates", name := "gateFor", desc := "(I)I" } : MethodName)) ∈ zgw := zgw_k (tt3 _ (List.mem_of_getElem? (i := 237) rfl)) rfl
theorem w718 : (Cond.static ({ cls := "WishToChip$Gates", name := "gateFor", desc := "(I)I" } : MethodName)) ∈ zgw := zgw_k (tt3 _ (List.mem_of_getElem? (i := 238) rfl)) rfl
theorem w719 : (Cond.code ({ cls := "WishToChip$Gates", name := "gateFor", desc := "(I)I" } : MethodName) prog_4_method_7_code (1 : Nat) (Option.some FieldType.int)) ∈ zgw := zgw_k (tt3 _ (List.mem_of_getElem? (i := 239) rfl)) rfl
theorem w720 : (Cond.methodLink "WishToChip$Times" (47 : Nat) ({ cls := "WishToChip$Gates", name := "load", desc := "()I" } : MethodName)) ∈ zgw := zgw_k (tt4 _ (List.mem_of_getElem? (i := 0) rfl)) rfl
theorem w721 : (Cond.instanceMethod ({ cls := "WishToChip$Gates", name := "load", desc := "()I" } : MethodName)) ∈ zgw := zgw_k (tt4 _ (List.mem_of_getElem? (i := 1) rfl)) rfl
theorem w722 : (Cond.selects "WishToChip$Gates" ({ cls := "WishToChip$Gates", name := "load", desc := "()I" } : MethodName) ({ cls := "WishToChip$Gates", name := "load", desc := "()I" } : MethodName)) ∈ zgw := zgw_k (tt4 _ (List.mem_of_getElem? (i := 2) rfl)) rfl
theorem w723 : (Cond.code ({ cls := "WishToChip$Gates", name := "load", desc := "()I" } : MethodName) prog_4_method_4_code (1 : Nat) (Option.some FieldType.int)) ∈ zgw := zgw_k (tt4 _ (List.mem_of_getElem? (i := 3) rfl)) rfl
theorem w724 : (Cond.methodLink "WishToChipLaw" (96 : Nat) ({ cls := "WishToChip", name := "worst", desc := "(III)I" } : MethodName)) ∈ zgw := zgw_k (tt4 _ (List.mem_of_getElem? (i := 4) rfl)) rfl
theorem w725 : (Cond.instanceMethod ({ cls := "WishToChip", name := "worst", desc := "(III)I" } : MethodName)) ∈ zgw := zgw_k (tt4 _ (List.mem_of_getElem? (i := 5) rfl)) rfl
theorem w726 : (Cond.selects "WishToChip" ({ cls := "WishToChip", name := "worst", desc := "(III)I" } : MethodName) ({ cls := "WishToChip", name := "worst", desc := "(III)I" } : MethodName)) ∈ zgw := zgw_k (tt4 _ (List.mem_of_getElem? (i := 6) rfl)) rfl
theorem w727 : (Cond.code ({ cls := "WishToChip", name := "worst", desc := "(III)I" } : MethodName) prog_1_method_21_code (5 : Nat) (Option.some FieldType.int)) ∈ zgw := zgw_k (tt4 _ (List.mem_of_getElem? (i := 7) rfl)) rfl
theorem w728 : (Cond.methodLink "WishToChip" (241 : Nat) ({ cls := "WishToChip$Times", name := "latest", desc := "(LWishToChip$View;)I" } : MethodName)) ∈ zgw := zgw_k (tt4 _ (List.mem_of_getElem? (i := 8) rfl)) rfl
theorem w729 : (Cond.instanceMethod ({ cls := "WishToChip$Times", name := "latest", desc := "(LWishToChip$View;)I" } : MethodName)) ∈ zgw := zgw_k (tt4 _ (List.mem_of_getElem? (i := 9) rfl)) rfl
theorem w730 : (Cond.selects "WishToChip$Times" ({ cls := "WishToChip$Times", name := "latest", desc := "(LWishToChip$View;)I" } : MethodName) ({ cls := "WishToChip$Times", name := "latest", desc := "(LWishToChip$View;)I" } : MethodName)) ∈ zgw := zgw_k (tt4 _ (List.mem_of_getElem? (i := 10) rfl)) rfl
theorem w731 : (Cond.code ({ cls := "WishToChip$Times", name := "latest", desc := "(LWishToChip$View;)I" } : MethodName) prog_10_method_5_code (4 : Nat) (Option.some FieldType.int)) ∈ zgw := zgw_k (tt4 _ (List.mem_of_getElem? (i := 11) rfl)) rfl
theorem w732 : (Cond.methodLink "WishToChip$Times" (80 : Nat) ({ cls := "WishToChip$View", name := "hasLine", desc := "(I)Z" } : MethodName)) ∈ zgw := zgw_k (tt4 _ (List.mem_of_getElem? (i := 12) rfl)) rfl
theorem w733 : (Cond.methodLink "WishToChip" (245 : Nat) ({ cls := "WishToChip$Gates", name := "clock", desc := "()I" } : MethodName)) ∈ zgw := zgw_k (tt4 _ (List.mem_of_getElem? (i := 13) rfl)) rfl
theorem w734 : (Cond.instanceMethod ({ cls := "WishToChip$Gates", name := "clock", desc := "()I" } : MethodName)) ∈ zgw := zgw_k (tt4 _ (List.mem_of_getElem? (i := 14) rfl)) rfl
theorem w735 : (Cond.selects "WishToChip$Gates" ({ cls := "WishToChip$Gates", name := "clock", desc := "()I" } : MethodName) ({ cls := "WishToChip$Gates", name := "clock", desc := "()I" } : MethodName)) ∈ zgw := zgw_k (tt4 _ (List.mem_of_getElem? (i := 15) rfl)) rfl
theorem w736 : (Cond.code ({ cls := "WishToChip$Gates", name := "clock", desc := "()I" } : MethodName) prog_4_method_5_code (1 : Nat) (Option.some FieldType.int)) ∈ zgw := zgw_k (tt4 _ (List.mem_of_getElem? (i := 16) rfl)) rfl
theorem w737 : (Cond.methodLink "WishToChip" (248 : Nat) ({ cls := "WishToChip$Times", name := "nameOnWay", desc := "(II)I" } : MethodName)) ∈ zgw := zgw_k (tt4 _ (List.mem_of_getElem? (i := 17) rfl)) rfl
theorem w738 : (Cond.instanceMethod ({ cls := "WishToChip$Times", name := "nameOnWay", desc := "(II)I" } : MethodName)) ∈ zgw := zgw_k (tt4 _ (List.mem_of_getElem? (i := 18) rfl)) rfl
theorem w739 : (Cond.selects "WishToChip$Times" ({ cls := "WishToChip$Times", name := "nameOnWay", desc := "(II)I" } : MethodName) ({ cls := "WishToChip$Times", name := "nameOnWay", desc := "(II)I" } : MethodName)) ∈ zgw := zgw_k (tt4 _ (List.mem_of_getElem? (i := 19) rfl)) rfl
theorem w740 : (Cond.code ({ cls := "WishToChip$Times", name := "nameOnWay", desc := "(II)I" } : MethodName) prog_10_method_6_code (6 : Nat) (Option.some FieldType.int)) ∈ zgw := zgw_k (tt4 _ (List.mem_of_getElem? (i := 20) rfl)) rfl
theorem w741 : (Cond.methodLink "WishToChipLaw" (100 : Nat) ({ cls := "WishToChip", name := "block", desc := "()I" } : MethodName)) ∈ zgw := zgw_k (tt4 _ (List.mem_of_getElem? (i := 21) rfl)) rfl
theorem w742 : (Cond.instanceMethod ({ cls := "WishToChip", name := "block", desc := "()I" } : MethodName)) ∈ zgw := zgw_k (tt4 _ (List.mem_of_getElem? (i := 22) rfl)) rfl
theorem w743 : (Cond.selects "WishToChip" ({ cls := "WishToChip", name := "block", desc := "()I" } : MethodName) ({ cls := "WishToChip", name := "block", desc := "()I" } : MethodName)) ∈ zgw := zgw_k (tt4 _ (List.mem_of_getElem? (i := 23) rfl)) rfl
theorem w744 : (Cond.code ({ cls := "WishToChip", name := "block", desc := "()I" } : MethodName) prog_1_method_22_code (1 : Nat) (Option.some FieldType.int)) ∈ zgw := zgw_k (tt4 _ (List.mem_of_getElem? (i := 24) rfl)) rfl
theorem w745 : (Cond.methodLink "WishToChip" (251 : Nat) ({ cls := "WishToChip$Floor", name := "addBlock", desc := "()I" } : MethodName)) ∈ zgw := zgw_k (tt4 _ (List.mem_of_getElem? (i := 25) rfl)) rfl
theorem w746 : (Cond.instanceMethod ({ cls := "WishToChip$Floor", name := "addBlock", desc := "()I" } : MethodName)) ∈ zgw := zgw_k (tt4 _ (List.mem_of_getElem? (i := 26) rfl)) rfl
theorem w747 : (Cond.selects "WishToChip$Floor" ({ cls := "WishToChip$Floor", name := "addBlock", desc := "()I" } : MethodName) ({ cls := "WishToChip$Floor", name := "addBlock", desc := "()I" } : MethodName)) ∈ zgw := zgw_k (tt4 _ (List.mem_of_getElem? (i := 27) rfl)) rfl
theorem w748 : (Cond.code ({ cls := "WishToChip$Floor", name := "addBlock", desc := "()I" } : MethodName) prog_3_method_2_code (1 : Nat) (Option.some FieldType.int)) ∈ zgw := zgw_k (tt4 _ (List.mem_of_getElem? (i := 28) rfl)) rfl
theorem w749 : (Cond.methodLink "WishToChip$Floor" (41 : Nat) ({ cls := "WishToChip$Floor", name := "placesOf", desc := "(I)I" } : MethodName)) ∈ zgw := zgw_k (tt4 _ (List.mem_of_getElem? (i := 29) rfl)) rfl
theorem w751 : (Cond.instanceMethod ({ cls := "WishToChip$Floor", name := "placesOf", desc := "(I)I" } : MethodName)) ∈ zgw := zgw_k (tt4 _ (List.mem_of_getElem? (i := 31) rfl)) rfl
theorem w752 : (Cond.code ({ cls := "WishToChip$Floor", name := "placesOf", desc := "(I)I" } : MethodName) prog_3_method_6_code (4 : Nat) (Option.some FieldType.int)) ∈ zgw := zgw_k (tt4 _ (List.mem_of_getElem? (i := 32) rfl)) rfl
theorem n753 : (Cond.methodLinkNest "WishToChip$Floor" (54 : Nat) ({ cls := "WishToChip", name := "hasBit", desc := "(II)Z" } : MethodName) "WishToChip") ∈ zNw := zNw_k (tt4 _ (List.mem_of_getElem? (i := 33) rfl)) rfl
theorem w754 : (Cond.methodLink "WishToChip$Floor" (45 : Nat) ({ cls := "java/lang/Integer", name := "numberOfTrailingZeros", desc := "(I)I" } : MethodName)) ∈ zgw := zgw_k (tt4 _ (List.mem_of_getElem? (i := 34) rfl)) rfl
theorem w755 : (Cond.methodLink "WishToChipLaw" (104 : Nat) ({ cls := "WishToChip", name := "net", desc := "(I)I" } : MethodName)) ∈ zgw := zgw_k (tt4 _ (List.mem_of_getElem? (i := 35) rfl)) rfl
theorem w756 : (Cond.instanceMethod ({ cls := "WishToChip", name := "net", desc := "(I)I" } : MethodName)) ∈ zgw := zgw_k (tt4 _ (List.mem_of_getElem? (i := 36) rfl)) rfl
theorem w757 : (Cond.selects "WishToChip" ({ cls := "WishToChip", name := "net", desc := "(I)I" } : MethodName) ({ cls := "WishToChip", name := "net", desc := "(I)I" } : MethodName)) ∈ zgw := zgw_k (tt4 _ (List.mem_of_getElem? (i := 37) rfl)) rfl
theorem w758 : (Cond.code ({ cls := "WishToChip", name := "net", desc := "(I)I" } : MethodName) prog_1_method_23_code (2 : Nat) (Option.some FieldType.int)) ∈ zgw := zgw_k (tt4 _ (List.mem_of_getElem? (i := 38) rfl)) rfl
theorem w759 : (Cond.methodLink "WishToChip" (254 : Nat) ({ cls := "WishToChip$Floor", name := "areBlocks", desc := "(I)Z" } : MethodName)) ∈ zgw := zgw_k (tt4 _ (List.mem_of_getElem? (i := 39) rfl)) rfl
theorem w760 : (Cond.instanceMethod ({ cls := "WishToChip$Floor", name := "areBlocks", desc := "(I)Z" } : MethodName)) ∈ zgw := zgw_k (tt4 _ (List.mem_of_getElem? (i := 40) rfl)) rfl
theorem w761 : (Cond.selects "WishToChip$Floor" ({ cls := "WishToChip$Floor", name := "areBlocks", desc := "(I)Z" } : MethodName) ({ cls := "WishToChip$Floor", name := "areBlocks", desc := "(I)Z" } : MethodName)) ∈ zgw := zgw_k (tt4 _ (List.mem_of_getElem? (i := 41) rfl)) rfl
theorem w762 : (Cond.code ({ cls := "WishToChip$Floor", name := "areBlocks", desc := "(I)Z" } : MethodName) prog_3_method_3_code (2 : Nat) (Option.some FieldType.boolean)) ∈ zgw := zgw_k (tt4 _ (List.mem_of_getElem? (i := 42) rfl)) rfl
theorem n763 : (Cond.methodLinkNest "WishToChip$Floor" (50 : Nat) ({ cls := "WishToChip", name := "isBelow", desc := "(II)Z" } : MethodName) "WishToChip") ∈ zNw := zNw_k (tt4 _ (List.mem_of_getElem? (i := 43) rfl)) rfl
theorem w764 : (Cond.methodLink "WishToChip" (257 : Nat) ({ cls := "java/lang/Integer", name := "bitCount", desc := "(I)I" } : MethodName)) ∈ zgw := zgw_k (tt4 _ (List.mem_of_getElem? (i := 44) rfl)) rfl
theorem w765 : (Cond.methodLink "WishToChip" (262 : Nat) ({ cls := "WishToChip$Floor", name := "addNet", desc := "(I)I" } : MethodName)) ∈ zgw := zgw_k (tt4 _ (List.mem_of_getElem? (i := 45) rfl)) rfl
theorem w766 : (Cond.instanceMethod ({ cls := "WishToChip$Floor", name := "addNet", desc := "(I)I" } : MethodName)) ∈ zgw := zgw_k (tt4 _ (List.mem_of_getElem? (i := 46) rfl)) rfl
theorem w767 : (Cond.selects "WishToChip$Floor" ({ cls := "WishToChip$Floor", name := "addNet", desc := "(I)I" } : MethodName) ({ cls := "WishToChip$Floor", name := "addNet", desc := "(I)I" } : MethodName)) ∈ zgw := zgw_k (tt4 _ (List.mem_of_getElem? (i := 47) rfl)) rfl
theorem w768 : (Cond.code ({ cls := "WishToChip$Floor", name := "addNet", desc := "(I)I" } : MethodName) prog_3_method_4_code (2 : Nat) (Option.some FieldType.int)) ∈ zgw := zgw_k (tt4 _ (List.mem_of_getElem? (i := 48) rfl)) rfl
theorem w769 : (Cond.methodLink "WishToChipLaw" (108 : Nat) ({ cls := "WishToChip", name := "place", desc := "(II)I" } : MethodName)) ∈ zgw := zgw_k (tt4 _ (List.mem_of_getElem? (i := 49) rfl)) rfl
theorem w770 : (Cond.instanceMethod ({ cls := "WishToChip", name := "place", desc := "(II)I" } : MethodName)) ∈ zgw := zgw_k (tt4 _ (List.mem_of_getElem? (i := 50) rfl)) rfl
theorem w771 : (Cond.selects "WishToChip" ({ cls := "WishToChip", name := "place", desc := "(II)I" } : MethodName) ({ cls := "WishToChip", name := "place", desc := "(II)I" } : MethodName)) ∈ zgw := zgw_k (tt4 _ (List.mem_of_getElem? (i := 51) rfl)) rfl
theorem w772 : (Cond.code ({ cls := "WishToChip", name := "place", desc := "(II)I" } : MethodName) prog_1_method_24_code (3 : Nat) (Option.some FieldType.int)) ∈ zgw := zgw_k (tt4 _ (List.mem_of_getElem? (i := 52) rfl)) rfl
theorem w773 : (Cond.methodLink "WishToChip" (268 : Nat) ({ cls := "WishToChip$Floor", name := "move", desc := "(II)I" } : MethodName)) ∈ zgw := zgw_k (tt4 _ (List.mem_of_getElem? (i := 53) rfl)) rfl
theorem w774 : (Cond.instanceMethod ({ cls := "WishToChip$Floor", name := "move", desc := "(II)I" } : MethodName)) ∈ zgw := zgw_k (tt4 _ (List.mem_of_getElem? (i := 54) rfl)) rfl
theorem w775 : (Cond.selects "WishToChip$Floor" ({ cls := "WishToChip$Floor", name := "move", desc := "(II)I" } : MethodName) ({ cls := "WishToChip$Floor", name := "move", desc := "(II)I" } : MethodName)) ∈ zgw := zgw_k (tt4 _ (List.mem_of_getElem? (i := 55) rfl)) rfl
theorem w776 : (Cond.code ({ cls := "WishToChip$Floor", name := "move", desc := "(II)I" } : MethodName) prog_3_method_5_code (4 : Nat) (Option.some FieldType.int)) ∈ zgw := zgw_k (tt4 _ (List.mem_of_getElem? (i := 56) rfl)) rfl
theorem w777 : (Cond.methodLink "WishToChipLaw" (112 : Nat) ({ cls := "WishToChip", name := "wire", desc := "(I)I" } : MethodName)) ∈ zgw := zgw_k (tt4 _ (List.mem_of_getElem? (i := 57) rfl)) rfl
theorem w778 : (Cond.instanceMethod ({ cls := "WishToChip", name := "wire", desc := "(I)I" } : MethodName)) ∈ zgw := zgw_k (tt4 _ (List.mem_of_getElem? (i := 58) rfl)) rfl
theorem w779 : (Cond.selects "WishToChip" ({ cls := "WishToChip", name := "wire", desc := "(I)I" } : MethodName) ({ cls := "WishToChip", name := "wire", desc := "(I)I" } : MethodName)) ∈ zgw := zgw_k (tt4 _ (List.mem_of_getElem? (i := 59) rfl)) rfl
theorem w780 : (Cond.code ({ cls := "WishToChip", name := "wire", desc := "(I)I" } : MethodName) prog_1_method_25_code (2 : Nat) (Option.some FieldType.int)) ∈ zgw := zgw_k (tt4 _ (List.mem_of_getElem? (i := 60) rfl)) rfl
theorem w781 : (Cond.methodLink "WishToChip" (271 : Nat) ({ cls := "WishToChip$Floor", name := "wireOfAll", desc := "()I" } : MethodName)) ∈ zgw := zgw_k (tt4 _ (List.mem_of_getElem? (i := 61) rfl)) rfl
theorem w782 : (Cond.instanceMethod ({ cls := "WishToChip$Floor", name := "wireOfAll", desc := "()I" } : MethodName)) ∈ zgw := zgw_k (tt4 _ (List.mem_of_getElem? (i := 62) rfl)) rfl
theorem w783 : (Cond.selects "WishToChip$Floor" ({ cls := "WishToChip$Floor", name := "wireOfAll", desc := "()I" } : MethodName) ({ cls := "WishToChip$Floor", name := "wireOfAll", desc := "()I" } : MethodName)) ∈ zgw := zgw_k (tt4 _ (List.mem_of_getElem? (i := 63) rfl)) rfl
theorem w784 : (Cond.code ({ cls := "WishToChip$Floor", name := "wireOfAll", desc := "()I" } : MethodName) prog_3_method_8_code (3 : Nat) (Option.some FieldType.int)) ∈ zgw := zgw_k (tt4 _ (List.mem_of_getElem? (i := 64) rfl)) rfl
theorem w785 : (Cond.methodLink "WishToChip$Floor" (60 : Nat) ({ cls := "WishToChip$Floor", name := "wireOf", desc := "(I)I" } : MethodName)) ∈ zgw := zgw_k (tt4 _ (List.mem_of_getElem? (i := 65) rfl)) rfl
theorem w786 : (Cond.instanceMethod ({ cls := "WishToChip$Floor", name := "wireOf", desc := "(I)I" } : MethodName)) ∈ zgw := zgw_k (tt4 _ (List.mem_of_getElem? (i := 66) rfl)) rfl
theorem w787 : (Cond.selects "WishToChip$Floor" ({ cls := "WishToChip$Floor", name := "wireOf", desc := "(I)I" } : MethodName) ({ cls := "WishToChip$Floor", name := "wireOf", desc := "(I)I" } : MethodName)) ∈ zgw := zgw_k (tt4 _ (List.mem_of_getElem? (i := 67) rfl)) rfl
theorem w788 : (Cond.code ({ cls := "WishToChip$Floor", name := "wireOf", desc := "(I)I" } : MethodName) prog_3_method_7_code (2 : Nat) (Option.some FieldType.int)) ∈ zgw := zgw_k (tt4 _ (List.mem_of_getElem? (i := 68) rfl)) rfl
theorem w789 : (Cond.methodLink "WishToChip$Floor" (57 : Nat) ({ cls := "WishToChip$Floor", name := "span", desc := "(I)I" } : MethodName)) ∈ zgw := zgw_k (tt4 _ (List.mem_of_getElem? (i := 69) rfl)) rfl
theorem w790 : (Cond.static ({ cls := "WishToChip$Floor", name := "span", desc := "(I)I" } : MethodName)) ∈ zgw := zgw_k (tt4 _ (List.mem_of_getElem? (i := 70) rfl)) rfl
theorem w791 : (Cond.code ({ cls := "WishToChip$Floor", name := "span", desc := "(I)I" } : MethodName) prog_3_method_9_code (6 : Nat) (Option.some FieldType.int)) ∈ zgw := zgw_k (tt4 _ (List.mem_of_getElem? (i := 71) rfl)) rfl
theorem w792 : (Cond.methodLink "WishToChip$Floor" (63 : Nat) ({ cls := "java/lang/Integer", name := "numberOfLeadingZeros", desc := "(I)I" } : MethodName)) ∈ zgw := zgw_k (tt4 _ (List.mem_of_getElem? (i := 72) rfl)) rfl
theorem w793 : (Cond.static ({ cls := "java/lang/Integer", name := "numberOfLeadingZeros", desc := "(I)I" } : MethodName)) ∈ zgw := zgw_k (tt4 _ (List.mem_of_getElem? (i := 73) rfl)) rfl
theorem w794 : (Cond.code ({ cls := "java/lang/Integer", name := "numberOfLeadingZeros", desc := "(I)I" } : MethodName) prog_15_method_47_code (2 : Nat) (Option.some FieldType.int)) ∈ zgw := zgw_k (tt4 _ (List.mem_of_getElem? (i := 74) rfl)) rfl
theorem w795 : (Cond.methodLink "WishToChip" (277 : Nat) ({ cls := "WishToChip$Floor", name := "wireOf", desc := "(I)I" } : MethodName)) ∈ zgw := zgw_k (tt4 _ (List.mem_of_getElem? (i := 75) rfl)) rfl
theorem w796 : (Cond.methodLink "WishToChipLaw" (116 : Nat) ({ cls := "WishToChip", name := "least", desc := "(I)I" } : MethodName)) ∈ zgw := zgw_k (tt4 _ (List.mem_of_getElem? (i := 76) rfl)) rfl
theorem w797 : (Cond.instanceMethod ({ cls := "WishToChip", name := "least", desc := "(I)I" } : MethodName)) ∈ zgw := zgw_k (tt4 _ (List.mem_of_getElem? (i := 77) rfl)) rfl
theorem w798 : (Cond.selects "WishToChip" ({ cls := "WishToChip", name := "least", desc := "(I)I" } : MethodName) ({ cls := "WishToChip", name := "least", desc := "(I)I" } : MethodName)) ∈ zgw := zgw_k (tt4 _ (List.mem_of_getElem? (i := 78) rfl)) rfl
theorem w799 : (Cond.code ({ cls := "WishToChip", name := "least", desc := "(I)I" } : MethodName) prog_1_method_26_code (2 : Nat) (Option.some FieldType.int)) ∈ zgw := zgw_k (tt4 _ (List.mem_of_getElem? (i := 79) rfl)) rfl
theorem w800 : (Cond.methodLink "WishToChip" (280 : Nat) ({ cls := "WishToChip$Floor", name := "findLeast", desc := "()V" } : MethodName)) ∈ zgw := zgw_k (tt4 _ (List.mem_of_getElem? (i := 80) rfl)) rfl
theorem w801 : (Cond.instanceMethod ({ cls := "WishToChip$Floor", name := "findLeast", desc := "()V" } : MethodName)) ∈ zgw := zgw_k (tt4 _ (List.mem_of_getElem? (i := 81) rfl)) rfl
theorem w802 : (Cond.selects "WishToChip$Floor" ({ cls := "WishToChip$Floor", name := "findLeast", desc := "()V" } : MethodName) ({ cls := "WishToChip$Floor", name := "findLeast", desc := "()V" } : MethodName)) ∈ zgw := zgw_k (tt4 _ (List.mem_of_getElem? (i := 82) rfl)) rfl
theorem w803 : (Cond.code ({ cls := "WishToChip$Floor", name := "findLeast", desc := "()V" } : MethodName) prog_3_method_10_code (1 : Nat) (Option.none : Option FieldType)) ∈ zgw := zgw_k (tt4 _ (List.mem_of_getElem? (i := 83) rfl)) rfl
theorem w804 : (Cond.methodLink "WishToChip$Floor" (66 : Nat) ({ cls := "WishToChip$Floor", name := "layFrom", desc := "(LWishToChip$Floor;II)V" } : MethodName)) ∈ zgw := zgw_k (tt4 _ (List.mem_of_getElem? (i := 84) rfl)) rfl
theorem w805 : (Cond.static ({ cls := "WishToChip$Floor", name := "layFrom", desc := "(LWishToChip$Floor;II)V" } : MethodName)) ∈ zgw := zgw_k (tt4 _ (List.mem_of_getElem? (i := 85) rfl)) rfl
theorem w806 : (Cond.code ({ cls := "WishToChip$Floor", name := "layFrom", desc := "(LWishToChip$Floor;II)V" } : MethodName) prog_3_method_11_code (5 : Nat) (Option.none : Option FieldType)) ∈ zgw := zgw_k (tt4 _ (List.mem_of_getElem? (i := 86) rfl)) rfl
theorem w807 : (Cond.methodLink "WishToChip$Floor" (70 : Nat) ({ cls := "WishToChip$Floor", name := "wireToCome", desc := "()I" } : MethodName)) ∈ zgw := zgw_k (tt4 _ (List.mem_of_getElem? (i := 87) rfl)) rfl
theorem w809 : (Cond.instanceMethod ({ cls := "WishToChip$Floor", name := "wireToCome", desc := "()I" } : MethodName)) ∈ zgw := zgw_k (tt4 _ (List.mem_of_getElem? (i := 89) rfl)) rfl
theorem w810 : (Cond.code ({ cls := "WishToChip$Floor", name := "wireToCome", desc := "()I" } : MethodName) prog_3_method_13_code (3 : Nat) (Option.some FieldType.int)) ∈ zgw := zgw_k (tt4 _ (List.mem_of_getElem? (i := 90) rfl)) rfl
theorem w811 : (Cond.fieldLink "WishToChip$Floor" (84 : Nat) "WishToChip$Floor" "LEAST_SPAN" "[I") ∈ zgw := zgw_k (tt4 _ (List.mem_of_getElem? (i := 91) rfl)) rfl
theorem w813 : (Cond.methodLink "WishToChip$Floor" (87 : Nat) ({ cls := "java/lang/Integer", name := "bitCount", desc := "(I)I" } : MethodName)) ∈ zgw := zgw_k (tt4 _ (List.mem_of_getElem? (i := 93) rfl)) rfl
theorem w814 : (Cond.methodLink "WishToChip$Floor" (90 : Nat) ({ cls := "java/lang/Math", name := "max", desc := "(II)I" } : MethodName)) ∈ zgw := zgw_k (tt4 _ (List.mem_of_getElem? (i := 94) rfl)) rfl
theorem w815 : (Cond.static ({ cls := "java/lang/Math", name := "max", desc := "(II)I" } : MethodName)) ∈ zgw := zgw_k (tt4 _ (List.mem_of_getElem? (i := 95) rfl)) rfl
theorem w816 : (Cond.code ({ cls := "java/lang/Math", name := "max", desc := "(II)I" } : MethodName) prog_17_method_65_code (2 : Nat) (Option.some FieldType.int)) ∈ zgw := zgw_k (tt4 _ (List.mem_of_getElem? (i := 96) rfl)) rfl
theorem w817 : (Cond.methodLink "WishToChip$Floor" (74 : Nat) ({ cls := "java/lang/System", name := "arraycopy", desc := "(Ljava/lang/Object;ILjava/lang/Object;II)V" } : MethodName)) ∈ zgw := zgw_k (tt4 _ (List.mem_of_getElem? (i := 97) rfl)) rfl
theorem w818 : (Cond.methodLink "WishToChip$Floor" (80 : Nat) ({ cls := "WishToChip$Floor", name := "turnNetPlaces", desc := "(II)V" } : MethodName)) ∈ zgw := zgw_k (tt4 _ (List.mem_of_getElem? (i := 98) rfl)) rfl
theorem w820 : (Cond.instanceMethod ({ cls := "WishToChip$Floor", name := "turnNetPlaces", desc := "(II)V" } : MethodName)) ∈ zgw := zgw_k (tt4 _ (List.mem_of_getElem? (i := 100) rfl)) rfl
theorem w821 : (Cond.code ({ cls := "WishToChip$Floor", name := "turnNetPlaces", desc := "(II)V" } : MethodName) prog_3_method_12_code (4 : Nat) (Option.none : Option FieldType)) ∈ zgw := zgw_k (tt4 _ (List.mem_of_getElem? (i := 101) rfl)) rfl
theorem w822 : (Cond.methodLink "WishToChipLaw" (120 : Nat) ({ cls := "WishToChip", name := "swap", desc := "()I" } : MethodName)) ∈ zgw := zgw_k (tt4 _ (List.mem_of_getElem? (i := 102) rfl)) rfl
theorem w823 : (Cond.instanceMethod ({ cls := "WishToChip", name := "swap", desc := "()I" } : MethodName)) ∈ zgw := zgw_k (tt4 _ (List.mem_of_getElem? (i := 103) rfl)) rfl
theorem w824 : (Cond.selects "WishToChip" ({ cls := "WishToChip", name := "swap", desc := "()I" } : MethodName) ({ cls := "WishToChip", name := "swap", desc := "()I" } : MethodName)) ∈ zgw := zgw_k (tt4 _ (List.mem_of_getElem? (i := 104) rfl)) rfl
theorem w825 : (Cond.code ({ cls := "WishToChip", name := "swap", desc := "()I" } : MethodName) prog_1_method_27_code (1 : Nat) (Option.some FieldType.int)) ∈ zgw := zgw_k (tt4 _ (List.mem_of_getElem? (i := 105) rfl)) rfl
theorem w826 : (Cond.methodLink "WishToChip" (289 : Nat) ({ cls := "WishToChip$Floor", name := "swapWhileItHelps", desc := "()I" } : MethodName)) ∈ zgw := zgw_k (tt4 _ (List.mem_of_getElem? (i := 106) rfl)) rfl
theorem w827 : (Cond.instanceMethod ({ cls := "WishToChip$Floor", name := "swapWhileItHelps", desc := "()I" } : MethodName)) ∈ zgw := zgw_k (tt4 _ (List.mem_of_getElem? (i := 107) rfl)) rfl
theorem w828 : (Cond.selects "WishToChip$Floor" ({ cls := "WishToChip$Floor", name := "swapWhileItHelps", desc := "()I" } : MethodName) ({ cls := "WishToChip$Floor", name := "swapWhileItHelps", desc := "()I" } : MethodName)) ∈ zgw := zgw_k (tt4 _ (List.mem_of_getElem? (i := 108) rfl)) rfl
theorem w829 : (Cond.code ({ cls := "WishToChip$Floor", name := "swapWhileItHelps", desc := "()I" } : MethodName) prog_3_method_14_code (2 : Nat) (Option.some FieldType.int)) ∈ zgw := zgw_k (tt4 _ (List.mem_of_getElem? (i := 109) rfl)) rfl
theorem w830 : (Cond.methodLink "WishToChip$Floor" (96 : Nat) ({ cls := "WishToChip$Floor", name := "swapBest", desc := "()Z" } : MethodName)) ∈ zgw := zgw_k (tt4 _ (List.mem_of_getElem? (i := 110) rfl)) rfl
theorem w832 : (Cond.instanceMethod ({ cls := "WishToChip$Floor", name := "swapBest", desc := "()Z" } : MethodName)) ∈ zgw := zgw_k (tt4 _ (List.mem_of_getElem? (i := 112) rfl)) rfl
theorem w833 : (Cond.code ({ cls := "WishToChip$Floor", name := "swapBest", desc := "()Z" } : MethodName) prog_3_method_15_code (7 : Nat) (Option.some FieldType.boolean)) ∈ zgw := zgw_k (tt4 _ (List.mem_of_getElem? (i := 113) rfl)) rfl
theorem w834 : (Cond.methodLink "WishToChip$Floor" (100 : Nat) ({ cls := "WishToChip$Floor", name := "wireOfAll", desc := "()I" } : MethodName)) ∈ zgw := zgw_k (tt4 _ (List.mem_of_getElem? (i := 114) rfl)) rfl
theorem w835 : (Cond.methodLink "WishToChip$Floor" (103 : Nat) ({ cls := "WishToChip$Floor", name := "exchange", desc := "(II)V" } : MethodName)) ∈ zgw := zgw_k (tt4 _ (List.mem_of_getElem? (i := 115) rfl)) rfl
theorem w837 : (Cond.instanceMethod ({ cls := "WishToChip$Floor", name := "exchange", desc := "(II)V" } : MethodName)) ∈ zgw := zgw_k (tt4 _ (List.mem_of_getElem? (i := 117) rfl)) rfl
theorem w838 : (Cond.code ({ cls := "WishToChip$Floor", name := "exchange", desc := "(II)V" } : MethodName) prog_3_method_16_code (4 : Nat) (Option.none : Option FieldType)) ∈ zgw := zgw_k (tt4 _ (List.mem_of_getElem? (i := 118) rfl)) rfl
theorem w839 : (Cond.methodLink "WishToChipLaw" (124 : Nat) ({ cls := "WishToChip", name := "ends", desc := "(I)I" } : MethodName)) ∈ zgw := zgw_k (tt4 _ (List.mem_of_getElem? (i := 119) rfl)) rfl
theorem w840 : (Cond.instanceMethod ({ cls := "WishToChip", name := "ends", desc := "(I)I" } : MethodName)) ∈ zgw := zgw_k (tt4 _ (List.mem_of_getElem? (i := 120) rfl)) rfl
theorem w841 : (Cond.selects "WishToChip" ({ cls := "WishToChip", name := "ends", desc := "(I)I" } : MethodName) ({ cls := "WishToChip", name := "ends", desc := "(I)I" } : MethodName)) ∈ zgw := zgw_k (tt4 _ (List.mem_of_getElem? (i := 121) rfl)) rfl
theorem w842 : (Cond.code ({ cls := "WishToChip", name := "ends", desc := "(I)I" } : MethodName) prog_1_method_28_code (3 : Nat) (Option.some FieldType.int)) ∈ zgw := zgw_k (tt4 _ (List.mem_of_getElem? (i := 122) rfl)) rfl
theorem w843 : (Cond.constant "WishToChip" (292 : Nat) (-524225 : Int32)) ∈ zgw := zgw_k (tt4 _ (List.mem_of_getElem? (i := 123) rfl)) rfl
theorem w844 : (Cond.methodLink "WishToChipLaw" (128 : Nat) ({ cls := "WishToChip", name := "fails", desc := "(II)I" } : MethodName)) ∈ zgw := zgw_k (tt4 _ (List.mem_of_getElem? (i := 124) rfl)) rfl
theorem w845 : (Cond.instanceMethod ({ cls := "WishToChip", name := "fails", desc := "(II)I" } : MethodName)) ∈ zgw := zgw_k (tt4 _ (List.mem_of_getElem? (i := 125) rfl)) rfl
theorem w846 : (Cond.selects "WishToChip" ({ cls := "WishToChip", name := "fails", desc := "(II)I" } : MethodName) ({ cls := "WishToChip", name := "fails", desc := "(II)I" } : MethodName)) ∈ zgw := zgw_k (tt4 _ (List.mem_of_getElem? (i := 126) rfl)) rfl
theorem w847 : (Cond.code ({ cls := "WishToChip", name := "fails", desc := "(II)I" } : MethodName) prog_1_method_29_code (3 : Nat) (Option.some FieldType.int)) ∈ zgw := zgw_k (tt4 _ (List.mem_of_getElem? (i := 127) rfl)) rfl
theorem w848 : (Cond.methodLink "WishToChip" (293 : Nat) ({ cls := "WishToChip$Trials", name := "make", desc := "(LWishToChip$View;II)V" } : MethodName)) ∈ zgw := zgw_k (tt4 _ (List.mem_of_getElem? (i := 128) rfl)) rfl
theorem w849 : (Cond.instanceMethod ({ cls := "WishToChip$Trials", name := "make", desc := "(LWishToChip$View;II)V" } : MethodName)) ∈ zgw := zgw_k (tt4 _ (List.mem_of_getElem? (i := 129) rfl)) rfl
theorem w850 : (Cond.selects "WishToChip$Trials" ({ cls := "WishToChip$Trials", name := "make", desc := "(LWishToChip$View;II)V" } : MethodName) ({ cls := "WishToChip$Trials", name := "make", desc := "(LWishToChip$View;II)V" } : MethodName)) ∈ zgw := zgw_k (tt4 _ (List.mem_of_getElem? (i := 130) rfl)) rfl
theorem w851 : (Cond.code ({ cls := "WishToChip$Trials", name := "make", desc := "(LWishToChip$View;II)V" } : MethodName) prog_11_method_3_code (8 : Nat) (Option.none : Option FieldType)) ∈ zgw := zgw_k (tt4 _ (List.mem_of_getElem? (i := 131) rfl)) rfl
theorem w852 : (Cond.methodLink "WishToChip$Trials" (39 : Nat) ({ cls := "WishToChip$Lanes", name := "runRow", desc := "(LWishToChip$View;I)V" } : MethodName)) ∈ zgw := zgw_k (tt4 _ (List.mem_of_getElem? (i := 132) rfl)) rfl
theorem n853 : (Cond.methodLinkNest "WishToChip$Trials" (51 : Nat) ({ cls := "WishToChip", name := "hasBit", desc := "(II)Z" } : MethodName) "WishToChip") ∈ zNw := zNw_k (tt4 _ (List.mem_of_getElem? (i := 133) rfl)) rfl
theorem w854 : (Cond.constantLong "WishToChip$Trials" (55 : Nat) (549755813887 : Int64)) ∈ zgw := zgw_k (tt4 _ (List.mem_of_getElem? (i := 134) rfl)) rfl
theorem w855 : (Cond.methodLink "WishToChip" (297 : Nat) ({ cls := "WishToChip$Trials", name := "failsOf", desc := "(I)I" } : MethodName)) ∈ zgw := zgw_k (tt4 _ (List.mem_of_getElem? (i := 135) rfl)) rfl
theorem w856 : (Cond.instanceMethod ({ cls := "WishToChip$Trials", name := "failsOf", desc := "(I)I" } : MethodName)) ∈ zgw := zgw_k (tt4 _ (List.mem_of_getElem? (i := 136) rfl)) rfl
theorem w857 : (Cond.selects "WishToChip$Trials" ({ cls := "WishToChip$Trials", name := "failsOf", desc := "(I)I" } : MethodName) ({ cls := "WishToChip$Trials", name := "failsOf", desc := "(I)I" } : MethodName)) ∈ zgw := zgw_k (tt4 _ (List.mem_of_getElem? (i := 137) rfl)) rfl
theorem w858 : (Cond.code ({ cls := "WishToChip$Trials", name := "failsOf", desc := "(I)I" } : MethodName) prog_11_method_4_code (4 : Nat) (Option.some FieldType.int)) ∈ zgw := zgw_k (tt4 _ (List.mem_of_getElem? (i := 138) rfl)) rfl
theorem w859 : (Cond.methodLink "WishToChipLaw" (132 : Nat) ({ cls := "WishToChip", name := "finds", desc := "(I)I" } : MethodName)) ∈ zgw := zgw_k (tt4 _ (List.mem_of_getElem? (i := 139) rfl)) rfl
theorem w860 : (Cond.instanceMethod ({ cls := "WishToChip", name := "finds", desc := "(I)I" } : MethodName)) ∈ zgw := zgw_k (tt4 _ (List.mem_of_getElem? (i := 140) rfl)) rfl
theorem w861 : (Cond.selects "WishToChip" ({ cls := "WishToChip", name := "finds", desc := "(I)I" } : MethodName) ({ cls := "WishToChip", name := "finds", desc := "(I)I" } : MethodName)) ∈ zgw := zgw_k (tt4 _ (List.mem_of_getElem? (i := 141) rfl)) rfl
theorem w862 : (Cond.code ({ cls := "WishToChip", name := "finds", desc := "(I)I" } : MethodName) prog_1_method_30_code (6 : Nat) (Option.some FieldType.int)) ∈ zgw := zgw_k (tt4 _ (List.mem_of_getElem? (i := 142) rfl)) rfl
theorem w863 : (Cond.methodLink "WishToChip" (300 : Nat) ({ cls := "WishToChip$Lanes", name := "stickOne", desc := "(II)V" } : MethodName)) ∈ zgw := zgw_k (tt4 _ (List.mem_of_getElem? (i := 143) rfl)) rfl
theorem w864 : (Cond.instanceMethod ({ cls := "WishToChip$Lanes", name := "stickOne", desc := "(II)V" } : MethodName)) ∈ zgw := zgw_k (tt4 _ (List.mem_of_getElem? (i := 144) rfl)) rfl
theorem w865 : (Cond.selects "WishToChip$Lanes" ({ cls := "WishToChip$Lanes", name := "stickOne", desc := "(II)V" } : MethodName) ({ cls := "WishToChip$Lanes", name := "stickOne", desc := "(II)V" } : MethodName)) ∈ zgw := zgw_k (tt4 _ (List.mem_of_getElem? (i := 145) rfl)) rfl
theorem w866 : (Cond.code ({ cls := "WishToChip$Lanes", name := "stickOne", desc := "(II)V" } : MethodName) prog_6_method_2_code (3 : Nat) (Option.none : Option FieldType)) ∈ zgw := zgw_k (tt4 _ (List.mem_of_getElem? (i := 146) rfl)) rfl
theorem w867 : (Cond.methodLink "WishToChip$Lanes" (27 : Nat) ({ cls := "java/util/Arrays", name := "fill", desc := "([JJ)V" } : MethodName)) ∈ zgw := zgw_k (tt4 _ (List.mem_of_getElem? (i := 147) rfl)) rfl
theorem w868 : (Cond.static ({ cls := "java/util/Arrays", name := "fill", desc := "([JJ)V" } : MethodName)) ∈ zgw := zgw_k (tt4 _ (List.mem_of_getElem? (i := 148) rfl)) rfl
theorem w869 : (Cond.code ({ cls := "java/util/Arrays", name := "fill", desc := "([JJ)V" } : MethodName) prog_19_method_101_code (5 : Nat) (Option.none : Option FieldType)) ∈ zgw := zgw_k (tt4 _ (List.mem_of_getElem? (i := 149) rfl)) rfl
theorem n870 : (Cond.methodLinkNest "WishToChip$Lanes" (33 : Nat) ({ cls := "WishToChip", name := "isBelow", desc := "(II)Z" } : MethodName) "WishToChip") ∈ zNw := zNw_k (tt4 _ (List.mem_of_getElem? (i := 150) rfl)) rfl
theorem w871 : (Cond.methodLink "WishToChipLaw" (136 : Nat) ({ cls := "WishToChip", name := "trial", desc := "(I)I" } : MethodName)) ∈ zgw := zgw_k (tt4 _ (List.mem_of_getElem? (i := 151) rfl)) rfl
theorem w872 : (Cond.instanceMethod ({ cls := "WishToChip", name := "trial", desc := "(I)I" } : MethodName)) ∈ zgw := zgw_k (tt4 _ (List.mem_of_getElem? (i := 152) rfl)) rfl
theorem w873 : (Cond.selects "WishToChip" ({ cls := "WishToChip", name := "trial", desc := "(I)I" } : MethodName) ({ cls := "WishToChip", name := "trial", desc := "(I)I" } : MethodName)) ∈ zgw := zgw_k (tt4 _ (List.mem_of_getElem? (i := 153) rfl)) rfl
theorem w874 : (Cond.code ({ cls := "WishToChip", name := "trial", desc := "(I)I" } : MethodName) prog_1_method_31_code (2 : Nat) (Option.some FieldType.int)) ∈ zgw := zgw_k (tt4 _ (List.mem_of_getElem? (i := 154) rfl)) rfl
theorem w875 : (Cond.methodLink "WishToChip" (307 : Nat) ({ cls := "WishToChip$Trials", name := "add", desc := "(I)I" } : MethodName)) ∈ zgw := zgw_k (tt4 _ (List.mem_of_getElem? (i := 155) rfl)) rfl
theorem w876 : (Cond.instanceMethod ({ cls := "WishToChip$Trials", name := "add", desc := "(I)I" } : MethodName)) ∈ zgw := zgw_k (tt4 _ (List.mem_of_getElem? (i := 156) rfl)) rfl
theorem w877 : (Cond.selects "WishToChip$Trials" ({ cls := "WishToChip$Trials", name := "add", desc := "(I)I" } : MethodName) ({ cls := "WishToChip$Trials", name := "add", desc := "(I)I" } : MethodName)) ∈ zgw := zgw_k (tt4 _ (List.mem_of_getElem? (i := 157) rfl)) rfl
theorem w878 : (Cond.code ({ cls := "WishToChip$Trials", name := "add", desc := "(I)I" } : MethodName) prog_11_method_2_code (2 : Nat) (Option.some FieldType.int)) ∈ zgw := zgw_k (tt4 _ (List.mem_of_getElem? (i := 158) rfl)) rfl
theorem w879 : (Cond.methodLink "WishToChipLaw" (140 : Nat) ({ cls := "WishToChip", name := "noTrials", desc := "()I" } : MethodName)) ∈ zgw := zgw_k (tt4 _ (List.mem_of_getElem? (i := 159) rfl)) rfl
theorem w880 : (Cond.instanceMethod ({ cls := "WishToChip", name := "noTrials", desc := "()I" } : MethodName)) ∈ zgw := zgw_k (tt4 _ (List.mem_of_getElem? (i := 160) rfl)) rfl
theorem w881 : (Cond.selects "WishToChip" ({ cls := "WishToChip", name := "noTrials", desc := "()I" } : MethodName) ({ cls := "WishToChip", name := "noTrials", desc := "()I" } : MethodName)) ∈ zgw := zgw_k (tt4 _ (List.mem_of_getElem? (i := 161) rfl)) rfl
theorem w882 : (Cond.code ({ cls := "WishToChip", name := "noTrials", desc := "()I" } : MethodName) prog_1_method_32_code (2 : Nat) (Option.some FieldType.int)) ∈ zgw := zgw_k (tt4 _ (List.mem_of_getElem? (i := 162) rfl)) rfl
theorem w883 : (Cond.methodLink "WishToChipLaw" (144 : Nat) ({ cls := "WishToChip", name := "fewest", desc := "(I)I" } : MethodName)) ∈ zgw := zgw_k (tt4 _ (List.mem_of_getElem? (i := 163) rfl)) rfl
theorem w884 : (Cond.instanceMethod ({ cls := "WishToChip", name := "fewest", desc := "(I)I" } : MethodName)) ∈ zgw := zgw_k (tt4 _ (List.mem_of_getElem? (i := 164) rfl)) rfl
theorem w885 : (Cond.selects "WishToChip" ({ cls := "WishToChip", name := "fewest", desc := "(I)I" } : MethodName) ({ cls := "WishToChip", name := "fewest", desc := "(I)I" } : MethodName)) ∈ zgw := zgw_k (tt4 _ (List.mem_of_getElem? (i := 165) rfl)) rfl
theorem w886 : (Cond.code ({ cls := "WishToChip", name := "fewest", desc := "(I)I" } : MethodName) prog_1_method_33_code (4 : Nat) (Option.some FieldType.int)) ∈ zgw := zgw_k (tt4 _ (List.mem_of_getElem? (i := 166) rfl)) rfl
theorem w887 : (Cond.methodLink "WishToChip" (313 : Nat) ({ cls := "WishToChip$Trials", name := "findAll", desc := "(LWishToChip$View;I)J" } : MethodName)) ∈ zgw := zgw_k (tt4 _ (List.mem_of_getElem? (i := 167) rfl)) rfl
theorem w888 : (Cond.instanceMethod ({ cls := "WishToChip$Trials", name := "findAll", desc := "(LWishToChip$View;I)J" } : MethodName)) ∈ zgw := zgw_k (tt4 _ (List.mem_of_getElem? (i := 168) rfl)) rfl
theorem w889 : (Cond.selects "WishToChip$Trials" ({ cls := "WishToChip$Trials", name := "findAll", desc := "(LWishToChip$View;I)J" } : MethodName) ({ cls := "WishToChip$Trials", name := "findAll", desc := "(LWishToChip$View;I)J" } : MethodName)) ∈ zgw := zgw_k (tt4 _ (List.mem_of_getElem? (i := 169) rfl)) rfl
theorem w890 : (Cond.code ({ cls := "WishToChip$Trials", name := "findAll", desc := "(LWishToChip$View;I)J" } : MethodName) prog_11_method_6_code (6 : Nat) (Option.some FieldType.long)) ∈ zgw := zgw_k (tt4 _ (List.mem_of_getElem? (i := 170) rfl)) rfl
theorem w891 : (Cond.methodLink "WishToChip$Trials" (59 : Nat) ({ cls := "WishToChip$Trials", name := "make", desc := "(LWishToChip$View;II)V" } : MethodName)) ∈ zgw := zgw_k (tt4 _ (List.mem_of_getElem? (i := 171) rfl)) rfl
theorem w892 : (Cond.methodLink "WishToChip$Trials" (63 : Nat) ({ cls := "WishToChip$Trials", name := "lanesFailing", desc := "(I)J" } : MethodName)) ∈ zgw := zgw_k (tt4 _ (List.mem_of_getElem? (i := 172) rfl)) rfl
theorem w894 : (Cond.instanceMethod ({ cls := "WishToChip$Trials", name := "lanesFailing", desc := "(I)J" } : MethodName)) ∈ zgw := zgw_k (tt4 _ (List.mem_of_getElem? (i := 174) rfl)) rfl
theorem w895 : (Cond.code ({ cls := "WishToChip$Trials", name := "lanesFailing", desc := "(I)J" } : MethodName) prog_11_method_5_code (5 : Nat) (Option.some FieldType.long)) ∈ zgw := zgw_k (tt4 _ (List.mem_of_getElem? (i := 175) rfl)) rfl
theorem w896 : (Cond.constantLong "WishToChip$Trials" (57 : Nat) (-1 : Int64)) ∈ zgw := zgw_k (tt4 _ (List.mem_of_getElem? (i := 176) rfl)) rfl
theorem w897 : (Cond.methodLink "WishToChip" (317 : Nat) ({ cls := "WishToChip$Trials", name := "leastSet", desc := "(J)I" } : MethodName)) ∈ zgw := zgw_k (tt4 _ (List.mem_of_getElem? (i := 177) rfl)) rfl
theorem w898 : (Cond.instanceMethod ({ cls := "WishToChip$Trials", name := "leastSet", desc := "(J)I" } : MethodName)) ∈ zgw := zgw_k (tt4 _ (List.mem_of_getElem? (i := 178) rfl)) rfl
theorem w899 : (Cond.selects "WishToChip$Trials" ({ cls := "WishToChip$Trials", name := "leastSet", desc := "(J)I" } : MethodName) ({ cls := "WishToChip$Trials", name := "leastSet", desc := "(J)I" } : MethodName)) ∈ zgw := zgw_k (tt4 _ (List.mem_of_getElem? (i := 179) rfl)) rfl
theorem w900 : (Cond.code ({ cls := "WishToChip$Trials", name := "leastSet", desc := "(J)I" } : MethodName) prog_11_method_7_code (5 : Nat) (Option.some FieldType.int)) ∈ zgw := zgw_k (tt4 _ (List.mem_of_getElem? (i := 180) rfl)) rfl
theorem w901 : (Cond.methodLink "WishToChip$Trials" (67 : Nat) ({ cls := "java/lang/Integer", name := "bitCount", desc := "(I)I" } : MethodName)) ∈ zgw := zgw_k (tt4 _ (List.mem_of_getElem? (i := 181) rfl)) rfl
theorem w902 : (Cond.methodLink "WishToChip$Trials" (73 : Nat) ({ cls := "WishToChip$Trials", name := "foundBy", desc := "(I)J" } : MethodName)) ∈ zgw := zgw_k (tt4 _ (List.mem_of_getElem? (i := 182) rfl)) rfl
theorem w904 : (Cond.instanceMethod ({ cls := "WishToChip$Trials", name := "foundBy", desc := "(I)J" } : MethodName)) ∈ zgw := zgw_k (tt4 _ (List.mem_of_getElem? (i := 184) rfl)) rfl
theorem w905 : (Cond.code ({ cls := "WishToChip$Trials", name := "foundBy", desc := "(I)J" } : MethodName) prog_11_method_8_code (5 : Nat) (Option.some FieldType.long)) ∈ zgw := zgw_k (tt4 _ (List.mem_of_getElem? (i := 185) rfl)) rfl
theorem w906 : (Cond.methodLink "WishToChipLaw" (148 : Nat) ({ cls := "WishToChip", name := "see", desc := "(II)I" } : MethodName)) ∈ zgw := zgw_k (tt4 _ (List.mem_of_getElem? (i := 186) rfl)) rfl
theorem w907 : (Cond.instanceMethod ({ cls := "WishToChip", name := "see", desc := "(II)I" } : MethodName)) ∈ zgw := zgw_k (tt4 _ (List.mem_of_getElem? (i := 187) rfl)) rfl
theorem w908 : (Cond.selects "WishToChip" ({ cls := "WishToChip", name := "see", desc := "(II)I" } : MethodName) ({ cls := "WishToChip", name := "see", desc := "(II)I" } : MethodName)) ∈ zgw := zgw_k (tt4 _ (List.mem_of_getElem? (i := 188) rfl)) rfl
theorem w909 : (Cond.code ({ cls := "WishToChip", name := "see", desc := "(II)I" } : MethodName) prog_1_method_34_code (4 : Nat) (Option.some FieldType.int)) ∈ zgw := zgw_k (tt4 _ (List.mem_of_getElem? (i := 189) rfl)) rfl
theorem w910 : (Cond.methodLink "WishToChipLaw" (152 : Nat) ({ cls := "WishToChip", name := "could", desc := "(I)I" } : MethodName)) ∈ zgw := zgw_k (tt4 _ (List.mem_of_getElem? (i := 190) rfl)) rfl
theorem w911 : (Cond.instanceMethod ({ cls := "WishToChip", name := "could", desc := "(I)I" } : MethodName)) ∈ zgw := zgw_k (tt4 _ (List.mem_of_getElem? (i := 191) rfl)) rfl
theorem w912 : (Cond.selects "WishToChip" ({ cls := "WishToChip", name := "could", desc := "(I)I" } : MethodName) ({ cls := "WishToChip", name := "could", desc := "(I)I" } : MethodName)) ∈ zgw := zgw_k (tt4 _ (List.mem_of_getElem? (i := 192) rfl)) rfl
theorem w913 : (Cond.code ({ cls := "WishToChip", name := "could", desc := "(I)I" } : MethodName) prog_1_method_35_code (4 : Nat) (Option.some FieldType.int)) ∈ zgw := zgw_k (tt4 _ (List.mem_of_getElem? (i := 193) rfl)) rfl
theorem w914 : (Cond.methodLink "WishToChip" (323 : Nat) ({ cls := "WishToChip$Trials", name := "thatCouldBe", desc := "(LWishToChip$View;I)J" } : MethodName)) ∈ zgw := zgw_k (tt4 _ (List.mem_of_getElem? (i := 194) rfl)) rfl
theorem w915 : (Cond.instanceMethod ({ cls := "WishToChip$Trials", name := "thatCouldBe", desc := "(LWishToChip$View;I)J" } : MethodName)) ∈ zgw := zgw_k (tt4 _ (List.mem_of_getElem? (i := 195) rfl)) rfl
theorem w916 : (Cond.selects "WishToChip$Trials" ({ cls := "WishToChip$Trials", name := "thatCouldBe", desc := "(LWishToChip$View;I)J" } : MethodName) ({ cls := "WishToChip$Trials", name := "thatCouldBe", desc := "(LWishToChip$View;I)J" } : MethodName)) ∈ zgw := zgw_k (tt4 _ (List.mem_of_getElem? (i := 196) rfl)) rfl
theorem w917 : (Cond.code ({ cls := "WishToChip$Trials", name := "thatCouldBe", desc := "(LWishToChip$View;I)J" } : MethodName) prog_11_method_9_code (6 : Nat) (Option.some FieldType.long)) ∈ zgw := zgw_k (tt4 _ (List.mem_of_getElem? (i := 197) rfl)) rfl
theorem w918 : (Cond.methodLink "WishToChip" (326 : Nat) ({ cls := "WishToChip$Trials", name := "bitNumber", desc := "(JI)I" } : MethodName)) ∈ zgw := zgw_k (tt4 _ (List.mem_of_getElem? (i := 198) rfl)) rfl
theorem w919 : (Cond.static ({ cls := "WishToChip$Trials", name := "bitNumber", desc := "(JI)I" } : MethodName)) ∈ zgw := zgw_k (tt4 _ (List.mem_of_getElem? (i := 199) rfl)) rfl
theorem w920 : (Cond.code ({ cls := "WishToChip$Trials", name := "bitNumber", desc := "(JI)I" } : MethodName) prog_11_method_12_code (6 : Nat) (Option.some FieldType.int)) ∈ zgw := zgw_k (tt4 _ (List.mem_of_getElem? (i := 200) rfl)) rfl
theorem w921 : (Cond.methodLink "WishToChip$Trials" (97 : Nat) ({ cls := "java/lang/Long", name := "numberOfTrailingZeros", desc := "(J)I" } : MethodName)) ∈ zgw := zgw_k (tt4 _ (List.mem_of_getElem? (i := 201) rfl)) rfl
theorem w922 : (Cond.methodLink "WishToChipLaw" (156 : Nat) ({ cls := "WishToChip", name := "parts", desc := "()I" } : MethodName)) ∈ zgw := zgw_k (tt4 _ (List.mem_of_getElem? (i := 202) rfl)) rfl
theorem w923 : (Cond.instanceMethod ({ cls := "WishToChip", name := "parts", desc := "()I" } : MethodName)) ∈ zgw := zgw_k (tt4 _ (List.mem_of_getElem? (i := 203) rfl)) rfl
theorem w924 : (Cond.selects "WishToChip" ({ cls := "WishToChip", name := "parts", desc := "()I" } : MethodName) ({ cls := "WishToChip", name := "parts", desc := "()I" } : MethodName)) ∈ zgw := zgw_k (tt4 _ (List.mem_of_getElem? (i := 204) rfl)) rfl
theorem w925 : (Cond.code ({ cls := "WishToChip", name := "parts", desc := "()I" } : MethodName) prog_1_method_36_code (1 : Nat) (Option.some FieldType.int)) ∈ zgw := zgw_k (tt4 _ (List.mem_of_getElem? (i := 205) rfl)) rfl
theorem w926 : (Cond.methodLink "WishToChip" (330 : Nat) ({ cls := "WishToChip$Trials", name := "bestToPart", desc := "(LWishToChip$View;I)I" } : MethodName)) ∈ zgw := zgw_k (tt4 _ (List.mem_of_getElem? (i := 206) rfl)) rfl
theorem w927 : (Cond.instanceMethod ({ cls := "WishToChip$Trials", name := "bestToPart", desc := "(LWishToChip$View;I)I" } : MethodName)) ∈ zgw := zgw_k (tt4 _ (List.mem_of_getElem? (i := 207) rfl)) rfl
theorem w928 : (Cond.selects "WishToChip$Trials" ({ cls := "WishToChip$Trials", name := "bestToPart", desc := "(LWishToChip$View;I)I" } : MethodName) ({ cls := "WishToChip$Trials", name := "bestToPart", desc := "(LWishToChip$View;I)I" } : MethodName)) ∈ zgw := zgw_k (tt4 _ (List.mem_of_getElem? (i := 208) rfl)) rfl
theorem w929 : (Cond.code ({ cls := "WishToChip$Trials", name := "bestToPart", desc := "(LWishToChip$View;I)I" } : MethodName) prog_11_method_10_code (9 : Nat) (Option.some FieldType.int)) ∈ zgw := zgw_k (tt4 _ (List.mem_of_getElem? (i := 209) rfl)) rfl
theorem w930 : (Cond.methodLink "WishToChip$Trials" (76 : Nat) ({ cls := "WishToChip$Trials", name := "thatCouldBe", desc := "(LWishToChip$View;I)J" } : MethodName)) ∈ zgw := zgw_k (tt4 _ (List.mem_of_getElem? (i := 210) rfl)) rfl
theorem w931 : (Cond.methodLink "WishToChip$Trials" (80 : Nat) ({ cls := "java/lang/Long", name := "bitCount", desc := "(J)I" } : MethodName)) ∈ zgw := zgw_k (tt4 _ (List.mem_of_getElem? (i := 211) rfl)) rfl
theorem w932 : (Cond.methodLink "WishToChip$Trials" (85 : Nat) ({ cls := "WishToChip$Trials", name := "greatestAlike", desc := "(J)I" } : MethodName)) ∈ zgw := zgw_k (tt4 _ (List.mem_of_getElem? (i := 212) rfl)) rfl
theorem w934 : (Cond.instanceMethod ({ cls := "WishToChip$Trials", name := "greatestAlike", desc := "(J)I" } : MethodName)) ∈ zgw := zgw_k (tt4 _ (List.mem_of_getElem? (i := 214) rfl)) rfl
theorem w935 : (Cond.code ({ cls := "WishToChip$Trials", name := "greatestAlike", desc := "(J)I" } : MethodName) prog_11_method_11_code (9 : Nat) (Option.some FieldType.int)) ∈ zgw := zgw_k (tt4 _ (List.mem_of_getElem? (i := 215) rfl)) rfl
theorem w936 : (Cond.methodLink "WishToChip$Trials" (88 : Nat) ({ cls := "WishToChip$Trials", name := "failsOf", desc := "(I)I" } : MethodName)) ∈ zgw := zgw_k (tt4 _ (List.mem_of_getElem? (i := 216) rfl)) rfl
theorem w937 : (Cond.methodLink "WishToChip$Trials" (91 : Nat) ({ cls := "java/lang/Math", name := "max", desc := "(II)I" } : MethodName)) ∈ zgw := zgw_k (tt4 _ (List.mem_of_getElem? (i := 217) rfl)) rfl
theorem w938 : (Cond.methodLink "WishToChipLaw" (160 : Nat) ({ cls := "WishToChip", name := "keep", desc := "()I" } : MethodName)) ∈ zgw := zgw_k (tt4 _ (List.mem_of_getElem? (i := 218) rfl)) rfl
theorem w939 : (Cond.instanceMethod ({ cls := "WishToChip", name := "keep", desc := "()I" } : MethodName)) ∈ zgw := zgw_k (tt4 _ (List.mem_of_getElem? (i := 219) rfl)) rfl
theorem w940 : (Cond.selects "WishToChip" ({ cls := "WishToChip", name := "keep", desc := "()I" } : MethodName) ({ cls := "WishToChip", name := "keep", desc := "()I" } : MethodName)) ∈ zgw := zgw_k (tt4 _ (List.mem_of_getElem? (i := 220) rfl)) rfl
theorem w941 : (Cond.code ({ cls := "WishToChip", name := "keep", desc := "()I" } : MethodName) prog_1_method_37_code (2 : Nat) (Option.some FieldType.int)) ∈ zgw := zgw_k (tt4 _ (List.mem_of_getElem? (i := 221) rfl)) rfl
theorem w942 : (Cond.methodLink "WishToChipLaw" (164 : Nat) ({ cls := "WishToChip", name := "back", desc := "()I" } : MethodName)) ∈ zgw := zgw_k (tt4 _ (List.mem_of_getElem? (i := 222) rfl)) rfl
theorem w943 : (Cond.instanceMethod ({ cls := "WishToChip", name := "back", desc := "()I" } : MethodName)) ∈ zgw := zgw_k (tt4 _ (List.mem_of_getElem? (i := 223) rfl)) rfl
theorem w944 : (Cond.selects "WishToChip" ({ cls := "WishToChip", name := "back", desc := "()I" } : MethodName) ({ cls := "WishToChip", name := "back", desc := "()I" } : MethodName)) ∈ zgw := zgw_k (tt4 _ (List.mem_of_getElem? (i := 224) rfl)) rfl
theorem w945 : (Cond.code ({ cls := "WishToChip", name := "back", desc := "()I" } : MethodName) prog_1_method_38_code (2 : Nat) (Option.some FieldType.int)) ∈ zgw := zgw_k (tt4 _ (List.mem_of_getElem? (i := 225) rfl)) rfl
theorem w946 : (Cond.methodLink "WishToChipLaw" (168 : Nat) ({ cls := "WishToChip", name := "count", desc := "(I)I" } : MethodName)) ∈ zgw := zgw_k (tt4 _ (List.mem_of_getElem? (i := 226) rfl)) rfl
theorem w947 : (Cond.instanceMethod ({ cls := "WishToChip", name := "count", desc := "(I)I" } : MethodName)) ∈ zgw := zgw_k (tt4 _ (List.mem_of_getElem? (i := 227) rfl)) rfl
theorem w948 : (Cond.selects "WishToChip" ({ cls := "WishToChip", name := "count", desc := "(I)I" } : MethodName) ({ cls := "WishToChip", name := "count", desc := "(I)I" } : MethodName)) ∈ zgw := zgw_k (tt4 _ (List.mem_of_getElem? (i := 228) rfl)) rfl
theorem w949 : (Cond.code ({ cls := "WishToChip", name := "count", desc := "(I)I" } : MethodName) prog_1_method_39_code (2 : Nat) (Option.some FieldType.int)) ∈ zgw := zgw_k (tt4 _ (List.mem_of_getElem? (i := 229) rfl)) rfl
theorem w950 : (Cond.classLink "WishToChipLaw" (10 : Nat) "WishToChipModel") ∈ zgw := zgw_k (tt4 _ (List.mem_of_getElem? (i := 230) rfl)) rfl
theorem w951 : (Cond.instantiable "WishToChipModel" (40 : Nat)) ∈ zgw := zgw_k (tt4 _ (List.mem_of_getElem? (i := 231) rfl)) rfl
theorem w952 : (Cond.methodLink "WishToChipLaw" (12 : Nat) ({ cls := "WishToChipModel", name := "<init>", desc := "()V" } : MethodName)) ∈ zgw := zgw_k (tt4 _ (List.mem_of_getElem? (i := 232) rfl)) rfl
theorem w953 : (Cond.instanceMethod ({ cls := "WishToChipModel", name := "<init>", desc := "()V" } : MethodName)) ∈ zgw := zgw_k (tt4 _ (List.mem_of_getElem? (i := 233) rfl)) rfl
theorem w954 : (Cond.code ({ cls := "WishToChipModel", name := "<init>", desc := "()V" } : MethodName) prog_14_method_1_code (2 : Nat) (Option.none : Option FieldType)) ∈ zgw := zgw_k (tt4 _ (List.mem_of_getElem? (i := 234) rfl)) rfl
theorem w955 : (Cond.methodLink "WishToChipModel" (1 : Nat) ({ cls := "java/lang/Object", name := "<init>", desc := "()V" } : MethodName)) ∈ zgw := zgw_k (tt4 _ (List.mem_of_getElem? (i := 235) rfl)) rfl
theorem w956 : (Cond.constant "WishToChipModel" (111 : Nat) (524224 : Int32)) ∈ zgw := zgw_k (tt4 _ (List.mem_of_getElem? (i := 236) rfl)) rfl
theorem w957 : (Cond.fieldLink "WishToChipModel" (7 : Nat) "WishToChipModel" "text" "[I") ∈ zgw := zgw_k (tt4 _ (List.mem_of_getElem? (i := 237) rfl)) rfl
theorem w958 : (Cond.fieldLink "WishToChipModel" (13 : Nat) "WishToChipModel" "length" "[I") ∈ zgw := zgw_k (tt4 _ (List.mem_of_getElem? (i := 238) rfl)) rfl
theorem w959 : (Cond.fieldLink "WishToChipModel" (16 : Nat) "WishToChipModel" "lines" "[I") ∈ zgw := zgw_k (tt4 _ (List.mem_of_getElem? (i := 239) rfl)) rfl
theorem w960 : (Cond.fieldLink "WishToChipModel" (19 : Nat) "WishToChipModel" "lineAt" "[I") ∈ zgw := zgw_k (tt5 _ (List.mem_of_getElem? (i := 0) rfl)) rfl
theorem w961 : (Cond.fieldLink "WishToChipModel" (22 : Nat) "WishToChipModel" "lineLong" "[I") ∈ zgw := zgw_k (tt5 _ (List.mem_of_getElem? (i := 1) rfl)) rfl
theorem w962 : (Cond.fieldLink "WishToChipModel" (25 : Nat) "WishToChipModel" "lineMany" "[I") ∈ zgw := zgw_k (tt5 _ (List.mem_of_getElem? (i := 2) rfl)) rfl
theorem w963 : (Cond.fieldLink "WishToChipModel" (28 : Nat) "WishToChipModel" "order" "[I") ∈ zgw := zgw_k (tt5 _ (List.mem_of_getElem? (i := 3) rfl)) rfl
theorem w964 : (Cond.fieldLink "WishToChipModel" (31 : Nat) "WishToChipModel" "orderMany" "[I") ∈ zgw := zgw_k (tt5 _ (List.mem_of_getElem? (i := 4) rfl)) rfl
theorem w965 : (Cond.fieldLink "WishToChipModel" (34 : Nat) "WishToChipModel" "registers" "[I") ∈ zgw := zgw_k (tt5 _ (List.mem_of_getElem? (i := 5) rfl)) rfl
theorem w966 : (Cond.fieldLink "WishToChipModel" (37 : Nat) "WishToChipModel" "starts" "[I") ∈ zgw := zgw_k (tt5 _ (List.mem_of_getElem? (i := 6) rfl)) rfl
theorem w967 : (Cond.fieldLink "WishToChipModel" (40 : Nat) "WishToChipModel" "ends" "[I") ∈ zgw := zgw_k (tt5 _ (List.mem_of_getElem? (i := 7) rfl)) rfl
theorem w968 : (Cond.fieldLink "WishToChipModel" (262 : Nat) "WishToChipModel" "keptMany" "I") ∈ zgw := zgw_k (tt5 _ (List.mem_of_getElem? (i := 8) rfl)) rfl
theorem w969 : (Cond.fieldLink "WishToChipModel" (150 : Nat) "WishToChipModel" "steps" "I") ∈ zgw := zgw_k (tt5 _ (List.mem_of_getElem? (i := 9) rfl)) rfl
theorem w970 : (Cond.fieldLink "WishToChipModel" (43 : Nat) "WishToChipModel" "price" "[I") ∈ zgw := zgw_k (tt5 _ (List.mem_of_getElem? (i := 10) rfl)) rfl
theorem w971 : (Cond.fieldLink "WishToChipModel" (46 : Nat) "WishToChipModel" "delay" "[I") ∈ zgw := zgw_k (tt5 _ (List.mem_of_getElem? (i := 11) rfl)) rfl
theorem w972 : (Cond.fieldLink "WishToChipModel" (49 : Nat) "WishToChipModel" "rules" "[I") ∈ zgw := zgw_k (tt5 _ (List.mem_of_getElem? (i := 12) rfl)) rfl
theorem w973 : (Cond.fieldLink "WishToChipModel" (52 : Nat) "WishToChipModel" "values" "[I") ∈ zgw := zgw_k (tt5 _ (List.mem_of_getElem? (i := 13) rfl)) rfl
theorem w974 : (Cond.fieldLink "WishToChipModel" (55 : Nat) "WishToChipModel" "stack" "[I") ∈ zgw := zgw_k (tt5 _ (List.mem_of_getElem? (i := 14) rfl)) rfl
theorem w975 : (Cond.fieldLink "WishToChipModel" (58 : Nat) "WishToChipModel" "stuckName" "I") ∈ zgw := zgw_k (tt5 _ (List.mem_of_getElem? (i := 15) rfl)) rfl
theorem w976 : (Cond.fieldLink "WishToChipModel" (160 : Nat) "WishToChipModel" "stuckAt" "I") ∈ zgw := zgw_k (tt5 _ (List.mem_of_getElem? (i := 16) rfl)) rfl
theorem w977 : (Cond.fieldLink "WishToChipModel" (62 : Nat) "WishToChipModel" "last" "[I") ∈ zgw := zgw_k (tt5 _ (List.mem_of_getElem? (i := 17) rfl)) rfl
theorem w978 : (Cond.fieldLink "WishToChipModel" (65 : Nat) "WishToChipModel" "plain" "[I") ∈ zgw := zgw_k (tt5 _ (List.mem_of_getElem? (i := 18) rfl)) rfl
theorem w979 : (Cond.fieldLink "WishToChipModel" (68 : Nat) "WishToChipModel" "turned" "[I") ∈ zgw := zgw_k (tt5 _ (List.mem_of_getElem? (i := 19) rfl)) rfl
theorem w980 : (Cond.fieldLink "WishToChipModel" (71 : Nat) "WishToChipModel" "arrivals" "[I") ∈ zgw := zgw_k (tt5 _ (List.mem_of_getElem? (i := 20) rfl)) rfl
theorem w981 : (Cond.fieldLink "WishToChipModel" (74 : Nat) "WishToChipModel" "cameBy" "[I") ∈ zgw := zgw_k (tt5 _ (List.mem_of_getElem? (i := 21) rfl)) rfl
theorem w982 : (Cond.fieldLink "WishToChipModel" (77 : Nat) "WishToChipModel" "came" "[I") ∈ zgw := zgw_k (tt5 _ (List.mem_of_getElem? (i := 22) rfl)) rfl
theorem w983 : (Cond.fieldLink "WishToChipModel" (80 : Nat) "WishToChipModel" "by" "[I") ∈ zgw := zgw_k (tt5 _ (List.mem_of_getElem? (i := 23) rfl)) rfl
theorem w984 : (Cond.fieldLink "WishToChipModel" (211 : Nat) "WishToChipModel" "blockMany" "I") ∈ zgw := zgw_k (tt5 _ (List.mem_of_getElem? (i := 24) rfl)) rfl
theorem w985 : (Cond.fieldLink "WishToChipModel" (83 : Nat) "WishToChipModel" "places" "[I") ∈ zgw := zgw_k (tt5 _ (List.mem_of_getElem? (i := 25) rfl)) rfl
theorem w986 : (Cond.fieldLink "WishToChipModel" (217 : Nat) "WishToChipModel" "netMany" "I") ∈ zgw := zgw_k (tt5 _ (List.mem_of_getElem? (i := 26) rfl)) rfl
theorem w987 : (Cond.fieldLink "WishToChipModel" (86 : Nat) "WishToChipModel" "nets" "[I") ∈ zgw := zgw_k (tt5 _ (List.mem_of_getElem? (i := 27) rfl)) rfl
theorem w988 : (Cond.fieldLink "WishToChipModel" (89 : Nat) "WishToChipModel" "tried" "[I") ∈ zgw := zgw_k (tt5 _ (List.mem_of_getElem? (i := 28) rfl)) rfl
theorem w989 : (Cond.fieldLink "WishToChipModel" (92 : Nat) "WishToChipModel" "best" "[I") ∈ zgw := zgw_k (tt5 _ (List.mem_of_getElem? (i := 29) rfl)) rfl
theorem w990 : (Cond.fieldLink "WishToChipModel" (246 : Nat) "WishToChipModel" "trialMany" "I") ∈ zgw := zgw_k (tt5 _ (List.mem_of_getElem? (i := 30) rfl)) rfl
theorem w991 : (Cond.fieldLink "WishToChipModel" (95 : Nat) "WishToChipModel" "trials" "[I") ∈ zgw := zgw_k (tt5 _ (List.mem_of_getElem? (i := 31) rfl)) rfl
theorem w992 : (Cond.fieldLink "WishToChipModel" (98 : Nat) "WishToChipModel" "seen" "[I") ∈ zgw := zgw_k (tt5 _ (List.mem_of_getElem? (i := 32) rfl)) rfl
theorem w993 : (Cond.fieldLink "WishToChipModel" (101 : Nat) "WishToChipModel" "found" "[J") ∈ zgw := zgw_k (tt5 _ (List.mem_of_getElem? (i := 33) rfl)) rfl
theorem w994 : (Cond.fieldLink "WishToChipModel" (259 : Nat) "WishToChipModel" "soMany" "I") ∈ zgw := zgw_k (tt5 _ (List.mem_of_getElem? (i := 34) rfl)) rfl
theorem w995 : (Cond.fieldLink "WishToChipModel" (105 : Nat) "WishToChipModel" "so" "[I") ∈ zgw := zgw_k (tt5 _ (List.mem_of_getElem? (i := 35) rfl)) rfl
theorem w996 : (Cond.fieldLink "WishToChipModel" (108 : Nat) "WishToChipModel" "soFails" "[I") ∈ zgw := zgw_k (tt5 _ (List.mem_of_getElem? (i := 36) rfl)) rfl
theorem w1078 : (Cond.methodLink "WishToChipLaw" (19 : Nat) ({ cls := "WishToChipModel", name := "write", desc := "(IIJ)I" } : MethodName)) ∈ zgw := zgw_k (tt5 _ (List.mem_of_getElem? (i := 118) rfl)) rfl
theorem w1079 : (Cond.instanceMethod ({ cls := "WishToChipModel", name := "write", desc := "(IIJ)I" } : MethodName)) ∈ zgw := zgw_k (tt5 _ (List.mem_of_getElem? (i := 119) rfl)) rfl
theorem w1080 : (Cond.selects "WishToChipModel" ({ cls := "WishToChipModel", name := "write", desc := "(IIJ)I" } : MethodName) ({ cls := "WishToChipModel", name := "write", desc := "(IIJ)I" } : MethodName)) ∈ zgw := zgw_k (tt5 _ (List.mem_of_getElem? (i := 120) rfl)) rfl
theorem w1081 : (Cond.code ({ cls := "WishToChipModel", name := "write", desc := "(IIJ)I" } : MethodName) prog_14_method_3_code (6 : Nat) (Option.some FieldType.int)) ∈ zgw := zgw_k (tt5 _ (List.mem_of_getElem? (i := 121) rfl)) rfl
theorem w1082 : (Cond.methodLink "WishToChipModel" (112 : Nat) ({ cls := "WishToChipModel", name := "in", desc := "(III)Z" } : MethodName)) ∈ zgw := zgw_k (tt5 _ (List.mem_of_getElem? (i := 122) rfl)) rfl
theorem w1083 : (Cond.static ({ cls := "WishToChipModel", name := "in", desc := "(III)Z" } : MethodName)) ∈ zgw := zgw_k (tt5 _ (List.mem_of_getElem? (i := 123) rfl)) rfl
theorem w1084 : (Cond.code ({ cls := "WishToChipModel", name := "in", desc := "(III)Z" } : MethodName) prog_14_method_2_code (3 : Nat) (Option.some FieldType.boolean)) ∈ zgw := zgw_k (tt5 _ (List.mem_of_getElem? (i := 124) rfl)) rfl
theorem w1085 : (Cond.constantLong "WishToChipModel" (116 : Nat) (255 : Int64)) ∈ zgw := zgw_k (tt5 _ (List.mem_of_getElem? (i := 125) rfl)) rfl
theorem w1086 : (Cond.methodLink "WishToChipLaw" (24 : Nat) ({ cls := "WishToChipModel", name := "clear", desc := "(I)I" } : MethodName)) ∈ zgw := zgw_k (tt5 _ (List.mem_of_getElem? (i := 126) rfl)) rfl
theorem w1087 : (Cond.instanceMethod ({ cls := "WishToChipModel", name := "clear", desc := "(I)I" } : MethodName)) ∈ zgw := zgw_k (tt5 _ (List.mem_of_getElem? (i := 127) rfl)) rfl
theorem w1088 : (Cond.selects "WishToChipModel" ({ cls := "WishToChipModel", name := "clear", desc := "(I)I" } : MethodName) ({ cls := "WishToChipModel", name := "clear", desc := "(I)I" } : MethodName)) ∈ zgw := zgw_k (tt5 _ (List.mem_of_getElem? (i := 128) rfl)) rfl
theorem w1089 : (Cond.code ({ cls := "WishToChipModel", name := "clear", desc := "(I)I" } : MethodName) prog_14_method_4_code (3 : Nat) (Option.some FieldType.int)) ∈ zgw := zgw_k (tt5 _ (List.mem_of_getElem? (i := 129) rfl)) rfl
theorem w1090 : (Cond.methodLink "WishToChipLaw" (28 : Nat) ({ cls := "WishToChipModel", name := "fault", desc := "(I)I" } : MethodName)) ∈ zgw := zgw_k (tt5 _ (List.mem_of_getElem? (i := 130) rfl)) rfl
theorem w1091 : (Cond.instanceMethod ({ cls := "WishToChipModel", name := "fault", desc := "(I)I" } : MethodName)) ∈ zgw := zgw_k (tt5 _ (List.mem_of_getElem? (i := 131) rfl)) rfl
theorem w1092 : (Cond.selects "WishToChipModel" ({ cls := "WishToChipModel", name := "fault", desc := "(I)I" } : MethodName) ({ cls := "WishToChipModel", name := "fault", desc := "(I)I" } : MethodName)) ∈ zgw := zgw_k (tt5 _ (List.mem_of_getElem? (i := 132) rfl)) rfl
theorem w1093 : (Cond.code ({ cls := "WishToChipModel", name := "fault", desc := "(I)I" } : MethodName) prog_14_method_11_code (2 : Nat) (Option.some FieldType.int)) ∈ zgw := zgw_k (tt5 _ (List.mem_of_getElem? (i := 133) rfl)) rfl
theorem w1094 : (Cond.methodLink "WishToChipModel" (129 : Nat) ({ cls := "WishToChipModel", name := "read", desc := "(I)I" } : MethodName)) ∈ zgw := zgw_k (tt5 _ (List.mem_of_getElem? (i := 134) rfl)) rfl
theorem w1096 : (Cond.instanceMethod ({ cls := "WishToChipModel", name := "read", desc := "(I)I" } : MethodName)) ∈ zgw := zgw_k (tt5 _ (List.mem_of_getElem? (i := 136) rfl)) rfl
theorem w1097 : (Cond.code ({ cls := "WishToChipModel", name := "read", desc := "(I)I" } : MethodName) prog_14_method_6_code (8 : Nat) (Option.some FieldType.int)) ∈ zgw := zgw_k (tt5 _ (List.mem_of_getElem? (i := 137) rfl)) rfl
theorem w1098 : (Cond.methodLink "WishToChipModel" (118 : Nat) ({ cls := "WishToChipModel", name := "takes", desc := "(I)I" } : MethodName)) ∈ zgw := zgw_k (tt5 _ (List.mem_of_getElem? (i := 138) rfl)) rfl
theorem w1099 : (Cond.static ({ cls := "WishToChipModel", name := "takes", desc := "(I)I" } : MethodName)) ∈ zgw := zgw_k (tt5 _ (List.mem_of_getElem? (i := 139) rfl)) rfl
theorem w1100 : (Cond.code ({ cls := "WishToChipModel", name := "takes", desc := "(I)I" } : MethodName) prog_14_method_5_code (1 : Nat) (Option.some FieldType.int)) ∈ zgw := zgw_k (tt5 _ (List.mem_of_getElem? (i := 140) rfl)) rfl
theorem w1101 : (Cond.methodLink "WishToChipLaw" (33 : Nat) ({ cls := "WishToChipModel", name := "ring", desc := "(II)I" } : MethodName)) ∈ zgw := zgw_k (tt5 _ (List.mem_of_getElem? (i := 141) rfl)) rfl
theorem w1102 : (Cond.instanceMethod ({ cls := "WishToChipModel", name := "ring", desc := "(II)I" } : MethodName)) ∈ zgw := zgw_k (tt5 _ (List.mem_of_getElem? (i := 142) rfl)) rfl
theorem w1103 : (Cond.selects "WishToChipModel" ({ cls := "WishToChipModel", name := "ring", desc := "(II)I" } : MethodName) ({ cls := "WishToChipModel", name := "ring", desc := "(II)I" } : MethodName)) ∈ zgw := zgw_k (tt5 _ (List.mem_of_getElem? (i := 143) rfl)) rfl
theorem w1104 : (Cond.code ({ cls := "WishToChipModel", name := "ring", desc := "(II)I" } : MethodName) prog_14_method_12_code (3 : Nat) (Option.some FieldType.int)) ∈ zgw := zgw_k (tt5 _ (List.mem_of_getElem? (i := 144) rfl)) rfl
theorem w1105 : (Cond.methodLink "WishToChipModel" (132 : Nat) ({ cls := "WishToChipModel", name := "ringOf", desc := "(I)I" } : MethodName)) ∈ zgw := zgw_k (tt5 _ (List.mem_of_getElem? (i := 145) rfl)) rfl
theorem w1107 : (Cond.instanceMethod ({ cls := "WishToChipModel", name := "ringOf", desc := "(I)I" } : MethodName)) ∈ zgw := zgw_k (tt5 _ (List.mem_of_getElem? (i := 147) rfl)) rfl
theorem w1108 : (Cond.code ({ cls := "WishToChipModel", name := "ringOf", desc := "(I)I" } : MethodName) prog_14_method_9_code (3 : Nat) (Option.some FieldType.int)) ∈ zgw := zgw_k (tt5 _ (List.mem_of_getElem? (i := 148) rfl)) rfl
theorem w1109 : (Cond.methodLink "WishToChipModel" (126 : Nat) ({ cls := "WishToChipModel", name := "leans", desc := "(II)I" } : MethodName)) ∈ zgw := zgw_k (tt5 _ (List.mem_of_getElem? (i := 149) rfl)) rfl
theorem w1111 : (Cond.instanceMethod ({ cls := "WishToChipModel", name := "leans", desc := "(II)I" } : MethodName)) ∈ zgw := zgw_k (tt5 _ (List.mem_of_getElem? (i := 151) rfl)) rfl
theorem w1112 : (Cond.code ({ cls := "WishToChipModel", name := "leans", desc := "(II)I" } : MethodName) prog_14_method_8_code (6 : Nat) (Option.some FieldType.int)) ∈ zgw := zgw_k (tt5 _ (List.mem_of_getElem? (i := 152) rfl)) rfl
theorem w1113 : (Cond.methodLink "WishToChipModel" (122 : Nat) ({ cls := "WishToChipModel", name := "namesIn", desc := "(II)I" } : MethodName)) ∈ zgw := zgw_k (tt5 _ (List.mem_of_getElem? (i := 153) rfl)) rfl
theorem w1115 : (Cond.instanceMethod ({ cls := "WishToChipModel", name := "namesIn", desc := "(II)I" } : MethodName)) ∈ zgw := zgw_k (tt5 _ (List.mem_of_getElem? (i := 155) rfl)) rfl
theorem w1116 : (Cond.code ({ cls := "WishToChipModel", name := "namesIn", desc := "(II)I" } : MethodName) prog_14_method_7_code (6 : Nat) (Option.some FieldType.int)) ∈ zgw := zgw_k (tt5 _ (List.mem_of_getElem? (i := 156) rfl)) rfl
theorem w1117 : (Cond.methodLink "WishToChipModel" (135 : Nat) ({ cls := "WishToChipModel", name := "lackOf", desc := "(I)I" } : MethodName)) ∈ zgw := zgw_k (tt5 _ (List.mem_of_getElem? (i := 157) rfl)) rfl
theorem w1119 : (Cond.instanceMethod ({ cls := "WishToChipModel", name := "lackOf", desc := "(I)I" } : MethodName)) ∈ zgw := zgw_k (tt5 _ (List.mem_of_getElem? (i := 159) rfl)) rfl
theorem w1120 : (Cond.code ({ cls := "WishToChipModel", name := "lackOf", desc := "(I)I" } : MethodName) prog_14_method_10_code (4 : Nat) (Option.some FieldType.int)) ∈ zgw := zgw_k (tt5 _ (List.mem_of_getElem? (i := 160) rfl)) rfl
theorem w1121 : (Cond.methodLink "WishToChipLaw" (37 : Nat) ({ cls := "WishToChipModel", name := "build", desc := "(I)I" } : MethodName)) ∈ zgw := zgw_k (tt5 _ (List.mem_of_getElem? (i := 161) rfl)) rfl
theorem w1122 : (Cond.instanceMethod ({ cls := "WishToChipModel", name := "build", desc := "(I)I" } : MethodName)) ∈ zgw := zgw_k (tt5 _ (List.mem_of_getElem? (i := 162) rfl)) rfl
theorem w1123 : (Cond.selects "WishToChipModel" ({ cls := "WishToChipModel", name := "build", desc := "(I)I" } : MethodName) ({ cls := "WishToChipModel", name := "build", desc := "(I)I" } : MethodName)) ∈ zgw := zgw_k (tt5 _ (List.mem_of_getElem? (i := 163) rfl)) rfl
theorem w1124 : (Cond.code ({ cls := "WishToChipModel", name := "build", desc := "(I)I" } : MethodName) prog_14_method_16_code (3 : Nat) (Option.some FieldType.int)) ∈ zgw := zgw_k (tt5 _ (List.mem_of_getElem? (i := 164) rfl)) rfl
theorem w1125 : (Cond.methodLink "WishToChipModel" (142 : Nat) ({ cls := "WishToChipModel", name := "reads", desc := "(I)Z" } : MethodName)) ∈ zgw := zgw_k (tt5 _ (List.mem_of_getElem? (i := 165) rfl)) rfl
theorem w1127 : (Cond.instanceMethod ({ cls := "WishToChipModel", name := "reads", desc := "(I)Z" } : MethodName)) ∈ zgw := zgw_k (tt5 _ (List.mem_of_getElem? (i := 167) rfl)) rfl
theorem w1128 : (Cond.code ({ cls := "WishToChipModel", name := "reads", desc := "(I)Z" } : MethodName) prog_14_method_15_code (2 : Nat) (Option.some FieldType.boolean)) ∈ zgw := zgw_k (tt5 _ (List.mem_of_getElem? (i := 168) rfl)) rfl
theorem w1129 : (Cond.methodLink "WishToChipModel" (138 : Nat) ({ cls := "WishToChipModel", name := "layOrder", desc := "(I)V" } : MethodName)) ∈ zgw := zgw_k (tt5 _ (List.mem_of_getElem? (i := 169) rfl)) rfl
theorem w1131 : (Cond.instanceMethod ({ cls := "WishToChipModel", name := "layOrder", desc := "(I)V" } : MethodName)) ∈ zgw := zgw_k (tt5 _ (List.mem_of_getElem? (i := 171) rfl)) rfl
theorem w1132 : (Cond.code ({ cls := "WishToChipModel", name := "layOrder", desc := "(I)V" } : MethodName) prog_14_method_13_code (6 : Nat) (Option.none : Option FieldType)) ∈ zgw := zgw_k (tt5 _ (List.mem_of_getElem? (i := 172) rfl)) rfl
theorem w1133 : (Cond.methodLink "WishToChipModel" (146 : Nat) ({ cls := "WishToChipModel", name := "copyView", desc := "(II)V" } : MethodName)) ∈ zgw := zgw_k (tt5 _ (List.mem_of_getElem? (i := 173) rfl)) rfl
theorem w1135 : (Cond.instanceMethod ({ cls := "WishToChipModel", name := "copyView", desc := "(II)V" } : MethodName)) ∈ zgw := zgw_k (tt5 _ (List.mem_of_getElem? (i := 175) rfl)) rfl
theorem w1136 : (Cond.code ({ cls := "WishToChipModel", name := "copyView", desc := "(II)V" } : MethodName) prog_14_method_14_code (4 : Nat) (Option.none : Option FieldType)) ∈ zgw := zgw_k (tt5 _ (List.mem_of_getElem? (i := 176) rfl)) rfl
theorem w1137 : (Cond.methodLink "WishToChipLaw" (42 : Nat) ({ cls := "WishToChipModel", name := "line", desc := "(III)I" } : MethodName)) ∈ zgw := zgw_k (tt5 _ (List.mem_of_getElem? (i := 177) rfl)) rfl
theorem w1138 : (Cond.instanceMethod ({ cls := "WishToChipModel", name := "line", desc := "(III)I" } : MethodName)) ∈ zgw := zgw_k (tt5 _ (List.mem_of_getElem? (i := 178) rfl)) rfl
theorem w1139 : (Cond.selects "WishToChipModel" ({ cls := "WishToChipModel", name := "line", desc := "(III)I" } : MethodName) ({ cls := "WishToChipModel", name := "line", desc := "(III)I" } : MethodName)) ∈ zgw := zgw_k (tt5 _ (List.mem_of_getElem? (i := 179) rfl)) rfl
theorem w1140 : (Cond.code ({ cls := "WishToChipModel", name := "line", desc := "(III)I" } : MethodName) prog_14_method_19_code (4 : Nat) (Option.some FieldType.int)) ∈ zgw := zgw_k (tt5 _ (List.mem_of_getElem? (i := 180) rfl)) rfl
theorem w1141 : (Cond.methodLink "WishToChipModel" (153 : Nat) ({ cls := "WishToChipModel", name := "has", desc := "(II)Z" } : MethodName)) ∈ zgw := zgw_k (tt5 _ (List.mem_of_getElem? (i := 181) rfl)) rfl
theorem w1143 : (Cond.instanceMethod ({ cls := "WishToChipModel", name := "has", desc := "(II)Z" } : MethodName)) ∈ zgw := zgw_k (tt5 _ (List.mem_of_getElem? (i := 183) rfl)) rfl
theorem w1144 : (Cond.code ({ cls := "WishToChipModel", name := "has", desc := "(II)Z" } : MethodName) prog_14_method_17_code (3 : Nat) (Option.some FieldType.boolean)) ∈ zgw := zgw_k (tt5 _ (List.mem_of_getElem? (i := 184) rfl)) rfl
theorem w1145 : (Cond.methodLink "WishToChipModel" (157 : Nat) ({ cls := "WishToChipModel", name := "uses", desc := "(II)I" } : MethodName)) ∈ zgw := zgw_k (tt5 _ (List.mem_of_getElem? (i := 185) rfl)) rfl
theorem w1147 : (Cond.instanceMethod ({ cls := "WishToChipModel", name := "uses", desc := "(II)I" } : MethodName)) ∈ zgw := zgw_k (tt5 _ (List.mem_of_getElem? (i := 187) rfl)) rfl
theorem w1148 : (Cond.code ({ cls := "WishToChipModel", name := "uses", desc := "(II)I" } : MethodName) prog_14_method_18_code (6 : Nat) (Option.some FieldType.int)) ∈ zgw := zgw_k (tt5 _ (List.mem_of_getElem? (i := 188) rfl)) rfl
theorem w1149 : (Cond.methodLink "WishToChipLaw" (46 : Nat) ({ cls := "WishToChipModel", name := "state", desc := "(I)I" } : MethodName)) ∈ zgw := zgw_k (tt5 _ (List.mem_of_getElem? (i := 189) rfl)) rfl
theorem w1150 : (Cond.instanceMethod ({ cls := "WishToChipModel", name := "state", desc := "(I)I" } : MethodName)) ∈ zgw := zgw_k (tt5 _ (List.mem_of_getElem? (i := 190) rfl)) rfl
theorem w1151 : (Cond.selects "WishToChipModel" ({ cls := "WishToChipModel", name := "state", desc := "(I)I" } : MethodName) ({ cls := "WishToChipModel", name := "state", desc := "(I)I" } : MethodName)) ∈ zgw := zgw_k (tt5 _ (List.mem_of_getElem? (i := 191) rfl)) rfl
theorem w1152 : (Cond.code ({ cls := "WishToChipModel", name := "state", desc := "(I)I" } : MethodName) prog_14_method_28_code (5 : Nat) (Option.some FieldType.int)) ∈ zgw := zgw_k (tt5 _ (List.mem_of_getElem? (i := 192) rfl)) rfl
theorem w1153 : (Cond.methodLink "WishToChipModel" (179 : Nat) ({ cls := "WishToChipModel", name := "stateNow", desc := "()I" } : MethodName)) ∈ zgw := zgw_k (tt5 _ (List.mem_of_getElem? (i := 193) rfl)) rfl
theorem w1155 : (Cond.instanceMethod ({ cls := "WishToChipModel", name := "stateNow", desc := "()I" } : MethodName)) ∈ zgw := zgw_k (tt5 _ (List.mem_of_getElem? (i := 195) rfl)) rfl
theorem w1156 : (Cond.code ({ cls := "WishToChipModel", name := "stateNow", desc := "()I" } : MethodName) prog_14_method_27_code (3 : Nat) (Option.some FieldType.int)) ∈ zgw := zgw_k (tt5 _ (List.mem_of_getElem? (i := 196) rfl)) rfl
theorem w1157 : (Cond.methodLink "WishToChipLaw" (50 : Nat) ({ cls := "WishToChipModel", name := "step", desc := "(II)I" } : MethodName)) ∈ zgw := zgw_k (tt5 _ (List.mem_of_getElem? (i := 197) rfl)) rfl
theorem w1158 : (Cond.instanceMethod ({ cls := "WishToChipModel", name := "step", desc := "(II)I" } : MethodName)) ∈ zgw := zgw_k (tt5 _ (List.mem_of_getElem? (i := 198) rfl)) rfl
theorem w1159 : (Cond.selects "WishToChipModel" ({ cls := "WishToChipModel", name := "step", desc := "(II)I" } : MethodName) ({ cls := "WishToChipModel", name := "step", desc := "(II)I" } : MethodName)) ∈ zgw := zgw_k (tt5 _ (List.mem_of_getElem? (i := 199) rfl)) rfl
theorem w1160 : (Cond.code ({ cls := "WishToChipModel", name := "step", desc := "(II)I" } : MethodName) prog_14_method_29_code (4 : Nat) (Option.some FieldType.int)) ∈ zgw := zgw_k (tt5 _ (List.mem_of_getElem? (i := 200) rfl)) rfl
theorem w1161 : (Cond.methodLink "WishToChipModel" (176 : Nat) ({ cls := "WishToChipModel", name := "layWires", desc := "(II)V" } : MethodName)) ∈ zgw := zgw_k (tt5 _ (List.mem_of_getElem? (i := 201) rfl)) rfl
theorem w1163 : (Cond.instanceMethod ({ cls := "WishToChipModel", name := "layWires", desc := "(II)V" } : MethodName)) ∈ zgw := zgw_k (tt5 _ (List.mem_of_getElem? (i := 203) rfl)) rfl
theorem w1164 : (Cond.code ({ cls := "WishToChipModel", name := "layWires", desc := "(II)V" } : MethodName) prog_14_method_24_code (5 : Nat) (Option.none : Option FieldType)) ∈ zgw := zgw_k (tt5 _ (List.mem_of_getElem? (i := 204) rfl)) rfl
theorem w1165 : (Cond.methodLink "WishToChipModel" (173 : Nat) ({ cls := "WishToChipModel", name := "made", desc := "(II)I" } : MethodName)) ∈ zgw := zgw_k (tt5 _ (List.mem_of_getElem? (i := 205) rfl)) rfl
theorem w1167 : (Cond.instanceMethod ({ cls := "WishToChipModel", name := "made", desc := "(II)I" } : MethodName)) ∈ zgw := zgw_k (tt5 _ (List.mem_of_getElem? (i := 207) rfl)) rfl
theorem w1168 : (Cond.code ({ cls := "WishToChipModel", name := "made", desc := "(II)I" } : MethodName) prog_14_method_23_code (6 : Nat) (Option.some FieldType.int)) ∈ zgw := zgw_k (tt5 _ (List.mem_of_getElem? (i := 208) rfl)) rfl
theorem w1169 : (Cond.methodLink "WishToChipModel" (163 : Nat) ({ cls := "WishToChipModel", name := "used", desc := "(I)I" } : MethodName)) ∈ zgw := zgw_k (tt5 _ (List.mem_of_getElem? (i := 209) rfl)) rfl
theorem w1171 : (Cond.instanceMethod ({ cls := "WishToChipModel", name := "used", desc := "(I)I" } : MethodName)) ∈ zgw := zgw_k (tt5 _ (List.mem_of_getElem? (i := 211) rfl)) rfl
theorem w1172 : (Cond.code ({ cls := "WishToChipModel", name := "used", desc := "(I)I" } : MethodName) prog_14_method_22_code (2 : Nat) (Option.some FieldType.int)) ∈ zgw := zgw_k (tt5 _ (List.mem_of_getElem? (i := 212) rfl)) rfl
theorem w1173 : (Cond.methodLink "WishToChipModel" (166 : Nat) ({ cls := "WishToChipModel", name := "joined", desc := "(III)I" } : MethodName)) ∈ zgw := zgw_k (tt5 _ (List.mem_of_getElem? (i := 213) rfl)) rfl
theorem w1174 : (Cond.static ({ cls := "WishToChipModel", name := "joined", desc := "(III)I" } : MethodName)) ∈ zgw := zgw_k (tt5 _ (List.mem_of_getElem? (i := 214) rfl)) rfl
theorem w1175 : (Cond.code ({ cls := "WishToChipModel", name := "joined", desc := "(III)I" } : MethodName) prog_14_method_20_code (3 : Nat) (Option.some FieldType.int)) ∈ zgw := zgw_k (tt5 _ (List.mem_of_getElem? (i := 215) rfl)) rfl
theorem w1176 : (Cond.methodLink "WishToChipModel" (170 : Nat) ({ cls := "WishToChipModel", name := "chosen", desc := "(III)I" } : MethodName)) ∈ zgw := zgw_k (tt5 _ (List.mem_of_getElem? (i := 216) rfl)) rfl
theorem w1177 : (Cond.static ({ cls := "WishToChipModel", name := "chosen", desc := "(III)I" } : MethodName)) ∈ zgw := zgw_k (tt5 _ (List.mem_of_getElem? (i := 217) rfl)) rfl
theorem w1178 : (Cond.code ({ cls := "WishToChipModel", name := "chosen", desc := "(III)I" } : MethodName) prog_14_method_21_code (3 : Nat) (Option.some FieldType.int)) ∈ zgw := zgw_k (tt5 _ (List.mem_of_getElem? (i := 218) rfl)) rfl
theorem w1179 : (Cond.methodLink "WishToChipModel" (183 : Nat) ({ cls := "WishToChipModel", name := "told", desc := "(II)I" } : MethodName)) ∈ zgw := zgw_k (tt5 _ (List.mem_of_getElem? (i := 219) rfl)) rfl
theorem w1181 : (Cond.instanceMethod ({ cls := "WishToChipModel", name := "told", desc := "(II)I" } : MethodName)) ∈ zgw := zgw_k (tt5 _ (List.mem_of_getElem? (i := 221) rfl)) rfl
theorem w1182 : (Cond.code ({ cls := "WishToChipModel", name := "told", desc := "(II)I" } : MethodName) prog_14_method_26_code (3 : Nat) (Option.some FieldType.int)) ∈ zgw := zgw_k (tt5 _ (List.mem_of_getElem? (i := 222) rfl)) rfl
theorem w1183 : (Cond.methodLink "WishToChipLaw" (54 : Nat) ({ cls := "WishToChipModel", name := "value", desc := "(I)I" } : MethodName)) ∈ zgw := zgw_k (tt5 _ (List.mem_of_getElem? (i := 223) rfl)) rfl
theorem w1184 : (Cond.instanceMethod ({ cls := "WishToChipModel", name := "value", desc := "(I)I" } : MethodName)) ∈ zgw := zgw_k (tt5 _ (List.mem_of_getElem? (i := 224) rfl)) rfl
theorem w1185 : (Cond.selects "WishToChipModel" ({ cls := "WishToChipModel", name := "value", desc := "(I)I" } : MethodName) ({ cls := "WishToChipModel", name := "value", desc := "(I)I" } : MethodName)) ∈ zgw := zgw_k (tt5 _ (List.mem_of_getElem? (i := 225) rfl)) rfl
theorem w1186 : (Cond.code ({ cls := "WishToChipModel", name := "value", desc := "(I)I" } : MethodName) prog_14_method_30_code (2 : Nat) (Option.some FieldType.int)) ∈ zgw := zgw_k (tt5 _ (List.mem_of_getElem? (i := 226) rfl)) rfl
theorem w1187 : (Cond.methodLink "WishToChipLaw" (58 : Nat) ({ cls := "WishToChipModel", name := "truth", desc := "(III)I" } : MethodName)) ∈ zgw := zgw_k (tt5 _ (List.mem_of_getElem? (i := 227) rfl)) rfl
theorem w1188 : (Cond.instanceMethod ({ cls := "WishToChipModel", name := "truth", desc := "(III)I" } : MethodName)) ∈ zgw := zgw_k (tt5 _ (List.mem_of_getElem? (i := 228) rfl)) rfl
theorem w1189 : (Cond.selects "WishToChipModel" ({ cls := "WishToChipModel", name := "truth", desc := "(III)I" } : MethodName) ({ cls := "WishToChipModel", name := "truth", desc := "(III)I" } : MethodName)) ∈ zgw := zgw_k (tt5 _ (List.mem_of_getElem? (i := 229) rfl)) rfl
theorem w1190 : (Cond.code ({ cls := "WishToChipModel", name := "truth", desc := "(III)I" } : MethodName) prog_14_method_31_code (4 : Nat) (Option.some FieldType.int)) ∈ zgw := zgw_k (tt5 _ (List.mem_of_getElem? (i := 230) rfl)) rfl
theorem w1191 : (Cond.methodLink "WishToChipModel" (186 : Nat) ({ cls := "WishToChipModel", name := "layRow", desc := "(II)V" } : MethodName)) ∈ zgw := zgw_k (tt5 _ (List.mem_of_getElem? (i := 231) rfl)) rfl
theorem w1193 : (Cond.instanceMethod ({ cls := "WishToChipModel", name := "layRow", desc := "(II)V" } : MethodName)) ∈ zgw := zgw_k (tt5 _ (List.mem_of_getElem? (i := 233) rfl)) rfl
theorem w1194 : (Cond.code ({ cls := "WishToChipModel", name := "layRow", desc := "(II)V" } : MethodName) prog_14_method_25_code (4 : Nat) (Option.none : Option FieldType)) ∈ zgw := zgw_k (tt5 _ (List.mem_of_getElem? (i := 234) rfl)) rfl
theorem w1195 : (Cond.methodLink "WishToChipLaw" (62 : Nat) ({ cls := "WishToChipModel", name := "ones", desc := "(II)I" } : MethodName)) ∈ zgw := zgw_k (tt5 _ (List.mem_of_getElem? (i := 235) rfl)) rfl
theorem w1196 : (Cond.instanceMethod ({ cls := "WishToChipModel", name := "ones", desc := "(II)I" } : MethodName)) ∈ zgw := zgw_k (tt5 _ (List.mem_of_getElem? (i := 236) rfl)) rfl
theorem w1197 : (Cond.selects "WishToChipModel" ({ cls := "WishToChipModel", name := "ones", desc := "(II)I" } : MethodName) ({ cls := "WishToChipModel", name := "ones", desc := "(II)I" } : MethodName)) ∈ zgw := zgw_k (tt5 _ (List.mem_of_getElem? (i := 237) rfl)) rfl
theorem w1198 : (Cond.code ({ cls := "WishToChipModel", name := "ones", desc := "(II)I" } : MethodName) prog_14_method_32_code (5 : Nat) (Option.some FieldType.int)) ∈ zgw := zgw_k (tt5 _ (List.mem_of_getElem? (i := 238) rfl)) rfl
theorem w1199 : (Cond.methodLink "WishToChipLaw" (66 : Nat) ({ cls := "WishToChipModel", name := "start", desc := "(I)I" } : MethodName)) ∈ zgw := zgw_k (tt5 _ (List.mem_of_getElem? (i := 239) rfl)) rfl
theorem w1200 : (Cond.instanceMethod ({ cls := "WishToChipModel", name := "start", desc := "(I)I" } : MethodName)) ∈ zgw := zgw_k (tt6 _ (List.mem_of_getElem? (i := 0) rfl)) rfl
theorem w1201 : (Cond.selects "WishToChipModel" ({ cls := "WishToChipModel", name := "start", desc := "(I)I" } : MethodName) ({ cls := "WishToChipModel", name := "start", desc := "(I)I" } : MethodName)) ∈ zgw := zgw_k (tt6 _ (List.mem_of_getElem? (i := 1) rfl)) rfl
theorem w1202 : (Cond.code ({ cls := "WishToChipModel", name := "start", desc := "(I)I" } : MethodName) prog_14_method_33_code (3 : Nat) (Option.some FieldType.int)) ∈ zgw := zgw_k (tt6 _ (List.mem_of_getElem? (i := 2) rfl)) rfl
theorem w1203 : (Cond.methodLink "WishToChipLaw" (71 : Nat) ({ cls := "WishToChipModel", name := "states", desc := "()I" } : MethodName)) ∈ zgw := zgw_k (tt6 _ (List.mem_of_getElem? (i := 3) rfl)) rfl
theorem w1204 : (Cond.instanceMethod ({ cls := "WishToChipModel", name := "states", desc := "()I" } : MethodName)) ∈ zgw := zgw_k (tt6 _ (List.mem_of_getElem? (i := 4) rfl)) rfl
theorem w1205 : (Cond.selects "WishToChipModel" ({ cls := "WishToChipModel", name := "states", desc := "()I" } : MethodName) ({ cls := "WishToChipModel", name := "states", desc := "()I" } : MethodName)) ∈ zgw := zgw_k (tt6 _ (List.mem_of_getElem? (i := 5) rfl)) rfl
theorem w1206 : (Cond.code ({ cls := "WishToChipModel", name := "states", desc := "()I" } : MethodName) prog_14_method_34_code (6 : Nat) (Option.some FieldType.int)) ∈ zgw := zgw_k (tt6 _ (List.mem_of_getElem? (i := 6) rfl)) rfl
theorem w1207 : (Cond.methodLink "WishToChipLaw" (75 : Nat) ({ cls := "WishToChipModel", name := "differ", desc := "(I)I" } : MethodName)) ∈ zgw := zgw_k (tt6 _ (List.mem_of_getElem? (i := 7) rfl)) rfl
theorem w1208 : (Cond.instanceMethod ({ cls := "WishToChipModel", name := "differ", desc := "(I)I" } : MethodName)) ∈ zgw := zgw_k (tt6 _ (List.mem_of_getElem? (i := 8) rfl)) rfl
theorem w1209 : (Cond.selects "WishToChipModel" ({ cls := "WishToChipModel", name := "differ", desc := "(I)I" } : MethodName) ({ cls := "WishToChipModel", name := "differ", desc := "(I)I" } : MethodName)) ∈ zgw := zgw_k (tt6 _ (List.mem_of_getElem? (i := 9) rfl)) rfl
theorem w1210 : (Cond.code ({ cls := "WishToChipModel", name := "differ", desc := "(I)I" } : MethodName) prog_14_method_35_code (5 : Nat) (Option.some FieldType.int)) ∈ zgw := zgw_k (tt6 _ (List.mem_of_getElem? (i := 10) rfl)) rfl
theorem w1211 : (Cond.methodLink "WishToChipModel" (189 : Nat) ({ cls := "WishToChipModel", name := "states", desc := "()I" } : MethodName)) ∈ zgw := zgw_k (tt6 _ (List.mem_of_getElem? (i := 11) rfl)) rfl
theorem w1212 : (Cond.methodLink "WishToChipLaw" (79 : Nat) ({ cls := "WishToChipModel", name := "touched", desc := "()I" } : MethodName)) ∈ zgw := zgw_k (tt6 _ (List.mem_of_getElem? (i := 12) rfl)) rfl
theorem w1213 : (Cond.instanceMethod ({ cls := "WishToChipModel", name := "touched", desc := "()I" } : MethodName)) ∈ zgw := zgw_k (tt6 _ (List.mem_of_getElem? (i := 13) rfl)) rfl
theorem w1214 : (Cond.selects "WishToChipModel" ({ cls := "WishToChipModel", name := "touched", desc := "()I" } : MethodName) ({ cls := "WishToChipModel", name := "touched", desc := "()I" } : MethodName)) ∈ zgw := zgw_k (tt6 _ (List.mem_of_getElem? (i := 14) rfl)) rfl
theorem w1215 : (Cond.code ({ cls := "WishToChipModel", name := "touched", desc := "()I" } : MethodName) prog_14_method_36_code (5 : Nat) (Option.some FieldType.int)) ∈ zgw := zgw_k (tt6 _ (List.mem_of_getElem? (i := 15) rfl)) rfl
theorem w1216 : (Cond.methodLink "WishToChipLaw" (83 : Nat) ({ cls := "WishToChipModel", name := "gate", desc := "(III)I" } : MethodName)) ∈ zgw := zgw_k (tt6 _ (List.mem_of_getElem? (i := 16) rfl)) rfl
theorem w1217 : (Cond.instanceMethod ({ cls := "WishToChipModel", name := "gate", desc := "(III)I" } : MethodName)) ∈ zgw := zgw_k (tt6 _ (List.mem_of_getElem? (i := 17) rfl)) rfl
theorem w1218 : (Cond.selects "WishToChipModel" ({ cls := "WishToChipModel", name := "gate", desc := "(III)I" } : MethodName) ({ cls := "WishToChipModel", name := "gate", desc := "(III)I" } : MethodName)) ∈ zgw := zgw_k (tt6 _ (List.mem_of_getElem? (i := 18) rfl)) rfl
theorem w1219 : (Cond.code ({ cls := "WishToChipModel", name := "gate", desc := "(III)I" } : MethodName) prog_14_method_37_code (5 : Nat) (Option.some FieldType.int)) ∈ zgw := zgw_k (tt6 _ (List.mem_of_getElem? (i := 19) rfl)) rfl
theorem w1220 : (Cond.methodLink "WishToChipLaw" (87 : Nat) ({ cls := "WishToChipModel", name := "rule", desc := "(II)I" } : MethodName)) ∈ zgw := zgw_k (tt6 _ (List.mem_of_getElem? (i := 20) rfl)) rfl
theorem w1221 : (Cond.instanceMethod ({ cls := "WishToChipModel", name := "rule", desc := "(II)I" } : MethodName)) ∈ zgw := zgw_k (tt6 _ (List.mem_of_getElem? (i := 21) rfl)) rfl
theorem w1222 : (Cond.selects "WishToChipModel" ({ cls := "WishToChipModel", name := "rule", desc := "(II)I" } : MethodName) ({ cls := "WishToChipModel", name := "rule", desc := "(II)I" } : MethodName)) ∈ zgw := zgw_k (tt6 _ (List.mem_of_getElem? (i := 22) rfl)) rfl
theorem w1223 : (Cond.code ({ cls := "WishToChipModel", name := "rule", desc := "(II)I" } : MethodName) prog_14_method_38_code (4 : Nat) (Option.some FieldType.int)) ∈ zgw := zgw_k (tt6 _ (List.mem_of_getElem? (i := 23) rfl)) rfl
theorem w1224 : (Cond.methodLink "WishToChipLaw" (91 : Nat) ({ cls := "WishToChipModel", name := "cover", desc := "(II)I" } : MethodName)) ∈ zgw := zgw_k (tt6 _ (List.mem_of_getElem? (i := 24) rfl)) rfl
theorem w1225 : (Cond.instanceMethod ({ cls := "WishToChipModel", name := "cover", desc := "(II)I" } : MethodName)) ∈ zgw := zgw_k (tt6 _ (List.mem_of_getElem? (i := 25) rfl)) rfl
theorem w1226 : (Cond.selects "WishToChipModel" ({ cls := "WishToChipModel", name := "cover", desc := "(II)I" } : MethodName) ({ cls := "WishToChipModel", name := "cover", desc := "(II)I" } : MethodName)) ∈ zgw := zgw_k (tt6 _ (List.mem_of_getElem? (i := 26) rfl)) rfl
theorem w1227 : (Cond.code ({ cls := "WishToChipModel", name := "cover", desc := "(II)I" } : MethodName) prog_14_method_42_code (5 : Nat) (Option.some FieldType.int)) ∈ zgw := zgw_k (tt6 _ (List.mem_of_getElem? (i := 27) rfl)) rfl
theorem w1228 : (Cond.methodLink "WishToChipModel" (198 : Nat) ({ cls := "WishToChipModel", name := "coverOf", desc := "(II)I" } : MethodName)) ∈ zgw := zgw_k (tt6 _ (List.mem_of_getElem? (i := 28) rfl)) rfl
theorem w1230 : (Cond.instanceMethod ({ cls := "WishToChipModel", name := "coverOf", desc := "(II)I" } : MethodName)) ∈ zgw := zgw_k (tt6 _ (List.mem_of_getElem? (i := 30) rfl)) rfl
theorem w1231 : (Cond.code ({ cls := "WishToChipModel", name := "coverOf", desc := "(II)I" } : MethodName) prog_14_method_41_code (6 : Nat) (Option.some FieldType.int)) ∈ zgw := zgw_k (tt6 _ (List.mem_of_getElem? (i := 31) rfl)) rfl
theorem w1232 : (Cond.methodLink "WishToChipModel" (195 : Nat) ({ cls := "WishToChipModel", name := "cost", desc := "(II)V" } : MethodName)) ∈ zgw := zgw_k (tt6 _ (List.mem_of_getElem? (i := 32) rfl)) rfl
theorem w1234 : (Cond.instanceMethod ({ cls := "WishToChipModel", name := "cost", desc := "(II)V" } : MethodName)) ∈ zgw := zgw_k (tt6 _ (List.mem_of_getElem? (i := 34) rfl)) rfl
theorem w1235 : (Cond.code ({ cls := "WishToChipModel", name := "cost", desc := "(II)V" } : MethodName) prog_14_method_40_code (9 : Nat) (Option.none : Option FieldType)) ∈ zgw := zgw_k (tt6 _ (List.mem_of_getElem? (i := 35) rfl)) rfl
theorem w1236 : (Cond.methodLink "WishToChipModel" (192 : Nat) ({ cls := "WishToChipModel", name := "less", desc := "(II)I" } : MethodName)) ∈ zgw := zgw_k (tt6 _ (List.mem_of_getElem? (i := 36) rfl)) rfl
theorem w1237 : (Cond.static ({ cls := "WishToChipModel", name := "less", desc := "(II)I" } : MethodName)) ∈ zgw := zgw_k (tt6 _ (List.mem_of_getElem? (i := 37) rfl)) rfl
theorem w1238 : (Cond.code ({ cls := "WishToChipModel", name := "less", desc := "(II)I" } : MethodName) prog_14_method_39_code (2 : Nat) (Option.some FieldType.int)) ∈ zgw := zgw_k (tt6 _ (List.mem_of_getElem? (i := 38) rfl)) rfl
theorem w1239 : (Cond.methodLink "WishToChipLaw" (95 : Nat) ({ cls := "WishToChipModel", name := "arrival", desc := "(III)I" } : MethodName)) ∈ zgw := zgw_k (tt6 _ (List.mem_of_getElem? (i := 39) rfl)) rfl
theorem w1240 : (Cond.instanceMethod ({ cls := "WishToChipModel", name := "arrival", desc := "(III)I" } : MethodName)) ∈ zgw := zgw_k (tt6 _ (List.mem_of_getElem? (i := 40) rfl)) rfl
theorem w1241 : (Cond.selects "WishToChipModel" ({ cls := "WishToChipModel", name := "arrival", desc := "(III)I" } : MethodName) ({ cls := "WishToChipModel", name := "arrival", desc := "(III)I" } : MethodName)) ∈ zgw := zgw_k (tt6 _ (List.mem_of_getElem? (i := 41) rfl)) rfl
theorem w1242 : (Cond.code ({ cls := "WishToChipModel", name := "arrival", desc := "(III)I" } : MethodName) prog_14_method_46_code (4 : Nat) (Option.some FieldType.int)) ∈ zgw := zgw_k (tt6 _ (List.mem_of_getElem? (i := 42) rfl)) rfl
theorem w1243 : (Cond.methodLink "WishToChipModel" (208 : Nat) ({ cls := "WishToChipModel", name := "layArrivals", desc := "(II)V" } : MethodName)) ∈ zgw := zgw_k (tt6 _ (List.mem_of_getElem? (i := 43) rfl)) rfl
theorem w1245 : (Cond.instanceMethod ({ cls := "WishToChipModel", name := "layArrivals", desc := "(II)V" } : MethodName)) ∈ zgw := zgw_k (tt6 _ (List.mem_of_getElem? (i := 45) rfl)) rfl
theorem w1246 : (Cond.code ({ cls := "WishToChipModel", name := "layArrivals", desc := "(II)V" } : MethodName) prog_14_method_45_code (4 : Nat) (Option.none : Option FieldType)) ∈ zgw := zgw_k (tt6 _ (List.mem_of_getElem? (i := 46) rfl)) rfl
theorem w1247 : (Cond.methodLink "WishToChipModel" (204 : Nat) ({ cls := "WishToChipModel", name := "arrive", desc := "(III)V" } : MethodName)) ∈ zgw := zgw_k (tt6 _ (List.mem_of_getElem? (i := 47) rfl)) rfl
theorem w1249 : (Cond.instanceMethod ({ cls := "WishToChipModel", name := "arrive", desc := "(III)V" } : MethodName)) ∈ zgw := zgw_k (tt6 _ (List.mem_of_getElem? (i := 49) rfl)) rfl
theorem w1250 : (Cond.code ({ cls := "WishToChipModel", name := "arrive", desc := "(III)V" } : MethodName) prog_14_method_44_code (9 : Nat) (Option.none : Option FieldType)) ∈ zgw := zgw_k (tt6 _ (List.mem_of_getElem? (i := 50) rfl)) rfl
theorem w1251 : (Cond.methodLink "WishToChipModel" (201 : Nat) ({ cls := "WishToChipModel", name := "kindOf", desc := "(I)I" } : MethodName)) ∈ zgw := zgw_k (tt6 _ (List.mem_of_getElem? (i := 51) rfl)) rfl
theorem w1252 : (Cond.static ({ cls := "WishToChipModel", name := "kindOf", desc := "(I)I" } : MethodName)) ∈ zgw := zgw_k (tt6 _ (List.mem_of_getElem? (i := 52) rfl)) rfl
theorem w1253 : (Cond.code ({ cls := "WishToChipModel", name := "kindOf", desc := "(I)I" } : MethodName) prog_14_method_43_code (1 : Nat) (Option.some FieldType.int)) ∈ zgw := zgw_k (tt6 _ (List.mem_of_getElem? (i := 53) rfl)) rfl
theorem w1254 : (Cond.methodLink "WishToChipLaw" (99 : Nat) ({ cls := "WishToChipModel", name := "worst", desc := "(III)I" } : MethodName)) ∈ zgw := zgw_k (tt6 _ (List.mem_of_getElem? (i := 54) rfl)) rfl
theorem w1255 : (Cond.instanceMethod ({ cls := "WishToChipModel", name := "worst", desc := "(III)I" } : MethodName)) ∈ zgw := zgw_k (tt6 _ (List.mem_of_getElem? (i := 55) rfl)) rfl
theorem w1256 : (Cond.selects "WishToChipModel" ({ cls := "WishToChipModel", name := "worst", desc := "(III)I" } : MethodName) ({ cls := "WishToChipModel", name := "worst", desc := "(III)I" } : MethodName)) ∈ zgw := zgw_k (tt6 _ (List.mem_of_getElem? (i := 56) rfl)) rfl
theorem w1257 : (Cond.code ({ cls := "WishToChipModel", name := "worst", desc := "(III)I" } : MethodName) prog_14_method_47_code (7 : Nat) (Option.some FieldType.int)) ∈ zgw := zgw_k (tt6 _ (List.mem_of_getElem? (i := 57) rfl)) rfl
theorem w1258 : (Cond.methodLink "WishToChipLaw" (103 : Nat) ({ cls := "WishToChipModel", name := "block", desc := "()I" } : MethodName)) ∈ zgw := zgw_k (tt6 _ (List.mem_of_getElem? (i := 58) rfl)) rfl
theorem w1259 : (Cond.instanceMethod ({ cls := "WishToChipModel", name := "block", desc := "()I" } : MethodName)) ∈ zgw := zgw_k (tt6 _ (List.mem_of_getElem? (i := 59) rfl)) rfl
theorem w1260 : (Cond.selects "WishToChipModel" ({ cls := "WishToChipModel", name := "block", desc := "()I" } : MethodName) ({ cls := "WishToChipModel", name := "block", desc := "()I" } : MethodName)) ∈ zgw := zgw_k (tt6 _ (List.mem_of_getElem? (i := 60) rfl)) rfl
theorem w1261 : (Cond.code ({ cls := "WishToChipModel", name := "block", desc := "()I" } : MethodName) prog_14_method_49_code (2 : Nat) (Option.some FieldType.int)) ∈ zgw := zgw_k (tt6 _ (List.mem_of_getElem? (i := 61) rfl)) rfl
theorem w1262 : (Cond.methodLink "WishToChipModel" (214 : Nat) ({ cls := "WishToChipModel", name := "blockAt", desc := "(I)I" } : MethodName)) ∈ zgw := zgw_k (tt6 _ (List.mem_of_getElem? (i := 62) rfl)) rfl
theorem w1264 : (Cond.instanceMethod ({ cls := "WishToChipModel", name := "blockAt", desc := "(I)I" } : MethodName)) ∈ zgw := zgw_k (tt6 _ (List.mem_of_getElem? (i := 64) rfl)) rfl
theorem w1265 : (Cond.code ({ cls := "WishToChipModel", name := "blockAt", desc := "(I)I" } : MethodName) prog_14_method_48_code (3 : Nat) (Option.some FieldType.int)) ∈ zgw := zgw_k (tt6 _ (List.mem_of_getElem? (i := 65) rfl)) rfl
theorem w1266 : (Cond.methodLink "WishToChipLaw" (107 : Nat) ({ cls := "WishToChipModel", name := "net", desc := "(I)I" } : MethodName)) ∈ zgw := zgw_k (tt6 _ (List.mem_of_getElem? (i := 66) rfl)) rfl
theorem w1267 : (Cond.instanceMethod ({ cls := "WishToChipModel", name := "net", desc := "(I)I" } : MethodName)) ∈ zgw := zgw_k (tt6 _ (List.mem_of_getElem? (i := 67) rfl)) rfl
theorem w1268 : (Cond.selects "WishToChipModel" ({ cls := "WishToChipModel", name := "net", desc := "(I)I" } : MethodName) ({ cls := "WishToChipModel", name := "net", desc := "(I)I" } : MethodName)) ∈ zgw := zgw_k (tt6 _ (List.mem_of_getElem? (i := 68) rfl)) rfl
theorem w1269 : (Cond.code ({ cls := "WishToChipModel", name := "net", desc := "(I)I" } : MethodName) prog_14_method_50_code (4 : Nat) (Option.some FieldType.int)) ∈ zgw := zgw_k (tt6 _ (List.mem_of_getElem? (i := 69) rfl)) rfl
theorem w1270 : (Cond.methodLink "WishToChipLaw" (111 : Nat) ({ cls := "WishToChipModel", name := "place", desc := "(II)I" } : MethodName)) ∈ zgw := zgw_k (tt6 _ (List.mem_of_getElem? (i := 70) rfl)) rfl
theorem w1271 : (Cond.instanceMethod ({ cls := "WishToChipModel", name := "place", desc := "(II)I" } : MethodName)) ∈ zgw := zgw_k (tt6 _ (List.mem_of_getElem? (i := 71) rfl)) rfl
theorem w1272 : (Cond.selects "WishToChipModel" ({ cls := "WishToChipModel", name := "place", desc := "(II)I" } : MethodName) ({ cls := "WishToChipModel", name := "place", desc := "(II)I" } : MethodName)) ∈ zgw := zgw_k (tt6 _ (List.mem_of_getElem? (i := 72) rfl)) rfl
theorem w1273 : (Cond.code ({ cls := "WishToChipModel", name := "place", desc := "(II)I" } : MethodName) prog_14_method_51_code (5 : Nat) (Option.some FieldType.int)) ∈ zgw := zgw_k (tt6 _ (List.mem_of_getElem? (i := 73) rfl)) rfl
theorem w1274 : (Cond.methodLink "WishToChipLaw" (115 : Nat) ({ cls := "WishToChipModel", name := "wire", desc := "(I)I" } : MethodName)) ∈ zgw := zgw_k (tt6 _ (List.mem_of_getElem? (i := 74) rfl)) rfl
theorem w1275 : (Cond.instanceMethod ({ cls := "WishToChipModel", name := "wire", desc := "(I)I" } : MethodName)) ∈ zgw := zgw_k (tt6 _ (List.mem_of_getElem? (i := 75) rfl)) rfl
theorem w1276 : (Cond.selects "WishToChipModel" ({ cls := "WishToChipModel", name := "wire", desc := "(I)I" } : MethodName) ({ cls := "WishToChipModel", name := "wire", desc := "(I)I" } : MethodName)) ∈ zgw := zgw_k (tt6 _ (List.mem_of_getElem? (i := 76) rfl)) rfl
theorem w1277 : (Cond.code ({ cls := "WishToChipModel", name := "wire", desc := "(I)I" } : MethodName) prog_14_method_55_code (2 : Nat) (Option.some FieldType.int)) ∈ zgw := zgw_k (tt6 _ (List.mem_of_getElem? (i := 77) rfl)) rfl
theorem w1278 : (Cond.methodLink "WishToChipModel" (223 : Nat) ({ cls := "WishToChipModel", name := "tryNow", desc := "()V" } : MethodName)) ∈ zgw := zgw_k (tt6 _ (List.mem_of_getElem? (i := 78) rfl)) rfl
theorem w1280 : (Cond.instanceMethod ({ cls := "WishToChipModel", name := "tryNow", desc := "()V" } : MethodName)) ∈ zgw := zgw_k (tt6 _ (List.mem_of_getElem? (i := 80) rfl)) rfl
theorem w1281 : (Cond.code ({ cls := "WishToChipModel", name := "tryNow", desc := "()V" } : MethodName) prog_14_method_54_code (2 : Nat) (Option.none : Option FieldType)) ∈ zgw := zgw_k (tt6 _ (List.mem_of_getElem? (i := 81) rfl)) rfl
theorem w1282 : (Cond.methodLink "WishToChipModel" (226 : Nat) ({ cls := "WishToChipModel", name := "allWire", desc := "()I" } : MethodName)) ∈ zgw := zgw_k (tt6 _ (List.mem_of_getElem? (i := 82) rfl)) rfl
theorem w1284 : (Cond.instanceMethod ({ cls := "WishToChipModel", name := "allWire", desc := "()I" } : MethodName)) ∈ zgw := zgw_k (tt6 _ (List.mem_of_getElem? (i := 84) rfl)) rfl
theorem w1285 : (Cond.code ({ cls := "WishToChipModel", name := "allWire", desc := "()I" } : MethodName) prog_14_method_53_code (3 : Nat) (Option.some FieldType.int)) ∈ zgw := zgw_k (tt6 _ (List.mem_of_getElem? (i := 85) rfl)) rfl
theorem w1286 : (Cond.methodLink "WishToChipModel" (220 : Nat) ({ cls := "WishToChipModel", name := "wireOf", desc := "(I)I" } : MethodName)) ∈ zgw := zgw_k (tt6 _ (List.mem_of_getElem? (i := 86) rfl)) rfl
theorem w1288 : (Cond.instanceMethod ({ cls := "WishToChipModel", name := "wireOf", desc := "(I)I" } : MethodName)) ∈ zgw := zgw_k (tt6 _ (List.mem_of_getElem? (i := 88) rfl)) rfl
theorem w1289 : (Cond.code ({ cls := "WishToChipModel", name := "wireOf", desc := "(I)I" } : MethodName) prog_14_method_52_code (9 : Nat) (Option.some FieldType.int)) ∈ zgw := zgw_k (tt6 _ (List.mem_of_getElem? (i := 89) rfl)) rfl
theorem w1290 : (Cond.methodLink "WishToChipLaw" (119 : Nat) ({ cls := "WishToChipModel", name := "least", desc := "(I)I" } : MethodName)) ∈ zgw := zgw_k (tt6 _ (List.mem_of_getElem? (i := 90) rfl)) rfl
theorem w1291 : (Cond.instanceMethod ({ cls := "WishToChipModel", name := "least", desc := "(I)I" } : MethodName)) ∈ zgw := zgw_k (tt6 _ (List.mem_of_getElem? (i := 91) rfl)) rfl
theorem w1292 : (Cond.selects "WishToChipModel" ({ cls := "WishToChipModel", name := "least", desc := "(I)I" } : MethodName) ({ cls := "WishToChipModel", name := "least", desc := "(I)I" } : MethodName)) ∈ zgw := zgw_k (tt6 _ (List.mem_of_getElem? (i := 92) rfl)) rfl
theorem w1293 : (Cond.code ({ cls := "WishToChipModel", name := "least", desc := "(I)I" } : MethodName) prog_14_method_58_code (3 : Nat) (Option.some FieldType.int)) ∈ zgw := zgw_k (tt6 _ (List.mem_of_getElem? (i := 93) rfl)) rfl
theorem w1294 : (Cond.methodLink "WishToChipModel" (233 : Nat) ({ cls := "WishToChipModel", name := "layLeast", desc := "()I" } : MethodName)) ∈ zgw := zgw_k (tt6 _ (List.mem_of_getElem? (i := 94) rfl)) rfl
theorem w1296 : (Cond.instanceMethod ({ cls := "WishToChipModel", name := "layLeast", desc := "()I" } : MethodName)) ∈ zgw := zgw_k (tt6 _ (List.mem_of_getElem? (i := 96) rfl)) rfl
theorem w1297 : (Cond.code ({ cls := "WishToChipModel", name := "layLeast", desc := "()I" } : MethodName) prog_14_method_57_code (5 : Nat) (Option.some FieldType.int)) ∈ zgw := zgw_k (tt6 _ (List.mem_of_getElem? (i := 97) rfl)) rfl
theorem w1298 : (Cond.constant "WishToChipModel" (229 : Nat) (1000000 : Int32)) ∈ zgw := zgw_k (tt6 _ (List.mem_of_getElem? (i := 98) rfl)) rfl
theorem w1299 : (Cond.methodLink "WishToChipModel" (230 : Nat) ({ cls := "WishToChipModel", name := "isFree", desc := "(II)Z" } : MethodName)) ∈ zgw := zgw_k (tt6 _ (List.mem_of_getElem? (i := 99) rfl)) rfl
theorem w1301 : (Cond.instanceMethod ({ cls := "WishToChipModel", name := "isFree", desc := "(II)Z" } : MethodName)) ∈ zgw := zgw_k (tt6 _ (List.mem_of_getElem? (i := 101) rfl)) rfl
theorem w1302 : (Cond.code ({ cls := "WishToChipModel", name := "isFree", desc := "(II)Z" } : MethodName) prog_14_method_56_code (5 : Nat) (Option.some FieldType.boolean)) ∈ zgw := zgw_k (tt6 _ (List.mem_of_getElem? (i := 102) rfl)) rfl
theorem w1303 : (Cond.methodLink "WishToChipLaw" (123 : Nat) ({ cls := "WishToChipModel", name := "swap", desc := "()I" } : MethodName)) ∈ zgw := zgw_k (tt6 _ (List.mem_of_getElem? (i := 103) rfl)) rfl
theorem w1304 : (Cond.instanceMethod ({ cls := "WishToChipModel", name := "swap", desc := "()I" } : MethodName)) ∈ zgw := zgw_k (tt6 _ (List.mem_of_getElem? (i := 104) rfl)) rfl
theorem w1305 : (Cond.selects "WishToChipModel" ({ cls := "WishToChipModel", name := "swap", desc := "()I" } : MethodName) ({ cls := "WishToChipModel", name := "swap", desc := "()I" } : MethodName)) ∈ zgw := zgw_k (tt6 _ (List.mem_of_getElem? (i := 105) rfl)) rfl
theorem w1306 : (Cond.code ({ cls := "WishToChipModel", name := "swap", desc := "()I" } : MethodName) prog_14_method_60_code (9 : Nat) (Option.some FieldType.int)) ∈ zgw := zgw_k (tt6 _ (List.mem_of_getElem? (i := 106) rfl)) rfl
theorem w1307 : (Cond.methodLink "WishToChipModel" (236 : Nat) ({ cls := "WishToChipModel", name := "change", desc := "(II)V" } : MethodName)) ∈ zgw := zgw_k (tt6 _ (List.mem_of_getElem? (i := 107) rfl)) rfl
theorem w1309 : (Cond.instanceMethod ({ cls := "WishToChipModel", name := "change", desc := "(II)V" } : MethodName)) ∈ zgw := zgw_k (tt6 _ (List.mem_of_getElem? (i := 109) rfl)) rfl
theorem w1310 : (Cond.code ({ cls := "WishToChipModel", name := "change", desc := "(II)V" } : MethodName) prog_14_method_59_code (4 : Nat) (Option.none : Option FieldType)) ∈ zgw := zgw_k (tt6 _ (List.mem_of_getElem? (i := 110) rfl)) rfl
theorem w1311 : (Cond.methodLink "WishToChipLaw" (127 : Nat) ({ cls := "WishToChipModel", name := "ends", desc := "(I)I" } : MethodName)) ∈ zgw := zgw_k (tt6 _ (List.mem_of_getElem? (i := 111) rfl)) rfl
theorem w1312 : (Cond.instanceMethod ({ cls := "WishToChipModel", name := "ends", desc := "(I)I" } : MethodName)) ∈ zgw := zgw_k (tt6 _ (List.mem_of_getElem? (i := 112) rfl)) rfl
theorem w1313 : (Cond.selects "WishToChipModel" ({ cls := "WishToChipModel", name := "ends", desc := "(I)I" } : MethodName) ({ cls := "WishToChipModel", name := "ends", desc := "(I)I" } : MethodName)) ∈ zgw := zgw_k (tt6 _ (List.mem_of_getElem? (i := 113) rfl)) rfl
theorem w1314 : (Cond.code ({ cls := "WishToChipModel", name := "ends", desc := "(I)I" } : MethodName) prog_14_method_61_code (3 : Nat) (Option.some FieldType.int)) ∈ zgw := zgw_k (tt6 _ (List.mem_of_getElem? (i := 114) rfl)) rfl
theorem w1315 : (Cond.constant "WishToChipModel" (239 : Nat) (-524225 : Int32)) ∈ zgw := zgw_k (tt6 _ (List.mem_of_getElem? (i := 115) rfl)) rfl
theorem w1316 : (Cond.methodLink "WishToChipLaw" (131 : Nat) ({ cls := "WishToChipModel", name := "fails", desc := "(II)I" } : MethodName)) ∈ zgw := zgw_k (tt6 _ (List.mem_of_getElem? (i := 116) rfl)) rfl
theorem w1317 : (Cond.instanceMethod ({ cls := "WishToChipModel", name := "fails", desc := "(II)I" } : MethodName)) ∈ zgw := zgw_k (tt6 _ (List.mem_of_getElem? (i := 117) rfl)) rfl
theorem w1318 : (Cond.selects "WishToChipModel" ({ cls := "WishToChipModel", name := "fails", desc := "(II)I" } : MethodName) ({ cls := "WishToChipModel", name := "fails", desc := "(II)I" } : MethodName)) ∈ zgw := zgw_k (tt6 _ (List.mem_of_getElem? (i := 118) rfl)) rfl
theorem w1319 : (Cond.code ({ cls := "WishToChipModel", name := "fails", desc := "(II)I" } : MethodName) prog_14_method_64_code (3 : Nat) (Option.some FieldType.int)) ∈ zgw := zgw_k (tt6 _ (List.mem_of_getElem? (i := 119) rfl)) rfl
theorem w1320 : (Cond.methodLink "WishToChipModel" (243 : Nat) ({ cls := "WishToChipModel", name := "failsOf", desc := "(II)I" } : MethodName)) ∈ zgw := zgw_k (tt6 _ (List.mem_of_getElem? (i := 120) rfl)) rfl
theorem w1322 : (Cond.instanceMethod ({ cls := "WishToChipModel", name := "failsOf", desc := "(II)I" } : MethodName)) ∈ zgw := zgw_k (tt6 _ (List.mem_of_getElem? (i := 122) rfl)) rfl
theorem w1323 : (Cond.code ({ cls := "WishToChipModel", name := "failsOf", desc := "(II)I" } : MethodName) prog_14_method_63_code (5 : Nat) (Option.some FieldType.int)) ∈ zgw := zgw_k (tt6 _ (List.mem_of_getElem? (i := 123) rfl)) rfl
theorem w1324 : (Cond.methodLink "WishToChipModel" (240 : Nat) ({ cls := "WishToChipModel", name := "endsOf", desc := "(I)I" } : MethodName)) ∈ zgw := zgw_k (tt6 _ (List.mem_of_getElem? (i := 124) rfl)) rfl
theorem w1326 : (Cond.instanceMethod ({ cls := "WishToChipModel", name := "endsOf", desc := "(I)I" } : MethodName)) ∈ zgw := zgw_k (tt6 _ (List.mem_of_getElem? (i := 126) rfl)) rfl
theorem w1327 : (Cond.code ({ cls := "WishToChipModel", name := "endsOf", desc := "(I)I" } : MethodName) prog_14_method_62_code (4 : Nat) (Option.some FieldType.int)) ∈ zgw := zgw_k (tt6 _ (List.mem_of_getElem? (i := 127) rfl)) rfl
theorem w1328 : (Cond.methodLink "WishToChipLaw" (135 : Nat) ({ cls := "WishToChipModel", name := "finds", desc := "(I)I" } : MethodName)) ∈ zgw := zgw_k (tt6 _ (List.mem_of_getElem? (i := 128) rfl)) rfl
theorem w1329 : (Cond.instanceMethod ({ cls := "WishToChipModel", name := "finds", desc := "(I)I" } : MethodName)) ∈ zgw := zgw_k (tt6 _ (List.mem_of_getElem? (i := 129) rfl)) rfl
theorem w1330 : (Cond.selects "WishToChipModel" ({ cls := "WishToChipModel", name := "finds", desc := "(I)I" } : MethodName) ({ cls := "WishToChipModel", name := "finds", desc := "(I)I" } : MethodName)) ∈ zgw := zgw_k (tt6 _ (List.mem_of_getElem? (i := 130) rfl)) rfl
theorem w1331 : (Cond.code ({ cls := "WishToChipModel", name := "finds", desc := "(I)I" } : MethodName) prog_14_method_65_code (3 : Nat) (Option.some FieldType.int)) ∈ zgw := zgw_k (tt6 _ (List.mem_of_getElem? (i := 131) rfl)) rfl
theorem w1332 : (Cond.methodLink "WishToChipLaw" (139 : Nat) ({ cls := "WishToChipModel", name := "trial", desc := "(I)I" } : MethodName)) ∈ zgw := zgw_k (tt6 _ (List.mem_of_getElem? (i := 132) rfl)) rfl
theorem w1333 : (Cond.instanceMethod ({ cls := "WishToChipModel", name := "trial", desc := "(I)I" } : MethodName)) ∈ zgw := zgw_k (tt6 _ (List.mem_of_getElem? (i := 133) rfl)) rfl
theorem w1334 : (Cond.selects "WishToChipModel" ({ cls := "WishToChipModel", name := "trial", desc := "(I)I" } : MethodName) ({ cls := "WishToChipModel", name := "trial", desc := "(I)I" } : MethodName)) ∈ zgw := zgw_k (tt6 _ (List.mem_of_getElem? (i := 134) rfl)) rfl
theorem w1335 : (Cond.code ({ cls := "WishToChipModel", name := "trial", desc := "(I)I" } : MethodName) prog_14_method_66_code (2 : Nat) (Option.some FieldType.int)) ∈ zgw := zgw_k (tt6 _ (List.mem_of_getElem? (i := 135) rfl)) rfl
theorem w1336 : (Cond.methodLink "WishToChipLaw" (143 : Nat) ({ cls := "WishToChipModel", name := "noTrials", desc := "()I" } : MethodName)) ∈ zgw := zgw_k (tt6 _ (List.mem_of_getElem? (i := 136) rfl)) rfl
theorem w1337 : (Cond.instanceMethod ({ cls := "WishToChipModel", name := "noTrials", desc := "()I" } : MethodName)) ∈ zgw := zgw_k (tt6 _ (List.mem_of_getElem? (i := 137) rfl)) rfl
theorem w1338 : (Cond.selects "WishToChipModel" ({ cls := "WishToChipModel", name := "noTrials", desc := "()I" } : MethodName) ({ cls := "WishToChipModel", name := "noTrials", desc := "()I" } : MethodName)) ∈ zgw := zgw_k (tt6 _ (List.mem_of_getElem? (i := 138) rfl)) rfl
theorem w1339 : (Cond.code ({ cls := "WishToChipModel", name := "noTrials", desc := "()I" } : MethodName) prog_14_method_67_code (2 : Nat) (Option.some FieldType.int)) ∈ zgw := zgw_k (tt6 _ (List.mem_of_getElem? (i := 139) rfl)) rfl
theorem w1340 : (Cond.methodLink "WishToChipLaw" (147 : Nat) ({ cls := "WishToChipModel", name := "fewest", desc := "(I)I" } : MethodName)) ∈ zgw := zgw_k (tt6 _ (List.mem_of_getElem? (i := 140) rfl)) rfl
theorem w1341 : (Cond.instanceMethod ({ cls := "WishToChipModel", name := "fewest", desc := "(I)I" } : MethodName)) ∈ zgw := zgw_k (tt6 _ (List.mem_of_getElem? (i := 141) rfl)) rfl
theorem w1342 : (Cond.selects "WishToChipModel" ({ cls := "WishToChipModel", name := "fewest", desc := "(I)I" } : MethodName) ({ cls := "WishToChipModel", name := "fewest", desc := "(I)I" } : MethodName)) ∈ zgw := zgw_k (tt6 _ (List.mem_of_getElem? (i := 142) rfl)) rfl
theorem w1343 : (Cond.code ({ cls := "WishToChipModel", name := "fewest", desc := "(I)I" } : MethodName) prog_14_method_69_code (10 : Nat) (Option.some FieldType.int)) ∈ zgw := zgw_k (tt6 _ (List.mem_of_getElem? (i := 143) rfl)) rfl
theorem w1344 : (Cond.methodLink "WishToChipModel" (249 : Nat) ({ cls := "WishToChipModel", name := "foundBy", desc := "(I)J" } : MethodName)) ∈ zgw := zgw_k (tt6 _ (List.mem_of_getElem? (i := 144) rfl)) rfl
theorem w1346 : (Cond.instanceMethod ({ cls := "WishToChipModel", name := "foundBy", desc := "(I)J" } : MethodName)) ∈ zgw := zgw_k (tt6 _ (List.mem_of_getElem? (i := 146) rfl)) rfl
theorem w1347 : (Cond.code ({ cls := "WishToChipModel", name := "foundBy", desc := "(I)J" } : MethodName) prog_14_method_68_code (5 : Nat) (Option.some FieldType.long)) ∈ zgw := zgw_k (tt6 _ (List.mem_of_getElem? (i := 147) rfl)) rfl
theorem w1348 : (Cond.methodLink "WishToChipLaw" (151 : Nat) ({ cls := "WishToChipModel", name := "see", desc := "(II)I" } : MethodName)) ∈ zgw := zgw_k (tt6 _ (List.mem_of_getElem? (i := 148) rfl)) rfl
theorem w1349 : (Cond.instanceMethod ({ cls := "WishToChipModel", name := "see", desc := "(II)I" } : MethodName)) ∈ zgw := zgw_k (tt6 _ (List.mem_of_getElem? (i := 149) rfl)) rfl
theorem w1350 : (Cond.selects "WishToChipModel" ({ cls := "WishToChipModel", name := "see", desc := "(II)I" } : MethodName) ({ cls := "WishToChipModel", name := "see", desc := "(II)I" } : MethodName)) ∈ zgw := zgw_k (tt6 _ (List.mem_of_getElem? (i := 150) rfl)) rfl
theorem w1351 : (Cond.code ({ cls := "WishToChipModel", name := "see", desc := "(II)I" } : MethodName) prog_14_method_70_code (4 : Nat) (Option.some FieldType.int)) ∈ zgw := zgw_k (tt6 _ (List.mem_of_getElem? (i := 151) rfl)) rfl
theorem w1352 : (Cond.methodLink "WishToChipLaw" (155 : Nat) ({ cls := "WishToChipModel", name := "could", desc := "(I)I" } : MethodName)) ∈ zgw := zgw_k (tt6 _ (List.mem_of_getElem? (i := 152) rfl)) rfl
theorem w1353 : (Cond.instanceMethod ({ cls := "WishToChipModel", name := "could", desc := "(I)I" } : MethodName)) ∈ zgw := zgw_k (tt6 _ (List.mem_of_getElem? (i := 153) rfl)) rfl
theorem w1354 : (Cond.selects "WishToChipModel" ({ cls := "WishToChipModel", name := "could", desc := "(I)I" } : MethodName) ({ cls := "WishToChipModel", name := "could", desc := "(I)I" } : MethodName)) ∈ zgw := zgw_k (tt6 _ (List.mem_of_getElem? (i := 154) rfl)) rfl
theorem w1355 : (Cond.code ({ cls := "WishToChipModel", name := "could", desc := "(I)I" } : MethodName) prog_14_method_73_code (4 : Nat) (Option.some FieldType.int)) ∈ zgw := zgw_k (tt6 _ (List.mem_of_getElem? (i := 155) rfl)) rfl
theorem w1356 : (Cond.methodLink "WishToChipModel" (256 : Nat) ({ cls := "WishToChipModel", name := "isSo", desc := "(I)Z" } : MethodName)) ∈ zgw := zgw_k (tt6 _ (List.mem_of_getElem? (i := 156) rfl)) rfl
theorem w1358 : (Cond.instanceMethod ({ cls := "WishToChipModel", name := "isSo", desc := "(I)Z" } : MethodName)) ∈ zgw := zgw_k (tt6 _ (List.mem_of_getElem? (i := 158) rfl)) rfl
theorem w1359 : (Cond.code ({ cls := "WishToChipModel", name := "isSo", desc := "(I)Z" } : MethodName) prog_14_method_72_code (4 : Nat) (Option.some FieldType.boolean)) ∈ zgw := zgw_k (tt6 _ (List.mem_of_getElem? (i := 159) rfl)) rfl
theorem w1360 : (Cond.methodLink "WishToChipModel" (253 : Nat) ({ cls := "WishToChipModel", name := "failsAt", desc := "(II)I" } : MethodName)) ∈ zgw := zgw_k (tt6 _ (List.mem_of_getElem? (i := 160) rfl)) rfl
theorem w1362 : (Cond.instanceMethod ({ cls := "WishToChipModel", name := "failsAt", desc := "(II)I" } : MethodName)) ∈ zgw := zgw_k (tt6 _ (List.mem_of_getElem? (i := 162) rfl)) rfl
theorem w1363 : (Cond.code ({ cls := "WishToChipModel", name := "failsAt", desc := "(II)I" } : MethodName) prog_14_method_71_code (3 : Nat) (Option.some FieldType.int)) ∈ zgw := zgw_k (tt6 _ (List.mem_of_getElem? (i := 163) rfl)) rfl
theorem w1364 : (Cond.methodLink "WishToChipLaw" (159 : Nat) ({ cls := "WishToChipModel", name := "parts", desc := "()I" } : MethodName)) ∈ zgw := zgw_k (tt6 _ (List.mem_of_getElem? (i := 164) rfl)) rfl
theorem w1365 : (Cond.instanceMethod ({ cls := "WishToChipModel", name := "parts", desc := "()I" } : MethodName)) ∈ zgw := zgw_k (tt6 _ (List.mem_of_getElem? (i := 165) rfl)) rfl
theorem w1366 : (Cond.selects "WishToChipModel" ({ cls := "WishToChipModel", name := "parts", desc := "()I" } : MethodName) ({ cls := "WishToChipModel", name := "parts", desc := "()I" } : MethodName)) ∈ zgw := zgw_k (tt6 _ (List.mem_of_getElem? (i := 166) rfl)) rfl
theorem w1367 : (Cond.code ({ cls := "WishToChipModel", name := "parts", desc := "()I" } : MethodName) prog_14_method_74_code (8 : Nat) (Option.some FieldType.int)) ∈ zgw := zgw_k (tt6 _ (List.mem_of_getElem? (i := 167) rfl)) rfl
theorem w1368 : (Cond.methodLink "WishToChipLaw" (163 : Nat) ({ cls := "WishToChipModel", name := "keep", desc := "()I" } : MethodName)) ∈ zgw := zgw_k (tt6 _ (List.mem_of_getElem? (i := 168) rfl)) rfl
theorem w1369 : (Cond.instanceMethod ({ cls := "WishToChipModel", name := "keep", desc := "()I" } : MethodName)) ∈ zgw := zgw_k (tt6 _ (List.mem_of_getElem? (i := 169) rfl)) rfl
theorem w1370 : (Cond.selects "WishToChipModel" ({ cls := "WishToChipModel", name := "keep", desc := "()I" } : MethodName) ({ cls := "WishToChipModel", name := "keep", desc := "()I" } : MethodName)) ∈ zgw := zgw_k (tt6 _ (List.mem_of_getElem? (i := 170) rfl)) rfl
theorem w1371 : (Cond.code ({ cls := "WishToChipModel", name := "keep", desc := "()I" } : MethodName) prog_14_method_76_code (1 : Nat) (Option.some FieldType.int)) ∈ zgw := zgw_k (tt6 _ (List.mem_of_getElem? (i := 171) rfl)) rfl
theorem w1372 : (Cond.methodLink "WishToChipModel" (265 : Nat) ({ cls := "WishToChipModel", name := "copyRest", desc := "(II)V" } : MethodName)) ∈ zgw := zgw_k (tt6 _ (List.mem_of_getElem? (i := 172) rfl)) rfl
theorem w1374 : (Cond.instanceMethod ({ cls := "WishToChipModel", name := "copyRest", desc := "(II)V" } : MethodName)) ∈ zgw := zgw_k (tt6 _ (List.mem_of_getElem? (i := 174) rfl)) rfl
theorem w1375 : (Cond.code ({ cls := "WishToChipModel", name := "copyRest", desc := "(II)V" } : MethodName) prog_14_method_75_code (4 : Nat) (Option.none : Option FieldType)) ∈ zgw := zgw_k (tt6 _ (List.mem_of_getElem? (i := 175) rfl)) rfl
theorem w1376 : (Cond.methodLink "WishToChipLaw" (167 : Nat) ({ cls := "WishToChipModel", name := "back", desc := "()I" } : MethodName)) ∈ zgw := zgw_k (tt6 _ (List.mem_of_getElem? (i := 176) rfl)) rfl
theorem w1377 : (Cond.instanceMethod ({ cls := "WishToChipModel", name := "back", desc := "()I" } : MethodName)) ∈ zgw := zgw_k (tt6 _ (List.mem_of_getElem? (i := 177) rfl)) rfl
theorem w1378 : (Cond.selects "WishToChipModel" ({ cls := "WishToChipModel", name := "back", desc := "()I" } : MethodName) ({ cls := "WishToChipModel", name := "back", desc := "()I" } : MethodName)) ∈ zgw := zgw_k (tt6 _ (List.mem_of_getElem? (i := 178) rfl)) rfl
theorem w1379 : (Cond.code ({ cls := "WishToChipModel", name := "back", desc := "()I" } : MethodName) prog_14_method_77_code (1 : Nat) (Option.some FieldType.int)) ∈ zgw := zgw_k (tt6 _ (List.mem_of_getElem? (i := 179) rfl)) rfl
theorem w1380 : (Cond.methodLink "WishToChipLaw" (171 : Nat) ({ cls := "WishToChipModel", name := "count", desc := "(I)I" } : MethodName)) ∈ zgw := zgw_k (tt6 _ (List.mem_of_getElem? (i := 180) rfl)) rfl
theorem w1381 : (Cond.instanceMethod ({ cls := "WishToChipModel", name := "count", desc := "(I)I" } : MethodName)) ∈ zgw := zgw_k (tt6 _ (List.mem_of_getElem? (i := 181) rfl)) rfl
theorem w1382 : (Cond.selects "WishToChipModel" ({ cls := "WishToChipModel", name := "count", desc := "(I)I" } : MethodName) ({ cls := "WishToChipModel", name := "count", desc := "(I)I" } : MethodName)) ∈ zgw := zgw_k (tt6 _ (List.mem_of_getElem? (i := 182) rfl)) rfl
theorem w1383 : (Cond.code ({ cls := "WishToChipModel", name := "count", desc := "(I)I" } : MethodName) prog_14_method_78_code (2 : Nat) (Option.some FieldType.int)) ∈ zgw := zgw_k (tt6 _ (List.mem_of_getElem? (i := 183) rfl)) rfl
theorem w1384 : (Cond.constantLong "WishToChipLaw" (13 : Nat) (4294967295 : Int64)) ∈ zgw := zgw_k (tt6 _ (List.mem_of_getElem? (i := 184) rfl)) rfl
theorem s0 : Cond.selects "WishToChip$Reader" yX5_takes yX5_takes ∈ zgw := zgw_of (List.mem_append_left _ (List.mem_of_getElem? (i := 0) (by decide +kernel))) (by decide +kernel)
theorem s1 : Cond.selects "WishToChip$Reader" yX5_takesLetter yX5_takesLetter ∈ zgw := zgw_of (List.mem_append_left _ (List.mem_of_getElem? (i := 1) (by decide +kernel))) (by decide +kernel)
theorem s2 : Cond.selects "WishToChip$Reader" yX5_takesEnd yX5_takesEnd ∈ zgw := zgw_of (List.mem_append_left _ (List.mem_of_getElem? (i := 2) (by decide +kernel))) (by decide +kernel)
theorem s3 : Cond.selects "WishToChip$Reader" yX5_takesToken yX5_takesToken ∈ zgw := zgw_of (List.mem_append_left _ (List.mem_of_getElem? (i := 3) (by decide +kernel))) (by decide +kernel)
theorem s4 : Cond.selects "WishToChip$View" yX10_orderNext yX10_orderNext ∈ zgw := zgw_of (List.mem_append_left _ (List.mem_of_getElem? (i := 4) (by decide +kernel))) (by decide +kernel)
theorem s5 : Cond.selects "WishToChip$Steps" yX6_make yX6_make ∈ zgw := zgw_of (List.mem_append_left _ (List.mem_of_getElem? (i := 5) (by decide +kernel))) (by decide +kernel)
theorem s6 : Cond.selects "WishToChip$Lanes" yX4_run yX4_run ∈ zgw := zgw_of (List.mem_append_left _ (List.mem_of_getElem? (i := 6) (by decide +kernel))) (by decide +kernel)
theorem s7 : Cond.selects "WishToChip$Lanes" yX4_stuck yX4_stuck ∈ zgw := zgw_of (List.mem_append_left _ (List.mem_of_getElem? (i := 7) (by decide +kernel))) (by decide +kernel)
theorem s8 : Cond.selects "WishToChip$Lanes" yX4_make yX4_make ∈ zgw := zgw_of (List.mem_append_left _ (List.mem_of_getElem? (i := 8) (by decide +kernel))) (by decide +kernel)
theorem s9 : Cond.selects "WishToChip$Lanes" yX4_statesShown yX4_statesShown ∈ zgw := zgw_of (List.mem_append_left _ (List.mem_of_getElem? (i := 9) (by decide +kernel))) (by decide +kernel)
theorem s10 : Cond.selects "WishToChip$Covers" yX0_coverToken yX0_coverToken ∈ zgw := zgw_of (List.mem_append_left _ (List.mem_of_getElem? (i := 10) (by decide +kernel))) (by decide +kernel)
theorem s11 : Cond.selects "WishToChip$Covers" yX0_put yX0_put ∈ zgw := zgw_of (List.mem_append_left _ (List.mem_of_getElem? (i := 11) (by decide +kernel))) (by decide +kernel)
theorem s12 : Cond.selects "WishToChip$Times" yX8_findLine yX8_findLine ∈ zgw := zgw_of (List.mem_append_left _ (List.mem_of_getElem? (i := 12) (by decide +kernel))) (by decide +kernel)
theorem s13 : Cond.selects "WishToChip$Times" yX8_takeLatest yX8_takeLatest ∈ zgw := zgw_of (List.mem_append_left _ (List.mem_of_getElem? (i := 13) (by decide +kernel))) (by decide +kernel)
theorem s14 : Cond.selects "WishToChip$Floor" yX1_placesOf yX1_placesOf ∈ zgw := zgw_of (List.mem_append_left _ (List.mem_of_getElem? (i := 14) (by decide +kernel))) (by decide +kernel)
theorem s15 : Cond.selects "WishToChip$Floor" yX1_wireToCome yX1_wireToCome ∈ zgw := zgw_of (List.mem_append_left _ (List.mem_of_getElem? (i := 15) (by decide +kernel))) (by decide +kernel)
theorem s16 : Cond.selects "WishToChip$Floor" yX1_turnNetPlaces yX1_turnNetPlaces ∈ zgw := zgw_of (List.mem_append_left _ (List.mem_of_getElem? (i := 16) (by decide +kernel))) (by decide +kernel)
theorem s17 : Cond.selects "WishToChip$Floor" yX1_swapBest yX1_swapBest ∈ zgw := zgw_of (List.mem_append_left _ (List.mem_of_getElem? (i := 17) (by decide +kernel))) (by decide +kernel)
theorem s18 : Cond.selects "WishToChip$Floor" yX1_exchange yX1_exchange ∈ zgw := zgw_of (List.mem_append_left _ (List.mem_of_getElem? (i := 18) (by decide +kernel))) (by decide +kernel)
theorem s19 : Cond.selects "WishToChip$Trials" yX9_lanesFailing yX9_lanesFailing ∈ zgw := zgw_of (List.mem_append_left _ (List.mem_of_getElem? (i := 19) (by decide +kernel))) (by decide +kernel)
theorem s20 : Cond.selects "WishToChip$Trials" yX9_foundBy yX9_foundBy ∈ zgw := zgw_of (List.mem_append_left _ (List.mem_of_getElem? (i := 20) (by decide +kernel))) (by decide +kernel)
theorem s21 : Cond.selects "WishToChip$Trials" yX9_greatestAlike yX9_greatestAlike ∈ zgw := zgw_of (List.mem_append_left _ (List.mem_of_getElem? (i := 21) (by decide +kernel))) (by decide +kernel)
theorem s22 : Cond.selects "WishToChipModel" yX12_read yX12_read ∈ zgw := zgw_of (List.mem_append_left _ (List.mem_of_getElem? (i := 22) (by decide +kernel))) (by decide +kernel)
theorem s23 : Cond.selects "WishToChipModel" yX12_ringOf yX12_ringOf ∈ zgw := zgw_of (List.mem_append_left _ (List.mem_of_getElem? (i := 23) (by decide +kernel))) (by decide +kernel)
theorem s24 : Cond.selects "WishToChipModel" yX12_leans yX12_leans ∈ zgw := zgw_of (List.mem_append_left _ (List.mem_of_getElem? (i := 24) (by decide +kernel))) (by decide +kernel)
theorem s25 : Cond.selects "WishToChipModel" yX12_namesIn yX12_namesIn ∈ zgw := zgw_of (List.mem_append_left _ (List.mem_of_getElem? (i := 25) (by decide +kernel))) (by decide +kernel)
theorem s26 : Cond.selects "WishToChipModel" yX12_lackOf yX12_lackOf ∈ zgw := zgw_of (List.mem_append_left _ (List.mem_of_getElem? (i := 26) (by decide +kernel))) (by decide +kernel)
theorem s27 : Cond.selects "WishToChipModel" yX12_reads yX12_reads ∈ zgw := zgw_of (List.mem_append_left _ (List.mem_of_getElem? (i := 27) (by decide +kernel))) (by decide +kernel)
theorem s28 : Cond.selects "WishToChipModel" yX12_layOrder yX12_layOrder ∈ zgw := zgw_of (List.mem_append_left _ (List.mem_of_getElem? (i := 28) (by decide +kernel))) (by decide +kernel)
theorem s29 : Cond.selects "WishToChipModel" yX12_copyView yX12_copyView ∈ zgw := zgw_of (List.mem_append_left _ (List.mem_of_getElem? (i := 29) (by decide +kernel))) (by decide +kernel)
theorem s30 : Cond.selects "WishToChipModel" yX12_has yX12_has ∈ zgw := zgw_of (List.mem_append_left _ (List.mem_of_getElem? (i := 30) (by decide +kernel))) (by decide +kernel)
theorem s31 : Cond.selects "WishToChipModel" yX12_uses yX12_uses ∈ zgw := zgw_of (List.mem_append_left _ (List.mem_of_getElem? (i := 31) (by decide +kernel))) (by decide +kernel)
theorem s32 : Cond.selects "WishToChipModel" yX12_stateNow yX12_stateNow ∈ zgw := zgw_of (List.mem_append_left _ (List.mem_of_getElem? (i := 32) (by decide +kernel))) (by decide +kernel)
theorem s33 : Cond.selects "WishToChipModel" yX12_layWires yX12_layWires ∈ zgw := zgw_of (List.mem_append_left _ (List.mem_of_getElem? (i := 33) (by decide +kernel))) (by decide +kernel)
theorem s34 : Cond.selects "WishToChipModel" yX12_made yX12_made ∈ zgw := zgw_of (List.mem_append_left _ (List.mem_of_getElem? (i := 34) (by decide +kernel))) (by decide +kernel)
theorem s35 : Cond.selects "WishToChipModel" yX12_used yX12_used ∈ zgw := zgw_of (List.mem_append_left _ (List.mem_of_getElem? (i := 35) (by decide +kernel))) (by decide +kernel)
theorem s36 : Cond.selects "WishToChipModel" yX12_told yX12_told ∈ zgw := zgw_of (List.mem_append_left _ (List.mem_of_getElem? (i := 36) (by decide +kernel))) (by decide +kernel)
theorem s37 : Cond.selects "WishToChipModel" yX12_layRow yX12_layRow ∈ zgw := zgw_of (List.mem_append_left _ (List.mem_of_getElem? (i := 37) (by decide +kernel))) (by decide +kernel)
theorem s38 : Cond.selects "WishToChipModel" yX12_coverOf yX12_coverOf ∈ zgw := zgw_of (List.mem_append_left _ (List.mem_of_getElem? (i := 38) (by decide +kernel))) (by decide +kernel)
theorem s39 : Cond.selects "WishToChipModel" yX12_cost yX12_cost ∈ zgw := zgw_of (List.mem_append_left _ (List.mem_of_getElem? (i := 39) (by decide +kernel))) (by decide +kernel)
theorem s40 : Cond.selects "WishToChipModel" yX12_layArrivals yX12_layArrivals ∈ zgw := zgw_of (List.mem_append_left _ (List.mem_of_getElem? (i := 40) (by decide +kernel))) (by decide +kernel)
theorem s41 : Cond.selects "WishToChipModel" yX12_arrive yX12_arrive ∈ zgw := zgw_of (List.mem_append_left _ (List.mem_of_getElem? (i := 41) (by decide +kernel))) (by decide +kernel)
theorem s42 : Cond.selects "WishToChipModel" yX12_blockAt yX12_blockAt ∈ zgw := zgw_of (List.mem_append_left _ (List.mem_of_getElem? (i := 42) (by decide +kernel))) (by decide +kernel)
theorem s43 : Cond.selects "WishToChipModel" yX12_tryNow yX12_tryNow ∈ zgw := zgw_of (List.mem_append_left _ (List.mem_of_getElem? (i := 43) (by decide +kernel))) (by decide +kernel)
theorem s44 : Cond.selects "WishToChipModel" yX12_allWire yX12_allWire ∈ zgw := zgw_of (List.mem_append_left _ (List.mem_of_getElem? (i := 44) (by decide +kernel))) (by decide +kernel)
theorem s45 : Cond.selects "WishToChipModel" yX12_wireOf yX12_wireOf ∈ zgw := zgw_of (List.mem_append_left _ (List.mem_of_getElem? (i := 45) (by decide +kernel))) (by decide +kernel)
theorem s46 : Cond.selects "WishToChipModel" yX12_layLeast yX12_layLeast ∈ zgw := zgw_of (List.mem_append_left _ (List.mem_of_getElem? (i := 46) (by decide +kernel))) (by decide +kernel)
theorem s47 : Cond.selects "WishToChipModel" yX12_isFree yX12_isFree ∈ zgw := zgw_of (List.mem_append_left _ (List.mem_of_getElem? (i := 47) (by decide +kernel))) (by decide +kernel)
theorem s48 : Cond.selects "WishToChipModel" yX12_change yX12_change ∈ zgw := zgw_of (List.mem_append_left _ (List.mem_of_getElem? (i := 48) (by decide +kernel))) (by decide +kernel)
theorem s49 : Cond.selects "WishToChipModel" yX12_failsOf yX12_failsOf ∈ zgw := zgw_of (List.mem_append_left _ (List.mem_of_getElem? (i := 49) (by decide +kernel))) (by decide +kernel)
theorem s50 : Cond.selects "WishToChipModel" yX12_endsOf yX12_endsOf ∈ zgw := zgw_of (List.mem_append_left _ (List.mem_of_getElem? (i := 50) (by decide +kernel))) (by decide +kernel)
theorem s51 : Cond.selects "WishToChipModel" yX12_foundBy yX12_foundBy ∈ zgw := zgw_of (List.mem_append_left _ (List.mem_of_getElem? (i := 51) (by decide +kernel))) (by decide +kernel)
theorem s52 : Cond.selects "WishToChipModel" yX12_isSo yX12_isSo ∈ zgw := zgw_of (List.mem_append_left _ (List.mem_of_getElem? (i := 52) (by decide +kernel))) (by decide +kernel)
theorem s53 : Cond.selects "WishToChipModel" yX12_failsAt yX12_failsAt ∈ zgw := zgw_of (List.mem_append_left _ (List.mem_of_getElem? (i := 53) (by decide +kernel))) (by decide +kernel)
theorem s54 : Cond.selects "WishToChipModel" yX12_copyRest yX12_copyRest ∈ zgw := zgw_of (List.mem_append_left _ (List.mem_of_getElem? (i := 54) (by decide +kernel))) (by decide +kernel)
theorem in0 : ∀ w ∈ u_ws RX0 TX0 2, w ∈ zgw := by
  intro w hw
  obtain ⟨k, hk, rfl⟩ := List.mem_map.mp hw
  have hk2 := List.mem_range.mp hk
  have h : ∀ k, k < 2 → tables_1[([209, 211] : List Nat).getD k 0]? = some (u_lay RX0 TX0 k) ∧ goodWord (u_lay RX0 TX0 k) = true := by decide +kernel
  exact zgw_t (h k hk2).1 (h k hk2).2
theorem in1 : ∀ w ∈ u_ws RX1 TX1 9, w ∈ zgw := by
  intro w hw
  obtain ⟨k, hk, rfl⟩ := List.mem_map.mp hw
  have hk2 := List.mem_range.mp hk
  have h : ∀ k, k < 9 → tables_1[([253, 255, 257, 259, 261, 263, 265, 267, 269] : List Nat).getD k 0]? = some (u_lay RX1 TX1 k) ∧ goodWord (u_lay RX1 TX1 k) = true := by decide +kernel
  exact zgw_t (h k hk2).1 (h k hk2).2
theorem in2 : ∀ w ∈ u_ws RX2 TX2 3, w ∈ zgw := by
  intro w hw
  obtain ⟨k, hk, rfl⟩ := List.mem_map.mp hw
  have hk2 := List.mem_range.mp hk
  have h : ∀ k, k < 3 → tables_1[([194, 196, 198] : List Nat).getD k 0]? = some (u_lay RX2 TX2 k) ∧ goodWord (u_lay RX2 TX2 k) = true := by decide +kernel
  exact zgw_t (h k hk2).1 (h k hk2).2
theorem in3 : ∀ w ∈ u_ws RX3 TX3 5, w ∈ zgw := by
  intro w hw
  obtain ⟨k, hk, rfl⟩ := List.mem_map.mp hw
  have hk2 := List.mem_range.mp hk
  have h : ∀ k, k < 5 → tables_1[([325, 327, 329, 331, 333] : List Nat).getD k 0]? = some (u_lay RX3 TX3 k) ∧ goodWord (u_lay RX3 TX3 k) = true := by decide +kernel
  exact zgw_t (h k hk2).1 (h k hk2).2
theorem in4 : ∀ w ∈ u_ws RX4 TX4 5, w ∈ zgw := by
  intro w hw
  obtain ⟨k, hk, rfl⟩ := List.mem_map.mp hw
  have hk2 := List.mem_range.mp hk
  have h : ∀ k, k < 5 → tables_1[([171, 173, 175, 177, 179] : List Nat).getD k 0]? = some (u_lay RX4 TX4 k) ∧ goodWord (u_lay RX4 TX4 k) = true := by decide +kernel
  exact zgw_t (h k hk2).1 (h k hk2).2
theorem in5 : ∀ w ∈ u_ws RX5 TX5 5, w ∈ zgw := by
  intro w hw
  obtain ⟨k, hk, rfl⟩ := List.mem_map.mp hw
  have hk2 := List.mem_range.mp hk
  have h : ∀ k, k < 5 → tables_1[([125, 127, 129, 131, 133] : List Nat).getD k 0]? = some (u_lay RX5 TX5 k) ∧ goodWord (u_lay RX5 TX5 k) = true := by decide +kernel
  exact zgw_t (h k hk2).1 (h k hk2).2
theorem in6 : ∀ w ∈ u_ws RX6 TX6 4, w ∈ zgw := by
  intro w hw
  obtain ⟨k, hk, rfl⟩ := List.mem_map.mp hw
  have hk2 := List.mem_range.mp hk
  have h : ∀ k, k < 4 → tables_1[([149, 151, 153, 155] : List Nat).getD k 0]? = some (u_lay RX6 TX6 k) ∧ goodWord (u_lay RX6 TX6 k) = true := by decide +kernel
  exact zgw_t (h k hk2).1 (h k hk2).2
theorem in7 : ∀ w ∈ u_ws RX7 TX7 2, w ∈ zgw := by
  intro w hw
  obtain ⟨k, hk, rfl⟩ := List.mem_map.mp hw
  have hk2 := List.mem_range.mp hk
  have h : ∀ k, k < 2 → tables_1[([39, 41] : List Nat).getD k 0]? = some (u_lay RX7 TX7 k) ∧ goodWord (u_lay RX7 TX7 k) = true := by decide +kernel
  exact zgw_t (h k hk2).1 (h k hk2).2
theorem in8 : ∀ w ∈ u_ws RX8 TX8 4, w ∈ zgw := by
  intro w hw
  obtain ⟨k, hk, rfl⟩ := List.mem_map.mp hw
  have hk2 := List.mem_range.mp hk
  have h : ∀ k, k < 4 → tables_1[([225, 227, 229, 231] : List Nat).getD k 0]? = some (u_lay RX8 TX8 k) ∧ goodWord (u_lay RX8 TX8 k) = true := by decide +kernel
  exact zgw_t (h k hk2).1 (h k hk2).2
theorem in9 : ∀ w ∈ u_ws RX9 TX9 6, w ∈ zgw := by
  intro w hw
  obtain ⟨k, hk, rfl⟩ := List.mem_map.mp hw
  have hk2 := List.mem_range.mp hk
  have h : ∀ k, k < 6 → tables_1[([293, 295, 297, 299, 301, 303] : List Nat).getD k 0]? = some (u_lay RX9 TX9 k) ∧ goodWord (u_lay RX9 TX9 k) = true := by decide +kernel
  exact zgw_t (h k hk2).1 (h k hk2).2
theorem in10 : ∀ w ∈ u_ws RX10 TX10 8, w ∈ zgw := by
  intro w hw
  obtain ⟨k, hk, rfl⟩ := List.mem_map.mp hw
  have hk2 := List.mem_range.mp hk
  have h : ∀ k, k < 8 → tables_1[([94, 96, 98, 100, 102, 104, 106, 108] : List Nat).getD k 0]? = some (u_lay RX10 TX10 k) ∧ goodWord (u_lay RX10 TX10 k) = true := by decide +kernel
  exact zgw_t (h k hk2).1 (h k hk2).2
theorem in11 : ∀ w ∈ u_ws RX11 TX11 16, w ∈ zgw := by
  intro w hw
  obtain ⟨k, hk, rfl⟩ := List.mem_map.mp hw
  have hk2 := List.mem_range.mp hk
  have h : ∀ k, k < 16 → tables_1[([353, 355, 357, 359, 361, 363, 365, 367, 369, 371, 373, 375, 377, 379, 381, 383] : List Nat).getD k 0]? = some (u_lay RX11 TX11 k) ∧ goodWord (u_lay RX11 TX11 k) = true := by decide +kernel
  exact zgw_t (h k hk2).1 (h k hk2).2
theorem in12 : ∀ w ∈ u_ws RX12 TX12 40, w ∈ zgw := by
  intro w hw
  obtain ⟨k, hk, rfl⟩ := List.mem_map.mp hw
  have hk2 := List.mem_range.mp hk
  have h : ∀ k, k < 40 → tables_1[([997, 999, 1001, 1003, 1005, 1007, 1009, 1011, 1013, 1015, 1017, 1019, 1021, 1023, 1025, 1027, 1029, 1031, 1033, 1035, 1037, 1039, 1041, 1043, 1045, 1047, 1049, 1051, 1053, 1055, 1057, 1059, 1061, 1063, 1065, 1067, 1069, 1071, 1073, 1075] : List Nat).getD k 0]? = some (u_lay RX12 TX12 k) ∧ goodWord (u_lay RX12 TX12 k) = true := by decide +kernel
  exact zgw_t (h k hk2).1 (h k hk2).2
