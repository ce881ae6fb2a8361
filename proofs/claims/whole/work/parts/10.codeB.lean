theorem dX5_init_0 : decode cX5_init 0 = .ok (.aload_n 0, 1) := by decide +kernel
theorem dX5_init_1 : decode cX5_init 1 = .ok (.invokespecial 3, 3) := by decide +kernel
theorem dX5_init_4 : decode cX5_init 4 = .ok (.aload_n 0, 1) := by decide +kernel
theorem dX5_init_5 : decode cX5_init 5 = .ok (.new 9, 3) := by decide +kernel
theorem dX5_init_8 : decode cX5_init 8 = .ok (.dup, 1) := by decide +kernel
theorem dX5_init_9 : decode cX5_init 9 = .ok (.invokespecial 11, 3) := by decide +kernel
theorem dX5_init_12 : decode cX5_init 12 = .ok (.putfield 12, 3) := by decide +kernel
theorem dX5_init_15 : decode cX5_init 15 = .ok (.aload_n 0, 1) := by decide +kernel
theorem dX5_init_16 : decode cX5_init 16 = .ok (.iconst 0, 1) := by decide +kernel
theorem dX5_init_17 : decode cX5_init 17 = .ok (.putfield 18, 3) := by decide +kernel
theorem dX5_init_20 : decode cX5_init 20 = .ok (.aload_n 0, 1) := by decide +kernel
theorem dX5_init_21 : decode cX5_init 21 = .ok (.bipush 6, 2) := by decide +kernel
theorem dX5_init_23 : decode cX5_init 23 = .ok (.putfield 22, 3) := by decide +kernel
theorem dX5_init_26 : decode cX5_init 26 = .ok (.aload_n 0, 1) := by decide +kernel
theorem dX5_init_27 : decode cX5_init 27 = .ok (.iconst 0, 1) := by decide +kernel
theorem dX5_init_28 : decode cX5_init 28 = .ok (.putfield 25, 3) := by decide +kernel
theorem dX5_init_31 : decode cX5_init 31 = .ok (.aload_n 0, 1) := by decide +kernel
theorem dX5_init_32 : decode cX5_init 32 = .ok (.iconst 0, 1) := by decide +kernel
theorem dX5_init_33 : decode cX5_init 33 = .ok (.putfield 28, 3) := by decide +kernel
theorem dX5_init_36 : decode cX5_init 36 = .ok (.return_, 1) := by decide +kernel
def kX5_init_0 : List (Nat × zT) := [(0, a_aload 0 1), (1, a_obj 4), (4, a_aload 0 5), (5, a_new 10 8 8), (8, a_dup 9), (9, a_callV 10 80 1 12 6 289), (12, a_putR 5 0 15), (15, a_aload 0 16), (16, a_i 0 17), (17, a_putI 5 1 20 false), (20, a_aload 0 21), (21, a_i 6 23), (23, a_putI 5 2 26 false), (26, a_aload 0 27), (27, a_i 0 28), (28, a_putI 5 3 31 false), (31, a_aload 0 32), (32, a_i 0 33), (33, a_putI 5 4 36 false), (36, a_vret)]
theorem oX5_init_0 : ∀ q ∈ kX5_init_0, zSnd zty true RX5 cX5_init 1 none true q := List.forall_mem_cons.mpr ⟨ok_aload_n dX5_init_0 rfl, List.forall_mem_cons.mpr ⟨ok_obj dX5_init_1 w116 w25 w26, List.forall_mem_cons.mpr ⟨ok_aload_n dX5_init_4 rfl, List.forall_mem_cons.mpr ⟨ok_new dX5_init_5 rfl rfl in10 tyX10 tyX10_ok rfl (by decide +kernel) w117 w47 w3, List.forall_mem_cons.mpr ⟨ok_dup dX5_init_8, List.forall_mem_cons.mpr ⟨ok_callIN dX5_init_9 rfl w50 n118 w49 w3 rfl (by decide +kernel) (by decide), List.forall_mem_cons.mpr ⟨ok_putR dX5_init_12 rfl rfl in5 tyX5 tyX5_ok nmX5 (by decide) rfl w119 rfl rfl (fun _ => ⟨rfl, rfl⟩), List.forall_mem_cons.mpr ⟨ok_aload_n dX5_init_15 rfl, List.forall_mem_cons.mpr ⟨ok_iconst dX5_init_16 (by decide), List.forall_mem_cons.mpr ⟨ok_putI (bz := false) dX5_init_17 rfl in5 tyX5 tyX5_ok nmX5 (by decide) rfl w121 rfl rfl, List.forall_mem_cons.mpr ⟨ok_aload_n dX5_init_20 rfl, List.forall_mem_cons.mpr ⟨ok_bipush dX5_init_21 (by decide), List.forall_mem_cons.mpr ⟨ok_putI (bz := false) dX5_init_23 rfl in5 tyX5 tyX5_ok nmX5 (by decide) rfl w122 rfl rfl, List.forall_mem_cons.mpr ⟨ok_aload_n dX5_init_26 rfl, List.forall_mem_cons.mpr ⟨ok_iconst dX5_init_27 (by decide), List.forall_mem_cons.mpr ⟨ok_putI (bz := false) dX5_init_28 rfl in5 tyX5 tyX5_ok nmX5 (by decide) rfl w123 rfl rfl, List.forall_mem_cons.mpr ⟨ok_aload_n dX5_init_31 rfl, List.forall_mem_cons.mpr ⟨ok_iconst dX5_init_32 (by decide), List.forall_mem_cons.mpr ⟨ok_putI (bz := false) dX5_init_33 rfl in5 tyX5 tyX5_ok nmX5 (by decide) rfl w124 rfl rfl, List.forall_mem_cons.mpr ⟨ok_vret dX5_init_36 rfl, fun _ h => absurd h List.not_mem_nil⟩⟩⟩⟩⟩⟩⟩⟩⟩⟩⟩⟩⟩⟩⟩⟩⟩⟩⟩⟩
def kX5_init : List (Nat × zT) := kX5_init_0
theorem qX5_init_0 : ∀ q ∈ kX5_init_0, q ∈ kX5_init := fun _ h => h
theorem tX5_init_0 : (0, a_aload 0 1) ∈ kX5_init := qX5_init_0 _ (List.mem_of_getElem? (i := 0) rfl)
theorem tX5_init_1 : (1, a_obj 4) ∈ kX5_init := qX5_init_0 _ (List.mem_of_getElem? (i := 1) rfl)
theorem tX5_init_4 : (4, a_aload 0 5) ∈ kX5_init := qX5_init_0 _ (List.mem_of_getElem? (i := 2) rfl)
theorem tX5_init_5 : (5, a_new 10 8 8) ∈ kX5_init := qX5_init_0 _ (List.mem_of_getElem? (i := 3) rfl)
theorem tX5_init_8 : (8, a_dup 9) ∈ kX5_init := qX5_init_0 _ (List.mem_of_getElem? (i := 4) rfl)
theorem tX5_init_9 : (9, a_callV 10 80 1 12 6 289) ∈ kX5_init := qX5_init_0 _ (List.mem_of_getElem? (i := 5) rfl)
theorem tX5_init_12 : (12, a_putR 5 0 15) ∈ kX5_init := qX5_init_0 _ (List.mem_of_getElem? (i := 6) rfl)
theorem tX5_init_15 : (15, a_aload 0 16) ∈ kX5_init := qX5_init_0 _ (List.mem_of_getElem? (i := 7) rfl)
theorem tX5_init_16 : (16, a_i 0 17) ∈ kX5_init := qX5_init_0 _ (List.mem_of_getElem? (i := 8) rfl)
theorem tX5_init_17 : (17, a_putI 5 1 20 false) ∈ kX5_init := qX5_init_0 _ (List.mem_of_getElem? (i := 9) rfl)
theorem tX5_init_20 : (20, a_aload 0 21) ∈ kX5_init := qX5_init_0 _ (List.mem_of_getElem? (i := 10) rfl)
theorem tX5_init_21 : (21, a_i 6 23) ∈ kX5_init := qX5_init_0 _ (List.mem_of_getElem? (i := 11) rfl)
theorem tX5_init_23 : (23, a_putI 5 2 26 false) ∈ kX5_init := qX5_init_0 _ (List.mem_of_getElem? (i := 12) rfl)
theorem tX5_init_26 : (26, a_aload 0 27) ∈ kX5_init := qX5_init_0 _ (List.mem_of_getElem? (i := 13) rfl)
theorem tX5_init_27 : (27, a_i 0 28) ∈ kX5_init := qX5_init_0 _ (List.mem_of_getElem? (i := 14) rfl)
theorem tX5_init_28 : (28, a_putI 5 3 31 false) ∈ kX5_init := qX5_init_0 _ (List.mem_of_getElem? (i := 15) rfl)
theorem tX5_init_31 : (31, a_aload 0 32) ∈ kX5_init := qX5_init_0 _ (List.mem_of_getElem? (i := 16) rfl)
theorem tX5_init_32 : (32, a_i 0 33) ∈ kX5_init := qX5_init_0 _ (List.mem_of_getElem? (i := 17) rfl)
theorem tX5_init_33 : (33, a_putI 5 4 36 false) ∈ kX5_init := qX5_init_0 _ (List.mem_of_getElem? (i := 18) rfl)
theorem tX5_init_36 : (36, a_vret) ∈ kX5_init := qX5_init_0 _ (List.mem_of_getElem? (i := 19) rfl)
theorem oX5_init : ∀ q ∈ kX5_init, zSnd zty true RX5 cX5_init 1 none true q := oX5_init_0
theorem dX5_read_0 : decode cX5_read 0 = .ok (.aload_n 0, 1) := by decide +kernel
theorem dX5_read_1 : decode cX5_read 1 = .ok (.getfield 12, 3) := by decide +kernel
theorem dX5_read_4 : decode cX5_read 4 = .ok (.invokevirtual 31, 3) := by decide +kernel
theorem dX5_read_7 : decode cX5_read 7 = .ok (.aload_n 0, 1) := by decide +kernel
theorem dX5_read_8 : decode cX5_read 8 = .ok (.iconst 0, 1) := by decide +kernel
theorem dX5_read_9 : decode cX5_read 9 = .ok (.putfield 18, 3) := by decide +kernel
theorem dX5_read_12 : decode cX5_read 12 = .ok (.aload_n 0, 1) := by decide +kernel
theorem dX5_read_13 : decode cX5_read 13 = .ok (.iconst 0, 1) := by decide +kernel
theorem dX5_read_14 : decode cX5_read 14 = .ok (.putfield 25, 3) := by decide +kernel
theorem dX5_read_17 : decode cX5_read 17 = .ok (.iconst 0, 1) := by decide +kernel
theorem dX5_read_18 : decode cX5_read 18 = .ok (.istore_n 2, 1) := by decide +kernel
theorem dX5_read_19 : decode cX5_read 19 = .ok (.iload_n 2, 1) := by decide +kernel
theorem dX5_read_20 : decode cX5_read 20 = .ok (.aload_n 1, 1) := by decide +kernel
theorem dX5_read_21 : decode cX5_read 21 = .ok (.getfield 34, 3) := by decide +kernel
theorem dX5_read_24 : decode cX5_read 24 = .ok (.if_icmp .ge 24, 3) := by decide +kernel
theorem dX5_read_27 : decode cX5_read 27 = .ok (.aload_n 0, 1) := by decide +kernel
theorem dX5_read_28 : decode cX5_read 28 = .ok (.aload_n 1, 1) := by decide +kernel
theorem dX5_read_29 : decode cX5_read 29 = .ok (.getfield 39, 3) := by decide +kernel
theorem dX5_read_32 : decode cX5_read 32 = .ok (.iload_n 2, 1) := by decide +kernel
theorem dX5_read_33 : decode cX5_read 33 = .ok (.iaload, 1) := by decide +kernel
theorem dX5_read_34 : decode cX5_read 34 = .ok (.invokevirtual 43, 3) := by decide +kernel
theorem dX5_read_37 : decode cX5_read 37 = .ok (.ifCond .ne 5, 3) := by decide +kernel
theorem dX5_read_40 : decode cX5_read 40 = .ok (.iload_n 2, 1) := by decide +kernel
theorem dX5_read_41 : decode cX5_read 41 = .ok (.ireturn, 1) := by decide +kernel
theorem dX5_read_42 : decode cX5_read 42 = .ok (.iinc 2 1, 3) := by decide +kernel
theorem dX5_read_45 : decode cX5_read 45 = .ok (.goto (-26), 3) := by decide +kernel
theorem dX5_read_48 : decode cX5_read 48 = .ok (.aload_n 0, 1) := by decide +kernel
theorem dX5_read_49 : decode cX5_read 49 = .ok (.getfield 18, 3) := by decide +kernel
theorem dX5_read_52 : decode cX5_read 52 = .ok (.ifCond .eq 8, 3) := by decide +kernel
theorem dX5_read_55 : decode cX5_read 55 = .ok (.aload_n 1, 1) := by decide +kernel
theorem dX5_read_56 : decode cX5_read 56 = .ok (.getfield 34, 3) := by decide +kernel
theorem dX5_read_59 : decode cX5_read 59 = .ok (.ireturn, 1) := by decide +kernel
theorem dX5_read_60 : decode cX5_read 60 = .ok (.aload_n 0, 1) := by decide +kernel
theorem dX5_read_61 : decode cX5_read 61 = .ok (.getfield 12, 3) := by decide +kernel
theorem dX5_read_64 : decode cX5_read 64 = .ok (.invokevirtual 47, 3) := by decide +kernel
theorem dX5_read_67 : decode cX5_read 67 = .ok (.bipush (-4), 2) := by decide +kernel
theorem dX5_read_69 : decode cX5_read 69 = .ok (.ireturn, 1) := by decide +kernel
def kX5_read_0 : List (Nat × zT) := [(0, a_aload 0 1), (1, a_getR 5 0 4), (4, a_callV 10 82 1 7 0 0), (7, a_aload 0 8), (8, a_i 0 9), (9, a_putI 5 1 12 false), (12, a_aload 0 13), (13, a_i 0 14), (14, a_putI 5 3 17 false), (17, a_i 0 18), (18, a_istore 2 19), (19, a_iload 2 20), (20, a_aload 1 21), (21, a_getI 7 1 24), (24, a_ic_ge 48 27), (27, a_aload 0 28), (28, a_aload 1 29), (29, a_getR 7 0 32), (32, a_iload 2 33), (33, a_iald 34), (34, a_callV 5 45 2 37 0 0), (37, a_if_ne 42 40), (40, a_iload 2 41), (41, a_iret false)]
theorem oX5_read_0 : ∀ q ∈ kX5_read_0, zSnd zty false RX5 cX5_read 3 (some .int) false q := List.forall_mem_cons.mpr ⟨ok_aload_n dX5_read_0 rfl, List.forall_mem_cons.mpr ⟨ok_getR dX5_read_1 rfl in5 (by decide) rfl w119, List.forall_mem_cons.mpr ⟨ok_callV dX5_read_4 rfl rfl w412 w409 w410 w3 w411 (by decide +kernel) (by decide), List.forall_mem_cons.mpr ⟨ok_aload_n dX5_read_7 rfl, List.forall_mem_cons.mpr ⟨ok_iconst dX5_read_8 (by decide), List.forall_mem_cons.mpr ⟨ok_putI (bz := false) dX5_read_9 rfl in5 tyX5 tyX5_ok nmX5 (by decide) rfl w121 rfl rfl, List.forall_mem_cons.mpr ⟨ok_aload_n dX5_read_12 rfl, List.forall_mem_cons.mpr ⟨ok_iconst dX5_read_13 (by decide), List.forall_mem_cons.mpr ⟨ok_putI (bz := false) dX5_read_14 rfl in5 tyX5 tyX5_ok nmX5 (by decide) rfl w123 rfl rfl, List.forall_mem_cons.mpr ⟨ok_iconst dX5_read_17 (by decide), List.forall_mem_cons.mpr ⟨ok_istore_n dX5_read_18 rfl (by decide), List.forall_mem_cons.mpr ⟨ok_iload_n dX5_read_19 rfl, List.forall_mem_cons.mpr ⟨ok_aload_n dX5_read_20 rfl, List.forall_mem_cons.mpr ⟨ok_getI dX5_read_21 rfl in7 (by decide) rfl w37, List.forall_mem_cons.mpr ⟨ok_ic_ge dX5_read_24 (by decide), List.forall_mem_cons.mpr ⟨ok_aload_n dX5_read_27 rfl, List.forall_mem_cons.mpr ⟨ok_aload_n dX5_read_28 rfl, List.forall_mem_cons.mpr ⟨ok_getR dX5_read_29 rfl in7 (by decide) rfl w35, List.forall_mem_cons.mpr ⟨ok_iload_n dX5_read_32 rfl, List.forall_mem_cons.mpr ⟨ok_iald dX5_read_33, List.forall_mem_cons.mpr ⟨ok_callV dX5_read_34 rfl rfl w419 w416 w418 w4 s0 (by decide +kernel) (by decide), List.forall_mem_cons.mpr ⟨ok_if_ne dX5_read_37 (by decide), List.forall_mem_cons.mpr ⟨ok_iload_n dX5_read_40 rfl, List.forall_mem_cons.mpr ⟨ok_iret (bz := false) dX5_read_41 rfl, fun _ h => absurd h List.not_mem_nil⟩⟩⟩⟩⟩⟩⟩⟩⟩⟩⟩⟩⟩⟩⟩⟩⟩⟩⟩⟩⟩⟩⟩⟩
def kX5_read_1 : List (Nat × zT) := [(42, a_iinc 2 1 45), (45, a_goto 19), (48, a_aload 0 49), (49, a_getI 5 1 52), (52, a_if_eq 60 55), (55, a_aload 1 56), (56, a_getI 7 1 59), (59, a_iret false), (60, a_aload 0 61), (61, a_getR 5 0 64), (64, a_callV 10 84 1 67 0 0), (67, a_i (-4) 69), (69, a_iret false)]
theorem oX5_read_1 : ∀ q ∈ kX5_read_1, zSnd zty false RX5 cX5_read 3 (some .int) false q := List.forall_mem_cons.mpr ⟨ok_iinc dX5_read_42 (by decide) (by decide), List.forall_mem_cons.mpr ⟨ok_goto dX5_read_45 (by decide), List.forall_mem_cons.mpr ⟨ok_aload_n dX5_read_48 rfl, List.forall_mem_cons.mpr ⟨ok_getI dX5_read_49 rfl in5 (by decide) rfl w121, List.forall_mem_cons.mpr ⟨ok_if_eq dX5_read_52 (by decide), List.forall_mem_cons.mpr ⟨ok_aload_n dX5_read_55 rfl, List.forall_mem_cons.mpr ⟨ok_getI dX5_read_56 rfl in7 (by decide) rfl w37, List.forall_mem_cons.mpr ⟨ok_iret (bz := false) dX5_read_59 rfl, List.forall_mem_cons.mpr ⟨ok_aload_n dX5_read_60 rfl, List.forall_mem_cons.mpr ⟨ok_getR dX5_read_61 rfl in5 (by decide) rfl w119, List.forall_mem_cons.mpr ⟨ok_callV dX5_read_64 rfl rfl w457 w454 w455 w3 w456 (by decide +kernel) (by decide), List.forall_mem_cons.mpr ⟨ok_bipush dX5_read_67 (by decide), List.forall_mem_cons.mpr ⟨ok_iret (bz := false) dX5_read_69 rfl, fun _ h => absurd h List.not_mem_nil⟩⟩⟩⟩⟩⟩⟩⟩⟩⟩⟩⟩⟩
def kX5_read : List (Nat × zT) := kX5_read_0 ++ (kX5_read_1)
theorem qX5_read_0 : ∀ q ∈ kX5_read_0, q ∈ kX5_read := fun _ h => (List.mem_append_left _ h)
theorem tX5_read_0 : (0, a_aload 0 1) ∈ kX5_read := qX5_read_0 _ (List.mem_of_getElem? (i := 0) rfl)
theorem tX5_read_1 : (1, a_getR 5 0 4) ∈ kX5_read := qX5_read_0 _ (List.mem_of_getElem? (i := 1) rfl)
theorem tX5_read_4 : (4, a_callV 10 82 1 7 0 0) ∈ kX5_read := qX5_read_0 _ (List.mem_of_getElem? (i := 2) rfl)
theorem tX5_read_7 : (7, a_aload 0 8) ∈ kX5_read := qX5_read_0 _ (List.mem_of_getElem? (i := 3) rfl)
theorem tX5_read_8 : (8, a_i 0 9) ∈ kX5_read := qX5_read_0 _ (List.mem_of_getElem? (i := 4) rfl)
theorem tX5_read_9 : (9, a_putI 5 1 12 false) ∈ kX5_read := qX5_read_0 _ (List.mem_of_getElem? (i := 5) rfl)
theorem tX5_read_12 : (12, a_aload 0 13) ∈ kX5_read := qX5_read_0 _ (List.mem_of_getElem? (i := 6) rfl)
theorem tX5_read_13 : (13, a_i 0 14) ∈ kX5_read := qX5_read_0 _ (List.mem_of_getElem? (i := 7) rfl)
theorem tX5_read_14 : (14, a_putI 5 3 17 false) ∈ kX5_read := qX5_read_0 _ (List.mem_of_getElem? (i := 8) rfl)
theorem tX5_read_17 : (17, a_i 0 18) ∈ kX5_read := qX5_read_0 _ (List.mem_of_getElem? (i := 9) rfl)
theorem tX5_read_18 : (18, a_istore 2 19) ∈ kX5_read := qX5_read_0 _ (List.mem_of_getElem? (i := 10) rfl)
theorem tX5_read_19 : (19, a_iload 2 20) ∈ kX5_read := qX5_read_0 _ (List.mem_of_getElem? (i := 11) rfl)
theorem tX5_read_20 : (20, a_aload 1 21) ∈ kX5_read := qX5_read_0 _ (List.mem_of_getElem? (i := 12) rfl)
theorem tX5_read_21 : (21, a_getI 7 1 24) ∈ kX5_read := qX5_read_0 _ (List.mem_of_getElem? (i := 13) rfl)
theorem tX5_read_24 : (24, a_ic_ge 48 27) ∈ kX5_read := qX5_read_0 _ (List.mem_of_getElem? (i := 14) rfl)
theorem tX5_read_27 : (27, a_aload 0 28) ∈ kX5_read := qX5_read_0 _ (List.mem_of_getElem? (i := 15) rfl)
theorem tX5_read_28 : (28, a_aload 1 29) ∈ kX5_read := qX5_read_0 _ (List.mem_of_getElem? (i := 16) rfl)
theorem tX5_read_29 : (29, a_getR 7 0 32) ∈ kX5_read := qX5_read_0 _ (List.mem_of_getElem? (i := 17) rfl)
theorem tX5_read_32 : (32, a_iload 2 33) ∈ kX5_read := qX5_read_0 _ (List.mem_of_getElem? (i := 18) rfl)
theorem tX5_read_33 : (33, a_iald 34) ∈ kX5_read := qX5_read_0 _ (List.mem_of_getElem? (i := 19) rfl)
theorem tX5_read_34 : (34, a_callV 5 45 2 37 0 0) ∈ kX5_read := qX5_read_0 _ (List.mem_of_getElem? (i := 20) rfl)
theorem tX5_read_37 : (37, a_if_ne 42 40) ∈ kX5_read := qX5_read_0 _ (List.mem_of_getElem? (i := 21) rfl)
theorem tX5_read_40 : (40, a_iload 2 41) ∈ kX5_read := qX5_read_0 _ (List.mem_of_getElem? (i := 22) rfl)
theorem tX5_read_41 : (41, a_iret false) ∈ kX5_read := qX5_read_0 _ (List.mem_of_getElem? (i := 23) rfl)
theorem qX5_read_1 : ∀ q ∈ kX5_read_1, q ∈ kX5_read := fun _ h => (List.mem_append_right _ h)
theorem tX5_read_42 : (42, a_iinc 2 1 45) ∈ kX5_read := qX5_read_1 _ (List.mem_of_getElem? (i := 0) rfl)
theorem tX5_read_45 : (45, a_goto 19) ∈ kX5_read := qX5_read_1 _ (List.mem_of_getElem? (i := 1) rfl)
theorem tX5_read_48 : (48, a_aload 0 49) ∈ kX5_read := qX5_read_1 _ (List.mem_of_getElem? (i := 2) rfl)
theorem tX5_read_49 : (49, a_getI 5 1 52) ∈ kX5_read := qX5_read_1 _ (List.mem_of_getElem? (i := 3) rfl)
theorem tX5_read_52 : (52, a_if_eq 60 55) ∈ kX5_read := qX5_read_1 _ (List.mem_of_getElem? (i := 4) rfl)
theorem tX5_read_55 : (55, a_aload 1 56) ∈ kX5_read := qX5_read_1 _ (List.mem_of_getElem? (i := 5) rfl)
theorem tX5_read_56 : (56, a_getI 7 1 59) ∈ kX5_read := qX5_read_1 _ (List.mem_of_getElem? (i := 6) rfl)
theorem tX5_read_59 : (59, a_iret false) ∈ kX5_read := qX5_read_1 _ (List.mem_of_getElem? (i := 7) rfl)
theorem tX5_read_60 : (60, a_aload 0 61) ∈ kX5_read := qX5_read_1 _ (List.mem_of_getElem? (i := 8) rfl)
theorem tX5_read_61 : (61, a_getR 5 0 64) ∈ kX5_read := qX5_read_1 _ (List.mem_of_getElem? (i := 9) rfl)
theorem tX5_read_64 : (64, a_callV 10 84 1 67 0 0) ∈ kX5_read := qX5_read_1 _ (List.mem_of_getElem? (i := 10) rfl)
theorem tX5_read_67 : (67, a_i (-4) 69) ∈ kX5_read := qX5_read_1 _ (List.mem_of_getElem? (i := 11) rfl)
theorem tX5_read_69 : (69, a_iret false) ∈ kX5_read := qX5_read_1 _ (List.mem_of_getElem? (i := 12) rfl)
theorem oX5_read : ∀ q ∈ kX5_read, zSnd zty false RX5 cX5_read 3 (some .int) false q := List.forall_mem_append.mpr ⟨oX5_read_0, oX5_read_1⟩
theorem dX5_readsSound_0 : decode cX5_readsSound 0 = .ok (.aload_n 0, 1) := by decide +kernel
theorem dX5_readsSound_1 : decode cX5_readsSound 1 = .ok (.aload_n 1, 1) := by decide +kernel
theorem dX5_readsSound_2 : decode cX5_readsSound 2 = .ok (.invokevirtual 50, 3) := by decide +kernel
theorem dX5_readsSound_5 : decode cX5_readsSound 5 = .ok (.bipush (-4), 2) := by decide +kernel
theorem dX5_readsSound_7 : decode cX5_readsSound 7 = .ok (.if_icmp .ne 27, 3) := by decide +kernel
theorem dX5_readsSound_10 : decode cX5_readsSound 10 = .ok (.aload_n 0, 1) := by decide +kernel
theorem dX5_readsSound_11 : decode cX5_readsSound 11 = .ok (.getfield 12, 3) := by decide +kernel
theorem dX5_readsSound_14 : decode cX5_readsSound 14 = .ok (.invokevirtual 54, 3) := by decide +kernel
theorem dX5_readsSound_17 : decode cX5_readsSound 17 = .ok (.bipush (-4), 2) := by decide +kernel
theorem dX5_readsSound_19 : decode cX5_readsSound 19 = .ok (.if_icmp .ne 15, 3) := by decide +kernel
theorem dX5_readsSound_22 : decode cX5_readsSound 22 = .ok (.aload_n 0, 1) := by decide +kernel
theorem dX5_readsSound_23 : decode cX5_readsSound 23 = .ok (.getfield 12, 3) := by decide +kernel
theorem dX5_readsSound_26 : decode cX5_readsSound 26 = .ok (.invokevirtual 58, 3) := by decide +kernel
theorem dX5_readsSound_29 : decode cX5_readsSound 29 = .ok (.bipush (-4), 2) := by decide +kernel
theorem dX5_readsSound_31 : decode cX5_readsSound 31 = .ok (.if_icmp .eq 5, 3) := by decide +kernel
theorem dX5_readsSound_34 : decode cX5_readsSound 34 = .ok (.iconst 0, 1) := by decide +kernel
theorem dX5_readsSound_35 : decode cX5_readsSound 35 = .ok (.ireturn, 1) := by decide +kernel
theorem dX5_readsSound_36 : decode cX5_readsSound 36 = .ok (.aload_n 0, 1) := by decide +kernel
theorem dX5_readsSound_37 : decode cX5_readsSound 37 = .ok (.getfield 12, 3) := by decide +kernel
theorem dX5_readsSound_40 : decode cX5_readsSound 40 = .ok (.invokevirtual 61, 3) := by decide +kernel
theorem dX5_readsSound_43 : decode cX5_readsSound 43 = .ok (.iconst 1, 1) := by decide +kernel
theorem dX5_readsSound_44 : decode cX5_readsSound 44 = .ok (.ireturn, 1) := by decide +kernel
def kX5_readsSound_0 : List (Nat × zT) := [(0, a_aload 0 1), (1, a_aload 1 2), (2, a_callV 5 43 2 5 0 0), (5, a_i (-4) 7), (7, a_ic_ne 34 10), (10, a_aload 0 11), (11, a_getR 5 0 14), (14, a_callV 10 85 1 17 0 0), (17, a_i (-4) 19), (19, a_ic_ne 34 22), (22, a_aload 0 23), (23, a_getR 5 0 26), (26, a_callV 10 86 1 29 0 0), (29, a_i (-4) 31), (31, a_ic_eq 36 34), (34, a_i 0 35), (35, a_iret true), (36, a_aload 0 37), (37, a_getR 5 0 40), (40, a_callV 10 87 1 43 0 0), (43, a_i 1 44), (44, a_iret true)]
theorem oX5_readsSound_0 : ∀ q ∈ kX5_readsSound_0, zSnd zty false RX5 cX5_readsSound 2 (some .boolean) false q := List.forall_mem_cons.mpr ⟨ok_aload_n dX5_readsSound_0 rfl, List.forall_mem_cons.mpr ⟨ok_aload_n dX5_readsSound_1 rfl, List.forall_mem_cons.mpr ⟨ok_callV dX5_readsSound_2 rfl rfl w408 w479 w406 w4 w407 (by decide +kernel) (by decide), List.forall_mem_cons.mpr ⟨ok_bipush dX5_readsSound_5 (by decide), List.forall_mem_cons.mpr ⟨ok_ic_ne dX5_readsSound_7 (by decide), List.forall_mem_cons.mpr ⟨ok_aload_n dX5_readsSound_10 rfl, List.forall_mem_cons.mpr ⟨ok_getR dX5_readsSound_11 rfl in5 (by decide) rfl w119, List.forall_mem_cons.mpr ⟨ok_callV dX5_readsSound_14 rfl rfl w465 w480 w463 w3 w464 (by decide +kernel) (by decide), List.forall_mem_cons.mpr ⟨ok_bipush dX5_readsSound_17 (by decide), List.forall_mem_cons.mpr ⟨ok_ic_ne dX5_readsSound_19 (by decide), List.forall_mem_cons.mpr ⟨ok_aload_n dX5_readsSound_22 rfl, List.forall_mem_cons.mpr ⟨ok_getR dX5_readsSound_23 rfl in5 (by decide) rfl w119, List.forall_mem_cons.mpr ⟨ok_callV dX5_readsSound_26 rfl rfl w469 w481 w467 w3 w468 (by decide +kernel) (by decide), List.forall_mem_cons.mpr ⟨ok_bipush dX5_readsSound_29 (by decide), List.forall_mem_cons.mpr ⟨ok_ic_eq dX5_readsSound_31 (by decide), List.forall_mem_cons.mpr ⟨ok_iconst dX5_readsSound_34 (by decide), List.forall_mem_cons.mpr ⟨ok_iret (bz := true) dX5_readsSound_35 rfl, List.forall_mem_cons.mpr ⟨ok_aload_n dX5_readsSound_36 rfl, List.forall_mem_cons.mpr ⟨ok_getR dX5_readsSound_37 rfl in5 (by decide) rfl w119, List.forall_mem_cons.mpr ⟨ok_callV dX5_readsSound_40 rfl rfl w485 w482 w483 w3 w484 (by decide +kernel) (by decide), List.forall_mem_cons.mpr ⟨ok_iconst dX5_readsSound_43 (by decide), List.forall_mem_cons.mpr ⟨ok_iret (bz := true) dX5_readsSound_44 rfl, fun _ h => absurd h List.not_mem_nil⟩⟩⟩⟩⟩⟩⟩⟩⟩⟩⟩⟩⟩⟩⟩⟩⟩⟩⟩⟩⟩⟩
def kX5_readsSound : List (Nat × zT) := kX5_readsSound_0
theorem qX5_readsSound_0 : ∀ q ∈ kX5_readsSound_0, q ∈ kX5_readsSound := fun _ h => h
theorem tX5_readsSound_0 : (0, a_aload 0 1) ∈ kX5_readsSound := qX5_readsSound_0 _ (List.mem_of_getElem? (i := 0) rfl)
theorem tX5_readsSound_1 : (1, a_aload 1 2) ∈ kX5_readsSound := qX5_readsSound_0 _ (List.mem_of_getElem? (i := 1) rfl)
theorem tX5_readsSound_2 : (2, a_callV 5 43 2 5 0 0) ∈ kX5_readsSound := qX5_readsSound_0 _ (List.mem_of_getElem? (i := 2) rfl)
theorem tX5_readsSound_5 : (5, a_i (-4) 7) ∈ kX5_readsSound := qX5_readsSound_0 _ (List.mem_of_getElem? (i := 3) rfl)
theorem tX5_readsSound_7 : (7, a_ic_ne 34 10) ∈ kX5_readsSound := qX5_readsSound_0 _ (List.mem_of_getElem? (i := 4) rfl)
theorem tX5_readsSound_10 : (10, a_aload 0 11) ∈ kX5_readsSound := qX5_readsSound_0 _ (List.mem_of_getElem? (i := 5) rfl)
theorem tX5_readsSound_11 : (11, a_getR 5 0 14) ∈ kX5_readsSound := qX5_readsSound_0 _ (List.mem_of_getElem? (i := 6) rfl)
theorem tX5_readsSound_14 : (14, a_callV 10 85 1 17 0 0) ∈ kX5_readsSound := qX5_readsSound_0 _ (List.mem_of_getElem? (i := 7) rfl)
theorem tX5_readsSound_17 : (17, a_i (-4) 19) ∈ kX5_readsSound := qX5_readsSound_0 _ (List.mem_of_getElem? (i := 8) rfl)
theorem tX5_readsSound_19 : (19, a_ic_ne 34 22) ∈ kX5_readsSound := qX5_readsSound_0 _ (List.mem_of_getElem? (i := 9) rfl)
theorem tX5_readsSound_22 : (22, a_aload 0 23) ∈ kX5_readsSound := qX5_readsSound_0 _ (List.mem_of_getElem? (i := 10) rfl)
theorem tX5_readsSound_23 : (23, a_getR 5 0 26) ∈ kX5_readsSound := qX5_readsSound_0 _ (List.mem_of_getElem? (i := 11) rfl)
theorem tX5_readsSound_26 : (26, a_callV 10 86 1 29 0 0) ∈ kX5_readsSound := qX5_readsSound_0 _ (List.mem_of_getElem? (i := 12) rfl)
theorem tX5_readsSound_29 : (29, a_i (-4) 31) ∈ kX5_readsSound := qX5_readsSound_0 _ (List.mem_of_getElem? (i := 13) rfl)
theorem tX5_readsSound_31 : (31, a_ic_eq 36 34) ∈ kX5_readsSound := qX5_readsSound_0 _ (List.mem_of_getElem? (i := 14) rfl)
theorem tX5_readsSound_34 : (34, a_i 0 35) ∈ kX5_readsSound := qX5_readsSound_0 _ (List.mem_of_getElem? (i := 15) rfl)
theorem tX5_readsSound_35 : (35, a_iret true) ∈ kX5_readsSound := qX5_readsSound_0 _ (List.mem_of_getElem? (i := 16) rfl)
theorem tX5_readsSound_36 : (36, a_aload 0 37) ∈ kX5_readsSound := qX5_readsSound_0 _ (List.mem_of_getElem? (i := 17) rfl)
theorem tX5_readsSound_37 : (37, a_getR 5 0 40) ∈ kX5_readsSound := qX5_readsSound_0 _ (List.mem_of_getElem? (i := 18) rfl)
theorem tX5_readsSound_40 : (40, a_callV 10 87 1 43 0 0) ∈ kX5_readsSound := qX5_readsSound_0 _ (List.mem_of_getElem? (i := 19) rfl)
theorem tX5_readsSound_43 : (43, a_i 1 44) ∈ kX5_readsSound := qX5_readsSound_0 _ (List.mem_of_getElem? (i := 20) rfl)
theorem tX5_readsSound_44 : (44, a_iret true) ∈ kX5_readsSound := qX5_readsSound_0 _ (List.mem_of_getElem? (i := 21) rfl)
theorem oX5_readsSound : ∀ q ∈ kX5_readsSound, zSnd zty false RX5 cX5_readsSound 2 (some .boolean) false q := oX5_readsSound_0
theorem dX5_takes_0 : decode cX5_takes 0 = .ok (.aload_n 0, 1) := by decide +kernel
theorem dX5_takes_1 : decode cX5_takes 1 = .ok (.getfield 18, 3) := by decide +kernel
theorem dX5_takes_4 : decode cX5_takes 4 = .ok (.ifCond .ne 12, 3) := by decide +kernel
theorem dX5_takes_7 : decode cX5_takes 7 = .ok (.aload_n 0, 1) := by decide +kernel
theorem dX5_takes_8 : decode cX5_takes 8 = .ok (.iload_n 1, 1) := by decide +kernel
theorem dX5_takes_9 : decode cX5_takes 9 = .ok (.bipush 97, 2) := by decide +kernel
theorem dX5_takes_11 : decode cX5_takes 11 = .ok (.isub, 1) := by decide +kernel
theorem dX5_takes_12 : decode cX5_takes 12 = .ok (.invokevirtual 64, 3) := by decide +kernel
theorem dX5_takes_15 : decode cX5_takes 15 = .ok (.ireturn, 1) := by decide +kernel
theorem dX5_takes_16 : decode cX5_takes 16 = .ok (.aload_n 0, 1) := by decide +kernel
theorem dX5_takes_17 : decode cX5_takes 17 = .ok (.getfield 18, 3) := by decide +kernel
theorem dX5_takes_20 : decode cX5_takes 20 = .ok (.iconst 1, 1) := by decide +kernel
theorem dX5_takes_21 : decode cX5_takes 21 = .ok (.if_icmp .ne 20, 3) := by decide +kernel
theorem dX5_takes_24 : decode cX5_takes 24 = .ok (.aload_n 0, 1) := by decide +kernel
theorem dX5_takes_25 : decode cX5_takes 25 = .ok (.iconst 2, 1) := by decide +kernel
theorem dX5_takes_26 : decode cX5_takes 26 = .ok (.putfield 18, 3) := by decide +kernel
theorem dX5_takes_29 : decode cX5_takes 29 = .ok (.iload_n 1, 1) := by decide +kernel
theorem dX5_takes_30 : decode cX5_takes 30 = .ok (.bipush 61, 2) := by decide +kernel
theorem dX5_takes_32 : decode cX5_takes 32 = .ok (.if_icmp .ne 7, 3) := by decide +kernel
theorem dX5_takes_35 : decode cX5_takes 35 = .ok (.iconst 1, 1) := by decide +kernel
theorem dX5_takes_36 : decode cX5_takes 36 = .ok (.goto 4, 3) := by decide +kernel
theorem dX5_takes_39 : decode cX5_takes 39 = .ok (.iconst 0, 1) := by decide +kernel
theorem dX5_takes_40 : decode cX5_takes 40 = .ok (.ireturn, 1) := by decide +kernel
theorem dX5_takes_41 : decode cX5_takes 41 = .ok (.iload_n 1, 1) := by decide +kernel
theorem dX5_takes_42 : decode cX5_takes 42 = .ok (.bipush 59, 2) := by decide +kernel
theorem dX5_takes_44 : decode cX5_takes 44 = .ok (.if_icmp .ne 10, 3) := by decide +kernel
theorem dX5_takes_47 : decode cX5_takes 47 = .ok (.aload_n 0, 1) := by decide +kernel
theorem dX5_takes_48 : decode cX5_takes 48 = .ok (.invokevirtual 67, 3) := by decide +kernel
theorem dX5_takes_51 : decode cX5_takes 51 = .ok (.goto 11, 3) := by decide +kernel
theorem dX5_takes_54 : decode cX5_takes 54 = .ok (.aload_n 0, 1) := by decide +kernel
theorem dX5_takes_55 : decode cX5_takes 55 = .ok (.iload_n 1, 1) := by decide +kernel
theorem dX5_takes_56 : decode cX5_takes 56 = .ok (.invokestatic 71, 3) := by decide +kernel
theorem dX5_takes_59 : decode cX5_takes 59 = .ok (.invokevirtual 75, 3) := by decide +kernel
theorem dX5_takes_62 : decode cX5_takes 62 = .ok (.ireturn, 1) := by decide +kernel
def kX5_takes_0 : List (Nat × zT) := [(0, a_aload 0 1), (1, a_getI 5 1 4), (4, a_if_ne 16 7), (7, a_aload 0 8), (8, a_iload 1 9), (9, a_i 97 11), (11, a_ii (fun x y => x - y) 12), (12, a_callV 5 46 2 15 0 0), (15, a_iret true), (16, a_aload 0 17), (17, a_getI 5 1 20), (20, a_i 1 21), (21, a_ic_ne 41 24), (24, a_aload 0 25), (25, a_i 2 26), (26, a_putI 5 1 29 false), (29, a_iload 1 30), (30, a_i 61 32), (32, a_ic_ne 39 35), (35, a_i 1 36), (36, a_goto 40), (39, a_i 0 40), (40, a_iret true), (41, a_iload 1 42)]
theorem oX5_takes_0 : ∀ q ∈ kX5_takes_0, zSnd zty false RX5 cX5_takes 2 (some .boolean) false q := List.forall_mem_cons.mpr ⟨ok_aload_n dX5_takes_0 rfl, List.forall_mem_cons.mpr ⟨ok_getI dX5_takes_1 rfl in5 (by decide) rfl w121, List.forall_mem_cons.mpr ⟨ok_if_ne dX5_takes_4 (by decide), List.forall_mem_cons.mpr ⟨ok_aload_n dX5_takes_7 rfl, List.forall_mem_cons.mpr ⟨ok_iload_n dX5_takes_8 rfl, List.forall_mem_cons.mpr ⟨ok_bipush dX5_takes_9 (by decide), List.forall_mem_cons.mpr ⟨ok_isub dX5_takes_11, List.forall_mem_cons.mpr ⟨ok_callV dX5_takes_12 rfl rfl w423 w420 w422 w4 s1 (by decide +kernel) (by decide), List.forall_mem_cons.mpr ⟨ok_iret (bz := true) dX5_takes_15 rfl, List.forall_mem_cons.mpr ⟨ok_aload_n dX5_takes_16 rfl, List.forall_mem_cons.mpr ⟨ok_getI dX5_takes_17 rfl in5 (by decide) rfl w121, List.forall_mem_cons.mpr ⟨ok_iconst dX5_takes_20 (by decide), List.forall_mem_cons.mpr ⟨ok_ic_ne dX5_takes_21 (by decide), List.forall_mem_cons.mpr ⟨ok_aload_n dX5_takes_24 rfl, List.forall_mem_cons.mpr ⟨ok_iconst dX5_takes_25 (by decide), List.forall_mem_cons.mpr ⟨ok_putI (bz := false) dX5_takes_26 rfl in5 tyX5 tyX5_ok nmX5 (by decide) rfl w121 rfl rfl, List.forall_mem_cons.mpr ⟨ok_iload_n dX5_takes_29 rfl, List.forall_mem_cons.mpr ⟨ok_bipush dX5_takes_30 (by decide), List.forall_mem_cons.mpr ⟨ok_ic_ne dX5_takes_32 (by decide), List.forall_mem_cons.mpr ⟨ok_iconst dX5_takes_35 (by decide), List.forall_mem_cons.mpr ⟨ok_goto dX5_takes_36 (by decide), List.forall_mem_cons.mpr ⟨ok_iconst dX5_takes_39 (by decide), List.forall_mem_cons.mpr ⟨ok_iret (bz := true) dX5_takes_40 rfl, List.forall_mem_cons.mpr ⟨ok_iload_n dX5_takes_41 rfl, fun _ h => absurd h List.not_mem_nil⟩⟩⟩⟩⟩⟩⟩⟩⟩⟩⟩⟩⟩⟩⟩⟩⟩⟩⟩⟩⟩⟩⟩⟩
def kX5_takes_1 : List (Nat × zT) := [(42, a_i 59 44), (44, a_ic_ne 54 47), (47, a_aload 0 48), (48, a_callV 5 47 1 51 0 0), (51, a_goto 62), (54, a_aload 0 55), (55, a_iload 1 56), (56, a_call 50 1 59 0 0), (59, a_callV 5 48 2 62 0 0), (62, a_iret true)]
theorem oX5_takes_1 : ∀ q ∈ kX5_takes_1, zSnd zty false RX5 cX5_takes 2 (some .boolean) false q := List.forall_mem_cons.mpr ⟨ok_bipush dX5_takes_42 (by decide), List.forall_mem_cons.mpr ⟨ok_ic_ne dX5_takes_44 (by decide), List.forall_mem_cons.mpr ⟨ok_aload_n dX5_takes_47 rfl, List.forall_mem_cons.mpr ⟨ok_callV dX5_takes_48 rfl rfl w437 w434 w436 w4 s2 (by decide +kernel) (by decide), List.forall_mem_cons.mpr ⟨ok_goto dX5_takes_51 (by decide), List.forall_mem_cons.mpr ⟨ok_aload_n dX5_takes_54 rfl, List.forall_mem_cons.mpr ⟨ok_iload_n dX5_takes_55 rfl, List.forall_mem_cons.mpr ⟨ok_callS dX5_takes_56 rfl w440 w438 w439 w4 (by decide +kernel) (by decide), List.forall_mem_cons.mpr ⟨ok_callV dX5_takes_59 rfl rfl w447 w444 w446 w4 s3 (by decide +kernel) (by decide), List.forall_mem_cons.mpr ⟨ok_iret (bz := true) dX5_takes_62 rfl, fun _ h => absurd h List.not_mem_nil⟩⟩⟩⟩⟩⟩⟩⟩⟩⟩
def kX5_takes : List (Nat × zT) := kX5_takes_0 ++ (kX5_takes_1)
theorem qX5_takes_0 : ∀ q ∈ kX5_takes_0, q ∈ kX5_takes := fun _ h => (List.mem_append_left _ h)
theorem tX5_takes_0 : (0, a_aload 0 1) ∈ kX5_takes := qX5_takes_0 _ (List.mem_of_getElem? (i := 0) rfl)
theorem tX5_takes_1 : (1, a_getI 5 1 4) ∈ kX5_takes := qX5_takes_0 _ (List.mem_of_getElem? (i := 1) rfl)
theorem tX5_takes_4 : (4, a_if_ne 16 7) ∈ kX5_takes := qX5_takes_0 _ (List.mem_of_getElem? (i := 2) rfl)
theorem tX5_takes_7 : (7, a_aload 0 8) ∈ kX5_takes := qX5_takes_0 _ (List.mem_of_getElem? (i := 3) rfl)
theorem tX5_takes_8 : (8, a_iload 1 9) ∈ kX5_takes := qX5_takes_0 _ (List.mem_of_getElem? (i := 4) rfl)
theorem tX5_takes_9 : (9, a_i 97 11) ∈ kX5_takes := qX5_takes_0 _ (List.mem_of_getElem? (i := 5) rfl)
theorem tX5_takes_11 : (11, a_ii (fun x y => x - y) 12) ∈ kX5_takes := qX5_takes_0 _ (List.mem_of_getElem? (i := 6) rfl)
theorem tX5_takes_12 : (12, a_callV 5 46 2 15 0 0) ∈ kX5_takes := qX5_takes_0 _ (List.mem_of_getElem? (i := 7) rfl)
theorem tX5_takes_15 : (15, a_iret true) ∈ kX5_takes := qX5_takes_0 _ (List.mem_of_getElem? (i := 8) rfl)
theorem tX5_takes_16 : (16, a_aload 0 17) ∈ kX5_takes := qX5_takes_0 _ (List.mem_of_getElem? (i := 9) rfl)
theorem tX5_takes_17 : (17, a_getI 5 1 20) ∈ kX5_takes := qX5_takes_0 _ (List.mem_of_getElem? (i := 10) rfl)
theorem tX5_takes_20 : (20, a_i 1 21) ∈ kX5_takes := qX5_takes_0 _ (List.mem_of_getElem? (i := 11) rfl)
theorem tX5_takes_21 : (21, a_ic_ne 41 24) ∈ kX5_takes := qX5_takes_0 _ (List.mem_of_getElem? (i := 12) rfl)
theorem tX5_takes_24 : (24, a_aload 0 25) ∈ kX5_takes := qX5_takes_0 _ (List.mem_of_getElem? (i := 13) rfl)
theorem tX5_takes_25 : (25, a_i 2 26) ∈ kX5_takes := qX5_takes_0 _ (List.mem_of_getElem? (i := 14) rfl)
theorem tX5_takes_26 : (26, a_putI 5 1 29 false) ∈ kX5_takes := qX5_takes_0 _ (List.mem_of_getElem? (i := 15) rfl)
theorem tX5_takes_29 : (29, a_iload 1 30) ∈ kX5_takes := qX5_takes_0 _ (List.mem_of_getElem? (i := 16) rfl)
theorem tX5_takes_30 : (30, a_i 61 32) ∈ kX5_takes := qX5_takes_0 _ (List.mem_of_getElem? (i := 17) rfl)
theorem tX5_takes_32 : (32, a_ic_ne 39 35) ∈ kX5_takes := qX5_takes_0 _ (List.mem_of_getElem? (i := 18) rfl)
theorem tX5_takes_35 : (35, a_i 1 36) ∈ kX5_takes := qX5_takes_0 _ (List.mem_of_getElem? (i := 19) rfl)
theorem tX5_takes_36 : (36, a_goto 40) ∈ kX5_takes := qX5_takes_0 _ (List.mem_of_getElem? (i := 20) rfl)
theorem tX5_takes_39 : (39, a_i 0 40) ∈ kX5_takes := qX5_takes_0 _ (List.mem_of_getElem? (i := 21) rfl)
theorem tX5_takes_40 : (40, a_iret true) ∈ kX5_takes := qX5_takes_0 _ (List.mem_of_getElem? (i := 22) rfl)
theorem tX5_takes_41 : (41, a_iload 1 42) ∈ kX5_takes := qX5_takes_0 _ (List.mem_of_getElem? (i := 23) rfl)
theorem qX5_takes_1 : ∀ q ∈ kX5_takes_1, q ∈ kX5_takes := fun _ h => (List.mem_append_right _ h)
theorem tX5_takes_42 : (42, a_i 59 44) ∈ kX5_takes := qX5_takes_1 _ (List.mem_of_getElem? (i := 0) rfl)
theorem tX5_takes_44 : (44, a_ic_ne 54 47) ∈ kX5_takes := qX5_takes_1 _ (List.mem_of_getElem? (i := 1) rfl)
theorem tX5_takes_47 : (47, a_aload 0 48) ∈ kX5_takes := qX5_takes_1 _ (List.mem_of_getElem? (i := 2) rfl)
theorem tX5_takes_48 : (48, a_callV 5 47 1 51 0 0) ∈ kX5_takes := qX5_takes_1 _ (List.mem_of_getElem? (i := 3) rfl)
theorem tX5_takes_51 : (51, a_goto 62) ∈ kX5_takes := qX5_takes_1 _ (List.mem_of_getElem? (i := 4) rfl)
theorem tX5_takes_54 : (54, a_aload 0 55) ∈ kX5_takes := qX5_takes_1 _ (List.mem_of_getElem? (i := 5) rfl)
theorem tX5_takes_55 : (55, a_iload 1 56) ∈ kX5_takes := qX5_takes_1 _ (List.mem_of_getElem? (i := 6) rfl)
theorem tX5_takes_56 : (56, a_call 50 1 59 0 0) ∈ kX5_takes := qX5_takes_1 _ (List.mem_of_getElem? (i := 7) rfl)
theorem tX5_takes_59 : (59, a_callV 5 48 2 62 0 0) ∈ kX5_takes := qX5_takes_1 _ (List.mem_of_getElem? (i := 8) rfl)
theorem tX5_takes_62 : (62, a_iret true) ∈ kX5_takes := qX5_takes_1 _ (List.mem_of_getElem? (i := 9) rfl)
theorem oX5_takes : ∀ q ∈ kX5_takes, zSnd zty false RX5 cX5_takes 2 (some .boolean) false q := List.forall_mem_append.mpr ⟨oX5_takes_0, oX5_takes_1⟩
theorem dX5_takesLetter_0 : decode cX5_takesLetter 0 = .ok (.iload_n 1, 1) := by decide +kernel
theorem dX5_takesLetter_1 : decode cX5_takesLetter 1 = .ok (.invokestatic 78, 3) := by decide +kernel
theorem dX5_takesLetter_4 : decode cX5_takesLetter 4 = .ok (.ifCond .eq 14, 3) := by decide +kernel
theorem dX5_takesLetter_7 : decode cX5_takesLetter 7 = .ok (.aload_n 0, 1) := by decide +kernel
theorem dX5_takesLetter_8 : decode cX5_takesLetter 8 = .ok (.getfield 12, 3) := by decide +kernel
theorem dX5_takesLetter_11 : decode cX5_takesLetter 11 = .ok (.iload_n 1, 1) := by decide +kernel
theorem dX5_takesLetter_12 : decode cX5_takesLetter 12 = .ok (.invokevirtual 81, 3) := by decide +kernel
theorem dX5_takesLetter_15 : decode cX5_takesLetter 15 = .ok (.ifCond .eq 5, 3) := by decide +kernel
theorem dX5_takesLetter_18 : decode cX5_takesLetter 18 = .ok (.iconst 0, 1) := by decide +kernel
theorem dX5_takesLetter_19 : decode cX5_takesLetter 19 = .ok (.ireturn, 1) := by decide +kernel
theorem dX5_takesLetter_20 : decode cX5_takesLetter 20 = .ok (.aload_n 0, 1) := by decide +kernel
theorem dX5_takesLetter_21 : decode cX5_takesLetter 21 = .ok (.iload_n 1, 1) := by decide +kernel
theorem dX5_takesLetter_22 : decode cX5_takesLetter 22 = .ok (.putfield 22, 3) := by decide +kernel
theorem dX5_takesLetter_25 : decode cX5_takesLetter 25 = .ok (.aload_n 0, 1) := by decide +kernel
theorem dX5_takesLetter_26 : decode cX5_takesLetter 26 = .ok (.getfield 12, 3) := by decide +kernel
theorem dX5_takesLetter_29 : decode cX5_takesLetter 29 = .ok (.dup, 1) := by decide +kernel
theorem dX5_takesLetter_30 : decode cX5_takesLetter 30 = .ok (.getfield 84, 3) := by decide +kernel
theorem dX5_takesLetter_33 : decode cX5_takesLetter 33 = .ok (.iconst 1, 1) := by decide +kernel
theorem dX5_takesLetter_34 : decode cX5_takesLetter 34 = .ok (.aload_n 0, 1) := by decide +kernel
theorem dX5_takesLetter_35 : decode cX5_takesLetter 35 = .ok (.getfield 22, 3) := by decide +kernel
theorem dX5_takesLetter_38 : decode cX5_takesLetter 38 = .ok (.ishl, 1) := by decide +kernel
theorem dX5_takesLetter_39 : decode cX5_takesLetter 39 = .ok (.ior, 1) := by decide +kernel
theorem dX5_takesLetter_40 : decode cX5_takesLetter 40 = .ok (.putfield 84, 3) := by decide +kernel
theorem dX5_takesLetter_43 : decode cX5_takesLetter 43 = .ok (.aload_n 0, 1) := by decide +kernel
theorem dX5_takesLetter_44 : decode cX5_takesLetter 44 = .ok (.getfield 12, 3) := by decide +kernel
theorem dX5_takesLetter_47 : decode cX5_takesLetter 47 = .ok (.getfield 87, 3) := by decide +kernel
theorem dX5_takesLetter_50 : decode cX5_takesLetter 50 = .ok (.aload_n 0, 1) := by decide +kernel
theorem dX5_takesLetter_51 : decode cX5_takesLetter 51 = .ok (.getfield 22, 3) := by decide +kernel
theorem dX5_takesLetter_54 : decode cX5_takesLetter 54 = .ok (.aload_n 0, 1) := by decide +kernel
theorem dX5_takesLetter_55 : decode cX5_takesLetter 55 = .ok (.getfield 25, 3) := by decide +kernel
theorem dX5_takesLetter_58 : decode cX5_takesLetter 58 = .ok (.iastore, 1) := by decide +kernel
theorem dX5_takesLetter_59 : decode cX5_takesLetter 59 = .ok (.aload_n 0, 1) := by decide +kernel
theorem dX5_takesLetter_60 : decode cX5_takesLetter 60 = .ok (.iconst 0, 1) := by decide +kernel
theorem dX5_takesLetter_61 : decode cX5_takesLetter 61 = .ok (.putfield 28, 3) := by decide +kernel
theorem dX5_takesLetter_64 : decode cX5_takesLetter 64 = .ok (.aload_n 0, 1) := by decide +kernel
theorem dX5_takesLetter_65 : decode cX5_takesLetter 65 = .ok (.iconst 1, 1) := by decide +kernel
theorem dX5_takesLetter_66 : decode cX5_takesLetter 66 = .ok (.putfield 18, 3) := by decide +kernel
theorem dX5_takesLetter_69 : decode cX5_takesLetter 69 = .ok (.iconst 1, 1) := by decide +kernel
theorem dX5_takesLetter_70 : decode cX5_takesLetter 70 = .ok (.ireturn, 1) := by decide +kernel
def kX5_takesLetter_0 : List (Nat × zT) := [(0, a_iload 1 1), (1, a_call 130 1 4 0 0), (4, a_if_eq 18 7), (7, a_aload 0 8), (8, a_getR 5 0 11), (11, a_iload 1 12), (12, a_callV 10 81 2 15 0 0), (15, a_if_eq 20 18), (18, a_i 0 19), (19, a_iret true), (20, a_aload 0 21), (21, a_iload 1 22), (22, a_putI 5 2 25 false), (25, a_aload 0 26), (26, a_getR 5 0 29), (29, a_dup 30), (30, a_getI 10 6 33), (33, a_i 1 34), (34, a_aload 0 35), (35, a_getI 5 2 38), (38, a_ii (fun x y => x <<< (y &&& 31)) 39), (39, a_ii (fun x y => x ||| y) 40), (40, a_putI 10 6 43 false), (43, a_aload 0 44)]
theorem oX5_takesLetter_0 : ∀ q ∈ kX5_takesLetter_0, zSnd zty false RX5 cX5_takesLetter 2 (some .boolean) false q := List.forall_mem_cons.mpr ⟨ok_iload_n dX5_takesLetter_0 rfl, List.forall_mem_cons.mpr ⟨ok_callSN dX5_takesLetter_1 rfl w426 n424 w425 w1 (by decide +kernel) (by decide), List.forall_mem_cons.mpr ⟨ok_if_eq dX5_takesLetter_4 (by decide), List.forall_mem_cons.mpr ⟨ok_aload_n dX5_takesLetter_7 rfl, List.forall_mem_cons.mpr ⟨ok_getR dX5_takesLetter_8 rfl in5 (by decide) rfl w119, List.forall_mem_cons.mpr ⟨ok_iload_n dX5_takesLetter_11 rfl, List.forall_mem_cons.mpr ⟨ok_callV dX5_takesLetter_12 rfl rfl w430 w427 w428 w3 w429 (by decide +kernel) (by decide), List.forall_mem_cons.mpr ⟨ok_if_eq dX5_takesLetter_15 (by decide), List.forall_mem_cons.mpr ⟨ok_iconst dX5_takesLetter_18 (by decide), List.forall_mem_cons.mpr ⟨ok_iret (bz := true) dX5_takesLetter_19 rfl, List.forall_mem_cons.mpr ⟨ok_aload_n dX5_takesLetter_20 rfl, List.forall_mem_cons.mpr ⟨ok_iload_n dX5_takesLetter_21 rfl, List.forall_mem_cons.mpr ⟨ok_putI (bz := false) dX5_takesLetter_22 rfl in5 tyX5 tyX5_ok nmX5 (by decide) rfl w122 rfl rfl, List.forall_mem_cons.mpr ⟨ok_aload_n dX5_takesLetter_25 rfl, List.forall_mem_cons.mpr ⟨ok_getR dX5_takesLetter_26 rfl in5 (by decide) rfl w119, List.forall_mem_cons.mpr ⟨ok_dup dX5_takesLetter_29, List.forall_mem_cons.mpr ⟨ok_getI dX5_takesLetter_30 rfl in10 (by decide) rfl w86, List.forall_mem_cons.mpr ⟨ok_iconst dX5_takesLetter_33 (by decide), List.forall_mem_cons.mpr ⟨ok_aload_n dX5_takesLetter_34 rfl, List.forall_mem_cons.mpr ⟨ok_getI dX5_takesLetter_35 rfl in5 (by decide) rfl w122, List.forall_mem_cons.mpr ⟨ok_ishl dX5_takesLetter_38, List.forall_mem_cons.mpr ⟨ok_ior dX5_takesLetter_39, List.forall_mem_cons.mpr ⟨ok_putI (bz := false) dX5_takesLetter_40 rfl in10 tyX10 tyX10_ok nmX10 (by decide) rfl w86 rfl rfl, List.forall_mem_cons.mpr ⟨ok_aload_n dX5_takesLetter_43 rfl, fun _ h => absurd h List.not_mem_nil⟩⟩⟩⟩⟩⟩⟩⟩⟩⟩⟩⟩⟩⟩⟩⟩⟩⟩⟩⟩⟩⟩⟩⟩
def kX5_takesLetter_1 : List (Nat × zT) := [(44, a_getR 5 0 47), (47, a_getR 10 1 50), (50, a_aload 0 51), (51, a_getI 5 2 54), (54, a_aload 0 55), (55, a_getI 5 3 58), (58, a_iast 59), (59, a_aload 0 60), (60, a_i 0 61), (61, a_putI 5 4 64 false), (64, a_aload 0 65), (65, a_i 1 66), (66, a_putI 5 1 69 false), (69, a_i 1 70), (70, a_iret true)]
theorem oX5_takesLetter_1 : ∀ q ∈ kX5_takesLetter_1, zSnd zty false RX5 cX5_takesLetter 2 (some .boolean) false q := List.forall_mem_cons.mpr ⟨ok_getR dX5_takesLetter_44 rfl in5 (by decide) rfl w119, List.forall_mem_cons.mpr ⟨ok_getR dX5_takesLetter_47 rfl in10 (by decide) rfl w62, List.forall_mem_cons.mpr ⟨ok_aload_n dX5_takesLetter_50 rfl, List.forall_mem_cons.mpr ⟨ok_getI dX5_takesLetter_51 rfl in5 (by decide) rfl w122, List.forall_mem_cons.mpr ⟨ok_aload_n dX5_takesLetter_54 rfl, List.forall_mem_cons.mpr ⟨ok_getI dX5_takesLetter_55 rfl in5 (by decide) rfl w123, List.forall_mem_cons.mpr ⟨ok_iast dX5_takesLetter_58, List.forall_mem_cons.mpr ⟨ok_aload_n dX5_takesLetter_59 rfl, List.forall_mem_cons.mpr ⟨ok_iconst dX5_takesLetter_60 (by decide), List.forall_mem_cons.mpr ⟨ok_putI (bz := false) dX5_takesLetter_61 rfl in5 tyX5 tyX5_ok nmX5 (by decide) rfl w124 rfl rfl, List.forall_mem_cons.mpr ⟨ok_aload_n dX5_takesLetter_64 rfl, List.forall_mem_cons.mpr ⟨ok_iconst dX5_takesLetter_65 (by decide), List.forall_mem_cons.mpr ⟨ok_putI (bz := false) dX5_takesLetter_66 rfl in5 tyX5 tyX5_ok nmX5 (by decide) rfl w121 rfl rfl, List.forall_mem_cons.mpr ⟨ok_iconst dX5_takesLetter_69 (by decide), List.forall_mem_cons.mpr ⟨ok_iret (bz := true) dX5_takesLetter_70 rfl, fun _ h => absurd h List.not_mem_nil⟩⟩⟩⟩⟩⟩⟩⟩⟩⟩⟩⟩⟩⟩⟩
def kX5_takesLetter : List (Nat × zT) := kX5_takesLetter_0 ++ (kX5_takesLetter_1)
theorem qX5_takesLetter_0 : ∀ q ∈ kX5_takesLetter_0, q ∈ kX5_takesLetter := fun _ h => (List.mem_append_left _ h)
theorem tX5_takesLetter_0 : (0, a_iload 1 1) ∈ kX5_takesLetter := qX5_takesLetter_0 _ (List.mem_of_getElem? (i := 0) rfl)
theorem tX5_takesLetter_1 : (1, a_call 130 1 4 0 0) ∈ kX5_takesLetter := qX5_takesLetter_0 _ (List.mem_of_getElem? (i := 1) rfl)
theorem tX5_takesLetter_4 : (4, a_if_eq 18 7) ∈ kX5_takesLetter := qX5_takesLetter_0 _ (List.mem_of_getElem? (i := 2) rfl)
theorem tX5_takesLetter_7 : (7, a_aload 0 8) ∈ kX5_takesLetter := qX5_takesLetter_0 _ (List.mem_of_getElem? (i := 3) rfl)
theorem tX5_takesLetter_8 : (8, a_getR 5 0 11) ∈ kX5_takesLetter := qX5_takesLetter_0 _ (List.mem_of_getElem? (i := 4) rfl)
theorem tX5_takesLetter_11 : (11, a_iload 1 12) ∈ kX5_takesLetter := qX5_takesLetter_0 _ (List.mem_of_getElem? (i := 5) rfl)
theorem tX5_takesLetter_12 : (12, a_callV 10 81 2 15 0 0) ∈ kX5_takesLetter := qX5_takesLetter_0 _ (List.mem_of_getElem? (i := 6) rfl)
theorem tX5_takesLetter_15 : (15, a_if_eq 20 18) ∈ kX5_takesLetter := qX5_takesLetter_0 _ (List.mem_of_getElem? (i := 7) rfl)
theorem tX5_takesLetter_18 : (18, a_i 0 19) ∈ kX5_takesLetter := qX5_takesLetter_0 _ (List.mem_of_getElem? (i := 8) rfl)
theorem tX5_takesLetter_19 : (19, a_iret true) ∈ kX5_takesLetter := qX5_takesLetter_0 _ (List.mem_of_getElem? (i := 9) rfl)
theorem tX5_takesLetter_20 : (20, a_aload 0 21) ∈ kX5_takesLetter := qX5_takesLetter_0 _ (List.mem_of_getElem? (i := 10) rfl)
theorem tX5_takesLetter_21 : (21, a_iload 1 22) ∈ kX5_takesLetter := qX5_takesLetter_0 _ (List.mem_of_getElem? (i := 11) rfl)
theorem tX5_takesLetter_22 : (22, a_putI 5 2 25 false) ∈ kX5_takesLetter := qX5_takesLetter_0 _ (List.mem_of_getElem? (i := 12) rfl)
theorem tX5_takesLetter_25 : (25, a_aload 0 26) ∈ kX5_takesLetter := qX5_takesLetter_0 _ (List.mem_of_getElem? (i := 13) rfl)
theorem tX5_takesLetter_26 : (26, a_getR 5 0 29) ∈ kX5_takesLetter := qX5_takesLetter_0 _ (List.mem_of_getElem? (i := 14) rfl)
theorem tX5_takesLetter_29 : (29, a_dup 30) ∈ kX5_takesLetter := qX5_takesLetter_0 _ (List.mem_of_getElem? (i := 15) rfl)
theorem tX5_takesLetter_30 : (30, a_getI 10 6 33) ∈ kX5_takesLetter := qX5_takesLetter_0 _ (List.mem_of_getElem? (i := 16) rfl)
theorem tX5_takesLetter_33 : (33, a_i 1 34) ∈ kX5_takesLetter := qX5_takesLetter_0 _ (List.mem_of_getElem? (i := 17) rfl)
theorem tX5_takesLetter_34 : (34, a_aload 0 35) ∈ kX5_takesLetter := qX5_takesLetter_0 _ (List.mem_of_getElem? (i := 18) rfl)
theorem tX5_takesLetter_35 : (35, a_getI 5 2 38) ∈ kX5_takesLetter := qX5_takesLetter_0 _ (List.mem_of_getElem? (i := 19) rfl)
theorem tX5_takesLetter_38 : (38, a_ii (fun x y => x <<< (y &&& 31)) 39) ∈ kX5_takesLetter := qX5_takesLetter_0 _ (List.mem_of_getElem? (i := 20) rfl)
theorem tX5_takesLetter_39 : (39, a_ii (fun x y => x ||| y) 40) ∈ kX5_takesLetter := qX5_takesLetter_0 _ (List.mem_of_getElem? (i := 21) rfl)
theorem tX5_takesLetter_40 : (40, a_putI 10 6 43 false) ∈ kX5_takesLetter := qX5_takesLetter_0 _ (List.mem_of_getElem? (i := 22) rfl)
theorem tX5_takesLetter_43 : (43, a_aload 0 44) ∈ kX5_takesLetter := qX5_takesLetter_0 _ (List.mem_of_getElem? (i := 23) rfl)
theorem qX5_takesLetter_1 : ∀ q ∈ kX5_takesLetter_1, q ∈ kX5_takesLetter := fun _ h => (List.mem_append_right _ h)
theorem tX5_takesLetter_44 : (44, a_getR 5 0 47) ∈ kX5_takesLetter := qX5_takesLetter_1 _ (List.mem_of_getElem? (i := 0) rfl)
theorem tX5_takesLetter_47 : (47, a_getR 10 1 50) ∈ kX5_takesLetter := qX5_takesLetter_1 _ (List.mem_of_getElem? (i := 1) rfl)
theorem tX5_takesLetter_50 : (50, a_aload 0 51) ∈ kX5_takesLetter := qX5_takesLetter_1 _ (List.mem_of_getElem? (i := 2) rfl)
theorem tX5_takesLetter_51 : (51, a_getI 5 2 54) ∈ kX5_takesLetter := qX5_takesLetter_1 _ (List.mem_of_getElem? (i := 3) rfl)
theorem tX5_takesLetter_54 : (54, a_aload 0 55) ∈ kX5_takesLetter := qX5_takesLetter_1 _ (List.mem_of_getElem? (i := 4) rfl)
theorem tX5_takesLetter_55 : (55, a_getI 5 3 58) ∈ kX5_takesLetter := qX5_takesLetter_1 _ (List.mem_of_getElem? (i := 5) rfl)
theorem tX5_takesLetter_58 : (58, a_iast 59) ∈ kX5_takesLetter := qX5_takesLetter_1 _ (List.mem_of_getElem? (i := 6) rfl)
theorem tX5_takesLetter_59 : (59, a_aload 0 60) ∈ kX5_takesLetter := qX5_takesLetter_1 _ (List.mem_of_getElem? (i := 7) rfl)
theorem tX5_takesLetter_60 : (60, a_i 0 61) ∈ kX5_takesLetter := qX5_takesLetter_1 _ (List.mem_of_getElem? (i := 8) rfl)
theorem tX5_takesLetter_61 : (61, a_putI 5 4 64 false) ∈ kX5_takesLetter := qX5_takesLetter_1 _ (List.mem_of_getElem? (i := 9) rfl)
theorem tX5_takesLetter_64 : (64, a_aload 0 65) ∈ kX5_takesLetter := qX5_takesLetter_1 _ (List.mem_of_getElem? (i := 10) rfl)
theorem tX5_takesLetter_65 : (65, a_i 1 66) ∈ kX5_takesLetter := qX5_takesLetter_1 _ (List.mem_of_getElem? (i := 11) rfl)
theorem tX5_takesLetter_66 : (66, a_putI 5 1 69 false) ∈ kX5_takesLetter := qX5_takesLetter_1 _ (List.mem_of_getElem? (i := 12) rfl)
theorem tX5_takesLetter_69 : (69, a_i 1 70) ∈ kX5_takesLetter := qX5_takesLetter_1 _ (List.mem_of_getElem? (i := 13) rfl)
theorem tX5_takesLetter_70 : (70, a_iret true) ∈ kX5_takesLetter := qX5_takesLetter_1 _ (List.mem_of_getElem? (i := 14) rfl)
theorem oX5_takesLetter : ∀ q ∈ kX5_takesLetter, zSnd zty false RX5 cX5_takesLetter 2 (some .boolean) false q := List.forall_mem_append.mpr ⟨oX5_takesLetter_0, oX5_takesLetter_1⟩
theorem dX5_takesEnd_0 : decode cX5_takesEnd 0 = .ok (.aload_n 0, 1) := by decide +kernel
theorem dX5_takesEnd_1 : decode cX5_takesEnd 1 = .ok (.getfield 12, 3) := by decide +kernel
theorem dX5_takesEnd_4 : decode cX5_takesEnd 4 = .ok (.getfield 90, 3) := by decide +kernel
theorem dX5_takesEnd_7 : decode cX5_takesEnd 7 = .ok (.aload_n 0, 1) := by decide +kernel
theorem dX5_takesEnd_8 : decode cX5_takesEnd 8 = .ok (.getfield 22, 3) := by decide +kernel
theorem dX5_takesEnd_11 : decode cX5_takesEnd 11 = .ok (.aload_n 0, 1) := by decide +kernel
theorem dX5_takesEnd_12 : decode cX5_takesEnd 12 = .ok (.getfield 25, 3) := by decide +kernel
theorem dX5_takesEnd_15 : decode cX5_takesEnd 15 = .ok (.iastore, 1) := by decide +kernel
theorem dX5_takesEnd_16 : decode cX5_takesEnd 16 = .ok (.aload_n 0, 1) := by decide +kernel
theorem dX5_takesEnd_17 : decode cX5_takesEnd 17 = .ok (.iconst 0, 1) := by decide +kernel
theorem dX5_takesEnd_18 : decode cX5_takesEnd 18 = .ok (.putfield 18, 3) := by decide +kernel
theorem dX5_takesEnd_21 : decode cX5_takesEnd 21 = .ok (.aload_n 0, 1) := by decide +kernel
theorem dX5_takesEnd_22 : decode cX5_takesEnd 22 = .ok (.getfield 28, 3) := by decide +kernel
theorem dX5_takesEnd_25 : decode cX5_takesEnd 25 = .ok (.iconst 1, 1) := by decide +kernel
theorem dX5_takesEnd_26 : decode cX5_takesEnd 26 = .ok (.if_icmp .ne 7, 3) := by decide +kernel
theorem dX5_takesEnd_29 : decode cX5_takesEnd 29 = .ok (.iconst 1, 1) := by decide +kernel
theorem dX5_takesEnd_30 : decode cX5_takesEnd 30 = .ok (.goto 4, 3) := by decide +kernel
theorem dX5_takesEnd_33 : decode cX5_takesEnd 33 = .ok (.iconst 0, 1) := by decide +kernel
theorem dX5_takesEnd_34 : decode cX5_takesEnd 34 = .ok (.ireturn, 1) := by decide +kernel
def kX5_takesEnd_0 : List (Nat × zT) := [(0, a_aload 0 1), (1, a_getR 5 0 4), (4, a_getR 10 2 7), (7, a_aload 0 8), (8, a_getI 5 2 11), (11, a_aload 0 12), (12, a_getI 5 3 15), (15, a_iast 16), (16, a_aload 0 17), (17, a_i 0 18), (18, a_putI 5 1 21 false), (21, a_aload 0 22), (22, a_getI 5 4 25), (25, a_i 1 26), (26, a_ic_ne 33 29), (29, a_i 1 30), (30, a_goto 34), (33, a_i 0 34), (34, a_iret true)]
theorem oX5_takesEnd_0 : ∀ q ∈ kX5_takesEnd_0, zSnd zty false RX5 cX5_takesEnd 1 (some .boolean) false q := List.forall_mem_cons.mpr ⟨ok_aload_n dX5_takesEnd_0 rfl, List.forall_mem_cons.mpr ⟨ok_getR dX5_takesEnd_1 rfl in5 (by decide) rfl w119, List.forall_mem_cons.mpr ⟨ok_getR dX5_takesEnd_4 rfl in10 (by decide) rfl w69, List.forall_mem_cons.mpr ⟨ok_aload_n dX5_takesEnd_7 rfl, List.forall_mem_cons.mpr ⟨ok_getI dX5_takesEnd_8 rfl in5 (by decide) rfl w122, List.forall_mem_cons.mpr ⟨ok_aload_n dX5_takesEnd_11 rfl, List.forall_mem_cons.mpr ⟨ok_getI dX5_takesEnd_12 rfl in5 (by decide) rfl w123, List.forall_mem_cons.mpr ⟨ok_iast dX5_takesEnd_15, List.forall_mem_cons.mpr ⟨ok_aload_n dX5_takesEnd_16 rfl, List.forall_mem_cons.mpr ⟨ok_iconst dX5_takesEnd_17 (by decide), List.forall_mem_cons.mpr ⟨ok_putI (bz := false) dX5_takesEnd_18 rfl in5 tyX5 tyX5_ok nmX5 (by decide) rfl w121 rfl rfl, List.forall_mem_cons.mpr ⟨ok_aload_n dX5_takesEnd_21 rfl, List.forall_mem_cons.mpr ⟨ok_getI dX5_takesEnd_22 rfl in5 (by decide) rfl w124, List.forall_mem_cons.mpr ⟨ok_iconst dX5_takesEnd_25 (by decide), List.forall_mem_cons.mpr ⟨ok_ic_ne dX5_takesEnd_26 (by decide), List.forall_mem_cons.mpr ⟨ok_iconst dX5_takesEnd_29 (by decide), List.forall_mem_cons.mpr ⟨ok_goto dX5_takesEnd_30 (by decide), List.forall_mem_cons.mpr ⟨ok_iconst dX5_takesEnd_33 (by decide), List.forall_mem_cons.mpr ⟨ok_iret (bz := true) dX5_takesEnd_34 rfl, fun _ h => absurd h List.not_mem_nil⟩⟩⟩⟩⟩⟩⟩⟩⟩⟩⟩⟩⟩⟩⟩⟩⟩⟩⟩
def kX5_takesEnd : List (Nat × zT) := kX5_takesEnd_0
theorem qX5_takesEnd_0 : ∀ q ∈ kX5_takesEnd_0, q ∈ kX5_takesEnd := fun _ h => h
theorem tX5_takesEnd_0 : (0, a_aload 0 1) ∈ kX5_takesEnd := qX5_takesEnd_0 _ (List.mem_of_getElem? (i := 0) rfl)
theorem tX5_takesEnd_1 : (1, a_getR 5 0 4) ∈ kX5_takesEnd := qX5_takesEnd_0 _ (List.mem_of_getElem? (i := 1) rfl)
theorem tX5_takesEnd_4 : (4, a_getR 10 2 7) ∈ kX5_takesEnd := qX5_takesEnd_0 _ (List.mem_of_getElem? (i := 2) rfl)
theorem tX5_takesEnd_7 : (7, a_aload 0 8) ∈ kX5_takesEnd := qX5_takesEnd_0 _ (List.mem_of_getElem? (i := 3) rfl)
theorem tX5_takesEnd_8 : (8, a_getI 5 2 11) ∈ kX5_takesEnd := qX5_takesEnd_0 _ (List.mem_of_getElem? (i := 4) rfl)
theorem tX5_takesEnd_11 : (11, a_aload 0 12) ∈ kX5_takesEnd := qX5_takesEnd_0 _ (List.mem_of_getElem? (i := 5) rfl)
theorem tX5_takesEnd_12 : (12, a_getI 5 3 15) ∈ kX5_takesEnd := qX5_takesEnd_0 _ (List.mem_of_getElem? (i := 6) rfl)
theorem tX5_takesEnd_15 : (15, a_iast 16) ∈ kX5_takesEnd := qX5_takesEnd_0 _ (List.mem_of_getElem? (i := 7) rfl)
theorem tX5_takesEnd_16 : (16, a_aload 0 17) ∈ kX5_takesEnd := qX5_takesEnd_0 _ (List.mem_of_getElem? (i := 8) rfl)
theorem tX5_takesEnd_17 : (17, a_i 0 18) ∈ kX5_takesEnd := qX5_takesEnd_0 _ (List.mem_of_getElem? (i := 9) rfl)
theorem tX5_takesEnd_18 : (18, a_putI 5 1 21 false) ∈ kX5_takesEnd := qX5_takesEnd_0 _ (List.mem_of_getElem? (i := 10) rfl)
theorem tX5_takesEnd_21 : (21, a_aload 0 22) ∈ kX5_takesEnd := qX5_takesEnd_0 _ (List.mem_of_getElem? (i := 11) rfl)
theorem tX5_takesEnd_22 : (22, a_getI 5 4 25) ∈ kX5_takesEnd := qX5_takesEnd_0 _ (List.mem_of_getElem? (i := 12) rfl)
theorem tX5_takesEnd_25 : (25, a_i 1 26) ∈ kX5_takesEnd := qX5_takesEnd_0 _ (List.mem_of_getElem? (i := 13) rfl)
theorem tX5_takesEnd_26 : (26, a_ic_ne 33 29) ∈ kX5_takesEnd := qX5_takesEnd_0 _ (List.mem_of_getElem? (i := 14) rfl)
theorem tX5_takesEnd_29 : (29, a_i 1 30) ∈ kX5_takesEnd := qX5_takesEnd_0 _ (List.mem_of_getElem? (i := 15) rfl)
theorem tX5_takesEnd_30 : (30, a_goto 34) ∈ kX5_takesEnd := qX5_takesEnd_0 _ (List.mem_of_getElem? (i := 16) rfl)
theorem tX5_takesEnd_33 : (33, a_i 0 34) ∈ kX5_takesEnd := qX5_takesEnd_0 _ (List.mem_of_getElem? (i := 17) rfl)
theorem tX5_takesEnd_34 : (34, a_iret true) ∈ kX5_takesEnd := qX5_takesEnd_0 _ (List.mem_of_getElem? (i := 18) rfl)
theorem oX5_takesEnd : ∀ q ∈ kX5_takesEnd, zSnd zty false RX5 cX5_takesEnd 1 (some .boolean) false q := oX5_takesEnd_0
theorem dX5_takesToken_0 : decode cX5_takesToken 0 = .ok (.aload_n 0, 1) := by decide +kernel
theorem dX5_takesToken_1 : decode cX5_takesToken 1 = .ok (.getfield 28, 3) := by decide +kernel
theorem dX5_takesToken_4 : decode cX5_takesToken 4 = .ok (.iload_n 1, 1) := by decide +kernel
theorem dX5_takesToken_5 : decode cX5_takesToken 5 = .ok (.invokestatic 93, 3) := by decide +kernel
theorem dX5_takesToken_8 : decode cX5_takesToken 8 = .ok (.isub, 1) := by decide +kernel
theorem dX5_takesToken_9 : decode cX5_takesToken 9 = .ok (.istore_n 2, 1) := by decide +kernel
theorem dX5_takesToken_10 : decode cX5_takesToken 10 = .ok (.iload_n 1, 1) := by decide +kernel
theorem dX5_takesToken_11 : decode cX5_takesToken 11 = .ok (.bipush (-4), 2) := by decide +kernel
theorem dX5_takesToken_13 : decode cX5_takesToken 13 = .ok (.if_icmp .eq 23, 3) := by decide +kernel
theorem dX5_takesToken_16 : decode cX5_takesToken 16 = .ok (.iload_n 2, 1) := by decide +kernel
theorem dX5_takesToken_17 : decode cX5_takesToken 17 = .ok (.ifCond .lt 19, 3) := by decide +kernel
theorem dX5_takesToken_20 : decode cX5_takesToken 20 = .ok (.iload_n 2, 1) := by decide +kernel
theorem dX5_takesToken_21 : decode cX5_takesToken 21 = .ok (.bipush 10, 2) := by decide +kernel
theorem dX5_takesToken_23 : decode cX5_takesToken 23 = .ok (.if_icmp .ge 13, 3) := by decide +kernel
theorem dX5_takesToken_26 : decode cX5_takesToken 26 = .ok (.aload_n 0, 1) := by decide +kernel
theorem dX5_takesToken_27 : decode cX5_takesToken 27 = .ok (.getfield 25, 3) := by decide +kernel
theorem dX5_takesToken_30 : decode cX5_takesToken 30 = .ok (.sipush 200, 3) := by decide +kernel
theorem dX5_takesToken_33 : decode cX5_takesToken 33 = .ok (.if_icmp .lt 5, 3) := by decide +kernel
theorem dX5_takesToken_36 : decode cX5_takesToken 36 = .ok (.iconst 0, 1) := by decide +kernel
theorem dX5_takesToken_37 : decode cX5_takesToken 37 = .ok (.ireturn, 1) := by decide +kernel
theorem dX5_takesToken_38 : decode cX5_takesToken 38 = .ok (.aload_n 0, 1) := by decide +kernel
theorem dX5_takesToken_39 : decode cX5_takesToken 39 = .ok (.getfield 12, 3) := by decide +kernel
theorem dX5_takesToken_42 : decode cX5_takesToken 42 = .ok (.getfield 96, 3) := by decide +kernel
theorem dX5_takesToken_45 : decode cX5_takesToken 45 = .ok (.aload_n 0, 1) := by decide +kernel
theorem dX5_takesToken_46 : decode cX5_takesToken 46 = .ok (.getfield 25, 3) := by decide +kernel
theorem dX5_takesToken_49 : decode cX5_takesToken 49 = .ok (.iload_n 1, 1) := by decide +kernel
theorem dX5_takesToken_50 : decode cX5_takesToken 50 = .ok (.iload_n 2, 1) := by decide +kernel
theorem dX5_takesToken_51 : decode cX5_takesToken 51 = .ok (.invokestatic 99, 3) := by decide +kernel
theorem dX5_takesToken_54 : decode cX5_takesToken 54 = .ok (.iastore, 1) := by decide +kernel
theorem dX5_takesToken_55 : decode cX5_takesToken 55 = .ok (.aload_n 0, 1) := by decide +kernel
theorem dX5_takesToken_56 : decode cX5_takesToken 56 = .ok (.dup, 1) := by decide +kernel
theorem dX5_takesToken_57 : decode cX5_takesToken 57 = .ok (.getfield 25, 3) := by decide +kernel
theorem dX5_takesToken_60 : decode cX5_takesToken 60 = .ok (.iconst 1, 1) := by decide +kernel
theorem dX5_takesToken_61 : decode cX5_takesToken 61 = .ok (.iadd, 1) := by decide +kernel
theorem dX5_takesToken_62 : decode cX5_takesToken 62 = .ok (.putfield 25, 3) := by decide +kernel
theorem dX5_takesToken_65 : decode cX5_takesToken 65 = .ok (.aload_n 0, 1) := by decide +kernel
theorem dX5_takesToken_66 : decode cX5_takesToken 66 = .ok (.iload_n 2, 1) := by decide +kernel
theorem dX5_takesToken_67 : decode cX5_takesToken 67 = .ok (.iconst 1, 1) := by decide +kernel
theorem dX5_takesToken_68 : decode cX5_takesToken 68 = .ok (.iadd, 1) := by decide +kernel
theorem dX5_takesToken_69 : decode cX5_takesToken 69 = .ok (.putfield 28, 3) := by decide +kernel
theorem dX5_takesToken_72 : decode cX5_takesToken 72 = .ok (.iload_n 1, 1) := by decide +kernel
theorem dX5_takesToken_73 : decode cX5_takesToken 73 = .ok (.bipush 19, 2) := by decide +kernel
theorem dX5_takesToken_75 : decode cX5_takesToken 75 = .ok (.if_icmp .ge 34, 3) := by decide +kernel
theorem dX5_takesToken_78 : decode cX5_takesToken 78 = .ok (.aload_n 0, 1) := by decide +kernel
theorem dX5_takesToken_79 : decode cX5_takesToken 79 = .ok (.getfield 12, 3) := by decide +kernel
theorem dX5_takesToken_82 : decode cX5_takesToken 82 = .ok (.getfield 103, 3) := by decide +kernel
theorem dX5_takesToken_85 : decode cX5_takesToken 85 = .ok (.iload_n 1, 1) := by decide +kernel
theorem dX5_takesToken_86 : decode cX5_takesToken 86 = .ok (.dup2, 1) := by decide +kernel
theorem dX5_takesToken_87 : decode cX5_takesToken 87 = .ok (.iaload, 1) := by decide +kernel
theorem dX5_takesToken_88 : decode cX5_takesToken 88 = .ok (.iconst 1, 1) := by decide +kernel
theorem dX5_takesToken_89 : decode cX5_takesToken 89 = .ok (.iadd, 1) := by decide +kernel
theorem dX5_takesToken_90 : decode cX5_takesToken 90 = .ok (.iastore, 1) := by decide +kernel
theorem dX5_takesToken_91 : decode cX5_takesToken 91 = .ok (.aload_n 0, 1) := by decide +kernel
theorem dX5_takesToken_92 : decode cX5_takesToken 92 = .ok (.getfield 12, 3) := by decide +kernel
theorem dX5_takesToken_95 : decode cX5_takesToken 95 = .ok (.getfield 106, 3) := by decide +kernel
theorem dX5_takesToken_98 : decode cX5_takesToken 98 = .ok (.aload_n 0, 1) := by decide +kernel
theorem dX5_takesToken_99 : decode cX5_takesToken 99 = .ok (.getfield 22, 3) := by decide +kernel
theorem dX5_takesToken_102 : decode cX5_takesToken 102 = .ok (.dup2, 1) := by decide +kernel
theorem dX5_takesToken_103 : decode cX5_takesToken 103 = .ok (.iaload, 1) := by decide +kernel
theorem dX5_takesToken_104 : decode cX5_takesToken 104 = .ok (.iconst 1, 1) := by decide +kernel
theorem dX5_takesToken_105 : decode cX5_takesToken 105 = .ok (.iload_n 1, 1) := by decide +kernel
theorem dX5_takesToken_106 : decode cX5_takesToken 106 = .ok (.ishl, 1) := by decide +kernel
theorem dX5_takesToken_107 : decode cX5_takesToken 107 = .ok (.ior, 1) := by decide +kernel
theorem dX5_takesToken_108 : decode cX5_takesToken 108 = .ok (.iastore, 1) := by decide +kernel
theorem dX5_takesToken_109 : decode cX5_takesToken 109 = .ok (.iconst 1, 1) := by decide +kernel
theorem dX5_takesToken_110 : decode cX5_takesToken 110 = .ok (.ireturn, 1) := by decide +kernel
def kX5_takesToken_0 : List (Nat × zT) := [(0, a_aload 0 1), (1, a_getI 5 4 4), (4, a_iload 1 5), (5, a_call 49 1 8 0 0), (8, a_ii (fun x y => x - y) 9), (9, a_istore 2 10), (10, a_iload 1 11), (11, a_i (-4) 13), (13, a_ic_eq 36 16), (16, a_iload 2 17), (17, a_if_lt 36 20), (20, a_iload 2 21), (21, a_i 10 23), (23, a_ic_ge 36 26), (26, a_aload 0 27), (27, a_getI 5 3 30), (30, a_i 200 33), (33, a_ic_lt 38 36), (36, a_i 0 37), (37, a_iret true), (38, a_aload 0 39), (39, a_getR 5 0 42), (42, a_getR 10 0 45), (45, a_aload 0 46)]
theorem oX5_takesToken_0 : ∀ q ∈ kX5_takesToken_0, zSnd zty false RX5 cX5_takesToken 3 (some .boolean) false q := List.forall_mem_cons.mpr ⟨ok_aload_n dX5_takesToken_0 rfl, List.forall_mem_cons.mpr ⟨ok_getI dX5_takesToken_1 rfl in5 (by decide) rfl w124, List.forall_mem_cons.mpr ⟨ok_iload_n dX5_takesToken_4 rfl, List.forall_mem_cons.mpr ⟨ok_callS dX5_takesToken_5 rfl w450 w448 w449 w4 (by decide +kernel) (by decide), List.forall_mem_cons.mpr ⟨ok_isub dX5_takesToken_8, List.forall_mem_cons.mpr ⟨ok_istore_n dX5_takesToken_9 rfl (by decide), List.forall_mem_cons.mpr ⟨ok_iload_n dX5_takesToken_10 rfl, List.forall_mem_cons.mpr ⟨ok_bipush dX5_takesToken_11 (by decide), List.forall_mem_cons.mpr ⟨ok_ic_eq dX5_takesToken_13 (by decide), List.forall_mem_cons.mpr ⟨ok_iload_n dX5_takesToken_16 rfl, List.forall_mem_cons.mpr ⟨ok_if_lt dX5_takesToken_17 (by decide), List.forall_mem_cons.mpr ⟨ok_iload_n dX5_takesToken_20 rfl, List.forall_mem_cons.mpr ⟨ok_bipush dX5_takesToken_21 (by decide), List.forall_mem_cons.mpr ⟨ok_ic_ge dX5_takesToken_23 (by decide), List.forall_mem_cons.mpr ⟨ok_aload_n dX5_takesToken_26 rfl, List.forall_mem_cons.mpr ⟨ok_getI dX5_takesToken_27 rfl in5 (by decide) rfl w123, List.forall_mem_cons.mpr ⟨ok_sipush dX5_takesToken_30 (by decide), List.forall_mem_cons.mpr ⟨ok_ic_lt dX5_takesToken_33 (by decide), List.forall_mem_cons.mpr ⟨ok_iconst dX5_takesToken_36 (by decide), List.forall_mem_cons.mpr ⟨ok_iret (bz := true) dX5_takesToken_37 rfl, List.forall_mem_cons.mpr ⟨ok_aload_n dX5_takesToken_38 rfl, List.forall_mem_cons.mpr ⟨ok_getR dX5_takesToken_39 rfl in5 (by decide) rfl w119, List.forall_mem_cons.mpr ⟨ok_getR dX5_takesToken_42 rfl in10 (by decide) rfl w56, List.forall_mem_cons.mpr ⟨ok_aload_n dX5_takesToken_45 rfl, fun _ h => absurd h List.not_mem_nil⟩⟩⟩⟩⟩⟩⟩⟩⟩⟩⟩⟩⟩⟩⟩⟩⟩⟩⟩⟩⟩⟩⟩⟩
def kX5_takesToken_1 : List (Nat × zT) := [(46, a_getI 5 3 49), (49, a_iload 1 50), (50, a_iload 2 51), (51, a_call 134 2 54 0 0), (54, a_iast 55), (55, a_aload 0 56), (56, a_dup 57), (57, a_getI 5 3 60), (60, a_i 1 61), (61, a_ii (fun x y => x + y) 62), (62, a_putI 5 3 65 false), (65, a_aload 0 66), (66, a_iload 2 67), (67, a_i 1 68), (68, a_ii (fun x y => x + y) 69), (69, a_putI 5 4 72 false), (72, a_iload 1 73), (73, a_i 19 75), (75, a_ic_ge 109 78), (78, a_aload 0 79), (79, a_getR 5 0 82), (82, a_getR 10 4 85), (85, a_iload 1 86), (86, a_dup2 87)]
theorem oX5_takesToken_1 : ∀ q ∈ kX5_takesToken_1, zSnd zty false RX5 cX5_takesToken 3 (some .boolean) false q := List.forall_mem_cons.mpr ⟨ok_getI dX5_takesToken_46 rfl in5 (by decide) rfl w123, List.forall_mem_cons.mpr ⟨ok_iload_n dX5_takesToken_49 rfl, List.forall_mem_cons.mpr ⟨ok_iload_n dX5_takesToken_50 rfl, List.forall_mem_cons.mpr ⟨ok_callSN dX5_takesToken_51 rfl w453 n451 w452 w1 (by decide +kernel) (by decide), List.forall_mem_cons.mpr ⟨ok_iast dX5_takesToken_54, List.forall_mem_cons.mpr ⟨ok_aload_n dX5_takesToken_55 rfl, List.forall_mem_cons.mpr ⟨ok_dup dX5_takesToken_56, List.forall_mem_cons.mpr ⟨ok_getI dX5_takesToken_57 rfl in5 (by decide) rfl w123, List.forall_mem_cons.mpr ⟨ok_iconst dX5_takesToken_60 (by decide), List.forall_mem_cons.mpr ⟨ok_iadd dX5_takesToken_61, List.forall_mem_cons.mpr ⟨ok_putI (bz := false) dX5_takesToken_62 rfl in5 tyX5 tyX5_ok nmX5 (by decide) rfl w123 rfl rfl, List.forall_mem_cons.mpr ⟨ok_aload_n dX5_takesToken_65 rfl, List.forall_mem_cons.mpr ⟨ok_iload_n dX5_takesToken_66 rfl, List.forall_mem_cons.mpr ⟨ok_iconst dX5_takesToken_67 (by decide), List.forall_mem_cons.mpr ⟨ok_iadd dX5_takesToken_68, List.forall_mem_cons.mpr ⟨ok_putI (bz := false) dX5_takesToken_69 rfl in5 tyX5 tyX5_ok nmX5 (by decide) rfl w124 rfl rfl, List.forall_mem_cons.mpr ⟨ok_iload_n dX5_takesToken_72 rfl, List.forall_mem_cons.mpr ⟨ok_bipush dX5_takesToken_73 (by decide), List.forall_mem_cons.mpr ⟨ok_ic_ge dX5_takesToken_75 (by decide), List.forall_mem_cons.mpr ⟨ok_aload_n dX5_takesToken_78 rfl, List.forall_mem_cons.mpr ⟨ok_getR dX5_takesToken_79 rfl in5 (by decide) rfl w119, List.forall_mem_cons.mpr ⟨ok_getR dX5_takesToken_82 rfl in10 (by decide) rfl w77, List.forall_mem_cons.mpr ⟨ok_iload_n dX5_takesToken_85 rfl, List.forall_mem_cons.mpr ⟨ok_dup2 dX5_takesToken_86, fun _ h => absurd h List.not_mem_nil⟩⟩⟩⟩⟩⟩⟩⟩⟩⟩⟩⟩⟩⟩⟩⟩⟩⟩⟩⟩⟩⟩⟩⟩
def kX5_takesToken_2 : List (Nat × zT) := [(87, a_iald 88), (88, a_i 1 89), (89, a_ii (fun x y => x + y) 90), (90, a_iast 91), (91, a_aload 0 92), (92, a_getR 5 0 95), (95, a_getR 10 3 98), (98, a_aload 0 99), (99, a_getI 5 2 102), (102, a_dup2 103), (103, a_iald 104), (104, a_i 1 105), (105, a_iload 1 106), (106, a_ii (fun x y => x <<< (y &&& 31)) 107), (107, a_ii (fun x y => x ||| y) 108), (108, a_iast 109), (109, a_i 1 110), (110, a_iret true)]
theorem oX5_takesToken_2 : ∀ q ∈ kX5_takesToken_2, zSnd zty false RX5 cX5_takesToken 3 (some .boolean) false q := List.forall_mem_cons.mpr ⟨ok_iald dX5_takesToken_87, List.forall_mem_cons.mpr ⟨ok_iconst dX5_takesToken_88 (by decide), List.forall_mem_cons.mpr ⟨ok_iadd dX5_takesToken_89, List.forall_mem_cons.mpr ⟨ok_iast dX5_takesToken_90, List.forall_mem_cons.mpr ⟨ok_aload_n dX5_takesToken_91 rfl, List.forall_mem_cons.mpr ⟨ok_getR dX5_takesToken_92 rfl in5 (by decide) rfl w119, List.forall_mem_cons.mpr ⟨ok_getR dX5_takesToken_95 rfl in10 (by decide) rfl w74, List.forall_mem_cons.mpr ⟨ok_aload_n dX5_takesToken_98 rfl, List.forall_mem_cons.mpr ⟨ok_getI dX5_takesToken_99 rfl in5 (by decide) rfl w122, List.forall_mem_cons.mpr ⟨ok_dup2 dX5_takesToken_102, List.forall_mem_cons.mpr ⟨ok_iald dX5_takesToken_103, List.forall_mem_cons.mpr ⟨ok_iconst dX5_takesToken_104 (by decide), List.forall_mem_cons.mpr ⟨ok_iload_n dX5_takesToken_105 rfl, List.forall_mem_cons.mpr ⟨ok_ishl dX5_takesToken_106, List.forall_mem_cons.mpr ⟨ok_ior dX5_takesToken_107, List.forall_mem_cons.mpr ⟨ok_iast dX5_takesToken_108, List.forall_mem_cons.mpr ⟨ok_iconst dX5_takesToken_109 (by decide), List.forall_mem_cons.mpr ⟨ok_iret (bz := true) dX5_takesToken_110 rfl, fun _ h => absurd h List.not_mem_nil⟩⟩⟩⟩⟩⟩⟩⟩⟩⟩⟩⟩⟩⟩⟩⟩⟩⟩
def kX5_takesToken : List (Nat × zT) := kX5_takesToken_0 ++ (kX5_takesToken_1 ++ (kX5_takesToken_2))
theorem qX5_takesToken_0 : ∀ q ∈ kX5_takesToken_0, q ∈ kX5_takesToken := fun _ h => (List.mem_append_left _ h)
theorem tX5_takesToken_0 : (0, a_aload 0 1) ∈ kX5_takesToken := qX5_takesToken_0 _ (List.mem_of_getElem? (i := 0) rfl)
theorem tX5_takesToken_1 : (1, a_getI 5 4 4) ∈ kX5_takesToken := qX5_takesToken_0 _ (List.mem_of_getElem? (i := 1) rfl)
theorem tX5_takesToken_4 : (4, a_iload 1 5) ∈ kX5_takesToken := qX5_takesToken_0 _ (List.mem_of_getElem? (i := 2) rfl)
theorem tX5_takesToken_5 : (5, a_call 49 1 8 0 0) ∈ kX5_takesToken := qX5_takesToken_0 _ (List.mem_of_getElem? (i := 3) rfl)
theorem tX5_takesToken_8 : (8, a_ii (fun x y => x - y) 9) ∈ kX5_takesToken := qX5_takesToken_0 _ (List.mem_of_getElem? (i := 4) rfl)
theorem tX5_takesToken_9 : (9, a_istore 2 10) ∈ kX5_takesToken := qX5_takesToken_0 _ (List.mem_of_getElem? (i := 5) rfl)
theorem tX5_takesToken_10 : (10, a_iload 1 11) ∈ kX5_takesToken := qX5_takesToken_0 _ (List.mem_of_getElem? (i := 6) rfl)
theorem tX5_takesToken_11 : (11, a_i (-4) 13) ∈ kX5_takesToken := qX5_takesToken_0 _ (List.mem_of_getElem? (i := 7) rfl)
theorem tX5_takesToken_13 : (13, a_ic_eq 36 16) ∈ kX5_takesToken := qX5_takesToken_0 _ (List.mem_of_getElem? (i := 8) rfl)
theorem tX5_takesToken_16 : (16, a_iload 2 17) ∈ kX5_takesToken := qX5_takesToken_0 _ (List.mem_of_getElem? (i := 9) rfl)
theorem tX5_takesToken_17 : (17, a_if_lt 36 20) ∈ kX5_takesToken := qX5_takesToken_0 _ (List.mem_of_getElem? (i := 10) rfl)
theorem tX5_takesToken_20 : (20, a_iload 2 21) ∈ kX5_takesToken := qX5_takesToken_0 _ (List.mem_of_getElem? (i := 11) rfl)
theorem tX5_takesToken_21 : (21, a_i 10 23) ∈ kX5_takesToken := qX5_takesToken_0 _ (List.mem_of_getElem? (i := 12) rfl)
theorem tX5_takesToken_23 : (23, a_ic_ge 36 26) ∈ kX5_takesToken := qX5_takesToken_0 _ (List.mem_of_getElem? (i := 13) rfl)
theorem tX5_takesToken_26 : (26, a_aload 0 27) ∈ kX5_takesToken := qX5_takesToken_0 _ (List.mem_of_getElem? (i := 14) rfl)
theorem tX5_takesToken_27 : (27, a_getI 5 3 30) ∈ kX5_takesToken := qX5_takesToken_0 _ (List.mem_of_getElem? (i := 15) rfl)
theorem tX5_takesToken_30 : (30, a_i 200 33) ∈ kX5_takesToken := qX5_takesToken_0 _ (List.mem_of_getElem? (i := 16) rfl)
theorem tX5_takesToken_33 : (33, a_ic_lt 38 36) ∈ kX5_takesToken := qX5_takesToken_0 _ (List.mem_of_getElem? (i := 17) rfl)
theorem tX5_takesToken_36 : (36, a_i 0 37) ∈ kX5_takesToken := qX5_takesToken_0 _ (List.mem_of_getElem? (i := 18) rfl)
theorem tX5_takesToken_37 : (37, a_iret true) ∈ kX5_takesToken := qX5_takesToken_0 _ (List.mem_of_getElem? (i := 19) rfl)
theorem tX5_takesToken_38 : (38, a_aload 0 39) ∈ kX5_takesToken := qX5_takesToken_0 _ (List.mem_of_getElem? (i := 20) rfl)
theorem tX5_takesToken_39 : (39, a_getR 5 0 42) ∈ kX5_takesToken := qX5_takesToken_0 _ (List.mem_of_getElem? (i := 21) rfl)
theorem tX5_takesToken_42 : (42, a_getR 10 0 45) ∈ kX5_takesToken := qX5_takesToken_0 _ (List.mem_of_getElem? (i := 22) rfl)
theorem tX5_takesToken_45 : (45, a_aload 0 46) ∈ kX5_takesToken := qX5_takesToken_0 _ (List.mem_of_getElem? (i := 23) rfl)
theorem qX5_takesToken_1 : ∀ q ∈ kX5_takesToken_1, q ∈ kX5_takesToken := fun _ h => (List.mem_append_right _ (List.mem_append_left _ h))
theorem tX5_takesToken_46 : (46, a_getI 5 3 49) ∈ kX5_takesToken := qX5_takesToken_1 _ (List.mem_of_getElem? (i := 0) rfl)
theorem tX5_takesToken_49 : (49, a_iload 1 50) ∈ kX5_takesToken := qX5_takesToken_1 _ (List.mem_of_getElem? (i := 1) rfl)
theorem tX5_takesToken_50 : (50, a_iload 2 51) ∈ kX5_takesToken := qX5_takesToken_1 _ (List.mem_of_getElem? (i := 2) rfl)
theorem tX5_takesToken_51 : (51, a_call 134 2 54 0 0) ∈ kX5_takesToken := qX5_takesToken_1 _ (List.mem_of_getElem? (i := 3) rfl)
theorem tX5_takesToken_54 : (54, a_iast 55) ∈ kX5_takesToken := qX5_takesToken_1 _ (List.mem_of_getElem? (i := 4) rfl)
theorem tX5_takesToken_55 : (55, a_aload 0 56) ∈ kX5_takesToken := qX5_takesToken_1 _ (List.mem_of_getElem? (i := 5) rfl)
theorem tX5_takesToken_56 : (56, a_dup 57) ∈ kX5_takesToken := qX5_takesToken_1 _ (List.mem_of_getElem? (i := 6) rfl)
theorem tX5_takesToken_57 : (57, a_getI 5 3 60) ∈ kX5_takesToken := qX5_takesToken_1 _ (List.mem_of_getElem? (i := 7) rfl)
theorem tX5_takesToken_60 : (60, a_i 1 61) ∈ kX5_takesToken := qX5_takesToken_1 _ (List.mem_of_getElem? (i := 8) rfl)
theorem tX5_takesToken_61 : (61, a_ii (fun x y => x + y) 62) ∈ kX5_takesToken := qX5_takesToken_1 _ (List.mem_of_getElem? (i := 9) rfl)
theorem tX5_takesToken_62 : (62, a_putI 5 3 65 false) ∈ kX5_takesToken := qX5_takesToken_1 _ (List.mem_of_getElem? (i := 10) rfl)
theorem tX5_takesToken_65 : (65, a_aload 0 66) ∈ kX5_takesToken := qX5_takesToken_1 _ (List.mem_of_getElem? (i := 11) rfl)
theorem tX5_takesToken_66 : (66, a_iload 2 67) ∈ kX5_takesToken := qX5_takesToken_1 _ (List.mem_of_getElem? (i := 12) rfl)
theorem tX5_takesToken_67 : (67, a_i 1 68) ∈ kX5_takesToken := qX5_takesToken_1 _ (List.mem_of_getElem? (i := 13) rfl)
theorem tX5_takesToken_68 : (68, a_ii (fun x y => x + y) 69) ∈ kX5_takesToken := qX5_takesToken_1 _ (List.mem_of_getElem? (i := 14) rfl)
theorem tX5_takesToken_69 : (69, a_putI 5 4 72 false) ∈ kX5_takesToken := qX5_takesToken_1 _ (List.mem_of_getElem? (i := 15) rfl)
theorem tX5_takesToken_72 : (72, a_iload 1 73) ∈ kX5_takesToken := qX5_takesToken_1 _ (List.mem_of_getElem? (i := 16) rfl)
theorem tX5_takesToken_73 : (73, a_i 19 75) ∈ kX5_takesToken := qX5_takesToken_1 _ (List.mem_of_getElem? (i := 17) rfl)
theorem tX5_takesToken_75 : (75, a_ic_ge 109 78) ∈ kX5_takesToken := qX5_takesToken_1 _ (List.mem_of_getElem? (i := 18) rfl)
theorem tX5_takesToken_78 : (78, a_aload 0 79) ∈ kX5_takesToken := qX5_takesToken_1 _ (List.mem_of_getElem? (i := 19) rfl)
theorem tX5_takesToken_79 : (79, a_getR 5 0 82) ∈ kX5_takesToken := qX5_takesToken_1 _ (List.mem_of_getElem? (i := 20) rfl)
theorem tX5_takesToken_82 : (82, a_getR 10 4 85) ∈ kX5_takesToken := qX5_takesToken_1 _ (List.mem_of_getElem? (i := 21) rfl)
theorem tX5_takesToken_85 : (85, a_iload 1 86) ∈ kX5_takesToken := qX5_takesToken_1 _ (List.mem_of_getElem? (i := 22) rfl)
theorem tX5_takesToken_86 : (86, a_dup2 87) ∈ kX5_takesToken := qX5_takesToken_1 _ (List.mem_of_getElem? (i := 23) rfl)
theorem qX5_takesToken_2 : ∀ q ∈ kX5_takesToken_2, q ∈ kX5_takesToken := fun _ h => (List.mem_append_right _ (List.mem_append_right _ h))
theorem tX5_takesToken_87 : (87, a_iald 88) ∈ kX5_takesToken := qX5_takesToken_2 _ (List.mem_of_getElem? (i := 0) rfl)
theorem tX5_takesToken_88 : (88, a_i 1 89) ∈ kX5_takesToken := qX5_takesToken_2 _ (List.mem_of_getElem? (i := 1) rfl)
theorem tX5_takesToken_89 : (89, a_ii (fun x y => x + y) 90) ∈ kX5_takesToken := qX5_takesToken_2 _ (List.mem_of_getElem? (i := 2) rfl)
theorem tX5_takesToken_90 : (90, a_iast 91) ∈ kX5_takesToken := qX5_takesToken_2 _ (List.mem_of_getElem? (i := 3) rfl)
theorem tX5_takesToken_91 : (91, a_aload 0 92) ∈ kX5_takesToken := qX5_takesToken_2 _ (List.mem_of_getElem? (i := 4) rfl)
theorem tX5_takesToken_92 : (92, a_getR 5 0 95) ∈ kX5_takesToken := qX5_takesToken_2 _ (List.mem_of_getElem? (i := 5) rfl)
theorem tX5_takesToken_95 : (95, a_getR 10 3 98) ∈ kX5_takesToken := qX5_takesToken_2 _ (List.mem_of_getElem? (i := 6) rfl)
theorem tX5_takesToken_98 : (98, a_aload 0 99) ∈ kX5_takesToken := qX5_takesToken_2 _ (List.mem_of_getElem? (i := 7) rfl)
theorem tX5_takesToken_99 : (99, a_getI 5 2 102) ∈ kX5_takesToken := qX5_takesToken_2 _ (List.mem_of_getElem? (i := 8) rfl)
theorem tX5_takesToken_102 : (102, a_dup2 103) ∈ kX5_takesToken := qX5_takesToken_2 _ (List.mem_of_getElem? (i := 9) rfl)
theorem tX5_takesToken_103 : (103, a_iald 104) ∈ kX5_takesToken := qX5_takesToken_2 _ (List.mem_of_getElem? (i := 10) rfl)
theorem tX5_takesToken_104 : (104, a_i 1 105) ∈ kX5_takesToken := qX5_takesToken_2 _ (List.mem_of_getElem? (i := 11) rfl)
theorem tX5_takesToken_105 : (105, a_iload 1 106) ∈ kX5_takesToken := qX5_takesToken_2 _ (List.mem_of_getElem? (i := 12) rfl)
theorem tX5_takesToken_106 : (106, a_ii (fun x y => x <<< (y &&& 31)) 107) ∈ kX5_takesToken := qX5_takesToken_2 _ (List.mem_of_getElem? (i := 13) rfl)
theorem tX5_takesToken_107 : (107, a_ii (fun x y => x ||| y) 108) ∈ kX5_takesToken := qX5_takesToken_2 _ (List.mem_of_getElem? (i := 14) rfl)
theorem tX5_takesToken_108 : (108, a_iast 109) ∈ kX5_takesToken := qX5_takesToken_2 _ (List.mem_of_getElem? (i := 15) rfl)
theorem tX5_takesToken_109 : (109, a_i 1 110) ∈ kX5_takesToken := qX5_takesToken_2 _ (List.mem_of_getElem? (i := 16) rfl)
theorem tX5_takesToken_110 : (110, a_iret true) ∈ kX5_takesToken := qX5_takesToken_2 _ (List.mem_of_getElem? (i := 17) rfl)
theorem oX5_takesToken : ∀ q ∈ kX5_takesToken, zSnd zty false RX5 cX5_takesToken 3 (some .boolean) false q := List.forall_mem_append.mpr ⟨oX5_takesToken_0, List.forall_mem_append.mpr ⟨oX5_takesToken_1, oX5_takesToken_2⟩⟩
theorem dX5_valuesTaken_0 : decode cX5_valuesTaken 0 = .ok (.iload_n 0, 1) := by decide +kernel
theorem dX5_valuesTaken_1 : decode cX5_valuesTaken 1 = .ok (.tableswitch 45 21 25 #[35, 37, 39, 41, 43], 35) := by decide +kernel
theorem dX5_valuesTaken_36 : decode cX5_valuesTaken 36 = .ok (.iconst 1, 1) := by decide +kernel
theorem dX5_valuesTaken_37 : decode cX5_valuesTaken 37 = .ok (.ireturn, 1) := by decide +kernel
theorem dX5_valuesTaken_38 : decode cX5_valuesTaken 38 = .ok (.iconst 2, 1) := by decide +kernel
theorem dX5_valuesTaken_39 : decode cX5_valuesTaken 39 = .ok (.ireturn, 1) := by decide +kernel
theorem dX5_valuesTaken_40 : decode cX5_valuesTaken 40 = .ok (.iconst 2, 1) := by decide +kernel
theorem dX5_valuesTaken_41 : decode cX5_valuesTaken 41 = .ok (.ireturn, 1) := by decide +kernel
theorem dX5_valuesTaken_42 : decode cX5_valuesTaken 42 = .ok (.iconst 2, 1) := by decide +kernel
theorem dX5_valuesTaken_43 : decode cX5_valuesTaken 43 = .ok (.ireturn, 1) := by decide +kernel
theorem dX5_valuesTaken_44 : decode cX5_valuesTaken 44 = .ok (.iconst 3, 1) := by decide +kernel
theorem dX5_valuesTaken_45 : decode cX5_valuesTaken 45 = .ok (.ireturn, 1) := by decide +kernel
theorem dX5_valuesTaken_46 : decode cX5_valuesTaken 46 = .ok (.iconst 0, 1) := by decide +kernel
theorem dX5_valuesTaken_47 : decode cX5_valuesTaken 47 = .ok (.ireturn, 1) := by decide +kernel
def kX5_valuesTaken_0 : List (Nat × zT) := [(0, a_iload 0 1), (1, a_sw [(21, 36), (22, 38), (23, 40), (24, 42), (25, 44)] 46), (36, a_i 1 37), (37, a_iret false), (38, a_i 2 39), (39, a_iret false), (40, a_i 2 41), (41, a_iret false), (42, a_i 2 43), (43, a_iret false), (44, a_i 3 45), (45, a_iret false), (46, a_i 0 47), (47, a_iret false)]
theorem oX5_valuesTaken_0 : ∀ q ∈ kX5_valuesTaken_0, zSnd zty false RX5 cX5_valuesTaken 1 (some .int) false q := List.forall_mem_cons.mpr ⟨ok_iload_n dX5_valuesTaken_0 rfl, List.forall_mem_cons.mpr ⟨ok_tsw dX5_valuesTaken_1 (by decide) (by decide) (by decide) (by decide), List.forall_mem_cons.mpr ⟨ok_iconst dX5_valuesTaken_36 (by decide), List.forall_mem_cons.mpr ⟨ok_iret (bz := false) dX5_valuesTaken_37 rfl, List.forall_mem_cons.mpr ⟨ok_iconst dX5_valuesTaken_38 (by decide), List.forall_mem_cons.mpr ⟨ok_iret (bz := false) dX5_valuesTaken_39 rfl, List.forall_mem_cons.mpr ⟨ok_iconst dX5_valuesTaken_40 (by decide), List.forall_mem_cons.mpr ⟨ok_iret (bz := false) dX5_valuesTaken_41 rfl, List.forall_mem_cons.mpr ⟨ok_iconst dX5_valuesTaken_42 (by decide), List.forall_mem_cons.mpr ⟨ok_iret (bz := false) dX5_valuesTaken_43 rfl, List.forall_mem_cons.mpr ⟨ok_iconst dX5_valuesTaken_44 (by decide), List.forall_mem_cons.mpr ⟨ok_iret (bz := false) dX5_valuesTaken_45 rfl, List.forall_mem_cons.mpr ⟨ok_iconst dX5_valuesTaken_46 (by decide), List.forall_mem_cons.mpr ⟨ok_iret (bz := false) dX5_valuesTaken_47 rfl, fun _ h => absurd h List.not_mem_nil⟩⟩⟩⟩⟩⟩⟩⟩⟩⟩⟩⟩⟩⟩
def kX5_valuesTaken : List (Nat × zT) := kX5_valuesTaken_0
theorem qX5_valuesTaken_0 : ∀ q ∈ kX5_valuesTaken_0, q ∈ kX5_valuesTaken := fun _ h => h
theorem tX5_valuesTaken_0 : (0, a_iload 0 1) ∈ kX5_valuesTaken := qX5_valuesTaken_0 _ (List.mem_of_getElem? (i := 0) rfl)
theorem tX5_valuesTaken_1 : (1, a_sw [(21, 36), (22, 38), (23, 40), (24, 42), (25, 44)] 46) ∈ kX5_valuesTaken := qX5_valuesTaken_0 _ (List.mem_of_getElem? (i := 1) rfl)
theorem tX5_valuesTaken_36 : (36, a_i 1 37) ∈ kX5_valuesTaken := qX5_valuesTaken_0 _ (List.mem_of_getElem? (i := 2) rfl)
theorem tX5_valuesTaken_37 : (37, a_iret false) ∈ kX5_valuesTaken := qX5_valuesTaken_0 _ (List.mem_of_getElem? (i := 3) rfl)
theorem tX5_valuesTaken_38 : (38, a_i 2 39) ∈ kX5_valuesTaken := qX5_valuesTaken_0 _ (List.mem_of_getElem? (i := 4) rfl)
theorem tX5_valuesTaken_39 : (39, a_iret false) ∈ kX5_valuesTaken := qX5_valuesTaken_0 _ (List.mem_of_getElem? (i := 5) rfl)
theorem tX5_valuesTaken_40 : (40, a_i 2 41) ∈ kX5_valuesTaken := qX5_valuesTaken_0 _ (List.mem_of_getElem? (i := 6) rfl)
theorem tX5_valuesTaken_41 : (41, a_iret false) ∈ kX5_valuesTaken := qX5_valuesTaken_0 _ (List.mem_of_getElem? (i := 7) rfl)
theorem tX5_valuesTaken_42 : (42, a_i 2 43) ∈ kX5_valuesTaken := qX5_valuesTaken_0 _ (List.mem_of_getElem? (i := 8) rfl)
theorem tX5_valuesTaken_43 : (43, a_iret false) ∈ kX5_valuesTaken := qX5_valuesTaken_0 _ (List.mem_of_getElem? (i := 9) rfl)
theorem tX5_valuesTaken_44 : (44, a_i 3 45) ∈ kX5_valuesTaken := qX5_valuesTaken_0 _ (List.mem_of_getElem? (i := 10) rfl)
theorem tX5_valuesTaken_45 : (45, a_iret false) ∈ kX5_valuesTaken := qX5_valuesTaken_0 _ (List.mem_of_getElem? (i := 11) rfl)
theorem tX5_valuesTaken_46 : (46, a_i 0 47) ∈ kX5_valuesTaken := qX5_valuesTaken_0 _ (List.mem_of_getElem? (i := 12) rfl)
theorem tX5_valuesTaken_47 : (47, a_iret false) ∈ kX5_valuesTaken := qX5_valuesTaken_0 _ (List.mem_of_getElem? (i := 13) rfl)
theorem oX5_valuesTaken : ∀ q ∈ kX5_valuesTaken, zSnd zty false RX5 cX5_valuesTaken 1 (some .int) false q := oX5_valuesTaken_0
theorem dX5_kindOfSign_0 : decode cX5_kindOfSign 0 = .ok (.iload_n 0, 1) := by decide +kernel
theorem dX5_kindOfSign_1 : decode cX5_kindOfSign 1 = .ok (.lookupswitch 88 #[(38, 76), (48, 67), (49, 70), (63, 85), (94, 82), (124, 79), (126, 73)], 67) := by decide +kernel
theorem dX5_kindOfSign_68 : decode cX5_kindOfSign 68 = .ok (.bipush 19, 2) := by decide +kernel
theorem dX5_kindOfSign_70 : decode cX5_kindOfSign 70 = .ok (.ireturn, 1) := by decide +kernel
theorem dX5_kindOfSign_71 : decode cX5_kindOfSign 71 = .ok (.bipush 20, 2) := by decide +kernel
theorem dX5_kindOfSign_73 : decode cX5_kindOfSign 73 = .ok (.ireturn, 1) := by decide +kernel
theorem dX5_kindOfSign_74 : decode cX5_kindOfSign 74 = .ok (.bipush 21, 2) := by decide +kernel
theorem dX5_kindOfSign_76 : decode cX5_kindOfSign 76 = .ok (.ireturn, 1) := by decide +kernel
theorem dX5_kindOfSign_77 : decode cX5_kindOfSign 77 = .ok (.bipush 22, 2) := by decide +kernel
theorem dX5_kindOfSign_79 : decode cX5_kindOfSign 79 = .ok (.ireturn, 1) := by decide +kernel
theorem dX5_kindOfSign_80 : decode cX5_kindOfSign 80 = .ok (.bipush 23, 2) := by decide +kernel
theorem dX5_kindOfSign_82 : decode cX5_kindOfSign 82 = .ok (.ireturn, 1) := by decide +kernel
theorem dX5_kindOfSign_83 : decode cX5_kindOfSign 83 = .ok (.bipush 24, 2) := by decide +kernel
theorem dX5_kindOfSign_85 : decode cX5_kindOfSign 85 = .ok (.ireturn, 1) := by decide +kernel
theorem dX5_kindOfSign_86 : decode cX5_kindOfSign 86 = .ok (.bipush 25, 2) := by decide +kernel
theorem dX5_kindOfSign_88 : decode cX5_kindOfSign 88 = .ok (.ireturn, 1) := by decide +kernel
theorem dX5_kindOfSign_89 : decode cX5_kindOfSign 89 = .ok (.iload_n 0, 1) := by decide +kernel
theorem dX5_kindOfSign_90 : decode cX5_kindOfSign 90 = .ok (.bipush 97, 2) := by decide +kernel
theorem dX5_kindOfSign_92 : decode cX5_kindOfSign 92 = .ok (.isub, 1) := by decide +kernel
theorem dX5_kindOfSign_93 : decode cX5_kindOfSign 93 = .ok (.bipush 19, 2) := by decide +kernel
theorem dX5_kindOfSign_95 : decode cX5_kindOfSign 95 = .ok (.invokestatic 109, 3) := by decide +kernel
theorem dX5_kindOfSign_98 : decode cX5_kindOfSign 98 = .ok (.ifCond .eq 10, 3) := by decide +kernel
theorem dX5_kindOfSign_101 : decode cX5_kindOfSign 101 = .ok (.iload_n 0, 1) := by decide +kernel
theorem dX5_kindOfSign_102 : decode cX5_kindOfSign 102 = .ok (.bipush 97, 2) := by decide +kernel
theorem dX5_kindOfSign_104 : decode cX5_kindOfSign 104 = .ok (.isub, 1) := by decide +kernel
theorem dX5_kindOfSign_105 : decode cX5_kindOfSign 105 = .ok (.goto 5, 3) := by decide +kernel
theorem dX5_kindOfSign_108 : decode cX5_kindOfSign 108 = .ok (.bipush (-4), 2) := by decide +kernel
theorem dX5_kindOfSign_110 : decode cX5_kindOfSign 110 = .ok (.ireturn, 1) := by decide +kernel
def kX5_kindOfSign_0 : List (Nat × zT) := [(0, a_iload 0 1), (1, a_sw [(38, 77), (48, 68), (49, 71), (63, 86), (94, 83), (124, 80), (126, 74)] 89), (68, a_i 19 70), (70, a_iret false), (71, a_i 20 73), (73, a_iret false), (74, a_i 21 76), (76, a_iret false), (77, a_i 22 79), (79, a_iret false), (80, a_i 23 82), (82, a_iret false), (83, a_i 24 85), (85, a_iret false), (86, a_i 25 88), (88, a_iret false), (89, a_iload 0 90), (90, a_i 97 92), (92, a_ii (fun x y => x - y) 93), (93, a_i 19 95), (95, a_call 128 2 98 0 0), (98, a_if_eq 108 101), (101, a_iload 0 102), (102, a_i 97 104)]
theorem oX5_kindOfSign_0 : ∀ q ∈ kX5_kindOfSign_0, zSnd zty false RX5 cX5_kindOfSign 1 (some .int) false q := List.forall_mem_cons.mpr ⟨ok_iload_n dX5_kindOfSign_0 rfl, List.forall_mem_cons.mpr ⟨ok_lsw dX5_kindOfSign_1 (by decide) (by decide) (by decide) (by decide), List.forall_mem_cons.mpr ⟨ok_bipush dX5_kindOfSign_68 (by decide), List.forall_mem_cons.mpr ⟨ok_iret (bz := false) dX5_kindOfSign_70 rfl, List.forall_mem_cons.mpr ⟨ok_bipush dX5_kindOfSign_71 (by decide), List.forall_mem_cons.mpr ⟨ok_iret (bz := false) dX5_kindOfSign_73 rfl, List.forall_mem_cons.mpr ⟨ok_bipush dX5_kindOfSign_74 (by decide), List.forall_mem_cons.mpr ⟨ok_iret (bz := false) dX5_kindOfSign_76 rfl, List.forall_mem_cons.mpr ⟨ok_bipush dX5_kindOfSign_77 (by decide), List.forall_mem_cons.mpr ⟨ok_iret (bz := false) dX5_kindOfSign_79 rfl, List.forall_mem_cons.mpr ⟨ok_bipush dX5_kindOfSign_80 (by decide), List.forall_mem_cons.mpr ⟨ok_iret (bz := false) dX5_kindOfSign_82 rfl, List.forall_mem_cons.mpr ⟨ok_bipush dX5_kindOfSign_83 (by decide), List.forall_mem_cons.mpr ⟨ok_iret (bz := false) dX5_kindOfSign_85 rfl, List.forall_mem_cons.mpr ⟨ok_bipush dX5_kindOfSign_86 (by decide), List.forall_mem_cons.mpr ⟨ok_iret (bz := false) dX5_kindOfSign_88 rfl, List.forall_mem_cons.mpr ⟨ok_iload_n dX5_kindOfSign_89 rfl, List.forall_mem_cons.mpr ⟨ok_bipush dX5_kindOfSign_90 (by decide), List.forall_mem_cons.mpr ⟨ok_isub dX5_kindOfSign_92, List.forall_mem_cons.mpr ⟨ok_bipush dX5_kindOfSign_93 (by decide), List.forall_mem_cons.mpr ⟨ok_callSN dX5_kindOfSign_95 rfl w443 n441 w442 w1 (by decide +kernel) (by decide), List.forall_mem_cons.mpr ⟨ok_if_eq dX5_kindOfSign_98 (by decide), List.forall_mem_cons.mpr ⟨ok_iload_n dX5_kindOfSign_101 rfl, List.forall_mem_cons.mpr ⟨ok_bipush dX5_kindOfSign_102 (by decide), fun _ h => absurd h List.not_mem_nil⟩⟩⟩⟩⟩⟩⟩⟩⟩⟩⟩⟩⟩⟩⟩⟩⟩⟩⟩⟩⟩⟩⟩⟩
def kX5_kindOfSign_1 : List (Nat × zT) := [(104, a_ii (fun x y => x - y) 105), (105, a_goto 110), (108, a_i (-4) 110), (110, a_iret false)]
theorem oX5_kindOfSign_1 : ∀ q ∈ kX5_kindOfSign_1, zSnd zty false RX5 cX5_kindOfSign 1 (some .int) false q := List.forall_mem_cons.mpr ⟨ok_isub dX5_kindOfSign_104, List.forall_mem_cons.mpr ⟨ok_goto dX5_kindOfSign_105 (by decide), List.forall_mem_cons.mpr ⟨ok_bipush dX5_kindOfSign_108 (by decide), List.forall_mem_cons.mpr ⟨ok_iret (bz := false) dX5_kindOfSign_110 rfl, fun _ h => absurd h List.not_mem_nil⟩⟩⟩⟩
def kX5_kindOfSign : List (Nat × zT) := kX5_kindOfSign_0 ++ (kX5_kindOfSign_1)
theorem qX5_kindOfSign_0 : ∀ q ∈ kX5_kindOfSign_0, q ∈ kX5_kindOfSign := fun _ h => (List.mem_append_left _ h)
theorem tX5_kindOfSign_0 : (0, a_iload 0 1) ∈ kX5_kindOfSign := qX5_kindOfSign_0 _ (List.mem_of_getElem? (i := 0) rfl)
theorem tX5_kindOfSign_1 : (1, a_sw [(38, 77), (48, 68), (49, 71), (63, 86), (94, 83), (124, 80), (126, 74)] 89) ∈ kX5_kindOfSign := qX5_kindOfSign_0 _ (List.mem_of_getElem? (i := 1) rfl)
theorem tX5_kindOfSign_68 : (68, a_i 19 70) ∈ kX5_kindOfSign := qX5_kindOfSign_0 _ (List.mem_of_getElem? (i := 2) rfl)
theorem tX5_kindOfSign_70 : (70, a_iret false) ∈ kX5_kindOfSign := qX5_kindOfSign_0 _ (List.mem_of_getElem? (i := 3) rfl)
theorem tX5_kindOfSign_71 : (71, a_i 20 73) ∈ kX5_kindOfSign := qX5_kindOfSign_0 _ (List.mem_of_getElem? (i := 4) rfl)
theorem tX5_kindOfSign_73 : (73, a_iret false) ∈ kX5_kindOfSign := qX5_kindOfSign_0 _ (List.mem_of_getElem? (i := 5) rfl)
theorem tX5_kindOfSign_74 : (74, a_i 21 76) ∈ kX5_kindOfSign := qX5_kindOfSign_0 _ (List.mem_of_getElem? (i := 6) rfl)
theorem tX5_kindOfSign_76 : (76, a_iret false) ∈ kX5_kindOfSign := qX5_kindOfSign_0 _ (List.mem_of_getElem? (i := 7) rfl)
theorem tX5_kindOfSign_77 : (77, a_i 22 79) ∈ kX5_kindOfSign := qX5_kindOfSign_0 _ (List.mem_of_getElem? (i := 8) rfl)
theorem tX5_kindOfSign_79 : (79, a_iret false) ∈ kX5_kindOfSign := qX5_kindOfSign_0 _ (List.mem_of_getElem? (i := 9) rfl)
theorem tX5_kindOfSign_80 : (80, a_i 23 82) ∈ kX5_kindOfSign := qX5_kindOfSign_0 _ (List.mem_of_getElem? (i := 10) rfl)
theorem tX5_kindOfSign_82 : (82, a_iret false) ∈ kX5_kindOfSign := qX5_kindOfSign_0 _ (List.mem_of_getElem? (i := 11) rfl)
theorem tX5_kindOfSign_83 : (83, a_i 24 85) ∈ kX5_kindOfSign := qX5_kindOfSign_0 _ (List.mem_of_getElem? (i := 12) rfl)
theorem tX5_kindOfSign_85 : (85, a_iret false) ∈ kX5_kindOfSign := qX5_kindOfSign_0 _ (List.mem_of_getElem? (i := 13) rfl)
theorem tX5_kindOfSign_86 : (86, a_i 25 88) ∈ kX5_kindOfSign := qX5_kindOfSign_0 _ (List.mem_of_getElem? (i := 14) rfl)
theorem tX5_kindOfSign_88 : (88, a_iret false) ∈ kX5_kindOfSign := qX5_kindOfSign_0 _ (List.mem_of_getElem? (i := 15) rfl)
theorem tX5_kindOfSign_89 : (89, a_iload 0 90) ∈ kX5_kindOfSign := qX5_kindOfSign_0 _ (List.mem_of_getElem? (i := 16) rfl)
theorem tX5_kindOfSign_90 : (90, a_i 97 92) ∈ kX5_kindOfSign := qX5_kindOfSign_0 _ (List.mem_of_getElem? (i := 17) rfl)
theorem tX5_kindOfSign_92 : (92, a_ii (fun x y => x - y) 93) ∈ kX5_kindOfSign := qX5_kindOfSign_0 _ (List.mem_of_getElem? (i := 18) rfl)
theorem tX5_kindOfSign_93 : (93, a_i 19 95) ∈ kX5_kindOfSign := qX5_kindOfSign_0 _ (List.mem_of_getElem? (i := 19) rfl)
theorem tX5_kindOfSign_95 : (95, a_call 128 2 98 0 0) ∈ kX5_kindOfSign := qX5_kindOfSign_0 _ (List.mem_of_getElem? (i := 20) rfl)
theorem tX5_kindOfSign_98 : (98, a_if_eq 108 101) ∈ kX5_kindOfSign := qX5_kindOfSign_0 _ (List.mem_of_getElem? (i := 21) rfl)
theorem tX5_kindOfSign_101 : (101, a_iload 0 102) ∈ kX5_kindOfSign := qX5_kindOfSign_0 _ (List.mem_of_getElem? (i := 22) rfl)
theorem tX5_kindOfSign_102 : (102, a_i 97 104) ∈ kX5_kindOfSign := qX5_kindOfSign_0 _ (List.mem_of_getElem? (i := 23) rfl)
theorem qX5_kindOfSign_1 : ∀ q ∈ kX5_kindOfSign_1, q ∈ kX5_kindOfSign := fun _ h => (List.mem_append_right _ h)
theorem tX5_kindOfSign_104 : (104, a_ii (fun x y => x - y) 105) ∈ kX5_kindOfSign := qX5_kindOfSign_1 _ (List.mem_of_getElem? (i := 0) rfl)
theorem tX5_kindOfSign_105 : (105, a_goto 110) ∈ kX5_kindOfSign := qX5_kindOfSign_1 _ (List.mem_of_getElem? (i := 1) rfl)
theorem tX5_kindOfSign_108 : (108, a_i (-4) 110) ∈ kX5_kindOfSign := qX5_kindOfSign_1 _ (List.mem_of_getElem? (i := 2) rfl)
theorem tX5_kindOfSign_110 : (110, a_iret false) ∈ kX5_kindOfSign := qX5_kindOfSign_1 _ (List.mem_of_getElem? (i := 3) rfl)
theorem oX5_kindOfSign : ∀ q ∈ kX5_kindOfSign, zSnd zty false RX5 cX5_kindOfSign 1 (some .int) false q := List.forall_mem_append.mpr ⟨oX5_kindOfSign_0, oX5_kindOfSign_1⟩
theorem dX6_init_0 : decode cX6_init 0 = .ok (.aload_n 0, 1) := by decide +kernel
theorem dX6_init_1 : decode cX6_init 1 = .ok (.invokespecial 3, 3) := by decide +kernel
theorem dX6_init_4 : decode cX6_init 4 = .ok (.aload_n 0, 1) := by decide +kernel
theorem dX6_init_5 : decode cX6_init 5 = .ok (.bipush 19, 2) := by decide +kernel
theorem dX6_init_7 : decode cX6_init 7 = .ok (.newarray .int, 2) := by decide +kernel
theorem dX6_init_9 : decode cX6_init 9 = .ok (.putfield 9, 3) := by decide +kernel
theorem dX6_init_12 : decode cX6_init 12 = .ok (.aload_n 0, 1) := by decide +kernel
theorem dX6_init_13 : decode cX6_init 13 = .ok (.bipush 18, 2) := by decide +kernel
theorem dX6_init_15 : decode cX6_init 15 = .ok (.newarray .int, 2) := by decide +kernel
theorem dX6_init_17 : decode cX6_init 17 = .ok (.putfield 15, 3) := by decide +kernel
theorem dX6_init_20 : decode cX6_init 20 = .ok (.aload_n 0, 1) := by decide +kernel
theorem dX6_init_21 : decode cX6_init 21 = .ok (.sipush 170, 3) := by decide +kernel
theorem dX6_init_24 : decode cX6_init 24 = .ok (.putfield 18, 3) := by decide +kernel
theorem dX6_init_27 : decode cX6_init 27 = .ok (.aload_n 0, 1) := by decide +kernel
theorem dX6_init_28 : decode cX6_init 28 = .ok (.iconst 0, 1) := by decide +kernel
theorem dX6_init_29 : decode cX6_init 29 = .ok (.putfield 22, 3) := by decide +kernel
theorem dX6_init_32 : decode cX6_init 32 = .ok (.return_, 1) := by decide +kernel
def kX6_init_0 : List (Nat × zT) := [(0, a_aload 0 1), (1, a_obj 4), (4, a_aload 0 5), (5, a_i 19 7), (7, a_newI 9), (9, a_putR 6 0 12), (12, a_aload 0 13), (13, a_i 18 15), (15, a_newI 17), (17, a_putR 6 1 20), (20, a_aload 0 21), (21, a_i 170 24), (24, a_putI 6 2 27 false), (27, a_aload 0 28), (28, a_i 0 29), (29, a_putI 6 3 32 false), (32, a_vret)]
theorem oX6_init_0 : ∀ q ∈ kX6_init_0, zSnd zty true RX6 cX6_init 1 none true q := List.forall_mem_cons.mpr ⟨ok_aload_n dX6_init_0 rfl, List.forall_mem_cons.mpr ⟨ok_obj dX6_init_1 w141 w25 w26, List.forall_mem_cons.mpr ⟨ok_aload_n dX6_init_4 rfl, List.forall_mem_cons.mpr ⟨ok_bipush dX6_init_5 (by decide), List.forall_mem_cons.mpr ⟨ok_newI dX6_init_7 rfl w44, List.forall_mem_cons.mpr ⟨ok_putR dX6_init_9 rfl rfl in6 tyX6 tyX6_ok nmX6 (by decide) rfl w142 rfl rfl (fun _ => ⟨rfl, rfl⟩), List.forall_mem_cons.mpr ⟨ok_aload_n dX6_init_12 rfl, List.forall_mem_cons.mpr ⟨ok_bipush dX6_init_13 (by decide), List.forall_mem_cons.mpr ⟨ok_newI dX6_init_15 rfl w44, List.forall_mem_cons.mpr ⟨ok_putR dX6_init_17 rfl rfl in6 tyX6 tyX6_ok nmX6 (by decide) rfl w144 rfl rfl (fun _ => ⟨rfl, rfl⟩), List.forall_mem_cons.mpr ⟨ok_aload_n dX6_init_20 rfl, List.forall_mem_cons.mpr ⟨ok_sipush dX6_init_21 (by decide), List.forall_mem_cons.mpr ⟨ok_putI (bz := false) dX6_init_24 rfl in6 tyX6 tyX6_ok nmX6 (by decide) rfl w145 rfl rfl, List.forall_mem_cons.mpr ⟨ok_aload_n dX6_init_27 rfl, List.forall_mem_cons.mpr ⟨ok_iconst dX6_init_28 (by decide), List.forall_mem_cons.mpr ⟨ok_putI (bz := false) dX6_init_29 rfl in6 tyX6 tyX6_ok nmX6 (by decide) rfl w147 rfl rfl, List.forall_mem_cons.mpr ⟨ok_vret dX6_init_32 rfl, fun _ h => absurd h List.not_mem_nil⟩⟩⟩⟩⟩⟩⟩⟩⟩⟩⟩⟩⟩⟩⟩⟩⟩
def kX6_init : List (Nat × zT) := kX6_init_0
theorem qX6_init_0 : ∀ q ∈ kX6_init_0, q ∈ kX6_init := fun _ h => h
theorem tX6_init_0 : (0, a_aload 0 1) ∈ kX6_init := qX6_init_0 _ (List.mem_of_getElem? (i := 0) rfl)
theorem tX6_init_1 : (1, a_obj 4) ∈ kX6_init := qX6_init_0 _ (List.mem_of_getElem? (i := 1) rfl)
theorem tX6_init_4 : (4, a_aload 0 5) ∈ kX6_init := qX6_init_0 _ (List.mem_of_getElem? (i := 2) rfl)
theorem tX6_init_5 : (5, a_i 19 7) ∈ kX6_init := qX6_init_0 _ (List.mem_of_getElem? (i := 3) rfl)
theorem tX6_init_7 : (7, a_newI 9) ∈ kX6_init := qX6_init_0 _ (List.mem_of_getElem? (i := 4) rfl)
theorem tX6_init_9 : (9, a_putR 6 0 12) ∈ kX6_init := qX6_init_0 _ (List.mem_of_getElem? (i := 5) rfl)
theorem tX6_init_12 : (12, a_aload 0 13) ∈ kX6_init := qX6_init_0 _ (List.mem_of_getElem? (i := 6) rfl)
theorem tX6_init_13 : (13, a_i 18 15) ∈ kX6_init := qX6_init_0 _ (List.mem_of_getElem? (i := 7) rfl)
theorem tX6_init_15 : (15, a_newI 17) ∈ kX6_init := qX6_init_0 _ (List.mem_of_getElem? (i := 8) rfl)
theorem tX6_init_17 : (17, a_putR 6 1 20) ∈ kX6_init := qX6_init_0 _ (List.mem_of_getElem? (i := 9) rfl)
theorem tX6_init_20 : (20, a_aload 0 21) ∈ kX6_init := qX6_init_0 _ (List.mem_of_getElem? (i := 10) rfl)
theorem tX6_init_21 : (21, a_i 170 24) ∈ kX6_init := qX6_init_0 _ (List.mem_of_getElem? (i := 11) rfl)
theorem tX6_init_24 : (24, a_putI 6 2 27 false) ∈ kX6_init := qX6_init_0 _ (List.mem_of_getElem? (i := 12) rfl)
theorem tX6_init_27 : (27, a_aload 0 28) ∈ kX6_init := qX6_init_0 _ (List.mem_of_getElem? (i := 13) rfl)
theorem tX6_init_28 : (28, a_i 0 29) ∈ kX6_init := qX6_init_0 _ (List.mem_of_getElem? (i := 14) rfl)
theorem tX6_init_29 : (29, a_putI 6 3 32 false) ∈ kX6_init := qX6_init_0 _ (List.mem_of_getElem? (i := 15) rfl)
theorem tX6_init_32 : (32, a_vret) ∈ kX6_init := qX6_init_0 _ (List.mem_of_getElem? (i := 16) rfl)
theorem oX6_init : ∀ q ∈ kX6_init, zSnd zty true RX6 cX6_init 1 none true q := oX6_init_0
theorem dX6_areRegisters_0 : decode cX6_areRegisters 0 = .ok (.iload_n 0, 1) := by decide +kernel
theorem dX6_areRegisters_1 : decode cX6_areRegisters 1 = .ok (.sipush 256, 3) := by decide +kernel
theorem dX6_areRegisters_4 : decode cX6_areRegisters 4 = .ok (.invokestatic 25, 3) := by decide +kernel
theorem dX6_areRegisters_7 : decode cX6_areRegisters 7 = .ok (.ifCond .eq 18, 3) := by decide +kernel
theorem dX6_areRegisters_10 : decode cX6_areRegisters 10 = .ok (.iload_n 0, 1) := by decide +kernel
theorem dX6_areRegisters_11 : decode cX6_areRegisters 11 = .ok (.iload_n 0, 1) := by decide +kernel
theorem dX6_areRegisters_12 : decode cX6_areRegisters 12 = .ok (.iconst 1, 1) := by decide +kernel
theorem dX6_areRegisters_13 : decode cX6_areRegisters 13 = .ok (.ishr, 1) := by decide +kernel
theorem dX6_areRegisters_14 : decode cX6_areRegisters 14 = .ok (.iand, 1) := by decide +kernel
theorem dX6_areRegisters_15 : decode cX6_areRegisters 15 = .ok (.bipush 85, 2) := by decide +kernel
theorem dX6_areRegisters_17 : decode cX6_areRegisters 17 = .ok (.iand, 1) := by decide +kernel
theorem dX6_areRegisters_18 : decode cX6_areRegisters 18 = .ok (.ifCond .ne 7, 3) := by decide +kernel
theorem dX6_areRegisters_21 : decode cX6_areRegisters 21 = .ok (.iconst 1, 1) := by decide +kernel
theorem dX6_areRegisters_22 : decode cX6_areRegisters 22 = .ok (.goto 4, 3) := by decide +kernel
theorem dX6_areRegisters_25 : decode cX6_areRegisters 25 = .ok (.iconst 0, 1) := by decide +kernel
theorem dX6_areRegisters_26 : decode cX6_areRegisters 26 = .ok (.ireturn, 1) := by decide +kernel
def kX6_areRegisters_0 : List (Nat × zT) := [(0, a_iload 0 1), (1, a_i 256 4), (4, a_call 128 2 7 0 0), (7, a_if_eq 25 10), (10, a_iload 0 11), (11, a_iload 0 12), (12, a_i 1 13), (13, a_ii (fun x y => x >>> (y &&& 31)) 14), (14, a_ii (fun x y => x &&& y) 15), (15, a_i 85 17), (17, a_ii (fun x y => x &&& y) 18), (18, a_if_ne 25 21), (21, a_i 1 22), (22, a_goto 26), (25, a_i 0 26), (26, a_iret true)]
theorem oX6_areRegisters_0 : ∀ q ∈ kX6_areRegisters_0, zSnd zty false RX6 cX6_areRegisters 1 (some .boolean) false q := List.forall_mem_cons.mpr ⟨ok_iload_n dX6_areRegisters_0 rfl, List.forall_mem_cons.mpr ⟨ok_sipush dX6_areRegisters_1 (by decide), List.forall_mem_cons.mpr ⟨ok_callSN dX6_areRegisters_4 rfl w443 n520 w442 w1 (by decide +kernel) (by decide), List.forall_mem_cons.mpr ⟨ok_if_eq dX6_areRegisters_7 (by decide), List.forall_mem_cons.mpr ⟨ok_iload_n dX6_areRegisters_10 rfl, List.forall_mem_cons.mpr ⟨ok_iload_n dX6_areRegisters_11 rfl, List.forall_mem_cons.mpr ⟨ok_iconst dX6_areRegisters_12 (by decide), List.forall_mem_cons.mpr ⟨ok_ishr dX6_areRegisters_13, List.forall_mem_cons.mpr ⟨ok_iand dX6_areRegisters_14, List.forall_mem_cons.mpr ⟨ok_bipush dX6_areRegisters_15 (by decide), List.forall_mem_cons.mpr ⟨ok_iand dX6_areRegisters_17, List.forall_mem_cons.mpr ⟨ok_if_ne dX6_areRegisters_18 (by decide), List.forall_mem_cons.mpr ⟨ok_iconst dX6_areRegisters_21 (by decide), List.forall_mem_cons.mpr ⟨ok_goto dX6_areRegisters_22 (by decide), List.forall_mem_cons.mpr ⟨ok_iconst dX6_areRegisters_25 (by decide), List.forall_mem_cons.mpr ⟨ok_iret (bz := true) dX6_areRegisters_26 rfl, fun _ h => absurd h List.not_mem_nil⟩⟩⟩⟩⟩⟩⟩⟩⟩⟩⟩⟩⟩⟩⟩⟩
def kX6_areRegisters : List (Nat × zT) := kX6_areRegisters_0
theorem qX6_areRegisters_0 : ∀ q ∈ kX6_areRegisters_0, q ∈ kX6_areRegisters := fun _ h => h
theorem tX6_areRegisters_0 : (0, a_iload 0 1) ∈ kX6_areRegisters := qX6_areRegisters_0 _ (List.mem_of_getElem? (i := 0) rfl)
theorem tX6_areRegisters_1 : (1, a_i 256 4) ∈ kX6_areRegisters := qX6_areRegisters_0 _ (List.mem_of_getElem? (i := 1) rfl)
theorem tX6_areRegisters_4 : (4, a_call 128 2 7 0 0) ∈ kX6_areRegisters := qX6_areRegisters_0 _ (List.mem_of_getElem? (i := 2) rfl)
theorem tX6_areRegisters_7 : (7, a_if_eq 25 10) ∈ kX6_areRegisters := qX6_areRegisters_0 _ (List.mem_of_getElem? (i := 3) rfl)
theorem tX6_areRegisters_10 : (10, a_iload 0 11) ∈ kX6_areRegisters := qX6_areRegisters_0 _ (List.mem_of_getElem? (i := 4) rfl)
theorem tX6_areRegisters_11 : (11, a_iload 0 12) ∈ kX6_areRegisters := qX6_areRegisters_0 _ (List.mem_of_getElem? (i := 5) rfl)
theorem tX6_areRegisters_12 : (12, a_i 1 13) ∈ kX6_areRegisters := qX6_areRegisters_0 _ (List.mem_of_getElem? (i := 6) rfl)
theorem tX6_areRegisters_13 : (13, a_ii (fun x y => x >>> (y &&& 31)) 14) ∈ kX6_areRegisters := qX6_areRegisters_0 _ (List.mem_of_getElem? (i := 7) rfl)
theorem tX6_areRegisters_14 : (14, a_ii (fun x y => x &&& y) 15) ∈ kX6_areRegisters := qX6_areRegisters_0 _ (List.mem_of_getElem? (i := 8) rfl)
theorem tX6_areRegisters_15 : (15, a_i 85 17) ∈ kX6_areRegisters := qX6_areRegisters_0 _ (List.mem_of_getElem? (i := 9) rfl)
theorem tX6_areRegisters_17 : (17, a_ii (fun x y => x &&& y) 18) ∈ kX6_areRegisters := qX6_areRegisters_0 _ (List.mem_of_getElem? (i := 10) rfl)
theorem tX6_areRegisters_18 : (18, a_if_ne 25 21) ∈ kX6_areRegisters := qX6_areRegisters_0 _ (List.mem_of_getElem? (i := 11) rfl)
theorem tX6_areRegisters_21 : (21, a_i 1 22) ∈ kX6_areRegisters := qX6_areRegisters_0 _ (List.mem_of_getElem? (i := 12) rfl)
theorem tX6_areRegisters_22 : (22, a_goto 26) ∈ kX6_areRegisters := qX6_areRegisters_0 _ (List.mem_of_getElem? (i := 13) rfl)
theorem tX6_areRegisters_25 : (25, a_i 0 26) ∈ kX6_areRegisters := qX6_areRegisters_0 _ (List.mem_of_getElem? (i := 14) rfl)
theorem tX6_areRegisters_26 : (26, a_iret true) ∈ kX6_areRegisters := qX6_areRegisters_0 _ (List.mem_of_getElem? (i := 15) rfl)
theorem oX6_areRegisters : ∀ q ∈ kX6_areRegisters, zSnd zty false RX6 cX6_areRegisters 1 (some .boolean) false q := oX6_areRegisters_0
theorem dX6_restart_0 : decode cX6_restart 0 = .ok (.aload_n 0, 1) := by decide +kernel
theorem dX6_restart_1 : decode cX6_restart 1 = .ok (.sipush 170, 3) := by decide +kernel
theorem dX6_restart_4 : decode cX6_restart 4 = .ok (.putfield 18, 3) := by decide +kernel
theorem dX6_restart_7 : decode cX6_restart 7 = .ok (.aload_n 0, 1) := by decide +kernel
theorem dX6_restart_8 : decode cX6_restart 8 = .ok (.iconst 0, 1) := by decide +kernel
theorem dX6_restart_9 : decode cX6_restart 9 = .ok (.putfield 22, 3) := by decide +kernel
theorem dX6_restart_12 : decode cX6_restart 12 = .ok (.return_, 1) := by decide +kernel
def kX6_restart_0 : List (Nat × zT) := [(0, a_aload 0 1), (1, a_i 170 4), (4, a_putI 6 2 7 false), (7, a_aload 0 8), (8, a_i 0 9), (9, a_putI 6 3 12 false), (12, a_vret)]
theorem oX6_restart_0 : ∀ q ∈ kX6_restart_0, zSnd zty false RX6 cX6_restart 1 none false q := List.forall_mem_cons.mpr ⟨ok_aload_n dX6_restart_0 rfl, List.forall_mem_cons.mpr ⟨ok_sipush dX6_restart_1 (by decide), List.forall_mem_cons.mpr ⟨ok_putI (bz := false) dX6_restart_4 rfl in6 tyX6 tyX6_ok nmX6 (by decide) rfl w145 rfl rfl, List.forall_mem_cons.mpr ⟨ok_aload_n dX6_restart_7 rfl, List.forall_mem_cons.mpr ⟨ok_iconst dX6_restart_8 (by decide), List.forall_mem_cons.mpr ⟨ok_putI (bz := false) dX6_restart_9 rfl in6 tyX6 tyX6_ok nmX6 (by decide) rfl w147 rfl rfl, List.forall_mem_cons.mpr ⟨ok_vret dX6_restart_12 rfl, fun _ h => absurd h List.not_mem_nil⟩⟩⟩⟩⟩⟩⟩
def kX6_restart : List (Nat × zT) := kX6_restart_0
theorem qX6_restart_0 : ∀ q ∈ kX6_restart_0, q ∈ kX6_restart := fun _ h => h
theorem tX6_restart_0 : (0, a_aload 0 1) ∈ kX6_restart := qX6_restart_0 _ (List.mem_of_getElem? (i := 0) rfl)
theorem tX6_restart_1 : (1, a_i 170 4) ∈ kX6_restart := qX6_restart_0 _ (List.mem_of_getElem? (i := 1) rfl)
theorem tX6_restart_4 : (4, a_putI 6 2 7 false) ∈ kX6_restart := qX6_restart_0 _ (List.mem_of_getElem? (i := 2) rfl)
theorem tX6_restart_7 : (7, a_aload 0 8) ∈ kX6_restart := qX6_restart_0 _ (List.mem_of_getElem? (i := 3) rfl)
theorem tX6_restart_8 : (8, a_i 0 9) ∈ kX6_restart := qX6_restart_0 _ (List.mem_of_getElem? (i := 4) rfl)
theorem tX6_restart_9 : (9, a_putI 6 3 12 false) ∈ kX6_restart := qX6_restart_0 _ (List.mem_of_getElem? (i := 5) rfl)
theorem tX6_restart_12 : (12, a_vret) ∈ kX6_restart := qX6_restart_0 _ (List.mem_of_getElem? (i := 6) rfl)
theorem oX6_restart : ∀ q ∈ kX6_restart, zSnd zty false RX6 cX6_restart 1 none false q := oX6_restart_0
theorem dX6_take_0 : decode cX6_take 0 = .ok (.iconst 0, 1) := by decide +kernel
theorem dX6_take_1 : decode cX6_take 1 = .ok (.istore 4, 2) := by decide +kernel
theorem dX6_take_3 : decode cX6_take 3 = .ok (.iload 4, 2) := by decide +kernel
theorem dX6_take_5 : decode cX6_take 5 = .ok (.bipush 6, 2) := by decide +kernel
theorem dX6_take_7 : decode cX6_take 7 = .ok (.if_icmp .ge 35, 3) := by decide +kernel
theorem dX6_take_10 : decode cX6_take 10 = .ok (.aload_n 0, 1) := by decide +kernel
theorem dX6_take_11 : decode cX6_take 11 = .ok (.getfield 9, 3) := by decide +kernel
theorem dX6_take_14 : decode cX6_take 14 = .ok (.iload 4, 2) := by decide +kernel
theorem dX6_take_16 : decode cX6_take 16 = .ok (.iload_n 3, 1) := by decide +kernel
theorem dX6_take_17 : decode cX6_take 17 = .ok (.iload 4, 2) := by decide +kernel
theorem dX6_take_19 : decode cX6_take 19 = .ok (.invokestatic 29, 3) := by decide +kernel
theorem dX6_take_22 : decode cX6_take 22 = .ok (.ifCond .eq 7, 3) := by decide +kernel
theorem dX6_take_25 : decode cX6_take 25 = .ok (.iconst 2, 1) := by decide +kernel
theorem dX6_take_26 : decode cX6_take 26 = .ok (.goto 9, 3) := by decide +kernel
theorem dX6_take_29 : decode cX6_take 29 = .ok (.iload_n 2, 1) := by decide +kernel
theorem dX6_take_30 : decode cX6_take 30 = .ok (.iload 4, 2) := by decide +kernel
theorem dX6_take_32 : decode cX6_take 32 = .ok (.ishr, 1) := by decide +kernel
theorem dX6_take_33 : decode cX6_take 33 = .ok (.iconst 1, 1) := by decide +kernel
theorem dX6_take_34 : decode cX6_take 34 = .ok (.iand, 1) := by decide +kernel
theorem dX6_take_35 : decode cX6_take 35 = .ok (.iastore, 1) := by decide +kernel
theorem dX6_take_36 : decode cX6_take 36 = .ok (.iinc 4 1, 3) := by decide +kernel
theorem dX6_take_39 : decode cX6_take 39 = .ok (.goto (-36), 3) := by decide +kernel
theorem dX6_take_42 : decode cX6_take 42 = .ok (.bipush 6, 2) := by decide +kernel
theorem dX6_take_44 : decode cX6_take 44 = .ok (.istore 4, 2) := by decide +kernel
theorem dX6_take_46 : decode cX6_take 46 = .ok (.iload 4, 2) := by decide +kernel
theorem dX6_take_48 : decode cX6_take 48 = .ok (.bipush 15, 2) := by decide +kernel
theorem dX6_take_50 : decode cX6_take 50 = .ok (.if_icmp .ge 17, 3) := by decide +kernel
theorem dX6_take_53 : decode cX6_take 53 = .ok (.aload_n 0, 1) := by decide +kernel
theorem dX6_take_54 : decode cX6_take 54 = .ok (.getfield 9, 3) := by decide +kernel
theorem dX6_take_57 : decode cX6_take 57 = .ok (.iload 4, 2) := by decide +kernel
theorem dX6_take_59 : decode cX6_take 59 = .ok (.iconst 2, 1) := by decide +kernel
theorem dX6_take_60 : decode cX6_take 60 = .ok (.iastore, 1) := by decide +kernel
theorem dX6_take_61 : decode cX6_take 61 = .ok (.iinc 4 1, 3) := by decide +kernel
theorem dX6_take_64 : decode cX6_take 64 = .ok (.goto (-18), 3) := by decide +kernel
theorem dX6_take_67 : decode cX6_take 67 = .ok (.iconst 0, 1) := by decide +kernel
theorem dX6_take_68 : decode cX6_take 68 = .ok (.istore 4, 2) := by decide +kernel
theorem dX6_take_70 : decode cX6_take 70 = .ok (.iload 4, 2) := by decide +kernel
theorem dX6_take_72 : decode cX6_take 72 = .ok (.iconst 4, 1) := by decide +kernel
theorem dX6_take_73 : decode cX6_take 73 = .ok (.if_icmp .ge 30, 3) := by decide +kernel
theorem dX6_take_76 : decode cX6_take 76 = .ok (.aload_n 0, 1) := by decide +kernel
theorem dX6_take_77 : decode cX6_take 77 = .ok (.getfield 9, 3) := by decide +kernel
theorem dX6_take_80 : decode cX6_take 80 = .ok (.bipush 15, 2) := by decide +kernel
theorem dX6_take_82 : decode cX6_take 82 = .ok (.iload 4, 2) := by decide +kernel
theorem dX6_take_84 : decode cX6_take 84 = .ok (.iadd, 1) := by decide +kernel
theorem dX6_take_85 : decode cX6_take 85 = .ok (.aload_n 0, 1) := by decide +kernel
theorem dX6_take_86 : decode cX6_take 86 = .ok (.getfield 18, 3) := by decide +kernel
theorem dX6_take_89 : decode cX6_take 89 = .ok (.iconst 2, 1) := by decide +kernel
theorem dX6_take_90 : decode cX6_take 90 = .ok (.iload 4, 2) := by decide +kernel
theorem dX6_take_92 : decode cX6_take 92 = .ok (.imul, 1) := by decide +kernel
theorem dX6_take_93 : decode cX6_take 93 = .ok (.ishr, 1) := by decide +kernel
theorem dX6_take_94 : decode cX6_take 94 = .ok (.iconst 3, 1) := by decide +kernel
theorem dX6_take_95 : decode cX6_take 95 = .ok (.iand, 1) := by decide +kernel
theorem dX6_take_96 : decode cX6_take 96 = .ok (.iastore, 1) := by decide +kernel
theorem dX6_take_97 : decode cX6_take 97 = .ok (.iinc 4 1, 3) := by decide +kernel
theorem dX6_take_100 : decode cX6_take 100 = .ok (.goto (-30), 3) := by decide +kernel
theorem dX6_take_103 : decode cX6_take 103 = .ok (.iconst 0, 1) := by decide +kernel
theorem dX6_take_104 : decode cX6_take 104 = .ok (.istore 4, 2) := by decide +kernel
theorem dX6_take_106 : decode cX6_take 106 = .ok (.iload 4, 2) := by decide +kernel
theorem dX6_take_108 : decode cX6_take 108 = .ok (.aload_n 1, 1) := by decide +kernel
theorem dX6_take_109 : decode cX6_take 109 = .ok (.getfield 32, 3) := by decide +kernel
theorem dX6_take_112 : decode cX6_take 112 = .ok (.if_icmp .ge 77, 3) := by decide +kernel
theorem dX6_take_115 : decode cX6_take 115 = .ok (.aload_n 1, 1) := by decide +kernel
theorem dX6_take_116 : decode cX6_take 116 = .ok (.getfield 37, 3) := by decide +kernel
theorem dX6_take_119 : decode cX6_take 119 = .ok (.iload 4, 2) := by decide +kernel
theorem dX6_take_121 : decode cX6_take 121 = .ok (.iaload, 1) := by decide +kernel
theorem dX6_take_122 : decode cX6_take 122 = .ok (.istore 5, 2) := by decide +kernel
theorem dX6_take_124 : decode cX6_take 124 = .ok (.aload_n 0, 1) := by decide +kernel
theorem dX6_take_125 : decode cX6_take 125 = .ok (.aload_n 1, 1) := by decide +kernel
theorem dX6_take_126 : decode cX6_take 126 = .ok (.iload 5, 2) := by decide +kernel
theorem dX6_take_128 : decode cX6_take 128 = .ok (.invokevirtual 40, 3) := by decide +kernel
theorem dX6_take_131 : decode cX6_take 131 = .ok (.istore 6, 2) := by decide +kernel
theorem dX6_take_133 : decode cX6_take 133 = .ok (.iload 5, 2) := by decide +kernel
theorem dX6_take_135 : decode cX6_take 135 = .ok (.invokestatic 44, 3) := by decide +kernel
theorem dX6_take_138 : decode cX6_take 138 = .ok (.ifCond .eq 15, 3) := by decide +kernel
theorem dX6_take_141 : decode cX6_take 141 = .ok (.aload_n 0, 1) := by decide +kernel
theorem dX6_take_142 : decode cX6_take 142 = .ok (.getfield 9, 3) := by decide +kernel
theorem dX6_take_145 : decode cX6_take 145 = .ok (.iload 5, 2) := by decide +kernel
theorem dX6_take_147 : decode cX6_take 147 = .ok (.iload 6, 2) := by decide +kernel
theorem dX6_take_149 : decode cX6_take 149 = .ok (.iastore, 1) := by decide +kernel
theorem dX6_take_150 : decode cX6_take 150 = .ok (.goto 33, 3) := by decide +kernel
theorem dX6_take_153 : decode cX6_take 153 = .ok (.iconst 2, 1) := by decide +kernel
theorem dX6_take_154 : decode cX6_take 154 = .ok (.iload 5, 2) := by decide +kernel
theorem dX6_take_156 : decode cX6_take 156 = .ok (.bipush 15, 2) := by decide +kernel
theorem dX6_take_158 : decode cX6_take 158 = .ok (.isub, 1) := by decide +kernel
theorem dX6_take_159 : decode cX6_take 159 = .ok (.imul, 1) := by decide +kernel
theorem dX6_take_160 : decode cX6_take 160 = .ok (.istore 7, 2) := by decide +kernel
theorem dX6_take_162 : decode cX6_take 162 = .ok (.aload_n 0, 1) := by decide +kernel
theorem dX6_take_163 : decode cX6_take 163 = .ok (.aload_n 0, 1) := by decide +kernel
theorem dX6_take_164 : decode cX6_take 164 = .ok (.getfield 18, 3) := by decide +kernel
theorem dX6_take_167 : decode cX6_take 167 = .ok (.iconst 3, 1) := by decide +kernel
theorem dX6_take_168 : decode cX6_take 168 = .ok (.iload 7, 2) := by decide +kernel
theorem dX6_take_170 : decode cX6_take 170 = .ok (.ishl, 1) := by decide +kernel
theorem dX6_take_171 : decode cX6_take 171 = .ok (.iconst (-1), 1) := by decide +kernel
theorem dX6_take_172 : decode cX6_take 172 = .ok (.ixor, 1) := by decide +kernel
theorem dX6_take_173 : decode cX6_take 173 = .ok (.iand, 1) := by decide +kernel
theorem dX6_take_174 : decode cX6_take 174 = .ok (.iload 6, 2) := by decide +kernel
theorem dX6_take_176 : decode cX6_take 176 = .ok (.iload 7, 2) := by decide +kernel
theorem dX6_take_178 : decode cX6_take 178 = .ok (.ishl, 1) := by decide +kernel
theorem dX6_take_179 : decode cX6_take 179 = .ok (.ior, 1) := by decide +kernel
theorem dX6_take_180 : decode cX6_take 180 = .ok (.putfield 18, 3) := by decide +kernel
theorem dX6_take_183 : decode cX6_take 183 = .ok (.iinc 4 1, 3) := by decide +kernel
theorem dX6_take_186 : decode cX6_take 186 = .ok (.goto (-80), 3) := by decide +kernel
theorem dX6_take_189 : decode cX6_take 189 = .ok (.aload_n 0, 1) := by decide +kernel
theorem dX6_take_190 : decode cX6_take 190 = .ok (.dup, 1) := by decide +kernel
theorem dX6_take_191 : decode cX6_take 191 = .ok (.getfield 22, 3) := by decide +kernel
theorem dX6_take_194 : decode cX6_take 194 = .ok (.iconst 1, 1) := by decide +kernel
theorem dX6_take_195 : decode cX6_take 195 = .ok (.iadd, 1) := by decide +kernel
theorem dX6_take_196 : decode cX6_take 196 = .ok (.putfield 22, 3) := by decide +kernel
theorem dX6_take_199 : decode cX6_take 199 = .ok (.aload_n 0, 1) := by decide +kernel
theorem dX6_take_200 : decode cX6_take 200 = .ok (.getfield 18, 3) := by decide +kernel
theorem dX6_take_203 : decode cX6_take 203 = .ok (.ireturn, 1) := by decide +kernel
def kX6_take_0 : List (Nat × zT) := [(0, a_i 0 1), (1, a_istore 4 3), (3, a_iload 4 5), (5, a_i 6 7), (7, a_ic_ge 42 10), (10, a_aload 0 11), (11, a_getR 6 0 14), (14, a_iload 4 16), (16, a_iload 3 17), (17, a_iload 4 19), (19, a_call 132 2 22 0 0), (22, a_if_eq 29 25), (25, a_i 2 26), (26, a_goto 35), (29, a_iload 2 30), (30, a_iload 4 32), (32, a_ii (fun x y => x >>> (y &&& 31)) 33), (33, a_i 1 34), (34, a_ii (fun x y => x &&& y) 35), (35, a_iast 36), (36, a_iinc 4 1 39), (39, a_goto 3), (42, a_i 6 44), (44, a_istore 4 46)]
theorem oX6_take_0 : ∀ q ∈ kX6_take_0, zSnd zty false RX6 cX6_take 8 (some .int) false q := List.forall_mem_cons.mpr ⟨ok_iconst dX6_take_0 (by decide), List.forall_mem_cons.mpr ⟨ok_istore dX6_take_1 (by decide), List.forall_mem_cons.mpr ⟨ok_iload dX6_take_3, List.forall_mem_cons.mpr ⟨ok_bipush dX6_take_5 (by decide), List.forall_mem_cons.mpr ⟨ok_ic_ge dX6_take_7 (by decide), List.forall_mem_cons.mpr ⟨ok_aload_n dX6_take_10 rfl, List.forall_mem_cons.mpr ⟨ok_getR dX6_take_11 rfl in6 (by decide) rfl w142, List.forall_mem_cons.mpr ⟨ok_iload dX6_take_14, List.forall_mem_cons.mpr ⟨ok_iload_n dX6_take_16 rfl, List.forall_mem_cons.mpr ⟨ok_iload dX6_take_17, List.forall_mem_cons.mpr ⟨ok_callSN dX6_take_19 rfl w433 n530 w432 w1 (by decide +kernel) (by decide), List.forall_mem_cons.mpr ⟨ok_if_eq dX6_take_22 (by decide), List.forall_mem_cons.mpr ⟨ok_iconst dX6_take_25 (by decide), List.forall_mem_cons.mpr ⟨ok_goto dX6_take_26 (by decide), List.forall_mem_cons.mpr ⟨ok_iload_n dX6_take_29 rfl, List.forall_mem_cons.mpr ⟨ok_iload dX6_take_30, List.forall_mem_cons.mpr ⟨ok_ishr dX6_take_32, List.forall_mem_cons.mpr ⟨ok_iconst dX6_take_33 (by decide), List.forall_mem_cons.mpr ⟨ok_iand dX6_take_34, List.forall_mem_cons.mpr ⟨ok_iast dX6_take_35, List.forall_mem_cons.mpr ⟨ok_iinc dX6_take_36 (by decide) (by decide), List.forall_mem_cons.mpr ⟨ok_goto dX6_take_39 (by decide), List.forall_mem_cons.mpr ⟨ok_bipush dX6_take_42 (by decide), List.forall_mem_cons.mpr ⟨ok_istore dX6_take_44 (by decide), fun _ h => absurd h List.not_mem_nil⟩⟩⟩⟩⟩⟩⟩⟩⟩⟩⟩⟩⟩⟩⟩⟩⟩⟩⟩⟩⟩⟩⟩⟩
def kX6_take_1 : List (Nat × zT) := [(46, a_iload 4 48), (48, a_i 15 50), (50, a_ic_ge 67 53), (53, a_aload 0 54), (54, a_getR 6 0 57), (57, a_iload 4 59), (59, a_i 2 60), (60, a_iast 61), (61, a_iinc 4 1 64), (64, a_goto 46), (67, a_i 0 68), (68, a_istore 4 70), (70, a_iload 4 72), (72, a_i 4 73), (73, a_ic_ge 103 76), (76, a_aload 0 77), (77, a_getR 6 0 80), (80, a_i 15 82), (82, a_iload 4 84), (84, a_ii (fun x y => x + y) 85), (85, a_aload 0 86), (86, a_getI 6 2 89), (89, a_i 2 90), (90, a_iload 4 92)]
theorem oX6_take_1 : ∀ q ∈ kX6_take_1, zSnd zty false RX6 cX6_take 8 (some .int) false q := List.forall_mem_cons.mpr ⟨ok_iload dX6_take_46, List.forall_mem_cons.mpr ⟨ok_bipush dX6_take_48 (by decide), List.forall_mem_cons.mpr ⟨ok_ic_ge dX6_take_50 (by decide), List.forall_mem_cons.mpr ⟨ok_aload_n dX6_take_53 rfl, List.forall_mem_cons.mpr ⟨ok_getR dX6_take_54 rfl in6 (by decide) rfl w142, List.forall_mem_cons.mpr ⟨ok_iload dX6_take_57, List.forall_mem_cons.mpr ⟨ok_iconst dX6_take_59 (by decide), List.forall_mem_cons.mpr ⟨ok_iast dX6_take_60, List.forall_mem_cons.mpr ⟨ok_iinc dX6_take_61 (by decide) (by decide), List.forall_mem_cons.mpr ⟨ok_goto dX6_take_64 (by decide), List.forall_mem_cons.mpr ⟨ok_iconst dX6_take_67 (by decide), List.forall_mem_cons.mpr ⟨ok_istore dX6_take_68 (by decide), List.forall_mem_cons.mpr ⟨ok_iload dX6_take_70, List.forall_mem_cons.mpr ⟨ok_iconst dX6_take_72 (by decide), List.forall_mem_cons.mpr ⟨ok_ic_ge dX6_take_73 (by decide), List.forall_mem_cons.mpr ⟨ok_aload_n dX6_take_76 rfl, List.forall_mem_cons.mpr ⟨ok_getR dX6_take_77 rfl in6 (by decide) rfl w142, List.forall_mem_cons.mpr ⟨ok_bipush dX6_take_80 (by decide), List.forall_mem_cons.mpr ⟨ok_iload dX6_take_82, List.forall_mem_cons.mpr ⟨ok_iadd dX6_take_84, List.forall_mem_cons.mpr ⟨ok_aload_n dX6_take_85 rfl, List.forall_mem_cons.mpr ⟨ok_getI dX6_take_86 rfl in6 (by decide) rfl w145, List.forall_mem_cons.mpr ⟨ok_iconst dX6_take_89 (by decide), List.forall_mem_cons.mpr ⟨ok_iload dX6_take_90, fun _ h => absurd h List.not_mem_nil⟩⟩⟩⟩⟩⟩⟩⟩⟩⟩⟩⟩⟩⟩⟩⟩⟩⟩⟩⟩⟩⟩⟩⟩
def kX6_take_2 : List (Nat × zT) := [(92, a_ii (fun x y => x * y) 93), (93, a_ii (fun x y => x >>> (y &&& 31)) 94), (94, a_i 3 95), (95, a_ii (fun x y => x &&& y) 96), (96, a_iast 97), (97, a_iinc 4 1 100), (100, a_goto 70), (103, a_i 0 104), (104, a_istore 4 106), (106, a_iload 4 108), (108, a_aload 1 109), (109, a_getI 10 7 112), (112, a_ic_ge 189 115), (115, a_aload 1 116), (116, a_getR 10 5 119), (119, a_iload 4 121), (121, a_iald 122), (122, a_istore 5 124), (124, a_aload 0 125), (125, a_aload 1 126), (126, a_iload 5 128), (128, a_callV 6 55 3 131 0 0), (131, a_istore 6 133), (133, a_iload 5 135)]
theorem oX6_take_2 : ∀ q ∈ kX6_take_2, zSnd zty false RX6 cX6_take 8 (some .int) false q := List.forall_mem_cons.mpr ⟨ok_imul dX6_take_92, List.forall_mem_cons.mpr ⟨ok_ishr dX6_take_93, List.forall_mem_cons.mpr ⟨ok_iconst dX6_take_94 (by decide), List.forall_mem_cons.mpr ⟨ok_iand dX6_take_95, List.forall_mem_cons.mpr ⟨ok_iast dX6_take_96, List.forall_mem_cons.mpr ⟨ok_iinc dX6_take_97 (by decide) (by decide), List.forall_mem_cons.mpr ⟨ok_goto dX6_take_100 (by decide), List.forall_mem_cons.mpr ⟨ok_iconst dX6_take_103 (by decide), List.forall_mem_cons.mpr ⟨ok_istore dX6_take_104 (by decide), List.forall_mem_cons.mpr ⟨ok_iload dX6_take_106, List.forall_mem_cons.mpr ⟨ok_aload_n dX6_take_108 rfl, List.forall_mem_cons.mpr ⟨ok_getI dX6_take_109 rfl in10 (by decide) rfl w91, List.forall_mem_cons.mpr ⟨ok_ic_ge dX6_take_112 (by decide), List.forall_mem_cons.mpr ⟨ok_aload_n dX6_take_115 rfl, List.forall_mem_cons.mpr ⟨ok_getR dX6_take_116 rfl in10 (by decide) rfl w82, List.forall_mem_cons.mpr ⟨ok_iload dX6_take_119, List.forall_mem_cons.mpr ⟨ok_iald dX6_take_121, List.forall_mem_cons.mpr ⟨ok_istore dX6_take_122 (by decide), List.forall_mem_cons.mpr ⟨ok_aload_n dX6_take_124 rfl, List.forall_mem_cons.mpr ⟨ok_aload_n dX6_take_125 rfl, List.forall_mem_cons.mpr ⟨ok_iload dX6_take_126, List.forall_mem_cons.mpr ⟨ok_callV dX6_take_128 rfl rfl w534 w531 w533 w5 s5 (by decide +kernel) (by decide), List.forall_mem_cons.mpr ⟨ok_istore dX6_take_131 (by decide), List.forall_mem_cons.mpr ⟨ok_iload dX6_take_133, fun _ h => absurd h List.not_mem_nil⟩⟩⟩⟩⟩⟩⟩⟩⟩⟩⟩⟩⟩⟩⟩⟩⟩⟩⟩⟩⟩⟩⟩⟩
def kX6_take_3 : List (Nat × zT) := [(135, a_call 131 1 138 0 0), (138, a_if_eq 153 141), (141, a_aload 0 142), (142, a_getR 6 0 145), (145, a_iload 5 147), (147, a_iload 6 149), (149, a_iast 150), (150, a_goto 183), (153, a_i 2 154), (154, a_iload 5 156), (156, a_i 15 158), (158, a_ii (fun x y => x - y) 159), (159, a_ii (fun x y => x * y) 160), (160, a_istore 7 162), (162, a_aload 0 163), (163, a_aload 0 164), (164, a_getI 6 2 167), (167, a_i 3 168), (168, a_iload 7 170), (170, a_ii (fun x y => x <<< (y &&& 31)) 171), (171, a_i (-1) 172), (172, a_ii (fun x y => x ^^^ y) 173), (173, a_ii (fun x y => x &&& y) 174), (174, a_iload 6 176)]
theorem oX6_take_3 : ∀ q ∈ kX6_take_3, zSnd zty false RX6 cX6_take 8 (some .int) false q := List.forall_mem_cons.mpr ⟨ok_callSN dX6_take_135 rfl w555 n553 w554 w1 (by decide +kernel) (by decide), List.forall_mem_cons.mpr ⟨ok_if_eq dX6_take_138 (by decide), List.forall_mem_cons.mpr ⟨ok_aload_n dX6_take_141 rfl, List.forall_mem_cons.mpr ⟨ok_getR dX6_take_142 rfl in6 (by decide) rfl w142, List.forall_mem_cons.mpr ⟨ok_iload dX6_take_145, List.forall_mem_cons.mpr ⟨ok_iload dX6_take_147, List.forall_mem_cons.mpr ⟨ok_iast dX6_take_149, List.forall_mem_cons.mpr ⟨ok_goto dX6_take_150 (by decide), List.forall_mem_cons.mpr ⟨ok_iconst dX6_take_153 (by decide), List.forall_mem_cons.mpr ⟨ok_iload dX6_take_154, List.forall_mem_cons.mpr ⟨ok_bipush dX6_take_156 (by decide), List.forall_mem_cons.mpr ⟨ok_isub dX6_take_158, List.forall_mem_cons.mpr ⟨ok_imul dX6_take_159, List.forall_mem_cons.mpr ⟨ok_istore dX6_take_160 (by decide), List.forall_mem_cons.mpr ⟨ok_aload_n dX6_take_162 rfl, List.forall_mem_cons.mpr ⟨ok_aload_n dX6_take_163 rfl, List.forall_mem_cons.mpr ⟨ok_getI dX6_take_164 rfl in6 (by decide) rfl w145, List.forall_mem_cons.mpr ⟨ok_iconst dX6_take_167 (by decide), List.forall_mem_cons.mpr ⟨ok_iload dX6_take_168, List.forall_mem_cons.mpr ⟨ok_ishl dX6_take_170, List.forall_mem_cons.mpr ⟨ok_iconst dX6_take_171 (by decide), List.forall_mem_cons.mpr ⟨ok_ixor dX6_take_172, List.forall_mem_cons.mpr ⟨ok_iand dX6_take_173, List.forall_mem_cons.mpr ⟨ok_iload dX6_take_174, fun _ h => absurd h List.not_mem_nil⟩⟩⟩⟩⟩⟩⟩⟩⟩⟩⟩⟩⟩⟩⟩⟩⟩⟩⟩⟩⟩⟩⟩⟩
def kX6_take_4 : List (Nat × zT) := [(176, a_iload 7 178), (178, a_ii (fun x y => x <<< (y &&& 31)) 179), (179, a_ii (fun x y => x ||| y) 180), (180, a_putI 6 2 183 false), (183, a_iinc 4 1 186), (186, a_goto 106), (189, a_aload 0 190), (190, a_dup 191), (191, a_getI 6 3 194), (194, a_i 1 195), (195, a_ii (fun x y => x + y) 196), (196, a_putI 6 3 199 false), (199, a_aload 0 200), (200, a_getI 6 2 203), (203, a_iret false)]
theorem oX6_take_4 : ∀ q ∈ kX6_take_4, zSnd zty false RX6 cX6_take 8 (some .int) false q := List.forall_mem_cons.mpr ⟨ok_iload dX6_take_176, List.forall_mem_cons.mpr ⟨ok_ishl dX6_take_178, List.forall_mem_cons.mpr ⟨ok_ior dX6_take_179, List.forall_mem_cons.mpr ⟨ok_putI (bz := false) dX6_take_180 rfl in6 tyX6 tyX6_ok nmX6 (by decide) rfl w145 rfl rfl, List.forall_mem_cons.mpr ⟨ok_iinc dX6_take_183 (by decide) (by decide), List.forall_mem_cons.mpr ⟨ok_goto dX6_take_186 (by decide), List.forall_mem_cons.mpr ⟨ok_aload_n dX6_take_189 rfl, List.forall_mem_cons.mpr ⟨ok_dup dX6_take_190, List.forall_mem_cons.mpr ⟨ok_getI dX6_take_191 rfl in6 (by decide) rfl w147, List.forall_mem_cons.mpr ⟨ok_iconst dX6_take_194 (by decide), List.forall_mem_cons.mpr ⟨ok_iadd dX6_take_195, List.forall_mem_cons.mpr ⟨ok_putI (bz := false) dX6_take_196 rfl in6 tyX6 tyX6_ok nmX6 (by decide) rfl w147 rfl rfl, List.forall_mem_cons.mpr ⟨ok_aload_n dX6_take_199 rfl, List.forall_mem_cons.mpr ⟨ok_getI dX6_take_200 rfl in6 (by decide) rfl w145, List.forall_mem_cons.mpr ⟨ok_iret (bz := false) dX6_take_203 rfl, fun _ h => absurd h List.not_mem_nil⟩⟩⟩⟩⟩⟩⟩⟩⟩⟩⟩⟩⟩⟩⟩
def kX6_take : List (Nat × zT) := kX6_take_0 ++ (kX6_take_1 ++ (kX6_take_2 ++ (kX6_take_3 ++ (kX6_take_4))))
theorem qX6_take_0 : ∀ q ∈ kX6_take_0, q ∈ kX6_take := fun _ h => (List.mem_append_left _ h)
theorem tX6_take_0 : (0, a_i 0 1) ∈ kX6_take := qX6_take_0 _ (List.mem_of_getElem? (i := 0) rfl)
theorem tX6_take_1 : (1, a_istore 4 3) ∈ kX6_take := qX6_take_0 _ (List.mem_of_getElem? (i := 1) rfl)
theorem tX6_take_3 : (3, a_iload 4 5) ∈ kX6_take := qX6_take_0 _ (List.mem_of_getElem? (i := 2) rfl)
theorem tX6_take_5 : (5, a_i 6 7) ∈ kX6_take := qX6_take_0 _ (List.mem_of_getElem? (i := 3) rfl)
theorem tX6_take_7 : (7, a_ic_ge 42 10) ∈ kX6_take := qX6_take_0 _ (List.mem_of_getElem? (i := 4) rfl)
theorem tX6_take_10 : (10, a_aload 0 11) ∈ kX6_take := qX6_take_0 _ (List.mem_of_getElem? (i := 5) rfl)
theorem tX6_take_11 : (11, a_getR 6 0 14) ∈ kX6_take := qX6_take_0 _ (List.mem_of_getElem? (i := 6) rfl)
theorem tX6_take_14 : (14, a_iload 4 16) ∈ kX6_take := qX6_take_0 _ (List.mem_of_getElem? (i := 7) rfl)
theorem tX6_take_16 : (16, a_iload 3 17) ∈ kX6_take := qX6_take_0 _ (List.mem_of_getElem? (i := 8) rfl)
theorem tX6_take_17 : (17, a_iload 4 19) ∈ kX6_take := qX6_take_0 _ (List.mem_of_getElem? (i := 9) rfl)
theorem tX6_take_19 : (19, a_call 132 2 22 0 0) ∈ kX6_take := qX6_take_0 _ (List.mem_of_getElem? (i := 10) rfl)
theorem tX6_take_22 : (22, a_if_eq 29 25) ∈ kX6_take := qX6_take_0 _ (List.mem_of_getElem? (i := 11) rfl)
theorem tX6_take_25 : (25, a_i 2 26) ∈ kX6_take := qX6_take_0 _ (List.mem_of_getElem? (i := 12) rfl)
theorem tX6_take_26 : (26, a_goto 35) ∈ kX6_take := qX6_take_0 _ (List.mem_of_getElem? (i := 13) rfl)
theorem tX6_take_29 : (29, a_iload 2 30) ∈ kX6_take := qX6_take_0 _ (List.mem_of_getElem? (i := 14) rfl)
theorem tX6_take_30 : (30, a_iload 4 32) ∈ kX6_take := qX6_take_0 _ (List.mem_of_getElem? (i := 15) rfl)
theorem tX6_take_32 : (32, a_ii (fun x y => x >>> (y &&& 31)) 33) ∈ kX6_take := qX6_take_0 _ (List.mem_of_getElem? (i := 16) rfl)
theorem tX6_take_33 : (33, a_i 1 34) ∈ kX6_take := qX6_take_0 _ (List.mem_of_getElem? (i := 17) rfl)
theorem tX6_take_34 : (34, a_ii (fun x y => x &&& y) 35) ∈ kX6_take := qX6_take_0 _ (List.mem_of_getElem? (i := 18) rfl)
theorem tX6_take_35 : (35, a_iast 36) ∈ kX6_take := qX6_take_0 _ (List.mem_of_getElem? (i := 19) rfl)
theorem tX6_take_36 : (36, a_iinc 4 1 39) ∈ kX6_take := qX6_take_0 _ (List.mem_of_getElem? (i := 20) rfl)
theorem tX6_take_39 : (39, a_goto 3) ∈ kX6_take := qX6_take_0 _ (List.mem_of_getElem? (i := 21) rfl)
theorem tX6_take_42 : (42, a_i 6 44) ∈ kX6_take := qX6_take_0 _ (List.mem_of_getElem? (i := 22) rfl)
theorem tX6_take_44 : (44, a_istore 4 46) ∈ kX6_take := qX6_take_0 _ (List.mem_of_getElem? (i := 23) rfl)
theorem qX6_take_1 : ∀ q ∈ kX6_take_1, q ∈ kX6_take := fun _ h => (List.mem_append_right _ (List.mem_append_left _ h))
theorem tX6_take_46 : (46, a_iload 4 48) ∈ kX6_take := qX6_take_1 _ (List.mem_of_getElem? (i := 0) rfl)
theorem tX6_take_48 : (48, a_i 15 50) ∈ kX6_take := qX6_take_1 _ (List.mem_of_getElem? (i := 1) rfl)
theorem tX6_take_50 : (50, a_ic_ge 67 53) ∈ kX6_take := qX6_take_1 _ (List.mem_of_getElem? (i := 2) rfl)
theorem tX6_take_53 : (53, a_aload 0 54) ∈ kX6_take := qX6_take_1 _ (List.mem_of_getElem? (i := 3) rfl)
theorem tX6_take_54 : (54, a_getR 6 0 57) ∈ kX6_take := qX6_take_1 _ (List.mem_of_getElem? (i := 4) rfl)
theorem tX6_take_57 : (57, a_iload 4 59) ∈ kX6_take := qX6_take_1 _ (List.mem_of_getElem? (i := 5) rfl)
theorem tX6_take_59 : (59, a_i 2 60) ∈ kX6_take := qX6_take_1 _ (List.mem_of_getElem? (i := 6) rfl)
theorem tX6_take_60 : (60, a_iast 61) ∈ kX6_take := qX6_take_1 _ (List.mem_of_getElem? (i := 7) rfl)
theorem tX6_take_61 : (61, a_iinc 4 1 64) ∈ kX6_take := qX6_take_1 _ (List.mem_of_getElem? (i := 8) rfl)
theorem tX6_take_64 : (64, a_goto 46) ∈ kX6_take := qX6_take_1 _ (List.mem_of_getElem? (i := 9) rfl)
theorem tX6_take_67 : (67, a_i 0 68) ∈ kX6_take := qX6_take_1 _ (List.mem_of_getElem? (i := 10) rfl)
theorem tX6_take_68 : (68, a_istore 4 70) ∈ kX6_take := qX6_take_1 _ (List.mem_of_getElem? (i := 11) rfl)
theorem tX6_take_70 : (70, a_iload 4 72) ∈ kX6_take := qX6_take_1 _ (List.mem_of_getElem? (i := 12) rfl)
theorem tX6_take_72 : (72, a_i 4 73) ∈ kX6_take := qX6_take_1 _ (List.mem_of_getElem? (i := 13) rfl)
theorem tX6_take_73 : (73, a_ic_ge 103 76) ∈ kX6_take := qX6_take_1 _ (List.mem_of_getElem? (i := 14) rfl)
theorem tX6_take_76 : (76, a_aload 0 77) ∈ kX6_take := qX6_take_1 _ (List.mem_of_getElem? (i := 15) rfl)
theorem tX6_take_77 : (77, a_getR 6 0 80) ∈ kX6_take := qX6_take_1 _ (List.mem_of_getElem? (i := 16) rfl)
theorem tX6_take_80 : (80, a_i 15 82) ∈ kX6_take := qX6_take_1 _ (List.mem_of_getElem? (i := 17) rfl)
theorem tX6_take_82 : (82, a_iload 4 84) ∈ kX6_take := qX6_take_1 _ (List.mem_of_getElem? (i := 18) rfl)
theorem tX6_take_84 : (84, a_ii (fun x y => x + y) 85) ∈ kX6_take := qX6_take_1 _ (List.mem_of_getElem? (i := 19) rfl)
theorem tX6_take_85 : (85, a_aload 0 86) ∈ kX6_take := qX6_take_1 _ (List.mem_of_getElem? (i := 20) rfl)
theorem tX6_take_86 : (86, a_getI 6 2 89) ∈ kX6_take := qX6_take_1 _ (List.mem_of_getElem? (i := 21) rfl)
theorem tX6_take_89 : (89, a_i 2 90) ∈ kX6_take := qX6_take_1 _ (List.mem_of_getElem? (i := 22) rfl)
theorem tX6_take_90 : (90, a_iload 4 92) ∈ kX6_take := qX6_take_1 _ (List.mem_of_getElem? (i := 23) rfl)
theorem qX6_take_2 : ∀ q ∈ kX6_take_2, q ∈ kX6_take := fun _ h => (List.mem_append_right _ (List.mem_append_right _ (List.mem_append_left _ h)))
theorem tX6_take_92 : (92, a_ii (fun x y => x * y) 93) ∈ kX6_take := qX6_take_2 _ (List.mem_of_getElem? (i := 0) rfl)
theorem tX6_take_93 : (93, a_ii (fun x y => x >>> (y &&& 31)) 94) ∈ kX6_take := qX6_take_2 _ (List.mem_of_getElem? (i := 1) rfl)
theorem tX6_take_94 : (94, a_i 3 95) ∈ kX6_take := qX6_take_2 _ (List.mem_of_getElem? (i := 2) rfl)
theorem tX6_take_95 : (95, a_ii (fun x y => x &&& y) 96) ∈ kX6_take := qX6_take_2 _ (List.mem_of_getElem? (i := 3) rfl)
theorem tX6_take_96 : (96, a_iast 97) ∈ kX6_take := qX6_take_2 _ (List.mem_of_getElem? (i := 4) rfl)
theorem tX6_take_97 : (97, a_iinc 4 1 100) ∈ kX6_take := qX6_take_2 _ (List.mem_of_getElem? (i := 5) rfl)
theorem tX6_take_100 : (100, a_goto 70) ∈ kX6_take := qX6_take_2 _ (List.mem_of_getElem? (i := 6) rfl)
theorem tX6_take_103 : (103, a_i 0 104) ∈ kX6_take := qX6_take_2 _ (List.mem_of_getElem? (i := 7) rfl)
theorem tX6_take_104 : (104, a_istore 4 106) ∈ kX6_take := qX6_take_2 _ (List.mem_of_getElem? (i := 8) rfl)
theorem tX6_take_106 : (106, a_iload 4 108) ∈ kX6_take := qX6_take_2 _ (List.mem_of_getElem? (i := 9) rfl)
theorem tX6_take_108 : (108, a_aload 1 109) ∈ kX6_take := qX6_take_2 _ (List.mem_of_getElem? (i := 10) rfl)
theorem tX6_take_109 : (109, a_getI 10 7 112) ∈ kX6_take := qX6_take_2 _ (List.mem_of_getElem? (i := 11) rfl)
theorem tX6_take_112 : (112, a_ic_ge 189 115) ∈ kX6_take := qX6_take_2 _ (List.mem_of_getElem? (i := 12) rfl)
theorem tX6_take_115 : (115, a_aload 1 116) ∈ kX6_take := qX6_take_2 _ (List.mem_of_getElem? (i := 13) rfl)
theorem tX6_take_116 : (116, a_getR 10 5 119) ∈ kX6_take := qX6_take_2 _ (List.mem_of_getElem? (i := 14) rfl)
theorem tX6_take_119 : (119, a_iload 4 121) ∈ kX6_take := qX6_take_2 _ (List.mem_of_getElem? (i := 15) rfl)
theorem tX6_take_121 : (121, a_iald 122) ∈ kX6_take := qX6_take_2 _ (List.mem_of_getElem? (i := 16) rfl)
theorem tX6_take_122 : (122, a_istore 5 124) ∈ kX6_take := qX6_take_2 _ (List.mem_of_getElem? (i := 17) rfl)
theorem tX6_take_124 : (124, a_aload 0 125) ∈ kX6_take := qX6_take_2 _ (List.mem_of_getElem? (i := 18) rfl)
theorem tX6_take_125 : (125, a_aload 1 126) ∈ kX6_take := qX6_take_2 _ (List.mem_of_getElem? (i := 19) rfl)
theorem tX6_take_126 : (126, a_iload 5 128) ∈ kX6_take := qX6_take_2 _ (List.mem_of_getElem? (i := 20) rfl)
theorem tX6_take_128 : (128, a_callV 6 55 3 131 0 0) ∈ kX6_take := qX6_take_2 _ (List.mem_of_getElem? (i := 21) rfl)
theorem tX6_take_131 : (131, a_istore 6 133) ∈ kX6_take := qX6_take_2 _ (List.mem_of_getElem? (i := 22) rfl)
theorem tX6_take_133 : (133, a_iload 5 135) ∈ kX6_take := qX6_take_2 _ (List.mem_of_getElem? (i := 23) rfl)
theorem qX6_take_3 : ∀ q ∈ kX6_take_3, q ∈ kX6_take := fun _ h => (List.mem_append_right _ (List.mem_append_right _ (List.mem_append_right _ (List.mem_append_left _ h))))
theorem tX6_take_135 : (135, a_call 131 1 138 0 0) ∈ kX6_take := qX6_take_3 _ (List.mem_of_getElem? (i := 0) rfl)
theorem tX6_take_138 : (138, a_if_eq 153 141) ∈ kX6_take := qX6_take_3 _ (List.mem_of_getElem? (i := 1) rfl)
theorem tX6_take_141 : (141, a_aload 0 142) ∈ kX6_take := qX6_take_3 _ (List.mem_of_getElem? (i := 2) rfl)
theorem tX6_take_142 : (142, a_getR 6 0 145) ∈ kX6_take := qX6_take_3 _ (List.mem_of_getElem? (i := 3) rfl)
theorem tX6_take_145 : (145, a_iload 5 147) ∈ kX6_take := qX6_take_3 _ (List.mem_of_getElem? (i := 4) rfl)
theorem tX6_take_147 : (147, a_iload 6 149) ∈ kX6_take := qX6_take_3 _ (List.mem_of_getElem? (i := 5) rfl)
theorem tX6_take_149 : (149, a_iast 150) ∈ kX6_take := qX6_take_3 _ (List.mem_of_getElem? (i := 6) rfl)
theorem tX6_take_150 : (150, a_goto 183) ∈ kX6_take := qX6_take_3 _ (List.mem_of_getElem? (i := 7) rfl)
theorem tX6_take_153 : (153, a_i 2 154) ∈ kX6_take := qX6_take_3 _ (List.mem_of_getElem? (i := 8) rfl)
theorem tX6_take_154 : (154, a_iload 5 156) ∈ kX6_take := qX6_take_3 _ (List.mem_of_getElem? (i := 9) rfl)
theorem tX6_take_156 : (156, a_i 15 158) ∈ kX6_take := qX6_take_3 _ (List.mem_of_getElem? (i := 10) rfl)
theorem tX6_take_158 : (158, a_ii (fun x y => x - y) 159) ∈ kX6_take := qX6_take_3 _ (List.mem_of_getElem? (i := 11) rfl)
theorem tX6_take_159 : (159, a_ii (fun x y => x * y) 160) ∈ kX6_take := qX6_take_3 _ (List.mem_of_getElem? (i := 12) rfl)
theorem tX6_take_160 : (160, a_istore 7 162) ∈ kX6_take := qX6_take_3 _ (List.mem_of_getElem? (i := 13) rfl)
theorem tX6_take_162 : (162, a_aload 0 163) ∈ kX6_take := qX6_take_3 _ (List.mem_of_getElem? (i := 14) rfl)
theorem tX6_take_163 : (163, a_aload 0 164) ∈ kX6_take := qX6_take_3 _ (List.mem_of_getElem? (i := 15) rfl)
theorem tX6_take_164 : (164, a_getI 6 2 167) ∈ kX6_take := qX6_take_3 _ (List.mem_of_getElem? (i := 16) rfl)
theorem tX6_take_167 : (167, a_i 3 168) ∈ kX6_take := qX6_take_3 _ (List.mem_of_getElem? (i := 17) rfl)
theorem tX6_take_168 : (168, a_iload 7 170) ∈ kX6_take := qX6_take_3 _ (List.mem_of_getElem? (i := 18) rfl)
theorem tX6_take_170 : (170, a_ii (fun x y => x <<< (y &&& 31)) 171) ∈ kX6_take := qX6_take_3 _ (List.mem_of_getElem? (i := 19) rfl)
theorem tX6_take_171 : (171, a_i (-1) 172) ∈ kX6_take := qX6_take_3 _ (List.mem_of_getElem? (i := 20) rfl)
theorem tX6_take_172 : (172, a_ii (fun x y => x ^^^ y) 173) ∈ kX6_take := qX6_take_3 _ (List.mem_of_getElem? (i := 21) rfl)
theorem tX6_take_173 : (173, a_ii (fun x y => x &&& y) 174) ∈ kX6_take := qX6_take_3 _ (List.mem_of_getElem? (i := 22) rfl)
theorem tX6_take_174 : (174, a_iload 6 176) ∈ kX6_take := qX6_take_3 _ (List.mem_of_getElem? (i := 23) rfl)
theorem qX6_take_4 : ∀ q ∈ kX6_take_4, q ∈ kX6_take := fun _ h => (List.mem_append_right _ (List.mem_append_right _ (List.mem_append_right _ (List.mem_append_right _ h))))
theorem tX6_take_176 : (176, a_iload 7 178) ∈ kX6_take := qX6_take_4 _ (List.mem_of_getElem? (i := 0) rfl)
theorem tX6_take_178 : (178, a_ii (fun x y => x <<< (y &&& 31)) 179) ∈ kX6_take := qX6_take_4 _ (List.mem_of_getElem? (i := 1) rfl)
theorem tX6_take_179 : (179, a_ii (fun x y => x ||| y) 180) ∈ kX6_take := qX6_take_4 _ (List.mem_of_getElem? (i := 2) rfl)
theorem tX6_take_180 : (180, a_putI 6 2 183 false) ∈ kX6_take := qX6_take_4 _ (List.mem_of_getElem? (i := 3) rfl)
theorem tX6_take_183 : (183, a_iinc 4 1 186) ∈ kX6_take := qX6_take_4 _ (List.mem_of_getElem? (i := 4) rfl)
theorem tX6_take_186 : (186, a_goto 106) ∈ kX6_take := qX6_take_4 _ (List.mem_of_getElem? (i := 5) rfl)
theorem tX6_take_189 : (189, a_aload 0 190) ∈ kX6_take := qX6_take_4 _ (List.mem_of_getElem? (i := 6) rfl)
theorem tX6_take_190 : (190, a_dup 191) ∈ kX6_take := qX6_take_4 _ (List.mem_of_getElem? (i := 7) rfl)
theorem tX6_take_191 : (191, a_getI 6 3 194) ∈ kX6_take := qX6_take_4 _ (List.mem_of_getElem? (i := 8) rfl)
theorem tX6_take_194 : (194, a_i 1 195) ∈ kX6_take := qX6_take_4 _ (List.mem_of_getElem? (i := 9) rfl)
theorem tX6_take_195 : (195, a_ii (fun x y => x + y) 196) ∈ kX6_take := qX6_take_4 _ (List.mem_of_getElem? (i := 10) rfl)
theorem tX6_take_196 : (196, a_putI 6 3 199 false) ∈ kX6_take := qX6_take_4 _ (List.mem_of_getElem? (i := 11) rfl)
theorem tX6_take_199 : (199, a_aload 0 200) ∈ kX6_take := qX6_take_4 _ (List.mem_of_getElem? (i := 12) rfl)
theorem tX6_take_200 : (200, a_getI 6 2 203) ∈ kX6_take := qX6_take_4 _ (List.mem_of_getElem? (i := 13) rfl)
theorem tX6_take_203 : (203, a_iret false) ∈ kX6_take := qX6_take_4 _ (List.mem_of_getElem? (i := 14) rfl)
theorem oX6_take : ∀ q ∈ kX6_take, zSnd zty false RX6 cX6_take 8 (some .int) false q := List.forall_mem_append.mpr ⟨oX6_take_0, List.forall_mem_append.mpr ⟨oX6_take_1, List.forall_mem_append.mpr ⟨oX6_take_2, List.forall_mem_append.mpr ⟨oX6_take_3, oX6_take_4⟩⟩⟩⟩
theorem dX6_make_0 : decode cX6_make 0 = .ok (.aload_n 1, 1) := by decide +kernel
theorem dX6_make_1 : decode cX6_make 1 = .ok (.getfield 48, 3) := by decide +kernel
theorem dX6_make_4 : decode cX6_make 4 = .ok (.iload_n 2, 1) := by decide +kernel
theorem dX6_make_5 : decode cX6_make 5 = .ok (.iaload, 1) := by decide +kernel
theorem dX6_make_6 : decode cX6_make 6 = .ok (.istore_n 3, 1) := by decide +kernel
theorem dX6_make_7 : decode cX6_make 7 = .ok (.iload_n 3, 1) := by decide +kernel
theorem dX6_make_8 : decode cX6_make 8 = .ok (.aload_n 1, 1) := by decide +kernel
theorem dX6_make_9 : decode cX6_make 9 = .ok (.getfield 51, 3) := by decide +kernel
theorem dX6_make_12 : decode cX6_make 12 = .ok (.iload_n 2, 1) := by decide +kernel
theorem dX6_make_13 : decode cX6_make 13 = .ok (.iaload, 1) := by decide +kernel
theorem dX6_make_14 : decode cX6_make 14 = .ok (.if_icmp .ge 85, 3) := by decide +kernel
theorem dX6_make_17 : decode cX6_make 17 = .ok (.aload_n 1, 1) := by decide +kernel
theorem dX6_make_18 : decode cX6_make 18 = .ok (.getfield 54, 3) := by decide +kernel
theorem dX6_make_21 : decode cX6_make 21 = .ok (.iload_n 3, 1) := by decide +kernel
theorem dX6_make_22 : decode cX6_make 22 = .ok (.iaload, 1) := by decide +kernel
theorem dX6_make_23 : decode cX6_make 23 = .ok (.invokestatic 57, 3) := by decide +kernel
theorem dX6_make_26 : decode cX6_make 26 = .ok (.istore 4, 2) := by decide +kernel
theorem dX6_make_28 : decode cX6_make 28 = .ok (.aload_n 1, 1) := by decide +kernel
theorem dX6_make_29 : decode cX6_make 29 = .ok (.getfield 54, 3) := by decide +kernel
theorem dX6_make_32 : decode cX6_make 32 = .ok (.iload_n 3, 1) := by decide +kernel
theorem dX6_make_33 : decode cX6_make 33 = .ok (.iaload, 1) := by decide +kernel
theorem dX6_make_34 : decode cX6_make 34 = .ok (.invokestatic 61, 3) := by decide +kernel
theorem dX6_make_37 : decode cX6_make 37 = .ok (.istore 5, 2) := by decide +kernel
theorem dX6_make_39 : decode cX6_make 39 = .ok (.aload_n 0, 1) := by decide +kernel
theorem dX6_make_40 : decode cX6_make 40 = .ok (.getfield 15, 3) := by decide +kernel
theorem dX6_make_43 : decode cX6_make 43 = .ok (.iload 5, 2) := by decide +kernel
theorem dX6_make_45 : decode cX6_make 45 = .ok (.iload 4, 2) := by decide +kernel
theorem dX6_make_47 : decode cX6_make 47 = .ok (.bipush 19, 2) := by decide +kernel
theorem dX6_make_49 : decode cX6_make 49 = .ok (.if_icmp .ge 13, 3) := by decide +kernel
theorem dX6_make_52 : decode cX6_make 52 = .ok (.aload_n 0, 1) := by decide +kernel
theorem dX6_make_53 : decode cX6_make 53 = .ok (.getfield 9, 3) := by decide +kernel
theorem dX6_make_56 : decode cX6_make 56 = .ok (.iload 4, 2) := by decide +kernel
theorem dX6_make_58 : decode cX6_make 58 = .ok (.iaload, 1) := by decide +kernel
theorem dX6_make_59 : decode cX6_make 59 = .ok (.goto 33, 3) := by decide +kernel
theorem dX6_make_62 : decode cX6_make 62 = .ok (.iload 4, 2) := by decide +kernel
theorem dX6_make_64 : decode cX6_make 64 = .ok (.aload_n 0, 1) := by decide +kernel
theorem dX6_make_65 : decode cX6_make 65 = .ok (.getfield 15, 3) := by decide +kernel
theorem dX6_make_68 : decode cX6_make 68 = .ok (.iload 5, 2) := by decide +kernel
theorem dX6_make_70 : decode cX6_make 70 = .ok (.iaload, 1) := by decide +kernel
theorem dX6_make_71 : decode cX6_make 71 = .ok (.aload_n 0, 1) := by decide +kernel
theorem dX6_make_72 : decode cX6_make 72 = .ok (.getfield 15, 3) := by decide +kernel
theorem dX6_make_75 : decode cX6_make 75 = .ok (.iload 5, 2) := by decide +kernel
theorem dX6_make_77 : decode cX6_make 77 = .ok (.iconst 1, 1) := by decide +kernel
theorem dX6_make_78 : decode cX6_make 78 = .ok (.iadd, 1) := by decide +kernel
theorem dX6_make_79 : decode cX6_make 79 = .ok (.iaload, 1) := by decide +kernel
theorem dX6_make_80 : decode cX6_make 80 = .ok (.aload_n 0, 1) := by decide +kernel
theorem dX6_make_81 : decode cX6_make 81 = .ok (.getfield 15, 3) := by decide +kernel
theorem dX6_make_84 : decode cX6_make 84 = .ok (.iload 5, 2) := by decide +kernel
theorem dX6_make_86 : decode cX6_make 86 = .ok (.iconst 2, 1) := by decide +kernel
theorem dX6_make_87 : decode cX6_make 87 = .ok (.iadd, 1) := by decide +kernel
theorem dX6_make_88 : decode cX6_make 88 = .ok (.iaload, 1) := by decide +kernel
theorem dX6_make_89 : decode cX6_make 89 = .ok (.invokestatic 64, 3) := by decide +kernel
theorem dX6_make_92 : decode cX6_make 92 = .ok (.iastore, 1) := by decide +kernel
theorem dX6_make_93 : decode cX6_make 93 = .ok (.iinc 3 1, 3) := by decide +kernel
theorem dX6_make_96 : decode cX6_make 96 = .ok (.goto (-89), 3) := by decide +kernel
theorem dX6_make_99 : decode cX6_make 99 = .ok (.aload_n 0, 1) := by decide +kernel
theorem dX6_make_100 : decode cX6_make 100 = .ok (.getfield 15, 3) := by decide +kernel
theorem dX6_make_103 : decode cX6_make 103 = .ok (.iconst 0, 1) := by decide +kernel
theorem dX6_make_104 : decode cX6_make 104 = .ok (.iaload, 1) := by decide +kernel
theorem dX6_make_105 : decode cX6_make 105 = .ok (.ireturn, 1) := by decide +kernel
def kX6_make_0 : List (Nat × zT) := [(0, a_aload 1 1), (1, a_getR 10 1 4), (4, a_iload 2 5), (5, a_iald 6), (6, a_istore 3 7), (7, a_iload 3 8), (8, a_aload 1 9), (9, a_getR 10 2 12), (12, a_iload 2 13), (13, a_iald 14), (14, a_ic_ge 99 17), (17, a_aload 1 18), (18, a_getR 10 0 21), (21, a_iload 3 22), (22, a_iald 23), (23, a_call 135 1 26 0 0), (26, a_istore 4 28), (28, a_aload 1 29), (29, a_getR 10 0 32), (32, a_iload 3 33), (33, a_iald 34), (34, a_call 136 1 37 0 0), (37, a_istore 5 39), (39, a_aload 0 40)]
theorem oX6_make_0 : ∀ q ∈ kX6_make_0, zSnd zty false RX6 cX6_make 6 (some .int) false q := List.forall_mem_cons.mpr ⟨ok_aload_n dX6_make_0 rfl, List.forall_mem_cons.mpr ⟨ok_getR dX6_make_1 rfl in10 (by decide) rfl w61, List.forall_mem_cons.mpr ⟨ok_iload_n dX6_make_4 rfl, List.forall_mem_cons.mpr ⟨ok_iald dX6_make_5, List.forall_mem_cons.mpr ⟨ok_istore_n dX6_make_6 rfl (by decide), List.forall_mem_cons.mpr ⟨ok_iload_n dX6_make_7 rfl, List.forall_mem_cons.mpr ⟨ok_aload_n dX6_make_8 rfl, List.forall_mem_cons.mpr ⟨ok_getR dX6_make_9 rfl in10 (by decide) rfl w68, List.forall_mem_cons.mpr ⟨ok_iload_n dX6_make_12 rfl, List.forall_mem_cons.mpr ⟨ok_iald dX6_make_13, List.forall_mem_cons.mpr ⟨ok_ic_ge dX6_make_14 (by decide), List.forall_mem_cons.mpr ⟨ok_aload_n dX6_make_17 rfl, List.forall_mem_cons.mpr ⟨ok_getR dX6_make_18 rfl in10 (by decide) rfl w55, List.forall_mem_cons.mpr ⟨ok_iload_n dX6_make_21 rfl, List.forall_mem_cons.mpr ⟨ok_iald dX6_make_22, List.forall_mem_cons.mpr ⟨ok_callSN dX6_make_23 rfl w537 n535 w536 w1 (by decide +kernel) (by decide), List.forall_mem_cons.mpr ⟨ok_istore dX6_make_26 (by decide), List.forall_mem_cons.mpr ⟨ok_aload_n dX6_make_28 rfl, List.forall_mem_cons.mpr ⟨ok_getR dX6_make_29 rfl in10 (by decide) rfl w55, List.forall_mem_cons.mpr ⟨ok_iload_n dX6_make_32 rfl, List.forall_mem_cons.mpr ⟨ok_iald dX6_make_33, List.forall_mem_cons.mpr ⟨ok_callSN dX6_make_34 rfl w540 n538 w539 w1 (by decide +kernel) (by decide), List.forall_mem_cons.mpr ⟨ok_istore dX6_make_37 (by decide), List.forall_mem_cons.mpr ⟨ok_aload_n dX6_make_39 rfl, fun _ h => absurd h List.not_mem_nil⟩⟩⟩⟩⟩⟩⟩⟩⟩⟩⟩⟩⟩⟩⟩⟩⟩⟩⟩⟩⟩⟩⟩⟩
def kX6_make_1 : List (Nat × zT) := [(40, a_getR 6 1 43), (43, a_iload 5 45), (45, a_iload 4 47), (47, a_i 19 49), (49, a_ic_ge 62 52), (52, a_aload 0 53), (53, a_getR 6 0 56), (56, a_iload 4 58), (58, a_iald 59), (59, a_goto 92), (62, a_iload 4 64), (64, a_aload 0 65), (65, a_getR 6 1 68), (68, a_iload 5 70), (70, a_iald 71), (71, a_aload 0 72), (72, a_getR 6 1 75), (75, a_iload 5 77), (77, a_i 1 78), (78, a_ii (fun x y => x + y) 79), (79, a_iald 80), (80, a_aload 0 81), (81, a_getR 6 1 84), (84, a_iload 5 86)]
theorem oX6_make_1 : ∀ q ∈ kX6_make_1, zSnd zty false RX6 cX6_make 6 (some .int) false q := List.forall_mem_cons.mpr ⟨ok_getR dX6_make_40 rfl in6 (by decide) rfl w144, List.forall_mem_cons.mpr ⟨ok_iload dX6_make_43, List.forall_mem_cons.mpr ⟨ok_iload dX6_make_45, List.forall_mem_cons.mpr ⟨ok_bipush dX6_make_47 (by decide), List.forall_mem_cons.mpr ⟨ok_ic_ge dX6_make_49 (by decide), List.forall_mem_cons.mpr ⟨ok_aload_n dX6_make_52 rfl, List.forall_mem_cons.mpr ⟨ok_getR dX6_make_53 rfl in6 (by decide) rfl w142, List.forall_mem_cons.mpr ⟨ok_iload dX6_make_56, List.forall_mem_cons.mpr ⟨ok_iald dX6_make_58, List.forall_mem_cons.mpr ⟨ok_goto dX6_make_59 (by decide), List.forall_mem_cons.mpr ⟨ok_iload dX6_make_62, List.forall_mem_cons.mpr ⟨ok_aload_n dX6_make_64 rfl, List.forall_mem_cons.mpr ⟨ok_getR dX6_make_65 rfl in6 (by decide) rfl w144, List.forall_mem_cons.mpr ⟨ok_iload dX6_make_68, List.forall_mem_cons.mpr ⟨ok_iald dX6_make_70, List.forall_mem_cons.mpr ⟨ok_aload_n dX6_make_71 rfl, List.forall_mem_cons.mpr ⟨ok_getR dX6_make_72 rfl in6 (by decide) rfl w144, List.forall_mem_cons.mpr ⟨ok_iload dX6_make_75, List.forall_mem_cons.mpr ⟨ok_iconst dX6_make_77 (by decide), List.forall_mem_cons.mpr ⟨ok_iadd dX6_make_78, List.forall_mem_cons.mpr ⟨ok_iald dX6_make_79, List.forall_mem_cons.mpr ⟨ok_aload_n dX6_make_80 rfl, List.forall_mem_cons.mpr ⟨ok_getR dX6_make_81 rfl in6 (by decide) rfl w144, List.forall_mem_cons.mpr ⟨ok_iload dX6_make_84, fun _ h => absurd h List.not_mem_nil⟩⟩⟩⟩⟩⟩⟩⟩⟩⟩⟩⟩⟩⟩⟩⟩⟩⟩⟩⟩⟩⟩⟩⟩
def kX6_make_2 : List (Nat × zT) := [(86, a_i 2 87), (87, a_ii (fun x y => x + y) 88), (88, a_iald 89), (89, a_call 56 4 92 0 0), (92, a_iast 93), (93, a_iinc 3 1 96), (96, a_goto 7), (99, a_aload 0 100), (100, a_getR 6 1 103), (103, a_i 0 104), (104, a_iald 105), (105, a_iret false)]
theorem oX6_make_2 : ∀ q ∈ kX6_make_2, zSnd zty false RX6 cX6_make 6 (some .int) false q := List.forall_mem_cons.mpr ⟨ok_iconst dX6_make_86 (by decide), List.forall_mem_cons.mpr ⟨ok_iadd dX6_make_87, List.forall_mem_cons.mpr ⟨ok_iald dX6_make_88, List.forall_mem_cons.mpr ⟨ok_callS dX6_make_89 rfl w543 w541 w542 w5 (by decide +kernel) (by decide), List.forall_mem_cons.mpr ⟨ok_iast dX6_make_92, List.forall_mem_cons.mpr ⟨ok_iinc dX6_make_93 (by decide) (by decide), List.forall_mem_cons.mpr ⟨ok_goto dX6_make_96 (by decide), List.forall_mem_cons.mpr ⟨ok_aload_n dX6_make_99 rfl, List.forall_mem_cons.mpr ⟨ok_getR dX6_make_100 rfl in6 (by decide) rfl w144, List.forall_mem_cons.mpr ⟨ok_iconst dX6_make_103 (by decide), List.forall_mem_cons.mpr ⟨ok_iald dX6_make_104, List.forall_mem_cons.mpr ⟨ok_iret (bz := false) dX6_make_105 rfl, fun _ h => absurd h List.not_mem_nil⟩⟩⟩⟩⟩⟩⟩⟩⟩⟩⟩⟩
def kX6_make : List (Nat × zT) := kX6_make_0 ++ (kX6_make_1 ++ (kX6_make_2))
theorem qX6_make_0 : ∀ q ∈ kX6_make_0, q ∈ kX6_make := fun _ h => (List.mem_append_left _ h)
theorem tX6_make_0 : (0, a_aload 1 1) ∈ kX6_make := qX6_make_0 _ (List.mem_of_getElem? (i := 0) rfl)
theorem tX6_make_1 : (1, a_getR 10 1 4) ∈ kX6_make := qX6_make_0 _ (List.mem_of_getElem? (i := 1) rfl)
theorem tX6_make_4 : (4, a_iload 2 5) ∈ kX6_make := qX6_make_0 _ (List.mem_of_getElem? (i := 2) rfl)
theorem tX6_make_5 : (5, a_iald 6) ∈ kX6_make := qX6_make_0 _ (List.mem_of_getElem? (i := 3) rfl)
theorem tX6_make_6 : (6, a_istore 3 7) ∈ kX6_make := qX6_make_0 _ (List.mem_of_getElem? (i := 4) rfl)
theorem tX6_make_7 : (7, a_iload 3 8) ∈ kX6_make := qX6_make_0 _ (List.mem_of_getElem? (i := 5) rfl)
theorem tX6_make_8 : (8, a_aload 1 9) ∈ kX6_make := qX6_make_0 _ (List.mem_of_getElem? (i := 6) rfl)
theorem tX6_make_9 : (9, a_getR 10 2 12) ∈ kX6_make := qX6_make_0 _ (List.mem_of_getElem? (i := 7) rfl)
theorem tX6_make_12 : (12, a_iload 2 13) ∈ kX6_make := qX6_make_0 _ (List.mem_of_getElem? (i := 8) rfl)
theorem tX6_make_13 : (13, a_iald 14) ∈ kX6_make := qX6_make_0 _ (List.mem_of_getElem? (i := 9) rfl)
theorem tX6_make_14 : (14, a_ic_ge 99 17) ∈ kX6_make := qX6_make_0 _ (List.mem_of_getElem? (i := 10) rfl)
theorem tX6_make_17 : (17, a_aload 1 18) ∈ kX6_make := qX6_make_0 _ (List.mem_of_getElem? (i := 11) rfl)
theorem tX6_make_18 : (18, a_getR 10 0 21) ∈ kX6_make := qX6_make_0 _ (List.mem_of_getElem? (i := 12) rfl)
theorem tX6_make_21 : (21, a_iload 3 22) ∈ kX6_make := qX6_make_0 _ (List.mem_of_getElem? (i := 13) rfl)
theorem tX6_make_22 : (22, a_iald 23) ∈ kX6_make := qX6_make_0 _ (List.mem_of_getElem? (i := 14) rfl)
theorem tX6_make_23 : (23, a_call 135 1 26 0 0) ∈ kX6_make := qX6_make_0 _ (List.mem_of_getElem? (i := 15) rfl)
theorem tX6_make_26 : (26, a_istore 4 28) ∈ kX6_make := qX6_make_0 _ (List.mem_of_getElem? (i := 16) rfl)
theorem tX6_make_28 : (28, a_aload 1 29) ∈ kX6_make := qX6_make_0 _ (List.mem_of_getElem? (i := 17) rfl)
theorem tX6_make_29 : (29, a_getR 10 0 32) ∈ kX6_make := qX6_make_0 _ (List.mem_of_getElem? (i := 18) rfl)
theorem tX6_make_32 : (32, a_iload 3 33) ∈ kX6_make := qX6_make_0 _ (List.mem_of_getElem? (i := 19) rfl)
theorem tX6_make_33 : (33, a_iald 34) ∈ kX6_make := qX6_make_0 _ (List.mem_of_getElem? (i := 20) rfl)
theorem tX6_make_34 : (34, a_call 136 1 37 0 0) ∈ kX6_make := qX6_make_0 _ (List.mem_of_getElem? (i := 21) rfl)
theorem tX6_make_37 : (37, a_istore 5 39) ∈ kX6_make := qX6_make_0 _ (List.mem_of_getElem? (i := 22) rfl)
theorem tX6_make_39 : (39, a_aload 0 40) ∈ kX6_make := qX6_make_0 _ (List.mem_of_getElem? (i := 23) rfl)
theorem qX6_make_1 : ∀ q ∈ kX6_make_1, q ∈ kX6_make := fun _ h => (List.mem_append_right _ (List.mem_append_left _ h))
theorem tX6_make_40 : (40, a_getR 6 1 43) ∈ kX6_make := qX6_make_1 _ (List.mem_of_getElem? (i := 0) rfl)
theorem tX6_make_43 : (43, a_iload 5 45) ∈ kX6_make := qX6_make_1 _ (List.mem_of_getElem? (i := 1) rfl)
theorem tX6_make_45 : (45, a_iload 4 47) ∈ kX6_make := qX6_make_1 _ (List.mem_of_getElem? (i := 2) rfl)
theorem tX6_make_47 : (47, a_i 19 49) ∈ kX6_make := qX6_make_1 _ (List.mem_of_getElem? (i := 3) rfl)
theorem tX6_make_49 : (49, a_ic_ge 62 52) ∈ kX6_make := qX6_make_1 _ (List.mem_of_getElem? (i := 4) rfl)
theorem tX6_make_52 : (52, a_aload 0 53) ∈ kX6_make := qX6_make_1 _ (List.mem_of_getElem? (i := 5) rfl)
theorem tX6_make_53 : (53, a_getR 6 0 56) ∈ kX6_make := qX6_make_1 _ (List.mem_of_getElem? (i := 6) rfl)
theorem tX6_make_56 : (56, a_iload 4 58) ∈ kX6_make := qX6_make_1 _ (List.mem_of_getElem? (i := 7) rfl)
theorem tX6_make_58 : (58, a_iald 59) ∈ kX6_make := qX6_make_1 _ (List.mem_of_getElem? (i := 8) rfl)
theorem tX6_make_59 : (59, a_goto 92) ∈ kX6_make := qX6_make_1 _ (List.mem_of_getElem? (i := 9) rfl)
theorem tX6_make_62 : (62, a_iload 4 64) ∈ kX6_make := qX6_make_1 _ (List.mem_of_getElem? (i := 10) rfl)
theorem tX6_make_64 : (64, a_aload 0 65) ∈ kX6_make := qX6_make_1 _ (List.mem_of_getElem? (i := 11) rfl)
theorem tX6_make_65 : (65, a_getR 6 1 68) ∈ kX6_make := qX6_make_1 _ (List.mem_of_getElem? (i := 12) rfl)
theorem tX6_make_68 : (68, a_iload 5 70) ∈ kX6_make := qX6_make_1 _ (List.mem_of_getElem? (i := 13) rfl)
theorem tX6_make_70 : (70, a_iald 71) ∈ kX6_make := qX6_make_1 _ (List.mem_of_getElem? (i := 14) rfl)
theorem tX6_make_71 : (71, a_aload 0 72) ∈ kX6_make := qX6_make_1 _ (List.mem_of_getElem? (i := 15) rfl)
theorem tX6_make_72 : (72, a_getR 6 1 75) ∈ kX6_make := qX6_make_1 _ (List.mem_of_getElem? (i := 16) rfl)
theorem tX6_make_75 : (75, a_iload 5 77) ∈ kX6_make := qX6_make_1 _ (List.mem_of_getElem? (i := 17) rfl)
theorem tX6_make_77 : (77, a_i 1 78) ∈ kX6_make := qX6_make_1 _ (List.mem_of_getElem? (i := 18) rfl)
theorem tX6_make_78 : (78, a_ii (fun x y => x + y) 79) ∈ kX6_make := qX6_make_1 _ (List.mem_of_getElem? (i := 19) rfl)
theorem tX6_make_79 : (79, a_iald 80) ∈ kX6_make := qX6_make_1 _ (List.mem_of_getElem? (i := 20) rfl)
theorem tX6_make_80 : (80, a_aload 0 81) ∈ kX6_make := qX6_make_1 _ (List.mem_of_getElem? (i := 21) rfl)
theorem tX6_make_81 : (81, a_getR 6 1 84) ∈ kX6_make := qX6_make_1 _ (List.mem_of_getElem? (i := 22) rfl)
theorem tX6_make_84 : (84, a_iload 5 86) ∈ kX6_make := qX6_make_1 _ (List.mem_of_getElem? (i := 23) rfl)
theorem qX6_make_2 : ∀ q ∈ kX6_make_2, q ∈ kX6_make := fun _ h => (List.mem_append_right _ (List.mem_append_right _ h))
theorem tX6_make_86 : (86, a_i 2 87) ∈ kX6_make := qX6_make_2 _ (List.mem_of_getElem? (i := 0) rfl)
theorem tX6_make_87 : (87, a_ii (fun x y => x + y) 88) ∈ kX6_make := qX6_make_2 _ (List.mem_of_getElem? (i := 1) rfl)
theorem tX6_make_88 : (88, a_iald 89) ∈ kX6_make := qX6_make_2 _ (List.mem_of_getElem? (i := 2) rfl)
theorem tX6_make_89 : (89, a_call 56 4 92 0 0) ∈ kX6_make := qX6_make_2 _ (List.mem_of_getElem? (i := 3) rfl)
theorem tX6_make_92 : (92, a_iast 93) ∈ kX6_make := qX6_make_2 _ (List.mem_of_getElem? (i := 4) rfl)
theorem tX6_make_93 : (93, a_iinc 3 1 96) ∈ kX6_make := qX6_make_2 _ (List.mem_of_getElem? (i := 5) rfl)
theorem tX6_make_96 : (96, a_goto 7) ∈ kX6_make := qX6_make_2 _ (List.mem_of_getElem? (i := 6) rfl)
theorem tX6_make_99 : (99, a_aload 0 100) ∈ kX6_make := qX6_make_2 _ (List.mem_of_getElem? (i := 7) rfl)
theorem tX6_make_100 : (100, a_getR 6 1 103) ∈ kX6_make := qX6_make_2 _ (List.mem_of_getElem? (i := 8) rfl)
theorem tX6_make_103 : (103, a_i 0 104) ∈ kX6_make := qX6_make_2 _ (List.mem_of_getElem? (i := 9) rfl)
theorem tX6_make_104 : (104, a_iald 105) ∈ kX6_make := qX6_make_2 _ (List.mem_of_getElem? (i := 10) rfl)
theorem tX6_make_105 : (105, a_iret false) ∈ kX6_make := qX6_make_2 _ (List.mem_of_getElem? (i := 11) rfl)
theorem oX6_make : ∀ q ∈ kX6_make, zSnd zty false RX6 cX6_make 6 (some .int) false q := List.forall_mem_append.mpr ⟨oX6_make_0, List.forall_mem_append.mpr ⟨oX6_make_1, oX6_make_2⟩⟩
theorem dX6_gateOf_0 : decode cX6_gateOf 0 = .ok (.iload_n 0, 1) := by decide +kernel
theorem dX6_gateOf_1 : decode cX6_gateOf 1 = .ok (.tableswitch 92 20 25 #[39, 41, 46, 52, 67, 85], 39) := by decide +kernel
theorem dX6_gateOf_40 : decode cX6_gateOf 40 = .ok (.iconst 1, 1) := by decide +kernel
theorem dX6_gateOf_41 : decode cX6_gateOf 41 = .ok (.ireturn, 1) := by decide +kernel
theorem dX6_gateOf_42 : decode cX6_gateOf 42 = .ok (.iload_n 1, 1) := by decide +kernel
theorem dX6_gateOf_43 : decode cX6_gateOf 43 = .ok (.invokestatic 68, 3) := by decide +kernel
theorem dX6_gateOf_46 : decode cX6_gateOf 46 = .ok (.ireturn, 1) := by decide +kernel
theorem dX6_gateOf_47 : decode cX6_gateOf 47 = .ok (.iload_n 1, 1) := by decide +kernel
theorem dX6_gateOf_48 : decode cX6_gateOf 48 = .ok (.iload_n 2, 1) := by decide +kernel
theorem dX6_gateOf_49 : decode cX6_gateOf 49 = .ok (.invokestatic 71, 3) := by decide +kernel
theorem dX6_gateOf_52 : decode cX6_gateOf 52 = .ok (.ireturn, 1) := by decide +kernel
theorem dX6_gateOf_53 : decode cX6_gateOf 53 = .ok (.iload_n 1, 1) := by decide +kernel
theorem dX6_gateOf_54 : decode cX6_gateOf 54 = .ok (.invokestatic 68, 3) := by decide +kernel
theorem dX6_gateOf_57 : decode cX6_gateOf 57 = .ok (.iload_n 2, 1) := by decide +kernel
theorem dX6_gateOf_58 : decode cX6_gateOf 58 = .ok (.invokestatic 68, 3) := by decide +kernel
theorem dX6_gateOf_61 : decode cX6_gateOf 61 = .ok (.invokestatic 71, 3) := by decide +kernel
theorem dX6_gateOf_64 : decode cX6_gateOf 64 = .ok (.invokestatic 68, 3) := by decide +kernel
theorem dX6_gateOf_67 : decode cX6_gateOf 67 = .ok (.ireturn, 1) := by decide +kernel
theorem dX6_gateOf_68 : decode cX6_gateOf 68 = .ok (.iload_n 1, 1) := by decide +kernel
theorem dX6_gateOf_69 : decode cX6_gateOf 69 = .ok (.iconst 2, 1) := by decide +kernel
theorem dX6_gateOf_70 : decode cX6_gateOf 70 = .ok (.if_icmp .eq 8, 3) := by decide +kernel
theorem dX6_gateOf_73 : decode cX6_gateOf 73 = .ok (.iload_n 2, 1) := by decide +kernel
theorem dX6_gateOf_74 : decode cX6_gateOf 74 = .ok (.iconst 2, 1) := by decide +kernel
theorem dX6_gateOf_75 : decode cX6_gateOf 75 = .ok (.if_icmp .ne 7, 3) := by decide +kernel
theorem dX6_gateOf_78 : decode cX6_gateOf 78 = .ok (.iconst 2, 1) := by decide +kernel
theorem dX6_gateOf_79 : decode cX6_gateOf 79 = .ok (.goto 6, 3) := by decide +kernel
theorem dX6_gateOf_82 : decode cX6_gateOf 82 = .ok (.iload_n 1, 1) := by decide +kernel
theorem dX6_gateOf_83 : decode cX6_gateOf 83 = .ok (.iload_n 2, 1) := by decide +kernel
theorem dX6_gateOf_84 : decode cX6_gateOf 84 = .ok (.ixor, 1) := by decide +kernel
theorem dX6_gateOf_85 : decode cX6_gateOf 85 = .ok (.ireturn, 1) := by decide +kernel
theorem dX6_gateOf_86 : decode cX6_gateOf 86 = .ok (.iload_n 1, 1) := by decide +kernel
theorem dX6_gateOf_87 : decode cX6_gateOf 87 = .ok (.iload_n 2, 1) := by decide +kernel
theorem dX6_gateOf_88 : decode cX6_gateOf 88 = .ok (.iload_n 3, 1) := by decide +kernel
theorem dX6_gateOf_89 : decode cX6_gateOf 89 = .ok (.invokestatic 75, 3) := by decide +kernel
theorem dX6_gateOf_92 : decode cX6_gateOf 92 = .ok (.ireturn, 1) := by decide +kernel
theorem dX6_gateOf_93 : decode cX6_gateOf 93 = .ok (.iconst 0, 1) := by decide +kernel
theorem dX6_gateOf_94 : decode cX6_gateOf 94 = .ok (.ireturn, 1) := by decide +kernel
def kX6_gateOf_0 : List (Nat × zT) := [(0, a_iload 0 1), (1, a_sw [(20, 40), (21, 42), (22, 47), (23, 53), (24, 68), (25, 86)] 93), (40, a_i 1 41), (41, a_iret false), (42, a_iload 1 43), (43, a_call 57 1 46 0 0), (46, a_iret false), (47, a_iload 1 48), (48, a_iload 2 49), (49, a_call 58 2 52 0 0), (52, a_iret false), (53, a_iload 1 54), (54, a_call 57 1 57 0 0), (57, a_iload 2 58), (58, a_call 57 1 61 0 0), (61, a_call 58 2 64 0 0), (64, a_call 57 1 67 0 0), (67, a_iret false), (68, a_iload 1 69), (69, a_i 2 70), (70, a_ic_eq 78 73), (73, a_iload 2 74), (74, a_i 2 75), (75, a_ic_ne 82 78)]
theorem oX6_gateOf_0 : ∀ q ∈ kX6_gateOf_0, zSnd zty false RX6 cX6_gateOf 4 (some .int) false q := List.forall_mem_cons.mpr ⟨ok_iload_n dX6_gateOf_0 rfl, List.forall_mem_cons.mpr ⟨ok_tsw dX6_gateOf_1 (by decide) (by decide) (by decide) (by decide), List.forall_mem_cons.mpr ⟨ok_iconst dX6_gateOf_40 (by decide), List.forall_mem_cons.mpr ⟨ok_iret (bz := false) dX6_gateOf_41 rfl, List.forall_mem_cons.mpr ⟨ok_iload_n dX6_gateOf_42 rfl, List.forall_mem_cons.mpr ⟨ok_callS dX6_gateOf_43 rfl w546 w544 w545 w5 (by decide +kernel) (by decide), List.forall_mem_cons.mpr ⟨ok_iret (bz := false) dX6_gateOf_46 rfl, List.forall_mem_cons.mpr ⟨ok_iload_n dX6_gateOf_47 rfl, List.forall_mem_cons.mpr ⟨ok_iload_n dX6_gateOf_48 rfl, List.forall_mem_cons.mpr ⟨ok_callS dX6_gateOf_49 rfl w549 w547 w548 w5 (by decide +kernel) (by decide), List.forall_mem_cons.mpr ⟨ok_iret (bz := false) dX6_gateOf_52 rfl, List.forall_mem_cons.mpr ⟨ok_iload_n dX6_gateOf_53 rfl, List.forall_mem_cons.mpr ⟨ok_callS dX6_gateOf_54 rfl w546 w544 w545 w5 (by decide +kernel) (by decide), List.forall_mem_cons.mpr ⟨ok_iload_n dX6_gateOf_57 rfl, List.forall_mem_cons.mpr ⟨ok_callS dX6_gateOf_58 rfl w546 w544 w545 w5 (by decide +kernel) (by decide), List.forall_mem_cons.mpr ⟨ok_callS dX6_gateOf_61 rfl w549 w547 w548 w5 (by decide +kernel) (by decide), List.forall_mem_cons.mpr ⟨ok_callS dX6_gateOf_64 rfl w546 w544 w545 w5 (by decide +kernel) (by decide), List.forall_mem_cons.mpr ⟨ok_iret (bz := false) dX6_gateOf_67 rfl, List.forall_mem_cons.mpr ⟨ok_iload_n dX6_gateOf_68 rfl, List.forall_mem_cons.mpr ⟨ok_iconst dX6_gateOf_69 (by decide), List.forall_mem_cons.mpr ⟨ok_ic_eq dX6_gateOf_70 (by decide), List.forall_mem_cons.mpr ⟨ok_iload_n dX6_gateOf_73 rfl, List.forall_mem_cons.mpr ⟨ok_iconst dX6_gateOf_74 (by decide), List.forall_mem_cons.mpr ⟨ok_ic_ne dX6_gateOf_75 (by decide), fun _ h => absurd h List.not_mem_nil⟩⟩⟩⟩⟩⟩⟩⟩⟩⟩⟩⟩⟩⟩⟩⟩⟩⟩⟩⟩⟩⟩⟩⟩
def kX6_gateOf_1 : List (Nat × zT) := [(78, a_i 2 79), (79, a_goto 85), (82, a_iload 1 83), (83, a_iload 2 84), (84, a_ii (fun x y => x ^^^ y) 85), (85, a_iret false), (86, a_iload 1 87), (87, a_iload 2 88), (88, a_iload 3 89), (89, a_call 59 3 92 0 0), (92, a_iret false), (93, a_i 0 94), (94, a_iret false)]
theorem oX6_gateOf_1 : ∀ q ∈ kX6_gateOf_1, zSnd zty false RX6 cX6_gateOf 4 (some .int) false q := List.forall_mem_cons.mpr ⟨ok_iconst dX6_gateOf_78 (by decide), List.forall_mem_cons.mpr ⟨ok_goto dX6_gateOf_79 (by decide), List.forall_mem_cons.mpr ⟨ok_iload_n dX6_gateOf_82 rfl, List.forall_mem_cons.mpr ⟨ok_iload_n dX6_gateOf_83 rfl, List.forall_mem_cons.mpr ⟨ok_ixor dX6_gateOf_84, List.forall_mem_cons.mpr ⟨ok_iret (bz := false) dX6_gateOf_85 rfl, List.forall_mem_cons.mpr ⟨ok_iload_n dX6_gateOf_86 rfl, List.forall_mem_cons.mpr ⟨ok_iload_n dX6_gateOf_87 rfl, List.forall_mem_cons.mpr ⟨ok_iload_n dX6_gateOf_88 rfl, List.forall_mem_cons.mpr ⟨ok_callS dX6_gateOf_89 rfl w552 w550 w551 w5 (by decide +kernel) (by decide), List.forall_mem_cons.mpr ⟨ok_iret (bz := false) dX6_gateOf_92 rfl, List.forall_mem_cons.mpr ⟨ok_iconst dX6_gateOf_93 (by decide), List.forall_mem_cons.mpr ⟨ok_iret (bz := false) dX6_gateOf_94 rfl, fun _ h => absurd h List.not_mem_nil⟩⟩⟩⟩⟩⟩⟩⟩⟩⟩⟩⟩⟩
def kX6_gateOf : List (Nat × zT) := kX6_gateOf_0 ++ (kX6_gateOf_1)
theorem qX6_gateOf_0 : ∀ q ∈ kX6_gateOf_0, q ∈ kX6_gateOf := fun _ h => (List.mem_append_left _ h)
theorem tX6_gateOf_0 : (0, a_iload 0 1) ∈ kX6_gateOf := qX6_gateOf_0 _ (List.mem_of_getElem? (i := 0) rfl)
theorem tX6_gateOf_1 : (1, a_sw [(20, 40), (21, 42), (22, 47), (23, 53), (24, 68), (25, 86)] 93) ∈ kX6_gateOf := qX6_gateOf_0 _ (List.mem_of_getElem? (i := 1) rfl)
theorem tX6_gateOf_40 : (40, a_i 1 41) ∈ kX6_gateOf := qX6_gateOf_0 _ (List.mem_of_getElem? (i := 2) rfl)
theorem tX6_gateOf_41 : (41, a_iret false) ∈ kX6_gateOf := qX6_gateOf_0 _ (List.mem_of_getElem? (i := 3) rfl)
theorem tX6_gateOf_42 : (42, a_iload 1 43) ∈ kX6_gateOf := qX6_gateOf_0 _ (List.mem_of_getElem? (i := 4) rfl)
theorem tX6_gateOf_43 : (43, a_call 57 1 46 0 0) ∈ kX6_gateOf := qX6_gateOf_0 _ (List.mem_of_getElem? (i := 5) rfl)
theorem tX6_gateOf_46 : (46, a_iret false) ∈ kX6_gateOf := qX6_gateOf_0 _ (List.mem_of_getElem? (i := 6) rfl)
theorem tX6_gateOf_47 : (47, a_iload 1 48) ∈ kX6_gateOf := qX6_gateOf_0 _ (List.mem_of_getElem? (i := 7) rfl)
theorem tX6_gateOf_48 : (48, a_iload 2 49) ∈ kX6_gateOf := qX6_gateOf_0 _ (List.mem_of_getElem? (i := 8) rfl)
theorem tX6_gateOf_49 : (49, a_call 58 2 52 0 0) ∈ kX6_gateOf := qX6_gateOf_0 _ (List.mem_of_getElem? (i := 9) rfl)
theorem tX6_gateOf_52 : (52, a_iret false) ∈ kX6_gateOf := qX6_gateOf_0 _ (List.mem_of_getElem? (i := 10) rfl)
theorem tX6_gateOf_53 : (53, a_iload 1 54) ∈ kX6_gateOf := qX6_gateOf_0 _ (List.mem_of_getElem? (i := 11) rfl)
theorem tX6_gateOf_54 : (54, a_call 57 1 57 0 0) ∈ kX6_gateOf := qX6_gateOf_0 _ (List.mem_of_getElem? (i := 12) rfl)
theorem tX6_gateOf_57 : (57, a_iload 2 58) ∈ kX6_gateOf := qX6_gateOf_0 _ (List.mem_of_getElem? (i := 13) rfl)
theorem tX6_gateOf_58 : (58, a_call 57 1 61 0 0) ∈ kX6_gateOf := qX6_gateOf_0 _ (List.mem_of_getElem? (i := 14) rfl)
theorem tX6_gateOf_61 : (61, a_call 58 2 64 0 0) ∈ kX6_gateOf := qX6_gateOf_0 _ (List.mem_of_getElem? (i := 15) rfl)
theorem tX6_gateOf_64 : (64, a_call 57 1 67 0 0) ∈ kX6_gateOf := qX6_gateOf_0 _ (List.mem_of_getElem? (i := 16) rfl)
theorem tX6_gateOf_67 : (67, a_iret false) ∈ kX6_gateOf := qX6_gateOf_0 _ (List.mem_of_getElem? (i := 17) rfl)
theorem tX6_gateOf_68 : (68, a_iload 1 69) ∈ kX6_gateOf := qX6_gateOf_0 _ (List.mem_of_getElem? (i := 18) rfl)
theorem tX6_gateOf_69 : (69, a_i 2 70) ∈ kX6_gateOf := qX6_gateOf_0 _ (List.mem_of_getElem? (i := 19) rfl)
theorem tX6_gateOf_70 : (70, a_ic_eq 78 73) ∈ kX6_gateOf := qX6_gateOf_0 _ (List.mem_of_getElem? (i := 20) rfl)
theorem tX6_gateOf_73 : (73, a_iload 2 74) ∈ kX6_gateOf := qX6_gateOf_0 _ (List.mem_of_getElem? (i := 21) rfl)
theorem tX6_gateOf_74 : (74, a_i 2 75) ∈ kX6_gateOf := qX6_gateOf_0 _ (List.mem_of_getElem? (i := 22) rfl)
theorem tX6_gateOf_75 : (75, a_ic_ne 82 78) ∈ kX6_gateOf := qX6_gateOf_0 _ (List.mem_of_getElem? (i := 23) rfl)
theorem qX6_gateOf_1 : ∀ q ∈ kX6_gateOf_1, q ∈ kX6_gateOf := fun _ h => (List.mem_append_right _ h)
theorem tX6_gateOf_78 : (78, a_i 2 79) ∈ kX6_gateOf := qX6_gateOf_1 _ (List.mem_of_getElem? (i := 0) rfl)
theorem tX6_gateOf_79 : (79, a_goto 85) ∈ kX6_gateOf := qX6_gateOf_1 _ (List.mem_of_getElem? (i := 1) rfl)
theorem tX6_gateOf_82 : (82, a_iload 1 83) ∈ kX6_gateOf := qX6_gateOf_1 _ (List.mem_of_getElem? (i := 2) rfl)
theorem tX6_gateOf_83 : (83, a_iload 2 84) ∈ kX6_gateOf := qX6_gateOf_1 _ (List.mem_of_getElem? (i := 3) rfl)
theorem tX6_gateOf_84 : (84, a_ii (fun x y => x ^^^ y) 85) ∈ kX6_gateOf := qX6_gateOf_1 _ (List.mem_of_getElem? (i := 4) rfl)
theorem tX6_gateOf_85 : (85, a_iret false) ∈ kX6_gateOf := qX6_gateOf_1 _ (List.mem_of_getElem? (i := 5) rfl)
theorem tX6_gateOf_86 : (86, a_iload 1 87) ∈ kX6_gateOf := qX6_gateOf_1 _ (List.mem_of_getElem? (i := 6) rfl)
theorem tX6_gateOf_87 : (87, a_iload 2 88) ∈ kX6_gateOf := qX6_gateOf_1 _ (List.mem_of_getElem? (i := 7) rfl)
theorem tX6_gateOf_88 : (88, a_iload 3 89) ∈ kX6_gateOf := qX6_gateOf_1 _ (List.mem_of_getElem? (i := 8) rfl)
theorem tX6_gateOf_89 : (89, a_call 59 3 92 0 0) ∈ kX6_gateOf := qX6_gateOf_1 _ (List.mem_of_getElem? (i := 9) rfl)
theorem tX6_gateOf_92 : (92, a_iret false) ∈ kX6_gateOf := qX6_gateOf_1 _ (List.mem_of_getElem? (i := 10) rfl)
theorem tX6_gateOf_93 : (93, a_i 0 94) ∈ kX6_gateOf := qX6_gateOf_1 _ (List.mem_of_getElem? (i := 11) rfl)
theorem tX6_gateOf_94 : (94, a_iret false) ∈ kX6_gateOf := qX6_gateOf_1 _ (List.mem_of_getElem? (i := 12) rfl)
theorem oX6_gateOf : ∀ q ∈ kX6_gateOf, zSnd zty false RX6 cX6_gateOf 4 (some .int) false q := List.forall_mem_append.mpr ⟨oX6_gateOf_0, oX6_gateOf_1⟩
theorem dX6_turned_0 : decode cX6_turned 0 = .ok (.iload_n 0, 1) := by decide +kernel
theorem dX6_turned_1 : decode cX6_turned 1 = .ok (.iconst 2, 1) := by decide +kernel
theorem dX6_turned_2 : decode cX6_turned 2 = .ok (.if_icmp .ne 7, 3) := by decide +kernel
theorem dX6_turned_5 : decode cX6_turned 5 = .ok (.iconst 2, 1) := by decide +kernel
theorem dX6_turned_6 : decode cX6_turned 6 = .ok (.goto 6, 3) := by decide +kernel
theorem dX6_turned_9 : decode cX6_turned 9 = .ok (.iconst 1, 1) := by decide +kernel
theorem dX6_turned_10 : decode cX6_turned 10 = .ok (.iload_n 0, 1) := by decide +kernel
theorem dX6_turned_11 : decode cX6_turned 11 = .ok (.isub, 1) := by decide +kernel
theorem dX6_turned_12 : decode cX6_turned 12 = .ok (.ireturn, 1) := by decide +kernel
def kX6_turned_0 : List (Nat × zT) := [(0, a_iload 0 1), (1, a_i 2 2), (2, a_ic_ne 9 5), (5, a_i 2 6), (6, a_goto 12), (9, a_i 1 10), (10, a_iload 0 11), (11, a_ii (fun x y => x - y) 12), (12, a_iret false)]
theorem oX6_turned_0 : ∀ q ∈ kX6_turned_0, zSnd zty false RX6 cX6_turned 1 (some .int) false q := List.forall_mem_cons.mpr ⟨ok_iload_n dX6_turned_0 rfl, List.forall_mem_cons.mpr ⟨ok_iconst dX6_turned_1 (by decide), List.forall_mem_cons.mpr ⟨ok_ic_ne dX6_turned_2 (by decide), List.forall_mem_cons.mpr ⟨ok_iconst dX6_turned_5 (by decide), List.forall_mem_cons.mpr ⟨ok_goto dX6_turned_6 (by decide), List.forall_mem_cons.mpr ⟨ok_iconst dX6_turned_9 (by decide), List.forall_mem_cons.mpr ⟨ok_iload_n dX6_turned_10 rfl, List.forall_mem_cons.mpr ⟨ok_isub dX6_turned_11, List.forall_mem_cons.mpr ⟨ok_iret (bz := false) dX6_turned_12 rfl, fun _ h => absurd h List.not_mem_nil⟩⟩⟩⟩⟩⟩⟩⟩⟩
def kX6_turned : List (Nat × zT) := kX6_turned_0
theorem qX6_turned_0 : ∀ q ∈ kX6_turned_0, q ∈ kX6_turned := fun _ h => h
theorem tX6_turned_0 : (0, a_iload 0 1) ∈ kX6_turned := qX6_turned_0 _ (List.mem_of_getElem? (i := 0) rfl)
theorem tX6_turned_1 : (1, a_i 2 2) ∈ kX6_turned := qX6_turned_0 _ (List.mem_of_getElem? (i := 1) rfl)
theorem tX6_turned_2 : (2, a_ic_ne 9 5) ∈ kX6_turned := qX6_turned_0 _ (List.mem_of_getElem? (i := 2) rfl)
theorem tX6_turned_5 : (5, a_i 2 6) ∈ kX6_turned := qX6_turned_0 _ (List.mem_of_getElem? (i := 3) rfl)
theorem tX6_turned_6 : (6, a_goto 12) ∈ kX6_turned := qX6_turned_0 _ (List.mem_of_getElem? (i := 4) rfl)
theorem tX6_turned_9 : (9, a_i 1 10) ∈ kX6_turned := qX6_turned_0 _ (List.mem_of_getElem? (i := 5) rfl)
theorem tX6_turned_10 : (10, a_iload 0 11) ∈ kX6_turned := qX6_turned_0 _ (List.mem_of_getElem? (i := 6) rfl)
theorem tX6_turned_11 : (11, a_ii (fun x y => x - y) 12) ∈ kX6_turned := qX6_turned_0 _ (List.mem_of_getElem? (i := 7) rfl)
theorem tX6_turned_12 : (12, a_iret false) ∈ kX6_turned := qX6_turned_0 _ (List.mem_of_getElem? (i := 8) rfl)
theorem oX6_turned : ∀ q ∈ kX6_turned, zSnd zty false RX6 cX6_turned 1 (some .int) false q := oX6_turned_0
theorem dX6_both_0 : decode cX6_both 0 = .ok (.iload_n 0, 1) := by decide +kernel
theorem dX6_both_1 : decode cX6_both 1 = .ok (.ifCond .eq 7, 3) := by decide +kernel
theorem dX6_both_4 : decode cX6_both 4 = .ok (.iload_n 1, 1) := by decide +kernel
theorem dX6_both_5 : decode cX6_both 5 = .ok (.ifCond .ne 5, 3) := by decide +kernel
theorem dX6_both_8 : decode cX6_both 8 = .ok (.iconst 0, 1) := by decide +kernel
theorem dX6_both_9 : decode cX6_both 9 = .ok (.ireturn, 1) := by decide +kernel
theorem dX6_both_10 : decode cX6_both 10 = .ok (.iload_n 0, 1) := by decide +kernel
theorem dX6_both_11 : decode cX6_both 11 = .ok (.iconst 2, 1) := by decide +kernel
theorem dX6_both_12 : decode cX6_both 12 = .ok (.if_icmp .eq 8, 3) := by decide +kernel
theorem dX6_both_15 : decode cX6_both 15 = .ok (.iload_n 1, 1) := by decide +kernel
theorem dX6_both_16 : decode cX6_both 16 = .ok (.iconst 2, 1) := by decide +kernel
theorem dX6_both_17 : decode cX6_both 17 = .ok (.if_icmp .ne 7, 3) := by decide +kernel
theorem dX6_both_20 : decode cX6_both 20 = .ok (.iconst 2, 1) := by decide +kernel
theorem dX6_both_21 : decode cX6_both 21 = .ok (.goto 4, 3) := by decide +kernel
theorem dX6_both_24 : decode cX6_both 24 = .ok (.iconst 1, 1) := by decide +kernel
theorem dX6_both_25 : decode cX6_both 25 = .ok (.ireturn, 1) := by decide +kernel
def kX6_both_0 : List (Nat × zT) := [(0, a_iload 0 1), (1, a_if_eq 8 4), (4, a_iload 1 5), (5, a_if_ne 10 8), (8, a_i 0 9), (9, a_iret false), (10, a_iload 0 11), (11, a_i 2 12), (12, a_ic_eq 20 15), (15, a_iload 1 16), (16, a_i 2 17), (17, a_ic_ne 24 20), (20, a_i 2 21), (21, a_goto 25), (24, a_i 1 25), (25, a_iret false)]
theorem oX6_both_0 : ∀ q ∈ kX6_both_0, zSnd zty false RX6 cX6_both 2 (some .int) false q := List.forall_mem_cons.mpr ⟨ok_iload_n dX6_both_0 rfl, List.forall_mem_cons.mpr ⟨ok_if_eq dX6_both_1 (by decide), List.forall_mem_cons.mpr ⟨ok_iload_n dX6_both_4 rfl, List.forall_mem_cons.mpr ⟨ok_if_ne dX6_both_5 (by decide), List.forall_mem_cons.mpr ⟨ok_iconst dX6_both_8 (by decide), List.forall_mem_cons.mpr ⟨ok_iret (bz := false) dX6_both_9 rfl, List.forall_mem_cons.mpr ⟨ok_iload_n dX6_both_10 rfl, List.forall_mem_cons.mpr ⟨ok_iconst dX6_both_11 (by decide), List.forall_mem_cons.mpr ⟨ok_ic_eq dX6_both_12 (by decide), List.forall_mem_cons.mpr ⟨ok_iload_n dX6_both_15 rfl, List.forall_mem_cons.mpr ⟨ok_iconst dX6_both_16 (by decide), List.forall_mem_cons.mpr ⟨ok_ic_ne dX6_both_17 (by decide), List.forall_mem_cons.mpr ⟨ok_iconst dX6_both_20 (by decide), List.forall_mem_cons.mpr ⟨ok_goto dX6_both_21 (by decide), List.forall_mem_cons.mpr ⟨ok_iconst dX6_both_24 (by decide), List.forall_mem_cons.mpr ⟨ok_iret (bz := false) dX6_both_25 rfl, fun _ h => absurd h List.not_mem_nil⟩⟩⟩⟩⟩⟩⟩⟩⟩⟩⟩⟩⟩⟩⟩⟩
def kX6_both : List (Nat × zT) := kX6_both_0
theorem qX6_both_0 : ∀ q ∈ kX6_both_0, q ∈ kX6_both := fun _ h => h
theorem tX6_both_0 : (0, a_iload 0 1) ∈ kX6_both := qX6_both_0 _ (List.mem_of_getElem? (i := 0) rfl)
theorem tX6_both_1 : (1, a_if_eq 8 4) ∈ kX6_both := qX6_both_0 _ (List.mem_of_getElem? (i := 1) rfl)
theorem tX6_both_4 : (4, a_iload 1 5) ∈ kX6_both := qX6_both_0 _ (List.mem_of_getElem? (i := 2) rfl)
theorem tX6_both_5 : (5, a_if_ne 10 8) ∈ kX6_both := qX6_both_0 _ (List.mem_of_getElem? (i := 3) rfl)
theorem tX6_both_8 : (8, a_i 0 9) ∈ kX6_both := qX6_both_0 _ (List.mem_of_getElem? (i := 4) rfl)
theorem tX6_both_9 : (9, a_iret false) ∈ kX6_both := qX6_both_0 _ (List.mem_of_getElem? (i := 5) rfl)
theorem tX6_both_10 : (10, a_iload 0 11) ∈ kX6_both := qX6_both_0 _ (List.mem_of_getElem? (i := 6) rfl)
theorem tX6_both_11 : (11, a_i 2 12) ∈ kX6_both := qX6_both_0 _ (List.mem_of_getElem? (i := 7) rfl)
theorem tX6_both_12 : (12, a_ic_eq 20 15) ∈ kX6_both := qX6_both_0 _ (List.mem_of_getElem? (i := 8) rfl)
theorem tX6_both_15 : (15, a_iload 1 16) ∈ kX6_both := qX6_both_0 _ (List.mem_of_getElem? (i := 9) rfl)
theorem tX6_both_16 : (16, a_i 2 17) ∈ kX6_both := qX6_both_0 _ (List.mem_of_getElem? (i := 10) rfl)
theorem tX6_both_17 : (17, a_ic_ne 24 20) ∈ kX6_both := qX6_both_0 _ (List.mem_of_getElem? (i := 11) rfl)
theorem tX6_both_20 : (20, a_i 2 21) ∈ kX6_both := qX6_both_0 _ (List.mem_of_getElem? (i := 12) rfl)
theorem tX6_both_21 : (21, a_goto 25) ∈ kX6_both := qX6_both_0 _ (List.mem_of_getElem? (i := 13) rfl)
theorem tX6_both_24 : (24, a_i 1 25) ∈ kX6_both := qX6_both_0 _ (List.mem_of_getElem? (i := 14) rfl)
theorem tX6_both_25 : (25, a_iret false) ∈ kX6_both := qX6_both_0 _ (List.mem_of_getElem? (i := 15) rfl)
theorem oX6_both : ∀ q ∈ kX6_both, zSnd zty false RX6 cX6_both 2 (some .int) false q := oX6_both_0
theorem dX6_chosen_0 : decode cX6_chosen 0 = .ok (.iload_n 0, 1) := by decide +kernel
theorem dX6_chosen_1 : decode cX6_chosen 1 = .ok (.iconst 2, 1) := by decide +kernel
theorem dX6_chosen_2 : decode cX6_chosen 2 = .ok (.if_icmp .ne 14, 3) := by decide +kernel
theorem dX6_chosen_5 : decode cX6_chosen 5 = .ok (.iload_n 1, 1) := by decide +kernel
theorem dX6_chosen_6 : decode cX6_chosen 6 = .ok (.iload_n 2, 1) := by decide +kernel
theorem dX6_chosen_7 : decode cX6_chosen 7 = .ok (.if_icmp .ne 7, 3) := by decide +kernel
theorem dX6_chosen_10 : decode cX6_chosen 10 = .ok (.iload_n 1, 1) := by decide +kernel
theorem dX6_chosen_11 : decode cX6_chosen 11 = .ok (.goto 4, 3) := by decide +kernel
theorem dX6_chosen_14 : decode cX6_chosen 14 = .ok (.iconst 2, 1) := by decide +kernel
theorem dX6_chosen_15 : decode cX6_chosen 15 = .ok (.ireturn, 1) := by decide +kernel
theorem dX6_chosen_16 : decode cX6_chosen 16 = .ok (.iload_n 0, 1) := by decide +kernel
theorem dX6_chosen_17 : decode cX6_chosen 17 = .ok (.iconst 1, 1) := by decide +kernel
theorem dX6_chosen_18 : decode cX6_chosen 18 = .ok (.if_icmp .ne 7, 3) := by decide +kernel
theorem dX6_chosen_21 : decode cX6_chosen 21 = .ok (.iload_n 1, 1) := by decide +kernel
theorem dX6_chosen_22 : decode cX6_chosen 22 = .ok (.goto 4, 3) := by decide +kernel
theorem dX6_chosen_25 : decode cX6_chosen 25 = .ok (.iload_n 2, 1) := by decide +kernel
theorem dX6_chosen_26 : decode cX6_chosen 26 = .ok (.ireturn, 1) := by decide +kernel
def kX6_chosen_0 : List (Nat × zT) := [(0, a_iload 0 1), (1, a_i 2 2), (2, a_ic_ne 16 5), (5, a_iload 1 6), (6, a_iload 2 7), (7, a_ic_ne 14 10), (10, a_iload 1 11), (11, a_goto 15), (14, a_i 2 15), (15, a_iret false), (16, a_iload 0 17), (17, a_i 1 18), (18, a_ic_ne 25 21), (21, a_iload 1 22), (22, a_goto 26), (25, a_iload 2 26), (26, a_iret false)]
theorem oX6_chosen_0 : ∀ q ∈ kX6_chosen_0, zSnd zty false RX6 cX6_chosen 3 (some .int) false q := List.forall_mem_cons.mpr ⟨ok_iload_n dX6_chosen_0 rfl, List.forall_mem_cons.mpr ⟨ok_iconst dX6_chosen_1 (by decide), List.forall_mem_cons.mpr ⟨ok_ic_ne dX6_chosen_2 (by decide), List.forall_mem_cons.mpr ⟨ok_iload_n dX6_chosen_5 rfl, List.forall_mem_cons.mpr ⟨ok_iload_n dX6_chosen_6 rfl, List.forall_mem_cons.mpr ⟨ok_ic_ne dX6_chosen_7 (by decide), List.forall_mem_cons.mpr ⟨ok_iload_n dX6_chosen_10 rfl, List.forall_mem_cons.mpr ⟨ok_goto dX6_chosen_11 (by decide), List.forall_mem_cons.mpr ⟨ok_iconst dX6_chosen_14 (by decide), List.forall_mem_cons.mpr ⟨ok_iret (bz := false) dX6_chosen_15 rfl, List.forall_mem_cons.mpr ⟨ok_iload_n dX6_chosen_16 rfl, List.forall_mem_cons.mpr ⟨ok_iconst dX6_chosen_17 (by decide), List.forall_mem_cons.mpr ⟨ok_ic_ne dX6_chosen_18 (by decide), List.forall_mem_cons.mpr ⟨ok_iload_n dX6_chosen_21 rfl, List.forall_mem_cons.mpr ⟨ok_goto dX6_chosen_22 (by decide), List.forall_mem_cons.mpr ⟨ok_iload_n dX6_chosen_25 rfl, List.forall_mem_cons.mpr ⟨ok_iret (bz := false) dX6_chosen_26 rfl, fun _ h => absurd h List.not_mem_nil⟩⟩⟩⟩⟩⟩⟩⟩⟩⟩⟩⟩⟩⟩⟩⟩⟩
def kX6_chosen : List (Nat × zT) := kX6_chosen_0
theorem qX6_chosen_0 : ∀ q ∈ kX6_chosen_0, q ∈ kX6_chosen := fun _ h => h
theorem tX6_chosen_0 : (0, a_iload 0 1) ∈ kX6_chosen := qX6_chosen_0 _ (List.mem_of_getElem? (i := 0) rfl)
theorem tX6_chosen_1 : (1, a_i 2 2) ∈ kX6_chosen := qX6_chosen_0 _ (List.mem_of_getElem? (i := 1) rfl)
theorem tX6_chosen_2 : (2, a_ic_ne 16 5) ∈ kX6_chosen := qX6_chosen_0 _ (List.mem_of_getElem? (i := 2) rfl)
theorem tX6_chosen_5 : (5, a_iload 1 6) ∈ kX6_chosen := qX6_chosen_0 _ (List.mem_of_getElem? (i := 3) rfl)
theorem tX6_chosen_6 : (6, a_iload 2 7) ∈ kX6_chosen := qX6_chosen_0 _ (List.mem_of_getElem? (i := 4) rfl)
theorem tX6_chosen_7 : (7, a_ic_ne 14 10) ∈ kX6_chosen := qX6_chosen_0 _ (List.mem_of_getElem? (i := 5) rfl)
theorem tX6_chosen_10 : (10, a_iload 1 11) ∈ kX6_chosen := qX6_chosen_0 _ (List.mem_of_getElem? (i := 6) rfl)
theorem tX6_chosen_11 : (11, a_goto 15) ∈ kX6_chosen := qX6_chosen_0 _ (List.mem_of_getElem? (i := 7) rfl)
theorem tX6_chosen_14 : (14, a_i 2 15) ∈ kX6_chosen := qX6_chosen_0 _ (List.mem_of_getElem? (i := 8) rfl)
theorem tX6_chosen_15 : (15, a_iret false) ∈ kX6_chosen := qX6_chosen_0 _ (List.mem_of_getElem? (i := 9) rfl)
theorem tX6_chosen_16 : (16, a_iload 0 17) ∈ kX6_chosen := qX6_chosen_0 _ (List.mem_of_getElem? (i := 10) rfl)
theorem tX6_chosen_17 : (17, a_i 1 18) ∈ kX6_chosen := qX6_chosen_0 _ (List.mem_of_getElem? (i := 11) rfl)
theorem tX6_chosen_18 : (18, a_ic_ne 25 21) ∈ kX6_chosen := qX6_chosen_0 _ (List.mem_of_getElem? (i := 12) rfl)
theorem tX6_chosen_21 : (21, a_iload 1 22) ∈ kX6_chosen := qX6_chosen_0 _ (List.mem_of_getElem? (i := 13) rfl)
theorem tX6_chosen_22 : (22, a_goto 26) ∈ kX6_chosen := qX6_chosen_0 _ (List.mem_of_getElem? (i := 14) rfl)
theorem tX6_chosen_25 : (25, a_iload 2 26) ∈ kX6_chosen := qX6_chosen_0 _ (List.mem_of_getElem? (i := 15) rfl)
theorem tX6_chosen_26 : (26, a_iret false) ∈ kX6_chosen := qX6_chosen_0 _ (List.mem_of_getElem? (i := 16) rfl)
theorem oX6_chosen : ∀ q ∈ kX6_chosen, zSnd zty false RX6 cX6_chosen 3 (some .int) false q := oX6_chosen_0
theorem dX7_init_0 : decode cX7_init 0 = .ok (.aload_n 0, 1) := by decide +kernel
theorem dX7_init_1 : decode cX7_init 1 = .ok (.invokespecial 3, 3) := by decide +kernel
theorem dX7_init_4 : decode cX7_init 4 = .ok (.aload_n 0, 1) := by decide +kernel
theorem dX7_init_5 : decode cX7_init 5 = .ok (.sipush 200, 3) := by decide +kernel
theorem dX7_init_8 : decode cX7_init 8 = .ok (.newarray .int, 2) := by decide +kernel
theorem dX7_init_10 : decode cX7_init 10 = .ok (.putfield 9, 3) := by decide +kernel
theorem dX7_init_13 : decode cX7_init 13 = .ok (.aload_n 0, 1) := by decide +kernel
theorem dX7_init_14 : decode cX7_init 14 = .ok (.iconst 0, 1) := by decide +kernel
theorem dX7_init_15 : decode cX7_init 15 = .ok (.putfield 15, 3) := by decide +kernel
theorem dX7_init_18 : decode cX7_init 18 = .ok (.return_, 1) := by decide +kernel
def kX7_init_0 : List (Nat × zT) := [(0, a_aload 0 1), (1, a_obj 4), (4, a_aload 0 5), (5, a_i 200 8), (8, a_newI 10), (10, a_putR 7 0 13), (13, a_aload 0 14), (14, a_i 0 15), (15, a_putI 7 1 18 false), (18, a_vret)]
theorem oX7_init_0 : ∀ q ∈ kX7_init_0, zSnd zty true RX7 cX7_init 1 none true q := List.forall_mem_cons.mpr ⟨ok_aload_n dX7_init_0 rfl, List.forall_mem_cons.mpr ⟨ok_obj dX7_init_1 w33 w25 w26, List.forall_mem_cons.mpr ⟨ok_aload_n dX7_init_4 rfl, List.forall_mem_cons.mpr ⟨ok_sipush dX7_init_5 (by decide), List.forall_mem_cons.mpr ⟨ok_newI dX7_init_8 rfl w44, List.forall_mem_cons.mpr ⟨ok_putR dX7_init_10 rfl rfl in7 tyX7 tyX7_ok nmX7 (by decide) rfl w34 rfl rfl (fun _ => ⟨rfl, rfl⟩), List.forall_mem_cons.mpr ⟨ok_aload_n dX7_init_13 rfl, List.forall_mem_cons.mpr ⟨ok_iconst dX7_init_14 (by decide), List.forall_mem_cons.mpr ⟨ok_putI (bz := false) dX7_init_15 rfl in7 tyX7 tyX7_ok nmX7 (by decide) rfl w36 rfl rfl, List.forall_mem_cons.mpr ⟨ok_vret dX7_init_18 rfl, fun _ h => absurd h List.not_mem_nil⟩⟩⟩⟩⟩⟩⟩⟩⟩⟩
def kX7_init : List (Nat × zT) := kX7_init_0
theorem qX7_init_0 : ∀ q ∈ kX7_init_0, q ∈ kX7_init := fun _ h => h
theorem tX7_init_0 : (0, a_aload 0 1) ∈ kX7_init := qX7_init_0 _ (List.mem_of_getElem? (i := 0) rfl)
theorem tX7_init_1 : (1, a_obj 4) ∈ kX7_init := qX7_init_0 _ (List.mem_of_getElem? (i := 1) rfl)
theorem tX7_init_4 : (4, a_aload 0 5) ∈ kX7_init := qX7_init_0 _ (List.mem_of_getElem? (i := 2) rfl)
theorem tX7_init_5 : (5, a_i 200 8) ∈ kX7_init := qX7_init_0 _ (List.mem_of_getElem? (i := 3) rfl)
theorem tX7_init_8 : (8, a_newI 10) ∈ kX7_init := qX7_init_0 _ (List.mem_of_getElem? (i := 4) rfl)
theorem tX7_init_10 : (10, a_putR 7 0 13) ∈ kX7_init := qX7_init_0 _ (List.mem_of_getElem? (i := 5) rfl)
theorem tX7_init_13 : (13, a_aload 0 14) ∈ kX7_init := qX7_init_0 _ (List.mem_of_getElem? (i := 6) rfl)
theorem tX7_init_14 : (14, a_i 0 15) ∈ kX7_init := qX7_init_0 _ (List.mem_of_getElem? (i := 7) rfl)
theorem tX7_init_15 : (15, a_putI 7 1 18 false) ∈ kX7_init := qX7_init_0 _ (List.mem_of_getElem? (i := 8) rfl)
theorem tX7_init_18 : (18, a_vret) ∈ kX7_init := qX7_init_0 _ (List.mem_of_getElem? (i := 9) rfl)
theorem oX7_init : ∀ q ∈ kX7_init, zSnd zty true RX7 cX7_init 1 none true q := oX7_init_0
theorem dX7_append_0 : decode cX7_append 0 = .ok (.iload_n 1, 1) := by decide +kernel
theorem dX7_append_1 : decode cX7_append 1 = .ok (.sipush 200, 3) := by decide +kernel
theorem dX7_append_4 : decode cX7_append 4 = .ok (.aload_n 0, 1) := by decide +kernel
theorem dX7_append_5 : decode cX7_append 5 = .ok (.getfield 15, 3) := by decide +kernel
theorem dX7_append_8 : decode cX7_append 8 = .ok (.isub, 1) := by decide +kernel
theorem dX7_append_9 : decode cX7_append 9 = .ok (.if_icmp .le 6, 3) := by decide +kernel
theorem dX7_append_12 : decode cX7_append 12 = .ok (.bipush (-3), 2) := by decide +kernel
theorem dX7_append_14 : decode cX7_append 14 = .ok (.ireturn, 1) := by decide +kernel
theorem dX7_append_15 : decode cX7_append 15 = .ok (.iload_n 1, 1) := by decide +kernel
theorem dX7_append_16 : decode cX7_append 16 = .ok (.iconst 1, 1) := by decide +kernel
theorem dX7_append_17 : decode cX7_append 17 = .ok (.isub, 1) := by decide +kernel
theorem dX7_append_18 : decode cX7_append 18 = .ok (.istore 4, 2) := by decide +kernel
theorem dX7_append_20 : decode cX7_append 20 = .ok (.iload 4, 2) := by decide +kernel
theorem dX7_append_22 : decode cX7_append 22 = .ok (.ifCond .lt 40, 3) := by decide +kernel
theorem dX7_append_25 : decode cX7_append 25 = .ok (.aload_n 0, 1) := by decide +kernel
theorem dX7_append_26 : decode cX7_append 26 = .ok (.getfield 9, 3) := by decide +kernel
theorem dX7_append_29 : decode cX7_append 29 = .ok (.aload_n 0, 1) := by decide +kernel
theorem dX7_append_30 : decode cX7_append 30 = .ok (.getfield 15, 3) := by decide +kernel
theorem dX7_append_33 : decode cX7_append 33 = .ok (.lload_n 2, 1) := by decide +kernel
theorem dX7_append_34 : decode cX7_append 34 = .ok (.bipush 8, 2) := by decide +kernel
theorem dX7_append_36 : decode cX7_append 36 = .ok (.iload 4, 2) := by decide +kernel
theorem dX7_append_38 : decode cX7_append 38 = .ok (.imul, 1) := by decide +kernel
theorem dX7_append_39 : decode cX7_append 39 = .ok (.lushr, 1) := by decide +kernel
theorem dX7_append_40 : decode cX7_append 40 = .ok (.l2i, 1) := by decide +kernel
theorem dX7_append_41 : decode cX7_append 41 = .ok (.sipush 255, 3) := by decide +kernel
theorem dX7_append_44 : decode cX7_append 44 = .ok (.iand, 1) := by decide +kernel
theorem dX7_append_45 : decode cX7_append 45 = .ok (.iastore, 1) := by decide +kernel
theorem dX7_append_46 : decode cX7_append 46 = .ok (.aload_n 0, 1) := by decide +kernel
theorem dX7_append_47 : decode cX7_append 47 = .ok (.dup, 1) := by decide +kernel
theorem dX7_append_48 : decode cX7_append 48 = .ok (.getfield 15, 3) := by decide +kernel
theorem dX7_append_51 : decode cX7_append 51 = .ok (.iconst 1, 1) := by decide +kernel
theorem dX7_append_52 : decode cX7_append 52 = .ok (.iadd, 1) := by decide +kernel
theorem dX7_append_53 : decode cX7_append 53 = .ok (.putfield 15, 3) := by decide +kernel
theorem dX7_append_56 : decode cX7_append 56 = .ok (.iinc 4 (-1), 3) := by decide +kernel
theorem dX7_append_59 : decode cX7_append 59 = .ok (.goto (-39), 3) := by decide +kernel
theorem dX7_append_62 : decode cX7_append 62 = .ok (.aload_n 0, 1) := by decide +kernel
theorem dX7_append_63 : decode cX7_append 63 = .ok (.getfield 15, 3) := by decide +kernel
theorem dX7_append_66 : decode cX7_append 66 = .ok (.ireturn, 1) := by decide +kernel
def kX7_append_0 : List (Nat × zT) := [(0, a_iload 1 1), (1, a_i 200 4), (4, a_aload 0 5), (5, a_getI 7 1 8), (8, a_ii (fun x y => x - y) 9), (9, a_ic_le 15 12), (12, a_i (-3) 14), (14, a_iret false), (15, a_iload 1 16), (16, a_i 1 17), (17, a_ii (fun x y => x - y) 18), (18, a_istore 4 20), (20, a_iload 4 22), (22, a_if_lt 62 25), (25, a_aload 0 26), (26, a_getR 7 0 29), (29, a_aload 0 30), (30, a_getI 7 1 33), (33, a_lload 2 34), (34, a_i 8 36), (36, a_iload 4 38), (38, a_ii (fun x y => x * y) 39), (39, a_li (fun x y => (x.toUInt64 >>> (y.toInt64.toUInt64 &&& Int64.toUInt64 63)).toInt64) 40), (40, a_l2i 41)]
theorem oX7_append_0 : ∀ q ∈ kX7_append_0, zSnd zty false RX7 cX7_append 5 (some .int) false q := List.forall_mem_cons.mpr ⟨ok_iload_n dX7_append_0 rfl, List.forall_mem_cons.mpr ⟨ok_sipush dX7_append_1 (by decide), List.forall_mem_cons.mpr ⟨ok_aload_n dX7_append_4 rfl, List.forall_mem_cons.mpr ⟨ok_getI dX7_append_5 rfl in7 (by decide) rfl w36, List.forall_mem_cons.mpr ⟨ok_isub dX7_append_8, List.forall_mem_cons.mpr ⟨ok_ic_le dX7_append_9 (by decide), List.forall_mem_cons.mpr ⟨ok_bipush dX7_append_12 (by decide), List.forall_mem_cons.mpr ⟨ok_iret (bz := false) dX7_append_14 rfl, List.forall_mem_cons.mpr ⟨ok_iload_n dX7_append_15 rfl, List.forall_mem_cons.mpr ⟨ok_iconst dX7_append_16 (by decide), List.forall_mem_cons.mpr ⟨ok_isub dX7_append_17, List.forall_mem_cons.mpr ⟨ok_istore dX7_append_18 (by decide), List.forall_mem_cons.mpr ⟨ok_iload dX7_append_20, List.forall_mem_cons.mpr ⟨ok_if_lt dX7_append_22 (by decide), List.forall_mem_cons.mpr ⟨ok_aload_n dX7_append_25 rfl, List.forall_mem_cons.mpr ⟨ok_getR dX7_append_26 rfl in7 (by decide) rfl w34, List.forall_mem_cons.mpr ⟨ok_aload_n dX7_append_29 rfl, List.forall_mem_cons.mpr ⟨ok_getI dX7_append_30 rfl in7 (by decide) rfl w36, List.forall_mem_cons.mpr ⟨ok_lload_n dX7_append_33 rfl, List.forall_mem_cons.mpr ⟨ok_bipush dX7_append_34 (by decide), List.forall_mem_cons.mpr ⟨ok_iload dX7_append_36, List.forall_mem_cons.mpr ⟨ok_imul dX7_append_38, List.forall_mem_cons.mpr ⟨ok_lushr dX7_append_39, List.forall_mem_cons.mpr ⟨ok_l2i dX7_append_40, fun _ h => absurd h List.not_mem_nil⟩⟩⟩⟩⟩⟩⟩⟩⟩⟩⟩⟩⟩⟩⟩⟩⟩⟩⟩⟩⟩⟩⟩⟩
def kX7_append_1 : List (Nat × zT) := [(41, a_i 255 44), (44, a_ii (fun x y => x &&& y) 45), (45, a_iast 46), (46, a_aload 0 47), (47, a_dup 48), (48, a_getI 7 1 51), (51, a_i 1 52), (52, a_ii (fun x y => x + y) 53), (53, a_putI 7 1 56 false), (56, a_iinc 4 (-1) 59), (59, a_goto 20), (62, a_aload 0 63), (63, a_getI 7 1 66), (66, a_iret false)]
theorem oX7_append_1 : ∀ q ∈ kX7_append_1, zSnd zty false RX7 cX7_append 5 (some .int) false q := List.forall_mem_cons.mpr ⟨ok_sipush dX7_append_41 (by decide), List.forall_mem_cons.mpr ⟨ok_iand dX7_append_44, List.forall_mem_cons.mpr ⟨ok_iast dX7_append_45, List.forall_mem_cons.mpr ⟨ok_aload_n dX7_append_46 rfl, List.forall_mem_cons.mpr ⟨ok_dup dX7_append_47, List.forall_mem_cons.mpr ⟨ok_getI dX7_append_48 rfl in7 (by decide) rfl w36, List.forall_mem_cons.mpr ⟨ok_iconst dX7_append_51 (by decide), List.forall_mem_cons.mpr ⟨ok_iadd dX7_append_52, List.forall_mem_cons.mpr ⟨ok_putI (bz := false) dX7_append_53 rfl in7 tyX7 tyX7_ok nmX7 (by decide) rfl w36 rfl rfl, List.forall_mem_cons.mpr ⟨ok_iinc dX7_append_56 (by decide) (by decide), List.forall_mem_cons.mpr ⟨ok_goto dX7_append_59 (by decide), List.forall_mem_cons.mpr ⟨ok_aload_n dX7_append_62 rfl, List.forall_mem_cons.mpr ⟨ok_getI dX7_append_63 rfl in7 (by decide) rfl w36, List.forall_mem_cons.mpr ⟨ok_iret (bz := false) dX7_append_66 rfl, fun _ h => absurd h List.not_mem_nil⟩⟩⟩⟩⟩⟩⟩⟩⟩⟩⟩⟩⟩⟩
def kX7_append : List (Nat × zT) := kX7_append_0 ++ (kX7_append_1)
theorem qX7_append_0 : ∀ q ∈ kX7_append_0, q ∈ kX7_append := fun _ h => (List.mem_append_left _ h)
theorem tX7_append_0 : (0, a_iload 1 1) ∈ kX7_append := qX7_append_0 _ (List.mem_of_getElem? (i := 0) rfl)
theorem tX7_append_1 : (1, a_i 200 4) ∈ kX7_append := qX7_append_0 _ (List.mem_of_getElem? (i := 1) rfl)
theorem tX7_append_4 : (4, a_aload 0 5) ∈ kX7_append := qX7_append_0 _ (List.mem_of_getElem? (i := 2) rfl)
theorem tX7_append_5 : (5, a_getI 7 1 8) ∈ kX7_append := qX7_append_0 _ (List.mem_of_getElem? (i := 3) rfl)
theorem tX7_append_8 : (8, a_ii (fun x y => x - y) 9) ∈ kX7_append := qX7_append_0 _ (List.mem_of_getElem? (i := 4) rfl)
theorem tX7_append_9 : (9, a_ic_le 15 12) ∈ kX7_append := qX7_append_0 _ (List.mem_of_getElem? (i := 5) rfl)
theorem tX7_append_12 : (12, a_i (-3) 14) ∈ kX7_append := qX7_append_0 _ (List.mem_of_getElem? (i := 6) rfl)
theorem tX7_append_14 : (14, a_iret false) ∈ kX7_append := qX7_append_0 _ (List.mem_of_getElem? (i := 7) rfl)
theorem tX7_append_15 : (15, a_iload 1 16) ∈ kX7_append := qX7_append_0 _ (List.mem_of_getElem? (i := 8) rfl)
theorem tX7_append_16 : (16, a_i 1 17) ∈ kX7_append := qX7_append_0 _ (List.mem_of_getElem? (i := 9) rfl)
theorem tX7_append_17 : (17, a_ii (fun x y => x - y) 18) ∈ kX7_append := qX7_append_0 _ (List.mem_of_getElem? (i := 10) rfl)
theorem tX7_append_18 : (18, a_istore 4 20) ∈ kX7_append := qX7_append_0 _ (List.mem_of_getElem? (i := 11) rfl)
theorem tX7_append_20 : (20, a_iload 4 22) ∈ kX7_append := qX7_append_0 _ (List.mem_of_getElem? (i := 12) rfl)
theorem tX7_append_22 : (22, a_if_lt 62 25) ∈ kX7_append := qX7_append_0 _ (List.mem_of_getElem? (i := 13) rfl)
theorem tX7_append_25 : (25, a_aload 0 26) ∈ kX7_append := qX7_append_0 _ (List.mem_of_getElem? (i := 14) rfl)
theorem tX7_append_26 : (26, a_getR 7 0 29) ∈ kX7_append := qX7_append_0 _ (List.mem_of_getElem? (i := 15) rfl)
theorem tX7_append_29 : (29, a_aload 0 30) ∈ kX7_append := qX7_append_0 _ (List.mem_of_getElem? (i := 16) rfl)
theorem tX7_append_30 : (30, a_getI 7 1 33) ∈ kX7_append := qX7_append_0 _ (List.mem_of_getElem? (i := 17) rfl)
theorem tX7_append_33 : (33, a_lload 2 34) ∈ kX7_append := qX7_append_0 _ (List.mem_of_getElem? (i := 18) rfl)
theorem tX7_append_34 : (34, a_i 8 36) ∈ kX7_append := qX7_append_0 _ (List.mem_of_getElem? (i := 19) rfl)
theorem tX7_append_36 : (36, a_iload 4 38) ∈ kX7_append := qX7_append_0 _ (List.mem_of_getElem? (i := 20) rfl)
theorem tX7_append_38 : (38, a_ii (fun x y => x * y) 39) ∈ kX7_append := qX7_append_0 _ (List.mem_of_getElem? (i := 21) rfl)
theorem tX7_append_39 : (39, a_li (fun x y => (x.toUInt64 >>> (y.toInt64.toUInt64 &&& Int64.toUInt64 63)).toInt64) 40) ∈ kX7_append := qX7_append_0 _ (List.mem_of_getElem? (i := 22) rfl)
theorem tX7_append_40 : (40, a_l2i 41) ∈ kX7_append := qX7_append_0 _ (List.mem_of_getElem? (i := 23) rfl)
theorem qX7_append_1 : ∀ q ∈ kX7_append_1, q ∈ kX7_append := fun _ h => (List.mem_append_right _ h)
theorem tX7_append_41 : (41, a_i 255 44) ∈ kX7_append := qX7_append_1 _ (List.mem_of_getElem? (i := 0) rfl)
theorem tX7_append_44 : (44, a_ii (fun x y => x &&& y) 45) ∈ kX7_append := qX7_append_1 _ (List.mem_of_getElem? (i := 1) rfl)
theorem tX7_append_45 : (45, a_iast 46) ∈ kX7_append := qX7_append_1 _ (List.mem_of_getElem? (i := 2) rfl)
theorem tX7_append_46 : (46, a_aload 0 47) ∈ kX7_append := qX7_append_1 _ (List.mem_of_getElem? (i := 3) rfl)
theorem tX7_append_47 : (47, a_dup 48) ∈ kX7_append := qX7_append_1 _ (List.mem_of_getElem? (i := 4) rfl)
theorem tX7_append_48 : (48, a_getI 7 1 51) ∈ kX7_append := qX7_append_1 _ (List.mem_of_getElem? (i := 5) rfl)
theorem tX7_append_51 : (51, a_i 1 52) ∈ kX7_append := qX7_append_1 _ (List.mem_of_getElem? (i := 6) rfl)
theorem tX7_append_52 : (52, a_ii (fun x y => x + y) 53) ∈ kX7_append := qX7_append_1 _ (List.mem_of_getElem? (i := 7) rfl)
theorem tX7_append_53 : (53, a_putI 7 1 56 false) ∈ kX7_append := qX7_append_1 _ (List.mem_of_getElem? (i := 8) rfl)
theorem tX7_append_56 : (56, a_iinc 4 (-1) 59) ∈ kX7_append := qX7_append_1 _ (List.mem_of_getElem? (i := 9) rfl)
theorem tX7_append_59 : (59, a_goto 20) ∈ kX7_append := qX7_append_1 _ (List.mem_of_getElem? (i := 10) rfl)
theorem tX7_append_62 : (62, a_aload 0 63) ∈ kX7_append := qX7_append_1 _ (List.mem_of_getElem? (i := 11) rfl)
theorem tX7_append_63 : (63, a_getI 7 1 66) ∈ kX7_append := qX7_append_1 _ (List.mem_of_getElem? (i := 12) rfl)
theorem tX7_append_66 : (66, a_iret false) ∈ kX7_append := qX7_append_1 _ (List.mem_of_getElem? (i := 13) rfl)
theorem oX7_append : ∀ q ∈ kX7_append, zSnd zty false RX7 cX7_append 5 (some .int) false q := List.forall_mem_append.mpr ⟨oX7_append_0, oX7_append_1⟩
theorem dX8_init_0 : decode cX8_init 0 = .ok (.aload_n 0, 1) := by decide +kernel
theorem dX8_init_1 : decode cX8_init 1 = .ok (.invokespecial 3, 3) := by decide +kernel
theorem dX8_init_4 : decode cX8_init 4 = .ok (.aload_n 0, 1) := by decide +kernel
theorem dX8_init_5 : decode cX8_init 5 = .ok (.bipush 19, 2) := by decide +kernel
theorem dX8_init_7 : decode cX8_init 7 = .ok (.newarray .int, 2) := by decide +kernel
theorem dX8_init_9 : decode cX8_init 9 = .ok (.putfield 9, 3) := by decide +kernel
theorem dX8_init_12 : decode cX8_init 12 = .ok (.aload_n 0, 1) := by decide +kernel
theorem dX8_init_13 : decode cX8_init 13 = .ok (.bipush 19, 2) := by decide +kernel
theorem dX8_init_15 : decode cX8_init 15 = .ok (.newarray .int, 2) := by decide +kernel
theorem dX8_init_17 : decode cX8_init 17 = .ok (.putfield 15, 3) := by decide +kernel
theorem dX8_init_20 : decode cX8_init 20 = .ok (.aload_n 0, 1) := by decide +kernel
theorem dX8_init_21 : decode cX8_init 21 = .ok (.bipush 18, 2) := by decide +kernel
theorem dX8_init_23 : decode cX8_init 23 = .ok (.newarray .int, 2) := by decide +kernel
theorem dX8_init_25 : decode cX8_init 25 = .ok (.putfield 18, 3) := by decide +kernel
theorem dX8_init_28 : decode cX8_init 28 = .ok (.aload_n 0, 1) := by decide +kernel
theorem dX8_init_29 : decode cX8_init 29 = .ok (.bipush 18, 2) := by decide +kernel
theorem dX8_init_31 : decode cX8_init 31 = .ok (.newarray .int, 2) := by decide +kernel
theorem dX8_init_33 : decode cX8_init 33 = .ok (.putfield 21, 3) := by decide +kernel
theorem dX8_init_36 : decode cX8_init 36 = .ok (.return_, 1) := by decide +kernel
def kX8_init_0 : List (Nat × zT) := [(0, a_aload 0 1), (1, a_obj 4), (4, a_aload 0 5), (5, a_i 19 7), (7, a_newI 9), (9, a_putR 8 0 12), (12, a_aload 0 13), (13, a_i 19 15), (15, a_newI 17), (17, a_putR 8 1 20), (20, a_aload 0 21), (21, a_i 18 23), (23, a_newI 25), (25, a_putR 8 2 28), (28, a_aload 0 29), (29, a_i 18 31), (31, a_newI 33), (33, a_putR 8 3 36), (36, a_vret)]
theorem oX8_init_0 : ∀ q ∈ kX8_init_0, zSnd zty true RX8 cX8_init 1 none true q := List.forall_mem_cons.mpr ⟨ok_aload_n dX8_init_0 rfl, List.forall_mem_cons.mpr ⟨ok_obj dX8_init_1 w219 w25 w26, List.forall_mem_cons.mpr ⟨ok_aload_n dX8_init_4 rfl, List.forall_mem_cons.mpr ⟨ok_bipush dX8_init_5 (by decide), List.forall_mem_cons.mpr ⟨ok_newI dX8_init_7 rfl w44, List.forall_mem_cons.mpr ⟨ok_putR dX8_init_9 rfl rfl in8 tyX8 tyX8_ok nmX8 (by decide) rfl w220 rfl rfl (fun _ => ⟨rfl, rfl⟩), List.forall_mem_cons.mpr ⟨ok_aload_n dX8_init_12 rfl, List.forall_mem_cons.mpr ⟨ok_bipush dX8_init_13 (by decide), List.forall_mem_cons.mpr ⟨ok_newI dX8_init_15 rfl w44, List.forall_mem_cons.mpr ⟨ok_putR dX8_init_17 rfl rfl in8 tyX8 tyX8_ok nmX8 (by decide) rfl w222 rfl rfl (fun _ => ⟨rfl, rfl⟩), List.forall_mem_cons.mpr ⟨ok_aload_n dX8_init_20 rfl, List.forall_mem_cons.mpr ⟨ok_bipush dX8_init_21 (by decide), List.forall_mem_cons.mpr ⟨ok_newI dX8_init_23 rfl w44, List.forall_mem_cons.mpr ⟨ok_putR dX8_init_25 rfl rfl in8 tyX8 tyX8_ok nmX8 (by decide) rfl w223 rfl rfl (fun _ => ⟨rfl, rfl⟩), List.forall_mem_cons.mpr ⟨ok_aload_n dX8_init_28 rfl, List.forall_mem_cons.mpr ⟨ok_bipush dX8_init_29 (by decide), List.forall_mem_cons.mpr ⟨ok_newI dX8_init_31 rfl w44, List.forall_mem_cons.mpr ⟨ok_putR dX8_init_33 rfl rfl in8 tyX8 tyX8_ok nmX8 (by decide) rfl w224 rfl rfl (fun _ => ⟨rfl, rfl⟩), List.forall_mem_cons.mpr ⟨ok_vret dX8_init_36 rfl, fun _ h => absurd h List.not_mem_nil⟩⟩⟩⟩⟩⟩⟩⟩⟩⟩⟩⟩⟩⟩⟩⟩⟩⟩⟩
def kX8_init : List (Nat × zT) := kX8_init_0
theorem qX8_init_0 : ∀ q ∈ kX8_init_0, q ∈ kX8_init := fun _ h => h
theorem tX8_init_0 : (0, a_aload 0 1) ∈ kX8_init := qX8_init_0 _ (List.mem_of_getElem? (i := 0) rfl)
theorem tX8_init_1 : (1, a_obj 4) ∈ kX8_init := qX8_init_0 _ (List.mem_of_getElem? (i := 1) rfl)
theorem tX8_init_4 : (4, a_aload 0 5) ∈ kX8_init := qX8_init_0 _ (List.mem_of_getElem? (i := 2) rfl)
theorem tX8_init_5 : (5, a_i 19 7) ∈ kX8_init := qX8_init_0 _ (List.mem_of_getElem? (i := 3) rfl)
theorem tX8_init_7 : (7, a_newI 9) ∈ kX8_init := qX8_init_0 _ (List.mem_of_getElem? (i := 4) rfl)
theorem tX8_init_9 : (9, a_putR 8 0 12) ∈ kX8_init := qX8_init_0 _ (List.mem_of_getElem? (i := 5) rfl)
theorem tX8_init_12 : (12, a_aload 0 13) ∈ kX8_init := qX8_init_0 _ (List.mem_of_getElem? (i := 6) rfl)
theorem tX8_init_13 : (13, a_i 19 15) ∈ kX8_init := qX8_init_0 _ (List.mem_of_getElem? (i := 7) rfl)
theorem tX8_init_15 : (15, a_newI 17) ∈ kX8_init := qX8_init_0 _ (List.mem_of_getElem? (i := 8) rfl)
theorem tX8_init_17 : (17, a_putR 8 1 20) ∈ kX8_init := qX8_init_0 _ (List.mem_of_getElem? (i := 9) rfl)
theorem tX8_init_20 : (20, a_aload 0 21) ∈ kX8_init := qX8_init_0 _ (List.mem_of_getElem? (i := 10) rfl)
theorem tX8_init_21 : (21, a_i 18 23) ∈ kX8_init := qX8_init_0 _ (List.mem_of_getElem? (i := 11) rfl)
theorem tX8_init_23 : (23, a_newI 25) ∈ kX8_init := qX8_init_0 _ (List.mem_of_getElem? (i := 12) rfl)
theorem tX8_init_25 : (25, a_putR 8 2 28) ∈ kX8_init := qX8_init_0 _ (List.mem_of_getElem? (i := 13) rfl)
theorem tX8_init_28 : (28, a_aload 0 29) ∈ kX8_init := qX8_init_0 _ (List.mem_of_getElem? (i := 14) rfl)
theorem tX8_init_29 : (29, a_i 18 31) ∈ kX8_init := qX8_init_0 _ (List.mem_of_getElem? (i := 15) rfl)
theorem tX8_init_31 : (31, a_newI 33) ∈ kX8_init := qX8_init_0 _ (List.mem_of_getElem? (i := 16) rfl)
theorem tX8_init_33 : (33, a_putR 8 3 36) ∈ kX8_init := qX8_init_0 _ (List.mem_of_getElem? (i := 17) rfl)
theorem tX8_init_36 : (36, a_vret) ∈ kX8_init := qX8_init_0 _ (List.mem_of_getElem? (i := 18) rfl)
theorem oX8_init : ∀ q ∈ kX8_init, zSnd zty true RX8 cX8_init 1 none true q := oX8_init_0
theorem dX8_find_0 : decode cX8_find 0 = .ok (.aload_n 0, 1) := by decide +kernel
theorem dX8_find_1 : decode cX8_find 1 = .ok (.getfield 9, 3) := by decide +kernel
theorem dX8_find_4 : decode cX8_find 4 = .ok (.iconst 0, 1) := by decide +kernel
theorem dX8_find_5 : decode cX8_find 5 = .ok (.invokestatic 24, 3) := by decide +kernel
theorem dX8_find_8 : decode cX8_find 8 = .ok (.iconst 0, 1) := by decide +kernel
theorem dX8_find_9 : decode cX8_find 9 = .ok (.istore 4, 2) := by decide +kernel
theorem dX8_find_11 : decode cX8_find 11 = .ok (.iload 4, 2) := by decide +kernel
theorem dX8_find_13 : decode cX8_find 13 = .ok (.aload_n 1, 1) := by decide +kernel
theorem dX8_find_14 : decode cX8_find 14 = .ok (.getfield 30, 3) := by decide +kernel
theorem dX8_find_17 : decode cX8_find 17 = .ok (.if_icmp .ge 78, 3) := by decide +kernel
theorem dX8_find_20 : decode cX8_find 20 = .ok (.aload_n 1, 1) := by decide +kernel
theorem dX8_find_21 : decode cX8_find 21 = .ok (.getfield 36, 3) := by decide +kernel
theorem dX8_find_24 : decode cX8_find 24 = .ok (.iload 4, 2) := by decide +kernel
theorem dX8_find_26 : decode cX8_find 26 = .ok (.iaload, 1) := by decide +kernel
theorem dX8_find_27 : decode cX8_find 27 = .ok (.istore 5, 2) := by decide +kernel
theorem dX8_find_29 : decode cX8_find 29 = .ok (.aload_n 0, 1) := by decide +kernel
theorem dX8_find_30 : decode cX8_find 30 = .ok (.aload_n 1, 1) := by decide +kernel
theorem dX8_find_31 : decode cX8_find 31 = .ok (.iload 5, 2) := by decide +kernel
theorem dX8_find_33 : decode cX8_find 33 = .ok (.aload_n 2, 1) := by decide +kernel
theorem dX8_find_34 : decode cX8_find 34 = .ok (.iload_n 3, 1) := by decide +kernel
theorem dX8_find_35 : decode cX8_find 35 = .ok (.invokevirtual 39, 3) := by decide +kernel
theorem dX8_find_38 : decode cX8_find 38 = .ok (.aload_n 0, 1) := by decide +kernel
theorem dX8_find_39 : decode cX8_find 39 = .ok (.getfield 15, 3) := by decide +kernel
theorem dX8_find_42 : decode cX8_find 42 = .ok (.iload 5, 2) := by decide +kernel
theorem dX8_find_44 : decode cX8_find 44 = .ok (.aload_n 0, 1) := by decide +kernel
theorem dX8_find_45 : decode cX8_find 45 = .ok (.getfield 21, 3) := by decide +kernel
theorem dX8_find_48 : decode cX8_find 48 = .ok (.iconst 0, 1) := by decide +kernel
theorem dX8_find_49 : decode cX8_find 49 = .ok (.iaload, 1) := by decide +kernel
theorem dX8_find_50 : decode cX8_find 50 = .ok (.iastore, 1) := by decide +kernel
theorem dX8_find_51 : decode cX8_find 51 = .ok (.aload_n 0, 1) := by decide +kernel
theorem dX8_find_52 : decode cX8_find 52 = .ok (.getfield 9, 3) := by decide +kernel
theorem dX8_find_55 : decode cX8_find 55 = .ok (.iload 5, 2) := by decide +kernel
theorem dX8_find_57 : decode cX8_find 57 = .ok (.aload_n 0, 1) := by decide +kernel
theorem dX8_find_58 : decode cX8_find 58 = .ok (.getfield 18, 3) := by decide +kernel
theorem dX8_find_61 : decode cX8_find 61 = .ok (.iconst 0, 1) := by decide +kernel
theorem dX8_find_62 : decode cX8_find 62 = .ok (.iaload, 1) := by decide +kernel
theorem dX8_find_63 : decode cX8_find 63 = .ok (.iload 5, 2) := by decide +kernel
theorem dX8_find_65 : decode cX8_find 65 = .ok (.invokestatic 43, 3) := by decide +kernel
theorem dX8_find_68 : decode cX8_find 68 = .ok (.ifCond .eq 18, 3) := by decide +kernel
theorem dX8_find_71 : decode cX8_find 71 = .ok (.aload_n 2, 1) := by decide +kernel
theorem dX8_find_72 : decode cX8_find 72 = .ok (.invokevirtual 47, 3) := by decide +kernel
theorem dX8_find_75 : decode cX8_find 75 = .ok (.aload_n 1, 1) := by decide +kernel
theorem dX8_find_76 : decode cX8_find 76 = .ok (.getfield 53, 3) := by decide +kernel
theorem dX8_find_79 : decode cX8_find 79 = .ok (.iload 5, 2) := by decide +kernel
theorem dX8_find_81 : decode cX8_find 81 = .ok (.iaload, 1) := by decide +kernel
theorem dX8_find_82 : decode cX8_find 82 = .ok (.imul, 1) := by decide +kernel
theorem dX8_find_83 : decode cX8_find 83 = .ok (.goto 4, 3) := by decide +kernel
theorem dX8_find_86 : decode cX8_find 86 = .ok (.iconst 0, 1) := by decide +kernel
theorem dX8_find_87 : decode cX8_find 87 = .ok (.iadd, 1) := by decide +kernel
theorem dX8_find_88 : decode cX8_find 88 = .ok (.iastore, 1) := by decide +kernel
theorem dX8_find_89 : decode cX8_find 89 = .ok (.iinc 4 1, 3) := by decide +kernel
theorem dX8_find_92 : decode cX8_find 92 = .ok (.goto (-81), 3) := by decide +kernel
theorem dX8_find_95 : decode cX8_find 95 = .ok (.return_, 1) := by decide +kernel
def kX8_find_0 : List (Nat × zT) := [(0, a_aload 0 1), (1, a_getR 8 0 4), (4, a_i 0 5), (5, a_call 221 2 8 0 0), (8, a_i 0 9), (9, a_istore 4 11), (11, a_iload 4 13), (13, a_aload 1 14), (14, a_getI 10 7 17), (17, a_ic_ge 95 20), (20, a_aload 1 21), (21, a_getR 10 5 24), (24, a_iload 4 26), (26, a_iald 27), (27, a_istore 5 29), (29, a_aload 0 30), (30, a_aload 1 31), (31, a_iload 5 33), (33, a_aload 2 34), (34, a_iload 3 35), (35, a_callV 8 64 5 38 0 0), (38, a_aload 0 39), (39, a_getR 8 1 42), (42, a_iload 5 44)]
theorem oX8_find_0 : ∀ q ∈ kX8_find_0, zSnd zty false RX8 cX8_find 6 none false q := List.forall_mem_cons.mpr ⟨ok_aload_n dX8_find_0 rfl, List.forall_mem_cons.mpr ⟨ok_getR dX8_find_1 rfl in8 (by decide) rfl w220, List.forall_mem_cons.mpr ⟨ok_iconst dX8_find_4 (by decide), List.forall_mem_cons.mpr ⟨ok_callS dX8_find_5 rfl w415 w701 w414 w14 (by decide +kernel) (by decide), List.forall_mem_cons.mpr ⟨ok_iconst dX8_find_8 (by decide), List.forall_mem_cons.mpr ⟨ok_istore dX8_find_9 (by decide), List.forall_mem_cons.mpr ⟨ok_iload dX8_find_11, List.forall_mem_cons.mpr ⟨ok_aload_n dX8_find_13 rfl, List.forall_mem_cons.mpr ⟨ok_getI dX8_find_14 rfl in10 (by decide) rfl w90, List.forall_mem_cons.mpr ⟨ok_ic_ge dX8_find_17 (by decide), List.forall_mem_cons.mpr ⟨ok_aload_n dX8_find_20 rfl, List.forall_mem_cons.mpr ⟨ok_getR dX8_find_21 rfl in10 (by decide) rfl w81, List.forall_mem_cons.mpr ⟨ok_iload dX8_find_24, List.forall_mem_cons.mpr ⟨ok_iald dX8_find_26, List.forall_mem_cons.mpr ⟨ok_istore dX8_find_27 (by decide), List.forall_mem_cons.mpr ⟨ok_aload_n dX8_find_29 rfl, List.forall_mem_cons.mpr ⟨ok_aload_n dX8_find_30 rfl, List.forall_mem_cons.mpr ⟨ok_iload dX8_find_31, List.forall_mem_cons.mpr ⟨ok_aload_n dX8_find_33 rfl, List.forall_mem_cons.mpr ⟨ok_iload_n dX8_find_34 rfl, List.forall_mem_cons.mpr ⟨ok_callV dX8_find_35 rfl rfl w705 w702 w704 w9 s12 (by decide +kernel) (by decide), List.forall_mem_cons.mpr ⟨ok_aload_n dX8_find_38 rfl, List.forall_mem_cons.mpr ⟨ok_getR dX8_find_39 rfl in8 (by decide) rfl w222, List.forall_mem_cons.mpr ⟨ok_iload dX8_find_42, fun _ h => absurd h List.not_mem_nil⟩⟩⟩⟩⟩⟩⟩⟩⟩⟩⟩⟩⟩⟩⟩⟩⟩⟩⟩⟩⟩⟩⟩⟩
def kX8_find_1 : List (Nat × zT) := [(44, a_aload 0 45), (45, a_getR 8 3 48), (48, a_i 0 49), (49, a_iald 50), (50, a_iast 51), (51, a_aload 0 52), (52, a_getR 8 0 55), (55, a_iload 5 57), (57, a_aload 0 58), (58, a_getR 8 2 61), (61, a_i 0 62), (62, a_iald 63), (63, a_iload 5 65), (65, a_call 131 1 68 0 0), (68, a_if_eq 86 71), (71, a_aload 2 72), (72, a_callV 2 24 1 75 0 0), (75, a_aload 1 76), (76, a_getR 10 4 79), (79, a_iload 5 81), (81, a_iald 82), (82, a_ii (fun x y => x * y) 83), (83, a_goto 87), (86, a_i 0 87)]
theorem oX8_find_1 : ∀ q ∈ kX8_find_1, zSnd zty false RX8 cX8_find 6 none false q := List.forall_mem_cons.mpr ⟨ok_aload_n dX8_find_44 rfl, List.forall_mem_cons.mpr ⟨ok_getR dX8_find_45 rfl in8 (by decide) rfl w224, List.forall_mem_cons.mpr ⟨ok_iconst dX8_find_48 (by decide), List.forall_mem_cons.mpr ⟨ok_iald dX8_find_49, List.forall_mem_cons.mpr ⟨ok_iast dX8_find_50, List.forall_mem_cons.mpr ⟨ok_aload_n dX8_find_51 rfl, List.forall_mem_cons.mpr ⟨ok_getR dX8_find_52 rfl in8 (by decide) rfl w220, List.forall_mem_cons.mpr ⟨ok_iload dX8_find_55, List.forall_mem_cons.mpr ⟨ok_aload_n dX8_find_57 rfl, List.forall_mem_cons.mpr ⟨ok_getR dX8_find_58 rfl in8 (by decide) rfl w223, List.forall_mem_cons.mpr ⟨ok_iconst dX8_find_61 (by decide), List.forall_mem_cons.mpr ⟨ok_iald dX8_find_62, List.forall_mem_cons.mpr ⟨ok_iload dX8_find_63, List.forall_mem_cons.mpr ⟨ok_callSN dX8_find_65 rfl w555 n708 w554 w1 (by decide +kernel) (by decide), List.forall_mem_cons.mpr ⟨ok_if_eq dX8_find_68 (by decide), List.forall_mem_cons.mpr ⟨ok_aload_n dX8_find_71 rfl, List.forall_mem_cons.mpr ⟨ok_callV dX8_find_72 rfl rfl w723 w720 w721 w7 w722 (by decide +kernel) (by decide), List.forall_mem_cons.mpr ⟨ok_aload_n dX8_find_75 rfl, List.forall_mem_cons.mpr ⟨ok_getR dX8_find_76 rfl in10 (by decide) rfl w76, List.forall_mem_cons.mpr ⟨ok_iload dX8_find_79, List.forall_mem_cons.mpr ⟨ok_iald dX8_find_81, List.forall_mem_cons.mpr ⟨ok_imul dX8_find_82, List.forall_mem_cons.mpr ⟨ok_goto dX8_find_83 (by decide), List.forall_mem_cons.mpr ⟨ok_iconst dX8_find_86 (by decide), fun _ h => absurd h List.not_mem_nil⟩⟩⟩⟩⟩⟩⟩⟩⟩⟩⟩⟩⟩⟩⟩⟩⟩⟩⟩⟩⟩⟩⟩⟩
def kX8_find_2 : List (Nat × zT) := [(87, a_ii (fun x y => x + y) 88), (88, a_iast 89), (89, a_iinc 4 1 92), (92, a_goto 11), (95, a_vret)]
theorem oX8_find_2 : ∀ q ∈ kX8_find_2, zSnd zty false RX8 cX8_find 6 none false q := List.forall_mem_cons.mpr ⟨ok_iadd dX8_find_87, List.forall_mem_cons.mpr ⟨ok_iast dX8_find_88, List.forall_mem_cons.mpr ⟨ok_iinc dX8_find_89 (by decide) (by decide), List.forall_mem_cons.mpr ⟨ok_goto dX8_find_92 (by decide), List.forall_mem_cons.mpr ⟨ok_vret dX8_find_95 rfl, fun _ h => absurd h List.not_mem_nil⟩⟩⟩⟩⟩
def kX8_find : List (Nat × zT) := kX8_find_0 ++ (kX8_find_1 ++ (kX8_find_2))
theorem qX8_find_0 : ∀ q ∈ kX8_find_0, q ∈ kX8_find := fun _ h => (List.mem_append_left _ h)
theorem tX8_find_0 : (0, a_aload 0 1) ∈ kX8_find := qX8_find_0 _ (List.mem_of_getElem? (i := 0) rfl)
theorem tX8_find_1 : (1, a_getR 8 0 4) ∈ kX8_find := qX8_find_0 _ (List.mem_of_getElem? (i := 1) rfl)
theorem tX8_find_4 : (4, a_i 0 5) ∈ kX8_find := qX8_find_0 _ (List.mem_of_getElem? (i := 2) rfl)
theorem tX8_find_5 : (5, a_call 221 2 8 0 0) ∈ kX8_find := qX8_find_0 _ (List.mem_of_getElem? (i := 3) rfl)
theorem tX8_find_8 : (8, a_i 0 9) ∈ kX8_find := qX8_find_0 _ (List.mem_of_getElem? (i := 4) rfl)
theorem tX8_find_9 : (9, a_istore 4 11) ∈ kX8_find := qX8_find_0 _ (List.mem_of_getElem? (i := 5) rfl)
theorem tX8_find_11 : (11, a_iload 4 13) ∈ kX8_find := qX8_find_0 _ (List.mem_of_getElem? (i := 6) rfl)
theorem tX8_find_13 : (13, a_aload 1 14) ∈ kX8_find := qX8_find_0 _ (List.mem_of_getElem? (i := 7) rfl)
theorem tX8_find_14 : (14, a_getI 10 7 17) ∈ kX8_find := qX8_find_0 _ (List.mem_of_getElem? (i := 8) rfl)
theorem tX8_find_17 : (17, a_ic_ge 95 20) ∈ kX8_find := qX8_find_0 _ (List.mem_of_getElem? (i := 9) rfl)
theorem tX8_find_20 : (20, a_aload 1 21) ∈ kX8_find := qX8_find_0 _ (List.mem_of_getElem? (i := 10) rfl)
theorem tX8_find_21 : (21, a_getR 10 5 24) ∈ kX8_find := qX8_find_0 _ (List.mem_of_getElem? (i := 11) rfl)
theorem tX8_find_24 : (24, a_iload 4 26) ∈ kX8_find := qX8_find_0 _ (List.mem_of_getElem? (i := 12) rfl)
theorem tX8_find_26 : (26, a_iald 27) ∈ kX8_find := qX8_find_0 _ (List.mem_of_getElem? (i := 13) rfl)
theorem tX8_find_27 : (27, a_istore 5 29) ∈ kX8_find := qX8_find_0 _ (List.mem_of_getElem? (i := 14) rfl)
theorem tX8_find_29 : (29, a_aload 0 30) ∈ kX8_find := qX8_find_0 _ (List.mem_of_getElem? (i := 15) rfl)
theorem tX8_find_30 : (30, a_aload 1 31) ∈ kX8_find := qX8_find_0 _ (List.mem_of_getElem? (i := 16) rfl)
theorem tX8_find_31 : (31, a_iload 5 33) ∈ kX8_find := qX8_find_0 _ (List.mem_of_getElem? (i := 17) rfl)
theorem tX8_find_33 : (33, a_aload 2 34) ∈ kX8_find := qX8_find_0 _ (List.mem_of_getElem? (i := 18) rfl)
theorem tX8_find_34 : (34, a_iload 3 35) ∈ kX8_find := qX8_find_0 _ (List.mem_of_getElem? (i := 19) rfl)
theorem tX8_find_35 : (35, a_callV 8 64 5 38 0 0) ∈ kX8_find := qX8_find_0 _ (List.mem_of_getElem? (i := 20) rfl)
theorem tX8_find_38 : (38, a_aload 0 39) ∈ kX8_find := qX8_find_0 _ (List.mem_of_getElem? (i := 21) rfl)
theorem tX8_find_39 : (39, a_getR 8 1 42) ∈ kX8_find := qX8_find_0 _ (List.mem_of_getElem? (i := 22) rfl)
theorem tX8_find_42 : (42, a_iload 5 44) ∈ kX8_find := qX8_find_0 _ (List.mem_of_getElem? (i := 23) rfl)
theorem qX8_find_1 : ∀ q ∈ kX8_find_1, q ∈ kX8_find := fun _ h => (List.mem_append_right _ (List.mem_append_left _ h))
theorem tX8_find_44 : (44, a_aload 0 45) ∈ kX8_find := qX8_find_1 _ (List.mem_of_getElem? (i := 0) rfl)
theorem tX8_find_45 : (45, a_getR 8 3 48) ∈ kX8_find := qX8_find_1 _ (List.mem_of_getElem? (i := 1) rfl)
theorem tX8_find_48 : (48, a_i 0 49) ∈ kX8_find := qX8_find_1 _ (List.mem_of_getElem? (i := 2) rfl)
theorem tX8_find_49 : (49, a_iald 50) ∈ kX8_find := qX8_find_1 _ (List.mem_of_getElem? (i := 3) rfl)
theorem tX8_find_50 : (50, a_iast 51) ∈ kX8_find := qX8_find_1 _ (List.mem_of_getElem? (i := 4) rfl)
theorem tX8_find_51 : (51, a_aload 0 52) ∈ kX8_find := qX8_find_1 _ (List.mem_of_getElem? (i := 5) rfl)
theorem tX8_find_52 : (52, a_getR 8 0 55) ∈ kX8_find := qX8_find_1 _ (List.mem_of_getElem? (i := 6) rfl)
theorem tX8_find_55 : (55, a_iload 5 57) ∈ kX8_find := qX8_find_1 _ (List.mem_of_getElem? (i := 7) rfl)
theorem tX8_find_57 : (57, a_aload 0 58) ∈ kX8_find := qX8_find_1 _ (List.mem_of_getElem? (i := 8) rfl)
theorem tX8_find_58 : (58, a_getR 8 2 61) ∈ kX8_find := qX8_find_1 _ (List.mem_of_getElem? (i := 9) rfl)
theorem tX8_find_61 : (61, a_i 0 62) ∈ kX8_find := qX8_find_1 _ (List.mem_of_getElem? (i := 10) rfl)
theorem tX8_find_62 : (62, a_iald 63) ∈ kX8_find := qX8_find_1 _ (List.mem_of_getElem? (i := 11) rfl)
theorem tX8_find_63 : (63, a_iload 5 65) ∈ kX8_find := qX8_find_1 _ (List.mem_of_getElem? (i := 12) rfl)
theorem tX8_find_65 : (65, a_call 131 1 68 0 0) ∈ kX8_find := qX8_find_1 _ (List.mem_of_getElem? (i := 13) rfl)
theorem tX8_find_68 : (68, a_if_eq 86 71) ∈ kX8_find := qX8_find_1 _ (List.mem_of_getElem? (i := 14) rfl)
theorem tX8_find_71 : (71, a_aload 2 72) ∈ kX8_find := qX8_find_1 _ (List.mem_of_getElem? (i := 15) rfl)
theorem tX8_find_72 : (72, a_callV 2 24 1 75 0 0) ∈ kX8_find := qX8_find_1 _ (List.mem_of_getElem? (i := 16) rfl)
theorem tX8_find_75 : (75, a_aload 1 76) ∈ kX8_find := qX8_find_1 _ (List.mem_of_getElem? (i := 17) rfl)
theorem tX8_find_76 : (76, a_getR 10 4 79) ∈ kX8_find := qX8_find_1 _ (List.mem_of_getElem? (i := 18) rfl)
theorem tX8_find_79 : (79, a_iload 5 81) ∈ kX8_find := qX8_find_1 _ (List.mem_of_getElem? (i := 19) rfl)
theorem tX8_find_81 : (81, a_iald 82) ∈ kX8_find := qX8_find_1 _ (List.mem_of_getElem? (i := 20) rfl)
theorem tX8_find_82 : (82, a_ii (fun x y => x * y) 83) ∈ kX8_find := qX8_find_1 _ (List.mem_of_getElem? (i := 21) rfl)
theorem tX8_find_83 : (83, a_goto 87) ∈ kX8_find := qX8_find_1 _ (List.mem_of_getElem? (i := 22) rfl)
theorem tX8_find_86 : (86, a_i 0 87) ∈ kX8_find := qX8_find_1 _ (List.mem_of_getElem? (i := 23) rfl)
theorem qX8_find_2 : ∀ q ∈ kX8_find_2, q ∈ kX8_find := fun _ h => (List.mem_append_right _ (List.mem_append_right _ h))
theorem tX8_find_87 : (87, a_ii (fun x y => x + y) 88) ∈ kX8_find := qX8_find_2 _ (List.mem_of_getElem? (i := 0) rfl)
theorem tX8_find_88 : (88, a_iast 89) ∈ kX8_find := qX8_find_2 _ (List.mem_of_getElem? (i := 1) rfl)
theorem tX8_find_89 : (89, a_iinc 4 1 92) ∈ kX8_find := qX8_find_2 _ (List.mem_of_getElem? (i := 2) rfl)
theorem tX8_find_92 : (92, a_goto 11) ∈ kX8_find := qX8_find_2 _ (List.mem_of_getElem? (i := 3) rfl)
theorem tX8_find_95 : (95, a_vret) ∈ kX8_find := qX8_find_2 _ (List.mem_of_getElem? (i := 4) rfl)
theorem oX8_find : ∀ q ∈ kX8_find, zSnd zty false RX8 cX8_find 6 none false q := List.forall_mem_append.mpr ⟨oX8_find_0, List.forall_mem_append.mpr ⟨oX8_find_1, oX8_find_2⟩⟩
theorem dX8_findLine_0 : decode cX8_findLine 0 = .ok (.aload_n 1, 1) := by decide +kernel
theorem dX8_findLine_1 : decode cX8_findLine 1 = .ok (.getfield 56, 3) := by decide +kernel
theorem dX8_findLine_4 : decode cX8_findLine 4 = .ok (.iload_n 2, 1) := by decide +kernel
theorem dX8_findLine_5 : decode cX8_findLine 5 = .ok (.iaload, 1) := by decide +kernel
theorem dX8_findLine_6 : decode cX8_findLine 6 = .ok (.istore 5, 2) := by decide +kernel
theorem dX8_findLine_8 : decode cX8_findLine 8 = .ok (.iload 5, 2) := by decide +kernel
theorem dX8_findLine_10 : decode cX8_findLine 10 = .ok (.aload_n 1, 1) := by decide +kernel
theorem dX8_findLine_11 : decode cX8_findLine 11 = .ok (.getfield 59, 3) := by decide +kernel
theorem dX8_findLine_14 : decode cX8_findLine 14 = .ok (.iload_n 2, 1) := by decide +kernel
theorem dX8_findLine_15 : decode cX8_findLine 15 = .ok (.iaload, 1) := by decide +kernel
theorem dX8_findLine_16 : decode cX8_findLine 16 = .ok (.if_icmp .ge 104, 3) := by decide +kernel
theorem dX8_findLine_19 : decode cX8_findLine 19 = .ok (.aload_n 1, 1) := by decide +kernel
theorem dX8_findLine_20 : decode cX8_findLine 20 = .ok (.getfield 62, 3) := by decide +kernel
theorem dX8_findLine_23 : decode cX8_findLine 23 = .ok (.iload 5, 2) := by decide +kernel
theorem dX8_findLine_25 : decode cX8_findLine 25 = .ok (.iaload, 1) := by decide +kernel
theorem dX8_findLine_26 : decode cX8_findLine 26 = .ok (.invokestatic 65, 3) := by decide +kernel
theorem dX8_findLine_29 : decode cX8_findLine 29 = .ok (.istore 6, 2) := by decide +kernel
theorem dX8_findLine_31 : decode cX8_findLine 31 = .ok (.aload_n 1, 1) := by decide +kernel
theorem dX8_findLine_32 : decode cX8_findLine 32 = .ok (.getfield 62, 3) := by decide +kernel
theorem dX8_findLine_35 : decode cX8_findLine 35 = .ok (.iload 5, 2) := by decide +kernel
theorem dX8_findLine_37 : decode cX8_findLine 37 = .ok (.iaload, 1) := by decide +kernel
theorem dX8_findLine_38 : decode cX8_findLine 38 = .ok (.invokestatic 69, 3) := by decide +kernel
theorem dX8_findLine_41 : decode cX8_findLine 41 = .ok (.istore 7, 2) := by decide +kernel
theorem dX8_findLine_43 : decode cX8_findLine 43 = .ok (.iload 6, 2) := by decide +kernel
theorem dX8_findLine_45 : decode cX8_findLine 45 = .ok (.bipush 20, 2) := by decide +kernel
theorem dX8_findLine_47 : decode cX8_findLine 47 = .ok (.if_icmp .gt 41, 3) := by decide +kernel
theorem dX8_findLine_50 : decode cX8_findLine 50 = .ok (.aload_n 0, 1) := by decide +kernel
theorem dX8_findLine_51 : decode cX8_findLine 51 = .ok (.getfield 18, 3) := by decide +kernel
theorem dX8_findLine_54 : decode cX8_findLine 54 = .ok (.iload 7, 2) := by decide +kernel
theorem dX8_findLine_56 : decode cX8_findLine 56 = .ok (.iload 6, 2) := by decide +kernel
theorem dX8_findLine_58 : decode cX8_findLine 58 = .ok (.invokestatic 43, 3) := by decide +kernel
theorem dX8_findLine_61 : decode cX8_findLine 61 = .ok (.ifCond .eq 13, 3) := by decide +kernel
theorem dX8_findLine_64 : decode cX8_findLine 64 = .ok (.aload_n 0, 1) := by decide +kernel
theorem dX8_findLine_65 : decode cX8_findLine 65 = .ok (.getfield 9, 3) := by decide +kernel
theorem dX8_findLine_68 : decode cX8_findLine 68 = .ok (.iload 6, 2) := by decide +kernel
theorem dX8_findLine_70 : decode cX8_findLine 70 = .ok (.iaload, 1) := by decide +kernel
theorem dX8_findLine_71 : decode cX8_findLine 71 = .ok (.goto 4, 3) := by decide +kernel
theorem dX8_findLine_74 : decode cX8_findLine 74 = .ok (.iconst 0, 1) := by decide +kernel
theorem dX8_findLine_75 : decode cX8_findLine 75 = .ok (.iastore, 1) := by decide +kernel
theorem dX8_findLine_76 : decode cX8_findLine 76 = .ok (.aload_n 0, 1) := by decide +kernel
theorem dX8_findLine_77 : decode cX8_findLine 77 = .ok (.getfield 21, 3) := by decide +kernel
theorem dX8_findLine_80 : decode cX8_findLine 80 = .ok (.iload 7, 2) := by decide +kernel
theorem dX8_findLine_82 : decode cX8_findLine 82 = .ok (.iload 6, 2) := by decide +kernel
theorem dX8_findLine_84 : decode cX8_findLine 84 = .ok (.iastore, 1) := by decide +kernel
theorem dX8_findLine_85 : decode cX8_findLine 85 = .ok (.goto 29, 3) := by decide +kernel
theorem dX8_findLine_88 : decode cX8_findLine 88 = .ok (.aload_n 0, 1) := by decide +kernel
theorem dX8_findLine_89 : decode cX8_findLine 89 = .ok (.iload 6, 2) := by decide +kernel
theorem dX8_findLine_91 : decode cX8_findLine 91 = .ok (.iload 7, 2) := by decide +kernel
theorem dX8_findLine_93 : decode cX8_findLine 93 = .ok (.invokevirtual 72, 3) := by decide +kernel
theorem dX8_findLine_96 : decode cX8_findLine 96 = .ok (.aload_n 0, 1) := by decide +kernel
theorem dX8_findLine_97 : decode cX8_findLine 97 = .ok (.getfield 18, 3) := by decide +kernel
theorem dX8_findLine_100 : decode cX8_findLine 100 = .ok (.iload 7, 2) := by decide +kernel
theorem dX8_findLine_102 : decode cX8_findLine 102 = .ok (.dup2, 1) := by decide +kernel
theorem dX8_findLine_103 : decode cX8_findLine 103 = .ok (.iaload, 1) := by decide +kernel
theorem dX8_findLine_104 : decode cX8_findLine 104 = .ok (.aload_n 3, 1) := by decide +kernel
theorem dX8_findLine_105 : decode cX8_findLine 105 = .ok (.iload 6, 2) := by decide +kernel
theorem dX8_findLine_107 : decode cX8_findLine 107 = .ok (.iload 4, 2) := by decide +kernel
theorem dX8_findLine_109 : decode cX8_findLine 109 = .ok (.invokevirtual 76, 3) := by decide +kernel
theorem dX8_findLine_112 : decode cX8_findLine 112 = .ok (.iadd, 1) := by decide +kernel
theorem dX8_findLine_113 : decode cX8_findLine 113 = .ok (.iastore, 1) := by decide +kernel
theorem dX8_findLine_114 : decode cX8_findLine 114 = .ok (.iinc 5 1, 3) := by decide +kernel
theorem dX8_findLine_117 : decode cX8_findLine 117 = .ok (.goto (-109), 3) := by decide +kernel
theorem dX8_findLine_120 : decode cX8_findLine 120 = .ok (.return_, 1) := by decide +kernel
def kX8_findLine_0 : List (Nat × zT) := [(0, a_aload 1 1), (1, a_getR 10 1 4), (4, a_iload 2 5), (5, a_iald 6), (6, a_istore 5 8), (8, a_iload 5 10), (10, a_aload 1 11), (11, a_getR 10 2 14), (14, a_iload 2 15), (15, a_iald 16), (16, a_ic_ge 120 19), (19, a_aload 1 20), (20, a_getR 10 0 23), (23, a_iload 5 25), (25, a_iald 26), (26, a_call 135 1 29 0 0), (29, a_istore 6 31), (31, a_aload 1 32), (32, a_getR 10 0 35), (35, a_iload 5 37), (37, a_iald 38), (38, a_call 136 1 41 0 0), (41, a_istore 7 43), (43, a_iload 6 45)]
theorem oX8_findLine_0 : ∀ q ∈ kX8_findLine_0, zSnd zty false RX8 cX8_findLine 8 none false q := List.forall_mem_cons.mpr ⟨ok_aload_n dX8_findLine_0 rfl, List.forall_mem_cons.mpr ⟨ok_getR dX8_findLine_1 rfl in10 (by decide) rfl w60, List.forall_mem_cons.mpr ⟨ok_iload_n dX8_findLine_4 rfl, List.forall_mem_cons.mpr ⟨ok_iald dX8_findLine_5, List.forall_mem_cons.mpr ⟨ok_istore dX8_findLine_6 (by decide), List.forall_mem_cons.mpr ⟨ok_iload dX8_findLine_8, List.forall_mem_cons.mpr ⟨ok_aload_n dX8_findLine_10 rfl, List.forall_mem_cons.mpr ⟨ok_getR dX8_findLine_11 rfl in10 (by decide) rfl w67, List.forall_mem_cons.mpr ⟨ok_iload_n dX8_findLine_14 rfl, List.forall_mem_cons.mpr ⟨ok_iald dX8_findLine_15, List.forall_mem_cons.mpr ⟨ok_ic_ge dX8_findLine_16 (by decide), List.forall_mem_cons.mpr ⟨ok_aload_n dX8_findLine_19 rfl, List.forall_mem_cons.mpr ⟨ok_getR dX8_findLine_20 rfl in10 (by decide) rfl w54, List.forall_mem_cons.mpr ⟨ok_iload dX8_findLine_23, List.forall_mem_cons.mpr ⟨ok_iald dX8_findLine_25, List.forall_mem_cons.mpr ⟨ok_callSN dX8_findLine_26 rfl w537 n706 w536 w1 (by decide +kernel) (by decide), List.forall_mem_cons.mpr ⟨ok_istore dX8_findLine_29 (by decide), List.forall_mem_cons.mpr ⟨ok_aload_n dX8_findLine_31 rfl, List.forall_mem_cons.mpr ⟨ok_getR dX8_findLine_32 rfl in10 (by decide) rfl w54, List.forall_mem_cons.mpr ⟨ok_iload dX8_findLine_35, List.forall_mem_cons.mpr ⟨ok_iald dX8_findLine_37, List.forall_mem_cons.mpr ⟨ok_callSN dX8_findLine_38 rfl w540 n707 w539 w1 (by decide +kernel) (by decide), List.forall_mem_cons.mpr ⟨ok_istore dX8_findLine_41 (by decide), List.forall_mem_cons.mpr ⟨ok_iload dX8_findLine_43, fun _ h => absurd h List.not_mem_nil⟩⟩⟩⟩⟩⟩⟩⟩⟩⟩⟩⟩⟩⟩⟩⟩⟩⟩⟩⟩⟩⟩⟩⟩
def kX8_findLine_1 : List (Nat × zT) := [(45, a_i 20 47), (47, a_ic_gt 88 50), (50, a_aload 0 51), (51, a_getR 8 2 54), (54, a_iload 7 56), (56, a_iload 6 58), (58, a_call 131 1 61 0 0), (61, a_if_eq 74 64), (64, a_aload 0 65), (65, a_getR 8 0 68), (68, a_iload 6 70), (70, a_iald 71), (71, a_goto 75), (74, a_i 0 75), (75, a_iast 76), (76, a_aload 0 77), (77, a_getR 8 3 80), (80, a_iload 7 82), (82, a_iload 6 84), (84, a_iast 85), (85, a_goto 114), (88, a_aload 0 89), (89, a_iload 6 91), (91, a_iload 7 93)]
theorem oX8_findLine_1 : ∀ q ∈ kX8_findLine_1, zSnd zty false RX8 cX8_findLine 8 none false q := List.forall_mem_cons.mpr ⟨ok_bipush dX8_findLine_45 (by decide), List.forall_mem_cons.mpr ⟨ok_ic_gt dX8_findLine_47 (by decide), List.forall_mem_cons.mpr ⟨ok_aload_n dX8_findLine_50 rfl, List.forall_mem_cons.mpr ⟨ok_getR dX8_findLine_51 rfl in8 (by decide) rfl w223, List.forall_mem_cons.mpr ⟨ok_iload dX8_findLine_54, List.forall_mem_cons.mpr ⟨ok_iload dX8_findLine_56, List.forall_mem_cons.mpr ⟨ok_callSN dX8_findLine_58 rfl w555 n708 w554 w1 (by decide +kernel) (by decide), List.forall_mem_cons.mpr ⟨ok_if_eq dX8_findLine_61 (by decide), List.forall_mem_cons.mpr ⟨ok_aload_n dX8_findLine_64 rfl, List.forall_mem_cons.mpr ⟨ok_getR dX8_findLine_65 rfl in8 (by decide) rfl w220, List.forall_mem_cons.mpr ⟨ok_iload dX8_findLine_68, List.forall_mem_cons.mpr ⟨ok_iald dX8_findLine_70, List.forall_mem_cons.mpr ⟨ok_goto dX8_findLine_71 (by decide), List.forall_mem_cons.mpr ⟨ok_iconst dX8_findLine_74 (by decide), List.forall_mem_cons.mpr ⟨ok_iast dX8_findLine_75, List.forall_mem_cons.mpr ⟨ok_aload_n dX8_findLine_76 rfl, List.forall_mem_cons.mpr ⟨ok_getR dX8_findLine_77 rfl in8 (by decide) rfl w224, List.forall_mem_cons.mpr ⟨ok_iload dX8_findLine_80, List.forall_mem_cons.mpr ⟨ok_iload dX8_findLine_82, List.forall_mem_cons.mpr ⟨ok_iast dX8_findLine_84, List.forall_mem_cons.mpr ⟨ok_goto dX8_findLine_85 (by decide), List.forall_mem_cons.mpr ⟨ok_aload_n dX8_findLine_88 rfl, List.forall_mem_cons.mpr ⟨ok_iload dX8_findLine_89, List.forall_mem_cons.mpr ⟨ok_iload dX8_findLine_91, fun _ h => absurd h List.not_mem_nil⟩⟩⟩⟩⟩⟩⟩⟩⟩⟩⟩⟩⟩⟩⟩⟩⟩⟩⟩⟩⟩⟩⟩⟩
def kX8_findLine_2 : List (Nat × zT) := [(93, a_callV 8 65 3 96 0 0), (96, a_aload 0 97), (97, a_getR 8 2 100), (100, a_iload 7 102), (102, a_dup2 103), (103, a_iald 104), (104, a_aload 3 105), (105, a_iload 6 107), (107, a_iload 4 109), (109, a_callV 2 26 3 112 0 0), (112, a_ii (fun x y => x + y) 113), (113, a_iast 114), (114, a_iinc 5 1 117), (117, a_goto 8), (120, a_vret)]
theorem oX8_findLine_2 : ∀ q ∈ kX8_findLine_2, zSnd zty false RX8 cX8_findLine 8 none false q := List.forall_mem_cons.mpr ⟨ok_callV dX8_findLine_93 rfl rfl w712 w709 w711 w9 s13 (by decide +kernel) (by decide), List.forall_mem_cons.mpr ⟨ok_aload_n dX8_findLine_96 rfl, List.forall_mem_cons.mpr ⟨ok_getR dX8_findLine_97 rfl in8 (by decide) rfl w223, List.forall_mem_cons.mpr ⟨ok_iload dX8_findLine_100, List.forall_mem_cons.mpr ⟨ok_dup2 dX8_findLine_102, List.forall_mem_cons.mpr ⟨ok_iald dX8_findLine_103, List.forall_mem_cons.mpr ⟨ok_aload_n dX8_findLine_104 rfl, List.forall_mem_cons.mpr ⟨ok_iload dX8_findLine_105, List.forall_mem_cons.mpr ⟨ok_iload dX8_findLine_107, List.forall_mem_cons.mpr ⟨ok_callV dX8_findLine_109 rfl rfl w716 w713 w714 w7 w715 (by decide +kernel) (by decide), List.forall_mem_cons.mpr ⟨ok_iadd dX8_findLine_112, List.forall_mem_cons.mpr ⟨ok_iast dX8_findLine_113, List.forall_mem_cons.mpr ⟨ok_iinc dX8_findLine_114 (by decide) (by decide), List.forall_mem_cons.mpr ⟨ok_goto dX8_findLine_117 (by decide), List.forall_mem_cons.mpr ⟨ok_vret dX8_findLine_120 rfl, fun _ h => absurd h List.not_mem_nil⟩⟩⟩⟩⟩⟩⟩⟩⟩⟩⟩⟩⟩⟩⟩
def kX8_findLine : List (Nat × zT) := kX8_findLine_0 ++ (kX8_findLine_1 ++ (kX8_findLine_2))
theorem qX8_findLine_0 : ∀ q ∈ kX8_findLine_0, q ∈ kX8_findLine := fun _ h => (List.mem_append_left _ h)
theorem tX8_findLine_0 : (0, a_aload 1 1) ∈ kX8_findLine := qX8_findLine_0 _ (List.mem_of_getElem? (i := 0) rfl)
theorem tX8_findLine_1 : (1, a_getR 10 1 4) ∈ kX8_findLine := qX8_findLine_0 _ (List.mem_of_getElem? (i := 1) rfl)
theorem tX8_findLine_4 : (4, a_iload 2 5) ∈ kX8_findLine := qX8_findLine_0 _ (List.mem_of_getElem? (i := 2) rfl)
theorem tX8_findLine_5 : (5, a_iald 6) ∈ kX8_findLine := qX8_findLine_0 _ (List.mem_of_getElem? (i := 3) rfl)
theorem tX8_findLine_6 : (6, a_istore 5 8) ∈ kX8_findLine := qX8_findLine_0 _ (List.mem_of_getElem? (i := 4) rfl)
theorem tX8_findLine_8 : (8, a_iload 5 10) ∈ kX8_findLine := qX8_findLine_0 _ (List.mem_of_getElem? (i := 5) rfl)
theorem tX8_findLine_10 : (10, a_aload 1 11) ∈ kX8_findLine := qX8_findLine_0 _ (List.mem_of_getElem? (i := 6) rfl)
theorem tX8_findLine_11 : (11, a_getR 10 2 14) ∈ kX8_findLine := qX8_findLine_0 _ (List.mem_of_getElem? (i := 7) rfl)
theorem tX8_findLine_14 : (14, a_iload 2 15) ∈ kX8_findLine := qX8_findLine_0 _ (List.mem_of_getElem? (i := 8) rfl)
theorem tX8_findLine_15 : (15, a_iald 16) ∈ kX8_findLine := qX8_findLine_0 _ (List.mem_of_getElem? (i := 9) rfl)
theorem tX8_findLine_16 : (16, a_ic_ge 120 19) ∈ kX8_findLine := qX8_findLine_0 _ (List.mem_of_getElem? (i := 10) rfl)
theorem tX8_findLine_19 : (19, a_aload 1 20) ∈ kX8_findLine := qX8_findLine_0 _ (List.mem_of_getElem? (i := 11) rfl)
theorem tX8_findLine_20 : (20, a_getR 10 0 23) ∈ kX8_findLine := qX8_findLine_0 _ (List.mem_of_getElem? (i := 12) rfl)
theorem tX8_findLine_23 : (23, a_iload 5 25) ∈ kX8_findLine := qX8_findLine_0 _ (List.mem_of_getElem? (i := 13) rfl)
theorem tX8_findLine_25 : (25, a_iald 26) ∈ kX8_findLine := qX8_findLine_0 _ (List.mem_of_getElem? (i := 14) rfl)
theorem tX8_findLine_26 : (26, a_call 135 1 29 0 0) ∈ kX8_findLine := qX8_findLine_0 _ (List.mem_of_getElem? (i := 15) rfl)
theorem tX8_findLine_29 : (29, a_istore 6 31) ∈ kX8_findLine := qX8_findLine_0 _ (List.mem_of_getElem? (i := 16) rfl)
theorem tX8_findLine_31 : (31, a_aload 1 32) ∈ kX8_findLine := qX8_findLine_0 _ (List.mem_of_getElem? (i := 17) rfl)
theorem tX8_findLine_32 : (32, a_getR 10 0 35) ∈ kX8_findLine := qX8_findLine_0 _ (List.mem_of_getElem? (i := 18) rfl)
theorem tX8_findLine_35 : (35, a_iload 5 37) ∈ kX8_findLine := qX8_findLine_0 _ (List.mem_of_getElem? (i := 19) rfl)
theorem tX8_findLine_37 : (37, a_iald 38) ∈ kX8_findLine := qX8_findLine_0 _ (List.mem_of_getElem? (i := 20) rfl)
theorem tX8_findLine_38 : (38, a_call 136 1 41 0 0) ∈ kX8_findLine := qX8_findLine_0 _ (List.mem_of_getElem? (i := 21) rfl)
theorem tX8_findLine_41 : (41, a_istore 7 43) ∈ kX8_findLine := qX8_findLine_0 _ (List.mem_of_getElem? (i := 22) rfl)
theorem tX8_findLine_43 : (43, a_iload 6 45) ∈ kX8_findLine := qX8_findLine_0 _ (List.mem_of_getElem? (i := 23) rfl)
theorem qX8_findLine_1 : ∀ q ∈ kX8_findLine_1, q ∈ kX8_findLine := fun _ h => (List.mem_append_right _ (List.mem_append_left _ h))
theorem tX8_findLine_45 : (45, a_i 20 47) ∈ kX8_findLine := qX8_findLine_1 _ (List.mem_of_getElem? (i := 0) rfl)
theorem tX8_findLine_47 : (47, a_ic_gt 88 50) ∈ kX8_findLine := qX8_findLine_1 _ (List.mem_of_getElem? (i := 1) rfl)
theorem tX8_findLine_50 : (50, a_aload 0 51) ∈ kX8_findLine := qX8_findLine_1 _ (List.mem_of_getElem? (i := 2) rfl)
theorem tX8_findLine_51 : (51, a_getR 8 2 54) ∈ kX8_findLine := qX8_findLine_1 _ (List.mem_of_getElem? (i := 3) rfl)
theorem tX8_findLine_54 : (54, a_iload 7 56) ∈ kX8_findLine := qX8_findLine_1 _ (List.mem_of_getElem? (i := 4) rfl)
theorem tX8_findLine_56 : (56, a_iload 6 58) ∈ kX8_findLine := qX8_findLine_1 _ (List.mem_of_getElem? (i := 5) rfl)
theorem tX8_findLine_58 : (58, a_call 131 1 61 0 0) ∈ kX8_findLine := qX8_findLine_1 _ (List.mem_of_getElem? (i := 6) rfl)
theorem tX8_findLine_61 : (61, a_if_eq 74 64) ∈ kX8_findLine := qX8_findLine_1 _ (List.mem_of_getElem? (i := 7) rfl)
theorem tX8_findLine_64 : (64, a_aload 0 65) ∈ kX8_findLine := qX8_findLine_1 _ (List.mem_of_getElem? (i := 8) rfl)
theorem tX8_findLine_65 : (65, a_getR 8 0 68) ∈ kX8_findLine := qX8_findLine_1 _ (List.mem_of_getElem? (i := 9) rfl)
theorem tX8_findLine_68 : (68, a_iload 6 70) ∈ kX8_findLine := qX8_findLine_1 _ (List.mem_of_getElem? (i := 10) rfl)
theorem tX8_findLine_70 : (70, a_iald 71) ∈ kX8_findLine := qX8_findLine_1 _ (List.mem_of_getElem? (i := 11) rfl)
theorem tX8_findLine_71 : (71, a_goto 75) ∈ kX8_findLine := qX8_findLine_1 _ (List.mem_of_getElem? (i := 12) rfl)
theorem tX8_findLine_74 : (74, a_i 0 75) ∈ kX8_findLine := qX8_findLine_1 _ (List.mem_of_getElem? (i := 13) rfl)
theorem tX8_findLine_75 : (75, a_iast 76) ∈ kX8_findLine := qX8_findLine_1 _ (List.mem_of_getElem? (i := 14) rfl)
theorem tX8_findLine_76 : (76, a_aload 0 77) ∈ kX8_findLine := qX8_findLine_1 _ (List.mem_of_getElem? (i := 15) rfl)
theorem tX8_findLine_77 : (77, a_getR 8 3 80) ∈ kX8_findLine := qX8_findLine_1 _ (List.mem_of_getElem? (i := 16) rfl)
theorem tX8_findLine_80 : (80, a_iload 7 82) ∈ kX8_findLine := qX8_findLine_1 _ (List.mem_of_getElem? (i := 17) rfl)
theorem tX8_findLine_82 : (82, a_iload 6 84) ∈ kX8_findLine := qX8_findLine_1 _ (List.mem_of_getElem? (i := 18) rfl)
theorem tX8_findLine_84 : (84, a_iast 85) ∈ kX8_findLine := qX8_findLine_1 _ (List.mem_of_getElem? (i := 19) rfl)
theorem tX8_findLine_85 : (85, a_goto 114) ∈ kX8_findLine := qX8_findLine_1 _ (List.mem_of_getElem? (i := 20) rfl)
theorem tX8_findLine_88 : (88, a_aload 0 89) ∈ kX8_findLine := qX8_findLine_1 _ (List.mem_of_getElem? (i := 21) rfl)
theorem tX8_findLine_89 : (89, a_iload 6 91) ∈ kX8_findLine := qX8_findLine_1 _ (List.mem_of_getElem? (i := 22) rfl)
theorem tX8_findLine_91 : (91, a_iload 7 93) ∈ kX8_findLine := qX8_findLine_1 _ (List.mem_of_getElem? (i := 23) rfl)
theorem qX8_findLine_2 : ∀ q ∈ kX8_findLine_2, q ∈ kX8_findLine := fun _ h => (List.mem_append_right _ (List.mem_append_right _ h))
theorem tX8_findLine_93 : (93, a_callV 8 65 3 96 0 0) ∈ kX8_findLine := qX8_findLine_2 _ (List.mem_of_getElem? (i := 0) rfl)
theorem tX8_findLine_96 : (96, a_aload 0 97) ∈ kX8_findLine := qX8_findLine_2 _ (List.mem_of_getElem? (i := 1) rfl)
theorem tX8_findLine_97 : (97, a_getR 8 2 100) ∈ kX8_findLine := qX8_findLine_2 _ (List.mem_of_getElem? (i := 2) rfl)
theorem tX8_findLine_100 : (100, a_iload 7 102) ∈ kX8_findLine := qX8_findLine_2 _ (List.mem_of_getElem? (i := 3) rfl)
theorem tX8_findLine_102 : (102, a_dup2 103) ∈ kX8_findLine := qX8_findLine_2 _ (List.mem_of_getElem? (i := 4) rfl)
theorem tX8_findLine_103 : (103, a_iald 104) ∈ kX8_findLine := qX8_findLine_2 _ (List.mem_of_getElem? (i := 5) rfl)
theorem tX8_findLine_104 : (104, a_aload 3 105) ∈ kX8_findLine := qX8_findLine_2 _ (List.mem_of_getElem? (i := 6) rfl)
theorem tX8_findLine_105 : (105, a_iload 6 107) ∈ kX8_findLine := qX8_findLine_2 _ (List.mem_of_getElem? (i := 7) rfl)
theorem tX8_findLine_107 : (107, a_iload 4 109) ∈ kX8_findLine := qX8_findLine_2 _ (List.mem_of_getElem? (i := 8) rfl)
theorem tX8_findLine_109 : (109, a_callV 2 26 3 112 0 0) ∈ kX8_findLine := qX8_findLine_2 _ (List.mem_of_getElem? (i := 9) rfl)
theorem tX8_findLine_112 : (112, a_ii (fun x y => x + y) 113) ∈ kX8_findLine := qX8_findLine_2 _ (List.mem_of_getElem? (i := 10) rfl)
theorem tX8_findLine_113 : (113, a_iast 114) ∈ kX8_findLine := qX8_findLine_2 _ (List.mem_of_getElem? (i := 11) rfl)
theorem tX8_findLine_114 : (114, a_iinc 5 1 117) ∈ kX8_findLine := qX8_findLine_2 _ (List.mem_of_getElem? (i := 12) rfl)
theorem tX8_findLine_117 : (117, a_goto 8) ∈ kX8_findLine := qX8_findLine_2 _ (List.mem_of_getElem? (i := 13) rfl)
theorem tX8_findLine_120 : (120, a_vret) ∈ kX8_findLine := qX8_findLine_2 _ (List.mem_of_getElem? (i := 14) rfl)
theorem oX8_findLine : ∀ q ∈ kX8_findLine, zSnd zty false RX8 cX8_findLine 8 none false q := List.forall_mem_append.mpr ⟨oX8_findLine_0, List.forall_mem_append.mpr ⟨oX8_findLine_1, oX8_findLine_2⟩⟩
theorem dX8_takeLatest_0 : decode cX8_takeLatest 0 = .ok (.iload_n 1, 1) := by decide +kernel
theorem dX8_takeLatest_1 : decode cX8_takeLatest 1 = .ok (.bipush 21, 2) := by decide +kernel
theorem dX8_takeLatest_3 : decode cX8_takeLatest 3 = .ok (.if_icmp .ne 7, 3) := by decide +kernel
theorem dX8_takeLatest_6 : decode cX8_takeLatest 6 = .ok (.iconst 0, 1) := by decide +kernel
theorem dX8_takeLatest_7 : decode cX8_takeLatest 7 = .ok (.goto 14, 3) := by decide +kernel
theorem dX8_takeLatest_10 : decode cX8_takeLatest 10 = .ok (.iload_n 1, 1) := by decide +kernel
theorem dX8_takeLatest_11 : decode cX8_takeLatest 11 = .ok (.bipush 25, 2) := by decide +kernel
theorem dX8_takeLatest_13 : decode cX8_takeLatest 13 = .ok (.if_icmp .ne 7, 3) := by decide +kernel
theorem dX8_takeLatest_16 : decode cX8_takeLatest 16 = .ok (.iconst 2, 1) := by decide +kernel
theorem dX8_takeLatest_17 : decode cX8_takeLatest 17 = .ok (.goto 4, 3) := by decide +kernel
theorem dX8_takeLatest_20 : decode cX8_takeLatest 20 = .ok (.iconst 1, 1) := by decide +kernel
theorem dX8_takeLatest_21 : decode cX8_takeLatest 21 = .ok (.istore_n 3, 1) := by decide +kernel
theorem dX8_takeLatest_22 : decode cX8_takeLatest 22 = .ok (.iconst 1, 1) := by decide +kernel
theorem dX8_takeLatest_23 : decode cX8_takeLatest 23 = .ok (.istore 4, 2) := by decide +kernel
theorem dX8_takeLatest_25 : decode cX8_takeLatest 25 = .ok (.iload 4, 2) := by decide +kernel
theorem dX8_takeLatest_27 : decode cX8_takeLatest 27 = .ok (.iload_n 3, 1) := by decide +kernel
theorem dX8_takeLatest_28 : decode cX8_takeLatest 28 = .ok (.if_icmp .gt 57, 3) := by decide +kernel
theorem dX8_takeLatest_31 : decode cX8_takeLatest 31 = .ok (.aload_n 0, 1) := by decide +kernel
theorem dX8_takeLatest_32 : decode cX8_takeLatest 32 = .ok (.getfield 18, 3) := by decide +kernel
theorem dX8_takeLatest_35 : decode cX8_takeLatest 35 = .ok (.iload_n 2, 1) := by decide +kernel
theorem dX8_takeLatest_36 : decode cX8_takeLatest 36 = .ok (.iload 4, 2) := by decide +kernel
theorem dX8_takeLatest_38 : decode cX8_takeLatest 38 = .ok (.iadd, 1) := by decide +kernel
theorem dX8_takeLatest_39 : decode cX8_takeLatest 39 = .ok (.iaload, 1) := by decide +kernel
theorem dX8_takeLatest_40 : decode cX8_takeLatest 40 = .ok (.aload_n 0, 1) := by decide +kernel
theorem dX8_takeLatest_41 : decode cX8_takeLatest 41 = .ok (.getfield 18, 3) := by decide +kernel
theorem dX8_takeLatest_44 : decode cX8_takeLatest 44 = .ok (.iload_n 2, 1) := by decide +kernel
theorem dX8_takeLatest_45 : decode cX8_takeLatest 45 = .ok (.iaload, 1) := by decide +kernel
theorem dX8_takeLatest_46 : decode cX8_takeLatest 46 = .ok (.if_icmp .le 33, 3) := by decide +kernel
theorem dX8_takeLatest_49 : decode cX8_takeLatest 49 = .ok (.aload_n 0, 1) := by decide +kernel
theorem dX8_takeLatest_50 : decode cX8_takeLatest 50 = .ok (.getfield 18, 3) := by decide +kernel
theorem dX8_takeLatest_53 : decode cX8_takeLatest 53 = .ok (.iload_n 2, 1) := by decide +kernel
theorem dX8_takeLatest_54 : decode cX8_takeLatest 54 = .ok (.aload_n 0, 1) := by decide +kernel
theorem dX8_takeLatest_55 : decode cX8_takeLatest 55 = .ok (.getfield 18, 3) := by decide +kernel
theorem dX8_takeLatest_58 : decode cX8_takeLatest 58 = .ok (.iload_n 2, 1) := by decide +kernel
theorem dX8_takeLatest_59 : decode cX8_takeLatest 59 = .ok (.iload 4, 2) := by decide +kernel
theorem dX8_takeLatest_61 : decode cX8_takeLatest 61 = .ok (.iadd, 1) := by decide +kernel
theorem dX8_takeLatest_62 : decode cX8_takeLatest 62 = .ok (.iaload, 1) := by decide +kernel
theorem dX8_takeLatest_63 : decode cX8_takeLatest 63 = .ok (.iastore, 1) := by decide +kernel
theorem dX8_takeLatest_64 : decode cX8_takeLatest 64 = .ok (.aload_n 0, 1) := by decide +kernel
theorem dX8_takeLatest_65 : decode cX8_takeLatest 65 = .ok (.getfield 21, 3) := by decide +kernel
theorem dX8_takeLatest_68 : decode cX8_takeLatest 68 = .ok (.iload_n 2, 1) := by decide +kernel
theorem dX8_takeLatest_69 : decode cX8_takeLatest 69 = .ok (.aload_n 0, 1) := by decide +kernel
theorem dX8_takeLatest_70 : decode cX8_takeLatest 70 = .ok (.getfield 21, 3) := by decide +kernel
theorem dX8_takeLatest_73 : decode cX8_takeLatest 73 = .ok (.iload_n 2, 1) := by decide +kernel
theorem dX8_takeLatest_74 : decode cX8_takeLatest 74 = .ok (.iload 4, 2) := by decide +kernel
theorem dX8_takeLatest_76 : decode cX8_takeLatest 76 = .ok (.iadd, 1) := by decide +kernel
theorem dX8_takeLatest_77 : decode cX8_takeLatest 77 = .ok (.iaload, 1) := by decide +kernel
theorem dX8_takeLatest_78 : decode cX8_takeLatest 78 = .ok (.iastore, 1) := by decide +kernel
theorem dX8_takeLatest_79 : decode cX8_takeLatest 79 = .ok (.iinc 4 1, 3) := by decide +kernel
theorem dX8_takeLatest_82 : decode cX8_takeLatest 82 = .ok (.goto (-57), 3) := by decide +kernel
theorem dX8_takeLatest_85 : decode cX8_takeLatest 85 = .ok (.return_, 1) := by decide +kernel
def kX8_takeLatest_0 : List (Nat × zT) := [(0, a_iload 1 1), (1, a_i 21 3), (3, a_ic_ne 10 6), (6, a_i 0 7), (7, a_goto 21), (10, a_iload 1 11), (11, a_i 25 13), (13, a_ic_ne 20 16), (16, a_i 2 17), (17, a_goto 21), (20, a_i 1 21), (21, a_istore 3 22), (22, a_i 1 23), (23, a_istore 4 25), (25, a_iload 4 27), (27, a_iload 3 28), (28, a_ic_gt 85 31), (31, a_aload 0 32), (32, a_getR 8 2 35), (35, a_iload 2 36), (36, a_iload 4 38), (38, a_ii (fun x y => x + y) 39), (39, a_iald 40), (40, a_aload 0 41)]
theorem oX8_takeLatest_0 : ∀ q ∈ kX8_takeLatest_0, zSnd zty false RX8 cX8_takeLatest 5 none false q := List.forall_mem_cons.mpr ⟨ok_iload_n dX8_takeLatest_0 rfl, List.forall_mem_cons.mpr ⟨ok_bipush dX8_takeLatest_1 (by decide), List.forall_mem_cons.mpr ⟨ok_ic_ne dX8_takeLatest_3 (by decide), List.forall_mem_cons.mpr ⟨ok_iconst dX8_takeLatest_6 (by decide), List.forall_mem_cons.mpr ⟨ok_goto dX8_takeLatest_7 (by decide), List.forall_mem_cons.mpr ⟨ok_iload_n dX8_takeLatest_10 rfl, List.forall_mem_cons.mpr ⟨ok_bipush dX8_takeLatest_11 (by decide), List.forall_mem_cons.mpr ⟨ok_ic_ne dX8_takeLatest_13 (by decide), List.forall_mem_cons.mpr ⟨ok_iconst dX8_takeLatest_16 (by decide), List.forall_mem_cons.mpr ⟨ok_goto dX8_takeLatest_17 (by decide), List.forall_mem_cons.mpr ⟨ok_iconst dX8_takeLatest_20 (by decide), List.forall_mem_cons.mpr ⟨ok_istore_n dX8_takeLatest_21 rfl (by decide), List.forall_mem_cons.mpr ⟨ok_iconst dX8_takeLatest_22 (by decide), List.forall_mem_cons.mpr ⟨ok_istore dX8_takeLatest_23 (by decide), List.forall_mem_cons.mpr ⟨ok_iload dX8_takeLatest_25, List.forall_mem_cons.mpr ⟨ok_iload_n dX8_takeLatest_27 rfl, List.forall_mem_cons.mpr ⟨ok_ic_gt dX8_takeLatest_28 (by decide), List.forall_mem_cons.mpr ⟨ok_aload_n dX8_takeLatest_31 rfl, List.forall_mem_cons.mpr ⟨ok_getR dX8_takeLatest_32 rfl in8 (by decide) rfl w223, List.forall_mem_cons.mpr ⟨ok_iload_n dX8_takeLatest_35 rfl, List.forall_mem_cons.mpr ⟨ok_iload dX8_takeLatest_36, List.forall_mem_cons.mpr ⟨ok_iadd dX8_takeLatest_38, List.forall_mem_cons.mpr ⟨ok_iald dX8_takeLatest_39, List.forall_mem_cons.mpr ⟨ok_aload_n dX8_takeLatest_40 rfl, fun _ h => absurd h List.not_mem_nil⟩⟩⟩⟩⟩⟩⟩⟩⟩⟩⟩⟩⟩⟩⟩⟩⟩⟩⟩⟩⟩⟩⟩⟩
def kX8_takeLatest_1 : List (Nat × zT) := [(41, a_getR 8 2 44), (44, a_iload 2 45), (45, a_iald 46), (46, a_ic_le 79 49), (49, a_aload 0 50), (50, a_getR 8 2 53), (53, a_iload 2 54), (54, a_aload 0 55), (55, a_getR 8 2 58), (58, a_iload 2 59), (59, a_iload 4 61), (61, a_ii (fun x y => x + y) 62), (62, a_iald 63), (63, a_iast 64), (64, a_aload 0 65), (65, a_getR 8 3 68), (68, a_iload 2 69), (69, a_aload 0 70), (70, a_getR 8 3 73), (73, a_iload 2 74), (74, a_iload 4 76), (76, a_ii (fun x y => x + y) 77), (77, a_iald 78), (78, a_iast 79)]
theorem oX8_takeLatest_1 : ∀ q ∈ kX8_takeLatest_1, zSnd zty false RX8 cX8_takeLatest 5 none false q := List.forall_mem_cons.mpr ⟨ok_getR dX8_takeLatest_41 rfl in8 (by decide) rfl w223, List.forall_mem_cons.mpr ⟨ok_iload_n dX8_takeLatest_44 rfl, List.forall_mem_cons.mpr ⟨ok_iald dX8_takeLatest_45, List.forall_mem_cons.mpr ⟨ok_ic_le dX8_takeLatest_46 (by decide), List.forall_mem_cons.mpr ⟨ok_aload_n dX8_takeLatest_49 rfl, List.forall_mem_cons.mpr ⟨ok_getR dX8_takeLatest_50 rfl in8 (by decide) rfl w223, List.forall_mem_cons.mpr ⟨ok_iload_n dX8_takeLatest_53 rfl, List.forall_mem_cons.mpr ⟨ok_aload_n dX8_takeLatest_54 rfl, List.forall_mem_cons.mpr ⟨ok_getR dX8_takeLatest_55 rfl in8 (by decide) rfl w223, List.forall_mem_cons.mpr ⟨ok_iload_n dX8_takeLatest_58 rfl, List.forall_mem_cons.mpr ⟨ok_iload dX8_takeLatest_59, List.forall_mem_cons.mpr ⟨ok_iadd dX8_takeLatest_61, List.forall_mem_cons.mpr ⟨ok_iald dX8_takeLatest_62, List.forall_mem_cons.mpr ⟨ok_iast dX8_takeLatest_63, List.forall_mem_cons.mpr ⟨ok_aload_n dX8_takeLatest_64 rfl, List.forall_mem_cons.mpr ⟨ok_getR dX8_takeLatest_65 rfl in8 (by decide) rfl w224, List.forall_mem_cons.mpr ⟨ok_iload_n dX8_takeLatest_68 rfl, List.forall_mem_cons.mpr ⟨ok_aload_n dX8_takeLatest_69 rfl, List.forall_mem_cons.mpr ⟨ok_getR dX8_takeLatest_70 rfl in8 (by decide) rfl w224, List.forall_mem_cons.mpr ⟨ok_iload_n dX8_takeLatest_73 rfl, List.forall_mem_cons.mpr ⟨ok_iload dX8_takeLatest_74, List.forall_mem_cons.mpr ⟨ok_iadd dX8_takeLatest_76, List.forall_mem_cons.mpr ⟨ok_iald dX8_takeLatest_77, List.forall_mem_cons.mpr ⟨ok_iast dX8_takeLatest_78, fun _ h => absurd h List.not_mem_nil⟩⟩⟩⟩⟩⟩⟩⟩⟩⟩⟩⟩⟩⟩⟩⟩⟩⟩⟩⟩⟩⟩⟩⟩
def kX8_takeLatest_2 : List (Nat × zT) := [(79, a_iinc 4 1 82), (82, a_goto 25), (85, a_vret)]
theorem oX8_takeLatest_2 : ∀ q ∈ kX8_takeLatest_2, zSnd zty false RX8 cX8_takeLatest 5 none false q := List.forall_mem_cons.mpr ⟨ok_iinc dX8_takeLatest_79 (by decide) (by decide), List.forall_mem_cons.mpr ⟨ok_goto dX8_takeLatest_82 (by decide), List.forall_mem_cons.mpr ⟨ok_vret dX8_takeLatest_85 rfl, fun _ h => absurd h List.not_mem_nil⟩⟩⟩
def kX8_takeLatest : List (Nat × zT) := kX8_takeLatest_0 ++ (kX8_takeLatest_1 ++ (kX8_takeLatest_2))
theorem qX8_takeLatest_0 : ∀ q ∈ kX8_takeLatest_0, q ∈ kX8_takeLatest := fun _ h => (List.mem_append_left _ h)
theorem tX8_takeLatest_0 : (0, a_iload 1 1) ∈ kX8_takeLatest := qX8_takeLatest_0 _ (List.mem_of_getElem? (i := 0) rfl)
theorem tX8_takeLatest_1 : (1, a_i 21 3) ∈ kX8_takeLatest := qX8_takeLatest_0 _ (List.mem_of_getElem? (i := 1) rfl)
theorem tX8_takeLatest_3 : (3, a_ic_ne 10 6) ∈ kX8_takeLatest := qX8_takeLatest_0 _ (List.mem_of_getElem? (i := 2) rfl)
theorem tX8_takeLatest_6 : (6, a_i 0 7) ∈ kX8_takeLatest := qX8_takeLatest_0 _ (List.mem_of_getElem? (i := 3) rfl)
theorem tX8_takeLatest_7 : (7, a_goto 21) ∈ kX8_takeLatest := qX8_takeLatest_0 _ (List.mem_of_getElem? (i := 4) rfl)
theorem tX8_takeLatest_10 : (10, a_iload 1 11) ∈ kX8_takeLatest := qX8_takeLatest_0 _ (List.mem_of_getElem? (i := 5) rfl)
theorem tX8_takeLatest_11 : (11, a_i 25 13) ∈ kX8_takeLatest := qX8_takeLatest_0 _ (List.mem_of_getElem? (i := 6) rfl)
theorem tX8_takeLatest_13 : (13, a_ic_ne 20 16) ∈ kX8_takeLatest := qX8_takeLatest_0 _ (List.mem_of_getElem? (i := 7) rfl)
theorem tX8_takeLatest_16 : (16, a_i 2 17) ∈ kX8_takeLatest := qX8_takeLatest_0 _ (List.mem_of_getElem? (i := 8) rfl)
theorem tX8_takeLatest_17 : (17, a_goto 21) ∈ kX8_takeLatest := qX8_takeLatest_0 _ (List.mem_of_getElem? (i := 9) rfl)
theorem tX8_takeLatest_20 : (20, a_i 1 21) ∈ kX8_takeLatest := qX8_takeLatest_0 _ (List.mem_of_getElem? (i := 10) rfl)
theorem tX8_takeLatest_21 : (21, a_istore 3 22) ∈ kX8_takeLatest := qX8_takeLatest_0 _ (List.mem_of_getElem? (i := 11) rfl)
theorem tX8_takeLatest_22 : (22, a_i 1 23) ∈ kX8_takeLatest := qX8_takeLatest_0 _ (List.mem_of_getElem? (i := 12) rfl)
theorem tX8_takeLatest_23 : (23, a_istore 4 25) ∈ kX8_takeLatest := qX8_takeLatest_0 _ (List.mem_of_getElem? (i := 13) rfl)
theorem tX8_takeLatest_25 : (25, a_iload 4 27) ∈ kX8_takeLatest := qX8_takeLatest_0 _ (List.mem_of_getElem? (i := 14) rfl)
theorem tX8_takeLatest_27 : (27, a_iload 3 28) ∈ kX8_takeLatest := qX8_takeLatest_0 _ (List.mem_of_getElem? (i := 15) rfl)
theorem tX8_takeLatest_28 : (28, a_ic_gt 85 31) ∈ kX8_takeLatest := qX8_takeLatest_0 _ (List.mem_of_getElem? (i := 16) rfl)
theorem tX8_takeLatest_31 : (31, a_aload 0 32) ∈ kX8_takeLatest := qX8_takeLatest_0 _ (List.mem_of_getElem? (i := 17) rfl)
theorem tX8_takeLatest_32 : (32, a_getR 8 2 35) ∈ kX8_takeLatest := qX8_takeLatest_0 _ (List.mem_of_getElem? (i := 18) rfl)
theorem tX8_takeLatest_35 : (35, a_iload 2 36) ∈ kX8_takeLatest := qX8_takeLatest_0 _ (List.mem_of_getElem? (i := 19) rfl)
theorem tX8_takeLatest_36 : (36, a_iload 4 38) ∈ kX8_takeLatest := qX8_takeLatest_0 _ (List.mem_of_getElem? (i := 20) rfl)
theorem tX8_takeLatest_38 : (38, a_ii (fun x y => x + y) 39) ∈ kX8_takeLatest := qX8_takeLatest_0 _ (List.mem_of_getElem? (i := 21) rfl)
theorem tX8_takeLatest_39 : (39, a_iald 40) ∈ kX8_takeLatest := qX8_takeLatest_0 _ (List.mem_of_getElem? (i := 22) rfl)
theorem tX8_takeLatest_40 : (40, a_aload 0 41) ∈ kX8_takeLatest := qX8_takeLatest_0 _ (List.mem_of_getElem? (i := 23) rfl)
theorem qX8_takeLatest_1 : ∀ q ∈ kX8_takeLatest_1, q ∈ kX8_takeLatest := fun _ h => (List.mem_append_right _ (List.mem_append_left _ h))
theorem tX8_takeLatest_41 : (41, a_getR 8 2 44) ∈ kX8_takeLatest := qX8_takeLatest_1 _ (List.mem_of_getElem? (i := 0) rfl)
theorem tX8_takeLatest_44 : (44, a_iload 2 45) ∈ kX8_takeLatest := qX8_takeLatest_1 _ (List.mem_of_getElem? (i := 1) rfl)
theorem tX8_takeLatest_45 : (45, a_iald 46) ∈ kX8_takeLatest := qX8_takeLatest_1 _ (List.mem_of_getElem? (i := 2) rfl)
theorem tX8_takeLatest_46 : (46, a_ic_le 79 49) ∈ kX8_takeLatest := qX8_takeLatest_1 _ (List.mem_of_getElem? (i := 3) rfl)
theorem tX8_takeLatest_49 : (49, a_aload 0 50) ∈ kX8_takeLatest := qX8_takeLatest_1 _ (List.mem_of_getElem? (i := 4) rfl)
theorem tX8_takeLatest_50 : (50, a_getR 8 2 53) ∈ kX8_takeLatest := qX8_takeLatest_1 _ (List.mem_of_getElem? (i := 5) rfl)
theorem tX8_takeLatest_53 : (53, a_iload 2 54) ∈ kX8_takeLatest := qX8_takeLatest_1 _ (List.mem_of_getElem? (i := 6) rfl)
theorem tX8_takeLatest_54 : (54, a_aload 0 55) ∈ kX8_takeLatest := qX8_takeLatest_1 _ (List.mem_of_getElem? (i := 7) rfl)
theorem tX8_takeLatest_55 : (55, a_getR 8 2 58) ∈ kX8_takeLatest := qX8_takeLatest_1 _ (List.mem_of_getElem? (i := 8) rfl)
theorem tX8_takeLatest_58 : (58, a_iload 2 59) ∈ kX8_takeLatest := qX8_takeLatest_1 _ (List.mem_of_getElem? (i := 9) rfl)
theorem tX8_takeLatest_59 : (59, a_iload 4 61) ∈ kX8_takeLatest := qX8_takeLatest_1 _ (List.mem_of_getElem? (i := 10) rfl)
theorem tX8_takeLatest_61 : (61, a_ii (fun x y => x + y) 62) ∈ kX8_takeLatest := qX8_takeLatest_1 _ (List.mem_of_getElem? (i := 11) rfl)
theorem tX8_takeLatest_62 : (62, a_iald 63) ∈ kX8_takeLatest := qX8_takeLatest_1 _ (List.mem_of_getElem? (i := 12) rfl)
theorem tX8_takeLatest_63 : (63, a_iast 64) ∈ kX8_takeLatest := qX8_takeLatest_1 _ (List.mem_of_getElem? (i := 13) rfl)
theorem tX8_takeLatest_64 : (64, a_aload 0 65) ∈ kX8_takeLatest := qX8_takeLatest_1 _ (List.mem_of_getElem? (i := 14) rfl)
theorem tX8_takeLatest_65 : (65, a_getR 8 3 68) ∈ kX8_takeLatest := qX8_takeLatest_1 _ (List.mem_of_getElem? (i := 15) rfl)
theorem tX8_takeLatest_68 : (68, a_iload 2 69) ∈ kX8_takeLatest := qX8_takeLatest_1 _ (List.mem_of_getElem? (i := 16) rfl)
theorem tX8_takeLatest_69 : (69, a_aload 0 70) ∈ kX8_takeLatest := qX8_takeLatest_1 _ (List.mem_of_getElem? (i := 17) rfl)
theorem tX8_takeLatest_70 : (70, a_getR 8 3 73) ∈ kX8_takeLatest := qX8_takeLatest_1 _ (List.mem_of_getElem? (i := 18) rfl)
theorem tX8_takeLatest_73 : (73, a_iload 2 74) ∈ kX8_takeLatest := qX8_takeLatest_1 _ (List.mem_of_getElem? (i := 19) rfl)
theorem tX8_takeLatest_74 : (74, a_iload 4 76) ∈ kX8_takeLatest := qX8_takeLatest_1 _ (List.mem_of_getElem? (i := 20) rfl)
theorem tX8_takeLatest_76 : (76, a_ii (fun x y => x + y) 77) ∈ kX8_takeLatest := qX8_takeLatest_1 _ (List.mem_of_getElem? (i := 21) rfl)
theorem tX8_takeLatest_77 : (77, a_iald 78) ∈ kX8_takeLatest := qX8_takeLatest_1 _ (List.mem_of_getElem? (i := 22) rfl)
theorem tX8_takeLatest_78 : (78, a_iast 79) ∈ kX8_takeLatest := qX8_takeLatest_1 _ (List.mem_of_getElem? (i := 23) rfl)
theorem qX8_takeLatest_2 : ∀ q ∈ kX8_takeLatest_2, q ∈ kX8_takeLatest := fun _ h => (List.mem_append_right _ (List.mem_append_right _ h))
theorem tX8_takeLatest_79 : (79, a_iinc 4 1 82) ∈ kX8_takeLatest := qX8_takeLatest_2 _ (List.mem_of_getElem? (i := 0) rfl)
theorem tX8_takeLatest_82 : (82, a_goto 25) ∈ kX8_takeLatest := qX8_takeLatest_2 _ (List.mem_of_getElem? (i := 1) rfl)
theorem tX8_takeLatest_85 : (85, a_vret) ∈ kX8_takeLatest := qX8_takeLatest_2 _ (List.mem_of_getElem? (i := 2) rfl)
theorem oX8_takeLatest : ∀ q ∈ kX8_takeLatest, zSnd zty false RX8 cX8_takeLatest 5 none false q := List.forall_mem_append.mpr ⟨oX8_takeLatest_0, List.forall_mem_append.mpr ⟨oX8_takeLatest_1, oX8_takeLatest_2⟩⟩
theorem dX8_latest_0 : decode cX8_latest 0 = .ok (.bipush (-4), 2) := by decide +kernel
theorem dX8_latest_2 : decode cX8_latest 2 = .ok (.istore_n 2, 1) := by decide +kernel
theorem dX8_latest_3 : decode cX8_latest 3 = .ok (.bipush 6, 2) := by decide +kernel
theorem dX8_latest_5 : decode cX8_latest 5 = .ok (.istore_n 3, 1) := by decide +kernel
theorem dX8_latest_6 : decode cX8_latest 6 = .ok (.iload_n 3, 1) := by decide +kernel
theorem dX8_latest_7 : decode cX8_latest 7 = .ok (.bipush 19, 2) := by decide +kernel
theorem dX8_latest_9 : decode cX8_latest 9 = .ok (.if_icmp .ge 40, 3) := by decide +kernel
theorem dX8_latest_12 : decode cX8_latest 12 = .ok (.aload_n 1, 1) := by decide +kernel
theorem dX8_latest_13 : decode cX8_latest 13 = .ok (.iload_n 3, 1) := by decide +kernel
theorem dX8_latest_14 : decode cX8_latest 14 = .ok (.invokevirtual 80, 3) := by decide +kernel
theorem dX8_latest_17 : decode cX8_latest 17 = .ok (.ifCond .eq 26, 3) := by decide +kernel
theorem dX8_latest_20 : decode cX8_latest 20 = .ok (.iload_n 2, 1) := by decide +kernel
theorem dX8_latest_21 : decode cX8_latest 21 = .ok (.bipush (-4), 2) := by decide +kernel
theorem dX8_latest_23 : decode cX8_latest 23 = .ok (.if_icmp .eq 18, 3) := by decide +kernel
theorem dX8_latest_26 : decode cX8_latest 26 = .ok (.aload_n 0, 1) := by decide +kernel
theorem dX8_latest_27 : decode cX8_latest 27 = .ok (.getfield 9, 3) := by decide +kernel
theorem dX8_latest_30 : decode cX8_latest 30 = .ok (.iload_n 3, 1) := by decide +kernel
theorem dX8_latest_31 : decode cX8_latest 31 = .ok (.iaload, 1) := by decide +kernel
theorem dX8_latest_32 : decode cX8_latest 32 = .ok (.aload_n 0, 1) := by decide +kernel
theorem dX8_latest_33 : decode cX8_latest 33 = .ok (.getfield 9, 3) := by decide +kernel
theorem dX8_latest_36 : decode cX8_latest 36 = .ok (.iload_n 2, 1) := by decide +kernel
theorem dX8_latest_37 : decode cX8_latest 37 = .ok (.iaload, 1) := by decide +kernel
theorem dX8_latest_38 : decode cX8_latest 38 = .ok (.if_icmp .le 5, 3) := by decide +kernel
theorem dX8_latest_41 : decode cX8_latest 41 = .ok (.iload_n 3, 1) := by decide +kernel
theorem dX8_latest_42 : decode cX8_latest 42 = .ok (.istore_n 2, 1) := by decide +kernel
theorem dX8_latest_43 : decode cX8_latest 43 = .ok (.iinc 3 1, 3) := by decide +kernel
theorem dX8_latest_46 : decode cX8_latest 46 = .ok (.goto (-40), 3) := by decide +kernel
theorem dX8_latest_49 : decode cX8_latest 49 = .ok (.iload_n 2, 1) := by decide +kernel
theorem dX8_latest_50 : decode cX8_latest 50 = .ok (.ireturn, 1) := by decide +kernel
def kX8_latest_0 : List (Nat × zT) := [(0, a_i (-4) 2), (2, a_istore 2 3), (3, a_i 6 5), (5, a_istore 3 6), (6, a_iload 3 7), (7, a_i 19 9), (9, a_ic_ge 49 12), (12, a_aload 1 13), (13, a_iload 3 14), (14, a_callV 10 81 2 17 0 0), (17, a_if_eq 43 20), (20, a_iload 2 21), (21, a_i (-4) 23), (23, a_ic_eq 41 26), (26, a_aload 0 27), (27, a_getR 8 0 30), (30, a_iload 3 31), (31, a_iald 32), (32, a_aload 0 33), (33, a_getR 8 0 36), (36, a_iload 2 37), (37, a_iald 38), (38, a_ic_le 43 41), (41, a_iload 3 42)]
theorem oX8_latest_0 : ∀ q ∈ kX8_latest_0, zSnd zty false RX8 cX8_latest 4 (some .int) false q := List.forall_mem_cons.mpr ⟨ok_bipush dX8_latest_0 (by decide), List.forall_mem_cons.mpr ⟨ok_istore_n dX8_latest_2 rfl (by decide), List.forall_mem_cons.mpr ⟨ok_bipush dX8_latest_3 (by decide), List.forall_mem_cons.mpr ⟨ok_istore_n dX8_latest_5 rfl (by decide), List.forall_mem_cons.mpr ⟨ok_iload_n dX8_latest_6 rfl, List.forall_mem_cons.mpr ⟨ok_bipush dX8_latest_7 (by decide), List.forall_mem_cons.mpr ⟨ok_ic_ge dX8_latest_9 (by decide), List.forall_mem_cons.mpr ⟨ok_aload_n dX8_latest_12 rfl, List.forall_mem_cons.mpr ⟨ok_iload_n dX8_latest_13 rfl, List.forall_mem_cons.mpr ⟨ok_callV dX8_latest_14 rfl rfl w430 w732 w428 w3 w429 (by decide +kernel) (by decide), List.forall_mem_cons.mpr ⟨ok_if_eq dX8_latest_17 (by decide), List.forall_mem_cons.mpr ⟨ok_iload_n dX8_latest_20 rfl, List.forall_mem_cons.mpr ⟨ok_bipush dX8_latest_21 (by decide), List.forall_mem_cons.mpr ⟨ok_ic_eq dX8_latest_23 (by decide), List.forall_mem_cons.mpr ⟨ok_aload_n dX8_latest_26 rfl, List.forall_mem_cons.mpr ⟨ok_getR dX8_latest_27 rfl in8 (by decide) rfl w220, List.forall_mem_cons.mpr ⟨ok_iload_n dX8_latest_30 rfl, List.forall_mem_cons.mpr ⟨ok_iald dX8_latest_31, List.forall_mem_cons.mpr ⟨ok_aload_n dX8_latest_32 rfl, List.forall_mem_cons.mpr ⟨ok_getR dX8_latest_33 rfl in8 (by decide) rfl w220, List.forall_mem_cons.mpr ⟨ok_iload_n dX8_latest_36 rfl, List.forall_mem_cons.mpr ⟨ok_iald dX8_latest_37, List.forall_mem_cons.mpr ⟨ok_ic_le dX8_latest_38 (by decide), List.forall_mem_cons.mpr ⟨ok_iload_n dX8_latest_41 rfl, fun _ h => absurd h List.not_mem_nil⟩⟩⟩⟩⟩⟩⟩⟩⟩⟩⟩⟩⟩⟩⟩⟩⟩⟩⟩⟩⟩⟩⟩⟩
def kX8_latest_1 : List (Nat × zT) := [(42, a_istore 2 43), (43, a_iinc 3 1 46), (46, a_goto 6), (49, a_iload 2 50), (50, a_iret false)]
theorem oX8_latest_1 : ∀ q ∈ kX8_latest_1, zSnd zty false RX8 cX8_latest 4 (some .int) false q := List.forall_mem_cons.mpr ⟨ok_istore_n dX8_latest_42 rfl (by decide), List.forall_mem_cons.mpr ⟨ok_iinc dX8_latest_43 (by decide) (by decide), List.forall_mem_cons.mpr ⟨ok_goto dX8_latest_46 (by decide), List.forall_mem_cons.mpr ⟨ok_iload_n dX8_latest_49 rfl, List.forall_mem_cons.mpr ⟨ok_iret (bz := false) dX8_latest_50 rfl, fun _ h => absurd h List.not_mem_nil⟩⟩⟩⟩⟩
def kX8_latest : List (Nat × zT) := kX8_latest_0 ++ (kX8_latest_1)
theorem qX8_latest_0 : ∀ q ∈ kX8_latest_0, q ∈ kX8_latest := fun _ h => (List.mem_append_left _ h)
theorem tX8_latest_0 : (0, a_i (-4) 2) ∈ kX8_latest := qX8_latest_0 _ (List.mem_of_getElem? (i := 0) rfl)
theorem tX8_latest_2 : (2, a_istore 2 3) ∈ kX8_latest := qX8_latest_0 _ (List.mem_of_getElem? (i := 1) rfl)
theorem tX8_latest_3 : (3, a_i 6 5) ∈ kX8_latest := qX8_latest_0 _ (List.mem_of_getElem? (i := 2) rfl)
theorem tX8_latest_5 : (5, a_istore 3 6) ∈ kX8_latest := qX8_latest_0 _ (List.mem_of_getElem? (i := 3) rfl)
theorem tX8_latest_6 : (6, a_iload 3 7) ∈ kX8_latest := qX8_latest_0 _ (List.mem_of_getElem? (i := 4) rfl)
theorem tX8_latest_7 : (7, a_i 19 9) ∈ kX8_latest := qX8_latest_0 _ (List.mem_of_getElem? (i := 5) rfl)
theorem tX8_latest_9 : (9, a_ic_ge 49 12) ∈ kX8_latest := qX8_latest_0 _ (List.mem_of_getElem? (i := 6) rfl)
theorem tX8_latest_12 : (12, a_aload 1 13) ∈ kX8_latest := qX8_latest_0 _ (List.mem_of_getElem? (i := 7) rfl)
theorem tX8_latest_13 : (13, a_iload 3 14) ∈ kX8_latest := qX8_latest_0 _ (List.mem_of_getElem? (i := 8) rfl)
theorem tX8_latest_14 : (14, a_callV 10 81 2 17 0 0) ∈ kX8_latest := qX8_latest_0 _ (List.mem_of_getElem? (i := 9) rfl)
theorem tX8_latest_17 : (17, a_if_eq 43 20) ∈ kX8_latest := qX8_latest_0 _ (List.mem_of_getElem? (i := 10) rfl)
theorem tX8_latest_20 : (20, a_iload 2 21) ∈ kX8_latest := qX8_latest_0 _ (List.mem_of_getElem? (i := 11) rfl)
theorem tX8_latest_21 : (21, a_i (-4) 23) ∈ kX8_latest := qX8_latest_0 _ (List.mem_of_getElem? (i := 12) rfl)
theorem tX8_latest_23 : (23, a_ic_eq 41 26) ∈ kX8_latest := qX8_latest_0 _ (List.mem_of_getElem? (i := 13) rfl)
theorem tX8_latest_26 : (26, a_aload 0 27) ∈ kX8_latest := qX8_latest_0 _ (List.mem_of_getElem? (i := 14) rfl)
theorem tX8_latest_27 : (27, a_getR 8 0 30) ∈ kX8_latest := qX8_latest_0 _ (List.mem_of_getElem? (i := 15) rfl)
theorem tX8_latest_30 : (30, a_iload 3 31) ∈ kX8_latest := qX8_latest_0 _ (List.mem_of_getElem? (i := 16) rfl)
theorem tX8_latest_31 : (31, a_iald 32) ∈ kX8_latest := qX8_latest_0 _ (List.mem_of_getElem? (i := 17) rfl)
theorem tX8_latest_32 : (32, a_aload 0 33) ∈ kX8_latest := qX8_latest_0 _ (List.mem_of_getElem? (i := 18) rfl)
theorem tX8_latest_33 : (33, a_getR 8 0 36) ∈ kX8_latest := qX8_latest_0 _ (List.mem_of_getElem? (i := 19) rfl)
theorem tX8_latest_36 : (36, a_iload 2 37) ∈ kX8_latest := qX8_latest_0 _ (List.mem_of_getElem? (i := 20) rfl)
theorem tX8_latest_37 : (37, a_iald 38) ∈ kX8_latest := qX8_latest_0 _ (List.mem_of_getElem? (i := 21) rfl)
theorem tX8_latest_38 : (38, a_ic_le 43 41) ∈ kX8_latest := qX8_latest_0 _ (List.mem_of_getElem? (i := 22) rfl)
theorem tX8_latest_41 : (41, a_iload 3 42) ∈ kX8_latest := qX8_latest_0 _ (List.mem_of_getElem? (i := 23) rfl)
theorem qX8_latest_1 : ∀ q ∈ kX8_latest_1, q ∈ kX8_latest := fun _ h => (List.mem_append_right _ h)
theorem tX8_latest_42 : (42, a_istore 2 43) ∈ kX8_latest := qX8_latest_1 _ (List.mem_of_getElem? (i := 0) rfl)
theorem tX8_latest_43 : (43, a_iinc 3 1 46) ∈ kX8_latest := qX8_latest_1 _ (List.mem_of_getElem? (i := 1) rfl)
theorem tX8_latest_46 : (46, a_goto 6) ∈ kX8_latest := qX8_latest_1 _ (List.mem_of_getElem? (i := 2) rfl)
theorem tX8_latest_49 : (49, a_iload 2 50) ∈ kX8_latest := qX8_latest_1 _ (List.mem_of_getElem? (i := 3) rfl)
theorem tX8_latest_50 : (50, a_iret false) ∈ kX8_latest := qX8_latest_1 _ (List.mem_of_getElem? (i := 4) rfl)
theorem oX8_latest : ∀ q ∈ kX8_latest, zSnd zty false RX8 cX8_latest 4 (some .int) false q := List.forall_mem_append.mpr ⟨oX8_latest_0, oX8_latest_1⟩
theorem dX8_nameOnWay_0 : decode cX8_nameOnWay 0 = .ok (.iload_n 1, 1) := by decide +kernel
theorem dX8_nameOnWay_1 : decode cX8_nameOnWay 1 = .ok (.istore_n 3, 1) := by decide +kernel
theorem dX8_nameOnWay_2 : decode cX8_nameOnWay 2 = .ok (.iconst 0, 1) := by decide +kernel
theorem dX8_nameOnWay_3 : decode cX8_nameOnWay 3 = .ok (.istore 4, 2) := by decide +kernel
theorem dX8_nameOnWay_5 : decode cX8_nameOnWay 5 = .ok (.iload 4, 2) := by decide +kernel
theorem dX8_nameOnWay_7 : decode cX8_nameOnWay 7 = .ok (.iload_n 2, 1) := by decide +kernel
theorem dX8_nameOnWay_8 : decode cX8_nameOnWay 8 = .ok (.if_icmp .ge 61, 3) := by decide +kernel
theorem dX8_nameOnWay_11 : decode cX8_nameOnWay 11 = .ok (.iload 4, 2) := by decide +kernel
theorem dX8_nameOnWay_13 : decode cX8_nameOnWay 13 = .ok (.ifCond .eq 10, 3) := by decide +kernel
theorem dX8_nameOnWay_16 : decode cX8_nameOnWay 16 = .ok (.iload_n 3, 1) := by decide +kernel
theorem dX8_nameOnWay_17 : decode cX8_nameOnWay 17 = .ok (.invokestatic 43, 3) := by decide +kernel
theorem dX8_nameOnWay_20 : decode cX8_nameOnWay 20 = .ok (.ifCond .eq 7, 3) := by decide +kernel
theorem dX8_nameOnWay_23 : decode cX8_nameOnWay 23 = .ok (.iconst 1, 1) := by decide +kernel
theorem dX8_nameOnWay_24 : decode cX8_nameOnWay 24 = .ok (.goto 4, 3) := by decide +kernel
theorem dX8_nameOnWay_27 : decode cX8_nameOnWay 27 = .ok (.iconst 0, 1) := by decide +kernel
theorem dX8_nameOnWay_28 : decode cX8_nameOnWay 28 = .ok (.istore 5, 2) := by decide +kernel
theorem dX8_nameOnWay_30 : decode cX8_nameOnWay 30 = .ok (.iload 5, 2) := by decide +kernel
theorem dX8_nameOnWay_32 : decode cX8_nameOnWay 32 = .ok (.ifCond .eq 21, 3) := by decide +kernel
theorem dX8_nameOnWay_35 : decode cX8_nameOnWay 35 = .ok (.iload 4, 2) := by decide +kernel
theorem dX8_nameOnWay_37 : decode cX8_nameOnWay 37 = .ok (.bipush 11, 2) := by decide +kernel
theorem dX8_nameOnWay_39 : decode cX8_nameOnWay 39 = .ok (.if_icmp .ge 14, 3) := by decide +kernel
theorem dX8_nameOnWay_42 : decode cX8_nameOnWay 42 = .ok (.aload_n 0, 1) := by decide +kernel
theorem dX8_nameOnWay_43 : decode cX8_nameOnWay 43 = .ok (.getfield 15, 3) := by decide +kernel
theorem dX8_nameOnWay_46 : decode cX8_nameOnWay 46 = .ok (.iload_n 3, 1) := by decide +kernel
theorem dX8_nameOnWay_47 : decode cX8_nameOnWay 47 = .ok (.iaload, 1) := by decide +kernel
theorem dX8_nameOnWay_48 : decode cX8_nameOnWay 48 = .ok (.bipush 19, 2) := by decide +kernel
theorem dX8_nameOnWay_50 : decode cX8_nameOnWay 50 = .ok (.if_icmp .lt 6, 3) := by decide +kernel
theorem dX8_nameOnWay_53 : decode cX8_nameOnWay 53 = .ok (.bipush (-4), 2) := by decide +kernel
theorem dX8_nameOnWay_55 : decode cX8_nameOnWay 55 = .ok (.ireturn, 1) := by decide +kernel
theorem dX8_nameOnWay_56 : decode cX8_nameOnWay 56 = .ok (.aload_n 0, 1) := by decide +kernel
theorem dX8_nameOnWay_57 : decode cX8_nameOnWay 57 = .ok (.getfield 15, 3) := by decide +kernel
theorem dX8_nameOnWay_60 : decode cX8_nameOnWay 60 = .ok (.iload_n 3, 1) := by decide +kernel
theorem dX8_nameOnWay_61 : decode cX8_nameOnWay 61 = .ok (.iaload, 1) := by decide +kernel
theorem dX8_nameOnWay_62 : decode cX8_nameOnWay 62 = .ok (.istore_n 3, 1) := by decide +kernel
theorem dX8_nameOnWay_63 : decode cX8_nameOnWay 63 = .ok (.iinc 4 1, 3) := by decide +kernel
theorem dX8_nameOnWay_66 : decode cX8_nameOnWay 66 = .ok (.goto (-61), 3) := by decide +kernel
theorem dX8_nameOnWay_69 : decode cX8_nameOnWay 69 = .ok (.iload_n 3, 1) := by decide +kernel
theorem dX8_nameOnWay_70 : decode cX8_nameOnWay 70 = .ok (.ireturn, 1) := by decide +kernel
def kX8_nameOnWay_0 : List (Nat × zT) := [(0, a_iload 1 1), (1, a_istore 3 2), (2, a_i 0 3), (3, a_istore 4 5), (5, a_iload 4 7), (7, a_iload 2 8), (8, a_ic_ge 69 11), (11, a_iload 4 13), (13, a_if_eq 23 16), (16, a_iload 3 17), (17, a_call 131 1 20 0 0), (20, a_if_eq 27 23), (23, a_i 1 24), (24, a_goto 28), (27, a_i 0 28), (28, a_istore 5 30), (30, a_iload 5 32), (32, a_if_eq 53 35), (35, a_iload 4 37), (37, a_i 11 39), (39, a_ic_ge 53 42), (42, a_aload 0 43), (43, a_getR 8 1 46), (46, a_iload 3 47)]
theorem oX8_nameOnWay_0 : ∀ q ∈ kX8_nameOnWay_0, zSnd zty false RX8 cX8_nameOnWay 6 (some .int) false q := List.forall_mem_cons.mpr ⟨ok_iload_n dX8_nameOnWay_0 rfl, List.forall_mem_cons.mpr ⟨ok_istore_n dX8_nameOnWay_1 rfl (by decide), List.forall_mem_cons.mpr ⟨ok_iconst dX8_nameOnWay_2 (by decide), List.forall_mem_cons.mpr ⟨ok_istore dX8_nameOnWay_3 (by decide), List.forall_mem_cons.mpr ⟨ok_iload dX8_nameOnWay_5, List.forall_mem_cons.mpr ⟨ok_iload_n dX8_nameOnWay_7 rfl, List.forall_mem_cons.mpr ⟨ok_ic_ge dX8_nameOnWay_8 (by decide), List.forall_mem_cons.mpr ⟨ok_iload dX8_nameOnWay_11, List.forall_mem_cons.mpr ⟨ok_if_eq dX8_nameOnWay_13 (by decide), List.forall_mem_cons.mpr ⟨ok_iload_n dX8_nameOnWay_16 rfl, List.forall_mem_cons.mpr ⟨ok_callSN dX8_nameOnWay_17 rfl w555 n708 w554 w1 (by decide +kernel) (by decide), List.forall_mem_cons.mpr ⟨ok_if_eq dX8_nameOnWay_20 (by decide), List.forall_mem_cons.mpr ⟨ok_iconst dX8_nameOnWay_23 (by decide), List.forall_mem_cons.mpr ⟨ok_goto dX8_nameOnWay_24 (by decide), List.forall_mem_cons.mpr ⟨ok_iconst dX8_nameOnWay_27 (by decide), List.forall_mem_cons.mpr ⟨ok_istore dX8_nameOnWay_28 (by decide), List.forall_mem_cons.mpr ⟨ok_iload dX8_nameOnWay_30, List.forall_mem_cons.mpr ⟨ok_if_eq dX8_nameOnWay_32 (by decide), List.forall_mem_cons.mpr ⟨ok_iload dX8_nameOnWay_35, List.forall_mem_cons.mpr ⟨ok_bipush dX8_nameOnWay_37 (by decide), List.forall_mem_cons.mpr ⟨ok_ic_ge dX8_nameOnWay_39 (by decide), List.forall_mem_cons.mpr ⟨ok_aload_n dX8_nameOnWay_42 rfl, List.forall_mem_cons.mpr ⟨ok_getR dX8_nameOnWay_43 rfl in8 (by decide) rfl w222, List.forall_mem_cons.mpr ⟨ok_iload_n dX8_nameOnWay_46 rfl, fun _ h => absurd h List.not_mem_nil⟩⟩⟩⟩⟩⟩⟩⟩⟩⟩⟩⟩⟩⟩⟩⟩⟩⟩⟩⟩⟩⟩⟩⟩
def kX8_nameOnWay_1 : List (Nat × zT) := [(47, a_iald 48), (48, a_i 19 50), (50, a_ic_lt 56 53), (53, a_i (-4) 55), (55, a_iret false), (56, a_aload 0 57), (57, a_getR 8 1 60), (60, a_iload 3 61), (61, a_iald 62), (62, a_istore 3 63), (63, a_iinc 4 1 66), (66, a_goto 5), (69, a_iload 3 70), (70, a_iret false)]
theorem oX8_nameOnWay_1 : ∀ q ∈ kX8_nameOnWay_1, zSnd zty false RX8 cX8_nameOnWay 6 (some .int) false q := List.forall_mem_cons.mpr ⟨ok_iald dX8_nameOnWay_47, List.forall_mem_cons.mpr ⟨ok_bipush dX8_nameOnWay_48 (by decide), List.forall_mem_cons.mpr ⟨ok_ic_lt dX8_nameOnWay_50 (by decide), List.forall_mem_cons.mpr ⟨ok_bipush dX8_nameOnWay_53 (by decide), List.forall_mem_cons.mpr ⟨ok_iret (bz := false) dX8_nameOnWay_55 rfl, List.forall_mem_cons.mpr ⟨ok_aload_n dX8_nameOnWay_56 rfl, List.forall_mem_cons.mpr ⟨ok_getR dX8_nameOnWay_57 rfl in8 (by decide) rfl w222, List.forall_mem_cons.mpr ⟨ok_iload_n dX8_nameOnWay_60 rfl, List.forall_mem_cons.mpr ⟨ok_iald dX8_nameOnWay_61, List.forall_mem_cons.mpr ⟨ok_istore_n dX8_nameOnWay_62 rfl (by decide), List.forall_mem_cons.mpr ⟨ok_iinc dX8_nameOnWay_63 (by decide) (by decide), List.forall_mem_cons.mpr ⟨ok_goto dX8_nameOnWay_66 (by decide), List.forall_mem_cons.mpr ⟨ok_iload_n dX8_nameOnWay_69 rfl, List.forall_mem_cons.mpr ⟨ok_iret (bz := false) dX8_nameOnWay_70 rfl, fun _ h => absurd h List.not_mem_nil⟩⟩⟩⟩⟩⟩⟩⟩⟩⟩⟩⟩⟩⟩
def kX8_nameOnWay : List (Nat × zT) := kX8_nameOnWay_0 ++ (kX8_nameOnWay_1)
theorem qX8_nameOnWay_0 : ∀ q ∈ kX8_nameOnWay_0, q ∈ kX8_nameOnWay := fun _ h => (List.mem_append_left _ h)
theorem tX8_nameOnWay_0 : (0, a_iload 1 1) ∈ kX8_nameOnWay := qX8_nameOnWay_0 _ (List.mem_of_getElem? (i := 0) rfl)
theorem tX8_nameOnWay_1 : (1, a_istore 3 2) ∈ kX8_nameOnWay := qX8_nameOnWay_0 _ (List.mem_of_getElem? (i := 1) rfl)
theorem tX8_nameOnWay_2 : (2, a_i 0 3) ∈ kX8_nameOnWay := qX8_nameOnWay_0 _ (List.mem_of_getElem? (i := 2) rfl)
theorem tX8_nameOnWay_3 : (3, a_istore 4 5) ∈ kX8_nameOnWay := qX8_nameOnWay_0 _ (List.mem_of_getElem? (i := 3) rfl)
theorem tX8_nameOnWay_5 : (5, a_iload 4 7) ∈ kX8_nameOnWay := qX8_nameOnWay_0 _ (List.mem_of_getElem? (i := 4) rfl)
theorem tX8_nameOnWay_7 : (7, a_iload 2 8) ∈ kX8_nameOnWay := qX8_nameOnWay_0 _ (List.mem_of_getElem? (i := 5) rfl)
theorem tX8_nameOnWay_8 : (8, a_ic_ge 69 11) ∈ kX8_nameOnWay := qX8_nameOnWay_0 _ (List.mem_of_getElem? (i := 6) rfl)
theorem tX8_nameOnWay_11 : (11, a_iload 4 13) ∈ kX8_nameOnWay := qX8_nameOnWay_0 _ (List.mem_of_getElem? (i := 7) rfl)
theorem tX8_nameOnWay_13 : (13, a_if_eq 23 16) ∈ kX8_nameOnWay := qX8_nameOnWay_0 _ (List.mem_of_getElem? (i := 8) rfl)
theorem tX8_nameOnWay_16 : (16, a_iload 3 17) ∈ kX8_nameOnWay := qX8_nameOnWay_0 _ (List.mem_of_getElem? (i := 9) rfl)
theorem tX8_nameOnWay_17 : (17, a_call 131 1 20 0 0) ∈ kX8_nameOnWay := qX8_nameOnWay_0 _ (List.mem_of_getElem? (i := 10) rfl)
theorem tX8_nameOnWay_20 : (20, a_if_eq 27 23) ∈ kX8_nameOnWay := qX8_nameOnWay_0 _ (List.mem_of_getElem? (i := 11) rfl)
theorem tX8_nameOnWay_23 : (23, a_i 1 24) ∈ kX8_nameOnWay := qX8_nameOnWay_0 _ (List.mem_of_getElem? (i := 12) rfl)
theorem tX8_nameOnWay_24 : (24, a_goto 28) ∈ kX8_nameOnWay := qX8_nameOnWay_0 _ (List.mem_of_getElem? (i := 13) rfl)
theorem tX8_nameOnWay_27 : (27, a_i 0 28) ∈ kX8_nameOnWay := qX8_nameOnWay_0 _ (List.mem_of_getElem? (i := 14) rfl)
theorem tX8_nameOnWay_28 : (28, a_istore 5 30) ∈ kX8_nameOnWay := qX8_nameOnWay_0 _ (List.mem_of_getElem? (i := 15) rfl)
theorem tX8_nameOnWay_30 : (30, a_iload 5 32) ∈ kX8_nameOnWay := qX8_nameOnWay_0 _ (List.mem_of_getElem? (i := 16) rfl)
theorem tX8_nameOnWay_32 : (32, a_if_eq 53 35) ∈ kX8_nameOnWay := qX8_nameOnWay_0 _ (List.mem_of_getElem? (i := 17) rfl)
theorem tX8_nameOnWay_35 : (35, a_iload 4 37) ∈ kX8_nameOnWay := qX8_nameOnWay_0 _ (List.mem_of_getElem? (i := 18) rfl)
theorem tX8_nameOnWay_37 : (37, a_i 11 39) ∈ kX8_nameOnWay := qX8_nameOnWay_0 _ (List.mem_of_getElem? (i := 19) rfl)
theorem tX8_nameOnWay_39 : (39, a_ic_ge 53 42) ∈ kX8_nameOnWay := qX8_nameOnWay_0 _ (List.mem_of_getElem? (i := 20) rfl)
theorem tX8_nameOnWay_42 : (42, a_aload 0 43) ∈ kX8_nameOnWay := qX8_nameOnWay_0 _ (List.mem_of_getElem? (i := 21) rfl)
theorem tX8_nameOnWay_43 : (43, a_getR 8 1 46) ∈ kX8_nameOnWay := qX8_nameOnWay_0 _ (List.mem_of_getElem? (i := 22) rfl)
theorem tX8_nameOnWay_46 : (46, a_iload 3 47) ∈ kX8_nameOnWay := qX8_nameOnWay_0 _ (List.mem_of_getElem? (i := 23) rfl)
theorem qX8_nameOnWay_1 : ∀ q ∈ kX8_nameOnWay_1, q ∈ kX8_nameOnWay := fun _ h => (List.mem_append_right _ h)
theorem tX8_nameOnWay_47 : (47, a_iald 48) ∈ kX8_nameOnWay := qX8_nameOnWay_1 _ (List.mem_of_getElem? (i := 0) rfl)
theorem tX8_nameOnWay_48 : (48, a_i 19 50) ∈ kX8_nameOnWay := qX8_nameOnWay_1 _ (List.mem_of_getElem? (i := 1) rfl)
theorem tX8_nameOnWay_50 : (50, a_ic_lt 56 53) ∈ kX8_nameOnWay := qX8_nameOnWay_1 _ (List.mem_of_getElem? (i := 2) rfl)
theorem tX8_nameOnWay_53 : (53, a_i (-4) 55) ∈ kX8_nameOnWay := qX8_nameOnWay_1 _ (List.mem_of_getElem? (i := 3) rfl)
theorem tX8_nameOnWay_55 : (55, a_iret false) ∈ kX8_nameOnWay := qX8_nameOnWay_1 _ (List.mem_of_getElem? (i := 4) rfl)
theorem tX8_nameOnWay_56 : (56, a_aload 0 57) ∈ kX8_nameOnWay := qX8_nameOnWay_1 _ (List.mem_of_getElem? (i := 5) rfl)
theorem tX8_nameOnWay_57 : (57, a_getR 8 1 60) ∈ kX8_nameOnWay := qX8_nameOnWay_1 _ (List.mem_of_getElem? (i := 6) rfl)
theorem tX8_nameOnWay_60 : (60, a_iload 3 61) ∈ kX8_nameOnWay := qX8_nameOnWay_1 _ (List.mem_of_getElem? (i := 7) rfl)
theorem tX8_nameOnWay_61 : (61, a_iald 62) ∈ kX8_nameOnWay := qX8_nameOnWay_1 _ (List.mem_of_getElem? (i := 8) rfl)
theorem tX8_nameOnWay_62 : (62, a_istore 3 63) ∈ kX8_nameOnWay := qX8_nameOnWay_1 _ (List.mem_of_getElem? (i := 9) rfl)
theorem tX8_nameOnWay_63 : (63, a_iinc 4 1 66) ∈ kX8_nameOnWay := qX8_nameOnWay_1 _ (List.mem_of_getElem? (i := 10) rfl)
theorem tX8_nameOnWay_66 : (66, a_goto 5) ∈ kX8_nameOnWay := qX8_nameOnWay_1 _ (List.mem_of_getElem? (i := 11) rfl)
theorem tX8_nameOnWay_69 : (69, a_iload 3 70) ∈ kX8_nameOnWay := qX8_nameOnWay_1 _ (List.mem_of_getElem? (i := 12) rfl)
theorem tX8_nameOnWay_70 : (70, a_iret false) ∈ kX8_nameOnWay := qX8_nameOnWay_1 _ (List.mem_of_getElem? (i := 13) rfl)
theorem oX8_nameOnWay : ∀ q ∈ kX8_nameOnWay, zSnd zty false RX8 cX8_nameOnWay 6 (some .int) false q := List.forall_mem_append.mpr ⟨oX8_nameOnWay_0, oX8_nameOnWay_1⟩
theorem dX9_init_0 : decode cX9_init 0 = .ok (.aload_n 0, 1) := by decide +kernel
theorem dX9_init_1 : decode cX9_init 1 = .ok (.invokespecial 3, 3) := by decide +kernel
theorem dX9_init_4 : decode cX9_init 4 = .ok (.aload_n 0, 1) := by decide +kernel
theorem dX9_init_5 : decode cX9_init 5 = .ok (.bipush 10, 2) := by decide +kernel
theorem dX9_init_7 : decode cX9_init 7 = .ok (.newarray .int, 2) := by decide +kernel
theorem dX9_init_9 : decode cX9_init 9 = .ok (.putfield 11, 3) := by decide +kernel
theorem dX9_init_12 : decode cX9_init 12 = .ok (.aload_n 0, 1) := by decide +kernel
theorem dX9_init_13 : decode cX9_init 13 = .ok (.bipush 10, 2) := by decide +kernel
theorem dX9_init_15 : decode cX9_init 15 = .ok (.newarray .int, 2) := by decide +kernel
theorem dX9_init_17 : decode cX9_init 17 = .ok (.putfield 15, 3) := by decide +kernel
theorem dX9_init_20 : decode cX9_init 20 = .ok (.aload_n 0, 1) := by decide +kernel
theorem dX9_init_21 : decode cX9_init 21 = .ok (.iconst 0, 1) := by decide +kernel
theorem dX9_init_22 : decode cX9_init 22 = .ok (.putfield 18, 3) := by decide +kernel
theorem dX9_init_25 : decode cX9_init 25 = .ok (.aload_n 0, 1) := by decide +kernel
theorem dX9_init_26 : decode cX9_init 26 = .ok (.bipush 10, 2) := by decide +kernel
theorem dX9_init_28 : decode cX9_init 28 = .ok (.newarray .long, 2) := by decide +kernel
theorem dX9_init_30 : decode cX9_init 30 = .ok (.putfield 22, 3) := by decide +kernel
theorem dX9_init_33 : decode cX9_init 33 = .ok (.aload_n 0, 1) := by decide +kernel
theorem dX9_init_34 : decode cX9_init 34 = .ok (.new 26, 3) := by decide +kernel
theorem dX9_init_37 : decode cX9_init 37 = .ok (.dup, 1) := by decide +kernel
theorem dX9_init_38 : decode cX9_init 38 = .ok (.invokespecial 28, 3) := by decide +kernel
theorem dX9_init_41 : decode cX9_init 41 = .ok (.putfield 29, 3) := by decide +kernel
theorem dX9_init_44 : decode cX9_init 44 = .ok (.aload_n 0, 1) := by decide +kernel
theorem dX9_init_45 : decode cX9_init 45 = .ok (.bipush 19, 2) := by decide +kernel
theorem dX9_init_47 : decode cX9_init 47 = .ok (.newarray .long, 2) := by decide +kernel
theorem dX9_init_49 : decode cX9_init 49 = .ok (.putfield 33, 3) := by decide +kernel
theorem dX9_init_52 : decode cX9_init 52 = .ok (.aload_n 0, 1) := by decide +kernel
theorem dX9_init_53 : decode cX9_init 53 = .ok (.getfield 29, 3) := by decide +kernel
theorem dX9_init_56 : decode cX9_init 56 = .ok (.invokevirtual 36, 3) := by decide +kernel
theorem dX9_init_59 : decode cX9_init 59 = .ok (.return_, 1) := by decide +kernel
def kX9_init_0 : List (Nat × zT) := [(0, a_aload 0 1), (1, a_obj 4), (4, a_aload 0 5), (5, a_i 10 7), (7, a_newI 9), (9, a_putR 9 0 12), (12, a_aload 0 13), (13, a_i 10 15), (15, a_newI 17), (17, a_putR 9 1 20), (20, a_aload 0 21), (21, a_i 0 22), (22, a_putI 9 2 25 false), (25, a_aload 0 26), (26, a_i 10 28), (28, a_newJ 30), (30, a_putR 9 3 33), (33, a_aload 0 34), (34, a_new 4 5 37), (37, a_dup 38), (38, a_callV 4 29 1 41 5 94), (41, a_putR 9 4 44), (44, a_aload 0 45), (45, a_i 19 47)]
theorem oX9_init_0 : ∀ q ∈ kX9_init_0, zSnd zty true RX9 cX9_init 1 none true q := List.forall_mem_cons.mpr ⟨ok_aload_n dX9_init_0 rfl, List.forall_mem_cons.mpr ⟨ok_obj dX9_init_1 w277 w25 w26, List.forall_mem_cons.mpr ⟨ok_aload_n dX9_init_4 rfl, List.forall_mem_cons.mpr ⟨ok_bipush dX9_init_5 (by decide), List.forall_mem_cons.mpr ⟨ok_newI dX9_init_7 rfl w44, List.forall_mem_cons.mpr ⟨ok_putR dX9_init_9 rfl rfl in9 tyX9 tyX9_ok nmX9 (by decide) rfl w285 rfl rfl (fun _ => ⟨rfl, rfl⟩), List.forall_mem_cons.mpr ⟨ok_aload_n dX9_init_12 rfl, List.forall_mem_cons.mpr ⟨ok_bipush dX9_init_13 (by decide), List.forall_mem_cons.mpr ⟨ok_newI dX9_init_15 rfl w44, List.forall_mem_cons.mpr ⟨ok_putR dX9_init_17 rfl rfl in9 tyX9 tyX9_ok nmX9 (by decide) rfl w286 rfl rfl (fun _ => ⟨rfl, rfl⟩), List.forall_mem_cons.mpr ⟨ok_aload_n dX9_init_20 rfl, List.forall_mem_cons.mpr ⟨ok_iconst dX9_init_21 (by decide), List.forall_mem_cons.mpr ⟨ok_putI (bz := false) dX9_init_22 rfl in9 tyX9 tyX9_ok nmX9 (by decide) rfl w288 rfl rfl, List.forall_mem_cons.mpr ⟨ok_aload_n dX9_init_25 rfl, List.forall_mem_cons.mpr ⟨ok_bipush dX9_init_26 (by decide), List.forall_mem_cons.mpr ⟨ok_newJ dX9_init_28 rfl w182, List.forall_mem_cons.mpr ⟨ok_putR dX9_init_30 rfl rfl in9 tyX9 tyX9_ok nmX9 (by decide) rfl w290 rfl rfl (fun _ => ⟨rfl, rfl⟩), List.forall_mem_cons.mpr ⟨ok_aload_n dX9_init_33 rfl, List.forall_mem_cons.mpr ⟨ok_new dX9_init_34 rfl rfl in4 tyX4 tyX4_ok rfl (by decide +kernel) w278 w159 w6, List.forall_mem_cons.mpr ⟨ok_dup dX9_init_37, List.forall_mem_cons.mpr ⟨ok_callIN dX9_init_38 rfl w162 n279 w161 w6 rfl (by decide +kernel) (by decide), List.forall_mem_cons.mpr ⟨ok_putR dX9_init_41 rfl rfl in9 tyX9 tyX9_ok nmX9 (by decide) rfl w291 rfl rfl (fun _ => ⟨rfl, rfl⟩), List.forall_mem_cons.mpr ⟨ok_aload_n dX9_init_44 rfl, List.forall_mem_cons.mpr ⟨ok_bipush dX9_init_45 (by decide), fun _ h => absurd h List.not_mem_nil⟩⟩⟩⟩⟩⟩⟩⟩⟩⟩⟩⟩⟩⟩⟩⟩⟩⟩⟩⟩⟩⟩⟩⟩
def kX9_init_1 : List (Nat × zT) := [(47, a_newJ 49), (49, a_putR 9 5 52), (52, a_aload 0 53), (53, a_getR 9 4 56), (56, a_callV 4 31 1 59 0 0), (59, a_vret)]
theorem oX9_init_1 : ∀ q ∈ kX9_init_1, zSnd zty true RX9 cX9_init 1 none true q := List.forall_mem_cons.mpr ⟨ok_newJ dX9_init_47 rfl w182, List.forall_mem_cons.mpr ⟨ok_putR dX9_init_49 rfl rfl in9 tyX9 tyX9_ok nmX9 (by decide) rfl w292 rfl rfl (fun _ => ⟨rfl, rfl⟩), List.forall_mem_cons.mpr ⟨ok_aload_n dX9_init_52 rfl, List.forall_mem_cons.mpr ⟨ok_getR dX9_init_53 rfl in9 (by decide) rfl w291, List.forall_mem_cons.mpr ⟨ok_callV dX9_init_56 rfl rfl w283 w280 w281 w6 w282 (by decide +kernel) (by decide), List.forall_mem_cons.mpr ⟨ok_vret dX9_init_59 rfl, fun _ h => absurd h List.not_mem_nil⟩⟩⟩⟩⟩⟩
def kX9_init : List (Nat × zT) := kX9_init_0 ++ (kX9_init_1)
theorem qX9_init_0 : ∀ q ∈ kX9_init_0, q ∈ kX9_init := fun _ h => (List.mem_append_left _ h)
theorem tX9_init_0 : (0, a_aload 0 1) ∈ kX9_init := qX9_init_0 _ (List.mem_of_getElem? (i := 0) rfl)
theorem tX9_init_1 : (1, a_obj 4) ∈ kX9_init := qX9_init_0 _ (List.mem_of_getElem? (i := 1) rfl)
theorem tX9_init_4 : (4, a_aload 0 5) ∈ kX9_init := qX9_init_0 _ (List.mem_of_getElem? (i := 2) rfl)
theorem tX9_init_5 : (5, a_i 10 7) ∈ kX9_init := qX9_init_0 _ (List.mem_of_getElem? (i := 3) rfl)
theorem tX9_init_7 : (7, a_newI 9) ∈ kX9_init := qX9_init_0 _ (List.mem_of_getElem? (i := 4) rfl)
theorem tX9_init_9 : (9, a_putR 9 0 12) ∈ kX9_init := qX9_init_0 _ (List.mem_of_getElem? (i := 5) rfl)
theorem tX9_init_12 : (12, a_aload 0 13) ∈ kX9_init := qX9_init_0 _ (List.mem_of_getElem? (i := 6) rfl)
theorem tX9_init_13 : (13, a_i 10 15) ∈ kX9_init := qX9_init_0 _ (List.mem_of_getElem? (i := 7) rfl)
theorem tX9_init_15 : (15, a_newI 17) ∈ kX9_init := qX9_init_0 _ (List.mem_of_getElem? (i := 8) rfl)
theorem tX9_init_17 : (17, a_putR 9 1 20) ∈ kX9_init := qX9_init_0 _ (List.mem_of_getElem? (i := 9) rfl)
theorem tX9_init_20 : (20, a_aload 0 21) ∈ kX9_init := qX9_init_0 _ (List.mem_of_getElem? (i := 10) rfl)
theorem tX9_init_21 : (21, a_i 0 22) ∈ kX9_init := qX9_init_0 _ (List.mem_of_getElem? (i := 11) rfl)
theorem tX9_init_22 : (22, a_putI 9 2 25 false) ∈ kX9_init := qX9_init_0 _ (List.mem_of_getElem? (i := 12) rfl)
theorem tX9_init_25 : (25, a_aload 0 26) ∈ kX9_init := qX9_init_0 _ (List.mem_of_getElem? (i := 13) rfl)
theorem tX9_init_26 : (26, a_i 10 28) ∈ kX9_init := qX9_init_0 _ (List.mem_of_getElem? (i := 14) rfl)
theorem tX9_init_28 : (28, a_newJ 30) ∈ kX9_init := qX9_init_0 _ (List.mem_of_getElem? (i := 15) rfl)
theorem tX9_init_30 : (30, a_putR 9 3 33) ∈ kX9_init := qX9_init_0 _ (List.mem_of_getElem? (i := 16) rfl)
theorem tX9_init_33 : (33, a_aload 0 34) ∈ kX9_init := qX9_init_0 _ (List.mem_of_getElem? (i := 17) rfl)
theorem tX9_init_34 : (34, a_new 4 5 37) ∈ kX9_init := qX9_init_0 _ (List.mem_of_getElem? (i := 18) rfl)
theorem tX9_init_37 : (37, a_dup 38) ∈ kX9_init := qX9_init_0 _ (List.mem_of_getElem? (i := 19) rfl)
theorem tX9_init_38 : (38, a_callV 4 29 1 41 5 94) ∈ kX9_init := qX9_init_0 _ (List.mem_of_getElem? (i := 20) rfl)
theorem tX9_init_41 : (41, a_putR 9 4 44) ∈ kX9_init := qX9_init_0 _ (List.mem_of_getElem? (i := 21) rfl)
theorem tX9_init_44 : (44, a_aload 0 45) ∈ kX9_init := qX9_init_0 _ (List.mem_of_getElem? (i := 22) rfl)
theorem tX9_init_45 : (45, a_i 19 47) ∈ kX9_init := qX9_init_0 _ (List.mem_of_getElem? (i := 23) rfl)
theorem qX9_init_1 : ∀ q ∈ kX9_init_1, q ∈ kX9_init := fun _ h => (List.mem_append_right _ h)
theorem tX9_init_47 : (47, a_newJ 49) ∈ kX9_init := qX9_init_1 _ (List.mem_of_getElem? (i := 0) rfl)
theorem tX9_init_49 : (49, a_putR 9 5 52) ∈ kX9_init := qX9_init_1 _ (List.mem_of_getElem? (i := 1) rfl)
theorem tX9_init_52 : (52, a_aload 0 53) ∈ kX9_init := qX9_init_1 _ (List.mem_of_getElem? (i := 2) rfl)
theorem tX9_init_53 : (53, a_getR 9 4 56) ∈ kX9_init := qX9_init_1 _ (List.mem_of_getElem? (i := 3) rfl)
theorem tX9_init_56 : (56, a_callV 4 31 1 59 0 0) ∈ kX9_init := qX9_init_1 _ (List.mem_of_getElem? (i := 4) rfl)
theorem tX9_init_59 : (59, a_vret) ∈ kX9_init := qX9_init_1 _ (List.mem_of_getElem? (i := 5) rfl)
theorem oX9_init : ∀ q ∈ kX9_init, zSnd zty true RX9 cX9_init 1 none true q := List.forall_mem_append.mpr ⟨oX9_init_0, oX9_init_1⟩
theorem dX9_add_0 : decode cX9_add 0 = .ok (.aload_n 0, 1) := by decide +kernel
theorem dX9_add_1 : decode cX9_add 1 = .ok (.getfield 18, 3) := by decide +kernel
theorem dX9_add_4 : decode cX9_add 4 = .ok (.bipush 10, 2) := by decide +kernel
theorem dX9_add_6 : decode cX9_add 6 = .ok (.if_icmp .lt 6, 3) := by decide +kernel
theorem dX9_add_9 : decode cX9_add 9 = .ok (.bipush (-3), 2) := by decide +kernel
theorem dX9_add_11 : decode cX9_add 11 = .ok (.ireturn, 1) := by decide +kernel
theorem dX9_add_12 : decode cX9_add 12 = .ok (.aload_n 0, 1) := by decide +kernel
theorem dX9_add_13 : decode cX9_add 13 = .ok (.getfield 11, 3) := by decide +kernel
theorem dX9_add_16 : decode cX9_add 16 = .ok (.aload_n 0, 1) := by decide +kernel
theorem dX9_add_17 : decode cX9_add 17 = .ok (.getfield 18, 3) := by decide +kernel
theorem dX9_add_20 : decode cX9_add 20 = .ok (.iload_n 1, 1) := by decide +kernel
theorem dX9_add_21 : decode cX9_add 21 = .ok (.iastore, 1) := by decide +kernel
theorem dX9_add_22 : decode cX9_add 22 = .ok (.aload_n 0, 1) := by decide +kernel
theorem dX9_add_23 : decode cX9_add 23 = .ok (.getfield 15, 3) := by decide +kernel
theorem dX9_add_26 : decode cX9_add 26 = .ok (.aload_n 0, 1) := by decide +kernel
theorem dX9_add_27 : decode cX9_add 27 = .ok (.getfield 18, 3) := by decide +kernel
theorem dX9_add_30 : decode cX9_add 30 = .ok (.iconst (-1), 1) := by decide +kernel
theorem dX9_add_31 : decode cX9_add 31 = .ok (.iastore, 1) := by decide +kernel
theorem dX9_add_32 : decode cX9_add 32 = .ok (.aload_n 0, 1) := by decide +kernel
theorem dX9_add_33 : decode cX9_add 33 = .ok (.dup, 1) := by decide +kernel
theorem dX9_add_34 : decode cX9_add 34 = .ok (.getfield 18, 3) := by decide +kernel
theorem dX9_add_37 : decode cX9_add 37 = .ok (.iconst 1, 1) := by decide +kernel
theorem dX9_add_38 : decode cX9_add 38 = .ok (.iadd, 1) := by decide +kernel
theorem dX9_add_39 : decode cX9_add 39 = .ok (.putfield 18, 3) := by decide +kernel
theorem dX9_add_42 : decode cX9_add 42 = .ok (.aload_n 0, 1) := by decide +kernel
theorem dX9_add_43 : decode cX9_add 43 = .ok (.getfield 18, 3) := by decide +kernel
theorem dX9_add_46 : decode cX9_add 46 = .ok (.ireturn, 1) := by decide +kernel
def kX9_add_0 : List (Nat × zT) := [(0, a_aload 0 1), (1, a_getI 9 2 4), (4, a_i 10 6), (6, a_ic_lt 12 9), (9, a_i (-3) 11), (11, a_iret false), (12, a_aload 0 13), (13, a_getR 9 0 16), (16, a_aload 0 17), (17, a_getI 9 2 20), (20, a_iload 1 21), (21, a_iast 22), (22, a_aload 0 23), (23, a_getR 9 1 26), (26, a_aload 0 27), (27, a_getI 9 2 30), (30, a_i (-1) 31), (31, a_iast 32), (32, a_aload 0 33), (33, a_dup 34), (34, a_getI 9 2 37), (37, a_i 1 38), (38, a_ii (fun x y => x + y) 39), (39, a_putI 9 2 42 false)]
theorem oX9_add_0 : ∀ q ∈ kX9_add_0, zSnd zty false RX9 cX9_add 2 (some .int) false q := List.forall_mem_cons.mpr ⟨ok_aload_n dX9_add_0 rfl, List.forall_mem_cons.mpr ⟨ok_getI dX9_add_1 rfl in9 (by decide) rfl w288, List.forall_mem_cons.mpr ⟨ok_bipush dX9_add_4 (by decide), List.forall_mem_cons.mpr ⟨ok_ic_lt dX9_add_6 (by decide), List.forall_mem_cons.mpr ⟨ok_bipush dX9_add_9 (by decide), List.forall_mem_cons.mpr ⟨ok_iret (bz := false) dX9_add_11 rfl, List.forall_mem_cons.mpr ⟨ok_aload_n dX9_add_12 rfl, List.forall_mem_cons.mpr ⟨ok_getR dX9_add_13 rfl in9 (by decide) rfl w285, List.forall_mem_cons.mpr ⟨ok_aload_n dX9_add_16 rfl, List.forall_mem_cons.mpr ⟨ok_getI dX9_add_17 rfl in9 (by decide) rfl w288, List.forall_mem_cons.mpr ⟨ok_iload_n dX9_add_20 rfl, List.forall_mem_cons.mpr ⟨ok_iast dX9_add_21, List.forall_mem_cons.mpr ⟨ok_aload_n dX9_add_22 rfl, List.forall_mem_cons.mpr ⟨ok_getR dX9_add_23 rfl in9 (by decide) rfl w286, List.forall_mem_cons.mpr ⟨ok_aload_n dX9_add_26 rfl, List.forall_mem_cons.mpr ⟨ok_getI dX9_add_27 rfl in9 (by decide) rfl w288, List.forall_mem_cons.mpr ⟨ok_iconst dX9_add_30 (by decide), List.forall_mem_cons.mpr ⟨ok_iast dX9_add_31, List.forall_mem_cons.mpr ⟨ok_aload_n dX9_add_32 rfl, List.forall_mem_cons.mpr ⟨ok_dup dX9_add_33, List.forall_mem_cons.mpr ⟨ok_getI dX9_add_34 rfl in9 (by decide) rfl w288, List.forall_mem_cons.mpr ⟨ok_iconst dX9_add_37 (by decide), List.forall_mem_cons.mpr ⟨ok_iadd dX9_add_38, List.forall_mem_cons.mpr ⟨ok_putI (bz := false) dX9_add_39 rfl in9 tyX9 tyX9_ok nmX9 (by decide) rfl w288 rfl rfl, fun _ h => absurd h List.not_mem_nil⟩⟩⟩⟩⟩⟩⟩⟩⟩⟩⟩⟩⟩⟩⟩⟩⟩⟩⟩⟩⟩⟩⟩⟩
def kX9_add_1 : List (Nat × zT) := [(42, a_aload 0 43), (43, a_getI 9 2 46), (46, a_iret false)]
theorem oX9_add_1 : ∀ q ∈ kX9_add_1, zSnd zty false RX9 cX9_add 2 (some .int) false q := List.forall_mem_cons.mpr ⟨ok_aload_n dX9_add_42 rfl, List.forall_mem_cons.mpr ⟨ok_getI dX9_add_43 rfl in9 (by decide) rfl w288, List.forall_mem_cons.mpr ⟨ok_iret (bz := false) dX9_add_46 rfl, fun _ h => absurd h List.not_mem_nil⟩⟩⟩
def kX9_add : List (Nat × zT) := kX9_add_0 ++ (kX9_add_1)
theorem qX9_add_0 : ∀ q ∈ kX9_add_0, q ∈ kX9_add := fun _ h => (List.mem_append_left _ h)
theorem tX9_add_0 : (0, a_aload 0 1) ∈ kX9_add := qX9_add_0 _ (List.mem_of_getElem? (i := 0) rfl)
theorem tX9_add_1 : (1, a_getI 9 2 4) ∈ kX9_add := qX9_add_0 _ (List.mem_of_getElem? (i := 1) rfl)
theorem tX9_add_4 : (4, a_i 10 6) ∈ kX9_add := qX9_add_0 _ (List.mem_of_getElem? (i := 2) rfl)
theorem tX9_add_6 : (6, a_ic_lt 12 9) ∈ kX9_add := qX9_add_0 _ (List.mem_of_getElem? (i := 3) rfl)
theorem tX9_add_9 : (9, a_i (-3) 11) ∈ kX9_add := qX9_add_0 _ (List.mem_of_getElem? (i := 4) rfl)
theorem tX9_add_11 : (11, a_iret false) ∈ kX9_add := qX9_add_0 _ (List.mem_of_getElem? (i := 5) rfl)
theorem tX9_add_12 : (12, a_aload 0 13) ∈ kX9_add := qX9_add_0 _ (List.mem_of_getElem? (i := 6) rfl)
theorem tX9_add_13 : (13, a_getR 9 0 16) ∈ kX9_add := qX9_add_0 _ (List.mem_of_getElem? (i := 7) rfl)
theorem tX9_add_16 : (16, a_aload 0 17) ∈ kX9_add := qX9_add_0 _ (List.mem_of_getElem? (i := 8) rfl)
theorem tX9_add_17 : (17, a_getI 9 2 20) ∈ kX9_add := qX9_add_0 _ (List.mem_of_getElem? (i := 9) rfl)
theorem tX9_add_20 : (20, a_iload 1 21) ∈ kX9_add := qX9_add_0 _ (List.mem_of_getElem? (i := 10) rfl)
theorem tX9_add_21 : (21, a_iast 22) ∈ kX9_add := qX9_add_0 _ (List.mem_of_getElem? (i := 11) rfl)
theorem tX9_add_22 : (22, a_aload 0 23) ∈ kX9_add := qX9_add_0 _ (List.mem_of_getElem? (i := 12) rfl)
theorem tX9_add_23 : (23, a_getR 9 1 26) ∈ kX9_add := qX9_add_0 _ (List.mem_of_getElem? (i := 13) rfl)
theorem tX9_add_26 : (26, a_aload 0 27) ∈ kX9_add := qX9_add_0 _ (List.mem_of_getElem? (i := 14) rfl)
theorem tX9_add_27 : (27, a_getI 9 2 30) ∈ kX9_add := qX9_add_0 _ (List.mem_of_getElem? (i := 15) rfl)
theorem tX9_add_30 : (30, a_i (-1) 31) ∈ kX9_add := qX9_add_0 _ (List.mem_of_getElem? (i := 16) rfl)
theorem tX9_add_31 : (31, a_iast 32) ∈ kX9_add := qX9_add_0 _ (List.mem_of_getElem? (i := 17) rfl)
theorem tX9_add_32 : (32, a_aload 0 33) ∈ kX9_add := qX9_add_0 _ (List.mem_of_getElem? (i := 18) rfl)
theorem tX9_add_33 : (33, a_dup 34) ∈ kX9_add := qX9_add_0 _ (List.mem_of_getElem? (i := 19) rfl)
theorem tX9_add_34 : (34, a_getI 9 2 37) ∈ kX9_add := qX9_add_0 _ (List.mem_of_getElem? (i := 20) rfl)
theorem tX9_add_37 : (37, a_i 1 38) ∈ kX9_add := qX9_add_0 _ (List.mem_of_getElem? (i := 21) rfl)
theorem tX9_add_38 : (38, a_ii (fun x y => x + y) 39) ∈ kX9_add := qX9_add_0 _ (List.mem_of_getElem? (i := 22) rfl)
theorem tX9_add_39 : (39, a_putI 9 2 42 false) ∈ kX9_add := qX9_add_0 _ (List.mem_of_getElem? (i := 23) rfl)
theorem qX9_add_1 : ∀ q ∈ kX9_add_1, q ∈ kX9_add := fun _ h => (List.mem_append_right _ h)
theorem tX9_add_42 : (42, a_aload 0 43) ∈ kX9_add := qX9_add_1 _ (List.mem_of_getElem? (i := 0) rfl)
theorem tX9_add_43 : (43, a_getI 9 2 46) ∈ kX9_add := qX9_add_1 _ (List.mem_of_getElem? (i := 1) rfl)
theorem tX9_add_46 : (46, a_iret false) ∈ kX9_add := qX9_add_1 _ (List.mem_of_getElem? (i := 2) rfl)
theorem oX9_add : ∀ q ∈ kX9_add, zSnd zty false RX9 cX9_add 2 (some .int) false q := List.forall_mem_append.mpr ⟨oX9_add_0, oX9_add_1⟩
theorem dX9_make_0 : decode cX9_make 0 = .ok (.aload_n 0, 1) := by decide +kernel
theorem dX9_make_1 : decode cX9_make 1 = .ok (.getfield 29, 3) := by decide +kernel
theorem dX9_make_4 : decode cX9_make 4 = .ok (.aload_n 1, 1) := by decide +kernel
theorem dX9_make_5 : decode cX9_make 5 = .ok (.iload_n 3, 1) := by decide +kernel
theorem dX9_make_6 : decode cX9_make 6 = .ok (.invokevirtual 39, 3) := by decide +kernel
theorem dX9_make_9 : decode cX9_make 9 = .ok (.bipush 6, 2) := by decide +kernel
theorem dX9_make_11 : decode cX9_make 11 = .ok (.istore 4, 2) := by decide +kernel
theorem dX9_make_13 : decode cX9_make 13 = .ok (.iload 4, 2) := by decide +kernel
theorem dX9_make_15 : decode cX9_make 15 = .ok (.bipush 19, 2) := by decide +kernel
theorem dX9_make_17 : decode cX9_make 17 = .ok (.if_icmp .ge 73, 3) := by decide +kernel
theorem dX9_make_20 : decode cX9_make 20 = .ok (.aload_n 0, 1) := by decide +kernel
theorem dX9_make_21 : decode cX9_make 21 = .ok (.getfield 29, 3) := by decide +kernel
theorem dX9_make_24 : decode cX9_make 24 = .ok (.getfield 43, 3) := by decide +kernel
theorem dX9_make_27 : decode cX9_make 27 = .ok (.iload 4, 2) := by decide +kernel
theorem dX9_make_29 : decode cX9_make 29 = .ok (.laload, 1) := by decide +kernel
theorem dX9_make_30 : decode cX9_make 30 = .ok (.bipush 38, 2) := by decide +kernel
theorem dX9_make_32 : decode cX9_make 32 = .ok (.lushr, 1) := by decide +kernel
theorem dX9_make_33 : decode cX9_make 33 = .ok (.lconst 1, 1) := by decide +kernel
theorem dX9_make_34 : decode cX9_make 34 = .ok (.land, 1) := by decide +kernel
theorem dX9_make_35 : decode cX9_make 35 = .ok (.lneg, 1) := by decide +kernel
theorem dX9_make_36 : decode cX9_make 36 = .ok (.lstore 5, 2) := by decide +kernel
theorem dX9_make_38 : decode cX9_make 38 = .ok (.iload_n 2, 1) := by decide +kernel
theorem dX9_make_39 : decode cX9_make 39 = .ok (.aload_n 1, 1) := by decide +kernel
theorem dX9_make_40 : decode cX9_make 40 = .ok (.getfield 46, 3) := by decide +kernel
theorem dX9_make_43 : decode cX9_make 43 = .ok (.iand, 1) := by decide +kernel
theorem dX9_make_44 : decode cX9_make 44 = .ok (.iload 4, 2) := by decide +kernel
theorem dX9_make_46 : decode cX9_make 46 = .ok (.invokestatic 51, 3) := by decide +kernel
theorem dX9_make_49 : decode cX9_make 49 = .ok (.istore 7, 2) := by decide +kernel
theorem dX9_make_51 : decode cX9_make 51 = .ok (.aload_n 0, 1) := by decide +kernel
theorem dX9_make_52 : decode cX9_make 52 = .ok (.getfield 33, 3) := by decide +kernel
theorem dX9_make_55 : decode cX9_make 55 = .ok (.iload 4, 2) := by decide +kernel
theorem dX9_make_57 : decode cX9_make 57 = .ok (.iload 7, 2) := by decide +kernel
theorem dX9_make_59 : decode cX9_make 59 = .ok (.ifCond .eq 23, 3) := by decide +kernel
theorem dX9_make_62 : decode cX9_make 62 = .ok (.aload_n 0, 1) := by decide +kernel
theorem dX9_make_63 : decode cX9_make 63 = .ok (.getfield 29, 3) := by decide +kernel
theorem dX9_make_66 : decode cX9_make 66 = .ok (.getfield 43, 3) := by decide +kernel
theorem dX9_make_69 : decode cX9_make 69 = .ok (.iload 4, 2) := by decide +kernel
theorem dX9_make_71 : decode cX9_make 71 = .ok (.laload, 1) := by decide +kernel
theorem dX9_make_72 : decode cX9_make 72 = .ok (.lload 5, 2) := by decide +kernel
theorem dX9_make_74 : decode cX9_make 74 = .ok (.lxor, 1) := by decide +kernel
theorem dX9_make_75 : decode cX9_make 75 = .ok (.ldc2_w 55, 3) := by decide +kernel
theorem dX9_make_78 : decode cX9_make 78 = .ok (.land, 1) := by decide +kernel
theorem dX9_make_79 : decode cX9_make 79 = .ok (.goto 4, 3) := by decide +kernel
theorem dX9_make_82 : decode cX9_make 82 = .ok (.lconst 0, 1) := by decide +kernel
theorem dX9_make_83 : decode cX9_make 83 = .ok (.lastore, 1) := by decide +kernel
theorem dX9_make_84 : decode cX9_make 84 = .ok (.iinc 4 1, 3) := by decide +kernel
theorem dX9_make_87 : decode cX9_make 87 = .ok (.goto (-74), 3) := by decide +kernel
theorem dX9_make_90 : decode cX9_make 90 = .ok (.return_, 1) := by decide +kernel
def kX9_make_0 : List (Nat × zT) := [(0, a_aload 0 1), (1, a_getR 9 4 4), (4, a_aload 1 5), (5, a_iload 3 6), (6, a_callV 4 33 3 9 0 0), (9, a_i 6 11), (11, a_istore 4 13), (13, a_iload 4 15), (15, a_i 19 17), (17, a_ic_ge 90 20), (20, a_aload 0 21), (21, a_getR 9 4 24), (24, a_getR 4 1 27), (27, a_iload 4 29), (29, a_lald 30), (30, a_i 38 32), (32, a_li (fun x y => (x.toUInt64 >>> (y.toInt64.toUInt64 &&& Int64.toUInt64 63)).toInt64) 33), (33, a_l 1 34), (34, a_ll (fun x y => x &&& y) 35), (35, a_lneg 36), (36, a_lstore 5 38), (38, a_iload 2 39), (39, a_aload 1 40), (40, a_getI 10 6 43)]
theorem oX9_make_0 : ∀ q ∈ kX9_make_0, zSnd zty false RX9 cX9_make 8 none false q := List.forall_mem_cons.mpr ⟨ok_aload_n dX9_make_0 rfl, List.forall_mem_cons.mpr ⟨ok_getR dX9_make_1 rfl in9 (by decide) rfl w291, List.forall_mem_cons.mpr ⟨ok_aload_n dX9_make_4 rfl, List.forall_mem_cons.mpr ⟨ok_iload_n dX9_make_5 rfl, List.forall_mem_cons.mpr ⟨ok_callV dX9_make_6 rfl rfl w567 w852 w565 w6 w566 (by decide +kernel) (by decide), List.forall_mem_cons.mpr ⟨ok_bipush dX9_make_9 (by decide), List.forall_mem_cons.mpr ⟨ok_istore dX9_make_11 (by decide), List.forall_mem_cons.mpr ⟨ok_iload dX9_make_13, List.forall_mem_cons.mpr ⟨ok_bipush dX9_make_15 (by decide), List.forall_mem_cons.mpr ⟨ok_ic_ge dX9_make_17 (by decide), List.forall_mem_cons.mpr ⟨ok_aload_n dX9_make_20 rfl, List.forall_mem_cons.mpr ⟨ok_getR dX9_make_21 rfl in9 (by decide) rfl w291, List.forall_mem_cons.mpr ⟨ok_getR dX9_make_24 rfl in4 (by decide) rfl w166, List.forall_mem_cons.mpr ⟨ok_iload dX9_make_27, List.forall_mem_cons.mpr ⟨ok_lald dX9_make_29, List.forall_mem_cons.mpr ⟨ok_bipush dX9_make_30 (by decide), List.forall_mem_cons.mpr ⟨ok_lushr dX9_make_32, List.forall_mem_cons.mpr ⟨ok_lconst dX9_make_33 (by decide), List.forall_mem_cons.mpr ⟨ok_land dX9_make_34, List.forall_mem_cons.mpr ⟨ok_lneg dX9_make_35, List.forall_mem_cons.mpr ⟨ok_lstore dX9_make_36 (by decide), List.forall_mem_cons.mpr ⟨ok_iload_n dX9_make_38 rfl, List.forall_mem_cons.mpr ⟨ok_aload_n dX9_make_39 rfl, List.forall_mem_cons.mpr ⟨ok_getI dX9_make_40 rfl in10 (by decide) rfl w85, fun _ h => absurd h List.not_mem_nil⟩⟩⟩⟩⟩⟩⟩⟩⟩⟩⟩⟩⟩⟩⟩⟩⟩⟩⟩⟩⟩⟩⟩⟩
def kX9_make_1 : List (Nat × zT) := [(43, a_ii (fun x y => x &&& y) 44), (44, a_iload 4 46), (46, a_call 132 2 49 0 0), (49, a_istore 7 51), (51, a_aload 0 52), (52, a_getR 9 5 55), (55, a_iload 4 57), (57, a_iload 7 59), (59, a_if_eq 82 62), (62, a_aload 0 63), (63, a_getR 9 4 66), (66, a_getR 4 1 69), (69, a_iload 4 71), (71, a_lald 72), (72, a_lload 5 74), (74, a_ll (fun x y => x ^^^ y) 75), (75, a_l 549755813887 78), (78, a_ll (fun x y => x &&& y) 79), (79, a_goto 83), (82, a_l 0 83), (83, a_last 84), (84, a_iinc 4 1 87), (87, a_goto 13), (90, a_vret)]
theorem oX9_make_1 : ∀ q ∈ kX9_make_1, zSnd zty false RX9 cX9_make 8 none false q := List.forall_mem_cons.mpr ⟨ok_iand dX9_make_43, List.forall_mem_cons.mpr ⟨ok_iload dX9_make_44, List.forall_mem_cons.mpr ⟨ok_callSN dX9_make_46 rfl w433 n853 w432 w1 (by decide +kernel) (by decide), List.forall_mem_cons.mpr ⟨ok_istore dX9_make_49 (by decide), List.forall_mem_cons.mpr ⟨ok_aload_n dX9_make_51 rfl, List.forall_mem_cons.mpr ⟨ok_getR dX9_make_52 rfl in9 (by decide) rfl w292, List.forall_mem_cons.mpr ⟨ok_iload dX9_make_55, List.forall_mem_cons.mpr ⟨ok_iload dX9_make_57, List.forall_mem_cons.mpr ⟨ok_if_eq dX9_make_59 (by decide), List.forall_mem_cons.mpr ⟨ok_aload_n dX9_make_62 rfl, List.forall_mem_cons.mpr ⟨ok_getR dX9_make_63 rfl in9 (by decide) rfl w291, List.forall_mem_cons.mpr ⟨ok_getR dX9_make_66 rfl in4 (by decide) rfl w166, List.forall_mem_cons.mpr ⟨ok_iload dX9_make_69, List.forall_mem_cons.mpr ⟨ok_lald dX9_make_71, List.forall_mem_cons.mpr ⟨ok_lload dX9_make_72, List.forall_mem_cons.mpr ⟨ok_lxor dX9_make_74, List.forall_mem_cons.mpr ⟨ok_ldc2 dX9_make_75 w854, List.forall_mem_cons.mpr ⟨ok_land dX9_make_78, List.forall_mem_cons.mpr ⟨ok_goto dX9_make_79 (by decide), List.forall_mem_cons.mpr ⟨ok_lconst dX9_make_82 (by decide), List.forall_mem_cons.mpr ⟨ok_last dX9_make_83, List.forall_mem_cons.mpr ⟨ok_iinc dX9_make_84 (by decide) (by decide), List.forall_mem_cons.mpr ⟨ok_goto dX9_make_87 (by decide), List.forall_mem_cons.mpr ⟨ok_vret dX9_make_90 rfl, fun _ h => absurd h List.not_mem_nil⟩⟩⟩⟩⟩⟩⟩⟩⟩⟩⟩⟩⟩⟩⟩⟩⟩⟩⟩⟩⟩⟩⟩⟩
def kX9_make : List (Nat × zT) := kX9_make_0 ++ (kX9_make_1)
theorem qX9_make_0 : ∀ q ∈ kX9_make_0, q ∈ kX9_make := fun _ h => (List.mem_append_left _ h)
theorem tX9_make_0 : (0, a_aload 0 1) ∈ kX9_make := qX9_make_0 _ (List.mem_of_getElem? (i := 0) rfl)
theorem tX9_make_1 : (1, a_getR 9 4 4) ∈ kX9_make := qX9_make_0 _ (List.mem_of_getElem? (i := 1) rfl)
theorem tX9_make_4 : (4, a_aload 1 5) ∈ kX9_make := qX9_make_0 _ (List.mem_of_getElem? (i := 2) rfl)
theorem tX9_make_5 : (5, a_iload 3 6) ∈ kX9_make := qX9_make_0 _ (List.mem_of_getElem? (i := 3) rfl)
theorem tX9_make_6 : (6, a_callV 4 33 3 9 0 0) ∈ kX9_make := qX9_make_0 _ (List.mem_of_getElem? (i := 4) rfl)
theorem tX9_make_9 : (9, a_i 6 11) ∈ kX9_make := qX9_make_0 _ (List.mem_of_getElem? (i := 5) rfl)
theorem tX9_make_11 : (11, a_istore 4 13) ∈ kX9_make := qX9_make_0 _ (List.mem_of_getElem? (i := 6) rfl)
theorem tX9_make_13 : (13, a_iload 4 15) ∈ kX9_make := qX9_make_0 _ (List.mem_of_getElem? (i := 7) rfl)
theorem tX9_make_15 : (15, a_i 19 17) ∈ kX9_make := qX9_make_0 _ (List.mem_of_getElem? (i := 8) rfl)
theorem tX9_make_17 : (17, a_ic_ge 90 20) ∈ kX9_make := qX9_make_0 _ (List.mem_of_getElem? (i := 9) rfl)
theorem tX9_make_20 : (20, a_aload 0 21) ∈ kX9_make := qX9_make_0 _ (List.mem_of_getElem? (i := 10) rfl)
theorem tX9_make_21 : (21, a_getR 9 4 24) ∈ kX9_make := qX9_make_0 _ (List.mem_of_getElem? (i := 11) rfl)
theorem tX9_make_24 : (24, a_getR 4 1 27) ∈ kX9_make := qX9_make_0 _ (List.mem_of_getElem? (i := 12) rfl)
theorem tX9_make_27 : (27, a_iload 4 29) ∈ kX9_make := qX9_make_0 _ (List.mem_of_getElem? (i := 13) rfl)
theorem tX9_make_29 : (29, a_lald 30) ∈ kX9_make := qX9_make_0 _ (List.mem_of_getElem? (i := 14) rfl)
theorem tX9_make_30 : (30, a_i 38 32) ∈ kX9_make := qX9_make_0 _ (List.mem_of_getElem? (i := 15) rfl)
theorem tX9_make_32 : (32, a_li (fun x y => (x.toUInt64 >>> (y.toInt64.toUInt64 &&& Int64.toUInt64 63)).toInt64) 33) ∈ kX9_make := qX9_make_0 _ (List.mem_of_getElem? (i := 16) rfl)
theorem tX9_make_33 : (33, a_l 1 34) ∈ kX9_make := qX9_make_0 _ (List.mem_of_getElem? (i := 17) rfl)
theorem tX9_make_34 : (34, a_ll (fun x y => x &&& y) 35) ∈ kX9_make := qX9_make_0 _ (List.mem_of_getElem? (i := 18) rfl)
theorem tX9_make_35 : (35, a_lneg 36) ∈ kX9_make := qX9_make_0 _ (List.mem_of_getElem? (i := 19) rfl)
theorem tX9_make_36 : (36, a_lstore 5 38) ∈ kX9_make := qX9_make_0 _ (List.mem_of_getElem? (i := 20) rfl)
theorem tX9_make_38 : (38, a_iload 2 39) ∈ kX9_make := qX9_make_0 _ (List.mem_of_getElem? (i := 21) rfl)
theorem tX9_make_39 : (39, a_aload 1 40) ∈ kX9_make := qX9_make_0 _ (List.mem_of_getElem? (i := 22) rfl)
theorem tX9_make_40 : (40, a_getI 10 6 43) ∈ kX9_make := qX9_make_0 _ (List.mem_of_getElem? (i := 23) rfl)
theorem qX9_make_1 : ∀ q ∈ kX9_make_1, q ∈ kX9_make := fun _ h => (List.mem_append_right _ h)
theorem tX9_make_43 : (43, a_ii (fun x y => x &&& y) 44) ∈ kX9_make := qX9_make_1 _ (List.mem_of_getElem? (i := 0) rfl)
theorem tX9_make_44 : (44, a_iload 4 46) ∈ kX9_make := qX9_make_1 _ (List.mem_of_getElem? (i := 1) rfl)
theorem tX9_make_46 : (46, a_call 132 2 49 0 0) ∈ kX9_make := qX9_make_1 _ (List.mem_of_getElem? (i := 2) rfl)
theorem tX9_make_49 : (49, a_istore 7 51) ∈ kX9_make := qX9_make_1 _ (List.mem_of_getElem? (i := 3) rfl)
theorem tX9_make_51 : (51, a_aload 0 52) ∈ kX9_make := qX9_make_1 _ (List.mem_of_getElem? (i := 4) rfl)
theorem tX9_make_52 : (52, a_getR 9 5 55) ∈ kX9_make := qX9_make_1 _ (List.mem_of_getElem? (i := 5) rfl)
theorem tX9_make_55 : (55, a_iload 4 57) ∈ kX9_make := qX9_make_1 _ (List.mem_of_getElem? (i := 6) rfl)
theorem tX9_make_57 : (57, a_iload 7 59) ∈ kX9_make := qX9_make_1 _ (List.mem_of_getElem? (i := 7) rfl)
theorem tX9_make_59 : (59, a_if_eq 82 62) ∈ kX9_make := qX9_make_1 _ (List.mem_of_getElem? (i := 8) rfl)
theorem tX9_make_62 : (62, a_aload 0 63) ∈ kX9_make := qX9_make_1 _ (List.mem_of_getElem? (i := 9) rfl)
theorem tX9_make_63 : (63, a_getR 9 4 66) ∈ kX9_make := qX9_make_1 _ (List.mem_of_getElem? (i := 10) rfl)
theorem tX9_make_66 : (66, a_getR 4 1 69) ∈ kX9_make := qX9_make_1 _ (List.mem_of_getElem? (i := 11) rfl)
theorem tX9_make_69 : (69, a_iload 4 71) ∈ kX9_make := qX9_make_1 _ (List.mem_of_getElem? (i := 12) rfl)
theorem tX9_make_71 : (71, a_lald 72) ∈ kX9_make := qX9_make_1 _ (List.mem_of_getElem? (i := 13) rfl)
theorem tX9_make_72 : (72, a_lload 5 74) ∈ kX9_make := qX9_make_1 _ (List.mem_of_getElem? (i := 14) rfl)
theorem tX9_make_74 : (74, a_ll (fun x y => x ^^^ y) 75) ∈ kX9_make := qX9_make_1 _ (List.mem_of_getElem? (i := 15) rfl)
theorem tX9_make_75 : (75, a_l 549755813887 78) ∈ kX9_make := qX9_make_1 _ (List.mem_of_getElem? (i := 16) rfl)
theorem tX9_make_78 : (78, a_ll (fun x y => x &&& y) 79) ∈ kX9_make := qX9_make_1 _ (List.mem_of_getElem? (i := 17) rfl)
theorem tX9_make_79 : (79, a_goto 83) ∈ kX9_make := qX9_make_1 _ (List.mem_of_getElem? (i := 18) rfl)
theorem tX9_make_82 : (82, a_l 0 83) ∈ kX9_make := qX9_make_1 _ (List.mem_of_getElem? (i := 19) rfl)
theorem tX9_make_83 : (83, a_last 84) ∈ kX9_make := qX9_make_1 _ (List.mem_of_getElem? (i := 20) rfl)
theorem tX9_make_84 : (84, a_iinc 4 1 87) ∈ kX9_make := qX9_make_1 _ (List.mem_of_getElem? (i := 21) rfl)
theorem tX9_make_87 : (87, a_goto 13) ∈ kX9_make := qX9_make_1 _ (List.mem_of_getElem? (i := 22) rfl)
theorem tX9_make_90 : (90, a_vret) ∈ kX9_make := qX9_make_1 _ (List.mem_of_getElem? (i := 23) rfl)
theorem oX9_make : ∀ q ∈ kX9_make, zSnd zty false RX9 cX9_make 8 none false q := List.forall_mem_append.mpr ⟨oX9_make_0, oX9_make_1⟩
theorem dX9_failsOf_0 : decode cX9_failsOf 0 = .ok (.iconst 0, 1) := by decide +kernel
theorem dX9_failsOf_1 : decode cX9_failsOf 1 = .ok (.istore_n 2, 1) := by decide +kernel
theorem dX9_failsOf_2 : decode cX9_failsOf 2 = .ok (.bipush 6, 2) := by decide +kernel
theorem dX9_failsOf_4 : decode cX9_failsOf 4 = .ok (.istore_n 3, 1) := by decide +kernel
theorem dX9_failsOf_5 : decode cX9_failsOf 5 = .ok (.iload_n 3, 1) := by decide +kernel
theorem dX9_failsOf_6 : decode cX9_failsOf 6 = .ok (.bipush 19, 2) := by decide +kernel
theorem dX9_failsOf_8 : decode cX9_failsOf 8 = .ok (.if_icmp .ge 25, 3) := by decide +kernel
theorem dX9_failsOf_11 : decode cX9_failsOf 11 = .ok (.iload_n 2, 1) := by decide +kernel
theorem dX9_failsOf_12 : decode cX9_failsOf 12 = .ok (.aload_n 0, 1) := by decide +kernel
theorem dX9_failsOf_13 : decode cX9_failsOf 13 = .ok (.getfield 33, 3) := by decide +kernel
theorem dX9_failsOf_16 : decode cX9_failsOf 16 = .ok (.iload_n 3, 1) := by decide +kernel
theorem dX9_failsOf_17 : decode cX9_failsOf 17 = .ok (.laload, 1) := by decide +kernel
theorem dX9_failsOf_18 : decode cX9_failsOf 18 = .ok (.iload_n 1, 1) := by decide +kernel
theorem dX9_failsOf_19 : decode cX9_failsOf 19 = .ok (.lushr, 1) := by decide +kernel
theorem dX9_failsOf_20 : decode cX9_failsOf 20 = .ok (.lconst 1, 1) := by decide +kernel
theorem dX9_failsOf_21 : decode cX9_failsOf 21 = .ok (.land, 1) := by decide +kernel
theorem dX9_failsOf_22 : decode cX9_failsOf 22 = .ok (.l2i, 1) := by decide +kernel
theorem dX9_failsOf_23 : decode cX9_failsOf 23 = .ok (.iload_n 3, 1) := by decide +kernel
theorem dX9_failsOf_24 : decode cX9_failsOf 24 = .ok (.ishl, 1) := by decide +kernel
theorem dX9_failsOf_25 : decode cX9_failsOf 25 = .ok (.ior, 1) := by decide +kernel
theorem dX9_failsOf_26 : decode cX9_failsOf 26 = .ok (.istore_n 2, 1) := by decide +kernel
theorem dX9_failsOf_27 : decode cX9_failsOf 27 = .ok (.iinc 3 1, 3) := by decide +kernel
theorem dX9_failsOf_30 : decode cX9_failsOf 30 = .ok (.goto (-25), 3) := by decide +kernel
theorem dX9_failsOf_33 : decode cX9_failsOf 33 = .ok (.iload_n 2, 1) := by decide +kernel
theorem dX9_failsOf_34 : decode cX9_failsOf 34 = .ok (.ireturn, 1) := by decide +kernel
def kX9_failsOf_0 : List (Nat × zT) := [(0, a_i 0 1), (1, a_istore 2 2), (2, a_i 6 4), (4, a_istore 3 5), (5, a_iload 3 6), (6, a_i 19 8), (8, a_ic_ge 33 11), (11, a_iload 2 12), (12, a_aload 0 13), (13, a_getR 9 5 16), (16, a_iload 3 17), (17, a_lald 18), (18, a_iload 1 19), (19, a_li (fun x y => (x.toUInt64 >>> (y.toInt64.toUInt64 &&& Int64.toUInt64 63)).toInt64) 20), (20, a_l 1 21), (21, a_ll (fun x y => x &&& y) 22), (22, a_l2i 23), (23, a_iload 3 24), (24, a_ii (fun x y => x <<< (y &&& 31)) 25), (25, a_ii (fun x y => x ||| y) 26), (26, a_istore 2 27), (27, a_iinc 3 1 30), (30, a_goto 5), (33, a_iload 2 34)]
theorem oX9_failsOf_0 : ∀ q ∈ kX9_failsOf_0, zSnd zty false RX9 cX9_failsOf 4 (some .int) false q := List.forall_mem_cons.mpr ⟨ok_iconst dX9_failsOf_0 (by decide), List.forall_mem_cons.mpr ⟨ok_istore_n dX9_failsOf_1 rfl (by decide), List.forall_mem_cons.mpr ⟨ok_bipush dX9_failsOf_2 (by decide), List.forall_mem_cons.mpr ⟨ok_istore_n dX9_failsOf_4 rfl (by decide), List.forall_mem_cons.mpr ⟨ok_iload_n dX9_failsOf_5 rfl, List.forall_mem_cons.mpr ⟨ok_bipush dX9_failsOf_6 (by decide), List.forall_mem_cons.mpr ⟨ok_ic_ge dX9_failsOf_8 (by decide), List.forall_mem_cons.mpr ⟨ok_iload_n dX9_failsOf_11 rfl, List.forall_mem_cons.mpr ⟨ok_aload_n dX9_failsOf_12 rfl, List.forall_mem_cons.mpr ⟨ok_getR dX9_failsOf_13 rfl in9 (by decide) rfl w292, List.forall_mem_cons.mpr ⟨ok_iload_n dX9_failsOf_16 rfl, List.forall_mem_cons.mpr ⟨ok_lald dX9_failsOf_17, List.forall_mem_cons.mpr ⟨ok_iload_n dX9_failsOf_18 rfl, List.forall_mem_cons.mpr ⟨ok_lushr dX9_failsOf_19, List.forall_mem_cons.mpr ⟨ok_lconst dX9_failsOf_20 (by decide), List.forall_mem_cons.mpr ⟨ok_land dX9_failsOf_21, List.forall_mem_cons.mpr ⟨ok_l2i dX9_failsOf_22, List.forall_mem_cons.mpr ⟨ok_iload_n dX9_failsOf_23 rfl, List.forall_mem_cons.mpr ⟨ok_ishl dX9_failsOf_24, List.forall_mem_cons.mpr ⟨ok_ior dX9_failsOf_25, List.forall_mem_cons.mpr ⟨ok_istore_n dX9_failsOf_26 rfl (by decide), List.forall_mem_cons.mpr ⟨ok_iinc dX9_failsOf_27 (by decide) (by decide), List.forall_mem_cons.mpr ⟨ok_goto dX9_failsOf_30 (by decide), List.forall_mem_cons.mpr ⟨ok_iload_n dX9_failsOf_33 rfl, fun _ h => absurd h List.not_mem_nil⟩⟩⟩⟩⟩⟩⟩⟩⟩⟩⟩⟩⟩⟩⟩⟩⟩⟩⟩⟩⟩⟩⟩⟩
def kX9_failsOf_1 : List (Nat × zT) := [(34, a_iret false)]
theorem oX9_failsOf_1 : ∀ q ∈ kX9_failsOf_1, zSnd zty false RX9 cX9_failsOf 4 (some .int) false q := List.forall_mem_cons.mpr ⟨ok_iret (bz := false) dX9_failsOf_34 rfl, fun _ h => absurd h List.not_mem_nil⟩
def kX9_failsOf : List (Nat × zT) := kX9_failsOf_0 ++ (kX9_failsOf_1)
theorem qX9_failsOf_0 : ∀ q ∈ kX9_failsOf_0, q ∈ kX9_failsOf := fun _ h => (List.mem_append_left _ h)
theorem tX9_failsOf_0 : (0, a_i 0 1) ∈ kX9_failsOf := qX9_failsOf_0 _ (List.mem_of_getElem? (i := 0) rfl)
theorem tX9_failsOf_1 : (1, a_istore 2 2) ∈ kX9_failsOf := qX9_failsOf_0 _ (List.mem_of_getElem? (i := 1) rfl)
theorem tX9_failsOf_2 : (2, a_i 6 4) ∈ kX9_failsOf := qX9_failsOf_0 _ (List.mem_of_getElem? (i := 2) rfl)
theorem tX9_failsOf_4 : (4, a_istore 3 5) ∈ kX9_failsOf := qX9_failsOf_0 _ (List.mem_of_getElem? (i := 3) rfl)
theorem tX9_failsOf_5 : (5, a_iload 3 6) ∈ kX9_failsOf := qX9_failsOf_0 _ (List.mem_of_getElem? (i := 4) rfl)
theorem tX9_failsOf_6 : (6, a_i 19 8) ∈ kX9_failsOf := qX9_failsOf_0 _ (List.mem_of_getElem? (i := 5) rfl)
theorem tX9_failsOf_8 : (8, a_ic_ge 33 11) ∈ kX9_failsOf := qX9_failsOf_0 _ (List.mem_of_getElem? (i := 6) rfl)
theorem tX9_failsOf_11 : (11, a_iload 2 12) ∈ kX9_failsOf := qX9_failsOf_0 _ (List.mem_of_getElem? (i := 7) rfl)
theorem tX9_failsOf_12 : (12, a_aload 0 13) ∈ kX9_failsOf := qX9_failsOf_0 _ (List.mem_of_getElem? (i := 8) rfl)
theorem tX9_failsOf_13 : (13, a_getR 9 5 16) ∈ kX9_failsOf := qX9_failsOf_0 _ (List.mem_of_getElem? (i := 9) rfl)
theorem tX9_failsOf_16 : (16, a_iload 3 17) ∈ kX9_failsOf := qX9_failsOf_0 _ (List.mem_of_getElem? (i := 10) rfl)
theorem tX9_failsOf_17 : (17, a_lald 18) ∈ kX9_failsOf := qX9_failsOf_0 _ (List.mem_of_getElem? (i := 11) rfl)
theorem tX9_failsOf_18 : (18, a_iload 1 19) ∈ kX9_failsOf := qX9_failsOf_0 _ (List.mem_of_getElem? (i := 12) rfl)
theorem tX9_failsOf_19 : (19, a_li (fun x y => (x.toUInt64 >>> (y.toInt64.toUInt64 &&& Int64.toUInt64 63)).toInt64) 20) ∈ kX9_failsOf := qX9_failsOf_0 _ (List.mem_of_getElem? (i := 13) rfl)
theorem tX9_failsOf_20 : (20, a_l 1 21) ∈ kX9_failsOf := qX9_failsOf_0 _ (List.mem_of_getElem? (i := 14) rfl)
theorem tX9_failsOf_21 : (21, a_ll (fun x y => x &&& y) 22) ∈ kX9_failsOf := qX9_failsOf_0 _ (List.mem_of_getElem? (i := 15) rfl)
theorem tX9_failsOf_22 : (22, a_l2i 23) ∈ kX9_failsOf := qX9_failsOf_0 _ (List.mem_of_getElem? (i := 16) rfl)
theorem tX9_failsOf_23 : (23, a_iload 3 24) ∈ kX9_failsOf := qX9_failsOf_0 _ (List.mem_of_getElem? (i := 17) rfl)
theorem tX9_failsOf_24 : (24, a_ii (fun x y => x <<< (y &&& 31)) 25) ∈ kX9_failsOf := qX9_failsOf_0 _ (List.mem_of_getElem? (i := 18) rfl)
theorem tX9_failsOf_25 : (25, a_ii (fun x y => x ||| y) 26) ∈ kX9_failsOf := qX9_failsOf_0 _ (List.mem_of_getElem? (i := 19) rfl)
theorem tX9_failsOf_26 : (26, a_istore 2 27) ∈ kX9_failsOf := qX9_failsOf_0 _ (List.mem_of_getElem? (i := 20) rfl)
theorem tX9_failsOf_27 : (27, a_iinc 3 1 30) ∈ kX9_failsOf := qX9_failsOf_0 _ (List.mem_of_getElem? (i := 21) rfl)
theorem tX9_failsOf_30 : (30, a_goto 5) ∈ kX9_failsOf := qX9_failsOf_0 _ (List.mem_of_getElem? (i := 22) rfl)
theorem tX9_failsOf_33 : (33, a_iload 2 34) ∈ kX9_failsOf := qX9_failsOf_0 _ (List.mem_of_getElem? (i := 23) rfl)
theorem qX9_failsOf_1 : ∀ q ∈ kX9_failsOf_1, q ∈ kX9_failsOf := fun _ h => (List.mem_append_right _ h)
theorem tX9_failsOf_34 : (34, a_iret false) ∈ kX9_failsOf := qX9_failsOf_1 _ (List.mem_of_getElem? (i := 0) rfl)
theorem oX9_failsOf : ∀ q ∈ kX9_failsOf, zSnd zty false RX9 cX9_failsOf 4 (some .int) false q := List.forall_mem_append.mpr ⟨oX9_failsOf_0, oX9_failsOf_1⟩
theorem dX9_lanesFailing_0 : decode cX9_lanesFailing 0 = .ok (.ldc2_w 55, 3) := by decide +kernel
theorem dX9_lanesFailing_3 : decode cX9_lanesFailing 3 = .ok (.lstore_n 2, 1) := by decide +kernel
theorem dX9_lanesFailing_4 : decode cX9_lanesFailing 4 = .ok (.bipush 6, 2) := by decide +kernel
theorem dX9_lanesFailing_6 : decode cX9_lanesFailing 6 = .ok (.istore 4, 2) := by decide +kernel
theorem dX9_lanesFailing_8 : decode cX9_lanesFailing 8 = .ok (.iload 4, 2) := by decide +kernel
theorem dX9_lanesFailing_10 : decode cX9_lanesFailing 10 = .ok (.bipush 19, 2) := by decide +kernel
theorem dX9_lanesFailing_12 : decode cX9_lanesFailing 12 = .ok (.if_icmp .ge 42, 3) := by decide +kernel
theorem dX9_lanesFailing_15 : decode cX9_lanesFailing 15 = .ok (.lload_n 2, 1) := by decide +kernel
theorem dX9_lanesFailing_16 : decode cX9_lanesFailing 16 = .ok (.iload_n 1, 1) := by decide +kernel
theorem dX9_lanesFailing_17 : decode cX9_lanesFailing 17 = .ok (.iload 4, 2) := by decide +kernel
theorem dX9_lanesFailing_19 : decode cX9_lanesFailing 19 = .ok (.invokestatic 51, 3) := by decide +kernel
theorem dX9_lanesFailing_22 : decode cX9_lanesFailing 22 = .ok (.ifCond .eq 13, 3) := by decide +kernel
theorem dX9_lanesFailing_25 : decode cX9_lanesFailing 25 = .ok (.aload_n 0, 1) := by decide +kernel
theorem dX9_lanesFailing_26 : decode cX9_lanesFailing 26 = .ok (.getfield 33, 3) := by decide +kernel
theorem dX9_lanesFailing_29 : decode cX9_lanesFailing 29 = .ok (.iload 4, 2) := by decide +kernel
theorem dX9_lanesFailing_31 : decode cX9_lanesFailing 31 = .ok (.laload, 1) := by decide +kernel
theorem dX9_lanesFailing_32 : decode cX9_lanesFailing 32 = .ok (.goto 14, 3) := by decide +kernel
theorem dX9_lanesFailing_35 : decode cX9_lanesFailing 35 = .ok (.aload_n 0, 1) := by decide +kernel
theorem dX9_lanesFailing_36 : decode cX9_lanesFailing 36 = .ok (.getfield 33, 3) := by decide +kernel
theorem dX9_lanesFailing_39 : decode cX9_lanesFailing 39 = .ok (.iload 4, 2) := by decide +kernel
theorem dX9_lanesFailing_41 : decode cX9_lanesFailing 41 = .ok (.laload, 1) := by decide +kernel
theorem dX9_lanesFailing_42 : decode cX9_lanesFailing 42 = .ok (.ldc2_w 57, 3) := by decide +kernel
theorem dX9_lanesFailing_45 : decode cX9_lanesFailing 45 = .ok (.lxor, 1) := by decide +kernel
theorem dX9_lanesFailing_46 : decode cX9_lanesFailing 46 = .ok (.land, 1) := by decide +kernel
theorem dX9_lanesFailing_47 : decode cX9_lanesFailing 47 = .ok (.lstore_n 2, 1) := by decide +kernel
theorem dX9_lanesFailing_48 : decode cX9_lanesFailing 48 = .ok (.iinc 4 1, 3) := by decide +kernel
theorem dX9_lanesFailing_51 : decode cX9_lanesFailing 51 = .ok (.goto (-43), 3) := by decide +kernel
theorem dX9_lanesFailing_54 : decode cX9_lanesFailing 54 = .ok (.lload_n 2, 1) := by decide +kernel
theorem dX9_lanesFailing_55 : decode cX9_lanesFailing 55 = .ok (.lreturn, 1) := by decide +kernel
def kX9_lanesFailing_0 : List (Nat × zT) := [(0, a_l 549755813887 3), (3, a_lstore 2 4), (4, a_i 6 6), (6, a_istore 4 8), (8, a_iload 4 10), (10, a_i 19 12), (12, a_ic_ge 54 15), (15, a_lload 2 16), (16, a_iload 1 17), (17, a_iload 4 19), (19, a_call 132 2 22 0 0), (22, a_if_eq 35 25), (25, a_aload 0 26), (26, a_getR 9 5 29), (29, a_iload 4 31), (31, a_lald 32), (32, a_goto 46), (35, a_aload 0 36), (36, a_getR 9 5 39), (39, a_iload 4 41), (41, a_lald 42), (42, a_l (-1) 45), (45, a_ll (fun x y => x ^^^ y) 46), (46, a_ll (fun x y => x &&& y) 47)]
theorem oX9_lanesFailing_0 : ∀ q ∈ kX9_lanesFailing_0, zSnd zty false RX9 cX9_lanesFailing 5 (some .long) false q := List.forall_mem_cons.mpr ⟨ok_ldc2 dX9_lanesFailing_0 w854, List.forall_mem_cons.mpr ⟨ok_lstore_n dX9_lanesFailing_3 rfl (by decide), List.forall_mem_cons.mpr ⟨ok_bipush dX9_lanesFailing_4 (by decide), List.forall_mem_cons.mpr ⟨ok_istore dX9_lanesFailing_6 (by decide), List.forall_mem_cons.mpr ⟨ok_iload dX9_lanesFailing_8, List.forall_mem_cons.mpr ⟨ok_bipush dX9_lanesFailing_10 (by decide), List.forall_mem_cons.mpr ⟨ok_ic_ge dX9_lanesFailing_12 (by decide), List.forall_mem_cons.mpr ⟨ok_lload_n dX9_lanesFailing_15 rfl, List.forall_mem_cons.mpr ⟨ok_iload_n dX9_lanesFailing_16 rfl, List.forall_mem_cons.mpr ⟨ok_iload dX9_lanesFailing_17, List.forall_mem_cons.mpr ⟨ok_callSN dX9_lanesFailing_19 rfl w433 n853 w432 w1 (by decide +kernel) (by decide), List.forall_mem_cons.mpr ⟨ok_if_eq dX9_lanesFailing_22 (by decide), List.forall_mem_cons.mpr ⟨ok_aload_n dX9_lanesFailing_25 rfl, List.forall_mem_cons.mpr ⟨ok_getR dX9_lanesFailing_26 rfl in9 (by decide) rfl w292, List.forall_mem_cons.mpr ⟨ok_iload dX9_lanesFailing_29, List.forall_mem_cons.mpr ⟨ok_lald dX9_lanesFailing_31, List.forall_mem_cons.mpr ⟨ok_goto dX9_lanesFailing_32 (by decide), List.forall_mem_cons.mpr ⟨ok_aload_n dX9_lanesFailing_35 rfl, List.forall_mem_cons.mpr ⟨ok_getR dX9_lanesFailing_36 rfl in9 (by decide) rfl w292, List.forall_mem_cons.mpr ⟨ok_iload dX9_lanesFailing_39, List.forall_mem_cons.mpr ⟨ok_lald dX9_lanesFailing_41, List.forall_mem_cons.mpr ⟨ok_ldc2 dX9_lanesFailing_42 w896, List.forall_mem_cons.mpr ⟨ok_lxor dX9_lanesFailing_45, List.forall_mem_cons.mpr ⟨ok_land dX9_lanesFailing_46, fun _ h => absurd h List.not_mem_nil⟩⟩⟩⟩⟩⟩⟩⟩⟩⟩⟩⟩⟩⟩⟩⟩⟩⟩⟩⟩⟩⟩⟩⟩
def kX9_lanesFailing_1 : List (Nat × zT) := [(47, a_lstore 2 48), (48, a_iinc 4 1 51), (51, a_goto 8), (54, a_lload 2 55), (55, a_lret)]
theorem oX9_lanesFailing_1 : ∀ q ∈ kX9_lanesFailing_1, zSnd zty false RX9 cX9_lanesFailing 5 (some .long) false q := List.forall_mem_cons.mpr ⟨ok_lstore_n dX9_lanesFailing_47 rfl (by decide), List.forall_mem_cons.mpr ⟨ok_iinc dX9_lanesFailing_48 (by decide) (by decide), List.forall_mem_cons.mpr ⟨ok_goto dX9_lanesFailing_51 (by decide), List.forall_mem_cons.mpr ⟨ok_lload_n dX9_lanesFailing_54 rfl, List.forall_mem_cons.mpr ⟨ok_lret dX9_lanesFailing_55 rfl, fun _ h => absurd h List.not_mem_nil⟩⟩⟩⟩⟩
def kX9_lanesFailing : List (Nat × zT) := kX9_lanesFailing_0 ++ (kX9_lanesFailing_1)
theorem qX9_lanesFailing_0 : ∀ q ∈ kX9_lanesFailing_0, q ∈ kX9_lanesFailing := fun _ h => (List.mem_append_left _ h)
theorem tX9_lanesFailing_0 : (0, a_l 549755813887 3) ∈ kX9_lanesFailing := qX9_lanesFailing_0 _ (List.mem_of_getElem? (i := 0) rfl)
theorem tX9_lanesFailing_3 : (3, a_lstore 2 4) ∈ kX9_lanesFailing := qX9_lanesFailing_0 _ (List.mem_of_getElem? (i := 1) rfl)
theorem tX9_lanesFailing_4 : (4, a_i 6 6) ∈ kX9_lanesFailing := qX9_lanesFailing_0 _ (List.mem_of_getElem? (i := 2) rfl)
theorem tX9_lanesFailing_6 : (6, a_istore 4 8) ∈ kX9_lanesFailing := qX9_lanesFailing_0 _ (List.mem_of_getElem? (i := 3) rfl)
theorem tX9_lanesFailing_8 : (8, a_iload 4 10) ∈ kX9_lanesFailing := qX9_lanesFailing_0 _ (List.mem_of_getElem? (i := 4) rfl)
theorem tX9_lanesFailing_10 : (10, a_i 19 12) ∈ kX9_lanesFailing := qX9_lanesFailing_0 _ (List.mem_of_getElem? (i := 5) rfl)
theorem tX9_lanesFailing_12 : (12, a_ic_ge 54 15) ∈ kX9_lanesFailing := qX9_lanesFailing_0 _ (List.mem_of_getElem? (i := 6) rfl)
theorem tX9_lanesFailing_15 : (15, a_lload 2 16) ∈ kX9_lanesFailing := qX9_lanesFailing_0 _ (List.mem_of_getElem? (i := 7) rfl)
theorem tX9_lanesFailing_16 : (16, a_iload 1 17) ∈ kX9_lanesFailing := qX9_lanesFailing_0 _ (List.mem_of_getElem? (i := 8) rfl)
theorem tX9_lanesFailing_17 : (17, a_iload 4 19) ∈ kX9_lanesFailing := qX9_lanesFailing_0 _ (List.mem_of_getElem? (i := 9) rfl)
theorem tX9_lanesFailing_19 : (19, a_call 132 2 22 0 0) ∈ kX9_lanesFailing := qX9_lanesFailing_0 _ (List.mem_of_getElem? (i := 10) rfl)
theorem tX9_lanesFailing_22 : (22, a_if_eq 35 25) ∈ kX9_lanesFailing := qX9_lanesFailing_0 _ (List.mem_of_getElem? (i := 11) rfl)
theorem tX9_lanesFailing_25 : (25, a_aload 0 26) ∈ kX9_lanesFailing := qX9_lanesFailing_0 _ (List.mem_of_getElem? (i := 12) rfl)
theorem tX9_lanesFailing_26 : (26, a_getR 9 5 29) ∈ kX9_lanesFailing := qX9_lanesFailing_0 _ (List.mem_of_getElem? (i := 13) rfl)
theorem tX9_lanesFailing_29 : (29, a_iload 4 31) ∈ kX9_lanesFailing := qX9_lanesFailing_0 _ (List.mem_of_getElem? (i := 14) rfl)
theorem tX9_lanesFailing_31 : (31, a_lald 32) ∈ kX9_lanesFailing := qX9_lanesFailing_0 _ (List.mem_of_getElem? (i := 15) rfl)
theorem tX9_lanesFailing_32 : (32, a_goto 46) ∈ kX9_lanesFailing := qX9_lanesFailing_0 _ (List.mem_of_getElem? (i := 16) rfl)
theorem tX9_lanesFailing_35 : (35, a_aload 0 36) ∈ kX9_lanesFailing := qX9_lanesFailing_0 _ (List.mem_of_getElem? (i := 17) rfl)
theorem tX9_lanesFailing_36 : (36, a_getR 9 5 39) ∈ kX9_lanesFailing := qX9_lanesFailing_0 _ (List.mem_of_getElem? (i := 18) rfl)
theorem tX9_lanesFailing_39 : (39, a_iload 4 41) ∈ kX9_lanesFailing := qX9_lanesFailing_0 _ (List.mem_of_getElem? (i := 19) rfl)
theorem tX9_lanesFailing_41 : (41, a_lald 42) ∈ kX9_lanesFailing := qX9_lanesFailing_0 _ (List.mem_of_getElem? (i := 20) rfl)
theorem tX9_lanesFailing_42 : (42, a_l (-1) 45) ∈ kX9_lanesFailing := qX9_lanesFailing_0 _ (List.mem_of_getElem? (i := 21) rfl)
theorem tX9_lanesFailing_45 : (45, a_ll (fun x y => x ^^^ y) 46) ∈ kX9_lanesFailing := qX9_lanesFailing_0 _ (List.mem_of_getElem? (i := 22) rfl)
theorem tX9_lanesFailing_46 : (46, a_ll (fun x y => x &&& y) 47) ∈ kX9_lanesFailing := qX9_lanesFailing_0 _ (List.mem_of_getElem? (i := 23) rfl)
theorem qX9_lanesFailing_1 : ∀ q ∈ kX9_lanesFailing_1, q ∈ kX9_lanesFailing := fun _ h => (List.mem_append_right _ h)
theorem tX9_lanesFailing_47 : (47, a_lstore 2 48) ∈ kX9_lanesFailing := qX9_lanesFailing_1 _ (List.mem_of_getElem? (i := 0) rfl)
theorem tX9_lanesFailing_48 : (48, a_iinc 4 1 51) ∈ kX9_lanesFailing := qX9_lanesFailing_1 _ (List.mem_of_getElem? (i := 1) rfl)
theorem tX9_lanesFailing_51 : (51, a_goto 8) ∈ kX9_lanesFailing := qX9_lanesFailing_1 _ (List.mem_of_getElem? (i := 2) rfl)
theorem tX9_lanesFailing_54 : (54, a_lload 2 55) ∈ kX9_lanesFailing := qX9_lanesFailing_1 _ (List.mem_of_getElem? (i := 3) rfl)
theorem tX9_lanesFailing_55 : (55, a_lret) ∈ kX9_lanesFailing := qX9_lanesFailing_1 _ (List.mem_of_getElem? (i := 4) rfl)
theorem oX9_lanesFailing : ∀ q ∈ kX9_lanesFailing, zSnd zty false RX9 cX9_lanesFailing 5 (some .long) false q := List.forall_mem_append.mpr ⟨oX9_lanesFailing_0, oX9_lanesFailing_1⟩
theorem dX9_findAll_0 : decode cX9_findAll 0 = .ok (.lconst 0, 1) := by decide +kernel
theorem dX9_findAll_1 : decode cX9_findAll 1 = .ok (.lstore_n 3, 1) := by decide +kernel
theorem dX9_findAll_2 : decode cX9_findAll 2 = .ok (.iconst 0, 1) := by decide +kernel
theorem dX9_findAll_3 : decode cX9_findAll 3 = .ok (.istore 5, 2) := by decide +kernel
theorem dX9_findAll_5 : decode cX9_findAll 5 = .ok (.iload 5, 2) := by decide +kernel
theorem dX9_findAll_7 : decode cX9_findAll 7 = .ok (.aload_n 0, 1) := by decide +kernel
theorem dX9_findAll_8 : decode cX9_findAll 8 = .ok (.getfield 18, 3) := by decide +kernel
theorem dX9_findAll_11 : decode cX9_findAll 11 = .ok (.if_icmp .ge 52, 3) := by decide +kernel
theorem dX9_findAll_14 : decode cX9_findAll 14 = .ok (.aload_n 0, 1) := by decide +kernel
theorem dX9_findAll_15 : decode cX9_findAll 15 = .ok (.aload_n 1, 1) := by decide +kernel
theorem dX9_findAll_16 : decode cX9_findAll 16 = .ok (.iload_n 2, 1) := by decide +kernel
theorem dX9_findAll_17 : decode cX9_findAll 17 = .ok (.aload_n 0, 1) := by decide +kernel
theorem dX9_findAll_18 : decode cX9_findAll 18 = .ok (.getfield 11, 3) := by decide +kernel
theorem dX9_findAll_21 : decode cX9_findAll 21 = .ok (.iload 5, 2) := by decide +kernel
theorem dX9_findAll_23 : decode cX9_findAll 23 = .ok (.iaload, 1) := by decide +kernel
theorem dX9_findAll_24 : decode cX9_findAll 24 = .ok (.invokevirtual 59, 3) := by decide +kernel
theorem dX9_findAll_27 : decode cX9_findAll 27 = .ok (.aload_n 0, 1) := by decide +kernel
theorem dX9_findAll_28 : decode cX9_findAll 28 = .ok (.getfield 22, 3) := by decide +kernel
theorem dX9_findAll_31 : decode cX9_findAll 31 = .ok (.iload 5, 2) := by decide +kernel
theorem dX9_findAll_33 : decode cX9_findAll 33 = .ok (.ldc2_w 55, 3) := by decide +kernel
theorem dX9_findAll_36 : decode cX9_findAll 36 = .ok (.aload_n 0, 1) := by decide +kernel
theorem dX9_findAll_37 : decode cX9_findAll 37 = .ok (.iconst 0, 1) := by decide +kernel
theorem dX9_findAll_38 : decode cX9_findAll 38 = .ok (.invokevirtual 63, 3) := by decide +kernel
theorem dX9_findAll_41 : decode cX9_findAll 41 = .ok (.ldc2_w 57, 3) := by decide +kernel
theorem dX9_findAll_44 : decode cX9_findAll 44 = .ok (.lxor, 1) := by decide +kernel
theorem dX9_findAll_45 : decode cX9_findAll 45 = .ok (.land, 1) := by decide +kernel
theorem dX9_findAll_46 : decode cX9_findAll 46 = .ok (.lastore, 1) := by decide +kernel
theorem dX9_findAll_47 : decode cX9_findAll 47 = .ok (.lload_n 3, 1) := by decide +kernel
theorem dX9_findAll_48 : decode cX9_findAll 48 = .ok (.aload_n 0, 1) := by decide +kernel
theorem dX9_findAll_49 : decode cX9_findAll 49 = .ok (.getfield 22, 3) := by decide +kernel
theorem dX9_findAll_52 : decode cX9_findAll 52 = .ok (.iload 5, 2) := by decide +kernel
theorem dX9_findAll_54 : decode cX9_findAll 54 = .ok (.laload, 1) := by decide +kernel
theorem dX9_findAll_55 : decode cX9_findAll 55 = .ok (.lor, 1) := by decide +kernel
theorem dX9_findAll_56 : decode cX9_findAll 56 = .ok (.lstore_n 3, 1) := by decide +kernel
theorem dX9_findAll_57 : decode cX9_findAll 57 = .ok (.iinc 5 1, 3) := by decide +kernel
theorem dX9_findAll_60 : decode cX9_findAll 60 = .ok (.goto (-55), 3) := by decide +kernel
theorem dX9_findAll_63 : decode cX9_findAll 63 = .ok (.lload_n 3, 1) := by decide +kernel
theorem dX9_findAll_64 : decode cX9_findAll 64 = .ok (.lreturn, 1) := by decide +kernel
def kX9_findAll_0 : List (Nat × zT) := [(0, a_l 0 1), (1, a_lstore 3 2), (2, a_i 0 3), (3, a_istore 5 5), (5, a_iload 5 7), (7, a_aload 0 8), (8, a_getI 9 2 11), (11, a_ic_ge 63 14), (14, a_aload 0 15), (15, a_aload 1 16), (16, a_iload 2 17), (17, a_aload 0 18), (18, a_getR 9 0 21), (21, a_iload 5 23), (23, a_iald 24), (24, a_callV 9 70 4 27 0 0), (27, a_aload 0 28), (28, a_getR 9 3 31), (31, a_iload 5 33), (33, a_l 549755813887 36), (36, a_aload 0 37), (37, a_i 0 38), (38, a_callV 9 72 2 41 0 0), (41, a_l (-1) 44)]
theorem oX9_findAll_0 : ∀ q ∈ kX9_findAll_0, zSnd zty false RX9 cX9_findAll 6 (some .long) false q := List.forall_mem_cons.mpr ⟨ok_lconst dX9_findAll_0 (by decide), List.forall_mem_cons.mpr ⟨ok_lstore_n dX9_findAll_1 rfl (by decide), List.forall_mem_cons.mpr ⟨ok_iconst dX9_findAll_2 (by decide), List.forall_mem_cons.mpr ⟨ok_istore dX9_findAll_3 (by decide), List.forall_mem_cons.mpr ⟨ok_iload dX9_findAll_5, List.forall_mem_cons.mpr ⟨ok_aload_n dX9_findAll_7 rfl, List.forall_mem_cons.mpr ⟨ok_getI dX9_findAll_8 rfl in9 (by decide) rfl w288, List.forall_mem_cons.mpr ⟨ok_ic_ge dX9_findAll_11 (by decide), List.forall_mem_cons.mpr ⟨ok_aload_n dX9_findAll_14 rfl, List.forall_mem_cons.mpr ⟨ok_aload_n dX9_findAll_15 rfl, List.forall_mem_cons.mpr ⟨ok_iload_n dX9_findAll_16 rfl, List.forall_mem_cons.mpr ⟨ok_aload_n dX9_findAll_17 rfl, List.forall_mem_cons.mpr ⟨ok_getR dX9_findAll_18 rfl in9 (by decide) rfl w285, List.forall_mem_cons.mpr ⟨ok_iload dX9_findAll_21, List.forall_mem_cons.mpr ⟨ok_iald dX9_findAll_23, List.forall_mem_cons.mpr ⟨ok_callV dX9_findAll_24 rfl rfl w851 w891 w849 w11 w850 (by decide +kernel) (by decide), List.forall_mem_cons.mpr ⟨ok_aload_n dX9_findAll_27 rfl, List.forall_mem_cons.mpr ⟨ok_getR dX9_findAll_28 rfl in9 (by decide) rfl w290, List.forall_mem_cons.mpr ⟨ok_iload dX9_findAll_31, List.forall_mem_cons.mpr ⟨ok_ldc2 dX9_findAll_33 w854, List.forall_mem_cons.mpr ⟨ok_aload_n dX9_findAll_36 rfl, List.forall_mem_cons.mpr ⟨ok_iconst dX9_findAll_37 (by decide), List.forall_mem_cons.mpr ⟨ok_callV dX9_findAll_38 rfl rfl w895 w892 w894 w11 s19 (by decide +kernel) (by decide), List.forall_mem_cons.mpr ⟨ok_ldc2 dX9_findAll_41 w896, fun _ h => absurd h List.not_mem_nil⟩⟩⟩⟩⟩⟩⟩⟩⟩⟩⟩⟩⟩⟩⟩⟩⟩⟩⟩⟩⟩⟩⟩⟩
def kX9_findAll_1 : List (Nat × zT) := [(44, a_ll (fun x y => x ^^^ y) 45), (45, a_ll (fun x y => x &&& y) 46), (46, a_last 47), (47, a_lload 3 48), (48, a_aload 0 49), (49, a_getR 9 3 52), (52, a_iload 5 54), (54, a_lald 55), (55, a_ll (fun x y => x ||| y) 56), (56, a_lstore 3 57), (57, a_iinc 5 1 60), (60, a_goto 5), (63, a_lload 3 64), (64, a_lret)]
theorem oX9_findAll_1 : ∀ q ∈ kX9_findAll_1, zSnd zty false RX9 cX9_findAll 6 (some .long) false q := List.forall_mem_cons.mpr ⟨ok_lxor dX9_findAll_44, List.forall_mem_cons.mpr ⟨ok_land dX9_findAll_45, List.forall_mem_cons.mpr ⟨ok_last dX9_findAll_46, List.forall_mem_cons.mpr ⟨ok_lload_n dX9_findAll_47 rfl, List.forall_mem_cons.mpr ⟨ok_aload_n dX9_findAll_48 rfl, List.forall_mem_cons.mpr ⟨ok_getR dX9_findAll_49 rfl in9 (by decide) rfl w290, List.forall_mem_cons.mpr ⟨ok_iload dX9_findAll_52, List.forall_mem_cons.mpr ⟨ok_lald dX9_findAll_54, List.forall_mem_cons.mpr ⟨ok_lor dX9_findAll_55, List.forall_mem_cons.mpr ⟨ok_lstore_n dX9_findAll_56 rfl (by decide), List.forall_mem_cons.mpr ⟨ok_iinc dX9_findAll_57 (by decide) (by decide), List.forall_mem_cons.mpr ⟨ok_goto dX9_findAll_60 (by decide), List.forall_mem_cons.mpr ⟨ok_lload_n dX9_findAll_63 rfl, List.forall_mem_cons.mpr ⟨ok_lret dX9_findAll_64 rfl, fun _ h => absurd h List.not_mem_nil⟩⟩⟩⟩⟩⟩⟩⟩⟩⟩⟩⟩⟩⟩
def kX9_findAll : List (Nat × zT) := kX9_findAll_0 ++ (kX9_findAll_1)
theorem qX9_findAll_0 : ∀ q ∈ kX9_findAll_0, q ∈ kX9_findAll := fun _ h => (List.mem_append_left _ h)
theorem tX9_findAll_0 : (0, a_l 0 1) ∈ kX9_findAll := qX9_findAll_0 _ (List.mem_of_getElem? (i := 0) rfl)
theorem tX9_findAll_1 : (1, a_lstore 3 2) ∈ kX9_findAll := qX9_findAll_0 _ (List.mem_of_getElem? (i := 1) rfl)
theorem tX9_findAll_2 : (2, a_i 0 3) ∈ kX9_findAll := qX9_findAll_0 _ (List.mem_of_getElem? (i := 2) rfl)
theorem tX9_findAll_3 : (3, a_istore 5 5) ∈ kX9_findAll := qX9_findAll_0 _ (List.mem_of_getElem? (i := 3) rfl)
theorem tX9_findAll_5 : (5, a_iload 5 7) ∈ kX9_findAll := qX9_findAll_0 _ (List.mem_of_getElem? (i := 4) rfl)
theorem tX9_findAll_7 : (7, a_aload 0 8) ∈ kX9_findAll := qX9_findAll_0 _ (List.mem_of_getElem? (i := 5) rfl)
theorem tX9_findAll_8 : (8, a_getI 9 2 11) ∈ kX9_findAll := qX9_findAll_0 _ (List.mem_of_getElem? (i := 6) rfl)
theorem tX9_findAll_11 : (11, a_ic_ge 63 14) ∈ kX9_findAll := qX9_findAll_0 _ (List.mem_of_getElem? (i := 7) rfl)
theorem tX9_findAll_14 : (14, a_aload 0 15) ∈ kX9_findAll := qX9_findAll_0 _ (List.mem_of_getElem? (i := 8) rfl)
theorem tX9_findAll_15 : (15, a_aload 1 16) ∈ kX9_findAll := qX9_findAll_0 _ (List.mem_of_getElem? (i := 9) rfl)
theorem tX9_findAll_16 : (16, a_iload 2 17) ∈ kX9_findAll := qX9_findAll_0 _ (List.mem_of_getElem? (i := 10) rfl)
theorem tX9_findAll_17 : (17, a_aload 0 18) ∈ kX9_findAll := qX9_findAll_0 _ (List.mem_of_getElem? (i := 11) rfl)
theorem tX9_findAll_18 : (18, a_getR 9 0 21) ∈ kX9_findAll := qX9_findAll_0 _ (List.mem_of_getElem? (i := 12) rfl)
theorem tX9_findAll_21 : (21, a_iload 5 23) ∈ kX9_findAll := qX9_findAll_0 _ (List.mem_of_getElem? (i := 13) rfl)
theorem tX9_findAll_23 : (23, a_iald 24) ∈ kX9_findAll := qX9_findAll_0 _ (List.mem_of_getElem? (i := 14) rfl)
theorem tX9_findAll_24 : (24, a_callV 9 70 4 27 0 0) ∈ kX9_findAll := qX9_findAll_0 _ (List.mem_of_getElem? (i := 15) rfl)
theorem tX9_findAll_27 : (27, a_aload 0 28) ∈ kX9_findAll := qX9_findAll_0 _ (List.mem_of_getElem? (i := 16) rfl)
theorem tX9_findAll_28 : (28, a_getR 9 3 31) ∈ kX9_findAll := qX9_findAll_0 _ (List.mem_of_getElem? (i := 17) rfl)
theorem tX9_findAll_31 : (31, a_iload 5 33) ∈ kX9_findAll := qX9_findAll_0 _ (List.mem_of_getElem? (i := 18) rfl)
theorem tX9_findAll_33 : (33, a_l 549755813887 36) ∈ kX9_findAll := qX9_findAll_0 _ (List.mem_of_getElem? (i := 19) rfl)
theorem tX9_findAll_36 : (36, a_aload 0 37) ∈ kX9_findAll := qX9_findAll_0 _ (List.mem_of_getElem? (i := 20) rfl)
theorem tX9_findAll_37 : (37, a_i 0 38) ∈ kX9_findAll := qX9_findAll_0 _ (List.mem_of_getElem? (i := 21) rfl)
theorem tX9_findAll_38 : (38, a_callV 9 72 2 41 0 0) ∈ kX9_findAll := qX9_findAll_0 _ (List.mem_of_getElem? (i := 22) rfl)
theorem tX9_findAll_41 : (41, a_l (-1) 44) ∈ kX9_findAll := qX9_findAll_0 _ (List.mem_of_getElem? (i := 23) rfl)
theorem qX9_findAll_1 : ∀ q ∈ kX9_findAll_1, q ∈ kX9_findAll := fun _ h => (List.mem_append_right _ h)
theorem tX9_findAll_44 : (44, a_ll (fun x y => x ^^^ y) 45) ∈ kX9_findAll := qX9_findAll_1 _ (List.mem_of_getElem? (i := 0) rfl)
theorem tX9_findAll_45 : (45, a_ll (fun x y => x &&& y) 46) ∈ kX9_findAll := qX9_findAll_1 _ (List.mem_of_getElem? (i := 1) rfl)
theorem tX9_findAll_46 : (46, a_last 47) ∈ kX9_findAll := qX9_findAll_1 _ (List.mem_of_getElem? (i := 2) rfl)
theorem tX9_findAll_47 : (47, a_lload 3 48) ∈ kX9_findAll := qX9_findAll_1 _ (List.mem_of_getElem? (i := 3) rfl)
theorem tX9_findAll_48 : (48, a_aload 0 49) ∈ kX9_findAll := qX9_findAll_1 _ (List.mem_of_getElem? (i := 4) rfl)
theorem tX9_findAll_49 : (49, a_getR 9 3 52) ∈ kX9_findAll := qX9_findAll_1 _ (List.mem_of_getElem? (i := 5) rfl)
theorem tX9_findAll_52 : (52, a_iload 5 54) ∈ kX9_findAll := qX9_findAll_1 _ (List.mem_of_getElem? (i := 6) rfl)
theorem tX9_findAll_54 : (54, a_lald 55) ∈ kX9_findAll := qX9_findAll_1 _ (List.mem_of_getElem? (i := 7) rfl)
theorem tX9_findAll_55 : (55, a_ll (fun x y => x ||| y) 56) ∈ kX9_findAll := qX9_findAll_1 _ (List.mem_of_getElem? (i := 8) rfl)
theorem tX9_findAll_56 : (56, a_lstore 3 57) ∈ kX9_findAll := qX9_findAll_1 _ (List.mem_of_getElem? (i := 9) rfl)
theorem tX9_findAll_57 : (57, a_iinc 5 1 60) ∈ kX9_findAll := qX9_findAll_1 _ (List.mem_of_getElem? (i := 10) rfl)
theorem tX9_findAll_60 : (60, a_goto 5) ∈ kX9_findAll := qX9_findAll_1 _ (List.mem_of_getElem? (i := 11) rfl)
theorem tX9_findAll_63 : (63, a_lload 3 64) ∈ kX9_findAll := qX9_findAll_1 _ (List.mem_of_getElem? (i := 12) rfl)
theorem tX9_findAll_64 : (64, a_lret) ∈ kX9_findAll := qX9_findAll_1 _ (List.mem_of_getElem? (i := 13) rfl)
theorem oX9_findAll : ∀ q ∈ kX9_findAll, zSnd zty false RX9 cX9_findAll 6 (some .long) false q := List.forall_mem_append.mpr ⟨oX9_findAll_0, oX9_findAll_1⟩
theorem dX9_leastSet_0 : decode cX9_leastSet 0 = .ok (.iconst 1, 1) := by decide +kernel
theorem dX9_leastSet_1 : decode cX9_leastSet 1 = .ok (.aload_n 0, 1) := by decide +kernel
theorem dX9_leastSet_2 : decode cX9_leastSet 2 = .ok (.getfield 18, 3) := by decide +kernel
theorem dX9_leastSet_5 : decode cX9_leastSet 5 = .ok (.ishl, 1) := by decide +kernel
theorem dX9_leastSet_6 : decode cX9_leastSet 6 = .ok (.iconst 1, 1) := by decide +kernel
theorem dX9_leastSet_7 : decode cX9_leastSet 7 = .ok (.isub, 1) := by decide +kernel
theorem dX9_leastSet_8 : decode cX9_leastSet 8 = .ok (.istore_n 3, 1) := by decide +kernel
theorem dX9_leastSet_9 : decode cX9_leastSet 9 = .ok (.iconst 0, 1) := by decide +kernel
theorem dX9_leastSet_10 : decode cX9_leastSet 10 = .ok (.istore 4, 2) := by decide +kernel
theorem dX9_leastSet_12 : decode cX9_leastSet 12 = .ok (.iload 4, 2) := by decide +kernel
theorem dX9_leastSet_14 : decode cX9_leastSet 14 = .ok (.iconst 1, 1) := by decide +kernel
theorem dX9_leastSet_15 : decode cX9_leastSet 15 = .ok (.aload_n 0, 1) := by decide +kernel
theorem dX9_leastSet_16 : decode cX9_leastSet 16 = .ok (.getfield 18, 3) := by decide +kernel
theorem dX9_leastSet_19 : decode cX9_leastSet 19 = .ok (.ishl, 1) := by decide +kernel
theorem dX9_leastSet_20 : decode cX9_leastSet 20 = .ok (.if_icmp .ge 35, 3) := by decide +kernel
theorem dX9_leastSet_23 : decode cX9_leastSet 23 = .ok (.iload 4, 2) := by decide +kernel
theorem dX9_leastSet_25 : decode cX9_leastSet 25 = .ok (.invokestatic 67, 3) := by decide +kernel
theorem dX9_leastSet_28 : decode cX9_leastSet 28 = .ok (.iload_n 3, 1) := by decide +kernel
theorem dX9_leastSet_29 : decode cX9_leastSet 29 = .ok (.invokestatic 67, 3) := by decide +kernel
theorem dX9_leastSet_32 : decode cX9_leastSet 32 = .ok (.if_icmp .ge 17, 3) := by decide +kernel
theorem dX9_leastSet_35 : decode cX9_leastSet 35 = .ok (.aload_n 0, 1) := by decide +kernel
theorem dX9_leastSet_36 : decode cX9_leastSet 36 = .ok (.iload 4, 2) := by decide +kernel
theorem dX9_leastSet_38 : decode cX9_leastSet 38 = .ok (.invokevirtual 73, 3) := by decide +kernel
theorem dX9_leastSet_41 : decode cX9_leastSet 41 = .ok (.lload_n 1, 1) := by decide +kernel
theorem dX9_leastSet_42 : decode cX9_leastSet 42 = .ok (.lcmp, 1) := by decide +kernel
theorem dX9_leastSet_43 : decode cX9_leastSet 43 = .ok (.ifCond .ne 6, 3) := by decide +kernel
theorem dX9_leastSet_46 : decode cX9_leastSet 46 = .ok (.iload 4, 2) := by decide +kernel
theorem dX9_leastSet_48 : decode cX9_leastSet 48 = .ok (.istore_n 3, 1) := by decide +kernel
theorem dX9_leastSet_49 : decode cX9_leastSet 49 = .ok (.iinc 4 1, 3) := by decide +kernel
theorem dX9_leastSet_52 : decode cX9_leastSet 52 = .ok (.goto (-40), 3) := by decide +kernel
theorem dX9_leastSet_55 : decode cX9_leastSet 55 = .ok (.iload_n 3, 1) := by decide +kernel
theorem dX9_leastSet_56 : decode cX9_leastSet 56 = .ok (.ireturn, 1) := by decide +kernel
def kX9_leastSet_0 : List (Nat × zT) := [(0, a_i 1 1), (1, a_aload 0 2), (2, a_getI 9 2 5), (5, a_ii (fun x y => x <<< (y &&& 31)) 6), (6, a_i 1 7), (7, a_ii (fun x y => x - y) 8), (8, a_istore 3 9), (9, a_i 0 10), (10, a_istore 4 12), (12, a_iload 4 14), (14, a_i 1 15), (15, a_aload 0 16), (16, a_getI 9 2 19), (19, a_ii (fun x y => x <<< (y &&& 31)) 20), (20, a_ic_ge 55 23), (23, a_iload 4 25), (25, a_call 217 1 28 0 0), (28, a_iload 3 29), (29, a_call 217 1 32 0 0), (32, a_ic_ge 49 35), (35, a_aload 0 36), (36, a_iload 4 38), (38, a_callV 9 75 2 41 0 0), (41, a_lload 1 42)]
theorem oX9_leastSet_0 : ∀ q ∈ kX9_leastSet_0, zSnd zty false RX9 cX9_leastSet 5 (some .int) false q := List.forall_mem_cons.mpr ⟨ok_iconst dX9_leastSet_0 (by decide), List.forall_mem_cons.mpr ⟨ok_aload_n dX9_leastSet_1 rfl, List.forall_mem_cons.mpr ⟨ok_getI dX9_leastSet_2 rfl in9 (by decide) rfl w288, List.forall_mem_cons.mpr ⟨ok_ishl dX9_leastSet_5, List.forall_mem_cons.mpr ⟨ok_iconst dX9_leastSet_6 (by decide), List.forall_mem_cons.mpr ⟨ok_isub dX9_leastSet_7, List.forall_mem_cons.mpr ⟨ok_istore_n dX9_leastSet_8 rfl (by decide), List.forall_mem_cons.mpr ⟨ok_iconst dX9_leastSet_9 (by decide), List.forall_mem_cons.mpr ⟨ok_istore dX9_leastSet_10 (by decide), List.forall_mem_cons.mpr ⟨ok_iload dX9_leastSet_12, List.forall_mem_cons.mpr ⟨ok_iconst dX9_leastSet_14 (by decide), List.forall_mem_cons.mpr ⟨ok_aload_n dX9_leastSet_15 rfl, List.forall_mem_cons.mpr ⟨ok_getI dX9_leastSet_16 rfl in9 (by decide) rfl w288, List.forall_mem_cons.mpr ⟨ok_ishl dX9_leastSet_19, List.forall_mem_cons.mpr ⟨ok_ic_ge dX9_leastSet_20 (by decide), List.forall_mem_cons.mpr ⟨ok_iload dX9_leastSet_23, List.forall_mem_cons.mpr ⟨ok_callS dX9_leastSet_25 rfl w488 w901 w487 w15 (by decide +kernel) (by decide), List.forall_mem_cons.mpr ⟨ok_iload_n dX9_leastSet_28 rfl, List.forall_mem_cons.mpr ⟨ok_callS dX9_leastSet_29 rfl w488 w901 w487 w15 (by decide +kernel) (by decide), List.forall_mem_cons.mpr ⟨ok_ic_ge dX9_leastSet_32 (by decide), List.forall_mem_cons.mpr ⟨ok_aload_n dX9_leastSet_35 rfl, List.forall_mem_cons.mpr ⟨ok_iload dX9_leastSet_36, List.forall_mem_cons.mpr ⟨ok_callV dX9_leastSet_38 rfl rfl w905 w902 w904 w11 s20 (by decide +kernel) (by decide), List.forall_mem_cons.mpr ⟨ok_lload_n dX9_leastSet_41 rfl, fun _ h => absurd h List.not_mem_nil⟩⟩⟩⟩⟩⟩⟩⟩⟩⟩⟩⟩⟩⟩⟩⟩⟩⟩⟩⟩⟩⟩⟩⟩
def kX9_leastSet_1 : List (Nat × zT) := [(42, a_lcmp 43), (43, a_if_ne 49 46), (46, a_iload 4 48), (48, a_istore 3 49), (49, a_iinc 4 1 52), (52, a_goto 12), (55, a_iload 3 56), (56, a_iret false)]
theorem oX9_leastSet_1 : ∀ q ∈ kX9_leastSet_1, zSnd zty false RX9 cX9_leastSet 5 (some .int) false q := List.forall_mem_cons.mpr ⟨ok_lcmp dX9_leastSet_42, List.forall_mem_cons.mpr ⟨ok_if_ne dX9_leastSet_43 (by decide), List.forall_mem_cons.mpr ⟨ok_iload dX9_leastSet_46, List.forall_mem_cons.mpr ⟨ok_istore_n dX9_leastSet_48 rfl (by decide), List.forall_mem_cons.mpr ⟨ok_iinc dX9_leastSet_49 (by decide) (by decide), List.forall_mem_cons.mpr ⟨ok_goto dX9_leastSet_52 (by decide), List.forall_mem_cons.mpr ⟨ok_iload_n dX9_leastSet_55 rfl, List.forall_mem_cons.mpr ⟨ok_iret (bz := false) dX9_leastSet_56 rfl, fun _ h => absurd h List.not_mem_nil⟩⟩⟩⟩⟩⟩⟩⟩
def kX9_leastSet : List (Nat × zT) := kX9_leastSet_0 ++ (kX9_leastSet_1)
theorem qX9_leastSet_0 : ∀ q ∈ kX9_leastSet_0, q ∈ kX9_leastSet := fun _ h => (List.mem_append_left _ h)
theorem tX9_leastSet_0 : (0, a_i 1 1) ∈ kX9_leastSet := qX9_leastSet_0 _ (List.mem_of_getElem? (i := 0) rfl)
theorem tX9_leastSet_1 : (1, a_aload 0 2) ∈ kX9_leastSet := qX9_leastSet_0 _ (List.mem_of_getElem? (i := 1) rfl)
theorem tX9_leastSet_2 : (2, a_getI 9 2 5) ∈ kX9_leastSet := qX9_leastSet_0 _ (List.mem_of_getElem? (i := 2) rfl)
theorem tX9_leastSet_5 : (5, a_ii (fun x y => x <<< (y &&& 31)) 6) ∈ kX9_leastSet := qX9_leastSet_0 _ (List.mem_of_getElem? (i := 3) rfl)
theorem tX9_leastSet_6 : (6, a_i 1 7) ∈ kX9_leastSet := qX9_leastSet_0 _ (List.mem_of_getElem? (i := 4) rfl)
theorem tX9_leastSet_7 : (7, a_ii (fun x y => x - y) 8) ∈ kX9_leastSet := qX9_leastSet_0 _ (List.mem_of_getElem? (i := 5) rfl)
theorem tX9_leastSet_8 : (8, a_istore 3 9) ∈ kX9_leastSet := qX9_leastSet_0 _ (List.mem_of_getElem? (i := 6) rfl)
theorem tX9_leastSet_9 : (9, a_i 0 10) ∈ kX9_leastSet := qX9_leastSet_0 _ (List.mem_of_getElem? (i := 7) rfl)
theorem tX9_leastSet_10 : (10, a_istore 4 12) ∈ kX9_leastSet := qX9_leastSet_0 _ (List.mem_of_getElem? (i := 8) rfl)
theorem tX9_leastSet_12 : (12, a_iload 4 14) ∈ kX9_leastSet := qX9_leastSet_0 _ (List.mem_of_getElem? (i := 9) rfl)
theorem tX9_leastSet_14 : (14, a_i 1 15) ∈ kX9_leastSet := qX9_leastSet_0 _ (List.mem_of_getElem? (i := 10) rfl)
theorem tX9_leastSet_15 : (15, a_aload 0 16) ∈ kX9_leastSet := qX9_leastSet_0 _ (List.mem_of_getElem? (i := 11) rfl)
theorem tX9_leastSet_16 : (16, a_getI 9 2 19) ∈ kX9_leastSet := qX9_leastSet_0 _ (List.mem_of_getElem? (i := 12) rfl)
theorem tX9_leastSet_19 : (19, a_ii (fun x y => x <<< (y &&& 31)) 20) ∈ kX9_leastSet := qX9_leastSet_0 _ (List.mem_of_getElem? (i := 13) rfl)
theorem tX9_leastSet_20 : (20, a_ic_ge 55 23) ∈ kX9_leastSet := qX9_leastSet_0 _ (List.mem_of_getElem? (i := 14) rfl)
theorem tX9_leastSet_23 : (23, a_iload 4 25) ∈ kX9_leastSet := qX9_leastSet_0 _ (List.mem_of_getElem? (i := 15) rfl)
theorem tX9_leastSet_25 : (25, a_call 217 1 28 0 0) ∈ kX9_leastSet := qX9_leastSet_0 _ (List.mem_of_getElem? (i := 16) rfl)
theorem tX9_leastSet_28 : (28, a_iload 3 29) ∈ kX9_leastSet := qX9_leastSet_0 _ (List.mem_of_getElem? (i := 17) rfl)
theorem tX9_leastSet_29 : (29, a_call 217 1 32 0 0) ∈ kX9_leastSet := qX9_leastSet_0 _ (List.mem_of_getElem? (i := 18) rfl)
theorem tX9_leastSet_32 : (32, a_ic_ge 49 35) ∈ kX9_leastSet := qX9_leastSet_0 _ (List.mem_of_getElem? (i := 19) rfl)
theorem tX9_leastSet_35 : (35, a_aload 0 36) ∈ kX9_leastSet := qX9_leastSet_0 _ (List.mem_of_getElem? (i := 20) rfl)
theorem tX9_leastSet_36 : (36, a_iload 4 38) ∈ kX9_leastSet := qX9_leastSet_0 _ (List.mem_of_getElem? (i := 21) rfl)
theorem tX9_leastSet_38 : (38, a_callV 9 75 2 41 0 0) ∈ kX9_leastSet := qX9_leastSet_0 _ (List.mem_of_getElem? (i := 22) rfl)
theorem tX9_leastSet_41 : (41, a_lload 1 42) ∈ kX9_leastSet := qX9_leastSet_0 _ (List.mem_of_getElem? (i := 23) rfl)
theorem qX9_leastSet_1 : ∀ q ∈ kX9_leastSet_1, q ∈ kX9_leastSet := fun _ h => (List.mem_append_right _ h)
theorem tX9_leastSet_42 : (42, a_lcmp 43) ∈ kX9_leastSet := qX9_leastSet_1 _ (List.mem_of_getElem? (i := 0) rfl)
theorem tX9_leastSet_43 : (43, a_if_ne 49 46) ∈ kX9_leastSet := qX9_leastSet_1 _ (List.mem_of_getElem? (i := 1) rfl)
theorem tX9_leastSet_46 : (46, a_iload 4 48) ∈ kX9_leastSet := qX9_leastSet_1 _ (List.mem_of_getElem? (i := 2) rfl)
theorem tX9_leastSet_48 : (48, a_istore 3 49) ∈ kX9_leastSet := qX9_leastSet_1 _ (List.mem_of_getElem? (i := 3) rfl)
theorem tX9_leastSet_49 : (49, a_iinc 4 1 52) ∈ kX9_leastSet := qX9_leastSet_1 _ (List.mem_of_getElem? (i := 4) rfl)
theorem tX9_leastSet_52 : (52, a_goto 12) ∈ kX9_leastSet := qX9_leastSet_1 _ (List.mem_of_getElem? (i := 5) rfl)
theorem tX9_leastSet_55 : (55, a_iload 3 56) ∈ kX9_leastSet := qX9_leastSet_1 _ (List.mem_of_getElem? (i := 6) rfl)
theorem tX9_leastSet_56 : (56, a_iret false) ∈ kX9_leastSet := qX9_leastSet_1 _ (List.mem_of_getElem? (i := 7) rfl)
theorem oX9_leastSet : ∀ q ∈ kX9_leastSet, zSnd zty false RX9 cX9_leastSet 5 (some .int) false q := List.forall_mem_append.mpr ⟨oX9_leastSet_0, oX9_leastSet_1⟩
theorem dX9_foundBy_0 : decode cX9_foundBy 0 = .ok (.lconst 0, 1) := by decide +kernel
theorem dX9_foundBy_1 : decode cX9_foundBy 1 = .ok (.lstore_n 2, 1) := by decide +kernel
theorem dX9_foundBy_2 : decode cX9_foundBy 2 = .ok (.iconst 0, 1) := by decide +kernel
theorem dX9_foundBy_3 : decode cX9_foundBy 3 = .ok (.istore 4, 2) := by decide +kernel
theorem dX9_foundBy_5 : decode cX9_foundBy 5 = .ok (.iload 4, 2) := by decide +kernel
theorem dX9_foundBy_7 : decode cX9_foundBy 7 = .ok (.aload_n 0, 1) := by decide +kernel
theorem dX9_foundBy_8 : decode cX9_foundBy 8 = .ok (.getfield 18, 3) := by decide +kernel
theorem dX9_foundBy_11 : decode cX9_foundBy 11 = .ok (.if_icmp .ge 32, 3) := by decide +kernel
theorem dX9_foundBy_14 : decode cX9_foundBy 14 = .ok (.lload_n 2, 1) := by decide +kernel
theorem dX9_foundBy_15 : decode cX9_foundBy 15 = .ok (.iload_n 1, 1) := by decide +kernel
theorem dX9_foundBy_16 : decode cX9_foundBy 16 = .ok (.iload 4, 2) := by decide +kernel
theorem dX9_foundBy_18 : decode cX9_foundBy 18 = .ok (.invokestatic 51, 3) := by decide +kernel
theorem dX9_foundBy_21 : decode cX9_foundBy 21 = .ok (.ifCond .eq 13, 3) := by decide +kernel
theorem dX9_foundBy_24 : decode cX9_foundBy 24 = .ok (.aload_n 0, 1) := by decide +kernel
theorem dX9_foundBy_25 : decode cX9_foundBy 25 = .ok (.getfield 22, 3) := by decide +kernel
theorem dX9_foundBy_28 : decode cX9_foundBy 28 = .ok (.iload 4, 2) := by decide +kernel
theorem dX9_foundBy_30 : decode cX9_foundBy 30 = .ok (.laload, 1) := by decide +kernel
theorem dX9_foundBy_31 : decode cX9_foundBy 31 = .ok (.goto 4, 3) := by decide +kernel
theorem dX9_foundBy_34 : decode cX9_foundBy 34 = .ok (.lconst 0, 1) := by decide +kernel
theorem dX9_foundBy_35 : decode cX9_foundBy 35 = .ok (.lor, 1) := by decide +kernel
theorem dX9_foundBy_36 : decode cX9_foundBy 36 = .ok (.lstore_n 2, 1) := by decide +kernel
theorem dX9_foundBy_37 : decode cX9_foundBy 37 = .ok (.iinc 4 1, 3) := by decide +kernel
theorem dX9_foundBy_40 : decode cX9_foundBy 40 = .ok (.goto (-35), 3) := by decide +kernel
theorem dX9_foundBy_43 : decode cX9_foundBy 43 = .ok (.lload_n 2, 1) := by decide +kernel
theorem dX9_foundBy_44 : decode cX9_foundBy 44 = .ok (.lreturn, 1) := by decide +kernel
def kX9_foundBy_0 : List (Nat × zT) := [(0, a_l 0 1), (1, a_lstore 2 2), (2, a_i 0 3), (3, a_istore 4 5), (5, a_iload 4 7), (7, a_aload 0 8), (8, a_getI 9 2 11), (11, a_ic_ge 43 14), (14, a_lload 2 15), (15, a_iload 1 16), (16, a_iload 4 18), (18, a_call 132 2 21 0 0), (21, a_if_eq 34 24), (24, a_aload 0 25), (25, a_getR 9 3 28), (28, a_iload 4 30), (30, a_lald 31), (31, a_goto 35), (34, a_l 0 35), (35, a_ll (fun x y => x ||| y) 36), (36, a_lstore 2 37), (37, a_iinc 4 1 40), (40, a_goto 5), (43, a_lload 2 44)]
theorem oX9_foundBy_0 : ∀ q ∈ kX9_foundBy_0, zSnd zty false RX9 cX9_foundBy 5 (some .long) false q := List.forall_mem_cons.mpr ⟨ok_lconst dX9_foundBy_0 (by decide), List.forall_mem_cons.mpr ⟨ok_lstore_n dX9_foundBy_1 rfl (by decide), List.forall_mem_cons.mpr ⟨ok_iconst dX9_foundBy_2 (by decide), List.forall_mem_cons.mpr ⟨ok_istore dX9_foundBy_3 (by decide), List.forall_mem_cons.mpr ⟨ok_iload dX9_foundBy_5, List.forall_mem_cons.mpr ⟨ok_aload_n dX9_foundBy_7 rfl, List.forall_mem_cons.mpr ⟨ok_getI dX9_foundBy_8 rfl in9 (by decide) rfl w288, List.forall_mem_cons.mpr ⟨ok_ic_ge dX9_foundBy_11 (by decide), List.forall_mem_cons.mpr ⟨ok_lload_n dX9_foundBy_14 rfl, List.forall_mem_cons.mpr ⟨ok_iload_n dX9_foundBy_15 rfl, List.forall_mem_cons.mpr ⟨ok_iload dX9_foundBy_16, List.forall_mem_cons.mpr ⟨ok_callSN dX9_foundBy_18 rfl w433 n853 w432 w1 (by decide +kernel) (by decide), List.forall_mem_cons.mpr ⟨ok_if_eq dX9_foundBy_21 (by decide), List.forall_mem_cons.mpr ⟨ok_aload_n dX9_foundBy_24 rfl, List.forall_mem_cons.mpr ⟨ok_getR dX9_foundBy_25 rfl in9 (by decide) rfl w290, List.forall_mem_cons.mpr ⟨ok_iload dX9_foundBy_28, List.forall_mem_cons.mpr ⟨ok_lald dX9_foundBy_30, List.forall_mem_cons.mpr ⟨ok_goto dX9_foundBy_31 (by decide), List.forall_mem_cons.mpr ⟨ok_lconst dX9_foundBy_34 (by decide), List.forall_mem_cons.mpr ⟨ok_lor dX9_foundBy_35, List.forall_mem_cons.mpr ⟨ok_lstore_n dX9_foundBy_36 rfl (by decide), List.forall_mem_cons.mpr ⟨ok_iinc dX9_foundBy_37 (by decide) (by decide), List.forall_mem_cons.mpr ⟨ok_goto dX9_foundBy_40 (by decide), List.forall_mem_cons.mpr ⟨ok_lload_n dX9_foundBy_43 rfl, fun _ h => absurd h List.not_mem_nil⟩⟩⟩⟩⟩⟩⟩⟩⟩⟩⟩⟩⟩⟩⟩⟩⟩⟩⟩⟩⟩⟩⟩⟩
def kX9_foundBy_1 : List (Nat × zT) := [(44, a_lret)]
theorem oX9_foundBy_1 : ∀ q ∈ kX9_foundBy_1, zSnd zty false RX9 cX9_foundBy 5 (some .long) false q := List.forall_mem_cons.mpr ⟨ok_lret dX9_foundBy_44 rfl, fun _ h => absurd h List.not_mem_nil⟩
def kX9_foundBy : List (Nat × zT) := kX9_foundBy_0 ++ (kX9_foundBy_1)
theorem qX9_foundBy_0 : ∀ q ∈ kX9_foundBy_0, q ∈ kX9_foundBy := fun _ h => (List.mem_append_left _ h)
theorem tX9_foundBy_0 : (0, a_l 0 1) ∈ kX9_foundBy := qX9_foundBy_0 _ (List.mem_of_getElem? (i := 0) rfl)
theorem tX9_foundBy_1 : (1, a_lstore 2 2) ∈ kX9_foundBy := qX9_foundBy_0 _ (List.mem_of_getElem? (i := 1) rfl)
theorem tX9_foundBy_2 : (2, a_i 0 3) ∈ kX9_foundBy := qX9_foundBy_0 _ (List.mem_of_getElem? (i := 2) rfl)
theorem tX9_foundBy_3 : (3, a_istore 4 5) ∈ kX9_foundBy := qX9_foundBy_0 _ (List.mem_of_getElem? (i := 3) rfl)
theorem tX9_foundBy_5 : (5, a_iload 4 7) ∈ kX9_foundBy := qX9_foundBy_0 _ (List.mem_of_getElem? (i := 4) rfl)
theorem tX9_foundBy_7 : (7, a_aload 0 8) ∈ kX9_foundBy := qX9_foundBy_0 _ (List.mem_of_getElem? (i := 5) rfl)
theorem tX9_foundBy_8 : (8, a_getI 9 2 11) ∈ kX9_foundBy := qX9_foundBy_0 _ (List.mem_of_getElem? (i := 6) rfl)
theorem tX9_foundBy_11 : (11, a_ic_ge 43 14) ∈ kX9_foundBy := qX9_foundBy_0 _ (List.mem_of_getElem? (i := 7) rfl)
theorem tX9_foundBy_14 : (14, a_lload 2 15) ∈ kX9_foundBy := qX9_foundBy_0 _ (List.mem_of_getElem? (i := 8) rfl)
theorem tX9_foundBy_15 : (15, a_iload 1 16) ∈ kX9_foundBy := qX9_foundBy_0 _ (List.mem_of_getElem? (i := 9) rfl)
theorem tX9_foundBy_16 : (16, a_iload 4 18) ∈ kX9_foundBy := qX9_foundBy_0 _ (List.mem_of_getElem? (i := 10) rfl)
theorem tX9_foundBy_18 : (18, a_call 132 2 21 0 0) ∈ kX9_foundBy := qX9_foundBy_0 _ (List.mem_of_getElem? (i := 11) rfl)
theorem tX9_foundBy_21 : (21, a_if_eq 34 24) ∈ kX9_foundBy := qX9_foundBy_0 _ (List.mem_of_getElem? (i := 12) rfl)
theorem tX9_foundBy_24 : (24, a_aload 0 25) ∈ kX9_foundBy := qX9_foundBy_0 _ (List.mem_of_getElem? (i := 13) rfl)
theorem tX9_foundBy_25 : (25, a_getR 9 3 28) ∈ kX9_foundBy := qX9_foundBy_0 _ (List.mem_of_getElem? (i := 14) rfl)
theorem tX9_foundBy_28 : (28, a_iload 4 30) ∈ kX9_foundBy := qX9_foundBy_0 _ (List.mem_of_getElem? (i := 15) rfl)
theorem tX9_foundBy_30 : (30, a_lald 31) ∈ kX9_foundBy := qX9_foundBy_0 _ (List.mem_of_getElem? (i := 16) rfl)
theorem tX9_foundBy_31 : (31, a_goto 35) ∈ kX9_foundBy := qX9_foundBy_0 _ (List.mem_of_getElem? (i := 17) rfl)
theorem tX9_foundBy_34 : (34, a_l 0 35) ∈ kX9_foundBy := qX9_foundBy_0 _ (List.mem_of_getElem? (i := 18) rfl)
theorem tX9_foundBy_35 : (35, a_ll (fun x y => x ||| y) 36) ∈ kX9_foundBy := qX9_foundBy_0 _ (List.mem_of_getElem? (i := 19) rfl)
theorem tX9_foundBy_36 : (36, a_lstore 2 37) ∈ kX9_foundBy := qX9_foundBy_0 _ (List.mem_of_getElem? (i := 20) rfl)
theorem tX9_foundBy_37 : (37, a_iinc 4 1 40) ∈ kX9_foundBy := qX9_foundBy_0 _ (List.mem_of_getElem? (i := 21) rfl)
theorem tX9_foundBy_40 : (40, a_goto 5) ∈ kX9_foundBy := qX9_foundBy_0 _ (List.mem_of_getElem? (i := 22) rfl)
theorem tX9_foundBy_43 : (43, a_lload 2 44) ∈ kX9_foundBy := qX9_foundBy_0 _ (List.mem_of_getElem? (i := 23) rfl)
theorem qX9_foundBy_1 : ∀ q ∈ kX9_foundBy_1, q ∈ kX9_foundBy := fun _ h => (List.mem_append_right _ h)
theorem tX9_foundBy_44 : (44, a_lret) ∈ kX9_foundBy := qX9_foundBy_1 _ (List.mem_of_getElem? (i := 0) rfl)
theorem oX9_foundBy : ∀ q ∈ kX9_foundBy, zSnd zty false RX9 cX9_foundBy 5 (some .long) false q := List.forall_mem_append.mpr ⟨oX9_foundBy_0, oX9_foundBy_1⟩
theorem dX9_thatCouldBe_0 : decode cX9_thatCouldBe 0 = .ok (.ldc2_w 55, 3) := by decide +kernel
theorem dX9_thatCouldBe_3 : decode cX9_thatCouldBe 3 = .ok (.lstore_n 3, 1) := by decide +kernel
theorem dX9_thatCouldBe_4 : decode cX9_thatCouldBe 4 = .ok (.iconst 0, 1) := by decide +kernel
theorem dX9_thatCouldBe_5 : decode cX9_thatCouldBe 5 = .ok (.istore 5, 2) := by decide +kernel
theorem dX9_thatCouldBe_7 : decode cX9_thatCouldBe 7 = .ok (.iload 5, 2) := by decide +kernel
theorem dX9_thatCouldBe_9 : decode cX9_thatCouldBe 9 = .ok (.aload_n 0, 1) := by decide +kernel
theorem dX9_thatCouldBe_10 : decode cX9_thatCouldBe 10 = .ok (.getfield 18, 3) := by decide +kernel
theorem dX9_thatCouldBe_13 : decode cX9_thatCouldBe 13 = .ok (.if_icmp .ge 47, 3) := by decide +kernel
theorem dX9_thatCouldBe_16 : decode cX9_thatCouldBe 16 = .ok (.aload_n 0, 1) := by decide +kernel
theorem dX9_thatCouldBe_17 : decode cX9_thatCouldBe 17 = .ok (.getfield 15, 3) := by decide +kernel
theorem dX9_thatCouldBe_20 : decode cX9_thatCouldBe 20 = .ok (.iload 5, 2) := by decide +kernel
theorem dX9_thatCouldBe_22 : decode cX9_thatCouldBe 22 = .ok (.iaload, 1) := by decide +kernel
theorem dX9_thatCouldBe_23 : decode cX9_thatCouldBe 23 = .ok (.iconst (-1), 1) := by decide +kernel
theorem dX9_thatCouldBe_24 : decode cX9_thatCouldBe 24 = .ok (.if_icmp .eq 30, 3) := by decide +kernel
theorem dX9_thatCouldBe_27 : decode cX9_thatCouldBe 27 = .ok (.aload_n 0, 1) := by decide +kernel
theorem dX9_thatCouldBe_28 : decode cX9_thatCouldBe 28 = .ok (.aload_n 1, 1) := by decide +kernel
theorem dX9_thatCouldBe_29 : decode cX9_thatCouldBe 29 = .ok (.iload_n 2, 1) := by decide +kernel
theorem dX9_thatCouldBe_30 : decode cX9_thatCouldBe 30 = .ok (.aload_n 0, 1) := by decide +kernel
theorem dX9_thatCouldBe_31 : decode cX9_thatCouldBe 31 = .ok (.getfield 11, 3) := by decide +kernel
theorem dX9_thatCouldBe_34 : decode cX9_thatCouldBe 34 = .ok (.iload 5, 2) := by decide +kernel
theorem dX9_thatCouldBe_36 : decode cX9_thatCouldBe 36 = .ok (.iaload, 1) := by decide +kernel
theorem dX9_thatCouldBe_37 : decode cX9_thatCouldBe 37 = .ok (.invokevirtual 59, 3) := by decide +kernel
theorem dX9_thatCouldBe_40 : decode cX9_thatCouldBe 40 = .ok (.lload_n 3, 1) := by decide +kernel
theorem dX9_thatCouldBe_41 : decode cX9_thatCouldBe 41 = .ok (.aload_n 0, 1) := by decide +kernel
theorem dX9_thatCouldBe_42 : decode cX9_thatCouldBe 42 = .ok (.aload_n 0, 1) := by decide +kernel
theorem dX9_thatCouldBe_43 : decode cX9_thatCouldBe 43 = .ok (.getfield 15, 3) := by decide +kernel
theorem dX9_thatCouldBe_46 : decode cX9_thatCouldBe 46 = .ok (.iload 5, 2) := by decide +kernel
theorem dX9_thatCouldBe_48 : decode cX9_thatCouldBe 48 = .ok (.iaload, 1) := by decide +kernel
theorem dX9_thatCouldBe_49 : decode cX9_thatCouldBe 49 = .ok (.invokevirtual 63, 3) := by decide +kernel
theorem dX9_thatCouldBe_52 : decode cX9_thatCouldBe 52 = .ok (.land, 1) := by decide +kernel
theorem dX9_thatCouldBe_53 : decode cX9_thatCouldBe 53 = .ok (.lstore_n 3, 1) := by decide +kernel
theorem dX9_thatCouldBe_54 : decode cX9_thatCouldBe 54 = .ok (.iinc 5 1, 3) := by decide +kernel
theorem dX9_thatCouldBe_57 : decode cX9_thatCouldBe 57 = .ok (.goto (-50), 3) := by decide +kernel
theorem dX9_thatCouldBe_60 : decode cX9_thatCouldBe 60 = .ok (.lload_n 3, 1) := by decide +kernel
theorem dX9_thatCouldBe_61 : decode cX9_thatCouldBe 61 = .ok (.lreturn, 1) := by decide +kernel
def kX9_thatCouldBe_0 : List (Nat × zT) := [(0, a_l 549755813887 3), (3, a_lstore 3 4), (4, a_i 0 5), (5, a_istore 5 7), (7, a_iload 5 9), (9, a_aload 0 10), (10, a_getI 9 2 13), (13, a_ic_ge 60 16), (16, a_aload 0 17), (17, a_getR 9 1 20), (20, a_iload 5 22), (22, a_iald 23), (23, a_i (-1) 24), (24, a_ic_eq 54 27), (27, a_aload 0 28), (28, a_aload 1 29), (29, a_iload 2 30), (30, a_aload 0 31), (31, a_getR 9 0 34), (34, a_iload 5 36), (36, a_iald 37), (37, a_callV 9 70 4 40 0 0), (40, a_lload 3 41), (41, a_aload 0 42)]
theorem oX9_thatCouldBe_0 : ∀ q ∈ kX9_thatCouldBe_0, zSnd zty false RX9 cX9_thatCouldBe 6 (some .long) false q := List.forall_mem_cons.mpr ⟨ok_ldc2 dX9_thatCouldBe_0 w854, List.forall_mem_cons.mpr ⟨ok_lstore_n dX9_thatCouldBe_3 rfl (by decide), List.forall_mem_cons.mpr ⟨ok_iconst dX9_thatCouldBe_4 (by decide), List.forall_mem_cons.mpr ⟨ok_istore dX9_thatCouldBe_5 (by decide), List.forall_mem_cons.mpr ⟨ok_iload dX9_thatCouldBe_7, List.forall_mem_cons.mpr ⟨ok_aload_n dX9_thatCouldBe_9 rfl, List.forall_mem_cons.mpr ⟨ok_getI dX9_thatCouldBe_10 rfl in9 (by decide) rfl w288, List.forall_mem_cons.mpr ⟨ok_ic_ge dX9_thatCouldBe_13 (by decide), List.forall_mem_cons.mpr ⟨ok_aload_n dX9_thatCouldBe_16 rfl, List.forall_mem_cons.mpr ⟨ok_getR dX9_thatCouldBe_17 rfl in9 (by decide) rfl w286, List.forall_mem_cons.mpr ⟨ok_iload dX9_thatCouldBe_20, List.forall_mem_cons.mpr ⟨ok_iald dX9_thatCouldBe_22, List.forall_mem_cons.mpr ⟨ok_iconst dX9_thatCouldBe_23 (by decide), List.forall_mem_cons.mpr ⟨ok_ic_eq dX9_thatCouldBe_24 (by decide), List.forall_mem_cons.mpr ⟨ok_aload_n dX9_thatCouldBe_27 rfl, List.forall_mem_cons.mpr ⟨ok_aload_n dX9_thatCouldBe_28 rfl, List.forall_mem_cons.mpr ⟨ok_iload_n dX9_thatCouldBe_29 rfl, List.forall_mem_cons.mpr ⟨ok_aload_n dX9_thatCouldBe_30 rfl, List.forall_mem_cons.mpr ⟨ok_getR dX9_thatCouldBe_31 rfl in9 (by decide) rfl w285, List.forall_mem_cons.mpr ⟨ok_iload dX9_thatCouldBe_34, List.forall_mem_cons.mpr ⟨ok_iald dX9_thatCouldBe_36, List.forall_mem_cons.mpr ⟨ok_callV dX9_thatCouldBe_37 rfl rfl w851 w891 w849 w11 w850 (by decide +kernel) (by decide), List.forall_mem_cons.mpr ⟨ok_lload_n dX9_thatCouldBe_40 rfl, List.forall_mem_cons.mpr ⟨ok_aload_n dX9_thatCouldBe_41 rfl, fun _ h => absurd h List.not_mem_nil⟩⟩⟩⟩⟩⟩⟩⟩⟩⟩⟩⟩⟩⟩⟩⟩⟩⟩⟩⟩⟩⟩⟩⟩
def kX9_thatCouldBe_1 : List (Nat × zT) := [(42, a_aload 0 43), (43, a_getR 9 1 46), (46, a_iload 5 48), (48, a_iald 49), (49, a_callV 9 72 2 52 0 0), (52, a_ll (fun x y => x &&& y) 53), (53, a_lstore 3 54), (54, a_iinc 5 1 57), (57, a_goto 7), (60, a_lload 3 61), (61, a_lret)]
theorem oX9_thatCouldBe_1 : ∀ q ∈ kX9_thatCouldBe_1, zSnd zty false RX9 cX9_thatCouldBe 6 (some .long) false q := List.forall_mem_cons.mpr ⟨ok_aload_n dX9_thatCouldBe_42 rfl, List.forall_mem_cons.mpr ⟨ok_getR dX9_thatCouldBe_43 rfl in9 (by decide) rfl w286, List.forall_mem_cons.mpr ⟨ok_iload dX9_thatCouldBe_46, List.forall_mem_cons.mpr ⟨ok_iald dX9_thatCouldBe_48, List.forall_mem_cons.mpr ⟨ok_callV dX9_thatCouldBe_49 rfl rfl w895 w892 w894 w11 s19 (by decide +kernel) (by decide), List.forall_mem_cons.mpr ⟨ok_land dX9_thatCouldBe_52, List.forall_mem_cons.mpr ⟨ok_lstore_n dX9_thatCouldBe_53 rfl (by decide), List.forall_mem_cons.mpr ⟨ok_iinc dX9_thatCouldBe_54 (by decide) (by decide), List.forall_mem_cons.mpr ⟨ok_goto dX9_thatCouldBe_57 (by decide), List.forall_mem_cons.mpr ⟨ok_lload_n dX9_thatCouldBe_60 rfl, List.forall_mem_cons.mpr ⟨ok_lret dX9_thatCouldBe_61 rfl, fun _ h => absurd h List.not_mem_nil⟩⟩⟩⟩⟩⟩⟩⟩⟩⟩⟩
def kX9_thatCouldBe : List (Nat × zT) := kX9_thatCouldBe_0 ++ (kX9_thatCouldBe_1)
theorem qX9_thatCouldBe_0 : ∀ q ∈ kX9_thatCouldBe_0, q ∈ kX9_thatCouldBe := fun _ h => (List.mem_append_left _ h)
theorem tX9_thatCouldBe_0 : (0, a_l 549755813887 3) ∈ kX9_thatCouldBe := qX9_thatCouldBe_0 _ (List.mem_of_getElem? (i := 0) rfl)
theorem tX9_thatCouldBe_3 : (3, a_lstore 3 4) ∈ kX9_thatCouldBe := qX9_thatCouldBe_0 _ (List.mem_of_getElem? (i := 1) rfl)
theorem tX9_thatCouldBe_4 : (4, a_i 0 5) ∈ kX9_thatCouldBe := qX9_thatCouldBe_0 _ (List.mem_of_getElem? (i := 2) rfl)
theorem tX9_thatCouldBe_5 : (5, a_istore 5 7) ∈ kX9_thatCouldBe := qX9_thatCouldBe_0 _ (List.mem_of_getElem? (i := 3) rfl)
theorem tX9_thatCouldBe_7 : (7, a_iload 5 9) ∈ kX9_thatCouldBe := qX9_thatCouldBe_0 _ (List.mem_of_getElem? (i := 4) rfl)
theorem tX9_thatCouldBe_9 : (9, a_aload 0 10) ∈ kX9_thatCouldBe := qX9_thatCouldBe_0 _ (List.mem_of_getElem? (i := 5) rfl)
theorem tX9_thatCouldBe_10 : (10, a_getI 9 2 13) ∈ kX9_thatCouldBe := qX9_thatCouldBe_0 _ (List.mem_of_getElem? (i := 6) rfl)
theorem tX9_thatCouldBe_13 : (13, a_ic_ge 60 16) ∈ kX9_thatCouldBe := qX9_thatCouldBe_0 _ (List.mem_of_getElem? (i := 7) rfl)
theorem tX9_thatCouldBe_16 : (16, a_aload 0 17) ∈ kX9_thatCouldBe := qX9_thatCouldBe_0 _ (List.mem_of_getElem? (i := 8) rfl)
theorem tX9_thatCouldBe_17 : (17, a_getR 9 1 20) ∈ kX9_thatCouldBe := qX9_thatCouldBe_0 _ (List.mem_of_getElem? (i := 9) rfl)
theorem tX9_thatCouldBe_20 : (20, a_iload 5 22) ∈ kX9_thatCouldBe := qX9_thatCouldBe_0 _ (List.mem_of_getElem? (i := 10) rfl)
theorem tX9_thatCouldBe_22 : (22, a_iald 23) ∈ kX9_thatCouldBe := qX9_thatCouldBe_0 _ (List.mem_of_getElem? (i := 11) rfl)
theorem tX9_thatCouldBe_23 : (23, a_i (-1) 24) ∈ kX9_thatCouldBe := qX9_thatCouldBe_0 _ (List.mem_of_getElem? (i := 12) rfl)
theorem tX9_thatCouldBe_24 : (24, a_ic_eq 54 27) ∈ kX9_thatCouldBe := qX9_thatCouldBe_0 _ (List.mem_of_getElem? (i := 13) rfl)
theorem tX9_thatCouldBe_27 : (27, a_aload 0 28) ∈ kX9_thatCouldBe := qX9_thatCouldBe_0 _ (List.mem_of_getElem? (i := 14) rfl)
theorem tX9_thatCouldBe_28 : (28, a_aload 1 29) ∈ kX9_thatCouldBe := qX9_thatCouldBe_0 _ (List.mem_of_getElem? (i := 15) rfl)
theorem tX9_thatCouldBe_29 : (29, a_iload 2 30) ∈ kX9_thatCouldBe := qX9_thatCouldBe_0 _ (List.mem_of_getElem? (i := 16) rfl)
theorem tX9_thatCouldBe_30 : (30, a_aload 0 31) ∈ kX9_thatCouldBe := qX9_thatCouldBe_0 _ (List.mem_of_getElem? (i := 17) rfl)
theorem tX9_thatCouldBe_31 : (31, a_getR 9 0 34) ∈ kX9_thatCouldBe := qX9_thatCouldBe_0 _ (List.mem_of_getElem? (i := 18) rfl)
theorem tX9_thatCouldBe_34 : (34, a_iload 5 36) ∈ kX9_thatCouldBe := qX9_thatCouldBe_0 _ (List.mem_of_getElem? (i := 19) rfl)
theorem tX9_thatCouldBe_36 : (36, a_iald 37) ∈ kX9_thatCouldBe := qX9_thatCouldBe_0 _ (List.mem_of_getElem? (i := 20) rfl)
theorem tX9_thatCouldBe_37 : (37, a_callV 9 70 4 40 0 0) ∈ kX9_thatCouldBe := qX9_thatCouldBe_0 _ (List.mem_of_getElem? (i := 21) rfl)
theorem tX9_thatCouldBe_40 : (40, a_lload 3 41) ∈ kX9_thatCouldBe := qX9_thatCouldBe_0 _ (List.mem_of_getElem? (i := 22) rfl)
theorem tX9_thatCouldBe_41 : (41, a_aload 0 42) ∈ kX9_thatCouldBe := qX9_thatCouldBe_0 _ (List.mem_of_getElem? (i := 23) rfl)
theorem qX9_thatCouldBe_1 : ∀ q ∈ kX9_thatCouldBe_1, q ∈ kX9_thatCouldBe := fun _ h => (List.mem_append_right _ h)
theorem tX9_thatCouldBe_42 : (42, a_aload 0 43) ∈ kX9_thatCouldBe := qX9_thatCouldBe_1 _ (List.mem_of_getElem? (i := 0) rfl)
theorem tX9_thatCouldBe_43 : (43, a_getR 9 1 46) ∈ kX9_thatCouldBe := qX9_thatCouldBe_1 _ (List.mem_of_getElem? (i := 1) rfl)
theorem tX9_thatCouldBe_46 : (46, a_iload 5 48) ∈ kX9_thatCouldBe := qX9_thatCouldBe_1 _ (List.mem_of_getElem? (i := 2) rfl)
theorem tX9_thatCouldBe_48 : (48, a_iald 49) ∈ kX9_thatCouldBe := qX9_thatCouldBe_1 _ (List.mem_of_getElem? (i := 3) rfl)
theorem tX9_thatCouldBe_49 : (49, a_callV 9 72 2 52 0 0) ∈ kX9_thatCouldBe := qX9_thatCouldBe_1 _ (List.mem_of_getElem? (i := 4) rfl)
theorem tX9_thatCouldBe_52 : (52, a_ll (fun x y => x &&& y) 53) ∈ kX9_thatCouldBe := qX9_thatCouldBe_1 _ (List.mem_of_getElem? (i := 5) rfl)
theorem tX9_thatCouldBe_53 : (53, a_lstore 3 54) ∈ kX9_thatCouldBe := qX9_thatCouldBe_1 _ (List.mem_of_getElem? (i := 6) rfl)
theorem tX9_thatCouldBe_54 : (54, a_iinc 5 1 57) ∈ kX9_thatCouldBe := qX9_thatCouldBe_1 _ (List.mem_of_getElem? (i := 7) rfl)
theorem tX9_thatCouldBe_57 : (57, a_goto 7) ∈ kX9_thatCouldBe := qX9_thatCouldBe_1 _ (List.mem_of_getElem? (i := 8) rfl)
theorem tX9_thatCouldBe_60 : (60, a_lload 3 61) ∈ kX9_thatCouldBe := qX9_thatCouldBe_1 _ (List.mem_of_getElem? (i := 9) rfl)
theorem tX9_thatCouldBe_61 : (61, a_lret) ∈ kX9_thatCouldBe := qX9_thatCouldBe_1 _ (List.mem_of_getElem? (i := 10) rfl)
theorem oX9_thatCouldBe : ∀ q ∈ kX9_thatCouldBe, zSnd zty false RX9 cX9_thatCouldBe 6 (some .long) false q := List.forall_mem_append.mpr ⟨oX9_thatCouldBe_0, oX9_thatCouldBe_1⟩
theorem dX9_bestToPart_0 : decode cX9_bestToPart 0 = .ok (.aload_n 0, 1) := by decide +kernel
theorem dX9_bestToPart_1 : decode cX9_bestToPart 1 = .ok (.aload_n 1, 1) := by decide +kernel
theorem dX9_bestToPart_2 : decode cX9_bestToPart 2 = .ok (.iload_n 2, 1) := by decide +kernel
theorem dX9_bestToPart_3 : decode cX9_bestToPart 3 = .ok (.invokevirtual 76, 3) := by decide +kernel
theorem dX9_bestToPart_6 : decode cX9_bestToPart 6 = .ok (.lstore_n 3, 1) := by decide +kernel
theorem dX9_bestToPart_7 : decode cX9_bestToPart 7 = .ok (.lload_n 3, 1) := by decide +kernel
theorem dX9_bestToPart_8 : decode cX9_bestToPart 8 = .ok (.invokestatic 80, 3) := by decide +kernel
theorem dX9_bestToPart_11 : decode cX9_bestToPart 11 = .ok (.iconst 1, 1) := by decide +kernel
theorem dX9_bestToPart_12 : decode cX9_bestToPart 12 = .ok (.if_icmp .gt 6, 3) := by decide +kernel
theorem dX9_bestToPart_15 : decode cX9_bestToPart 15 = .ok (.bipush (-4), 2) := by decide +kernel
theorem dX9_bestToPart_17 : decode cX9_bestToPart 17 = .ok (.ireturn, 1) := by decide +kernel
theorem dX9_bestToPart_18 : decode cX9_bestToPart 18 = .ok (.bipush (-4), 2) := by decide +kernel
theorem dX9_bestToPart_20 : decode cX9_bestToPart 20 = .ok (.istore 5, 2) := by decide +kernel
theorem dX9_bestToPart_22 : decode cX9_bestToPart 22 = .ok (.bipush 40, 2) := by decide +kernel
theorem dX9_bestToPart_24 : decode cX9_bestToPart 24 = .ok (.istore 6, 2) := by decide +kernel
theorem dX9_bestToPart_26 : decode cX9_bestToPart 26 = .ok (.iconst 0, 1) := by decide +kernel
theorem dX9_bestToPart_27 : decode cX9_bestToPart 27 = .ok (.istore 7, 2) := by decide +kernel
theorem dX9_bestToPart_29 : decode cX9_bestToPart 29 = .ok (.iload 7, 2) := by decide +kernel
theorem dX9_bestToPart_31 : decode cX9_bestToPart 31 = .ok (.aload_n 0, 1) := by decide +kernel
theorem dX9_bestToPart_32 : decode cX9_bestToPart 32 = .ok (.getfield 18, 3) := by decide +kernel
theorem dX9_bestToPart_35 : decode cX9_bestToPart 35 = .ok (.if_icmp .ge 55, 3) := by decide +kernel
theorem dX9_bestToPart_38 : decode cX9_bestToPart 38 = .ok (.aload_n 0, 1) := by decide +kernel
theorem dX9_bestToPart_39 : decode cX9_bestToPart 39 = .ok (.getfield 15, 3) := by decide +kernel
theorem dX9_bestToPart_42 : decode cX9_bestToPart 42 = .ok (.iload 7, 2) := by decide +kernel
theorem dX9_bestToPart_44 : decode cX9_bestToPart 44 = .ok (.iaload, 1) := by decide +kernel
theorem dX9_bestToPart_45 : decode cX9_bestToPart 45 = .ok (.iconst (-1), 1) := by decide +kernel
theorem dX9_bestToPart_46 : decode cX9_bestToPart 46 = .ok (.if_icmp .ne 38, 3) := by decide +kernel
theorem dX9_bestToPart_49 : decode cX9_bestToPart 49 = .ok (.aload_n 0, 1) := by decide +kernel
theorem dX9_bestToPart_50 : decode cX9_bestToPart 50 = .ok (.aload_n 1, 1) := by decide +kernel
theorem dX9_bestToPart_51 : decode cX9_bestToPart 51 = .ok (.iload_n 2, 1) := by decide +kernel
theorem dX9_bestToPart_52 : decode cX9_bestToPart 52 = .ok (.aload_n 0, 1) := by decide +kernel
theorem dX9_bestToPart_53 : decode cX9_bestToPart 53 = .ok (.getfield 11, 3) := by decide +kernel
theorem dX9_bestToPart_56 : decode cX9_bestToPart 56 = .ok (.iload 7, 2) := by decide +kernel
theorem dX9_bestToPart_58 : decode cX9_bestToPart 58 = .ok (.iaload, 1) := by decide +kernel
theorem dX9_bestToPart_59 : decode cX9_bestToPart 59 = .ok (.invokevirtual 59, 3) := by decide +kernel
theorem dX9_bestToPart_62 : decode cX9_bestToPart 62 = .ok (.aload_n 0, 1) := by decide +kernel
theorem dX9_bestToPart_63 : decode cX9_bestToPart 63 = .ok (.lload_n 3, 1) := by decide +kernel
theorem dX9_bestToPart_64 : decode cX9_bestToPart 64 = .ok (.invokevirtual 85, 3) := by decide +kernel
theorem dX9_bestToPart_67 : decode cX9_bestToPart 67 = .ok (.istore 8, 2) := by decide +kernel
theorem dX9_bestToPart_69 : decode cX9_bestToPart 69 = .ok (.iload 8, 2) := by decide +kernel
theorem dX9_bestToPart_71 : decode cX9_bestToPart 71 = .ok (.iload 6, 2) := by decide +kernel
theorem dX9_bestToPart_73 : decode cX9_bestToPart 73 = .ok (.if_icmp .ge 11, 3) := by decide +kernel
theorem dX9_bestToPart_76 : decode cX9_bestToPart 76 = .ok (.iload 8, 2) := by decide +kernel
theorem dX9_bestToPart_78 : decode cX9_bestToPart 78 = .ok (.istore 6, 2) := by decide +kernel
theorem dX9_bestToPart_80 : decode cX9_bestToPart 80 = .ok (.iload 7, 2) := by decide +kernel
theorem dX9_bestToPart_82 : decode cX9_bestToPart 82 = .ok (.istore 5, 2) := by decide +kernel
theorem dX9_bestToPart_84 : decode cX9_bestToPart 84 = .ok (.iinc 7 1, 3) := by decide +kernel
theorem dX9_bestToPart_87 : decode cX9_bestToPart 87 = .ok (.goto (-58), 3) := by decide +kernel
theorem dX9_bestToPart_90 : decode cX9_bestToPart 90 = .ok (.iload 5, 2) := by decide +kernel
theorem dX9_bestToPart_92 : decode cX9_bestToPart 92 = .ok (.ireturn, 1) := by decide +kernel
def kX9_bestToPart_0 : List (Nat × zT) := [(0, a_aload 0 1), (1, a_aload 1 2), (2, a_iload 2 3), (3, a_callV 9 76 3 6 0 0), (6, a_lstore 3 7), (7, a_lload 3 8), (8, a_call 219 1 11 0 0), (11, a_i 1 12), (12, a_ic_gt 18 15), (15, a_i (-4) 17), (17, a_iret false), (18, a_i (-4) 20), (20, a_istore 5 22), (22, a_i 40 24), (24, a_istore 6 26), (26, a_i 0 27), (27, a_istore 7 29), (29, a_iload 7 31), (31, a_aload 0 32), (32, a_getI 9 2 35), (35, a_ic_ge 90 38), (38, a_aload 0 39), (39, a_getR 9 1 42), (42, a_iload 7 44)]
theorem oX9_bestToPart_0 : ∀ q ∈ kX9_bestToPart_0, zSnd zty false RX9 cX9_bestToPart 9 (some .int) false q := List.forall_mem_cons.mpr ⟨ok_aload_n dX9_bestToPart_0 rfl, List.forall_mem_cons.mpr ⟨ok_aload_n dX9_bestToPart_1 rfl, List.forall_mem_cons.mpr ⟨ok_iload_n dX9_bestToPart_2 rfl, List.forall_mem_cons.mpr ⟨ok_callV dX9_bestToPart_3 rfl rfl w917 w930 w915 w11 w916 (by decide +kernel) (by decide), List.forall_mem_cons.mpr ⟨ok_lstore_n dX9_bestToPart_6 rfl (by decide), List.forall_mem_cons.mpr ⟨ok_lload_n dX9_bestToPart_7 rfl, List.forall_mem_cons.mpr ⟨ok_callS dX9_bestToPart_8 rfl w602 w931 w601 w17 (by decide +kernel) (by decide), List.forall_mem_cons.mpr ⟨ok_iconst dX9_bestToPart_11 (by decide), List.forall_mem_cons.mpr ⟨ok_ic_gt dX9_bestToPart_12 (by decide), List.forall_mem_cons.mpr ⟨ok_bipush dX9_bestToPart_15 (by decide), List.forall_mem_cons.mpr ⟨ok_iret (bz := false) dX9_bestToPart_17 rfl, List.forall_mem_cons.mpr ⟨ok_bipush dX9_bestToPart_18 (by decide), List.forall_mem_cons.mpr ⟨ok_istore dX9_bestToPart_20 (by decide), List.forall_mem_cons.mpr ⟨ok_bipush dX9_bestToPart_22 (by decide), List.forall_mem_cons.mpr ⟨ok_istore dX9_bestToPart_24 (by decide), List.forall_mem_cons.mpr ⟨ok_iconst dX9_bestToPart_26 (by decide), List.forall_mem_cons.mpr ⟨ok_istore dX9_bestToPart_27 (by decide), List.forall_mem_cons.mpr ⟨ok_iload dX9_bestToPart_29, List.forall_mem_cons.mpr ⟨ok_aload_n dX9_bestToPart_31 rfl, List.forall_mem_cons.mpr ⟨ok_getI dX9_bestToPart_32 rfl in9 (by decide) rfl w288, List.forall_mem_cons.mpr ⟨ok_ic_ge dX9_bestToPart_35 (by decide), List.forall_mem_cons.mpr ⟨ok_aload_n dX9_bestToPart_38 rfl, List.forall_mem_cons.mpr ⟨ok_getR dX9_bestToPart_39 rfl in9 (by decide) rfl w286, List.forall_mem_cons.mpr ⟨ok_iload dX9_bestToPart_42, fun _ h => absurd h List.not_mem_nil⟩⟩⟩⟩⟩⟩⟩⟩⟩⟩⟩⟩⟩⟩⟩⟩⟩⟩⟩⟩⟩⟩⟩⟩
def kX9_bestToPart_1 : List (Nat × zT) := [(44, a_iald 45), (45, a_i (-1) 46), (46, a_ic_ne 84 49), (49, a_aload 0 50), (50, a_aload 1 51), (51, a_iload 2 52), (52, a_aload 0 53), (53, a_getR 9 0 56), (56, a_iload 7 58), (58, a_iald 59), (59, a_callV 9 70 4 62 0 0), (62, a_aload 0 63), (63, a_lload 3 64), (64, a_callV 9 78 2 67 0 0), (67, a_istore 8 69), (69, a_iload 8 71), (71, a_iload 6 73), (73, a_ic_ge 84 76), (76, a_iload 8 78), (78, a_istore 6 80), (80, a_iload 7 82), (82, a_istore 5 84), (84, a_iinc 7 1 87), (87, a_goto 29)]
theorem oX9_bestToPart_1 : ∀ q ∈ kX9_bestToPart_1, zSnd zty false RX9 cX9_bestToPart 9 (some .int) false q := List.forall_mem_cons.mpr ⟨ok_iald dX9_bestToPart_44, List.forall_mem_cons.mpr ⟨ok_iconst dX9_bestToPart_45 (by decide), List.forall_mem_cons.mpr ⟨ok_ic_ne dX9_bestToPart_46 (by decide), List.forall_mem_cons.mpr ⟨ok_aload_n dX9_bestToPart_49 rfl, List.forall_mem_cons.mpr ⟨ok_aload_n dX9_bestToPart_50 rfl, List.forall_mem_cons.mpr ⟨ok_iload_n dX9_bestToPart_51 rfl, List.forall_mem_cons.mpr ⟨ok_aload_n dX9_bestToPart_52 rfl, List.forall_mem_cons.mpr ⟨ok_getR dX9_bestToPart_53 rfl in9 (by decide) rfl w285, List.forall_mem_cons.mpr ⟨ok_iload dX9_bestToPart_56, List.forall_mem_cons.mpr ⟨ok_iald dX9_bestToPart_58, List.forall_mem_cons.mpr ⟨ok_callV dX9_bestToPart_59 rfl rfl w851 w891 w849 w11 w850 (by decide +kernel) (by decide), List.forall_mem_cons.mpr ⟨ok_aload_n dX9_bestToPart_62 rfl, List.forall_mem_cons.mpr ⟨ok_lload_n dX9_bestToPart_63 rfl, List.forall_mem_cons.mpr ⟨ok_callV dX9_bestToPart_64 rfl rfl w935 w932 w934 w11 s21 (by decide +kernel) (by decide), List.forall_mem_cons.mpr ⟨ok_istore dX9_bestToPart_67 (by decide), List.forall_mem_cons.mpr ⟨ok_iload dX9_bestToPart_69, List.forall_mem_cons.mpr ⟨ok_iload dX9_bestToPart_71, List.forall_mem_cons.mpr ⟨ok_ic_ge dX9_bestToPart_73 (by decide), List.forall_mem_cons.mpr ⟨ok_iload dX9_bestToPart_76, List.forall_mem_cons.mpr ⟨ok_istore dX9_bestToPart_78 (by decide), List.forall_mem_cons.mpr ⟨ok_iload dX9_bestToPart_80, List.forall_mem_cons.mpr ⟨ok_istore dX9_bestToPart_82 (by decide), List.forall_mem_cons.mpr ⟨ok_iinc dX9_bestToPart_84 (by decide) (by decide), List.forall_mem_cons.mpr ⟨ok_goto dX9_bestToPart_87 (by decide), fun _ h => absurd h List.not_mem_nil⟩⟩⟩⟩⟩⟩⟩⟩⟩⟩⟩⟩⟩⟩⟩⟩⟩⟩⟩⟩⟩⟩⟩⟩
def kX9_bestToPart_2 : List (Nat × zT) := [(90, a_iload 5 92), (92, a_iret false)]
theorem oX9_bestToPart_2 : ∀ q ∈ kX9_bestToPart_2, zSnd zty false RX9 cX9_bestToPart 9 (some .int) false q := List.forall_mem_cons.mpr ⟨ok_iload dX9_bestToPart_90, List.forall_mem_cons.mpr ⟨ok_iret (bz := false) dX9_bestToPart_92 rfl, fun _ h => absurd h List.not_mem_nil⟩⟩
def kX9_bestToPart : List (Nat × zT) := kX9_bestToPart_0 ++ (kX9_bestToPart_1 ++ (kX9_bestToPart_2))
theorem qX9_bestToPart_0 : ∀ q ∈ kX9_bestToPart_0, q ∈ kX9_bestToPart := fun _ h => (List.mem_append_left _ h)
theorem tX9_bestToPart_0 : (0, a_aload 0 1) ∈ kX9_bestToPart := qX9_bestToPart_0 _ (List.mem_of_getElem? (i := 0) rfl)
theorem tX9_bestToPart_1 : (1, a_aload 1 2) ∈ kX9_bestToPart := qX9_bestToPart_0 _ (List.mem_of_getElem? (i := 1) rfl)
theorem tX9_bestToPart_2 : (2, a_iload 2 3) ∈ kX9_bestToPart := qX9_bestToPart_0 _ (List.mem_of_getElem? (i := 2) rfl)
theorem tX9_bestToPart_3 : (3, a_callV 9 76 3 6 0 0) ∈ kX9_bestToPart := qX9_bestToPart_0 _ (List.mem_of_getElem? (i := 3) rfl)
theorem tX9_bestToPart_6 : (6, a_lstore 3 7) ∈ kX9_bestToPart := qX9_bestToPart_0 _ (List.mem_of_getElem? (i := 4) rfl)
theorem tX9_bestToPart_7 : (7, a_lload 3 8) ∈ kX9_bestToPart := qX9_bestToPart_0 _ (List.mem_of_getElem? (i := 5) rfl)
theorem tX9_bestToPart_8 : (8, a_call 219 1 11 0 0) ∈ kX9_bestToPart := qX9_bestToPart_0 _ (List.mem_of_getElem? (i := 6) rfl)
theorem tX9_bestToPart_11 : (11, a_i 1 12) ∈ kX9_bestToPart := qX9_bestToPart_0 _ (List.mem_of_getElem? (i := 7) rfl)
theorem tX9_bestToPart_12 : (12, a_ic_gt 18 15) ∈ kX9_bestToPart := qX9_bestToPart_0 _ (List.mem_of_getElem? (i := 8) rfl)
theorem tX9_bestToPart_15 : (15, a_i (-4) 17) ∈ kX9_bestToPart := qX9_bestToPart_0 _ (List.mem_of_getElem? (i := 9) rfl)
theorem tX9_bestToPart_17 : (17, a_iret false) ∈ kX9_bestToPart := qX9_bestToPart_0 _ (List.mem_of_getElem? (i := 10) rfl)
theorem tX9_bestToPart_18 : (18, a_i (-4) 20) ∈ kX9_bestToPart := qX9_bestToPart_0 _ (List.mem_of_getElem? (i := 11) rfl)
theorem tX9_bestToPart_20 : (20, a_istore 5 22) ∈ kX9_bestToPart := qX9_bestToPart_0 _ (List.mem_of_getElem? (i := 12) rfl)
theorem tX9_bestToPart_22 : (22, a_i 40 24) ∈ kX9_bestToPart := qX9_bestToPart_0 _ (List.mem_of_getElem? (i := 13) rfl)
theorem tX9_bestToPart_24 : (24, a_istore 6 26) ∈ kX9_bestToPart := qX9_bestToPart_0 _ (List.mem_of_getElem? (i := 14) rfl)
theorem tX9_bestToPart_26 : (26, a_i 0 27) ∈ kX9_bestToPart := qX9_bestToPart_0 _ (List.mem_of_getElem? (i := 15) rfl)
theorem tX9_bestToPart_27 : (27, a_istore 7 29) ∈ kX9_bestToPart := qX9_bestToPart_0 _ (List.mem_of_getElem? (i := 16) rfl)
theorem tX9_bestToPart_29 : (29, a_iload 7 31) ∈ kX9_bestToPart := qX9_bestToPart_0 _ (List.mem_of_getElem? (i := 17) rfl)
theorem tX9_bestToPart_31 : (31, a_aload 0 32) ∈ kX9_bestToPart := qX9_bestToPart_0 _ (List.mem_of_getElem? (i := 18) rfl)
theorem tX9_bestToPart_32 : (32, a_getI 9 2 35) ∈ kX9_bestToPart := qX9_bestToPart_0 _ (List.mem_of_getElem? (i := 19) rfl)
theorem tX9_bestToPart_35 : (35, a_ic_ge 90 38) ∈ kX9_bestToPart := qX9_bestToPart_0 _ (List.mem_of_getElem? (i := 20) rfl)
theorem tX9_bestToPart_38 : (38, a_aload 0 39) ∈ kX9_bestToPart := qX9_bestToPart_0 _ (List.mem_of_getElem? (i := 21) rfl)
theorem tX9_bestToPart_39 : (39, a_getR 9 1 42) ∈ kX9_bestToPart := qX9_bestToPart_0 _ (List.mem_of_getElem? (i := 22) rfl)
theorem tX9_bestToPart_42 : (42, a_iload 7 44) ∈ kX9_bestToPart := qX9_bestToPart_0 _ (List.mem_of_getElem? (i := 23) rfl)
theorem qX9_bestToPart_1 : ∀ q ∈ kX9_bestToPart_1, q ∈ kX9_bestToPart := fun _ h => (List.mem_append_right _ (List.mem_append_left _ h))
theorem tX9_bestToPart_44 : (44, a_iald 45) ∈ kX9_bestToPart := qX9_bestToPart_1 _ (List.mem_of_getElem? (i := 0) rfl)
theorem tX9_bestToPart_45 : (45, a_i (-1) 46) ∈ kX9_bestToPart := qX9_bestToPart_1 _ (List.mem_of_getElem? (i := 1) rfl)
theorem tX9_bestToPart_46 : (46, a_ic_ne 84 49) ∈ kX9_bestToPart := qX9_bestToPart_1 _ (List.mem_of_getElem? (i := 2) rfl)
theorem tX9_bestToPart_49 : (49, a_aload 0 50) ∈ kX9_bestToPart := qX9_bestToPart_1 _ (List.mem_of_getElem? (i := 3) rfl)
theorem tX9_bestToPart_50 : (50, a_aload 1 51) ∈ kX9_bestToPart := qX9_bestToPart_1 _ (List.mem_of_getElem? (i := 4) rfl)
theorem tX9_bestToPart_51 : (51, a_iload 2 52) ∈ kX9_bestToPart := qX9_bestToPart_1 _ (List.mem_of_getElem? (i := 5) rfl)
theorem tX9_bestToPart_52 : (52, a_aload 0 53) ∈ kX9_bestToPart := qX9_bestToPart_1 _ (List.mem_of_getElem? (i := 6) rfl)
theorem tX9_bestToPart_53 : (53, a_getR 9 0 56) ∈ kX9_bestToPart := qX9_bestToPart_1 _ (List.mem_of_getElem? (i := 7) rfl)
theorem tX9_bestToPart_56 : (56, a_iload 7 58) ∈ kX9_bestToPart := qX9_bestToPart_1 _ (List.mem_of_getElem? (i := 8) rfl)
theorem tX9_bestToPart_58 : (58, a_iald 59) ∈ kX9_bestToPart := qX9_bestToPart_1 _ (List.mem_of_getElem? (i := 9) rfl)
theorem tX9_bestToPart_59 : (59, a_callV 9 70 4 62 0 0) ∈ kX9_bestToPart := qX9_bestToPart_1 _ (List.mem_of_getElem? (i := 10) rfl)
theorem tX9_bestToPart_62 : (62, a_aload 0 63) ∈ kX9_bestToPart := qX9_bestToPart_1 _ (List.mem_of_getElem? (i := 11) rfl)
theorem tX9_bestToPart_63 : (63, a_lload 3 64) ∈ kX9_bestToPart := qX9_bestToPart_1 _ (List.mem_of_getElem? (i := 12) rfl)
theorem tX9_bestToPart_64 : (64, a_callV 9 78 2 67 0 0) ∈ kX9_bestToPart := qX9_bestToPart_1 _ (List.mem_of_getElem? (i := 13) rfl)
theorem tX9_bestToPart_67 : (67, a_istore 8 69) ∈ kX9_bestToPart := qX9_bestToPart_1 _ (List.mem_of_getElem? (i := 14) rfl)
theorem tX9_bestToPart_69 : (69, a_iload 8 71) ∈ kX9_bestToPart := qX9_bestToPart_1 _ (List.mem_of_getElem? (i := 15) rfl)
theorem tX9_bestToPart_71 : (71, a_iload 6 73) ∈ kX9_bestToPart := qX9_bestToPart_1 _ (List.mem_of_getElem? (i := 16) rfl)
theorem tX9_bestToPart_73 : (73, a_ic_ge 84 76) ∈ kX9_bestToPart := qX9_bestToPart_1 _ (List.mem_of_getElem? (i := 17) rfl)
theorem tX9_bestToPart_76 : (76, a_iload 8 78) ∈ kX9_bestToPart := qX9_bestToPart_1 _ (List.mem_of_getElem? (i := 18) rfl)
theorem tX9_bestToPart_78 : (78, a_istore 6 80) ∈ kX9_bestToPart := qX9_bestToPart_1 _ (List.mem_of_getElem? (i := 19) rfl)
theorem tX9_bestToPart_80 : (80, a_iload 7 82) ∈ kX9_bestToPart := qX9_bestToPart_1 _ (List.mem_of_getElem? (i := 20) rfl)
theorem tX9_bestToPart_82 : (82, a_istore 5 84) ∈ kX9_bestToPart := qX9_bestToPart_1 _ (List.mem_of_getElem? (i := 21) rfl)
theorem tX9_bestToPart_84 : (84, a_iinc 7 1 87) ∈ kX9_bestToPart := qX9_bestToPart_1 _ (List.mem_of_getElem? (i := 22) rfl)
theorem tX9_bestToPart_87 : (87, a_goto 29) ∈ kX9_bestToPart := qX9_bestToPart_1 _ (List.mem_of_getElem? (i := 23) rfl)
theorem qX9_bestToPart_2 : ∀ q ∈ kX9_bestToPart_2, q ∈ kX9_bestToPart := fun _ h => (List.mem_append_right _ (List.mem_append_right _ h))
theorem tX9_bestToPart_90 : (90, a_iload 5 92) ∈ kX9_bestToPart := qX9_bestToPart_2 _ (List.mem_of_getElem? (i := 0) rfl)
theorem tX9_bestToPart_92 : (92, a_iret false) ∈ kX9_bestToPart := qX9_bestToPart_2 _ (List.mem_of_getElem? (i := 1) rfl)
theorem oX9_bestToPart : ∀ q ∈ kX9_bestToPart, zSnd zty false RX9 cX9_bestToPart 9 (some .int) false q := List.forall_mem_append.mpr ⟨oX9_bestToPart_0, List.forall_mem_append.mpr ⟨oX9_bestToPart_1, oX9_bestToPart_2⟩⟩
theorem dX9_greatestAlike_0 : decode cX9_greatestAlike 0 = .ok (.iconst 0, 1) := by decide +kernel
theorem dX9_greatestAlike_1 : decode cX9_greatestAlike 1 = .ok (.istore_n 3, 1) := by decide +kernel
theorem dX9_greatestAlike_2 : decode cX9_greatestAlike 2 = .ok (.lload_n 1, 1) := by decide +kernel
theorem dX9_greatestAlike_3 : decode cX9_greatestAlike 3 = .ok (.lstore 4, 2) := by decide +kernel
theorem dX9_greatestAlike_5 : decode cX9_greatestAlike 5 = .ok (.iconst 0, 1) := by decide +kernel
theorem dX9_greatestAlike_6 : decode cX9_greatestAlike 6 = .ok (.istore 6, 2) := by decide +kernel
theorem dX9_greatestAlike_8 : decode cX9_greatestAlike 8 = .ok (.iload 6, 2) := by decide +kernel
theorem dX9_greatestAlike_10 : decode cX9_greatestAlike 10 = .ok (.bipush 38, 2) := by decide +kernel
theorem dX9_greatestAlike_12 : decode cX9_greatestAlike 12 = .ok (.if_icmp .gt 57, 3) := by decide +kernel
theorem dX9_greatestAlike_15 : decode cX9_greatestAlike 15 = .ok (.lload 4, 2) := by decide +kernel
theorem dX9_greatestAlike_17 : decode cX9_greatestAlike 17 = .ok (.iload 6, 2) := by decide +kernel
theorem dX9_greatestAlike_19 : decode cX9_greatestAlike 19 = .ok (.lushr, 1) := by decide +kernel
theorem dX9_greatestAlike_20 : decode cX9_greatestAlike 20 = .ok (.lconst 1, 1) := by decide +kernel
theorem dX9_greatestAlike_21 : decode cX9_greatestAlike 21 = .ok (.land, 1) := by decide +kernel
theorem dX9_greatestAlike_22 : decode cX9_greatestAlike 22 = .ok (.lconst 0, 1) := by decide +kernel
theorem dX9_greatestAlike_23 : decode cX9_greatestAlike 23 = .ok (.lcmp, 1) := by decide +kernel
theorem dX9_greatestAlike_24 : decode cX9_greatestAlike 24 = .ok (.ifCond .eq 39, 3) := by decide +kernel
theorem dX9_greatestAlike_27 : decode cX9_greatestAlike 27 = .ok (.lload 4, 2) := by decide +kernel
theorem dX9_greatestAlike_29 : decode cX9_greatestAlike 29 = .ok (.aload_n 0, 1) := by decide +kernel
theorem dX9_greatestAlike_30 : decode cX9_greatestAlike 30 = .ok (.aload_n 0, 1) := by decide +kernel
theorem dX9_greatestAlike_31 : decode cX9_greatestAlike 31 = .ok (.iload 6, 2) := by decide +kernel
theorem dX9_greatestAlike_33 : decode cX9_greatestAlike 33 = .ok (.invokevirtual 88, 3) := by decide +kernel
theorem dX9_greatestAlike_36 : decode cX9_greatestAlike 36 = .ok (.invokevirtual 63, 3) := by decide +kernel
theorem dX9_greatestAlike_39 : decode cX9_greatestAlike 39 = .ok (.land, 1) := by decide +kernel
theorem dX9_greatestAlike_40 : decode cX9_greatestAlike 40 = .ok (.lstore 7, 2) := by decide +kernel
theorem dX9_greatestAlike_42 : decode cX9_greatestAlike 42 = .ok (.iload_n 3, 1) := by decide +kernel
theorem dX9_greatestAlike_43 : decode cX9_greatestAlike 43 = .ok (.lload 7, 2) := by decide +kernel
theorem dX9_greatestAlike_45 : decode cX9_greatestAlike 45 = .ok (.invokestatic 80, 3) := by decide +kernel
theorem dX9_greatestAlike_48 : decode cX9_greatestAlike 48 = .ok (.invokestatic 91, 3) := by decide +kernel
theorem dX9_greatestAlike_51 : decode cX9_greatestAlike 51 = .ok (.istore_n 3, 1) := by decide +kernel
theorem dX9_greatestAlike_52 : decode cX9_greatestAlike 52 = .ok (.lload 4, 2) := by decide +kernel
theorem dX9_greatestAlike_54 : decode cX9_greatestAlike 54 = .ok (.lload 7, 2) := by decide +kernel
theorem dX9_greatestAlike_56 : decode cX9_greatestAlike 56 = .ok (.ldc2_w 57, 3) := by decide +kernel
theorem dX9_greatestAlike_59 : decode cX9_greatestAlike 59 = .ok (.lxor, 1) := by decide +kernel
theorem dX9_greatestAlike_60 : decode cX9_greatestAlike 60 = .ok (.land, 1) := by decide +kernel
theorem dX9_greatestAlike_61 : decode cX9_greatestAlike 61 = .ok (.lstore 4, 2) := by decide +kernel
theorem dX9_greatestAlike_63 : decode cX9_greatestAlike 63 = .ok (.iinc 6 1, 3) := by decide +kernel
theorem dX9_greatestAlike_66 : decode cX9_greatestAlike 66 = .ok (.goto (-58), 3) := by decide +kernel
theorem dX9_greatestAlike_69 : decode cX9_greatestAlike 69 = .ok (.iload_n 3, 1) := by decide +kernel
theorem dX9_greatestAlike_70 : decode cX9_greatestAlike 70 = .ok (.ireturn, 1) := by decide +kernel
def kX9_greatestAlike_0 : List (Nat × zT) := [(0, a_i 0 1), (1, a_istore 3 2), (2, a_lload 1 3), (3, a_lstore 4 5), (5, a_i 0 6), (6, a_istore 6 8), (8, a_iload 6 10), (10, a_i 38 12), (12, a_ic_gt 69 15), (15, a_lload 4 17), (17, a_iload 6 19), (19, a_li (fun x y => (x.toUInt64 >>> (y.toInt64.toUInt64 &&& Int64.toUInt64 63)).toInt64) 20), (20, a_l 1 21), (21, a_ll (fun x y => x &&& y) 22), (22, a_l 0 23), (23, a_lcmp 24), (24, a_if_eq 63 27), (27, a_lload 4 29), (29, a_aload 0 30), (30, a_aload 0 31), (31, a_iload 6 33), (33, a_callV 9 71 2 36 0 0), (36, a_callV 9 72 2 39 0 0), (39, a_ll (fun x y => x &&& y) 40)]
theorem oX9_greatestAlike_0 : ∀ q ∈ kX9_greatestAlike_0, zSnd zty false RX9 cX9_greatestAlike 9 (some .int) false q := List.forall_mem_cons.mpr ⟨ok_iconst dX9_greatestAlike_0 (by decide), List.forall_mem_cons.mpr ⟨ok_istore_n dX9_greatestAlike_1 rfl (by decide), List.forall_mem_cons.mpr ⟨ok_lload_n dX9_greatestAlike_2 rfl, List.forall_mem_cons.mpr ⟨ok_lstore dX9_greatestAlike_3 (by decide), List.forall_mem_cons.mpr ⟨ok_iconst dX9_greatestAlike_5 (by decide), List.forall_mem_cons.mpr ⟨ok_istore dX9_greatestAlike_6 (by decide), List.forall_mem_cons.mpr ⟨ok_iload dX9_greatestAlike_8, List.forall_mem_cons.mpr ⟨ok_bipush dX9_greatestAlike_10 (by decide), List.forall_mem_cons.mpr ⟨ok_ic_gt dX9_greatestAlike_12 (by decide), List.forall_mem_cons.mpr ⟨ok_lload dX9_greatestAlike_15, List.forall_mem_cons.mpr ⟨ok_iload dX9_greatestAlike_17, List.forall_mem_cons.mpr ⟨ok_lushr dX9_greatestAlike_19, List.forall_mem_cons.mpr ⟨ok_lconst dX9_greatestAlike_20 (by decide), List.forall_mem_cons.mpr ⟨ok_land dX9_greatestAlike_21, List.forall_mem_cons.mpr ⟨ok_lconst dX9_greatestAlike_22 (by decide), List.forall_mem_cons.mpr ⟨ok_lcmp dX9_greatestAlike_23, List.forall_mem_cons.mpr ⟨ok_if_eq dX9_greatestAlike_24 (by decide), List.forall_mem_cons.mpr ⟨ok_lload dX9_greatestAlike_27, List.forall_mem_cons.mpr ⟨ok_aload_n dX9_greatestAlike_29 rfl, List.forall_mem_cons.mpr ⟨ok_aload_n dX9_greatestAlike_30 rfl, List.forall_mem_cons.mpr ⟨ok_iload dX9_greatestAlike_31, List.forall_mem_cons.mpr ⟨ok_callV dX9_greatestAlike_33 rfl rfl w858 w936 w856 w11 w857 (by decide +kernel) (by decide), List.forall_mem_cons.mpr ⟨ok_callV dX9_greatestAlike_36 rfl rfl w895 w892 w894 w11 s19 (by decide +kernel) (by decide), List.forall_mem_cons.mpr ⟨ok_land dX9_greatestAlike_39, fun _ h => absurd h List.not_mem_nil⟩⟩⟩⟩⟩⟩⟩⟩⟩⟩⟩⟩⟩⟩⟩⟩⟩⟩⟩⟩⟩⟩⟩⟩
def kX9_greatestAlike_1 : List (Nat × zT) := [(40, a_lstore 7 42), (42, a_iload 3 43), (43, a_lload 7 45), (45, a_call 219 1 48 0 0), (48, a_mm (fun x y => if x < y then y else x) 51), (51, a_istore 3 52), (52, a_lload 4 54), (54, a_lload 7 56), (56, a_l (-1) 59), (59, a_ll (fun x y => x ^^^ y) 60), (60, a_ll (fun x y => x &&& y) 61), (61, a_lstore 4 63), (63, a_iinc 6 1 66), (66, a_goto 8), (69, a_iload 3 70), (70, a_iret false)]
theorem oX9_greatestAlike_1 : ∀ q ∈ kX9_greatestAlike_1, zSnd zty false RX9 cX9_greatestAlike 9 (some .int) false q := List.forall_mem_cons.mpr ⟨ok_lstore dX9_greatestAlike_40 (by decide), List.forall_mem_cons.mpr ⟨ok_iload_n dX9_greatestAlike_42 rfl, List.forall_mem_cons.mpr ⟨ok_lload dX9_greatestAlike_43, List.forall_mem_cons.mpr ⟨ok_callS dX9_greatestAlike_45 rfl w602 w931 w601 w17 (by decide +kernel) (by decide), List.forall_mem_cons.mpr ⟨ok_mmax dX9_greatestAlike_48 w937 w815 w18 w816, List.forall_mem_cons.mpr ⟨ok_istore_n dX9_greatestAlike_51 rfl (by decide), List.forall_mem_cons.mpr ⟨ok_lload dX9_greatestAlike_52, List.forall_mem_cons.mpr ⟨ok_lload dX9_greatestAlike_54, List.forall_mem_cons.mpr ⟨ok_ldc2 dX9_greatestAlike_56 w896, List.forall_mem_cons.mpr ⟨ok_lxor dX9_greatestAlike_59, List.forall_mem_cons.mpr ⟨ok_land dX9_greatestAlike_60, List.forall_mem_cons.mpr ⟨ok_lstore dX9_greatestAlike_61 (by decide), List.forall_mem_cons.mpr ⟨ok_iinc dX9_greatestAlike_63 (by decide) (by decide), List.forall_mem_cons.mpr ⟨ok_goto dX9_greatestAlike_66 (by decide), List.forall_mem_cons.mpr ⟨ok_iload_n dX9_greatestAlike_69 rfl, List.forall_mem_cons.mpr ⟨ok_iret (bz := false) dX9_greatestAlike_70 rfl, fun _ h => absurd h List.not_mem_nil⟩⟩⟩⟩⟩⟩⟩⟩⟩⟩⟩⟩⟩⟩⟩⟩
def kX9_greatestAlike : List (Nat × zT) := kX9_greatestAlike_0 ++ (kX9_greatestAlike_1)
theorem qX9_greatestAlike_0 : ∀ q ∈ kX9_greatestAlike_0, q ∈ kX9_greatestAlike := fun _ h => (List.mem_append_left _ h)
theorem tX9_greatestAlike_0 : (0, a_i 0 1) ∈ kX9_greatestAlike := qX9_greatestAlike_0 _ (List.mem_of_getElem? (i := 0) rfl)
theorem tX9_greatestAlike_1 : (1, a_istore 3 2) ∈ kX9_greatestAlike := qX9_greatestAlike_0 _ (List.mem_of_getElem? (i := 1) rfl)
theorem tX9_greatestAlike_2 : (2, a_lload 1 3) ∈ kX9_greatestAlike := qX9_greatestAlike_0 _ (List.mem_of_getElem? (i := 2) rfl)
theorem tX9_greatestAlike_3 : (3, a_lstore 4 5) ∈ kX9_greatestAlike := qX9_greatestAlike_0 _ (List.mem_of_getElem? (i := 3) rfl)
theorem tX9_greatestAlike_5 : (5, a_i 0 6) ∈ kX9_greatestAlike := qX9_greatestAlike_0 _ (List.mem_of_getElem? (i := 4) rfl)
theorem tX9_greatestAlike_6 : (6, a_istore 6 8) ∈ kX9_greatestAlike := qX9_greatestAlike_0 _ (List.mem_of_getElem? (i := 5) rfl)
theorem tX9_greatestAlike_8 : (8, a_iload 6 10) ∈ kX9_greatestAlike := qX9_greatestAlike_0 _ (List.mem_of_getElem? (i := 6) rfl)
theorem tX9_greatestAlike_10 : (10, a_i 38 12) ∈ kX9_greatestAlike := qX9_greatestAlike_0 _ (List.mem_of_getElem? (i := 7) rfl)
theorem tX9_greatestAlike_12 : (12, a_ic_gt 69 15) ∈ kX9_greatestAlike := qX9_greatestAlike_0 _ (List.mem_of_getElem? (i := 8) rfl)
theorem tX9_greatestAlike_15 : (15, a_lload 4 17) ∈ kX9_greatestAlike := qX9_greatestAlike_0 _ (List.mem_of_getElem? (i := 9) rfl)
theorem tX9_greatestAlike_17 : (17, a_iload 6 19) ∈ kX9_greatestAlike := qX9_greatestAlike_0 _ (List.mem_of_getElem? (i := 10) rfl)
theorem tX9_greatestAlike_19 : (19, a_li (fun x y => (x.toUInt64 >>> (y.toInt64.toUInt64 &&& Int64.toUInt64 63)).toInt64) 20) ∈ kX9_greatestAlike := qX9_greatestAlike_0 _ (List.mem_of_getElem? (i := 11) rfl)
theorem tX9_greatestAlike_20 : (20, a_l 1 21) ∈ kX9_greatestAlike := qX9_greatestAlike_0 _ (List.mem_of_getElem? (i := 12) rfl)
theorem tX9_greatestAlike_21 : (21, a_ll (fun x y => x &&& y) 22) ∈ kX9_greatestAlike := qX9_greatestAlike_0 _ (List.mem_of_getElem? (i := 13) rfl)
theorem tX9_greatestAlike_22 : (22, a_l 0 23) ∈ kX9_greatestAlike := qX9_greatestAlike_0 _ (List.mem_of_getElem? (i := 14) rfl)
theorem tX9_greatestAlike_23 : (23, a_lcmp 24) ∈ kX9_greatestAlike := qX9_greatestAlike_0 _ (List.mem_of_getElem? (i := 15) rfl)
theorem tX9_greatestAlike_24 : (24, a_if_eq 63 27) ∈ kX9_greatestAlike := qX9_greatestAlike_0 _ (List.mem_of_getElem? (i := 16) rfl)
theorem tX9_greatestAlike_27 : (27, a_lload 4 29) ∈ kX9_greatestAlike := qX9_greatestAlike_0 _ (List.mem_of_getElem? (i := 17) rfl)
theorem tX9_greatestAlike_29 : (29, a_aload 0 30) ∈ kX9_greatestAlike := qX9_greatestAlike_0 _ (List.mem_of_getElem? (i := 18) rfl)
theorem tX9_greatestAlike_30 : (30, a_aload 0 31) ∈ kX9_greatestAlike := qX9_greatestAlike_0 _ (List.mem_of_getElem? (i := 19) rfl)
theorem tX9_greatestAlike_31 : (31, a_iload 6 33) ∈ kX9_greatestAlike := qX9_greatestAlike_0 _ (List.mem_of_getElem? (i := 20) rfl)
theorem tX9_greatestAlike_33 : (33, a_callV 9 71 2 36 0 0) ∈ kX9_greatestAlike := qX9_greatestAlike_0 _ (List.mem_of_getElem? (i := 21) rfl)
theorem tX9_greatestAlike_36 : (36, a_callV 9 72 2 39 0 0) ∈ kX9_greatestAlike := qX9_greatestAlike_0 _ (List.mem_of_getElem? (i := 22) rfl)
theorem tX9_greatestAlike_39 : (39, a_ll (fun x y => x &&& y) 40) ∈ kX9_greatestAlike := qX9_greatestAlike_0 _ (List.mem_of_getElem? (i := 23) rfl)
theorem qX9_greatestAlike_1 : ∀ q ∈ kX9_greatestAlike_1, q ∈ kX9_greatestAlike := fun _ h => (List.mem_append_right _ h)
theorem tX9_greatestAlike_40 : (40, a_lstore 7 42) ∈ kX9_greatestAlike := qX9_greatestAlike_1 _ (List.mem_of_getElem? (i := 0) rfl)
theorem tX9_greatestAlike_42 : (42, a_iload 3 43) ∈ kX9_greatestAlike := qX9_greatestAlike_1 _ (List.mem_of_getElem? (i := 1) rfl)
theorem tX9_greatestAlike_43 : (43, a_lload 7 45) ∈ kX9_greatestAlike := qX9_greatestAlike_1 _ (List.mem_of_getElem? (i := 2) rfl)
theorem tX9_greatestAlike_45 : (45, a_call 219 1 48 0 0) ∈ kX9_greatestAlike := qX9_greatestAlike_1 _ (List.mem_of_getElem? (i := 3) rfl)
theorem tX9_greatestAlike_48 : (48, a_mm (fun x y => if x < y then y else x) 51) ∈ kX9_greatestAlike := qX9_greatestAlike_1 _ (List.mem_of_getElem? (i := 4) rfl)
theorem tX9_greatestAlike_51 : (51, a_istore 3 52) ∈ kX9_greatestAlike := qX9_greatestAlike_1 _ (List.mem_of_getElem? (i := 5) rfl)
theorem tX9_greatestAlike_52 : (52, a_lload 4 54) ∈ kX9_greatestAlike := qX9_greatestAlike_1 _ (List.mem_of_getElem? (i := 6) rfl)
theorem tX9_greatestAlike_54 : (54, a_lload 7 56) ∈ kX9_greatestAlike := qX9_greatestAlike_1 _ (List.mem_of_getElem? (i := 7) rfl)
theorem tX9_greatestAlike_56 : (56, a_l (-1) 59) ∈ kX9_greatestAlike := qX9_greatestAlike_1 _ (List.mem_of_getElem? (i := 8) rfl)
theorem tX9_greatestAlike_59 : (59, a_ll (fun x y => x ^^^ y) 60) ∈ kX9_greatestAlike := qX9_greatestAlike_1 _ (List.mem_of_getElem? (i := 9) rfl)
theorem tX9_greatestAlike_60 : (60, a_ll (fun x y => x &&& y) 61) ∈ kX9_greatestAlike := qX9_greatestAlike_1 _ (List.mem_of_getElem? (i := 10) rfl)
theorem tX9_greatestAlike_61 : (61, a_lstore 4 63) ∈ kX9_greatestAlike := qX9_greatestAlike_1 _ (List.mem_of_getElem? (i := 11) rfl)
theorem tX9_greatestAlike_63 : (63, a_iinc 6 1 66) ∈ kX9_greatestAlike := qX9_greatestAlike_1 _ (List.mem_of_getElem? (i := 12) rfl)
theorem tX9_greatestAlike_66 : (66, a_goto 8) ∈ kX9_greatestAlike := qX9_greatestAlike_1 _ (List.mem_of_getElem? (i := 13) rfl)
theorem tX9_greatestAlike_69 : (69, a_iload 3 70) ∈ kX9_greatestAlike := qX9_greatestAlike_1 _ (List.mem_of_getElem? (i := 14) rfl)
theorem tX9_greatestAlike_70 : (70, a_iret false) ∈ kX9_greatestAlike := qX9_greatestAlike_1 _ (List.mem_of_getElem? (i := 15) rfl)
theorem oX9_greatestAlike : ∀ q ∈ kX9_greatestAlike, zSnd zty false RX9 cX9_greatestAlike 9 (some .int) false q := List.forall_mem_append.mpr ⟨oX9_greatestAlike_0, oX9_greatestAlike_1⟩
theorem dX9_bitNumber_0 : decode cX9_bitNumber 0 = .ok (.lload_n 0, 1) := by decide +kernel
theorem dX9_bitNumber_1 : decode cX9_bitNumber 1 = .ok (.lstore_n 3, 1) := by decide +kernel
theorem dX9_bitNumber_2 : decode cX9_bitNumber 2 = .ok (.iconst 0, 1) := by decide +kernel
theorem dX9_bitNumber_3 : decode cX9_bitNumber 3 = .ok (.istore 5, 2) := by decide +kernel
theorem dX9_bitNumber_5 : decode cX9_bitNumber 5 = .ok (.iload 5, 2) := by decide +kernel
theorem dX9_bitNumber_7 : decode cX9_bitNumber 7 = .ok (.iload_n 2, 1) := by decide +kernel
theorem dX9_bitNumber_8 : decode cX9_bitNumber 8 = .ok (.if_icmp .ge 21, 3) := by decide +kernel
theorem dX9_bitNumber_11 : decode cX9_bitNumber 11 = .ok (.lload_n 3, 1) := by decide +kernel
theorem dX9_bitNumber_12 : decode cX9_bitNumber 12 = .ok (.lconst 0, 1) := by decide +kernel
theorem dX9_bitNumber_13 : decode cX9_bitNumber 13 = .ok (.lcmp, 1) := by decide +kernel
theorem dX9_bitNumber_14 : decode cX9_bitNumber 14 = .ok (.ifCond .eq 15, 3) := by decide +kernel
theorem dX9_bitNumber_17 : decode cX9_bitNumber 17 = .ok (.lload_n 3, 1) := by decide +kernel
theorem dX9_bitNumber_18 : decode cX9_bitNumber 18 = .ok (.lload_n 3, 1) := by decide +kernel
theorem dX9_bitNumber_19 : decode cX9_bitNumber 19 = .ok (.lconst 1, 1) := by decide +kernel
theorem dX9_bitNumber_20 : decode cX9_bitNumber 20 = .ok (.lsub, 1) := by decide +kernel
theorem dX9_bitNumber_21 : decode cX9_bitNumber 21 = .ok (.land, 1) := by decide +kernel
theorem dX9_bitNumber_22 : decode cX9_bitNumber 22 = .ok (.lstore_n 3, 1) := by decide +kernel
theorem dX9_bitNumber_23 : decode cX9_bitNumber 23 = .ok (.iinc 5 1, 3) := by decide +kernel
theorem dX9_bitNumber_26 : decode cX9_bitNumber 26 = .ok (.goto (-21), 3) := by decide +kernel
theorem dX9_bitNumber_29 : decode cX9_bitNumber 29 = .ok (.lload_n 3, 1) := by decide +kernel
theorem dX9_bitNumber_30 : decode cX9_bitNumber 30 = .ok (.lconst 0, 1) := by decide +kernel
theorem dX9_bitNumber_31 : decode cX9_bitNumber 31 = .ok (.lcmp, 1) := by decide +kernel
theorem dX9_bitNumber_32 : decode cX9_bitNumber 32 = .ok (.ifCond .ne 8, 3) := by decide +kernel
theorem dX9_bitNumber_35 : decode cX9_bitNumber 35 = .ok (.bipush (-4), 2) := by decide +kernel
theorem dX9_bitNumber_37 : decode cX9_bitNumber 37 = .ok (.goto 7, 3) := by decide +kernel
theorem dX9_bitNumber_40 : decode cX9_bitNumber 40 = .ok (.lload_n 3, 1) := by decide +kernel
theorem dX9_bitNumber_41 : decode cX9_bitNumber 41 = .ok (.invokestatic 97, 3) := by decide +kernel
theorem dX9_bitNumber_44 : decode cX9_bitNumber 44 = .ok (.ireturn, 1) := by decide +kernel
def kX9_bitNumber_0 : List (Nat × zT) := [(0, a_lload 0 1), (1, a_lstore 3 2), (2, a_i 0 3), (3, a_istore 5 5), (5, a_iload 5 7), (7, a_iload 2 8), (8, a_ic_ge 29 11), (11, a_lload 3 12), (12, a_l 0 13), (13, a_lcmp 14), (14, a_if_eq 29 17), (17, a_lload 3 18), (18, a_lload 3 19), (19, a_l 1 20), (20, a_ll (fun x y => x - y) 21), (21, a_ll (fun x y => x &&& y) 22), (22, a_lstore 3 23), (23, a_iinc 5 1 26), (26, a_goto 5), (29, a_lload 3 30), (30, a_l 0 31), (31, a_lcmp 32), (32, a_if_ne 40 35), (35, a_i (-4) 37)]
theorem oX9_bitNumber_0 : ∀ q ∈ kX9_bitNumber_0, zSnd zty false RX9 cX9_bitNumber 6 (some .int) false q := List.forall_mem_cons.mpr ⟨ok_lload_n dX9_bitNumber_0 rfl, List.forall_mem_cons.mpr ⟨ok_lstore_n dX9_bitNumber_1 rfl (by decide), List.forall_mem_cons.mpr ⟨ok_iconst dX9_bitNumber_2 (by decide), List.forall_mem_cons.mpr ⟨ok_istore dX9_bitNumber_3 (by decide), List.forall_mem_cons.mpr ⟨ok_iload dX9_bitNumber_5, List.forall_mem_cons.mpr ⟨ok_iload_n dX9_bitNumber_7 rfl, List.forall_mem_cons.mpr ⟨ok_ic_ge dX9_bitNumber_8 (by decide), List.forall_mem_cons.mpr ⟨ok_lload_n dX9_bitNumber_11 rfl, List.forall_mem_cons.mpr ⟨ok_lconst dX9_bitNumber_12 (by decide), List.forall_mem_cons.mpr ⟨ok_lcmp dX9_bitNumber_13, List.forall_mem_cons.mpr ⟨ok_if_eq dX9_bitNumber_14 (by decide), List.forall_mem_cons.mpr ⟨ok_lload_n dX9_bitNumber_17 rfl, List.forall_mem_cons.mpr ⟨ok_lload_n dX9_bitNumber_18 rfl, List.forall_mem_cons.mpr ⟨ok_lconst dX9_bitNumber_19 (by decide), List.forall_mem_cons.mpr ⟨ok_lsub dX9_bitNumber_20, List.forall_mem_cons.mpr ⟨ok_land dX9_bitNumber_21, List.forall_mem_cons.mpr ⟨ok_lstore_n dX9_bitNumber_22 rfl (by decide), List.forall_mem_cons.mpr ⟨ok_iinc dX9_bitNumber_23 (by decide) (by decide), List.forall_mem_cons.mpr ⟨ok_goto dX9_bitNumber_26 (by decide), List.forall_mem_cons.mpr ⟨ok_lload_n dX9_bitNumber_29 rfl, List.forall_mem_cons.mpr ⟨ok_lconst dX9_bitNumber_30 (by decide), List.forall_mem_cons.mpr ⟨ok_lcmp dX9_bitNumber_31, List.forall_mem_cons.mpr ⟨ok_if_ne dX9_bitNumber_32 (by decide), List.forall_mem_cons.mpr ⟨ok_bipush dX9_bitNumber_35 (by decide), fun _ h => absurd h List.not_mem_nil⟩⟩⟩⟩⟩⟩⟩⟩⟩⟩⟩⟩⟩⟩⟩⟩⟩⟩⟩⟩⟩⟩⟩⟩
def kX9_bitNumber_1 : List (Nat × zT) := [(37, a_goto 44), (40, a_lload 3 41), (41, a_call 218 1 44 0 0), (44, a_iret false)]
theorem oX9_bitNumber_1 : ∀ q ∈ kX9_bitNumber_1, zSnd zty false RX9 cX9_bitNumber 6 (some .int) false q := List.forall_mem_cons.mpr ⟨ok_goto dX9_bitNumber_37 (by decide), List.forall_mem_cons.mpr ⟨ok_lload_n dX9_bitNumber_40 rfl, List.forall_mem_cons.mpr ⟨ok_callS dX9_bitNumber_41 rfl w638 w921 w637 w17 (by decide +kernel) (by decide), List.forall_mem_cons.mpr ⟨ok_iret (bz := false) dX9_bitNumber_44 rfl, fun _ h => absurd h List.not_mem_nil⟩⟩⟩⟩
def kX9_bitNumber : List (Nat × zT) := kX9_bitNumber_0 ++ (kX9_bitNumber_1)
theorem qX9_bitNumber_0 : ∀ q ∈ kX9_bitNumber_0, q ∈ kX9_bitNumber := fun _ h => (List.mem_append_left _ h)
theorem tX9_bitNumber_0 : (0, a_lload 0 1) ∈ kX9_bitNumber := qX9_bitNumber_0 _ (List.mem_of_getElem? (i := 0) rfl)
theorem tX9_bitNumber_1 : (1, a_lstore 3 2) ∈ kX9_bitNumber := qX9_bitNumber_0 _ (List.mem_of_getElem? (i := 1) rfl)
theorem tX9_bitNumber_2 : (2, a_i 0 3) ∈ kX9_bitNumber := qX9_bitNumber_0 _ (List.mem_of_getElem? (i := 2) rfl)
theorem tX9_bitNumber_3 : (3, a_istore 5 5) ∈ kX9_bitNumber := qX9_bitNumber_0 _ (List.mem_of_getElem? (i := 3) rfl)
theorem tX9_bitNumber_5 : (5, a_iload 5 7) ∈ kX9_bitNumber := qX9_bitNumber_0 _ (List.mem_of_getElem? (i := 4) rfl)
theorem tX9_bitNumber_7 : (7, a_iload 2 8) ∈ kX9_bitNumber := qX9_bitNumber_0 _ (List.mem_of_getElem? (i := 5) rfl)
theorem tX9_bitNumber_8 : (8, a_ic_ge 29 11) ∈ kX9_bitNumber := qX9_bitNumber_0 _ (List.mem_of_getElem? (i := 6) rfl)
theorem tX9_bitNumber_11 : (11, a_lload 3 12) ∈ kX9_bitNumber := qX9_bitNumber_0 _ (List.mem_of_getElem? (i := 7) rfl)
theorem tX9_bitNumber_12 : (12, a_l 0 13) ∈ kX9_bitNumber := qX9_bitNumber_0 _ (List.mem_of_getElem? (i := 8) rfl)
theorem tX9_bitNumber_13 : (13, a_lcmp 14) ∈ kX9_bitNumber := qX9_bitNumber_0 _ (List.mem_of_getElem? (i := 9) rfl)
theorem tX9_bitNumber_14 : (14, a_if_eq 29 17) ∈ kX9_bitNumber := qX9_bitNumber_0 _ (List.mem_of_getElem? (i := 10) rfl)
theorem tX9_bitNumber_17 : (17, a_lload 3 18) ∈ kX9_bitNumber := qX9_bitNumber_0 _ (List.mem_of_getElem? (i := 11) rfl)
theorem tX9_bitNumber_18 : (18, a_lload 3 19) ∈ kX9_bitNumber := qX9_bitNumber_0 _ (List.mem_of_getElem? (i := 12) rfl)
theorem tX9_bitNumber_19 : (19, a_l 1 20) ∈ kX9_bitNumber := qX9_bitNumber_0 _ (List.mem_of_getElem? (i := 13) rfl)
theorem tX9_bitNumber_20 : (20, a_ll (fun x y => x - y) 21) ∈ kX9_bitNumber := qX9_bitNumber_0 _ (List.mem_of_getElem? (i := 14) rfl)
theorem tX9_bitNumber_21 : (21, a_ll (fun x y => x &&& y) 22) ∈ kX9_bitNumber := qX9_bitNumber_0 _ (List.mem_of_getElem? (i := 15) rfl)
theorem tX9_bitNumber_22 : (22, a_lstore 3 23) ∈ kX9_bitNumber := qX9_bitNumber_0 _ (List.mem_of_getElem? (i := 16) rfl)
theorem tX9_bitNumber_23 : (23, a_iinc 5 1 26) ∈ kX9_bitNumber := qX9_bitNumber_0 _ (List.mem_of_getElem? (i := 17) rfl)
theorem tX9_bitNumber_26 : (26, a_goto 5) ∈ kX9_bitNumber := qX9_bitNumber_0 _ (List.mem_of_getElem? (i := 18) rfl)
theorem tX9_bitNumber_29 : (29, a_lload 3 30) ∈ kX9_bitNumber := qX9_bitNumber_0 _ (List.mem_of_getElem? (i := 19) rfl)
theorem tX9_bitNumber_30 : (30, a_l 0 31) ∈ kX9_bitNumber := qX9_bitNumber_0 _ (List.mem_of_getElem? (i := 20) rfl)
theorem tX9_bitNumber_31 : (31, a_lcmp 32) ∈ kX9_bitNumber := qX9_bitNumber_0 _ (List.mem_of_getElem? (i := 21) rfl)
theorem tX9_bitNumber_32 : (32, a_if_ne 40 35) ∈ kX9_bitNumber := qX9_bitNumber_0 _ (List.mem_of_getElem? (i := 22) rfl)
theorem tX9_bitNumber_35 : (35, a_i (-4) 37) ∈ kX9_bitNumber := qX9_bitNumber_0 _ (List.mem_of_getElem? (i := 23) rfl)
theorem qX9_bitNumber_1 : ∀ q ∈ kX9_bitNumber_1, q ∈ kX9_bitNumber := fun _ h => (List.mem_append_right _ h)
theorem tX9_bitNumber_37 : (37, a_goto 44) ∈ kX9_bitNumber := qX9_bitNumber_1 _ (List.mem_of_getElem? (i := 0) rfl)
theorem tX9_bitNumber_40 : (40, a_lload 3 41) ∈ kX9_bitNumber := qX9_bitNumber_1 _ (List.mem_of_getElem? (i := 1) rfl)
theorem tX9_bitNumber_41 : (41, a_call 218 1 44 0 0) ∈ kX9_bitNumber := qX9_bitNumber_1 _ (List.mem_of_getElem? (i := 2) rfl)
theorem tX9_bitNumber_44 : (44, a_iret false) ∈ kX9_bitNumber := qX9_bitNumber_1 _ (List.mem_of_getElem? (i := 3) rfl)
theorem oX9_bitNumber : ∀ q ∈ kX9_bitNumber, zSnd zty false RX9 cX9_bitNumber 6 (some .int) false q := List.forall_mem_append.mpr ⟨oX9_bitNumber_0, oX9_bitNumber_1⟩
theorem dX10_init_0 : decode cX10_init 0 = .ok (.aload_n 0, 1) := by decide +kernel
theorem dX10_init_1 : decode cX10_init 1 = .ok (.invokespecial 3, 3) := by decide +kernel
theorem dX10_init_4 : decode cX10_init 4 = .ok (.aload_n 0, 1) := by decide +kernel
theorem dX10_init_5 : decode cX10_init 5 = .ok (.sipush 200, 3) := by decide +kernel
theorem dX10_init_8 : decode cX10_init 8 = .ok (.newarray .int, 2) := by decide +kernel
theorem dX10_init_10 : decode cX10_init 10 = .ok (.putfield 9, 3) := by decide +kernel
theorem dX10_init_13 : decode cX10_init 13 = .ok (.aload_n 0, 1) := by decide +kernel
theorem dX10_init_14 : decode cX10_init 14 = .ok (.bipush 19, 2) := by decide +kernel
theorem dX10_init_16 : decode cX10_init 16 = .ok (.newarray .int, 2) := by decide +kernel
theorem dX10_init_18 : decode cX10_init 18 = .ok (.putfield 15, 3) := by decide +kernel
theorem dX10_init_21 : decode cX10_init 21 = .ok (.aload_n 0, 1) := by decide +kernel
theorem dX10_init_22 : decode cX10_init 22 = .ok (.bipush 19, 2) := by decide +kernel
theorem dX10_init_24 : decode cX10_init 24 = .ok (.newarray .int, 2) := by decide +kernel
theorem dX10_init_26 : decode cX10_init 26 = .ok (.putfield 18, 3) := by decide +kernel
theorem dX10_init_29 : decode cX10_init 29 = .ok (.aload_n 0, 1) := by decide +kernel
theorem dX10_init_30 : decode cX10_init 30 = .ok (.bipush 19, 2) := by decide +kernel
theorem dX10_init_32 : decode cX10_init 32 = .ok (.newarray .int, 2) := by decide +kernel
theorem dX10_init_34 : decode cX10_init 34 = .ok (.putfield 21, 3) := by decide +kernel
theorem dX10_init_37 : decode cX10_init 37 = .ok (.aload_n 0, 1) := by decide +kernel
theorem dX10_init_38 : decode cX10_init 38 = .ok (.bipush 19, 2) := by decide +kernel
theorem dX10_init_40 : decode cX10_init 40 = .ok (.newarray .int, 2) := by decide +kernel
theorem dX10_init_42 : decode cX10_init 42 = .ok (.putfield 24, 3) := by decide +kernel
theorem dX10_init_45 : decode cX10_init 45 = .ok (.aload_n 0, 1) := by decide +kernel
theorem dX10_init_46 : decode cX10_init 46 = .ok (.bipush 13, 2) := by decide +kernel
theorem dX10_init_48 : decode cX10_init 48 = .ok (.newarray .int, 2) := by decide +kernel
theorem dX10_init_50 : decode cX10_init 50 = .ok (.putfield 27, 3) := by decide +kernel
theorem dX10_init_53 : decode cX10_init 53 = .ok (.aload_n 0, 1) := by decide +kernel
theorem dX10_init_54 : decode cX10_init 54 = .ok (.iconst 0, 1) := by decide +kernel
theorem dX10_init_55 : decode cX10_init 55 = .ok (.putfield 30, 3) := by decide +kernel
theorem dX10_init_58 : decode cX10_init 58 = .ok (.aload_n 0, 1) := by decide +kernel
theorem dX10_init_59 : decode cX10_init 59 = .ok (.iconst 0, 1) := by decide +kernel
theorem dX10_init_60 : decode cX10_init 60 = .ok (.putfield 34, 3) := by decide +kernel
theorem dX10_init_63 : decode cX10_init 63 = .ok (.return_, 1) := by decide +kernel
def kX10_init_0 : List (Nat × zT) := [(0, a_aload 0 1), (1, a_obj 4), (4, a_aload 0 5), (5, a_i 200 8), (8, a_newI 10), (10, a_putR 10 0 13), (13, a_aload 0 14), (14, a_i 19 16), (16, a_newI 18), (18, a_putR 10 1 21), (21, a_aload 0 22), (22, a_i 19 24), (24, a_newI 26), (26, a_putR 10 2 29), (29, a_aload 0 30), (30, a_i 19 32), (32, a_newI 34), (34, a_putR 10 3 37), (37, a_aload 0 38), (38, a_i 19 40), (40, a_newI 42), (42, a_putR 10 4 45), (45, a_aload 0 46), (46, a_i 13 48)]
theorem oX10_init_0 : ∀ q ∈ kX10_init_0, zSnd zty true RX10 cX10_init 1 none true q := List.forall_mem_cons.mpr ⟨ok_aload_n dX10_init_0 rfl, List.forall_mem_cons.mpr ⟨ok_obj dX10_init_1 w51 w25 w26, List.forall_mem_cons.mpr ⟨ok_aload_n dX10_init_4 rfl, List.forall_mem_cons.mpr ⟨ok_sipush dX10_init_5 (by decide), List.forall_mem_cons.mpr ⟨ok_newI dX10_init_8 rfl w44, List.forall_mem_cons.mpr ⟨ok_putR dX10_init_10 rfl rfl in10 tyX10 tyX10_ok nmX10 (by decide) rfl w52 rfl rfl (fun _ => ⟨rfl, rfl⟩), List.forall_mem_cons.mpr ⟨ok_aload_n dX10_init_13 rfl, List.forall_mem_cons.mpr ⟨ok_bipush dX10_init_14 (by decide), List.forall_mem_cons.mpr ⟨ok_newI dX10_init_16 rfl w44, List.forall_mem_cons.mpr ⟨ok_putR dX10_init_18 rfl rfl in10 tyX10 tyX10_ok nmX10 (by decide) rfl w58 rfl rfl (fun _ => ⟨rfl, rfl⟩), List.forall_mem_cons.mpr ⟨ok_aload_n dX10_init_21 rfl, List.forall_mem_cons.mpr ⟨ok_bipush dX10_init_22 (by decide), List.forall_mem_cons.mpr ⟨ok_newI dX10_init_24 rfl w44, List.forall_mem_cons.mpr ⟨ok_putR dX10_init_26 rfl rfl in10 tyX10 tyX10_ok nmX10 (by decide) rfl w65 rfl rfl (fun _ => ⟨rfl, rfl⟩), List.forall_mem_cons.mpr ⟨ok_aload_n dX10_init_29 rfl, List.forall_mem_cons.mpr ⟨ok_bipush dX10_init_30 (by decide), List.forall_mem_cons.mpr ⟨ok_newI dX10_init_32 rfl w44, List.forall_mem_cons.mpr ⟨ok_putR dX10_init_34 rfl rfl in10 tyX10 tyX10_ok nmX10 (by decide) rfl w72 rfl rfl (fun _ => ⟨rfl, rfl⟩), List.forall_mem_cons.mpr ⟨ok_aload_n dX10_init_37 rfl, List.forall_mem_cons.mpr ⟨ok_bipush dX10_init_38 (by decide), List.forall_mem_cons.mpr ⟨ok_newI dX10_init_40 rfl w44, List.forall_mem_cons.mpr ⟨ok_putR dX10_init_42 rfl rfl in10 tyX10 tyX10_ok nmX10 (by decide) rfl w75 rfl rfl (fun _ => ⟨rfl, rfl⟩), List.forall_mem_cons.mpr ⟨ok_aload_n dX10_init_45 rfl, List.forall_mem_cons.mpr ⟨ok_bipush dX10_init_46 (by decide), fun _ h => absurd h List.not_mem_nil⟩⟩⟩⟩⟩⟩⟩⟩⟩⟩⟩⟩⟩⟩⟩⟩⟩⟩⟩⟩⟩⟩⟩⟩
def kX10_init_1 : List (Nat × zT) := [(48, a_newI 50), (50, a_putR 10 5 53), (53, a_aload 0 54), (54, a_i 0 55), (55, a_putI 10 6 58 false), (58, a_aload 0 59), (59, a_i 0 60), (60, a_putI 10 7 63 false), (63, a_vret)]
theorem oX10_init_1 : ∀ q ∈ kX10_init_1, zSnd zty true RX10 cX10_init 1 none true q := List.forall_mem_cons.mpr ⟨ok_newI dX10_init_48 rfl w44, List.forall_mem_cons.mpr ⟨ok_putR dX10_init_50 rfl rfl in10 tyX10 tyX10_ok nmX10 (by decide) rfl w79 rfl rfl (fun _ => ⟨rfl, rfl⟩), List.forall_mem_cons.mpr ⟨ok_aload_n dX10_init_53 rfl, List.forall_mem_cons.mpr ⟨ok_iconst dX10_init_54 (by decide), List.forall_mem_cons.mpr ⟨ok_putI (bz := false) dX10_init_55 rfl in10 tyX10 tyX10_ok nmX10 (by decide) rfl w84 rfl rfl, List.forall_mem_cons.mpr ⟨ok_aload_n dX10_init_58 rfl, List.forall_mem_cons.mpr ⟨ok_iconst dX10_init_59 (by decide), List.forall_mem_cons.mpr ⟨ok_putI (bz := false) dX10_init_60 rfl in10 tyX10 tyX10_ok nmX10 (by decide) rfl w88 rfl rfl, List.forall_mem_cons.mpr ⟨ok_vret dX10_init_63 rfl, fun _ h => absurd h List.not_mem_nil⟩⟩⟩⟩⟩⟩⟩⟩⟩
def kX10_init : List (Nat × zT) := kX10_init_0 ++ (kX10_init_1)
theorem qX10_init_0 : ∀ q ∈ kX10_init_0, q ∈ kX10_init := fun _ h => (List.mem_append_left _ h)
theorem tX10_init_0 : (0, a_aload 0 1) ∈ kX10_init := qX10_init_0 _ (List.mem_of_getElem? (i := 0) rfl)
theorem tX10_init_1 : (1, a_obj 4) ∈ kX10_init := qX10_init_0 _ (List.mem_of_getElem? (i := 1) rfl)
theorem tX10_init_4 : (4, a_aload 0 5) ∈ kX10_init := qX10_init_0 _ (List.mem_of_getElem? (i := 2) rfl)
theorem tX10_init_5 : (5, a_i 200 8) ∈ kX10_init := qX10_init_0 _ (List.mem_of_getElem? (i := 3) rfl)
theorem tX10_init_8 : (8, a_newI 10) ∈ kX10_init := qX10_init_0 _ (List.mem_of_getElem? (i := 4) rfl)
theorem tX10_init_10 : (10, a_putR 10 0 13) ∈ kX10_init := qX10_init_0 _ (List.mem_of_getElem? (i := 5) rfl)
theorem tX10_init_13 : (13, a_aload 0 14) ∈ kX10_init := qX10_init_0 _ (List.mem_of_getElem? (i := 6) rfl)
theorem tX10_init_14 : (14, a_i 19 16) ∈ kX10_init := qX10_init_0 _ (List.mem_of_getElem? (i := 7) rfl)
theorem tX10_init_16 : (16, a_newI 18) ∈ kX10_init := qX10_init_0 _ (List.mem_of_getElem? (i := 8) rfl)
theorem tX10_init_18 : (18, a_putR 10 1 21) ∈ kX10_init := qX10_init_0 _ (List.mem_of_getElem? (i := 9) rfl)
theorem tX10_init_21 : (21, a_aload 0 22) ∈ kX10_init := qX10_init_0 _ (List.mem_of_getElem? (i := 10) rfl)
theorem tX10_init_22 : (22, a_i 19 24) ∈ kX10_init := qX10_init_0 _ (List.mem_of_getElem? (i := 11) rfl)
theorem tX10_init_24 : (24, a_newI 26) ∈ kX10_init := qX10_init_0 _ (List.mem_of_getElem? (i := 12) rfl)
theorem tX10_init_26 : (26, a_putR 10 2 29) ∈ kX10_init := qX10_init_0 _ (List.mem_of_getElem? (i := 13) rfl)
theorem tX10_init_29 : (29, a_aload 0 30) ∈ kX10_init := qX10_init_0 _ (List.mem_of_getElem? (i := 14) rfl)
theorem tX10_init_30 : (30, a_i 19 32) ∈ kX10_init := qX10_init_0 _ (List.mem_of_getElem? (i := 15) rfl)
theorem tX10_init_32 : (32, a_newI 34) ∈ kX10_init := qX10_init_0 _ (List.mem_of_getElem? (i := 16) rfl)
theorem tX10_init_34 : (34, a_putR 10 3 37) ∈ kX10_init := qX10_init_0 _ (List.mem_of_getElem? (i := 17) rfl)
theorem tX10_init_37 : (37, a_aload 0 38) ∈ kX10_init := qX10_init_0 _ (List.mem_of_getElem? (i := 18) rfl)
theorem tX10_init_38 : (38, a_i 19 40) ∈ kX10_init := qX10_init_0 _ (List.mem_of_getElem? (i := 19) rfl)
theorem tX10_init_40 : (40, a_newI 42) ∈ kX10_init := qX10_init_0 _ (List.mem_of_getElem? (i := 20) rfl)
theorem tX10_init_42 : (42, a_putR 10 4 45) ∈ kX10_init := qX10_init_0 _ (List.mem_of_getElem? (i := 21) rfl)
theorem tX10_init_45 : (45, a_aload 0 46) ∈ kX10_init := qX10_init_0 _ (List.mem_of_getElem? (i := 22) rfl)
theorem tX10_init_46 : (46, a_i 13 48) ∈ kX10_init := qX10_init_0 _ (List.mem_of_getElem? (i := 23) rfl)
theorem qX10_init_1 : ∀ q ∈ kX10_init_1, q ∈ kX10_init := fun _ h => (List.mem_append_right _ h)
theorem tX10_init_48 : (48, a_newI 50) ∈ kX10_init := qX10_init_1 _ (List.mem_of_getElem? (i := 0) rfl)
theorem tX10_init_50 : (50, a_putR 10 5 53) ∈ kX10_init := qX10_init_1 _ (List.mem_of_getElem? (i := 1) rfl)
theorem tX10_init_53 : (53, a_aload 0 54) ∈ kX10_init := qX10_init_1 _ (List.mem_of_getElem? (i := 2) rfl)
theorem tX10_init_54 : (54, a_i 0 55) ∈ kX10_init := qX10_init_1 _ (List.mem_of_getElem? (i := 3) rfl)
theorem tX10_init_55 : (55, a_putI 10 6 58 false) ∈ kX10_init := qX10_init_1 _ (List.mem_of_getElem? (i := 4) rfl)
theorem tX10_init_58 : (58, a_aload 0 59) ∈ kX10_init := qX10_init_1 _ (List.mem_of_getElem? (i := 5) rfl)
theorem tX10_init_59 : (59, a_i 0 60) ∈ kX10_init := qX10_init_1 _ (List.mem_of_getElem? (i := 6) rfl)
theorem tX10_init_60 : (60, a_putI 10 7 63 false) ∈ kX10_init := qX10_init_1 _ (List.mem_of_getElem? (i := 7) rfl)
theorem tX10_init_63 : (63, a_vret) ∈ kX10_init := qX10_init_1 _ (List.mem_of_getElem? (i := 8) rfl)
theorem oX10_init : ∀ q ∈ kX10_init, zSnd zty true RX10 cX10_init 1 none true q := List.forall_mem_append.mpr ⟨oX10_init_0, oX10_init_1⟩
theorem dX10_hasLine_0 : decode cX10_hasLine 0 = .ok (.aload_n 0, 1) := by decide +kernel
theorem dX10_hasLine_1 : decode cX10_hasLine 1 = .ok (.getfield 30, 3) := by decide +kernel
theorem dX10_hasLine_4 : decode cX10_hasLine 4 = .ok (.iload_n 1, 1) := by decide +kernel
theorem dX10_hasLine_5 : decode cX10_hasLine 5 = .ok (.invokestatic 37, 3) := by decide +kernel
theorem dX10_hasLine_8 : decode cX10_hasLine 8 = .ok (.ireturn, 1) := by decide +kernel
def kX10_hasLine_0 : List (Nat × zT) := [(0, a_aload 0 1), (1, a_getI 10 6 4), (4, a_iload 1 5), (5, a_call 132 2 8 0 0), (8, a_iret true)]
theorem oX10_hasLine_0 : ∀ q ∈ kX10_hasLine_0, zSnd zty false RX10 cX10_hasLine 2 (some .boolean) false q := List.forall_mem_cons.mpr ⟨ok_aload_n dX10_hasLine_0 rfl, List.forall_mem_cons.mpr ⟨ok_getI dX10_hasLine_1 rfl in10 (by decide) rfl w84, List.forall_mem_cons.mpr ⟨ok_iload_n dX10_hasLine_4 rfl, List.forall_mem_cons.mpr ⟨ok_callSN dX10_hasLine_5 rfl w433 n431 w432 w1 (by decide +kernel) (by decide), List.forall_mem_cons.mpr ⟨ok_iret (bz := true) dX10_hasLine_8 rfl, fun _ h => absurd h List.not_mem_nil⟩⟩⟩⟩⟩
def kX10_hasLine : List (Nat × zT) := kX10_hasLine_0
theorem qX10_hasLine_0 : ∀ q ∈ kX10_hasLine_0, q ∈ kX10_hasLine := fun _ h => h
theorem tX10_hasLine_0 : (0, a_aload 0 1) ∈ kX10_hasLine := qX10_hasLine_0 _ (List.mem_of_getElem? (i := 0) rfl)
theorem tX10_hasLine_1 : (1, a_getI 10 6 4) ∈ kX10_hasLine := qX10_hasLine_0 _ (List.mem_of_getElem? (i := 1) rfl)
theorem tX10_hasLine_4 : (4, a_iload 1 5) ∈ kX10_hasLine := qX10_hasLine_0 _ (List.mem_of_getElem? (i := 2) rfl)
theorem tX10_hasLine_5 : (5, a_call 132 2 8 0 0) ∈ kX10_hasLine := qX10_hasLine_0 _ (List.mem_of_getElem? (i := 3) rfl)
theorem tX10_hasLine_8 : (8, a_iret true) ∈ kX10_hasLine := qX10_hasLine_0 _ (List.mem_of_getElem? (i := 4) rfl)
theorem oX10_hasLine : ∀ q ∈ kX10_hasLine, zSnd zty false RX10 cX10_hasLine 2 (some .boolean) false q := oX10_hasLine_0
theorem dX10_forget_0 : decode cX10_forget 0 = .ok (.aload_n 0, 1) := by decide +kernel
theorem dX10_forget_1 : decode cX10_forget 1 = .ok (.iconst 0, 1) := by decide +kernel
theorem dX10_forget_2 : decode cX10_forget 2 = .ok (.putfield 30, 3) := by decide +kernel
theorem dX10_forget_5 : decode cX10_forget 5 = .ok (.aload_n 0, 1) := by decide +kernel
theorem dX10_forget_6 : decode cX10_forget 6 = .ok (.getfield 21, 3) := by decide +kernel
theorem dX10_forget_9 : decode cX10_forget 9 = .ok (.iconst 0, 1) := by decide +kernel
theorem dX10_forget_10 : decode cX10_forget 10 = .ok (.invokestatic 41, 3) := by decide +kernel
theorem dX10_forget_13 : decode cX10_forget 13 = .ok (.aload_n 0, 1) := by decide +kernel
theorem dX10_forget_14 : decode cX10_forget 14 = .ok (.getfield 24, 3) := by decide +kernel
theorem dX10_forget_17 : decode cX10_forget 17 = .ok (.iconst 0, 1) := by decide +kernel
theorem dX10_forget_18 : decode cX10_forget 18 = .ok (.invokestatic 41, 3) := by decide +kernel
theorem dX10_forget_21 : decode cX10_forget 21 = .ok (.return_, 1) := by decide +kernel
def kX10_forget_0 : List (Nat × zT) := [(0, a_aload 0 1), (1, a_i 0 2), (2, a_putI 10 6 5 false), (5, a_aload 0 6), (6, a_getR 10 3 9), (9, a_i 0 10), (10, a_call 221 2 13 0 0), (13, a_aload 0 14), (14, a_getR 10 4 17), (17, a_i 0 18), (18, a_call 221 2 21 0 0), (21, a_vret)]
theorem oX10_forget_0 : ∀ q ∈ kX10_forget_0, zSnd zty false RX10 cX10_forget 1 none false q := List.forall_mem_cons.mpr ⟨ok_aload_n dX10_forget_0 rfl, List.forall_mem_cons.mpr ⟨ok_iconst dX10_forget_1 (by decide), List.forall_mem_cons.mpr ⟨ok_putI (bz := false) dX10_forget_2 rfl in10 tyX10 tyX10_ok nmX10 (by decide) rfl w84 rfl rfl, List.forall_mem_cons.mpr ⟨ok_aload_n dX10_forget_5 rfl, List.forall_mem_cons.mpr ⟨ok_getR dX10_forget_6 rfl in10 (by decide) rfl w72, List.forall_mem_cons.mpr ⟨ok_iconst dX10_forget_9 (by decide), List.forall_mem_cons.mpr ⟨ok_callS dX10_forget_10 rfl w415 w413 w414 w14 (by decide +kernel) (by decide), List.forall_mem_cons.mpr ⟨ok_aload_n dX10_forget_13 rfl, List.forall_mem_cons.mpr ⟨ok_getR dX10_forget_14 rfl in10 (by decide) rfl w75, List.forall_mem_cons.mpr ⟨ok_iconst dX10_forget_17 (by decide), List.forall_mem_cons.mpr ⟨ok_callS dX10_forget_18 rfl w415 w413 w414 w14 (by decide +kernel) (by decide), List.forall_mem_cons.mpr ⟨ok_vret dX10_forget_21 rfl, fun _ h => absurd h List.not_mem_nil⟩⟩⟩⟩⟩⟩⟩⟩⟩⟩⟩⟩
def kX10_forget : List (Nat × zT) := kX10_forget_0
theorem qX10_forget_0 : ∀ q ∈ kX10_forget_0, q ∈ kX10_forget := fun _ h => h
theorem tX10_forget_0 : (0, a_aload 0 1) ∈ kX10_forget := qX10_forget_0 _ (List.mem_of_getElem? (i := 0) rfl)
theorem tX10_forget_1 : (1, a_i 0 2) ∈ kX10_forget := qX10_forget_0 _ (List.mem_of_getElem? (i := 1) rfl)
theorem tX10_forget_2 : (2, a_putI 10 6 5 false) ∈ kX10_forget := qX10_forget_0 _ (List.mem_of_getElem? (i := 2) rfl)
theorem tX10_forget_5 : (5, a_aload 0 6) ∈ kX10_forget := qX10_forget_0 _ (List.mem_of_getElem? (i := 3) rfl)
theorem tX10_forget_6 : (6, a_getR 10 3 9) ∈ kX10_forget := qX10_forget_0 _ (List.mem_of_getElem? (i := 4) rfl)
theorem tX10_forget_9 : (9, a_i 0 10) ∈ kX10_forget := qX10_forget_0 _ (List.mem_of_getElem? (i := 5) rfl)
theorem tX10_forget_10 : (10, a_call 221 2 13 0 0) ∈ kX10_forget := qX10_forget_0 _ (List.mem_of_getElem? (i := 6) rfl)
theorem tX10_forget_13 : (13, a_aload 0 14) ∈ kX10_forget := qX10_forget_0 _ (List.mem_of_getElem? (i := 7) rfl)
theorem tX10_forget_14 : (14, a_getR 10 4 17) ∈ kX10_forget := qX10_forget_0 _ (List.mem_of_getElem? (i := 8) rfl)
theorem tX10_forget_17 : (17, a_i 0 18) ∈ kX10_forget := qX10_forget_0 _ (List.mem_of_getElem? (i := 9) rfl)
theorem tX10_forget_18 : (18, a_call 221 2 21 0 0) ∈ kX10_forget := qX10_forget_0 _ (List.mem_of_getElem? (i := 10) rfl)
theorem tX10_forget_21 : (21, a_vret) ∈ kX10_forget := qX10_forget_0 _ (List.mem_of_getElem? (i := 11) rfl)
theorem oX10_forget : ∀ q ∈ kX10_forget, zSnd zty false RX10 cX10_forget 1 none false q := oX10_forget_0
theorem dX10_become_0 : decode cX10_become 0 = .ok (.aload_n 1, 1) := by decide +kernel
theorem dX10_become_1 : decode cX10_become 1 = .ok (.getfield 9, 3) := by decide +kernel
theorem dX10_become_4 : decode cX10_become 4 = .ok (.iconst 0, 1) := by decide +kernel
theorem dX10_become_5 : decode cX10_become 5 = .ok (.aload_n 0, 1) := by decide +kernel
theorem dX10_become_6 : decode cX10_become 6 = .ok (.getfield 9, 3) := by decide +kernel
theorem dX10_become_9 : decode cX10_become 9 = .ok (.iconst 0, 1) := by decide +kernel
theorem dX10_become_10 : decode cX10_become 10 = .ok (.sipush 200, 3) := by decide +kernel
theorem dX10_become_13 : decode cX10_become 13 = .ok (.invokestatic 47, 3) := by decide +kernel
theorem dX10_become_16 : decode cX10_become 16 = .ok (.aload_n 1, 1) := by decide +kernel
theorem dX10_become_17 : decode cX10_become 17 = .ok (.getfield 15, 3) := by decide +kernel
theorem dX10_become_20 : decode cX10_become 20 = .ok (.iconst 0, 1) := by decide +kernel
theorem dX10_become_21 : decode cX10_become 21 = .ok (.aload_n 0, 1) := by decide +kernel
theorem dX10_become_22 : decode cX10_become 22 = .ok (.getfield 15, 3) := by decide +kernel
theorem dX10_become_25 : decode cX10_become 25 = .ok (.iconst 0, 1) := by decide +kernel
theorem dX10_become_26 : decode cX10_become 26 = .ok (.bipush 19, 2) := by decide +kernel
theorem dX10_become_28 : decode cX10_become 28 = .ok (.invokestatic 47, 3) := by decide +kernel
theorem dX10_become_31 : decode cX10_become 31 = .ok (.aload_n 1, 1) := by decide +kernel
theorem dX10_become_32 : decode cX10_become 32 = .ok (.getfield 18, 3) := by decide +kernel
theorem dX10_become_35 : decode cX10_become 35 = .ok (.iconst 0, 1) := by decide +kernel
theorem dX10_become_36 : decode cX10_become 36 = .ok (.aload_n 0, 1) := by decide +kernel
theorem dX10_become_37 : decode cX10_become 37 = .ok (.getfield 18, 3) := by decide +kernel
theorem dX10_become_40 : decode cX10_become 40 = .ok (.iconst 0, 1) := by decide +kernel
theorem dX10_become_41 : decode cX10_become 41 = .ok (.bipush 19, 2) := by decide +kernel
theorem dX10_become_43 : decode cX10_become 43 = .ok (.invokestatic 47, 3) := by decide +kernel
theorem dX10_become_46 : decode cX10_become 46 = .ok (.aload_n 1, 1) := by decide +kernel
theorem dX10_become_47 : decode cX10_become 47 = .ok (.getfield 21, 3) := by decide +kernel
theorem dX10_become_50 : decode cX10_become 50 = .ok (.iconst 0, 1) := by decide +kernel
theorem dX10_become_51 : decode cX10_become 51 = .ok (.aload_n 0, 1) := by decide +kernel
theorem dX10_become_52 : decode cX10_become 52 = .ok (.getfield 21, 3) := by decide +kernel
theorem dX10_become_55 : decode cX10_become 55 = .ok (.iconst 0, 1) := by decide +kernel
theorem dX10_become_56 : decode cX10_become 56 = .ok (.bipush 19, 2) := by decide +kernel
theorem dX10_become_58 : decode cX10_become 58 = .ok (.invokestatic 47, 3) := by decide +kernel
theorem dX10_become_61 : decode cX10_become 61 = .ok (.aload_n 1, 1) := by decide +kernel
theorem dX10_become_62 : decode cX10_become 62 = .ok (.getfield 24, 3) := by decide +kernel
theorem dX10_become_65 : decode cX10_become 65 = .ok (.iconst 0, 1) := by decide +kernel
theorem dX10_become_66 : decode cX10_become 66 = .ok (.aload_n 0, 1) := by decide +kernel
theorem dX10_become_67 : decode cX10_become 67 = .ok (.getfield 24, 3) := by decide +kernel
theorem dX10_become_70 : decode cX10_become 70 = .ok (.iconst 0, 1) := by decide +kernel
theorem dX10_become_71 : decode cX10_become 71 = .ok (.bipush 19, 2) := by decide +kernel
theorem dX10_become_73 : decode cX10_become 73 = .ok (.invokestatic 47, 3) := by decide +kernel
theorem dX10_become_76 : decode cX10_become 76 = .ok (.aload_n 1, 1) := by decide +kernel
theorem dX10_become_77 : decode cX10_become 77 = .ok (.getfield 27, 3) := by decide +kernel
theorem dX10_become_80 : decode cX10_become 80 = .ok (.iconst 0, 1) := by decide +kernel
theorem dX10_become_81 : decode cX10_become 81 = .ok (.aload_n 0, 1) := by decide +kernel
theorem dX10_become_82 : decode cX10_become 82 = .ok (.getfield 27, 3) := by decide +kernel
theorem dX10_become_85 : decode cX10_become 85 = .ok (.iconst 0, 1) := by decide +kernel
theorem dX10_become_86 : decode cX10_become 86 = .ok (.bipush 13, 2) := by decide +kernel
theorem dX10_become_88 : decode cX10_become 88 = .ok (.invokestatic 47, 3) := by decide +kernel
theorem dX10_become_91 : decode cX10_become 91 = .ok (.aload_n 0, 1) := by decide +kernel
theorem dX10_become_92 : decode cX10_become 92 = .ok (.aload_n 1, 1) := by decide +kernel
theorem dX10_become_93 : decode cX10_become 93 = .ok (.getfield 30, 3) := by decide +kernel
theorem dX10_become_96 : decode cX10_become 96 = .ok (.putfield 30, 3) := by decide +kernel
theorem dX10_become_99 : decode cX10_become 99 = .ok (.aload_n 0, 1) := by decide +kernel
theorem dX10_become_100 : decode cX10_become 100 = .ok (.aload_n 1, 1) := by decide +kernel
theorem dX10_become_101 : decode cX10_become 101 = .ok (.getfield 34, 3) := by decide +kernel
theorem dX10_become_104 : decode cX10_become 104 = .ok (.putfield 34, 3) := by decide +kernel
theorem dX10_become_107 : decode cX10_become 107 = .ok (.return_, 1) := by decide +kernel
def kX10_become_0 : List (Nat × zT) := [(0, a_aload 1 1), (1, a_getR 10 0 4), (4, a_i 0 5), (5, a_aload 0 6), (6, a_getR 10 0 9), (9, a_i 0 10), (10, a_i 200 13), (13, a_copy 16), (16, a_aload 1 17), (17, a_getR 10 1 20), (20, a_i 0 21), (21, a_aload 0 22), (22, a_getR 10 1 25), (25, a_i 0 26), (26, a_i 19 28), (28, a_copy 31), (31, a_aload 1 32), (32, a_getR 10 2 35), (35, a_i 0 36), (36, a_aload 0 37), (37, a_getR 10 2 40), (40, a_i 0 41), (41, a_i 19 43), (43, a_copy 46)]
theorem oX10_become_0 : ∀ q ∈ kX10_become_0, zSnd zty false RX10 cX10_become 2 none false q := List.forall_mem_cons.mpr ⟨ok_aload_n dX10_become_0 rfl, List.forall_mem_cons.mpr ⟨ok_getR dX10_become_1 rfl in10 (by decide) rfl w52, List.forall_mem_cons.mpr ⟨ok_iconst dX10_become_4 (by decide), List.forall_mem_cons.mpr ⟨ok_aload_n dX10_become_5 rfl, List.forall_mem_cons.mpr ⟨ok_getR dX10_become_6 rfl in10 (by decide) rfl w52, List.forall_mem_cons.mpr ⟨ok_iconst dX10_become_9 (by decide), List.forall_mem_cons.mpr ⟨ok_sipush dX10_become_10 (by decide), List.forall_mem_cons.mpr ⟨ok_copy dX10_become_13 rfl w500 w502 w501 w16 (by decide +kernel), List.forall_mem_cons.mpr ⟨ok_aload_n dX10_become_16 rfl, List.forall_mem_cons.mpr ⟨ok_getR dX10_become_17 rfl in10 (by decide) rfl w58, List.forall_mem_cons.mpr ⟨ok_iconst dX10_become_20 (by decide), List.forall_mem_cons.mpr ⟨ok_aload_n dX10_become_21 rfl, List.forall_mem_cons.mpr ⟨ok_getR dX10_become_22 rfl in10 (by decide) rfl w58, List.forall_mem_cons.mpr ⟨ok_iconst dX10_become_25 (by decide), List.forall_mem_cons.mpr ⟨ok_bipush dX10_become_26 (by decide), List.forall_mem_cons.mpr ⟨ok_copy dX10_become_28 rfl w500 w502 w501 w16 (by decide +kernel), List.forall_mem_cons.mpr ⟨ok_aload_n dX10_become_31 rfl, List.forall_mem_cons.mpr ⟨ok_getR dX10_become_32 rfl in10 (by decide) rfl w65, List.forall_mem_cons.mpr ⟨ok_iconst dX10_become_35 (by decide), List.forall_mem_cons.mpr ⟨ok_aload_n dX10_become_36 rfl, List.forall_mem_cons.mpr ⟨ok_getR dX10_become_37 rfl in10 (by decide) rfl w65, List.forall_mem_cons.mpr ⟨ok_iconst dX10_become_40 (by decide), List.forall_mem_cons.mpr ⟨ok_bipush dX10_become_41 (by decide), List.forall_mem_cons.mpr ⟨ok_copy dX10_become_43 rfl w500 w502 w501 w16 (by decide +kernel), fun _ h => absurd h List.not_mem_nil⟩⟩⟩⟩⟩⟩⟩⟩⟩⟩⟩⟩⟩⟩⟩⟩⟩⟩⟩⟩⟩⟩⟩⟩
def kX10_become_1 : List (Nat × zT) := [(46, a_aload 1 47), (47, a_getR 10 3 50), (50, a_i 0 51), (51, a_aload 0 52), (52, a_getR 10 3 55), (55, a_i 0 56), (56, a_i 19 58), (58, a_copy 61), (61, a_aload 1 62), (62, a_getR 10 4 65), (65, a_i 0 66), (66, a_aload 0 67), (67, a_getR 10 4 70), (70, a_i 0 71), (71, a_i 19 73), (73, a_copy 76), (76, a_aload 1 77), (77, a_getR 10 5 80), (80, a_i 0 81), (81, a_aload 0 82), (82, a_getR 10 5 85), (85, a_i 0 86), (86, a_i 13 88), (88, a_copy 91)]
theorem oX10_become_1 : ∀ q ∈ kX10_become_1, zSnd zty false RX10 cX10_become 2 none false q := List.forall_mem_cons.mpr ⟨ok_aload_n dX10_become_46 rfl, List.forall_mem_cons.mpr ⟨ok_getR dX10_become_47 rfl in10 (by decide) rfl w72, List.forall_mem_cons.mpr ⟨ok_iconst dX10_become_50 (by decide), List.forall_mem_cons.mpr ⟨ok_aload_n dX10_become_51 rfl, List.forall_mem_cons.mpr ⟨ok_getR dX10_become_52 rfl in10 (by decide) rfl w72, List.forall_mem_cons.mpr ⟨ok_iconst dX10_become_55 (by decide), List.forall_mem_cons.mpr ⟨ok_bipush dX10_become_56 (by decide), List.forall_mem_cons.mpr ⟨ok_copy dX10_become_58 rfl w500 w502 w501 w16 (by decide +kernel), List.forall_mem_cons.mpr ⟨ok_aload_n dX10_become_61 rfl, List.forall_mem_cons.mpr ⟨ok_getR dX10_become_62 rfl in10 (by decide) rfl w75, List.forall_mem_cons.mpr ⟨ok_iconst dX10_become_65 (by decide), List.forall_mem_cons.mpr ⟨ok_aload_n dX10_become_66 rfl, List.forall_mem_cons.mpr ⟨ok_getR dX10_become_67 rfl in10 (by decide) rfl w75, List.forall_mem_cons.mpr ⟨ok_iconst dX10_become_70 (by decide), List.forall_mem_cons.mpr ⟨ok_bipush dX10_become_71 (by decide), List.forall_mem_cons.mpr ⟨ok_copy dX10_become_73 rfl w500 w502 w501 w16 (by decide +kernel), List.forall_mem_cons.mpr ⟨ok_aload_n dX10_become_76 rfl, List.forall_mem_cons.mpr ⟨ok_getR dX10_become_77 rfl in10 (by decide) rfl w79, List.forall_mem_cons.mpr ⟨ok_iconst dX10_become_80 (by decide), List.forall_mem_cons.mpr ⟨ok_aload_n dX10_become_81 rfl, List.forall_mem_cons.mpr ⟨ok_getR dX10_become_82 rfl in10 (by decide) rfl w79, List.forall_mem_cons.mpr ⟨ok_iconst dX10_become_85 (by decide), List.forall_mem_cons.mpr ⟨ok_bipush dX10_become_86 (by decide), List.forall_mem_cons.mpr ⟨ok_copy dX10_become_88 rfl w500 w502 w501 w16 (by decide +kernel), fun _ h => absurd h List.not_mem_nil⟩⟩⟩⟩⟩⟩⟩⟩⟩⟩⟩⟩⟩⟩⟩⟩⟩⟩⟩⟩⟩⟩⟩⟩
def kX10_become_2 : List (Nat × zT) := [(91, a_aload 0 92), (92, a_aload 1 93), (93, a_getI 10 6 96), (96, a_putI 10 6 99 false), (99, a_aload 0 100), (100, a_aload 1 101), (101, a_getI 10 7 104), (104, a_putI 10 7 107 false), (107, a_vret)]
theorem oX10_become_2 : ∀ q ∈ kX10_become_2, zSnd zty false RX10 cX10_become 2 none false q := List.forall_mem_cons.mpr ⟨ok_aload_n dX10_become_91 rfl, List.forall_mem_cons.mpr ⟨ok_aload_n dX10_become_92 rfl, List.forall_mem_cons.mpr ⟨ok_getI dX10_become_93 rfl in10 (by decide) rfl w84, List.forall_mem_cons.mpr ⟨ok_putI (bz := false) dX10_become_96 rfl in10 tyX10 tyX10_ok nmX10 (by decide) rfl w84 rfl rfl, List.forall_mem_cons.mpr ⟨ok_aload_n dX10_become_99 rfl, List.forall_mem_cons.mpr ⟨ok_aload_n dX10_become_100 rfl, List.forall_mem_cons.mpr ⟨ok_getI dX10_become_101 rfl in10 (by decide) rfl w88, List.forall_mem_cons.mpr ⟨ok_putI (bz := false) dX10_become_104 rfl in10 tyX10 tyX10_ok nmX10 (by decide) rfl w88 rfl rfl, List.forall_mem_cons.mpr ⟨ok_vret dX10_become_107 rfl, fun _ h => absurd h List.not_mem_nil⟩⟩⟩⟩⟩⟩⟩⟩⟩
def kX10_become : List (Nat × zT) := kX10_become_0 ++ (kX10_become_1 ++ (kX10_become_2))
theorem qX10_become_0 : ∀ q ∈ kX10_become_0, q ∈ kX10_become := fun _ h => (List.mem_append_left _ h)
theorem tX10_become_0 : (0, a_aload 1 1) ∈ kX10_become := qX10_become_0 _ (List.mem_of_getElem? (i := 0) rfl)
theorem tX10_become_1 : (1, a_getR 10 0 4) ∈ kX10_become := qX10_become_0 _ (List.mem_of_getElem? (i := 1) rfl)
theorem tX10_become_4 : (4, a_i 0 5) ∈ kX10_become := qX10_become_0 _ (List.mem_of_getElem? (i := 2) rfl)
theorem tX10_become_5 : (5, a_aload 0 6) ∈ kX10_become := qX10_become_0 _ (List.mem_of_getElem? (i := 3) rfl)
theorem tX10_become_6 : (6, a_getR 10 0 9) ∈ kX10_become := qX10_become_0 _ (List.mem_of_getElem? (i := 4) rfl)
theorem tX10_become_9 : (9, a_i 0 10) ∈ kX10_become := qX10_become_0 _ (List.mem_of_getElem? (i := 5) rfl)
theorem tX10_become_10 : (10, a_i 200 13) ∈ kX10_become := qX10_become_0 _ (List.mem_of_getElem? (i := 6) rfl)
theorem tX10_become_13 : (13, a_copy 16) ∈ kX10_become := qX10_become_0 _ (List.mem_of_getElem? (i := 7) rfl)
theorem tX10_become_16 : (16, a_aload 1 17) ∈ kX10_become := qX10_become_0 _ (List.mem_of_getElem? (i := 8) rfl)
theorem tX10_become_17 : (17, a_getR 10 1 20) ∈ kX10_become := qX10_become_0 _ (List.mem_of_getElem? (i := 9) rfl)
theorem tX10_become_20 : (20, a_i 0 21) ∈ kX10_become := qX10_become_0 _ (List.mem_of_getElem? (i := 10) rfl)
theorem tX10_become_21 : (21, a_aload 0 22) ∈ kX10_become := qX10_become_0 _ (List.mem_of_getElem? (i := 11) rfl)
theorem tX10_become_22 : (22, a_getR 10 1 25) ∈ kX10_become := qX10_become_0 _ (List.mem_of_getElem? (i := 12) rfl)
theorem tX10_become_25 : (25, a_i 0 26) ∈ kX10_become := qX10_become_0 _ (List.mem_of_getElem? (i := 13) rfl)
theorem tX10_become_26 : (26, a_i 19 28) ∈ kX10_become := qX10_become_0 _ (List.mem_of_getElem? (i := 14) rfl)
theorem tX10_become_28 : (28, a_copy 31) ∈ kX10_become := qX10_become_0 _ (List.mem_of_getElem? (i := 15) rfl)
theorem tX10_become_31 : (31, a_aload 1 32) ∈ kX10_become := qX10_become_0 _ (List.mem_of_getElem? (i := 16) rfl)
theorem tX10_become_32 : (32, a_getR 10 2 35) ∈ kX10_become := qX10_become_0 _ (List.mem_of_getElem? (i := 17) rfl)
theorem tX10_become_35 : (35, a_i 0 36) ∈ kX10_become := qX10_become_0 _ (List.mem_of_getElem? (i := 18) rfl)
theorem tX10_become_36 : (36, a_aload 0 37) ∈ kX10_become := qX10_become_0 _ (List.mem_of_getElem? (i := 19) rfl)
theorem tX10_become_37 : (37, a_getR 10 2 40) ∈ kX10_become := qX10_become_0 _ (List.mem_of_getElem? (i := 20) rfl)
theorem tX10_become_40 : (40, a_i 0 41) ∈ kX10_become := qX10_become_0 _ (List.mem_of_getElem? (i := 21) rfl)
theorem tX10_become_41 : (41, a_i 19 43) ∈ kX10_become := qX10_become_0 _ (List.mem_of_getElem? (i := 22) rfl)
theorem tX10_become_43 : (43, a_copy 46) ∈ kX10_become := qX10_become_0 _ (List.mem_of_getElem? (i := 23) rfl)
theorem qX10_become_1 : ∀ q ∈ kX10_become_1, q ∈ kX10_become := fun _ h => (List.mem_append_right _ (List.mem_append_left _ h))
theorem tX10_become_46 : (46, a_aload 1 47) ∈ kX10_become := qX10_become_1 _ (List.mem_of_getElem? (i := 0) rfl)
theorem tX10_become_47 : (47, a_getR 10 3 50) ∈ kX10_become := qX10_become_1 _ (List.mem_of_getElem? (i := 1) rfl)
theorem tX10_become_50 : (50, a_i 0 51) ∈ kX10_become := qX10_become_1 _ (List.mem_of_getElem? (i := 2) rfl)
theorem tX10_become_51 : (51, a_aload 0 52) ∈ kX10_become := qX10_become_1 _ (List.mem_of_getElem? (i := 3) rfl)
theorem tX10_become_52 : (52, a_getR 10 3 55) ∈ kX10_become := qX10_become_1 _ (List.mem_of_getElem? (i := 4) rfl)
theorem tX10_become_55 : (55, a_i 0 56) ∈ kX10_become := qX10_become_1 _ (List.mem_of_getElem? (i := 5) rfl)
theorem tX10_become_56 : (56, a_i 19 58) ∈ kX10_become := qX10_become_1 _ (List.mem_of_getElem? (i := 6) rfl)
theorem tX10_become_58 : (58, a_copy 61) ∈ kX10_become := qX10_become_1 _ (List.mem_of_getElem? (i := 7) rfl)
theorem tX10_become_61 : (61, a_aload 1 62) ∈ kX10_become := qX10_become_1 _ (List.mem_of_getElem? (i := 8) rfl)
theorem tX10_become_62 : (62, a_getR 10 4 65) ∈ kX10_become := qX10_become_1 _ (List.mem_of_getElem? (i := 9) rfl)
theorem tX10_become_65 : (65, a_i 0 66) ∈ kX10_become := qX10_become_1 _ (List.mem_of_getElem? (i := 10) rfl)
theorem tX10_become_66 : (66, a_aload 0 67) ∈ kX10_become := qX10_become_1 _ (List.mem_of_getElem? (i := 11) rfl)
theorem tX10_become_67 : (67, a_getR 10 4 70) ∈ kX10_become := qX10_become_1 _ (List.mem_of_getElem? (i := 12) rfl)
theorem tX10_become_70 : (70, a_i 0 71) ∈ kX10_become := qX10_become_1 _ (List.mem_of_getElem? (i := 13) rfl)
theorem tX10_become_71 : (71, a_i 19 73) ∈ kX10_become := qX10_become_1 _ (List.mem_of_getElem? (i := 14) rfl)
theorem tX10_become_73 : (73, a_copy 76) ∈ kX10_become := qX10_become_1 _ (List.mem_of_getElem? (i := 15) rfl)
theorem tX10_become_76 : (76, a_aload 1 77) ∈ kX10_become := qX10_become_1 _ (List.mem_of_getElem? (i := 16) rfl)
theorem tX10_become_77 : (77, a_getR 10 5 80) ∈ kX10_become := qX10_become_1 _ (List.mem_of_getElem? (i := 17) rfl)
theorem tX10_become_80 : (80, a_i 0 81) ∈ kX10_become := qX10_become_1 _ (List.mem_of_getElem? (i := 18) rfl)
theorem tX10_become_81 : (81, a_aload 0 82) ∈ kX10_become := qX10_become_1 _ (List.mem_of_getElem? (i := 19) rfl)
theorem tX10_become_82 : (82, a_getR 10 5 85) ∈ kX10_become := qX10_become_1 _ (List.mem_of_getElem? (i := 20) rfl)
theorem tX10_become_85 : (85, a_i 0 86) ∈ kX10_become := qX10_become_1 _ (List.mem_of_getElem? (i := 21) rfl)
theorem tX10_become_86 : (86, a_i 13 88) ∈ kX10_become := qX10_become_1 _ (List.mem_of_getElem? (i := 22) rfl)
theorem tX10_become_88 : (88, a_copy 91) ∈ kX10_become := qX10_become_1 _ (List.mem_of_getElem? (i := 23) rfl)
theorem qX10_become_2 : ∀ q ∈ kX10_become_2, q ∈ kX10_become := fun _ h => (List.mem_append_right _ (List.mem_append_right _ h))
theorem tX10_become_91 : (91, a_aload 0 92) ∈ kX10_become := qX10_become_2 _ (List.mem_of_getElem? (i := 0) rfl)
theorem tX10_become_92 : (92, a_aload 1 93) ∈ kX10_become := qX10_become_2 _ (List.mem_of_getElem? (i := 1) rfl)
theorem tX10_become_93 : (93, a_getI 10 6 96) ∈ kX10_become := qX10_become_2 _ (List.mem_of_getElem? (i := 2) rfl)
theorem tX10_become_96 : (96, a_putI 10 6 99 false) ∈ kX10_become := qX10_become_2 _ (List.mem_of_getElem? (i := 3) rfl)
theorem tX10_become_99 : (99, a_aload 0 100) ∈ kX10_become := qX10_become_2 _ (List.mem_of_getElem? (i := 4) rfl)
theorem tX10_become_100 : (100, a_aload 1 101) ∈ kX10_become := qX10_become_2 _ (List.mem_of_getElem? (i := 5) rfl)
theorem tX10_become_101 : (101, a_getI 10 7 104) ∈ kX10_become := qX10_become_2 _ (List.mem_of_getElem? (i := 6) rfl)
theorem tX10_become_104 : (104, a_putI 10 7 107 false) ∈ kX10_become := qX10_become_2 _ (List.mem_of_getElem? (i := 7) rfl)
theorem tX10_become_107 : (107, a_vret) ∈ kX10_become := qX10_become_2 _ (List.mem_of_getElem? (i := 8) rfl)
theorem oX10_become : ∀ q ∈ kX10_become, zSnd zty false RX10 cX10_become 2 none false q := List.forall_mem_append.mpr ⟨oX10_become_0, List.forall_mem_append.mpr ⟨oX10_become_1, oX10_become_2⟩⟩
theorem dX10_leanThroughWires_0 : decode cX10_leanThroughWires 0 = .ok (.bipush 6, 2) := by decide +kernel
theorem dX10_leanThroughWires_2 : decode cX10_leanThroughWires 2 = .ok (.istore_n 1, 1) := by decide +kernel
theorem dX10_leanThroughWires_3 : decode cX10_leanThroughWires 3 = .ok (.iload_n 1, 1) := by decide +kernel
theorem dX10_leanThroughWires_4 : decode cX10_leanThroughWires 4 = .ok (.bipush 15, 2) := by decide +kernel
theorem dX10_leanThroughWires_6 : decode cX10_leanThroughWires 6 = .ok (.if_icmp .ge 52, 3) := by decide +kernel
theorem dX10_leanThroughWires_9 : decode cX10_leanThroughWires 9 = .ok (.bipush 6, 2) := by decide +kernel
theorem dX10_leanThroughWires_11 : decode cX10_leanThroughWires 11 = .ok (.istore_n 2, 1) := by decide +kernel
theorem dX10_leanThroughWires_12 : decode cX10_leanThroughWires 12 = .ok (.iload_n 2, 1) := by decide +kernel
theorem dX10_leanThroughWires_13 : decode cX10_leanThroughWires 13 = .ok (.bipush 19, 2) := by decide +kernel
theorem dX10_leanThroughWires_15 : decode cX10_leanThroughWires 15 = .ok (.if_icmp .ge 37, 3) := by decide +kernel
theorem dX10_leanThroughWires_18 : decode cX10_leanThroughWires 18 = .ok (.aload_n 0, 1) := by decide +kernel
theorem dX10_leanThroughWires_19 : decode cX10_leanThroughWires 19 = .ok (.getfield 21, 3) := by decide +kernel
theorem dX10_leanThroughWires_22 : decode cX10_leanThroughWires 22 = .ok (.iload_n 2, 1) := by decide +kernel
theorem dX10_leanThroughWires_23 : decode cX10_leanThroughWires 23 = .ok (.iaload, 1) := by decide +kernel
theorem dX10_leanThroughWires_24 : decode cX10_leanThroughWires 24 = .ok (.iload_n 1, 1) := by decide +kernel
theorem dX10_leanThroughWires_25 : decode cX10_leanThroughWires 25 = .ok (.invokestatic 37, 3) := by decide +kernel
theorem dX10_leanThroughWires_28 : decode cX10_leanThroughWires 28 = .ok (.ifCond .eq 18, 3) := by decide +kernel
theorem dX10_leanThroughWires_31 : decode cX10_leanThroughWires 31 = .ok (.aload_n 0, 1) := by decide +kernel
theorem dX10_leanThroughWires_32 : decode cX10_leanThroughWires 32 = .ok (.getfield 21, 3) := by decide +kernel
theorem dX10_leanThroughWires_35 : decode cX10_leanThroughWires 35 = .ok (.iload_n 2, 1) := by decide +kernel
theorem dX10_leanThroughWires_36 : decode cX10_leanThroughWires 36 = .ok (.dup2, 1) := by decide +kernel
theorem dX10_leanThroughWires_37 : decode cX10_leanThroughWires 37 = .ok (.iaload, 1) := by decide +kernel
theorem dX10_leanThroughWires_38 : decode cX10_leanThroughWires 38 = .ok (.aload_n 0, 1) := by decide +kernel
theorem dX10_leanThroughWires_39 : decode cX10_leanThroughWires 39 = .ok (.getfield 21, 3) := by decide +kernel
theorem dX10_leanThroughWires_42 : decode cX10_leanThroughWires 42 = .ok (.iload_n 1, 1) := by decide +kernel
theorem dX10_leanThroughWires_43 : decode cX10_leanThroughWires 43 = .ok (.iaload, 1) := by decide +kernel
theorem dX10_leanThroughWires_44 : decode cX10_leanThroughWires 44 = .ok (.ior, 1) := by decide +kernel
theorem dX10_leanThroughWires_45 : decode cX10_leanThroughWires 45 = .ok (.iastore, 1) := by decide +kernel
theorem dX10_leanThroughWires_46 : decode cX10_leanThroughWires 46 = .ok (.iinc 2 1, 3) := by decide +kernel
theorem dX10_leanThroughWires_49 : decode cX10_leanThroughWires 49 = .ok (.goto (-37), 3) := by decide +kernel
theorem dX10_leanThroughWires_52 : decode cX10_leanThroughWires 52 = .ok (.iinc 1 1, 3) := by decide +kernel
theorem dX10_leanThroughWires_55 : decode cX10_leanThroughWires 55 = .ok (.goto (-52), 3) := by decide +kernel
theorem dX10_leanThroughWires_58 : decode cX10_leanThroughWires 58 = .ok (.return_, 1) := by decide +kernel
def kX10_leanThroughWires_0 : List (Nat × zT) := [(0, a_i 6 2), (2, a_istore 1 3), (3, a_iload 1 4), (4, a_i 15 6), (6, a_ic_ge 58 9), (9, a_i 6 11), (11, a_istore 2 12), (12, a_iload 2 13), (13, a_i 19 15), (15, a_ic_ge 52 18), (18, a_aload 0 19), (19, a_getR 10 3 22), (22, a_iload 2 23), (23, a_iald 24), (24, a_iload 1 25), (25, a_call 132 2 28 0 0), (28, a_if_eq 46 31), (31, a_aload 0 32), (32, a_getR 10 3 35), (35, a_iload 2 36), (36, a_dup2 37), (37, a_iald 38), (38, a_aload 0 39), (39, a_getR 10 3 42)]
theorem oX10_leanThroughWires_0 : ∀ q ∈ kX10_leanThroughWires_0, zSnd zty false RX10 cX10_leanThroughWires 3 none false q := List.forall_mem_cons.mpr ⟨ok_bipush dX10_leanThroughWires_0 (by decide), List.forall_mem_cons.mpr ⟨ok_istore_n dX10_leanThroughWires_2 rfl (by decide), List.forall_mem_cons.mpr ⟨ok_iload_n dX10_leanThroughWires_3 rfl, List.forall_mem_cons.mpr ⟨ok_bipush dX10_leanThroughWires_4 (by decide), List.forall_mem_cons.mpr ⟨ok_ic_ge dX10_leanThroughWires_6 (by decide), List.forall_mem_cons.mpr ⟨ok_bipush dX10_leanThroughWires_9 (by decide), List.forall_mem_cons.mpr ⟨ok_istore_n dX10_leanThroughWires_11 rfl (by decide), List.forall_mem_cons.mpr ⟨ok_iload_n dX10_leanThroughWires_12 rfl, List.forall_mem_cons.mpr ⟨ok_bipush dX10_leanThroughWires_13 (by decide), List.forall_mem_cons.mpr ⟨ok_ic_ge dX10_leanThroughWires_15 (by decide), List.forall_mem_cons.mpr ⟨ok_aload_n dX10_leanThroughWires_18 rfl, List.forall_mem_cons.mpr ⟨ok_getR dX10_leanThroughWires_19 rfl in10 (by decide) rfl w72, List.forall_mem_cons.mpr ⟨ok_iload_n dX10_leanThroughWires_22 rfl, List.forall_mem_cons.mpr ⟨ok_iald dX10_leanThroughWires_23, List.forall_mem_cons.mpr ⟨ok_iload_n dX10_leanThroughWires_24 rfl, List.forall_mem_cons.mpr ⟨ok_callSN dX10_leanThroughWires_25 rfl w433 n431 w432 w1 (by decide +kernel) (by decide), List.forall_mem_cons.mpr ⟨ok_if_eq dX10_leanThroughWires_28 (by decide), List.forall_mem_cons.mpr ⟨ok_aload_n dX10_leanThroughWires_31 rfl, List.forall_mem_cons.mpr ⟨ok_getR dX10_leanThroughWires_32 rfl in10 (by decide) rfl w72, List.forall_mem_cons.mpr ⟨ok_iload_n dX10_leanThroughWires_35 rfl, List.forall_mem_cons.mpr ⟨ok_dup2 dX10_leanThroughWires_36, List.forall_mem_cons.mpr ⟨ok_iald dX10_leanThroughWires_37, List.forall_mem_cons.mpr ⟨ok_aload_n dX10_leanThroughWires_38 rfl, List.forall_mem_cons.mpr ⟨ok_getR dX10_leanThroughWires_39 rfl in10 (by decide) rfl w72, fun _ h => absurd h List.not_mem_nil⟩⟩⟩⟩⟩⟩⟩⟩⟩⟩⟩⟩⟩⟩⟩⟩⟩⟩⟩⟩⟩⟩⟩⟩
def kX10_leanThroughWires_1 : List (Nat × zT) := [(42, a_iload 1 43), (43, a_iald 44), (44, a_ii (fun x y => x ||| y) 45), (45, a_iast 46), (46, a_iinc 2 1 49), (49, a_goto 12), (52, a_iinc 1 1 55), (55, a_goto 3), (58, a_vret)]
theorem oX10_leanThroughWires_1 : ∀ q ∈ kX10_leanThroughWires_1, zSnd zty false RX10 cX10_leanThroughWires 3 none false q := List.forall_mem_cons.mpr ⟨ok_iload_n dX10_leanThroughWires_42 rfl, List.forall_mem_cons.mpr ⟨ok_iald dX10_leanThroughWires_43, List.forall_mem_cons.mpr ⟨ok_ior dX10_leanThroughWires_44, List.forall_mem_cons.mpr ⟨ok_iast dX10_leanThroughWires_45, List.forall_mem_cons.mpr ⟨ok_iinc dX10_leanThroughWires_46 (by decide) (by decide), List.forall_mem_cons.mpr ⟨ok_goto dX10_leanThroughWires_49 (by decide), List.forall_mem_cons.mpr ⟨ok_iinc dX10_leanThroughWires_52 (by decide) (by decide), List.forall_mem_cons.mpr ⟨ok_goto dX10_leanThroughWires_55 (by decide), List.forall_mem_cons.mpr ⟨ok_vret dX10_leanThroughWires_58 rfl, fun _ h => absurd h List.not_mem_nil⟩⟩⟩⟩⟩⟩⟩⟩⟩
def kX10_leanThroughWires : List (Nat × zT) := kX10_leanThroughWires_0 ++ (kX10_leanThroughWires_1)
theorem qX10_leanThroughWires_0 : ∀ q ∈ kX10_leanThroughWires_0, q ∈ kX10_leanThroughWires := fun _ h => (List.mem_append_left _ h)
theorem tX10_leanThroughWires_0 : (0, a_i 6 2) ∈ kX10_leanThroughWires := qX10_leanThroughWires_0 _ (List.mem_of_getElem? (i := 0) rfl)
theorem tX10_leanThroughWires_2 : (2, a_istore 1 3) ∈ kX10_leanThroughWires := qX10_leanThroughWires_0 _ (List.mem_of_getElem? (i := 1) rfl)
theorem tX10_leanThroughWires_3 : (3, a_iload 1 4) ∈ kX10_leanThroughWires := qX10_leanThroughWires_0 _ (List.mem_of_getElem? (i := 2) rfl)
theorem tX10_leanThroughWires_4 : (4, a_i 15 6) ∈ kX10_leanThroughWires := qX10_leanThroughWires_0 _ (List.mem_of_getElem? (i := 3) rfl)
theorem tX10_leanThroughWires_6 : (6, a_ic_ge 58 9) ∈ kX10_leanThroughWires := qX10_leanThroughWires_0 _ (List.mem_of_getElem? (i := 4) rfl)
theorem tX10_leanThroughWires_9 : (9, a_i 6 11) ∈ kX10_leanThroughWires := qX10_leanThroughWires_0 _ (List.mem_of_getElem? (i := 5) rfl)
theorem tX10_leanThroughWires_11 : (11, a_istore 2 12) ∈ kX10_leanThroughWires := qX10_leanThroughWires_0 _ (List.mem_of_getElem? (i := 6) rfl)
theorem tX10_leanThroughWires_12 : (12, a_iload 2 13) ∈ kX10_leanThroughWires := qX10_leanThroughWires_0 _ (List.mem_of_getElem? (i := 7) rfl)
theorem tX10_leanThroughWires_13 : (13, a_i 19 15) ∈ kX10_leanThroughWires := qX10_leanThroughWires_0 _ (List.mem_of_getElem? (i := 8) rfl)
theorem tX10_leanThroughWires_15 : (15, a_ic_ge 52 18) ∈ kX10_leanThroughWires := qX10_leanThroughWires_0 _ (List.mem_of_getElem? (i := 9) rfl)
theorem tX10_leanThroughWires_18 : (18, a_aload 0 19) ∈ kX10_leanThroughWires := qX10_leanThroughWires_0 _ (List.mem_of_getElem? (i := 10) rfl)
theorem tX10_leanThroughWires_19 : (19, a_getR 10 3 22) ∈ kX10_leanThroughWires := qX10_leanThroughWires_0 _ (List.mem_of_getElem? (i := 11) rfl)
theorem tX10_leanThroughWires_22 : (22, a_iload 2 23) ∈ kX10_leanThroughWires := qX10_leanThroughWires_0 _ (List.mem_of_getElem? (i := 12) rfl)
theorem tX10_leanThroughWires_23 : (23, a_iald 24) ∈ kX10_leanThroughWires := qX10_leanThroughWires_0 _ (List.mem_of_getElem? (i := 13) rfl)
theorem tX10_leanThroughWires_24 : (24, a_iload 1 25) ∈ kX10_leanThroughWires := qX10_leanThroughWires_0 _ (List.mem_of_getElem? (i := 14) rfl)
theorem tX10_leanThroughWires_25 : (25, a_call 132 2 28 0 0) ∈ kX10_leanThroughWires := qX10_leanThroughWires_0 _ (List.mem_of_getElem? (i := 15) rfl)
theorem tX10_leanThroughWires_28 : (28, a_if_eq 46 31) ∈ kX10_leanThroughWires := qX10_leanThroughWires_0 _ (List.mem_of_getElem? (i := 16) rfl)
theorem tX10_leanThroughWires_31 : (31, a_aload 0 32) ∈ kX10_leanThroughWires := qX10_leanThroughWires_0 _ (List.mem_of_getElem? (i := 17) rfl)
theorem tX10_leanThroughWires_32 : (32, a_getR 10 3 35) ∈ kX10_leanThroughWires := qX10_leanThroughWires_0 _ (List.mem_of_getElem? (i := 18) rfl)
theorem tX10_leanThroughWires_35 : (35, a_iload 2 36) ∈ kX10_leanThroughWires := qX10_leanThroughWires_0 _ (List.mem_of_getElem? (i := 19) rfl)
theorem tX10_leanThroughWires_36 : (36, a_dup2 37) ∈ kX10_leanThroughWires := qX10_leanThroughWires_0 _ (List.mem_of_getElem? (i := 20) rfl)
theorem tX10_leanThroughWires_37 : (37, a_iald 38) ∈ kX10_leanThroughWires := qX10_leanThroughWires_0 _ (List.mem_of_getElem? (i := 21) rfl)
theorem tX10_leanThroughWires_38 : (38, a_aload 0 39) ∈ kX10_leanThroughWires := qX10_leanThroughWires_0 _ (List.mem_of_getElem? (i := 22) rfl)
theorem tX10_leanThroughWires_39 : (39, a_getR 10 3 42) ∈ kX10_leanThroughWires := qX10_leanThroughWires_0 _ (List.mem_of_getElem? (i := 23) rfl)
theorem qX10_leanThroughWires_1 : ∀ q ∈ kX10_leanThroughWires_1, q ∈ kX10_leanThroughWires := fun _ h => (List.mem_append_right _ h)
theorem tX10_leanThroughWires_42 : (42, a_iload 1 43) ∈ kX10_leanThroughWires := qX10_leanThroughWires_1 _ (List.mem_of_getElem? (i := 0) rfl)
theorem tX10_leanThroughWires_43 : (43, a_iald 44) ∈ kX10_leanThroughWires := qX10_leanThroughWires_1 _ (List.mem_of_getElem? (i := 1) rfl)
theorem tX10_leanThroughWires_44 : (44, a_ii (fun x y => x ||| y) 45) ∈ kX10_leanThroughWires := qX10_leanThroughWires_1 _ (List.mem_of_getElem? (i := 2) rfl)
theorem tX10_leanThroughWires_45 : (45, a_iast 46) ∈ kX10_leanThroughWires := qX10_leanThroughWires_1 _ (List.mem_of_getElem? (i := 3) rfl)
theorem tX10_leanThroughWires_46 : (46, a_iinc 2 1 49) ∈ kX10_leanThroughWires := qX10_leanThroughWires_1 _ (List.mem_of_getElem? (i := 4) rfl)
theorem tX10_leanThroughWires_49 : (49, a_goto 12) ∈ kX10_leanThroughWires := qX10_leanThroughWires_1 _ (List.mem_of_getElem? (i := 5) rfl)
theorem tX10_leanThroughWires_52 : (52, a_iinc 1 1 55) ∈ kX10_leanThroughWires := qX10_leanThroughWires_1 _ (List.mem_of_getElem? (i := 6) rfl)
theorem tX10_leanThroughWires_55 : (55, a_goto 3) ∈ kX10_leanThroughWires := qX10_leanThroughWires_1 _ (List.mem_of_getElem? (i := 7) rfl)
theorem tX10_leanThroughWires_58 : (58, a_vret) ∈ kX10_leanThroughWires := qX10_leanThroughWires_1 _ (List.mem_of_getElem? (i := 8) rfl)
theorem oX10_leanThroughWires : ∀ q ∈ kX10_leanThroughWires, zSnd zty false RX10 cX10_leanThroughWires 3 none false q := List.forall_mem_append.mpr ⟨oX10_leanThroughWires_0, oX10_leanThroughWires_1⟩
theorem dX10_leastInRing_0 : decode cX10_leastInRing 0 = .ok (.bipush 6, 2) := by decide +kernel
theorem dX10_leastInRing_2 : decode cX10_leastInRing 2 = .ok (.istore_n 1, 1) := by decide +kernel
theorem dX10_leastInRing_3 : decode cX10_leastInRing 3 = .ok (.iload_n 1, 1) := by decide +kernel
theorem dX10_leastInRing_4 : decode cX10_leastInRing 4 = .ok (.bipush 15, 2) := by decide +kernel
theorem dX10_leastInRing_6 : decode cX10_leastInRing 6 = .ok (.if_icmp .ge 24, 3) := by decide +kernel
theorem dX10_leastInRing_9 : decode cX10_leastInRing 9 = .ok (.aload_n 0, 1) := by decide +kernel
theorem dX10_leastInRing_10 : decode cX10_leastInRing 10 = .ok (.getfield 21, 3) := by decide +kernel
theorem dX10_leastInRing_13 : decode cX10_leastInRing 13 = .ok (.iload_n 1, 1) := by decide +kernel
theorem dX10_leastInRing_14 : decode cX10_leastInRing 14 = .ok (.iaload, 1) := by decide +kernel
theorem dX10_leastInRing_15 : decode cX10_leastInRing 15 = .ok (.iload_n 1, 1) := by decide +kernel
theorem dX10_leastInRing_16 : decode cX10_leastInRing 16 = .ok (.invokestatic 37, 3) := by decide +kernel
theorem dX10_leastInRing_19 : decode cX10_leastInRing 19 = .ok (.ifCond .eq 5, 3) := by decide +kernel
theorem dX10_leastInRing_22 : decode cX10_leastInRing 22 = .ok (.iload_n 1, 1) := by decide +kernel
theorem dX10_leastInRing_23 : decode cX10_leastInRing 23 = .ok (.ireturn, 1) := by decide +kernel
theorem dX10_leastInRing_24 : decode cX10_leastInRing 24 = .ok (.iinc 1 1, 3) := by decide +kernel
theorem dX10_leastInRing_27 : decode cX10_leastInRing 27 = .ok (.goto (-24), 3) := by decide +kernel
theorem dX10_leastInRing_30 : decode cX10_leastInRing 30 = .ok (.bipush (-4), 2) := by decide +kernel
theorem dX10_leastInRing_32 : decode cX10_leastInRing 32 = .ok (.ireturn, 1) := by decide +kernel
def kX10_leastInRing_0 : List (Nat × zT) := [(0, a_i 6 2), (2, a_istore 1 3), (3, a_iload 1 4), (4, a_i 15 6), (6, a_ic_ge 30 9), (9, a_aload 0 10), (10, a_getR 10 3 13), (13, a_iload 1 14), (14, a_iald 15), (15, a_iload 1 16), (16, a_call 132 2 19 0 0), (19, a_if_eq 24 22), (22, a_iload 1 23), (23, a_iret false), (24, a_iinc 1 1 27), (27, a_goto 3), (30, a_i (-4) 32), (32, a_iret false)]
theorem oX10_leastInRing_0 : ∀ q ∈ kX10_leastInRing_0, zSnd zty false RX10 cX10_leastInRing 2 (some .int) false q := List.forall_mem_cons.mpr ⟨ok_bipush dX10_leastInRing_0 (by decide), List.forall_mem_cons.mpr ⟨ok_istore_n dX10_leastInRing_2 rfl (by decide), List.forall_mem_cons.mpr ⟨ok_iload_n dX10_leastInRing_3 rfl, List.forall_mem_cons.mpr ⟨ok_bipush dX10_leastInRing_4 (by decide), List.forall_mem_cons.mpr ⟨ok_ic_ge dX10_leastInRing_6 (by decide), List.forall_mem_cons.mpr ⟨ok_aload_n dX10_leastInRing_9 rfl, List.forall_mem_cons.mpr ⟨ok_getR dX10_leastInRing_10 rfl in10 (by decide) rfl w72, List.forall_mem_cons.mpr ⟨ok_iload_n dX10_leastInRing_13 rfl, List.forall_mem_cons.mpr ⟨ok_iald dX10_leastInRing_14, List.forall_mem_cons.mpr ⟨ok_iload_n dX10_leastInRing_15 rfl, List.forall_mem_cons.mpr ⟨ok_callSN dX10_leastInRing_16 rfl w433 n431 w432 w1 (by decide +kernel) (by decide), List.forall_mem_cons.mpr ⟨ok_if_eq dX10_leastInRing_19 (by decide), List.forall_mem_cons.mpr ⟨ok_iload_n dX10_leastInRing_22 rfl, List.forall_mem_cons.mpr ⟨ok_iret (bz := false) dX10_leastInRing_23 rfl, List.forall_mem_cons.mpr ⟨ok_iinc dX10_leastInRing_24 (by decide) (by decide), List.forall_mem_cons.mpr ⟨ok_goto dX10_leastInRing_27 (by decide), List.forall_mem_cons.mpr ⟨ok_bipush dX10_leastInRing_30 (by decide), List.forall_mem_cons.mpr ⟨ok_iret (bz := false) dX10_leastInRing_32 rfl, fun _ h => absurd h List.not_mem_nil⟩⟩⟩⟩⟩⟩⟩⟩⟩⟩⟩⟩⟩⟩⟩⟩⟩⟩
def kX10_leastInRing : List (Nat × zT) := kX10_leastInRing_0
theorem qX10_leastInRing_0 : ∀ q ∈ kX10_leastInRing_0, q ∈ kX10_leastInRing := fun _ h => h
theorem tX10_leastInRing_0 : (0, a_i 6 2) ∈ kX10_leastInRing := qX10_leastInRing_0 _ (List.mem_of_getElem? (i := 0) rfl)
theorem tX10_leastInRing_2 : (2, a_istore 1 3) ∈ kX10_leastInRing := qX10_leastInRing_0 _ (List.mem_of_getElem? (i := 1) rfl)
theorem tX10_leastInRing_3 : (3, a_iload 1 4) ∈ kX10_leastInRing := qX10_leastInRing_0 _ (List.mem_of_getElem? (i := 2) rfl)
theorem tX10_leastInRing_4 : (4, a_i 15 6) ∈ kX10_leastInRing := qX10_leastInRing_0 _ (List.mem_of_getElem? (i := 3) rfl)
theorem tX10_leastInRing_6 : (6, a_ic_ge 30 9) ∈ kX10_leastInRing := qX10_leastInRing_0 _ (List.mem_of_getElem? (i := 4) rfl)
theorem tX10_leastInRing_9 : (9, a_aload 0 10) ∈ kX10_leastInRing := qX10_leastInRing_0 _ (List.mem_of_getElem? (i := 5) rfl)
theorem tX10_leastInRing_10 : (10, a_getR 10 3 13) ∈ kX10_leastInRing := qX10_leastInRing_0 _ (List.mem_of_getElem? (i := 6) rfl)
theorem tX10_leastInRing_13 : (13, a_iload 1 14) ∈ kX10_leastInRing := qX10_leastInRing_0 _ (List.mem_of_getElem? (i := 7) rfl)
theorem tX10_leastInRing_14 : (14, a_iald 15) ∈ kX10_leastInRing := qX10_leastInRing_0 _ (List.mem_of_getElem? (i := 8) rfl)
theorem tX10_leastInRing_15 : (15, a_iload 1 16) ∈ kX10_leastInRing := qX10_leastInRing_0 _ (List.mem_of_getElem? (i := 9) rfl)
theorem tX10_leastInRing_16 : (16, a_call 132 2 19 0 0) ∈ kX10_leastInRing := qX10_leastInRing_0 _ (List.mem_of_getElem? (i := 10) rfl)
theorem tX10_leastInRing_19 : (19, a_if_eq 24 22) ∈ kX10_leastInRing := qX10_leastInRing_0 _ (List.mem_of_getElem? (i := 11) rfl)
theorem tX10_leastInRing_22 : (22, a_iload 1 23) ∈ kX10_leastInRing := qX10_leastInRing_0 _ (List.mem_of_getElem? (i := 12) rfl)
theorem tX10_leastInRing_23 : (23, a_iret false) ∈ kX10_leastInRing := qX10_leastInRing_0 _ (List.mem_of_getElem? (i := 13) rfl)
theorem tX10_leastInRing_24 : (24, a_iinc 1 1 27) ∈ kX10_leastInRing := qX10_leastInRing_0 _ (List.mem_of_getElem? (i := 14) rfl)
theorem tX10_leastInRing_27 : (27, a_goto 3) ∈ kX10_leastInRing := qX10_leastInRing_0 _ (List.mem_of_getElem? (i := 15) rfl)
theorem tX10_leastInRing_30 : (30, a_i (-4) 32) ∈ kX10_leastInRing := qX10_leastInRing_0 _ (List.mem_of_getElem? (i := 16) rfl)
theorem tX10_leastInRing_32 : (32, a_iret false) ∈ kX10_leastInRing := qX10_leastInRing_0 _ (List.mem_of_getElem? (i := 17) rfl)
theorem oX10_leastInRing : ∀ q ∈ kX10_leastInRing, zSnd zty false RX10 cX10_leastInRing 2 (some .int) false q := oX10_leastInRing_0
theorem dX10_leastLacking_0 : decode cX10_leastLacking 0 = .ok (.bipush 6, 2) := by decide +kernel
theorem dX10_leastLacking_2 : decode cX10_leastLacking 2 = .ok (.istore_n 1, 1) := by decide +kernel
theorem dX10_leastLacking_3 : decode cX10_leastLacking 3 = .ok (.iload_n 1, 1) := by decide +kernel
theorem dX10_leastLacking_4 : decode cX10_leastLacking 4 = .ok (.bipush 15, 2) := by decide +kernel
theorem dX10_leastLacking_6 : decode cX10_leastLacking 6 = .ok (.if_icmp .ge 28, 3) := by decide +kernel
theorem dX10_leastLacking_9 : decode cX10_leastLacking 9 = .ok (.aload_n 0, 1) := by decide +kernel
theorem dX10_leastLacking_10 : decode cX10_leastLacking 10 = .ok (.getfield 24, 3) := by decide +kernel
theorem dX10_leastLacking_13 : decode cX10_leastLacking 13 = .ok (.iload_n 1, 1) := by decide +kernel
theorem dX10_leastLacking_14 : decode cX10_leastLacking 14 = .ok (.iaload, 1) := by decide +kernel
theorem dX10_leastLacking_15 : decode cX10_leastLacking 15 = .ok (.ifCond .le 13, 3) := by decide +kernel
theorem dX10_leastLacking_18 : decode cX10_leastLacking 18 = .ok (.aload_n 0, 1) := by decide +kernel
theorem dX10_leastLacking_19 : decode cX10_leastLacking 19 = .ok (.iload_n 1, 1) := by decide +kernel
theorem dX10_leastLacking_20 : decode cX10_leastLacking 20 = .ok (.invokevirtual 53, 3) := by decide +kernel
theorem dX10_leastLacking_23 : decode cX10_leastLacking 23 = .ok (.ifCond .ne 5, 3) := by decide +kernel
theorem dX10_leastLacking_26 : decode cX10_leastLacking 26 = .ok (.iload_n 1, 1) := by decide +kernel
theorem dX10_leastLacking_27 : decode cX10_leastLacking 27 = .ok (.ireturn, 1) := by decide +kernel
theorem dX10_leastLacking_28 : decode cX10_leastLacking 28 = .ok (.iinc 1 1, 3) := by decide +kernel
theorem dX10_leastLacking_31 : decode cX10_leastLacking 31 = .ok (.goto (-28), 3) := by decide +kernel
theorem dX10_leastLacking_34 : decode cX10_leastLacking 34 = .ok (.bipush (-4), 2) := by decide +kernel
theorem dX10_leastLacking_36 : decode cX10_leastLacking 36 = .ok (.ireturn, 1) := by decide +kernel
def kX10_leastLacking_0 : List (Nat × zT) := [(0, a_i 6 2), (2, a_istore 1 3), (3, a_iload 1 4), (4, a_i 15 6), (6, a_ic_ge 34 9), (9, a_aload 0 10), (10, a_getR 10 4 13), (13, a_iload 1 14), (14, a_iald 15), (15, a_if_le 28 18), (18, a_aload 0 19), (19, a_iload 1 20), (20, a_callV 10 81 2 23 0 0), (23, a_if_ne 28 26), (26, a_iload 1 27), (27, a_iret false), (28, a_iinc 1 1 31), (31, a_goto 3), (34, a_i (-4) 36), (36, a_iret false)]
theorem oX10_leastLacking_0 : ∀ q ∈ kX10_leastLacking_0, zSnd zty false RX10 cX10_leastLacking 2 (some .int) false q := List.forall_mem_cons.mpr ⟨ok_bipush dX10_leastLacking_0 (by decide), List.forall_mem_cons.mpr ⟨ok_istore_n dX10_leastLacking_2 rfl (by decide), List.forall_mem_cons.mpr ⟨ok_iload_n dX10_leastLacking_3 rfl, List.forall_mem_cons.mpr ⟨ok_bipush dX10_leastLacking_4 (by decide), List.forall_mem_cons.mpr ⟨ok_ic_ge dX10_leastLacking_6 (by decide), List.forall_mem_cons.mpr ⟨ok_aload_n dX10_leastLacking_9 rfl, List.forall_mem_cons.mpr ⟨ok_getR dX10_leastLacking_10 rfl in10 (by decide) rfl w75, List.forall_mem_cons.mpr ⟨ok_iload_n dX10_leastLacking_13 rfl, List.forall_mem_cons.mpr ⟨ok_iald dX10_leastLacking_14, List.forall_mem_cons.mpr ⟨ok_if_le dX10_leastLacking_15 (by decide), List.forall_mem_cons.mpr ⟨ok_aload_n dX10_leastLacking_18 rfl, List.forall_mem_cons.mpr ⟨ok_iload_n dX10_leastLacking_19 rfl, List.forall_mem_cons.mpr ⟨ok_callV dX10_leastLacking_20 rfl rfl w430 w470 w428 w3 w429 (by decide +kernel) (by decide), List.forall_mem_cons.mpr ⟨ok_if_ne dX10_leastLacking_23 (by decide), List.forall_mem_cons.mpr ⟨ok_iload_n dX10_leastLacking_26 rfl, List.forall_mem_cons.mpr ⟨ok_iret (bz := false) dX10_leastLacking_27 rfl, List.forall_mem_cons.mpr ⟨ok_iinc dX10_leastLacking_28 (by decide) (by decide), List.forall_mem_cons.mpr ⟨ok_goto dX10_leastLacking_31 (by decide), List.forall_mem_cons.mpr ⟨ok_bipush dX10_leastLacking_34 (by decide), List.forall_mem_cons.mpr ⟨ok_iret (bz := false) dX10_leastLacking_36 rfl, fun _ h => absurd h List.not_mem_nil⟩⟩⟩⟩⟩⟩⟩⟩⟩⟩⟩⟩⟩⟩⟩⟩⟩⟩⟩⟩
def kX10_leastLacking : List (Nat × zT) := kX10_leastLacking_0
theorem qX10_leastLacking_0 : ∀ q ∈ kX10_leastLacking_0, q ∈ kX10_leastLacking := fun _ h => h
theorem tX10_leastLacking_0 : (0, a_i 6 2) ∈ kX10_leastLacking := qX10_leastLacking_0 _ (List.mem_of_getElem? (i := 0) rfl)
theorem tX10_leastLacking_2 : (2, a_istore 1 3) ∈ kX10_leastLacking := qX10_leastLacking_0 _ (List.mem_of_getElem? (i := 1) rfl)
theorem tX10_leastLacking_3 : (3, a_iload 1 4) ∈ kX10_leastLacking := qX10_leastLacking_0 _ (List.mem_of_getElem? (i := 2) rfl)
theorem tX10_leastLacking_4 : (4, a_i 15 6) ∈ kX10_leastLacking := qX10_leastLacking_0 _ (List.mem_of_getElem? (i := 3) rfl)
theorem tX10_leastLacking_6 : (6, a_ic_ge 34 9) ∈ kX10_leastLacking := qX10_leastLacking_0 _ (List.mem_of_getElem? (i := 4) rfl)
theorem tX10_leastLacking_9 : (9, a_aload 0 10) ∈ kX10_leastLacking := qX10_leastLacking_0 _ (List.mem_of_getElem? (i := 5) rfl)
theorem tX10_leastLacking_10 : (10, a_getR 10 4 13) ∈ kX10_leastLacking := qX10_leastLacking_0 _ (List.mem_of_getElem? (i := 6) rfl)
theorem tX10_leastLacking_13 : (13, a_iload 1 14) ∈ kX10_leastLacking := qX10_leastLacking_0 _ (List.mem_of_getElem? (i := 7) rfl)
theorem tX10_leastLacking_14 : (14, a_iald 15) ∈ kX10_leastLacking := qX10_leastLacking_0 _ (List.mem_of_getElem? (i := 8) rfl)
theorem tX10_leastLacking_15 : (15, a_if_le 28 18) ∈ kX10_leastLacking := qX10_leastLacking_0 _ (List.mem_of_getElem? (i := 9) rfl)
theorem tX10_leastLacking_18 : (18, a_aload 0 19) ∈ kX10_leastLacking := qX10_leastLacking_0 _ (List.mem_of_getElem? (i := 10) rfl)
theorem tX10_leastLacking_19 : (19, a_iload 1 20) ∈ kX10_leastLacking := qX10_leastLacking_0 _ (List.mem_of_getElem? (i := 11) rfl)
theorem tX10_leastLacking_20 : (20, a_callV 10 81 2 23 0 0) ∈ kX10_leastLacking := qX10_leastLacking_0 _ (List.mem_of_getElem? (i := 12) rfl)
theorem tX10_leastLacking_23 : (23, a_if_ne 28 26) ∈ kX10_leastLacking := qX10_leastLacking_0 _ (List.mem_of_getElem? (i := 13) rfl)
theorem tX10_leastLacking_26 : (26, a_iload 1 27) ∈ kX10_leastLacking := qX10_leastLacking_0 _ (List.mem_of_getElem? (i := 14) rfl)
theorem tX10_leastLacking_27 : (27, a_iret false) ∈ kX10_leastLacking := qX10_leastLacking_0 _ (List.mem_of_getElem? (i := 15) rfl)
theorem tX10_leastLacking_28 : (28, a_iinc 1 1 31) ∈ kX10_leastLacking := qX10_leastLacking_0 _ (List.mem_of_getElem? (i := 16) rfl)
theorem tX10_leastLacking_31 : (31, a_goto 3) ∈ kX10_leastLacking := qX10_leastLacking_0 _ (List.mem_of_getElem? (i := 17) rfl)
theorem tX10_leastLacking_34 : (34, a_i (-4) 36) ∈ kX10_leastLacking := qX10_leastLacking_0 _ (List.mem_of_getElem? (i := 18) rfl)
theorem tX10_leastLacking_36 : (36, a_iret false) ∈ kX10_leastLacking := qX10_leastLacking_0 _ (List.mem_of_getElem? (i := 19) rfl)
theorem oX10_leastLacking : ∀ q ∈ kX10_leastLacking, zSnd zty false RX10 cX10_leastLacking 2 (some .int) false q := oX10_leastLacking_0
theorem dX10_putInOrder_0 : decode cX10_putInOrder 0 = .ok (.aload_n 0, 1) := by decide +kernel
theorem dX10_putInOrder_1 : decode cX10_putInOrder 1 = .ok (.iconst 0, 1) := by decide +kernel
theorem dX10_putInOrder_2 : decode cX10_putInOrder 2 = .ok (.putfield 34, 3) := by decide +kernel
theorem dX10_putInOrder_5 : decode cX10_putInOrder 5 = .ok (.iconst 0, 1) := by decide +kernel
theorem dX10_putInOrder_6 : decode cX10_putInOrder 6 = .ok (.istore_n 1, 1) := by decide +kernel
theorem dX10_putInOrder_7 : decode cX10_putInOrder 7 = .ok (.iload_n 1, 1) := by decide +kernel
theorem dX10_putInOrder_8 : decode cX10_putInOrder 8 = .ok (.bipush 9, 2) := by decide +kernel
theorem dX10_putInOrder_10 : decode cX10_putInOrder 10 = .ok (.if_icmp .ge 46, 3) := by decide +kernel
theorem dX10_putInOrder_13 : decode cX10_putInOrder 13 = .ok (.bipush 6, 2) := by decide +kernel
theorem dX10_putInOrder_15 : decode cX10_putInOrder 15 = .ok (.istore_n 2, 1) := by decide +kernel
theorem dX10_putInOrder_16 : decode cX10_putInOrder 16 = .ok (.iload_n 2, 1) := by decide +kernel
theorem dX10_putInOrder_17 : decode cX10_putInOrder 17 = .ok (.bipush 15, 2) := by decide +kernel
theorem dX10_putInOrder_19 : decode cX10_putInOrder 19 = .ok (.if_icmp .ge 31, 3) := by decide +kernel
theorem dX10_putInOrder_22 : decode cX10_putInOrder 22 = .ok (.aload_n 0, 1) := by decide +kernel
theorem dX10_putInOrder_23 : decode cX10_putInOrder 23 = .ok (.getfield 21, 3) := by decide +kernel
theorem dX10_putInOrder_26 : decode cX10_putInOrder 26 = .ok (.iload_n 2, 1) := by decide +kernel
theorem dX10_putInOrder_27 : decode cX10_putInOrder 27 = .ok (.iaload, 1) := by decide +kernel
theorem dX10_putInOrder_28 : decode cX10_putInOrder 28 = .ok (.sipush 32704, 3) := by decide +kernel
theorem dX10_putInOrder_31 : decode cX10_putInOrder 31 = .ok (.iand, 1) := by decide +kernel
theorem dX10_putInOrder_32 : decode cX10_putInOrder 32 = .ok (.invokestatic 57, 3) := by decide +kernel
theorem dX10_putInOrder_35 : decode cX10_putInOrder 35 = .ok (.iload_n 1, 1) := by decide +kernel
theorem dX10_putInOrder_36 : decode cX10_putInOrder 36 = .ok (.if_icmp .ne 8, 3) := by decide +kernel
theorem dX10_putInOrder_39 : decode cX10_putInOrder 39 = .ok (.aload_n 0, 1) := by decide +kernel
theorem dX10_putInOrder_40 : decode cX10_putInOrder 40 = .ok (.iload_n 2, 1) := by decide +kernel
theorem dX10_putInOrder_41 : decode cX10_putInOrder 41 = .ok (.invokevirtual 63, 3) := by decide +kernel
theorem dX10_putInOrder_44 : decode cX10_putInOrder 44 = .ok (.iinc 2 1, 3) := by decide +kernel
theorem dX10_putInOrder_47 : decode cX10_putInOrder 47 = .ok (.goto (-31), 3) := by decide +kernel
theorem dX10_putInOrder_50 : decode cX10_putInOrder 50 = .ok (.iinc 1 1, 3) := by decide +kernel
theorem dX10_putInOrder_53 : decode cX10_putInOrder 53 = .ok (.goto (-46), 3) := by decide +kernel
theorem dX10_putInOrder_56 : decode cX10_putInOrder 56 = .ok (.bipush 15, 2) := by decide +kernel
theorem dX10_putInOrder_58 : decode cX10_putInOrder 58 = .ok (.istore_n 1, 1) := by decide +kernel
theorem dX10_putInOrder_59 : decode cX10_putInOrder 59 = .ok (.iload_n 1, 1) := by decide +kernel
theorem dX10_putInOrder_60 : decode cX10_putInOrder 60 = .ok (.bipush 19, 2) := by decide +kernel
theorem dX10_putInOrder_62 : decode cX10_putInOrder 62 = .ok (.if_icmp .ge 14, 3) := by decide +kernel
theorem dX10_putInOrder_65 : decode cX10_putInOrder 65 = .ok (.aload_n 0, 1) := by decide +kernel
theorem dX10_putInOrder_66 : decode cX10_putInOrder 66 = .ok (.iload_n 1, 1) := by decide +kernel
theorem dX10_putInOrder_67 : decode cX10_putInOrder 67 = .ok (.invokevirtual 63, 3) := by decide +kernel
theorem dX10_putInOrder_70 : decode cX10_putInOrder 70 = .ok (.iinc 1 1, 3) := by decide +kernel
theorem dX10_putInOrder_73 : decode cX10_putInOrder 73 = .ok (.goto (-14), 3) := by decide +kernel
theorem dX10_putInOrder_76 : decode cX10_putInOrder 76 = .ok (.return_, 1) := by decide +kernel
def kX10_putInOrder_0 : List (Nat × zT) := [(0, a_aload 0 1), (1, a_i 0 2), (2, a_putI 10 7 5 false), (5, a_i 0 6), (6, a_istore 1 7), (7, a_iload 1 8), (8, a_i 9 10), (10, a_ic_ge 56 13), (13, a_i 6 15), (15, a_istore 2 16), (16, a_iload 2 17), (17, a_i 15 19), (19, a_ic_ge 50 22), (22, a_aload 0 23), (23, a_getR 10 3 26), (26, a_iload 2 27), (27, a_iald 28), (28, a_i 32704 31), (31, a_ii (fun x y => x &&& y) 32), (32, a_call 217 1 35 0 0), (35, a_iload 1 36), (36, a_ic_ne 44 39), (39, a_aload 0 40), (40, a_iload 2 41)]
theorem oX10_putInOrder_0 : ∀ q ∈ kX10_putInOrder_0, zSnd zty false RX10 cX10_putInOrder 3 none false q := List.forall_mem_cons.mpr ⟨ok_aload_n dX10_putInOrder_0 rfl, List.forall_mem_cons.mpr ⟨ok_iconst dX10_putInOrder_1 (by decide), List.forall_mem_cons.mpr ⟨ok_putI (bz := false) dX10_putInOrder_2 rfl in10 tyX10 tyX10_ok nmX10 (by decide) rfl w88 rfl rfl, List.forall_mem_cons.mpr ⟨ok_iconst dX10_putInOrder_5 (by decide), List.forall_mem_cons.mpr ⟨ok_istore_n dX10_putInOrder_6 rfl (by decide), List.forall_mem_cons.mpr ⟨ok_iload_n dX10_putInOrder_7 rfl, List.forall_mem_cons.mpr ⟨ok_bipush dX10_putInOrder_8 (by decide), List.forall_mem_cons.mpr ⟨ok_ic_ge dX10_putInOrder_10 (by decide), List.forall_mem_cons.mpr ⟨ok_bipush dX10_putInOrder_13 (by decide), List.forall_mem_cons.mpr ⟨ok_istore_n dX10_putInOrder_15 rfl (by decide), List.forall_mem_cons.mpr ⟨ok_iload_n dX10_putInOrder_16 rfl, List.forall_mem_cons.mpr ⟨ok_bipush dX10_putInOrder_17 (by decide), List.forall_mem_cons.mpr ⟨ok_ic_ge dX10_putInOrder_19 (by decide), List.forall_mem_cons.mpr ⟨ok_aload_n dX10_putInOrder_22 rfl, List.forall_mem_cons.mpr ⟨ok_getR dX10_putInOrder_23 rfl in10 (by decide) rfl w72, List.forall_mem_cons.mpr ⟨ok_iload_n dX10_putInOrder_26 rfl, List.forall_mem_cons.mpr ⟨ok_iald dX10_putInOrder_27, List.forall_mem_cons.mpr ⟨ok_sipush dX10_putInOrder_28 (by decide), List.forall_mem_cons.mpr ⟨ok_iand dX10_putInOrder_31, List.forall_mem_cons.mpr ⟨ok_callS dX10_putInOrder_32 rfl w488 w486 w487 w15 (by decide +kernel) (by decide), List.forall_mem_cons.mpr ⟨ok_iload_n dX10_putInOrder_35 rfl, List.forall_mem_cons.mpr ⟨ok_ic_ne dX10_putInOrder_36 (by decide), List.forall_mem_cons.mpr ⟨ok_aload_n dX10_putInOrder_39 rfl, List.forall_mem_cons.mpr ⟨ok_iload_n dX10_putInOrder_40 rfl, fun _ h => absurd h List.not_mem_nil⟩⟩⟩⟩⟩⟩⟩⟩⟩⟩⟩⟩⟩⟩⟩⟩⟩⟩⟩⟩⟩⟩⟩⟩
def kX10_putInOrder_1 : List (Nat × zT) := [(41, a_callV 10 88 2 44 0 0), (44, a_iinc 2 1 47), (47, a_goto 16), (50, a_iinc 1 1 53), (53, a_goto 7), (56, a_i 15 58), (58, a_istore 1 59), (59, a_iload 1 60), (60, a_i 19 62), (62, a_ic_ge 76 65), (65, a_aload 0 66), (66, a_iload 1 67), (67, a_callV 10 88 2 70 0 0), (70, a_iinc 1 1 73), (73, a_goto 59), (76, a_vret)]
theorem oX10_putInOrder_1 : ∀ q ∈ kX10_putInOrder_1, zSnd zty false RX10 cX10_putInOrder 3 none false q := List.forall_mem_cons.mpr ⟨ok_callV dX10_putInOrder_41 rfl rfl w495 w492 w494 w3 s4 (by decide +kernel) (by decide), List.forall_mem_cons.mpr ⟨ok_iinc dX10_putInOrder_44 (by decide) (by decide), List.forall_mem_cons.mpr ⟨ok_goto dX10_putInOrder_47 (by decide), List.forall_mem_cons.mpr ⟨ok_iinc dX10_putInOrder_50 (by decide) (by decide), List.forall_mem_cons.mpr ⟨ok_goto dX10_putInOrder_53 (by decide), List.forall_mem_cons.mpr ⟨ok_bipush dX10_putInOrder_56 (by decide), List.forall_mem_cons.mpr ⟨ok_istore_n dX10_putInOrder_58 rfl (by decide), List.forall_mem_cons.mpr ⟨ok_iload_n dX10_putInOrder_59 rfl, List.forall_mem_cons.mpr ⟨ok_bipush dX10_putInOrder_60 (by decide), List.forall_mem_cons.mpr ⟨ok_ic_ge dX10_putInOrder_62 (by decide), List.forall_mem_cons.mpr ⟨ok_aload_n dX10_putInOrder_65 rfl, List.forall_mem_cons.mpr ⟨ok_iload_n dX10_putInOrder_66 rfl, List.forall_mem_cons.mpr ⟨ok_callV dX10_putInOrder_67 rfl rfl w495 w492 w494 w3 s4 (by decide +kernel) (by decide), List.forall_mem_cons.mpr ⟨ok_iinc dX10_putInOrder_70 (by decide) (by decide), List.forall_mem_cons.mpr ⟨ok_goto dX10_putInOrder_73 (by decide), List.forall_mem_cons.mpr ⟨ok_vret dX10_putInOrder_76 rfl, fun _ h => absurd h List.not_mem_nil⟩⟩⟩⟩⟩⟩⟩⟩⟩⟩⟩⟩⟩⟩⟩⟩
def kX10_putInOrder : List (Nat × zT) := kX10_putInOrder_0 ++ (kX10_putInOrder_1)
theorem qX10_putInOrder_0 : ∀ q ∈ kX10_putInOrder_0, q ∈ kX10_putInOrder := fun _ h => (List.mem_append_left _ h)
theorem tX10_putInOrder_0 : (0, a_aload 0 1) ∈ kX10_putInOrder := qX10_putInOrder_0 _ (List.mem_of_getElem? (i := 0) rfl)
theorem tX10_putInOrder_1 : (1, a_i 0 2) ∈ kX10_putInOrder := qX10_putInOrder_0 _ (List.mem_of_getElem? (i := 1) rfl)
theorem tX10_putInOrder_2 : (2, a_putI 10 7 5 false) ∈ kX10_putInOrder := qX10_putInOrder_0 _ (List.mem_of_getElem? (i := 2) rfl)
theorem tX10_putInOrder_5 : (5, a_i 0 6) ∈ kX10_putInOrder := qX10_putInOrder_0 _ (List.mem_of_getElem? (i := 3) rfl)
theorem tX10_putInOrder_6 : (6, a_istore 1 7) ∈ kX10_putInOrder := qX10_putInOrder_0 _ (List.mem_of_getElem? (i := 4) rfl)
theorem tX10_putInOrder_7 : (7, a_iload 1 8) ∈ kX10_putInOrder := qX10_putInOrder_0 _ (List.mem_of_getElem? (i := 5) rfl)
theorem tX10_putInOrder_8 : (8, a_i 9 10) ∈ kX10_putInOrder := qX10_putInOrder_0 _ (List.mem_of_getElem? (i := 6) rfl)
theorem tX10_putInOrder_10 : (10, a_ic_ge 56 13) ∈ kX10_putInOrder := qX10_putInOrder_0 _ (List.mem_of_getElem? (i := 7) rfl)
theorem tX10_putInOrder_13 : (13, a_i 6 15) ∈ kX10_putInOrder := qX10_putInOrder_0 _ (List.mem_of_getElem? (i := 8) rfl)
theorem tX10_putInOrder_15 : (15, a_istore 2 16) ∈ kX10_putInOrder := qX10_putInOrder_0 _ (List.mem_of_getElem? (i := 9) rfl)
theorem tX10_putInOrder_16 : (16, a_iload 2 17) ∈ kX10_putInOrder := qX10_putInOrder_0 _ (List.mem_of_getElem? (i := 10) rfl)
theorem tX10_putInOrder_17 : (17, a_i 15 19) ∈ kX10_putInOrder := qX10_putInOrder_0 _ (List.mem_of_getElem? (i := 11) rfl)
theorem tX10_putInOrder_19 : (19, a_ic_ge 50 22) ∈ kX10_putInOrder := qX10_putInOrder_0 _ (List.mem_of_getElem? (i := 12) rfl)
theorem tX10_putInOrder_22 : (22, a_aload 0 23) ∈ kX10_putInOrder := qX10_putInOrder_0 _ (List.mem_of_getElem? (i := 13) rfl)
theorem tX10_putInOrder_23 : (23, a_getR 10 3 26) ∈ kX10_putInOrder := qX10_putInOrder_0 _ (List.mem_of_getElem? (i := 14) rfl)
theorem tX10_putInOrder_26 : (26, a_iload 2 27) ∈ kX10_putInOrder := qX10_putInOrder_0 _ (List.mem_of_getElem? (i := 15) rfl)
theorem tX10_putInOrder_27 : (27, a_iald 28) ∈ kX10_putInOrder := qX10_putInOrder_0 _ (List.mem_of_getElem? (i := 16) rfl)
theorem tX10_putInOrder_28 : (28, a_i 32704 31) ∈ kX10_putInOrder := qX10_putInOrder_0 _ (List.mem_of_getElem? (i := 17) rfl)
theorem tX10_putInOrder_31 : (31, a_ii (fun x y => x &&& y) 32) ∈ kX10_putInOrder := qX10_putInOrder_0 _ (List.mem_of_getElem? (i := 18) rfl)
theorem tX10_putInOrder_32 : (32, a_call 217 1 35 0 0) ∈ kX10_putInOrder := qX10_putInOrder_0 _ (List.mem_of_getElem? (i := 19) rfl)
theorem tX10_putInOrder_35 : (35, a_iload 1 36) ∈ kX10_putInOrder := qX10_putInOrder_0 _ (List.mem_of_getElem? (i := 20) rfl)
theorem tX10_putInOrder_36 : (36, a_ic_ne 44 39) ∈ kX10_putInOrder := qX10_putInOrder_0 _ (List.mem_of_getElem? (i := 21) rfl)
theorem tX10_putInOrder_39 : (39, a_aload 0 40) ∈ kX10_putInOrder := qX10_putInOrder_0 _ (List.mem_of_getElem? (i := 22) rfl)
theorem tX10_putInOrder_40 : (40, a_iload 2 41) ∈ kX10_putInOrder := qX10_putInOrder_0 _ (List.mem_of_getElem? (i := 23) rfl)
theorem qX10_putInOrder_1 : ∀ q ∈ kX10_putInOrder_1, q ∈ kX10_putInOrder := fun _ h => (List.mem_append_right _ h)
theorem tX10_putInOrder_41 : (41, a_callV 10 88 2 44 0 0) ∈ kX10_putInOrder := qX10_putInOrder_1 _ (List.mem_of_getElem? (i := 0) rfl)
theorem tX10_putInOrder_44 : (44, a_iinc 2 1 47) ∈ kX10_putInOrder := qX10_putInOrder_1 _ (List.mem_of_getElem? (i := 1) rfl)
theorem tX10_putInOrder_47 : (47, a_goto 16) ∈ kX10_putInOrder := qX10_putInOrder_1 _ (List.mem_of_getElem? (i := 2) rfl)
theorem tX10_putInOrder_50 : (50, a_iinc 1 1 53) ∈ kX10_putInOrder := qX10_putInOrder_1 _ (List.mem_of_getElem? (i := 3) rfl)
theorem tX10_putInOrder_53 : (53, a_goto 7) ∈ kX10_putInOrder := qX10_putInOrder_1 _ (List.mem_of_getElem? (i := 4) rfl)
theorem tX10_putInOrder_56 : (56, a_i 15 58) ∈ kX10_putInOrder := qX10_putInOrder_1 _ (List.mem_of_getElem? (i := 5) rfl)
theorem tX10_putInOrder_58 : (58, a_istore 1 59) ∈ kX10_putInOrder := qX10_putInOrder_1 _ (List.mem_of_getElem? (i := 6) rfl)
theorem tX10_putInOrder_59 : (59, a_iload 1 60) ∈ kX10_putInOrder := qX10_putInOrder_1 _ (List.mem_of_getElem? (i := 7) rfl)
theorem tX10_putInOrder_60 : (60, a_i 19 62) ∈ kX10_putInOrder := qX10_putInOrder_1 _ (List.mem_of_getElem? (i := 8) rfl)
theorem tX10_putInOrder_62 : (62, a_ic_ge 76 65) ∈ kX10_putInOrder := qX10_putInOrder_1 _ (List.mem_of_getElem? (i := 9) rfl)
theorem tX10_putInOrder_65 : (65, a_aload 0 66) ∈ kX10_putInOrder := qX10_putInOrder_1 _ (List.mem_of_getElem? (i := 10) rfl)
theorem tX10_putInOrder_66 : (66, a_iload 1 67) ∈ kX10_putInOrder := qX10_putInOrder_1 _ (List.mem_of_getElem? (i := 11) rfl)
theorem tX10_putInOrder_67 : (67, a_callV 10 88 2 70 0 0) ∈ kX10_putInOrder := qX10_putInOrder_1 _ (List.mem_of_getElem? (i := 12) rfl)
theorem tX10_putInOrder_70 : (70, a_iinc 1 1 73) ∈ kX10_putInOrder := qX10_putInOrder_1 _ (List.mem_of_getElem? (i := 13) rfl)
theorem tX10_putInOrder_73 : (73, a_goto 59) ∈ kX10_putInOrder := qX10_putInOrder_1 _ (List.mem_of_getElem? (i := 14) rfl)
theorem tX10_putInOrder_76 : (76, a_vret) ∈ kX10_putInOrder := qX10_putInOrder_1 _ (List.mem_of_getElem? (i := 15) rfl)
theorem oX10_putInOrder : ∀ q ∈ kX10_putInOrder, zSnd zty false RX10 cX10_putInOrder 3 none false q := List.forall_mem_append.mpr ⟨oX10_putInOrder_0, oX10_putInOrder_1⟩
theorem dX10_orderNext_0 : decode cX10_orderNext 0 = .ok (.aload_n 0, 1) := by decide +kernel
theorem dX10_orderNext_1 : decode cX10_orderNext 1 = .ok (.iload_n 1, 1) := by decide +kernel
theorem dX10_orderNext_2 : decode cX10_orderNext 2 = .ok (.invokevirtual 53, 3) := by decide +kernel
theorem dX10_orderNext_5 : decode cX10_orderNext 5 = .ok (.ifCond .eq 32, 3) := by decide +kernel
theorem dX10_orderNext_8 : decode cX10_orderNext 8 = .ok (.aload_n 0, 1) := by decide +kernel
theorem dX10_orderNext_9 : decode cX10_orderNext 9 = .ok (.getfield 34, 3) := by decide +kernel
theorem dX10_orderNext_12 : decode cX10_orderNext 12 = .ok (.bipush 13, 2) := by decide +kernel
theorem dX10_orderNext_14 : decode cX10_orderNext 14 = .ok (.if_icmp .ge 23, 3) := by decide +kernel
theorem dX10_orderNext_17 : decode cX10_orderNext 17 = .ok (.aload_n 0, 1) := by decide +kernel
theorem dX10_orderNext_18 : decode cX10_orderNext 18 = .ok (.getfield 27, 3) := by decide +kernel
theorem dX10_orderNext_21 : decode cX10_orderNext 21 = .ok (.aload_n 0, 1) := by decide +kernel
theorem dX10_orderNext_22 : decode cX10_orderNext 22 = .ok (.getfield 34, 3) := by decide +kernel
theorem dX10_orderNext_25 : decode cX10_orderNext 25 = .ok (.iload_n 1, 1) := by decide +kernel
theorem dX10_orderNext_26 : decode cX10_orderNext 26 = .ok (.iastore, 1) := by decide +kernel
theorem dX10_orderNext_27 : decode cX10_orderNext 27 = .ok (.aload_n 0, 1) := by decide +kernel
theorem dX10_orderNext_28 : decode cX10_orderNext 28 = .ok (.dup, 1) := by decide +kernel
theorem dX10_orderNext_29 : decode cX10_orderNext 29 = .ok (.getfield 34, 3) := by decide +kernel
theorem dX10_orderNext_32 : decode cX10_orderNext 32 = .ok (.iconst 1, 1) := by decide +kernel
theorem dX10_orderNext_33 : decode cX10_orderNext 33 = .ok (.iadd, 1) := by decide +kernel
theorem dX10_orderNext_34 : decode cX10_orderNext 34 = .ok (.putfield 34, 3) := by decide +kernel
theorem dX10_orderNext_37 : decode cX10_orderNext 37 = .ok (.return_, 1) := by decide +kernel
def kX10_orderNext_0 : List (Nat × zT) := [(0, a_aload 0 1), (1, a_iload 1 2), (2, a_callV 10 81 2 5 0 0), (5, a_if_eq 37 8), (8, a_aload 0 9), (9, a_getI 10 7 12), (12, a_i 13 14), (14, a_ic_ge 37 17), (17, a_aload 0 18), (18, a_getR 10 5 21), (21, a_aload 0 22), (22, a_getI 10 7 25), (25, a_iload 1 26), (26, a_iast 27), (27, a_aload 0 28), (28, a_dup 29), (29, a_getI 10 7 32), (32, a_i 1 33), (33, a_ii (fun x y => x + y) 34), (34, a_putI 10 7 37 false), (37, a_vret)]
theorem oX10_orderNext_0 : ∀ q ∈ kX10_orderNext_0, zSnd zty false RX10 cX10_orderNext 2 none false q := List.forall_mem_cons.mpr ⟨ok_aload_n dX10_orderNext_0 rfl, List.forall_mem_cons.mpr ⟨ok_iload_n dX10_orderNext_1 rfl, List.forall_mem_cons.mpr ⟨ok_callV dX10_orderNext_2 rfl rfl w430 w470 w428 w3 w429 (by decide +kernel) (by decide), List.forall_mem_cons.mpr ⟨ok_if_eq dX10_orderNext_5 (by decide), List.forall_mem_cons.mpr ⟨ok_aload_n dX10_orderNext_8 rfl, List.forall_mem_cons.mpr ⟨ok_getI dX10_orderNext_9 rfl in10 (by decide) rfl w88, List.forall_mem_cons.mpr ⟨ok_bipush dX10_orderNext_12 (by decide), List.forall_mem_cons.mpr ⟨ok_ic_ge dX10_orderNext_14 (by decide), List.forall_mem_cons.mpr ⟨ok_aload_n dX10_orderNext_17 rfl, List.forall_mem_cons.mpr ⟨ok_getR dX10_orderNext_18 rfl in10 (by decide) rfl w79, List.forall_mem_cons.mpr ⟨ok_aload_n dX10_orderNext_21 rfl, List.forall_mem_cons.mpr ⟨ok_getI dX10_orderNext_22 rfl in10 (by decide) rfl w88, List.forall_mem_cons.mpr ⟨ok_iload_n dX10_orderNext_25 rfl, List.forall_mem_cons.mpr ⟨ok_iast dX10_orderNext_26, List.forall_mem_cons.mpr ⟨ok_aload_n dX10_orderNext_27 rfl, List.forall_mem_cons.mpr ⟨ok_dup dX10_orderNext_28, List.forall_mem_cons.mpr ⟨ok_getI dX10_orderNext_29 rfl in10 (by decide) rfl w88, List.forall_mem_cons.mpr ⟨ok_iconst dX10_orderNext_32 (by decide), List.forall_mem_cons.mpr ⟨ok_iadd dX10_orderNext_33, List.forall_mem_cons.mpr ⟨ok_putI (bz := false) dX10_orderNext_34 rfl in10 tyX10 tyX10_ok nmX10 (by decide) rfl w88 rfl rfl, List.forall_mem_cons.mpr ⟨ok_vret dX10_orderNext_37 rfl, fun _ h => absurd h List.not_mem_nil⟩⟩⟩⟩⟩⟩⟩⟩⟩⟩⟩⟩⟩⟩⟩⟩⟩⟩⟩⟩⟩
def kX10_orderNext : List (Nat × zT) := kX10_orderNext_0
theorem qX10_orderNext_0 : ∀ q ∈ kX10_orderNext_0, q ∈ kX10_orderNext := fun _ h => h
theorem tX10_orderNext_0 : (0, a_aload 0 1) ∈ kX10_orderNext := qX10_orderNext_0 _ (List.mem_of_getElem? (i := 0) rfl)
theorem tX10_orderNext_1 : (1, a_iload 1 2) ∈ kX10_orderNext := qX10_orderNext_0 _ (List.mem_of_getElem? (i := 1) rfl)
theorem tX10_orderNext_2 : (2, a_callV 10 81 2 5 0 0) ∈ kX10_orderNext := qX10_orderNext_0 _ (List.mem_of_getElem? (i := 2) rfl)
theorem tX10_orderNext_5 : (5, a_if_eq 37 8) ∈ kX10_orderNext := qX10_orderNext_0 _ (List.mem_of_getElem? (i := 3) rfl)
theorem tX10_orderNext_8 : (8, a_aload 0 9) ∈ kX10_orderNext := qX10_orderNext_0 _ (List.mem_of_getElem? (i := 4) rfl)
theorem tX10_orderNext_9 : (9, a_getI 10 7 12) ∈ kX10_orderNext := qX10_orderNext_0 _ (List.mem_of_getElem? (i := 5) rfl)
theorem tX10_orderNext_12 : (12, a_i 13 14) ∈ kX10_orderNext := qX10_orderNext_0 _ (List.mem_of_getElem? (i := 6) rfl)
theorem tX10_orderNext_14 : (14, a_ic_ge 37 17) ∈ kX10_orderNext := qX10_orderNext_0 _ (List.mem_of_getElem? (i := 7) rfl)
theorem tX10_orderNext_17 : (17, a_aload 0 18) ∈ kX10_orderNext := qX10_orderNext_0 _ (List.mem_of_getElem? (i := 8) rfl)
theorem tX10_orderNext_18 : (18, a_getR 10 5 21) ∈ kX10_orderNext := qX10_orderNext_0 _ (List.mem_of_getElem? (i := 9) rfl)
theorem tX10_orderNext_21 : (21, a_aload 0 22) ∈ kX10_orderNext := qX10_orderNext_0 _ (List.mem_of_getElem? (i := 10) rfl)
theorem tX10_orderNext_22 : (22, a_getI 10 7 25) ∈ kX10_orderNext := qX10_orderNext_0 _ (List.mem_of_getElem? (i := 11) rfl)
theorem tX10_orderNext_25 : (25, a_iload 1 26) ∈ kX10_orderNext := qX10_orderNext_0 _ (List.mem_of_getElem? (i := 12) rfl)
theorem tX10_orderNext_26 : (26, a_iast 27) ∈ kX10_orderNext := qX10_orderNext_0 _ (List.mem_of_getElem? (i := 13) rfl)
theorem tX10_orderNext_27 : (27, a_aload 0 28) ∈ kX10_orderNext := qX10_orderNext_0 _ (List.mem_of_getElem? (i := 14) rfl)
theorem tX10_orderNext_28 : (28, a_dup 29) ∈ kX10_orderNext := qX10_orderNext_0 _ (List.mem_of_getElem? (i := 15) rfl)
theorem tX10_orderNext_29 : (29, a_getI 10 7 32) ∈ kX10_orderNext := qX10_orderNext_0 _ (List.mem_of_getElem? (i := 16) rfl)
theorem tX10_orderNext_32 : (32, a_i 1 33) ∈ kX10_orderNext := qX10_orderNext_0 _ (List.mem_of_getElem? (i := 17) rfl)
theorem tX10_orderNext_33 : (33, a_ii (fun x y => x + y) 34) ∈ kX10_orderNext := qX10_orderNext_0 _ (List.mem_of_getElem? (i := 18) rfl)
theorem tX10_orderNext_34 : (34, a_putI 10 7 37 false) ∈ kX10_orderNext := qX10_orderNext_0 _ (List.mem_of_getElem? (i := 19) rfl)
theorem tX10_orderNext_37 : (37, a_vret) ∈ kX10_orderNext := qX10_orderNext_0 _ (List.mem_of_getElem? (i := 20) rfl)
theorem oX10_orderNext : ∀ q ∈ kX10_orderNext, zSnd zty false RX10 cX10_orderNext 2 none false q := oX10_orderNext_0
