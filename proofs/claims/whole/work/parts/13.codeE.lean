theorem dX12_coverOf_0 : decode cX12_coverOf 0 = .ok (.iconst 0, 1) := by decide +kernel
theorem dX12_coverOf_1 : decode cX12_coverOf 1 = .ok (.istore_n 3, 1) := by decide +kernel
theorem dX12_coverOf_2 : decode cX12_coverOf 2 = .ok (.iconst 0, 1) := by decide +kernel
theorem dX12_coverOf_3 : decode cX12_coverOf 3 = .ok (.istore 4, 2) := by decide +kernel
theorem dX12_coverOf_5 : decode cX12_coverOf 5 = .ok (.iload 4, 2) := by decide +kernel
theorem dX12_coverOf_7 : decode cX12_coverOf 7 = .ok (.aload_n 0, 1) := by decide +kernel
theorem dX12_coverOf_8 : decode cX12_coverOf 8 = .ok (.getfield 22, 3) := by decide +kernel
theorem dX12_coverOf_11 : decode cX12_coverOf 11 = .ok (.bipush 19, 2) := by decide +kernel
theorem dX12_coverOf_13 : decode cX12_coverOf 13 = .ok (.iload_n 1, 1) := by decide +kernel
theorem dX12_coverOf_14 : decode cX12_coverOf 14 = .ok (.imul, 1) := by decide +kernel
theorem dX12_coverOf_15 : decode cX12_coverOf 15 = .ok (.iload_n 2, 1) := by decide +kernel
theorem dX12_coverOf_16 : decode cX12_coverOf 16 = .ok (.iadd, 1) := by decide +kernel
theorem dX12_coverOf_17 : decode cX12_coverOf 17 = .ok (.iaload, 1) := by decide +kernel
theorem dX12_coverOf_18 : decode cX12_coverOf 18 = .ok (.if_icmp .ge 54, 3) := by decide +kernel
theorem dX12_coverOf_21 : decode cX12_coverOf 21 = .ok (.aload_n 0, 1) := by decide +kernel
theorem dX12_coverOf_22 : decode cX12_coverOf 22 = .ok (.getfield 16, 3) := by decide +kernel
theorem dX12_coverOf_25 : decode cX12_coverOf 25 = .ok (.sipush 200, 3) := by decide +kernel
theorem dX12_coverOf_28 : decode cX12_coverOf 28 = .ok (.iload_n 1, 1) := by decide +kernel
theorem dX12_coverOf_29 : decode cX12_coverOf 29 = .ok (.imul, 1) := by decide +kernel
theorem dX12_coverOf_30 : decode cX12_coverOf 30 = .ok (.aload_n 0, 1) := by decide +kernel
theorem dX12_coverOf_31 : decode cX12_coverOf 31 = .ok (.getfield 19, 3) := by decide +kernel
theorem dX12_coverOf_34 : decode cX12_coverOf 34 = .ok (.bipush 19, 2) := by decide +kernel
theorem dX12_coverOf_36 : decode cX12_coverOf 36 = .ok (.iload_n 1, 1) := by decide +kernel
theorem dX12_coverOf_37 : decode cX12_coverOf 37 = .ok (.imul, 1) := by decide +kernel
theorem dX12_coverOf_38 : decode cX12_coverOf 38 = .ok (.iload_n 2, 1) := by decide +kernel
theorem dX12_coverOf_39 : decode cX12_coverOf 39 = .ok (.iadd, 1) := by decide +kernel
theorem dX12_coverOf_40 : decode cX12_coverOf 40 = .ok (.iaload, 1) := by decide +kernel
theorem dX12_coverOf_41 : decode cX12_coverOf 41 = .ok (.iadd, 1) := by decide +kernel
theorem dX12_coverOf_42 : decode cX12_coverOf 42 = .ok (.iload 4, 2) := by decide +kernel
theorem dX12_coverOf_44 : decode cX12_coverOf 44 = .ok (.iadd, 1) := by decide +kernel
theorem dX12_coverOf_45 : decode cX12_coverOf 45 = .ok (.iaload, 1) := by decide +kernel
theorem dX12_coverOf_46 : decode cX12_coverOf 46 = .ok (.istore 5, 2) := by decide +kernel
theorem dX12_coverOf_48 : decode cX12_coverOf 48 = .ok (.iload_n 3, 1) := by decide +kernel
theorem dX12_coverOf_49 : decode cX12_coverOf 49 = .ok (.iload 5, 2) := by decide +kernel
theorem dX12_coverOf_51 : decode cX12_coverOf 51 = .ok (.invokestatic 118, 3) := by decide +kernel
theorem dX12_coverOf_54 : decode cX12_coverOf 54 = .ok (.isub, 1) := by decide +kernel
theorem dX12_coverOf_55 : decode cX12_coverOf 55 = .ok (.istore_n 3, 1) := by decide +kernel
theorem dX12_coverOf_56 : decode cX12_coverOf 56 = .ok (.aload_n 0, 1) := by decide +kernel
theorem dX12_coverOf_57 : decode cX12_coverOf 57 = .ok (.iload 5, 2) := by decide +kernel
theorem dX12_coverOf_59 : decode cX12_coverOf 59 = .ok (.iload_n 3, 1) := by decide +kernel
theorem dX12_coverOf_60 : decode cX12_coverOf 60 = .ok (.invokevirtual 195, 3) := by decide +kernel
theorem dX12_coverOf_63 : decode cX12_coverOf 63 = .ok (.iinc 3 1, 3) := by decide +kernel
theorem dX12_coverOf_66 : decode cX12_coverOf 66 = .ok (.iinc 4 1, 3) := by decide +kernel
theorem dX12_coverOf_69 : decode cX12_coverOf 69 = .ok (.goto (-64), 3) := by decide +kernel
theorem dX12_coverOf_72 : decode cX12_coverOf 72 = .ok (.aload_n 0, 1) := by decide +kernel
theorem dX12_coverOf_73 : decode cX12_coverOf 73 = .ok (.getfield 65, 3) := by decide +kernel
theorem dX12_coverOf_76 : decode cX12_coverOf 76 = .ok (.iconst 0, 1) := by decide +kernel
theorem dX12_coverOf_77 : decode cX12_coverOf 77 = .ok (.iaload, 1) := by decide +kernel
theorem dX12_coverOf_78 : decode cX12_coverOf 78 = .ok (.ireturn, 1) := by decide +kernel
def kX12_coverOf_0 : List (Nat × zT) := [(0, a_i 0 1), (1, a_istore 3 2), (2, a_i 0 3), (3, a_istore 4 5), (5, a_iload 4 7), (7, a_aload 0 8), (8, a_getR 12 4 11), (11, a_i 19 13), (13, a_iload 1 14), (14, a_ii (fun x y => x * y) 15), (15, a_iload 2 16), (16, a_ii (fun x y => x + y) 17), (17, a_iald 18), (18, a_ic_ge 72 21), (21, a_aload 0 22), (22, a_getR 12 2 25), (25, a_i 200 28), (28, a_iload 1 29), (29, a_ii (fun x y => x * y) 30), (30, a_aload 0 31), (31, a_getR 12 3 34), (34, a_i 19 36), (36, a_iload 1 37), (37, a_ii (fun x y => x * y) 38)]
theorem oX12_coverOf_0 : ∀ q ∈ kX12_coverOf_0, zSnd zty false RX12 cX12_coverOf 6 (some .int) false q := List.forall_mem_cons.mpr ⟨ok_iconst dX12_coverOf_0 (by decide), List.forall_mem_cons.mpr ⟨ok_istore_n dX12_coverOf_1 rfl (by decide), List.forall_mem_cons.mpr ⟨ok_iconst dX12_coverOf_2 (by decide), List.forall_mem_cons.mpr ⟨ok_istore dX12_coverOf_3 (by decide), List.forall_mem_cons.mpr ⟨ok_iload dX12_coverOf_5, List.forall_mem_cons.mpr ⟨ok_aload_n dX12_coverOf_7 rfl, List.forall_mem_cons.mpr ⟨ok_getR dX12_coverOf_8 rfl in12 (by decide) rfl w961, List.forall_mem_cons.mpr ⟨ok_bipush dX12_coverOf_11 (by decide), List.forall_mem_cons.mpr ⟨ok_iload_n dX12_coverOf_13 rfl, List.forall_mem_cons.mpr ⟨ok_imul dX12_coverOf_14, List.forall_mem_cons.mpr ⟨ok_iload_n dX12_coverOf_15 rfl, List.forall_mem_cons.mpr ⟨ok_iadd dX12_coverOf_16, List.forall_mem_cons.mpr ⟨ok_iald dX12_coverOf_17, List.forall_mem_cons.mpr ⟨ok_ic_ge dX12_coverOf_18 (by decide), List.forall_mem_cons.mpr ⟨ok_aload_n dX12_coverOf_21 rfl, List.forall_mem_cons.mpr ⟨ok_getR dX12_coverOf_22 rfl in12 (by decide) rfl w959, List.forall_mem_cons.mpr ⟨ok_sipush dX12_coverOf_25 (by decide), List.forall_mem_cons.mpr ⟨ok_iload_n dX12_coverOf_28 rfl, List.forall_mem_cons.mpr ⟨ok_imul dX12_coverOf_29, List.forall_mem_cons.mpr ⟨ok_aload_n dX12_coverOf_30 rfl, List.forall_mem_cons.mpr ⟨ok_getR dX12_coverOf_31 rfl in12 (by decide) rfl w960, List.forall_mem_cons.mpr ⟨ok_bipush dX12_coverOf_34 (by decide), List.forall_mem_cons.mpr ⟨ok_iload_n dX12_coverOf_36 rfl, List.forall_mem_cons.mpr ⟨ok_imul dX12_coverOf_37, fun _ h => absurd h List.not_mem_nil⟩⟩⟩⟩⟩⟩⟩⟩⟩⟩⟩⟩⟩⟩⟩⟩⟩⟩⟩⟩⟩⟩⟩⟩
def kX12_coverOf_1 : List (Nat × zT) := [(38, a_iload 2 39), (39, a_ii (fun x y => x + y) 40), (40, a_iald 41), (41, a_ii (fun x y => x + y) 42), (42, a_iload 4 44), (44, a_ii (fun x y => x + y) 45), (45, a_iald 46), (46, a_istore 5 48), (48, a_iload 3 49), (49, a_iload 5 51), (51, a_call 141 1 54 0 0), (54, a_ii (fun x y => x - y) 55), (55, a_istore 3 56), (56, a_aload 0 57), (57, a_iload 5 59), (59, a_iload 3 60), (60, a_callV 12 176 3 63 0 0), (63, a_iinc 3 1 66), (66, a_iinc 4 1 69), (69, a_goto 5), (72, a_aload 0 73), (73, a_getR 12 21 76), (76, a_i 0 77), (77, a_iald 78)]
theorem oX12_coverOf_1 : ∀ q ∈ kX12_coverOf_1, zSnd zty false RX12 cX12_coverOf 6 (some .int) false q := List.forall_mem_cons.mpr ⟨ok_iload_n dX12_coverOf_38 rfl, List.forall_mem_cons.mpr ⟨ok_iadd dX12_coverOf_39, List.forall_mem_cons.mpr ⟨ok_iald dX12_coverOf_40, List.forall_mem_cons.mpr ⟨ok_iadd dX12_coverOf_41, List.forall_mem_cons.mpr ⟨ok_iload dX12_coverOf_42, List.forall_mem_cons.mpr ⟨ok_iadd dX12_coverOf_44, List.forall_mem_cons.mpr ⟨ok_iald dX12_coverOf_45, List.forall_mem_cons.mpr ⟨ok_istore dX12_coverOf_46 (by decide), List.forall_mem_cons.mpr ⟨ok_iload_n dX12_coverOf_48 rfl, List.forall_mem_cons.mpr ⟨ok_iload dX12_coverOf_49, List.forall_mem_cons.mpr ⟨ok_callS dX12_coverOf_51 rfl w1100 w1098 w1099 w13 (by decide +kernel) (by decide), List.forall_mem_cons.mpr ⟨ok_isub dX12_coverOf_54, List.forall_mem_cons.mpr ⟨ok_istore_n dX12_coverOf_55 rfl (by decide), List.forall_mem_cons.mpr ⟨ok_aload_n dX12_coverOf_56 rfl, List.forall_mem_cons.mpr ⟨ok_iload dX12_coverOf_57, List.forall_mem_cons.mpr ⟨ok_iload_n dX12_coverOf_59 rfl, List.forall_mem_cons.mpr ⟨ok_callV dX12_coverOf_60 rfl rfl w1235 w1232 w1234 w13 s39 (by decide +kernel) (by decide), List.forall_mem_cons.mpr ⟨ok_iinc dX12_coverOf_63 (by decide) (by decide), List.forall_mem_cons.mpr ⟨ok_iinc dX12_coverOf_66 (by decide) (by decide), List.forall_mem_cons.mpr ⟨ok_goto dX12_coverOf_69 (by decide), List.forall_mem_cons.mpr ⟨ok_aload_n dX12_coverOf_72 rfl, List.forall_mem_cons.mpr ⟨ok_getR dX12_coverOf_73 rfl in12 (by decide) rfl w978, List.forall_mem_cons.mpr ⟨ok_iconst dX12_coverOf_76 (by decide), List.forall_mem_cons.mpr ⟨ok_iald dX12_coverOf_77, fun _ h => absurd h List.not_mem_nil⟩⟩⟩⟩⟩⟩⟩⟩⟩⟩⟩⟩⟩⟩⟩⟩⟩⟩⟩⟩⟩⟩⟩⟩
def kX12_coverOf_2 : List (Nat × zT) := [(78, a_iret false)]
theorem oX12_coverOf_2 : ∀ q ∈ kX12_coverOf_2, zSnd zty false RX12 cX12_coverOf 6 (some .int) false q := List.forall_mem_cons.mpr ⟨ok_iret (bz := false) dX12_coverOf_78 rfl, fun _ h => absurd h List.not_mem_nil⟩
def kX12_coverOf : List (Nat × zT) := kX12_coverOf_0 ++ (kX12_coverOf_1 ++ (kX12_coverOf_2))
theorem qX12_coverOf_0 : ∀ q ∈ kX12_coverOf_0, q ∈ kX12_coverOf := fun _ h => (List.mem_append_left _ h)
theorem tX12_coverOf_0 : (0, a_i 0 1) ∈ kX12_coverOf := qX12_coverOf_0 _ (List.mem_of_getElem? (i := 0) rfl)
theorem tX12_coverOf_1 : (1, a_istore 3 2) ∈ kX12_coverOf := qX12_coverOf_0 _ (List.mem_of_getElem? (i := 1) rfl)
theorem tX12_coverOf_2 : (2, a_i 0 3) ∈ kX12_coverOf := qX12_coverOf_0 _ (List.mem_of_getElem? (i := 2) rfl)
theorem tX12_coverOf_3 : (3, a_istore 4 5) ∈ kX12_coverOf := qX12_coverOf_0 _ (List.mem_of_getElem? (i := 3) rfl)
theorem tX12_coverOf_5 : (5, a_iload 4 7) ∈ kX12_coverOf := qX12_coverOf_0 _ (List.mem_of_getElem? (i := 4) rfl)
theorem tX12_coverOf_7 : (7, a_aload 0 8) ∈ kX12_coverOf := qX12_coverOf_0 _ (List.mem_of_getElem? (i := 5) rfl)
theorem tX12_coverOf_8 : (8, a_getR 12 4 11) ∈ kX12_coverOf := qX12_coverOf_0 _ (List.mem_of_getElem? (i := 6) rfl)
theorem tX12_coverOf_11 : (11, a_i 19 13) ∈ kX12_coverOf := qX12_coverOf_0 _ (List.mem_of_getElem? (i := 7) rfl)
theorem tX12_coverOf_13 : (13, a_iload 1 14) ∈ kX12_coverOf := qX12_coverOf_0 _ (List.mem_of_getElem? (i := 8) rfl)
theorem tX12_coverOf_14 : (14, a_ii (fun x y => x * y) 15) ∈ kX12_coverOf := qX12_coverOf_0 _ (List.mem_of_getElem? (i := 9) rfl)
theorem tX12_coverOf_15 : (15, a_iload 2 16) ∈ kX12_coverOf := qX12_coverOf_0 _ (List.mem_of_getElem? (i := 10) rfl)
theorem tX12_coverOf_16 : (16, a_ii (fun x y => x + y) 17) ∈ kX12_coverOf := qX12_coverOf_0 _ (List.mem_of_getElem? (i := 11) rfl)
theorem tX12_coverOf_17 : (17, a_iald 18) ∈ kX12_coverOf := qX12_coverOf_0 _ (List.mem_of_getElem? (i := 12) rfl)
theorem tX12_coverOf_18 : (18, a_ic_ge 72 21) ∈ kX12_coverOf := qX12_coverOf_0 _ (List.mem_of_getElem? (i := 13) rfl)
theorem tX12_coverOf_21 : (21, a_aload 0 22) ∈ kX12_coverOf := qX12_coverOf_0 _ (List.mem_of_getElem? (i := 14) rfl)
theorem tX12_coverOf_22 : (22, a_getR 12 2 25) ∈ kX12_coverOf := qX12_coverOf_0 _ (List.mem_of_getElem? (i := 15) rfl)
theorem tX12_coverOf_25 : (25, a_i 200 28) ∈ kX12_coverOf := qX12_coverOf_0 _ (List.mem_of_getElem? (i := 16) rfl)
theorem tX12_coverOf_28 : (28, a_iload 1 29) ∈ kX12_coverOf := qX12_coverOf_0 _ (List.mem_of_getElem? (i := 17) rfl)
theorem tX12_coverOf_29 : (29, a_ii (fun x y => x * y) 30) ∈ kX12_coverOf := qX12_coverOf_0 _ (List.mem_of_getElem? (i := 18) rfl)
theorem tX12_coverOf_30 : (30, a_aload 0 31) ∈ kX12_coverOf := qX12_coverOf_0 _ (List.mem_of_getElem? (i := 19) rfl)
theorem tX12_coverOf_31 : (31, a_getR 12 3 34) ∈ kX12_coverOf := qX12_coverOf_0 _ (List.mem_of_getElem? (i := 20) rfl)
theorem tX12_coverOf_34 : (34, a_i 19 36) ∈ kX12_coverOf := qX12_coverOf_0 _ (List.mem_of_getElem? (i := 21) rfl)
theorem tX12_coverOf_36 : (36, a_iload 1 37) ∈ kX12_coverOf := qX12_coverOf_0 _ (List.mem_of_getElem? (i := 22) rfl)
theorem tX12_coverOf_37 : (37, a_ii (fun x y => x * y) 38) ∈ kX12_coverOf := qX12_coverOf_0 _ (List.mem_of_getElem? (i := 23) rfl)
theorem qX12_coverOf_1 : ∀ q ∈ kX12_coverOf_1, q ∈ kX12_coverOf := fun _ h => (List.mem_append_right _ (List.mem_append_left _ h))
theorem tX12_coverOf_38 : (38, a_iload 2 39) ∈ kX12_coverOf := qX12_coverOf_1 _ (List.mem_of_getElem? (i := 0) rfl)
theorem tX12_coverOf_39 : (39, a_ii (fun x y => x + y) 40) ∈ kX12_coverOf := qX12_coverOf_1 _ (List.mem_of_getElem? (i := 1) rfl)
theorem tX12_coverOf_40 : (40, a_iald 41) ∈ kX12_coverOf := qX12_coverOf_1 _ (List.mem_of_getElem? (i := 2) rfl)
theorem tX12_coverOf_41 : (41, a_ii (fun x y => x + y) 42) ∈ kX12_coverOf := qX12_coverOf_1 _ (List.mem_of_getElem? (i := 3) rfl)
theorem tX12_coverOf_42 : (42, a_iload 4 44) ∈ kX12_coverOf := qX12_coverOf_1 _ (List.mem_of_getElem? (i := 4) rfl)
theorem tX12_coverOf_44 : (44, a_ii (fun x y => x + y) 45) ∈ kX12_coverOf := qX12_coverOf_1 _ (List.mem_of_getElem? (i := 5) rfl)
theorem tX12_coverOf_45 : (45, a_iald 46) ∈ kX12_coverOf := qX12_coverOf_1 _ (List.mem_of_getElem? (i := 6) rfl)
theorem tX12_coverOf_46 : (46, a_istore 5 48) ∈ kX12_coverOf := qX12_coverOf_1 _ (List.mem_of_getElem? (i := 7) rfl)
theorem tX12_coverOf_48 : (48, a_iload 3 49) ∈ kX12_coverOf := qX12_coverOf_1 _ (List.mem_of_getElem? (i := 8) rfl)
theorem tX12_coverOf_49 : (49, a_iload 5 51) ∈ kX12_coverOf := qX12_coverOf_1 _ (List.mem_of_getElem? (i := 9) rfl)
theorem tX12_coverOf_51 : (51, a_call 141 1 54 0 0) ∈ kX12_coverOf := qX12_coverOf_1 _ (List.mem_of_getElem? (i := 10) rfl)
theorem tX12_coverOf_54 : (54, a_ii (fun x y => x - y) 55) ∈ kX12_coverOf := qX12_coverOf_1 _ (List.mem_of_getElem? (i := 11) rfl)
theorem tX12_coverOf_55 : (55, a_istore 3 56) ∈ kX12_coverOf := qX12_coverOf_1 _ (List.mem_of_getElem? (i := 12) rfl)
theorem tX12_coverOf_56 : (56, a_aload 0 57) ∈ kX12_coverOf := qX12_coverOf_1 _ (List.mem_of_getElem? (i := 13) rfl)
theorem tX12_coverOf_57 : (57, a_iload 5 59) ∈ kX12_coverOf := qX12_coverOf_1 _ (List.mem_of_getElem? (i := 14) rfl)
theorem tX12_coverOf_59 : (59, a_iload 3 60) ∈ kX12_coverOf := qX12_coverOf_1 _ (List.mem_of_getElem? (i := 15) rfl)
theorem tX12_coverOf_60 : (60, a_callV 12 176 3 63 0 0) ∈ kX12_coverOf := qX12_coverOf_1 _ (List.mem_of_getElem? (i := 16) rfl)
theorem tX12_coverOf_63 : (63, a_iinc 3 1 66) ∈ kX12_coverOf := qX12_coverOf_1 _ (List.mem_of_getElem? (i := 17) rfl)
theorem tX12_coverOf_66 : (66, a_iinc 4 1 69) ∈ kX12_coverOf := qX12_coverOf_1 _ (List.mem_of_getElem? (i := 18) rfl)
theorem tX12_coverOf_69 : (69, a_goto 5) ∈ kX12_coverOf := qX12_coverOf_1 _ (List.mem_of_getElem? (i := 19) rfl)
theorem tX12_coverOf_72 : (72, a_aload 0 73) ∈ kX12_coverOf := qX12_coverOf_1 _ (List.mem_of_getElem? (i := 20) rfl)
theorem tX12_coverOf_73 : (73, a_getR 12 21 76) ∈ kX12_coverOf := qX12_coverOf_1 _ (List.mem_of_getElem? (i := 21) rfl)
theorem tX12_coverOf_76 : (76, a_i 0 77) ∈ kX12_coverOf := qX12_coverOf_1 _ (List.mem_of_getElem? (i := 22) rfl)
theorem tX12_coverOf_77 : (77, a_iald 78) ∈ kX12_coverOf := qX12_coverOf_1 _ (List.mem_of_getElem? (i := 23) rfl)
theorem qX12_coverOf_2 : ∀ q ∈ kX12_coverOf_2, q ∈ kX12_coverOf := fun _ h => (List.mem_append_right _ (List.mem_append_right _ h))
theorem tX12_coverOf_78 : (78, a_iret false) ∈ kX12_coverOf := qX12_coverOf_2 _ (List.mem_of_getElem? (i := 0) rfl)
theorem oX12_coverOf : ∀ q ∈ kX12_coverOf, zSnd zty false RX12 cX12_coverOf 6 (some .int) false q := List.forall_mem_append.mpr ⟨oX12_coverOf_0, List.forall_mem_append.mpr ⟨oX12_coverOf_1, oX12_coverOf_2⟩⟩
theorem dX12_cover_0 : decode cX12_cover 0 = .ok (.iload_n 1, 1) := by decide +kernel
theorem dX12_cover_1 : decode cX12_cover 1 = .ok (.iconst 0, 1) := by decide +kernel
theorem dX12_cover_2 : decode cX12_cover 2 = .ok (.iconst 1, 1) := by decide +kernel
theorem dX12_cover_3 : decode cX12_cover 3 = .ok (.invokestatic 112, 3) := by decide +kernel
theorem dX12_cover_6 : decode cX12_cover 6 = .ok (.ifCond .eq 19, 3) := by decide +kernel
theorem dX12_cover_9 : decode cX12_cover 9 = .ok (.iload_n 2, 1) := by decide +kernel
theorem dX12_cover_10 : decode cX12_cover 10 = .ok (.iconst (-1), 1) := by decide +kernel
theorem dX12_cover_11 : decode cX12_cover 11 = .ok (.if_icmp .eq 16, 3) := by decide +kernel
theorem dX12_cover_14 : decode cX12_cover 14 = .ok (.iload_n 2, 1) := by decide +kernel
theorem dX12_cover_15 : decode cX12_cover 15 = .ok (.bipush 6, 2) := by decide +kernel
theorem dX12_cover_17 : decode cX12_cover 17 = .ok (.bipush 18, 2) := by decide +kernel
theorem dX12_cover_19 : decode cX12_cover 19 = .ok (.invokestatic 112, 3) := by decide +kernel
theorem dX12_cover_22 : decode cX12_cover 22 = .ok (.ifCond .ne 5, 3) := by decide +kernel
theorem dX12_cover_25 : decode cX12_cover 25 = .ok (.iconst (-1), 1) := by decide +kernel
theorem dX12_cover_26 : decode cX12_cover 26 = .ok (.ireturn, 1) := by decide +kernel
theorem dX12_cover_27 : decode cX12_cover 27 = .ok (.iload_n 2, 1) := by decide +kernel
theorem dX12_cover_28 : decode cX12_cover 28 = .ok (.ifCond .lt 24, 3) := by decide +kernel
theorem dX12_cover_31 : decode cX12_cover 31 = .ok (.aload_n 0, 1) := by decide +kernel
theorem dX12_cover_32 : decode cX12_cover 32 = .ok (.iload_n 1, 1) := by decide +kernel
theorem dX12_cover_33 : decode cX12_cover 33 = .ok (.iload_n 2, 1) := by decide +kernel
theorem dX12_cover_34 : decode cX12_cover 34 = .ok (.invokevirtual 153, 3) := by decide +kernel
theorem dX12_cover_37 : decode cX12_cover 37 = .ok (.ifCond .eq 12, 3) := by decide +kernel
theorem dX12_cover_40 : decode cX12_cover 40 = .ok (.aload_n 0, 1) := by decide +kernel
theorem dX12_cover_41 : decode cX12_cover 41 = .ok (.iload_n 1, 1) := by decide +kernel
theorem dX12_cover_42 : decode cX12_cover 42 = .ok (.iload_n 2, 1) := by decide +kernel
theorem dX12_cover_43 : decode cX12_cover 43 = .ok (.invokevirtual 198, 3) := by decide +kernel
theorem dX12_cover_46 : decode cX12_cover 46 = .ok (.goto 5, 3) := by decide +kernel
theorem dX12_cover_49 : decode cX12_cover 49 = .ok (.bipush (-4), 2) := by decide +kernel
theorem dX12_cover_51 : decode cX12_cover 51 = .ok (.ireturn, 1) := by decide +kernel
theorem dX12_cover_52 : decode cX12_cover 52 = .ok (.iconst 0, 1) := by decide +kernel
theorem dX12_cover_53 : decode cX12_cover 53 = .ok (.istore_n 3, 1) := by decide +kernel
theorem dX12_cover_54 : decode cX12_cover 54 = .ok (.bipush 6, 2) := by decide +kernel
theorem dX12_cover_56 : decode cX12_cover 56 = .ok (.istore 4, 2) := by decide +kernel
theorem dX12_cover_58 : decode cX12_cover 58 = .ok (.iload 4, 2) := by decide +kernel
theorem dX12_cover_60 : decode cX12_cover 60 = .ok (.bipush 19, 2) := by decide +kernel
theorem dX12_cover_62 : decode cX12_cover 62 = .ok (.if_icmp .ge 33, 3) := by decide +kernel
theorem dX12_cover_65 : decode cX12_cover 65 = .ok (.iload_n 3, 1) := by decide +kernel
theorem dX12_cover_66 : decode cX12_cover 66 = .ok (.aload_n 0, 1) := by decide +kernel
theorem dX12_cover_67 : decode cX12_cover 67 = .ok (.iload_n 1, 1) := by decide +kernel
theorem dX12_cover_68 : decode cX12_cover 68 = .ok (.iload 4, 2) := by decide +kernel
theorem dX12_cover_70 : decode cX12_cover 70 = .ok (.invokevirtual 153, 3) := by decide +kernel
theorem dX12_cover_73 : decode cX12_cover 73 = .ok (.ifCond .eq 13, 3) := by decide +kernel
theorem dX12_cover_76 : decode cX12_cover 76 = .ok (.aload_n 0, 1) := by decide +kernel
theorem dX12_cover_77 : decode cX12_cover 77 = .ok (.iload_n 1, 1) := by decide +kernel
theorem dX12_cover_78 : decode cX12_cover 78 = .ok (.iload 4, 2) := by decide +kernel
theorem dX12_cover_80 : decode cX12_cover 80 = .ok (.invokevirtual 198, 3) := by decide +kernel
theorem dX12_cover_83 : decode cX12_cover 83 = .ok (.goto 4, 3) := by decide +kernel
theorem dX12_cover_86 : decode cX12_cover 86 = .ok (.iconst 0, 1) := by decide +kernel
theorem dX12_cover_87 : decode cX12_cover 87 = .ok (.iadd, 1) := by decide +kernel
theorem dX12_cover_88 : decode cX12_cover 88 = .ok (.istore_n 3, 1) := by decide +kernel
theorem dX12_cover_89 : decode cX12_cover 89 = .ok (.iinc 4 1, 3) := by decide +kernel
theorem dX12_cover_92 : decode cX12_cover 92 = .ok (.goto (-34), 3) := by decide +kernel
theorem dX12_cover_95 : decode cX12_cover 95 = .ok (.iload_n 3, 1) := by decide +kernel
theorem dX12_cover_96 : decode cX12_cover 96 = .ok (.ireturn, 1) := by decide +kernel
def kX12_cover_0 : List (Nat × zT) := [(0, a_iload 1 1), (1, a_i 0 2), (2, a_i 1 3), (3, a_call 138 3 6 0 0), (6, a_if_eq 25 9), (9, a_iload 2 10), (10, a_i (-1) 11), (11, a_ic_eq 27 14), (14, a_iload 2 15), (15, a_i 6 17), (17, a_i 18 19), (19, a_call 138 3 22 0 0), (22, a_if_ne 27 25), (25, a_i (-1) 26), (26, a_iret false), (27, a_iload 2 28), (28, a_if_lt 52 31), (31, a_aload 0 32), (32, a_iload 1 33), (33, a_iload 2 34), (34, a_callV 12 153 3 37 0 0), (37, a_if_eq 49 40), (40, a_aload 0 41), (41, a_iload 1 42)]
theorem oX12_cover_0 : ∀ q ∈ kX12_cover_0, zSnd zty false RX12 cX12_cover 5 (some .int) false q := List.forall_mem_cons.mpr ⟨ok_iload_n dX12_cover_0 rfl, List.forall_mem_cons.mpr ⟨ok_iconst dX12_cover_1 (by decide), List.forall_mem_cons.mpr ⟨ok_iconst dX12_cover_2 (by decide), List.forall_mem_cons.mpr ⟨ok_callS dX12_cover_3 rfl w1084 w1082 w1083 w13 (by decide +kernel) (by decide), List.forall_mem_cons.mpr ⟨ok_if_eq dX12_cover_6 (by decide), List.forall_mem_cons.mpr ⟨ok_iload_n dX12_cover_9 rfl, List.forall_mem_cons.mpr ⟨ok_iconst dX12_cover_10 (by decide), List.forall_mem_cons.mpr ⟨ok_ic_eq dX12_cover_11 (by decide), List.forall_mem_cons.mpr ⟨ok_iload_n dX12_cover_14 rfl, List.forall_mem_cons.mpr ⟨ok_bipush dX12_cover_15 (by decide), List.forall_mem_cons.mpr ⟨ok_bipush dX12_cover_17 (by decide), List.forall_mem_cons.mpr ⟨ok_callS dX12_cover_19 rfl w1084 w1082 w1083 w13 (by decide +kernel) (by decide), List.forall_mem_cons.mpr ⟨ok_if_ne dX12_cover_22 (by decide), List.forall_mem_cons.mpr ⟨ok_iconst dX12_cover_25 (by decide), List.forall_mem_cons.mpr ⟨ok_iret (bz := false) dX12_cover_26 rfl, List.forall_mem_cons.mpr ⟨ok_iload_n dX12_cover_27 rfl, List.forall_mem_cons.mpr ⟨ok_if_lt dX12_cover_28 (by decide), List.forall_mem_cons.mpr ⟨ok_aload_n dX12_cover_31 rfl, List.forall_mem_cons.mpr ⟨ok_iload_n dX12_cover_32 rfl, List.forall_mem_cons.mpr ⟨ok_iload_n dX12_cover_33 rfl, List.forall_mem_cons.mpr ⟨ok_callV dX12_cover_34 rfl rfl w1144 w1141 w1143 w13 s30 (by decide +kernel) (by decide), List.forall_mem_cons.mpr ⟨ok_if_eq dX12_cover_37 (by decide), List.forall_mem_cons.mpr ⟨ok_aload_n dX12_cover_40 rfl, List.forall_mem_cons.mpr ⟨ok_iload_n dX12_cover_41 rfl, fun _ h => absurd h List.not_mem_nil⟩⟩⟩⟩⟩⟩⟩⟩⟩⟩⟩⟩⟩⟩⟩⟩⟩⟩⟩⟩⟩⟩⟩⟩
def kX12_cover_1 : List (Nat × zT) := [(42, a_iload 2 43), (43, a_callV 12 177 3 46 0 0), (46, a_goto 51), (49, a_i (-4) 51), (51, a_iret false), (52, a_i 0 53), (53, a_istore 3 54), (54, a_i 6 56), (56, a_istore 4 58), (58, a_iload 4 60), (60, a_i 19 62), (62, a_ic_ge 95 65), (65, a_iload 3 66), (66, a_aload 0 67), (67, a_iload 1 68), (68, a_iload 4 70), (70, a_callV 12 153 3 73 0 0), (73, a_if_eq 86 76), (76, a_aload 0 77), (77, a_iload 1 78), (78, a_iload 4 80), (80, a_callV 12 177 3 83 0 0), (83, a_goto 87), (86, a_i 0 87)]
theorem oX12_cover_1 : ∀ q ∈ kX12_cover_1, zSnd zty false RX12 cX12_cover 5 (some .int) false q := List.forall_mem_cons.mpr ⟨ok_iload_n dX12_cover_42 rfl, List.forall_mem_cons.mpr ⟨ok_callV dX12_cover_43 rfl rfl w1231 w1228 w1230 w13 s38 (by decide +kernel) (by decide), List.forall_mem_cons.mpr ⟨ok_goto dX12_cover_46 (by decide), List.forall_mem_cons.mpr ⟨ok_bipush dX12_cover_49 (by decide), List.forall_mem_cons.mpr ⟨ok_iret (bz := false) dX12_cover_51 rfl, List.forall_mem_cons.mpr ⟨ok_iconst dX12_cover_52 (by decide), List.forall_mem_cons.mpr ⟨ok_istore_n dX12_cover_53 rfl (by decide), List.forall_mem_cons.mpr ⟨ok_bipush dX12_cover_54 (by decide), List.forall_mem_cons.mpr ⟨ok_istore dX12_cover_56 (by decide), List.forall_mem_cons.mpr ⟨ok_iload dX12_cover_58, List.forall_mem_cons.mpr ⟨ok_bipush dX12_cover_60 (by decide), List.forall_mem_cons.mpr ⟨ok_ic_ge dX12_cover_62 (by decide), List.forall_mem_cons.mpr ⟨ok_iload_n dX12_cover_65 rfl, List.forall_mem_cons.mpr ⟨ok_aload_n dX12_cover_66 rfl, List.forall_mem_cons.mpr ⟨ok_iload_n dX12_cover_67 rfl, List.forall_mem_cons.mpr ⟨ok_iload dX12_cover_68, List.forall_mem_cons.mpr ⟨ok_callV dX12_cover_70 rfl rfl w1144 w1141 w1143 w13 s30 (by decide +kernel) (by decide), List.forall_mem_cons.mpr ⟨ok_if_eq dX12_cover_73 (by decide), List.forall_mem_cons.mpr ⟨ok_aload_n dX12_cover_76 rfl, List.forall_mem_cons.mpr ⟨ok_iload_n dX12_cover_77 rfl, List.forall_mem_cons.mpr ⟨ok_iload dX12_cover_78, List.forall_mem_cons.mpr ⟨ok_callV dX12_cover_80 rfl rfl w1231 w1228 w1230 w13 s38 (by decide +kernel) (by decide), List.forall_mem_cons.mpr ⟨ok_goto dX12_cover_83 (by decide), List.forall_mem_cons.mpr ⟨ok_iconst dX12_cover_86 (by decide), fun _ h => absurd h List.not_mem_nil⟩⟩⟩⟩⟩⟩⟩⟩⟩⟩⟩⟩⟩⟩⟩⟩⟩⟩⟩⟩⟩⟩⟩⟩
def kX12_cover_2 : List (Nat × zT) := [(87, a_ii (fun x y => x + y) 88), (88, a_istore 3 89), (89, a_iinc 4 1 92), (92, a_goto 58), (95, a_iload 3 96), (96, a_iret false)]
theorem oX12_cover_2 : ∀ q ∈ kX12_cover_2, zSnd zty false RX12 cX12_cover 5 (some .int) false q := List.forall_mem_cons.mpr ⟨ok_iadd dX12_cover_87, List.forall_mem_cons.mpr ⟨ok_istore_n dX12_cover_88 rfl (by decide), List.forall_mem_cons.mpr ⟨ok_iinc dX12_cover_89 (by decide) (by decide), List.forall_mem_cons.mpr ⟨ok_goto dX12_cover_92 (by decide), List.forall_mem_cons.mpr ⟨ok_iload_n dX12_cover_95 rfl, List.forall_mem_cons.mpr ⟨ok_iret (bz := false) dX12_cover_96 rfl, fun _ h => absurd h List.not_mem_nil⟩⟩⟩⟩⟩⟩
def kX12_cover : List (Nat × zT) := kX12_cover_0 ++ (kX12_cover_1 ++ (kX12_cover_2))
theorem qX12_cover_0 : ∀ q ∈ kX12_cover_0, q ∈ kX12_cover := fun _ h => (List.mem_append_left _ h)
theorem tX12_cover_0 : (0, a_iload 1 1) ∈ kX12_cover := qX12_cover_0 _ (List.mem_of_getElem? (i := 0) rfl)
theorem tX12_cover_1 : (1, a_i 0 2) ∈ kX12_cover := qX12_cover_0 _ (List.mem_of_getElem? (i := 1) rfl)
theorem tX12_cover_2 : (2, a_i 1 3) ∈ kX12_cover := qX12_cover_0 _ (List.mem_of_getElem? (i := 2) rfl)
theorem tX12_cover_3 : (3, a_call 138 3 6 0 0) ∈ kX12_cover := qX12_cover_0 _ (List.mem_of_getElem? (i := 3) rfl)
theorem tX12_cover_6 : (6, a_if_eq 25 9) ∈ kX12_cover := qX12_cover_0 _ (List.mem_of_getElem? (i := 4) rfl)
theorem tX12_cover_9 : (9, a_iload 2 10) ∈ kX12_cover := qX12_cover_0 _ (List.mem_of_getElem? (i := 5) rfl)
theorem tX12_cover_10 : (10, a_i (-1) 11) ∈ kX12_cover := qX12_cover_0 _ (List.mem_of_getElem? (i := 6) rfl)
theorem tX12_cover_11 : (11, a_ic_eq 27 14) ∈ kX12_cover := qX12_cover_0 _ (List.mem_of_getElem? (i := 7) rfl)
theorem tX12_cover_14 : (14, a_iload 2 15) ∈ kX12_cover := qX12_cover_0 _ (List.mem_of_getElem? (i := 8) rfl)
theorem tX12_cover_15 : (15, a_i 6 17) ∈ kX12_cover := qX12_cover_0 _ (List.mem_of_getElem? (i := 9) rfl)
theorem tX12_cover_17 : (17, a_i 18 19) ∈ kX12_cover := qX12_cover_0 _ (List.mem_of_getElem? (i := 10) rfl)
theorem tX12_cover_19 : (19, a_call 138 3 22 0 0) ∈ kX12_cover := qX12_cover_0 _ (List.mem_of_getElem? (i := 11) rfl)
theorem tX12_cover_22 : (22, a_if_ne 27 25) ∈ kX12_cover := qX12_cover_0 _ (List.mem_of_getElem? (i := 12) rfl)
theorem tX12_cover_25 : (25, a_i (-1) 26) ∈ kX12_cover := qX12_cover_0 _ (List.mem_of_getElem? (i := 13) rfl)
theorem tX12_cover_26 : (26, a_iret false) ∈ kX12_cover := qX12_cover_0 _ (List.mem_of_getElem? (i := 14) rfl)
theorem tX12_cover_27 : (27, a_iload 2 28) ∈ kX12_cover := qX12_cover_0 _ (List.mem_of_getElem? (i := 15) rfl)
theorem tX12_cover_28 : (28, a_if_lt 52 31) ∈ kX12_cover := qX12_cover_0 _ (List.mem_of_getElem? (i := 16) rfl)
theorem tX12_cover_31 : (31, a_aload 0 32) ∈ kX12_cover := qX12_cover_0 _ (List.mem_of_getElem? (i := 17) rfl)
theorem tX12_cover_32 : (32, a_iload 1 33) ∈ kX12_cover := qX12_cover_0 _ (List.mem_of_getElem? (i := 18) rfl)
theorem tX12_cover_33 : (33, a_iload 2 34) ∈ kX12_cover := qX12_cover_0 _ (List.mem_of_getElem? (i := 19) rfl)
theorem tX12_cover_34 : (34, a_callV 12 153 3 37 0 0) ∈ kX12_cover := qX12_cover_0 _ (List.mem_of_getElem? (i := 20) rfl)
theorem tX12_cover_37 : (37, a_if_eq 49 40) ∈ kX12_cover := qX12_cover_0 _ (List.mem_of_getElem? (i := 21) rfl)
theorem tX12_cover_40 : (40, a_aload 0 41) ∈ kX12_cover := qX12_cover_0 _ (List.mem_of_getElem? (i := 22) rfl)
theorem tX12_cover_41 : (41, a_iload 1 42) ∈ kX12_cover := qX12_cover_0 _ (List.mem_of_getElem? (i := 23) rfl)
theorem qX12_cover_1 : ∀ q ∈ kX12_cover_1, q ∈ kX12_cover := fun _ h => (List.mem_append_right _ (List.mem_append_left _ h))
theorem tX12_cover_42 : (42, a_iload 2 43) ∈ kX12_cover := qX12_cover_1 _ (List.mem_of_getElem? (i := 0) rfl)
theorem tX12_cover_43 : (43, a_callV 12 177 3 46 0 0) ∈ kX12_cover := qX12_cover_1 _ (List.mem_of_getElem? (i := 1) rfl)
theorem tX12_cover_46 : (46, a_goto 51) ∈ kX12_cover := qX12_cover_1 _ (List.mem_of_getElem? (i := 2) rfl)
theorem tX12_cover_49 : (49, a_i (-4) 51) ∈ kX12_cover := qX12_cover_1 _ (List.mem_of_getElem? (i := 3) rfl)
theorem tX12_cover_51 : (51, a_iret false) ∈ kX12_cover := qX12_cover_1 _ (List.mem_of_getElem? (i := 4) rfl)
theorem tX12_cover_52 : (52, a_i 0 53) ∈ kX12_cover := qX12_cover_1 _ (List.mem_of_getElem? (i := 5) rfl)
theorem tX12_cover_53 : (53, a_istore 3 54) ∈ kX12_cover := qX12_cover_1 _ (List.mem_of_getElem? (i := 6) rfl)
theorem tX12_cover_54 : (54, a_i 6 56) ∈ kX12_cover := qX12_cover_1 _ (List.mem_of_getElem? (i := 7) rfl)
theorem tX12_cover_56 : (56, a_istore 4 58) ∈ kX12_cover := qX12_cover_1 _ (List.mem_of_getElem? (i := 8) rfl)
theorem tX12_cover_58 : (58, a_iload 4 60) ∈ kX12_cover := qX12_cover_1 _ (List.mem_of_getElem? (i := 9) rfl)
theorem tX12_cover_60 : (60, a_i 19 62) ∈ kX12_cover := qX12_cover_1 _ (List.mem_of_getElem? (i := 10) rfl)
theorem tX12_cover_62 : (62, a_ic_ge 95 65) ∈ kX12_cover := qX12_cover_1 _ (List.mem_of_getElem? (i := 11) rfl)
theorem tX12_cover_65 : (65, a_iload 3 66) ∈ kX12_cover := qX12_cover_1 _ (List.mem_of_getElem? (i := 12) rfl)
theorem tX12_cover_66 : (66, a_aload 0 67) ∈ kX12_cover := qX12_cover_1 _ (List.mem_of_getElem? (i := 13) rfl)
theorem tX12_cover_67 : (67, a_iload 1 68) ∈ kX12_cover := qX12_cover_1 _ (List.mem_of_getElem? (i := 14) rfl)
theorem tX12_cover_68 : (68, a_iload 4 70) ∈ kX12_cover := qX12_cover_1 _ (List.mem_of_getElem? (i := 15) rfl)
theorem tX12_cover_70 : (70, a_callV 12 153 3 73 0 0) ∈ kX12_cover := qX12_cover_1 _ (List.mem_of_getElem? (i := 16) rfl)
theorem tX12_cover_73 : (73, a_if_eq 86 76) ∈ kX12_cover := qX12_cover_1 _ (List.mem_of_getElem? (i := 17) rfl)
theorem tX12_cover_76 : (76, a_aload 0 77) ∈ kX12_cover := qX12_cover_1 _ (List.mem_of_getElem? (i := 18) rfl)
theorem tX12_cover_77 : (77, a_iload 1 78) ∈ kX12_cover := qX12_cover_1 _ (List.mem_of_getElem? (i := 19) rfl)
theorem tX12_cover_78 : (78, a_iload 4 80) ∈ kX12_cover := qX12_cover_1 _ (List.mem_of_getElem? (i := 20) rfl)
theorem tX12_cover_80 : (80, a_callV 12 177 3 83 0 0) ∈ kX12_cover := qX12_cover_1 _ (List.mem_of_getElem? (i := 21) rfl)
theorem tX12_cover_83 : (83, a_goto 87) ∈ kX12_cover := qX12_cover_1 _ (List.mem_of_getElem? (i := 22) rfl)
theorem tX12_cover_86 : (86, a_i 0 87) ∈ kX12_cover := qX12_cover_1 _ (List.mem_of_getElem? (i := 23) rfl)
theorem qX12_cover_2 : ∀ q ∈ kX12_cover_2, q ∈ kX12_cover := fun _ h => (List.mem_append_right _ (List.mem_append_right _ h))
theorem tX12_cover_87 : (87, a_ii (fun x y => x + y) 88) ∈ kX12_cover := qX12_cover_2 _ (List.mem_of_getElem? (i := 0) rfl)
theorem tX12_cover_88 : (88, a_istore 3 89) ∈ kX12_cover := qX12_cover_2 _ (List.mem_of_getElem? (i := 1) rfl)
theorem tX12_cover_89 : (89, a_iinc 4 1 92) ∈ kX12_cover := qX12_cover_2 _ (List.mem_of_getElem? (i := 2) rfl)
theorem tX12_cover_92 : (92, a_goto 58) ∈ kX12_cover := qX12_cover_2 _ (List.mem_of_getElem? (i := 3) rfl)
theorem tX12_cover_95 : (95, a_iload 3 96) ∈ kX12_cover := qX12_cover_2 _ (List.mem_of_getElem? (i := 4) rfl)
theorem tX12_cover_96 : (96, a_iret false) ∈ kX12_cover := qX12_cover_2 _ (List.mem_of_getElem? (i := 5) rfl)
theorem oX12_cover : ∀ q ∈ kX12_cover, zSnd zty false RX12 cX12_cover 5 (some .int) false q := List.forall_mem_append.mpr ⟨oX12_cover_0, List.forall_mem_append.mpr ⟨oX12_cover_1, oX12_cover_2⟩⟩
theorem dX12_kindOf_0 : decode cX12_kindOf 0 = .ok (.iload_n 0, 1) := by decide +kernel
theorem dX12_kindOf_1 : decode cX12_kindOf 1 = .ok (.bipush 126, 2) := by decide +kernel
theorem dX12_kindOf_3 : decode cX12_kindOf 3 = .ok (.if_icmp .ne 7, 3) := by decide +kernel
theorem dX12_kindOf_6 : decode cX12_kindOf 6 = .ok (.iconst 0, 1) := by decide +kernel
theorem dX12_kindOf_7 : decode cX12_kindOf 7 = .ok (.goto 35, 3) := by decide +kernel
theorem dX12_kindOf_10 : decode cX12_kindOf 10 = .ok (.iload_n 0, 1) := by decide +kernel
theorem dX12_kindOf_11 : decode cX12_kindOf 11 = .ok (.bipush 38, 2) := by decide +kernel
theorem dX12_kindOf_13 : decode cX12_kindOf 13 = .ok (.if_icmp .ne 7, 3) := by decide +kernel
theorem dX12_kindOf_16 : decode cX12_kindOf 16 = .ok (.iconst 1, 1) := by decide +kernel
theorem dX12_kindOf_17 : decode cX12_kindOf 17 = .ok (.goto 25, 3) := by decide +kernel
theorem dX12_kindOf_20 : decode cX12_kindOf 20 = .ok (.iload_n 0, 1) := by decide +kernel
theorem dX12_kindOf_21 : decode cX12_kindOf 21 = .ok (.bipush 124, 2) := by decide +kernel
theorem dX12_kindOf_23 : decode cX12_kindOf 23 = .ok (.if_icmp .ne 7, 3) := by decide +kernel
theorem dX12_kindOf_26 : decode cX12_kindOf 26 = .ok (.iconst 2, 1) := by decide +kernel
theorem dX12_kindOf_27 : decode cX12_kindOf 27 = .ok (.goto 15, 3) := by decide +kernel
theorem dX12_kindOf_30 : decode cX12_kindOf 30 = .ok (.iload_n 0, 1) := by decide +kernel
theorem dX12_kindOf_31 : decode cX12_kindOf 31 = .ok (.bipush 94, 2) := by decide +kernel
theorem dX12_kindOf_33 : decode cX12_kindOf 33 = .ok (.if_icmp .ne 7, 3) := by decide +kernel
theorem dX12_kindOf_36 : decode cX12_kindOf 36 = .ok (.iconst 5, 1) := by decide +kernel
theorem dX12_kindOf_37 : decode cX12_kindOf 37 = .ok (.goto 5, 3) := by decide +kernel
theorem dX12_kindOf_40 : decode cX12_kindOf 40 = .ok (.bipush 6, 2) := by decide +kernel
theorem dX12_kindOf_42 : decode cX12_kindOf 42 = .ok (.ireturn, 1) := by decide +kernel
def kX12_kindOf_0 : List (Nat × zT) := [(0, a_iload 0 1), (1, a_i 126 3), (3, a_ic_ne 10 6), (6, a_i 0 7), (7, a_goto 42), (10, a_iload 0 11), (11, a_i 38 13), (13, a_ic_ne 20 16), (16, a_i 1 17), (17, a_goto 42), (20, a_iload 0 21), (21, a_i 124 23), (23, a_ic_ne 30 26), (26, a_i 2 27), (27, a_goto 42), (30, a_iload 0 31), (31, a_i 94 33), (33, a_ic_ne 40 36), (36, a_i 5 37), (37, a_goto 42), (40, a_i 6 42), (42, a_iret false)]
theorem oX12_kindOf_0 : ∀ q ∈ kX12_kindOf_0, zSnd zty false RX12 cX12_kindOf 1 (some .int) false q := List.forall_mem_cons.mpr ⟨ok_iload_n dX12_kindOf_0 rfl, List.forall_mem_cons.mpr ⟨ok_bipush dX12_kindOf_1 (by decide), List.forall_mem_cons.mpr ⟨ok_ic_ne dX12_kindOf_3 (by decide), List.forall_mem_cons.mpr ⟨ok_iconst dX12_kindOf_6 (by decide), List.forall_mem_cons.mpr ⟨ok_goto dX12_kindOf_7 (by decide), List.forall_mem_cons.mpr ⟨ok_iload_n dX12_kindOf_10 rfl, List.forall_mem_cons.mpr ⟨ok_bipush dX12_kindOf_11 (by decide), List.forall_mem_cons.mpr ⟨ok_ic_ne dX12_kindOf_13 (by decide), List.forall_mem_cons.mpr ⟨ok_iconst dX12_kindOf_16 (by decide), List.forall_mem_cons.mpr ⟨ok_goto dX12_kindOf_17 (by decide), List.forall_mem_cons.mpr ⟨ok_iload_n dX12_kindOf_20 rfl, List.forall_mem_cons.mpr ⟨ok_bipush dX12_kindOf_21 (by decide), List.forall_mem_cons.mpr ⟨ok_ic_ne dX12_kindOf_23 (by decide), List.forall_mem_cons.mpr ⟨ok_iconst dX12_kindOf_26 (by decide), List.forall_mem_cons.mpr ⟨ok_goto dX12_kindOf_27 (by decide), List.forall_mem_cons.mpr ⟨ok_iload_n dX12_kindOf_30 rfl, List.forall_mem_cons.mpr ⟨ok_bipush dX12_kindOf_31 (by decide), List.forall_mem_cons.mpr ⟨ok_ic_ne dX12_kindOf_33 (by decide), List.forall_mem_cons.mpr ⟨ok_iconst dX12_kindOf_36 (by decide), List.forall_mem_cons.mpr ⟨ok_goto dX12_kindOf_37 (by decide), List.forall_mem_cons.mpr ⟨ok_bipush dX12_kindOf_40 (by decide), List.forall_mem_cons.mpr ⟨ok_iret (bz := false) dX12_kindOf_42 rfl, fun _ h => absurd h List.not_mem_nil⟩⟩⟩⟩⟩⟩⟩⟩⟩⟩⟩⟩⟩⟩⟩⟩⟩⟩⟩⟩⟩⟩
def kX12_kindOf : List (Nat × zT) := kX12_kindOf_0
theorem qX12_kindOf_0 : ∀ q ∈ kX12_kindOf_0, q ∈ kX12_kindOf := fun _ h => h
theorem tX12_kindOf_0 : (0, a_iload 0 1) ∈ kX12_kindOf := qX12_kindOf_0 _ (List.mem_of_getElem? (i := 0) rfl)
theorem tX12_kindOf_1 : (1, a_i 126 3) ∈ kX12_kindOf := qX12_kindOf_0 _ (List.mem_of_getElem? (i := 1) rfl)
theorem tX12_kindOf_3 : (3, a_ic_ne 10 6) ∈ kX12_kindOf := qX12_kindOf_0 _ (List.mem_of_getElem? (i := 2) rfl)
theorem tX12_kindOf_6 : (6, a_i 0 7) ∈ kX12_kindOf := qX12_kindOf_0 _ (List.mem_of_getElem? (i := 3) rfl)
theorem tX12_kindOf_7 : (7, a_goto 42) ∈ kX12_kindOf := qX12_kindOf_0 _ (List.mem_of_getElem? (i := 4) rfl)
theorem tX12_kindOf_10 : (10, a_iload 0 11) ∈ kX12_kindOf := qX12_kindOf_0 _ (List.mem_of_getElem? (i := 5) rfl)
theorem tX12_kindOf_11 : (11, a_i 38 13) ∈ kX12_kindOf := qX12_kindOf_0 _ (List.mem_of_getElem? (i := 6) rfl)
theorem tX12_kindOf_13 : (13, a_ic_ne 20 16) ∈ kX12_kindOf := qX12_kindOf_0 _ (List.mem_of_getElem? (i := 7) rfl)
theorem tX12_kindOf_16 : (16, a_i 1 17) ∈ kX12_kindOf := qX12_kindOf_0 _ (List.mem_of_getElem? (i := 8) rfl)
theorem tX12_kindOf_17 : (17, a_goto 42) ∈ kX12_kindOf := qX12_kindOf_0 _ (List.mem_of_getElem? (i := 9) rfl)
theorem tX12_kindOf_20 : (20, a_iload 0 21) ∈ kX12_kindOf := qX12_kindOf_0 _ (List.mem_of_getElem? (i := 10) rfl)
theorem tX12_kindOf_21 : (21, a_i 124 23) ∈ kX12_kindOf := qX12_kindOf_0 _ (List.mem_of_getElem? (i := 11) rfl)
theorem tX12_kindOf_23 : (23, a_ic_ne 30 26) ∈ kX12_kindOf := qX12_kindOf_0 _ (List.mem_of_getElem? (i := 12) rfl)
theorem tX12_kindOf_26 : (26, a_i 2 27) ∈ kX12_kindOf := qX12_kindOf_0 _ (List.mem_of_getElem? (i := 13) rfl)
theorem tX12_kindOf_27 : (27, a_goto 42) ∈ kX12_kindOf := qX12_kindOf_0 _ (List.mem_of_getElem? (i := 14) rfl)
theorem tX12_kindOf_30 : (30, a_iload 0 31) ∈ kX12_kindOf := qX12_kindOf_0 _ (List.mem_of_getElem? (i := 15) rfl)
theorem tX12_kindOf_31 : (31, a_i 94 33) ∈ kX12_kindOf := qX12_kindOf_0 _ (List.mem_of_getElem? (i := 16) rfl)
theorem tX12_kindOf_33 : (33, a_ic_ne 40 36) ∈ kX12_kindOf := qX12_kindOf_0 _ (List.mem_of_getElem? (i := 17) rfl)
theorem tX12_kindOf_36 : (36, a_i 5 37) ∈ kX12_kindOf := qX12_kindOf_0 _ (List.mem_of_getElem? (i := 18) rfl)
theorem tX12_kindOf_37 : (37, a_goto 42) ∈ kX12_kindOf := qX12_kindOf_0 _ (List.mem_of_getElem? (i := 19) rfl)
theorem tX12_kindOf_40 : (40, a_i 6 42) ∈ kX12_kindOf := qX12_kindOf_0 _ (List.mem_of_getElem? (i := 20) rfl)
theorem tX12_kindOf_42 : (42, a_iret false) ∈ kX12_kindOf := qX12_kindOf_0 _ (List.mem_of_getElem? (i := 21) rfl)
theorem oX12_kindOf : ∀ q ∈ kX12_kindOf, zSnd zty false RX12 cX12_kindOf 1 (some .int) false q := oX12_kindOf_0
theorem dX12_arrive_0 : decode cX12_arrive 0 = .ok (.iconst 0, 1) := by decide +kernel
theorem dX12_arrive_1 : decode cX12_arrive 1 = .ok (.istore 4, 2) := by decide +kernel
theorem dX12_arrive_3 : decode cX12_arrive 3 = .ok (.iconst 0, 1) := by decide +kernel
theorem dX12_arrive_4 : decode cX12_arrive 4 = .ok (.istore 5, 2) := by decide +kernel
theorem dX12_arrive_6 : decode cX12_arrive 6 = .ok (.iload 5, 2) := by decide +kernel
theorem dX12_arrive_8 : decode cX12_arrive 8 = .ok (.aload_n 0, 1) := by decide +kernel
theorem dX12_arrive_9 : decode cX12_arrive 9 = .ok (.getfield 22, 3) := by decide +kernel
theorem dX12_arrive_12 : decode cX12_arrive 12 = .ok (.bipush 19, 2) := by decide +kernel
theorem dX12_arrive_14 : decode cX12_arrive 14 = .ok (.iload_n 1, 1) := by decide +kernel
theorem dX12_arrive_15 : decode cX12_arrive 15 = .ok (.imul, 1) := by decide +kernel
theorem dX12_arrive_16 : decode cX12_arrive 16 = .ok (.iload_n 2, 1) := by decide +kernel
theorem dX12_arrive_17 : decode cX12_arrive 17 = .ok (.iadd, 1) := by decide +kernel
theorem dX12_arrive_18 : decode cX12_arrive 18 = .ok (.iaload, 1) := by decide +kernel
theorem dX12_arrive_19 : decode cX12_arrive 19 = .ok (.if_icmp .ge 227, 3) := by decide +kernel
theorem dX12_arrive_22 : decode cX12_arrive 22 = .ok (.aload_n 0, 1) := by decide +kernel
theorem dX12_arrive_23 : decode cX12_arrive 23 = .ok (.getfield 16, 3) := by decide +kernel
theorem dX12_arrive_26 : decode cX12_arrive 26 = .ok (.sipush 200, 3) := by decide +kernel
theorem dX12_arrive_29 : decode cX12_arrive 29 = .ok (.iload_n 1, 1) := by decide +kernel
theorem dX12_arrive_30 : decode cX12_arrive 30 = .ok (.imul, 1) := by decide +kernel
theorem dX12_arrive_31 : decode cX12_arrive 31 = .ok (.aload_n 0, 1) := by decide +kernel
theorem dX12_arrive_32 : decode cX12_arrive 32 = .ok (.getfield 19, 3) := by decide +kernel
theorem dX12_arrive_35 : decode cX12_arrive 35 = .ok (.bipush 19, 2) := by decide +kernel
theorem dX12_arrive_37 : decode cX12_arrive 37 = .ok (.iload_n 1, 1) := by decide +kernel
theorem dX12_arrive_38 : decode cX12_arrive 38 = .ok (.imul, 1) := by decide +kernel
theorem dX12_arrive_39 : decode cX12_arrive 39 = .ok (.iload_n 2, 1) := by decide +kernel
theorem dX12_arrive_40 : decode cX12_arrive 40 = .ok (.iadd, 1) := by decide +kernel
theorem dX12_arrive_41 : decode cX12_arrive 41 = .ok (.iaload, 1) := by decide +kernel
theorem dX12_arrive_42 : decode cX12_arrive 42 = .ok (.iadd, 1) := by decide +kernel
theorem dX12_arrive_43 : decode cX12_arrive 43 = .ok (.iload 5, 2) := by decide +kernel
theorem dX12_arrive_45 : decode cX12_arrive 45 = .ok (.iadd, 1) := by decide +kernel
theorem dX12_arrive_46 : decode cX12_arrive 46 = .ok (.iaload, 1) := by decide +kernel
theorem dX12_arrive_47 : decode cX12_arrive 47 = .ok (.istore 6, 2) := by decide +kernel
theorem dX12_arrive_49 : decode cX12_arrive 49 = .ok (.iload 6, 2) := by decide +kernel
theorem dX12_arrive_51 : decode cX12_arrive 51 = .ok (.invokestatic 118, 3) := by decide +kernel
theorem dX12_arrive_54 : decode cX12_arrive 54 = .ok (.istore 7, 2) := by decide +kernel
theorem dX12_arrive_56 : decode cX12_arrive 56 = .ok (.iload 7, 2) := by decide +kernel
theorem dX12_arrive_58 : decode cX12_arrive 58 = .ok (.ifCond .ne 69, 3) := by decide +kernel
theorem dX12_arrive_61 : decode cX12_arrive 61 = .ok (.aload_n 0, 1) := by decide +kernel
theorem dX12_arrive_62 : decode cX12_arrive 62 = .ok (.getfield 77, 3) := by decide +kernel
theorem dX12_arrive_65 : decode cX12_arrive 65 = .ok (.iload 4, 2) := by decide +kernel
theorem dX12_arrive_67 : decode cX12_arrive 67 = .ok (.iload 6, 2) := by decide +kernel
theorem dX12_arrive_69 : decode cX12_arrive 69 = .ok (.bipush 50, 2) := by decide +kernel
theorem dX12_arrive_71 : decode cX12_arrive 71 = .ok (.if_icmp .ge 7, 3) := by decide +kernel
theorem dX12_arrive_74 : decode cX12_arrive 74 = .ok (.iconst 0, 1) := by decide +kernel
theorem dX12_arrive_75 : decode cX12_arrive 75 = .ok (.goto 24, 3) := by decide +kernel
theorem dX12_arrive_78 : decode cX12_arrive 78 = .ok (.iload 6, 2) := by decide +kernel
theorem dX12_arrive_80 : decode cX12_arrive 80 = .ok (.bipush 111, 2) := by decide +kernel
theorem dX12_arrive_82 : decode cX12_arrive 82 = .ok (.if_icmp .le 7, 3) := by decide +kernel
theorem dX12_arrive_85 : decode cX12_arrive 85 = .ok (.iconst 0, 1) := by decide +kernel
theorem dX12_arrive_86 : decode cX12_arrive 86 = .ok (.goto 13, 3) := by decide +kernel
theorem dX12_arrive_89 : decode cX12_arrive 89 = .ok (.aload_n 0, 1) := by decide +kernel
theorem dX12_arrive_90 : decode cX12_arrive 90 = .ok (.getfield 71, 3) := by decide +kernel
theorem dX12_arrive_93 : decode cX12_arrive 93 = .ok (.iload 6, 2) := by decide +kernel
theorem dX12_arrive_95 : decode cX12_arrive 95 = .ok (.bipush 97, 2) := by decide +kernel
theorem dX12_arrive_97 : decode cX12_arrive 97 = .ok (.isub, 1) := by decide +kernel
theorem dX12_arrive_98 : decode cX12_arrive 98 = .ok (.iaload, 1) := by decide +kernel
theorem dX12_arrive_99 : decode cX12_arrive 99 = .ok (.iastore, 1) := by decide +kernel
theorem dX12_arrive_100 : decode cX12_arrive 100 = .ok (.aload_n 0, 1) := by decide +kernel
theorem dX12_arrive_101 : decode cX12_arrive 101 = .ok (.getfield 80, 3) := by decide +kernel
theorem dX12_arrive_104 : decode cX12_arrive 104 = .ok (.iload 4, 2) := by decide +kernel
theorem dX12_arrive_106 : decode cX12_arrive 106 = .ok (.iload 6, 2) := by decide +kernel
theorem dX12_arrive_108 : decode cX12_arrive 108 = .ok (.bipush 50, 2) := by decide +kernel
theorem dX12_arrive_110 : decode cX12_arrive 110 = .ok (.if_icmp .ge 8, 3) := by decide +kernel
theorem dX12_arrive_113 : decode cX12_arrive 113 = .ok (.bipush (-4), 2) := by decide +kernel
theorem dX12_arrive_115 : decode cX12_arrive 115 = .ok (.goto 8, 3) := by decide +kernel
theorem dX12_arrive_118 : decode cX12_arrive 118 = .ok (.iload 6, 2) := by decide +kernel
theorem dX12_arrive_120 : decode cX12_arrive 120 = .ok (.bipush 97, 2) := by decide +kernel
theorem dX12_arrive_122 : decode cX12_arrive 122 = .ok (.isub, 1) := by decide +kernel
theorem dX12_arrive_123 : decode cX12_arrive 123 = .ok (.iastore, 1) := by decide +kernel
theorem dX12_arrive_124 : decode cX12_arrive 124 = .ok (.goto 113, 3) := by decide +kernel
theorem dX12_arrive_127 : decode cX12_arrive 127 = .ok (.iload 4, 2) := by decide +kernel
theorem dX12_arrive_129 : decode cX12_arrive 129 = .ok (.iload 7, 2) := by decide +kernel
theorem dX12_arrive_131 : decode cX12_arrive 131 = .ok (.isub, 1) := by decide +kernel
theorem dX12_arrive_132 : decode cX12_arrive 132 = .ok (.istore 4, 2) := by decide +kernel
theorem dX12_arrive_134 : decode cX12_arrive 134 = .ok (.iconst 1, 1) := by decide +kernel
theorem dX12_arrive_135 : decode cX12_arrive 135 = .ok (.istore 8, 2) := by decide +kernel
theorem dX12_arrive_137 : decode cX12_arrive 137 = .ok (.iload 8, 2) := by decide +kernel
theorem dX12_arrive_139 : decode cX12_arrive 139 = .ok (.iload 7, 2) := by decide +kernel
theorem dX12_arrive_141 : decode cX12_arrive 141 = .ok (.if_icmp .ge 63, 3) := by decide +kernel
theorem dX12_arrive_144 : decode cX12_arrive 144 = .ok (.aload_n 0, 1) := by decide +kernel
theorem dX12_arrive_145 : decode cX12_arrive 145 = .ok (.getfield 77, 3) := by decide +kernel
theorem dX12_arrive_148 : decode cX12_arrive 148 = .ok (.iload 4, 2) := by decide +kernel
theorem dX12_arrive_150 : decode cX12_arrive 150 = .ok (.iload 8, 2) := by decide +kernel
theorem dX12_arrive_152 : decode cX12_arrive 152 = .ok (.iadd, 1) := by decide +kernel
theorem dX12_arrive_153 : decode cX12_arrive 153 = .ok (.iaload, 1) := by decide +kernel
theorem dX12_arrive_154 : decode cX12_arrive 154 = .ok (.aload_n 0, 1) := by decide +kernel
theorem dX12_arrive_155 : decode cX12_arrive 155 = .ok (.getfield 77, 3) := by decide +kernel
theorem dX12_arrive_158 : decode cX12_arrive 158 = .ok (.iload 4, 2) := by decide +kernel
theorem dX12_arrive_160 : decode cX12_arrive 160 = .ok (.iaload, 1) := by decide +kernel
theorem dX12_arrive_161 : decode cX12_arrive 161 = .ok (.if_icmp .le 37, 3) := by decide +kernel
theorem dX12_arrive_164 : decode cX12_arrive 164 = .ok (.aload_n 0, 1) := by decide +kernel
theorem dX12_arrive_165 : decode cX12_arrive 165 = .ok (.getfield 77, 3) := by decide +kernel
theorem dX12_arrive_168 : decode cX12_arrive 168 = .ok (.iload 4, 2) := by decide +kernel
theorem dX12_arrive_170 : decode cX12_arrive 170 = .ok (.aload_n 0, 1) := by decide +kernel
theorem dX12_arrive_171 : decode cX12_arrive 171 = .ok (.getfield 77, 3) := by decide +kernel
theorem dX12_arrive_174 : decode cX12_arrive 174 = .ok (.iload 4, 2) := by decide +kernel
theorem dX12_arrive_176 : decode cX12_arrive 176 = .ok (.iload 8, 2) := by decide +kernel
theorem dX12_arrive_178 : decode cX12_arrive 178 = .ok (.iadd, 1) := by decide +kernel
theorem dX12_arrive_179 : decode cX12_arrive 179 = .ok (.iaload, 1) := by decide +kernel
theorem dX12_arrive_180 : decode cX12_arrive 180 = .ok (.iastore, 1) := by decide +kernel
theorem dX12_arrive_181 : decode cX12_arrive 181 = .ok (.aload_n 0, 1) := by decide +kernel
theorem dX12_arrive_182 : decode cX12_arrive 182 = .ok (.getfield 80, 3) := by decide +kernel
theorem dX12_arrive_185 : decode cX12_arrive 185 = .ok (.iload 4, 2) := by decide +kernel
theorem dX12_arrive_187 : decode cX12_arrive 187 = .ok (.aload_n 0, 1) := by decide +kernel
theorem dX12_arrive_188 : decode cX12_arrive 188 = .ok (.getfield 80, 3) := by decide +kernel
theorem dX12_arrive_191 : decode cX12_arrive 191 = .ok (.iload 4, 2) := by decide +kernel
theorem dX12_arrive_193 : decode cX12_arrive 193 = .ok (.iload 8, 2) := by decide +kernel
theorem dX12_arrive_195 : decode cX12_arrive 195 = .ok (.iadd, 1) := by decide +kernel
theorem dX12_arrive_196 : decode cX12_arrive 196 = .ok (.iaload, 1) := by decide +kernel
theorem dX12_arrive_197 : decode cX12_arrive 197 = .ok (.iastore, 1) := by decide +kernel
theorem dX12_arrive_198 : decode cX12_arrive 198 = .ok (.iinc 8 1, 3) := by decide +kernel
theorem dX12_arrive_201 : decode cX12_arrive 201 = .ok (.goto (-64), 3) := by decide +kernel
theorem dX12_arrive_204 : decode cX12_arrive 204 = .ok (.aload_n 0, 1) := by decide +kernel
theorem dX12_arrive_205 : decode cX12_arrive 205 = .ok (.getfield 77, 3) := by decide +kernel
theorem dX12_arrive_208 : decode cX12_arrive 208 = .ok (.iload 4, 2) := by decide +kernel
theorem dX12_arrive_210 : decode cX12_arrive 210 = .ok (.dup2, 1) := by decide +kernel
theorem dX12_arrive_211 : decode cX12_arrive 211 = .ok (.iaload, 1) := by decide +kernel
theorem dX12_arrive_212 : decode cX12_arrive 212 = .ok (.aload_n 0, 1) := by decide +kernel
theorem dX12_arrive_213 : decode cX12_arrive 213 = .ok (.getfield 46, 3) := by decide +kernel
theorem dX12_arrive_216 : decode cX12_arrive 216 = .ok (.iload 6, 2) := by decide +kernel
theorem dX12_arrive_218 : decode cX12_arrive 218 = .ok (.invokestatic 201, 3) := by decide +kernel
theorem dX12_arrive_221 : decode cX12_arrive 221 = .ok (.iaload, 1) := by decide +kernel
theorem dX12_arrive_222 : decode cX12_arrive 222 = .ok (.aload_n 0, 1) := by decide +kernel
theorem dX12_arrive_223 : decode cX12_arrive 223 = .ok (.getfield 49, 3) := by decide +kernel
theorem dX12_arrive_226 : decode cX12_arrive 226 = .ok (.iload_n 3, 1) := by decide +kernel
theorem dX12_arrive_227 : decode cX12_arrive 227 = .ok (.iaload, 1) := by decide +kernel
theorem dX12_arrive_228 : decode cX12_arrive 228 = .ok (.imul, 1) := by decide +kernel
theorem dX12_arrive_229 : decode cX12_arrive 229 = .ok (.bipush 99, 2) := by decide +kernel
theorem dX12_arrive_231 : decode cX12_arrive 231 = .ok (.iadd, 1) := by decide +kernel
theorem dX12_arrive_232 : decode cX12_arrive 232 = .ok (.bipush 100, 2) := by decide +kernel
theorem dX12_arrive_234 : decode cX12_arrive 234 = .ok (.idiv, 1) := by decide +kernel
theorem dX12_arrive_235 : decode cX12_arrive 235 = .ok (.iadd, 1) := by decide +kernel
theorem dX12_arrive_236 : decode cX12_arrive 236 = .ok (.iastore, 1) := by decide +kernel
theorem dX12_arrive_237 : decode cX12_arrive 237 = .ok (.iinc 4 1, 3) := by decide +kernel
theorem dX12_arrive_240 : decode cX12_arrive 240 = .ok (.iinc 5 1, 3) := by decide +kernel
theorem dX12_arrive_243 : decode cX12_arrive 243 = .ok (.goto (-237), 3) := by decide +kernel
theorem dX12_arrive_246 : decode cX12_arrive 246 = .ok (.aload_n 0, 1) := by decide +kernel
theorem dX12_arrive_247 : decode cX12_arrive 247 = .ok (.getfield 71, 3) := by decide +kernel
theorem dX12_arrive_250 : decode cX12_arrive 250 = .ok (.iload_n 2, 1) := by decide +kernel
theorem dX12_arrive_251 : decode cX12_arrive 251 = .ok (.aload_n 0, 1) := by decide +kernel
theorem dX12_arrive_252 : decode cX12_arrive 252 = .ok (.getfield 77, 3) := by decide +kernel
theorem dX12_arrive_255 : decode cX12_arrive 255 = .ok (.iconst 0, 1) := by decide +kernel
theorem dX12_arrive_256 : decode cX12_arrive 256 = .ok (.iaload, 1) := by decide +kernel
theorem dX12_arrive_257 : decode cX12_arrive 257 = .ok (.iload_n 2, 1) := by decide +kernel
theorem dX12_arrive_258 : decode cX12_arrive 258 = .ok (.bipush 15, 2) := by decide +kernel
theorem dX12_arrive_260 : decode cX12_arrive 260 = .ok (.if_icmp .ge 19, 3) := by decide +kernel
theorem dX12_arrive_263 : decode cX12_arrive 263 = .ok (.aload_n 0, 1) := by decide +kernel
theorem dX12_arrive_264 : decode cX12_arrive 264 = .ok (.getfield 49, 3) := by decide +kernel
theorem dX12_arrive_267 : decode cX12_arrive 267 = .ok (.iconst 3, 1) := by decide +kernel
theorem dX12_arrive_268 : decode cX12_arrive 268 = .ok (.iaload, 1) := by decide +kernel
theorem dX12_arrive_269 : decode cX12_arrive 269 = .ok (.aload_n 0, 1) := by decide +kernel
theorem dX12_arrive_270 : decode cX12_arrive 270 = .ok (.iload_n 1, 1) := by decide +kernel
theorem dX12_arrive_271 : decode cX12_arrive 271 = .ok (.iload_n 2, 1) := by decide +kernel
theorem dX12_arrive_272 : decode cX12_arrive 272 = .ok (.invokevirtual 157, 3) := by decide +kernel
theorem dX12_arrive_275 : decode cX12_arrive 275 = .ok (.imul, 1) := by decide +kernel
theorem dX12_arrive_276 : decode cX12_arrive 276 = .ok (.goto 4, 3) := by decide +kernel
theorem dX12_arrive_279 : decode cX12_arrive 279 = .ok (.iconst 0, 1) := by decide +kernel
theorem dX12_arrive_280 : decode cX12_arrive 280 = .ok (.iadd, 1) := by decide +kernel
theorem dX12_arrive_281 : decode cX12_arrive 281 = .ok (.iastore, 1) := by decide +kernel
theorem dX12_arrive_282 : decode cX12_arrive 282 = .ok (.aload_n 0, 1) := by decide +kernel
theorem dX12_arrive_283 : decode cX12_arrive 283 = .ok (.getfield 74, 3) := by decide +kernel
theorem dX12_arrive_286 : decode cX12_arrive 286 = .ok (.iload_n 2, 1) := by decide +kernel
theorem dX12_arrive_287 : decode cX12_arrive 287 = .ok (.aload_n 0, 1) := by decide +kernel
theorem dX12_arrive_288 : decode cX12_arrive 288 = .ok (.getfield 80, 3) := by decide +kernel
theorem dX12_arrive_291 : decode cX12_arrive 291 = .ok (.iconst 0, 1) := by decide +kernel
theorem dX12_arrive_292 : decode cX12_arrive 292 = .ok (.iaload, 1) := by decide +kernel
theorem dX12_arrive_293 : decode cX12_arrive 293 = .ok (.iastore, 1) := by decide +kernel
theorem dX12_arrive_294 : decode cX12_arrive 294 = .ok (.return_, 1) := by decide +kernel
def kX12_arrive_0 : List (Nat × zT) := [(0, a_i 0 1), (1, a_istore 4 3), (3, a_i 0 4), (4, a_istore 5 6), (6, a_iload 5 8), (8, a_aload 0 9), (9, a_getR 12 4 12), (12, a_i 19 14), (14, a_iload 1 15), (15, a_ii (fun x y => x * y) 16), (16, a_iload 2 17), (17, a_ii (fun x y => x + y) 18), (18, a_iald 19), (19, a_ic_ge 246 22), (22, a_aload 0 23), (23, a_getR 12 2 26), (26, a_i 200 29), (29, a_iload 1 30), (30, a_ii (fun x y => x * y) 31), (31, a_aload 0 32), (32, a_getR 12 3 35), (35, a_i 19 37), (37, a_iload 1 38), (38, a_ii (fun x y => x * y) 39)]
theorem oX12_arrive_0 : ∀ q ∈ kX12_arrive_0, zSnd zty false RX12 cX12_arrive 9 none false q := List.forall_mem_cons.mpr ⟨ok_iconst dX12_arrive_0 (by decide), List.forall_mem_cons.mpr ⟨ok_istore dX12_arrive_1 (by decide), List.forall_mem_cons.mpr ⟨ok_iconst dX12_arrive_3 (by decide), List.forall_mem_cons.mpr ⟨ok_istore dX12_arrive_4 (by decide), List.forall_mem_cons.mpr ⟨ok_iload dX12_arrive_6, List.forall_mem_cons.mpr ⟨ok_aload_n dX12_arrive_8 rfl, List.forall_mem_cons.mpr ⟨ok_getR dX12_arrive_9 rfl in12 (by decide) rfl w961, List.forall_mem_cons.mpr ⟨ok_bipush dX12_arrive_12 (by decide), List.forall_mem_cons.mpr ⟨ok_iload_n dX12_arrive_14 rfl, List.forall_mem_cons.mpr ⟨ok_imul dX12_arrive_15, List.forall_mem_cons.mpr ⟨ok_iload_n dX12_arrive_16 rfl, List.forall_mem_cons.mpr ⟨ok_iadd dX12_arrive_17, List.forall_mem_cons.mpr ⟨ok_iald dX12_arrive_18, List.forall_mem_cons.mpr ⟨ok_ic_ge dX12_arrive_19 (by decide), List.forall_mem_cons.mpr ⟨ok_aload_n dX12_arrive_22 rfl, List.forall_mem_cons.mpr ⟨ok_getR dX12_arrive_23 rfl in12 (by decide) rfl w959, List.forall_mem_cons.mpr ⟨ok_sipush dX12_arrive_26 (by decide), List.forall_mem_cons.mpr ⟨ok_iload_n dX12_arrive_29 rfl, List.forall_mem_cons.mpr ⟨ok_imul dX12_arrive_30, List.forall_mem_cons.mpr ⟨ok_aload_n dX12_arrive_31 rfl, List.forall_mem_cons.mpr ⟨ok_getR dX12_arrive_32 rfl in12 (by decide) rfl w960, List.forall_mem_cons.mpr ⟨ok_bipush dX12_arrive_35 (by decide), List.forall_mem_cons.mpr ⟨ok_iload_n dX12_arrive_37 rfl, List.forall_mem_cons.mpr ⟨ok_imul dX12_arrive_38, fun _ h => absurd h List.not_mem_nil⟩⟩⟩⟩⟩⟩⟩⟩⟩⟩⟩⟩⟩⟩⟩⟩⟩⟩⟩⟩⟩⟩⟩⟩
def kX12_arrive_1 : List (Nat × zT) := [(39, a_iload 2 40), (40, a_ii (fun x y => x + y) 41), (41, a_iald 42), (42, a_ii (fun x y => x + y) 43), (43, a_iload 5 45), (45, a_ii (fun x y => x + y) 46), (46, a_iald 47), (47, a_istore 6 49), (49, a_iload 6 51), (51, a_call 141 1 54 0 0), (54, a_istore 7 56), (56, a_iload 7 58), (58, a_if_ne 127 61), (61, a_aload 0 62), (62, a_getR 12 25 65), (65, a_iload 4 67), (67, a_iload 6 69), (69, a_i 50 71), (71, a_ic_ge 78 74), (74, a_i 0 75), (75, a_goto 99), (78, a_iload 6 80), (80, a_i 111 82), (82, a_ic_le 89 85)]
theorem oX12_arrive_1 : ∀ q ∈ kX12_arrive_1, zSnd zty false RX12 cX12_arrive 9 none false q := List.forall_mem_cons.mpr ⟨ok_iload_n dX12_arrive_39 rfl, List.forall_mem_cons.mpr ⟨ok_iadd dX12_arrive_40, List.forall_mem_cons.mpr ⟨ok_iald dX12_arrive_41, List.forall_mem_cons.mpr ⟨ok_iadd dX12_arrive_42, List.forall_mem_cons.mpr ⟨ok_iload dX12_arrive_43, List.forall_mem_cons.mpr ⟨ok_iadd dX12_arrive_45, List.forall_mem_cons.mpr ⟨ok_iald dX12_arrive_46, List.forall_mem_cons.mpr ⟨ok_istore dX12_arrive_47 (by decide), List.forall_mem_cons.mpr ⟨ok_iload dX12_arrive_49, List.forall_mem_cons.mpr ⟨ok_callS dX12_arrive_51 rfl w1100 w1098 w1099 w13 (by decide +kernel) (by decide), List.forall_mem_cons.mpr ⟨ok_istore dX12_arrive_54 (by decide), List.forall_mem_cons.mpr ⟨ok_iload dX12_arrive_56, List.forall_mem_cons.mpr ⟨ok_if_ne dX12_arrive_58 (by decide), List.forall_mem_cons.mpr ⟨ok_aload_n dX12_arrive_61 rfl, List.forall_mem_cons.mpr ⟨ok_getR dX12_arrive_62 rfl in12 (by decide) rfl w982, List.forall_mem_cons.mpr ⟨ok_iload dX12_arrive_65, List.forall_mem_cons.mpr ⟨ok_iload dX12_arrive_67, List.forall_mem_cons.mpr ⟨ok_bipush dX12_arrive_69 (by decide), List.forall_mem_cons.mpr ⟨ok_ic_ge dX12_arrive_71 (by decide), List.forall_mem_cons.mpr ⟨ok_iconst dX12_arrive_74 (by decide), List.forall_mem_cons.mpr ⟨ok_goto dX12_arrive_75 (by decide), List.forall_mem_cons.mpr ⟨ok_iload dX12_arrive_78, List.forall_mem_cons.mpr ⟨ok_bipush dX12_arrive_80 (by decide), List.forall_mem_cons.mpr ⟨ok_ic_le dX12_arrive_82 (by decide), fun _ h => absurd h List.not_mem_nil⟩⟩⟩⟩⟩⟩⟩⟩⟩⟩⟩⟩⟩⟩⟩⟩⟩⟩⟩⟩⟩⟩⟩⟩
def kX12_arrive_2 : List (Nat × zT) := [(85, a_i 0 86), (86, a_goto 99), (89, a_aload 0 90), (90, a_getR 12 23 93), (93, a_iload 6 95), (95, a_i 97 97), (97, a_ii (fun x y => x - y) 98), (98, a_iald 99), (99, a_iast 100), (100, a_aload 0 101), (101, a_getR 12 26 104), (104, a_iload 4 106), (106, a_iload 6 108), (108, a_i 50 110), (110, a_ic_ge 118 113), (113, a_i (-4) 115), (115, a_goto 123), (118, a_iload 6 120), (120, a_i 97 122), (122, a_ii (fun x y => x - y) 123), (123, a_iast 124), (124, a_goto 237), (127, a_iload 4 129), (129, a_iload 7 131)]
theorem oX12_arrive_2 : ∀ q ∈ kX12_arrive_2, zSnd zty false RX12 cX12_arrive 9 none false q := List.forall_mem_cons.mpr ⟨ok_iconst dX12_arrive_85 (by decide), List.forall_mem_cons.mpr ⟨ok_goto dX12_arrive_86 (by decide), List.forall_mem_cons.mpr ⟨ok_aload_n dX12_arrive_89 rfl, List.forall_mem_cons.mpr ⟨ok_getR dX12_arrive_90 rfl in12 (by decide) rfl w980, List.forall_mem_cons.mpr ⟨ok_iload dX12_arrive_93, List.forall_mem_cons.mpr ⟨ok_bipush dX12_arrive_95 (by decide), List.forall_mem_cons.mpr ⟨ok_isub dX12_arrive_97, List.forall_mem_cons.mpr ⟨ok_iald dX12_arrive_98, List.forall_mem_cons.mpr ⟨ok_iast dX12_arrive_99, List.forall_mem_cons.mpr ⟨ok_aload_n dX12_arrive_100 rfl, List.forall_mem_cons.mpr ⟨ok_getR dX12_arrive_101 rfl in12 (by decide) rfl w983, List.forall_mem_cons.mpr ⟨ok_iload dX12_arrive_104, List.forall_mem_cons.mpr ⟨ok_iload dX12_arrive_106, List.forall_mem_cons.mpr ⟨ok_bipush dX12_arrive_108 (by decide), List.forall_mem_cons.mpr ⟨ok_ic_ge dX12_arrive_110 (by decide), List.forall_mem_cons.mpr ⟨ok_bipush dX12_arrive_113 (by decide), List.forall_mem_cons.mpr ⟨ok_goto dX12_arrive_115 (by decide), List.forall_mem_cons.mpr ⟨ok_iload dX12_arrive_118, List.forall_mem_cons.mpr ⟨ok_bipush dX12_arrive_120 (by decide), List.forall_mem_cons.mpr ⟨ok_isub dX12_arrive_122, List.forall_mem_cons.mpr ⟨ok_iast dX12_arrive_123, List.forall_mem_cons.mpr ⟨ok_goto dX12_arrive_124 (by decide), List.forall_mem_cons.mpr ⟨ok_iload dX12_arrive_127, List.forall_mem_cons.mpr ⟨ok_iload dX12_arrive_129, fun _ h => absurd h List.not_mem_nil⟩⟩⟩⟩⟩⟩⟩⟩⟩⟩⟩⟩⟩⟩⟩⟩⟩⟩⟩⟩⟩⟩⟩⟩
def kX12_arrive_3 : List (Nat × zT) := [(131, a_ii (fun x y => x - y) 132), (132, a_istore 4 134), (134, a_i 1 135), (135, a_istore 8 137), (137, a_iload 8 139), (139, a_iload 7 141), (141, a_ic_ge 204 144), (144, a_aload 0 145), (145, a_getR 12 25 148), (148, a_iload 4 150), (150, a_iload 8 152), (152, a_ii (fun x y => x + y) 153), (153, a_iald 154), (154, a_aload 0 155), (155, a_getR 12 25 158), (158, a_iload 4 160), (160, a_iald 161), (161, a_ic_le 198 164), (164, a_aload 0 165), (165, a_getR 12 25 168), (168, a_iload 4 170), (170, a_aload 0 171), (171, a_getR 12 25 174), (174, a_iload 4 176)]
theorem oX12_arrive_3 : ∀ q ∈ kX12_arrive_3, zSnd zty false RX12 cX12_arrive 9 none false q := List.forall_mem_cons.mpr ⟨ok_isub dX12_arrive_131, List.forall_mem_cons.mpr ⟨ok_istore dX12_arrive_132 (by decide), List.forall_mem_cons.mpr ⟨ok_iconst dX12_arrive_134 (by decide), List.forall_mem_cons.mpr ⟨ok_istore dX12_arrive_135 (by decide), List.forall_mem_cons.mpr ⟨ok_iload dX12_arrive_137, List.forall_mem_cons.mpr ⟨ok_iload dX12_arrive_139, List.forall_mem_cons.mpr ⟨ok_ic_ge dX12_arrive_141 (by decide), List.forall_mem_cons.mpr ⟨ok_aload_n dX12_arrive_144 rfl, List.forall_mem_cons.mpr ⟨ok_getR dX12_arrive_145 rfl in12 (by decide) rfl w982, List.forall_mem_cons.mpr ⟨ok_iload dX12_arrive_148, List.forall_mem_cons.mpr ⟨ok_iload dX12_arrive_150, List.forall_mem_cons.mpr ⟨ok_iadd dX12_arrive_152, List.forall_mem_cons.mpr ⟨ok_iald dX12_arrive_153, List.forall_mem_cons.mpr ⟨ok_aload_n dX12_arrive_154 rfl, List.forall_mem_cons.mpr ⟨ok_getR dX12_arrive_155 rfl in12 (by decide) rfl w982, List.forall_mem_cons.mpr ⟨ok_iload dX12_arrive_158, List.forall_mem_cons.mpr ⟨ok_iald dX12_arrive_160, List.forall_mem_cons.mpr ⟨ok_ic_le dX12_arrive_161 (by decide), List.forall_mem_cons.mpr ⟨ok_aload_n dX12_arrive_164 rfl, List.forall_mem_cons.mpr ⟨ok_getR dX12_arrive_165 rfl in12 (by decide) rfl w982, List.forall_mem_cons.mpr ⟨ok_iload dX12_arrive_168, List.forall_mem_cons.mpr ⟨ok_aload_n dX12_arrive_170 rfl, List.forall_mem_cons.mpr ⟨ok_getR dX12_arrive_171 rfl in12 (by decide) rfl w982, List.forall_mem_cons.mpr ⟨ok_iload dX12_arrive_174, fun _ h => absurd h List.not_mem_nil⟩⟩⟩⟩⟩⟩⟩⟩⟩⟩⟩⟩⟩⟩⟩⟩⟩⟩⟩⟩⟩⟩⟩⟩
def kX12_arrive_4 : List (Nat × zT) := [(176, a_iload 8 178), (178, a_ii (fun x y => x + y) 179), (179, a_iald 180), (180, a_iast 181), (181, a_aload 0 182), (182, a_getR 12 26 185), (185, a_iload 4 187), (187, a_aload 0 188), (188, a_getR 12 26 191), (191, a_iload 4 193), (193, a_iload 8 195), (195, a_ii (fun x y => x + y) 196), (196, a_iald 197), (197, a_iast 198), (198, a_iinc 8 1 201), (201, a_goto 137), (204, a_aload 0 205), (205, a_getR 12 25 208), (208, a_iload 4 210), (210, a_dup2 211), (211, a_iald 212), (212, a_aload 0 213), (213, a_getR 12 14 216), (216, a_iload 6 218)]
theorem oX12_arrive_4 : ∀ q ∈ kX12_arrive_4, zSnd zty false RX12 cX12_arrive 9 none false q := List.forall_mem_cons.mpr ⟨ok_iload dX12_arrive_176, List.forall_mem_cons.mpr ⟨ok_iadd dX12_arrive_178, List.forall_mem_cons.mpr ⟨ok_iald dX12_arrive_179, List.forall_mem_cons.mpr ⟨ok_iast dX12_arrive_180, List.forall_mem_cons.mpr ⟨ok_aload_n dX12_arrive_181 rfl, List.forall_mem_cons.mpr ⟨ok_getR dX12_arrive_182 rfl in12 (by decide) rfl w983, List.forall_mem_cons.mpr ⟨ok_iload dX12_arrive_185, List.forall_mem_cons.mpr ⟨ok_aload_n dX12_arrive_187 rfl, List.forall_mem_cons.mpr ⟨ok_getR dX12_arrive_188 rfl in12 (by decide) rfl w983, List.forall_mem_cons.mpr ⟨ok_iload dX12_arrive_191, List.forall_mem_cons.mpr ⟨ok_iload dX12_arrive_193, List.forall_mem_cons.mpr ⟨ok_iadd dX12_arrive_195, List.forall_mem_cons.mpr ⟨ok_iald dX12_arrive_196, List.forall_mem_cons.mpr ⟨ok_iast dX12_arrive_197, List.forall_mem_cons.mpr ⟨ok_iinc dX12_arrive_198 (by decide) (by decide), List.forall_mem_cons.mpr ⟨ok_goto dX12_arrive_201 (by decide), List.forall_mem_cons.mpr ⟨ok_aload_n dX12_arrive_204 rfl, List.forall_mem_cons.mpr ⟨ok_getR dX12_arrive_205 rfl in12 (by decide) rfl w982, List.forall_mem_cons.mpr ⟨ok_iload dX12_arrive_208, List.forall_mem_cons.mpr ⟨ok_dup2 dX12_arrive_210, List.forall_mem_cons.mpr ⟨ok_iald dX12_arrive_211, List.forall_mem_cons.mpr ⟨ok_aload_n dX12_arrive_212 rfl, List.forall_mem_cons.mpr ⟨ok_getR dX12_arrive_213 rfl in12 (by decide) rfl w971, List.forall_mem_cons.mpr ⟨ok_iload dX12_arrive_216, fun _ h => absurd h List.not_mem_nil⟩⟩⟩⟩⟩⟩⟩⟩⟩⟩⟩⟩⟩⟩⟩⟩⟩⟩⟩⟩⟩⟩⟩⟩
def kX12_arrive_5 : List (Nat × zT) := [(218, a_call 179 1 221 0 0), (221, a_iald 222), (222, a_aload 0 223), (223, a_getR 12 15 226), (226, a_iload 3 227), (227, a_iald 228), (228, a_ii (fun x y => x * y) 229), (229, a_i 99 231), (231, a_ii (fun x y => x + y) 232), (232, a_i 100 234), (234, a_div (fun x y => x / y) 235), (235, a_ii (fun x y => x + y) 236), (236, a_iast 237), (237, a_iinc 4 1 240), (240, a_iinc 5 1 243), (243, a_goto 6), (246, a_aload 0 247), (247, a_getR 12 23 250), (250, a_iload 2 251), (251, a_aload 0 252), (252, a_getR 12 25 255), (255, a_i 0 256), (256, a_iald 257), (257, a_iload 2 258)]
theorem oX12_arrive_5 : ∀ q ∈ kX12_arrive_5, zSnd zty false RX12 cX12_arrive 9 none false q := List.forall_mem_cons.mpr ⟨ok_callS dX12_arrive_218 rfl w1253 w1251 w1252 w13 (by decide +kernel) (by decide), List.forall_mem_cons.mpr ⟨ok_iald dX12_arrive_221, List.forall_mem_cons.mpr ⟨ok_aload_n dX12_arrive_222 rfl, List.forall_mem_cons.mpr ⟨ok_getR dX12_arrive_223 rfl in12 (by decide) rfl w972, List.forall_mem_cons.mpr ⟨ok_iload_n dX12_arrive_226 rfl, List.forall_mem_cons.mpr ⟨ok_iald dX12_arrive_227, List.forall_mem_cons.mpr ⟨ok_imul dX12_arrive_228, List.forall_mem_cons.mpr ⟨ok_bipush dX12_arrive_229 (by decide), List.forall_mem_cons.mpr ⟨ok_iadd dX12_arrive_231, List.forall_mem_cons.mpr ⟨ok_bipush dX12_arrive_232 (by decide), List.forall_mem_cons.mpr ⟨ok_idiv dX12_arrive_234, List.forall_mem_cons.mpr ⟨ok_iadd dX12_arrive_235, List.forall_mem_cons.mpr ⟨ok_iast dX12_arrive_236, List.forall_mem_cons.mpr ⟨ok_iinc dX12_arrive_237 (by decide) (by decide), List.forall_mem_cons.mpr ⟨ok_iinc dX12_arrive_240 (by decide) (by decide), List.forall_mem_cons.mpr ⟨ok_goto dX12_arrive_243 (by decide), List.forall_mem_cons.mpr ⟨ok_aload_n dX12_arrive_246 rfl, List.forall_mem_cons.mpr ⟨ok_getR dX12_arrive_247 rfl in12 (by decide) rfl w980, List.forall_mem_cons.mpr ⟨ok_iload_n dX12_arrive_250 rfl, List.forall_mem_cons.mpr ⟨ok_aload_n dX12_arrive_251 rfl, List.forall_mem_cons.mpr ⟨ok_getR dX12_arrive_252 rfl in12 (by decide) rfl w982, List.forall_mem_cons.mpr ⟨ok_iconst dX12_arrive_255 (by decide), List.forall_mem_cons.mpr ⟨ok_iald dX12_arrive_256, List.forall_mem_cons.mpr ⟨ok_iload_n dX12_arrive_257 rfl, fun _ h => absurd h List.not_mem_nil⟩⟩⟩⟩⟩⟩⟩⟩⟩⟩⟩⟩⟩⟩⟩⟩⟩⟩⟩⟩⟩⟩⟩⟩
def kX12_arrive_6 : List (Nat × zT) := [(258, a_i 15 260), (260, a_ic_ge 279 263), (263, a_aload 0 264), (264, a_getR 12 15 267), (267, a_i 3 268), (268, a_iald 269), (269, a_aload 0 270), (270, a_iload 1 271), (271, a_iload 2 272), (272, a_callV 12 154 3 275 0 0), (275, a_ii (fun x y => x * y) 276), (276, a_goto 280), (279, a_i 0 280), (280, a_ii (fun x y => x + y) 281), (281, a_iast 282), (282, a_aload 0 283), (283, a_getR 12 24 286), (286, a_iload 2 287), (287, a_aload 0 288), (288, a_getR 12 26 291), (291, a_i 0 292), (292, a_iald 293), (293, a_iast 294), (294, a_vret)]
theorem oX12_arrive_6 : ∀ q ∈ kX12_arrive_6, zSnd zty false RX12 cX12_arrive 9 none false q := List.forall_mem_cons.mpr ⟨ok_bipush dX12_arrive_258 (by decide), List.forall_mem_cons.mpr ⟨ok_ic_ge dX12_arrive_260 (by decide), List.forall_mem_cons.mpr ⟨ok_aload_n dX12_arrive_263 rfl, List.forall_mem_cons.mpr ⟨ok_getR dX12_arrive_264 rfl in12 (by decide) rfl w972, List.forall_mem_cons.mpr ⟨ok_iconst dX12_arrive_267 (by decide), List.forall_mem_cons.mpr ⟨ok_iald dX12_arrive_268, List.forall_mem_cons.mpr ⟨ok_aload_n dX12_arrive_269 rfl, List.forall_mem_cons.mpr ⟨ok_iload_n dX12_arrive_270 rfl, List.forall_mem_cons.mpr ⟨ok_iload_n dX12_arrive_271 rfl, List.forall_mem_cons.mpr ⟨ok_callV dX12_arrive_272 rfl rfl w1148 w1145 w1147 w13 s31 (by decide +kernel) (by decide), List.forall_mem_cons.mpr ⟨ok_imul dX12_arrive_275, List.forall_mem_cons.mpr ⟨ok_goto dX12_arrive_276 (by decide), List.forall_mem_cons.mpr ⟨ok_iconst dX12_arrive_279 (by decide), List.forall_mem_cons.mpr ⟨ok_iadd dX12_arrive_280, List.forall_mem_cons.mpr ⟨ok_iast dX12_arrive_281, List.forall_mem_cons.mpr ⟨ok_aload_n dX12_arrive_282 rfl, List.forall_mem_cons.mpr ⟨ok_getR dX12_arrive_283 rfl in12 (by decide) rfl w981, List.forall_mem_cons.mpr ⟨ok_iload_n dX12_arrive_286 rfl, List.forall_mem_cons.mpr ⟨ok_aload_n dX12_arrive_287 rfl, List.forall_mem_cons.mpr ⟨ok_getR dX12_arrive_288 rfl in12 (by decide) rfl w983, List.forall_mem_cons.mpr ⟨ok_iconst dX12_arrive_291 (by decide), List.forall_mem_cons.mpr ⟨ok_iald dX12_arrive_292, List.forall_mem_cons.mpr ⟨ok_iast dX12_arrive_293, List.forall_mem_cons.mpr ⟨ok_vret dX12_arrive_294 rfl, fun _ h => absurd h List.not_mem_nil⟩⟩⟩⟩⟩⟩⟩⟩⟩⟩⟩⟩⟩⟩⟩⟩⟩⟩⟩⟩⟩⟩⟩⟩
def kX12_arrive : List (Nat × zT) := kX12_arrive_0 ++ (kX12_arrive_1 ++ (kX12_arrive_2 ++ (kX12_arrive_3 ++ (kX12_arrive_4 ++ (kX12_arrive_5 ++ (kX12_arrive_6))))))
theorem qX12_arrive_0 : ∀ q ∈ kX12_arrive_0, q ∈ kX12_arrive := fun _ h => (List.mem_append_left _ h)
theorem tX12_arrive_0 : (0, a_i 0 1) ∈ kX12_arrive := qX12_arrive_0 _ (List.mem_of_getElem? (i := 0) rfl)
theorem tX12_arrive_1 : (1, a_istore 4 3) ∈ kX12_arrive := qX12_arrive_0 _ (List.mem_of_getElem? (i := 1) rfl)
theorem tX12_arrive_3 : (3, a_i 0 4) ∈ kX12_arrive := qX12_arrive_0 _ (List.mem_of_getElem? (i := 2) rfl)
theorem tX12_arrive_4 : (4, a_istore 5 6) ∈ kX12_arrive := qX12_arrive_0 _ (List.mem_of_getElem? (i := 3) rfl)
theorem tX12_arrive_6 : (6, a_iload 5 8) ∈ kX12_arrive := qX12_arrive_0 _ (List.mem_of_getElem? (i := 4) rfl)
theorem tX12_arrive_8 : (8, a_aload 0 9) ∈ kX12_arrive := qX12_arrive_0 _ (List.mem_of_getElem? (i := 5) rfl)
theorem tX12_arrive_9 : (9, a_getR 12 4 12) ∈ kX12_arrive := qX12_arrive_0 _ (List.mem_of_getElem? (i := 6) rfl)
theorem tX12_arrive_12 : (12, a_i 19 14) ∈ kX12_arrive := qX12_arrive_0 _ (List.mem_of_getElem? (i := 7) rfl)
theorem tX12_arrive_14 : (14, a_iload 1 15) ∈ kX12_arrive := qX12_arrive_0 _ (List.mem_of_getElem? (i := 8) rfl)
theorem tX12_arrive_15 : (15, a_ii (fun x y => x * y) 16) ∈ kX12_arrive := qX12_arrive_0 _ (List.mem_of_getElem? (i := 9) rfl)
theorem tX12_arrive_16 : (16, a_iload 2 17) ∈ kX12_arrive := qX12_arrive_0 _ (List.mem_of_getElem? (i := 10) rfl)
theorem tX12_arrive_17 : (17, a_ii (fun x y => x + y) 18) ∈ kX12_arrive := qX12_arrive_0 _ (List.mem_of_getElem? (i := 11) rfl)
theorem tX12_arrive_18 : (18, a_iald 19) ∈ kX12_arrive := qX12_arrive_0 _ (List.mem_of_getElem? (i := 12) rfl)
theorem tX12_arrive_19 : (19, a_ic_ge 246 22) ∈ kX12_arrive := qX12_arrive_0 _ (List.mem_of_getElem? (i := 13) rfl)
theorem tX12_arrive_22 : (22, a_aload 0 23) ∈ kX12_arrive := qX12_arrive_0 _ (List.mem_of_getElem? (i := 14) rfl)
theorem tX12_arrive_23 : (23, a_getR 12 2 26) ∈ kX12_arrive := qX12_arrive_0 _ (List.mem_of_getElem? (i := 15) rfl)
theorem tX12_arrive_26 : (26, a_i 200 29) ∈ kX12_arrive := qX12_arrive_0 _ (List.mem_of_getElem? (i := 16) rfl)
theorem tX12_arrive_29 : (29, a_iload 1 30) ∈ kX12_arrive := qX12_arrive_0 _ (List.mem_of_getElem? (i := 17) rfl)
theorem tX12_arrive_30 : (30, a_ii (fun x y => x * y) 31) ∈ kX12_arrive := qX12_arrive_0 _ (List.mem_of_getElem? (i := 18) rfl)
theorem tX12_arrive_31 : (31, a_aload 0 32) ∈ kX12_arrive := qX12_arrive_0 _ (List.mem_of_getElem? (i := 19) rfl)
theorem tX12_arrive_32 : (32, a_getR 12 3 35) ∈ kX12_arrive := qX12_arrive_0 _ (List.mem_of_getElem? (i := 20) rfl)
theorem tX12_arrive_35 : (35, a_i 19 37) ∈ kX12_arrive := qX12_arrive_0 _ (List.mem_of_getElem? (i := 21) rfl)
theorem tX12_arrive_37 : (37, a_iload 1 38) ∈ kX12_arrive := qX12_arrive_0 _ (List.mem_of_getElem? (i := 22) rfl)
theorem tX12_arrive_38 : (38, a_ii (fun x y => x * y) 39) ∈ kX12_arrive := qX12_arrive_0 _ (List.mem_of_getElem? (i := 23) rfl)
theorem qX12_arrive_1 : ∀ q ∈ kX12_arrive_1, q ∈ kX12_arrive := fun _ h => (List.mem_append_right _ (List.mem_append_left _ h))
theorem tX12_arrive_39 : (39, a_iload 2 40) ∈ kX12_arrive := qX12_arrive_1 _ (List.mem_of_getElem? (i := 0) rfl)
theorem tX12_arrive_40 : (40, a_ii (fun x y => x + y) 41) ∈ kX12_arrive := qX12_arrive_1 _ (List.mem_of_getElem? (i := 1) rfl)
theorem tX12_arrive_41 : (41, a_iald 42) ∈ kX12_arrive := qX12_arrive_1 _ (List.mem_of_getElem? (i := 2) rfl)
theorem tX12_arrive_42 : (42, a_ii (fun x y => x + y) 43) ∈ kX12_arrive := qX12_arrive_1 _ (List.mem_of_getElem? (i := 3) rfl)
theorem tX12_arrive_43 : (43, a_iload 5 45) ∈ kX12_arrive := qX12_arrive_1 _ (List.mem_of_getElem? (i := 4) rfl)
theorem tX12_arrive_45 : (45, a_ii (fun x y => x + y) 46) ∈ kX12_arrive := qX12_arrive_1 _ (List.mem_of_getElem? (i := 5) rfl)
theorem tX12_arrive_46 : (46, a_iald 47) ∈ kX12_arrive := qX12_arrive_1 _ (List.mem_of_getElem? (i := 6) rfl)
theorem tX12_arrive_47 : (47, a_istore 6 49) ∈ kX12_arrive := qX12_arrive_1 _ (List.mem_of_getElem? (i := 7) rfl)
theorem tX12_arrive_49 : (49, a_iload 6 51) ∈ kX12_arrive := qX12_arrive_1 _ (List.mem_of_getElem? (i := 8) rfl)
theorem tX12_arrive_51 : (51, a_call 141 1 54 0 0) ∈ kX12_arrive := qX12_arrive_1 _ (List.mem_of_getElem? (i := 9) rfl)
theorem tX12_arrive_54 : (54, a_istore 7 56) ∈ kX12_arrive := qX12_arrive_1 _ (List.mem_of_getElem? (i := 10) rfl)
theorem tX12_arrive_56 : (56, a_iload 7 58) ∈ kX12_arrive := qX12_arrive_1 _ (List.mem_of_getElem? (i := 11) rfl)
theorem tX12_arrive_58 : (58, a_if_ne 127 61) ∈ kX12_arrive := qX12_arrive_1 _ (List.mem_of_getElem? (i := 12) rfl)
theorem tX12_arrive_61 : (61, a_aload 0 62) ∈ kX12_arrive := qX12_arrive_1 _ (List.mem_of_getElem? (i := 13) rfl)
theorem tX12_arrive_62 : (62, a_getR 12 25 65) ∈ kX12_arrive := qX12_arrive_1 _ (List.mem_of_getElem? (i := 14) rfl)
theorem tX12_arrive_65 : (65, a_iload 4 67) ∈ kX12_arrive := qX12_arrive_1 _ (List.mem_of_getElem? (i := 15) rfl)
theorem tX12_arrive_67 : (67, a_iload 6 69) ∈ kX12_arrive := qX12_arrive_1 _ (List.mem_of_getElem? (i := 16) rfl)
theorem tX12_arrive_69 : (69, a_i 50 71) ∈ kX12_arrive := qX12_arrive_1 _ (List.mem_of_getElem? (i := 17) rfl)
theorem tX12_arrive_71 : (71, a_ic_ge 78 74) ∈ kX12_arrive := qX12_arrive_1 _ (List.mem_of_getElem? (i := 18) rfl)
theorem tX12_arrive_74 : (74, a_i 0 75) ∈ kX12_arrive := qX12_arrive_1 _ (List.mem_of_getElem? (i := 19) rfl)
theorem tX12_arrive_75 : (75, a_goto 99) ∈ kX12_arrive := qX12_arrive_1 _ (List.mem_of_getElem? (i := 20) rfl)
theorem tX12_arrive_78 : (78, a_iload 6 80) ∈ kX12_arrive := qX12_arrive_1 _ (List.mem_of_getElem? (i := 21) rfl)
theorem tX12_arrive_80 : (80, a_i 111 82) ∈ kX12_arrive := qX12_arrive_1 _ (List.mem_of_getElem? (i := 22) rfl)
theorem tX12_arrive_82 : (82, a_ic_le 89 85) ∈ kX12_arrive := qX12_arrive_1 _ (List.mem_of_getElem? (i := 23) rfl)
theorem qX12_arrive_2 : ∀ q ∈ kX12_arrive_2, q ∈ kX12_arrive := fun _ h => (List.mem_append_right _ (List.mem_append_right _ (List.mem_append_left _ h)))
theorem tX12_arrive_85 : (85, a_i 0 86) ∈ kX12_arrive := qX12_arrive_2 _ (List.mem_of_getElem? (i := 0) rfl)
theorem tX12_arrive_86 : (86, a_goto 99) ∈ kX12_arrive := qX12_arrive_2 _ (List.mem_of_getElem? (i := 1) rfl)
theorem tX12_arrive_89 : (89, a_aload 0 90) ∈ kX12_arrive := qX12_arrive_2 _ (List.mem_of_getElem? (i := 2) rfl)
theorem tX12_arrive_90 : (90, a_getR 12 23 93) ∈ kX12_arrive := qX12_arrive_2 _ (List.mem_of_getElem? (i := 3) rfl)
theorem tX12_arrive_93 : (93, a_iload 6 95) ∈ kX12_arrive := qX12_arrive_2 _ (List.mem_of_getElem? (i := 4) rfl)
theorem tX12_arrive_95 : (95, a_i 97 97) ∈ kX12_arrive := qX12_arrive_2 _ (List.mem_of_getElem? (i := 5) rfl)
theorem tX12_arrive_97 : (97, a_ii (fun x y => x - y) 98) ∈ kX12_arrive := qX12_arrive_2 _ (List.mem_of_getElem? (i := 6) rfl)
theorem tX12_arrive_98 : (98, a_iald 99) ∈ kX12_arrive := qX12_arrive_2 _ (List.mem_of_getElem? (i := 7) rfl)
theorem tX12_arrive_99 : (99, a_iast 100) ∈ kX12_arrive := qX12_arrive_2 _ (List.mem_of_getElem? (i := 8) rfl)
theorem tX12_arrive_100 : (100, a_aload 0 101) ∈ kX12_arrive := qX12_arrive_2 _ (List.mem_of_getElem? (i := 9) rfl)
theorem tX12_arrive_101 : (101, a_getR 12 26 104) ∈ kX12_arrive := qX12_arrive_2 _ (List.mem_of_getElem? (i := 10) rfl)
theorem tX12_arrive_104 : (104, a_iload 4 106) ∈ kX12_arrive := qX12_arrive_2 _ (List.mem_of_getElem? (i := 11) rfl)
theorem tX12_arrive_106 : (106, a_iload 6 108) ∈ kX12_arrive := qX12_arrive_2 _ (List.mem_of_getElem? (i := 12) rfl)
theorem tX12_arrive_108 : (108, a_i 50 110) ∈ kX12_arrive := qX12_arrive_2 _ (List.mem_of_getElem? (i := 13) rfl)
theorem tX12_arrive_110 : (110, a_ic_ge 118 113) ∈ kX12_arrive := qX12_arrive_2 _ (List.mem_of_getElem? (i := 14) rfl)
theorem tX12_arrive_113 : (113, a_i (-4) 115) ∈ kX12_arrive := qX12_arrive_2 _ (List.mem_of_getElem? (i := 15) rfl)
theorem tX12_arrive_115 : (115, a_goto 123) ∈ kX12_arrive := qX12_arrive_2 _ (List.mem_of_getElem? (i := 16) rfl)
theorem tX12_arrive_118 : (118, a_iload 6 120) ∈ kX12_arrive := qX12_arrive_2 _ (List.mem_of_getElem? (i := 17) rfl)
theorem tX12_arrive_120 : (120, a_i 97 122) ∈ kX12_arrive := qX12_arrive_2 _ (List.mem_of_getElem? (i := 18) rfl)
theorem tX12_arrive_122 : (122, a_ii (fun x y => x - y) 123) ∈ kX12_arrive := qX12_arrive_2 _ (List.mem_of_getElem? (i := 19) rfl)
theorem tX12_arrive_123 : (123, a_iast 124) ∈ kX12_arrive := qX12_arrive_2 _ (List.mem_of_getElem? (i := 20) rfl)
theorem tX12_arrive_124 : (124, a_goto 237) ∈ kX12_arrive := qX12_arrive_2 _ (List.mem_of_getElem? (i := 21) rfl)
theorem tX12_arrive_127 : (127, a_iload 4 129) ∈ kX12_arrive := qX12_arrive_2 _ (List.mem_of_getElem? (i := 22) rfl)
theorem tX12_arrive_129 : (129, a_iload 7 131) ∈ kX12_arrive := qX12_arrive_2 _ (List.mem_of_getElem? (i := 23) rfl)
theorem qX12_arrive_3 : ∀ q ∈ kX12_arrive_3, q ∈ kX12_arrive := fun _ h => (List.mem_append_right _ (List.mem_append_right _ (List.mem_append_right _ (List.mem_append_left _ h))))
theorem tX12_arrive_131 : (131, a_ii (fun x y => x - y) 132) ∈ kX12_arrive := qX12_arrive_3 _ (List.mem_of_getElem? (i := 0) rfl)
theorem tX12_arrive_132 : (132, a_istore 4 134) ∈ kX12_arrive := qX12_arrive_3 _ (List.mem_of_getElem? (i := 1) rfl)
theorem tX12_arrive_134 : (134, a_i 1 135) ∈ kX12_arrive := qX12_arrive_3 _ (List.mem_of_getElem? (i := 2) rfl)
theorem tX12_arrive_135 : (135, a_istore 8 137) ∈ kX12_arrive := qX12_arrive_3 _ (List.mem_of_getElem? (i := 3) rfl)
theorem tX12_arrive_137 : (137, a_iload 8 139) ∈ kX12_arrive := qX12_arrive_3 _ (List.mem_of_getElem? (i := 4) rfl)
theorem tX12_arrive_139 : (139, a_iload 7 141) ∈ kX12_arrive := qX12_arrive_3 _ (List.mem_of_getElem? (i := 5) rfl)
theorem tX12_arrive_141 : (141, a_ic_ge 204 144) ∈ kX12_arrive := qX12_arrive_3 _ (List.mem_of_getElem? (i := 6) rfl)
theorem tX12_arrive_144 : (144, a_aload 0 145) ∈ kX12_arrive := qX12_arrive_3 _ (List.mem_of_getElem? (i := 7) rfl)
theorem tX12_arrive_145 : (145, a_getR 12 25 148) ∈ kX12_arrive := qX12_arrive_3 _ (List.mem_of_getElem? (i := 8) rfl)
theorem tX12_arrive_148 : (148, a_iload 4 150) ∈ kX12_arrive := qX12_arrive_3 _ (List.mem_of_getElem? (i := 9) rfl)
theorem tX12_arrive_150 : (150, a_iload 8 152) ∈ kX12_arrive := qX12_arrive_3 _ (List.mem_of_getElem? (i := 10) rfl)
theorem tX12_arrive_152 : (152, a_ii (fun x y => x + y) 153) ∈ kX12_arrive := qX12_arrive_3 _ (List.mem_of_getElem? (i := 11) rfl)
theorem tX12_arrive_153 : (153, a_iald 154) ∈ kX12_arrive := qX12_arrive_3 _ (List.mem_of_getElem? (i := 12) rfl)
theorem tX12_arrive_154 : (154, a_aload 0 155) ∈ kX12_arrive := qX12_arrive_3 _ (List.mem_of_getElem? (i := 13) rfl)
theorem tX12_arrive_155 : (155, a_getR 12 25 158) ∈ kX12_arrive := qX12_arrive_3 _ (List.mem_of_getElem? (i := 14) rfl)
theorem tX12_arrive_158 : (158, a_iload 4 160) ∈ kX12_arrive := qX12_arrive_3 _ (List.mem_of_getElem? (i := 15) rfl)
theorem tX12_arrive_160 : (160, a_iald 161) ∈ kX12_arrive := qX12_arrive_3 _ (List.mem_of_getElem? (i := 16) rfl)
theorem tX12_arrive_161 : (161, a_ic_le 198 164) ∈ kX12_arrive := qX12_arrive_3 _ (List.mem_of_getElem? (i := 17) rfl)
theorem tX12_arrive_164 : (164, a_aload 0 165) ∈ kX12_arrive := qX12_arrive_3 _ (List.mem_of_getElem? (i := 18) rfl)
theorem tX12_arrive_165 : (165, a_getR 12 25 168) ∈ kX12_arrive := qX12_arrive_3 _ (List.mem_of_getElem? (i := 19) rfl)
theorem tX12_arrive_168 : (168, a_iload 4 170) ∈ kX12_arrive := qX12_arrive_3 _ (List.mem_of_getElem? (i := 20) rfl)
theorem tX12_arrive_170 : (170, a_aload 0 171) ∈ kX12_arrive := qX12_arrive_3 _ (List.mem_of_getElem? (i := 21) rfl)
theorem tX12_arrive_171 : (171, a_getR 12 25 174) ∈ kX12_arrive := qX12_arrive_3 _ (List.mem_of_getElem? (i := 22) rfl)
theorem tX12_arrive_174 : (174, a_iload 4 176) ∈ kX12_arrive := qX12_arrive_3 _ (List.mem_of_getElem? (i := 23) rfl)
theorem qX12_arrive_4 : ∀ q ∈ kX12_arrive_4, q ∈ kX12_arrive := fun _ h => (List.mem_append_right _ (List.mem_append_right _ (List.mem_append_right _ (List.mem_append_right _ (List.mem_append_left _ h)))))
theorem tX12_arrive_176 : (176, a_iload 8 178) ∈ kX12_arrive := qX12_arrive_4 _ (List.mem_of_getElem? (i := 0) rfl)
theorem tX12_arrive_178 : (178, a_ii (fun x y => x + y) 179) ∈ kX12_arrive := qX12_arrive_4 _ (List.mem_of_getElem? (i := 1) rfl)
theorem tX12_arrive_179 : (179, a_iald 180) ∈ kX12_arrive := qX12_arrive_4 _ (List.mem_of_getElem? (i := 2) rfl)
theorem tX12_arrive_180 : (180, a_iast 181) ∈ kX12_arrive := qX12_arrive_4 _ (List.mem_of_getElem? (i := 3) rfl)
theorem tX12_arrive_181 : (181, a_aload 0 182) ∈ kX12_arrive := qX12_arrive_4 _ (List.mem_of_getElem? (i := 4) rfl)
theorem tX12_arrive_182 : (182, a_getR 12 26 185) ∈ kX12_arrive := qX12_arrive_4 _ (List.mem_of_getElem? (i := 5) rfl)
theorem tX12_arrive_185 : (185, a_iload 4 187) ∈ kX12_arrive := qX12_arrive_4 _ (List.mem_of_getElem? (i := 6) rfl)
theorem tX12_arrive_187 : (187, a_aload 0 188) ∈ kX12_arrive := qX12_arrive_4 _ (List.mem_of_getElem? (i := 7) rfl)
theorem tX12_arrive_188 : (188, a_getR 12 26 191) ∈ kX12_arrive := qX12_arrive_4 _ (List.mem_of_getElem? (i := 8) rfl)
theorem tX12_arrive_191 : (191, a_iload 4 193) ∈ kX12_arrive := qX12_arrive_4 _ (List.mem_of_getElem? (i := 9) rfl)
theorem tX12_arrive_193 : (193, a_iload 8 195) ∈ kX12_arrive := qX12_arrive_4 _ (List.mem_of_getElem? (i := 10) rfl)
theorem tX12_arrive_195 : (195, a_ii (fun x y => x + y) 196) ∈ kX12_arrive := qX12_arrive_4 _ (List.mem_of_getElem? (i := 11) rfl)
theorem tX12_arrive_196 : (196, a_iald 197) ∈ kX12_arrive := qX12_arrive_4 _ (List.mem_of_getElem? (i := 12) rfl)
theorem tX12_arrive_197 : (197, a_iast 198) ∈ kX12_arrive := qX12_arrive_4 _ (List.mem_of_getElem? (i := 13) rfl)
theorem tX12_arrive_198 : (198, a_iinc 8 1 201) ∈ kX12_arrive := qX12_arrive_4 _ (List.mem_of_getElem? (i := 14) rfl)
theorem tX12_arrive_201 : (201, a_goto 137) ∈ kX12_arrive := qX12_arrive_4 _ (List.mem_of_getElem? (i := 15) rfl)
theorem tX12_arrive_204 : (204, a_aload 0 205) ∈ kX12_arrive := qX12_arrive_4 _ (List.mem_of_getElem? (i := 16) rfl)
theorem tX12_arrive_205 : (205, a_getR 12 25 208) ∈ kX12_arrive := qX12_arrive_4 _ (List.mem_of_getElem? (i := 17) rfl)
theorem tX12_arrive_208 : (208, a_iload 4 210) ∈ kX12_arrive := qX12_arrive_4 _ (List.mem_of_getElem? (i := 18) rfl)
theorem tX12_arrive_210 : (210, a_dup2 211) ∈ kX12_arrive := qX12_arrive_4 _ (List.mem_of_getElem? (i := 19) rfl)
theorem tX12_arrive_211 : (211, a_iald 212) ∈ kX12_arrive := qX12_arrive_4 _ (List.mem_of_getElem? (i := 20) rfl)
theorem tX12_arrive_212 : (212, a_aload 0 213) ∈ kX12_arrive := qX12_arrive_4 _ (List.mem_of_getElem? (i := 21) rfl)
theorem tX12_arrive_213 : (213, a_getR 12 14 216) ∈ kX12_arrive := qX12_arrive_4 _ (List.mem_of_getElem? (i := 22) rfl)
theorem tX12_arrive_216 : (216, a_iload 6 218) ∈ kX12_arrive := qX12_arrive_4 _ (List.mem_of_getElem? (i := 23) rfl)
theorem qX12_arrive_5 : ∀ q ∈ kX12_arrive_5, q ∈ kX12_arrive := fun _ h => (List.mem_append_right _ (List.mem_append_right _ (List.mem_append_right _ (List.mem_append_right _ (List.mem_append_right _ (List.mem_append_left _ h))))))
theorem tX12_arrive_218 : (218, a_call 179 1 221 0 0) ∈ kX12_arrive := qX12_arrive_5 _ (List.mem_of_getElem? (i := 0) rfl)
theorem tX12_arrive_221 : (221, a_iald 222) ∈ kX12_arrive := qX12_arrive_5 _ (List.mem_of_getElem? (i := 1) rfl)
theorem tX12_arrive_222 : (222, a_aload 0 223) ∈ kX12_arrive := qX12_arrive_5 _ (List.mem_of_getElem? (i := 2) rfl)
theorem tX12_arrive_223 : (223, a_getR 12 15 226) ∈ kX12_arrive := qX12_arrive_5 _ (List.mem_of_getElem? (i := 3) rfl)
theorem tX12_arrive_226 : (226, a_iload 3 227) ∈ kX12_arrive := qX12_arrive_5 _ (List.mem_of_getElem? (i := 4) rfl)
theorem tX12_arrive_227 : (227, a_iald 228) ∈ kX12_arrive := qX12_arrive_5 _ (List.mem_of_getElem? (i := 5) rfl)
theorem tX12_arrive_228 : (228, a_ii (fun x y => x * y) 229) ∈ kX12_arrive := qX12_arrive_5 _ (List.mem_of_getElem? (i := 6) rfl)
theorem tX12_arrive_229 : (229, a_i 99 231) ∈ kX12_arrive := qX12_arrive_5 _ (List.mem_of_getElem? (i := 7) rfl)
theorem tX12_arrive_231 : (231, a_ii (fun x y => x + y) 232) ∈ kX12_arrive := qX12_arrive_5 _ (List.mem_of_getElem? (i := 8) rfl)
theorem tX12_arrive_232 : (232, a_i 100 234) ∈ kX12_arrive := qX12_arrive_5 _ (List.mem_of_getElem? (i := 9) rfl)
theorem tX12_arrive_234 : (234, a_div (fun x y => x / y) 235) ∈ kX12_arrive := qX12_arrive_5 _ (List.mem_of_getElem? (i := 10) rfl)
theorem tX12_arrive_235 : (235, a_ii (fun x y => x + y) 236) ∈ kX12_arrive := qX12_arrive_5 _ (List.mem_of_getElem? (i := 11) rfl)
theorem tX12_arrive_236 : (236, a_iast 237) ∈ kX12_arrive := qX12_arrive_5 _ (List.mem_of_getElem? (i := 12) rfl)
theorem tX12_arrive_237 : (237, a_iinc 4 1 240) ∈ kX12_arrive := qX12_arrive_5 _ (List.mem_of_getElem? (i := 13) rfl)
theorem tX12_arrive_240 : (240, a_iinc 5 1 243) ∈ kX12_arrive := qX12_arrive_5 _ (List.mem_of_getElem? (i := 14) rfl)
theorem tX12_arrive_243 : (243, a_goto 6) ∈ kX12_arrive := qX12_arrive_5 _ (List.mem_of_getElem? (i := 15) rfl)
theorem tX12_arrive_246 : (246, a_aload 0 247) ∈ kX12_arrive := qX12_arrive_5 _ (List.mem_of_getElem? (i := 16) rfl)
theorem tX12_arrive_247 : (247, a_getR 12 23 250) ∈ kX12_arrive := qX12_arrive_5 _ (List.mem_of_getElem? (i := 17) rfl)
theorem tX12_arrive_250 : (250, a_iload 2 251) ∈ kX12_arrive := qX12_arrive_5 _ (List.mem_of_getElem? (i := 18) rfl)
theorem tX12_arrive_251 : (251, a_aload 0 252) ∈ kX12_arrive := qX12_arrive_5 _ (List.mem_of_getElem? (i := 19) rfl)
theorem tX12_arrive_252 : (252, a_getR 12 25 255) ∈ kX12_arrive := qX12_arrive_5 _ (List.mem_of_getElem? (i := 20) rfl)
theorem tX12_arrive_255 : (255, a_i 0 256) ∈ kX12_arrive := qX12_arrive_5 _ (List.mem_of_getElem? (i := 21) rfl)
theorem tX12_arrive_256 : (256, a_iald 257) ∈ kX12_arrive := qX12_arrive_5 _ (List.mem_of_getElem? (i := 22) rfl)
theorem tX12_arrive_257 : (257, a_iload 2 258) ∈ kX12_arrive := qX12_arrive_5 _ (List.mem_of_getElem? (i := 23) rfl)
theorem qX12_arrive_6 : ∀ q ∈ kX12_arrive_6, q ∈ kX12_arrive := fun _ h => (List.mem_append_right _ (List.mem_append_right _ (List.mem_append_right _ (List.mem_append_right _ (List.mem_append_right _ (List.mem_append_right _ h))))))
theorem tX12_arrive_258 : (258, a_i 15 260) ∈ kX12_arrive := qX12_arrive_6 _ (List.mem_of_getElem? (i := 0) rfl)
theorem tX12_arrive_260 : (260, a_ic_ge 279 263) ∈ kX12_arrive := qX12_arrive_6 _ (List.mem_of_getElem? (i := 1) rfl)
theorem tX12_arrive_263 : (263, a_aload 0 264) ∈ kX12_arrive := qX12_arrive_6 _ (List.mem_of_getElem? (i := 2) rfl)
theorem tX12_arrive_264 : (264, a_getR 12 15 267) ∈ kX12_arrive := qX12_arrive_6 _ (List.mem_of_getElem? (i := 3) rfl)
theorem tX12_arrive_267 : (267, a_i 3 268) ∈ kX12_arrive := qX12_arrive_6 _ (List.mem_of_getElem? (i := 4) rfl)
theorem tX12_arrive_268 : (268, a_iald 269) ∈ kX12_arrive := qX12_arrive_6 _ (List.mem_of_getElem? (i := 5) rfl)
theorem tX12_arrive_269 : (269, a_aload 0 270) ∈ kX12_arrive := qX12_arrive_6 _ (List.mem_of_getElem? (i := 6) rfl)
theorem tX12_arrive_270 : (270, a_iload 1 271) ∈ kX12_arrive := qX12_arrive_6 _ (List.mem_of_getElem? (i := 7) rfl)
theorem tX12_arrive_271 : (271, a_iload 2 272) ∈ kX12_arrive := qX12_arrive_6 _ (List.mem_of_getElem? (i := 8) rfl)
theorem tX12_arrive_272 : (272, a_callV 12 154 3 275 0 0) ∈ kX12_arrive := qX12_arrive_6 _ (List.mem_of_getElem? (i := 9) rfl)
theorem tX12_arrive_275 : (275, a_ii (fun x y => x * y) 276) ∈ kX12_arrive := qX12_arrive_6 _ (List.mem_of_getElem? (i := 10) rfl)
theorem tX12_arrive_276 : (276, a_goto 280) ∈ kX12_arrive := qX12_arrive_6 _ (List.mem_of_getElem? (i := 11) rfl)
theorem tX12_arrive_279 : (279, a_i 0 280) ∈ kX12_arrive := qX12_arrive_6 _ (List.mem_of_getElem? (i := 12) rfl)
theorem tX12_arrive_280 : (280, a_ii (fun x y => x + y) 281) ∈ kX12_arrive := qX12_arrive_6 _ (List.mem_of_getElem? (i := 13) rfl)
theorem tX12_arrive_281 : (281, a_iast 282) ∈ kX12_arrive := qX12_arrive_6 _ (List.mem_of_getElem? (i := 14) rfl)
theorem tX12_arrive_282 : (282, a_aload 0 283) ∈ kX12_arrive := qX12_arrive_6 _ (List.mem_of_getElem? (i := 15) rfl)
theorem tX12_arrive_283 : (283, a_getR 12 24 286) ∈ kX12_arrive := qX12_arrive_6 _ (List.mem_of_getElem? (i := 16) rfl)
theorem tX12_arrive_286 : (286, a_iload 2 287) ∈ kX12_arrive := qX12_arrive_6 _ (List.mem_of_getElem? (i := 17) rfl)
theorem tX12_arrive_287 : (287, a_aload 0 288) ∈ kX12_arrive := qX12_arrive_6 _ (List.mem_of_getElem? (i := 18) rfl)
theorem tX12_arrive_288 : (288, a_getR 12 26 291) ∈ kX12_arrive := qX12_arrive_6 _ (List.mem_of_getElem? (i := 19) rfl)
theorem tX12_arrive_291 : (291, a_i 0 292) ∈ kX12_arrive := qX12_arrive_6 _ (List.mem_of_getElem? (i := 20) rfl)
theorem tX12_arrive_292 : (292, a_iald 293) ∈ kX12_arrive := qX12_arrive_6 _ (List.mem_of_getElem? (i := 21) rfl)
theorem tX12_arrive_293 : (293, a_iast 294) ∈ kX12_arrive := qX12_arrive_6 _ (List.mem_of_getElem? (i := 22) rfl)
theorem tX12_arrive_294 : (294, a_vret) ∈ kX12_arrive := qX12_arrive_6 _ (List.mem_of_getElem? (i := 23) rfl)
theorem oX12_arrive : ∀ q ∈ kX12_arrive, zSnd zty false RX12 cX12_arrive 9 none false q := List.forall_mem_append.mpr ⟨oX12_arrive_0, List.forall_mem_append.mpr ⟨oX12_arrive_1, List.forall_mem_append.mpr ⟨oX12_arrive_2, List.forall_mem_append.mpr ⟨oX12_arrive_3, List.forall_mem_append.mpr ⟨oX12_arrive_4, List.forall_mem_append.mpr ⟨oX12_arrive_5, oX12_arrive_6⟩⟩⟩⟩⟩⟩
theorem dX12_layArrivals_0 : decode cX12_layArrivals 0 = .ok (.iconst 0, 1) := by decide +kernel
theorem dX12_layArrivals_1 : decode cX12_layArrivals 1 = .ok (.istore_n 3, 1) := by decide +kernel
theorem dX12_layArrivals_2 : decode cX12_layArrivals 2 = .ok (.iload_n 3, 1) := by decide +kernel
theorem dX12_layArrivals_3 : decode cX12_layArrivals 3 = .ok (.bipush 19, 2) := by decide +kernel
theorem dX12_layArrivals_5 : decode cX12_layArrivals 5 = .ok (.if_icmp .ge 16, 3) := by decide +kernel
theorem dX12_layArrivals_8 : decode cX12_layArrivals 8 = .ok (.aload_n 0, 1) := by decide +kernel
theorem dX12_layArrivals_9 : decode cX12_layArrivals 9 = .ok (.getfield 71, 3) := by decide +kernel
theorem dX12_layArrivals_12 : decode cX12_layArrivals 12 = .ok (.iload_n 3, 1) := by decide +kernel
theorem dX12_layArrivals_13 : decode cX12_layArrivals 13 = .ok (.iconst 0, 1) := by decide +kernel
theorem dX12_layArrivals_14 : decode cX12_layArrivals 14 = .ok (.iastore, 1) := by decide +kernel
theorem dX12_layArrivals_15 : decode cX12_layArrivals 15 = .ok (.iinc 3 1, 3) := by decide +kernel
theorem dX12_layArrivals_18 : decode cX12_layArrivals 18 = .ok (.goto (-16), 3) := by decide +kernel
theorem dX12_layArrivals_21 : decode cX12_layArrivals 21 = .ok (.iconst 0, 1) := by decide +kernel
theorem dX12_layArrivals_22 : decode cX12_layArrivals 22 = .ok (.istore_n 3, 1) := by decide +kernel
theorem dX12_layArrivals_23 : decode cX12_layArrivals 23 = .ok (.iload_n 3, 1) := by decide +kernel
theorem dX12_layArrivals_24 : decode cX12_layArrivals 24 = .ok (.aload_n 0, 1) := by decide +kernel
theorem dX12_layArrivals_25 : decode cX12_layArrivals 25 = .ok (.getfield 31, 3) := by decide +kernel
theorem dX12_layArrivals_28 : decode cX12_layArrivals 28 = .ok (.iload_n 1, 1) := by decide +kernel
theorem dX12_layArrivals_29 : decode cX12_layArrivals 29 = .ok (.iaload, 1) := by decide +kernel
theorem dX12_layArrivals_30 : decode cX12_layArrivals 30 = .ok (.if_icmp .ge 26, 3) := by decide +kernel
theorem dX12_layArrivals_33 : decode cX12_layArrivals 33 = .ok (.aload_n 0, 1) := by decide +kernel
theorem dX12_layArrivals_34 : decode cX12_layArrivals 34 = .ok (.iload_n 1, 1) := by decide +kernel
theorem dX12_layArrivals_35 : decode cX12_layArrivals 35 = .ok (.aload_n 0, 1) := by decide +kernel
theorem dX12_layArrivals_36 : decode cX12_layArrivals 36 = .ok (.getfield 28, 3) := by decide +kernel
theorem dX12_layArrivals_39 : decode cX12_layArrivals 39 = .ok (.bipush 9, 2) := by decide +kernel
theorem dX12_layArrivals_41 : decode cX12_layArrivals 41 = .ok (.iload_n 1, 1) := by decide +kernel
theorem dX12_layArrivals_42 : decode cX12_layArrivals 42 = .ok (.imul, 1) := by decide +kernel
theorem dX12_layArrivals_43 : decode cX12_layArrivals 43 = .ok (.iload_n 3, 1) := by decide +kernel
theorem dX12_layArrivals_44 : decode cX12_layArrivals 44 = .ok (.iadd, 1) := by decide +kernel
theorem dX12_layArrivals_45 : decode cX12_layArrivals 45 = .ok (.iaload, 1) := by decide +kernel
theorem dX12_layArrivals_46 : decode cX12_layArrivals 46 = .ok (.iload_n 2, 1) := by decide +kernel
theorem dX12_layArrivals_47 : decode cX12_layArrivals 47 = .ok (.invokevirtual 204, 3) := by decide +kernel
theorem dX12_layArrivals_50 : decode cX12_layArrivals 50 = .ok (.iinc 3 1, 3) := by decide +kernel
theorem dX12_layArrivals_53 : decode cX12_layArrivals 53 = .ok (.goto (-30), 3) := by decide +kernel
theorem dX12_layArrivals_56 : decode cX12_layArrivals 56 = .ok (.bipush 15, 2) := by decide +kernel
theorem dX12_layArrivals_58 : decode cX12_layArrivals 58 = .ok (.istore_n 3, 1) := by decide +kernel
theorem dX12_layArrivals_59 : decode cX12_layArrivals 59 = .ok (.iload_n 3, 1) := by decide +kernel
theorem dX12_layArrivals_60 : decode cX12_layArrivals 60 = .ok (.bipush 19, 2) := by decide +kernel
theorem dX12_layArrivals_62 : decode cX12_layArrivals 62 = .ok (.if_icmp .ge 25, 3) := by decide +kernel
theorem dX12_layArrivals_65 : decode cX12_layArrivals 65 = .ok (.aload_n 0, 1) := by decide +kernel
theorem dX12_layArrivals_66 : decode cX12_layArrivals 66 = .ok (.iload_n 1, 1) := by decide +kernel
theorem dX12_layArrivals_67 : decode cX12_layArrivals 67 = .ok (.iload_n 3, 1) := by decide +kernel
theorem dX12_layArrivals_68 : decode cX12_layArrivals 68 = .ok (.invokevirtual 153, 3) := by decide +kernel
theorem dX12_layArrivals_71 : decode cX12_layArrivals 71 = .ok (.ifCond .eq 10, 3) := by decide +kernel
theorem dX12_layArrivals_74 : decode cX12_layArrivals 74 = .ok (.aload_n 0, 1) := by decide +kernel
theorem dX12_layArrivals_75 : decode cX12_layArrivals 75 = .ok (.iload_n 1, 1) := by decide +kernel
theorem dX12_layArrivals_76 : decode cX12_layArrivals 76 = .ok (.iload_n 3, 1) := by decide +kernel
theorem dX12_layArrivals_77 : decode cX12_layArrivals 77 = .ok (.iload_n 2, 1) := by decide +kernel
theorem dX12_layArrivals_78 : decode cX12_layArrivals 78 = .ok (.invokevirtual 204, 3) := by decide +kernel
theorem dX12_layArrivals_81 : decode cX12_layArrivals 81 = .ok (.iinc 3 1, 3) := by decide +kernel
theorem dX12_layArrivals_84 : decode cX12_layArrivals 84 = .ok (.goto (-25), 3) := by decide +kernel
theorem dX12_layArrivals_87 : decode cX12_layArrivals 87 = .ok (.return_, 1) := by decide +kernel
def kX12_layArrivals_0 : List (Nat × zT) := [(0, a_i 0 1), (1, a_istore 3 2), (2, a_iload 3 3), (3, a_i 19 5), (5, a_ic_ge 21 8), (8, a_aload 0 9), (9, a_getR 12 23 12), (12, a_iload 3 13), (13, a_i 0 14), (14, a_iast 15), (15, a_iinc 3 1 18), (18, a_goto 2), (21, a_i 0 22), (22, a_istore 3 23), (23, a_iload 3 24), (24, a_aload 0 25), (25, a_getR 12 7 28), (28, a_iload 1 29), (29, a_iald 30), (30, a_ic_ge 56 33), (33, a_aload 0 34), (34, a_iload 1 35), (35, a_aload 0 36), (36, a_getR 12 6 39)]
theorem oX12_layArrivals_0 : ∀ q ∈ kX12_layArrivals_0, zSnd zty false RX12 cX12_layArrivals 4 none false q := List.forall_mem_cons.mpr ⟨ok_iconst dX12_layArrivals_0 (by decide), List.forall_mem_cons.mpr ⟨ok_istore_n dX12_layArrivals_1 rfl (by decide), List.forall_mem_cons.mpr ⟨ok_iload_n dX12_layArrivals_2 rfl, List.forall_mem_cons.mpr ⟨ok_bipush dX12_layArrivals_3 (by decide), List.forall_mem_cons.mpr ⟨ok_ic_ge dX12_layArrivals_5 (by decide), List.forall_mem_cons.mpr ⟨ok_aload_n dX12_layArrivals_8 rfl, List.forall_mem_cons.mpr ⟨ok_getR dX12_layArrivals_9 rfl in12 (by decide) rfl w980, List.forall_mem_cons.mpr ⟨ok_iload_n dX12_layArrivals_12 rfl, List.forall_mem_cons.mpr ⟨ok_iconst dX12_layArrivals_13 (by decide), List.forall_mem_cons.mpr ⟨ok_iast dX12_layArrivals_14, List.forall_mem_cons.mpr ⟨ok_iinc dX12_layArrivals_15 (by decide) (by decide), List.forall_mem_cons.mpr ⟨ok_goto dX12_layArrivals_18 (by decide), List.forall_mem_cons.mpr ⟨ok_iconst dX12_layArrivals_21 (by decide), List.forall_mem_cons.mpr ⟨ok_istore_n dX12_layArrivals_22 rfl (by decide), List.forall_mem_cons.mpr ⟨ok_iload_n dX12_layArrivals_23 rfl, List.forall_mem_cons.mpr ⟨ok_aload_n dX12_layArrivals_24 rfl, List.forall_mem_cons.mpr ⟨ok_getR dX12_layArrivals_25 rfl in12 (by decide) rfl w964, List.forall_mem_cons.mpr ⟨ok_iload_n dX12_layArrivals_28 rfl, List.forall_mem_cons.mpr ⟨ok_iald dX12_layArrivals_29, List.forall_mem_cons.mpr ⟨ok_ic_ge dX12_layArrivals_30 (by decide), List.forall_mem_cons.mpr ⟨ok_aload_n dX12_layArrivals_33 rfl, List.forall_mem_cons.mpr ⟨ok_iload_n dX12_layArrivals_34 rfl, List.forall_mem_cons.mpr ⟨ok_aload_n dX12_layArrivals_35 rfl, List.forall_mem_cons.mpr ⟨ok_getR dX12_layArrivals_36 rfl in12 (by decide) rfl w963, fun _ h => absurd h List.not_mem_nil⟩⟩⟩⟩⟩⟩⟩⟩⟩⟩⟩⟩⟩⟩⟩⟩⟩⟩⟩⟩⟩⟩⟩⟩
def kX12_layArrivals_1 : List (Nat × zT) := [(39, a_i 9 41), (41, a_iload 1 42), (42, a_ii (fun x y => x * y) 43), (43, a_iload 3 44), (44, a_ii (fun x y => x + y) 45), (45, a_iald 46), (46, a_iload 2 47), (47, a_callV 12 180 4 50 0 0), (50, a_iinc 3 1 53), (53, a_goto 23), (56, a_i 15 58), (58, a_istore 3 59), (59, a_iload 3 60), (60, a_i 19 62), (62, a_ic_ge 87 65), (65, a_aload 0 66), (66, a_iload 1 67), (67, a_iload 3 68), (68, a_callV 12 153 3 71 0 0), (71, a_if_eq 81 74), (74, a_aload 0 75), (75, a_iload 1 76), (76, a_iload 3 77), (77, a_iload 2 78)]
theorem oX12_layArrivals_1 : ∀ q ∈ kX12_layArrivals_1, zSnd zty false RX12 cX12_layArrivals 4 none false q := List.forall_mem_cons.mpr ⟨ok_bipush dX12_layArrivals_39 (by decide), List.forall_mem_cons.mpr ⟨ok_iload_n dX12_layArrivals_41 rfl, List.forall_mem_cons.mpr ⟨ok_imul dX12_layArrivals_42, List.forall_mem_cons.mpr ⟨ok_iload_n dX12_layArrivals_43 rfl, List.forall_mem_cons.mpr ⟨ok_iadd dX12_layArrivals_44, List.forall_mem_cons.mpr ⟨ok_iald dX12_layArrivals_45, List.forall_mem_cons.mpr ⟨ok_iload_n dX12_layArrivals_46 rfl, List.forall_mem_cons.mpr ⟨ok_callV dX12_layArrivals_47 rfl rfl w1250 w1247 w1249 w13 s41 (by decide +kernel) (by decide), List.forall_mem_cons.mpr ⟨ok_iinc dX12_layArrivals_50 (by decide) (by decide), List.forall_mem_cons.mpr ⟨ok_goto dX12_layArrivals_53 (by decide), List.forall_mem_cons.mpr ⟨ok_bipush dX12_layArrivals_56 (by decide), List.forall_mem_cons.mpr ⟨ok_istore_n dX12_layArrivals_58 rfl (by decide), List.forall_mem_cons.mpr ⟨ok_iload_n dX12_layArrivals_59 rfl, List.forall_mem_cons.mpr ⟨ok_bipush dX12_layArrivals_60 (by decide), List.forall_mem_cons.mpr ⟨ok_ic_ge dX12_layArrivals_62 (by decide), List.forall_mem_cons.mpr ⟨ok_aload_n dX12_layArrivals_65 rfl, List.forall_mem_cons.mpr ⟨ok_iload_n dX12_layArrivals_66 rfl, List.forall_mem_cons.mpr ⟨ok_iload_n dX12_layArrivals_67 rfl, List.forall_mem_cons.mpr ⟨ok_callV dX12_layArrivals_68 rfl rfl w1144 w1141 w1143 w13 s30 (by decide +kernel) (by decide), List.forall_mem_cons.mpr ⟨ok_if_eq dX12_layArrivals_71 (by decide), List.forall_mem_cons.mpr ⟨ok_aload_n dX12_layArrivals_74 rfl, List.forall_mem_cons.mpr ⟨ok_iload_n dX12_layArrivals_75 rfl, List.forall_mem_cons.mpr ⟨ok_iload_n dX12_layArrivals_76 rfl, List.forall_mem_cons.mpr ⟨ok_iload_n dX12_layArrivals_77 rfl, fun _ h => absurd h List.not_mem_nil⟩⟩⟩⟩⟩⟩⟩⟩⟩⟩⟩⟩⟩⟩⟩⟩⟩⟩⟩⟩⟩⟩⟩⟩
def kX12_layArrivals_2 : List (Nat × zT) := [(78, a_callV 12 180 4 81 0 0), (81, a_iinc 3 1 84), (84, a_goto 59), (87, a_vret)]
theorem oX12_layArrivals_2 : ∀ q ∈ kX12_layArrivals_2, zSnd zty false RX12 cX12_layArrivals 4 none false q := List.forall_mem_cons.mpr ⟨ok_callV dX12_layArrivals_78 rfl rfl w1250 w1247 w1249 w13 s41 (by decide +kernel) (by decide), List.forall_mem_cons.mpr ⟨ok_iinc dX12_layArrivals_81 (by decide) (by decide), List.forall_mem_cons.mpr ⟨ok_goto dX12_layArrivals_84 (by decide), List.forall_mem_cons.mpr ⟨ok_vret dX12_layArrivals_87 rfl, fun _ h => absurd h List.not_mem_nil⟩⟩⟩⟩
def kX12_layArrivals : List (Nat × zT) := kX12_layArrivals_0 ++ (kX12_layArrivals_1 ++ (kX12_layArrivals_2))
theorem qX12_layArrivals_0 : ∀ q ∈ kX12_layArrivals_0, q ∈ kX12_layArrivals := fun _ h => (List.mem_append_left _ h)
theorem tX12_layArrivals_0 : (0, a_i 0 1) ∈ kX12_layArrivals := qX12_layArrivals_0 _ (List.mem_of_getElem? (i := 0) rfl)
theorem tX12_layArrivals_1 : (1, a_istore 3 2) ∈ kX12_layArrivals := qX12_layArrivals_0 _ (List.mem_of_getElem? (i := 1) rfl)
theorem tX12_layArrivals_2 : (2, a_iload 3 3) ∈ kX12_layArrivals := qX12_layArrivals_0 _ (List.mem_of_getElem? (i := 2) rfl)
theorem tX12_layArrivals_3 : (3, a_i 19 5) ∈ kX12_layArrivals := qX12_layArrivals_0 _ (List.mem_of_getElem? (i := 3) rfl)
theorem tX12_layArrivals_5 : (5, a_ic_ge 21 8) ∈ kX12_layArrivals := qX12_layArrivals_0 _ (List.mem_of_getElem? (i := 4) rfl)
theorem tX12_layArrivals_8 : (8, a_aload 0 9) ∈ kX12_layArrivals := qX12_layArrivals_0 _ (List.mem_of_getElem? (i := 5) rfl)
theorem tX12_layArrivals_9 : (9, a_getR 12 23 12) ∈ kX12_layArrivals := qX12_layArrivals_0 _ (List.mem_of_getElem? (i := 6) rfl)
theorem tX12_layArrivals_12 : (12, a_iload 3 13) ∈ kX12_layArrivals := qX12_layArrivals_0 _ (List.mem_of_getElem? (i := 7) rfl)
theorem tX12_layArrivals_13 : (13, a_i 0 14) ∈ kX12_layArrivals := qX12_layArrivals_0 _ (List.mem_of_getElem? (i := 8) rfl)
theorem tX12_layArrivals_14 : (14, a_iast 15) ∈ kX12_layArrivals := qX12_layArrivals_0 _ (List.mem_of_getElem? (i := 9) rfl)
theorem tX12_layArrivals_15 : (15, a_iinc 3 1 18) ∈ kX12_layArrivals := qX12_layArrivals_0 _ (List.mem_of_getElem? (i := 10) rfl)
theorem tX12_layArrivals_18 : (18, a_goto 2) ∈ kX12_layArrivals := qX12_layArrivals_0 _ (List.mem_of_getElem? (i := 11) rfl)
theorem tX12_layArrivals_21 : (21, a_i 0 22) ∈ kX12_layArrivals := qX12_layArrivals_0 _ (List.mem_of_getElem? (i := 12) rfl)
theorem tX12_layArrivals_22 : (22, a_istore 3 23) ∈ kX12_layArrivals := qX12_layArrivals_0 _ (List.mem_of_getElem? (i := 13) rfl)
theorem tX12_layArrivals_23 : (23, a_iload 3 24) ∈ kX12_layArrivals := qX12_layArrivals_0 _ (List.mem_of_getElem? (i := 14) rfl)
theorem tX12_layArrivals_24 : (24, a_aload 0 25) ∈ kX12_layArrivals := qX12_layArrivals_0 _ (List.mem_of_getElem? (i := 15) rfl)
theorem tX12_layArrivals_25 : (25, a_getR 12 7 28) ∈ kX12_layArrivals := qX12_layArrivals_0 _ (List.mem_of_getElem? (i := 16) rfl)
theorem tX12_layArrivals_28 : (28, a_iload 1 29) ∈ kX12_layArrivals := qX12_layArrivals_0 _ (List.mem_of_getElem? (i := 17) rfl)
theorem tX12_layArrivals_29 : (29, a_iald 30) ∈ kX12_layArrivals := qX12_layArrivals_0 _ (List.mem_of_getElem? (i := 18) rfl)
theorem tX12_layArrivals_30 : (30, a_ic_ge 56 33) ∈ kX12_layArrivals := qX12_layArrivals_0 _ (List.mem_of_getElem? (i := 19) rfl)
theorem tX12_layArrivals_33 : (33, a_aload 0 34) ∈ kX12_layArrivals := qX12_layArrivals_0 _ (List.mem_of_getElem? (i := 20) rfl)
theorem tX12_layArrivals_34 : (34, a_iload 1 35) ∈ kX12_layArrivals := qX12_layArrivals_0 _ (List.mem_of_getElem? (i := 21) rfl)
theorem tX12_layArrivals_35 : (35, a_aload 0 36) ∈ kX12_layArrivals := qX12_layArrivals_0 _ (List.mem_of_getElem? (i := 22) rfl)
theorem tX12_layArrivals_36 : (36, a_getR 12 6 39) ∈ kX12_layArrivals := qX12_layArrivals_0 _ (List.mem_of_getElem? (i := 23) rfl)
theorem qX12_layArrivals_1 : ∀ q ∈ kX12_layArrivals_1, q ∈ kX12_layArrivals := fun _ h => (List.mem_append_right _ (List.mem_append_left _ h))
theorem tX12_layArrivals_39 : (39, a_i 9 41) ∈ kX12_layArrivals := qX12_layArrivals_1 _ (List.mem_of_getElem? (i := 0) rfl)
theorem tX12_layArrivals_41 : (41, a_iload 1 42) ∈ kX12_layArrivals := qX12_layArrivals_1 _ (List.mem_of_getElem? (i := 1) rfl)
theorem tX12_layArrivals_42 : (42, a_ii (fun x y => x * y) 43) ∈ kX12_layArrivals := qX12_layArrivals_1 _ (List.mem_of_getElem? (i := 2) rfl)
theorem tX12_layArrivals_43 : (43, a_iload 3 44) ∈ kX12_layArrivals := qX12_layArrivals_1 _ (List.mem_of_getElem? (i := 3) rfl)
theorem tX12_layArrivals_44 : (44, a_ii (fun x y => x + y) 45) ∈ kX12_layArrivals := qX12_layArrivals_1 _ (List.mem_of_getElem? (i := 4) rfl)
theorem tX12_layArrivals_45 : (45, a_iald 46) ∈ kX12_layArrivals := qX12_layArrivals_1 _ (List.mem_of_getElem? (i := 5) rfl)
theorem tX12_layArrivals_46 : (46, a_iload 2 47) ∈ kX12_layArrivals := qX12_layArrivals_1 _ (List.mem_of_getElem? (i := 6) rfl)
theorem tX12_layArrivals_47 : (47, a_callV 12 180 4 50 0 0) ∈ kX12_layArrivals := qX12_layArrivals_1 _ (List.mem_of_getElem? (i := 7) rfl)
theorem tX12_layArrivals_50 : (50, a_iinc 3 1 53) ∈ kX12_layArrivals := qX12_layArrivals_1 _ (List.mem_of_getElem? (i := 8) rfl)
theorem tX12_layArrivals_53 : (53, a_goto 23) ∈ kX12_layArrivals := qX12_layArrivals_1 _ (List.mem_of_getElem? (i := 9) rfl)
theorem tX12_layArrivals_56 : (56, a_i 15 58) ∈ kX12_layArrivals := qX12_layArrivals_1 _ (List.mem_of_getElem? (i := 10) rfl)
theorem tX12_layArrivals_58 : (58, a_istore 3 59) ∈ kX12_layArrivals := qX12_layArrivals_1 _ (List.mem_of_getElem? (i := 11) rfl)
theorem tX12_layArrivals_59 : (59, a_iload 3 60) ∈ kX12_layArrivals := qX12_layArrivals_1 _ (List.mem_of_getElem? (i := 12) rfl)
theorem tX12_layArrivals_60 : (60, a_i 19 62) ∈ kX12_layArrivals := qX12_layArrivals_1 _ (List.mem_of_getElem? (i := 13) rfl)
theorem tX12_layArrivals_62 : (62, a_ic_ge 87 65) ∈ kX12_layArrivals := qX12_layArrivals_1 _ (List.mem_of_getElem? (i := 14) rfl)
theorem tX12_layArrivals_65 : (65, a_aload 0 66) ∈ kX12_layArrivals := qX12_layArrivals_1 _ (List.mem_of_getElem? (i := 15) rfl)
theorem tX12_layArrivals_66 : (66, a_iload 1 67) ∈ kX12_layArrivals := qX12_layArrivals_1 _ (List.mem_of_getElem? (i := 16) rfl)
theorem tX12_layArrivals_67 : (67, a_iload 3 68) ∈ kX12_layArrivals := qX12_layArrivals_1 _ (List.mem_of_getElem? (i := 17) rfl)
theorem tX12_layArrivals_68 : (68, a_callV 12 153 3 71 0 0) ∈ kX12_layArrivals := qX12_layArrivals_1 _ (List.mem_of_getElem? (i := 18) rfl)
theorem tX12_layArrivals_71 : (71, a_if_eq 81 74) ∈ kX12_layArrivals := qX12_layArrivals_1 _ (List.mem_of_getElem? (i := 19) rfl)
theorem tX12_layArrivals_74 : (74, a_aload 0 75) ∈ kX12_layArrivals := qX12_layArrivals_1 _ (List.mem_of_getElem? (i := 20) rfl)
theorem tX12_layArrivals_75 : (75, a_iload 1 76) ∈ kX12_layArrivals := qX12_layArrivals_1 _ (List.mem_of_getElem? (i := 21) rfl)
theorem tX12_layArrivals_76 : (76, a_iload 3 77) ∈ kX12_layArrivals := qX12_layArrivals_1 _ (List.mem_of_getElem? (i := 22) rfl)
theorem tX12_layArrivals_77 : (77, a_iload 2 78) ∈ kX12_layArrivals := qX12_layArrivals_1 _ (List.mem_of_getElem? (i := 23) rfl)
theorem qX12_layArrivals_2 : ∀ q ∈ kX12_layArrivals_2, q ∈ kX12_layArrivals := fun _ h => (List.mem_append_right _ (List.mem_append_right _ h))
theorem tX12_layArrivals_78 : (78, a_callV 12 180 4 81 0 0) ∈ kX12_layArrivals := qX12_layArrivals_2 _ (List.mem_of_getElem? (i := 0) rfl)
theorem tX12_layArrivals_81 : (81, a_iinc 3 1 84) ∈ kX12_layArrivals := qX12_layArrivals_2 _ (List.mem_of_getElem? (i := 1) rfl)
theorem tX12_layArrivals_84 : (84, a_goto 59) ∈ kX12_layArrivals := qX12_layArrivals_2 _ (List.mem_of_getElem? (i := 2) rfl)
theorem tX12_layArrivals_87 : (87, a_vret) ∈ kX12_layArrivals := qX12_layArrivals_2 _ (List.mem_of_getElem? (i := 3) rfl)
theorem oX12_layArrivals : ∀ q ∈ kX12_layArrivals, zSnd zty false RX12 cX12_layArrivals 4 none false q := List.forall_mem_append.mpr ⟨oX12_layArrivals_0, List.forall_mem_append.mpr ⟨oX12_layArrivals_1, oX12_layArrivals_2⟩⟩
theorem dX12_arrival_0 : decode cX12_arrival 0 = .ok (.iload_n 1, 1) := by decide +kernel
theorem dX12_arrival_1 : decode cX12_arrival 1 = .ok (.iconst 0, 1) := by decide +kernel
theorem dX12_arrival_2 : decode cX12_arrival 2 = .ok (.iconst 1, 1) := by decide +kernel
theorem dX12_arrival_3 : decode cX12_arrival 3 = .ok (.invokestatic 112, 3) := by decide +kernel
theorem dX12_arrival_6 : decode cX12_arrival 6 = .ok (.ifCond .eq 22, 3) := by decide +kernel
theorem dX12_arrival_9 : decode cX12_arrival 9 = .ok (.iload_n 2, 1) := by decide +kernel
theorem dX12_arrival_10 : decode cX12_arrival 10 = .ok (.iconst 0, 1) := by decide +kernel
theorem dX12_arrival_11 : decode cX12_arrival 11 = .ok (.bipush 18, 2) := by decide +kernel
theorem dX12_arrival_13 : decode cX12_arrival 13 = .ok (.invokestatic 112, 3) := by decide +kernel
theorem dX12_arrival_16 : decode cX12_arrival 16 = .ok (.ifCond .eq 12, 3) := by decide +kernel
theorem dX12_arrival_19 : decode cX12_arrival 19 = .ok (.iload_n 3, 1) := by decide +kernel
theorem dX12_arrival_20 : decode cX12_arrival 20 = .ok (.iconst 0, 1) := by decide +kernel
theorem dX12_arrival_21 : decode cX12_arrival 21 = .ok (.iconst 2, 1) := by decide +kernel
theorem dX12_arrival_22 : decode cX12_arrival 22 = .ok (.invokestatic 112, 3) := by decide +kernel
theorem dX12_arrival_25 : decode cX12_arrival 25 = .ok (.ifCond .ne 5, 3) := by decide +kernel
theorem dX12_arrival_28 : decode cX12_arrival 28 = .ok (.iconst (-1), 1) := by decide +kernel
theorem dX12_arrival_29 : decode cX12_arrival 29 = .ok (.ireturn, 1) := by decide +kernel
theorem dX12_arrival_30 : decode cX12_arrival 30 = .ok (.aload_n 0, 1) := by decide +kernel
theorem dX12_arrival_31 : decode cX12_arrival 31 = .ok (.iload_n 1, 1) := by decide +kernel
theorem dX12_arrival_32 : decode cX12_arrival 32 = .ok (.iload_n 3, 1) := by decide +kernel
theorem dX12_arrival_33 : decode cX12_arrival 33 = .ok (.invokevirtual 208, 3) := by decide +kernel
theorem dX12_arrival_36 : decode cX12_arrival 36 = .ok (.aload_n 0, 1) := by decide +kernel
theorem dX12_arrival_37 : decode cX12_arrival 37 = .ok (.getfield 71, 3) := by decide +kernel
theorem dX12_arrival_40 : decode cX12_arrival 40 = .ok (.iload_n 2, 1) := by decide +kernel
theorem dX12_arrival_41 : decode cX12_arrival 41 = .ok (.iaload, 1) := by decide +kernel
theorem dX12_arrival_42 : decode cX12_arrival 42 = .ok (.ireturn, 1) := by decide +kernel
def kX12_arrival_0 : List (Nat × zT) := [(0, a_iload 1 1), (1, a_i 0 2), (2, a_i 1 3), (3, a_call 138 3 6 0 0), (6, a_if_eq 28 9), (9, a_iload 2 10), (10, a_i 0 11), (11, a_i 18 13), (13, a_call 138 3 16 0 0), (16, a_if_eq 28 19), (19, a_iload 3 20), (20, a_i 0 21), (21, a_i 2 22), (22, a_call 138 3 25 0 0), (25, a_if_ne 30 28), (28, a_i (-1) 29), (29, a_iret false), (30, a_aload 0 31), (31, a_iload 1 32), (32, a_iload 3 33), (33, a_callV 12 181 3 36 0 0), (36, a_aload 0 37), (37, a_getR 12 23 40), (40, a_iload 2 41)]
theorem oX12_arrival_0 : ∀ q ∈ kX12_arrival_0, zSnd zty false RX12 cX12_arrival 4 (some .int) false q := List.forall_mem_cons.mpr ⟨ok_iload_n dX12_arrival_0 rfl, List.forall_mem_cons.mpr ⟨ok_iconst dX12_arrival_1 (by decide), List.forall_mem_cons.mpr ⟨ok_iconst dX12_arrival_2 (by decide), List.forall_mem_cons.mpr ⟨ok_callS dX12_arrival_3 rfl w1084 w1082 w1083 w13 (by decide +kernel) (by decide), List.forall_mem_cons.mpr ⟨ok_if_eq dX12_arrival_6 (by decide), List.forall_mem_cons.mpr ⟨ok_iload_n dX12_arrival_9 rfl, List.forall_mem_cons.mpr ⟨ok_iconst dX12_arrival_10 (by decide), List.forall_mem_cons.mpr ⟨ok_bipush dX12_arrival_11 (by decide), List.forall_mem_cons.mpr ⟨ok_callS dX12_arrival_13 rfl w1084 w1082 w1083 w13 (by decide +kernel) (by decide), List.forall_mem_cons.mpr ⟨ok_if_eq dX12_arrival_16 (by decide), List.forall_mem_cons.mpr ⟨ok_iload_n dX12_arrival_19 rfl, List.forall_mem_cons.mpr ⟨ok_iconst dX12_arrival_20 (by decide), List.forall_mem_cons.mpr ⟨ok_iconst dX12_arrival_21 (by decide), List.forall_mem_cons.mpr ⟨ok_callS dX12_arrival_22 rfl w1084 w1082 w1083 w13 (by decide +kernel) (by decide), List.forall_mem_cons.mpr ⟨ok_if_ne dX12_arrival_25 (by decide), List.forall_mem_cons.mpr ⟨ok_iconst dX12_arrival_28 (by decide), List.forall_mem_cons.mpr ⟨ok_iret (bz := false) dX12_arrival_29 rfl, List.forall_mem_cons.mpr ⟨ok_aload_n dX12_arrival_30 rfl, List.forall_mem_cons.mpr ⟨ok_iload_n dX12_arrival_31 rfl, List.forall_mem_cons.mpr ⟨ok_iload_n dX12_arrival_32 rfl, List.forall_mem_cons.mpr ⟨ok_callV dX12_arrival_33 rfl rfl w1246 w1243 w1245 w13 s40 (by decide +kernel) (by decide), List.forall_mem_cons.mpr ⟨ok_aload_n dX12_arrival_36 rfl, List.forall_mem_cons.mpr ⟨ok_getR dX12_arrival_37 rfl in12 (by decide) rfl w980, List.forall_mem_cons.mpr ⟨ok_iload_n dX12_arrival_40 rfl, fun _ h => absurd h List.not_mem_nil⟩⟩⟩⟩⟩⟩⟩⟩⟩⟩⟩⟩⟩⟩⟩⟩⟩⟩⟩⟩⟩⟩⟩⟩
def kX12_arrival_1 : List (Nat × zT) := [(41, a_iald 42), (42, a_iret false)]
theorem oX12_arrival_1 : ∀ q ∈ kX12_arrival_1, zSnd zty false RX12 cX12_arrival 4 (some .int) false q := List.forall_mem_cons.mpr ⟨ok_iald dX12_arrival_41, List.forall_mem_cons.mpr ⟨ok_iret (bz := false) dX12_arrival_42 rfl, fun _ h => absurd h List.not_mem_nil⟩⟩
def kX12_arrival : List (Nat × zT) := kX12_arrival_0 ++ (kX12_arrival_1)
theorem qX12_arrival_0 : ∀ q ∈ kX12_arrival_0, q ∈ kX12_arrival := fun _ h => (List.mem_append_left _ h)
theorem tX12_arrival_0 : (0, a_iload 1 1) ∈ kX12_arrival := qX12_arrival_0 _ (List.mem_of_getElem? (i := 0) rfl)
theorem tX12_arrival_1 : (1, a_i 0 2) ∈ kX12_arrival := qX12_arrival_0 _ (List.mem_of_getElem? (i := 1) rfl)
theorem tX12_arrival_2 : (2, a_i 1 3) ∈ kX12_arrival := qX12_arrival_0 _ (List.mem_of_getElem? (i := 2) rfl)
theorem tX12_arrival_3 : (3, a_call 138 3 6 0 0) ∈ kX12_arrival := qX12_arrival_0 _ (List.mem_of_getElem? (i := 3) rfl)
theorem tX12_arrival_6 : (6, a_if_eq 28 9) ∈ kX12_arrival := qX12_arrival_0 _ (List.mem_of_getElem? (i := 4) rfl)
theorem tX12_arrival_9 : (9, a_iload 2 10) ∈ kX12_arrival := qX12_arrival_0 _ (List.mem_of_getElem? (i := 5) rfl)
theorem tX12_arrival_10 : (10, a_i 0 11) ∈ kX12_arrival := qX12_arrival_0 _ (List.mem_of_getElem? (i := 6) rfl)
theorem tX12_arrival_11 : (11, a_i 18 13) ∈ kX12_arrival := qX12_arrival_0 _ (List.mem_of_getElem? (i := 7) rfl)
theorem tX12_arrival_13 : (13, a_call 138 3 16 0 0) ∈ kX12_arrival := qX12_arrival_0 _ (List.mem_of_getElem? (i := 8) rfl)
theorem tX12_arrival_16 : (16, a_if_eq 28 19) ∈ kX12_arrival := qX12_arrival_0 _ (List.mem_of_getElem? (i := 9) rfl)
theorem tX12_arrival_19 : (19, a_iload 3 20) ∈ kX12_arrival := qX12_arrival_0 _ (List.mem_of_getElem? (i := 10) rfl)
theorem tX12_arrival_20 : (20, a_i 0 21) ∈ kX12_arrival := qX12_arrival_0 _ (List.mem_of_getElem? (i := 11) rfl)
theorem tX12_arrival_21 : (21, a_i 2 22) ∈ kX12_arrival := qX12_arrival_0 _ (List.mem_of_getElem? (i := 12) rfl)
theorem tX12_arrival_22 : (22, a_call 138 3 25 0 0) ∈ kX12_arrival := qX12_arrival_0 _ (List.mem_of_getElem? (i := 13) rfl)
theorem tX12_arrival_25 : (25, a_if_ne 30 28) ∈ kX12_arrival := qX12_arrival_0 _ (List.mem_of_getElem? (i := 14) rfl)
theorem tX12_arrival_28 : (28, a_i (-1) 29) ∈ kX12_arrival := qX12_arrival_0 _ (List.mem_of_getElem? (i := 15) rfl)
theorem tX12_arrival_29 : (29, a_iret false) ∈ kX12_arrival := qX12_arrival_0 _ (List.mem_of_getElem? (i := 16) rfl)
theorem tX12_arrival_30 : (30, a_aload 0 31) ∈ kX12_arrival := qX12_arrival_0 _ (List.mem_of_getElem? (i := 17) rfl)
theorem tX12_arrival_31 : (31, a_iload 1 32) ∈ kX12_arrival := qX12_arrival_0 _ (List.mem_of_getElem? (i := 18) rfl)
theorem tX12_arrival_32 : (32, a_iload 3 33) ∈ kX12_arrival := qX12_arrival_0 _ (List.mem_of_getElem? (i := 19) rfl)
theorem tX12_arrival_33 : (33, a_callV 12 181 3 36 0 0) ∈ kX12_arrival := qX12_arrival_0 _ (List.mem_of_getElem? (i := 20) rfl)
theorem tX12_arrival_36 : (36, a_aload 0 37) ∈ kX12_arrival := qX12_arrival_0 _ (List.mem_of_getElem? (i := 21) rfl)
theorem tX12_arrival_37 : (37, a_getR 12 23 40) ∈ kX12_arrival := qX12_arrival_0 _ (List.mem_of_getElem? (i := 22) rfl)
theorem tX12_arrival_40 : (40, a_iload 2 41) ∈ kX12_arrival := qX12_arrival_0 _ (List.mem_of_getElem? (i := 23) rfl)
theorem qX12_arrival_1 : ∀ q ∈ kX12_arrival_1, q ∈ kX12_arrival := fun _ h => (List.mem_append_right _ h)
theorem tX12_arrival_41 : (41, a_iald 42) ∈ kX12_arrival := qX12_arrival_1 _ (List.mem_of_getElem? (i := 0) rfl)
theorem tX12_arrival_42 : (42, a_iret false) ∈ kX12_arrival := qX12_arrival_1 _ (List.mem_of_getElem? (i := 1) rfl)
theorem oX12_arrival : ∀ q ∈ kX12_arrival, zSnd zty false RX12 cX12_arrival 4 (some .int) false q := List.forall_mem_append.mpr ⟨oX12_arrival_0, oX12_arrival_1⟩
theorem dX12_worst_0 : decode cX12_worst 0 = .ok (.iload_n 1, 1) := by decide +kernel
theorem dX12_worst_1 : decode cX12_worst 1 = .ok (.iconst 0, 1) := by decide +kernel
theorem dX12_worst_2 : decode cX12_worst 2 = .ok (.iconst 1, 1) := by decide +kernel
theorem dX12_worst_3 : decode cX12_worst 3 = .ok (.invokestatic 112, 3) := by decide +kernel
theorem dX12_worst_6 : decode cX12_worst 6 = .ok (.ifCond .eq 18, 3) := by decide +kernel
theorem dX12_worst_9 : decode cX12_worst 9 = .ok (.iload_n 2, 1) := by decide +kernel
theorem dX12_worst_10 : decode cX12_worst 10 = .ok (.iconst 0, 1) := by decide +kernel
theorem dX12_worst_11 : decode cX12_worst 11 = .ok (.iconst 2, 1) := by decide +kernel
theorem dX12_worst_12 : decode cX12_worst 12 = .ok (.invokestatic 112, 3) := by decide +kernel
theorem dX12_worst_15 : decode cX12_worst 15 = .ok (.ifCond .eq 9, 3) := by decide +kernel
theorem dX12_worst_18 : decode cX12_worst 18 = .ok (.iload_n 3, 1) := by decide +kernel
theorem dX12_worst_19 : decode cX12_worst 19 = .ok (.bipush (-2), 2) := by decide +kernel
theorem dX12_worst_21 : decode cX12_worst 21 = .ok (.if_icmp .ge 7, 3) := by decide +kernel
theorem dX12_worst_24 : decode cX12_worst 24 = .ok (.sipush (-10001), 3) := by decide +kernel
theorem dX12_worst_27 : decode cX12_worst 27 = .ok (.ireturn, 1) := by decide +kernel
theorem dX12_worst_28 : decode cX12_worst 28 = .ok (.aload_n 0, 1) := by decide +kernel
theorem dX12_worst_29 : decode cX12_worst 29 = .ok (.iload_n 1, 1) := by decide +kernel
theorem dX12_worst_30 : decode cX12_worst 30 = .ok (.iload_n 2, 1) := by decide +kernel
theorem dX12_worst_31 : decode cX12_worst 31 = .ok (.invokevirtual 208, 3) := by decide +kernel
theorem dX12_worst_34 : decode cX12_worst 34 = .ok (.bipush (-4), 2) := by decide +kernel
theorem dX12_worst_36 : decode cX12_worst 36 = .ok (.istore 4, 2) := by decide +kernel
theorem dX12_worst_38 : decode cX12_worst 38 = .ok (.bipush 6, 2) := by decide +kernel
theorem dX12_worst_40 : decode cX12_worst 40 = .ok (.istore 5, 2) := by decide +kernel
theorem dX12_worst_42 : decode cX12_worst 42 = .ok (.iload 5, 2) := by decide +kernel
theorem dX12_worst_44 : decode cX12_worst 44 = .ok (.bipush 19, 2) := by decide +kernel
theorem dX12_worst_46 : decode cX12_worst 46 = .ok (.if_icmp .ge 52, 3) := by decide +kernel
theorem dX12_worst_49 : decode cX12_worst 49 = .ok (.aload_n 0, 1) := by decide +kernel
theorem dX12_worst_50 : decode cX12_worst 50 = .ok (.iload_n 1, 1) := by decide +kernel
theorem dX12_worst_51 : decode cX12_worst 51 = .ok (.iload 5, 2) := by decide +kernel
theorem dX12_worst_53 : decode cX12_worst 53 = .ok (.invokevirtual 153, 3) := by decide +kernel
theorem dX12_worst_56 : decode cX12_worst 56 = .ok (.ifCond .eq 32, 3) := by decide +kernel
theorem dX12_worst_59 : decode cX12_worst 59 = .ok (.iload 4, 2) := by decide +kernel
theorem dX12_worst_61 : decode cX12_worst 61 = .ok (.bipush (-4), 2) := by decide +kernel
theorem dX12_worst_63 : decode cX12_worst 63 = .ok (.if_icmp .eq 20, 3) := by decide +kernel
theorem dX12_worst_66 : decode cX12_worst 66 = .ok (.aload_n 0, 1) := by decide +kernel
theorem dX12_worst_67 : decode cX12_worst 67 = .ok (.getfield 71, 3) := by decide +kernel
theorem dX12_worst_70 : decode cX12_worst 70 = .ok (.iload 5, 2) := by decide +kernel
theorem dX12_worst_72 : decode cX12_worst 72 = .ok (.iaload, 1) := by decide +kernel
theorem dX12_worst_73 : decode cX12_worst 73 = .ok (.aload_n 0, 1) := by decide +kernel
theorem dX12_worst_74 : decode cX12_worst 74 = .ok (.getfield 71, 3) := by decide +kernel
theorem dX12_worst_77 : decode cX12_worst 77 = .ok (.iload 4, 2) := by decide +kernel
theorem dX12_worst_79 : decode cX12_worst 79 = .ok (.iaload, 1) := by decide +kernel
theorem dX12_worst_80 : decode cX12_worst 80 = .ok (.if_icmp .le 8, 3) := by decide +kernel
theorem dX12_worst_83 : decode cX12_worst 83 = .ok (.iload 5, 2) := by decide +kernel
theorem dX12_worst_85 : decode cX12_worst 85 = .ok (.goto 5, 3) := by decide +kernel
theorem dX12_worst_88 : decode cX12_worst 88 = .ok (.iload 4, 2) := by decide +kernel
theorem dX12_worst_90 : decode cX12_worst 90 = .ok (.istore 4, 2) := by decide +kernel
theorem dX12_worst_92 : decode cX12_worst 92 = .ok (.iinc 5 1, 3) := by decide +kernel
theorem dX12_worst_95 : decode cX12_worst 95 = .ok (.goto (-53), 3) := by decide +kernel
theorem dX12_worst_98 : decode cX12_worst 98 = .ok (.iload 4, 2) := by decide +kernel
theorem dX12_worst_100 : decode cX12_worst 100 = .ok (.bipush (-4), 2) := by decide +kernel
theorem dX12_worst_102 : decode cX12_worst 102 = .ok (.if_icmp .ne 18, 3) := by decide +kernel
theorem dX12_worst_105 : decode cX12_worst 105 = .ok (.iload_n 3, 1) := by decide +kernel
theorem dX12_worst_106 : decode cX12_worst 106 = .ok (.bipush (-2), 2) := by decide +kernel
theorem dX12_worst_108 : decode cX12_worst 108 = .ok (.if_icmp .ne 9, 3) := by decide +kernel
theorem dX12_worst_111 : decode cX12_worst 111 = .ok (.sipush (-10000), 3) := by decide +kernel
theorem dX12_worst_114 : decode cX12_worst 114 = .ok (.goto 5, 3) := by decide +kernel
theorem dX12_worst_117 : decode cX12_worst 117 = .ok (.bipush (-4), 2) := by decide +kernel
theorem dX12_worst_119 : decode cX12_worst 119 = .ok (.ireturn, 1) := by decide +kernel
theorem dX12_worst_120 : decode cX12_worst 120 = .ok (.iload_n 3, 1) := by decide +kernel
theorem dX12_worst_121 : decode cX12_worst 121 = .ok (.ifCond .ge 28, 3) := by decide +kernel
theorem dX12_worst_124 : decode cX12_worst 124 = .ok (.iload_n 3, 1) := by decide +kernel
theorem dX12_worst_125 : decode cX12_worst 125 = .ok (.iconst (-1), 1) := by decide +kernel
theorem dX12_worst_126 : decode cX12_worst 126 = .ok (.if_icmp .ne 8, 3) := by decide +kernel
theorem dX12_worst_129 : decode cX12_worst 129 = .ok (.iload 4, 2) := by decide +kernel
theorem dX12_worst_131 : decode cX12_worst 131 = .ok (.goto 17, 3) := by decide +kernel
theorem dX12_worst_134 : decode cX12_worst 134 = .ok (.aload_n 0, 1) := by decide +kernel
theorem dX12_worst_135 : decode cX12_worst 135 = .ok (.getfield 49, 3) := by decide +kernel
theorem dX12_worst_138 : decode cX12_worst 138 = .ok (.iconst 4, 1) := by decide +kernel
theorem dX12_worst_139 : decode cX12_worst 139 = .ok (.iaload, 1) := by decide +kernel
theorem dX12_worst_140 : decode cX12_worst 140 = .ok (.aload_n 0, 1) := by decide +kernel
theorem dX12_worst_141 : decode cX12_worst 141 = .ok (.getfield 71, 3) := by decide +kernel
theorem dX12_worst_144 : decode cX12_worst 144 = .ok (.iload 4, 2) := by decide +kernel
theorem dX12_worst_146 : decode cX12_worst 146 = .ok (.iaload, 1) := by decide +kernel
theorem dX12_worst_147 : decode cX12_worst 147 = .ok (.isub, 1) := by decide +kernel
theorem dX12_worst_148 : decode cX12_worst 148 = .ok (.ireturn, 1) := by decide +kernel
theorem dX12_worst_149 : decode cX12_worst 149 = .ok (.iload 4, 2) := by decide +kernel
theorem dX12_worst_151 : decode cX12_worst 151 = .ok (.istore 5, 2) := by decide +kernel
theorem dX12_worst_153 : decode cX12_worst 153 = .ok (.iconst 0, 1) := by decide +kernel
theorem dX12_worst_154 : decode cX12_worst 154 = .ok (.istore 6, 2) := by decide +kernel
theorem dX12_worst_156 : decode cX12_worst 156 = .ok (.iload 6, 2) := by decide +kernel
theorem dX12_worst_158 : decode cX12_worst 158 = .ok (.iload_n 3, 1) := by decide +kernel
theorem dX12_worst_159 : decode cX12_worst 159 = .ok (.if_icmp .ge 47, 3) := by decide +kernel
theorem dX12_worst_162 : decode cX12_worst 162 = .ok (.iload 5, 2) := by decide +kernel
theorem dX12_worst_164 : decode cX12_worst 164 = .ok (.bipush (-4), 2) := by decide +kernel
theorem dX12_worst_166 : decode cX12_worst 166 = .ok (.if_icmp .eq 40, 3) := by decide +kernel
theorem dX12_worst_169 : decode cX12_worst 169 = .ok (.iload 6, 2) := by decide +kernel
theorem dX12_worst_171 : decode cX12_worst 171 = .ok (.ifCond .eq 15, 3) := by decide +kernel
theorem dX12_worst_174 : decode cX12_worst 174 = .ok (.iload 5, 2) := by decide +kernel
theorem dX12_worst_176 : decode cX12_worst 176 = .ok (.bipush 6, 2) := by decide +kernel
theorem dX12_worst_178 : decode cX12_worst 178 = .ok (.bipush 14, 2) := by decide +kernel
theorem dX12_worst_180 : decode cX12_worst 180 = .ok (.invokestatic 112, 3) := by decide +kernel
theorem dX12_worst_183 : decode cX12_worst 183 = .ok (.ifCond .eq 13, 3) := by decide +kernel
theorem dX12_worst_186 : decode cX12_worst 186 = .ok (.aload_n 0, 1) := by decide +kernel
theorem dX12_worst_187 : decode cX12_worst 187 = .ok (.getfield 74, 3) := by decide +kernel
theorem dX12_worst_190 : decode cX12_worst 190 = .ok (.iload 5, 2) := by decide +kernel
theorem dX12_worst_192 : decode cX12_worst 192 = .ok (.iaload, 1) := by decide +kernel
theorem dX12_worst_193 : decode cX12_worst 193 = .ok (.goto 5, 3) := by decide +kernel
theorem dX12_worst_196 : decode cX12_worst 196 = .ok (.bipush (-4), 2) := by decide +kernel
theorem dX12_worst_198 : decode cX12_worst 198 = .ok (.istore 5, 2) := by decide +kernel
theorem dX12_worst_200 : decode cX12_worst 200 = .ok (.iinc 6 1, 3) := by decide +kernel
theorem dX12_worst_203 : decode cX12_worst 203 = .ok (.goto (-47), 3) := by decide +kernel
theorem dX12_worst_206 : decode cX12_worst 206 = .ok (.iload 5, 2) := by decide +kernel
theorem dX12_worst_208 : decode cX12_worst 208 = .ok (.ireturn, 1) := by decide +kernel
def kX12_worst_0 : List (Nat × zT) := [(0, a_iload 1 1), (1, a_i 0 2), (2, a_i 1 3), (3, a_call 138 3 6 0 0), (6, a_if_eq 24 9), (9, a_iload 2 10), (10, a_i 0 11), (11, a_i 2 12), (12, a_call 138 3 15 0 0), (15, a_if_eq 24 18), (18, a_iload 3 19), (19, a_i (-2) 21), (21, a_ic_ge 28 24), (24, a_i (-10001) 27), (27, a_iret false), (28, a_aload 0 29), (29, a_iload 1 30), (30, a_iload 2 31), (31, a_callV 12 181 3 34 0 0), (34, a_i (-4) 36), (36, a_istore 4 38), (38, a_i 6 40), (40, a_istore 5 42), (42, a_iload 5 44)]
theorem oX12_worst_0 : ∀ q ∈ kX12_worst_0, zSnd zty false RX12 cX12_worst 7 (some .int) false q := List.forall_mem_cons.mpr ⟨ok_iload_n dX12_worst_0 rfl, List.forall_mem_cons.mpr ⟨ok_iconst dX12_worst_1 (by decide), List.forall_mem_cons.mpr ⟨ok_iconst dX12_worst_2 (by decide), List.forall_mem_cons.mpr ⟨ok_callS dX12_worst_3 rfl w1084 w1082 w1083 w13 (by decide +kernel) (by decide), List.forall_mem_cons.mpr ⟨ok_if_eq dX12_worst_6 (by decide), List.forall_mem_cons.mpr ⟨ok_iload_n dX12_worst_9 rfl, List.forall_mem_cons.mpr ⟨ok_iconst dX12_worst_10 (by decide), List.forall_mem_cons.mpr ⟨ok_iconst dX12_worst_11 (by decide), List.forall_mem_cons.mpr ⟨ok_callS dX12_worst_12 rfl w1084 w1082 w1083 w13 (by decide +kernel) (by decide), List.forall_mem_cons.mpr ⟨ok_if_eq dX12_worst_15 (by decide), List.forall_mem_cons.mpr ⟨ok_iload_n dX12_worst_18 rfl, List.forall_mem_cons.mpr ⟨ok_bipush dX12_worst_19 (by decide), List.forall_mem_cons.mpr ⟨ok_ic_ge dX12_worst_21 (by decide), List.forall_mem_cons.mpr ⟨ok_sipush dX12_worst_24 (by decide), List.forall_mem_cons.mpr ⟨ok_iret (bz := false) dX12_worst_27 rfl, List.forall_mem_cons.mpr ⟨ok_aload_n dX12_worst_28 rfl, List.forall_mem_cons.mpr ⟨ok_iload_n dX12_worst_29 rfl, List.forall_mem_cons.mpr ⟨ok_iload_n dX12_worst_30 rfl, List.forall_mem_cons.mpr ⟨ok_callV dX12_worst_31 rfl rfl w1246 w1243 w1245 w13 s40 (by decide +kernel) (by decide), List.forall_mem_cons.mpr ⟨ok_bipush dX12_worst_34 (by decide), List.forall_mem_cons.mpr ⟨ok_istore dX12_worst_36 (by decide), List.forall_mem_cons.mpr ⟨ok_bipush dX12_worst_38 (by decide), List.forall_mem_cons.mpr ⟨ok_istore dX12_worst_40 (by decide), List.forall_mem_cons.mpr ⟨ok_iload dX12_worst_42, fun _ h => absurd h List.not_mem_nil⟩⟩⟩⟩⟩⟩⟩⟩⟩⟩⟩⟩⟩⟩⟩⟩⟩⟩⟩⟩⟩⟩⟩⟩
def kX12_worst_1 : List (Nat × zT) := [(44, a_i 19 46), (46, a_ic_ge 98 49), (49, a_aload 0 50), (50, a_iload 1 51), (51, a_iload 5 53), (53, a_callV 12 153 3 56 0 0), (56, a_if_eq 88 59), (59, a_iload 4 61), (61, a_i (-4) 63), (63, a_ic_eq 83 66), (66, a_aload 0 67), (67, a_getR 12 23 70), (70, a_iload 5 72), (72, a_iald 73), (73, a_aload 0 74), (74, a_getR 12 23 77), (77, a_iload 4 79), (79, a_iald 80), (80, a_ic_le 88 83), (83, a_iload 5 85), (85, a_goto 90), (88, a_iload 4 90), (90, a_istore 4 92), (92, a_iinc 5 1 95)]
theorem oX12_worst_1 : ∀ q ∈ kX12_worst_1, zSnd zty false RX12 cX12_worst 7 (some .int) false q := List.forall_mem_cons.mpr ⟨ok_bipush dX12_worst_44 (by decide), List.forall_mem_cons.mpr ⟨ok_ic_ge dX12_worst_46 (by decide), List.forall_mem_cons.mpr ⟨ok_aload_n dX12_worst_49 rfl, List.forall_mem_cons.mpr ⟨ok_iload_n dX12_worst_50 rfl, List.forall_mem_cons.mpr ⟨ok_iload dX12_worst_51, List.forall_mem_cons.mpr ⟨ok_callV dX12_worst_53 rfl rfl w1144 w1141 w1143 w13 s30 (by decide +kernel) (by decide), List.forall_mem_cons.mpr ⟨ok_if_eq dX12_worst_56 (by decide), List.forall_mem_cons.mpr ⟨ok_iload dX12_worst_59, List.forall_mem_cons.mpr ⟨ok_bipush dX12_worst_61 (by decide), List.forall_mem_cons.mpr ⟨ok_ic_eq dX12_worst_63 (by decide), List.forall_mem_cons.mpr ⟨ok_aload_n dX12_worst_66 rfl, List.forall_mem_cons.mpr ⟨ok_getR dX12_worst_67 rfl in12 (by decide) rfl w980, List.forall_mem_cons.mpr ⟨ok_iload dX12_worst_70, List.forall_mem_cons.mpr ⟨ok_iald dX12_worst_72, List.forall_mem_cons.mpr ⟨ok_aload_n dX12_worst_73 rfl, List.forall_mem_cons.mpr ⟨ok_getR dX12_worst_74 rfl in12 (by decide) rfl w980, List.forall_mem_cons.mpr ⟨ok_iload dX12_worst_77, List.forall_mem_cons.mpr ⟨ok_iald dX12_worst_79, List.forall_mem_cons.mpr ⟨ok_ic_le dX12_worst_80 (by decide), List.forall_mem_cons.mpr ⟨ok_iload dX12_worst_83, List.forall_mem_cons.mpr ⟨ok_goto dX12_worst_85 (by decide), List.forall_mem_cons.mpr ⟨ok_iload dX12_worst_88, List.forall_mem_cons.mpr ⟨ok_istore dX12_worst_90 (by decide), List.forall_mem_cons.mpr ⟨ok_iinc dX12_worst_92 (by decide) (by decide), fun _ h => absurd h List.not_mem_nil⟩⟩⟩⟩⟩⟩⟩⟩⟩⟩⟩⟩⟩⟩⟩⟩⟩⟩⟩⟩⟩⟩⟩⟩
def kX12_worst_2 : List (Nat × zT) := [(95, a_goto 42), (98, a_iload 4 100), (100, a_i (-4) 102), (102, a_ic_ne 120 105), (105, a_iload 3 106), (106, a_i (-2) 108), (108, a_ic_ne 117 111), (111, a_i (-10000) 114), (114, a_goto 119), (117, a_i (-4) 119), (119, a_iret false), (120, a_iload 3 121), (121, a_if_ge 149 124), (124, a_iload 3 125), (125, a_i (-1) 126), (126, a_ic_ne 134 129), (129, a_iload 4 131), (131, a_goto 148), (134, a_aload 0 135), (135, a_getR 12 15 138), (138, a_i 4 139), (139, a_iald 140), (140, a_aload 0 141), (141, a_getR 12 23 144)]
theorem oX12_worst_2 : ∀ q ∈ kX12_worst_2, zSnd zty false RX12 cX12_worst 7 (some .int) false q := List.forall_mem_cons.mpr ⟨ok_goto dX12_worst_95 (by decide), List.forall_mem_cons.mpr ⟨ok_iload dX12_worst_98, List.forall_mem_cons.mpr ⟨ok_bipush dX12_worst_100 (by decide), List.forall_mem_cons.mpr ⟨ok_ic_ne dX12_worst_102 (by decide), List.forall_mem_cons.mpr ⟨ok_iload_n dX12_worst_105 rfl, List.forall_mem_cons.mpr ⟨ok_bipush dX12_worst_106 (by decide), List.forall_mem_cons.mpr ⟨ok_ic_ne dX12_worst_108 (by decide), List.forall_mem_cons.mpr ⟨ok_sipush dX12_worst_111 (by decide), List.forall_mem_cons.mpr ⟨ok_goto dX12_worst_114 (by decide), List.forall_mem_cons.mpr ⟨ok_bipush dX12_worst_117 (by decide), List.forall_mem_cons.mpr ⟨ok_iret (bz := false) dX12_worst_119 rfl, List.forall_mem_cons.mpr ⟨ok_iload_n dX12_worst_120 rfl, List.forall_mem_cons.mpr ⟨ok_if_ge dX12_worst_121 (by decide), List.forall_mem_cons.mpr ⟨ok_iload_n dX12_worst_124 rfl, List.forall_mem_cons.mpr ⟨ok_iconst dX12_worst_125 (by decide), List.forall_mem_cons.mpr ⟨ok_ic_ne dX12_worst_126 (by decide), List.forall_mem_cons.mpr ⟨ok_iload dX12_worst_129, List.forall_mem_cons.mpr ⟨ok_goto dX12_worst_131 (by decide), List.forall_mem_cons.mpr ⟨ok_aload_n dX12_worst_134 rfl, List.forall_mem_cons.mpr ⟨ok_getR dX12_worst_135 rfl in12 (by decide) rfl w972, List.forall_mem_cons.mpr ⟨ok_iconst dX12_worst_138 (by decide), List.forall_mem_cons.mpr ⟨ok_iald dX12_worst_139, List.forall_mem_cons.mpr ⟨ok_aload_n dX12_worst_140 rfl, List.forall_mem_cons.mpr ⟨ok_getR dX12_worst_141 rfl in12 (by decide) rfl w980, fun _ h => absurd h List.not_mem_nil⟩⟩⟩⟩⟩⟩⟩⟩⟩⟩⟩⟩⟩⟩⟩⟩⟩⟩⟩⟩⟩⟩⟩⟩
def kX12_worst_3 : List (Nat × zT) := [(144, a_iload 4 146), (146, a_iald 147), (147, a_ii (fun x y => x - y) 148), (148, a_iret false), (149, a_iload 4 151), (151, a_istore 5 153), (153, a_i 0 154), (154, a_istore 6 156), (156, a_iload 6 158), (158, a_iload 3 159), (159, a_ic_ge 206 162), (162, a_iload 5 164), (164, a_i (-4) 166), (166, a_ic_eq 206 169), (169, a_iload 6 171), (171, a_if_eq 186 174), (174, a_iload 5 176), (176, a_i 6 178), (178, a_i 14 180), (180, a_call 138 3 183 0 0), (183, a_if_eq 196 186), (186, a_aload 0 187), (187, a_getR 12 24 190), (190, a_iload 5 192)]
theorem oX12_worst_3 : ∀ q ∈ kX12_worst_3, zSnd zty false RX12 cX12_worst 7 (some .int) false q := List.forall_mem_cons.mpr ⟨ok_iload dX12_worst_144, List.forall_mem_cons.mpr ⟨ok_iald dX12_worst_146, List.forall_mem_cons.mpr ⟨ok_isub dX12_worst_147, List.forall_mem_cons.mpr ⟨ok_iret (bz := false) dX12_worst_148 rfl, List.forall_mem_cons.mpr ⟨ok_iload dX12_worst_149, List.forall_mem_cons.mpr ⟨ok_istore dX12_worst_151 (by decide), List.forall_mem_cons.mpr ⟨ok_iconst dX12_worst_153 (by decide), List.forall_mem_cons.mpr ⟨ok_istore dX12_worst_154 (by decide), List.forall_mem_cons.mpr ⟨ok_iload dX12_worst_156, List.forall_mem_cons.mpr ⟨ok_iload_n dX12_worst_158 rfl, List.forall_mem_cons.mpr ⟨ok_ic_ge dX12_worst_159 (by decide), List.forall_mem_cons.mpr ⟨ok_iload dX12_worst_162, List.forall_mem_cons.mpr ⟨ok_bipush dX12_worst_164 (by decide), List.forall_mem_cons.mpr ⟨ok_ic_eq dX12_worst_166 (by decide), List.forall_mem_cons.mpr ⟨ok_iload dX12_worst_169, List.forall_mem_cons.mpr ⟨ok_if_eq dX12_worst_171 (by decide), List.forall_mem_cons.mpr ⟨ok_iload dX12_worst_174, List.forall_mem_cons.mpr ⟨ok_bipush dX12_worst_176 (by decide), List.forall_mem_cons.mpr ⟨ok_bipush dX12_worst_178 (by decide), List.forall_mem_cons.mpr ⟨ok_callS dX12_worst_180 rfl w1084 w1082 w1083 w13 (by decide +kernel) (by decide), List.forall_mem_cons.mpr ⟨ok_if_eq dX12_worst_183 (by decide), List.forall_mem_cons.mpr ⟨ok_aload_n dX12_worst_186 rfl, List.forall_mem_cons.mpr ⟨ok_getR dX12_worst_187 rfl in12 (by decide) rfl w981, List.forall_mem_cons.mpr ⟨ok_iload dX12_worst_190, fun _ h => absurd h List.not_mem_nil⟩⟩⟩⟩⟩⟩⟩⟩⟩⟩⟩⟩⟩⟩⟩⟩⟩⟩⟩⟩⟩⟩⟩⟩
def kX12_worst_4 : List (Nat × zT) := [(192, a_iald 193), (193, a_goto 198), (196, a_i (-4) 198), (198, a_istore 5 200), (200, a_iinc 6 1 203), (203, a_goto 156), (206, a_iload 5 208), (208, a_iret false)]
theorem oX12_worst_4 : ∀ q ∈ kX12_worst_4, zSnd zty false RX12 cX12_worst 7 (some .int) false q := List.forall_mem_cons.mpr ⟨ok_iald dX12_worst_192, List.forall_mem_cons.mpr ⟨ok_goto dX12_worst_193 (by decide), List.forall_mem_cons.mpr ⟨ok_bipush dX12_worst_196 (by decide), List.forall_mem_cons.mpr ⟨ok_istore dX12_worst_198 (by decide), List.forall_mem_cons.mpr ⟨ok_iinc dX12_worst_200 (by decide) (by decide), List.forall_mem_cons.mpr ⟨ok_goto dX12_worst_203 (by decide), List.forall_mem_cons.mpr ⟨ok_iload dX12_worst_206, List.forall_mem_cons.mpr ⟨ok_iret (bz := false) dX12_worst_208 rfl, fun _ h => absurd h List.not_mem_nil⟩⟩⟩⟩⟩⟩⟩⟩
def kX12_worst : List (Nat × zT) := kX12_worst_0 ++ (kX12_worst_1 ++ (kX12_worst_2 ++ (kX12_worst_3 ++ (kX12_worst_4))))
theorem qX12_worst_0 : ∀ q ∈ kX12_worst_0, q ∈ kX12_worst := fun _ h => (List.mem_append_left _ h)
theorem tX12_worst_0 : (0, a_iload 1 1) ∈ kX12_worst := qX12_worst_0 _ (List.mem_of_getElem? (i := 0) rfl)
theorem tX12_worst_1 : (1, a_i 0 2) ∈ kX12_worst := qX12_worst_0 _ (List.mem_of_getElem? (i := 1) rfl)
theorem tX12_worst_2 : (2, a_i 1 3) ∈ kX12_worst := qX12_worst_0 _ (List.mem_of_getElem? (i := 2) rfl)
theorem tX12_worst_3 : (3, a_call 138 3 6 0 0) ∈ kX12_worst := qX12_worst_0 _ (List.mem_of_getElem? (i := 3) rfl)
theorem tX12_worst_6 : (6, a_if_eq 24 9) ∈ kX12_worst := qX12_worst_0 _ (List.mem_of_getElem? (i := 4) rfl)
theorem tX12_worst_9 : (9, a_iload 2 10) ∈ kX12_worst := qX12_worst_0 _ (List.mem_of_getElem? (i := 5) rfl)
theorem tX12_worst_10 : (10, a_i 0 11) ∈ kX12_worst := qX12_worst_0 _ (List.mem_of_getElem? (i := 6) rfl)
theorem tX12_worst_11 : (11, a_i 2 12) ∈ kX12_worst := qX12_worst_0 _ (List.mem_of_getElem? (i := 7) rfl)
theorem tX12_worst_12 : (12, a_call 138 3 15 0 0) ∈ kX12_worst := qX12_worst_0 _ (List.mem_of_getElem? (i := 8) rfl)
theorem tX12_worst_15 : (15, a_if_eq 24 18) ∈ kX12_worst := qX12_worst_0 _ (List.mem_of_getElem? (i := 9) rfl)
theorem tX12_worst_18 : (18, a_iload 3 19) ∈ kX12_worst := qX12_worst_0 _ (List.mem_of_getElem? (i := 10) rfl)
theorem tX12_worst_19 : (19, a_i (-2) 21) ∈ kX12_worst := qX12_worst_0 _ (List.mem_of_getElem? (i := 11) rfl)
theorem tX12_worst_21 : (21, a_ic_ge 28 24) ∈ kX12_worst := qX12_worst_0 _ (List.mem_of_getElem? (i := 12) rfl)
theorem tX12_worst_24 : (24, a_i (-10001) 27) ∈ kX12_worst := qX12_worst_0 _ (List.mem_of_getElem? (i := 13) rfl)
theorem tX12_worst_27 : (27, a_iret false) ∈ kX12_worst := qX12_worst_0 _ (List.mem_of_getElem? (i := 14) rfl)
theorem tX12_worst_28 : (28, a_aload 0 29) ∈ kX12_worst := qX12_worst_0 _ (List.mem_of_getElem? (i := 15) rfl)
theorem tX12_worst_29 : (29, a_iload 1 30) ∈ kX12_worst := qX12_worst_0 _ (List.mem_of_getElem? (i := 16) rfl)
theorem tX12_worst_30 : (30, a_iload 2 31) ∈ kX12_worst := qX12_worst_0 _ (List.mem_of_getElem? (i := 17) rfl)
theorem tX12_worst_31 : (31, a_callV 12 181 3 34 0 0) ∈ kX12_worst := qX12_worst_0 _ (List.mem_of_getElem? (i := 18) rfl)
theorem tX12_worst_34 : (34, a_i (-4) 36) ∈ kX12_worst := qX12_worst_0 _ (List.mem_of_getElem? (i := 19) rfl)
theorem tX12_worst_36 : (36, a_istore 4 38) ∈ kX12_worst := qX12_worst_0 _ (List.mem_of_getElem? (i := 20) rfl)
theorem tX12_worst_38 : (38, a_i 6 40) ∈ kX12_worst := qX12_worst_0 _ (List.mem_of_getElem? (i := 21) rfl)
theorem tX12_worst_40 : (40, a_istore 5 42) ∈ kX12_worst := qX12_worst_0 _ (List.mem_of_getElem? (i := 22) rfl)
theorem tX12_worst_42 : (42, a_iload 5 44) ∈ kX12_worst := qX12_worst_0 _ (List.mem_of_getElem? (i := 23) rfl)
theorem qX12_worst_1 : ∀ q ∈ kX12_worst_1, q ∈ kX12_worst := fun _ h => (List.mem_append_right _ (List.mem_append_left _ h))
theorem tX12_worst_44 : (44, a_i 19 46) ∈ kX12_worst := qX12_worst_1 _ (List.mem_of_getElem? (i := 0) rfl)
theorem tX12_worst_46 : (46, a_ic_ge 98 49) ∈ kX12_worst := qX12_worst_1 _ (List.mem_of_getElem? (i := 1) rfl)
theorem tX12_worst_49 : (49, a_aload 0 50) ∈ kX12_worst := qX12_worst_1 _ (List.mem_of_getElem? (i := 2) rfl)
theorem tX12_worst_50 : (50, a_iload 1 51) ∈ kX12_worst := qX12_worst_1 _ (List.mem_of_getElem? (i := 3) rfl)
theorem tX12_worst_51 : (51, a_iload 5 53) ∈ kX12_worst := qX12_worst_1 _ (List.mem_of_getElem? (i := 4) rfl)
theorem tX12_worst_53 : (53, a_callV 12 153 3 56 0 0) ∈ kX12_worst := qX12_worst_1 _ (List.mem_of_getElem? (i := 5) rfl)
theorem tX12_worst_56 : (56, a_if_eq 88 59) ∈ kX12_worst := qX12_worst_1 _ (List.mem_of_getElem? (i := 6) rfl)
theorem tX12_worst_59 : (59, a_iload 4 61) ∈ kX12_worst := qX12_worst_1 _ (List.mem_of_getElem? (i := 7) rfl)
theorem tX12_worst_61 : (61, a_i (-4) 63) ∈ kX12_worst := qX12_worst_1 _ (List.mem_of_getElem? (i := 8) rfl)
theorem tX12_worst_63 : (63, a_ic_eq 83 66) ∈ kX12_worst := qX12_worst_1 _ (List.mem_of_getElem? (i := 9) rfl)
theorem tX12_worst_66 : (66, a_aload 0 67) ∈ kX12_worst := qX12_worst_1 _ (List.mem_of_getElem? (i := 10) rfl)
theorem tX12_worst_67 : (67, a_getR 12 23 70) ∈ kX12_worst := qX12_worst_1 _ (List.mem_of_getElem? (i := 11) rfl)
theorem tX12_worst_70 : (70, a_iload 5 72) ∈ kX12_worst := qX12_worst_1 _ (List.mem_of_getElem? (i := 12) rfl)
theorem tX12_worst_72 : (72, a_iald 73) ∈ kX12_worst := qX12_worst_1 _ (List.mem_of_getElem? (i := 13) rfl)
theorem tX12_worst_73 : (73, a_aload 0 74) ∈ kX12_worst := qX12_worst_1 _ (List.mem_of_getElem? (i := 14) rfl)
theorem tX12_worst_74 : (74, a_getR 12 23 77) ∈ kX12_worst := qX12_worst_1 _ (List.mem_of_getElem? (i := 15) rfl)
theorem tX12_worst_77 : (77, a_iload 4 79) ∈ kX12_worst := qX12_worst_1 _ (List.mem_of_getElem? (i := 16) rfl)
theorem tX12_worst_79 : (79, a_iald 80) ∈ kX12_worst := qX12_worst_1 _ (List.mem_of_getElem? (i := 17) rfl)
theorem tX12_worst_80 : (80, a_ic_le 88 83) ∈ kX12_worst := qX12_worst_1 _ (List.mem_of_getElem? (i := 18) rfl)
theorem tX12_worst_83 : (83, a_iload 5 85) ∈ kX12_worst := qX12_worst_1 _ (List.mem_of_getElem? (i := 19) rfl)
theorem tX12_worst_85 : (85, a_goto 90) ∈ kX12_worst := qX12_worst_1 _ (List.mem_of_getElem? (i := 20) rfl)
theorem tX12_worst_88 : (88, a_iload 4 90) ∈ kX12_worst := qX12_worst_1 _ (List.mem_of_getElem? (i := 21) rfl)
theorem tX12_worst_90 : (90, a_istore 4 92) ∈ kX12_worst := qX12_worst_1 _ (List.mem_of_getElem? (i := 22) rfl)
theorem tX12_worst_92 : (92, a_iinc 5 1 95) ∈ kX12_worst := qX12_worst_1 _ (List.mem_of_getElem? (i := 23) rfl)
theorem qX12_worst_2 : ∀ q ∈ kX12_worst_2, q ∈ kX12_worst := fun _ h => (List.mem_append_right _ (List.mem_append_right _ (List.mem_append_left _ h)))
theorem tX12_worst_95 : (95, a_goto 42) ∈ kX12_worst := qX12_worst_2 _ (List.mem_of_getElem? (i := 0) rfl)
theorem tX12_worst_98 : (98, a_iload 4 100) ∈ kX12_worst := qX12_worst_2 _ (List.mem_of_getElem? (i := 1) rfl)
theorem tX12_worst_100 : (100, a_i (-4) 102) ∈ kX12_worst := qX12_worst_2 _ (List.mem_of_getElem? (i := 2) rfl)
theorem tX12_worst_102 : (102, a_ic_ne 120 105) ∈ kX12_worst := qX12_worst_2 _ (List.mem_of_getElem? (i := 3) rfl)
theorem tX12_worst_105 : (105, a_iload 3 106) ∈ kX12_worst := qX12_worst_2 _ (List.mem_of_getElem? (i := 4) rfl)
theorem tX12_worst_106 : (106, a_i (-2) 108) ∈ kX12_worst := qX12_worst_2 _ (List.mem_of_getElem? (i := 5) rfl)
theorem tX12_worst_108 : (108, a_ic_ne 117 111) ∈ kX12_worst := qX12_worst_2 _ (List.mem_of_getElem? (i := 6) rfl)
theorem tX12_worst_111 : (111, a_i (-10000) 114) ∈ kX12_worst := qX12_worst_2 _ (List.mem_of_getElem? (i := 7) rfl)
theorem tX12_worst_114 : (114, a_goto 119) ∈ kX12_worst := qX12_worst_2 _ (List.mem_of_getElem? (i := 8) rfl)
theorem tX12_worst_117 : (117, a_i (-4) 119) ∈ kX12_worst := qX12_worst_2 _ (List.mem_of_getElem? (i := 9) rfl)
theorem tX12_worst_119 : (119, a_iret false) ∈ kX12_worst := qX12_worst_2 _ (List.mem_of_getElem? (i := 10) rfl)
theorem tX12_worst_120 : (120, a_iload 3 121) ∈ kX12_worst := qX12_worst_2 _ (List.mem_of_getElem? (i := 11) rfl)
theorem tX12_worst_121 : (121, a_if_ge 149 124) ∈ kX12_worst := qX12_worst_2 _ (List.mem_of_getElem? (i := 12) rfl)
theorem tX12_worst_124 : (124, a_iload 3 125) ∈ kX12_worst := qX12_worst_2 _ (List.mem_of_getElem? (i := 13) rfl)
theorem tX12_worst_125 : (125, a_i (-1) 126) ∈ kX12_worst := qX12_worst_2 _ (List.mem_of_getElem? (i := 14) rfl)
theorem tX12_worst_126 : (126, a_ic_ne 134 129) ∈ kX12_worst := qX12_worst_2 _ (List.mem_of_getElem? (i := 15) rfl)
theorem tX12_worst_129 : (129, a_iload 4 131) ∈ kX12_worst := qX12_worst_2 _ (List.mem_of_getElem? (i := 16) rfl)
theorem tX12_worst_131 : (131, a_goto 148) ∈ kX12_worst := qX12_worst_2 _ (List.mem_of_getElem? (i := 17) rfl)
theorem tX12_worst_134 : (134, a_aload 0 135) ∈ kX12_worst := qX12_worst_2 _ (List.mem_of_getElem? (i := 18) rfl)
theorem tX12_worst_135 : (135, a_getR 12 15 138) ∈ kX12_worst := qX12_worst_2 _ (List.mem_of_getElem? (i := 19) rfl)
theorem tX12_worst_138 : (138, a_i 4 139) ∈ kX12_worst := qX12_worst_2 _ (List.mem_of_getElem? (i := 20) rfl)
theorem tX12_worst_139 : (139, a_iald 140) ∈ kX12_worst := qX12_worst_2 _ (List.mem_of_getElem? (i := 21) rfl)
theorem tX12_worst_140 : (140, a_aload 0 141) ∈ kX12_worst := qX12_worst_2 _ (List.mem_of_getElem? (i := 22) rfl)
theorem tX12_worst_141 : (141, a_getR 12 23 144) ∈ kX12_worst := qX12_worst_2 _ (List.mem_of_getElem? (i := 23) rfl)
theorem qX12_worst_3 : ∀ q ∈ kX12_worst_3, q ∈ kX12_worst := fun _ h => (List.mem_append_right _ (List.mem_append_right _ (List.mem_append_right _ (List.mem_append_left _ h))))
theorem tX12_worst_144 : (144, a_iload 4 146) ∈ kX12_worst := qX12_worst_3 _ (List.mem_of_getElem? (i := 0) rfl)
theorem tX12_worst_146 : (146, a_iald 147) ∈ kX12_worst := qX12_worst_3 _ (List.mem_of_getElem? (i := 1) rfl)
theorem tX12_worst_147 : (147, a_ii (fun x y => x - y) 148) ∈ kX12_worst := qX12_worst_3 _ (List.mem_of_getElem? (i := 2) rfl)
theorem tX12_worst_148 : (148, a_iret false) ∈ kX12_worst := qX12_worst_3 _ (List.mem_of_getElem? (i := 3) rfl)
theorem tX12_worst_149 : (149, a_iload 4 151) ∈ kX12_worst := qX12_worst_3 _ (List.mem_of_getElem? (i := 4) rfl)
theorem tX12_worst_151 : (151, a_istore 5 153) ∈ kX12_worst := qX12_worst_3 _ (List.mem_of_getElem? (i := 5) rfl)
theorem tX12_worst_153 : (153, a_i 0 154) ∈ kX12_worst := qX12_worst_3 _ (List.mem_of_getElem? (i := 6) rfl)
theorem tX12_worst_154 : (154, a_istore 6 156) ∈ kX12_worst := qX12_worst_3 _ (List.mem_of_getElem? (i := 7) rfl)
theorem tX12_worst_156 : (156, a_iload 6 158) ∈ kX12_worst := qX12_worst_3 _ (List.mem_of_getElem? (i := 8) rfl)
theorem tX12_worst_158 : (158, a_iload 3 159) ∈ kX12_worst := qX12_worst_3 _ (List.mem_of_getElem? (i := 9) rfl)
theorem tX12_worst_159 : (159, a_ic_ge 206 162) ∈ kX12_worst := qX12_worst_3 _ (List.mem_of_getElem? (i := 10) rfl)
theorem tX12_worst_162 : (162, a_iload 5 164) ∈ kX12_worst := qX12_worst_3 _ (List.mem_of_getElem? (i := 11) rfl)
theorem tX12_worst_164 : (164, a_i (-4) 166) ∈ kX12_worst := qX12_worst_3 _ (List.mem_of_getElem? (i := 12) rfl)
theorem tX12_worst_166 : (166, a_ic_eq 206 169) ∈ kX12_worst := qX12_worst_3 _ (List.mem_of_getElem? (i := 13) rfl)
theorem tX12_worst_169 : (169, a_iload 6 171) ∈ kX12_worst := qX12_worst_3 _ (List.mem_of_getElem? (i := 14) rfl)
theorem tX12_worst_171 : (171, a_if_eq 186 174) ∈ kX12_worst := qX12_worst_3 _ (List.mem_of_getElem? (i := 15) rfl)
theorem tX12_worst_174 : (174, a_iload 5 176) ∈ kX12_worst := qX12_worst_3 _ (List.mem_of_getElem? (i := 16) rfl)
theorem tX12_worst_176 : (176, a_i 6 178) ∈ kX12_worst := qX12_worst_3 _ (List.mem_of_getElem? (i := 17) rfl)
theorem tX12_worst_178 : (178, a_i 14 180) ∈ kX12_worst := qX12_worst_3 _ (List.mem_of_getElem? (i := 18) rfl)
theorem tX12_worst_180 : (180, a_call 138 3 183 0 0) ∈ kX12_worst := qX12_worst_3 _ (List.mem_of_getElem? (i := 19) rfl)
theorem tX12_worst_183 : (183, a_if_eq 196 186) ∈ kX12_worst := qX12_worst_3 _ (List.mem_of_getElem? (i := 20) rfl)
theorem tX12_worst_186 : (186, a_aload 0 187) ∈ kX12_worst := qX12_worst_3 _ (List.mem_of_getElem? (i := 21) rfl)
theorem tX12_worst_187 : (187, a_getR 12 24 190) ∈ kX12_worst := qX12_worst_3 _ (List.mem_of_getElem? (i := 22) rfl)
theorem tX12_worst_190 : (190, a_iload 5 192) ∈ kX12_worst := qX12_worst_3 _ (List.mem_of_getElem? (i := 23) rfl)
theorem qX12_worst_4 : ∀ q ∈ kX12_worst_4, q ∈ kX12_worst := fun _ h => (List.mem_append_right _ (List.mem_append_right _ (List.mem_append_right _ (List.mem_append_right _ h))))
theorem tX12_worst_192 : (192, a_iald 193) ∈ kX12_worst := qX12_worst_4 _ (List.mem_of_getElem? (i := 0) rfl)
theorem tX12_worst_193 : (193, a_goto 198) ∈ kX12_worst := qX12_worst_4 _ (List.mem_of_getElem? (i := 1) rfl)
theorem tX12_worst_196 : (196, a_i (-4) 198) ∈ kX12_worst := qX12_worst_4 _ (List.mem_of_getElem? (i := 2) rfl)
theorem tX12_worst_198 : (198, a_istore 5 200) ∈ kX12_worst := qX12_worst_4 _ (List.mem_of_getElem? (i := 3) rfl)
theorem tX12_worst_200 : (200, a_iinc 6 1 203) ∈ kX12_worst := qX12_worst_4 _ (List.mem_of_getElem? (i := 4) rfl)
theorem tX12_worst_203 : (203, a_goto 156) ∈ kX12_worst := qX12_worst_4 _ (List.mem_of_getElem? (i := 5) rfl)
theorem tX12_worst_206 : (206, a_iload 5 208) ∈ kX12_worst := qX12_worst_4 _ (List.mem_of_getElem? (i := 6) rfl)
theorem tX12_worst_208 : (208, a_iret false) ∈ kX12_worst := qX12_worst_4 _ (List.mem_of_getElem? (i := 7) rfl)
theorem oX12_worst : ∀ q ∈ kX12_worst, zSnd zty false RX12 cX12_worst 7 (some .int) false q := List.forall_mem_append.mpr ⟨oX12_worst_0, List.forall_mem_append.mpr ⟨oX12_worst_1, List.forall_mem_append.mpr ⟨oX12_worst_2, List.forall_mem_append.mpr ⟨oX12_worst_3, oX12_worst_4⟩⟩⟩⟩
theorem dX12_blockAt_0 : decode cX12_blockAt 0 = .ok (.iconst 0, 1) := by decide +kernel
theorem dX12_blockAt_1 : decode cX12_blockAt 1 = .ok (.istore_n 2, 1) := by decide +kernel
theorem dX12_blockAt_2 : decode cX12_blockAt 2 = .ok (.iload_n 2, 1) := by decide +kernel
theorem dX12_blockAt_3 : decode cX12_blockAt 3 = .ok (.aload_n 0, 1) := by decide +kernel
theorem dX12_blockAt_4 : decode cX12_blockAt 4 = .ok (.getfield 211, 3) := by decide +kernel
theorem dX12_blockAt_7 : decode cX12_blockAt 7 = .ok (.if_icmp .ge 21, 3) := by decide +kernel
theorem dX12_blockAt_10 : decode cX12_blockAt 10 = .ok (.aload_n 0, 1) := by decide +kernel
theorem dX12_blockAt_11 : decode cX12_blockAt 11 = .ok (.getfield 83, 3) := by decide +kernel
theorem dX12_blockAt_14 : decode cX12_blockAt 14 = .ok (.iload_n 2, 1) := by decide +kernel
theorem dX12_blockAt_15 : decode cX12_blockAt 15 = .ok (.iaload, 1) := by decide +kernel
theorem dX12_blockAt_16 : decode cX12_blockAt 16 = .ok (.iload_n 1, 1) := by decide +kernel
theorem dX12_blockAt_17 : decode cX12_blockAt 17 = .ok (.if_icmp .ne 5, 3) := by decide +kernel
theorem dX12_blockAt_20 : decode cX12_blockAt 20 = .ok (.iload_n 2, 1) := by decide +kernel
theorem dX12_blockAt_21 : decode cX12_blockAt 21 = .ok (.ireturn, 1) := by decide +kernel
theorem dX12_blockAt_22 : decode cX12_blockAt 22 = .ok (.iinc 2 1, 3) := by decide +kernel
theorem dX12_blockAt_25 : decode cX12_blockAt 25 = .ok (.goto (-23), 3) := by decide +kernel
theorem dX12_blockAt_28 : decode cX12_blockAt 28 = .ok (.bipush (-4), 2) := by decide +kernel
theorem dX12_blockAt_30 : decode cX12_blockAt 30 = .ok (.ireturn, 1) := by decide +kernel
def kX12_blockAt_0 : List (Nat × zT) := [(0, a_i 0 1), (1, a_istore 2 2), (2, a_iload 2 3), (3, a_aload 0 4), (4, a_getI 12 27 7), (7, a_ic_ge 28 10), (10, a_aload 0 11), (11, a_getR 12 28 14), (14, a_iload 2 15), (15, a_iald 16), (16, a_iload 1 17), (17, a_ic_ne 22 20), (20, a_iload 2 21), (21, a_iret false), (22, a_iinc 2 1 25), (25, a_goto 2), (28, a_i (-4) 30), (30, a_iret false)]
theorem oX12_blockAt_0 : ∀ q ∈ kX12_blockAt_0, zSnd zty false RX12 cX12_blockAt 3 (some .int) false q := List.forall_mem_cons.mpr ⟨ok_iconst dX12_blockAt_0 (by decide), List.forall_mem_cons.mpr ⟨ok_istore_n dX12_blockAt_1 rfl (by decide), List.forall_mem_cons.mpr ⟨ok_iload_n dX12_blockAt_2 rfl, List.forall_mem_cons.mpr ⟨ok_aload_n dX12_blockAt_3 rfl, List.forall_mem_cons.mpr ⟨ok_getI dX12_blockAt_4 rfl in12 (by decide) rfl w984, List.forall_mem_cons.mpr ⟨ok_ic_ge dX12_blockAt_7 (by decide), List.forall_mem_cons.mpr ⟨ok_aload_n dX12_blockAt_10 rfl, List.forall_mem_cons.mpr ⟨ok_getR dX12_blockAt_11 rfl in12 (by decide) rfl w985, List.forall_mem_cons.mpr ⟨ok_iload_n dX12_blockAt_14 rfl, List.forall_mem_cons.mpr ⟨ok_iald dX12_blockAt_15, List.forall_mem_cons.mpr ⟨ok_iload_n dX12_blockAt_16 rfl, List.forall_mem_cons.mpr ⟨ok_ic_ne dX12_blockAt_17 (by decide), List.forall_mem_cons.mpr ⟨ok_iload_n dX12_blockAt_20 rfl, List.forall_mem_cons.mpr ⟨ok_iret (bz := false) dX12_blockAt_21 rfl, List.forall_mem_cons.mpr ⟨ok_iinc dX12_blockAt_22 (by decide) (by decide), List.forall_mem_cons.mpr ⟨ok_goto dX12_blockAt_25 (by decide), List.forall_mem_cons.mpr ⟨ok_bipush dX12_blockAt_28 (by decide), List.forall_mem_cons.mpr ⟨ok_iret (bz := false) dX12_blockAt_30 rfl, fun _ h => absurd h List.not_mem_nil⟩⟩⟩⟩⟩⟩⟩⟩⟩⟩⟩⟩⟩⟩⟩⟩⟩⟩
def kX12_blockAt : List (Nat × zT) := kX12_blockAt_0
theorem qX12_blockAt_0 : ∀ q ∈ kX12_blockAt_0, q ∈ kX12_blockAt := fun _ h => h
theorem tX12_blockAt_0 : (0, a_i 0 1) ∈ kX12_blockAt := qX12_blockAt_0 _ (List.mem_of_getElem? (i := 0) rfl)
theorem tX12_blockAt_1 : (1, a_istore 2 2) ∈ kX12_blockAt := qX12_blockAt_0 _ (List.mem_of_getElem? (i := 1) rfl)
theorem tX12_blockAt_2 : (2, a_iload 2 3) ∈ kX12_blockAt := qX12_blockAt_0 _ (List.mem_of_getElem? (i := 2) rfl)
theorem tX12_blockAt_3 : (3, a_aload 0 4) ∈ kX12_blockAt := qX12_blockAt_0 _ (List.mem_of_getElem? (i := 3) rfl)
theorem tX12_blockAt_4 : (4, a_getI 12 27 7) ∈ kX12_blockAt := qX12_blockAt_0 _ (List.mem_of_getElem? (i := 4) rfl)
theorem tX12_blockAt_7 : (7, a_ic_ge 28 10) ∈ kX12_blockAt := qX12_blockAt_0 _ (List.mem_of_getElem? (i := 5) rfl)
theorem tX12_blockAt_10 : (10, a_aload 0 11) ∈ kX12_blockAt := qX12_blockAt_0 _ (List.mem_of_getElem? (i := 6) rfl)
theorem tX12_blockAt_11 : (11, a_getR 12 28 14) ∈ kX12_blockAt := qX12_blockAt_0 _ (List.mem_of_getElem? (i := 7) rfl)
theorem tX12_blockAt_14 : (14, a_iload 2 15) ∈ kX12_blockAt := qX12_blockAt_0 _ (List.mem_of_getElem? (i := 8) rfl)
theorem tX12_blockAt_15 : (15, a_iald 16) ∈ kX12_blockAt := qX12_blockAt_0 _ (List.mem_of_getElem? (i := 9) rfl)
theorem tX12_blockAt_16 : (16, a_iload 1 17) ∈ kX12_blockAt := qX12_blockAt_0 _ (List.mem_of_getElem? (i := 10) rfl)
theorem tX12_blockAt_17 : (17, a_ic_ne 22 20) ∈ kX12_blockAt := qX12_blockAt_0 _ (List.mem_of_getElem? (i := 11) rfl)
theorem tX12_blockAt_20 : (20, a_iload 2 21) ∈ kX12_blockAt := qX12_blockAt_0 _ (List.mem_of_getElem? (i := 12) rfl)
theorem tX12_blockAt_21 : (21, a_iret false) ∈ kX12_blockAt := qX12_blockAt_0 _ (List.mem_of_getElem? (i := 13) rfl)
theorem tX12_blockAt_22 : (22, a_iinc 2 1 25) ∈ kX12_blockAt := qX12_blockAt_0 _ (List.mem_of_getElem? (i := 14) rfl)
theorem tX12_blockAt_25 : (25, a_goto 2) ∈ kX12_blockAt := qX12_blockAt_0 _ (List.mem_of_getElem? (i := 15) rfl)
theorem tX12_blockAt_28 : (28, a_i (-4) 30) ∈ kX12_blockAt := qX12_blockAt_0 _ (List.mem_of_getElem? (i := 16) rfl)
theorem tX12_blockAt_30 : (30, a_iret false) ∈ kX12_blockAt := qX12_blockAt_0 _ (List.mem_of_getElem? (i := 17) rfl)
theorem oX12_blockAt : ∀ q ∈ kX12_blockAt, zSnd zty false RX12 cX12_blockAt 3 (some .int) false q := oX12_blockAt_0
theorem dX12_block_0 : decode cX12_block 0 = .ok (.aload_n 0, 1) := by decide +kernel
theorem dX12_block_1 : decode cX12_block 1 = .ok (.getfield 211, 3) := by decide +kernel
theorem dX12_block_4 : decode cX12_block 4 = .ok (.bipush 7, 2) := by decide +kernel
theorem dX12_block_6 : decode cX12_block 6 = .ok (.if_icmp .ne 6, 3) := by decide +kernel
theorem dX12_block_9 : decode cX12_block 9 = .ok (.bipush (-3), 2) := by decide +kernel
theorem dX12_block_11 : decode cX12_block 11 = .ok (.ireturn, 1) := by decide +kernel
theorem dX12_block_12 : decode cX12_block 12 = .ok (.iconst 0, 1) := by decide +kernel
theorem dX12_block_13 : decode cX12_block 13 = .ok (.istore_n 1, 1) := by decide +kernel
theorem dX12_block_14 : decode cX12_block 14 = .ok (.aload_n 0, 1) := by decide +kernel
theorem dX12_block_15 : decode cX12_block 15 = .ok (.iload_n 1, 1) := by decide +kernel
theorem dX12_block_16 : decode cX12_block 16 = .ok (.invokevirtual 214, 3) := by decide +kernel
theorem dX12_block_19 : decode cX12_block 19 = .ok (.bipush (-4), 2) := by decide +kernel
theorem dX12_block_21 : decode cX12_block 21 = .ok (.if_icmp .eq 9, 3) := by decide +kernel
theorem dX12_block_24 : decode cX12_block 24 = .ok (.iinc 1 1, 3) := by decide +kernel
theorem dX12_block_27 : decode cX12_block 27 = .ok (.goto (-13), 3) := by decide +kernel
theorem dX12_block_30 : decode cX12_block 30 = .ok (.aload_n 0, 1) := by decide +kernel
theorem dX12_block_31 : decode cX12_block 31 = .ok (.getfield 83, 3) := by decide +kernel
theorem dX12_block_34 : decode cX12_block 34 = .ok (.aload_n 0, 1) := by decide +kernel
theorem dX12_block_35 : decode cX12_block 35 = .ok (.getfield 211, 3) := by decide +kernel
theorem dX12_block_38 : decode cX12_block 38 = .ok (.iload_n 1, 1) := by decide +kernel
theorem dX12_block_39 : decode cX12_block 39 = .ok (.iastore, 1) := by decide +kernel
theorem dX12_block_40 : decode cX12_block 40 = .ok (.aload_n 0, 1) := by decide +kernel
theorem dX12_block_41 : decode cX12_block 41 = .ok (.dup, 1) := by decide +kernel
theorem dX12_block_42 : decode cX12_block 42 = .ok (.getfield 211, 3) := by decide +kernel
theorem dX12_block_45 : decode cX12_block 45 = .ok (.iconst 1, 1) := by decide +kernel
theorem dX12_block_46 : decode cX12_block 46 = .ok (.iadd, 1) := by decide +kernel
theorem dX12_block_47 : decode cX12_block 47 = .ok (.putfield 211, 3) := by decide +kernel
theorem dX12_block_50 : decode cX12_block 50 = .ok (.aload_n 0, 1) := by decide +kernel
theorem dX12_block_51 : decode cX12_block 51 = .ok (.getfield 211, 3) := by decide +kernel
theorem dX12_block_54 : decode cX12_block 54 = .ok (.iconst 1, 1) := by decide +kernel
theorem dX12_block_55 : decode cX12_block 55 = .ok (.isub, 1) := by decide +kernel
theorem dX12_block_56 : decode cX12_block 56 = .ok (.ireturn, 1) := by decide +kernel
def kX12_block_0 : List (Nat × zT) := [(0, a_aload 0 1), (1, a_getI 12 27 4), (4, a_i 7 6), (6, a_ic_ne 12 9), (9, a_i (-3) 11), (11, a_iret false), (12, a_i 0 13), (13, a_istore 1 14), (14, a_aload 0 15), (15, a_iload 1 16), (16, a_callV 12 184 2 19 0 0), (19, a_i (-4) 21), (21, a_ic_eq 30 24), (24, a_iinc 1 1 27), (27, a_goto 14), (30, a_aload 0 31), (31, a_getR 12 28 34), (34, a_aload 0 35), (35, a_getI 12 27 38), (38, a_iload 1 39), (39, a_iast 40), (40, a_aload 0 41), (41, a_dup 42), (42, a_getI 12 27 45)]
theorem oX12_block_0 : ∀ q ∈ kX12_block_0, zSnd zty false RX12 cX12_block 2 (some .int) false q := List.forall_mem_cons.mpr ⟨ok_aload_n dX12_block_0 rfl, List.forall_mem_cons.mpr ⟨ok_getI dX12_block_1 rfl in12 (by decide) rfl w984, List.forall_mem_cons.mpr ⟨ok_bipush dX12_block_4 (by decide), List.forall_mem_cons.mpr ⟨ok_ic_ne dX12_block_6 (by decide), List.forall_mem_cons.mpr ⟨ok_bipush dX12_block_9 (by decide), List.forall_mem_cons.mpr ⟨ok_iret (bz := false) dX12_block_11 rfl, List.forall_mem_cons.mpr ⟨ok_iconst dX12_block_12 (by decide), List.forall_mem_cons.mpr ⟨ok_istore_n dX12_block_13 rfl (by decide), List.forall_mem_cons.mpr ⟨ok_aload_n dX12_block_14 rfl, List.forall_mem_cons.mpr ⟨ok_iload_n dX12_block_15 rfl, List.forall_mem_cons.mpr ⟨ok_callV dX12_block_16 rfl rfl w1265 w1262 w1264 w13 s42 (by decide +kernel) (by decide), List.forall_mem_cons.mpr ⟨ok_bipush dX12_block_19 (by decide), List.forall_mem_cons.mpr ⟨ok_ic_eq dX12_block_21 (by decide), List.forall_mem_cons.mpr ⟨ok_iinc dX12_block_24 (by decide) (by decide), List.forall_mem_cons.mpr ⟨ok_goto dX12_block_27 (by decide), List.forall_mem_cons.mpr ⟨ok_aload_n dX12_block_30 rfl, List.forall_mem_cons.mpr ⟨ok_getR dX12_block_31 rfl in12 (by decide) rfl w985, List.forall_mem_cons.mpr ⟨ok_aload_n dX12_block_34 rfl, List.forall_mem_cons.mpr ⟨ok_getI dX12_block_35 rfl in12 (by decide) rfl w984, List.forall_mem_cons.mpr ⟨ok_iload_n dX12_block_38 rfl, List.forall_mem_cons.mpr ⟨ok_iast dX12_block_39, List.forall_mem_cons.mpr ⟨ok_aload_n dX12_block_40 rfl, List.forall_mem_cons.mpr ⟨ok_dup dX12_block_41, List.forall_mem_cons.mpr ⟨ok_getI dX12_block_42 rfl in12 (by decide) rfl w984, fun _ h => absurd h List.not_mem_nil⟩⟩⟩⟩⟩⟩⟩⟩⟩⟩⟩⟩⟩⟩⟩⟩⟩⟩⟩⟩⟩⟩⟩⟩
def kX12_block_1 : List (Nat × zT) := [(45, a_i 1 46), (46, a_ii (fun x y => x + y) 47), (47, a_putI 12 27 50 false), (50, a_aload 0 51), (51, a_getI 12 27 54), (54, a_i 1 55), (55, a_ii (fun x y => x - y) 56), (56, a_iret false)]
theorem oX12_block_1 : ∀ q ∈ kX12_block_1, zSnd zty false RX12 cX12_block 2 (some .int) false q := List.forall_mem_cons.mpr ⟨ok_iconst dX12_block_45 (by decide), List.forall_mem_cons.mpr ⟨ok_iadd dX12_block_46, List.forall_mem_cons.mpr ⟨ok_putI (bz := false) dX12_block_47 rfl in12 tyX12 tyX12_ok nmX12 (by decide) rfl w984 rfl rfl, List.forall_mem_cons.mpr ⟨ok_aload_n dX12_block_50 rfl, List.forall_mem_cons.mpr ⟨ok_getI dX12_block_51 rfl in12 (by decide) rfl w984, List.forall_mem_cons.mpr ⟨ok_iconst dX12_block_54 (by decide), List.forall_mem_cons.mpr ⟨ok_isub dX12_block_55, List.forall_mem_cons.mpr ⟨ok_iret (bz := false) dX12_block_56 rfl, fun _ h => absurd h List.not_mem_nil⟩⟩⟩⟩⟩⟩⟩⟩
def kX12_block : List (Nat × zT) := kX12_block_0 ++ (kX12_block_1)
theorem qX12_block_0 : ∀ q ∈ kX12_block_0, q ∈ kX12_block := fun _ h => (List.mem_append_left _ h)
theorem tX12_block_0 : (0, a_aload 0 1) ∈ kX12_block := qX12_block_0 _ (List.mem_of_getElem? (i := 0) rfl)
theorem tX12_block_1 : (1, a_getI 12 27 4) ∈ kX12_block := qX12_block_0 _ (List.mem_of_getElem? (i := 1) rfl)
theorem tX12_block_4 : (4, a_i 7 6) ∈ kX12_block := qX12_block_0 _ (List.mem_of_getElem? (i := 2) rfl)
theorem tX12_block_6 : (6, a_ic_ne 12 9) ∈ kX12_block := qX12_block_0 _ (List.mem_of_getElem? (i := 3) rfl)
theorem tX12_block_9 : (9, a_i (-3) 11) ∈ kX12_block := qX12_block_0 _ (List.mem_of_getElem? (i := 4) rfl)
theorem tX12_block_11 : (11, a_iret false) ∈ kX12_block := qX12_block_0 _ (List.mem_of_getElem? (i := 5) rfl)
theorem tX12_block_12 : (12, a_i 0 13) ∈ kX12_block := qX12_block_0 _ (List.mem_of_getElem? (i := 6) rfl)
theorem tX12_block_13 : (13, a_istore 1 14) ∈ kX12_block := qX12_block_0 _ (List.mem_of_getElem? (i := 7) rfl)
theorem tX12_block_14 : (14, a_aload 0 15) ∈ kX12_block := qX12_block_0 _ (List.mem_of_getElem? (i := 8) rfl)
theorem tX12_block_15 : (15, a_iload 1 16) ∈ kX12_block := qX12_block_0 _ (List.mem_of_getElem? (i := 9) rfl)
theorem tX12_block_16 : (16, a_callV 12 184 2 19 0 0) ∈ kX12_block := qX12_block_0 _ (List.mem_of_getElem? (i := 10) rfl)
theorem tX12_block_19 : (19, a_i (-4) 21) ∈ kX12_block := qX12_block_0 _ (List.mem_of_getElem? (i := 11) rfl)
theorem tX12_block_21 : (21, a_ic_eq 30 24) ∈ kX12_block := qX12_block_0 _ (List.mem_of_getElem? (i := 12) rfl)
theorem tX12_block_24 : (24, a_iinc 1 1 27) ∈ kX12_block := qX12_block_0 _ (List.mem_of_getElem? (i := 13) rfl)
theorem tX12_block_27 : (27, a_goto 14) ∈ kX12_block := qX12_block_0 _ (List.mem_of_getElem? (i := 14) rfl)
theorem tX12_block_30 : (30, a_aload 0 31) ∈ kX12_block := qX12_block_0 _ (List.mem_of_getElem? (i := 15) rfl)
theorem tX12_block_31 : (31, a_getR 12 28 34) ∈ kX12_block := qX12_block_0 _ (List.mem_of_getElem? (i := 16) rfl)
theorem tX12_block_34 : (34, a_aload 0 35) ∈ kX12_block := qX12_block_0 _ (List.mem_of_getElem? (i := 17) rfl)
theorem tX12_block_35 : (35, a_getI 12 27 38) ∈ kX12_block := qX12_block_0 _ (List.mem_of_getElem? (i := 18) rfl)
theorem tX12_block_38 : (38, a_iload 1 39) ∈ kX12_block := qX12_block_0 _ (List.mem_of_getElem? (i := 19) rfl)
theorem tX12_block_39 : (39, a_iast 40) ∈ kX12_block := qX12_block_0 _ (List.mem_of_getElem? (i := 20) rfl)
theorem tX12_block_40 : (40, a_aload 0 41) ∈ kX12_block := qX12_block_0 _ (List.mem_of_getElem? (i := 21) rfl)
theorem tX12_block_41 : (41, a_dup 42) ∈ kX12_block := qX12_block_0 _ (List.mem_of_getElem? (i := 22) rfl)
theorem tX12_block_42 : (42, a_getI 12 27 45) ∈ kX12_block := qX12_block_0 _ (List.mem_of_getElem? (i := 23) rfl)
theorem qX12_block_1 : ∀ q ∈ kX12_block_1, q ∈ kX12_block := fun _ h => (List.mem_append_right _ h)
theorem tX12_block_45 : (45, a_i 1 46) ∈ kX12_block := qX12_block_1 _ (List.mem_of_getElem? (i := 0) rfl)
theorem tX12_block_46 : (46, a_ii (fun x y => x + y) 47) ∈ kX12_block := qX12_block_1 _ (List.mem_of_getElem? (i := 1) rfl)
theorem tX12_block_47 : (47, a_putI 12 27 50 false) ∈ kX12_block := qX12_block_1 _ (List.mem_of_getElem? (i := 2) rfl)
theorem tX12_block_50 : (50, a_aload 0 51) ∈ kX12_block := qX12_block_1 _ (List.mem_of_getElem? (i := 3) rfl)
theorem tX12_block_51 : (51, a_getI 12 27 54) ∈ kX12_block := qX12_block_1 _ (List.mem_of_getElem? (i := 4) rfl)
theorem tX12_block_54 : (54, a_i 1 55) ∈ kX12_block := qX12_block_1 _ (List.mem_of_getElem? (i := 5) rfl)
theorem tX12_block_55 : (55, a_ii (fun x y => x - y) 56) ∈ kX12_block := qX12_block_1 _ (List.mem_of_getElem? (i := 6) rfl)
theorem tX12_block_56 : (56, a_iret false) ∈ kX12_block := qX12_block_1 _ (List.mem_of_getElem? (i := 7) rfl)
theorem oX12_block : ∀ q ∈ kX12_block, zSnd zty false RX12 cX12_block 2 (some .int) false q := List.forall_mem_append.mpr ⟨oX12_block_0, oX12_block_1⟩
theorem dX12_net_0 : decode cX12_net 0 = .ok (.iconst 0, 1) := by decide +kernel
theorem dX12_net_1 : decode cX12_net 1 = .ok (.istore_n 2, 1) := by decide +kernel
theorem dX12_net_2 : decode cX12_net 2 = .ok (.iconst 0, 1) := by decide +kernel
theorem dX12_net_3 : decode cX12_net 3 = .ok (.istore_n 3, 1) := by decide +kernel
theorem dX12_net_4 : decode cX12_net 4 = .ok (.iload_n 3, 1) := by decide +kernel
theorem dX12_net_5 : decode cX12_net 5 = .ok (.bipush 7, 2) := by decide +kernel
theorem dX12_net_7 : decode cX12_net 7 = .ok (.if_icmp .ge 17, 3) := by decide +kernel
theorem dX12_net_10 : decode cX12_net 10 = .ok (.iload_n 2, 1) := by decide +kernel
theorem dX12_net_11 : decode cX12_net 11 = .ok (.iload_n 1, 1) := by decide +kernel
theorem dX12_net_12 : decode cX12_net 12 = .ok (.iload_n 3, 1) := by decide +kernel
theorem dX12_net_13 : decode cX12_net 13 = .ok (.ishr, 1) := by decide +kernel
theorem dX12_net_14 : decode cX12_net 14 = .ok (.iconst 1, 1) := by decide +kernel
theorem dX12_net_15 : decode cX12_net 15 = .ok (.iand, 1) := by decide +kernel
theorem dX12_net_16 : decode cX12_net 16 = .ok (.iadd, 1) := by decide +kernel
theorem dX12_net_17 : decode cX12_net 17 = .ok (.istore_n 2, 1) := by decide +kernel
theorem dX12_net_18 : decode cX12_net 18 = .ok (.iinc 3 1, 3) := by decide +kernel
theorem dX12_net_21 : decode cX12_net 21 = .ok (.goto (-17), 3) := by decide +kernel
theorem dX12_net_24 : decode cX12_net 24 = .ok (.iload_n 1, 1) := by decide +kernel
theorem dX12_net_25 : decode cX12_net 25 = .ok (.iconst 0, 1) := by decide +kernel
theorem dX12_net_26 : decode cX12_net 26 = .ok (.iconst 1, 1) := by decide +kernel
theorem dX12_net_27 : decode cX12_net 27 = .ok (.aload_n 0, 1) := by decide +kernel
theorem dX12_net_28 : decode cX12_net 28 = .ok (.getfield 211, 3) := by decide +kernel
theorem dX12_net_31 : decode cX12_net 31 = .ok (.ishl, 1) := by decide +kernel
theorem dX12_net_32 : decode cX12_net 32 = .ok (.iconst 1, 1) := by decide +kernel
theorem dX12_net_33 : decode cX12_net 33 = .ok (.isub, 1) := by decide +kernel
theorem dX12_net_34 : decode cX12_net 34 = .ok (.invokestatic 112, 3) := by decide +kernel
theorem dX12_net_37 : decode cX12_net 37 = .ok (.ifCond .eq 8, 3) := by decide +kernel
theorem dX12_net_40 : decode cX12_net 40 = .ok (.iload_n 2, 1) := by decide +kernel
theorem dX12_net_41 : decode cX12_net 41 = .ok (.iconst 2, 1) := by decide +kernel
theorem dX12_net_42 : decode cX12_net 42 = .ok (.if_icmp .ge 5, 3) := by decide +kernel
theorem dX12_net_45 : decode cX12_net 45 = .ok (.iconst (-1), 1) := by decide +kernel
theorem dX12_net_46 : decode cX12_net 46 = .ok (.ireturn, 1) := by decide +kernel
theorem dX12_net_47 : decode cX12_net 47 = .ok (.aload_n 0, 1) := by decide +kernel
theorem dX12_net_48 : decode cX12_net 48 = .ok (.getfield 217, 3) := by decide +kernel
theorem dX12_net_51 : decode cX12_net 51 = .ok (.bipush 8, 2) := by decide +kernel
theorem dX12_net_53 : decode cX12_net 53 = .ok (.if_icmp .ne 6, 3) := by decide +kernel
theorem dX12_net_56 : decode cX12_net 56 = .ok (.bipush (-3), 2) := by decide +kernel
theorem dX12_net_58 : decode cX12_net 58 = .ok (.ireturn, 1) := by decide +kernel
theorem dX12_net_59 : decode cX12_net 59 = .ok (.aload_n 0, 1) := by decide +kernel
theorem dX12_net_60 : decode cX12_net 60 = .ok (.getfield 86, 3) := by decide +kernel
theorem dX12_net_63 : decode cX12_net 63 = .ok (.aload_n 0, 1) := by decide +kernel
theorem dX12_net_64 : decode cX12_net 64 = .ok (.getfield 217, 3) := by decide +kernel
theorem dX12_net_67 : decode cX12_net 67 = .ok (.iload_n 1, 1) := by decide +kernel
theorem dX12_net_68 : decode cX12_net 68 = .ok (.iastore, 1) := by decide +kernel
theorem dX12_net_69 : decode cX12_net 69 = .ok (.aload_n 0, 1) := by decide +kernel
theorem dX12_net_70 : decode cX12_net 70 = .ok (.dup, 1) := by decide +kernel
theorem dX12_net_71 : decode cX12_net 71 = .ok (.getfield 217, 3) := by decide +kernel
theorem dX12_net_74 : decode cX12_net 74 = .ok (.iconst 1, 1) := by decide +kernel
theorem dX12_net_75 : decode cX12_net 75 = .ok (.iadd, 1) := by decide +kernel
theorem dX12_net_76 : decode cX12_net 76 = .ok (.putfield 217, 3) := by decide +kernel
theorem dX12_net_79 : decode cX12_net 79 = .ok (.aload_n 0, 1) := by decide +kernel
theorem dX12_net_80 : decode cX12_net 80 = .ok (.getfield 217, 3) := by decide +kernel
theorem dX12_net_83 : decode cX12_net 83 = .ok (.ireturn, 1) := by decide +kernel
def kX12_net_0 : List (Nat × zT) := [(0, a_i 0 1), (1, a_istore 2 2), (2, a_i 0 3), (3, a_istore 3 4), (4, a_iload 3 5), (5, a_i 7 7), (7, a_ic_ge 24 10), (10, a_iload 2 11), (11, a_iload 1 12), (12, a_iload 3 13), (13, a_ii (fun x y => x >>> (y &&& 31)) 14), (14, a_i 1 15), (15, a_ii (fun x y => x &&& y) 16), (16, a_ii (fun x y => x + y) 17), (17, a_istore 2 18), (18, a_iinc 3 1 21), (21, a_goto 4), (24, a_iload 1 25), (25, a_i 0 26), (26, a_i 1 27), (27, a_aload 0 28), (28, a_getI 12 27 31), (31, a_ii (fun x y => x <<< (y &&& 31)) 32), (32, a_i 1 33)]
theorem oX12_net_0 : ∀ q ∈ kX12_net_0, zSnd zty false RX12 cX12_net 4 (some .int) false q := List.forall_mem_cons.mpr ⟨ok_iconst dX12_net_0 (by decide), List.forall_mem_cons.mpr ⟨ok_istore_n dX12_net_1 rfl (by decide), List.forall_mem_cons.mpr ⟨ok_iconst dX12_net_2 (by decide), List.forall_mem_cons.mpr ⟨ok_istore_n dX12_net_3 rfl (by decide), List.forall_mem_cons.mpr ⟨ok_iload_n dX12_net_4 rfl, List.forall_mem_cons.mpr ⟨ok_bipush dX12_net_5 (by decide), List.forall_mem_cons.mpr ⟨ok_ic_ge dX12_net_7 (by decide), List.forall_mem_cons.mpr ⟨ok_iload_n dX12_net_10 rfl, List.forall_mem_cons.mpr ⟨ok_iload_n dX12_net_11 rfl, List.forall_mem_cons.mpr ⟨ok_iload_n dX12_net_12 rfl, List.forall_mem_cons.mpr ⟨ok_ishr dX12_net_13, List.forall_mem_cons.mpr ⟨ok_iconst dX12_net_14 (by decide), List.forall_mem_cons.mpr ⟨ok_iand dX12_net_15, List.forall_mem_cons.mpr ⟨ok_iadd dX12_net_16, List.forall_mem_cons.mpr ⟨ok_istore_n dX12_net_17 rfl (by decide), List.forall_mem_cons.mpr ⟨ok_iinc dX12_net_18 (by decide) (by decide), List.forall_mem_cons.mpr ⟨ok_goto dX12_net_21 (by decide), List.forall_mem_cons.mpr ⟨ok_iload_n dX12_net_24 rfl, List.forall_mem_cons.mpr ⟨ok_iconst dX12_net_25 (by decide), List.forall_mem_cons.mpr ⟨ok_iconst dX12_net_26 (by decide), List.forall_mem_cons.mpr ⟨ok_aload_n dX12_net_27 rfl, List.forall_mem_cons.mpr ⟨ok_getI dX12_net_28 rfl in12 (by decide) rfl w984, List.forall_mem_cons.mpr ⟨ok_ishl dX12_net_31, List.forall_mem_cons.mpr ⟨ok_iconst dX12_net_32 (by decide), fun _ h => absurd h List.not_mem_nil⟩⟩⟩⟩⟩⟩⟩⟩⟩⟩⟩⟩⟩⟩⟩⟩⟩⟩⟩⟩⟩⟩⟩⟩
def kX12_net_1 : List (Nat × zT) := [(33, a_ii (fun x y => x - y) 34), (34, a_call 138 3 37 0 0), (37, a_if_eq 45 40), (40, a_iload 2 41), (41, a_i 2 42), (42, a_ic_ge 47 45), (45, a_i (-1) 46), (46, a_iret false), (47, a_aload 0 48), (48, a_getI 12 29 51), (51, a_i 8 53), (53, a_ic_ne 59 56), (56, a_i (-3) 58), (58, a_iret false), (59, a_aload 0 60), (60, a_getR 12 30 63), (63, a_aload 0 64), (64, a_getI 12 29 67), (67, a_iload 1 68), (68, a_iast 69), (69, a_aload 0 70), (70, a_dup 71), (71, a_getI 12 29 74), (74, a_i 1 75)]
theorem oX12_net_1 : ∀ q ∈ kX12_net_1, zSnd zty false RX12 cX12_net 4 (some .int) false q := List.forall_mem_cons.mpr ⟨ok_isub dX12_net_33, List.forall_mem_cons.mpr ⟨ok_callS dX12_net_34 rfl w1084 w1082 w1083 w13 (by decide +kernel) (by decide), List.forall_mem_cons.mpr ⟨ok_if_eq dX12_net_37 (by decide), List.forall_mem_cons.mpr ⟨ok_iload_n dX12_net_40 rfl, List.forall_mem_cons.mpr ⟨ok_iconst dX12_net_41 (by decide), List.forall_mem_cons.mpr ⟨ok_ic_ge dX12_net_42 (by decide), List.forall_mem_cons.mpr ⟨ok_iconst dX12_net_45 (by decide), List.forall_mem_cons.mpr ⟨ok_iret (bz := false) dX12_net_46 rfl, List.forall_mem_cons.mpr ⟨ok_aload_n dX12_net_47 rfl, List.forall_mem_cons.mpr ⟨ok_getI dX12_net_48 rfl in12 (by decide) rfl w986, List.forall_mem_cons.mpr ⟨ok_bipush dX12_net_51 (by decide), List.forall_mem_cons.mpr ⟨ok_ic_ne dX12_net_53 (by decide), List.forall_mem_cons.mpr ⟨ok_bipush dX12_net_56 (by decide), List.forall_mem_cons.mpr ⟨ok_iret (bz := false) dX12_net_58 rfl, List.forall_mem_cons.mpr ⟨ok_aload_n dX12_net_59 rfl, List.forall_mem_cons.mpr ⟨ok_getR dX12_net_60 rfl in12 (by decide) rfl w987, List.forall_mem_cons.mpr ⟨ok_aload_n dX12_net_63 rfl, List.forall_mem_cons.mpr ⟨ok_getI dX12_net_64 rfl in12 (by decide) rfl w986, List.forall_mem_cons.mpr ⟨ok_iload_n dX12_net_67 rfl, List.forall_mem_cons.mpr ⟨ok_iast dX12_net_68, List.forall_mem_cons.mpr ⟨ok_aload_n dX12_net_69 rfl, List.forall_mem_cons.mpr ⟨ok_dup dX12_net_70, List.forall_mem_cons.mpr ⟨ok_getI dX12_net_71 rfl in12 (by decide) rfl w986, List.forall_mem_cons.mpr ⟨ok_iconst dX12_net_74 (by decide), fun _ h => absurd h List.not_mem_nil⟩⟩⟩⟩⟩⟩⟩⟩⟩⟩⟩⟩⟩⟩⟩⟩⟩⟩⟩⟩⟩⟩⟩⟩
def kX12_net_2 : List (Nat × zT) := [(75, a_ii (fun x y => x + y) 76), (76, a_putI 12 29 79 false), (79, a_aload 0 80), (80, a_getI 12 29 83), (83, a_iret false)]
theorem oX12_net_2 : ∀ q ∈ kX12_net_2, zSnd zty false RX12 cX12_net 4 (some .int) false q := List.forall_mem_cons.mpr ⟨ok_iadd dX12_net_75, List.forall_mem_cons.mpr ⟨ok_putI (bz := false) dX12_net_76 rfl in12 tyX12 tyX12_ok nmX12 (by decide) rfl w986 rfl rfl, List.forall_mem_cons.mpr ⟨ok_aload_n dX12_net_79 rfl, List.forall_mem_cons.mpr ⟨ok_getI dX12_net_80 rfl in12 (by decide) rfl w986, List.forall_mem_cons.mpr ⟨ok_iret (bz := false) dX12_net_83 rfl, fun _ h => absurd h List.not_mem_nil⟩⟩⟩⟩⟩
def kX12_net : List (Nat × zT) := kX12_net_0 ++ (kX12_net_1 ++ (kX12_net_2))
theorem qX12_net_0 : ∀ q ∈ kX12_net_0, q ∈ kX12_net := fun _ h => (List.mem_append_left _ h)
theorem tX12_net_0 : (0, a_i 0 1) ∈ kX12_net := qX12_net_0 _ (List.mem_of_getElem? (i := 0) rfl)
theorem tX12_net_1 : (1, a_istore 2 2) ∈ kX12_net := qX12_net_0 _ (List.mem_of_getElem? (i := 1) rfl)
theorem tX12_net_2 : (2, a_i 0 3) ∈ kX12_net := qX12_net_0 _ (List.mem_of_getElem? (i := 2) rfl)
theorem tX12_net_3 : (3, a_istore 3 4) ∈ kX12_net := qX12_net_0 _ (List.mem_of_getElem? (i := 3) rfl)
theorem tX12_net_4 : (4, a_iload 3 5) ∈ kX12_net := qX12_net_0 _ (List.mem_of_getElem? (i := 4) rfl)
theorem tX12_net_5 : (5, a_i 7 7) ∈ kX12_net := qX12_net_0 _ (List.mem_of_getElem? (i := 5) rfl)
theorem tX12_net_7 : (7, a_ic_ge 24 10) ∈ kX12_net := qX12_net_0 _ (List.mem_of_getElem? (i := 6) rfl)
theorem tX12_net_10 : (10, a_iload 2 11) ∈ kX12_net := qX12_net_0 _ (List.mem_of_getElem? (i := 7) rfl)
theorem tX12_net_11 : (11, a_iload 1 12) ∈ kX12_net := qX12_net_0 _ (List.mem_of_getElem? (i := 8) rfl)
theorem tX12_net_12 : (12, a_iload 3 13) ∈ kX12_net := qX12_net_0 _ (List.mem_of_getElem? (i := 9) rfl)
theorem tX12_net_13 : (13, a_ii (fun x y => x >>> (y &&& 31)) 14) ∈ kX12_net := qX12_net_0 _ (List.mem_of_getElem? (i := 10) rfl)
theorem tX12_net_14 : (14, a_i 1 15) ∈ kX12_net := qX12_net_0 _ (List.mem_of_getElem? (i := 11) rfl)
theorem tX12_net_15 : (15, a_ii (fun x y => x &&& y) 16) ∈ kX12_net := qX12_net_0 _ (List.mem_of_getElem? (i := 12) rfl)
theorem tX12_net_16 : (16, a_ii (fun x y => x + y) 17) ∈ kX12_net := qX12_net_0 _ (List.mem_of_getElem? (i := 13) rfl)
theorem tX12_net_17 : (17, a_istore 2 18) ∈ kX12_net := qX12_net_0 _ (List.mem_of_getElem? (i := 14) rfl)
theorem tX12_net_18 : (18, a_iinc 3 1 21) ∈ kX12_net := qX12_net_0 _ (List.mem_of_getElem? (i := 15) rfl)
theorem tX12_net_21 : (21, a_goto 4) ∈ kX12_net := qX12_net_0 _ (List.mem_of_getElem? (i := 16) rfl)
theorem tX12_net_24 : (24, a_iload 1 25) ∈ kX12_net := qX12_net_0 _ (List.mem_of_getElem? (i := 17) rfl)
theorem tX12_net_25 : (25, a_i 0 26) ∈ kX12_net := qX12_net_0 _ (List.mem_of_getElem? (i := 18) rfl)
theorem tX12_net_26 : (26, a_i 1 27) ∈ kX12_net := qX12_net_0 _ (List.mem_of_getElem? (i := 19) rfl)
theorem tX12_net_27 : (27, a_aload 0 28) ∈ kX12_net := qX12_net_0 _ (List.mem_of_getElem? (i := 20) rfl)
theorem tX12_net_28 : (28, a_getI 12 27 31) ∈ kX12_net := qX12_net_0 _ (List.mem_of_getElem? (i := 21) rfl)
theorem tX12_net_31 : (31, a_ii (fun x y => x <<< (y &&& 31)) 32) ∈ kX12_net := qX12_net_0 _ (List.mem_of_getElem? (i := 22) rfl)
theorem tX12_net_32 : (32, a_i 1 33) ∈ kX12_net := qX12_net_0 _ (List.mem_of_getElem? (i := 23) rfl)
theorem qX12_net_1 : ∀ q ∈ kX12_net_1, q ∈ kX12_net := fun _ h => (List.mem_append_right _ (List.mem_append_left _ h))
theorem tX12_net_33 : (33, a_ii (fun x y => x - y) 34) ∈ kX12_net := qX12_net_1 _ (List.mem_of_getElem? (i := 0) rfl)
theorem tX12_net_34 : (34, a_call 138 3 37 0 0) ∈ kX12_net := qX12_net_1 _ (List.mem_of_getElem? (i := 1) rfl)
theorem tX12_net_37 : (37, a_if_eq 45 40) ∈ kX12_net := qX12_net_1 _ (List.mem_of_getElem? (i := 2) rfl)
theorem tX12_net_40 : (40, a_iload 2 41) ∈ kX12_net := qX12_net_1 _ (List.mem_of_getElem? (i := 3) rfl)
theorem tX12_net_41 : (41, a_i 2 42) ∈ kX12_net := qX12_net_1 _ (List.mem_of_getElem? (i := 4) rfl)
theorem tX12_net_42 : (42, a_ic_ge 47 45) ∈ kX12_net := qX12_net_1 _ (List.mem_of_getElem? (i := 5) rfl)
theorem tX12_net_45 : (45, a_i (-1) 46) ∈ kX12_net := qX12_net_1 _ (List.mem_of_getElem? (i := 6) rfl)
theorem tX12_net_46 : (46, a_iret false) ∈ kX12_net := qX12_net_1 _ (List.mem_of_getElem? (i := 7) rfl)
theorem tX12_net_47 : (47, a_aload 0 48) ∈ kX12_net := qX12_net_1 _ (List.mem_of_getElem? (i := 8) rfl)
theorem tX12_net_48 : (48, a_getI 12 29 51) ∈ kX12_net := qX12_net_1 _ (List.mem_of_getElem? (i := 9) rfl)
theorem tX12_net_51 : (51, a_i 8 53) ∈ kX12_net := qX12_net_1 _ (List.mem_of_getElem? (i := 10) rfl)
theorem tX12_net_53 : (53, a_ic_ne 59 56) ∈ kX12_net := qX12_net_1 _ (List.mem_of_getElem? (i := 11) rfl)
theorem tX12_net_56 : (56, a_i (-3) 58) ∈ kX12_net := qX12_net_1 _ (List.mem_of_getElem? (i := 12) rfl)
theorem tX12_net_58 : (58, a_iret false) ∈ kX12_net := qX12_net_1 _ (List.mem_of_getElem? (i := 13) rfl)
theorem tX12_net_59 : (59, a_aload 0 60) ∈ kX12_net := qX12_net_1 _ (List.mem_of_getElem? (i := 14) rfl)
theorem tX12_net_60 : (60, a_getR 12 30 63) ∈ kX12_net := qX12_net_1 _ (List.mem_of_getElem? (i := 15) rfl)
theorem tX12_net_63 : (63, a_aload 0 64) ∈ kX12_net := qX12_net_1 _ (List.mem_of_getElem? (i := 16) rfl)
theorem tX12_net_64 : (64, a_getI 12 29 67) ∈ kX12_net := qX12_net_1 _ (List.mem_of_getElem? (i := 17) rfl)
theorem tX12_net_67 : (67, a_iload 1 68) ∈ kX12_net := qX12_net_1 _ (List.mem_of_getElem? (i := 18) rfl)
theorem tX12_net_68 : (68, a_iast 69) ∈ kX12_net := qX12_net_1 _ (List.mem_of_getElem? (i := 19) rfl)
theorem tX12_net_69 : (69, a_aload 0 70) ∈ kX12_net := qX12_net_1 _ (List.mem_of_getElem? (i := 20) rfl)
theorem tX12_net_70 : (70, a_dup 71) ∈ kX12_net := qX12_net_1 _ (List.mem_of_getElem? (i := 21) rfl)
theorem tX12_net_71 : (71, a_getI 12 29 74) ∈ kX12_net := qX12_net_1 _ (List.mem_of_getElem? (i := 22) rfl)
theorem tX12_net_74 : (74, a_i 1 75) ∈ kX12_net := qX12_net_1 _ (List.mem_of_getElem? (i := 23) rfl)
theorem qX12_net_2 : ∀ q ∈ kX12_net_2, q ∈ kX12_net := fun _ h => (List.mem_append_right _ (List.mem_append_right _ h))
theorem tX12_net_75 : (75, a_ii (fun x y => x + y) 76) ∈ kX12_net := qX12_net_2 _ (List.mem_of_getElem? (i := 0) rfl)
theorem tX12_net_76 : (76, a_putI 12 29 79 false) ∈ kX12_net := qX12_net_2 _ (List.mem_of_getElem? (i := 1) rfl)
theorem tX12_net_79 : (79, a_aload 0 80) ∈ kX12_net := qX12_net_2 _ (List.mem_of_getElem? (i := 2) rfl)
theorem tX12_net_80 : (80, a_getI 12 29 83) ∈ kX12_net := qX12_net_2 _ (List.mem_of_getElem? (i := 3) rfl)
theorem tX12_net_83 : (83, a_iret false) ∈ kX12_net := qX12_net_2 _ (List.mem_of_getElem? (i := 4) rfl)
theorem oX12_net : ∀ q ∈ kX12_net, zSnd zty false RX12 cX12_net 4 (some .int) false q := List.forall_mem_append.mpr ⟨oX12_net_0, List.forall_mem_append.mpr ⟨oX12_net_1, oX12_net_2⟩⟩
theorem dX12_place_0 : decode cX12_place 0 = .ok (.iload_n 1, 1) := by decide +kernel
theorem dX12_place_1 : decode cX12_place 1 = .ok (.iconst 0, 1) := by decide +kernel
theorem dX12_place_2 : decode cX12_place 2 = .ok (.aload_n 0, 1) := by decide +kernel
theorem dX12_place_3 : decode cX12_place 3 = .ok (.getfield 211, 3) := by decide +kernel
theorem dX12_place_6 : decode cX12_place 6 = .ok (.iconst 1, 1) := by decide +kernel
theorem dX12_place_7 : decode cX12_place 7 = .ok (.isub, 1) := by decide +kernel
theorem dX12_place_8 : decode cX12_place 8 = .ok (.invokestatic 112, 3) := by decide +kernel
theorem dX12_place_11 : decode cX12_place 11 = .ok (.ifCond .eq 13, 3) := by decide +kernel
theorem dX12_place_14 : decode cX12_place 14 = .ok (.iload_n 2, 1) := by decide +kernel
theorem dX12_place_15 : decode cX12_place 15 = .ok (.iconst 0, 1) := by decide +kernel
theorem dX12_place_16 : decode cX12_place 16 = .ok (.bipush 7, 2) := by decide +kernel
theorem dX12_place_18 : decode cX12_place 18 = .ok (.invokestatic 112, 3) := by decide +kernel
theorem dX12_place_21 : decode cX12_place 21 = .ok (.ifCond .ne 5, 3) := by decide +kernel
theorem dX12_place_24 : decode cX12_place 24 = .ok (.iconst (-1), 1) := by decide +kernel
theorem dX12_place_25 : decode cX12_place 25 = .ok (.ireturn, 1) := by decide +kernel
theorem dX12_place_26 : decode cX12_place 26 = .ok (.aload_n 0, 1) := by decide +kernel
theorem dX12_place_27 : decode cX12_place 27 = .ok (.iload_n 2, 1) := by decide +kernel
theorem dX12_place_28 : decode cX12_place 28 = .ok (.invokevirtual 214, 3) := by decide +kernel
theorem dX12_place_31 : decode cX12_place 31 = .ok (.istore_n 3, 1) := by decide +kernel
theorem dX12_place_32 : decode cX12_place 32 = .ok (.iload_n 3, 1) := by decide +kernel
theorem dX12_place_33 : decode cX12_place 33 = .ok (.bipush (-4), 2) := by decide +kernel
theorem dX12_place_35 : decode cX12_place 35 = .ok (.if_icmp .eq 11, 3) := by decide +kernel
theorem dX12_place_38 : decode cX12_place 38 = .ok (.iload_n 3, 1) := by decide +kernel
theorem dX12_place_39 : decode cX12_place 39 = .ok (.iload_n 1, 1) := by decide +kernel
theorem dX12_place_40 : decode cX12_place 40 = .ok (.if_icmp .eq 6, 3) := by decide +kernel
theorem dX12_place_43 : decode cX12_place 43 = .ok (.bipush (-2), 2) := by decide +kernel
theorem dX12_place_45 : decode cX12_place 45 = .ok (.ireturn, 1) := by decide +kernel
theorem dX12_place_46 : decode cX12_place 46 = .ok (.aload_n 0, 1) := by decide +kernel
theorem dX12_place_47 : decode cX12_place 47 = .ok (.getfield 83, 3) := by decide +kernel
theorem dX12_place_50 : decode cX12_place 50 = .ok (.iload_n 1, 1) := by decide +kernel
theorem dX12_place_51 : decode cX12_place 51 = .ok (.iaload, 1) := by decide +kernel
theorem dX12_place_52 : decode cX12_place 52 = .ok (.istore 4, 2) := by decide +kernel
theorem dX12_place_54 : decode cX12_place 54 = .ok (.aload_n 0, 1) := by decide +kernel
theorem dX12_place_55 : decode cX12_place 55 = .ok (.getfield 83, 3) := by decide +kernel
theorem dX12_place_58 : decode cX12_place 58 = .ok (.iload_n 1, 1) := by decide +kernel
theorem dX12_place_59 : decode cX12_place 59 = .ok (.iload_n 2, 1) := by decide +kernel
theorem dX12_place_60 : decode cX12_place 60 = .ok (.iastore, 1) := by decide +kernel
theorem dX12_place_61 : decode cX12_place 61 = .ok (.iload 4, 2) := by decide +kernel
theorem dX12_place_63 : decode cX12_place 63 = .ok (.ireturn, 1) := by decide +kernel
def kX12_place_0 : List (Nat × zT) := [(0, a_iload 1 1), (1, a_i 0 2), (2, a_aload 0 3), (3, a_getI 12 27 6), (6, a_i 1 7), (7, a_ii (fun x y => x - y) 8), (8, a_call 138 3 11 0 0), (11, a_if_eq 24 14), (14, a_iload 2 15), (15, a_i 0 16), (16, a_i 7 18), (18, a_call 138 3 21 0 0), (21, a_if_ne 26 24), (24, a_i (-1) 25), (25, a_iret false), (26, a_aload 0 27), (27, a_iload 2 28), (28, a_callV 12 184 2 31 0 0), (31, a_istore 3 32), (32, a_iload 3 33), (33, a_i (-4) 35), (35, a_ic_eq 46 38), (38, a_iload 3 39), (39, a_iload 1 40)]
theorem oX12_place_0 : ∀ q ∈ kX12_place_0, zSnd zty false RX12 cX12_place 5 (some .int) false q := List.forall_mem_cons.mpr ⟨ok_iload_n dX12_place_0 rfl, List.forall_mem_cons.mpr ⟨ok_iconst dX12_place_1 (by decide), List.forall_mem_cons.mpr ⟨ok_aload_n dX12_place_2 rfl, List.forall_mem_cons.mpr ⟨ok_getI dX12_place_3 rfl in12 (by decide) rfl w984, List.forall_mem_cons.mpr ⟨ok_iconst dX12_place_6 (by decide), List.forall_mem_cons.mpr ⟨ok_isub dX12_place_7, List.forall_mem_cons.mpr ⟨ok_callS dX12_place_8 rfl w1084 w1082 w1083 w13 (by decide +kernel) (by decide), List.forall_mem_cons.mpr ⟨ok_if_eq dX12_place_11 (by decide), List.forall_mem_cons.mpr ⟨ok_iload_n dX12_place_14 rfl, List.forall_mem_cons.mpr ⟨ok_iconst dX12_place_15 (by decide), List.forall_mem_cons.mpr ⟨ok_bipush dX12_place_16 (by decide), List.forall_mem_cons.mpr ⟨ok_callS dX12_place_18 rfl w1084 w1082 w1083 w13 (by decide +kernel) (by decide), List.forall_mem_cons.mpr ⟨ok_if_ne dX12_place_21 (by decide), List.forall_mem_cons.mpr ⟨ok_iconst dX12_place_24 (by decide), List.forall_mem_cons.mpr ⟨ok_iret (bz := false) dX12_place_25 rfl, List.forall_mem_cons.mpr ⟨ok_aload_n dX12_place_26 rfl, List.forall_mem_cons.mpr ⟨ok_iload_n dX12_place_27 rfl, List.forall_mem_cons.mpr ⟨ok_callV dX12_place_28 rfl rfl w1265 w1262 w1264 w13 s42 (by decide +kernel) (by decide), List.forall_mem_cons.mpr ⟨ok_istore_n dX12_place_31 rfl (by decide), List.forall_mem_cons.mpr ⟨ok_iload_n dX12_place_32 rfl, List.forall_mem_cons.mpr ⟨ok_bipush dX12_place_33 (by decide), List.forall_mem_cons.mpr ⟨ok_ic_eq dX12_place_35 (by decide), List.forall_mem_cons.mpr ⟨ok_iload_n dX12_place_38 rfl, List.forall_mem_cons.mpr ⟨ok_iload_n dX12_place_39 rfl, fun _ h => absurd h List.not_mem_nil⟩⟩⟩⟩⟩⟩⟩⟩⟩⟩⟩⟩⟩⟩⟩⟩⟩⟩⟩⟩⟩⟩⟩⟩
def kX12_place_1 : List (Nat × zT) := [(40, a_ic_eq 46 43), (43, a_i (-2) 45), (45, a_iret false), (46, a_aload 0 47), (47, a_getR 12 28 50), (50, a_iload 1 51), (51, a_iald 52), (52, a_istore 4 54), (54, a_aload 0 55), (55, a_getR 12 28 58), (58, a_iload 1 59), (59, a_iload 2 60), (60, a_iast 61), (61, a_iload 4 63), (63, a_iret false)]
theorem oX12_place_1 : ∀ q ∈ kX12_place_1, zSnd zty false RX12 cX12_place 5 (some .int) false q := List.forall_mem_cons.mpr ⟨ok_ic_eq dX12_place_40 (by decide), List.forall_mem_cons.mpr ⟨ok_bipush dX12_place_43 (by decide), List.forall_mem_cons.mpr ⟨ok_iret (bz := false) dX12_place_45 rfl, List.forall_mem_cons.mpr ⟨ok_aload_n dX12_place_46 rfl, List.forall_mem_cons.mpr ⟨ok_getR dX12_place_47 rfl in12 (by decide) rfl w985, List.forall_mem_cons.mpr ⟨ok_iload_n dX12_place_50 rfl, List.forall_mem_cons.mpr ⟨ok_iald dX12_place_51, List.forall_mem_cons.mpr ⟨ok_istore dX12_place_52 (by decide), List.forall_mem_cons.mpr ⟨ok_aload_n dX12_place_54 rfl, List.forall_mem_cons.mpr ⟨ok_getR dX12_place_55 rfl in12 (by decide) rfl w985, List.forall_mem_cons.mpr ⟨ok_iload_n dX12_place_58 rfl, List.forall_mem_cons.mpr ⟨ok_iload_n dX12_place_59 rfl, List.forall_mem_cons.mpr ⟨ok_iast dX12_place_60, List.forall_mem_cons.mpr ⟨ok_iload dX12_place_61, List.forall_mem_cons.mpr ⟨ok_iret (bz := false) dX12_place_63 rfl, fun _ h => absurd h List.not_mem_nil⟩⟩⟩⟩⟩⟩⟩⟩⟩⟩⟩⟩⟩⟩⟩
def kX12_place : List (Nat × zT) := kX12_place_0 ++ (kX12_place_1)
theorem qX12_place_0 : ∀ q ∈ kX12_place_0, q ∈ kX12_place := fun _ h => (List.mem_append_left _ h)
theorem tX12_place_0 : (0, a_iload 1 1) ∈ kX12_place := qX12_place_0 _ (List.mem_of_getElem? (i := 0) rfl)
theorem tX12_place_1 : (1, a_i 0 2) ∈ kX12_place := qX12_place_0 _ (List.mem_of_getElem? (i := 1) rfl)
theorem tX12_place_2 : (2, a_aload 0 3) ∈ kX12_place := qX12_place_0 _ (List.mem_of_getElem? (i := 2) rfl)
theorem tX12_place_3 : (3, a_getI 12 27 6) ∈ kX12_place := qX12_place_0 _ (List.mem_of_getElem? (i := 3) rfl)
theorem tX12_place_6 : (6, a_i 1 7) ∈ kX12_place := qX12_place_0 _ (List.mem_of_getElem? (i := 4) rfl)
theorem tX12_place_7 : (7, a_ii (fun x y => x - y) 8) ∈ kX12_place := qX12_place_0 _ (List.mem_of_getElem? (i := 5) rfl)
theorem tX12_place_8 : (8, a_call 138 3 11 0 0) ∈ kX12_place := qX12_place_0 _ (List.mem_of_getElem? (i := 6) rfl)
theorem tX12_place_11 : (11, a_if_eq 24 14) ∈ kX12_place := qX12_place_0 _ (List.mem_of_getElem? (i := 7) rfl)
theorem tX12_place_14 : (14, a_iload 2 15) ∈ kX12_place := qX12_place_0 _ (List.mem_of_getElem? (i := 8) rfl)
theorem tX12_place_15 : (15, a_i 0 16) ∈ kX12_place := qX12_place_0 _ (List.mem_of_getElem? (i := 9) rfl)
theorem tX12_place_16 : (16, a_i 7 18) ∈ kX12_place := qX12_place_0 _ (List.mem_of_getElem? (i := 10) rfl)
theorem tX12_place_18 : (18, a_call 138 3 21 0 0) ∈ kX12_place := qX12_place_0 _ (List.mem_of_getElem? (i := 11) rfl)
theorem tX12_place_21 : (21, a_if_ne 26 24) ∈ kX12_place := qX12_place_0 _ (List.mem_of_getElem? (i := 12) rfl)
theorem tX12_place_24 : (24, a_i (-1) 25) ∈ kX12_place := qX12_place_0 _ (List.mem_of_getElem? (i := 13) rfl)
theorem tX12_place_25 : (25, a_iret false) ∈ kX12_place := qX12_place_0 _ (List.mem_of_getElem? (i := 14) rfl)
theorem tX12_place_26 : (26, a_aload 0 27) ∈ kX12_place := qX12_place_0 _ (List.mem_of_getElem? (i := 15) rfl)
theorem tX12_place_27 : (27, a_iload 2 28) ∈ kX12_place := qX12_place_0 _ (List.mem_of_getElem? (i := 16) rfl)
theorem tX12_place_28 : (28, a_callV 12 184 2 31 0 0) ∈ kX12_place := qX12_place_0 _ (List.mem_of_getElem? (i := 17) rfl)
theorem tX12_place_31 : (31, a_istore 3 32) ∈ kX12_place := qX12_place_0 _ (List.mem_of_getElem? (i := 18) rfl)
theorem tX12_place_32 : (32, a_iload 3 33) ∈ kX12_place := qX12_place_0 _ (List.mem_of_getElem? (i := 19) rfl)
theorem tX12_place_33 : (33, a_i (-4) 35) ∈ kX12_place := qX12_place_0 _ (List.mem_of_getElem? (i := 20) rfl)
theorem tX12_place_35 : (35, a_ic_eq 46 38) ∈ kX12_place := qX12_place_0 _ (List.mem_of_getElem? (i := 21) rfl)
theorem tX12_place_38 : (38, a_iload 3 39) ∈ kX12_place := qX12_place_0 _ (List.mem_of_getElem? (i := 22) rfl)
theorem tX12_place_39 : (39, a_iload 1 40) ∈ kX12_place := qX12_place_0 _ (List.mem_of_getElem? (i := 23) rfl)
theorem qX12_place_1 : ∀ q ∈ kX12_place_1, q ∈ kX12_place := fun _ h => (List.mem_append_right _ h)
theorem tX12_place_40 : (40, a_ic_eq 46 43) ∈ kX12_place := qX12_place_1 _ (List.mem_of_getElem? (i := 0) rfl)
theorem tX12_place_43 : (43, a_i (-2) 45) ∈ kX12_place := qX12_place_1 _ (List.mem_of_getElem? (i := 1) rfl)
theorem tX12_place_45 : (45, a_iret false) ∈ kX12_place := qX12_place_1 _ (List.mem_of_getElem? (i := 2) rfl)
theorem tX12_place_46 : (46, a_aload 0 47) ∈ kX12_place := qX12_place_1 _ (List.mem_of_getElem? (i := 3) rfl)
theorem tX12_place_47 : (47, a_getR 12 28 50) ∈ kX12_place := qX12_place_1 _ (List.mem_of_getElem? (i := 4) rfl)
theorem tX12_place_50 : (50, a_iload 1 51) ∈ kX12_place := qX12_place_1 _ (List.mem_of_getElem? (i := 5) rfl)
theorem tX12_place_51 : (51, a_iald 52) ∈ kX12_place := qX12_place_1 _ (List.mem_of_getElem? (i := 6) rfl)
theorem tX12_place_52 : (52, a_istore 4 54) ∈ kX12_place := qX12_place_1 _ (List.mem_of_getElem? (i := 7) rfl)
theorem tX12_place_54 : (54, a_aload 0 55) ∈ kX12_place := qX12_place_1 _ (List.mem_of_getElem? (i := 8) rfl)
theorem tX12_place_55 : (55, a_getR 12 28 58) ∈ kX12_place := qX12_place_1 _ (List.mem_of_getElem? (i := 9) rfl)
theorem tX12_place_58 : (58, a_iload 1 59) ∈ kX12_place := qX12_place_1 _ (List.mem_of_getElem? (i := 10) rfl)
theorem tX12_place_59 : (59, a_iload 2 60) ∈ kX12_place := qX12_place_1 _ (List.mem_of_getElem? (i := 11) rfl)
theorem tX12_place_60 : (60, a_iast 61) ∈ kX12_place := qX12_place_1 _ (List.mem_of_getElem? (i := 12) rfl)
theorem tX12_place_61 : (61, a_iload 4 63) ∈ kX12_place := qX12_place_1 _ (List.mem_of_getElem? (i := 13) rfl)
theorem tX12_place_63 : (63, a_iret false) ∈ kX12_place := qX12_place_1 _ (List.mem_of_getElem? (i := 14) rfl)
theorem oX12_place : ∀ q ∈ kX12_place, zSnd zty false RX12 cX12_place 5 (some .int) false q := List.forall_mem_append.mpr ⟨oX12_place_0, oX12_place_1⟩
theorem dX12_wireOf_0 : decode cX12_wireOf 0 = .ok (.iconst 1, 1) := by decide +kernel
theorem dX12_wireOf_1 : decode cX12_wireOf 1 = .ok (.istore_n 2, 1) := by decide +kernel
theorem dX12_wireOf_2 : decode cX12_wireOf 2 = .ok (.iconst 0, 1) := by decide +kernel
theorem dX12_wireOf_3 : decode cX12_wireOf 3 = .ok (.istore_n 3, 1) := by decide +kernel
theorem dX12_wireOf_4 : decode cX12_wireOf 4 = .ok (.iconst 3, 1) := by decide +kernel
theorem dX12_wireOf_5 : decode cX12_wireOf 5 = .ok (.istore 4, 2) := by decide +kernel
theorem dX12_wireOf_7 : decode cX12_wireOf 7 = .ok (.iconst 0, 1) := by decide +kernel
theorem dX12_wireOf_8 : decode cX12_wireOf 8 = .ok (.istore 5, 2) := by decide +kernel
theorem dX12_wireOf_10 : decode cX12_wireOf 10 = .ok (.iconst 0, 1) := by decide +kernel
theorem dX12_wireOf_11 : decode cX12_wireOf 11 = .ok (.istore 6, 2) := by decide +kernel
theorem dX12_wireOf_13 : decode cX12_wireOf 13 = .ok (.iload 6, 2) := by decide +kernel
theorem dX12_wireOf_15 : decode cX12_wireOf 15 = .ok (.aload_n 0, 1) := by decide +kernel
theorem dX12_wireOf_16 : decode cX12_wireOf 16 = .ok (.getfield 211, 3) := by decide +kernel
theorem dX12_wireOf_19 : decode cX12_wireOf 19 = .ok (.if_icmp .ge 104, 3) := by decide +kernel
theorem dX12_wireOf_22 : decode cX12_wireOf 22 = .ok (.aload_n 0, 1) := by decide +kernel
theorem dX12_wireOf_23 : decode cX12_wireOf 23 = .ok (.getfield 86, 3) := by decide +kernel
theorem dX12_wireOf_26 : decode cX12_wireOf 26 = .ok (.iload_n 1, 1) := by decide +kernel
theorem dX12_wireOf_27 : decode cX12_wireOf 27 = .ok (.iaload, 1) := by decide +kernel
theorem dX12_wireOf_28 : decode cX12_wireOf 28 = .ok (.iload 6, 2) := by decide +kernel
theorem dX12_wireOf_30 : decode cX12_wireOf 30 = .ok (.ishr, 1) := by decide +kernel
theorem dX12_wireOf_31 : decode cX12_wireOf 31 = .ok (.iconst 1, 1) := by decide +kernel
theorem dX12_wireOf_32 : decode cX12_wireOf 32 = .ok (.iand, 1) := by decide +kernel
theorem dX12_wireOf_33 : decode cX12_wireOf 33 = .ok (.iconst 1, 1) := by decide +kernel
theorem dX12_wireOf_34 : decode cX12_wireOf 34 = .ok (.if_icmp .ne 83, 3) := by decide +kernel
theorem dX12_wireOf_37 : decode cX12_wireOf 37 = .ok (.aload_n 0, 1) := by decide +kernel
theorem dX12_wireOf_38 : decode cX12_wireOf 38 = .ok (.getfield 89, 3) := by decide +kernel
theorem dX12_wireOf_41 : decode cX12_wireOf 41 = .ok (.iload 6, 2) := by decide +kernel
theorem dX12_wireOf_43 : decode cX12_wireOf 43 = .ok (.iaload, 1) := by decide +kernel
theorem dX12_wireOf_44 : decode cX12_wireOf 44 = .ok (.iconst 4, 1) := by decide +kernel
theorem dX12_wireOf_45 : decode cX12_wireOf 45 = .ok (.idiv, 1) := by decide +kernel
theorem dX12_wireOf_46 : decode cX12_wireOf 46 = .ok (.istore 7, 2) := by decide +kernel
theorem dX12_wireOf_48 : decode cX12_wireOf 48 = .ok (.aload_n 0, 1) := by decide +kernel
theorem dX12_wireOf_49 : decode cX12_wireOf 49 = .ok (.getfield 89, 3) := by decide +kernel
theorem dX12_wireOf_52 : decode cX12_wireOf 52 = .ok (.iload 6, 2) := by decide +kernel
theorem dX12_wireOf_54 : decode cX12_wireOf 54 = .ok (.iaload, 1) := by decide +kernel
theorem dX12_wireOf_55 : decode cX12_wireOf 55 = .ok (.iconst 4, 1) := by decide +kernel
theorem dX12_wireOf_56 : decode cX12_wireOf 56 = .ok (.irem, 1) := by decide +kernel
theorem dX12_wireOf_57 : decode cX12_wireOf 57 = .ok (.istore 8, 2) := by decide +kernel
theorem dX12_wireOf_59 : decode cX12_wireOf 59 = .ok (.iload 7, 2) := by decide +kernel
theorem dX12_wireOf_61 : decode cX12_wireOf 61 = .ok (.iload_n 2, 1) := by decide +kernel
theorem dX12_wireOf_62 : decode cX12_wireOf 62 = .ok (.if_icmp .ge 8, 3) := by decide +kernel
theorem dX12_wireOf_65 : decode cX12_wireOf 65 = .ok (.iload 7, 2) := by decide +kernel
theorem dX12_wireOf_67 : decode cX12_wireOf 67 = .ok (.goto 4, 3) := by decide +kernel
theorem dX12_wireOf_70 : decode cX12_wireOf 70 = .ok (.iload_n 2, 1) := by decide +kernel
theorem dX12_wireOf_71 : decode cX12_wireOf 71 = .ok (.istore_n 2, 1) := by decide +kernel
theorem dX12_wireOf_72 : decode cX12_wireOf 72 = .ok (.iload 7, 2) := by decide +kernel
theorem dX12_wireOf_74 : decode cX12_wireOf 74 = .ok (.iload_n 3, 1) := by decide +kernel
theorem dX12_wireOf_75 : decode cX12_wireOf 75 = .ok (.if_icmp .le 8, 3) := by decide +kernel
theorem dX12_wireOf_78 : decode cX12_wireOf 78 = .ok (.iload 7, 2) := by decide +kernel
theorem dX12_wireOf_80 : decode cX12_wireOf 80 = .ok (.goto 4, 3) := by decide +kernel
theorem dX12_wireOf_83 : decode cX12_wireOf 83 = .ok (.iload_n 3, 1) := by decide +kernel
theorem dX12_wireOf_84 : decode cX12_wireOf 84 = .ok (.istore_n 3, 1) := by decide +kernel
theorem dX12_wireOf_85 : decode cX12_wireOf 85 = .ok (.iload 8, 2) := by decide +kernel
theorem dX12_wireOf_87 : decode cX12_wireOf 87 = .ok (.iload 4, 2) := by decide +kernel
theorem dX12_wireOf_89 : decode cX12_wireOf 89 = .ok (.if_icmp .ge 8, 3) := by decide +kernel
theorem dX12_wireOf_92 : decode cX12_wireOf 92 = .ok (.iload 8, 2) := by decide +kernel
theorem dX12_wireOf_94 : decode cX12_wireOf 94 = .ok (.goto 5, 3) := by decide +kernel
theorem dX12_wireOf_97 : decode cX12_wireOf 97 = .ok (.iload 4, 2) := by decide +kernel
theorem dX12_wireOf_99 : decode cX12_wireOf 99 = .ok (.istore 4, 2) := by decide +kernel
theorem dX12_wireOf_101 : decode cX12_wireOf 101 = .ok (.iload 8, 2) := by decide +kernel
theorem dX12_wireOf_103 : decode cX12_wireOf 103 = .ok (.iload 5, 2) := by decide +kernel
theorem dX12_wireOf_105 : decode cX12_wireOf 105 = .ok (.if_icmp .le 8, 3) := by decide +kernel
theorem dX12_wireOf_108 : decode cX12_wireOf 108 = .ok (.iload 8, 2) := by decide +kernel
theorem dX12_wireOf_110 : decode cX12_wireOf 110 = .ok (.goto 5, 3) := by decide +kernel
theorem dX12_wireOf_113 : decode cX12_wireOf 113 = .ok (.iload 5, 2) := by decide +kernel
theorem dX12_wireOf_115 : decode cX12_wireOf 115 = .ok (.istore 5, 2) := by decide +kernel
theorem dX12_wireOf_117 : decode cX12_wireOf 117 = .ok (.iinc 6 1, 3) := by decide +kernel
theorem dX12_wireOf_120 : decode cX12_wireOf 120 = .ok (.goto (-107), 3) := by decide +kernel
theorem dX12_wireOf_123 : decode cX12_wireOf 123 = .ok (.iload_n 3, 1) := by decide +kernel
theorem dX12_wireOf_124 : decode cX12_wireOf 124 = .ok (.iload_n 2, 1) := by decide +kernel
theorem dX12_wireOf_125 : decode cX12_wireOf 125 = .ok (.isub, 1) := by decide +kernel
theorem dX12_wireOf_126 : decode cX12_wireOf 126 = .ok (.iload 5, 2) := by decide +kernel
theorem dX12_wireOf_128 : decode cX12_wireOf 128 = .ok (.iadd, 1) := by decide +kernel
theorem dX12_wireOf_129 : decode cX12_wireOf 129 = .ok (.iload 4, 2) := by decide +kernel
theorem dX12_wireOf_131 : decode cX12_wireOf 131 = .ok (.isub, 1) := by decide +kernel
theorem dX12_wireOf_132 : decode cX12_wireOf 132 = .ok (.ireturn, 1) := by decide +kernel
def kX12_wireOf_0 : List (Nat × zT) := [(0, a_i 1 1), (1, a_istore 2 2), (2, a_i 0 3), (3, a_istore 3 4), (4, a_i 3 5), (5, a_istore 4 7), (7, a_i 0 8), (8, a_istore 5 10), (10, a_i 0 11), (11, a_istore 6 13), (13, a_iload 6 15), (15, a_aload 0 16), (16, a_getI 12 27 19), (19, a_ic_ge 123 22), (22, a_aload 0 23), (23, a_getR 12 30 26), (26, a_iload 1 27), (27, a_iald 28), (28, a_iload 6 30), (30, a_ii (fun x y => x >>> (y &&& 31)) 31), (31, a_i 1 32), (32, a_ii (fun x y => x &&& y) 33), (33, a_i 1 34), (34, a_ic_ne 117 37)]
theorem oX12_wireOf_0 : ∀ q ∈ kX12_wireOf_0, zSnd zty false RX12 cX12_wireOf 9 (some .int) false q := List.forall_mem_cons.mpr ⟨ok_iconst dX12_wireOf_0 (by decide), List.forall_mem_cons.mpr ⟨ok_istore_n dX12_wireOf_1 rfl (by decide), List.forall_mem_cons.mpr ⟨ok_iconst dX12_wireOf_2 (by decide), List.forall_mem_cons.mpr ⟨ok_istore_n dX12_wireOf_3 rfl (by decide), List.forall_mem_cons.mpr ⟨ok_iconst dX12_wireOf_4 (by decide), List.forall_mem_cons.mpr ⟨ok_istore dX12_wireOf_5 (by decide), List.forall_mem_cons.mpr ⟨ok_iconst dX12_wireOf_7 (by decide), List.forall_mem_cons.mpr ⟨ok_istore dX12_wireOf_8 (by decide), List.forall_mem_cons.mpr ⟨ok_iconst dX12_wireOf_10 (by decide), List.forall_mem_cons.mpr ⟨ok_istore dX12_wireOf_11 (by decide), List.forall_mem_cons.mpr ⟨ok_iload dX12_wireOf_13, List.forall_mem_cons.mpr ⟨ok_aload_n dX12_wireOf_15 rfl, List.forall_mem_cons.mpr ⟨ok_getI dX12_wireOf_16 rfl in12 (by decide) rfl w984, List.forall_mem_cons.mpr ⟨ok_ic_ge dX12_wireOf_19 (by decide), List.forall_mem_cons.mpr ⟨ok_aload_n dX12_wireOf_22 rfl, List.forall_mem_cons.mpr ⟨ok_getR dX12_wireOf_23 rfl in12 (by decide) rfl w987, List.forall_mem_cons.mpr ⟨ok_iload_n dX12_wireOf_26 rfl, List.forall_mem_cons.mpr ⟨ok_iald dX12_wireOf_27, List.forall_mem_cons.mpr ⟨ok_iload dX12_wireOf_28, List.forall_mem_cons.mpr ⟨ok_ishr dX12_wireOf_30, List.forall_mem_cons.mpr ⟨ok_iconst dX12_wireOf_31 (by decide), List.forall_mem_cons.mpr ⟨ok_iand dX12_wireOf_32, List.forall_mem_cons.mpr ⟨ok_iconst dX12_wireOf_33 (by decide), List.forall_mem_cons.mpr ⟨ok_ic_ne dX12_wireOf_34 (by decide), fun _ h => absurd h List.not_mem_nil⟩⟩⟩⟩⟩⟩⟩⟩⟩⟩⟩⟩⟩⟩⟩⟩⟩⟩⟩⟩⟩⟩⟩⟩
def kX12_wireOf_1 : List (Nat × zT) := [(37, a_aload 0 38), (38, a_getR 12 31 41), (41, a_iload 6 43), (43, a_iald 44), (44, a_i 4 45), (45, a_div (fun x y => x / y) 46), (46, a_istore 7 48), (48, a_aload 0 49), (49, a_getR 12 31 52), (52, a_iload 6 54), (54, a_iald 55), (55, a_i 4 56), (56, a_div (fun x y => x - x / y * y) 57), (57, a_istore 8 59), (59, a_iload 7 61), (61, a_iload 2 62), (62, a_ic_ge 70 65), (65, a_iload 7 67), (67, a_goto 71), (70, a_iload 2 71), (71, a_istore 2 72), (72, a_iload 7 74), (74, a_iload 3 75), (75, a_ic_le 83 78)]
theorem oX12_wireOf_1 : ∀ q ∈ kX12_wireOf_1, zSnd zty false RX12 cX12_wireOf 9 (some .int) false q := List.forall_mem_cons.mpr ⟨ok_aload_n dX12_wireOf_37 rfl, List.forall_mem_cons.mpr ⟨ok_getR dX12_wireOf_38 rfl in12 (by decide) rfl w988, List.forall_mem_cons.mpr ⟨ok_iload dX12_wireOf_41, List.forall_mem_cons.mpr ⟨ok_iald dX12_wireOf_43, List.forall_mem_cons.mpr ⟨ok_iconst dX12_wireOf_44 (by decide), List.forall_mem_cons.mpr ⟨ok_idiv dX12_wireOf_45, List.forall_mem_cons.mpr ⟨ok_istore dX12_wireOf_46 (by decide), List.forall_mem_cons.mpr ⟨ok_aload_n dX12_wireOf_48 rfl, List.forall_mem_cons.mpr ⟨ok_getR dX12_wireOf_49 rfl in12 (by decide) rfl w988, List.forall_mem_cons.mpr ⟨ok_iload dX12_wireOf_52, List.forall_mem_cons.mpr ⟨ok_iald dX12_wireOf_54, List.forall_mem_cons.mpr ⟨ok_iconst dX12_wireOf_55 (by decide), List.forall_mem_cons.mpr ⟨ok_irem dX12_wireOf_56, List.forall_mem_cons.mpr ⟨ok_istore dX12_wireOf_57 (by decide), List.forall_mem_cons.mpr ⟨ok_iload dX12_wireOf_59, List.forall_mem_cons.mpr ⟨ok_iload_n dX12_wireOf_61 rfl, List.forall_mem_cons.mpr ⟨ok_ic_ge dX12_wireOf_62 (by decide), List.forall_mem_cons.mpr ⟨ok_iload dX12_wireOf_65, List.forall_mem_cons.mpr ⟨ok_goto dX12_wireOf_67 (by decide), List.forall_mem_cons.mpr ⟨ok_iload_n dX12_wireOf_70 rfl, List.forall_mem_cons.mpr ⟨ok_istore_n dX12_wireOf_71 rfl (by decide), List.forall_mem_cons.mpr ⟨ok_iload dX12_wireOf_72, List.forall_mem_cons.mpr ⟨ok_iload_n dX12_wireOf_74 rfl, List.forall_mem_cons.mpr ⟨ok_ic_le dX12_wireOf_75 (by decide), fun _ h => absurd h List.not_mem_nil⟩⟩⟩⟩⟩⟩⟩⟩⟩⟩⟩⟩⟩⟩⟩⟩⟩⟩⟩⟩⟩⟩⟩⟩
def kX12_wireOf_2 : List (Nat × zT) := [(78, a_iload 7 80), (80, a_goto 84), (83, a_iload 3 84), (84, a_istore 3 85), (85, a_iload 8 87), (87, a_iload 4 89), (89, a_ic_ge 97 92), (92, a_iload 8 94), (94, a_goto 99), (97, a_iload 4 99), (99, a_istore 4 101), (101, a_iload 8 103), (103, a_iload 5 105), (105, a_ic_le 113 108), (108, a_iload 8 110), (110, a_goto 115), (113, a_iload 5 115), (115, a_istore 5 117), (117, a_iinc 6 1 120), (120, a_goto 13), (123, a_iload 3 124), (124, a_iload 2 125), (125, a_ii (fun x y => x - y) 126), (126, a_iload 5 128)]
theorem oX12_wireOf_2 : ∀ q ∈ kX12_wireOf_2, zSnd zty false RX12 cX12_wireOf 9 (some .int) false q := List.forall_mem_cons.mpr ⟨ok_iload dX12_wireOf_78, List.forall_mem_cons.mpr ⟨ok_goto dX12_wireOf_80 (by decide), List.forall_mem_cons.mpr ⟨ok_iload_n dX12_wireOf_83 rfl, List.forall_mem_cons.mpr ⟨ok_istore_n dX12_wireOf_84 rfl (by decide), List.forall_mem_cons.mpr ⟨ok_iload dX12_wireOf_85, List.forall_mem_cons.mpr ⟨ok_iload dX12_wireOf_87, List.forall_mem_cons.mpr ⟨ok_ic_ge dX12_wireOf_89 (by decide), List.forall_mem_cons.mpr ⟨ok_iload dX12_wireOf_92, List.forall_mem_cons.mpr ⟨ok_goto dX12_wireOf_94 (by decide), List.forall_mem_cons.mpr ⟨ok_iload dX12_wireOf_97, List.forall_mem_cons.mpr ⟨ok_istore dX12_wireOf_99 (by decide), List.forall_mem_cons.mpr ⟨ok_iload dX12_wireOf_101, List.forall_mem_cons.mpr ⟨ok_iload dX12_wireOf_103, List.forall_mem_cons.mpr ⟨ok_ic_le dX12_wireOf_105 (by decide), List.forall_mem_cons.mpr ⟨ok_iload dX12_wireOf_108, List.forall_mem_cons.mpr ⟨ok_goto dX12_wireOf_110 (by decide), List.forall_mem_cons.mpr ⟨ok_iload dX12_wireOf_113, List.forall_mem_cons.mpr ⟨ok_istore dX12_wireOf_115 (by decide), List.forall_mem_cons.mpr ⟨ok_iinc dX12_wireOf_117 (by decide) (by decide), List.forall_mem_cons.mpr ⟨ok_goto dX12_wireOf_120 (by decide), List.forall_mem_cons.mpr ⟨ok_iload_n dX12_wireOf_123 rfl, List.forall_mem_cons.mpr ⟨ok_iload_n dX12_wireOf_124 rfl, List.forall_mem_cons.mpr ⟨ok_isub dX12_wireOf_125, List.forall_mem_cons.mpr ⟨ok_iload dX12_wireOf_126, fun _ h => absurd h List.not_mem_nil⟩⟩⟩⟩⟩⟩⟩⟩⟩⟩⟩⟩⟩⟩⟩⟩⟩⟩⟩⟩⟩⟩⟩⟩
def kX12_wireOf_3 : List (Nat × zT) := [(128, a_ii (fun x y => x + y) 129), (129, a_iload 4 131), (131, a_ii (fun x y => x - y) 132), (132, a_iret false)]
theorem oX12_wireOf_3 : ∀ q ∈ kX12_wireOf_3, zSnd zty false RX12 cX12_wireOf 9 (some .int) false q := List.forall_mem_cons.mpr ⟨ok_iadd dX12_wireOf_128, List.forall_mem_cons.mpr ⟨ok_iload dX12_wireOf_129, List.forall_mem_cons.mpr ⟨ok_isub dX12_wireOf_131, List.forall_mem_cons.mpr ⟨ok_iret (bz := false) dX12_wireOf_132 rfl, fun _ h => absurd h List.not_mem_nil⟩⟩⟩⟩
def kX12_wireOf : List (Nat × zT) := kX12_wireOf_0 ++ (kX12_wireOf_1 ++ (kX12_wireOf_2 ++ (kX12_wireOf_3)))
theorem qX12_wireOf_0 : ∀ q ∈ kX12_wireOf_0, q ∈ kX12_wireOf := fun _ h => (List.mem_append_left _ h)
theorem tX12_wireOf_0 : (0, a_i 1 1) ∈ kX12_wireOf := qX12_wireOf_0 _ (List.mem_of_getElem? (i := 0) rfl)
theorem tX12_wireOf_1 : (1, a_istore 2 2) ∈ kX12_wireOf := qX12_wireOf_0 _ (List.mem_of_getElem? (i := 1) rfl)
theorem tX12_wireOf_2 : (2, a_i 0 3) ∈ kX12_wireOf := qX12_wireOf_0 _ (List.mem_of_getElem? (i := 2) rfl)
theorem tX12_wireOf_3 : (3, a_istore 3 4) ∈ kX12_wireOf := qX12_wireOf_0 _ (List.mem_of_getElem? (i := 3) rfl)
theorem tX12_wireOf_4 : (4, a_i 3 5) ∈ kX12_wireOf := qX12_wireOf_0 _ (List.mem_of_getElem? (i := 4) rfl)
theorem tX12_wireOf_5 : (5, a_istore 4 7) ∈ kX12_wireOf := qX12_wireOf_0 _ (List.mem_of_getElem? (i := 5) rfl)
theorem tX12_wireOf_7 : (7, a_i 0 8) ∈ kX12_wireOf := qX12_wireOf_0 _ (List.mem_of_getElem? (i := 6) rfl)
theorem tX12_wireOf_8 : (8, a_istore 5 10) ∈ kX12_wireOf := qX12_wireOf_0 _ (List.mem_of_getElem? (i := 7) rfl)
theorem tX12_wireOf_10 : (10, a_i 0 11) ∈ kX12_wireOf := qX12_wireOf_0 _ (List.mem_of_getElem? (i := 8) rfl)
theorem tX12_wireOf_11 : (11, a_istore 6 13) ∈ kX12_wireOf := qX12_wireOf_0 _ (List.mem_of_getElem? (i := 9) rfl)
theorem tX12_wireOf_13 : (13, a_iload 6 15) ∈ kX12_wireOf := qX12_wireOf_0 _ (List.mem_of_getElem? (i := 10) rfl)
theorem tX12_wireOf_15 : (15, a_aload 0 16) ∈ kX12_wireOf := qX12_wireOf_0 _ (List.mem_of_getElem? (i := 11) rfl)
theorem tX12_wireOf_16 : (16, a_getI 12 27 19) ∈ kX12_wireOf := qX12_wireOf_0 _ (List.mem_of_getElem? (i := 12) rfl)
theorem tX12_wireOf_19 : (19, a_ic_ge 123 22) ∈ kX12_wireOf := qX12_wireOf_0 _ (List.mem_of_getElem? (i := 13) rfl)
theorem tX12_wireOf_22 : (22, a_aload 0 23) ∈ kX12_wireOf := qX12_wireOf_0 _ (List.mem_of_getElem? (i := 14) rfl)
theorem tX12_wireOf_23 : (23, a_getR 12 30 26) ∈ kX12_wireOf := qX12_wireOf_0 _ (List.mem_of_getElem? (i := 15) rfl)
theorem tX12_wireOf_26 : (26, a_iload 1 27) ∈ kX12_wireOf := qX12_wireOf_0 _ (List.mem_of_getElem? (i := 16) rfl)
theorem tX12_wireOf_27 : (27, a_iald 28) ∈ kX12_wireOf := qX12_wireOf_0 _ (List.mem_of_getElem? (i := 17) rfl)
theorem tX12_wireOf_28 : (28, a_iload 6 30) ∈ kX12_wireOf := qX12_wireOf_0 _ (List.mem_of_getElem? (i := 18) rfl)
theorem tX12_wireOf_30 : (30, a_ii (fun x y => x >>> (y &&& 31)) 31) ∈ kX12_wireOf := qX12_wireOf_0 _ (List.mem_of_getElem? (i := 19) rfl)
theorem tX12_wireOf_31 : (31, a_i 1 32) ∈ kX12_wireOf := qX12_wireOf_0 _ (List.mem_of_getElem? (i := 20) rfl)
theorem tX12_wireOf_32 : (32, a_ii (fun x y => x &&& y) 33) ∈ kX12_wireOf := qX12_wireOf_0 _ (List.mem_of_getElem? (i := 21) rfl)
theorem tX12_wireOf_33 : (33, a_i 1 34) ∈ kX12_wireOf := qX12_wireOf_0 _ (List.mem_of_getElem? (i := 22) rfl)
theorem tX12_wireOf_34 : (34, a_ic_ne 117 37) ∈ kX12_wireOf := qX12_wireOf_0 _ (List.mem_of_getElem? (i := 23) rfl)
theorem qX12_wireOf_1 : ∀ q ∈ kX12_wireOf_1, q ∈ kX12_wireOf := fun _ h => (List.mem_append_right _ (List.mem_append_left _ h))
theorem tX12_wireOf_37 : (37, a_aload 0 38) ∈ kX12_wireOf := qX12_wireOf_1 _ (List.mem_of_getElem? (i := 0) rfl)
theorem tX12_wireOf_38 : (38, a_getR 12 31 41) ∈ kX12_wireOf := qX12_wireOf_1 _ (List.mem_of_getElem? (i := 1) rfl)
theorem tX12_wireOf_41 : (41, a_iload 6 43) ∈ kX12_wireOf := qX12_wireOf_1 _ (List.mem_of_getElem? (i := 2) rfl)
theorem tX12_wireOf_43 : (43, a_iald 44) ∈ kX12_wireOf := qX12_wireOf_1 _ (List.mem_of_getElem? (i := 3) rfl)
theorem tX12_wireOf_44 : (44, a_i 4 45) ∈ kX12_wireOf := qX12_wireOf_1 _ (List.mem_of_getElem? (i := 4) rfl)
theorem tX12_wireOf_45 : (45, a_div (fun x y => x / y) 46) ∈ kX12_wireOf := qX12_wireOf_1 _ (List.mem_of_getElem? (i := 5) rfl)
theorem tX12_wireOf_46 : (46, a_istore 7 48) ∈ kX12_wireOf := qX12_wireOf_1 _ (List.mem_of_getElem? (i := 6) rfl)
theorem tX12_wireOf_48 : (48, a_aload 0 49) ∈ kX12_wireOf := qX12_wireOf_1 _ (List.mem_of_getElem? (i := 7) rfl)
theorem tX12_wireOf_49 : (49, a_getR 12 31 52) ∈ kX12_wireOf := qX12_wireOf_1 _ (List.mem_of_getElem? (i := 8) rfl)
theorem tX12_wireOf_52 : (52, a_iload 6 54) ∈ kX12_wireOf := qX12_wireOf_1 _ (List.mem_of_getElem? (i := 9) rfl)
theorem tX12_wireOf_54 : (54, a_iald 55) ∈ kX12_wireOf := qX12_wireOf_1 _ (List.mem_of_getElem? (i := 10) rfl)
theorem tX12_wireOf_55 : (55, a_i 4 56) ∈ kX12_wireOf := qX12_wireOf_1 _ (List.mem_of_getElem? (i := 11) rfl)
theorem tX12_wireOf_56 : (56, a_div (fun x y => x - x / y * y) 57) ∈ kX12_wireOf := qX12_wireOf_1 _ (List.mem_of_getElem? (i := 12) rfl)
theorem tX12_wireOf_57 : (57, a_istore 8 59) ∈ kX12_wireOf := qX12_wireOf_1 _ (List.mem_of_getElem? (i := 13) rfl)
theorem tX12_wireOf_59 : (59, a_iload 7 61) ∈ kX12_wireOf := qX12_wireOf_1 _ (List.mem_of_getElem? (i := 14) rfl)
theorem tX12_wireOf_61 : (61, a_iload 2 62) ∈ kX12_wireOf := qX12_wireOf_1 _ (List.mem_of_getElem? (i := 15) rfl)
theorem tX12_wireOf_62 : (62, a_ic_ge 70 65) ∈ kX12_wireOf := qX12_wireOf_1 _ (List.mem_of_getElem? (i := 16) rfl)
theorem tX12_wireOf_65 : (65, a_iload 7 67) ∈ kX12_wireOf := qX12_wireOf_1 _ (List.mem_of_getElem? (i := 17) rfl)
theorem tX12_wireOf_67 : (67, a_goto 71) ∈ kX12_wireOf := qX12_wireOf_1 _ (List.mem_of_getElem? (i := 18) rfl)
theorem tX12_wireOf_70 : (70, a_iload 2 71) ∈ kX12_wireOf := qX12_wireOf_1 _ (List.mem_of_getElem? (i := 19) rfl)
theorem tX12_wireOf_71 : (71, a_istore 2 72) ∈ kX12_wireOf := qX12_wireOf_1 _ (List.mem_of_getElem? (i := 20) rfl)
theorem tX12_wireOf_72 : (72, a_iload 7 74) ∈ kX12_wireOf := qX12_wireOf_1 _ (List.mem_of_getElem? (i := 21) rfl)
theorem tX12_wireOf_74 : (74, a_iload 3 75) ∈ kX12_wireOf := qX12_wireOf_1 _ (List.mem_of_getElem? (i := 22) rfl)
theorem tX12_wireOf_75 : (75, a_ic_le 83 78) ∈ kX12_wireOf := qX12_wireOf_1 _ (List.mem_of_getElem? (i := 23) rfl)
theorem qX12_wireOf_2 : ∀ q ∈ kX12_wireOf_2, q ∈ kX12_wireOf := fun _ h => (List.mem_append_right _ (List.mem_append_right _ (List.mem_append_left _ h)))
theorem tX12_wireOf_78 : (78, a_iload 7 80) ∈ kX12_wireOf := qX12_wireOf_2 _ (List.mem_of_getElem? (i := 0) rfl)
theorem tX12_wireOf_80 : (80, a_goto 84) ∈ kX12_wireOf := qX12_wireOf_2 _ (List.mem_of_getElem? (i := 1) rfl)
theorem tX12_wireOf_83 : (83, a_iload 3 84) ∈ kX12_wireOf := qX12_wireOf_2 _ (List.mem_of_getElem? (i := 2) rfl)
theorem tX12_wireOf_84 : (84, a_istore 3 85) ∈ kX12_wireOf := qX12_wireOf_2 _ (List.mem_of_getElem? (i := 3) rfl)
theorem tX12_wireOf_85 : (85, a_iload 8 87) ∈ kX12_wireOf := qX12_wireOf_2 _ (List.mem_of_getElem? (i := 4) rfl)
theorem tX12_wireOf_87 : (87, a_iload 4 89) ∈ kX12_wireOf := qX12_wireOf_2 _ (List.mem_of_getElem? (i := 5) rfl)
theorem tX12_wireOf_89 : (89, a_ic_ge 97 92) ∈ kX12_wireOf := qX12_wireOf_2 _ (List.mem_of_getElem? (i := 6) rfl)
theorem tX12_wireOf_92 : (92, a_iload 8 94) ∈ kX12_wireOf := qX12_wireOf_2 _ (List.mem_of_getElem? (i := 7) rfl)
theorem tX12_wireOf_94 : (94, a_goto 99) ∈ kX12_wireOf := qX12_wireOf_2 _ (List.mem_of_getElem? (i := 8) rfl)
theorem tX12_wireOf_97 : (97, a_iload 4 99) ∈ kX12_wireOf := qX12_wireOf_2 _ (List.mem_of_getElem? (i := 9) rfl)
theorem tX12_wireOf_99 : (99, a_istore 4 101) ∈ kX12_wireOf := qX12_wireOf_2 _ (List.mem_of_getElem? (i := 10) rfl)
theorem tX12_wireOf_101 : (101, a_iload 8 103) ∈ kX12_wireOf := qX12_wireOf_2 _ (List.mem_of_getElem? (i := 11) rfl)
theorem tX12_wireOf_103 : (103, a_iload 5 105) ∈ kX12_wireOf := qX12_wireOf_2 _ (List.mem_of_getElem? (i := 12) rfl)
theorem tX12_wireOf_105 : (105, a_ic_le 113 108) ∈ kX12_wireOf := qX12_wireOf_2 _ (List.mem_of_getElem? (i := 13) rfl)
theorem tX12_wireOf_108 : (108, a_iload 8 110) ∈ kX12_wireOf := qX12_wireOf_2 _ (List.mem_of_getElem? (i := 14) rfl)
theorem tX12_wireOf_110 : (110, a_goto 115) ∈ kX12_wireOf := qX12_wireOf_2 _ (List.mem_of_getElem? (i := 15) rfl)
theorem tX12_wireOf_113 : (113, a_iload 5 115) ∈ kX12_wireOf := qX12_wireOf_2 _ (List.mem_of_getElem? (i := 16) rfl)
theorem tX12_wireOf_115 : (115, a_istore 5 117) ∈ kX12_wireOf := qX12_wireOf_2 _ (List.mem_of_getElem? (i := 17) rfl)
theorem tX12_wireOf_117 : (117, a_iinc 6 1 120) ∈ kX12_wireOf := qX12_wireOf_2 _ (List.mem_of_getElem? (i := 18) rfl)
theorem tX12_wireOf_120 : (120, a_goto 13) ∈ kX12_wireOf := qX12_wireOf_2 _ (List.mem_of_getElem? (i := 19) rfl)
theorem tX12_wireOf_123 : (123, a_iload 3 124) ∈ kX12_wireOf := qX12_wireOf_2 _ (List.mem_of_getElem? (i := 20) rfl)
theorem tX12_wireOf_124 : (124, a_iload 2 125) ∈ kX12_wireOf := qX12_wireOf_2 _ (List.mem_of_getElem? (i := 21) rfl)
theorem tX12_wireOf_125 : (125, a_ii (fun x y => x - y) 126) ∈ kX12_wireOf := qX12_wireOf_2 _ (List.mem_of_getElem? (i := 22) rfl)
theorem tX12_wireOf_126 : (126, a_iload 5 128) ∈ kX12_wireOf := qX12_wireOf_2 _ (List.mem_of_getElem? (i := 23) rfl)
theorem qX12_wireOf_3 : ∀ q ∈ kX12_wireOf_3, q ∈ kX12_wireOf := fun _ h => (List.mem_append_right _ (List.mem_append_right _ (List.mem_append_right _ h)))
theorem tX12_wireOf_128 : (128, a_ii (fun x y => x + y) 129) ∈ kX12_wireOf := qX12_wireOf_3 _ (List.mem_of_getElem? (i := 0) rfl)
theorem tX12_wireOf_129 : (129, a_iload 4 131) ∈ kX12_wireOf := qX12_wireOf_3 _ (List.mem_of_getElem? (i := 1) rfl)
theorem tX12_wireOf_131 : (131, a_ii (fun x y => x - y) 132) ∈ kX12_wireOf := qX12_wireOf_3 _ (List.mem_of_getElem? (i := 2) rfl)
theorem tX12_wireOf_132 : (132, a_iret false) ∈ kX12_wireOf := qX12_wireOf_3 _ (List.mem_of_getElem? (i := 3) rfl)
theorem oX12_wireOf : ∀ q ∈ kX12_wireOf, zSnd zty false RX12 cX12_wireOf 9 (some .int) false q := List.forall_mem_append.mpr ⟨oX12_wireOf_0, List.forall_mem_append.mpr ⟨oX12_wireOf_1, List.forall_mem_append.mpr ⟨oX12_wireOf_2, oX12_wireOf_3⟩⟩⟩
theorem dX12_allWire_0 : decode cX12_allWire 0 = .ok (.iconst 0, 1) := by decide +kernel
theorem dX12_allWire_1 : decode cX12_allWire 1 = .ok (.istore_n 1, 1) := by decide +kernel
theorem dX12_allWire_2 : decode cX12_allWire 2 = .ok (.iconst 0, 1) := by decide +kernel
theorem dX12_allWire_3 : decode cX12_allWire 3 = .ok (.istore_n 2, 1) := by decide +kernel
theorem dX12_allWire_4 : decode cX12_allWire 4 = .ok (.iload_n 2, 1) := by decide +kernel
theorem dX12_allWire_5 : decode cX12_allWire 5 = .ok (.aload_n 0, 1) := by decide +kernel
theorem dX12_allWire_6 : decode cX12_allWire 6 = .ok (.getfield 217, 3) := by decide +kernel
theorem dX12_allWire_9 : decode cX12_allWire 9 = .ok (.if_icmp .ge 17, 3) := by decide +kernel
theorem dX12_allWire_12 : decode cX12_allWire 12 = .ok (.iload_n 1, 1) := by decide +kernel
theorem dX12_allWire_13 : decode cX12_allWire 13 = .ok (.aload_n 0, 1) := by decide +kernel
theorem dX12_allWire_14 : decode cX12_allWire 14 = .ok (.iload_n 2, 1) := by decide +kernel
theorem dX12_allWire_15 : decode cX12_allWire 15 = .ok (.invokevirtual 220, 3) := by decide +kernel
theorem dX12_allWire_18 : decode cX12_allWire 18 = .ok (.iadd, 1) := by decide +kernel
theorem dX12_allWire_19 : decode cX12_allWire 19 = .ok (.istore_n 1, 1) := by decide +kernel
theorem dX12_allWire_20 : decode cX12_allWire 20 = .ok (.iinc 2 1, 3) := by decide +kernel
theorem dX12_allWire_23 : decode cX12_allWire 23 = .ok (.goto (-19), 3) := by decide +kernel
theorem dX12_allWire_26 : decode cX12_allWire 26 = .ok (.iload_n 1, 1) := by decide +kernel
theorem dX12_allWire_27 : decode cX12_allWire 27 = .ok (.ireturn, 1) := by decide +kernel
def kX12_allWire_0 : List (Nat × zT) := [(0, a_i 0 1), (1, a_istore 1 2), (2, a_i 0 3), (3, a_istore 2 4), (4, a_iload 2 5), (5, a_aload 0 6), (6, a_getI 12 29 9), (9, a_ic_ge 26 12), (12, a_iload 1 13), (13, a_aload 0 14), (14, a_iload 2 15), (15, a_callV 12 188 2 18 0 0), (18, a_ii (fun x y => x + y) 19), (19, a_istore 1 20), (20, a_iinc 2 1 23), (23, a_goto 4), (26, a_iload 1 27), (27, a_iret false)]
theorem oX12_allWire_0 : ∀ q ∈ kX12_allWire_0, zSnd zty false RX12 cX12_allWire 3 (some .int) false q := List.forall_mem_cons.mpr ⟨ok_iconst dX12_allWire_0 (by decide), List.forall_mem_cons.mpr ⟨ok_istore_n dX12_allWire_1 rfl (by decide), List.forall_mem_cons.mpr ⟨ok_iconst dX12_allWire_2 (by decide), List.forall_mem_cons.mpr ⟨ok_istore_n dX12_allWire_3 rfl (by decide), List.forall_mem_cons.mpr ⟨ok_iload_n dX12_allWire_4 rfl, List.forall_mem_cons.mpr ⟨ok_aload_n dX12_allWire_5 rfl, List.forall_mem_cons.mpr ⟨ok_getI dX12_allWire_6 rfl in12 (by decide) rfl w986, List.forall_mem_cons.mpr ⟨ok_ic_ge dX12_allWire_9 (by decide), List.forall_mem_cons.mpr ⟨ok_iload_n dX12_allWire_12 rfl, List.forall_mem_cons.mpr ⟨ok_aload_n dX12_allWire_13 rfl, List.forall_mem_cons.mpr ⟨ok_iload_n dX12_allWire_14 rfl, List.forall_mem_cons.mpr ⟨ok_callV dX12_allWire_15 rfl rfl w1289 w1286 w1288 w13 s45 (by decide +kernel) (by decide), List.forall_mem_cons.mpr ⟨ok_iadd dX12_allWire_18, List.forall_mem_cons.mpr ⟨ok_istore_n dX12_allWire_19 rfl (by decide), List.forall_mem_cons.mpr ⟨ok_iinc dX12_allWire_20 (by decide) (by decide), List.forall_mem_cons.mpr ⟨ok_goto dX12_allWire_23 (by decide), List.forall_mem_cons.mpr ⟨ok_iload_n dX12_allWire_26 rfl, List.forall_mem_cons.mpr ⟨ok_iret (bz := false) dX12_allWire_27 rfl, fun _ h => absurd h List.not_mem_nil⟩⟩⟩⟩⟩⟩⟩⟩⟩⟩⟩⟩⟩⟩⟩⟩⟩⟩
def kX12_allWire : List (Nat × zT) := kX12_allWire_0
theorem qX12_allWire_0 : ∀ q ∈ kX12_allWire_0, q ∈ kX12_allWire := fun _ h => h
theorem tX12_allWire_0 : (0, a_i 0 1) ∈ kX12_allWire := qX12_allWire_0 _ (List.mem_of_getElem? (i := 0) rfl)
theorem tX12_allWire_1 : (1, a_istore 1 2) ∈ kX12_allWire := qX12_allWire_0 _ (List.mem_of_getElem? (i := 1) rfl)
theorem tX12_allWire_2 : (2, a_i 0 3) ∈ kX12_allWire := qX12_allWire_0 _ (List.mem_of_getElem? (i := 2) rfl)
theorem tX12_allWire_3 : (3, a_istore 2 4) ∈ kX12_allWire := qX12_allWire_0 _ (List.mem_of_getElem? (i := 3) rfl)
theorem tX12_allWire_4 : (4, a_iload 2 5) ∈ kX12_allWire := qX12_allWire_0 _ (List.mem_of_getElem? (i := 4) rfl)
theorem tX12_allWire_5 : (5, a_aload 0 6) ∈ kX12_allWire := qX12_allWire_0 _ (List.mem_of_getElem? (i := 5) rfl)
theorem tX12_allWire_6 : (6, a_getI 12 29 9) ∈ kX12_allWire := qX12_allWire_0 _ (List.mem_of_getElem? (i := 6) rfl)
theorem tX12_allWire_9 : (9, a_ic_ge 26 12) ∈ kX12_allWire := qX12_allWire_0 _ (List.mem_of_getElem? (i := 7) rfl)
theorem tX12_allWire_12 : (12, a_iload 1 13) ∈ kX12_allWire := qX12_allWire_0 _ (List.mem_of_getElem? (i := 8) rfl)
theorem tX12_allWire_13 : (13, a_aload 0 14) ∈ kX12_allWire := qX12_allWire_0 _ (List.mem_of_getElem? (i := 9) rfl)
theorem tX12_allWire_14 : (14, a_iload 2 15) ∈ kX12_allWire := qX12_allWire_0 _ (List.mem_of_getElem? (i := 10) rfl)
theorem tX12_allWire_15 : (15, a_callV 12 188 2 18 0 0) ∈ kX12_allWire := qX12_allWire_0 _ (List.mem_of_getElem? (i := 11) rfl)
theorem tX12_allWire_18 : (18, a_ii (fun x y => x + y) 19) ∈ kX12_allWire := qX12_allWire_0 _ (List.mem_of_getElem? (i := 12) rfl)
theorem tX12_allWire_19 : (19, a_istore 1 20) ∈ kX12_allWire := qX12_allWire_0 _ (List.mem_of_getElem? (i := 13) rfl)
theorem tX12_allWire_20 : (20, a_iinc 2 1 23) ∈ kX12_allWire := qX12_allWire_0 _ (List.mem_of_getElem? (i := 14) rfl)
theorem tX12_allWire_23 : (23, a_goto 4) ∈ kX12_allWire := qX12_allWire_0 _ (List.mem_of_getElem? (i := 15) rfl)
theorem tX12_allWire_26 : (26, a_iload 1 27) ∈ kX12_allWire := qX12_allWire_0 _ (List.mem_of_getElem? (i := 16) rfl)
theorem tX12_allWire_27 : (27, a_iret false) ∈ kX12_allWire := qX12_allWire_0 _ (List.mem_of_getElem? (i := 17) rfl)
theorem oX12_allWire : ∀ q ∈ kX12_allWire, zSnd zty false RX12 cX12_allWire 3 (some .int) false q := oX12_allWire_0
theorem dX12_tryNow_0 : decode cX12_tryNow 0 = .ok (.iconst 0, 1) := by decide +kernel
theorem dX12_tryNow_1 : decode cX12_tryNow 1 = .ok (.istore_n 1, 1) := by decide +kernel
theorem dX12_tryNow_2 : decode cX12_tryNow 2 = .ok (.iload_n 1, 1) := by decide +kernel
theorem dX12_tryNow_3 : decode cX12_tryNow 3 = .ok (.bipush 7, 2) := by decide +kernel
theorem dX12_tryNow_5 : decode cX12_tryNow 5 = .ok (.if_icmp .ge 21, 3) := by decide +kernel
theorem dX12_tryNow_8 : decode cX12_tryNow 8 = .ok (.aload_n 0, 1) := by decide +kernel
theorem dX12_tryNow_9 : decode cX12_tryNow 9 = .ok (.getfield 89, 3) := by decide +kernel
theorem dX12_tryNow_12 : decode cX12_tryNow 12 = .ok (.iload_n 1, 1) := by decide +kernel
theorem dX12_tryNow_13 : decode cX12_tryNow 13 = .ok (.aload_n 0, 1) := by decide +kernel
theorem dX12_tryNow_14 : decode cX12_tryNow 14 = .ok (.getfield 83, 3) := by decide +kernel
theorem dX12_tryNow_17 : decode cX12_tryNow 17 = .ok (.iload_n 1, 1) := by decide +kernel
theorem dX12_tryNow_18 : decode cX12_tryNow 18 = .ok (.iaload, 1) := by decide +kernel
theorem dX12_tryNow_19 : decode cX12_tryNow 19 = .ok (.iastore, 1) := by decide +kernel
theorem dX12_tryNow_20 : decode cX12_tryNow 20 = .ok (.iinc 1 1, 3) := by decide +kernel
theorem dX12_tryNow_23 : decode cX12_tryNow 23 = .ok (.goto (-21), 3) := by decide +kernel
theorem dX12_tryNow_26 : decode cX12_tryNow 26 = .ok (.return_, 1) := by decide +kernel
def kX12_tryNow_0 : List (Nat × zT) := [(0, a_i 0 1), (1, a_istore 1 2), (2, a_iload 1 3), (3, a_i 7 5), (5, a_ic_ge 26 8), (8, a_aload 0 9), (9, a_getR 12 31 12), (12, a_iload 1 13), (13, a_aload 0 14), (14, a_getR 12 28 17), (17, a_iload 1 18), (18, a_iald 19), (19, a_iast 20), (20, a_iinc 1 1 23), (23, a_goto 2), (26, a_vret)]
theorem oX12_tryNow_0 : ∀ q ∈ kX12_tryNow_0, zSnd zty false RX12 cX12_tryNow 2 none false q := List.forall_mem_cons.mpr ⟨ok_iconst dX12_tryNow_0 (by decide), List.forall_mem_cons.mpr ⟨ok_istore_n dX12_tryNow_1 rfl (by decide), List.forall_mem_cons.mpr ⟨ok_iload_n dX12_tryNow_2 rfl, List.forall_mem_cons.mpr ⟨ok_bipush dX12_tryNow_3 (by decide), List.forall_mem_cons.mpr ⟨ok_ic_ge dX12_tryNow_5 (by decide), List.forall_mem_cons.mpr ⟨ok_aload_n dX12_tryNow_8 rfl, List.forall_mem_cons.mpr ⟨ok_getR dX12_tryNow_9 rfl in12 (by decide) rfl w988, List.forall_mem_cons.mpr ⟨ok_iload_n dX12_tryNow_12 rfl, List.forall_mem_cons.mpr ⟨ok_aload_n dX12_tryNow_13 rfl, List.forall_mem_cons.mpr ⟨ok_getR dX12_tryNow_14 rfl in12 (by decide) rfl w985, List.forall_mem_cons.mpr ⟨ok_iload_n dX12_tryNow_17 rfl, List.forall_mem_cons.mpr ⟨ok_iald dX12_tryNow_18, List.forall_mem_cons.mpr ⟨ok_iast dX12_tryNow_19, List.forall_mem_cons.mpr ⟨ok_iinc dX12_tryNow_20 (by decide) (by decide), List.forall_mem_cons.mpr ⟨ok_goto dX12_tryNow_23 (by decide), List.forall_mem_cons.mpr ⟨ok_vret dX12_tryNow_26 rfl, fun _ h => absurd h List.not_mem_nil⟩⟩⟩⟩⟩⟩⟩⟩⟩⟩⟩⟩⟩⟩⟩⟩
def kX12_tryNow : List (Nat × zT) := kX12_tryNow_0
theorem qX12_tryNow_0 : ∀ q ∈ kX12_tryNow_0, q ∈ kX12_tryNow := fun _ h => h
theorem tX12_tryNow_0 : (0, a_i 0 1) ∈ kX12_tryNow := qX12_tryNow_0 _ (List.mem_of_getElem? (i := 0) rfl)
theorem tX12_tryNow_1 : (1, a_istore 1 2) ∈ kX12_tryNow := qX12_tryNow_0 _ (List.mem_of_getElem? (i := 1) rfl)
theorem tX12_tryNow_2 : (2, a_iload 1 3) ∈ kX12_tryNow := qX12_tryNow_0 _ (List.mem_of_getElem? (i := 2) rfl)
theorem tX12_tryNow_3 : (3, a_i 7 5) ∈ kX12_tryNow := qX12_tryNow_0 _ (List.mem_of_getElem? (i := 3) rfl)
theorem tX12_tryNow_5 : (5, a_ic_ge 26 8) ∈ kX12_tryNow := qX12_tryNow_0 _ (List.mem_of_getElem? (i := 4) rfl)
theorem tX12_tryNow_8 : (8, a_aload 0 9) ∈ kX12_tryNow := qX12_tryNow_0 _ (List.mem_of_getElem? (i := 5) rfl)
theorem tX12_tryNow_9 : (9, a_getR 12 31 12) ∈ kX12_tryNow := qX12_tryNow_0 _ (List.mem_of_getElem? (i := 6) rfl)
theorem tX12_tryNow_12 : (12, a_iload 1 13) ∈ kX12_tryNow := qX12_tryNow_0 _ (List.mem_of_getElem? (i := 7) rfl)
theorem tX12_tryNow_13 : (13, a_aload 0 14) ∈ kX12_tryNow := qX12_tryNow_0 _ (List.mem_of_getElem? (i := 8) rfl)
theorem tX12_tryNow_14 : (14, a_getR 12 28 17) ∈ kX12_tryNow := qX12_tryNow_0 _ (List.mem_of_getElem? (i := 9) rfl)
theorem tX12_tryNow_17 : (17, a_iload 1 18) ∈ kX12_tryNow := qX12_tryNow_0 _ (List.mem_of_getElem? (i := 10) rfl)
theorem tX12_tryNow_18 : (18, a_iald 19) ∈ kX12_tryNow := qX12_tryNow_0 _ (List.mem_of_getElem? (i := 11) rfl)
theorem tX12_tryNow_19 : (19, a_iast 20) ∈ kX12_tryNow := qX12_tryNow_0 _ (List.mem_of_getElem? (i := 12) rfl)
theorem tX12_tryNow_20 : (20, a_iinc 1 1 23) ∈ kX12_tryNow := qX12_tryNow_0 _ (List.mem_of_getElem? (i := 13) rfl)
theorem tX12_tryNow_23 : (23, a_goto 2) ∈ kX12_tryNow := qX12_tryNow_0 _ (List.mem_of_getElem? (i := 14) rfl)
theorem tX12_tryNow_26 : (26, a_vret) ∈ kX12_tryNow := qX12_tryNow_0 _ (List.mem_of_getElem? (i := 15) rfl)
theorem oX12_tryNow : ∀ q ∈ kX12_tryNow, zSnd zty false RX12 cX12_tryNow 2 none false q := oX12_tryNow_0
theorem dX12_wire_0 : decode cX12_wire 0 = .ok (.iload_n 1, 1) := by decide +kernel
theorem dX12_wire_1 : decode cX12_wire 1 = .ok (.iconst (-1), 1) := by decide +kernel
theorem dX12_wire_2 : decode cX12_wire 2 = .ok (.if_icmp .eq 19, 3) := by decide +kernel
theorem dX12_wire_5 : decode cX12_wire 5 = .ok (.iload_n 1, 1) := by decide +kernel
theorem dX12_wire_6 : decode cX12_wire 6 = .ok (.iconst 0, 1) := by decide +kernel
theorem dX12_wire_7 : decode cX12_wire 7 = .ok (.aload_n 0, 1) := by decide +kernel
theorem dX12_wire_8 : decode cX12_wire 8 = .ok (.getfield 217, 3) := by decide +kernel
theorem dX12_wire_11 : decode cX12_wire 11 = .ok (.iconst 1, 1) := by decide +kernel
theorem dX12_wire_12 : decode cX12_wire 12 = .ok (.isub, 1) := by decide +kernel
theorem dX12_wire_13 : decode cX12_wire 13 = .ok (.invokestatic 112, 3) := by decide +kernel
theorem dX12_wire_16 : decode cX12_wire 16 = .ok (.ifCond .ne 5, 3) := by decide +kernel
theorem dX12_wire_19 : decode cX12_wire 19 = .ok (.iconst (-1), 1) := by decide +kernel
theorem dX12_wire_20 : decode cX12_wire 20 = .ok (.ireturn, 1) := by decide +kernel
theorem dX12_wire_21 : decode cX12_wire 21 = .ok (.aload_n 0, 1) := by decide +kernel
theorem dX12_wire_22 : decode cX12_wire 22 = .ok (.invokevirtual 223, 3) := by decide +kernel
theorem dX12_wire_25 : decode cX12_wire 25 = .ok (.iload_n 1, 1) := by decide +kernel
theorem dX12_wire_26 : decode cX12_wire 26 = .ok (.ifCond .ge 10, 3) := by decide +kernel
theorem dX12_wire_29 : decode cX12_wire 29 = .ok (.aload_n 0, 1) := by decide +kernel
theorem dX12_wire_30 : decode cX12_wire 30 = .ok (.invokevirtual 226, 3) := by decide +kernel
theorem dX12_wire_33 : decode cX12_wire 33 = .ok (.goto 8, 3) := by decide +kernel
theorem dX12_wire_36 : decode cX12_wire 36 = .ok (.aload_n 0, 1) := by decide +kernel
theorem dX12_wire_37 : decode cX12_wire 37 = .ok (.iload_n 1, 1) := by decide +kernel
theorem dX12_wire_38 : decode cX12_wire 38 = .ok (.invokevirtual 220, 3) := by decide +kernel
theorem dX12_wire_41 : decode cX12_wire 41 = .ok (.ireturn, 1) := by decide +kernel
def kX12_wire_0 : List (Nat × zT) := [(0, a_iload 1 1), (1, a_i (-1) 2), (2, a_ic_eq 21 5), (5, a_iload 1 6), (6, a_i 0 7), (7, a_aload 0 8), (8, a_getI 12 29 11), (11, a_i 1 12), (12, a_ii (fun x y => x - y) 13), (13, a_call 138 3 16 0 0), (16, a_if_ne 21 19), (19, a_i (-1) 20), (20, a_iret false), (21, a_aload 0 22), (22, a_callV 12 190 1 25 0 0), (25, a_iload 1 26), (26, a_if_ge 36 29), (29, a_aload 0 30), (30, a_callV 12 189 1 33 0 0), (33, a_goto 41), (36, a_aload 0 37), (37, a_iload 1 38), (38, a_callV 12 188 2 41 0 0), (41, a_iret false)]
theorem oX12_wire_0 : ∀ q ∈ kX12_wire_0, zSnd zty false RX12 cX12_wire 2 (some .int) false q := List.forall_mem_cons.mpr ⟨ok_iload_n dX12_wire_0 rfl, List.forall_mem_cons.mpr ⟨ok_iconst dX12_wire_1 (by decide), List.forall_mem_cons.mpr ⟨ok_ic_eq dX12_wire_2 (by decide), List.forall_mem_cons.mpr ⟨ok_iload_n dX12_wire_5 rfl, List.forall_mem_cons.mpr ⟨ok_iconst dX12_wire_6 (by decide), List.forall_mem_cons.mpr ⟨ok_aload_n dX12_wire_7 rfl, List.forall_mem_cons.mpr ⟨ok_getI dX12_wire_8 rfl in12 (by decide) rfl w986, List.forall_mem_cons.mpr ⟨ok_iconst dX12_wire_11 (by decide), List.forall_mem_cons.mpr ⟨ok_isub dX12_wire_12, List.forall_mem_cons.mpr ⟨ok_callS dX12_wire_13 rfl w1084 w1082 w1083 w13 (by decide +kernel) (by decide), List.forall_mem_cons.mpr ⟨ok_if_ne dX12_wire_16 (by decide), List.forall_mem_cons.mpr ⟨ok_iconst dX12_wire_19 (by decide), List.forall_mem_cons.mpr ⟨ok_iret (bz := false) dX12_wire_20 rfl, List.forall_mem_cons.mpr ⟨ok_aload_n dX12_wire_21 rfl, List.forall_mem_cons.mpr ⟨ok_callV dX12_wire_22 rfl rfl w1281 w1278 w1280 w13 s43 (by decide +kernel) (by decide), List.forall_mem_cons.mpr ⟨ok_iload_n dX12_wire_25 rfl, List.forall_mem_cons.mpr ⟨ok_if_ge dX12_wire_26 (by decide), List.forall_mem_cons.mpr ⟨ok_aload_n dX12_wire_29 rfl, List.forall_mem_cons.mpr ⟨ok_callV dX12_wire_30 rfl rfl w1285 w1282 w1284 w13 s44 (by decide +kernel) (by decide), List.forall_mem_cons.mpr ⟨ok_goto dX12_wire_33 (by decide), List.forall_mem_cons.mpr ⟨ok_aload_n dX12_wire_36 rfl, List.forall_mem_cons.mpr ⟨ok_iload_n dX12_wire_37 rfl, List.forall_mem_cons.mpr ⟨ok_callV dX12_wire_38 rfl rfl w1289 w1286 w1288 w13 s45 (by decide +kernel) (by decide), List.forall_mem_cons.mpr ⟨ok_iret (bz := false) dX12_wire_41 rfl, fun _ h => absurd h List.not_mem_nil⟩⟩⟩⟩⟩⟩⟩⟩⟩⟩⟩⟩⟩⟩⟩⟩⟩⟩⟩⟩⟩⟩⟩⟩
def kX12_wire : List (Nat × zT) := kX12_wire_0
theorem qX12_wire_0 : ∀ q ∈ kX12_wire_0, q ∈ kX12_wire := fun _ h => h
theorem tX12_wire_0 : (0, a_iload 1 1) ∈ kX12_wire := qX12_wire_0 _ (List.mem_of_getElem? (i := 0) rfl)
theorem tX12_wire_1 : (1, a_i (-1) 2) ∈ kX12_wire := qX12_wire_0 _ (List.mem_of_getElem? (i := 1) rfl)
theorem tX12_wire_2 : (2, a_ic_eq 21 5) ∈ kX12_wire := qX12_wire_0 _ (List.mem_of_getElem? (i := 2) rfl)
theorem tX12_wire_5 : (5, a_iload 1 6) ∈ kX12_wire := qX12_wire_0 _ (List.mem_of_getElem? (i := 3) rfl)
theorem tX12_wire_6 : (6, a_i 0 7) ∈ kX12_wire := qX12_wire_0 _ (List.mem_of_getElem? (i := 4) rfl)
theorem tX12_wire_7 : (7, a_aload 0 8) ∈ kX12_wire := qX12_wire_0 _ (List.mem_of_getElem? (i := 5) rfl)
theorem tX12_wire_8 : (8, a_getI 12 29 11) ∈ kX12_wire := qX12_wire_0 _ (List.mem_of_getElem? (i := 6) rfl)
theorem tX12_wire_11 : (11, a_i 1 12) ∈ kX12_wire := qX12_wire_0 _ (List.mem_of_getElem? (i := 7) rfl)
theorem tX12_wire_12 : (12, a_ii (fun x y => x - y) 13) ∈ kX12_wire := qX12_wire_0 _ (List.mem_of_getElem? (i := 8) rfl)
theorem tX12_wire_13 : (13, a_call 138 3 16 0 0) ∈ kX12_wire := qX12_wire_0 _ (List.mem_of_getElem? (i := 9) rfl)
theorem tX12_wire_16 : (16, a_if_ne 21 19) ∈ kX12_wire := qX12_wire_0 _ (List.mem_of_getElem? (i := 10) rfl)
theorem tX12_wire_19 : (19, a_i (-1) 20) ∈ kX12_wire := qX12_wire_0 _ (List.mem_of_getElem? (i := 11) rfl)
theorem tX12_wire_20 : (20, a_iret false) ∈ kX12_wire := qX12_wire_0 _ (List.mem_of_getElem? (i := 12) rfl)
theorem tX12_wire_21 : (21, a_aload 0 22) ∈ kX12_wire := qX12_wire_0 _ (List.mem_of_getElem? (i := 13) rfl)
theorem tX12_wire_22 : (22, a_callV 12 190 1 25 0 0) ∈ kX12_wire := qX12_wire_0 _ (List.mem_of_getElem? (i := 14) rfl)
theorem tX12_wire_25 : (25, a_iload 1 26) ∈ kX12_wire := qX12_wire_0 _ (List.mem_of_getElem? (i := 15) rfl)
theorem tX12_wire_26 : (26, a_if_ge 36 29) ∈ kX12_wire := qX12_wire_0 _ (List.mem_of_getElem? (i := 16) rfl)
theorem tX12_wire_29 : (29, a_aload 0 30) ∈ kX12_wire := qX12_wire_0 _ (List.mem_of_getElem? (i := 17) rfl)
theorem tX12_wire_30 : (30, a_callV 12 189 1 33 0 0) ∈ kX12_wire := qX12_wire_0 _ (List.mem_of_getElem? (i := 18) rfl)
theorem tX12_wire_33 : (33, a_goto 41) ∈ kX12_wire := qX12_wire_0 _ (List.mem_of_getElem? (i := 19) rfl)
theorem tX12_wire_36 : (36, a_aload 0 37) ∈ kX12_wire := qX12_wire_0 _ (List.mem_of_getElem? (i := 20) rfl)
theorem tX12_wire_37 : (37, a_iload 1 38) ∈ kX12_wire := qX12_wire_0 _ (List.mem_of_getElem? (i := 21) rfl)
theorem tX12_wire_38 : (38, a_callV 12 188 2 41 0 0) ∈ kX12_wire := qX12_wire_0 _ (List.mem_of_getElem? (i := 22) rfl)
theorem tX12_wire_41 : (41, a_iret false) ∈ kX12_wire := qX12_wire_0 _ (List.mem_of_getElem? (i := 23) rfl)
theorem oX12_wire : ∀ q ∈ kX12_wire, zSnd zty false RX12 cX12_wire 2 (some .int) false q := oX12_wire_0
theorem dX12_isFree_0 : decode cX12_isFree 0 = .ok (.iconst 1, 1) := by decide +kernel
theorem dX12_isFree_1 : decode cX12_isFree 1 = .ok (.istore_n 3, 1) := by decide +kernel
theorem dX12_isFree_2 : decode cX12_isFree 2 = .ok (.iconst 0, 1) := by decide +kernel
theorem dX12_isFree_3 : decode cX12_isFree 3 = .ok (.istore 4, 2) := by decide +kernel
theorem dX12_isFree_5 : decode cX12_isFree 5 = .ok (.iload 4, 2) := by decide +kernel
theorem dX12_isFree_7 : decode cX12_isFree 7 = .ok (.iload_n 1, 1) := by decide +kernel
theorem dX12_isFree_8 : decode cX12_isFree 8 = .ok (.if_icmp .ge 30, 3) := by decide +kernel
theorem dX12_isFree_11 : decode cX12_isFree 11 = .ok (.iload_n 3, 1) := by decide +kernel
theorem dX12_isFree_12 : decode cX12_isFree 12 = .ok (.ifCond .eq 18, 3) := by decide +kernel
theorem dX12_isFree_15 : decode cX12_isFree 15 = .ok (.aload_n 0, 1) := by decide +kernel
theorem dX12_isFree_16 : decode cX12_isFree 16 = .ok (.getfield 89, 3) := by decide +kernel
theorem dX12_isFree_19 : decode cX12_isFree 19 = .ok (.iload 4, 2) := by decide +kernel
theorem dX12_isFree_21 : decode cX12_isFree 21 = .ok (.iaload, 1) := by decide +kernel
theorem dX12_isFree_22 : decode cX12_isFree 22 = .ok (.iload_n 2, 1) := by decide +kernel
theorem dX12_isFree_23 : decode cX12_isFree 23 = .ok (.if_icmp .eq 7, 3) := by decide +kernel
theorem dX12_isFree_26 : decode cX12_isFree 26 = .ok (.iconst 1, 1) := by decide +kernel
theorem dX12_isFree_27 : decode cX12_isFree 27 = .ok (.goto 4, 3) := by decide +kernel
theorem dX12_isFree_30 : decode cX12_isFree 30 = .ok (.iconst 0, 1) := by decide +kernel
theorem dX12_isFree_31 : decode cX12_isFree 31 = .ok (.istore_n 3, 1) := by decide +kernel
theorem dX12_isFree_32 : decode cX12_isFree 32 = .ok (.iinc 4 1, 3) := by decide +kernel
theorem dX12_isFree_35 : decode cX12_isFree 35 = .ok (.goto (-30), 3) := by decide +kernel
theorem dX12_isFree_38 : decode cX12_isFree 38 = .ok (.iload_n 3, 1) := by decide +kernel
theorem dX12_isFree_39 : decode cX12_isFree 39 = .ok (.ireturn, 1) := by decide +kernel
def kX12_isFree_0 : List (Nat × zT) := [(0, a_i 1 1), (1, a_istore 3 2), (2, a_i 0 3), (3, a_istore 4 5), (5, a_iload 4 7), (7, a_iload 1 8), (8, a_ic_ge 38 11), (11, a_iload 3 12), (12, a_if_eq 30 15), (15, a_aload 0 16), (16, a_getR 12 31 19), (19, a_iload 4 21), (21, a_iald 22), (22, a_iload 2 23), (23, a_ic_eq 30 26), (26, a_i 1 27), (27, a_goto 31), (30, a_i 0 31), (31, a_istore 3 32), (32, a_iinc 4 1 35), (35, a_goto 5), (38, a_iload 3 39), (39, a_iret true)]
theorem oX12_isFree_0 : ∀ q ∈ kX12_isFree_0, zSnd zty false RX12 cX12_isFree 5 (some .boolean) false q := List.forall_mem_cons.mpr ⟨ok_iconst dX12_isFree_0 (by decide), List.forall_mem_cons.mpr ⟨ok_istore_n dX12_isFree_1 rfl (by decide), List.forall_mem_cons.mpr ⟨ok_iconst dX12_isFree_2 (by decide), List.forall_mem_cons.mpr ⟨ok_istore dX12_isFree_3 (by decide), List.forall_mem_cons.mpr ⟨ok_iload dX12_isFree_5, List.forall_mem_cons.mpr ⟨ok_iload_n dX12_isFree_7 rfl, List.forall_mem_cons.mpr ⟨ok_ic_ge dX12_isFree_8 (by decide), List.forall_mem_cons.mpr ⟨ok_iload_n dX12_isFree_11 rfl, List.forall_mem_cons.mpr ⟨ok_if_eq dX12_isFree_12 (by decide), List.forall_mem_cons.mpr ⟨ok_aload_n dX12_isFree_15 rfl, List.forall_mem_cons.mpr ⟨ok_getR dX12_isFree_16 rfl in12 (by decide) rfl w988, List.forall_mem_cons.mpr ⟨ok_iload dX12_isFree_19, List.forall_mem_cons.mpr ⟨ok_iald dX12_isFree_21, List.forall_mem_cons.mpr ⟨ok_iload_n dX12_isFree_22 rfl, List.forall_mem_cons.mpr ⟨ok_ic_eq dX12_isFree_23 (by decide), List.forall_mem_cons.mpr ⟨ok_iconst dX12_isFree_26 (by decide), List.forall_mem_cons.mpr ⟨ok_goto dX12_isFree_27 (by decide), List.forall_mem_cons.mpr ⟨ok_iconst dX12_isFree_30 (by decide), List.forall_mem_cons.mpr ⟨ok_istore_n dX12_isFree_31 rfl (by decide), List.forall_mem_cons.mpr ⟨ok_iinc dX12_isFree_32 (by decide) (by decide), List.forall_mem_cons.mpr ⟨ok_goto dX12_isFree_35 (by decide), List.forall_mem_cons.mpr ⟨ok_iload_n dX12_isFree_38 rfl, List.forall_mem_cons.mpr ⟨ok_iret (bz := true) dX12_isFree_39 rfl, fun _ h => absurd h List.not_mem_nil⟩⟩⟩⟩⟩⟩⟩⟩⟩⟩⟩⟩⟩⟩⟩⟩⟩⟩⟩⟩⟩⟩⟩
def kX12_isFree : List (Nat × zT) := kX12_isFree_0
theorem qX12_isFree_0 : ∀ q ∈ kX12_isFree_0, q ∈ kX12_isFree := fun _ h => h
theorem tX12_isFree_0 : (0, a_i 1 1) ∈ kX12_isFree := qX12_isFree_0 _ (List.mem_of_getElem? (i := 0) rfl)
theorem tX12_isFree_1 : (1, a_istore 3 2) ∈ kX12_isFree := qX12_isFree_0 _ (List.mem_of_getElem? (i := 1) rfl)
theorem tX12_isFree_2 : (2, a_i 0 3) ∈ kX12_isFree := qX12_isFree_0 _ (List.mem_of_getElem? (i := 2) rfl)
theorem tX12_isFree_3 : (3, a_istore 4 5) ∈ kX12_isFree := qX12_isFree_0 _ (List.mem_of_getElem? (i := 3) rfl)
theorem tX12_isFree_5 : (5, a_iload 4 7) ∈ kX12_isFree := qX12_isFree_0 _ (List.mem_of_getElem? (i := 4) rfl)
theorem tX12_isFree_7 : (7, a_iload 1 8) ∈ kX12_isFree := qX12_isFree_0 _ (List.mem_of_getElem? (i := 5) rfl)
theorem tX12_isFree_8 : (8, a_ic_ge 38 11) ∈ kX12_isFree := qX12_isFree_0 _ (List.mem_of_getElem? (i := 6) rfl)
theorem tX12_isFree_11 : (11, a_iload 3 12) ∈ kX12_isFree := qX12_isFree_0 _ (List.mem_of_getElem? (i := 7) rfl)
theorem tX12_isFree_12 : (12, a_if_eq 30 15) ∈ kX12_isFree := qX12_isFree_0 _ (List.mem_of_getElem? (i := 8) rfl)
theorem tX12_isFree_15 : (15, a_aload 0 16) ∈ kX12_isFree := qX12_isFree_0 _ (List.mem_of_getElem? (i := 9) rfl)
theorem tX12_isFree_16 : (16, a_getR 12 31 19) ∈ kX12_isFree := qX12_isFree_0 _ (List.mem_of_getElem? (i := 10) rfl)
theorem tX12_isFree_19 : (19, a_iload 4 21) ∈ kX12_isFree := qX12_isFree_0 _ (List.mem_of_getElem? (i := 11) rfl)
theorem tX12_isFree_21 : (21, a_iald 22) ∈ kX12_isFree := qX12_isFree_0 _ (List.mem_of_getElem? (i := 12) rfl)
theorem tX12_isFree_22 : (22, a_iload 2 23) ∈ kX12_isFree := qX12_isFree_0 _ (List.mem_of_getElem? (i := 13) rfl)
theorem tX12_isFree_23 : (23, a_ic_eq 30 26) ∈ kX12_isFree := qX12_isFree_0 _ (List.mem_of_getElem? (i := 14) rfl)
theorem tX12_isFree_26 : (26, a_i 1 27) ∈ kX12_isFree := qX12_isFree_0 _ (List.mem_of_getElem? (i := 15) rfl)
theorem tX12_isFree_27 : (27, a_goto 31) ∈ kX12_isFree := qX12_isFree_0 _ (List.mem_of_getElem? (i := 16) rfl)
theorem tX12_isFree_30 : (30, a_i 0 31) ∈ kX12_isFree := qX12_isFree_0 _ (List.mem_of_getElem? (i := 17) rfl)
theorem tX12_isFree_31 : (31, a_istore 3 32) ∈ kX12_isFree := qX12_isFree_0 _ (List.mem_of_getElem? (i := 18) rfl)
theorem tX12_isFree_32 : (32, a_iinc 4 1 35) ∈ kX12_isFree := qX12_isFree_0 _ (List.mem_of_getElem? (i := 19) rfl)
theorem tX12_isFree_35 : (35, a_goto 5) ∈ kX12_isFree := qX12_isFree_0 _ (List.mem_of_getElem? (i := 20) rfl)
theorem tX12_isFree_38 : (38, a_iload 3 39) ∈ kX12_isFree := qX12_isFree_0 _ (List.mem_of_getElem? (i := 21) rfl)
theorem tX12_isFree_39 : (39, a_iret true) ∈ kX12_isFree := qX12_isFree_0 _ (List.mem_of_getElem? (i := 22) rfl)
theorem oX12_isFree : ∀ q ∈ kX12_isFree, zSnd zty false RX12 cX12_isFree 5 (some .boolean) false q := oX12_isFree_0
theorem dX12_layLeast_0 : decode cX12_layLeast 0 = .ok (.ldc 229, 2) := by decide +kernel
theorem dX12_layLeast_2 : decode cX12_layLeast 2 = .ok (.istore_n 1, 1) := by decide +kernel
theorem dX12_layLeast_3 : decode cX12_layLeast 3 = .ok (.iconst 0, 1) := by decide +kernel
theorem dX12_layLeast_4 : decode cX12_layLeast 4 = .ok (.istore_n 2, 1) := by decide +kernel
theorem dX12_layLeast_5 : decode cX12_layLeast 5 = .ok (.aload_n 0, 1) := by decide +kernel
theorem dX12_layLeast_6 : decode cX12_layLeast 6 = .ok (.getfield 89, 3) := by decide +kernel
theorem dX12_layLeast_9 : decode cX12_layLeast 9 = .ok (.iconst 0, 1) := by decide +kernel
theorem dX12_layLeast_10 : decode cX12_layLeast 10 = .ok (.iconst (-1), 1) := by decide +kernel
theorem dX12_layLeast_11 : decode cX12_layLeast 11 = .ok (.iastore, 1) := by decide +kernel
theorem dX12_layLeast_12 : decode cX12_layLeast 12 = .ok (.iload_n 2, 1) := by decide +kernel
theorem dX12_layLeast_13 : decode cX12_layLeast 13 = .ok (.ifCond .lt 131, 3) := by decide +kernel
theorem dX12_layLeast_16 : decode cX12_layLeast 16 = .ok (.iload_n 2, 1) := by decide +kernel
theorem dX12_layLeast_17 : decode cX12_layLeast 17 = .ok (.aload_n 0, 1) := by decide +kernel
theorem dX12_layLeast_18 : decode cX12_layLeast 18 = .ok (.getfield 211, 3) := by decide +kernel
theorem dX12_layLeast_21 : decode cX12_layLeast 21 = .ok (.if_icmp .ne 53, 3) := by decide +kernel
theorem dX12_layLeast_24 : decode cX12_layLeast 24 = .ok (.aload_n 0, 1) := by decide +kernel
theorem dX12_layLeast_25 : decode cX12_layLeast 25 = .ok (.invokevirtual 226, 3) := by decide +kernel
theorem dX12_layLeast_28 : decode cX12_layLeast 28 = .ok (.istore_n 3, 1) := by decide +kernel
theorem dX12_layLeast_29 : decode cX12_layLeast 29 = .ok (.iload_n 3, 1) := by decide +kernel
theorem dX12_layLeast_30 : decode cX12_layLeast 30 = .ok (.iload_n 1, 1) := by decide +kernel
theorem dX12_layLeast_31 : decode cX12_layLeast 31 = .ok (.if_icmp .ge 37, 3) := by decide +kernel
theorem dX12_layLeast_34 : decode cX12_layLeast 34 = .ok (.iload_n 3, 1) := by decide +kernel
theorem dX12_layLeast_35 : decode cX12_layLeast 35 = .ok (.istore_n 1, 1) := by decide +kernel
theorem dX12_layLeast_36 : decode cX12_layLeast 36 = .ok (.iconst 0, 1) := by decide +kernel
theorem dX12_layLeast_37 : decode cX12_layLeast 37 = .ok (.istore 4, 2) := by decide +kernel
theorem dX12_layLeast_39 : decode cX12_layLeast 39 = .ok (.iload 4, 2) := by decide +kernel
theorem dX12_layLeast_41 : decode cX12_layLeast 41 = .ok (.aload_n 0, 1) := by decide +kernel
theorem dX12_layLeast_42 : decode cX12_layLeast 42 = .ok (.getfield 211, 3) := by decide +kernel
theorem dX12_layLeast_45 : decode cX12_layLeast 45 = .ok (.if_icmp .ge 23, 3) := by decide +kernel
theorem dX12_layLeast_48 : decode cX12_layLeast 48 = .ok (.aload_n 0, 1) := by decide +kernel
theorem dX12_layLeast_49 : decode cX12_layLeast 49 = .ok (.getfield 92, 3) := by decide +kernel
theorem dX12_layLeast_52 : decode cX12_layLeast 52 = .ok (.iload 4, 2) := by decide +kernel
theorem dX12_layLeast_54 : decode cX12_layLeast 54 = .ok (.aload_n 0, 1) := by decide +kernel
theorem dX12_layLeast_55 : decode cX12_layLeast 55 = .ok (.getfield 89, 3) := by decide +kernel
theorem dX12_layLeast_58 : decode cX12_layLeast 58 = .ok (.iload 4, 2) := by decide +kernel
theorem dX12_layLeast_60 : decode cX12_layLeast 60 = .ok (.iaload, 1) := by decide +kernel
theorem dX12_layLeast_61 : decode cX12_layLeast 61 = .ok (.iastore, 1) := by decide +kernel
theorem dX12_layLeast_62 : decode cX12_layLeast 62 = .ok (.iinc 4 1, 3) := by decide +kernel
theorem dX12_layLeast_65 : decode cX12_layLeast 65 = .ok (.goto (-26), 3) := by decide +kernel
theorem dX12_layLeast_68 : decode cX12_layLeast 68 = .ok (.iinc 2 (-1), 3) := by decide +kernel
theorem dX12_layLeast_71 : decode cX12_layLeast 71 = .ok (.goto (-59), 3) := by decide +kernel
theorem dX12_layLeast_74 : decode cX12_layLeast 74 = .ok (.aload_n 0, 1) := by decide +kernel
theorem dX12_layLeast_75 : decode cX12_layLeast 75 = .ok (.getfield 89, 3) := by decide +kernel
theorem dX12_layLeast_78 : decode cX12_layLeast 78 = .ok (.iload_n 2, 1) := by decide +kernel
theorem dX12_layLeast_79 : decode cX12_layLeast 79 = .ok (.iaload, 1) := by decide +kernel
theorem dX12_layLeast_80 : decode cX12_layLeast 80 = .ok (.iconst 1, 1) := by decide +kernel
theorem dX12_layLeast_81 : decode cX12_layLeast 81 = .ok (.iadd, 1) := by decide +kernel
theorem dX12_layLeast_82 : decode cX12_layLeast 82 = .ok (.istore_n 3, 1) := by decide +kernel
theorem dX12_layLeast_83 : decode cX12_layLeast 83 = .ok (.iload_n 3, 1) := by decide +kernel
theorem dX12_layLeast_84 : decode cX12_layLeast 84 = .ok (.bipush 8, 2) := by decide +kernel
theorem dX12_layLeast_86 : decode cX12_layLeast 86 = .ok (.if_icmp .ge 18, 3) := by decide +kernel
theorem dX12_layLeast_89 : decode cX12_layLeast 89 = .ok (.aload_n 0, 1) := by decide +kernel
theorem dX12_layLeast_90 : decode cX12_layLeast 90 = .ok (.iload_n 2, 1) := by decide +kernel
theorem dX12_layLeast_91 : decode cX12_layLeast 91 = .ok (.iload_n 3, 1) := by decide +kernel
theorem dX12_layLeast_92 : decode cX12_layLeast 92 = .ok (.invokevirtual 230, 3) := by decide +kernel
theorem dX12_layLeast_95 : decode cX12_layLeast 95 = .ok (.ifCond .ne 9, 3) := by decide +kernel
theorem dX12_layLeast_98 : decode cX12_layLeast 98 = .ok (.iinc 3 1, 3) := by decide +kernel
theorem dX12_layLeast_101 : decode cX12_layLeast 101 = .ok (.goto (-18), 3) := by decide +kernel
theorem dX12_layLeast_104 : decode cX12_layLeast 104 = .ok (.aload_n 0, 1) := by decide +kernel
theorem dX12_layLeast_105 : decode cX12_layLeast 105 = .ok (.getfield 89, 3) := by decide +kernel
theorem dX12_layLeast_108 : decode cX12_layLeast 108 = .ok (.iload_n 2, 1) := by decide +kernel
theorem dX12_layLeast_109 : decode cX12_layLeast 109 = .ok (.iload_n 3, 1) := by decide +kernel
theorem dX12_layLeast_110 : decode cX12_layLeast 110 = .ok (.iastore, 1) := by decide +kernel
theorem dX12_layLeast_111 : decode cX12_layLeast 111 = .ok (.iload_n 3, 1) := by decide +kernel
theorem dX12_layLeast_112 : decode cX12_layLeast 112 = .ok (.bipush 8, 2) := by decide +kernel
theorem dX12_layLeast_114 : decode cX12_layLeast 114 = .ok (.if_icmp .ne 9, 3) := by decide +kernel
theorem dX12_layLeast_117 : decode cX12_layLeast 117 = .ok (.iinc 2 (-1), 3) := by decide +kernel
theorem dX12_layLeast_120 : decode cX12_layLeast 120 = .ok (.goto 21, 3) := by decide +kernel
theorem dX12_layLeast_123 : decode cX12_layLeast 123 = .ok (.iinc 2 1, 3) := by decide +kernel
theorem dX12_layLeast_126 : decode cX12_layLeast 126 = .ok (.iload_n 2, 1) := by decide +kernel
theorem dX12_layLeast_127 : decode cX12_layLeast 127 = .ok (.aload_n 0, 1) := by decide +kernel
theorem dX12_layLeast_128 : decode cX12_layLeast 128 = .ok (.getfield 211, 3) := by decide +kernel
theorem dX12_layLeast_131 : decode cX12_layLeast 131 = .ok (.if_icmp .ge 10, 3) := by decide +kernel
theorem dX12_layLeast_134 : decode cX12_layLeast 134 = .ok (.aload_n 0, 1) := by decide +kernel
theorem dX12_layLeast_135 : decode cX12_layLeast 135 = .ok (.getfield 89, 3) := by decide +kernel
theorem dX12_layLeast_138 : decode cX12_layLeast 138 = .ok (.iload_n 2, 1) := by decide +kernel
theorem dX12_layLeast_139 : decode cX12_layLeast 139 = .ok (.iconst (-1), 1) := by decide +kernel
theorem dX12_layLeast_140 : decode cX12_layLeast 140 = .ok (.iastore, 1) := by decide +kernel
theorem dX12_layLeast_141 : decode cX12_layLeast 141 = .ok (.goto (-129), 3) := by decide +kernel
theorem dX12_layLeast_144 : decode cX12_layLeast 144 = .ok (.iload_n 1, 1) := by decide +kernel
theorem dX12_layLeast_145 : decode cX12_layLeast 145 = .ok (.ireturn, 1) := by decide +kernel
def kX12_layLeast_0 : List (Nat × zT) := [(0, a_i 1000000 2), (2, a_istore 1 3), (3, a_i 0 4), (4, a_istore 2 5), (5, a_aload 0 6), (6, a_getR 12 31 9), (9, a_i 0 10), (10, a_i (-1) 11), (11, a_iast 12), (12, a_iload 2 13), (13, a_if_lt 144 16), (16, a_iload 2 17), (17, a_aload 0 18), (18, a_getI 12 27 21), (21, a_ic_ne 74 24), (24, a_aload 0 25), (25, a_callV 12 189 1 28 0 0), (28, a_istore 3 29), (29, a_iload 3 30), (30, a_iload 1 31), (31, a_ic_ge 68 34), (34, a_iload 3 35), (35, a_istore 1 36), (36, a_i 0 37)]
theorem oX12_layLeast_0 : ∀ q ∈ kX12_layLeast_0, zSnd zty false RX12 cX12_layLeast 5 (some .int) false q := List.forall_mem_cons.mpr ⟨ok_ldc dX12_layLeast_0 w1298, List.forall_mem_cons.mpr ⟨ok_istore_n dX12_layLeast_2 rfl (by decide), List.forall_mem_cons.mpr ⟨ok_iconst dX12_layLeast_3 (by decide), List.forall_mem_cons.mpr ⟨ok_istore_n dX12_layLeast_4 rfl (by decide), List.forall_mem_cons.mpr ⟨ok_aload_n dX12_layLeast_5 rfl, List.forall_mem_cons.mpr ⟨ok_getR dX12_layLeast_6 rfl in12 (by decide) rfl w988, List.forall_mem_cons.mpr ⟨ok_iconst dX12_layLeast_9 (by decide), List.forall_mem_cons.mpr ⟨ok_iconst dX12_layLeast_10 (by decide), List.forall_mem_cons.mpr ⟨ok_iast dX12_layLeast_11, List.forall_mem_cons.mpr ⟨ok_iload_n dX12_layLeast_12 rfl, List.forall_mem_cons.mpr ⟨ok_if_lt dX12_layLeast_13 (by decide), List.forall_mem_cons.mpr ⟨ok_iload_n dX12_layLeast_16 rfl, List.forall_mem_cons.mpr ⟨ok_aload_n dX12_layLeast_17 rfl, List.forall_mem_cons.mpr ⟨ok_getI dX12_layLeast_18 rfl in12 (by decide) rfl w984, List.forall_mem_cons.mpr ⟨ok_ic_ne dX12_layLeast_21 (by decide), List.forall_mem_cons.mpr ⟨ok_aload_n dX12_layLeast_24 rfl, List.forall_mem_cons.mpr ⟨ok_callV dX12_layLeast_25 rfl rfl w1285 w1282 w1284 w13 s44 (by decide +kernel) (by decide), List.forall_mem_cons.mpr ⟨ok_istore_n dX12_layLeast_28 rfl (by decide), List.forall_mem_cons.mpr ⟨ok_iload_n dX12_layLeast_29 rfl, List.forall_mem_cons.mpr ⟨ok_iload_n dX12_layLeast_30 rfl, List.forall_mem_cons.mpr ⟨ok_ic_ge dX12_layLeast_31 (by decide), List.forall_mem_cons.mpr ⟨ok_iload_n dX12_layLeast_34 rfl, List.forall_mem_cons.mpr ⟨ok_istore_n dX12_layLeast_35 rfl (by decide), List.forall_mem_cons.mpr ⟨ok_iconst dX12_layLeast_36 (by decide), fun _ h => absurd h List.not_mem_nil⟩⟩⟩⟩⟩⟩⟩⟩⟩⟩⟩⟩⟩⟩⟩⟩⟩⟩⟩⟩⟩⟩⟩⟩
def kX12_layLeast_1 : List (Nat × zT) := [(37, a_istore 4 39), (39, a_iload 4 41), (41, a_aload 0 42), (42, a_getI 12 27 45), (45, a_ic_ge 68 48), (48, a_aload 0 49), (49, a_getR 12 32 52), (52, a_iload 4 54), (54, a_aload 0 55), (55, a_getR 12 31 58), (58, a_iload 4 60), (60, a_iald 61), (61, a_iast 62), (62, a_iinc 4 1 65), (65, a_goto 39), (68, a_iinc 2 (-1) 71), (71, a_goto 12), (74, a_aload 0 75), (75, a_getR 12 31 78), (78, a_iload 2 79), (79, a_iald 80), (80, a_i 1 81), (81, a_ii (fun x y => x + y) 82), (82, a_istore 3 83)]
theorem oX12_layLeast_1 : ∀ q ∈ kX12_layLeast_1, zSnd zty false RX12 cX12_layLeast 5 (some .int) false q := List.forall_mem_cons.mpr ⟨ok_istore dX12_layLeast_37 (by decide), List.forall_mem_cons.mpr ⟨ok_iload dX12_layLeast_39, List.forall_mem_cons.mpr ⟨ok_aload_n dX12_layLeast_41 rfl, List.forall_mem_cons.mpr ⟨ok_getI dX12_layLeast_42 rfl in12 (by decide) rfl w984, List.forall_mem_cons.mpr ⟨ok_ic_ge dX12_layLeast_45 (by decide), List.forall_mem_cons.mpr ⟨ok_aload_n dX12_layLeast_48 rfl, List.forall_mem_cons.mpr ⟨ok_getR dX12_layLeast_49 rfl in12 (by decide) rfl w989, List.forall_mem_cons.mpr ⟨ok_iload dX12_layLeast_52, List.forall_mem_cons.mpr ⟨ok_aload_n dX12_layLeast_54 rfl, List.forall_mem_cons.mpr ⟨ok_getR dX12_layLeast_55 rfl in12 (by decide) rfl w988, List.forall_mem_cons.mpr ⟨ok_iload dX12_layLeast_58, List.forall_mem_cons.mpr ⟨ok_iald dX12_layLeast_60, List.forall_mem_cons.mpr ⟨ok_iast dX12_layLeast_61, List.forall_mem_cons.mpr ⟨ok_iinc dX12_layLeast_62 (by decide) (by decide), List.forall_mem_cons.mpr ⟨ok_goto dX12_layLeast_65 (by decide), List.forall_mem_cons.mpr ⟨ok_iinc dX12_layLeast_68 (by decide) (by decide), List.forall_mem_cons.mpr ⟨ok_goto dX12_layLeast_71 (by decide), List.forall_mem_cons.mpr ⟨ok_aload_n dX12_layLeast_74 rfl, List.forall_mem_cons.mpr ⟨ok_getR dX12_layLeast_75 rfl in12 (by decide) rfl w988, List.forall_mem_cons.mpr ⟨ok_iload_n dX12_layLeast_78 rfl, List.forall_mem_cons.mpr ⟨ok_iald dX12_layLeast_79, List.forall_mem_cons.mpr ⟨ok_iconst dX12_layLeast_80 (by decide), List.forall_mem_cons.mpr ⟨ok_iadd dX12_layLeast_81, List.forall_mem_cons.mpr ⟨ok_istore_n dX12_layLeast_82 rfl (by decide), fun _ h => absurd h List.not_mem_nil⟩⟩⟩⟩⟩⟩⟩⟩⟩⟩⟩⟩⟩⟩⟩⟩⟩⟩⟩⟩⟩⟩⟩⟩
def kX12_layLeast_2 : List (Nat × zT) := [(83, a_iload 3 84), (84, a_i 8 86), (86, a_ic_ge 104 89), (89, a_aload 0 90), (90, a_iload 2 91), (91, a_iload 3 92), (92, a_callV 12 192 3 95 0 0), (95, a_if_ne 104 98), (98, a_iinc 3 1 101), (101, a_goto 83), (104, a_aload 0 105), (105, a_getR 12 31 108), (108, a_iload 2 109), (109, a_iload 3 110), (110, a_iast 111), (111, a_iload 3 112), (112, a_i 8 114), (114, a_ic_ne 123 117), (117, a_iinc 2 (-1) 120), (120, a_goto 141), (123, a_iinc 2 1 126), (126, a_iload 2 127), (127, a_aload 0 128), (128, a_getI 12 27 131)]
theorem oX12_layLeast_2 : ∀ q ∈ kX12_layLeast_2, zSnd zty false RX12 cX12_layLeast 5 (some .int) false q := List.forall_mem_cons.mpr ⟨ok_iload_n dX12_layLeast_83 rfl, List.forall_mem_cons.mpr ⟨ok_bipush dX12_layLeast_84 (by decide), List.forall_mem_cons.mpr ⟨ok_ic_ge dX12_layLeast_86 (by decide), List.forall_mem_cons.mpr ⟨ok_aload_n dX12_layLeast_89 rfl, List.forall_mem_cons.mpr ⟨ok_iload_n dX12_layLeast_90 rfl, List.forall_mem_cons.mpr ⟨ok_iload_n dX12_layLeast_91 rfl, List.forall_mem_cons.mpr ⟨ok_callV dX12_layLeast_92 rfl rfl w1302 w1299 w1301 w13 s47 (by decide +kernel) (by decide), List.forall_mem_cons.mpr ⟨ok_if_ne dX12_layLeast_95 (by decide), List.forall_mem_cons.mpr ⟨ok_iinc dX12_layLeast_98 (by decide) (by decide), List.forall_mem_cons.mpr ⟨ok_goto dX12_layLeast_101 (by decide), List.forall_mem_cons.mpr ⟨ok_aload_n dX12_layLeast_104 rfl, List.forall_mem_cons.mpr ⟨ok_getR dX12_layLeast_105 rfl in12 (by decide) rfl w988, List.forall_mem_cons.mpr ⟨ok_iload_n dX12_layLeast_108 rfl, List.forall_mem_cons.mpr ⟨ok_iload_n dX12_layLeast_109 rfl, List.forall_mem_cons.mpr ⟨ok_iast dX12_layLeast_110, List.forall_mem_cons.mpr ⟨ok_iload_n dX12_layLeast_111 rfl, List.forall_mem_cons.mpr ⟨ok_bipush dX12_layLeast_112 (by decide), List.forall_mem_cons.mpr ⟨ok_ic_ne dX12_layLeast_114 (by decide), List.forall_mem_cons.mpr ⟨ok_iinc dX12_layLeast_117 (by decide) (by decide), List.forall_mem_cons.mpr ⟨ok_goto dX12_layLeast_120 (by decide), List.forall_mem_cons.mpr ⟨ok_iinc dX12_layLeast_123 (by decide) (by decide), List.forall_mem_cons.mpr ⟨ok_iload_n dX12_layLeast_126 rfl, List.forall_mem_cons.mpr ⟨ok_aload_n dX12_layLeast_127 rfl, List.forall_mem_cons.mpr ⟨ok_getI dX12_layLeast_128 rfl in12 (by decide) rfl w984, fun _ h => absurd h List.not_mem_nil⟩⟩⟩⟩⟩⟩⟩⟩⟩⟩⟩⟩⟩⟩⟩⟩⟩⟩⟩⟩⟩⟩⟩⟩
def kX12_layLeast_3 : List (Nat × zT) := [(131, a_ic_ge 141 134), (134, a_aload 0 135), (135, a_getR 12 31 138), (138, a_iload 2 139), (139, a_i (-1) 140), (140, a_iast 141), (141, a_goto 12), (144, a_iload 1 145), (145, a_iret false)]
theorem oX12_layLeast_3 : ∀ q ∈ kX12_layLeast_3, zSnd zty false RX12 cX12_layLeast 5 (some .int) false q := List.forall_mem_cons.mpr ⟨ok_ic_ge dX12_layLeast_131 (by decide), List.forall_mem_cons.mpr ⟨ok_aload_n dX12_layLeast_134 rfl, List.forall_mem_cons.mpr ⟨ok_getR dX12_layLeast_135 rfl in12 (by decide) rfl w988, List.forall_mem_cons.mpr ⟨ok_iload_n dX12_layLeast_138 rfl, List.forall_mem_cons.mpr ⟨ok_iconst dX12_layLeast_139 (by decide), List.forall_mem_cons.mpr ⟨ok_iast dX12_layLeast_140, List.forall_mem_cons.mpr ⟨ok_goto dX12_layLeast_141 (by decide), List.forall_mem_cons.mpr ⟨ok_iload_n dX12_layLeast_144 rfl, List.forall_mem_cons.mpr ⟨ok_iret (bz := false) dX12_layLeast_145 rfl, fun _ h => absurd h List.not_mem_nil⟩⟩⟩⟩⟩⟩⟩⟩⟩
def kX12_layLeast : List (Nat × zT) := kX12_layLeast_0 ++ (kX12_layLeast_1 ++ (kX12_layLeast_2 ++ (kX12_layLeast_3)))
theorem qX12_layLeast_0 : ∀ q ∈ kX12_layLeast_0, q ∈ kX12_layLeast := fun _ h => (List.mem_append_left _ h)
theorem tX12_layLeast_0 : (0, a_i 1000000 2) ∈ kX12_layLeast := qX12_layLeast_0 _ (List.mem_of_getElem? (i := 0) rfl)
theorem tX12_layLeast_2 : (2, a_istore 1 3) ∈ kX12_layLeast := qX12_layLeast_0 _ (List.mem_of_getElem? (i := 1) rfl)
theorem tX12_layLeast_3 : (3, a_i 0 4) ∈ kX12_layLeast := qX12_layLeast_0 _ (List.mem_of_getElem? (i := 2) rfl)
theorem tX12_layLeast_4 : (4, a_istore 2 5) ∈ kX12_layLeast := qX12_layLeast_0 _ (List.mem_of_getElem? (i := 3) rfl)
theorem tX12_layLeast_5 : (5, a_aload 0 6) ∈ kX12_layLeast := qX12_layLeast_0 _ (List.mem_of_getElem? (i := 4) rfl)
theorem tX12_layLeast_6 : (6, a_getR 12 31 9) ∈ kX12_layLeast := qX12_layLeast_0 _ (List.mem_of_getElem? (i := 5) rfl)
theorem tX12_layLeast_9 : (9, a_i 0 10) ∈ kX12_layLeast := qX12_layLeast_0 _ (List.mem_of_getElem? (i := 6) rfl)
theorem tX12_layLeast_10 : (10, a_i (-1) 11) ∈ kX12_layLeast := qX12_layLeast_0 _ (List.mem_of_getElem? (i := 7) rfl)
theorem tX12_layLeast_11 : (11, a_iast 12) ∈ kX12_layLeast := qX12_layLeast_0 _ (List.mem_of_getElem? (i := 8) rfl)
theorem tX12_layLeast_12 : (12, a_iload 2 13) ∈ kX12_layLeast := qX12_layLeast_0 _ (List.mem_of_getElem? (i := 9) rfl)
theorem tX12_layLeast_13 : (13, a_if_lt 144 16) ∈ kX12_layLeast := qX12_layLeast_0 _ (List.mem_of_getElem? (i := 10) rfl)
theorem tX12_layLeast_16 : (16, a_iload 2 17) ∈ kX12_layLeast := qX12_layLeast_0 _ (List.mem_of_getElem? (i := 11) rfl)
theorem tX12_layLeast_17 : (17, a_aload 0 18) ∈ kX12_layLeast := qX12_layLeast_0 _ (List.mem_of_getElem? (i := 12) rfl)
theorem tX12_layLeast_18 : (18, a_getI 12 27 21) ∈ kX12_layLeast := qX12_layLeast_0 _ (List.mem_of_getElem? (i := 13) rfl)
theorem tX12_layLeast_21 : (21, a_ic_ne 74 24) ∈ kX12_layLeast := qX12_layLeast_0 _ (List.mem_of_getElem? (i := 14) rfl)
theorem tX12_layLeast_24 : (24, a_aload 0 25) ∈ kX12_layLeast := qX12_layLeast_0 _ (List.mem_of_getElem? (i := 15) rfl)
theorem tX12_layLeast_25 : (25, a_callV 12 189 1 28 0 0) ∈ kX12_layLeast := qX12_layLeast_0 _ (List.mem_of_getElem? (i := 16) rfl)
theorem tX12_layLeast_28 : (28, a_istore 3 29) ∈ kX12_layLeast := qX12_layLeast_0 _ (List.mem_of_getElem? (i := 17) rfl)
theorem tX12_layLeast_29 : (29, a_iload 3 30) ∈ kX12_layLeast := qX12_layLeast_0 _ (List.mem_of_getElem? (i := 18) rfl)
theorem tX12_layLeast_30 : (30, a_iload 1 31) ∈ kX12_layLeast := qX12_layLeast_0 _ (List.mem_of_getElem? (i := 19) rfl)
theorem tX12_layLeast_31 : (31, a_ic_ge 68 34) ∈ kX12_layLeast := qX12_layLeast_0 _ (List.mem_of_getElem? (i := 20) rfl)
theorem tX12_layLeast_34 : (34, a_iload 3 35) ∈ kX12_layLeast := qX12_layLeast_0 _ (List.mem_of_getElem? (i := 21) rfl)
theorem tX12_layLeast_35 : (35, a_istore 1 36) ∈ kX12_layLeast := qX12_layLeast_0 _ (List.mem_of_getElem? (i := 22) rfl)
theorem tX12_layLeast_36 : (36, a_i 0 37) ∈ kX12_layLeast := qX12_layLeast_0 _ (List.mem_of_getElem? (i := 23) rfl)
theorem qX12_layLeast_1 : ∀ q ∈ kX12_layLeast_1, q ∈ kX12_layLeast := fun _ h => (List.mem_append_right _ (List.mem_append_left _ h))
theorem tX12_layLeast_37 : (37, a_istore 4 39) ∈ kX12_layLeast := qX12_layLeast_1 _ (List.mem_of_getElem? (i := 0) rfl)
theorem tX12_layLeast_39 : (39, a_iload 4 41) ∈ kX12_layLeast := qX12_layLeast_1 _ (List.mem_of_getElem? (i := 1) rfl)
theorem tX12_layLeast_41 : (41, a_aload 0 42) ∈ kX12_layLeast := qX12_layLeast_1 _ (List.mem_of_getElem? (i := 2) rfl)
theorem tX12_layLeast_42 : (42, a_getI 12 27 45) ∈ kX12_layLeast := qX12_layLeast_1 _ (List.mem_of_getElem? (i := 3) rfl)
theorem tX12_layLeast_45 : (45, a_ic_ge 68 48) ∈ kX12_layLeast := qX12_layLeast_1 _ (List.mem_of_getElem? (i := 4) rfl)
theorem tX12_layLeast_48 : (48, a_aload 0 49) ∈ kX12_layLeast := qX12_layLeast_1 _ (List.mem_of_getElem? (i := 5) rfl)
theorem tX12_layLeast_49 : (49, a_getR 12 32 52) ∈ kX12_layLeast := qX12_layLeast_1 _ (List.mem_of_getElem? (i := 6) rfl)
theorem tX12_layLeast_52 : (52, a_iload 4 54) ∈ kX12_layLeast := qX12_layLeast_1 _ (List.mem_of_getElem? (i := 7) rfl)
theorem tX12_layLeast_54 : (54, a_aload 0 55) ∈ kX12_layLeast := qX12_layLeast_1 _ (List.mem_of_getElem? (i := 8) rfl)
theorem tX12_layLeast_55 : (55, a_getR 12 31 58) ∈ kX12_layLeast := qX12_layLeast_1 _ (List.mem_of_getElem? (i := 9) rfl)
theorem tX12_layLeast_58 : (58, a_iload 4 60) ∈ kX12_layLeast := qX12_layLeast_1 _ (List.mem_of_getElem? (i := 10) rfl)
theorem tX12_layLeast_60 : (60, a_iald 61) ∈ kX12_layLeast := qX12_layLeast_1 _ (List.mem_of_getElem? (i := 11) rfl)
theorem tX12_layLeast_61 : (61, a_iast 62) ∈ kX12_layLeast := qX12_layLeast_1 _ (List.mem_of_getElem? (i := 12) rfl)
theorem tX12_layLeast_62 : (62, a_iinc 4 1 65) ∈ kX12_layLeast := qX12_layLeast_1 _ (List.mem_of_getElem? (i := 13) rfl)
theorem tX12_layLeast_65 : (65, a_goto 39) ∈ kX12_layLeast := qX12_layLeast_1 _ (List.mem_of_getElem? (i := 14) rfl)
theorem tX12_layLeast_68 : (68, a_iinc 2 (-1) 71) ∈ kX12_layLeast := qX12_layLeast_1 _ (List.mem_of_getElem? (i := 15) rfl)
theorem tX12_layLeast_71 : (71, a_goto 12) ∈ kX12_layLeast := qX12_layLeast_1 _ (List.mem_of_getElem? (i := 16) rfl)
theorem tX12_layLeast_74 : (74, a_aload 0 75) ∈ kX12_layLeast := qX12_layLeast_1 _ (List.mem_of_getElem? (i := 17) rfl)
theorem tX12_layLeast_75 : (75, a_getR 12 31 78) ∈ kX12_layLeast := qX12_layLeast_1 _ (List.mem_of_getElem? (i := 18) rfl)
theorem tX12_layLeast_78 : (78, a_iload 2 79) ∈ kX12_layLeast := qX12_layLeast_1 _ (List.mem_of_getElem? (i := 19) rfl)
theorem tX12_layLeast_79 : (79, a_iald 80) ∈ kX12_layLeast := qX12_layLeast_1 _ (List.mem_of_getElem? (i := 20) rfl)
theorem tX12_layLeast_80 : (80, a_i 1 81) ∈ kX12_layLeast := qX12_layLeast_1 _ (List.mem_of_getElem? (i := 21) rfl)
theorem tX12_layLeast_81 : (81, a_ii (fun x y => x + y) 82) ∈ kX12_layLeast := qX12_layLeast_1 _ (List.mem_of_getElem? (i := 22) rfl)
theorem tX12_layLeast_82 : (82, a_istore 3 83) ∈ kX12_layLeast := qX12_layLeast_1 _ (List.mem_of_getElem? (i := 23) rfl)
theorem qX12_layLeast_2 : ∀ q ∈ kX12_layLeast_2, q ∈ kX12_layLeast := fun _ h => (List.mem_append_right _ (List.mem_append_right _ (List.mem_append_left _ h)))
theorem tX12_layLeast_83 : (83, a_iload 3 84) ∈ kX12_layLeast := qX12_layLeast_2 _ (List.mem_of_getElem? (i := 0) rfl)
theorem tX12_layLeast_84 : (84, a_i 8 86) ∈ kX12_layLeast := qX12_layLeast_2 _ (List.mem_of_getElem? (i := 1) rfl)
theorem tX12_layLeast_86 : (86, a_ic_ge 104 89) ∈ kX12_layLeast := qX12_layLeast_2 _ (List.mem_of_getElem? (i := 2) rfl)
theorem tX12_layLeast_89 : (89, a_aload 0 90) ∈ kX12_layLeast := qX12_layLeast_2 _ (List.mem_of_getElem? (i := 3) rfl)
theorem tX12_layLeast_90 : (90, a_iload 2 91) ∈ kX12_layLeast := qX12_layLeast_2 _ (List.mem_of_getElem? (i := 4) rfl)
theorem tX12_layLeast_91 : (91, a_iload 3 92) ∈ kX12_layLeast := qX12_layLeast_2 _ (List.mem_of_getElem? (i := 5) rfl)
theorem tX12_layLeast_92 : (92, a_callV 12 192 3 95 0 0) ∈ kX12_layLeast := qX12_layLeast_2 _ (List.mem_of_getElem? (i := 6) rfl)
theorem tX12_layLeast_95 : (95, a_if_ne 104 98) ∈ kX12_layLeast := qX12_layLeast_2 _ (List.mem_of_getElem? (i := 7) rfl)
theorem tX12_layLeast_98 : (98, a_iinc 3 1 101) ∈ kX12_layLeast := qX12_layLeast_2 _ (List.mem_of_getElem? (i := 8) rfl)
theorem tX12_layLeast_101 : (101, a_goto 83) ∈ kX12_layLeast := qX12_layLeast_2 _ (List.mem_of_getElem? (i := 9) rfl)
theorem tX12_layLeast_104 : (104, a_aload 0 105) ∈ kX12_layLeast := qX12_layLeast_2 _ (List.mem_of_getElem? (i := 10) rfl)
theorem tX12_layLeast_105 : (105, a_getR 12 31 108) ∈ kX12_layLeast := qX12_layLeast_2 _ (List.mem_of_getElem? (i := 11) rfl)
theorem tX12_layLeast_108 : (108, a_iload 2 109) ∈ kX12_layLeast := qX12_layLeast_2 _ (List.mem_of_getElem? (i := 12) rfl)
theorem tX12_layLeast_109 : (109, a_iload 3 110) ∈ kX12_layLeast := qX12_layLeast_2 _ (List.mem_of_getElem? (i := 13) rfl)
theorem tX12_layLeast_110 : (110, a_iast 111) ∈ kX12_layLeast := qX12_layLeast_2 _ (List.mem_of_getElem? (i := 14) rfl)
theorem tX12_layLeast_111 : (111, a_iload 3 112) ∈ kX12_layLeast := qX12_layLeast_2 _ (List.mem_of_getElem? (i := 15) rfl)
theorem tX12_layLeast_112 : (112, a_i 8 114) ∈ kX12_layLeast := qX12_layLeast_2 _ (List.mem_of_getElem? (i := 16) rfl)
theorem tX12_layLeast_114 : (114, a_ic_ne 123 117) ∈ kX12_layLeast := qX12_layLeast_2 _ (List.mem_of_getElem? (i := 17) rfl)
theorem tX12_layLeast_117 : (117, a_iinc 2 (-1) 120) ∈ kX12_layLeast := qX12_layLeast_2 _ (List.mem_of_getElem? (i := 18) rfl)
theorem tX12_layLeast_120 : (120, a_goto 141) ∈ kX12_layLeast := qX12_layLeast_2 _ (List.mem_of_getElem? (i := 19) rfl)
theorem tX12_layLeast_123 : (123, a_iinc 2 1 126) ∈ kX12_layLeast := qX12_layLeast_2 _ (List.mem_of_getElem? (i := 20) rfl)
theorem tX12_layLeast_126 : (126, a_iload 2 127) ∈ kX12_layLeast := qX12_layLeast_2 _ (List.mem_of_getElem? (i := 21) rfl)
theorem tX12_layLeast_127 : (127, a_aload 0 128) ∈ kX12_layLeast := qX12_layLeast_2 _ (List.mem_of_getElem? (i := 22) rfl)
theorem tX12_layLeast_128 : (128, a_getI 12 27 131) ∈ kX12_layLeast := qX12_layLeast_2 _ (List.mem_of_getElem? (i := 23) rfl)
theorem qX12_layLeast_3 : ∀ q ∈ kX12_layLeast_3, q ∈ kX12_layLeast := fun _ h => (List.mem_append_right _ (List.mem_append_right _ (List.mem_append_right _ h)))
theorem tX12_layLeast_131 : (131, a_ic_ge 141 134) ∈ kX12_layLeast := qX12_layLeast_3 _ (List.mem_of_getElem? (i := 0) rfl)
theorem tX12_layLeast_134 : (134, a_aload 0 135) ∈ kX12_layLeast := qX12_layLeast_3 _ (List.mem_of_getElem? (i := 1) rfl)
theorem tX12_layLeast_135 : (135, a_getR 12 31 138) ∈ kX12_layLeast := qX12_layLeast_3 _ (List.mem_of_getElem? (i := 2) rfl)
theorem tX12_layLeast_138 : (138, a_iload 2 139) ∈ kX12_layLeast := qX12_layLeast_3 _ (List.mem_of_getElem? (i := 3) rfl)
theorem tX12_layLeast_139 : (139, a_i (-1) 140) ∈ kX12_layLeast := qX12_layLeast_3 _ (List.mem_of_getElem? (i := 4) rfl)
theorem tX12_layLeast_140 : (140, a_iast 141) ∈ kX12_layLeast := qX12_layLeast_3 _ (List.mem_of_getElem? (i := 5) rfl)
theorem tX12_layLeast_141 : (141, a_goto 12) ∈ kX12_layLeast := qX12_layLeast_3 _ (List.mem_of_getElem? (i := 6) rfl)
theorem tX12_layLeast_144 : (144, a_iload 1 145) ∈ kX12_layLeast := qX12_layLeast_3 _ (List.mem_of_getElem? (i := 7) rfl)
theorem tX12_layLeast_145 : (145, a_iret false) ∈ kX12_layLeast := qX12_layLeast_3 _ (List.mem_of_getElem? (i := 8) rfl)
theorem oX12_layLeast : ∀ q ∈ kX12_layLeast, zSnd zty false RX12 cX12_layLeast 5 (some .int) false q := List.forall_mem_append.mpr ⟨oX12_layLeast_0, List.forall_mem_append.mpr ⟨oX12_layLeast_1, List.forall_mem_append.mpr ⟨oX12_layLeast_2, oX12_layLeast_3⟩⟩⟩
theorem dX12_least_0 : decode cX12_least 0 = .ok (.iload_n 1, 1) := by decide +kernel
theorem dX12_least_1 : decode cX12_least 1 = .ok (.iconst (-1), 1) := by decide +kernel
theorem dX12_least_2 : decode cX12_least 2 = .ok (.if_icmp .eq 19, 3) := by decide +kernel
theorem dX12_least_5 : decode cX12_least 5 = .ok (.iload_n 1, 1) := by decide +kernel
theorem dX12_least_6 : decode cX12_least 6 = .ok (.iconst 0, 1) := by decide +kernel
theorem dX12_least_7 : decode cX12_least 7 = .ok (.aload_n 0, 1) := by decide +kernel
theorem dX12_least_8 : decode cX12_least 8 = .ok (.getfield 211, 3) := by decide +kernel
theorem dX12_least_11 : decode cX12_least 11 = .ok (.iconst 1, 1) := by decide +kernel
theorem dX12_least_12 : decode cX12_least 12 = .ok (.isub, 1) := by decide +kernel
theorem dX12_least_13 : decode cX12_least 13 = .ok (.invokestatic 112, 3) := by decide +kernel
theorem dX12_least_16 : decode cX12_least 16 = .ok (.ifCond .ne 5, 3) := by decide +kernel
theorem dX12_least_19 : decode cX12_least 19 = .ok (.iconst (-1), 1) := by decide +kernel
theorem dX12_least_20 : decode cX12_least 20 = .ok (.ireturn, 1) := by decide +kernel
theorem dX12_least_21 : decode cX12_least 21 = .ok (.aload_n 0, 1) := by decide +kernel
theorem dX12_least_22 : decode cX12_least 22 = .ok (.getfield 211, 3) := by decide +kernel
theorem dX12_least_25 : decode cX12_least 25 = .ok (.ifCond .ne 7, 3) := by decide +kernel
theorem dX12_least_28 : decode cX12_least 28 = .ok (.iconst 0, 1) := by decide +kernel
theorem dX12_least_29 : decode cX12_least 29 = .ok (.goto 7, 3) := by decide +kernel
theorem dX12_least_32 : decode cX12_least 32 = .ok (.aload_n 0, 1) := by decide +kernel
theorem dX12_least_33 : decode cX12_least 33 = .ok (.invokevirtual 233, 3) := by decide +kernel
theorem dX12_least_36 : decode cX12_least 36 = .ok (.istore_n 2, 1) := by decide +kernel
theorem dX12_least_37 : decode cX12_least 37 = .ok (.iload_n 1, 1) := by decide +kernel
theorem dX12_least_38 : decode cX12_least 38 = .ok (.ifCond .ge 7, 3) := by decide +kernel
theorem dX12_least_41 : decode cX12_least 41 = .ok (.iload_n 2, 1) := by decide +kernel
theorem dX12_least_42 : decode cX12_least 42 = .ok (.goto 9, 3) := by decide +kernel
theorem dX12_least_45 : decode cX12_least 45 = .ok (.aload_n 0, 1) := by decide +kernel
theorem dX12_least_46 : decode cX12_least 46 = .ok (.getfield 92, 3) := by decide +kernel
theorem dX12_least_49 : decode cX12_least 49 = .ok (.iload_n 1, 1) := by decide +kernel
theorem dX12_least_50 : decode cX12_least 50 = .ok (.iaload, 1) := by decide +kernel
theorem dX12_least_51 : decode cX12_least 51 = .ok (.ireturn, 1) := by decide +kernel
def kX12_least_0 : List (Nat × zT) := [(0, a_iload 1 1), (1, a_i (-1) 2), (2, a_ic_eq 21 5), (5, a_iload 1 6), (6, a_i 0 7), (7, a_aload 0 8), (8, a_getI 12 27 11), (11, a_i 1 12), (12, a_ii (fun x y => x - y) 13), (13, a_call 138 3 16 0 0), (16, a_if_ne 21 19), (19, a_i (-1) 20), (20, a_iret false), (21, a_aload 0 22), (22, a_getI 12 27 25), (25, a_if_ne 32 28), (28, a_i 0 29), (29, a_goto 36), (32, a_aload 0 33), (33, a_callV 12 193 1 36 0 0), (36, a_istore 2 37), (37, a_iload 1 38), (38, a_if_ge 45 41), (41, a_iload 2 42)]
theorem oX12_least_0 : ∀ q ∈ kX12_least_0, zSnd zty false RX12 cX12_least 3 (some .int) false q := List.forall_mem_cons.mpr ⟨ok_iload_n dX12_least_0 rfl, List.forall_mem_cons.mpr ⟨ok_iconst dX12_least_1 (by decide), List.forall_mem_cons.mpr ⟨ok_ic_eq dX12_least_2 (by decide), List.forall_mem_cons.mpr ⟨ok_iload_n dX12_least_5 rfl, List.forall_mem_cons.mpr ⟨ok_iconst dX12_least_6 (by decide), List.forall_mem_cons.mpr ⟨ok_aload_n dX12_least_7 rfl, List.forall_mem_cons.mpr ⟨ok_getI dX12_least_8 rfl in12 (by decide) rfl w984, List.forall_mem_cons.mpr ⟨ok_iconst dX12_least_11 (by decide), List.forall_mem_cons.mpr ⟨ok_isub dX12_least_12, List.forall_mem_cons.mpr ⟨ok_callS dX12_least_13 rfl w1084 w1082 w1083 w13 (by decide +kernel) (by decide), List.forall_mem_cons.mpr ⟨ok_if_ne dX12_least_16 (by decide), List.forall_mem_cons.mpr ⟨ok_iconst dX12_least_19 (by decide), List.forall_mem_cons.mpr ⟨ok_iret (bz := false) dX12_least_20 rfl, List.forall_mem_cons.mpr ⟨ok_aload_n dX12_least_21 rfl, List.forall_mem_cons.mpr ⟨ok_getI dX12_least_22 rfl in12 (by decide) rfl w984, List.forall_mem_cons.mpr ⟨ok_if_ne dX12_least_25 (by decide), List.forall_mem_cons.mpr ⟨ok_iconst dX12_least_28 (by decide), List.forall_mem_cons.mpr ⟨ok_goto dX12_least_29 (by decide), List.forall_mem_cons.mpr ⟨ok_aload_n dX12_least_32 rfl, List.forall_mem_cons.mpr ⟨ok_callV dX12_least_33 rfl rfl w1297 w1294 w1296 w13 s46 (by decide +kernel) (by decide), List.forall_mem_cons.mpr ⟨ok_istore_n dX12_least_36 rfl (by decide), List.forall_mem_cons.mpr ⟨ok_iload_n dX12_least_37 rfl, List.forall_mem_cons.mpr ⟨ok_if_ge dX12_least_38 (by decide), List.forall_mem_cons.mpr ⟨ok_iload_n dX12_least_41 rfl, fun _ h => absurd h List.not_mem_nil⟩⟩⟩⟩⟩⟩⟩⟩⟩⟩⟩⟩⟩⟩⟩⟩⟩⟩⟩⟩⟩⟩⟩⟩
def kX12_least_1 : List (Nat × zT) := [(42, a_goto 51), (45, a_aload 0 46), (46, a_getR 12 32 49), (49, a_iload 1 50), (50, a_iald 51), (51, a_iret false)]
theorem oX12_least_1 : ∀ q ∈ kX12_least_1, zSnd zty false RX12 cX12_least 3 (some .int) false q := List.forall_mem_cons.mpr ⟨ok_goto dX12_least_42 (by decide), List.forall_mem_cons.mpr ⟨ok_aload_n dX12_least_45 rfl, List.forall_mem_cons.mpr ⟨ok_getR dX12_least_46 rfl in12 (by decide) rfl w989, List.forall_mem_cons.mpr ⟨ok_iload_n dX12_least_49 rfl, List.forall_mem_cons.mpr ⟨ok_iald dX12_least_50, List.forall_mem_cons.mpr ⟨ok_iret (bz := false) dX12_least_51 rfl, fun _ h => absurd h List.not_mem_nil⟩⟩⟩⟩⟩⟩
def kX12_least : List (Nat × zT) := kX12_least_0 ++ (kX12_least_1)
theorem qX12_least_0 : ∀ q ∈ kX12_least_0, q ∈ kX12_least := fun _ h => (List.mem_append_left _ h)
theorem tX12_least_0 : (0, a_iload 1 1) ∈ kX12_least := qX12_least_0 _ (List.mem_of_getElem? (i := 0) rfl)
theorem tX12_least_1 : (1, a_i (-1) 2) ∈ kX12_least := qX12_least_0 _ (List.mem_of_getElem? (i := 1) rfl)
theorem tX12_least_2 : (2, a_ic_eq 21 5) ∈ kX12_least := qX12_least_0 _ (List.mem_of_getElem? (i := 2) rfl)
theorem tX12_least_5 : (5, a_iload 1 6) ∈ kX12_least := qX12_least_0 _ (List.mem_of_getElem? (i := 3) rfl)
theorem tX12_least_6 : (6, a_i 0 7) ∈ kX12_least := qX12_least_0 _ (List.mem_of_getElem? (i := 4) rfl)
theorem tX12_least_7 : (7, a_aload 0 8) ∈ kX12_least := qX12_least_0 _ (List.mem_of_getElem? (i := 5) rfl)
theorem tX12_least_8 : (8, a_getI 12 27 11) ∈ kX12_least := qX12_least_0 _ (List.mem_of_getElem? (i := 6) rfl)
theorem tX12_least_11 : (11, a_i 1 12) ∈ kX12_least := qX12_least_0 _ (List.mem_of_getElem? (i := 7) rfl)
theorem tX12_least_12 : (12, a_ii (fun x y => x - y) 13) ∈ kX12_least := qX12_least_0 _ (List.mem_of_getElem? (i := 8) rfl)
theorem tX12_least_13 : (13, a_call 138 3 16 0 0) ∈ kX12_least := qX12_least_0 _ (List.mem_of_getElem? (i := 9) rfl)
theorem tX12_least_16 : (16, a_if_ne 21 19) ∈ kX12_least := qX12_least_0 _ (List.mem_of_getElem? (i := 10) rfl)
theorem tX12_least_19 : (19, a_i (-1) 20) ∈ kX12_least := qX12_least_0 _ (List.mem_of_getElem? (i := 11) rfl)
theorem tX12_least_20 : (20, a_iret false) ∈ kX12_least := qX12_least_0 _ (List.mem_of_getElem? (i := 12) rfl)
theorem tX12_least_21 : (21, a_aload 0 22) ∈ kX12_least := qX12_least_0 _ (List.mem_of_getElem? (i := 13) rfl)
theorem tX12_least_22 : (22, a_getI 12 27 25) ∈ kX12_least := qX12_least_0 _ (List.mem_of_getElem? (i := 14) rfl)
theorem tX12_least_25 : (25, a_if_ne 32 28) ∈ kX12_least := qX12_least_0 _ (List.mem_of_getElem? (i := 15) rfl)
theorem tX12_least_28 : (28, a_i 0 29) ∈ kX12_least := qX12_least_0 _ (List.mem_of_getElem? (i := 16) rfl)
theorem tX12_least_29 : (29, a_goto 36) ∈ kX12_least := qX12_least_0 _ (List.mem_of_getElem? (i := 17) rfl)
theorem tX12_least_32 : (32, a_aload 0 33) ∈ kX12_least := qX12_least_0 _ (List.mem_of_getElem? (i := 18) rfl)
theorem tX12_least_33 : (33, a_callV 12 193 1 36 0 0) ∈ kX12_least := qX12_least_0 _ (List.mem_of_getElem? (i := 19) rfl)
theorem tX12_least_36 : (36, a_istore 2 37) ∈ kX12_least := qX12_least_0 _ (List.mem_of_getElem? (i := 20) rfl)
theorem tX12_least_37 : (37, a_iload 1 38) ∈ kX12_least := qX12_least_0 _ (List.mem_of_getElem? (i := 21) rfl)
theorem tX12_least_38 : (38, a_if_ge 45 41) ∈ kX12_least := qX12_least_0 _ (List.mem_of_getElem? (i := 22) rfl)
theorem tX12_least_41 : (41, a_iload 2 42) ∈ kX12_least := qX12_least_0 _ (List.mem_of_getElem? (i := 23) rfl)
theorem qX12_least_1 : ∀ q ∈ kX12_least_1, q ∈ kX12_least := fun _ h => (List.mem_append_right _ h)
theorem tX12_least_42 : (42, a_goto 51) ∈ kX12_least := qX12_least_1 _ (List.mem_of_getElem? (i := 0) rfl)
theorem tX12_least_45 : (45, a_aload 0 46) ∈ kX12_least := qX12_least_1 _ (List.mem_of_getElem? (i := 1) rfl)
theorem tX12_least_46 : (46, a_getR 12 32 49) ∈ kX12_least := qX12_least_1 _ (List.mem_of_getElem? (i := 2) rfl)
theorem tX12_least_49 : (49, a_iload 1 50) ∈ kX12_least := qX12_least_1 _ (List.mem_of_getElem? (i := 3) rfl)
theorem tX12_least_50 : (50, a_iald 51) ∈ kX12_least := qX12_least_1 _ (List.mem_of_getElem? (i := 4) rfl)
theorem tX12_least_51 : (51, a_iret false) ∈ kX12_least := qX12_least_1 _ (List.mem_of_getElem? (i := 5) rfl)
theorem oX12_least : ∀ q ∈ kX12_least, zSnd zty false RX12 cX12_least 3 (some .int) false q := List.forall_mem_append.mpr ⟨oX12_least_0, oX12_least_1⟩
theorem dX12_change_0 : decode cX12_change 0 = .ok (.iconst 0, 1) := by decide +kernel
theorem dX12_change_1 : decode cX12_change 1 = .ok (.istore_n 3, 1) := by decide +kernel
theorem dX12_change_2 : decode cX12_change 2 = .ok (.iload_n 3, 1) := by decide +kernel
theorem dX12_change_3 : decode cX12_change 3 = .ok (.aload_n 0, 1) := by decide +kernel
theorem dX12_change_4 : decode cX12_change 4 = .ok (.getfield 211, 3) := by decide +kernel
theorem dX12_change_7 : decode cX12_change 7 = .ok (.if_icmp .ge 49, 3) := by decide +kernel
theorem dX12_change_10 : decode cX12_change 10 = .ok (.aload_n 0, 1) := by decide +kernel
theorem dX12_change_11 : decode cX12_change 11 = .ok (.getfield 89, 3) := by decide +kernel
theorem dX12_change_14 : decode cX12_change 14 = .ok (.iload_n 3, 1) := by decide +kernel
theorem dX12_change_15 : decode cX12_change 15 = .ok (.aload_n 0, 1) := by decide +kernel
theorem dX12_change_16 : decode cX12_change 16 = .ok (.getfield 83, 3) := by decide +kernel
theorem dX12_change_19 : decode cX12_change 19 = .ok (.iload_n 3, 1) := by decide +kernel
theorem dX12_change_20 : decode cX12_change 20 = .ok (.iaload, 1) := by decide +kernel
theorem dX12_change_21 : decode cX12_change 21 = .ok (.iload_n 1, 1) := by decide +kernel
theorem dX12_change_22 : decode cX12_change 22 = .ok (.if_icmp .ne 7, 3) := by decide +kernel
theorem dX12_change_25 : decode cX12_change 25 = .ok (.iload_n 2, 1) := by decide +kernel
theorem dX12_change_26 : decode cX12_change 26 = .ok (.goto 23, 3) := by decide +kernel
theorem dX12_change_29 : decode cX12_change 29 = .ok (.aload_n 0, 1) := by decide +kernel
theorem dX12_change_30 : decode cX12_change 30 = .ok (.getfield 83, 3) := by decide +kernel
theorem dX12_change_33 : decode cX12_change 33 = .ok (.iload_n 3, 1) := by decide +kernel
theorem dX12_change_34 : decode cX12_change 34 = .ok (.iaload, 1) := by decide +kernel
theorem dX12_change_35 : decode cX12_change 35 = .ok (.iload_n 2, 1) := by decide +kernel
theorem dX12_change_36 : decode cX12_change 36 = .ok (.if_icmp .ne 7, 3) := by decide +kernel
theorem dX12_change_39 : decode cX12_change 39 = .ok (.iload_n 1, 1) := by decide +kernel
theorem dX12_change_40 : decode cX12_change 40 = .ok (.goto 9, 3) := by decide +kernel
theorem dX12_change_43 : decode cX12_change 43 = .ok (.aload_n 0, 1) := by decide +kernel
theorem dX12_change_44 : decode cX12_change 44 = .ok (.getfield 83, 3) := by decide +kernel
theorem dX12_change_47 : decode cX12_change 47 = .ok (.iload_n 3, 1) := by decide +kernel
theorem dX12_change_48 : decode cX12_change 48 = .ok (.iaload, 1) := by decide +kernel
theorem dX12_change_49 : decode cX12_change 49 = .ok (.iastore, 1) := by decide +kernel
theorem dX12_change_50 : decode cX12_change 50 = .ok (.iinc 3 1, 3) := by decide +kernel
theorem dX12_change_53 : decode cX12_change 53 = .ok (.goto (-51), 3) := by decide +kernel
theorem dX12_change_56 : decode cX12_change 56 = .ok (.return_, 1) := by decide +kernel
def kX12_change_0 : List (Nat × zT) := [(0, a_i 0 1), (1, a_istore 3 2), (2, a_iload 3 3), (3, a_aload 0 4), (4, a_getI 12 27 7), (7, a_ic_ge 56 10), (10, a_aload 0 11), (11, a_getR 12 31 14), (14, a_iload 3 15), (15, a_aload 0 16), (16, a_getR 12 28 19), (19, a_iload 3 20), (20, a_iald 21), (21, a_iload 1 22), (22, a_ic_ne 29 25), (25, a_iload 2 26), (26, a_goto 49), (29, a_aload 0 30), (30, a_getR 12 28 33), (33, a_iload 3 34), (34, a_iald 35), (35, a_iload 2 36), (36, a_ic_ne 43 39), (39, a_iload 1 40)]
theorem oX12_change_0 : ∀ q ∈ kX12_change_0, zSnd zty false RX12 cX12_change 4 none false q := List.forall_mem_cons.mpr ⟨ok_iconst dX12_change_0 (by decide), List.forall_mem_cons.mpr ⟨ok_istore_n dX12_change_1 rfl (by decide), List.forall_mem_cons.mpr ⟨ok_iload_n dX12_change_2 rfl, List.forall_mem_cons.mpr ⟨ok_aload_n dX12_change_3 rfl, List.forall_mem_cons.mpr ⟨ok_getI dX12_change_4 rfl in12 (by decide) rfl w984, List.forall_mem_cons.mpr ⟨ok_ic_ge dX12_change_7 (by decide), List.forall_mem_cons.mpr ⟨ok_aload_n dX12_change_10 rfl, List.forall_mem_cons.mpr ⟨ok_getR dX12_change_11 rfl in12 (by decide) rfl w988, List.forall_mem_cons.mpr ⟨ok_iload_n dX12_change_14 rfl, List.forall_mem_cons.mpr ⟨ok_aload_n dX12_change_15 rfl, List.forall_mem_cons.mpr ⟨ok_getR dX12_change_16 rfl in12 (by decide) rfl w985, List.forall_mem_cons.mpr ⟨ok_iload_n dX12_change_19 rfl, List.forall_mem_cons.mpr ⟨ok_iald dX12_change_20, List.forall_mem_cons.mpr ⟨ok_iload_n dX12_change_21 rfl, List.forall_mem_cons.mpr ⟨ok_ic_ne dX12_change_22 (by decide), List.forall_mem_cons.mpr ⟨ok_iload_n dX12_change_25 rfl, List.forall_mem_cons.mpr ⟨ok_goto dX12_change_26 (by decide), List.forall_mem_cons.mpr ⟨ok_aload_n dX12_change_29 rfl, List.forall_mem_cons.mpr ⟨ok_getR dX12_change_30 rfl in12 (by decide) rfl w985, List.forall_mem_cons.mpr ⟨ok_iload_n dX12_change_33 rfl, List.forall_mem_cons.mpr ⟨ok_iald dX12_change_34, List.forall_mem_cons.mpr ⟨ok_iload_n dX12_change_35 rfl, List.forall_mem_cons.mpr ⟨ok_ic_ne dX12_change_36 (by decide), List.forall_mem_cons.mpr ⟨ok_iload_n dX12_change_39 rfl, fun _ h => absurd h List.not_mem_nil⟩⟩⟩⟩⟩⟩⟩⟩⟩⟩⟩⟩⟩⟩⟩⟩⟩⟩⟩⟩⟩⟩⟩⟩
def kX12_change_1 : List (Nat × zT) := [(40, a_goto 49), (43, a_aload 0 44), (44, a_getR 12 28 47), (47, a_iload 3 48), (48, a_iald 49), (49, a_iast 50), (50, a_iinc 3 1 53), (53, a_goto 2), (56, a_vret)]
theorem oX12_change_1 : ∀ q ∈ kX12_change_1, zSnd zty false RX12 cX12_change 4 none false q := List.forall_mem_cons.mpr ⟨ok_goto dX12_change_40 (by decide), List.forall_mem_cons.mpr ⟨ok_aload_n dX12_change_43 rfl, List.forall_mem_cons.mpr ⟨ok_getR dX12_change_44 rfl in12 (by decide) rfl w985, List.forall_mem_cons.mpr ⟨ok_iload_n dX12_change_47 rfl, List.forall_mem_cons.mpr ⟨ok_iald dX12_change_48, List.forall_mem_cons.mpr ⟨ok_iast dX12_change_49, List.forall_mem_cons.mpr ⟨ok_iinc dX12_change_50 (by decide) (by decide), List.forall_mem_cons.mpr ⟨ok_goto dX12_change_53 (by decide), List.forall_mem_cons.mpr ⟨ok_vret dX12_change_56 rfl, fun _ h => absurd h List.not_mem_nil⟩⟩⟩⟩⟩⟩⟩⟩⟩
def kX12_change : List (Nat × zT) := kX12_change_0 ++ (kX12_change_1)
theorem qX12_change_0 : ∀ q ∈ kX12_change_0, q ∈ kX12_change := fun _ h => (List.mem_append_left _ h)
theorem tX12_change_0 : (0, a_i 0 1) ∈ kX12_change := qX12_change_0 _ (List.mem_of_getElem? (i := 0) rfl)
theorem tX12_change_1 : (1, a_istore 3 2) ∈ kX12_change := qX12_change_0 _ (List.mem_of_getElem? (i := 1) rfl)
theorem tX12_change_2 : (2, a_iload 3 3) ∈ kX12_change := qX12_change_0 _ (List.mem_of_getElem? (i := 2) rfl)
theorem tX12_change_3 : (3, a_aload 0 4) ∈ kX12_change := qX12_change_0 _ (List.mem_of_getElem? (i := 3) rfl)
theorem tX12_change_4 : (4, a_getI 12 27 7) ∈ kX12_change := qX12_change_0 _ (List.mem_of_getElem? (i := 4) rfl)
theorem tX12_change_7 : (7, a_ic_ge 56 10) ∈ kX12_change := qX12_change_0 _ (List.mem_of_getElem? (i := 5) rfl)
theorem tX12_change_10 : (10, a_aload 0 11) ∈ kX12_change := qX12_change_0 _ (List.mem_of_getElem? (i := 6) rfl)
theorem tX12_change_11 : (11, a_getR 12 31 14) ∈ kX12_change := qX12_change_0 _ (List.mem_of_getElem? (i := 7) rfl)
theorem tX12_change_14 : (14, a_iload 3 15) ∈ kX12_change := qX12_change_0 _ (List.mem_of_getElem? (i := 8) rfl)
theorem tX12_change_15 : (15, a_aload 0 16) ∈ kX12_change := qX12_change_0 _ (List.mem_of_getElem? (i := 9) rfl)
theorem tX12_change_16 : (16, a_getR 12 28 19) ∈ kX12_change := qX12_change_0 _ (List.mem_of_getElem? (i := 10) rfl)
theorem tX12_change_19 : (19, a_iload 3 20) ∈ kX12_change := qX12_change_0 _ (List.mem_of_getElem? (i := 11) rfl)
theorem tX12_change_20 : (20, a_iald 21) ∈ kX12_change := qX12_change_0 _ (List.mem_of_getElem? (i := 12) rfl)
theorem tX12_change_21 : (21, a_iload 1 22) ∈ kX12_change := qX12_change_0 _ (List.mem_of_getElem? (i := 13) rfl)
theorem tX12_change_22 : (22, a_ic_ne 29 25) ∈ kX12_change := qX12_change_0 _ (List.mem_of_getElem? (i := 14) rfl)
theorem tX12_change_25 : (25, a_iload 2 26) ∈ kX12_change := qX12_change_0 _ (List.mem_of_getElem? (i := 15) rfl)
theorem tX12_change_26 : (26, a_goto 49) ∈ kX12_change := qX12_change_0 _ (List.mem_of_getElem? (i := 16) rfl)
theorem tX12_change_29 : (29, a_aload 0 30) ∈ kX12_change := qX12_change_0 _ (List.mem_of_getElem? (i := 17) rfl)
theorem tX12_change_30 : (30, a_getR 12 28 33) ∈ kX12_change := qX12_change_0 _ (List.mem_of_getElem? (i := 18) rfl)
theorem tX12_change_33 : (33, a_iload 3 34) ∈ kX12_change := qX12_change_0 _ (List.mem_of_getElem? (i := 19) rfl)
theorem tX12_change_34 : (34, a_iald 35) ∈ kX12_change := qX12_change_0 _ (List.mem_of_getElem? (i := 20) rfl)
theorem tX12_change_35 : (35, a_iload 2 36) ∈ kX12_change := qX12_change_0 _ (List.mem_of_getElem? (i := 21) rfl)
theorem tX12_change_36 : (36, a_ic_ne 43 39) ∈ kX12_change := qX12_change_0 _ (List.mem_of_getElem? (i := 22) rfl)
theorem tX12_change_39 : (39, a_iload 1 40) ∈ kX12_change := qX12_change_0 _ (List.mem_of_getElem? (i := 23) rfl)
theorem qX12_change_1 : ∀ q ∈ kX12_change_1, q ∈ kX12_change := fun _ h => (List.mem_append_right _ h)
theorem tX12_change_40 : (40, a_goto 49) ∈ kX12_change := qX12_change_1 _ (List.mem_of_getElem? (i := 0) rfl)
theorem tX12_change_43 : (43, a_aload 0 44) ∈ kX12_change := qX12_change_1 _ (List.mem_of_getElem? (i := 1) rfl)
theorem tX12_change_44 : (44, a_getR 12 28 47) ∈ kX12_change := qX12_change_1 _ (List.mem_of_getElem? (i := 2) rfl)
theorem tX12_change_47 : (47, a_iload 3 48) ∈ kX12_change := qX12_change_1 _ (List.mem_of_getElem? (i := 3) rfl)
theorem tX12_change_48 : (48, a_iald 49) ∈ kX12_change := qX12_change_1 _ (List.mem_of_getElem? (i := 4) rfl)
theorem tX12_change_49 : (49, a_iast 50) ∈ kX12_change := qX12_change_1 _ (List.mem_of_getElem? (i := 5) rfl)
theorem tX12_change_50 : (50, a_iinc 3 1 53) ∈ kX12_change := qX12_change_1 _ (List.mem_of_getElem? (i := 6) rfl)
theorem tX12_change_53 : (53, a_goto 2) ∈ kX12_change := qX12_change_1 _ (List.mem_of_getElem? (i := 7) rfl)
theorem tX12_change_56 : (56, a_vret) ∈ kX12_change := qX12_change_1 _ (List.mem_of_getElem? (i := 8) rfl)
theorem oX12_change : ∀ q ∈ kX12_change, zSnd zty false RX12 cX12_change 4 none false q := List.forall_mem_append.mpr ⟨oX12_change_0, oX12_change_1⟩
theorem dX12_swap_0 : decode cX12_swap 0 = .ok (.iconst 0, 1) := by decide +kernel
theorem dX12_swap_1 : decode cX12_swap 1 = .ok (.istore_n 1, 1) := by decide +kernel
theorem dX12_swap_2 : decode cX12_swap 2 = .ok (.iconst 1, 1) := by decide +kernel
theorem dX12_swap_3 : decode cX12_swap 3 = .ok (.istore_n 2, 1) := by decide +kernel
theorem dX12_swap_4 : decode cX12_swap 4 = .ok (.iload_n 2, 1) := by decide +kernel
theorem dX12_swap_5 : decode cX12_swap 5 = .ok (.ifCond .eq 170, 3) := by decide +kernel
theorem dX12_swap_8 : decode cX12_swap 8 = .ok (.aload_n 0, 1) := by decide +kernel
theorem dX12_swap_9 : decode cX12_swap 9 = .ok (.invokevirtual 223, 3) := by decide +kernel
theorem dX12_swap_12 : decode cX12_swap 12 = .ok (.aload_n 0, 1) := by decide +kernel
theorem dX12_swap_13 : decode cX12_swap 13 = .ok (.invokevirtual 226, 3) := by decide +kernel
theorem dX12_swap_16 : decode cX12_swap 16 = .ok (.istore_n 3, 1) := by decide +kernel
theorem dX12_swap_17 : decode cX12_swap 17 = .ok (.bipush (-4), 2) := by decide +kernel
theorem dX12_swap_19 : decode cX12_swap 19 = .ok (.istore 4, 2) := by decide +kernel
theorem dX12_swap_21 : decode cX12_swap 21 = .ok (.iconst 0, 1) := by decide +kernel
theorem dX12_swap_22 : decode cX12_swap 22 = .ok (.istore 5, 2) := by decide +kernel
theorem dX12_swap_24 : decode cX12_swap 24 = .ok (.iconst 0, 1) := by decide +kernel
theorem dX12_swap_25 : decode cX12_swap 25 = .ok (.istore 6, 2) := by decide +kernel
theorem dX12_swap_27 : decode cX12_swap 27 = .ok (.iload 6, 2) := by decide +kernel
theorem dX12_swap_29 : decode cX12_swap 29 = .ok (.bipush 8, 2) := by decide +kernel
theorem dX12_swap_31 : decode cX12_swap 31 = .ok (.if_icmp .ge 81, 3) := by decide +kernel
theorem dX12_swap_34 : decode cX12_swap 34 = .ok (.iload 6, 2) := by decide +kernel
theorem dX12_swap_36 : decode cX12_swap 36 = .ok (.iconst 1, 1) := by decide +kernel
theorem dX12_swap_37 : decode cX12_swap 37 = .ok (.iadd, 1) := by decide +kernel
theorem dX12_swap_38 : decode cX12_swap 38 = .ok (.istore 7, 2) := by decide +kernel
theorem dX12_swap_40 : decode cX12_swap 40 = .ok (.iload 7, 2) := by decide +kernel
theorem dX12_swap_42 : decode cX12_swap 42 = .ok (.bipush 8, 2) := by decide +kernel
theorem dX12_swap_44 : decode cX12_swap 44 = .ok (.if_icmp .ge 62, 3) := by decide +kernel
theorem dX12_swap_47 : decode cX12_swap 47 = .ok (.aload_n 0, 1) := by decide +kernel
theorem dX12_swap_48 : decode cX12_swap 48 = .ok (.iload 6, 2) := by decide +kernel
theorem dX12_swap_50 : decode cX12_swap 50 = .ok (.invokevirtual 214, 3) := by decide +kernel
theorem dX12_swap_53 : decode cX12_swap 53 = .ok (.bipush (-4), 2) := by decide +kernel
theorem dX12_swap_55 : decode cX12_swap 55 = .ok (.if_icmp .ne 14, 3) := by decide +kernel
theorem dX12_swap_58 : decode cX12_swap 58 = .ok (.aload_n 0, 1) := by decide +kernel
theorem dX12_swap_59 : decode cX12_swap 59 = .ok (.iload 7, 2) := by decide +kernel
theorem dX12_swap_61 : decode cX12_swap 61 = .ok (.invokevirtual 214, 3) := by decide +kernel
theorem dX12_swap_64 : decode cX12_swap 64 = .ok (.bipush (-4), 2) := by decide +kernel
theorem dX12_swap_66 : decode cX12_swap 66 = .ok (.if_icmp .eq 34, 3) := by decide +kernel
theorem dX12_swap_69 : decode cX12_swap 69 = .ok (.aload_n 0, 1) := by decide +kernel
theorem dX12_swap_70 : decode cX12_swap 70 = .ok (.iload 6, 2) := by decide +kernel
theorem dX12_swap_72 : decode cX12_swap 72 = .ok (.iload 7, 2) := by decide +kernel
theorem dX12_swap_74 : decode cX12_swap 74 = .ok (.invokevirtual 236, 3) := by decide +kernel
theorem dX12_swap_77 : decode cX12_swap 77 = .ok (.aload_n 0, 1) := by decide +kernel
theorem dX12_swap_78 : decode cX12_swap 78 = .ok (.invokevirtual 226, 3) := by decide +kernel
theorem dX12_swap_81 : decode cX12_swap 81 = .ok (.istore 8, 2) := by decide +kernel
theorem dX12_swap_83 : decode cX12_swap 83 = .ok (.iload 8, 2) := by decide +kernel
theorem dX12_swap_85 : decode cX12_swap 85 = .ok (.iload_n 3, 1) := by decide +kernel
theorem dX12_swap_86 : decode cX12_swap 86 = .ok (.if_icmp .ge 14, 3) := by decide +kernel
theorem dX12_swap_89 : decode cX12_swap 89 = .ok (.iload 8, 2) := by decide +kernel
theorem dX12_swap_91 : decode cX12_swap 91 = .ok (.istore_n 3, 1) := by decide +kernel
theorem dX12_swap_92 : decode cX12_swap 92 = .ok (.iload 6, 2) := by decide +kernel
theorem dX12_swap_94 : decode cX12_swap 94 = .ok (.istore 4, 2) := by decide +kernel
theorem dX12_swap_96 : decode cX12_swap 96 = .ok (.iload 7, 2) := by decide +kernel
theorem dX12_swap_98 : decode cX12_swap 98 = .ok (.istore 5, 2) := by decide +kernel
theorem dX12_swap_100 : decode cX12_swap 100 = .ok (.iinc 7 1, 3) := by decide +kernel
theorem dX12_swap_103 : decode cX12_swap 103 = .ok (.goto (-63), 3) := by decide +kernel
theorem dX12_swap_106 : decode cX12_swap 106 = .ok (.iinc 6 1, 3) := by decide +kernel
theorem dX12_swap_109 : decode cX12_swap 109 = .ok (.goto (-82), 3) := by decide +kernel
theorem dX12_swap_112 : decode cX12_swap 112 = .ok (.iload 4, 2) := by decide +kernel
theorem dX12_swap_114 : decode cX12_swap 114 = .ok (.bipush (-4), 2) := by decide +kernel
theorem dX12_swap_116 : decode cX12_swap 116 = .ok (.if_icmp .eq 7, 3) := by decide +kernel
theorem dX12_swap_119 : decode cX12_swap 119 = .ok (.iconst 1, 1) := by decide +kernel
theorem dX12_swap_120 : decode cX12_swap 120 = .ok (.goto 4, 3) := by decide +kernel
theorem dX12_swap_123 : decode cX12_swap 123 = .ok (.iconst 0, 1) := by decide +kernel
theorem dX12_swap_124 : decode cX12_swap 124 = .ok (.istore_n 2, 1) := by decide +kernel
theorem dX12_swap_125 : decode cX12_swap 125 = .ok (.iload_n 2, 1) := by decide +kernel
theorem dX12_swap_126 : decode cX12_swap 126 = .ok (.ifCond .eq 46, 3) := by decide +kernel
theorem dX12_swap_129 : decode cX12_swap 129 = .ok (.aload_n 0, 1) := by decide +kernel
theorem dX12_swap_130 : decode cX12_swap 130 = .ok (.iload 4, 2) := by decide +kernel
theorem dX12_swap_132 : decode cX12_swap 132 = .ok (.iload 5, 2) := by decide +kernel
theorem dX12_swap_134 : decode cX12_swap 134 = .ok (.invokevirtual 236, 3) := by decide +kernel
theorem dX12_swap_137 : decode cX12_swap 137 = .ok (.iconst 0, 1) := by decide +kernel
theorem dX12_swap_138 : decode cX12_swap 138 = .ok (.istore 6, 2) := by decide +kernel
theorem dX12_swap_140 : decode cX12_swap 140 = .ok (.iload 6, 2) := by decide +kernel
theorem dX12_swap_142 : decode cX12_swap 142 = .ok (.aload_n 0, 1) := by decide +kernel
theorem dX12_swap_143 : decode cX12_swap 143 = .ok (.getfield 211, 3) := by decide +kernel
theorem dX12_swap_146 : decode cX12_swap 146 = .ok (.if_icmp .ge 23, 3) := by decide +kernel
theorem dX12_swap_149 : decode cX12_swap 149 = .ok (.aload_n 0, 1) := by decide +kernel
theorem dX12_swap_150 : decode cX12_swap 150 = .ok (.getfield 83, 3) := by decide +kernel
theorem dX12_swap_153 : decode cX12_swap 153 = .ok (.iload 6, 2) := by decide +kernel
theorem dX12_swap_155 : decode cX12_swap 155 = .ok (.aload_n 0, 1) := by decide +kernel
theorem dX12_swap_156 : decode cX12_swap 156 = .ok (.getfield 89, 3) := by decide +kernel
theorem dX12_swap_159 : decode cX12_swap 159 = .ok (.iload 6, 2) := by decide +kernel
theorem dX12_swap_161 : decode cX12_swap 161 = .ok (.iaload, 1) := by decide +kernel
theorem dX12_swap_162 : decode cX12_swap 162 = .ok (.iastore, 1) := by decide +kernel
theorem dX12_swap_163 : decode cX12_swap 163 = .ok (.iinc 6 1, 3) := by decide +kernel
theorem dX12_swap_166 : decode cX12_swap 166 = .ok (.goto (-26), 3) := by decide +kernel
theorem dX12_swap_169 : decode cX12_swap 169 = .ok (.iinc 1 1, 3) := by decide +kernel
theorem dX12_swap_172 : decode cX12_swap 172 = .ok (.goto (-168), 3) := by decide +kernel
theorem dX12_swap_175 : decode cX12_swap 175 = .ok (.iload_n 1, 1) := by decide +kernel
theorem dX12_swap_176 : decode cX12_swap 176 = .ok (.ireturn, 1) := by decide +kernel
def kX12_swap_0 : List (Nat × zT) := [(0, a_i 0 1), (1, a_istore 1 2), (2, a_i 1 3), (3, a_istore 2 4), (4, a_iload 2 5), (5, a_if_eq 175 8), (8, a_aload 0 9), (9, a_callV 12 190 1 12 0 0), (12, a_aload 0 13), (13, a_callV 12 189 1 16 0 0), (16, a_istore 3 17), (17, a_i (-4) 19), (19, a_istore 4 21), (21, a_i 0 22), (22, a_istore 5 24), (24, a_i 0 25), (25, a_istore 6 27), (27, a_iload 6 29), (29, a_i 8 31), (31, a_ic_ge 112 34), (34, a_iload 6 36), (36, a_i 1 37), (37, a_ii (fun x y => x + y) 38), (38, a_istore 7 40)]
theorem oX12_swap_0 : ∀ q ∈ kX12_swap_0, zSnd zty false RX12 cX12_swap 9 (some .int) false q := List.forall_mem_cons.mpr ⟨ok_iconst dX12_swap_0 (by decide), List.forall_mem_cons.mpr ⟨ok_istore_n dX12_swap_1 rfl (by decide), List.forall_mem_cons.mpr ⟨ok_iconst dX12_swap_2 (by decide), List.forall_mem_cons.mpr ⟨ok_istore_n dX12_swap_3 rfl (by decide), List.forall_mem_cons.mpr ⟨ok_iload_n dX12_swap_4 rfl, List.forall_mem_cons.mpr ⟨ok_if_eq dX12_swap_5 (by decide), List.forall_mem_cons.mpr ⟨ok_aload_n dX12_swap_8 rfl, List.forall_mem_cons.mpr ⟨ok_callV dX12_swap_9 rfl rfl w1281 w1278 w1280 w13 s43 (by decide +kernel) (by decide), List.forall_mem_cons.mpr ⟨ok_aload_n dX12_swap_12 rfl, List.forall_mem_cons.mpr ⟨ok_callV dX12_swap_13 rfl rfl w1285 w1282 w1284 w13 s44 (by decide +kernel) (by decide), List.forall_mem_cons.mpr ⟨ok_istore_n dX12_swap_16 rfl (by decide), List.forall_mem_cons.mpr ⟨ok_bipush dX12_swap_17 (by decide), List.forall_mem_cons.mpr ⟨ok_istore dX12_swap_19 (by decide), List.forall_mem_cons.mpr ⟨ok_iconst dX12_swap_21 (by decide), List.forall_mem_cons.mpr ⟨ok_istore dX12_swap_22 (by decide), List.forall_mem_cons.mpr ⟨ok_iconst dX12_swap_24 (by decide), List.forall_mem_cons.mpr ⟨ok_istore dX12_swap_25 (by decide), List.forall_mem_cons.mpr ⟨ok_iload dX12_swap_27, List.forall_mem_cons.mpr ⟨ok_bipush dX12_swap_29 (by decide), List.forall_mem_cons.mpr ⟨ok_ic_ge dX12_swap_31 (by decide), List.forall_mem_cons.mpr ⟨ok_iload dX12_swap_34, List.forall_mem_cons.mpr ⟨ok_iconst dX12_swap_36 (by decide), List.forall_mem_cons.mpr ⟨ok_iadd dX12_swap_37, List.forall_mem_cons.mpr ⟨ok_istore dX12_swap_38 (by decide), fun _ h => absurd h List.not_mem_nil⟩⟩⟩⟩⟩⟩⟩⟩⟩⟩⟩⟩⟩⟩⟩⟩⟩⟩⟩⟩⟩⟩⟩⟩
def kX12_swap_1 : List (Nat × zT) := [(40, a_iload 7 42), (42, a_i 8 44), (44, a_ic_ge 106 47), (47, a_aload 0 48), (48, a_iload 6 50), (50, a_callV 12 184 2 53 0 0), (53, a_i (-4) 55), (55, a_ic_ne 69 58), (58, a_aload 0 59), (59, a_iload 7 61), (61, a_callV 12 184 2 64 0 0), (64, a_i (-4) 66), (66, a_ic_eq 100 69), (69, a_aload 0 70), (70, a_iload 6 72), (72, a_iload 7 74), (74, a_callV 12 195 3 77 0 0), (77, a_aload 0 78), (78, a_callV 12 189 1 81 0 0), (81, a_istore 8 83), (83, a_iload 8 85), (85, a_iload 3 86), (86, a_ic_ge 100 89), (89, a_iload 8 91)]
theorem oX12_swap_1 : ∀ q ∈ kX12_swap_1, zSnd zty false RX12 cX12_swap 9 (some .int) false q := List.forall_mem_cons.mpr ⟨ok_iload dX12_swap_40, List.forall_mem_cons.mpr ⟨ok_bipush dX12_swap_42 (by decide), List.forall_mem_cons.mpr ⟨ok_ic_ge dX12_swap_44 (by decide), List.forall_mem_cons.mpr ⟨ok_aload_n dX12_swap_47 rfl, List.forall_mem_cons.mpr ⟨ok_iload dX12_swap_48, List.forall_mem_cons.mpr ⟨ok_callV dX12_swap_50 rfl rfl w1265 w1262 w1264 w13 s42 (by decide +kernel) (by decide), List.forall_mem_cons.mpr ⟨ok_bipush dX12_swap_53 (by decide), List.forall_mem_cons.mpr ⟨ok_ic_ne dX12_swap_55 (by decide), List.forall_mem_cons.mpr ⟨ok_aload_n dX12_swap_58 rfl, List.forall_mem_cons.mpr ⟨ok_iload dX12_swap_59, List.forall_mem_cons.mpr ⟨ok_callV dX12_swap_61 rfl rfl w1265 w1262 w1264 w13 s42 (by decide +kernel) (by decide), List.forall_mem_cons.mpr ⟨ok_bipush dX12_swap_64 (by decide), List.forall_mem_cons.mpr ⟨ok_ic_eq dX12_swap_66 (by decide), List.forall_mem_cons.mpr ⟨ok_aload_n dX12_swap_69 rfl, List.forall_mem_cons.mpr ⟨ok_iload dX12_swap_70, List.forall_mem_cons.mpr ⟨ok_iload dX12_swap_72, List.forall_mem_cons.mpr ⟨ok_callV dX12_swap_74 rfl rfl w1310 w1307 w1309 w13 s48 (by decide +kernel) (by decide), List.forall_mem_cons.mpr ⟨ok_aload_n dX12_swap_77 rfl, List.forall_mem_cons.mpr ⟨ok_callV dX12_swap_78 rfl rfl w1285 w1282 w1284 w13 s44 (by decide +kernel) (by decide), List.forall_mem_cons.mpr ⟨ok_istore dX12_swap_81 (by decide), List.forall_mem_cons.mpr ⟨ok_iload dX12_swap_83, List.forall_mem_cons.mpr ⟨ok_iload_n dX12_swap_85 rfl, List.forall_mem_cons.mpr ⟨ok_ic_ge dX12_swap_86 (by decide), List.forall_mem_cons.mpr ⟨ok_iload dX12_swap_89, fun _ h => absurd h List.not_mem_nil⟩⟩⟩⟩⟩⟩⟩⟩⟩⟩⟩⟩⟩⟩⟩⟩⟩⟩⟩⟩⟩⟩⟩⟩
def kX12_swap_2 : List (Nat × zT) := [(91, a_istore 3 92), (92, a_iload 6 94), (94, a_istore 4 96), (96, a_iload 7 98), (98, a_istore 5 100), (100, a_iinc 7 1 103), (103, a_goto 40), (106, a_iinc 6 1 109), (109, a_goto 27), (112, a_iload 4 114), (114, a_i (-4) 116), (116, a_ic_eq 123 119), (119, a_i 1 120), (120, a_goto 124), (123, a_i 0 124), (124, a_istore 2 125), (125, a_iload 2 126), (126, a_if_eq 172 129), (129, a_aload 0 130), (130, a_iload 4 132), (132, a_iload 5 134), (134, a_callV 12 195 3 137 0 0), (137, a_i 0 138), (138, a_istore 6 140)]
theorem oX12_swap_2 : ∀ q ∈ kX12_swap_2, zSnd zty false RX12 cX12_swap 9 (some .int) false q := List.forall_mem_cons.mpr ⟨ok_istore_n dX12_swap_91 rfl (by decide), List.forall_mem_cons.mpr ⟨ok_iload dX12_swap_92, List.forall_mem_cons.mpr ⟨ok_istore dX12_swap_94 (by decide), List.forall_mem_cons.mpr ⟨ok_iload dX12_swap_96, List.forall_mem_cons.mpr ⟨ok_istore dX12_swap_98 (by decide), List.forall_mem_cons.mpr ⟨ok_iinc dX12_swap_100 (by decide) (by decide), List.forall_mem_cons.mpr ⟨ok_goto dX12_swap_103 (by decide), List.forall_mem_cons.mpr ⟨ok_iinc dX12_swap_106 (by decide) (by decide), List.forall_mem_cons.mpr ⟨ok_goto dX12_swap_109 (by decide), List.forall_mem_cons.mpr ⟨ok_iload dX12_swap_112, List.forall_mem_cons.mpr ⟨ok_bipush dX12_swap_114 (by decide), List.forall_mem_cons.mpr ⟨ok_ic_eq dX12_swap_116 (by decide), List.forall_mem_cons.mpr ⟨ok_iconst dX12_swap_119 (by decide), List.forall_mem_cons.mpr ⟨ok_goto dX12_swap_120 (by decide), List.forall_mem_cons.mpr ⟨ok_iconst dX12_swap_123 (by decide), List.forall_mem_cons.mpr ⟨ok_istore_n dX12_swap_124 rfl (by decide), List.forall_mem_cons.mpr ⟨ok_iload_n dX12_swap_125 rfl, List.forall_mem_cons.mpr ⟨ok_if_eq dX12_swap_126 (by decide), List.forall_mem_cons.mpr ⟨ok_aload_n dX12_swap_129 rfl, List.forall_mem_cons.mpr ⟨ok_iload dX12_swap_130, List.forall_mem_cons.mpr ⟨ok_iload dX12_swap_132, List.forall_mem_cons.mpr ⟨ok_callV dX12_swap_134 rfl rfl w1310 w1307 w1309 w13 s48 (by decide +kernel) (by decide), List.forall_mem_cons.mpr ⟨ok_iconst dX12_swap_137 (by decide), List.forall_mem_cons.mpr ⟨ok_istore dX12_swap_138 (by decide), fun _ h => absurd h List.not_mem_nil⟩⟩⟩⟩⟩⟩⟩⟩⟩⟩⟩⟩⟩⟩⟩⟩⟩⟩⟩⟩⟩⟩⟩⟩
def kX12_swap_3 : List (Nat × zT) := [(140, a_iload 6 142), (142, a_aload 0 143), (143, a_getI 12 27 146), (146, a_ic_ge 169 149), (149, a_aload 0 150), (150, a_getR 12 28 153), (153, a_iload 6 155), (155, a_aload 0 156), (156, a_getR 12 31 159), (159, a_iload 6 161), (161, a_iald 162), (162, a_iast 163), (163, a_iinc 6 1 166), (166, a_goto 140), (169, a_iinc 1 1 172), (172, a_goto 4), (175, a_iload 1 176), (176, a_iret false)]
theorem oX12_swap_3 : ∀ q ∈ kX12_swap_3, zSnd zty false RX12 cX12_swap 9 (some .int) false q := List.forall_mem_cons.mpr ⟨ok_iload dX12_swap_140, List.forall_mem_cons.mpr ⟨ok_aload_n dX12_swap_142 rfl, List.forall_mem_cons.mpr ⟨ok_getI dX12_swap_143 rfl in12 (by decide) rfl w984, List.forall_mem_cons.mpr ⟨ok_ic_ge dX12_swap_146 (by decide), List.forall_mem_cons.mpr ⟨ok_aload_n dX12_swap_149 rfl, List.forall_mem_cons.mpr ⟨ok_getR dX12_swap_150 rfl in12 (by decide) rfl w985, List.forall_mem_cons.mpr ⟨ok_iload dX12_swap_153, List.forall_mem_cons.mpr ⟨ok_aload_n dX12_swap_155 rfl, List.forall_mem_cons.mpr ⟨ok_getR dX12_swap_156 rfl in12 (by decide) rfl w988, List.forall_mem_cons.mpr ⟨ok_iload dX12_swap_159, List.forall_mem_cons.mpr ⟨ok_iald dX12_swap_161, List.forall_mem_cons.mpr ⟨ok_iast dX12_swap_162, List.forall_mem_cons.mpr ⟨ok_iinc dX12_swap_163 (by decide) (by decide), List.forall_mem_cons.mpr ⟨ok_goto dX12_swap_166 (by decide), List.forall_mem_cons.mpr ⟨ok_iinc dX12_swap_169 (by decide) (by decide), List.forall_mem_cons.mpr ⟨ok_goto dX12_swap_172 (by decide), List.forall_mem_cons.mpr ⟨ok_iload_n dX12_swap_175 rfl, List.forall_mem_cons.mpr ⟨ok_iret (bz := false) dX12_swap_176 rfl, fun _ h => absurd h List.not_mem_nil⟩⟩⟩⟩⟩⟩⟩⟩⟩⟩⟩⟩⟩⟩⟩⟩⟩⟩
def kX12_swap : List (Nat × zT) := kX12_swap_0 ++ (kX12_swap_1 ++ (kX12_swap_2 ++ (kX12_swap_3)))
theorem qX12_swap_0 : ∀ q ∈ kX12_swap_0, q ∈ kX12_swap := fun _ h => (List.mem_append_left _ h)
theorem tX12_swap_0 : (0, a_i 0 1) ∈ kX12_swap := qX12_swap_0 _ (List.mem_of_getElem? (i := 0) rfl)
theorem tX12_swap_1 : (1, a_istore 1 2) ∈ kX12_swap := qX12_swap_0 _ (List.mem_of_getElem? (i := 1) rfl)
theorem tX12_swap_2 : (2, a_i 1 3) ∈ kX12_swap := qX12_swap_0 _ (List.mem_of_getElem? (i := 2) rfl)
theorem tX12_swap_3 : (3, a_istore 2 4) ∈ kX12_swap := qX12_swap_0 _ (List.mem_of_getElem? (i := 3) rfl)
theorem tX12_swap_4 : (4, a_iload 2 5) ∈ kX12_swap := qX12_swap_0 _ (List.mem_of_getElem? (i := 4) rfl)
theorem tX12_swap_5 : (5, a_if_eq 175 8) ∈ kX12_swap := qX12_swap_0 _ (List.mem_of_getElem? (i := 5) rfl)
theorem tX12_swap_8 : (8, a_aload 0 9) ∈ kX12_swap := qX12_swap_0 _ (List.mem_of_getElem? (i := 6) rfl)
theorem tX12_swap_9 : (9, a_callV 12 190 1 12 0 0) ∈ kX12_swap := qX12_swap_0 _ (List.mem_of_getElem? (i := 7) rfl)
theorem tX12_swap_12 : (12, a_aload 0 13) ∈ kX12_swap := qX12_swap_0 _ (List.mem_of_getElem? (i := 8) rfl)
theorem tX12_swap_13 : (13, a_callV 12 189 1 16 0 0) ∈ kX12_swap := qX12_swap_0 _ (List.mem_of_getElem? (i := 9) rfl)
theorem tX12_swap_16 : (16, a_istore 3 17) ∈ kX12_swap := qX12_swap_0 _ (List.mem_of_getElem? (i := 10) rfl)
theorem tX12_swap_17 : (17, a_i (-4) 19) ∈ kX12_swap := qX12_swap_0 _ (List.mem_of_getElem? (i := 11) rfl)
theorem tX12_swap_19 : (19, a_istore 4 21) ∈ kX12_swap := qX12_swap_0 _ (List.mem_of_getElem? (i := 12) rfl)
theorem tX12_swap_21 : (21, a_i 0 22) ∈ kX12_swap := qX12_swap_0 _ (List.mem_of_getElem? (i := 13) rfl)
theorem tX12_swap_22 : (22, a_istore 5 24) ∈ kX12_swap := qX12_swap_0 _ (List.mem_of_getElem? (i := 14) rfl)
theorem tX12_swap_24 : (24, a_i 0 25) ∈ kX12_swap := qX12_swap_0 _ (List.mem_of_getElem? (i := 15) rfl)
theorem tX12_swap_25 : (25, a_istore 6 27) ∈ kX12_swap := qX12_swap_0 _ (List.mem_of_getElem? (i := 16) rfl)
theorem tX12_swap_27 : (27, a_iload 6 29) ∈ kX12_swap := qX12_swap_0 _ (List.mem_of_getElem? (i := 17) rfl)
theorem tX12_swap_29 : (29, a_i 8 31) ∈ kX12_swap := qX12_swap_0 _ (List.mem_of_getElem? (i := 18) rfl)
theorem tX12_swap_31 : (31, a_ic_ge 112 34) ∈ kX12_swap := qX12_swap_0 _ (List.mem_of_getElem? (i := 19) rfl)
theorem tX12_swap_34 : (34, a_iload 6 36) ∈ kX12_swap := qX12_swap_0 _ (List.mem_of_getElem? (i := 20) rfl)
theorem tX12_swap_36 : (36, a_i 1 37) ∈ kX12_swap := qX12_swap_0 _ (List.mem_of_getElem? (i := 21) rfl)
theorem tX12_swap_37 : (37, a_ii (fun x y => x + y) 38) ∈ kX12_swap := qX12_swap_0 _ (List.mem_of_getElem? (i := 22) rfl)
theorem tX12_swap_38 : (38, a_istore 7 40) ∈ kX12_swap := qX12_swap_0 _ (List.mem_of_getElem? (i := 23) rfl)
theorem qX12_swap_1 : ∀ q ∈ kX12_swap_1, q ∈ kX12_swap := fun _ h => (List.mem_append_right _ (List.mem_append_left _ h))
theorem tX12_swap_40 : (40, a_iload 7 42) ∈ kX12_swap := qX12_swap_1 _ (List.mem_of_getElem? (i := 0) rfl)
theorem tX12_swap_42 : (42, a_i 8 44) ∈ kX12_swap := qX12_swap_1 _ (List.mem_of_getElem? (i := 1) rfl)
theorem tX12_swap_44 : (44, a_ic_ge 106 47) ∈ kX12_swap := qX12_swap_1 _ (List.mem_of_getElem? (i := 2) rfl)
theorem tX12_swap_47 : (47, a_aload 0 48) ∈ kX12_swap := qX12_swap_1 _ (List.mem_of_getElem? (i := 3) rfl)
theorem tX12_swap_48 : (48, a_iload 6 50) ∈ kX12_swap := qX12_swap_1 _ (List.mem_of_getElem? (i := 4) rfl)
theorem tX12_swap_50 : (50, a_callV 12 184 2 53 0 0) ∈ kX12_swap := qX12_swap_1 _ (List.mem_of_getElem? (i := 5) rfl)
theorem tX12_swap_53 : (53, a_i (-4) 55) ∈ kX12_swap := qX12_swap_1 _ (List.mem_of_getElem? (i := 6) rfl)
theorem tX12_swap_55 : (55, a_ic_ne 69 58) ∈ kX12_swap := qX12_swap_1 _ (List.mem_of_getElem? (i := 7) rfl)
theorem tX12_swap_58 : (58, a_aload 0 59) ∈ kX12_swap := qX12_swap_1 _ (List.mem_of_getElem? (i := 8) rfl)
theorem tX12_swap_59 : (59, a_iload 7 61) ∈ kX12_swap := qX12_swap_1 _ (List.mem_of_getElem? (i := 9) rfl)
theorem tX12_swap_61 : (61, a_callV 12 184 2 64 0 0) ∈ kX12_swap := qX12_swap_1 _ (List.mem_of_getElem? (i := 10) rfl)
theorem tX12_swap_64 : (64, a_i (-4) 66) ∈ kX12_swap := qX12_swap_1 _ (List.mem_of_getElem? (i := 11) rfl)
theorem tX12_swap_66 : (66, a_ic_eq 100 69) ∈ kX12_swap := qX12_swap_1 _ (List.mem_of_getElem? (i := 12) rfl)
theorem tX12_swap_69 : (69, a_aload 0 70) ∈ kX12_swap := qX12_swap_1 _ (List.mem_of_getElem? (i := 13) rfl)
theorem tX12_swap_70 : (70, a_iload 6 72) ∈ kX12_swap := qX12_swap_1 _ (List.mem_of_getElem? (i := 14) rfl)
theorem tX12_swap_72 : (72, a_iload 7 74) ∈ kX12_swap := qX12_swap_1 _ (List.mem_of_getElem? (i := 15) rfl)
theorem tX12_swap_74 : (74, a_callV 12 195 3 77 0 0) ∈ kX12_swap := qX12_swap_1 _ (List.mem_of_getElem? (i := 16) rfl)
theorem tX12_swap_77 : (77, a_aload 0 78) ∈ kX12_swap := qX12_swap_1 _ (List.mem_of_getElem? (i := 17) rfl)
theorem tX12_swap_78 : (78, a_callV 12 189 1 81 0 0) ∈ kX12_swap := qX12_swap_1 _ (List.mem_of_getElem? (i := 18) rfl)
theorem tX12_swap_81 : (81, a_istore 8 83) ∈ kX12_swap := qX12_swap_1 _ (List.mem_of_getElem? (i := 19) rfl)
theorem tX12_swap_83 : (83, a_iload 8 85) ∈ kX12_swap := qX12_swap_1 _ (List.mem_of_getElem? (i := 20) rfl)
theorem tX12_swap_85 : (85, a_iload 3 86) ∈ kX12_swap := qX12_swap_1 _ (List.mem_of_getElem? (i := 21) rfl)
theorem tX12_swap_86 : (86, a_ic_ge 100 89) ∈ kX12_swap := qX12_swap_1 _ (List.mem_of_getElem? (i := 22) rfl)
theorem tX12_swap_89 : (89, a_iload 8 91) ∈ kX12_swap := qX12_swap_1 _ (List.mem_of_getElem? (i := 23) rfl)
theorem qX12_swap_2 : ∀ q ∈ kX12_swap_2, q ∈ kX12_swap := fun _ h => (List.mem_append_right _ (List.mem_append_right _ (List.mem_append_left _ h)))
theorem tX12_swap_91 : (91, a_istore 3 92) ∈ kX12_swap := qX12_swap_2 _ (List.mem_of_getElem? (i := 0) rfl)
theorem tX12_swap_92 : (92, a_iload 6 94) ∈ kX12_swap := qX12_swap_2 _ (List.mem_of_getElem? (i := 1) rfl)
theorem tX12_swap_94 : (94, a_istore 4 96) ∈ kX12_swap := qX12_swap_2 _ (List.mem_of_getElem? (i := 2) rfl)
theorem tX12_swap_96 : (96, a_iload 7 98) ∈ kX12_swap := qX12_swap_2 _ (List.mem_of_getElem? (i := 3) rfl)
theorem tX12_swap_98 : (98, a_istore 5 100) ∈ kX12_swap := qX12_swap_2 _ (List.mem_of_getElem? (i := 4) rfl)
theorem tX12_swap_100 : (100, a_iinc 7 1 103) ∈ kX12_swap := qX12_swap_2 _ (List.mem_of_getElem? (i := 5) rfl)
theorem tX12_swap_103 : (103, a_goto 40) ∈ kX12_swap := qX12_swap_2 _ (List.mem_of_getElem? (i := 6) rfl)
theorem tX12_swap_106 : (106, a_iinc 6 1 109) ∈ kX12_swap := qX12_swap_2 _ (List.mem_of_getElem? (i := 7) rfl)
theorem tX12_swap_109 : (109, a_goto 27) ∈ kX12_swap := qX12_swap_2 _ (List.mem_of_getElem? (i := 8) rfl)
theorem tX12_swap_112 : (112, a_iload 4 114) ∈ kX12_swap := qX12_swap_2 _ (List.mem_of_getElem? (i := 9) rfl)
theorem tX12_swap_114 : (114, a_i (-4) 116) ∈ kX12_swap := qX12_swap_2 _ (List.mem_of_getElem? (i := 10) rfl)
theorem tX12_swap_116 : (116, a_ic_eq 123 119) ∈ kX12_swap := qX12_swap_2 _ (List.mem_of_getElem? (i := 11) rfl)
theorem tX12_swap_119 : (119, a_i 1 120) ∈ kX12_swap := qX12_swap_2 _ (List.mem_of_getElem? (i := 12) rfl)
theorem tX12_swap_120 : (120, a_goto 124) ∈ kX12_swap := qX12_swap_2 _ (List.mem_of_getElem? (i := 13) rfl)
theorem tX12_swap_123 : (123, a_i 0 124) ∈ kX12_swap := qX12_swap_2 _ (List.mem_of_getElem? (i := 14) rfl)
theorem tX12_swap_124 : (124, a_istore 2 125) ∈ kX12_swap := qX12_swap_2 _ (List.mem_of_getElem? (i := 15) rfl)
theorem tX12_swap_125 : (125, a_iload 2 126) ∈ kX12_swap := qX12_swap_2 _ (List.mem_of_getElem? (i := 16) rfl)
theorem tX12_swap_126 : (126, a_if_eq 172 129) ∈ kX12_swap := qX12_swap_2 _ (List.mem_of_getElem? (i := 17) rfl)
theorem tX12_swap_129 : (129, a_aload 0 130) ∈ kX12_swap := qX12_swap_2 _ (List.mem_of_getElem? (i := 18) rfl)
theorem tX12_swap_130 : (130, a_iload 4 132) ∈ kX12_swap := qX12_swap_2 _ (List.mem_of_getElem? (i := 19) rfl)
theorem tX12_swap_132 : (132, a_iload 5 134) ∈ kX12_swap := qX12_swap_2 _ (List.mem_of_getElem? (i := 20) rfl)
theorem tX12_swap_134 : (134, a_callV 12 195 3 137 0 0) ∈ kX12_swap := qX12_swap_2 _ (List.mem_of_getElem? (i := 21) rfl)
theorem tX12_swap_137 : (137, a_i 0 138) ∈ kX12_swap := qX12_swap_2 _ (List.mem_of_getElem? (i := 22) rfl)
theorem tX12_swap_138 : (138, a_istore 6 140) ∈ kX12_swap := qX12_swap_2 _ (List.mem_of_getElem? (i := 23) rfl)
theorem qX12_swap_3 : ∀ q ∈ kX12_swap_3, q ∈ kX12_swap := fun _ h => (List.mem_append_right _ (List.mem_append_right _ (List.mem_append_right _ h)))
theorem tX12_swap_140 : (140, a_iload 6 142) ∈ kX12_swap := qX12_swap_3 _ (List.mem_of_getElem? (i := 0) rfl)
theorem tX12_swap_142 : (142, a_aload 0 143) ∈ kX12_swap := qX12_swap_3 _ (List.mem_of_getElem? (i := 1) rfl)
theorem tX12_swap_143 : (143, a_getI 12 27 146) ∈ kX12_swap := qX12_swap_3 _ (List.mem_of_getElem? (i := 2) rfl)
theorem tX12_swap_146 : (146, a_ic_ge 169 149) ∈ kX12_swap := qX12_swap_3 _ (List.mem_of_getElem? (i := 3) rfl)
theorem tX12_swap_149 : (149, a_aload 0 150) ∈ kX12_swap := qX12_swap_3 _ (List.mem_of_getElem? (i := 4) rfl)
theorem tX12_swap_150 : (150, a_getR 12 28 153) ∈ kX12_swap := qX12_swap_3 _ (List.mem_of_getElem? (i := 5) rfl)
theorem tX12_swap_153 : (153, a_iload 6 155) ∈ kX12_swap := qX12_swap_3 _ (List.mem_of_getElem? (i := 6) rfl)
theorem tX12_swap_155 : (155, a_aload 0 156) ∈ kX12_swap := qX12_swap_3 _ (List.mem_of_getElem? (i := 7) rfl)
theorem tX12_swap_156 : (156, a_getR 12 31 159) ∈ kX12_swap := qX12_swap_3 _ (List.mem_of_getElem? (i := 8) rfl)
theorem tX12_swap_159 : (159, a_iload 6 161) ∈ kX12_swap := qX12_swap_3 _ (List.mem_of_getElem? (i := 9) rfl)
theorem tX12_swap_161 : (161, a_iald 162) ∈ kX12_swap := qX12_swap_3 _ (List.mem_of_getElem? (i := 10) rfl)
theorem tX12_swap_162 : (162, a_iast 163) ∈ kX12_swap := qX12_swap_3 _ (List.mem_of_getElem? (i := 11) rfl)
theorem tX12_swap_163 : (163, a_iinc 6 1 166) ∈ kX12_swap := qX12_swap_3 _ (List.mem_of_getElem? (i := 12) rfl)
theorem tX12_swap_166 : (166, a_goto 140) ∈ kX12_swap := qX12_swap_3 _ (List.mem_of_getElem? (i := 13) rfl)
theorem tX12_swap_169 : (169, a_iinc 1 1 172) ∈ kX12_swap := qX12_swap_3 _ (List.mem_of_getElem? (i := 14) rfl)
theorem tX12_swap_172 : (172, a_goto 4) ∈ kX12_swap := qX12_swap_3 _ (List.mem_of_getElem? (i := 15) rfl)
theorem tX12_swap_175 : (175, a_iload 1 176) ∈ kX12_swap := qX12_swap_3 _ (List.mem_of_getElem? (i := 16) rfl)
theorem tX12_swap_176 : (176, a_iret false) ∈ kX12_swap := qX12_swap_3 _ (List.mem_of_getElem? (i := 17) rfl)
theorem oX12_swap : ∀ q ∈ kX12_swap, zSnd zty false RX12 cX12_swap 9 (some .int) false q := List.forall_mem_append.mpr ⟨oX12_swap_0, List.forall_mem_append.mpr ⟨oX12_swap_1, List.forall_mem_append.mpr ⟨oX12_swap_2, oX12_swap_3⟩⟩⟩
theorem dX12_ends_0 : decode cX12_ends 0 = .ok (.iload_n 1, 1) := by decide +kernel
theorem dX12_ends_1 : decode cX12_ends 1 = .ok (.ifCond .lt 10, 3) := by decide +kernel
theorem dX12_ends_4 : decode cX12_ends 4 = .ok (.iload_n 1, 1) := by decide +kernel
theorem dX12_ends_5 : decode cX12_ends 5 = .ok (.ldc 239, 2) := by decide +kernel
theorem dX12_ends_7 : decode cX12_ends 7 = .ok (.iand, 1) := by decide +kernel
theorem dX12_ends_8 : decode cX12_ends 8 = .ok (.ifCond .eq 5, 3) := by decide +kernel
theorem dX12_ends_11 : decode cX12_ends 11 = .ok (.iconst (-1), 1) := by decide +kernel
theorem dX12_ends_12 : decode cX12_ends 12 = .ok (.ireturn, 1) := by decide +kernel
theorem dX12_ends_13 : decode cX12_ends 13 = .ok (.aload_n 0, 1) := by decide +kernel
theorem dX12_ends_14 : decode cX12_ends 14 = .ok (.getfield 40, 3) := by decide +kernel
theorem dX12_ends_17 : decode cX12_ends 17 = .ok (.iconst 0, 1) := by decide +kernel
theorem dX12_ends_18 : decode cX12_ends 18 = .ok (.iaload, 1) := by decide +kernel
theorem dX12_ends_19 : decode cX12_ends 19 = .ok (.istore_n 2, 1) := by decide +kernel
theorem dX12_ends_20 : decode cX12_ends 20 = .ok (.aload_n 0, 1) := by decide +kernel
theorem dX12_ends_21 : decode cX12_ends 21 = .ok (.getfield 40, 3) := by decide +kernel
theorem dX12_ends_24 : decode cX12_ends 24 = .ok (.iconst 0, 1) := by decide +kernel
theorem dX12_ends_25 : decode cX12_ends 25 = .ok (.iload_n 1, 1) := by decide +kernel
theorem dX12_ends_26 : decode cX12_ends 26 = .ok (.iastore, 1) := by decide +kernel
theorem dX12_ends_27 : decode cX12_ends 27 = .ok (.iload_n 2, 1) := by decide +kernel
theorem dX12_ends_28 : decode cX12_ends 28 = .ok (.ireturn, 1) := by decide +kernel
def kX12_ends_0 : List (Nat × zT) := [(0, a_iload 1 1), (1, a_if_lt 11 4), (4, a_iload 1 5), (5, a_i (-524225) 7), (7, a_ii (fun x y => x &&& y) 8), (8, a_if_eq 13 11), (11, a_i (-1) 12), (12, a_iret false), (13, a_aload 0 14), (14, a_getR 12 10 17), (17, a_i 0 18), (18, a_iald 19), (19, a_istore 2 20), (20, a_aload 0 21), (21, a_getR 12 10 24), (24, a_i 0 25), (25, a_iload 1 26), (26, a_iast 27), (27, a_iload 2 28), (28, a_iret false)]
theorem oX12_ends_0 : ∀ q ∈ kX12_ends_0, zSnd zty false RX12 cX12_ends 3 (some .int) false q := List.forall_mem_cons.mpr ⟨ok_iload_n dX12_ends_0 rfl, List.forall_mem_cons.mpr ⟨ok_if_lt dX12_ends_1 (by decide), List.forall_mem_cons.mpr ⟨ok_iload_n dX12_ends_4 rfl, List.forall_mem_cons.mpr ⟨ok_ldc dX12_ends_5 w1315, List.forall_mem_cons.mpr ⟨ok_iand dX12_ends_7, List.forall_mem_cons.mpr ⟨ok_if_eq dX12_ends_8 (by decide), List.forall_mem_cons.mpr ⟨ok_iconst dX12_ends_11 (by decide), List.forall_mem_cons.mpr ⟨ok_iret (bz := false) dX12_ends_12 rfl, List.forall_mem_cons.mpr ⟨ok_aload_n dX12_ends_13 rfl, List.forall_mem_cons.mpr ⟨ok_getR dX12_ends_14 rfl in12 (by decide) rfl w967, List.forall_mem_cons.mpr ⟨ok_iconst dX12_ends_17 (by decide), List.forall_mem_cons.mpr ⟨ok_iald dX12_ends_18, List.forall_mem_cons.mpr ⟨ok_istore_n dX12_ends_19 rfl (by decide), List.forall_mem_cons.mpr ⟨ok_aload_n dX12_ends_20 rfl, List.forall_mem_cons.mpr ⟨ok_getR dX12_ends_21 rfl in12 (by decide) rfl w967, List.forall_mem_cons.mpr ⟨ok_iconst dX12_ends_24 (by decide), List.forall_mem_cons.mpr ⟨ok_iload_n dX12_ends_25 rfl, List.forall_mem_cons.mpr ⟨ok_iast dX12_ends_26, List.forall_mem_cons.mpr ⟨ok_iload_n dX12_ends_27 rfl, List.forall_mem_cons.mpr ⟨ok_iret (bz := false) dX12_ends_28 rfl, fun _ h => absurd h List.not_mem_nil⟩⟩⟩⟩⟩⟩⟩⟩⟩⟩⟩⟩⟩⟩⟩⟩⟩⟩⟩⟩
def kX12_ends : List (Nat × zT) := kX12_ends_0
theorem qX12_ends_0 : ∀ q ∈ kX12_ends_0, q ∈ kX12_ends := fun _ h => h
theorem tX12_ends_0 : (0, a_iload 1 1) ∈ kX12_ends := qX12_ends_0 _ (List.mem_of_getElem? (i := 0) rfl)
theorem tX12_ends_1 : (1, a_if_lt 11 4) ∈ kX12_ends := qX12_ends_0 _ (List.mem_of_getElem? (i := 1) rfl)
theorem tX12_ends_4 : (4, a_iload 1 5) ∈ kX12_ends := qX12_ends_0 _ (List.mem_of_getElem? (i := 2) rfl)
theorem tX12_ends_5 : (5, a_i (-524225) 7) ∈ kX12_ends := qX12_ends_0 _ (List.mem_of_getElem? (i := 3) rfl)
theorem tX12_ends_7 : (7, a_ii (fun x y => x &&& y) 8) ∈ kX12_ends := qX12_ends_0 _ (List.mem_of_getElem? (i := 4) rfl)
theorem tX12_ends_8 : (8, a_if_eq 13 11) ∈ kX12_ends := qX12_ends_0 _ (List.mem_of_getElem? (i := 5) rfl)
theorem tX12_ends_11 : (11, a_i (-1) 12) ∈ kX12_ends := qX12_ends_0 _ (List.mem_of_getElem? (i := 6) rfl)
theorem tX12_ends_12 : (12, a_iret false) ∈ kX12_ends := qX12_ends_0 _ (List.mem_of_getElem? (i := 7) rfl)
theorem tX12_ends_13 : (13, a_aload 0 14) ∈ kX12_ends := qX12_ends_0 _ (List.mem_of_getElem? (i := 8) rfl)
theorem tX12_ends_14 : (14, a_getR 12 10 17) ∈ kX12_ends := qX12_ends_0 _ (List.mem_of_getElem? (i := 9) rfl)
theorem tX12_ends_17 : (17, a_i 0 18) ∈ kX12_ends := qX12_ends_0 _ (List.mem_of_getElem? (i := 10) rfl)
theorem tX12_ends_18 : (18, a_iald 19) ∈ kX12_ends := qX12_ends_0 _ (List.mem_of_getElem? (i := 11) rfl)
theorem tX12_ends_19 : (19, a_istore 2 20) ∈ kX12_ends := qX12_ends_0 _ (List.mem_of_getElem? (i := 12) rfl)
theorem tX12_ends_20 : (20, a_aload 0 21) ∈ kX12_ends := qX12_ends_0 _ (List.mem_of_getElem? (i := 13) rfl)
theorem tX12_ends_21 : (21, a_getR 12 10 24) ∈ kX12_ends := qX12_ends_0 _ (List.mem_of_getElem? (i := 14) rfl)
theorem tX12_ends_24 : (24, a_i 0 25) ∈ kX12_ends := qX12_ends_0 _ (List.mem_of_getElem? (i := 15) rfl)
theorem tX12_ends_25 : (25, a_iload 1 26) ∈ kX12_ends := qX12_ends_0 _ (List.mem_of_getElem? (i := 16) rfl)
theorem tX12_ends_26 : (26, a_iast 27) ∈ kX12_ends := qX12_ends_0 _ (List.mem_of_getElem? (i := 17) rfl)
theorem tX12_ends_27 : (27, a_iload 2 28) ∈ kX12_ends := qX12_ends_0 _ (List.mem_of_getElem? (i := 18) rfl)
theorem tX12_ends_28 : (28, a_iret false) ∈ kX12_ends := qX12_ends_0 _ (List.mem_of_getElem? (i := 19) rfl)
theorem oX12_ends : ∀ q ∈ kX12_ends, zSnd zty false RX12 cX12_ends 3 (some .int) false q := oX12_ends_0
theorem dX12_endsOf_0 : decode cX12_endsOf 0 = .ok (.aload_n 0, 1) := by decide +kernel
theorem dX12_endsOf_1 : decode cX12_endsOf 1 = .ok (.iconst 1, 1) := by decide +kernel
theorem dX12_endsOf_2 : decode cX12_endsOf 2 = .ok (.iload_n 1, 1) := by decide +kernel
theorem dX12_endsOf_3 : decode cX12_endsOf 3 = .ok (.invokevirtual 186, 3) := by decide +kernel
theorem dX12_endsOf_6 : decode cX12_endsOf 6 = .ok (.iconst 0, 1) := by decide +kernel
theorem dX12_endsOf_7 : decode cX12_endsOf 7 = .ok (.istore_n 2, 1) := by decide +kernel
theorem dX12_endsOf_8 : decode cX12_endsOf 8 = .ok (.bipush 6, 2) := by decide +kernel
theorem dX12_endsOf_10 : decode cX12_endsOf 10 = .ok (.istore_n 3, 1) := by decide +kernel
theorem dX12_endsOf_11 : decode cX12_endsOf 11 = .ok (.iload_n 3, 1) := by decide +kernel
theorem dX12_endsOf_12 : decode cX12_endsOf 12 = .ok (.bipush 19, 2) := by decide +kernel
theorem dX12_endsOf_14 : decode cX12_endsOf 14 = .ok (.if_icmp .ge 57, 3) := by decide +kernel
theorem dX12_endsOf_17 : decode cX12_endsOf 17 = .ok (.aload_n 0, 1) := by decide +kernel
theorem dX12_endsOf_18 : decode cX12_endsOf 18 = .ok (.iconst 1, 1) := by decide +kernel
theorem dX12_endsOf_19 : decode cX12_endsOf 19 = .ok (.iload_n 3, 1) := by decide +kernel
theorem dX12_endsOf_20 : decode cX12_endsOf 20 = .ok (.invokevirtual 153, 3) := by decide +kernel
theorem dX12_endsOf_23 : decode cX12_endsOf 23 = .ok (.ifCond .eq 42, 3) := by decide +kernel
theorem dX12_endsOf_26 : decode cX12_endsOf 26 = .ok (.aload_n 0, 1) := by decide +kernel
theorem dX12_endsOf_27 : decode cX12_endsOf 27 = .ok (.getfield 40, 3) := by decide +kernel
theorem dX12_endsOf_30 : decode cX12_endsOf 30 = .ok (.iconst 0, 1) := by decide +kernel
theorem dX12_endsOf_31 : decode cX12_endsOf 31 = .ok (.iaload, 1) := by decide +kernel
theorem dX12_endsOf_32 : decode cX12_endsOf 32 = .ok (.iload_n 3, 1) := by decide +kernel
theorem dX12_endsOf_33 : decode cX12_endsOf 33 = .ok (.ishr, 1) := by decide +kernel
theorem dX12_endsOf_34 : decode cX12_endsOf 34 = .ok (.iconst 1, 1) := by decide +kernel
theorem dX12_endsOf_35 : decode cX12_endsOf 35 = .ok (.iand, 1) := by decide +kernel
theorem dX12_endsOf_36 : decode cX12_endsOf 36 = .ok (.iconst 1, 1) := by decide +kernel
theorem dX12_endsOf_37 : decode cX12_endsOf 37 = .ok (.if_icmp .ne 28, 3) := by decide +kernel
theorem dX12_endsOf_40 : decode cX12_endsOf 40 = .ok (.iload_n 2, 1) := by decide +kernel
theorem dX12_endsOf_41 : decode cX12_endsOf 41 = .ok (.iload_n 3, 1) := by decide +kernel
theorem dX12_endsOf_42 : decode cX12_endsOf 42 = .ok (.bipush 14, 2) := by decide +kernel
theorem dX12_endsOf_44 : decode cX12_endsOf 44 = .ok (.if_icmp .le 12, 3) := by decide +kernel
theorem dX12_endsOf_47 : decode cX12_endsOf 47 = .ok (.aload_n 0, 1) := by decide +kernel
theorem dX12_endsOf_48 : decode cX12_endsOf 48 = .ok (.iconst 1, 1) := by decide +kernel
theorem dX12_endsOf_49 : decode cX12_endsOf 49 = .ok (.iload_n 3, 1) := by decide +kernel
theorem dX12_endsOf_50 : decode cX12_endsOf 50 = .ok (.invokevirtual 173, 3) := by decide +kernel
theorem dX12_endsOf_53 : decode cX12_endsOf 53 = .ok (.goto 8, 3) := by decide +kernel
theorem dX12_endsOf_56 : decode cX12_endsOf 56 = .ok (.aload_n 0, 1) := by decide +kernel
theorem dX12_endsOf_57 : decode cX12_endsOf 57 = .ok (.iload_n 3, 1) := by decide +kernel
theorem dX12_endsOf_58 : decode cX12_endsOf 58 = .ok (.invokevirtual 163, 3) := by decide +kernel
theorem dX12_endsOf_61 : decode cX12_endsOf 61 = .ok (.iload_n 3, 1) := by decide +kernel
theorem dX12_endsOf_62 : decode cX12_endsOf 62 = .ok (.ishl, 1) := by decide +kernel
theorem dX12_endsOf_63 : decode cX12_endsOf 63 = .ok (.ior, 1) := by decide +kernel
theorem dX12_endsOf_64 : decode cX12_endsOf 64 = .ok (.istore_n 2, 1) := by decide +kernel
theorem dX12_endsOf_65 : decode cX12_endsOf 65 = .ok (.iinc 3 1, 3) := by decide +kernel
theorem dX12_endsOf_68 : decode cX12_endsOf 68 = .ok (.goto (-57), 3) := by decide +kernel
theorem dX12_endsOf_71 : decode cX12_endsOf 71 = .ok (.iload_n 2, 1) := by decide +kernel
theorem dX12_endsOf_72 : decode cX12_endsOf 72 = .ok (.ireturn, 1) := by decide +kernel
def kX12_endsOf_0 : List (Nat × zT) := [(0, a_aload 0 1), (1, a_i 1 2), (2, a_iload 1 3), (3, a_callV 12 161 3 6 0 0), (6, a_i 0 7), (7, a_istore 2 8), (8, a_i 6 10), (10, a_istore 3 11), (11, a_iload 3 12), (12, a_i 19 14), (14, a_ic_ge 71 17), (17, a_aload 0 18), (18, a_i 1 19), (19, a_iload 3 20), (20, a_callV 12 153 3 23 0 0), (23, a_if_eq 65 26), (26, a_aload 0 27), (27, a_getR 12 10 30), (30, a_i 0 31), (31, a_iald 32), (32, a_iload 3 33), (33, a_ii (fun x y => x >>> (y &&& 31)) 34), (34, a_i 1 35), (35, a_ii (fun x y => x &&& y) 36)]
theorem oX12_endsOf_0 : ∀ q ∈ kX12_endsOf_0, zSnd zty false RX12 cX12_endsOf 4 (some .int) false q := List.forall_mem_cons.mpr ⟨ok_aload_n dX12_endsOf_0 rfl, List.forall_mem_cons.mpr ⟨ok_iconst dX12_endsOf_1 (by decide), List.forall_mem_cons.mpr ⟨ok_iload_n dX12_endsOf_2 rfl, List.forall_mem_cons.mpr ⟨ok_callV dX12_endsOf_3 rfl rfl w1194 w1191 w1193 w13 s37 (by decide +kernel) (by decide), List.forall_mem_cons.mpr ⟨ok_iconst dX12_endsOf_6 (by decide), List.forall_mem_cons.mpr ⟨ok_istore_n dX12_endsOf_7 rfl (by decide), List.forall_mem_cons.mpr ⟨ok_bipush dX12_endsOf_8 (by decide), List.forall_mem_cons.mpr ⟨ok_istore_n dX12_endsOf_10 rfl (by decide), List.forall_mem_cons.mpr ⟨ok_iload_n dX12_endsOf_11 rfl, List.forall_mem_cons.mpr ⟨ok_bipush dX12_endsOf_12 (by decide), List.forall_mem_cons.mpr ⟨ok_ic_ge dX12_endsOf_14 (by decide), List.forall_mem_cons.mpr ⟨ok_aload_n dX12_endsOf_17 rfl, List.forall_mem_cons.mpr ⟨ok_iconst dX12_endsOf_18 (by decide), List.forall_mem_cons.mpr ⟨ok_iload_n dX12_endsOf_19 rfl, List.forall_mem_cons.mpr ⟨ok_callV dX12_endsOf_20 rfl rfl w1144 w1141 w1143 w13 s30 (by decide +kernel) (by decide), List.forall_mem_cons.mpr ⟨ok_if_eq dX12_endsOf_23 (by decide), List.forall_mem_cons.mpr ⟨ok_aload_n dX12_endsOf_26 rfl, List.forall_mem_cons.mpr ⟨ok_getR dX12_endsOf_27 rfl in12 (by decide) rfl w967, List.forall_mem_cons.mpr ⟨ok_iconst dX12_endsOf_30 (by decide), List.forall_mem_cons.mpr ⟨ok_iald dX12_endsOf_31, List.forall_mem_cons.mpr ⟨ok_iload_n dX12_endsOf_32 rfl, List.forall_mem_cons.mpr ⟨ok_ishr dX12_endsOf_33, List.forall_mem_cons.mpr ⟨ok_iconst dX12_endsOf_34 (by decide), List.forall_mem_cons.mpr ⟨ok_iand dX12_endsOf_35, fun _ h => absurd h List.not_mem_nil⟩⟩⟩⟩⟩⟩⟩⟩⟩⟩⟩⟩⟩⟩⟩⟩⟩⟩⟩⟩⟩⟩⟩⟩
def kX12_endsOf_1 : List (Nat × zT) := [(36, a_i 1 37), (37, a_ic_ne 65 40), (40, a_iload 2 41), (41, a_iload 3 42), (42, a_i 14 44), (44, a_ic_le 56 47), (47, a_aload 0 48), (48, a_i 1 49), (49, a_iload 3 50), (50, a_callV 12 159 3 53 0 0), (53, a_goto 61), (56, a_aload 0 57), (57, a_iload 3 58), (58, a_callV 12 158 2 61 0 0), (61, a_iload 3 62), (62, a_ii (fun x y => x <<< (y &&& 31)) 63), (63, a_ii (fun x y => x ||| y) 64), (64, a_istore 2 65), (65, a_iinc 3 1 68), (68, a_goto 11), (71, a_iload 2 72), (72, a_iret false)]
theorem oX12_endsOf_1 : ∀ q ∈ kX12_endsOf_1, zSnd zty false RX12 cX12_endsOf 4 (some .int) false q := List.forall_mem_cons.mpr ⟨ok_iconst dX12_endsOf_36 (by decide), List.forall_mem_cons.mpr ⟨ok_ic_ne dX12_endsOf_37 (by decide), List.forall_mem_cons.mpr ⟨ok_iload_n dX12_endsOf_40 rfl, List.forall_mem_cons.mpr ⟨ok_iload_n dX12_endsOf_41 rfl, List.forall_mem_cons.mpr ⟨ok_bipush dX12_endsOf_42 (by decide), List.forall_mem_cons.mpr ⟨ok_ic_le dX12_endsOf_44 (by decide), List.forall_mem_cons.mpr ⟨ok_aload_n dX12_endsOf_47 rfl, List.forall_mem_cons.mpr ⟨ok_iconst dX12_endsOf_48 (by decide), List.forall_mem_cons.mpr ⟨ok_iload_n dX12_endsOf_49 rfl, List.forall_mem_cons.mpr ⟨ok_callV dX12_endsOf_50 rfl rfl w1168 w1165 w1167 w13 s34 (by decide +kernel) (by decide), List.forall_mem_cons.mpr ⟨ok_goto dX12_endsOf_53 (by decide), List.forall_mem_cons.mpr ⟨ok_aload_n dX12_endsOf_56 rfl, List.forall_mem_cons.mpr ⟨ok_iload_n dX12_endsOf_57 rfl, List.forall_mem_cons.mpr ⟨ok_callV dX12_endsOf_58 rfl rfl w1172 w1169 w1171 w13 s35 (by decide +kernel) (by decide), List.forall_mem_cons.mpr ⟨ok_iload_n dX12_endsOf_61 rfl, List.forall_mem_cons.mpr ⟨ok_ishl dX12_endsOf_62, List.forall_mem_cons.mpr ⟨ok_ior dX12_endsOf_63, List.forall_mem_cons.mpr ⟨ok_istore_n dX12_endsOf_64 rfl (by decide), List.forall_mem_cons.mpr ⟨ok_iinc dX12_endsOf_65 (by decide) (by decide), List.forall_mem_cons.mpr ⟨ok_goto dX12_endsOf_68 (by decide), List.forall_mem_cons.mpr ⟨ok_iload_n dX12_endsOf_71 rfl, List.forall_mem_cons.mpr ⟨ok_iret (bz := false) dX12_endsOf_72 rfl, fun _ h => absurd h List.not_mem_nil⟩⟩⟩⟩⟩⟩⟩⟩⟩⟩⟩⟩⟩⟩⟩⟩⟩⟩⟩⟩⟩⟩
def kX12_endsOf : List (Nat × zT) := kX12_endsOf_0 ++ (kX12_endsOf_1)
theorem qX12_endsOf_0 : ∀ q ∈ kX12_endsOf_0, q ∈ kX12_endsOf := fun _ h => (List.mem_append_left _ h)
theorem tX12_endsOf_0 : (0, a_aload 0 1) ∈ kX12_endsOf := qX12_endsOf_0 _ (List.mem_of_getElem? (i := 0) rfl)
theorem tX12_endsOf_1 : (1, a_i 1 2) ∈ kX12_endsOf := qX12_endsOf_0 _ (List.mem_of_getElem? (i := 1) rfl)
theorem tX12_endsOf_2 : (2, a_iload 1 3) ∈ kX12_endsOf := qX12_endsOf_0 _ (List.mem_of_getElem? (i := 2) rfl)
theorem tX12_endsOf_3 : (3, a_callV 12 161 3 6 0 0) ∈ kX12_endsOf := qX12_endsOf_0 _ (List.mem_of_getElem? (i := 3) rfl)
theorem tX12_endsOf_6 : (6, a_i 0 7) ∈ kX12_endsOf := qX12_endsOf_0 _ (List.mem_of_getElem? (i := 4) rfl)
theorem tX12_endsOf_7 : (7, a_istore 2 8) ∈ kX12_endsOf := qX12_endsOf_0 _ (List.mem_of_getElem? (i := 5) rfl)
theorem tX12_endsOf_8 : (8, a_i 6 10) ∈ kX12_endsOf := qX12_endsOf_0 _ (List.mem_of_getElem? (i := 6) rfl)
theorem tX12_endsOf_10 : (10, a_istore 3 11) ∈ kX12_endsOf := qX12_endsOf_0 _ (List.mem_of_getElem? (i := 7) rfl)
theorem tX12_endsOf_11 : (11, a_iload 3 12) ∈ kX12_endsOf := qX12_endsOf_0 _ (List.mem_of_getElem? (i := 8) rfl)
theorem tX12_endsOf_12 : (12, a_i 19 14) ∈ kX12_endsOf := qX12_endsOf_0 _ (List.mem_of_getElem? (i := 9) rfl)
theorem tX12_endsOf_14 : (14, a_ic_ge 71 17) ∈ kX12_endsOf := qX12_endsOf_0 _ (List.mem_of_getElem? (i := 10) rfl)
theorem tX12_endsOf_17 : (17, a_aload 0 18) ∈ kX12_endsOf := qX12_endsOf_0 _ (List.mem_of_getElem? (i := 11) rfl)
theorem tX12_endsOf_18 : (18, a_i 1 19) ∈ kX12_endsOf := qX12_endsOf_0 _ (List.mem_of_getElem? (i := 12) rfl)
theorem tX12_endsOf_19 : (19, a_iload 3 20) ∈ kX12_endsOf := qX12_endsOf_0 _ (List.mem_of_getElem? (i := 13) rfl)
theorem tX12_endsOf_20 : (20, a_callV 12 153 3 23 0 0) ∈ kX12_endsOf := qX12_endsOf_0 _ (List.mem_of_getElem? (i := 14) rfl)
theorem tX12_endsOf_23 : (23, a_if_eq 65 26) ∈ kX12_endsOf := qX12_endsOf_0 _ (List.mem_of_getElem? (i := 15) rfl)
theorem tX12_endsOf_26 : (26, a_aload 0 27) ∈ kX12_endsOf := qX12_endsOf_0 _ (List.mem_of_getElem? (i := 16) rfl)
theorem tX12_endsOf_27 : (27, a_getR 12 10 30) ∈ kX12_endsOf := qX12_endsOf_0 _ (List.mem_of_getElem? (i := 17) rfl)
theorem tX12_endsOf_30 : (30, a_i 0 31) ∈ kX12_endsOf := qX12_endsOf_0 _ (List.mem_of_getElem? (i := 18) rfl)
theorem tX12_endsOf_31 : (31, a_iald 32) ∈ kX12_endsOf := qX12_endsOf_0 _ (List.mem_of_getElem? (i := 19) rfl)
theorem tX12_endsOf_32 : (32, a_iload 3 33) ∈ kX12_endsOf := qX12_endsOf_0 _ (List.mem_of_getElem? (i := 20) rfl)
theorem tX12_endsOf_33 : (33, a_ii (fun x y => x >>> (y &&& 31)) 34) ∈ kX12_endsOf := qX12_endsOf_0 _ (List.mem_of_getElem? (i := 21) rfl)
theorem tX12_endsOf_34 : (34, a_i 1 35) ∈ kX12_endsOf := qX12_endsOf_0 _ (List.mem_of_getElem? (i := 22) rfl)
theorem tX12_endsOf_35 : (35, a_ii (fun x y => x &&& y) 36) ∈ kX12_endsOf := qX12_endsOf_0 _ (List.mem_of_getElem? (i := 23) rfl)
theorem qX12_endsOf_1 : ∀ q ∈ kX12_endsOf_1, q ∈ kX12_endsOf := fun _ h => (List.mem_append_right _ h)
theorem tX12_endsOf_36 : (36, a_i 1 37) ∈ kX12_endsOf := qX12_endsOf_1 _ (List.mem_of_getElem? (i := 0) rfl)
theorem tX12_endsOf_37 : (37, a_ic_ne 65 40) ∈ kX12_endsOf := qX12_endsOf_1 _ (List.mem_of_getElem? (i := 1) rfl)
theorem tX12_endsOf_40 : (40, a_iload 2 41) ∈ kX12_endsOf := qX12_endsOf_1 _ (List.mem_of_getElem? (i := 2) rfl)
theorem tX12_endsOf_41 : (41, a_iload 3 42) ∈ kX12_endsOf := qX12_endsOf_1 _ (List.mem_of_getElem? (i := 3) rfl)
theorem tX12_endsOf_42 : (42, a_i 14 44) ∈ kX12_endsOf := qX12_endsOf_1 _ (List.mem_of_getElem? (i := 4) rfl)
theorem tX12_endsOf_44 : (44, a_ic_le 56 47) ∈ kX12_endsOf := qX12_endsOf_1 _ (List.mem_of_getElem? (i := 5) rfl)
theorem tX12_endsOf_47 : (47, a_aload 0 48) ∈ kX12_endsOf := qX12_endsOf_1 _ (List.mem_of_getElem? (i := 6) rfl)
theorem tX12_endsOf_48 : (48, a_i 1 49) ∈ kX12_endsOf := qX12_endsOf_1 _ (List.mem_of_getElem? (i := 7) rfl)
theorem tX12_endsOf_49 : (49, a_iload 3 50) ∈ kX12_endsOf := qX12_endsOf_1 _ (List.mem_of_getElem? (i := 8) rfl)
theorem tX12_endsOf_50 : (50, a_callV 12 159 3 53 0 0) ∈ kX12_endsOf := qX12_endsOf_1 _ (List.mem_of_getElem? (i := 9) rfl)
theorem tX12_endsOf_53 : (53, a_goto 61) ∈ kX12_endsOf := qX12_endsOf_1 _ (List.mem_of_getElem? (i := 10) rfl)
theorem tX12_endsOf_56 : (56, a_aload 0 57) ∈ kX12_endsOf := qX12_endsOf_1 _ (List.mem_of_getElem? (i := 11) rfl)
theorem tX12_endsOf_57 : (57, a_iload 3 58) ∈ kX12_endsOf := qX12_endsOf_1 _ (List.mem_of_getElem? (i := 12) rfl)
theorem tX12_endsOf_58 : (58, a_callV 12 158 2 61 0 0) ∈ kX12_endsOf := qX12_endsOf_1 _ (List.mem_of_getElem? (i := 13) rfl)
theorem tX12_endsOf_61 : (61, a_iload 3 62) ∈ kX12_endsOf := qX12_endsOf_1 _ (List.mem_of_getElem? (i := 14) rfl)
theorem tX12_endsOf_62 : (62, a_ii (fun x y => x <<< (y &&& 31)) 63) ∈ kX12_endsOf := qX12_endsOf_1 _ (List.mem_of_getElem? (i := 15) rfl)
theorem tX12_endsOf_63 : (63, a_ii (fun x y => x ||| y) 64) ∈ kX12_endsOf := qX12_endsOf_1 _ (List.mem_of_getElem? (i := 16) rfl)
theorem tX12_endsOf_64 : (64, a_istore 2 65) ∈ kX12_endsOf := qX12_endsOf_1 _ (List.mem_of_getElem? (i := 17) rfl)
theorem tX12_endsOf_65 : (65, a_iinc 3 1 68) ∈ kX12_endsOf := qX12_endsOf_1 _ (List.mem_of_getElem? (i := 18) rfl)
theorem tX12_endsOf_68 : (68, a_goto 11) ∈ kX12_endsOf := qX12_endsOf_1 _ (List.mem_of_getElem? (i := 19) rfl)
theorem tX12_endsOf_71 : (71, a_iload 2 72) ∈ kX12_endsOf := qX12_endsOf_1 _ (List.mem_of_getElem? (i := 20) rfl)
theorem tX12_endsOf_72 : (72, a_iret false) ∈ kX12_endsOf := qX12_endsOf_1 _ (List.mem_of_getElem? (i := 21) rfl)
theorem oX12_endsOf : ∀ q ∈ kX12_endsOf, zSnd zty false RX12 cX12_endsOf 4 (some .int) false q := List.forall_mem_append.mpr ⟨oX12_endsOf_0, oX12_endsOf_1⟩
theorem dX12_failsOf_0 : decode cX12_failsOf 0 = .ok (.aload_n 0, 1) := by decide +kernel
theorem dX12_failsOf_1 : decode cX12_failsOf 1 = .ok (.iload_n 2, 1) := by decide +kernel
theorem dX12_failsOf_2 : decode cX12_failsOf 2 = .ok (.invokevirtual 240, 3) := by decide +kernel
theorem dX12_failsOf_5 : decode cX12_failsOf 5 = .ok (.istore_n 3, 1) := by decide +kernel
theorem dX12_failsOf_6 : decode cX12_failsOf 6 = .ok (.aload_n 0, 1) := by decide +kernel
theorem dX12_failsOf_7 : decode cX12_failsOf 7 = .ok (.iload_n 1, 1) := by decide +kernel
theorem dX12_failsOf_8 : decode cX12_failsOf 8 = .ok (.iconst 2, 1) := by decide +kernel
theorem dX12_failsOf_9 : decode cX12_failsOf 9 = .ok (.idiv, 1) := by decide +kernel
theorem dX12_failsOf_10 : decode cX12_failsOf 10 = .ok (.putfield 58, 3) := by decide +kernel
theorem dX12_failsOf_13 : decode cX12_failsOf 13 = .ok (.aload_n 0, 1) := by decide +kernel
theorem dX12_failsOf_14 : decode cX12_failsOf 14 = .ok (.iload_n 1, 1) := by decide +kernel
theorem dX12_failsOf_15 : decode cX12_failsOf 15 = .ok (.iconst 2, 1) := by decide +kernel
theorem dX12_failsOf_16 : decode cX12_failsOf 16 = .ok (.irem, 1) := by decide +kernel
theorem dX12_failsOf_17 : decode cX12_failsOf 17 = .ok (.putfield 160, 3) := by decide +kernel
theorem dX12_failsOf_20 : decode cX12_failsOf 20 = .ok (.aload_n 0, 1) := by decide +kernel
theorem dX12_failsOf_21 : decode cX12_failsOf 21 = .ok (.iload_n 2, 1) := by decide +kernel
theorem dX12_failsOf_22 : decode cX12_failsOf 22 = .ok (.invokevirtual 240, 3) := by decide +kernel
theorem dX12_failsOf_25 : decode cX12_failsOf 25 = .ok (.istore 4, 2) := by decide +kernel
theorem dX12_failsOf_27 : decode cX12_failsOf 27 = .ok (.aload_n 0, 1) := by decide +kernel
theorem dX12_failsOf_28 : decode cX12_failsOf 28 = .ok (.bipush (-4), 2) := by decide +kernel
theorem dX12_failsOf_30 : decode cX12_failsOf 30 = .ok (.putfield 58, 3) := by decide +kernel
theorem dX12_failsOf_33 : decode cX12_failsOf 33 = .ok (.iload_n 3, 1) := by decide +kernel
theorem dX12_failsOf_34 : decode cX12_failsOf 34 = .ok (.iload 4, 2) := by decide +kernel
theorem dX12_failsOf_36 : decode cX12_failsOf 36 = .ok (.ixor, 1) := by decide +kernel
theorem dX12_failsOf_37 : decode cX12_failsOf 37 = .ok (.ireturn, 1) := by decide +kernel
def kX12_failsOf_0 : List (Nat × zT) := [(0, a_aload 0 1), (1, a_iload 2 2), (2, a_callV 12 198 2 5 0 0), (5, a_istore 3 6), (6, a_aload 0 7), (7, a_iload 1 8), (8, a_i 2 9), (9, a_div (fun x y => x / y) 10), (10, a_putI 12 18 13 false), (13, a_aload 0 14), (14, a_iload 1 15), (15, a_i 2 16), (16, a_div (fun x y => x - x / y * y) 17), (17, a_putI 12 19 20 false), (20, a_aload 0 21), (21, a_iload 2 22), (22, a_callV 12 198 2 25 0 0), (25, a_istore 4 27), (27, a_aload 0 28), (28, a_i (-4) 30), (30, a_putI 12 18 33 false), (33, a_iload 3 34), (34, a_iload 4 36), (36, a_ii (fun x y => x ^^^ y) 37)]
theorem oX12_failsOf_0 : ∀ q ∈ kX12_failsOf_0, zSnd zty false RX12 cX12_failsOf 5 (some .int) false q := List.forall_mem_cons.mpr ⟨ok_aload_n dX12_failsOf_0 rfl, List.forall_mem_cons.mpr ⟨ok_iload_n dX12_failsOf_1 rfl, List.forall_mem_cons.mpr ⟨ok_callV dX12_failsOf_2 rfl rfl w1327 w1324 w1326 w13 s50 (by decide +kernel) (by decide), List.forall_mem_cons.mpr ⟨ok_istore_n dX12_failsOf_5 rfl (by decide), List.forall_mem_cons.mpr ⟨ok_aload_n dX12_failsOf_6 rfl, List.forall_mem_cons.mpr ⟨ok_iload_n dX12_failsOf_7 rfl, List.forall_mem_cons.mpr ⟨ok_iconst dX12_failsOf_8 (by decide), List.forall_mem_cons.mpr ⟨ok_idiv dX12_failsOf_9, List.forall_mem_cons.mpr ⟨ok_putI (bz := false) dX12_failsOf_10 rfl in12 tyX12 tyX12_ok nmX12 (by decide) rfl w975 rfl rfl, List.forall_mem_cons.mpr ⟨ok_aload_n dX12_failsOf_13 rfl, List.forall_mem_cons.mpr ⟨ok_iload_n dX12_failsOf_14 rfl, List.forall_mem_cons.mpr ⟨ok_iconst dX12_failsOf_15 (by decide), List.forall_mem_cons.mpr ⟨ok_irem dX12_failsOf_16, List.forall_mem_cons.mpr ⟨ok_putI (bz := false) dX12_failsOf_17 rfl in12 tyX12 tyX12_ok nmX12 (by decide) rfl w976 rfl rfl, List.forall_mem_cons.mpr ⟨ok_aload_n dX12_failsOf_20 rfl, List.forall_mem_cons.mpr ⟨ok_iload_n dX12_failsOf_21 rfl, List.forall_mem_cons.mpr ⟨ok_callV dX12_failsOf_22 rfl rfl w1327 w1324 w1326 w13 s50 (by decide +kernel) (by decide), List.forall_mem_cons.mpr ⟨ok_istore dX12_failsOf_25 (by decide), List.forall_mem_cons.mpr ⟨ok_aload_n dX12_failsOf_27 rfl, List.forall_mem_cons.mpr ⟨ok_bipush dX12_failsOf_28 (by decide), List.forall_mem_cons.mpr ⟨ok_putI (bz := false) dX12_failsOf_30 rfl in12 tyX12 tyX12_ok nmX12 (by decide) rfl w975 rfl rfl, List.forall_mem_cons.mpr ⟨ok_iload_n dX12_failsOf_33 rfl, List.forall_mem_cons.mpr ⟨ok_iload dX12_failsOf_34, List.forall_mem_cons.mpr ⟨ok_ixor dX12_failsOf_36, fun _ h => absurd h List.not_mem_nil⟩⟩⟩⟩⟩⟩⟩⟩⟩⟩⟩⟩⟩⟩⟩⟩⟩⟩⟩⟩⟩⟩⟩⟩
def kX12_failsOf_1 : List (Nat × zT) := [(37, a_iret false)]
theorem oX12_failsOf_1 : ∀ q ∈ kX12_failsOf_1, zSnd zty false RX12 cX12_failsOf 5 (some .int) false q := List.forall_mem_cons.mpr ⟨ok_iret (bz := false) dX12_failsOf_37 rfl, fun _ h => absurd h List.not_mem_nil⟩
def kX12_failsOf : List (Nat × zT) := kX12_failsOf_0 ++ (kX12_failsOf_1)
theorem qX12_failsOf_0 : ∀ q ∈ kX12_failsOf_0, q ∈ kX12_failsOf := fun _ h => (List.mem_append_left _ h)
theorem tX12_failsOf_0 : (0, a_aload 0 1) ∈ kX12_failsOf := qX12_failsOf_0 _ (List.mem_of_getElem? (i := 0) rfl)
theorem tX12_failsOf_1 : (1, a_iload 2 2) ∈ kX12_failsOf := qX12_failsOf_0 _ (List.mem_of_getElem? (i := 1) rfl)
theorem tX12_failsOf_2 : (2, a_callV 12 198 2 5 0 0) ∈ kX12_failsOf := qX12_failsOf_0 _ (List.mem_of_getElem? (i := 2) rfl)
theorem tX12_failsOf_5 : (5, a_istore 3 6) ∈ kX12_failsOf := qX12_failsOf_0 _ (List.mem_of_getElem? (i := 3) rfl)
theorem tX12_failsOf_6 : (6, a_aload 0 7) ∈ kX12_failsOf := qX12_failsOf_0 _ (List.mem_of_getElem? (i := 4) rfl)
theorem tX12_failsOf_7 : (7, a_iload 1 8) ∈ kX12_failsOf := qX12_failsOf_0 _ (List.mem_of_getElem? (i := 5) rfl)
theorem tX12_failsOf_8 : (8, a_i 2 9) ∈ kX12_failsOf := qX12_failsOf_0 _ (List.mem_of_getElem? (i := 6) rfl)
theorem tX12_failsOf_9 : (9, a_div (fun x y => x / y) 10) ∈ kX12_failsOf := qX12_failsOf_0 _ (List.mem_of_getElem? (i := 7) rfl)
theorem tX12_failsOf_10 : (10, a_putI 12 18 13 false) ∈ kX12_failsOf := qX12_failsOf_0 _ (List.mem_of_getElem? (i := 8) rfl)
theorem tX12_failsOf_13 : (13, a_aload 0 14) ∈ kX12_failsOf := qX12_failsOf_0 _ (List.mem_of_getElem? (i := 9) rfl)
theorem tX12_failsOf_14 : (14, a_iload 1 15) ∈ kX12_failsOf := qX12_failsOf_0 _ (List.mem_of_getElem? (i := 10) rfl)
theorem tX12_failsOf_15 : (15, a_i 2 16) ∈ kX12_failsOf := qX12_failsOf_0 _ (List.mem_of_getElem? (i := 11) rfl)
theorem tX12_failsOf_16 : (16, a_div (fun x y => x - x / y * y) 17) ∈ kX12_failsOf := qX12_failsOf_0 _ (List.mem_of_getElem? (i := 12) rfl)
theorem tX12_failsOf_17 : (17, a_putI 12 19 20 false) ∈ kX12_failsOf := qX12_failsOf_0 _ (List.mem_of_getElem? (i := 13) rfl)
theorem tX12_failsOf_20 : (20, a_aload 0 21) ∈ kX12_failsOf := qX12_failsOf_0 _ (List.mem_of_getElem? (i := 14) rfl)
theorem tX12_failsOf_21 : (21, a_iload 2 22) ∈ kX12_failsOf := qX12_failsOf_0 _ (List.mem_of_getElem? (i := 15) rfl)
theorem tX12_failsOf_22 : (22, a_callV 12 198 2 25 0 0) ∈ kX12_failsOf := qX12_failsOf_0 _ (List.mem_of_getElem? (i := 16) rfl)
theorem tX12_failsOf_25 : (25, a_istore 4 27) ∈ kX12_failsOf := qX12_failsOf_0 _ (List.mem_of_getElem? (i := 17) rfl)
theorem tX12_failsOf_27 : (27, a_aload 0 28) ∈ kX12_failsOf := qX12_failsOf_0 _ (List.mem_of_getElem? (i := 18) rfl)
theorem tX12_failsOf_28 : (28, a_i (-4) 30) ∈ kX12_failsOf := qX12_failsOf_0 _ (List.mem_of_getElem? (i := 19) rfl)
theorem tX12_failsOf_30 : (30, a_putI 12 18 33 false) ∈ kX12_failsOf := qX12_failsOf_0 _ (List.mem_of_getElem? (i := 20) rfl)
theorem tX12_failsOf_33 : (33, a_iload 3 34) ∈ kX12_failsOf := qX12_failsOf_0 _ (List.mem_of_getElem? (i := 21) rfl)
theorem tX12_failsOf_34 : (34, a_iload 4 36) ∈ kX12_failsOf := qX12_failsOf_0 _ (List.mem_of_getElem? (i := 22) rfl)
theorem tX12_failsOf_36 : (36, a_ii (fun x y => x ^^^ y) 37) ∈ kX12_failsOf := qX12_failsOf_0 _ (List.mem_of_getElem? (i := 23) rfl)
theorem qX12_failsOf_1 : ∀ q ∈ kX12_failsOf_1, q ∈ kX12_failsOf := fun _ h => (List.mem_append_right _ h)
theorem tX12_failsOf_37 : (37, a_iret false) ∈ kX12_failsOf := qX12_failsOf_1 _ (List.mem_of_getElem? (i := 0) rfl)
theorem oX12_failsOf : ∀ q ∈ kX12_failsOf, zSnd zty false RX12 cX12_failsOf 5 (some .int) false q := List.forall_mem_append.mpr ⟨oX12_failsOf_0, oX12_failsOf_1⟩
theorem dX12_fails_0 : decode cX12_fails 0 = .ok (.iload_n 1, 1) := by decide +kernel
theorem dX12_fails_1 : decode cX12_fails 1 = .ok (.iconst 0, 1) := by decide +kernel
theorem dX12_fails_2 : decode cX12_fails 2 = .ok (.bipush 37, 2) := by decide +kernel
theorem dX12_fails_4 : decode cX12_fails 4 = .ok (.invokestatic 112, 3) := by decide +kernel
theorem dX12_fails_7 : decode cX12_fails 7 = .ok (.ifCond .eq 23, 3) := by decide +kernel
theorem dX12_fails_10 : decode cX12_fails 10 = .ok (.iload_n 2, 1) := by decide +kernel
theorem dX12_fails_11 : decode cX12_fails 11 = .ok (.iconst 0, 1) := by decide +kernel
theorem dX12_fails_12 : decode cX12_fails 12 = .ok (.sipush 1023, 3) := by decide +kernel
theorem dX12_fails_15 : decode cX12_fails 15 = .ok (.invokestatic 112, 3) := by decide +kernel
theorem dX12_fails_18 : decode cX12_fails 18 = .ok (.ifCond .eq 12, 3) := by decide +kernel
theorem dX12_fails_21 : decode cX12_fails 21 = .ok (.aload_n 0, 1) := by decide +kernel
theorem dX12_fails_22 : decode cX12_fails 22 = .ok (.iload_n 1, 1) := by decide +kernel
theorem dX12_fails_23 : decode cX12_fails 23 = .ok (.iload_n 2, 1) := by decide +kernel
theorem dX12_fails_24 : decode cX12_fails 24 = .ok (.invokevirtual 243, 3) := by decide +kernel
theorem dX12_fails_27 : decode cX12_fails 27 = .ok (.goto 4, 3) := by decide +kernel
theorem dX12_fails_30 : decode cX12_fails 30 = .ok (.iconst (-1), 1) := by decide +kernel
theorem dX12_fails_31 : decode cX12_fails 31 = .ok (.ireturn, 1) := by decide +kernel
def kX12_fails_0 : List (Nat × zT) := [(0, a_iload 1 1), (1, a_i 0 2), (2, a_i 37 4), (4, a_call 138 3 7 0 0), (7, a_if_eq 30 10), (10, a_iload 2 11), (11, a_i 0 12), (12, a_i 1023 15), (15, a_call 138 3 18 0 0), (18, a_if_eq 30 21), (21, a_aload 0 22), (22, a_iload 1 23), (23, a_iload 2 24), (24, a_callV 12 199 3 27 0 0), (27, a_goto 31), (30, a_i (-1) 31), (31, a_iret false)]
theorem oX12_fails_0 : ∀ q ∈ kX12_fails_0, zSnd zty false RX12 cX12_fails 3 (some .int) false q := List.forall_mem_cons.mpr ⟨ok_iload_n dX12_fails_0 rfl, List.forall_mem_cons.mpr ⟨ok_iconst dX12_fails_1 (by decide), List.forall_mem_cons.mpr ⟨ok_bipush dX12_fails_2 (by decide), List.forall_mem_cons.mpr ⟨ok_callS dX12_fails_4 rfl w1084 w1082 w1083 w13 (by decide +kernel) (by decide), List.forall_mem_cons.mpr ⟨ok_if_eq dX12_fails_7 (by decide), List.forall_mem_cons.mpr ⟨ok_iload_n dX12_fails_10 rfl, List.forall_mem_cons.mpr ⟨ok_iconst dX12_fails_11 (by decide), List.forall_mem_cons.mpr ⟨ok_sipush dX12_fails_12 (by decide), List.forall_mem_cons.mpr ⟨ok_callS dX12_fails_15 rfl w1084 w1082 w1083 w13 (by decide +kernel) (by decide), List.forall_mem_cons.mpr ⟨ok_if_eq dX12_fails_18 (by decide), List.forall_mem_cons.mpr ⟨ok_aload_n dX12_fails_21 rfl, List.forall_mem_cons.mpr ⟨ok_iload_n dX12_fails_22 rfl, List.forall_mem_cons.mpr ⟨ok_iload_n dX12_fails_23 rfl, List.forall_mem_cons.mpr ⟨ok_callV dX12_fails_24 rfl rfl w1323 w1320 w1322 w13 s49 (by decide +kernel) (by decide), List.forall_mem_cons.mpr ⟨ok_goto dX12_fails_27 (by decide), List.forall_mem_cons.mpr ⟨ok_iconst dX12_fails_30 (by decide), List.forall_mem_cons.mpr ⟨ok_iret (bz := false) dX12_fails_31 rfl, fun _ h => absurd h List.not_mem_nil⟩⟩⟩⟩⟩⟩⟩⟩⟩⟩⟩⟩⟩⟩⟩⟩⟩
def kX12_fails : List (Nat × zT) := kX12_fails_0
theorem qX12_fails_0 : ∀ q ∈ kX12_fails_0, q ∈ kX12_fails := fun _ h => h
theorem tX12_fails_0 : (0, a_iload 1 1) ∈ kX12_fails := qX12_fails_0 _ (List.mem_of_getElem? (i := 0) rfl)
theorem tX12_fails_1 : (1, a_i 0 2) ∈ kX12_fails := qX12_fails_0 _ (List.mem_of_getElem? (i := 1) rfl)
theorem tX12_fails_2 : (2, a_i 37 4) ∈ kX12_fails := qX12_fails_0 _ (List.mem_of_getElem? (i := 2) rfl)
theorem tX12_fails_4 : (4, a_call 138 3 7 0 0) ∈ kX12_fails := qX12_fails_0 _ (List.mem_of_getElem? (i := 3) rfl)
theorem tX12_fails_7 : (7, a_if_eq 30 10) ∈ kX12_fails := qX12_fails_0 _ (List.mem_of_getElem? (i := 4) rfl)
theorem tX12_fails_10 : (10, a_iload 2 11) ∈ kX12_fails := qX12_fails_0 _ (List.mem_of_getElem? (i := 5) rfl)
theorem tX12_fails_11 : (11, a_i 0 12) ∈ kX12_fails := qX12_fails_0 _ (List.mem_of_getElem? (i := 6) rfl)
theorem tX12_fails_12 : (12, a_i 1023 15) ∈ kX12_fails := qX12_fails_0 _ (List.mem_of_getElem? (i := 7) rfl)
theorem tX12_fails_15 : (15, a_call 138 3 18 0 0) ∈ kX12_fails := qX12_fails_0 _ (List.mem_of_getElem? (i := 8) rfl)
theorem tX12_fails_18 : (18, a_if_eq 30 21) ∈ kX12_fails := qX12_fails_0 _ (List.mem_of_getElem? (i := 9) rfl)
theorem tX12_fails_21 : (21, a_aload 0 22) ∈ kX12_fails := qX12_fails_0 _ (List.mem_of_getElem? (i := 10) rfl)
theorem tX12_fails_22 : (22, a_iload 1 23) ∈ kX12_fails := qX12_fails_0 _ (List.mem_of_getElem? (i := 11) rfl)
theorem tX12_fails_23 : (23, a_iload 2 24) ∈ kX12_fails := qX12_fails_0 _ (List.mem_of_getElem? (i := 12) rfl)
theorem tX12_fails_24 : (24, a_callV 12 199 3 27 0 0) ∈ kX12_fails := qX12_fails_0 _ (List.mem_of_getElem? (i := 13) rfl)
theorem tX12_fails_27 : (27, a_goto 31) ∈ kX12_fails := qX12_fails_0 _ (List.mem_of_getElem? (i := 14) rfl)
theorem tX12_fails_30 : (30, a_i (-1) 31) ∈ kX12_fails := qX12_fails_0 _ (List.mem_of_getElem? (i := 15) rfl)
theorem tX12_fails_31 : (31, a_iret false) ∈ kX12_fails := qX12_fails_0 _ (List.mem_of_getElem? (i := 16) rfl)
theorem oX12_fails : ∀ q ∈ kX12_fails, zSnd zty false RX12 cX12_fails 3 (some .int) false q := oX12_fails_0
theorem dX12_finds_0 : decode cX12_finds 0 = .ok (.iload_n 1, 1) := by decide +kernel
theorem dX12_finds_1 : decode cX12_finds 1 = .ok (.iconst 0, 1) := by decide +kernel
theorem dX12_finds_2 : decode cX12_finds 2 = .ok (.bipush 37, 2) := by decide +kernel
theorem dX12_finds_4 : decode cX12_finds 4 = .ok (.invokestatic 112, 3) := by decide +kernel
theorem dX12_finds_7 : decode cX12_finds 7 = .ok (.ifCond .ne 5, 3) := by decide +kernel
theorem dX12_finds_10 : decode cX12_finds 10 = .ok (.iconst (-1), 1) := by decide +kernel
theorem dX12_finds_11 : decode cX12_finds 11 = .ok (.ireturn, 1) := by decide +kernel
theorem dX12_finds_12 : decode cX12_finds 12 = .ok (.iconst 0, 1) := by decide +kernel
theorem dX12_finds_13 : decode cX12_finds 13 = .ok (.istore_n 2, 1) := by decide +kernel
theorem dX12_finds_14 : decode cX12_finds 14 = .ok (.iload_n 2, 1) := by decide +kernel
theorem dX12_finds_15 : decode cX12_finds 15 = .ok (.sipush 1024, 3) := by decide +kernel
theorem dX12_finds_18 : decode cX12_finds 18 = .ok (.if_icmp .ge 20, 3) := by decide +kernel
theorem dX12_finds_21 : decode cX12_finds 21 = .ok (.aload_n 0, 1) := by decide +kernel
theorem dX12_finds_22 : decode cX12_finds 22 = .ok (.iload_n 1, 1) := by decide +kernel
theorem dX12_finds_23 : decode cX12_finds 23 = .ok (.iload_n 2, 1) := by decide +kernel
theorem dX12_finds_24 : decode cX12_finds 24 = .ok (.invokevirtual 243, 3) := by decide +kernel
theorem dX12_finds_27 : decode cX12_finds 27 = .ok (.ifCond .eq 5, 3) := by decide +kernel
theorem dX12_finds_30 : decode cX12_finds 30 = .ok (.iload_n 2, 1) := by decide +kernel
theorem dX12_finds_31 : decode cX12_finds 31 = .ok (.ireturn, 1) := by decide +kernel
theorem dX12_finds_32 : decode cX12_finds 32 = .ok (.iinc 2 1, 3) := by decide +kernel
theorem dX12_finds_35 : decode cX12_finds 35 = .ok (.goto (-21), 3) := by decide +kernel
theorem dX12_finds_38 : decode cX12_finds 38 = .ok (.bipush (-4), 2) := by decide +kernel
theorem dX12_finds_40 : decode cX12_finds 40 = .ok (.ireturn, 1) := by decide +kernel
def kX12_finds_0 : List (Nat × zT) := [(0, a_iload 1 1), (1, a_i 0 2), (2, a_i 37 4), (4, a_call 138 3 7 0 0), (7, a_if_ne 12 10), (10, a_i (-1) 11), (11, a_iret false), (12, a_i 0 13), (13, a_istore 2 14), (14, a_iload 2 15), (15, a_i 1024 18), (18, a_ic_ge 38 21), (21, a_aload 0 22), (22, a_iload 1 23), (23, a_iload 2 24), (24, a_callV 12 199 3 27 0 0), (27, a_if_eq 32 30), (30, a_iload 2 31), (31, a_iret false), (32, a_iinc 2 1 35), (35, a_goto 14), (38, a_i (-4) 40), (40, a_iret false)]
theorem oX12_finds_0 : ∀ q ∈ kX12_finds_0, zSnd zty false RX12 cX12_finds 3 (some .int) false q := List.forall_mem_cons.mpr ⟨ok_iload_n dX12_finds_0 rfl, List.forall_mem_cons.mpr ⟨ok_iconst dX12_finds_1 (by decide), List.forall_mem_cons.mpr ⟨ok_bipush dX12_finds_2 (by decide), List.forall_mem_cons.mpr ⟨ok_callS dX12_finds_4 rfl w1084 w1082 w1083 w13 (by decide +kernel) (by decide), List.forall_mem_cons.mpr ⟨ok_if_ne dX12_finds_7 (by decide), List.forall_mem_cons.mpr ⟨ok_iconst dX12_finds_10 (by decide), List.forall_mem_cons.mpr ⟨ok_iret (bz := false) dX12_finds_11 rfl, List.forall_mem_cons.mpr ⟨ok_iconst dX12_finds_12 (by decide), List.forall_mem_cons.mpr ⟨ok_istore_n dX12_finds_13 rfl (by decide), List.forall_mem_cons.mpr ⟨ok_iload_n dX12_finds_14 rfl, List.forall_mem_cons.mpr ⟨ok_sipush dX12_finds_15 (by decide), List.forall_mem_cons.mpr ⟨ok_ic_ge dX12_finds_18 (by decide), List.forall_mem_cons.mpr ⟨ok_aload_n dX12_finds_21 rfl, List.forall_mem_cons.mpr ⟨ok_iload_n dX12_finds_22 rfl, List.forall_mem_cons.mpr ⟨ok_iload_n dX12_finds_23 rfl, List.forall_mem_cons.mpr ⟨ok_callV dX12_finds_24 rfl rfl w1323 w1320 w1322 w13 s49 (by decide +kernel) (by decide), List.forall_mem_cons.mpr ⟨ok_if_eq dX12_finds_27 (by decide), List.forall_mem_cons.mpr ⟨ok_iload_n dX12_finds_30 rfl, List.forall_mem_cons.mpr ⟨ok_iret (bz := false) dX12_finds_31 rfl, List.forall_mem_cons.mpr ⟨ok_iinc dX12_finds_32 (by decide) (by decide), List.forall_mem_cons.mpr ⟨ok_goto dX12_finds_35 (by decide), List.forall_mem_cons.mpr ⟨ok_bipush dX12_finds_38 (by decide), List.forall_mem_cons.mpr ⟨ok_iret (bz := false) dX12_finds_40 rfl, fun _ h => absurd h List.not_mem_nil⟩⟩⟩⟩⟩⟩⟩⟩⟩⟩⟩⟩⟩⟩⟩⟩⟩⟩⟩⟩⟩⟩⟩
def kX12_finds : List (Nat × zT) := kX12_finds_0
theorem qX12_finds_0 : ∀ q ∈ kX12_finds_0, q ∈ kX12_finds := fun _ h => h
theorem tX12_finds_0 : (0, a_iload 1 1) ∈ kX12_finds := qX12_finds_0 _ (List.mem_of_getElem? (i := 0) rfl)
theorem tX12_finds_1 : (1, a_i 0 2) ∈ kX12_finds := qX12_finds_0 _ (List.mem_of_getElem? (i := 1) rfl)
theorem tX12_finds_2 : (2, a_i 37 4) ∈ kX12_finds := qX12_finds_0 _ (List.mem_of_getElem? (i := 2) rfl)
theorem tX12_finds_4 : (4, a_call 138 3 7 0 0) ∈ kX12_finds := qX12_finds_0 _ (List.mem_of_getElem? (i := 3) rfl)
theorem tX12_finds_7 : (7, a_if_ne 12 10) ∈ kX12_finds := qX12_finds_0 _ (List.mem_of_getElem? (i := 4) rfl)
theorem tX12_finds_10 : (10, a_i (-1) 11) ∈ kX12_finds := qX12_finds_0 _ (List.mem_of_getElem? (i := 5) rfl)
theorem tX12_finds_11 : (11, a_iret false) ∈ kX12_finds := qX12_finds_0 _ (List.mem_of_getElem? (i := 6) rfl)
theorem tX12_finds_12 : (12, a_i 0 13) ∈ kX12_finds := qX12_finds_0 _ (List.mem_of_getElem? (i := 7) rfl)
theorem tX12_finds_13 : (13, a_istore 2 14) ∈ kX12_finds := qX12_finds_0 _ (List.mem_of_getElem? (i := 8) rfl)
theorem tX12_finds_14 : (14, a_iload 2 15) ∈ kX12_finds := qX12_finds_0 _ (List.mem_of_getElem? (i := 9) rfl)
theorem tX12_finds_15 : (15, a_i 1024 18) ∈ kX12_finds := qX12_finds_0 _ (List.mem_of_getElem? (i := 10) rfl)
theorem tX12_finds_18 : (18, a_ic_ge 38 21) ∈ kX12_finds := qX12_finds_0 _ (List.mem_of_getElem? (i := 11) rfl)
theorem tX12_finds_21 : (21, a_aload 0 22) ∈ kX12_finds := qX12_finds_0 _ (List.mem_of_getElem? (i := 12) rfl)
theorem tX12_finds_22 : (22, a_iload 1 23) ∈ kX12_finds := qX12_finds_0 _ (List.mem_of_getElem? (i := 13) rfl)
theorem tX12_finds_23 : (23, a_iload 2 24) ∈ kX12_finds := qX12_finds_0 _ (List.mem_of_getElem? (i := 14) rfl)
theorem tX12_finds_24 : (24, a_callV 12 199 3 27 0 0) ∈ kX12_finds := qX12_finds_0 _ (List.mem_of_getElem? (i := 15) rfl)
theorem tX12_finds_27 : (27, a_if_eq 32 30) ∈ kX12_finds := qX12_finds_0 _ (List.mem_of_getElem? (i := 16) rfl)
theorem tX12_finds_30 : (30, a_iload 2 31) ∈ kX12_finds := qX12_finds_0 _ (List.mem_of_getElem? (i := 17) rfl)
theorem tX12_finds_31 : (31, a_iret false) ∈ kX12_finds := qX12_finds_0 _ (List.mem_of_getElem? (i := 18) rfl)
theorem tX12_finds_32 : (32, a_iinc 2 1 35) ∈ kX12_finds := qX12_finds_0 _ (List.mem_of_getElem? (i := 19) rfl)
theorem tX12_finds_35 : (35, a_goto 14) ∈ kX12_finds := qX12_finds_0 _ (List.mem_of_getElem? (i := 20) rfl)
theorem tX12_finds_38 : (38, a_i (-4) 40) ∈ kX12_finds := qX12_finds_0 _ (List.mem_of_getElem? (i := 21) rfl)
theorem tX12_finds_40 : (40, a_iret false) ∈ kX12_finds := qX12_finds_0 _ (List.mem_of_getElem? (i := 22) rfl)
theorem oX12_finds : ∀ q ∈ kX12_finds, zSnd zty false RX12 cX12_finds 3 (some .int) false q := oX12_finds_0
theorem dX12_trial_0 : decode cX12_trial 0 = .ok (.iload_n 1, 1) := by decide +kernel
theorem dX12_trial_1 : decode cX12_trial 1 = .ok (.iconst 0, 1) := by decide +kernel
theorem dX12_trial_2 : decode cX12_trial 2 = .ok (.sipush 1023, 3) := by decide +kernel
theorem dX12_trial_5 : decode cX12_trial 5 = .ok (.invokestatic 112, 3) := by decide +kernel
theorem dX12_trial_8 : decode cX12_trial 8 = .ok (.ifCond .ne 5, 3) := by decide +kernel
theorem dX12_trial_11 : decode cX12_trial 11 = .ok (.iconst (-1), 1) := by decide +kernel
theorem dX12_trial_12 : decode cX12_trial 12 = .ok (.ireturn, 1) := by decide +kernel
theorem dX12_trial_13 : decode cX12_trial 13 = .ok (.aload_n 0, 1) := by decide +kernel
theorem dX12_trial_14 : decode cX12_trial 14 = .ok (.getfield 246, 3) := by decide +kernel
theorem dX12_trial_17 : decode cX12_trial 17 = .ok (.bipush 10, 2) := by decide +kernel
theorem dX12_trial_19 : decode cX12_trial 19 = .ok (.if_icmp .ne 6, 3) := by decide +kernel
theorem dX12_trial_22 : decode cX12_trial 22 = .ok (.bipush (-3), 2) := by decide +kernel
theorem dX12_trial_24 : decode cX12_trial 24 = .ok (.ireturn, 1) := by decide +kernel
theorem dX12_trial_25 : decode cX12_trial 25 = .ok (.aload_n 0, 1) := by decide +kernel
theorem dX12_trial_26 : decode cX12_trial 26 = .ok (.getfield 95, 3) := by decide +kernel
theorem dX12_trial_29 : decode cX12_trial 29 = .ok (.aload_n 0, 1) := by decide +kernel
theorem dX12_trial_30 : decode cX12_trial 30 = .ok (.getfield 246, 3) := by decide +kernel
theorem dX12_trial_33 : decode cX12_trial 33 = .ok (.iload_n 1, 1) := by decide +kernel
theorem dX12_trial_34 : decode cX12_trial 34 = .ok (.iastore, 1) := by decide +kernel
theorem dX12_trial_35 : decode cX12_trial 35 = .ok (.aload_n 0, 1) := by decide +kernel
theorem dX12_trial_36 : decode cX12_trial 36 = .ok (.getfield 98, 3) := by decide +kernel
theorem dX12_trial_39 : decode cX12_trial 39 = .ok (.aload_n 0, 1) := by decide +kernel
theorem dX12_trial_40 : decode cX12_trial 40 = .ok (.getfield 246, 3) := by decide +kernel
theorem dX12_trial_43 : decode cX12_trial 43 = .ok (.iconst (-1), 1) := by decide +kernel
theorem dX12_trial_44 : decode cX12_trial 44 = .ok (.iastore, 1) := by decide +kernel
theorem dX12_trial_45 : decode cX12_trial 45 = .ok (.aload_n 0, 1) := by decide +kernel
theorem dX12_trial_46 : decode cX12_trial 46 = .ok (.dup, 1) := by decide +kernel
theorem dX12_trial_47 : decode cX12_trial 47 = .ok (.getfield 246, 3) := by decide +kernel
theorem dX12_trial_50 : decode cX12_trial 50 = .ok (.iconst 1, 1) := by decide +kernel
theorem dX12_trial_51 : decode cX12_trial 51 = .ok (.iadd, 1) := by decide +kernel
theorem dX12_trial_52 : decode cX12_trial 52 = .ok (.putfield 246, 3) := by decide +kernel
theorem dX12_trial_55 : decode cX12_trial 55 = .ok (.aload_n 0, 1) := by decide +kernel
theorem dX12_trial_56 : decode cX12_trial 56 = .ok (.getfield 246, 3) := by decide +kernel
theorem dX12_trial_59 : decode cX12_trial 59 = .ok (.ireturn, 1) := by decide +kernel
def kX12_trial_0 : List (Nat × zT) := [(0, a_iload 1 1), (1, a_i 0 2), (2, a_i 1023 5), (5, a_call 138 3 8 0 0), (8, a_if_ne 13 11), (11, a_i (-1) 12), (12, a_iret false), (13, a_aload 0 14), (14, a_getI 12 33 17), (17, a_i 10 19), (19, a_ic_ne 25 22), (22, a_i (-3) 24), (24, a_iret false), (25, a_aload 0 26), (26, a_getR 12 34 29), (29, a_aload 0 30), (30, a_getI 12 33 33), (33, a_iload 1 34), (34, a_iast 35), (35, a_aload 0 36), (36, a_getR 12 35 39), (39, a_aload 0 40), (40, a_getI 12 33 43), (43, a_i (-1) 44)]
theorem oX12_trial_0 : ∀ q ∈ kX12_trial_0, zSnd zty false RX12 cX12_trial 2 (some .int) false q := List.forall_mem_cons.mpr ⟨ok_iload_n dX12_trial_0 rfl, List.forall_mem_cons.mpr ⟨ok_iconst dX12_trial_1 (by decide), List.forall_mem_cons.mpr ⟨ok_sipush dX12_trial_2 (by decide), List.forall_mem_cons.mpr ⟨ok_callS dX12_trial_5 rfl w1084 w1082 w1083 w13 (by decide +kernel) (by decide), List.forall_mem_cons.mpr ⟨ok_if_ne dX12_trial_8 (by decide), List.forall_mem_cons.mpr ⟨ok_iconst dX12_trial_11 (by decide), List.forall_mem_cons.mpr ⟨ok_iret (bz := false) dX12_trial_12 rfl, List.forall_mem_cons.mpr ⟨ok_aload_n dX12_trial_13 rfl, List.forall_mem_cons.mpr ⟨ok_getI dX12_trial_14 rfl in12 (by decide) rfl w990, List.forall_mem_cons.mpr ⟨ok_bipush dX12_trial_17 (by decide), List.forall_mem_cons.mpr ⟨ok_ic_ne dX12_trial_19 (by decide), List.forall_mem_cons.mpr ⟨ok_bipush dX12_trial_22 (by decide), List.forall_mem_cons.mpr ⟨ok_iret (bz := false) dX12_trial_24 rfl, List.forall_mem_cons.mpr ⟨ok_aload_n dX12_trial_25 rfl, List.forall_mem_cons.mpr ⟨ok_getR dX12_trial_26 rfl in12 (by decide) rfl w991, List.forall_mem_cons.mpr ⟨ok_aload_n dX12_trial_29 rfl, List.forall_mem_cons.mpr ⟨ok_getI dX12_trial_30 rfl in12 (by decide) rfl w990, List.forall_mem_cons.mpr ⟨ok_iload_n dX12_trial_33 rfl, List.forall_mem_cons.mpr ⟨ok_iast dX12_trial_34, List.forall_mem_cons.mpr ⟨ok_aload_n dX12_trial_35 rfl, List.forall_mem_cons.mpr ⟨ok_getR dX12_trial_36 rfl in12 (by decide) rfl w992, List.forall_mem_cons.mpr ⟨ok_aload_n dX12_trial_39 rfl, List.forall_mem_cons.mpr ⟨ok_getI dX12_trial_40 rfl in12 (by decide) rfl w990, List.forall_mem_cons.mpr ⟨ok_iconst dX12_trial_43 (by decide), fun _ h => absurd h List.not_mem_nil⟩⟩⟩⟩⟩⟩⟩⟩⟩⟩⟩⟩⟩⟩⟩⟩⟩⟩⟩⟩⟩⟩⟩⟩
def kX12_trial_1 : List (Nat × zT) := [(44, a_iast 45), (45, a_aload 0 46), (46, a_dup 47), (47, a_getI 12 33 50), (50, a_i 1 51), (51, a_ii (fun x y => x + y) 52), (52, a_putI 12 33 55 false), (55, a_aload 0 56), (56, a_getI 12 33 59), (59, a_iret false)]
theorem oX12_trial_1 : ∀ q ∈ kX12_trial_1, zSnd zty false RX12 cX12_trial 2 (some .int) false q := List.forall_mem_cons.mpr ⟨ok_iast dX12_trial_44, List.forall_mem_cons.mpr ⟨ok_aload_n dX12_trial_45 rfl, List.forall_mem_cons.mpr ⟨ok_dup dX12_trial_46, List.forall_mem_cons.mpr ⟨ok_getI dX12_trial_47 rfl in12 (by decide) rfl w990, List.forall_mem_cons.mpr ⟨ok_iconst dX12_trial_50 (by decide), List.forall_mem_cons.mpr ⟨ok_iadd dX12_trial_51, List.forall_mem_cons.mpr ⟨ok_putI (bz := false) dX12_trial_52 rfl in12 tyX12 tyX12_ok nmX12 (by decide) rfl w990 rfl rfl, List.forall_mem_cons.mpr ⟨ok_aload_n dX12_trial_55 rfl, List.forall_mem_cons.mpr ⟨ok_getI dX12_trial_56 rfl in12 (by decide) rfl w990, List.forall_mem_cons.mpr ⟨ok_iret (bz := false) dX12_trial_59 rfl, fun _ h => absurd h List.not_mem_nil⟩⟩⟩⟩⟩⟩⟩⟩⟩⟩
def kX12_trial : List (Nat × zT) := kX12_trial_0 ++ (kX12_trial_1)
theorem qX12_trial_0 : ∀ q ∈ kX12_trial_0, q ∈ kX12_trial := fun _ h => (List.mem_append_left _ h)
theorem tX12_trial_0 : (0, a_iload 1 1) ∈ kX12_trial := qX12_trial_0 _ (List.mem_of_getElem? (i := 0) rfl)
theorem tX12_trial_1 : (1, a_i 0 2) ∈ kX12_trial := qX12_trial_0 _ (List.mem_of_getElem? (i := 1) rfl)
theorem tX12_trial_2 : (2, a_i 1023 5) ∈ kX12_trial := qX12_trial_0 _ (List.mem_of_getElem? (i := 2) rfl)
theorem tX12_trial_5 : (5, a_call 138 3 8 0 0) ∈ kX12_trial := qX12_trial_0 _ (List.mem_of_getElem? (i := 3) rfl)
theorem tX12_trial_8 : (8, a_if_ne 13 11) ∈ kX12_trial := qX12_trial_0 _ (List.mem_of_getElem? (i := 4) rfl)
theorem tX12_trial_11 : (11, a_i (-1) 12) ∈ kX12_trial := qX12_trial_0 _ (List.mem_of_getElem? (i := 5) rfl)
theorem tX12_trial_12 : (12, a_iret false) ∈ kX12_trial := qX12_trial_0 _ (List.mem_of_getElem? (i := 6) rfl)
theorem tX12_trial_13 : (13, a_aload 0 14) ∈ kX12_trial := qX12_trial_0 _ (List.mem_of_getElem? (i := 7) rfl)
theorem tX12_trial_14 : (14, a_getI 12 33 17) ∈ kX12_trial := qX12_trial_0 _ (List.mem_of_getElem? (i := 8) rfl)
theorem tX12_trial_17 : (17, a_i 10 19) ∈ kX12_trial := qX12_trial_0 _ (List.mem_of_getElem? (i := 9) rfl)
theorem tX12_trial_19 : (19, a_ic_ne 25 22) ∈ kX12_trial := qX12_trial_0 _ (List.mem_of_getElem? (i := 10) rfl)
theorem tX12_trial_22 : (22, a_i (-3) 24) ∈ kX12_trial := qX12_trial_0 _ (List.mem_of_getElem? (i := 11) rfl)
theorem tX12_trial_24 : (24, a_iret false) ∈ kX12_trial := qX12_trial_0 _ (List.mem_of_getElem? (i := 12) rfl)
theorem tX12_trial_25 : (25, a_aload 0 26) ∈ kX12_trial := qX12_trial_0 _ (List.mem_of_getElem? (i := 13) rfl)
theorem tX12_trial_26 : (26, a_getR 12 34 29) ∈ kX12_trial := qX12_trial_0 _ (List.mem_of_getElem? (i := 14) rfl)
theorem tX12_trial_29 : (29, a_aload 0 30) ∈ kX12_trial := qX12_trial_0 _ (List.mem_of_getElem? (i := 15) rfl)
theorem tX12_trial_30 : (30, a_getI 12 33 33) ∈ kX12_trial := qX12_trial_0 _ (List.mem_of_getElem? (i := 16) rfl)
theorem tX12_trial_33 : (33, a_iload 1 34) ∈ kX12_trial := qX12_trial_0 _ (List.mem_of_getElem? (i := 17) rfl)
theorem tX12_trial_34 : (34, a_iast 35) ∈ kX12_trial := qX12_trial_0 _ (List.mem_of_getElem? (i := 18) rfl)
theorem tX12_trial_35 : (35, a_aload 0 36) ∈ kX12_trial := qX12_trial_0 _ (List.mem_of_getElem? (i := 19) rfl)
theorem tX12_trial_36 : (36, a_getR 12 35 39) ∈ kX12_trial := qX12_trial_0 _ (List.mem_of_getElem? (i := 20) rfl)
theorem tX12_trial_39 : (39, a_aload 0 40) ∈ kX12_trial := qX12_trial_0 _ (List.mem_of_getElem? (i := 21) rfl)
theorem tX12_trial_40 : (40, a_getI 12 33 43) ∈ kX12_trial := qX12_trial_0 _ (List.mem_of_getElem? (i := 22) rfl)
theorem tX12_trial_43 : (43, a_i (-1) 44) ∈ kX12_trial := qX12_trial_0 _ (List.mem_of_getElem? (i := 23) rfl)
theorem qX12_trial_1 : ∀ q ∈ kX12_trial_1, q ∈ kX12_trial := fun _ h => (List.mem_append_right _ h)
theorem tX12_trial_44 : (44, a_iast 45) ∈ kX12_trial := qX12_trial_1 _ (List.mem_of_getElem? (i := 0) rfl)
theorem tX12_trial_45 : (45, a_aload 0 46) ∈ kX12_trial := qX12_trial_1 _ (List.mem_of_getElem? (i := 1) rfl)
theorem tX12_trial_46 : (46, a_dup 47) ∈ kX12_trial := qX12_trial_1 _ (List.mem_of_getElem? (i := 2) rfl)
theorem tX12_trial_47 : (47, a_getI 12 33 50) ∈ kX12_trial := qX12_trial_1 _ (List.mem_of_getElem? (i := 3) rfl)
theorem tX12_trial_50 : (50, a_i 1 51) ∈ kX12_trial := qX12_trial_1 _ (List.mem_of_getElem? (i := 4) rfl)
theorem tX12_trial_51 : (51, a_ii (fun x y => x + y) 52) ∈ kX12_trial := qX12_trial_1 _ (List.mem_of_getElem? (i := 5) rfl)
theorem tX12_trial_52 : (52, a_putI 12 33 55 false) ∈ kX12_trial := qX12_trial_1 _ (List.mem_of_getElem? (i := 6) rfl)
theorem tX12_trial_55 : (55, a_aload 0 56) ∈ kX12_trial := qX12_trial_1 _ (List.mem_of_getElem? (i := 7) rfl)
theorem tX12_trial_56 : (56, a_getI 12 33 59) ∈ kX12_trial := qX12_trial_1 _ (List.mem_of_getElem? (i := 8) rfl)
theorem tX12_trial_59 : (59, a_iret false) ∈ kX12_trial := qX12_trial_1 _ (List.mem_of_getElem? (i := 9) rfl)
theorem oX12_trial : ∀ q ∈ kX12_trial, zSnd zty false RX12 cX12_trial 2 (some .int) false q := List.forall_mem_append.mpr ⟨oX12_trial_0, oX12_trial_1⟩
theorem dX12_noTrials_0 : decode cX12_noTrials 0 = .ok (.aload_n 0, 1) := by decide +kernel
theorem dX12_noTrials_1 : decode cX12_noTrials 1 = .ok (.getfield 246, 3) := by decide +kernel
theorem dX12_noTrials_4 : decode cX12_noTrials 4 = .ok (.istore_n 1, 1) := by decide +kernel
theorem dX12_noTrials_5 : decode cX12_noTrials 5 = .ok (.aload_n 0, 1) := by decide +kernel
theorem dX12_noTrials_6 : decode cX12_noTrials 6 = .ok (.iconst 0, 1) := by decide +kernel
theorem dX12_noTrials_7 : decode cX12_noTrials 7 = .ok (.putfield 246, 3) := by decide +kernel
theorem dX12_noTrials_10 : decode cX12_noTrials 10 = .ok (.iload_n 1, 1) := by decide +kernel
theorem dX12_noTrials_11 : decode cX12_noTrials 11 = .ok (.ireturn, 1) := by decide +kernel
def kX12_noTrials_0 : List (Nat × zT) := [(0, a_aload 0 1), (1, a_getI 12 33 4), (4, a_istore 1 5), (5, a_aload 0 6), (6, a_i 0 7), (7, a_putI 12 33 10 false), (10, a_iload 1 11), (11, a_iret false)]
theorem oX12_noTrials_0 : ∀ q ∈ kX12_noTrials_0, zSnd zty false RX12 cX12_noTrials 2 (some .int) false q := List.forall_mem_cons.mpr ⟨ok_aload_n dX12_noTrials_0 rfl, List.forall_mem_cons.mpr ⟨ok_getI dX12_noTrials_1 rfl in12 (by decide) rfl w990, List.forall_mem_cons.mpr ⟨ok_istore_n dX12_noTrials_4 rfl (by decide), List.forall_mem_cons.mpr ⟨ok_aload_n dX12_noTrials_5 rfl, List.forall_mem_cons.mpr ⟨ok_iconst dX12_noTrials_6 (by decide), List.forall_mem_cons.mpr ⟨ok_putI (bz := false) dX12_noTrials_7 rfl in12 tyX12 tyX12_ok nmX12 (by decide) rfl w990 rfl rfl, List.forall_mem_cons.mpr ⟨ok_iload_n dX12_noTrials_10 rfl, List.forall_mem_cons.mpr ⟨ok_iret (bz := false) dX12_noTrials_11 rfl, fun _ h => absurd h List.not_mem_nil⟩⟩⟩⟩⟩⟩⟩⟩
def kX12_noTrials : List (Nat × zT) := kX12_noTrials_0
theorem qX12_noTrials_0 : ∀ q ∈ kX12_noTrials_0, q ∈ kX12_noTrials := fun _ h => h
theorem tX12_noTrials_0 : (0, a_aload 0 1) ∈ kX12_noTrials := qX12_noTrials_0 _ (List.mem_of_getElem? (i := 0) rfl)
theorem tX12_noTrials_1 : (1, a_getI 12 33 4) ∈ kX12_noTrials := qX12_noTrials_0 _ (List.mem_of_getElem? (i := 1) rfl)
theorem tX12_noTrials_4 : (4, a_istore 1 5) ∈ kX12_noTrials := qX12_noTrials_0 _ (List.mem_of_getElem? (i := 2) rfl)
theorem tX12_noTrials_5 : (5, a_aload 0 6) ∈ kX12_noTrials := qX12_noTrials_0 _ (List.mem_of_getElem? (i := 3) rfl)
theorem tX12_noTrials_6 : (6, a_i 0 7) ∈ kX12_noTrials := qX12_noTrials_0 _ (List.mem_of_getElem? (i := 4) rfl)
theorem tX12_noTrials_7 : (7, a_putI 12 33 10 false) ∈ kX12_noTrials := qX12_noTrials_0 _ (List.mem_of_getElem? (i := 5) rfl)
theorem tX12_noTrials_10 : (10, a_iload 1 11) ∈ kX12_noTrials := qX12_noTrials_0 _ (List.mem_of_getElem? (i := 6) rfl)
theorem tX12_noTrials_11 : (11, a_iret false) ∈ kX12_noTrials := qX12_noTrials_0 _ (List.mem_of_getElem? (i := 7) rfl)
theorem oX12_noTrials : ∀ q ∈ kX12_noTrials, zSnd zty false RX12 cX12_noTrials 2 (some .int) false q := oX12_noTrials_0
theorem dX12_foundBy_0 : decode cX12_foundBy 0 = .ok (.lconst 0, 1) := by decide +kernel
theorem dX12_foundBy_1 : decode cX12_foundBy 1 = .ok (.lstore_n 2, 1) := by decide +kernel
theorem dX12_foundBy_2 : decode cX12_foundBy 2 = .ok (.iconst 0, 1) := by decide +kernel
theorem dX12_foundBy_3 : decode cX12_foundBy 3 = .ok (.istore 4, 2) := by decide +kernel
theorem dX12_foundBy_5 : decode cX12_foundBy 5 = .ok (.iload 4, 2) := by decide +kernel
theorem dX12_foundBy_7 : decode cX12_foundBy 7 = .ok (.aload_n 0, 1) := by decide +kernel
theorem dX12_foundBy_8 : decode cX12_foundBy 8 = .ok (.getfield 246, 3) := by decide +kernel
theorem dX12_foundBy_11 : decode cX12_foundBy 11 = .ok (.if_icmp .ge 33, 3) := by decide +kernel
theorem dX12_foundBy_14 : decode cX12_foundBy 14 = .ok (.lload_n 2, 1) := by decide +kernel
theorem dX12_foundBy_15 : decode cX12_foundBy 15 = .ok (.iload_n 1, 1) := by decide +kernel
theorem dX12_foundBy_16 : decode cX12_foundBy 16 = .ok (.iload 4, 2) := by decide +kernel
theorem dX12_foundBy_18 : decode cX12_foundBy 18 = .ok (.ishr, 1) := by decide +kernel
theorem dX12_foundBy_19 : decode cX12_foundBy 19 = .ok (.iconst 1, 1) := by decide +kernel
theorem dX12_foundBy_20 : decode cX12_foundBy 20 = .ok (.iand, 1) := by decide +kernel
theorem dX12_foundBy_21 : decode cX12_foundBy 21 = .ok (.iconst 1, 1) := by decide +kernel
theorem dX12_foundBy_22 : decode cX12_foundBy 22 = .ok (.if_icmp .ne 13, 3) := by decide +kernel
theorem dX12_foundBy_25 : decode cX12_foundBy 25 = .ok (.aload_n 0, 1) := by decide +kernel
theorem dX12_foundBy_26 : decode cX12_foundBy 26 = .ok (.getfield 101, 3) := by decide +kernel
theorem dX12_foundBy_29 : decode cX12_foundBy 29 = .ok (.iload 4, 2) := by decide +kernel
theorem dX12_foundBy_31 : decode cX12_foundBy 31 = .ok (.laload, 1) := by decide +kernel
theorem dX12_foundBy_32 : decode cX12_foundBy 32 = .ok (.goto 4, 3) := by decide +kernel
theorem dX12_foundBy_35 : decode cX12_foundBy 35 = .ok (.lconst 0, 1) := by decide +kernel
theorem dX12_foundBy_36 : decode cX12_foundBy 36 = .ok (.lor, 1) := by decide +kernel
theorem dX12_foundBy_37 : decode cX12_foundBy 37 = .ok (.lstore_n 2, 1) := by decide +kernel
theorem dX12_foundBy_38 : decode cX12_foundBy 38 = .ok (.iinc 4 1, 3) := by decide +kernel
theorem dX12_foundBy_41 : decode cX12_foundBy 41 = .ok (.goto (-36), 3) := by decide +kernel
theorem dX12_foundBy_44 : decode cX12_foundBy 44 = .ok (.lload_n 2, 1) := by decide +kernel
theorem dX12_foundBy_45 : decode cX12_foundBy 45 = .ok (.lreturn, 1) := by decide +kernel
def kX12_foundBy_0 : List (Nat × zT) := [(0, a_l 0 1), (1, a_lstore 2 2), (2, a_i 0 3), (3, a_istore 4 5), (5, a_iload 4 7), (7, a_aload 0 8), (8, a_getI 12 33 11), (11, a_ic_ge 44 14), (14, a_lload 2 15), (15, a_iload 1 16), (16, a_iload 4 18), (18, a_ii (fun x y => x >>> (y &&& 31)) 19), (19, a_i 1 20), (20, a_ii (fun x y => x &&& y) 21), (21, a_i 1 22), (22, a_ic_ne 35 25), (25, a_aload 0 26), (26, a_getR 12 36 29), (29, a_iload 4 31), (31, a_lald 32), (32, a_goto 36), (35, a_l 0 36), (36, a_ll (fun x y => x ||| y) 37), (37, a_lstore 2 38)]
theorem oX12_foundBy_0 : ∀ q ∈ kX12_foundBy_0, zSnd zty false RX12 cX12_foundBy 5 (some .long) false q := List.forall_mem_cons.mpr ⟨ok_lconst dX12_foundBy_0 (by decide), List.forall_mem_cons.mpr ⟨ok_lstore_n dX12_foundBy_1 rfl (by decide), List.forall_mem_cons.mpr ⟨ok_iconst dX12_foundBy_2 (by decide), List.forall_mem_cons.mpr ⟨ok_istore dX12_foundBy_3 (by decide), List.forall_mem_cons.mpr ⟨ok_iload dX12_foundBy_5, List.forall_mem_cons.mpr ⟨ok_aload_n dX12_foundBy_7 rfl, List.forall_mem_cons.mpr ⟨ok_getI dX12_foundBy_8 rfl in12 (by decide) rfl w990, List.forall_mem_cons.mpr ⟨ok_ic_ge dX12_foundBy_11 (by decide), List.forall_mem_cons.mpr ⟨ok_lload_n dX12_foundBy_14 rfl, List.forall_mem_cons.mpr ⟨ok_iload_n dX12_foundBy_15 rfl, List.forall_mem_cons.mpr ⟨ok_iload dX12_foundBy_16, List.forall_mem_cons.mpr ⟨ok_ishr dX12_foundBy_18, List.forall_mem_cons.mpr ⟨ok_iconst dX12_foundBy_19 (by decide), List.forall_mem_cons.mpr ⟨ok_iand dX12_foundBy_20, List.forall_mem_cons.mpr ⟨ok_iconst dX12_foundBy_21 (by decide), List.forall_mem_cons.mpr ⟨ok_ic_ne dX12_foundBy_22 (by decide), List.forall_mem_cons.mpr ⟨ok_aload_n dX12_foundBy_25 rfl, List.forall_mem_cons.mpr ⟨ok_getR dX12_foundBy_26 rfl in12 (by decide) rfl w993, List.forall_mem_cons.mpr ⟨ok_iload dX12_foundBy_29, List.forall_mem_cons.mpr ⟨ok_lald dX12_foundBy_31, List.forall_mem_cons.mpr ⟨ok_goto dX12_foundBy_32 (by decide), List.forall_mem_cons.mpr ⟨ok_lconst dX12_foundBy_35 (by decide), List.forall_mem_cons.mpr ⟨ok_lor dX12_foundBy_36, List.forall_mem_cons.mpr ⟨ok_lstore_n dX12_foundBy_37 rfl (by decide), fun _ h => absurd h List.not_mem_nil⟩⟩⟩⟩⟩⟩⟩⟩⟩⟩⟩⟩⟩⟩⟩⟩⟩⟩⟩⟩⟩⟩⟩⟩
def kX12_foundBy_1 : List (Nat × zT) := [(38, a_iinc 4 1 41), (41, a_goto 5), (44, a_lload 2 45), (45, a_lret)]
theorem oX12_foundBy_1 : ∀ q ∈ kX12_foundBy_1, zSnd zty false RX12 cX12_foundBy 5 (some .long) false q := List.forall_mem_cons.mpr ⟨ok_iinc dX12_foundBy_38 (by decide) (by decide), List.forall_mem_cons.mpr ⟨ok_goto dX12_foundBy_41 (by decide), List.forall_mem_cons.mpr ⟨ok_lload_n dX12_foundBy_44 rfl, List.forall_mem_cons.mpr ⟨ok_lret dX12_foundBy_45 rfl, fun _ h => absurd h List.not_mem_nil⟩⟩⟩⟩
def kX12_foundBy : List (Nat × zT) := kX12_foundBy_0 ++ (kX12_foundBy_1)
theorem qX12_foundBy_0 : ∀ q ∈ kX12_foundBy_0, q ∈ kX12_foundBy := fun _ h => (List.mem_append_left _ h)
theorem tX12_foundBy_0 : (0, a_l 0 1) ∈ kX12_foundBy := qX12_foundBy_0 _ (List.mem_of_getElem? (i := 0) rfl)
theorem tX12_foundBy_1 : (1, a_lstore 2 2) ∈ kX12_foundBy := qX12_foundBy_0 _ (List.mem_of_getElem? (i := 1) rfl)
theorem tX12_foundBy_2 : (2, a_i 0 3) ∈ kX12_foundBy := qX12_foundBy_0 _ (List.mem_of_getElem? (i := 2) rfl)
theorem tX12_foundBy_3 : (3, a_istore 4 5) ∈ kX12_foundBy := qX12_foundBy_0 _ (List.mem_of_getElem? (i := 3) rfl)
theorem tX12_foundBy_5 : (5, a_iload 4 7) ∈ kX12_foundBy := qX12_foundBy_0 _ (List.mem_of_getElem? (i := 4) rfl)
theorem tX12_foundBy_7 : (7, a_aload 0 8) ∈ kX12_foundBy := qX12_foundBy_0 _ (List.mem_of_getElem? (i := 5) rfl)
theorem tX12_foundBy_8 : (8, a_getI 12 33 11) ∈ kX12_foundBy := qX12_foundBy_0 _ (List.mem_of_getElem? (i := 6) rfl)
theorem tX12_foundBy_11 : (11, a_ic_ge 44 14) ∈ kX12_foundBy := qX12_foundBy_0 _ (List.mem_of_getElem? (i := 7) rfl)
theorem tX12_foundBy_14 : (14, a_lload 2 15) ∈ kX12_foundBy := qX12_foundBy_0 _ (List.mem_of_getElem? (i := 8) rfl)
theorem tX12_foundBy_15 : (15, a_iload 1 16) ∈ kX12_foundBy := qX12_foundBy_0 _ (List.mem_of_getElem? (i := 9) rfl)
theorem tX12_foundBy_16 : (16, a_iload 4 18) ∈ kX12_foundBy := qX12_foundBy_0 _ (List.mem_of_getElem? (i := 10) rfl)
theorem tX12_foundBy_18 : (18, a_ii (fun x y => x >>> (y &&& 31)) 19) ∈ kX12_foundBy := qX12_foundBy_0 _ (List.mem_of_getElem? (i := 11) rfl)
theorem tX12_foundBy_19 : (19, a_i 1 20) ∈ kX12_foundBy := qX12_foundBy_0 _ (List.mem_of_getElem? (i := 12) rfl)
theorem tX12_foundBy_20 : (20, a_ii (fun x y => x &&& y) 21) ∈ kX12_foundBy := qX12_foundBy_0 _ (List.mem_of_getElem? (i := 13) rfl)
theorem tX12_foundBy_21 : (21, a_i 1 22) ∈ kX12_foundBy := qX12_foundBy_0 _ (List.mem_of_getElem? (i := 14) rfl)
theorem tX12_foundBy_22 : (22, a_ic_ne 35 25) ∈ kX12_foundBy := qX12_foundBy_0 _ (List.mem_of_getElem? (i := 15) rfl)
theorem tX12_foundBy_25 : (25, a_aload 0 26) ∈ kX12_foundBy := qX12_foundBy_0 _ (List.mem_of_getElem? (i := 16) rfl)
theorem tX12_foundBy_26 : (26, a_getR 12 36 29) ∈ kX12_foundBy := qX12_foundBy_0 _ (List.mem_of_getElem? (i := 17) rfl)
theorem tX12_foundBy_29 : (29, a_iload 4 31) ∈ kX12_foundBy := qX12_foundBy_0 _ (List.mem_of_getElem? (i := 18) rfl)
theorem tX12_foundBy_31 : (31, a_lald 32) ∈ kX12_foundBy := qX12_foundBy_0 _ (List.mem_of_getElem? (i := 19) rfl)
theorem tX12_foundBy_32 : (32, a_goto 36) ∈ kX12_foundBy := qX12_foundBy_0 _ (List.mem_of_getElem? (i := 20) rfl)
theorem tX12_foundBy_35 : (35, a_l 0 36) ∈ kX12_foundBy := qX12_foundBy_0 _ (List.mem_of_getElem? (i := 21) rfl)
theorem tX12_foundBy_36 : (36, a_ll (fun x y => x ||| y) 37) ∈ kX12_foundBy := qX12_foundBy_0 _ (List.mem_of_getElem? (i := 22) rfl)
theorem tX12_foundBy_37 : (37, a_lstore 2 38) ∈ kX12_foundBy := qX12_foundBy_0 _ (List.mem_of_getElem? (i := 23) rfl)
theorem qX12_foundBy_1 : ∀ q ∈ kX12_foundBy_1, q ∈ kX12_foundBy := fun _ h => (List.mem_append_right _ h)
theorem tX12_foundBy_38 : (38, a_iinc 4 1 41) ∈ kX12_foundBy := qX12_foundBy_1 _ (List.mem_of_getElem? (i := 0) rfl)
theorem tX12_foundBy_41 : (41, a_goto 5) ∈ kX12_foundBy := qX12_foundBy_1 _ (List.mem_of_getElem? (i := 1) rfl)
theorem tX12_foundBy_44 : (44, a_lload 2 45) ∈ kX12_foundBy := qX12_foundBy_1 _ (List.mem_of_getElem? (i := 2) rfl)
theorem tX12_foundBy_45 : (45, a_lret) ∈ kX12_foundBy := qX12_foundBy_1 _ (List.mem_of_getElem? (i := 3) rfl)
theorem oX12_foundBy : ∀ q ∈ kX12_foundBy, zSnd zty false RX12 cX12_foundBy 5 (some .long) false q := List.forall_mem_append.mpr ⟨oX12_foundBy_0, oX12_foundBy_1⟩
theorem dX12_fewest_0 : decode cX12_fewest 0 = .ok (.iload_n 1, 1) := by decide +kernel
theorem dX12_fewest_1 : decode cX12_fewest 1 = .ok (.iconst 0, 1) := by decide +kernel
theorem dX12_fewest_2 : decode cX12_fewest 2 = .ok (.iconst 1, 1) := by decide +kernel
theorem dX12_fewest_3 : decode cX12_fewest 3 = .ok (.invokestatic 112, 3) := by decide +kernel
theorem dX12_fewest_6 : decode cX12_fewest 6 = .ok (.ifCond .ne 5, 3) := by decide +kernel
theorem dX12_fewest_9 : decode cX12_fewest 9 = .ok (.iconst (-1), 1) := by decide +kernel
theorem dX12_fewest_10 : decode cX12_fewest 10 = .ok (.ireturn, 1) := by decide +kernel
theorem dX12_fewest_11 : decode cX12_fewest 11 = .ok (.iconst 0, 1) := by decide +kernel
theorem dX12_fewest_12 : decode cX12_fewest 12 = .ok (.istore_n 2, 1) := by decide +kernel
theorem dX12_fewest_13 : decode cX12_fewest 13 = .ok (.iload_n 2, 1) := by decide +kernel
theorem dX12_fewest_14 : decode cX12_fewest 14 = .ok (.aload_n 0, 1) := by decide +kernel
theorem dX12_fewest_15 : decode cX12_fewest 15 = .ok (.getfield 246, 3) := by decide +kernel
theorem dX12_fewest_18 : decode cX12_fewest 18 = .ok (.if_icmp .ge 60, 3) := by decide +kernel
theorem dX12_fewest_21 : decode cX12_fewest 21 = .ok (.aload_n 0, 1) := by decide +kernel
theorem dX12_fewest_22 : decode cX12_fewest 22 = .ok (.getfield 101, 3) := by decide +kernel
theorem dX12_fewest_25 : decode cX12_fewest 25 = .ok (.iload_n 2, 1) := by decide +kernel
theorem dX12_fewest_26 : decode cX12_fewest 26 = .ok (.lconst 0, 1) := by decide +kernel
theorem dX12_fewest_27 : decode cX12_fewest 27 = .ok (.lastore, 1) := by decide +kernel
theorem dX12_fewest_28 : decode cX12_fewest 28 = .ok (.iconst 0, 1) := by decide +kernel
theorem dX12_fewest_29 : decode cX12_fewest 29 = .ok (.istore_n 3, 1) := by decide +kernel
theorem dX12_fewest_30 : decode cX12_fewest 30 = .ok (.iload_n 3, 1) := by decide +kernel
theorem dX12_fewest_31 : decode cX12_fewest 31 = .ok (.bipush 38, 2) := by decide +kernel
theorem dX12_fewest_33 : decode cX12_fewest 33 = .ok (.if_icmp .ge 39, 3) := by decide +kernel
theorem dX12_fewest_36 : decode cX12_fewest 36 = .ok (.aload_n 0, 1) := by decide +kernel
theorem dX12_fewest_37 : decode cX12_fewest 37 = .ok (.getfield 101, 3) := by decide +kernel
theorem dX12_fewest_40 : decode cX12_fewest 40 = .ok (.iload_n 2, 1) := by decide +kernel
theorem dX12_fewest_41 : decode cX12_fewest 41 = .ok (.dup2, 1) := by decide +kernel
theorem dX12_fewest_42 : decode cX12_fewest 42 = .ok (.laload, 1) := by decide +kernel
theorem dX12_fewest_43 : decode cX12_fewest 43 = .ok (.aload_n 0, 1) := by decide +kernel
theorem dX12_fewest_44 : decode cX12_fewest 44 = .ok (.iload_n 3, 1) := by decide +kernel
theorem dX12_fewest_45 : decode cX12_fewest 45 = .ok (.aload_n 0, 1) := by decide +kernel
theorem dX12_fewest_46 : decode cX12_fewest 46 = .ok (.getfield 95, 3) := by decide +kernel
theorem dX12_fewest_49 : decode cX12_fewest 49 = .ok (.iload_n 2, 1) := by decide +kernel
theorem dX12_fewest_50 : decode cX12_fewest 50 = .ok (.iaload, 1) := by decide +kernel
theorem dX12_fewest_51 : decode cX12_fewest 51 = .ok (.invokevirtual 243, 3) := by decide +kernel
theorem dX12_fewest_54 : decode cX12_fewest 54 = .ok (.ifCond .eq 9, 3) := by decide +kernel
theorem dX12_fewest_57 : decode cX12_fewest 57 = .ok (.lconst 1, 1) := by decide +kernel
theorem dX12_fewest_58 : decode cX12_fewest 58 = .ok (.iload_n 3, 1) := by decide +kernel
theorem dX12_fewest_59 : decode cX12_fewest 59 = .ok (.lshl, 1) := by decide +kernel
theorem dX12_fewest_60 : decode cX12_fewest 60 = .ok (.goto 4, 3) := by decide +kernel
theorem dX12_fewest_63 : decode cX12_fewest 63 = .ok (.lconst 0, 1) := by decide +kernel
theorem dX12_fewest_64 : decode cX12_fewest 64 = .ok (.lor, 1) := by decide +kernel
theorem dX12_fewest_65 : decode cX12_fewest 65 = .ok (.lastore, 1) := by decide +kernel
theorem dX12_fewest_66 : decode cX12_fewest 66 = .ok (.iinc 3 1, 3) := by decide +kernel
theorem dX12_fewest_69 : decode cX12_fewest 69 = .ok (.goto (-39), 3) := by decide +kernel
theorem dX12_fewest_72 : decode cX12_fewest 72 = .ok (.iinc 2 1, 3) := by decide +kernel
theorem dX12_fewest_75 : decode cX12_fewest 75 = .ok (.goto (-62), 3) := by decide +kernel
theorem dX12_fewest_78 : decode cX12_fewest 78 = .ok (.aload_n 0, 1) := by decide +kernel
theorem dX12_fewest_79 : decode cX12_fewest 79 = .ok (.sipush 1023, 3) := by decide +kernel
theorem dX12_fewest_82 : decode cX12_fewest 82 = .ok (.invokevirtual 249, 3) := by decide +kernel
theorem dX12_fewest_85 : decode cX12_fewest 85 = .ok (.lstore_n 2, 1) := by decide +kernel
theorem dX12_fewest_86 : decode cX12_fewest 86 = .ok (.iconst 0, 1) := by decide +kernel
theorem dX12_fewest_87 : decode cX12_fewest 87 = .ok (.istore 4, 2) := by decide +kernel
theorem dX12_fewest_89 : decode cX12_fewest 89 = .ok (.iconst 0, 1) := by decide +kernel
theorem dX12_fewest_90 : decode cX12_fewest 90 = .ok (.istore 5, 2) := by decide +kernel
theorem dX12_fewest_92 : decode cX12_fewest 92 = .ok (.iload 5, 2) := by decide +kernel
theorem dX12_fewest_94 : decode cX12_fewest 94 = .ok (.bipush 38, 2) := by decide +kernel
theorem dX12_fewest_96 : decode cX12_fewest 96 = .ok (.if_icmp .ge 30, 3) := by decide +kernel
theorem dX12_fewest_99 : decode cX12_fewest 99 = .ok (.iload 4, 2) := by decide +kernel
theorem dX12_fewest_101 : decode cX12_fewest 101 = .ok (.lload_n 2, 1) := by decide +kernel
theorem dX12_fewest_102 : decode cX12_fewest 102 = .ok (.iload 5, 2) := by decide +kernel
theorem dX12_fewest_104 : decode cX12_fewest 104 = .ok (.lshr, 1) := by decide +kernel
theorem dX12_fewest_105 : decode cX12_fewest 105 = .ok (.lconst 1, 1) := by decide +kernel
theorem dX12_fewest_106 : decode cX12_fewest 106 = .ok (.land, 1) := by decide +kernel
theorem dX12_fewest_107 : decode cX12_fewest 107 = .ok (.lconst 1, 1) := by decide +kernel
theorem dX12_fewest_108 : decode cX12_fewest 108 = .ok (.lcmp, 1) := by decide +kernel
theorem dX12_fewest_109 : decode cX12_fewest 109 = .ok (.ifCond .ne 7, 3) := by decide +kernel
theorem dX12_fewest_112 : decode cX12_fewest 112 = .ok (.iconst 1, 1) := by decide +kernel
theorem dX12_fewest_113 : decode cX12_fewest 113 = .ok (.goto 4, 3) := by decide +kernel
theorem dX12_fewest_116 : decode cX12_fewest 116 = .ok (.iconst 0, 1) := by decide +kernel
theorem dX12_fewest_117 : decode cX12_fewest 117 = .ok (.iadd, 1) := by decide +kernel
theorem dX12_fewest_118 : decode cX12_fewest 118 = .ok (.istore 4, 2) := by decide +kernel
theorem dX12_fewest_120 : decode cX12_fewest 120 = .ok (.iinc 5 1, 3) := by decide +kernel
theorem dX12_fewest_123 : decode cX12_fewest 123 = .ok (.goto (-31), 3) := by decide +kernel
theorem dX12_fewest_126 : decode cX12_fewest 126 = .ok (.iload_n 1, 1) := by decide +kernel
theorem dX12_fewest_127 : decode cX12_fewest 127 = .ok (.ifCond .ne 6, 3) := by decide +kernel
theorem dX12_fewest_130 : decode cX12_fewest 130 = .ok (.iload 4, 2) := by decide +kernel
theorem dX12_fewest_132 : decode cX12_fewest 132 = .ok (.ireturn, 1) := by decide +kernel
theorem dX12_fewest_133 : decode cX12_fewest 133 = .ok (.iconst 0, 1) := by decide +kernel
theorem dX12_fewest_134 : decode cX12_fewest 134 = .ok (.istore 5, 2) := by decide +kernel
theorem dX12_fewest_136 : decode cX12_fewest 136 = .ok (.bipush 11, 2) := by decide +kernel
theorem dX12_fewest_138 : decode cX12_fewest 138 = .ok (.istore 6, 2) := by decide +kernel
theorem dX12_fewest_140 : decode cX12_fewest 140 = .ok (.iconst 0, 1) := by decide +kernel
theorem dX12_fewest_141 : decode cX12_fewest 141 = .ok (.istore 7, 2) := by decide +kernel
theorem dX12_fewest_143 : decode cX12_fewest 143 = .ok (.iload 7, 2) := by decide +kernel
theorem dX12_fewest_145 : decode cX12_fewest 145 = .ok (.iconst 1, 1) := by decide +kernel
theorem dX12_fewest_146 : decode cX12_fewest 146 = .ok (.aload_n 0, 1) := by decide +kernel
theorem dX12_fewest_147 : decode cX12_fewest 147 = .ok (.getfield 246, 3) := by decide +kernel
theorem dX12_fewest_150 : decode cX12_fewest 150 = .ok (.ishl, 1) := by decide +kernel
theorem dX12_fewest_151 : decode cX12_fewest 151 = .ok (.if_icmp .ge 68, 3) := by decide +kernel
theorem dX12_fewest_154 : decode cX12_fewest 154 = .ok (.iconst 0, 1) := by decide +kernel
theorem dX12_fewest_155 : decode cX12_fewest 155 = .ok (.istore 8, 2) := by decide +kernel
theorem dX12_fewest_157 : decode cX12_fewest 157 = .ok (.iconst 0, 1) := by decide +kernel
theorem dX12_fewest_158 : decode cX12_fewest 158 = .ok (.istore 9, 2) := by decide +kernel
theorem dX12_fewest_160 : decode cX12_fewest 160 = .ok (.iload 9, 2) := by decide +kernel
theorem dX12_fewest_162 : decode cX12_fewest 162 = .ok (.aload_n 0, 1) := by decide +kernel
theorem dX12_fewest_163 : decode cX12_fewest 163 = .ok (.getfield 246, 3) := by decide +kernel
theorem dX12_fewest_166 : decode cX12_fewest 166 = .ok (.if_icmp .ge 21, 3) := by decide +kernel
theorem dX12_fewest_169 : decode cX12_fewest 169 = .ok (.iload 8, 2) := by decide +kernel
theorem dX12_fewest_171 : decode cX12_fewest 171 = .ok (.iload 7, 2) := by decide +kernel
theorem dX12_fewest_173 : decode cX12_fewest 173 = .ok (.iload 9, 2) := by decide +kernel
theorem dX12_fewest_175 : decode cX12_fewest 175 = .ok (.ishr, 1) := by decide +kernel
theorem dX12_fewest_176 : decode cX12_fewest 176 = .ok (.iconst 1, 1) := by decide +kernel
theorem dX12_fewest_177 : decode cX12_fewest 177 = .ok (.iand, 1) := by decide +kernel
theorem dX12_fewest_178 : decode cX12_fewest 178 = .ok (.iadd, 1) := by decide +kernel
theorem dX12_fewest_179 : decode cX12_fewest 179 = .ok (.istore 8, 2) := by decide +kernel
theorem dX12_fewest_181 : decode cX12_fewest 181 = .ok (.iinc 9 1, 3) := by decide +kernel
theorem dX12_fewest_184 : decode cX12_fewest 184 = .ok (.goto (-24), 3) := by decide +kernel
theorem dX12_fewest_187 : decode cX12_fewest 187 = .ok (.iload 8, 2) := by decide +kernel
theorem dX12_fewest_189 : decode cX12_fewest 189 = .ok (.iload 6, 2) := by decide +kernel
theorem dX12_fewest_191 : decode cX12_fewest 191 = .ok (.if_icmp .ge 22, 3) := by decide +kernel
theorem dX12_fewest_194 : decode cX12_fewest 194 = .ok (.aload_n 0, 1) := by decide +kernel
theorem dX12_fewest_195 : decode cX12_fewest 195 = .ok (.iload 7, 2) := by decide +kernel
theorem dX12_fewest_197 : decode cX12_fewest 197 = .ok (.invokevirtual 249, 3) := by decide +kernel
theorem dX12_fewest_200 : decode cX12_fewest 200 = .ok (.lload_n 2, 1) := by decide +kernel
theorem dX12_fewest_201 : decode cX12_fewest 201 = .ok (.lcmp, 1) := by decide +kernel
theorem dX12_fewest_202 : decode cX12_fewest 202 = .ok (.ifCond .ne 11, 3) := by decide +kernel
theorem dX12_fewest_205 : decode cX12_fewest 205 = .ok (.iload 8, 2) := by decide +kernel
theorem dX12_fewest_207 : decode cX12_fewest 207 = .ok (.istore 6, 2) := by decide +kernel
theorem dX12_fewest_209 : decode cX12_fewest 209 = .ok (.iload 7, 2) := by decide +kernel
theorem dX12_fewest_211 : decode cX12_fewest 211 = .ok (.istore 5, 2) := by decide +kernel
theorem dX12_fewest_213 : decode cX12_fewest 213 = .ok (.iinc 7 1, 3) := by decide +kernel
theorem dX12_fewest_216 : decode cX12_fewest 216 = .ok (.goto (-73), 3) := by decide +kernel
theorem dX12_fewest_219 : decode cX12_fewest 219 = .ok (.iload 5, 2) := by decide +kernel
theorem dX12_fewest_221 : decode cX12_fewest 221 = .ok (.ireturn, 1) := by decide +kernel
def kX12_fewest_0 : List (Nat × zT) := [(0, a_iload 1 1), (1, a_i 0 2), (2, a_i 1 3), (3, a_call 138 3 6 0 0), (6, a_if_ne 11 9), (9, a_i (-1) 10), (10, a_iret false), (11, a_i 0 12), (12, a_istore 2 13), (13, a_iload 2 14), (14, a_aload 0 15), (15, a_getI 12 33 18), (18, a_ic_ge 78 21), (21, a_aload 0 22), (22, a_getR 12 36 25), (25, a_iload 2 26), (26, a_l 0 27), (27, a_last 28), (28, a_i 0 29), (29, a_istore 3 30), (30, a_iload 3 31), (31, a_i 38 33), (33, a_ic_ge 72 36), (36, a_aload 0 37)]
theorem oX12_fewest_0 : ∀ q ∈ kX12_fewest_0, zSnd zty false RX12 cX12_fewest 10 (some .int) false q := List.forall_mem_cons.mpr ⟨ok_iload_n dX12_fewest_0 rfl, List.forall_mem_cons.mpr ⟨ok_iconst dX12_fewest_1 (by decide), List.forall_mem_cons.mpr ⟨ok_iconst dX12_fewest_2 (by decide), List.forall_mem_cons.mpr ⟨ok_callS dX12_fewest_3 rfl w1084 w1082 w1083 w13 (by decide +kernel) (by decide), List.forall_mem_cons.mpr ⟨ok_if_ne dX12_fewest_6 (by decide), List.forall_mem_cons.mpr ⟨ok_iconst dX12_fewest_9 (by decide), List.forall_mem_cons.mpr ⟨ok_iret (bz := false) dX12_fewest_10 rfl, List.forall_mem_cons.mpr ⟨ok_iconst dX12_fewest_11 (by decide), List.forall_mem_cons.mpr ⟨ok_istore_n dX12_fewest_12 rfl (by decide), List.forall_mem_cons.mpr ⟨ok_iload_n dX12_fewest_13 rfl, List.forall_mem_cons.mpr ⟨ok_aload_n dX12_fewest_14 rfl, List.forall_mem_cons.mpr ⟨ok_getI dX12_fewest_15 rfl in12 (by decide) rfl w990, List.forall_mem_cons.mpr ⟨ok_ic_ge dX12_fewest_18 (by decide), List.forall_mem_cons.mpr ⟨ok_aload_n dX12_fewest_21 rfl, List.forall_mem_cons.mpr ⟨ok_getR dX12_fewest_22 rfl in12 (by decide) rfl w993, List.forall_mem_cons.mpr ⟨ok_iload_n dX12_fewest_25 rfl, List.forall_mem_cons.mpr ⟨ok_lconst dX12_fewest_26 (by decide), List.forall_mem_cons.mpr ⟨ok_last dX12_fewest_27, List.forall_mem_cons.mpr ⟨ok_iconst dX12_fewest_28 (by decide), List.forall_mem_cons.mpr ⟨ok_istore_n dX12_fewest_29 rfl (by decide), List.forall_mem_cons.mpr ⟨ok_iload_n dX12_fewest_30 rfl, List.forall_mem_cons.mpr ⟨ok_bipush dX12_fewest_31 (by decide), List.forall_mem_cons.mpr ⟨ok_ic_ge dX12_fewest_33 (by decide), List.forall_mem_cons.mpr ⟨ok_aload_n dX12_fewest_36 rfl, fun _ h => absurd h List.not_mem_nil⟩⟩⟩⟩⟩⟩⟩⟩⟩⟩⟩⟩⟩⟩⟩⟩⟩⟩⟩⟩⟩⟩⟩⟩
def kX12_fewest_1 : List (Nat × zT) := [(37, a_getR 12 36 40), (40, a_iload 2 41), (41, a_dup2 42), (42, a_lald 43), (43, a_aload 0 44), (44, a_iload 3 45), (45, a_aload 0 46), (46, a_getR 12 34 49), (49, a_iload 2 50), (50, a_iald 51), (51, a_callV 12 199 3 54 0 0), (54, a_if_eq 63 57), (57, a_l 1 58), (58, a_iload 3 59), (59, a_li (fun x y => x <<< (y.toInt64 &&& 63)) 60), (60, a_goto 64), (63, a_l 0 64), (64, a_ll (fun x y => x ||| y) 65), (65, a_last 66), (66, a_iinc 3 1 69), (69, a_goto 30), (72, a_iinc 2 1 75), (75, a_goto 13), (78, a_aload 0 79)]
theorem oX12_fewest_1 : ∀ q ∈ kX12_fewest_1, zSnd zty false RX12 cX12_fewest 10 (some .int) false q := List.forall_mem_cons.mpr ⟨ok_getR dX12_fewest_37 rfl in12 (by decide) rfl w993, List.forall_mem_cons.mpr ⟨ok_iload_n dX12_fewest_40 rfl, List.forall_mem_cons.mpr ⟨ok_dup2 dX12_fewest_41, List.forall_mem_cons.mpr ⟨ok_lald dX12_fewest_42, List.forall_mem_cons.mpr ⟨ok_aload_n dX12_fewest_43 rfl, List.forall_mem_cons.mpr ⟨ok_iload_n dX12_fewest_44 rfl, List.forall_mem_cons.mpr ⟨ok_aload_n dX12_fewest_45 rfl, List.forall_mem_cons.mpr ⟨ok_getR dX12_fewest_46 rfl in12 (by decide) rfl w991, List.forall_mem_cons.mpr ⟨ok_iload_n dX12_fewest_49 rfl, List.forall_mem_cons.mpr ⟨ok_iald dX12_fewest_50, List.forall_mem_cons.mpr ⟨ok_callV dX12_fewest_51 rfl rfl w1323 w1320 w1322 w13 s49 (by decide +kernel) (by decide), List.forall_mem_cons.mpr ⟨ok_if_eq dX12_fewest_54 (by decide), List.forall_mem_cons.mpr ⟨ok_lconst dX12_fewest_57 (by decide), List.forall_mem_cons.mpr ⟨ok_iload_n dX12_fewest_58 rfl, List.forall_mem_cons.mpr ⟨ok_lshl dX12_fewest_59, List.forall_mem_cons.mpr ⟨ok_goto dX12_fewest_60 (by decide), List.forall_mem_cons.mpr ⟨ok_lconst dX12_fewest_63 (by decide), List.forall_mem_cons.mpr ⟨ok_lor dX12_fewest_64, List.forall_mem_cons.mpr ⟨ok_last dX12_fewest_65, List.forall_mem_cons.mpr ⟨ok_iinc dX12_fewest_66 (by decide) (by decide), List.forall_mem_cons.mpr ⟨ok_goto dX12_fewest_69 (by decide), List.forall_mem_cons.mpr ⟨ok_iinc dX12_fewest_72 (by decide) (by decide), List.forall_mem_cons.mpr ⟨ok_goto dX12_fewest_75 (by decide), List.forall_mem_cons.mpr ⟨ok_aload_n dX12_fewest_78 rfl, fun _ h => absurd h List.not_mem_nil⟩⟩⟩⟩⟩⟩⟩⟩⟩⟩⟩⟩⟩⟩⟩⟩⟩⟩⟩⟩⟩⟩⟩⟩
def kX12_fewest_2 : List (Nat × zT) := [(79, a_i 1023 82), (82, a_callV 12 204 2 85 0 0), (85, a_lstore 2 86), (86, a_i 0 87), (87, a_istore 4 89), (89, a_i 0 90), (90, a_istore 5 92), (92, a_iload 5 94), (94, a_i 38 96), (96, a_ic_ge 126 99), (99, a_iload 4 101), (101, a_lload 2 102), (102, a_iload 5 104), (104, a_li (fun x y => x >>> (y.toInt64 &&& 63)) 105), (105, a_l 1 106), (106, a_ll (fun x y => x &&& y) 107), (107, a_l 1 108), (108, a_lcmp 109), (109, a_if_ne 116 112), (112, a_i 1 113), (113, a_goto 117), (116, a_i 0 117), (117, a_ii (fun x y => x + y) 118), (118, a_istore 4 120)]
theorem oX12_fewest_2 : ∀ q ∈ kX12_fewest_2, zSnd zty false RX12 cX12_fewest 10 (some .int) false q := List.forall_mem_cons.mpr ⟨ok_sipush dX12_fewest_79 (by decide), List.forall_mem_cons.mpr ⟨ok_callV dX12_fewest_82 rfl rfl w1347 w1344 w1346 w13 s51 (by decide +kernel) (by decide), List.forall_mem_cons.mpr ⟨ok_lstore_n dX12_fewest_85 rfl (by decide), List.forall_mem_cons.mpr ⟨ok_iconst dX12_fewest_86 (by decide), List.forall_mem_cons.mpr ⟨ok_istore dX12_fewest_87 (by decide), List.forall_mem_cons.mpr ⟨ok_iconst dX12_fewest_89 (by decide), List.forall_mem_cons.mpr ⟨ok_istore dX12_fewest_90 (by decide), List.forall_mem_cons.mpr ⟨ok_iload dX12_fewest_92, List.forall_mem_cons.mpr ⟨ok_bipush dX12_fewest_94 (by decide), List.forall_mem_cons.mpr ⟨ok_ic_ge dX12_fewest_96 (by decide), List.forall_mem_cons.mpr ⟨ok_iload dX12_fewest_99, List.forall_mem_cons.mpr ⟨ok_lload_n dX12_fewest_101 rfl, List.forall_mem_cons.mpr ⟨ok_iload dX12_fewest_102, List.forall_mem_cons.mpr ⟨ok_lshr dX12_fewest_104, List.forall_mem_cons.mpr ⟨ok_lconst dX12_fewest_105 (by decide), List.forall_mem_cons.mpr ⟨ok_land dX12_fewest_106, List.forall_mem_cons.mpr ⟨ok_lconst dX12_fewest_107 (by decide), List.forall_mem_cons.mpr ⟨ok_lcmp dX12_fewest_108, List.forall_mem_cons.mpr ⟨ok_if_ne dX12_fewest_109 (by decide), List.forall_mem_cons.mpr ⟨ok_iconst dX12_fewest_112 (by decide), List.forall_mem_cons.mpr ⟨ok_goto dX12_fewest_113 (by decide), List.forall_mem_cons.mpr ⟨ok_iconst dX12_fewest_116 (by decide), List.forall_mem_cons.mpr ⟨ok_iadd dX12_fewest_117, List.forall_mem_cons.mpr ⟨ok_istore dX12_fewest_118 (by decide), fun _ h => absurd h List.not_mem_nil⟩⟩⟩⟩⟩⟩⟩⟩⟩⟩⟩⟩⟩⟩⟩⟩⟩⟩⟩⟩⟩⟩⟩⟩
def kX12_fewest_3 : List (Nat × zT) := [(120, a_iinc 5 1 123), (123, a_goto 92), (126, a_iload 1 127), (127, a_if_ne 133 130), (130, a_iload 4 132), (132, a_iret false), (133, a_i 0 134), (134, a_istore 5 136), (136, a_i 11 138), (138, a_istore 6 140), (140, a_i 0 141), (141, a_istore 7 143), (143, a_iload 7 145), (145, a_i 1 146), (146, a_aload 0 147), (147, a_getI 12 33 150), (150, a_ii (fun x y => x <<< (y &&& 31)) 151), (151, a_ic_ge 219 154), (154, a_i 0 155), (155, a_istore 8 157), (157, a_i 0 158), (158, a_istore 9 160), (160, a_iload 9 162), (162, a_aload 0 163)]
theorem oX12_fewest_3 : ∀ q ∈ kX12_fewest_3, zSnd zty false RX12 cX12_fewest 10 (some .int) false q := List.forall_mem_cons.mpr ⟨ok_iinc dX12_fewest_120 (by decide) (by decide), List.forall_mem_cons.mpr ⟨ok_goto dX12_fewest_123 (by decide), List.forall_mem_cons.mpr ⟨ok_iload_n dX12_fewest_126 rfl, List.forall_mem_cons.mpr ⟨ok_if_ne dX12_fewest_127 (by decide), List.forall_mem_cons.mpr ⟨ok_iload dX12_fewest_130, List.forall_mem_cons.mpr ⟨ok_iret (bz := false) dX12_fewest_132 rfl, List.forall_mem_cons.mpr ⟨ok_iconst dX12_fewest_133 (by decide), List.forall_mem_cons.mpr ⟨ok_istore dX12_fewest_134 (by decide), List.forall_mem_cons.mpr ⟨ok_bipush dX12_fewest_136 (by decide), List.forall_mem_cons.mpr ⟨ok_istore dX12_fewest_138 (by decide), List.forall_mem_cons.mpr ⟨ok_iconst dX12_fewest_140 (by decide), List.forall_mem_cons.mpr ⟨ok_istore dX12_fewest_141 (by decide), List.forall_mem_cons.mpr ⟨ok_iload dX12_fewest_143, List.forall_mem_cons.mpr ⟨ok_iconst dX12_fewest_145 (by decide), List.forall_mem_cons.mpr ⟨ok_aload_n dX12_fewest_146 rfl, List.forall_mem_cons.mpr ⟨ok_getI dX12_fewest_147 rfl in12 (by decide) rfl w990, List.forall_mem_cons.mpr ⟨ok_ishl dX12_fewest_150, List.forall_mem_cons.mpr ⟨ok_ic_ge dX12_fewest_151 (by decide), List.forall_mem_cons.mpr ⟨ok_iconst dX12_fewest_154 (by decide), List.forall_mem_cons.mpr ⟨ok_istore dX12_fewest_155 (by decide), List.forall_mem_cons.mpr ⟨ok_iconst dX12_fewest_157 (by decide), List.forall_mem_cons.mpr ⟨ok_istore dX12_fewest_158 (by decide), List.forall_mem_cons.mpr ⟨ok_iload dX12_fewest_160, List.forall_mem_cons.mpr ⟨ok_aload_n dX12_fewest_162 rfl, fun _ h => absurd h List.not_mem_nil⟩⟩⟩⟩⟩⟩⟩⟩⟩⟩⟩⟩⟩⟩⟩⟩⟩⟩⟩⟩⟩⟩⟩⟩
def kX12_fewest_4 : List (Nat × zT) := [(163, a_getI 12 33 166), (166, a_ic_ge 187 169), (169, a_iload 8 171), (171, a_iload 7 173), (173, a_iload 9 175), (175, a_ii (fun x y => x >>> (y &&& 31)) 176), (176, a_i 1 177), (177, a_ii (fun x y => x &&& y) 178), (178, a_ii (fun x y => x + y) 179), (179, a_istore 8 181), (181, a_iinc 9 1 184), (184, a_goto 160), (187, a_iload 8 189), (189, a_iload 6 191), (191, a_ic_ge 213 194), (194, a_aload 0 195), (195, a_iload 7 197), (197, a_callV 12 204 2 200 0 0), (200, a_lload 2 201), (201, a_lcmp 202), (202, a_if_ne 213 205), (205, a_iload 8 207), (207, a_istore 6 209), (209, a_iload 7 211)]
theorem oX12_fewest_4 : ∀ q ∈ kX12_fewest_4, zSnd zty false RX12 cX12_fewest 10 (some .int) false q := List.forall_mem_cons.mpr ⟨ok_getI dX12_fewest_163 rfl in12 (by decide) rfl w990, List.forall_mem_cons.mpr ⟨ok_ic_ge dX12_fewest_166 (by decide), List.forall_mem_cons.mpr ⟨ok_iload dX12_fewest_169, List.forall_mem_cons.mpr ⟨ok_iload dX12_fewest_171, List.forall_mem_cons.mpr ⟨ok_iload dX12_fewest_173, List.forall_mem_cons.mpr ⟨ok_ishr dX12_fewest_175, List.forall_mem_cons.mpr ⟨ok_iconst dX12_fewest_176 (by decide), List.forall_mem_cons.mpr ⟨ok_iand dX12_fewest_177, List.forall_mem_cons.mpr ⟨ok_iadd dX12_fewest_178, List.forall_mem_cons.mpr ⟨ok_istore dX12_fewest_179 (by decide), List.forall_mem_cons.mpr ⟨ok_iinc dX12_fewest_181 (by decide) (by decide), List.forall_mem_cons.mpr ⟨ok_goto dX12_fewest_184 (by decide), List.forall_mem_cons.mpr ⟨ok_iload dX12_fewest_187, List.forall_mem_cons.mpr ⟨ok_iload dX12_fewest_189, List.forall_mem_cons.mpr ⟨ok_ic_ge dX12_fewest_191 (by decide), List.forall_mem_cons.mpr ⟨ok_aload_n dX12_fewest_194 rfl, List.forall_mem_cons.mpr ⟨ok_iload dX12_fewest_195, List.forall_mem_cons.mpr ⟨ok_callV dX12_fewest_197 rfl rfl w1347 w1344 w1346 w13 s51 (by decide +kernel) (by decide), List.forall_mem_cons.mpr ⟨ok_lload_n dX12_fewest_200 rfl, List.forall_mem_cons.mpr ⟨ok_lcmp dX12_fewest_201, List.forall_mem_cons.mpr ⟨ok_if_ne dX12_fewest_202 (by decide), List.forall_mem_cons.mpr ⟨ok_iload dX12_fewest_205, List.forall_mem_cons.mpr ⟨ok_istore dX12_fewest_207 (by decide), List.forall_mem_cons.mpr ⟨ok_iload dX12_fewest_209, fun _ h => absurd h List.not_mem_nil⟩⟩⟩⟩⟩⟩⟩⟩⟩⟩⟩⟩⟩⟩⟩⟩⟩⟩⟩⟩⟩⟩⟩⟩
def kX12_fewest_5 : List (Nat × zT) := [(211, a_istore 5 213), (213, a_iinc 7 1 216), (216, a_goto 143), (219, a_iload 5 221), (221, a_iret false)]
theorem oX12_fewest_5 : ∀ q ∈ kX12_fewest_5, zSnd zty false RX12 cX12_fewest 10 (some .int) false q := List.forall_mem_cons.mpr ⟨ok_istore dX12_fewest_211 (by decide), List.forall_mem_cons.mpr ⟨ok_iinc dX12_fewest_213 (by decide) (by decide), List.forall_mem_cons.mpr ⟨ok_goto dX12_fewest_216 (by decide), List.forall_mem_cons.mpr ⟨ok_iload dX12_fewest_219, List.forall_mem_cons.mpr ⟨ok_iret (bz := false) dX12_fewest_221 rfl, fun _ h => absurd h List.not_mem_nil⟩⟩⟩⟩⟩
def kX12_fewest : List (Nat × zT) := kX12_fewest_0 ++ (kX12_fewest_1 ++ (kX12_fewest_2 ++ (kX12_fewest_3 ++ (kX12_fewest_4 ++ (kX12_fewest_5)))))
theorem qX12_fewest_0 : ∀ q ∈ kX12_fewest_0, q ∈ kX12_fewest := fun _ h => (List.mem_append_left _ h)
theorem tX12_fewest_0 : (0, a_iload 1 1) ∈ kX12_fewest := qX12_fewest_0 _ (List.mem_of_getElem? (i := 0) rfl)
theorem tX12_fewest_1 : (1, a_i 0 2) ∈ kX12_fewest := qX12_fewest_0 _ (List.mem_of_getElem? (i := 1) rfl)
theorem tX12_fewest_2 : (2, a_i 1 3) ∈ kX12_fewest := qX12_fewest_0 _ (List.mem_of_getElem? (i := 2) rfl)
theorem tX12_fewest_3 : (3, a_call 138 3 6 0 0) ∈ kX12_fewest := qX12_fewest_0 _ (List.mem_of_getElem? (i := 3) rfl)
theorem tX12_fewest_6 : (6, a_if_ne 11 9) ∈ kX12_fewest := qX12_fewest_0 _ (List.mem_of_getElem? (i := 4) rfl)
theorem tX12_fewest_9 : (9, a_i (-1) 10) ∈ kX12_fewest := qX12_fewest_0 _ (List.mem_of_getElem? (i := 5) rfl)
theorem tX12_fewest_10 : (10, a_iret false) ∈ kX12_fewest := qX12_fewest_0 _ (List.mem_of_getElem? (i := 6) rfl)
theorem tX12_fewest_11 : (11, a_i 0 12) ∈ kX12_fewest := qX12_fewest_0 _ (List.mem_of_getElem? (i := 7) rfl)
theorem tX12_fewest_12 : (12, a_istore 2 13) ∈ kX12_fewest := qX12_fewest_0 _ (List.mem_of_getElem? (i := 8) rfl)
theorem tX12_fewest_13 : (13, a_iload 2 14) ∈ kX12_fewest := qX12_fewest_0 _ (List.mem_of_getElem? (i := 9) rfl)
theorem tX12_fewest_14 : (14, a_aload 0 15) ∈ kX12_fewest := qX12_fewest_0 _ (List.mem_of_getElem? (i := 10) rfl)
theorem tX12_fewest_15 : (15, a_getI 12 33 18) ∈ kX12_fewest := qX12_fewest_0 _ (List.mem_of_getElem? (i := 11) rfl)
theorem tX12_fewest_18 : (18, a_ic_ge 78 21) ∈ kX12_fewest := qX12_fewest_0 _ (List.mem_of_getElem? (i := 12) rfl)
theorem tX12_fewest_21 : (21, a_aload 0 22) ∈ kX12_fewest := qX12_fewest_0 _ (List.mem_of_getElem? (i := 13) rfl)
theorem tX12_fewest_22 : (22, a_getR 12 36 25) ∈ kX12_fewest := qX12_fewest_0 _ (List.mem_of_getElem? (i := 14) rfl)
theorem tX12_fewest_25 : (25, a_iload 2 26) ∈ kX12_fewest := qX12_fewest_0 _ (List.mem_of_getElem? (i := 15) rfl)
theorem tX12_fewest_26 : (26, a_l 0 27) ∈ kX12_fewest := qX12_fewest_0 _ (List.mem_of_getElem? (i := 16) rfl)
theorem tX12_fewest_27 : (27, a_last 28) ∈ kX12_fewest := qX12_fewest_0 _ (List.mem_of_getElem? (i := 17) rfl)
theorem tX12_fewest_28 : (28, a_i 0 29) ∈ kX12_fewest := qX12_fewest_0 _ (List.mem_of_getElem? (i := 18) rfl)
theorem tX12_fewest_29 : (29, a_istore 3 30) ∈ kX12_fewest := qX12_fewest_0 _ (List.mem_of_getElem? (i := 19) rfl)
theorem tX12_fewest_30 : (30, a_iload 3 31) ∈ kX12_fewest := qX12_fewest_0 _ (List.mem_of_getElem? (i := 20) rfl)
theorem tX12_fewest_31 : (31, a_i 38 33) ∈ kX12_fewest := qX12_fewest_0 _ (List.mem_of_getElem? (i := 21) rfl)
theorem tX12_fewest_33 : (33, a_ic_ge 72 36) ∈ kX12_fewest := qX12_fewest_0 _ (List.mem_of_getElem? (i := 22) rfl)
theorem tX12_fewest_36 : (36, a_aload 0 37) ∈ kX12_fewest := qX12_fewest_0 _ (List.mem_of_getElem? (i := 23) rfl)
theorem qX12_fewest_1 : ∀ q ∈ kX12_fewest_1, q ∈ kX12_fewest := fun _ h => (List.mem_append_right _ (List.mem_append_left _ h))
theorem tX12_fewest_37 : (37, a_getR 12 36 40) ∈ kX12_fewest := qX12_fewest_1 _ (List.mem_of_getElem? (i := 0) rfl)
theorem tX12_fewest_40 : (40, a_iload 2 41) ∈ kX12_fewest := qX12_fewest_1 _ (List.mem_of_getElem? (i := 1) rfl)
theorem tX12_fewest_41 : (41, a_dup2 42) ∈ kX12_fewest := qX12_fewest_1 _ (List.mem_of_getElem? (i := 2) rfl)
theorem tX12_fewest_42 : (42, a_lald 43) ∈ kX12_fewest := qX12_fewest_1 _ (List.mem_of_getElem? (i := 3) rfl)
theorem tX12_fewest_43 : (43, a_aload 0 44) ∈ kX12_fewest := qX12_fewest_1 _ (List.mem_of_getElem? (i := 4) rfl)
theorem tX12_fewest_44 : (44, a_iload 3 45) ∈ kX12_fewest := qX12_fewest_1 _ (List.mem_of_getElem? (i := 5) rfl)
theorem tX12_fewest_45 : (45, a_aload 0 46) ∈ kX12_fewest := qX12_fewest_1 _ (List.mem_of_getElem? (i := 6) rfl)
theorem tX12_fewest_46 : (46, a_getR 12 34 49) ∈ kX12_fewest := qX12_fewest_1 _ (List.mem_of_getElem? (i := 7) rfl)
theorem tX12_fewest_49 : (49, a_iload 2 50) ∈ kX12_fewest := qX12_fewest_1 _ (List.mem_of_getElem? (i := 8) rfl)
theorem tX12_fewest_50 : (50, a_iald 51) ∈ kX12_fewest := qX12_fewest_1 _ (List.mem_of_getElem? (i := 9) rfl)
theorem tX12_fewest_51 : (51, a_callV 12 199 3 54 0 0) ∈ kX12_fewest := qX12_fewest_1 _ (List.mem_of_getElem? (i := 10) rfl)
theorem tX12_fewest_54 : (54, a_if_eq 63 57) ∈ kX12_fewest := qX12_fewest_1 _ (List.mem_of_getElem? (i := 11) rfl)
theorem tX12_fewest_57 : (57, a_l 1 58) ∈ kX12_fewest := qX12_fewest_1 _ (List.mem_of_getElem? (i := 12) rfl)
theorem tX12_fewest_58 : (58, a_iload 3 59) ∈ kX12_fewest := qX12_fewest_1 _ (List.mem_of_getElem? (i := 13) rfl)
theorem tX12_fewest_59 : (59, a_li (fun x y => x <<< (y.toInt64 &&& 63)) 60) ∈ kX12_fewest := qX12_fewest_1 _ (List.mem_of_getElem? (i := 14) rfl)
theorem tX12_fewest_60 : (60, a_goto 64) ∈ kX12_fewest := qX12_fewest_1 _ (List.mem_of_getElem? (i := 15) rfl)
theorem tX12_fewest_63 : (63, a_l 0 64) ∈ kX12_fewest := qX12_fewest_1 _ (List.mem_of_getElem? (i := 16) rfl)
theorem tX12_fewest_64 : (64, a_ll (fun x y => x ||| y) 65) ∈ kX12_fewest := qX12_fewest_1 _ (List.mem_of_getElem? (i := 17) rfl)
theorem tX12_fewest_65 : (65, a_last 66) ∈ kX12_fewest := qX12_fewest_1 _ (List.mem_of_getElem? (i := 18) rfl)
theorem tX12_fewest_66 : (66, a_iinc 3 1 69) ∈ kX12_fewest := qX12_fewest_1 _ (List.mem_of_getElem? (i := 19) rfl)
theorem tX12_fewest_69 : (69, a_goto 30) ∈ kX12_fewest := qX12_fewest_1 _ (List.mem_of_getElem? (i := 20) rfl)
theorem tX12_fewest_72 : (72, a_iinc 2 1 75) ∈ kX12_fewest := qX12_fewest_1 _ (List.mem_of_getElem? (i := 21) rfl)
theorem tX12_fewest_75 : (75, a_goto 13) ∈ kX12_fewest := qX12_fewest_1 _ (List.mem_of_getElem? (i := 22) rfl)
theorem tX12_fewest_78 : (78, a_aload 0 79) ∈ kX12_fewest := qX12_fewest_1 _ (List.mem_of_getElem? (i := 23) rfl)
theorem qX12_fewest_2 : ∀ q ∈ kX12_fewest_2, q ∈ kX12_fewest := fun _ h => (List.mem_append_right _ (List.mem_append_right _ (List.mem_append_left _ h)))
theorem tX12_fewest_79 : (79, a_i 1023 82) ∈ kX12_fewest := qX12_fewest_2 _ (List.mem_of_getElem? (i := 0) rfl)
theorem tX12_fewest_82 : (82, a_callV 12 204 2 85 0 0) ∈ kX12_fewest := qX12_fewest_2 _ (List.mem_of_getElem? (i := 1) rfl)
theorem tX12_fewest_85 : (85, a_lstore 2 86) ∈ kX12_fewest := qX12_fewest_2 _ (List.mem_of_getElem? (i := 2) rfl)
theorem tX12_fewest_86 : (86, a_i 0 87) ∈ kX12_fewest := qX12_fewest_2 _ (List.mem_of_getElem? (i := 3) rfl)
theorem tX12_fewest_87 : (87, a_istore 4 89) ∈ kX12_fewest := qX12_fewest_2 _ (List.mem_of_getElem? (i := 4) rfl)
theorem tX12_fewest_89 : (89, a_i 0 90) ∈ kX12_fewest := qX12_fewest_2 _ (List.mem_of_getElem? (i := 5) rfl)
theorem tX12_fewest_90 : (90, a_istore 5 92) ∈ kX12_fewest := qX12_fewest_2 _ (List.mem_of_getElem? (i := 6) rfl)
theorem tX12_fewest_92 : (92, a_iload 5 94) ∈ kX12_fewest := qX12_fewest_2 _ (List.mem_of_getElem? (i := 7) rfl)
theorem tX12_fewest_94 : (94, a_i 38 96) ∈ kX12_fewest := qX12_fewest_2 _ (List.mem_of_getElem? (i := 8) rfl)
theorem tX12_fewest_96 : (96, a_ic_ge 126 99) ∈ kX12_fewest := qX12_fewest_2 _ (List.mem_of_getElem? (i := 9) rfl)
theorem tX12_fewest_99 : (99, a_iload 4 101) ∈ kX12_fewest := qX12_fewest_2 _ (List.mem_of_getElem? (i := 10) rfl)
theorem tX12_fewest_101 : (101, a_lload 2 102) ∈ kX12_fewest := qX12_fewest_2 _ (List.mem_of_getElem? (i := 11) rfl)
theorem tX12_fewest_102 : (102, a_iload 5 104) ∈ kX12_fewest := qX12_fewest_2 _ (List.mem_of_getElem? (i := 12) rfl)
theorem tX12_fewest_104 : (104, a_li (fun x y => x >>> (y.toInt64 &&& 63)) 105) ∈ kX12_fewest := qX12_fewest_2 _ (List.mem_of_getElem? (i := 13) rfl)
theorem tX12_fewest_105 : (105, a_l 1 106) ∈ kX12_fewest := qX12_fewest_2 _ (List.mem_of_getElem? (i := 14) rfl)
theorem tX12_fewest_106 : (106, a_ll (fun x y => x &&& y) 107) ∈ kX12_fewest := qX12_fewest_2 _ (List.mem_of_getElem? (i := 15) rfl)
theorem tX12_fewest_107 : (107, a_l 1 108) ∈ kX12_fewest := qX12_fewest_2 _ (List.mem_of_getElem? (i := 16) rfl)
theorem tX12_fewest_108 : (108, a_lcmp 109) ∈ kX12_fewest := qX12_fewest_2 _ (List.mem_of_getElem? (i := 17) rfl)
theorem tX12_fewest_109 : (109, a_if_ne 116 112) ∈ kX12_fewest := qX12_fewest_2 _ (List.mem_of_getElem? (i := 18) rfl)
theorem tX12_fewest_112 : (112, a_i 1 113) ∈ kX12_fewest := qX12_fewest_2 _ (List.mem_of_getElem? (i := 19) rfl)
theorem tX12_fewest_113 : (113, a_goto 117) ∈ kX12_fewest := qX12_fewest_2 _ (List.mem_of_getElem? (i := 20) rfl)
theorem tX12_fewest_116 : (116, a_i 0 117) ∈ kX12_fewest := qX12_fewest_2 _ (List.mem_of_getElem? (i := 21) rfl)
theorem tX12_fewest_117 : (117, a_ii (fun x y => x + y) 118) ∈ kX12_fewest := qX12_fewest_2 _ (List.mem_of_getElem? (i := 22) rfl)
theorem tX12_fewest_118 : (118, a_istore 4 120) ∈ kX12_fewest := qX12_fewest_2 _ (List.mem_of_getElem? (i := 23) rfl)
theorem qX12_fewest_3 : ∀ q ∈ kX12_fewest_3, q ∈ kX12_fewest := fun _ h => (List.mem_append_right _ (List.mem_append_right _ (List.mem_append_right _ (List.mem_append_left _ h))))
theorem tX12_fewest_120 : (120, a_iinc 5 1 123) ∈ kX12_fewest := qX12_fewest_3 _ (List.mem_of_getElem? (i := 0) rfl)
theorem tX12_fewest_123 : (123, a_goto 92) ∈ kX12_fewest := qX12_fewest_3 _ (List.mem_of_getElem? (i := 1) rfl)
theorem tX12_fewest_126 : (126, a_iload 1 127) ∈ kX12_fewest := qX12_fewest_3 _ (List.mem_of_getElem? (i := 2) rfl)
theorem tX12_fewest_127 : (127, a_if_ne 133 130) ∈ kX12_fewest := qX12_fewest_3 _ (List.mem_of_getElem? (i := 3) rfl)
theorem tX12_fewest_130 : (130, a_iload 4 132) ∈ kX12_fewest := qX12_fewest_3 _ (List.mem_of_getElem? (i := 4) rfl)
theorem tX12_fewest_132 : (132, a_iret false) ∈ kX12_fewest := qX12_fewest_3 _ (List.mem_of_getElem? (i := 5) rfl)
theorem tX12_fewest_133 : (133, a_i 0 134) ∈ kX12_fewest := qX12_fewest_3 _ (List.mem_of_getElem? (i := 6) rfl)
theorem tX12_fewest_134 : (134, a_istore 5 136) ∈ kX12_fewest := qX12_fewest_3 _ (List.mem_of_getElem? (i := 7) rfl)
theorem tX12_fewest_136 : (136, a_i 11 138) ∈ kX12_fewest := qX12_fewest_3 _ (List.mem_of_getElem? (i := 8) rfl)
theorem tX12_fewest_138 : (138, a_istore 6 140) ∈ kX12_fewest := qX12_fewest_3 _ (List.mem_of_getElem? (i := 9) rfl)
theorem tX12_fewest_140 : (140, a_i 0 141) ∈ kX12_fewest := qX12_fewest_3 _ (List.mem_of_getElem? (i := 10) rfl)
theorem tX12_fewest_141 : (141, a_istore 7 143) ∈ kX12_fewest := qX12_fewest_3 _ (List.mem_of_getElem? (i := 11) rfl)
theorem tX12_fewest_143 : (143, a_iload 7 145) ∈ kX12_fewest := qX12_fewest_3 _ (List.mem_of_getElem? (i := 12) rfl)
theorem tX12_fewest_145 : (145, a_i 1 146) ∈ kX12_fewest := qX12_fewest_3 _ (List.mem_of_getElem? (i := 13) rfl)
theorem tX12_fewest_146 : (146, a_aload 0 147) ∈ kX12_fewest := qX12_fewest_3 _ (List.mem_of_getElem? (i := 14) rfl)
theorem tX12_fewest_147 : (147, a_getI 12 33 150) ∈ kX12_fewest := qX12_fewest_3 _ (List.mem_of_getElem? (i := 15) rfl)
theorem tX12_fewest_150 : (150, a_ii (fun x y => x <<< (y &&& 31)) 151) ∈ kX12_fewest := qX12_fewest_3 _ (List.mem_of_getElem? (i := 16) rfl)
theorem tX12_fewest_151 : (151, a_ic_ge 219 154) ∈ kX12_fewest := qX12_fewest_3 _ (List.mem_of_getElem? (i := 17) rfl)
theorem tX12_fewest_154 : (154, a_i 0 155) ∈ kX12_fewest := qX12_fewest_3 _ (List.mem_of_getElem? (i := 18) rfl)
theorem tX12_fewest_155 : (155, a_istore 8 157) ∈ kX12_fewest := qX12_fewest_3 _ (List.mem_of_getElem? (i := 19) rfl)
theorem tX12_fewest_157 : (157, a_i 0 158) ∈ kX12_fewest := qX12_fewest_3 _ (List.mem_of_getElem? (i := 20) rfl)
theorem tX12_fewest_158 : (158, a_istore 9 160) ∈ kX12_fewest := qX12_fewest_3 _ (List.mem_of_getElem? (i := 21) rfl)
theorem tX12_fewest_160 : (160, a_iload 9 162) ∈ kX12_fewest := qX12_fewest_3 _ (List.mem_of_getElem? (i := 22) rfl)
theorem tX12_fewest_162 : (162, a_aload 0 163) ∈ kX12_fewest := qX12_fewest_3 _ (List.mem_of_getElem? (i := 23) rfl)
theorem qX12_fewest_4 : ∀ q ∈ kX12_fewest_4, q ∈ kX12_fewest := fun _ h => (List.mem_append_right _ (List.mem_append_right _ (List.mem_append_right _ (List.mem_append_right _ (List.mem_append_left _ h)))))
theorem tX12_fewest_163 : (163, a_getI 12 33 166) ∈ kX12_fewest := qX12_fewest_4 _ (List.mem_of_getElem? (i := 0) rfl)
theorem tX12_fewest_166 : (166, a_ic_ge 187 169) ∈ kX12_fewest := qX12_fewest_4 _ (List.mem_of_getElem? (i := 1) rfl)
theorem tX12_fewest_169 : (169, a_iload 8 171) ∈ kX12_fewest := qX12_fewest_4 _ (List.mem_of_getElem? (i := 2) rfl)
theorem tX12_fewest_171 : (171, a_iload 7 173) ∈ kX12_fewest := qX12_fewest_4 _ (List.mem_of_getElem? (i := 3) rfl)
theorem tX12_fewest_173 : (173, a_iload 9 175) ∈ kX12_fewest := qX12_fewest_4 _ (List.mem_of_getElem? (i := 4) rfl)
theorem tX12_fewest_175 : (175, a_ii (fun x y => x >>> (y &&& 31)) 176) ∈ kX12_fewest := qX12_fewest_4 _ (List.mem_of_getElem? (i := 5) rfl)
theorem tX12_fewest_176 : (176, a_i 1 177) ∈ kX12_fewest := qX12_fewest_4 _ (List.mem_of_getElem? (i := 6) rfl)
theorem tX12_fewest_177 : (177, a_ii (fun x y => x &&& y) 178) ∈ kX12_fewest := qX12_fewest_4 _ (List.mem_of_getElem? (i := 7) rfl)
theorem tX12_fewest_178 : (178, a_ii (fun x y => x + y) 179) ∈ kX12_fewest := qX12_fewest_4 _ (List.mem_of_getElem? (i := 8) rfl)
theorem tX12_fewest_179 : (179, a_istore 8 181) ∈ kX12_fewest := qX12_fewest_4 _ (List.mem_of_getElem? (i := 9) rfl)
theorem tX12_fewest_181 : (181, a_iinc 9 1 184) ∈ kX12_fewest := qX12_fewest_4 _ (List.mem_of_getElem? (i := 10) rfl)
theorem tX12_fewest_184 : (184, a_goto 160) ∈ kX12_fewest := qX12_fewest_4 _ (List.mem_of_getElem? (i := 11) rfl)
theorem tX12_fewest_187 : (187, a_iload 8 189) ∈ kX12_fewest := qX12_fewest_4 _ (List.mem_of_getElem? (i := 12) rfl)
theorem tX12_fewest_189 : (189, a_iload 6 191) ∈ kX12_fewest := qX12_fewest_4 _ (List.mem_of_getElem? (i := 13) rfl)
theorem tX12_fewest_191 : (191, a_ic_ge 213 194) ∈ kX12_fewest := qX12_fewest_4 _ (List.mem_of_getElem? (i := 14) rfl)
theorem tX12_fewest_194 : (194, a_aload 0 195) ∈ kX12_fewest := qX12_fewest_4 _ (List.mem_of_getElem? (i := 15) rfl)
theorem tX12_fewest_195 : (195, a_iload 7 197) ∈ kX12_fewest := qX12_fewest_4 _ (List.mem_of_getElem? (i := 16) rfl)
theorem tX12_fewest_197 : (197, a_callV 12 204 2 200 0 0) ∈ kX12_fewest := qX12_fewest_4 _ (List.mem_of_getElem? (i := 17) rfl)
theorem tX12_fewest_200 : (200, a_lload 2 201) ∈ kX12_fewest := qX12_fewest_4 _ (List.mem_of_getElem? (i := 18) rfl)
theorem tX12_fewest_201 : (201, a_lcmp 202) ∈ kX12_fewest := qX12_fewest_4 _ (List.mem_of_getElem? (i := 19) rfl)
theorem tX12_fewest_202 : (202, a_if_ne 213 205) ∈ kX12_fewest := qX12_fewest_4 _ (List.mem_of_getElem? (i := 20) rfl)
theorem tX12_fewest_205 : (205, a_iload 8 207) ∈ kX12_fewest := qX12_fewest_4 _ (List.mem_of_getElem? (i := 21) rfl)
theorem tX12_fewest_207 : (207, a_istore 6 209) ∈ kX12_fewest := qX12_fewest_4 _ (List.mem_of_getElem? (i := 22) rfl)
theorem tX12_fewest_209 : (209, a_iload 7 211) ∈ kX12_fewest := qX12_fewest_4 _ (List.mem_of_getElem? (i := 23) rfl)
theorem qX12_fewest_5 : ∀ q ∈ kX12_fewest_5, q ∈ kX12_fewest := fun _ h => (List.mem_append_right _ (List.mem_append_right _ (List.mem_append_right _ (List.mem_append_right _ (List.mem_append_right _ h)))))
theorem tX12_fewest_211 : (211, a_istore 5 213) ∈ kX12_fewest := qX12_fewest_5 _ (List.mem_of_getElem? (i := 0) rfl)
theorem tX12_fewest_213 : (213, a_iinc 7 1 216) ∈ kX12_fewest := qX12_fewest_5 _ (List.mem_of_getElem? (i := 1) rfl)
theorem tX12_fewest_216 : (216, a_goto 143) ∈ kX12_fewest := qX12_fewest_5 _ (List.mem_of_getElem? (i := 2) rfl)
theorem tX12_fewest_219 : (219, a_iload 5 221) ∈ kX12_fewest := qX12_fewest_5 _ (List.mem_of_getElem? (i := 3) rfl)
theorem tX12_fewest_221 : (221, a_iret false) ∈ kX12_fewest := qX12_fewest_5 _ (List.mem_of_getElem? (i := 4) rfl)
theorem oX12_fewest : ∀ q ∈ kX12_fewest, zSnd zty false RX12 cX12_fewest 10 (some .int) false q := List.forall_mem_append.mpr ⟨oX12_fewest_0, List.forall_mem_append.mpr ⟨oX12_fewest_1, List.forall_mem_append.mpr ⟨oX12_fewest_2, List.forall_mem_append.mpr ⟨oX12_fewest_3, List.forall_mem_append.mpr ⟨oX12_fewest_4, oX12_fewest_5⟩⟩⟩⟩⟩
theorem dX12_see_0 : decode cX12_see 0 = .ok (.iload_n 1, 1) := by decide +kernel
theorem dX12_see_1 : decode cX12_see 1 = .ok (.iconst 0, 1) := by decide +kernel
theorem dX12_see_2 : decode cX12_see 2 = .ok (.aload_n 0, 1) := by decide +kernel
theorem dX12_see_3 : decode cX12_see 3 = .ok (.getfield 246, 3) := by decide +kernel
theorem dX12_see_6 : decode cX12_see 6 = .ok (.iconst 1, 1) := by decide +kernel
theorem dX12_see_7 : decode cX12_see 7 = .ok (.isub, 1) := by decide +kernel
theorem dX12_see_8 : decode cX12_see 8 = .ok (.invokestatic 112, 3) := by decide +kernel
theorem dX12_see_11 : decode cX12_see 11 = .ok (.ifCond .eq 19, 3) := by decide +kernel
theorem dX12_see_14 : decode cX12_see 14 = .ok (.iload_n 2, 1) := by decide +kernel
theorem dX12_see_15 : decode cX12_see 15 = .ok (.iconst (-1), 1) := by decide +kernel
theorem dX12_see_16 : decode cX12_see 16 = .ok (.if_icmp .eq 17, 3) := by decide +kernel
theorem dX12_see_19 : decode cX12_see 19 = .ok (.iload_n 2, 1) := by decide +kernel
theorem dX12_see_20 : decode cX12_see 20 = .ok (.ifCond .lt 10, 3) := by decide +kernel
theorem dX12_see_23 : decode cX12_see 23 = .ok (.iload_n 2, 1) := by decide +kernel
theorem dX12_see_24 : decode cX12_see 24 = .ok (.ldc 239, 2) := by decide +kernel
theorem dX12_see_26 : decode cX12_see 26 = .ok (.iand, 1) := by decide +kernel
theorem dX12_see_27 : decode cX12_see 27 = .ok (.ifCond .eq 6, 3) := by decide +kernel
theorem dX12_see_30 : decode cX12_see 30 = .ok (.bipush (-100), 2) := by decide +kernel
theorem dX12_see_32 : decode cX12_see 32 = .ok (.ireturn, 1) := by decide +kernel
theorem dX12_see_33 : decode cX12_see 33 = .ok (.aload_n 0, 1) := by decide +kernel
theorem dX12_see_34 : decode cX12_see 34 = .ok (.getfield 98, 3) := by decide +kernel
theorem dX12_see_37 : decode cX12_see 37 = .ok (.iload_n 1, 1) := by decide +kernel
theorem dX12_see_38 : decode cX12_see 38 = .ok (.iaload, 1) := by decide +kernel
theorem dX12_see_39 : decode cX12_see 39 = .ok (.istore_n 3, 1) := by decide +kernel
theorem dX12_see_40 : decode cX12_see 40 = .ok (.aload_n 0, 1) := by decide +kernel
theorem dX12_see_41 : decode cX12_see 41 = .ok (.getfield 98, 3) := by decide +kernel
theorem dX12_see_44 : decode cX12_see 44 = .ok (.iload_n 1, 1) := by decide +kernel
theorem dX12_see_45 : decode cX12_see 45 = .ok (.iload_n 2, 1) := by decide +kernel
theorem dX12_see_46 : decode cX12_see 46 = .ok (.iastore, 1) := by decide +kernel
theorem dX12_see_47 : decode cX12_see 47 = .ok (.iload_n 3, 1) := by decide +kernel
theorem dX12_see_48 : decode cX12_see 48 = .ok (.ireturn, 1) := by decide +kernel
def kX12_see_0 : List (Nat × zT) := [(0, a_iload 1 1), (1, a_i 0 2), (2, a_aload 0 3), (3, a_getI 12 33 6), (6, a_i 1 7), (7, a_ii (fun x y => x - y) 8), (8, a_call 138 3 11 0 0), (11, a_if_eq 30 14), (14, a_iload 2 15), (15, a_i (-1) 16), (16, a_ic_eq 33 19), (19, a_iload 2 20), (20, a_if_lt 30 23), (23, a_iload 2 24), (24, a_i (-524225) 26), (26, a_ii (fun x y => x &&& y) 27), (27, a_if_eq 33 30), (30, a_i (-100) 32), (32, a_iret false), (33, a_aload 0 34), (34, a_getR 12 35 37), (37, a_iload 1 38), (38, a_iald 39), (39, a_istore 3 40)]
theorem oX12_see_0 : ∀ q ∈ kX12_see_0, zSnd zty false RX12 cX12_see 4 (some .int) false q := List.forall_mem_cons.mpr ⟨ok_iload_n dX12_see_0 rfl, List.forall_mem_cons.mpr ⟨ok_iconst dX12_see_1 (by decide), List.forall_mem_cons.mpr ⟨ok_aload_n dX12_see_2 rfl, List.forall_mem_cons.mpr ⟨ok_getI dX12_see_3 rfl in12 (by decide) rfl w990, List.forall_mem_cons.mpr ⟨ok_iconst dX12_see_6 (by decide), List.forall_mem_cons.mpr ⟨ok_isub dX12_see_7, List.forall_mem_cons.mpr ⟨ok_callS dX12_see_8 rfl w1084 w1082 w1083 w13 (by decide +kernel) (by decide), List.forall_mem_cons.mpr ⟨ok_if_eq dX12_see_11 (by decide), List.forall_mem_cons.mpr ⟨ok_iload_n dX12_see_14 rfl, List.forall_mem_cons.mpr ⟨ok_iconst dX12_see_15 (by decide), List.forall_mem_cons.mpr ⟨ok_ic_eq dX12_see_16 (by decide), List.forall_mem_cons.mpr ⟨ok_iload_n dX12_see_19 rfl, List.forall_mem_cons.mpr ⟨ok_if_lt dX12_see_20 (by decide), List.forall_mem_cons.mpr ⟨ok_iload_n dX12_see_23 rfl, List.forall_mem_cons.mpr ⟨ok_ldc dX12_see_24 w1315, List.forall_mem_cons.mpr ⟨ok_iand dX12_see_26, List.forall_mem_cons.mpr ⟨ok_if_eq dX12_see_27 (by decide), List.forall_mem_cons.mpr ⟨ok_bipush dX12_see_30 (by decide), List.forall_mem_cons.mpr ⟨ok_iret (bz := false) dX12_see_32 rfl, List.forall_mem_cons.mpr ⟨ok_aload_n dX12_see_33 rfl, List.forall_mem_cons.mpr ⟨ok_getR dX12_see_34 rfl in12 (by decide) rfl w992, List.forall_mem_cons.mpr ⟨ok_iload_n dX12_see_37 rfl, List.forall_mem_cons.mpr ⟨ok_iald dX12_see_38, List.forall_mem_cons.mpr ⟨ok_istore_n dX12_see_39 rfl (by decide), fun _ h => absurd h List.not_mem_nil⟩⟩⟩⟩⟩⟩⟩⟩⟩⟩⟩⟩⟩⟩⟩⟩⟩⟩⟩⟩⟩⟩⟩⟩
def kX12_see_1 : List (Nat × zT) := [(40, a_aload 0 41), (41, a_getR 12 35 44), (44, a_iload 1 45), (45, a_iload 2 46), (46, a_iast 47), (47, a_iload 3 48), (48, a_iret false)]
theorem oX12_see_1 : ∀ q ∈ kX12_see_1, zSnd zty false RX12 cX12_see 4 (some .int) false q := List.forall_mem_cons.mpr ⟨ok_aload_n dX12_see_40 rfl, List.forall_mem_cons.mpr ⟨ok_getR dX12_see_41 rfl in12 (by decide) rfl w992, List.forall_mem_cons.mpr ⟨ok_iload_n dX12_see_44 rfl, List.forall_mem_cons.mpr ⟨ok_iload_n dX12_see_45 rfl, List.forall_mem_cons.mpr ⟨ok_iast dX12_see_46, List.forall_mem_cons.mpr ⟨ok_iload_n dX12_see_47 rfl, List.forall_mem_cons.mpr ⟨ok_iret (bz := false) dX12_see_48 rfl, fun _ h => absurd h List.not_mem_nil⟩⟩⟩⟩⟩⟩⟩
def kX12_see : List (Nat × zT) := kX12_see_0 ++ (kX12_see_1)
theorem qX12_see_0 : ∀ q ∈ kX12_see_0, q ∈ kX12_see := fun _ h => (List.mem_append_left _ h)
theorem tX12_see_0 : (0, a_iload 1 1) ∈ kX12_see := qX12_see_0 _ (List.mem_of_getElem? (i := 0) rfl)
theorem tX12_see_1 : (1, a_i 0 2) ∈ kX12_see := qX12_see_0 _ (List.mem_of_getElem? (i := 1) rfl)
theorem tX12_see_2 : (2, a_aload 0 3) ∈ kX12_see := qX12_see_0 _ (List.mem_of_getElem? (i := 2) rfl)
theorem tX12_see_3 : (3, a_getI 12 33 6) ∈ kX12_see := qX12_see_0 _ (List.mem_of_getElem? (i := 3) rfl)
theorem tX12_see_6 : (6, a_i 1 7) ∈ kX12_see := qX12_see_0 _ (List.mem_of_getElem? (i := 4) rfl)
theorem tX12_see_7 : (7, a_ii (fun x y => x - y) 8) ∈ kX12_see := qX12_see_0 _ (List.mem_of_getElem? (i := 5) rfl)
theorem tX12_see_8 : (8, a_call 138 3 11 0 0) ∈ kX12_see := qX12_see_0 _ (List.mem_of_getElem? (i := 6) rfl)
theorem tX12_see_11 : (11, a_if_eq 30 14) ∈ kX12_see := qX12_see_0 _ (List.mem_of_getElem? (i := 7) rfl)
theorem tX12_see_14 : (14, a_iload 2 15) ∈ kX12_see := qX12_see_0 _ (List.mem_of_getElem? (i := 8) rfl)
theorem tX12_see_15 : (15, a_i (-1) 16) ∈ kX12_see := qX12_see_0 _ (List.mem_of_getElem? (i := 9) rfl)
theorem tX12_see_16 : (16, a_ic_eq 33 19) ∈ kX12_see := qX12_see_0 _ (List.mem_of_getElem? (i := 10) rfl)
theorem tX12_see_19 : (19, a_iload 2 20) ∈ kX12_see := qX12_see_0 _ (List.mem_of_getElem? (i := 11) rfl)
theorem tX12_see_20 : (20, a_if_lt 30 23) ∈ kX12_see := qX12_see_0 _ (List.mem_of_getElem? (i := 12) rfl)
theorem tX12_see_23 : (23, a_iload 2 24) ∈ kX12_see := qX12_see_0 _ (List.mem_of_getElem? (i := 13) rfl)
theorem tX12_see_24 : (24, a_i (-524225) 26) ∈ kX12_see := qX12_see_0 _ (List.mem_of_getElem? (i := 14) rfl)
theorem tX12_see_26 : (26, a_ii (fun x y => x &&& y) 27) ∈ kX12_see := qX12_see_0 _ (List.mem_of_getElem? (i := 15) rfl)
theorem tX12_see_27 : (27, a_if_eq 33 30) ∈ kX12_see := qX12_see_0 _ (List.mem_of_getElem? (i := 16) rfl)
theorem tX12_see_30 : (30, a_i (-100) 32) ∈ kX12_see := qX12_see_0 _ (List.mem_of_getElem? (i := 17) rfl)
theorem tX12_see_32 : (32, a_iret false) ∈ kX12_see := qX12_see_0 _ (List.mem_of_getElem? (i := 18) rfl)
theorem tX12_see_33 : (33, a_aload 0 34) ∈ kX12_see := qX12_see_0 _ (List.mem_of_getElem? (i := 19) rfl)
theorem tX12_see_34 : (34, a_getR 12 35 37) ∈ kX12_see := qX12_see_0 _ (List.mem_of_getElem? (i := 20) rfl)
theorem tX12_see_37 : (37, a_iload 1 38) ∈ kX12_see := qX12_see_0 _ (List.mem_of_getElem? (i := 21) rfl)
theorem tX12_see_38 : (38, a_iald 39) ∈ kX12_see := qX12_see_0 _ (List.mem_of_getElem? (i := 22) rfl)
theorem tX12_see_39 : (39, a_istore 3 40) ∈ kX12_see := qX12_see_0 _ (List.mem_of_getElem? (i := 23) rfl)
theorem qX12_see_1 : ∀ q ∈ kX12_see_1, q ∈ kX12_see := fun _ h => (List.mem_append_right _ h)
theorem tX12_see_40 : (40, a_aload 0 41) ∈ kX12_see := qX12_see_1 _ (List.mem_of_getElem? (i := 0) rfl)
theorem tX12_see_41 : (41, a_getR 12 35 44) ∈ kX12_see := qX12_see_1 _ (List.mem_of_getElem? (i := 1) rfl)
theorem tX12_see_44 : (44, a_iload 1 45) ∈ kX12_see := qX12_see_1 _ (List.mem_of_getElem? (i := 2) rfl)
theorem tX12_see_45 : (45, a_iload 2 46) ∈ kX12_see := qX12_see_1 _ (List.mem_of_getElem? (i := 3) rfl)
theorem tX12_see_46 : (46, a_iast 47) ∈ kX12_see := qX12_see_1 _ (List.mem_of_getElem? (i := 4) rfl)
theorem tX12_see_47 : (47, a_iload 3 48) ∈ kX12_see := qX12_see_1 _ (List.mem_of_getElem? (i := 5) rfl)
theorem tX12_see_48 : (48, a_iret false) ∈ kX12_see := qX12_see_1 _ (List.mem_of_getElem? (i := 6) rfl)
theorem oX12_see : ∀ q ∈ kX12_see, zSnd zty false RX12 cX12_see 4 (some .int) false q := List.forall_mem_append.mpr ⟨oX12_see_0, oX12_see_1⟩
theorem dX12_failsAt_0 : decode cX12_failsAt 0 = .ok (.iload_n 1, 1) := by decide +kernel
theorem dX12_failsAt_1 : decode cX12_failsAt 1 = .ok (.bipush 38, 2) := by decide +kernel
theorem dX12_failsAt_3 : decode cX12_failsAt 3 = .ok (.if_icmp .ne 7, 3) := by decide +kernel
theorem dX12_failsAt_6 : decode cX12_failsAt 6 = .ok (.iconst 0, 1) := by decide +kernel
theorem dX12_failsAt_7 : decode cX12_failsAt 7 = .ok (.goto 14, 3) := by decide +kernel
theorem dX12_failsAt_10 : decode cX12_failsAt 10 = .ok (.aload_n 0, 1) := by decide +kernel
theorem dX12_failsAt_11 : decode cX12_failsAt 11 = .ok (.iload_n 1, 1) := by decide +kernel
theorem dX12_failsAt_12 : decode cX12_failsAt 12 = .ok (.aload_n 0, 1) := by decide +kernel
theorem dX12_failsAt_13 : decode cX12_failsAt 13 = .ok (.getfield 95, 3) := by decide +kernel
theorem dX12_failsAt_16 : decode cX12_failsAt 16 = .ok (.iload_n 2, 1) := by decide +kernel
theorem dX12_failsAt_17 : decode cX12_failsAt 17 = .ok (.iaload, 1) := by decide +kernel
theorem dX12_failsAt_18 : decode cX12_failsAt 18 = .ok (.invokevirtual 243, 3) := by decide +kernel
theorem dX12_failsAt_21 : decode cX12_failsAt 21 = .ok (.ireturn, 1) := by decide +kernel
def kX12_failsAt_0 : List (Nat × zT) := [(0, a_iload 1 1), (1, a_i 38 3), (3, a_ic_ne 10 6), (6, a_i 0 7), (7, a_goto 21), (10, a_aload 0 11), (11, a_iload 1 12), (12, a_aload 0 13), (13, a_getR 12 34 16), (16, a_iload 2 17), (17, a_iald 18), (18, a_callV 12 199 3 21 0 0), (21, a_iret false)]
theorem oX12_failsAt_0 : ∀ q ∈ kX12_failsAt_0, zSnd zty false RX12 cX12_failsAt 3 (some .int) false q := List.forall_mem_cons.mpr ⟨ok_iload_n dX12_failsAt_0 rfl, List.forall_mem_cons.mpr ⟨ok_bipush dX12_failsAt_1 (by decide), List.forall_mem_cons.mpr ⟨ok_ic_ne dX12_failsAt_3 (by decide), List.forall_mem_cons.mpr ⟨ok_iconst dX12_failsAt_6 (by decide), List.forall_mem_cons.mpr ⟨ok_goto dX12_failsAt_7 (by decide), List.forall_mem_cons.mpr ⟨ok_aload_n dX12_failsAt_10 rfl, List.forall_mem_cons.mpr ⟨ok_iload_n dX12_failsAt_11 rfl, List.forall_mem_cons.mpr ⟨ok_aload_n dX12_failsAt_12 rfl, List.forall_mem_cons.mpr ⟨ok_getR dX12_failsAt_13 rfl in12 (by decide) rfl w991, List.forall_mem_cons.mpr ⟨ok_iload_n dX12_failsAt_16 rfl, List.forall_mem_cons.mpr ⟨ok_iald dX12_failsAt_17, List.forall_mem_cons.mpr ⟨ok_callV dX12_failsAt_18 rfl rfl w1323 w1320 w1322 w13 s49 (by decide +kernel) (by decide), List.forall_mem_cons.mpr ⟨ok_iret (bz := false) dX12_failsAt_21 rfl, fun _ h => absurd h List.not_mem_nil⟩⟩⟩⟩⟩⟩⟩⟩⟩⟩⟩⟩⟩
def kX12_failsAt : List (Nat × zT) := kX12_failsAt_0
theorem qX12_failsAt_0 : ∀ q ∈ kX12_failsAt_0, q ∈ kX12_failsAt := fun _ h => h
theorem tX12_failsAt_0 : (0, a_iload 1 1) ∈ kX12_failsAt := qX12_failsAt_0 _ (List.mem_of_getElem? (i := 0) rfl)
theorem tX12_failsAt_1 : (1, a_i 38 3) ∈ kX12_failsAt := qX12_failsAt_0 _ (List.mem_of_getElem? (i := 1) rfl)
theorem tX12_failsAt_3 : (3, a_ic_ne 10 6) ∈ kX12_failsAt := qX12_failsAt_0 _ (List.mem_of_getElem? (i := 2) rfl)
theorem tX12_failsAt_6 : (6, a_i 0 7) ∈ kX12_failsAt := qX12_failsAt_0 _ (List.mem_of_getElem? (i := 3) rfl)
theorem tX12_failsAt_7 : (7, a_goto 21) ∈ kX12_failsAt := qX12_failsAt_0 _ (List.mem_of_getElem? (i := 4) rfl)
theorem tX12_failsAt_10 : (10, a_aload 0 11) ∈ kX12_failsAt := qX12_failsAt_0 _ (List.mem_of_getElem? (i := 5) rfl)
theorem tX12_failsAt_11 : (11, a_iload 1 12) ∈ kX12_failsAt := qX12_failsAt_0 _ (List.mem_of_getElem? (i := 6) rfl)
theorem tX12_failsAt_12 : (12, a_aload 0 13) ∈ kX12_failsAt := qX12_failsAt_0 _ (List.mem_of_getElem? (i := 7) rfl)
theorem tX12_failsAt_13 : (13, a_getR 12 34 16) ∈ kX12_failsAt := qX12_failsAt_0 _ (List.mem_of_getElem? (i := 8) rfl)
theorem tX12_failsAt_16 : (16, a_iload 2 17) ∈ kX12_failsAt := qX12_failsAt_0 _ (List.mem_of_getElem? (i := 9) rfl)
theorem tX12_failsAt_17 : (17, a_iald 18) ∈ kX12_failsAt := qX12_failsAt_0 _ (List.mem_of_getElem? (i := 10) rfl)
theorem tX12_failsAt_18 : (18, a_callV 12 199 3 21 0 0) ∈ kX12_failsAt := qX12_failsAt_0 _ (List.mem_of_getElem? (i := 11) rfl)
theorem tX12_failsAt_21 : (21, a_iret false) ∈ kX12_failsAt := qX12_failsAt_0 _ (List.mem_of_getElem? (i := 12) rfl)
theorem oX12_failsAt : ∀ q ∈ kX12_failsAt, zSnd zty false RX12 cX12_failsAt 3 (some .int) false q := oX12_failsAt_0
theorem dX12_isSo_0 : decode cX12_isSo 0 = .ok (.iconst 1, 1) := by decide +kernel
theorem dX12_isSo_1 : decode cX12_isSo 1 = .ok (.istore_n 2, 1) := by decide +kernel
theorem dX12_isSo_2 : decode cX12_isSo 2 = .ok (.iconst 0, 1) := by decide +kernel
theorem dX12_isSo_3 : decode cX12_isSo 3 = .ok (.istore_n 3, 1) := by decide +kernel
theorem dX12_isSo_4 : decode cX12_isSo 4 = .ok (.iload_n 3, 1) := by decide +kernel
theorem dX12_isSo_5 : decode cX12_isSo 5 = .ok (.aload_n 0, 1) := by decide +kernel
theorem dX12_isSo_6 : decode cX12_isSo 6 = .ok (.getfield 246, 3) := by decide +kernel
theorem dX12_isSo_9 : decode cX12_isSo 9 = .ok (.if_icmp .ge 44, 3) := by decide +kernel
theorem dX12_isSo_12 : decode cX12_isSo 12 = .ok (.iload_n 2, 1) := by decide +kernel
theorem dX12_isSo_13 : decode cX12_isSo 13 = .ok (.ifCond .eq 40, 3) := by decide +kernel
theorem dX12_isSo_16 : decode cX12_isSo 16 = .ok (.aload_n 0, 1) := by decide +kernel
theorem dX12_isSo_17 : decode cX12_isSo 17 = .ok (.getfield 98, 3) := by decide +kernel
theorem dX12_isSo_20 : decode cX12_isSo 20 = .ok (.iload_n 3, 1) := by decide +kernel
theorem dX12_isSo_21 : decode cX12_isSo 21 = .ok (.iaload, 1) := by decide +kernel
theorem dX12_isSo_22 : decode cX12_isSo 22 = .ok (.iconst (-1), 1) := by decide +kernel
theorem dX12_isSo_23 : decode cX12_isSo 23 = .ok (.if_icmp .eq 18, 3) := by decide +kernel
theorem dX12_isSo_26 : decode cX12_isSo 26 = .ok (.aload_n 0, 1) := by decide +kernel
theorem dX12_isSo_27 : decode cX12_isSo 27 = .ok (.iload_n 1, 1) := by decide +kernel
theorem dX12_isSo_28 : decode cX12_isSo 28 = .ok (.iload_n 3, 1) := by decide +kernel
theorem dX12_isSo_29 : decode cX12_isSo 29 = .ok (.invokevirtual 253, 3) := by decide +kernel
theorem dX12_isSo_32 : decode cX12_isSo 32 = .ok (.aload_n 0, 1) := by decide +kernel
theorem dX12_isSo_33 : decode cX12_isSo 33 = .ok (.getfield 98, 3) := by decide +kernel
theorem dX12_isSo_36 : decode cX12_isSo 36 = .ok (.iload_n 3, 1) := by decide +kernel
theorem dX12_isSo_37 : decode cX12_isSo 37 = .ok (.iaload, 1) := by decide +kernel
theorem dX12_isSo_38 : decode cX12_isSo 38 = .ok (.if_icmp .ne 7, 3) := by decide +kernel
theorem dX12_isSo_41 : decode cX12_isSo 41 = .ok (.iconst 1, 1) := by decide +kernel
theorem dX12_isSo_42 : decode cX12_isSo 42 = .ok (.goto 4, 3) := by decide +kernel
theorem dX12_isSo_45 : decode cX12_isSo 45 = .ok (.iconst 0, 1) := by decide +kernel
theorem dX12_isSo_46 : decode cX12_isSo 46 = .ok (.istore_n 2, 1) := by decide +kernel
theorem dX12_isSo_47 : decode cX12_isSo 47 = .ok (.iinc 3 1, 3) := by decide +kernel
theorem dX12_isSo_50 : decode cX12_isSo 50 = .ok (.goto (-46), 3) := by decide +kernel
theorem dX12_isSo_53 : decode cX12_isSo 53 = .ok (.iload_n 2, 1) := by decide +kernel
theorem dX12_isSo_54 : decode cX12_isSo 54 = .ok (.ireturn, 1) := by decide +kernel
def kX12_isSo_0 : List (Nat × zT) := [(0, a_i 1 1), (1, a_istore 2 2), (2, a_i 0 3), (3, a_istore 3 4), (4, a_iload 3 5), (5, a_aload 0 6), (6, a_getI 12 33 9), (9, a_ic_ge 53 12), (12, a_iload 2 13), (13, a_if_eq 53 16), (16, a_aload 0 17), (17, a_getR 12 35 20), (20, a_iload 3 21), (21, a_iald 22), (22, a_i (-1) 23), (23, a_ic_eq 41 26), (26, a_aload 0 27), (27, a_iload 1 28), (28, a_iload 3 29), (29, a_callV 12 207 3 32 0 0), (32, a_aload 0 33), (33, a_getR 12 35 36), (36, a_iload 3 37), (37, a_iald 38)]
theorem oX12_isSo_0 : ∀ q ∈ kX12_isSo_0, zSnd zty false RX12 cX12_isSo 4 (some .boolean) false q := List.forall_mem_cons.mpr ⟨ok_iconst dX12_isSo_0 (by decide), List.forall_mem_cons.mpr ⟨ok_istore_n dX12_isSo_1 rfl (by decide), List.forall_mem_cons.mpr ⟨ok_iconst dX12_isSo_2 (by decide), List.forall_mem_cons.mpr ⟨ok_istore_n dX12_isSo_3 rfl (by decide), List.forall_mem_cons.mpr ⟨ok_iload_n dX12_isSo_4 rfl, List.forall_mem_cons.mpr ⟨ok_aload_n dX12_isSo_5 rfl, List.forall_mem_cons.mpr ⟨ok_getI dX12_isSo_6 rfl in12 (by decide) rfl w990, List.forall_mem_cons.mpr ⟨ok_ic_ge dX12_isSo_9 (by decide), List.forall_mem_cons.mpr ⟨ok_iload_n dX12_isSo_12 rfl, List.forall_mem_cons.mpr ⟨ok_if_eq dX12_isSo_13 (by decide), List.forall_mem_cons.mpr ⟨ok_aload_n dX12_isSo_16 rfl, List.forall_mem_cons.mpr ⟨ok_getR dX12_isSo_17 rfl in12 (by decide) rfl w992, List.forall_mem_cons.mpr ⟨ok_iload_n dX12_isSo_20 rfl, List.forall_mem_cons.mpr ⟨ok_iald dX12_isSo_21, List.forall_mem_cons.mpr ⟨ok_iconst dX12_isSo_22 (by decide), List.forall_mem_cons.mpr ⟨ok_ic_eq dX12_isSo_23 (by decide), List.forall_mem_cons.mpr ⟨ok_aload_n dX12_isSo_26 rfl, List.forall_mem_cons.mpr ⟨ok_iload_n dX12_isSo_27 rfl, List.forall_mem_cons.mpr ⟨ok_iload_n dX12_isSo_28 rfl, List.forall_mem_cons.mpr ⟨ok_callV dX12_isSo_29 rfl rfl w1363 w1360 w1362 w13 s53 (by decide +kernel) (by decide), List.forall_mem_cons.mpr ⟨ok_aload_n dX12_isSo_32 rfl, List.forall_mem_cons.mpr ⟨ok_getR dX12_isSo_33 rfl in12 (by decide) rfl w992, List.forall_mem_cons.mpr ⟨ok_iload_n dX12_isSo_36 rfl, List.forall_mem_cons.mpr ⟨ok_iald dX12_isSo_37, fun _ h => absurd h List.not_mem_nil⟩⟩⟩⟩⟩⟩⟩⟩⟩⟩⟩⟩⟩⟩⟩⟩⟩⟩⟩⟩⟩⟩⟩⟩
def kX12_isSo_1 : List (Nat × zT) := [(38, a_ic_ne 45 41), (41, a_i 1 42), (42, a_goto 46), (45, a_i 0 46), (46, a_istore 2 47), (47, a_iinc 3 1 50), (50, a_goto 4), (53, a_iload 2 54), (54, a_iret true)]
theorem oX12_isSo_1 : ∀ q ∈ kX12_isSo_1, zSnd zty false RX12 cX12_isSo 4 (some .boolean) false q := List.forall_mem_cons.mpr ⟨ok_ic_ne dX12_isSo_38 (by decide), List.forall_mem_cons.mpr ⟨ok_iconst dX12_isSo_41 (by decide), List.forall_mem_cons.mpr ⟨ok_goto dX12_isSo_42 (by decide), List.forall_mem_cons.mpr ⟨ok_iconst dX12_isSo_45 (by decide), List.forall_mem_cons.mpr ⟨ok_istore_n dX12_isSo_46 rfl (by decide), List.forall_mem_cons.mpr ⟨ok_iinc dX12_isSo_47 (by decide) (by decide), List.forall_mem_cons.mpr ⟨ok_goto dX12_isSo_50 (by decide), List.forall_mem_cons.mpr ⟨ok_iload_n dX12_isSo_53 rfl, List.forall_mem_cons.mpr ⟨ok_iret (bz := true) dX12_isSo_54 rfl, fun _ h => absurd h List.not_mem_nil⟩⟩⟩⟩⟩⟩⟩⟩⟩
def kX12_isSo : List (Nat × zT) := kX12_isSo_0 ++ (kX12_isSo_1)
theorem qX12_isSo_0 : ∀ q ∈ kX12_isSo_0, q ∈ kX12_isSo := fun _ h => (List.mem_append_left _ h)
theorem tX12_isSo_0 : (0, a_i 1 1) ∈ kX12_isSo := qX12_isSo_0 _ (List.mem_of_getElem? (i := 0) rfl)
theorem tX12_isSo_1 : (1, a_istore 2 2) ∈ kX12_isSo := qX12_isSo_0 _ (List.mem_of_getElem? (i := 1) rfl)
theorem tX12_isSo_2 : (2, a_i 0 3) ∈ kX12_isSo := qX12_isSo_0 _ (List.mem_of_getElem? (i := 2) rfl)
theorem tX12_isSo_3 : (3, a_istore 3 4) ∈ kX12_isSo := qX12_isSo_0 _ (List.mem_of_getElem? (i := 3) rfl)
theorem tX12_isSo_4 : (4, a_iload 3 5) ∈ kX12_isSo := qX12_isSo_0 _ (List.mem_of_getElem? (i := 4) rfl)
theorem tX12_isSo_5 : (5, a_aload 0 6) ∈ kX12_isSo := qX12_isSo_0 _ (List.mem_of_getElem? (i := 5) rfl)
theorem tX12_isSo_6 : (6, a_getI 12 33 9) ∈ kX12_isSo := qX12_isSo_0 _ (List.mem_of_getElem? (i := 6) rfl)
theorem tX12_isSo_9 : (9, a_ic_ge 53 12) ∈ kX12_isSo := qX12_isSo_0 _ (List.mem_of_getElem? (i := 7) rfl)
theorem tX12_isSo_12 : (12, a_iload 2 13) ∈ kX12_isSo := qX12_isSo_0 _ (List.mem_of_getElem? (i := 8) rfl)
theorem tX12_isSo_13 : (13, a_if_eq 53 16) ∈ kX12_isSo := qX12_isSo_0 _ (List.mem_of_getElem? (i := 9) rfl)
theorem tX12_isSo_16 : (16, a_aload 0 17) ∈ kX12_isSo := qX12_isSo_0 _ (List.mem_of_getElem? (i := 10) rfl)
theorem tX12_isSo_17 : (17, a_getR 12 35 20) ∈ kX12_isSo := qX12_isSo_0 _ (List.mem_of_getElem? (i := 11) rfl)
theorem tX12_isSo_20 : (20, a_iload 3 21) ∈ kX12_isSo := qX12_isSo_0 _ (List.mem_of_getElem? (i := 12) rfl)
theorem tX12_isSo_21 : (21, a_iald 22) ∈ kX12_isSo := qX12_isSo_0 _ (List.mem_of_getElem? (i := 13) rfl)
theorem tX12_isSo_22 : (22, a_i (-1) 23) ∈ kX12_isSo := qX12_isSo_0 _ (List.mem_of_getElem? (i := 14) rfl)
theorem tX12_isSo_23 : (23, a_ic_eq 41 26) ∈ kX12_isSo := qX12_isSo_0 _ (List.mem_of_getElem? (i := 15) rfl)
theorem tX12_isSo_26 : (26, a_aload 0 27) ∈ kX12_isSo := qX12_isSo_0 _ (List.mem_of_getElem? (i := 16) rfl)
theorem tX12_isSo_27 : (27, a_iload 1 28) ∈ kX12_isSo := qX12_isSo_0 _ (List.mem_of_getElem? (i := 17) rfl)
theorem tX12_isSo_28 : (28, a_iload 3 29) ∈ kX12_isSo := qX12_isSo_0 _ (List.mem_of_getElem? (i := 18) rfl)
theorem tX12_isSo_29 : (29, a_callV 12 207 3 32 0 0) ∈ kX12_isSo := qX12_isSo_0 _ (List.mem_of_getElem? (i := 19) rfl)
theorem tX12_isSo_32 : (32, a_aload 0 33) ∈ kX12_isSo := qX12_isSo_0 _ (List.mem_of_getElem? (i := 20) rfl)
theorem tX12_isSo_33 : (33, a_getR 12 35 36) ∈ kX12_isSo := qX12_isSo_0 _ (List.mem_of_getElem? (i := 21) rfl)
theorem tX12_isSo_36 : (36, a_iload 3 37) ∈ kX12_isSo := qX12_isSo_0 _ (List.mem_of_getElem? (i := 22) rfl)
theorem tX12_isSo_37 : (37, a_iald 38) ∈ kX12_isSo := qX12_isSo_0 _ (List.mem_of_getElem? (i := 23) rfl)
theorem qX12_isSo_1 : ∀ q ∈ kX12_isSo_1, q ∈ kX12_isSo := fun _ h => (List.mem_append_right _ h)
theorem tX12_isSo_38 : (38, a_ic_ne 45 41) ∈ kX12_isSo := qX12_isSo_1 _ (List.mem_of_getElem? (i := 0) rfl)
theorem tX12_isSo_41 : (41, a_i 1 42) ∈ kX12_isSo := qX12_isSo_1 _ (List.mem_of_getElem? (i := 1) rfl)
theorem tX12_isSo_42 : (42, a_goto 46) ∈ kX12_isSo := qX12_isSo_1 _ (List.mem_of_getElem? (i := 2) rfl)
theorem tX12_isSo_45 : (45, a_i 0 46) ∈ kX12_isSo := qX12_isSo_1 _ (List.mem_of_getElem? (i := 3) rfl)
theorem tX12_isSo_46 : (46, a_istore 2 47) ∈ kX12_isSo := qX12_isSo_1 _ (List.mem_of_getElem? (i := 4) rfl)
theorem tX12_isSo_47 : (47, a_iinc 3 1 50) ∈ kX12_isSo := qX12_isSo_1 _ (List.mem_of_getElem? (i := 5) rfl)
theorem tX12_isSo_50 : (50, a_goto 4) ∈ kX12_isSo := qX12_isSo_1 _ (List.mem_of_getElem? (i := 6) rfl)
theorem tX12_isSo_53 : (53, a_iload 2 54) ∈ kX12_isSo := qX12_isSo_1 _ (List.mem_of_getElem? (i := 7) rfl)
theorem tX12_isSo_54 : (54, a_iret true) ∈ kX12_isSo := qX12_isSo_1 _ (List.mem_of_getElem? (i := 8) rfl)
theorem oX12_isSo : ∀ q ∈ kX12_isSo, zSnd zty false RX12 cX12_isSo 4 (some .boolean) false q := List.forall_mem_append.mpr ⟨oX12_isSo_0, oX12_isSo_1⟩
theorem dX12_could_0 : decode cX12_could 0 = .ok (.iload_n 1, 1) := by decide +kernel
theorem dX12_could_1 : decode cX12_could 1 = .ok (.iconst (-1), 1) := by decide +kernel
theorem dX12_could_2 : decode cX12_could 2 = .ok (.if_icmp .ge 5, 3) := by decide +kernel
theorem dX12_could_5 : decode cX12_could 5 = .ok (.iconst (-1), 1) := by decide +kernel
theorem dX12_could_6 : decode cX12_could 6 = .ok (.ireturn, 1) := by decide +kernel
theorem dX12_could_7 : decode cX12_could 7 = .ok (.iconst 0, 1) := by decide +kernel
theorem dX12_could_8 : decode cX12_could 8 = .ok (.istore_n 2, 1) := by decide +kernel
theorem dX12_could_9 : decode cX12_could 9 = .ok (.iconst 0, 1) := by decide +kernel
theorem dX12_could_10 : decode cX12_could 10 = .ok (.istore_n 3, 1) := by decide +kernel
theorem dX12_could_11 : decode cX12_could 11 = .ok (.iload_n 3, 1) := by decide +kernel
theorem dX12_could_12 : decode cX12_could 12 = .ok (.bipush 38, 2) := by decide +kernel
theorem dX12_could_14 : decode cX12_could 14 = .ok (.if_icmp .gt 27, 3) := by decide +kernel
theorem dX12_could_17 : decode cX12_could 17 = .ok (.aload_n 0, 1) := by decide +kernel
theorem dX12_could_18 : decode cX12_could 18 = .ok (.iload_n 3, 1) := by decide +kernel
theorem dX12_could_19 : decode cX12_could 19 = .ok (.invokevirtual 256, 3) := by decide +kernel
theorem dX12_could_22 : decode cX12_could 22 = .ok (.ifCond .eq 13, 3) := by decide +kernel
theorem dX12_could_25 : decode cX12_could 25 = .ok (.iload_n 2, 1) := by decide +kernel
theorem dX12_could_26 : decode cX12_could 26 = .ok (.iload_n 1, 1) := by decide +kernel
theorem dX12_could_27 : decode cX12_could 27 = .ok (.if_icmp .ne 5, 3) := by decide +kernel
theorem dX12_could_30 : decode cX12_could 30 = .ok (.iload_n 3, 1) := by decide +kernel
theorem dX12_could_31 : decode cX12_could 31 = .ok (.ireturn, 1) := by decide +kernel
theorem dX12_could_32 : decode cX12_could 32 = .ok (.iinc 2 1, 3) := by decide +kernel
theorem dX12_could_35 : decode cX12_could 35 = .ok (.iinc 3 1, 3) := by decide +kernel
theorem dX12_could_38 : decode cX12_could 38 = .ok (.goto (-27), 3) := by decide +kernel
theorem dX12_could_41 : decode cX12_could 41 = .ok (.iload_n 1, 1) := by decide +kernel
theorem dX12_could_42 : decode cX12_could 42 = .ok (.ifCond .ge 7, 3) := by decide +kernel
theorem dX12_could_45 : decode cX12_could 45 = .ok (.iload_n 2, 1) := by decide +kernel
theorem dX12_could_46 : decode cX12_could 46 = .ok (.goto 5, 3) := by decide +kernel
theorem dX12_could_49 : decode cX12_could 49 = .ok (.bipush (-4), 2) := by decide +kernel
theorem dX12_could_51 : decode cX12_could 51 = .ok (.ireturn, 1) := by decide +kernel
def kX12_could_0 : List (Nat × zT) := [(0, a_iload 1 1), (1, a_i (-1) 2), (2, a_ic_ge 7 5), (5, a_i (-1) 6), (6, a_iret false), (7, a_i 0 8), (8, a_istore 2 9), (9, a_i 0 10), (10, a_istore 3 11), (11, a_iload 3 12), (12, a_i 38 14), (14, a_ic_gt 41 17), (17, a_aload 0 18), (18, a_iload 3 19), (19, a_callV 12 208 2 22 0 0), (22, a_if_eq 35 25), (25, a_iload 2 26), (26, a_iload 1 27), (27, a_ic_ne 32 30), (30, a_iload 3 31), (31, a_iret false), (32, a_iinc 2 1 35), (35, a_iinc 3 1 38), (38, a_goto 11)]
theorem oX12_could_0 : ∀ q ∈ kX12_could_0, zSnd zty false RX12 cX12_could 4 (some .int) false q := List.forall_mem_cons.mpr ⟨ok_iload_n dX12_could_0 rfl, List.forall_mem_cons.mpr ⟨ok_iconst dX12_could_1 (by decide), List.forall_mem_cons.mpr ⟨ok_ic_ge dX12_could_2 (by decide), List.forall_mem_cons.mpr ⟨ok_iconst dX12_could_5 (by decide), List.forall_mem_cons.mpr ⟨ok_iret (bz := false) dX12_could_6 rfl, List.forall_mem_cons.mpr ⟨ok_iconst dX12_could_7 (by decide), List.forall_mem_cons.mpr ⟨ok_istore_n dX12_could_8 rfl (by decide), List.forall_mem_cons.mpr ⟨ok_iconst dX12_could_9 (by decide), List.forall_mem_cons.mpr ⟨ok_istore_n dX12_could_10 rfl (by decide), List.forall_mem_cons.mpr ⟨ok_iload_n dX12_could_11 rfl, List.forall_mem_cons.mpr ⟨ok_bipush dX12_could_12 (by decide), List.forall_mem_cons.mpr ⟨ok_ic_gt dX12_could_14 (by decide), List.forall_mem_cons.mpr ⟨ok_aload_n dX12_could_17 rfl, List.forall_mem_cons.mpr ⟨ok_iload_n dX12_could_18 rfl, List.forall_mem_cons.mpr ⟨ok_callV dX12_could_19 rfl rfl w1359 w1356 w1358 w13 s52 (by decide +kernel) (by decide), List.forall_mem_cons.mpr ⟨ok_if_eq dX12_could_22 (by decide), List.forall_mem_cons.mpr ⟨ok_iload_n dX12_could_25 rfl, List.forall_mem_cons.mpr ⟨ok_iload_n dX12_could_26 rfl, List.forall_mem_cons.mpr ⟨ok_ic_ne dX12_could_27 (by decide), List.forall_mem_cons.mpr ⟨ok_iload_n dX12_could_30 rfl, List.forall_mem_cons.mpr ⟨ok_iret (bz := false) dX12_could_31 rfl, List.forall_mem_cons.mpr ⟨ok_iinc dX12_could_32 (by decide) (by decide), List.forall_mem_cons.mpr ⟨ok_iinc dX12_could_35 (by decide) (by decide), List.forall_mem_cons.mpr ⟨ok_goto dX12_could_38 (by decide), fun _ h => absurd h List.not_mem_nil⟩⟩⟩⟩⟩⟩⟩⟩⟩⟩⟩⟩⟩⟩⟩⟩⟩⟩⟩⟩⟩⟩⟩⟩
def kX12_could_1 : List (Nat × zT) := [(41, a_iload 1 42), (42, a_if_ge 49 45), (45, a_iload 2 46), (46, a_goto 51), (49, a_i (-4) 51), (51, a_iret false)]
theorem oX12_could_1 : ∀ q ∈ kX12_could_1, zSnd zty false RX12 cX12_could 4 (some .int) false q := List.forall_mem_cons.mpr ⟨ok_iload_n dX12_could_41 rfl, List.forall_mem_cons.mpr ⟨ok_if_ge dX12_could_42 (by decide), List.forall_mem_cons.mpr ⟨ok_iload_n dX12_could_45 rfl, List.forall_mem_cons.mpr ⟨ok_goto dX12_could_46 (by decide), List.forall_mem_cons.mpr ⟨ok_bipush dX12_could_49 (by decide), List.forall_mem_cons.mpr ⟨ok_iret (bz := false) dX12_could_51 rfl, fun _ h => absurd h List.not_mem_nil⟩⟩⟩⟩⟩⟩
def kX12_could : List (Nat × zT) := kX12_could_0 ++ (kX12_could_1)
theorem qX12_could_0 : ∀ q ∈ kX12_could_0, q ∈ kX12_could := fun _ h => (List.mem_append_left _ h)
theorem tX12_could_0 : (0, a_iload 1 1) ∈ kX12_could := qX12_could_0 _ (List.mem_of_getElem? (i := 0) rfl)
theorem tX12_could_1 : (1, a_i (-1) 2) ∈ kX12_could := qX12_could_0 _ (List.mem_of_getElem? (i := 1) rfl)
theorem tX12_could_2 : (2, a_ic_ge 7 5) ∈ kX12_could := qX12_could_0 _ (List.mem_of_getElem? (i := 2) rfl)
theorem tX12_could_5 : (5, a_i (-1) 6) ∈ kX12_could := qX12_could_0 _ (List.mem_of_getElem? (i := 3) rfl)
theorem tX12_could_6 : (6, a_iret false) ∈ kX12_could := qX12_could_0 _ (List.mem_of_getElem? (i := 4) rfl)
theorem tX12_could_7 : (7, a_i 0 8) ∈ kX12_could := qX12_could_0 _ (List.mem_of_getElem? (i := 5) rfl)
theorem tX12_could_8 : (8, a_istore 2 9) ∈ kX12_could := qX12_could_0 _ (List.mem_of_getElem? (i := 6) rfl)
theorem tX12_could_9 : (9, a_i 0 10) ∈ kX12_could := qX12_could_0 _ (List.mem_of_getElem? (i := 7) rfl)
theorem tX12_could_10 : (10, a_istore 3 11) ∈ kX12_could := qX12_could_0 _ (List.mem_of_getElem? (i := 8) rfl)
theorem tX12_could_11 : (11, a_iload 3 12) ∈ kX12_could := qX12_could_0 _ (List.mem_of_getElem? (i := 9) rfl)
theorem tX12_could_12 : (12, a_i 38 14) ∈ kX12_could := qX12_could_0 _ (List.mem_of_getElem? (i := 10) rfl)
theorem tX12_could_14 : (14, a_ic_gt 41 17) ∈ kX12_could := qX12_could_0 _ (List.mem_of_getElem? (i := 11) rfl)
theorem tX12_could_17 : (17, a_aload 0 18) ∈ kX12_could := qX12_could_0 _ (List.mem_of_getElem? (i := 12) rfl)
theorem tX12_could_18 : (18, a_iload 3 19) ∈ kX12_could := qX12_could_0 _ (List.mem_of_getElem? (i := 13) rfl)
theorem tX12_could_19 : (19, a_callV 12 208 2 22 0 0) ∈ kX12_could := qX12_could_0 _ (List.mem_of_getElem? (i := 14) rfl)
theorem tX12_could_22 : (22, a_if_eq 35 25) ∈ kX12_could := qX12_could_0 _ (List.mem_of_getElem? (i := 15) rfl)
theorem tX12_could_25 : (25, a_iload 2 26) ∈ kX12_could := qX12_could_0 _ (List.mem_of_getElem? (i := 16) rfl)
theorem tX12_could_26 : (26, a_iload 1 27) ∈ kX12_could := qX12_could_0 _ (List.mem_of_getElem? (i := 17) rfl)
theorem tX12_could_27 : (27, a_ic_ne 32 30) ∈ kX12_could := qX12_could_0 _ (List.mem_of_getElem? (i := 18) rfl)
theorem tX12_could_30 : (30, a_iload 3 31) ∈ kX12_could := qX12_could_0 _ (List.mem_of_getElem? (i := 19) rfl)
theorem tX12_could_31 : (31, a_iret false) ∈ kX12_could := qX12_could_0 _ (List.mem_of_getElem? (i := 20) rfl)
theorem tX12_could_32 : (32, a_iinc 2 1 35) ∈ kX12_could := qX12_could_0 _ (List.mem_of_getElem? (i := 21) rfl)
theorem tX12_could_35 : (35, a_iinc 3 1 38) ∈ kX12_could := qX12_could_0 _ (List.mem_of_getElem? (i := 22) rfl)
theorem tX12_could_38 : (38, a_goto 11) ∈ kX12_could := qX12_could_0 _ (List.mem_of_getElem? (i := 23) rfl)
theorem qX12_could_1 : ∀ q ∈ kX12_could_1, q ∈ kX12_could := fun _ h => (List.mem_append_right _ h)
theorem tX12_could_41 : (41, a_iload 1 42) ∈ kX12_could := qX12_could_1 _ (List.mem_of_getElem? (i := 0) rfl)
theorem tX12_could_42 : (42, a_if_ge 49 45) ∈ kX12_could := qX12_could_1 _ (List.mem_of_getElem? (i := 1) rfl)
theorem tX12_could_45 : (45, a_iload 2 46) ∈ kX12_could := qX12_could_1 _ (List.mem_of_getElem? (i := 2) rfl)
theorem tX12_could_46 : (46, a_goto 51) ∈ kX12_could := qX12_could_1 _ (List.mem_of_getElem? (i := 3) rfl)
theorem tX12_could_49 : (49, a_i (-4) 51) ∈ kX12_could := qX12_could_1 _ (List.mem_of_getElem? (i := 4) rfl)
theorem tX12_could_51 : (51, a_iret false) ∈ kX12_could := qX12_could_1 _ (List.mem_of_getElem? (i := 5) rfl)
theorem oX12_could : ∀ q ∈ kX12_could, zSnd zty false RX12 cX12_could 4 (some .int) false q := List.forall_mem_append.mpr ⟨oX12_could_0, oX12_could_1⟩
theorem dX12_parts_0 : decode cX12_parts 0 = .ok (.aload_n 0, 1) := by decide +kernel
theorem dX12_parts_1 : decode cX12_parts 1 = .ok (.iconst 0, 1) := by decide +kernel
theorem dX12_parts_2 : decode cX12_parts 2 = .ok (.putfield 259, 3) := by decide +kernel
theorem dX12_parts_5 : decode cX12_parts 5 = .ok (.iconst 0, 1) := by decide +kernel
theorem dX12_parts_6 : decode cX12_parts 6 = .ok (.istore_n 1, 1) := by decide +kernel
theorem dX12_parts_7 : decode cX12_parts 7 = .ok (.iload_n 1, 1) := by decide +kernel
theorem dX12_parts_8 : decode cX12_parts 8 = .ok (.bipush 38, 2) := by decide +kernel
theorem dX12_parts_10 : decode cX12_parts 10 = .ok (.if_icmp .gt 37, 3) := by decide +kernel
theorem dX12_parts_13 : decode cX12_parts 13 = .ok (.aload_n 0, 1) := by decide +kernel
theorem dX12_parts_14 : decode cX12_parts 14 = .ok (.iload_n 1, 1) := by decide +kernel
theorem dX12_parts_15 : decode cX12_parts 15 = .ok (.invokevirtual 256, 3) := by decide +kernel
theorem dX12_parts_18 : decode cX12_parts 18 = .ok (.ifCond .eq 23, 3) := by decide +kernel
theorem dX12_parts_21 : decode cX12_parts 21 = .ok (.aload_n 0, 1) := by decide +kernel
theorem dX12_parts_22 : decode cX12_parts 22 = .ok (.getfield 105, 3) := by decide +kernel
theorem dX12_parts_25 : decode cX12_parts 25 = .ok (.aload_n 0, 1) := by decide +kernel
theorem dX12_parts_26 : decode cX12_parts 26 = .ok (.getfield 259, 3) := by decide +kernel
theorem dX12_parts_29 : decode cX12_parts 29 = .ok (.iload_n 1, 1) := by decide +kernel
theorem dX12_parts_30 : decode cX12_parts 30 = .ok (.iastore, 1) := by decide +kernel
theorem dX12_parts_31 : decode cX12_parts 31 = .ok (.aload_n 0, 1) := by decide +kernel
theorem dX12_parts_32 : decode cX12_parts 32 = .ok (.dup, 1) := by decide +kernel
theorem dX12_parts_33 : decode cX12_parts 33 = .ok (.getfield 259, 3) := by decide +kernel
theorem dX12_parts_36 : decode cX12_parts 36 = .ok (.iconst 1, 1) := by decide +kernel
theorem dX12_parts_37 : decode cX12_parts 37 = .ok (.iadd, 1) := by decide +kernel
theorem dX12_parts_38 : decode cX12_parts 38 = .ok (.putfield 259, 3) := by decide +kernel
theorem dX12_parts_41 : decode cX12_parts 41 = .ok (.iinc 1 1, 3) := by decide +kernel
theorem dX12_parts_44 : decode cX12_parts 44 = .ok (.goto (-37), 3) := by decide +kernel
theorem dX12_parts_47 : decode cX12_parts 47 = .ok (.bipush (-4), 2) := by decide +kernel
theorem dX12_parts_49 : decode cX12_parts 49 = .ok (.istore_n 1, 1) := by decide +kernel
theorem dX12_parts_50 : decode cX12_parts 50 = .ok (.bipush 40, 2) := by decide +kernel
theorem dX12_parts_52 : decode cX12_parts 52 = .ok (.istore_n 2, 1) := by decide +kernel
theorem dX12_parts_53 : decode cX12_parts 53 = .ok (.iconst 0, 1) := by decide +kernel
theorem dX12_parts_54 : decode cX12_parts 54 = .ok (.istore_n 3, 1) := by decide +kernel
theorem dX12_parts_55 : decode cX12_parts 55 = .ok (.iload_n 3, 1) := by decide +kernel
theorem dX12_parts_56 : decode cX12_parts 56 = .ok (.aload_n 0, 1) := by decide +kernel
theorem dX12_parts_57 : decode cX12_parts 57 = .ok (.getfield 246, 3) := by decide +kernel
theorem dX12_parts_60 : decode cX12_parts 60 = .ok (.if_icmp .ge 160, 3) := by decide +kernel
theorem dX12_parts_63 : decode cX12_parts 63 = .ok (.aload_n 0, 1) := by decide +kernel
theorem dX12_parts_64 : decode cX12_parts 64 = .ok (.getfield 259, 3) := by decide +kernel
theorem dX12_parts_67 : decode cX12_parts 67 = .ok (.iconst 1, 1) := by decide +kernel
theorem dX12_parts_68 : decode cX12_parts 68 = .ok (.if_icmp .le 152, 3) := by decide +kernel
theorem dX12_parts_71 : decode cX12_parts 71 = .ok (.aload_n 0, 1) := by decide +kernel
theorem dX12_parts_72 : decode cX12_parts 72 = .ok (.getfield 98, 3) := by decide +kernel
theorem dX12_parts_75 : decode cX12_parts 75 = .ok (.iload_n 3, 1) := by decide +kernel
theorem dX12_parts_76 : decode cX12_parts 76 = .ok (.iaload, 1) := by decide +kernel
theorem dX12_parts_77 : decode cX12_parts 77 = .ok (.iconst (-1), 1) := by decide +kernel
theorem dX12_parts_78 : decode cX12_parts 78 = .ok (.if_icmp .ne 136, 3) := by decide +kernel
theorem dX12_parts_81 : decode cX12_parts 81 = .ok (.iconst 0, 1) := by decide +kernel
theorem dX12_parts_82 : decode cX12_parts 82 = .ok (.istore 4, 2) := by decide +kernel
theorem dX12_parts_84 : decode cX12_parts 84 = .ok (.iload 4, 2) := by decide +kernel
theorem dX12_parts_86 : decode cX12_parts 86 = .ok (.aload_n 0, 1) := by decide +kernel
theorem dX12_parts_87 : decode cX12_parts 87 = .ok (.getfield 259, 3) := by decide +kernel
theorem dX12_parts_90 : decode cX12_parts 90 = .ok (.if_icmp .ge 28, 3) := by decide +kernel
theorem dX12_parts_93 : decode cX12_parts 93 = .ok (.aload_n 0, 1) := by decide +kernel
theorem dX12_parts_94 : decode cX12_parts 94 = .ok (.getfield 108, 3) := by decide +kernel
theorem dX12_parts_97 : decode cX12_parts 97 = .ok (.iload 4, 2) := by decide +kernel
theorem dX12_parts_99 : decode cX12_parts 99 = .ok (.aload_n 0, 1) := by decide +kernel
theorem dX12_parts_100 : decode cX12_parts 100 = .ok (.aload_n 0, 1) := by decide +kernel
theorem dX12_parts_101 : decode cX12_parts 101 = .ok (.getfield 105, 3) := by decide +kernel
theorem dX12_parts_104 : decode cX12_parts 104 = .ok (.iload 4, 2) := by decide +kernel
theorem dX12_parts_106 : decode cX12_parts 106 = .ok (.iaload, 1) := by decide +kernel
theorem dX12_parts_107 : decode cX12_parts 107 = .ok (.iload_n 3, 1) := by decide +kernel
theorem dX12_parts_108 : decode cX12_parts 108 = .ok (.invokevirtual 253, 3) := by decide +kernel
theorem dX12_parts_111 : decode cX12_parts 111 = .ok (.iastore, 1) := by decide +kernel
theorem dX12_parts_112 : decode cX12_parts 112 = .ok (.iinc 4 1, 3) := by decide +kernel
theorem dX12_parts_115 : decode cX12_parts 115 = .ok (.goto (-31), 3) := by decide +kernel
theorem dX12_parts_118 : decode cX12_parts 118 = .ok (.iconst 0, 1) := by decide +kernel
theorem dX12_parts_119 : decode cX12_parts 119 = .ok (.istore 4, 2) := by decide +kernel
theorem dX12_parts_121 : decode cX12_parts 121 = .ok (.iconst 0, 1) := by decide +kernel
theorem dX12_parts_122 : decode cX12_parts 122 = .ok (.istore 5, 2) := by decide +kernel
theorem dX12_parts_124 : decode cX12_parts 124 = .ok (.iload 5, 2) := by decide +kernel
theorem dX12_parts_126 : decode cX12_parts 126 = .ok (.aload_n 0, 1) := by decide +kernel
theorem dX12_parts_127 : decode cX12_parts 127 = .ok (.getfield 259, 3) := by decide +kernel
theorem dX12_parts_130 : decode cX12_parts 130 = .ok (.if_icmp .ge 73, 3) := by decide +kernel
theorem dX12_parts_133 : decode cX12_parts 133 = .ok (.iconst 0, 1) := by decide +kernel
theorem dX12_parts_134 : decode cX12_parts 134 = .ok (.istore 6, 2) := by decide +kernel
theorem dX12_parts_136 : decode cX12_parts 136 = .ok (.iconst 0, 1) := by decide +kernel
theorem dX12_parts_137 : decode cX12_parts 137 = .ok (.istore 7, 2) := by decide +kernel
theorem dX12_parts_139 : decode cX12_parts 139 = .ok (.iload 7, 2) := by decide +kernel
theorem dX12_parts_141 : decode cX12_parts 141 = .ok (.aload_n 0, 1) := by decide +kernel
theorem dX12_parts_142 : decode cX12_parts 142 = .ok (.getfield 259, 3) := by decide +kernel
theorem dX12_parts_145 : decode cX12_parts 145 = .ok (.if_icmp .ge 36, 3) := by decide +kernel
theorem dX12_parts_148 : decode cX12_parts 148 = .ok (.iload 6, 2) := by decide +kernel
theorem dX12_parts_150 : decode cX12_parts 150 = .ok (.aload_n 0, 1) := by decide +kernel
theorem dX12_parts_151 : decode cX12_parts 151 = .ok (.getfield 108, 3) := by decide +kernel
theorem dX12_parts_154 : decode cX12_parts 154 = .ok (.iload 7, 2) := by decide +kernel
theorem dX12_parts_156 : decode cX12_parts 156 = .ok (.iaload, 1) := by decide +kernel
theorem dX12_parts_157 : decode cX12_parts 157 = .ok (.aload_n 0, 1) := by decide +kernel
theorem dX12_parts_158 : decode cX12_parts 158 = .ok (.getfield 108, 3) := by decide +kernel
theorem dX12_parts_161 : decode cX12_parts 161 = .ok (.iload 5, 2) := by decide +kernel
theorem dX12_parts_163 : decode cX12_parts 163 = .ok (.iaload, 1) := by decide +kernel
theorem dX12_parts_164 : decode cX12_parts 164 = .ok (.if_icmp .ne 7, 3) := by decide +kernel
theorem dX12_parts_167 : decode cX12_parts 167 = .ok (.iconst 1, 1) := by decide +kernel
theorem dX12_parts_168 : decode cX12_parts 168 = .ok (.goto 4, 3) := by decide +kernel
theorem dX12_parts_171 : decode cX12_parts 171 = .ok (.iconst 0, 1) := by decide +kernel
theorem dX12_parts_172 : decode cX12_parts 172 = .ok (.iadd, 1) := by decide +kernel
theorem dX12_parts_173 : decode cX12_parts 173 = .ok (.istore 6, 2) := by decide +kernel
theorem dX12_parts_175 : decode cX12_parts 175 = .ok (.iinc 7 1, 3) := by decide +kernel
theorem dX12_parts_178 : decode cX12_parts 178 = .ok (.goto (-39), 3) := by decide +kernel
theorem dX12_parts_181 : decode cX12_parts 181 = .ok (.iload 6, 2) := by decide +kernel
theorem dX12_parts_183 : decode cX12_parts 183 = .ok (.iload 4, 2) := by decide +kernel
theorem dX12_parts_185 : decode cX12_parts 185 = .ok (.if_icmp .le 8, 3) := by decide +kernel
theorem dX12_parts_188 : decode cX12_parts 188 = .ok (.iload 6, 2) := by decide +kernel
theorem dX12_parts_190 : decode cX12_parts 190 = .ok (.goto 5, 3) := by decide +kernel
theorem dX12_parts_193 : decode cX12_parts 193 = .ok (.iload 4, 2) := by decide +kernel
theorem dX12_parts_195 : decode cX12_parts 195 = .ok (.istore 4, 2) := by decide +kernel
theorem dX12_parts_197 : decode cX12_parts 197 = .ok (.iinc 5 1, 3) := by decide +kernel
theorem dX12_parts_200 : decode cX12_parts 200 = .ok (.goto (-76), 3) := by decide +kernel
theorem dX12_parts_203 : decode cX12_parts 203 = .ok (.iload 4, 2) := by decide +kernel
theorem dX12_parts_205 : decode cX12_parts 205 = .ok (.iload_n 2, 1) := by decide +kernel
theorem dX12_parts_206 : decode cX12_parts 206 = .ok (.if_icmp .ge 8, 3) := by decide +kernel
theorem dX12_parts_209 : decode cX12_parts 209 = .ok (.iload 4, 2) := by decide +kernel
theorem dX12_parts_211 : decode cX12_parts 211 = .ok (.istore_n 2, 1) := by decide +kernel
theorem dX12_parts_212 : decode cX12_parts 212 = .ok (.iload_n 3, 1) := by decide +kernel
theorem dX12_parts_213 : decode cX12_parts 213 = .ok (.istore_n 1, 1) := by decide +kernel
theorem dX12_parts_214 : decode cX12_parts 214 = .ok (.iinc 3 1, 3) := by decide +kernel
theorem dX12_parts_217 : decode cX12_parts 217 = .ok (.goto (-162), 3) := by decide +kernel
theorem dX12_parts_220 : decode cX12_parts 220 = .ok (.iload_n 1, 1) := by decide +kernel
theorem dX12_parts_221 : decode cX12_parts 221 = .ok (.ireturn, 1) := by decide +kernel
def kX12_parts_0 : List (Nat × zT) := [(0, a_aload 0 1), (1, a_i 0 2), (2, a_putI 12 37 5 false), (5, a_i 0 6), (6, a_istore 1 7), (7, a_iload 1 8), (8, a_i 38 10), (10, a_ic_gt 47 13), (13, a_aload 0 14), (14, a_iload 1 15), (15, a_callV 12 208 2 18 0 0), (18, a_if_eq 41 21), (21, a_aload 0 22), (22, a_getR 12 38 25), (25, a_aload 0 26), (26, a_getI 12 37 29), (29, a_iload 1 30), (30, a_iast 31), (31, a_aload 0 32), (32, a_dup 33), (33, a_getI 12 37 36), (36, a_i 1 37), (37, a_ii (fun x y => x + y) 38), (38, a_putI 12 37 41 false)]
theorem oX12_parts_0 : ∀ q ∈ kX12_parts_0, zSnd zty false RX12 cX12_parts 8 (some .int) false q := List.forall_mem_cons.mpr ⟨ok_aload_n dX12_parts_0 rfl, List.forall_mem_cons.mpr ⟨ok_iconst dX12_parts_1 (by decide), List.forall_mem_cons.mpr ⟨ok_putI (bz := false) dX12_parts_2 rfl in12 tyX12 tyX12_ok nmX12 (by decide) rfl w994 rfl rfl, List.forall_mem_cons.mpr ⟨ok_iconst dX12_parts_5 (by decide), List.forall_mem_cons.mpr ⟨ok_istore_n dX12_parts_6 rfl (by decide), List.forall_mem_cons.mpr ⟨ok_iload_n dX12_parts_7 rfl, List.forall_mem_cons.mpr ⟨ok_bipush dX12_parts_8 (by decide), List.forall_mem_cons.mpr ⟨ok_ic_gt dX12_parts_10 (by decide), List.forall_mem_cons.mpr ⟨ok_aload_n dX12_parts_13 rfl, List.forall_mem_cons.mpr ⟨ok_iload_n dX12_parts_14 rfl, List.forall_mem_cons.mpr ⟨ok_callV dX12_parts_15 rfl rfl w1359 w1356 w1358 w13 s52 (by decide +kernel) (by decide), List.forall_mem_cons.mpr ⟨ok_if_eq dX12_parts_18 (by decide), List.forall_mem_cons.mpr ⟨ok_aload_n dX12_parts_21 rfl, List.forall_mem_cons.mpr ⟨ok_getR dX12_parts_22 rfl in12 (by decide) rfl w995, List.forall_mem_cons.mpr ⟨ok_aload_n dX12_parts_25 rfl, List.forall_mem_cons.mpr ⟨ok_getI dX12_parts_26 rfl in12 (by decide) rfl w994, List.forall_mem_cons.mpr ⟨ok_iload_n dX12_parts_29 rfl, List.forall_mem_cons.mpr ⟨ok_iast dX12_parts_30, List.forall_mem_cons.mpr ⟨ok_aload_n dX12_parts_31 rfl, List.forall_mem_cons.mpr ⟨ok_dup dX12_parts_32, List.forall_mem_cons.mpr ⟨ok_getI dX12_parts_33 rfl in12 (by decide) rfl w994, List.forall_mem_cons.mpr ⟨ok_iconst dX12_parts_36 (by decide), List.forall_mem_cons.mpr ⟨ok_iadd dX12_parts_37, List.forall_mem_cons.mpr ⟨ok_putI (bz := false) dX12_parts_38 rfl in12 tyX12 tyX12_ok nmX12 (by decide) rfl w994 rfl rfl, fun _ h => absurd h List.not_mem_nil⟩⟩⟩⟩⟩⟩⟩⟩⟩⟩⟩⟩⟩⟩⟩⟩⟩⟩⟩⟩⟩⟩⟩⟩
def kX12_parts_1 : List (Nat × zT) := [(41, a_iinc 1 1 44), (44, a_goto 7), (47, a_i (-4) 49), (49, a_istore 1 50), (50, a_i 40 52), (52, a_istore 2 53), (53, a_i 0 54), (54, a_istore 3 55), (55, a_iload 3 56), (56, a_aload 0 57), (57, a_getI 12 33 60), (60, a_ic_ge 220 63), (63, a_aload 0 64), (64, a_getI 12 37 67), (67, a_i 1 68), (68, a_ic_le 220 71), (71, a_aload 0 72), (72, a_getR 12 35 75), (75, a_iload 3 76), (76, a_iald 77), (77, a_i (-1) 78), (78, a_ic_ne 214 81), (81, a_i 0 82), (82, a_istore 4 84)]
theorem oX12_parts_1 : ∀ q ∈ kX12_parts_1, zSnd zty false RX12 cX12_parts 8 (some .int) false q := List.forall_mem_cons.mpr ⟨ok_iinc dX12_parts_41 (by decide) (by decide), List.forall_mem_cons.mpr ⟨ok_goto dX12_parts_44 (by decide), List.forall_mem_cons.mpr ⟨ok_bipush dX12_parts_47 (by decide), List.forall_mem_cons.mpr ⟨ok_istore_n dX12_parts_49 rfl (by decide), List.forall_mem_cons.mpr ⟨ok_bipush dX12_parts_50 (by decide), List.forall_mem_cons.mpr ⟨ok_istore_n dX12_parts_52 rfl (by decide), List.forall_mem_cons.mpr ⟨ok_iconst dX12_parts_53 (by decide), List.forall_mem_cons.mpr ⟨ok_istore_n dX12_parts_54 rfl (by decide), List.forall_mem_cons.mpr ⟨ok_iload_n dX12_parts_55 rfl, List.forall_mem_cons.mpr ⟨ok_aload_n dX12_parts_56 rfl, List.forall_mem_cons.mpr ⟨ok_getI dX12_parts_57 rfl in12 (by decide) rfl w990, List.forall_mem_cons.mpr ⟨ok_ic_ge dX12_parts_60 (by decide), List.forall_mem_cons.mpr ⟨ok_aload_n dX12_parts_63 rfl, List.forall_mem_cons.mpr ⟨ok_getI dX12_parts_64 rfl in12 (by decide) rfl w994, List.forall_mem_cons.mpr ⟨ok_iconst dX12_parts_67 (by decide), List.forall_mem_cons.mpr ⟨ok_ic_le dX12_parts_68 (by decide), List.forall_mem_cons.mpr ⟨ok_aload_n dX12_parts_71 rfl, List.forall_mem_cons.mpr ⟨ok_getR dX12_parts_72 rfl in12 (by decide) rfl w992, List.forall_mem_cons.mpr ⟨ok_iload_n dX12_parts_75 rfl, List.forall_mem_cons.mpr ⟨ok_iald dX12_parts_76, List.forall_mem_cons.mpr ⟨ok_iconst dX12_parts_77 (by decide), List.forall_mem_cons.mpr ⟨ok_ic_ne dX12_parts_78 (by decide), List.forall_mem_cons.mpr ⟨ok_iconst dX12_parts_81 (by decide), List.forall_mem_cons.mpr ⟨ok_istore dX12_parts_82 (by decide), fun _ h => absurd h List.not_mem_nil⟩⟩⟩⟩⟩⟩⟩⟩⟩⟩⟩⟩⟩⟩⟩⟩⟩⟩⟩⟩⟩⟩⟩⟩
def kX12_parts_2 : List (Nat × zT) := [(84, a_iload 4 86), (86, a_aload 0 87), (87, a_getI 12 37 90), (90, a_ic_ge 118 93), (93, a_aload 0 94), (94, a_getR 12 39 97), (97, a_iload 4 99), (99, a_aload 0 100), (100, a_aload 0 101), (101, a_getR 12 38 104), (104, a_iload 4 106), (106, a_iald 107), (107, a_iload 3 108), (108, a_callV 12 207 3 111 0 0), (111, a_iast 112), (112, a_iinc 4 1 115), (115, a_goto 84), (118, a_i 0 119), (119, a_istore 4 121), (121, a_i 0 122), (122, a_istore 5 124), (124, a_iload 5 126), (126, a_aload 0 127), (127, a_getI 12 37 130)]
theorem oX12_parts_2 : ∀ q ∈ kX12_parts_2, zSnd zty false RX12 cX12_parts 8 (some .int) false q := List.forall_mem_cons.mpr ⟨ok_iload dX12_parts_84, List.forall_mem_cons.mpr ⟨ok_aload_n dX12_parts_86 rfl, List.forall_mem_cons.mpr ⟨ok_getI dX12_parts_87 rfl in12 (by decide) rfl w994, List.forall_mem_cons.mpr ⟨ok_ic_ge dX12_parts_90 (by decide), List.forall_mem_cons.mpr ⟨ok_aload_n dX12_parts_93 rfl, List.forall_mem_cons.mpr ⟨ok_getR dX12_parts_94 rfl in12 (by decide) rfl w996, List.forall_mem_cons.mpr ⟨ok_iload dX12_parts_97, List.forall_mem_cons.mpr ⟨ok_aload_n dX12_parts_99 rfl, List.forall_mem_cons.mpr ⟨ok_aload_n dX12_parts_100 rfl, List.forall_mem_cons.mpr ⟨ok_getR dX12_parts_101 rfl in12 (by decide) rfl w995, List.forall_mem_cons.mpr ⟨ok_iload dX12_parts_104, List.forall_mem_cons.mpr ⟨ok_iald dX12_parts_106, List.forall_mem_cons.mpr ⟨ok_iload_n dX12_parts_107 rfl, List.forall_mem_cons.mpr ⟨ok_callV dX12_parts_108 rfl rfl w1363 w1360 w1362 w13 s53 (by decide +kernel) (by decide), List.forall_mem_cons.mpr ⟨ok_iast dX12_parts_111, List.forall_mem_cons.mpr ⟨ok_iinc dX12_parts_112 (by decide) (by decide), List.forall_mem_cons.mpr ⟨ok_goto dX12_parts_115 (by decide), List.forall_mem_cons.mpr ⟨ok_iconst dX12_parts_118 (by decide), List.forall_mem_cons.mpr ⟨ok_istore dX12_parts_119 (by decide), List.forall_mem_cons.mpr ⟨ok_iconst dX12_parts_121 (by decide), List.forall_mem_cons.mpr ⟨ok_istore dX12_parts_122 (by decide), List.forall_mem_cons.mpr ⟨ok_iload dX12_parts_124, List.forall_mem_cons.mpr ⟨ok_aload_n dX12_parts_126 rfl, List.forall_mem_cons.mpr ⟨ok_getI dX12_parts_127 rfl in12 (by decide) rfl w994, fun _ h => absurd h List.not_mem_nil⟩⟩⟩⟩⟩⟩⟩⟩⟩⟩⟩⟩⟩⟩⟩⟩⟩⟩⟩⟩⟩⟩⟩⟩
def kX12_parts_3 : List (Nat × zT) := [(130, a_ic_ge 203 133), (133, a_i 0 134), (134, a_istore 6 136), (136, a_i 0 137), (137, a_istore 7 139), (139, a_iload 7 141), (141, a_aload 0 142), (142, a_getI 12 37 145), (145, a_ic_ge 181 148), (148, a_iload 6 150), (150, a_aload 0 151), (151, a_getR 12 39 154), (154, a_iload 7 156), (156, a_iald 157), (157, a_aload 0 158), (158, a_getR 12 39 161), (161, a_iload 5 163), (163, a_iald 164), (164, a_ic_ne 171 167), (167, a_i 1 168), (168, a_goto 172), (171, a_i 0 172), (172, a_ii (fun x y => x + y) 173), (173, a_istore 6 175)]
theorem oX12_parts_3 : ∀ q ∈ kX12_parts_3, zSnd zty false RX12 cX12_parts 8 (some .int) false q := List.forall_mem_cons.mpr ⟨ok_ic_ge dX12_parts_130 (by decide), List.forall_mem_cons.mpr ⟨ok_iconst dX12_parts_133 (by decide), List.forall_mem_cons.mpr ⟨ok_istore dX12_parts_134 (by decide), List.forall_mem_cons.mpr ⟨ok_iconst dX12_parts_136 (by decide), List.forall_mem_cons.mpr ⟨ok_istore dX12_parts_137 (by decide), List.forall_mem_cons.mpr ⟨ok_iload dX12_parts_139, List.forall_mem_cons.mpr ⟨ok_aload_n dX12_parts_141 rfl, List.forall_mem_cons.mpr ⟨ok_getI dX12_parts_142 rfl in12 (by decide) rfl w994, List.forall_mem_cons.mpr ⟨ok_ic_ge dX12_parts_145 (by decide), List.forall_mem_cons.mpr ⟨ok_iload dX12_parts_148, List.forall_mem_cons.mpr ⟨ok_aload_n dX12_parts_150 rfl, List.forall_mem_cons.mpr ⟨ok_getR dX12_parts_151 rfl in12 (by decide) rfl w996, List.forall_mem_cons.mpr ⟨ok_iload dX12_parts_154, List.forall_mem_cons.mpr ⟨ok_iald dX12_parts_156, List.forall_mem_cons.mpr ⟨ok_aload_n dX12_parts_157 rfl, List.forall_mem_cons.mpr ⟨ok_getR dX12_parts_158 rfl in12 (by decide) rfl w996, List.forall_mem_cons.mpr ⟨ok_iload dX12_parts_161, List.forall_mem_cons.mpr ⟨ok_iald dX12_parts_163, List.forall_mem_cons.mpr ⟨ok_ic_ne dX12_parts_164 (by decide), List.forall_mem_cons.mpr ⟨ok_iconst dX12_parts_167 (by decide), List.forall_mem_cons.mpr ⟨ok_goto dX12_parts_168 (by decide), List.forall_mem_cons.mpr ⟨ok_iconst dX12_parts_171 (by decide), List.forall_mem_cons.mpr ⟨ok_iadd dX12_parts_172, List.forall_mem_cons.mpr ⟨ok_istore dX12_parts_173 (by decide), fun _ h => absurd h List.not_mem_nil⟩⟩⟩⟩⟩⟩⟩⟩⟩⟩⟩⟩⟩⟩⟩⟩⟩⟩⟩⟩⟩⟩⟩⟩
def kX12_parts_4 : List (Nat × zT) := [(175, a_iinc 7 1 178), (178, a_goto 139), (181, a_iload 6 183), (183, a_iload 4 185), (185, a_ic_le 193 188), (188, a_iload 6 190), (190, a_goto 195), (193, a_iload 4 195), (195, a_istore 4 197), (197, a_iinc 5 1 200), (200, a_goto 124), (203, a_iload 4 205), (205, a_iload 2 206), (206, a_ic_ge 214 209), (209, a_iload 4 211), (211, a_istore 2 212), (212, a_iload 3 213), (213, a_istore 1 214), (214, a_iinc 3 1 217), (217, a_goto 55), (220, a_iload 1 221), (221, a_iret false)]
theorem oX12_parts_4 : ∀ q ∈ kX12_parts_4, zSnd zty false RX12 cX12_parts 8 (some .int) false q := List.forall_mem_cons.mpr ⟨ok_iinc dX12_parts_175 (by decide) (by decide), List.forall_mem_cons.mpr ⟨ok_goto dX12_parts_178 (by decide), List.forall_mem_cons.mpr ⟨ok_iload dX12_parts_181, List.forall_mem_cons.mpr ⟨ok_iload dX12_parts_183, List.forall_mem_cons.mpr ⟨ok_ic_le dX12_parts_185 (by decide), List.forall_mem_cons.mpr ⟨ok_iload dX12_parts_188, List.forall_mem_cons.mpr ⟨ok_goto dX12_parts_190 (by decide), List.forall_mem_cons.mpr ⟨ok_iload dX12_parts_193, List.forall_mem_cons.mpr ⟨ok_istore dX12_parts_195 (by decide), List.forall_mem_cons.mpr ⟨ok_iinc dX12_parts_197 (by decide) (by decide), List.forall_mem_cons.mpr ⟨ok_goto dX12_parts_200 (by decide), List.forall_mem_cons.mpr ⟨ok_iload dX12_parts_203, List.forall_mem_cons.mpr ⟨ok_iload_n dX12_parts_205 rfl, List.forall_mem_cons.mpr ⟨ok_ic_ge dX12_parts_206 (by decide), List.forall_mem_cons.mpr ⟨ok_iload dX12_parts_209, List.forall_mem_cons.mpr ⟨ok_istore_n dX12_parts_211 rfl (by decide), List.forall_mem_cons.mpr ⟨ok_iload_n dX12_parts_212 rfl, List.forall_mem_cons.mpr ⟨ok_istore_n dX12_parts_213 rfl (by decide), List.forall_mem_cons.mpr ⟨ok_iinc dX12_parts_214 (by decide) (by decide), List.forall_mem_cons.mpr ⟨ok_goto dX12_parts_217 (by decide), List.forall_mem_cons.mpr ⟨ok_iload_n dX12_parts_220 rfl, List.forall_mem_cons.mpr ⟨ok_iret (bz := false) dX12_parts_221 rfl, fun _ h => absurd h List.not_mem_nil⟩⟩⟩⟩⟩⟩⟩⟩⟩⟩⟩⟩⟩⟩⟩⟩⟩⟩⟩⟩⟩⟩
def kX12_parts : List (Nat × zT) := kX12_parts_0 ++ (kX12_parts_1 ++ (kX12_parts_2 ++ (kX12_parts_3 ++ (kX12_parts_4))))
theorem qX12_parts_0 : ∀ q ∈ kX12_parts_0, q ∈ kX12_parts := fun _ h => (List.mem_append_left _ h)
theorem tX12_parts_0 : (0, a_aload 0 1) ∈ kX12_parts := qX12_parts_0 _ (List.mem_of_getElem? (i := 0) rfl)
theorem tX12_parts_1 : (1, a_i 0 2) ∈ kX12_parts := qX12_parts_0 _ (List.mem_of_getElem? (i := 1) rfl)
theorem tX12_parts_2 : (2, a_putI 12 37 5 false) ∈ kX12_parts := qX12_parts_0 _ (List.mem_of_getElem? (i := 2) rfl)
theorem tX12_parts_5 : (5, a_i 0 6) ∈ kX12_parts := qX12_parts_0 _ (List.mem_of_getElem? (i := 3) rfl)
theorem tX12_parts_6 : (6, a_istore 1 7) ∈ kX12_parts := qX12_parts_0 _ (List.mem_of_getElem? (i := 4) rfl)
theorem tX12_parts_7 : (7, a_iload 1 8) ∈ kX12_parts := qX12_parts_0 _ (List.mem_of_getElem? (i := 5) rfl)
theorem tX12_parts_8 : (8, a_i 38 10) ∈ kX12_parts := qX12_parts_0 _ (List.mem_of_getElem? (i := 6) rfl)
theorem tX12_parts_10 : (10, a_ic_gt 47 13) ∈ kX12_parts := qX12_parts_0 _ (List.mem_of_getElem? (i := 7) rfl)
theorem tX12_parts_13 : (13, a_aload 0 14) ∈ kX12_parts := qX12_parts_0 _ (List.mem_of_getElem? (i := 8) rfl)
theorem tX12_parts_14 : (14, a_iload 1 15) ∈ kX12_parts := qX12_parts_0 _ (List.mem_of_getElem? (i := 9) rfl)
theorem tX12_parts_15 : (15, a_callV 12 208 2 18 0 0) ∈ kX12_parts := qX12_parts_0 _ (List.mem_of_getElem? (i := 10) rfl)
theorem tX12_parts_18 : (18, a_if_eq 41 21) ∈ kX12_parts := qX12_parts_0 _ (List.mem_of_getElem? (i := 11) rfl)
theorem tX12_parts_21 : (21, a_aload 0 22) ∈ kX12_parts := qX12_parts_0 _ (List.mem_of_getElem? (i := 12) rfl)
theorem tX12_parts_22 : (22, a_getR 12 38 25) ∈ kX12_parts := qX12_parts_0 _ (List.mem_of_getElem? (i := 13) rfl)
theorem tX12_parts_25 : (25, a_aload 0 26) ∈ kX12_parts := qX12_parts_0 _ (List.mem_of_getElem? (i := 14) rfl)
theorem tX12_parts_26 : (26, a_getI 12 37 29) ∈ kX12_parts := qX12_parts_0 _ (List.mem_of_getElem? (i := 15) rfl)
theorem tX12_parts_29 : (29, a_iload 1 30) ∈ kX12_parts := qX12_parts_0 _ (List.mem_of_getElem? (i := 16) rfl)
theorem tX12_parts_30 : (30, a_iast 31) ∈ kX12_parts := qX12_parts_0 _ (List.mem_of_getElem? (i := 17) rfl)
theorem tX12_parts_31 : (31, a_aload 0 32) ∈ kX12_parts := qX12_parts_0 _ (List.mem_of_getElem? (i := 18) rfl)
theorem tX12_parts_32 : (32, a_dup 33) ∈ kX12_parts := qX12_parts_0 _ (List.mem_of_getElem? (i := 19) rfl)
theorem tX12_parts_33 : (33, a_getI 12 37 36) ∈ kX12_parts := qX12_parts_0 _ (List.mem_of_getElem? (i := 20) rfl)
theorem tX12_parts_36 : (36, a_i 1 37) ∈ kX12_parts := qX12_parts_0 _ (List.mem_of_getElem? (i := 21) rfl)
theorem tX12_parts_37 : (37, a_ii (fun x y => x + y) 38) ∈ kX12_parts := qX12_parts_0 _ (List.mem_of_getElem? (i := 22) rfl)
theorem tX12_parts_38 : (38, a_putI 12 37 41 false) ∈ kX12_parts := qX12_parts_0 _ (List.mem_of_getElem? (i := 23) rfl)
theorem qX12_parts_1 : ∀ q ∈ kX12_parts_1, q ∈ kX12_parts := fun _ h => (List.mem_append_right _ (List.mem_append_left _ h))
theorem tX12_parts_41 : (41, a_iinc 1 1 44) ∈ kX12_parts := qX12_parts_1 _ (List.mem_of_getElem? (i := 0) rfl)
theorem tX12_parts_44 : (44, a_goto 7) ∈ kX12_parts := qX12_parts_1 _ (List.mem_of_getElem? (i := 1) rfl)
theorem tX12_parts_47 : (47, a_i (-4) 49) ∈ kX12_parts := qX12_parts_1 _ (List.mem_of_getElem? (i := 2) rfl)
theorem tX12_parts_49 : (49, a_istore 1 50) ∈ kX12_parts := qX12_parts_1 _ (List.mem_of_getElem? (i := 3) rfl)
theorem tX12_parts_50 : (50, a_i 40 52) ∈ kX12_parts := qX12_parts_1 _ (List.mem_of_getElem? (i := 4) rfl)
theorem tX12_parts_52 : (52, a_istore 2 53) ∈ kX12_parts := qX12_parts_1 _ (List.mem_of_getElem? (i := 5) rfl)
theorem tX12_parts_53 : (53, a_i 0 54) ∈ kX12_parts := qX12_parts_1 _ (List.mem_of_getElem? (i := 6) rfl)
theorem tX12_parts_54 : (54, a_istore 3 55) ∈ kX12_parts := qX12_parts_1 _ (List.mem_of_getElem? (i := 7) rfl)
theorem tX12_parts_55 : (55, a_iload 3 56) ∈ kX12_parts := qX12_parts_1 _ (List.mem_of_getElem? (i := 8) rfl)
theorem tX12_parts_56 : (56, a_aload 0 57) ∈ kX12_parts := qX12_parts_1 _ (List.mem_of_getElem? (i := 9) rfl)
theorem tX12_parts_57 : (57, a_getI 12 33 60) ∈ kX12_parts := qX12_parts_1 _ (List.mem_of_getElem? (i := 10) rfl)
theorem tX12_parts_60 : (60, a_ic_ge 220 63) ∈ kX12_parts := qX12_parts_1 _ (List.mem_of_getElem? (i := 11) rfl)
theorem tX12_parts_63 : (63, a_aload 0 64) ∈ kX12_parts := qX12_parts_1 _ (List.mem_of_getElem? (i := 12) rfl)
theorem tX12_parts_64 : (64, a_getI 12 37 67) ∈ kX12_parts := qX12_parts_1 _ (List.mem_of_getElem? (i := 13) rfl)
theorem tX12_parts_67 : (67, a_i 1 68) ∈ kX12_parts := qX12_parts_1 _ (List.mem_of_getElem? (i := 14) rfl)
theorem tX12_parts_68 : (68, a_ic_le 220 71) ∈ kX12_parts := qX12_parts_1 _ (List.mem_of_getElem? (i := 15) rfl)
theorem tX12_parts_71 : (71, a_aload 0 72) ∈ kX12_parts := qX12_parts_1 _ (List.mem_of_getElem? (i := 16) rfl)
theorem tX12_parts_72 : (72, a_getR 12 35 75) ∈ kX12_parts := qX12_parts_1 _ (List.mem_of_getElem? (i := 17) rfl)
theorem tX12_parts_75 : (75, a_iload 3 76) ∈ kX12_parts := qX12_parts_1 _ (List.mem_of_getElem? (i := 18) rfl)
theorem tX12_parts_76 : (76, a_iald 77) ∈ kX12_parts := qX12_parts_1 _ (List.mem_of_getElem? (i := 19) rfl)
theorem tX12_parts_77 : (77, a_i (-1) 78) ∈ kX12_parts := qX12_parts_1 _ (List.mem_of_getElem? (i := 20) rfl)
theorem tX12_parts_78 : (78, a_ic_ne 214 81) ∈ kX12_parts := qX12_parts_1 _ (List.mem_of_getElem? (i := 21) rfl)
theorem tX12_parts_81 : (81, a_i 0 82) ∈ kX12_parts := qX12_parts_1 _ (List.mem_of_getElem? (i := 22) rfl)
theorem tX12_parts_82 : (82, a_istore 4 84) ∈ kX12_parts := qX12_parts_1 _ (List.mem_of_getElem? (i := 23) rfl)
theorem qX12_parts_2 : ∀ q ∈ kX12_parts_2, q ∈ kX12_parts := fun _ h => (List.mem_append_right _ (List.mem_append_right _ (List.mem_append_left _ h)))
theorem tX12_parts_84 : (84, a_iload 4 86) ∈ kX12_parts := qX12_parts_2 _ (List.mem_of_getElem? (i := 0) rfl)
theorem tX12_parts_86 : (86, a_aload 0 87) ∈ kX12_parts := qX12_parts_2 _ (List.mem_of_getElem? (i := 1) rfl)
theorem tX12_parts_87 : (87, a_getI 12 37 90) ∈ kX12_parts := qX12_parts_2 _ (List.mem_of_getElem? (i := 2) rfl)
theorem tX12_parts_90 : (90, a_ic_ge 118 93) ∈ kX12_parts := qX12_parts_2 _ (List.mem_of_getElem? (i := 3) rfl)
theorem tX12_parts_93 : (93, a_aload 0 94) ∈ kX12_parts := qX12_parts_2 _ (List.mem_of_getElem? (i := 4) rfl)
theorem tX12_parts_94 : (94, a_getR 12 39 97) ∈ kX12_parts := qX12_parts_2 _ (List.mem_of_getElem? (i := 5) rfl)
theorem tX12_parts_97 : (97, a_iload 4 99) ∈ kX12_parts := qX12_parts_2 _ (List.mem_of_getElem? (i := 6) rfl)
theorem tX12_parts_99 : (99, a_aload 0 100) ∈ kX12_parts := qX12_parts_2 _ (List.mem_of_getElem? (i := 7) rfl)
theorem tX12_parts_100 : (100, a_aload 0 101) ∈ kX12_parts := qX12_parts_2 _ (List.mem_of_getElem? (i := 8) rfl)
theorem tX12_parts_101 : (101, a_getR 12 38 104) ∈ kX12_parts := qX12_parts_2 _ (List.mem_of_getElem? (i := 9) rfl)
theorem tX12_parts_104 : (104, a_iload 4 106) ∈ kX12_parts := qX12_parts_2 _ (List.mem_of_getElem? (i := 10) rfl)
theorem tX12_parts_106 : (106, a_iald 107) ∈ kX12_parts := qX12_parts_2 _ (List.mem_of_getElem? (i := 11) rfl)
theorem tX12_parts_107 : (107, a_iload 3 108) ∈ kX12_parts := qX12_parts_2 _ (List.mem_of_getElem? (i := 12) rfl)
theorem tX12_parts_108 : (108, a_callV 12 207 3 111 0 0) ∈ kX12_parts := qX12_parts_2 _ (List.mem_of_getElem? (i := 13) rfl)
theorem tX12_parts_111 : (111, a_iast 112) ∈ kX12_parts := qX12_parts_2 _ (List.mem_of_getElem? (i := 14) rfl)
theorem tX12_parts_112 : (112, a_iinc 4 1 115) ∈ kX12_parts := qX12_parts_2 _ (List.mem_of_getElem? (i := 15) rfl)
theorem tX12_parts_115 : (115, a_goto 84) ∈ kX12_parts := qX12_parts_2 _ (List.mem_of_getElem? (i := 16) rfl)
theorem tX12_parts_118 : (118, a_i 0 119) ∈ kX12_parts := qX12_parts_2 _ (List.mem_of_getElem? (i := 17) rfl)
theorem tX12_parts_119 : (119, a_istore 4 121) ∈ kX12_parts := qX12_parts_2 _ (List.mem_of_getElem? (i := 18) rfl)
theorem tX12_parts_121 : (121, a_i 0 122) ∈ kX12_parts := qX12_parts_2 _ (List.mem_of_getElem? (i := 19) rfl)
theorem tX12_parts_122 : (122, a_istore 5 124) ∈ kX12_parts := qX12_parts_2 _ (List.mem_of_getElem? (i := 20) rfl)
theorem tX12_parts_124 : (124, a_iload 5 126) ∈ kX12_parts := qX12_parts_2 _ (List.mem_of_getElem? (i := 21) rfl)
theorem tX12_parts_126 : (126, a_aload 0 127) ∈ kX12_parts := qX12_parts_2 _ (List.mem_of_getElem? (i := 22) rfl)
theorem tX12_parts_127 : (127, a_getI 12 37 130) ∈ kX12_parts := qX12_parts_2 _ (List.mem_of_getElem? (i := 23) rfl)
theorem qX12_parts_3 : ∀ q ∈ kX12_parts_3, q ∈ kX12_parts := fun _ h => (List.mem_append_right _ (List.mem_append_right _ (List.mem_append_right _ (List.mem_append_left _ h))))
theorem tX12_parts_130 : (130, a_ic_ge 203 133) ∈ kX12_parts := qX12_parts_3 _ (List.mem_of_getElem? (i := 0) rfl)
theorem tX12_parts_133 : (133, a_i 0 134) ∈ kX12_parts := qX12_parts_3 _ (List.mem_of_getElem? (i := 1) rfl)
theorem tX12_parts_134 : (134, a_istore 6 136) ∈ kX12_parts := qX12_parts_3 _ (List.mem_of_getElem? (i := 2) rfl)
theorem tX12_parts_136 : (136, a_i 0 137) ∈ kX12_parts := qX12_parts_3 _ (List.mem_of_getElem? (i := 3) rfl)
theorem tX12_parts_137 : (137, a_istore 7 139) ∈ kX12_parts := qX12_parts_3 _ (List.mem_of_getElem? (i := 4) rfl)
theorem tX12_parts_139 : (139, a_iload 7 141) ∈ kX12_parts := qX12_parts_3 _ (List.mem_of_getElem? (i := 5) rfl)
theorem tX12_parts_141 : (141, a_aload 0 142) ∈ kX12_parts := qX12_parts_3 _ (List.mem_of_getElem? (i := 6) rfl)
theorem tX12_parts_142 : (142, a_getI 12 37 145) ∈ kX12_parts := qX12_parts_3 _ (List.mem_of_getElem? (i := 7) rfl)
theorem tX12_parts_145 : (145, a_ic_ge 181 148) ∈ kX12_parts := qX12_parts_3 _ (List.mem_of_getElem? (i := 8) rfl)
theorem tX12_parts_148 : (148, a_iload 6 150) ∈ kX12_parts := qX12_parts_3 _ (List.mem_of_getElem? (i := 9) rfl)
theorem tX12_parts_150 : (150, a_aload 0 151) ∈ kX12_parts := qX12_parts_3 _ (List.mem_of_getElem? (i := 10) rfl)
theorem tX12_parts_151 : (151, a_getR 12 39 154) ∈ kX12_parts := qX12_parts_3 _ (List.mem_of_getElem? (i := 11) rfl)
theorem tX12_parts_154 : (154, a_iload 7 156) ∈ kX12_parts := qX12_parts_3 _ (List.mem_of_getElem? (i := 12) rfl)
theorem tX12_parts_156 : (156, a_iald 157) ∈ kX12_parts := qX12_parts_3 _ (List.mem_of_getElem? (i := 13) rfl)
theorem tX12_parts_157 : (157, a_aload 0 158) ∈ kX12_parts := qX12_parts_3 _ (List.mem_of_getElem? (i := 14) rfl)
theorem tX12_parts_158 : (158, a_getR 12 39 161) ∈ kX12_parts := qX12_parts_3 _ (List.mem_of_getElem? (i := 15) rfl)
theorem tX12_parts_161 : (161, a_iload 5 163) ∈ kX12_parts := qX12_parts_3 _ (List.mem_of_getElem? (i := 16) rfl)
theorem tX12_parts_163 : (163, a_iald 164) ∈ kX12_parts := qX12_parts_3 _ (List.mem_of_getElem? (i := 17) rfl)
theorem tX12_parts_164 : (164, a_ic_ne 171 167) ∈ kX12_parts := qX12_parts_3 _ (List.mem_of_getElem? (i := 18) rfl)
theorem tX12_parts_167 : (167, a_i 1 168) ∈ kX12_parts := qX12_parts_3 _ (List.mem_of_getElem? (i := 19) rfl)
theorem tX12_parts_168 : (168, a_goto 172) ∈ kX12_parts := qX12_parts_3 _ (List.mem_of_getElem? (i := 20) rfl)
theorem tX12_parts_171 : (171, a_i 0 172) ∈ kX12_parts := qX12_parts_3 _ (List.mem_of_getElem? (i := 21) rfl)
theorem tX12_parts_172 : (172, a_ii (fun x y => x + y) 173) ∈ kX12_parts := qX12_parts_3 _ (List.mem_of_getElem? (i := 22) rfl)
theorem tX12_parts_173 : (173, a_istore 6 175) ∈ kX12_parts := qX12_parts_3 _ (List.mem_of_getElem? (i := 23) rfl)
theorem qX12_parts_4 : ∀ q ∈ kX12_parts_4, q ∈ kX12_parts := fun _ h => (List.mem_append_right _ (List.mem_append_right _ (List.mem_append_right _ (List.mem_append_right _ h))))
theorem tX12_parts_175 : (175, a_iinc 7 1 178) ∈ kX12_parts := qX12_parts_4 _ (List.mem_of_getElem? (i := 0) rfl)
theorem tX12_parts_178 : (178, a_goto 139) ∈ kX12_parts := qX12_parts_4 _ (List.mem_of_getElem? (i := 1) rfl)
theorem tX12_parts_181 : (181, a_iload 6 183) ∈ kX12_parts := qX12_parts_4 _ (List.mem_of_getElem? (i := 2) rfl)
theorem tX12_parts_183 : (183, a_iload 4 185) ∈ kX12_parts := qX12_parts_4 _ (List.mem_of_getElem? (i := 3) rfl)
theorem tX12_parts_185 : (185, a_ic_le 193 188) ∈ kX12_parts := qX12_parts_4 _ (List.mem_of_getElem? (i := 4) rfl)
theorem tX12_parts_188 : (188, a_iload 6 190) ∈ kX12_parts := qX12_parts_4 _ (List.mem_of_getElem? (i := 5) rfl)
theorem tX12_parts_190 : (190, a_goto 195) ∈ kX12_parts := qX12_parts_4 _ (List.mem_of_getElem? (i := 6) rfl)
theorem tX12_parts_193 : (193, a_iload 4 195) ∈ kX12_parts := qX12_parts_4 _ (List.mem_of_getElem? (i := 7) rfl)
theorem tX12_parts_195 : (195, a_istore 4 197) ∈ kX12_parts := qX12_parts_4 _ (List.mem_of_getElem? (i := 8) rfl)
theorem tX12_parts_197 : (197, a_iinc 5 1 200) ∈ kX12_parts := qX12_parts_4 _ (List.mem_of_getElem? (i := 9) rfl)
theorem tX12_parts_200 : (200, a_goto 124) ∈ kX12_parts := qX12_parts_4 _ (List.mem_of_getElem? (i := 10) rfl)
theorem tX12_parts_203 : (203, a_iload 4 205) ∈ kX12_parts := qX12_parts_4 _ (List.mem_of_getElem? (i := 11) rfl)
theorem tX12_parts_205 : (205, a_iload 2 206) ∈ kX12_parts := qX12_parts_4 _ (List.mem_of_getElem? (i := 12) rfl)
theorem tX12_parts_206 : (206, a_ic_ge 214 209) ∈ kX12_parts := qX12_parts_4 _ (List.mem_of_getElem? (i := 13) rfl)
theorem tX12_parts_209 : (209, a_iload 4 211) ∈ kX12_parts := qX12_parts_4 _ (List.mem_of_getElem? (i := 14) rfl)
theorem tX12_parts_211 : (211, a_istore 2 212) ∈ kX12_parts := qX12_parts_4 _ (List.mem_of_getElem? (i := 15) rfl)
theorem tX12_parts_212 : (212, a_iload 3 213) ∈ kX12_parts := qX12_parts_4 _ (List.mem_of_getElem? (i := 16) rfl)
theorem tX12_parts_213 : (213, a_istore 1 214) ∈ kX12_parts := qX12_parts_4 _ (List.mem_of_getElem? (i := 17) rfl)
theorem tX12_parts_214 : (214, a_iinc 3 1 217) ∈ kX12_parts := qX12_parts_4 _ (List.mem_of_getElem? (i := 18) rfl)
theorem tX12_parts_217 : (217, a_goto 55) ∈ kX12_parts := qX12_parts_4 _ (List.mem_of_getElem? (i := 19) rfl)
theorem tX12_parts_220 : (220, a_iload 1 221) ∈ kX12_parts := qX12_parts_4 _ (List.mem_of_getElem? (i := 20) rfl)
theorem tX12_parts_221 : (221, a_iret false) ∈ kX12_parts := qX12_parts_4 _ (List.mem_of_getElem? (i := 21) rfl)
theorem oX12_parts : ∀ q ∈ kX12_parts, zSnd zty false RX12 cX12_parts 8 (some .int) false q := List.forall_mem_append.mpr ⟨oX12_parts_0, List.forall_mem_append.mpr ⟨oX12_parts_1, List.forall_mem_append.mpr ⟨oX12_parts_2, List.forall_mem_append.mpr ⟨oX12_parts_3, oX12_parts_4⟩⟩⟩⟩
theorem dX12_copyRest_0 : decode cX12_copyRest 0 = .ok (.iconst 0, 1) := by decide +kernel
theorem dX12_copyRest_1 : decode cX12_copyRest 1 = .ok (.istore_n 3, 1) := by decide +kernel
theorem dX12_copyRest_2 : decode cX12_copyRest 2 = .ok (.iload_n 3, 1) := by decide +kernel
theorem dX12_copyRest_3 : decode cX12_copyRest 3 = .ok (.iconst 4, 1) := by decide +kernel
theorem dX12_copyRest_4 : decode cX12_copyRest 4 = .ok (.if_icmp .ge 29, 3) := by decide +kernel
theorem dX12_copyRest_7 : decode cX12_copyRest 7 = .ok (.aload_n 0, 1) := by decide +kernel
theorem dX12_copyRest_8 : decode cX12_copyRest 8 = .ok (.getfield 34, 3) := by decide +kernel
theorem dX12_copyRest_11 : decode cX12_copyRest 11 = .ok (.iconst 4, 1) := by decide +kernel
theorem dX12_copyRest_12 : decode cX12_copyRest 12 = .ok (.iload_n 2, 1) := by decide +kernel
theorem dX12_copyRest_13 : decode cX12_copyRest 13 = .ok (.imul, 1) := by decide +kernel
theorem dX12_copyRest_14 : decode cX12_copyRest 14 = .ok (.iload_n 3, 1) := by decide +kernel
theorem dX12_copyRest_15 : decode cX12_copyRest 15 = .ok (.iadd, 1) := by decide +kernel
theorem dX12_copyRest_16 : decode cX12_copyRest 16 = .ok (.aload_n 0, 1) := by decide +kernel
theorem dX12_copyRest_17 : decode cX12_copyRest 17 = .ok (.getfield 34, 3) := by decide +kernel
theorem dX12_copyRest_20 : decode cX12_copyRest 20 = .ok (.iconst 4, 1) := by decide +kernel
theorem dX12_copyRest_21 : decode cX12_copyRest 21 = .ok (.iload_n 1, 1) := by decide +kernel
theorem dX12_copyRest_22 : decode cX12_copyRest 22 = .ok (.imul, 1) := by decide +kernel
theorem dX12_copyRest_23 : decode cX12_copyRest 23 = .ok (.iload_n 3, 1) := by decide +kernel
theorem dX12_copyRest_24 : decode cX12_copyRest 24 = .ok (.iadd, 1) := by decide +kernel
theorem dX12_copyRest_25 : decode cX12_copyRest 25 = .ok (.iaload, 1) := by decide +kernel
theorem dX12_copyRest_26 : decode cX12_copyRest 26 = .ok (.iastore, 1) := by decide +kernel
theorem dX12_copyRest_27 : decode cX12_copyRest 27 = .ok (.iinc 3 1, 3) := by decide +kernel
theorem dX12_copyRest_30 : decode cX12_copyRest 30 = .ok (.goto (-28), 3) := by decide +kernel
theorem dX12_copyRest_33 : decode cX12_copyRest 33 = .ok (.aload_n 0, 1) := by decide +kernel
theorem dX12_copyRest_34 : decode cX12_copyRest 34 = .ok (.getfield 37, 3) := by decide +kernel
theorem dX12_copyRest_37 : decode cX12_copyRest 37 = .ok (.iload_n 2, 1) := by decide +kernel
theorem dX12_copyRest_38 : decode cX12_copyRest 38 = .ok (.aload_n 0, 1) := by decide +kernel
theorem dX12_copyRest_39 : decode cX12_copyRest 39 = .ok (.getfield 37, 3) := by decide +kernel
theorem dX12_copyRest_42 : decode cX12_copyRest 42 = .ok (.iload_n 1, 1) := by decide +kernel
theorem dX12_copyRest_43 : decode cX12_copyRest 43 = .ok (.iaload, 1) := by decide +kernel
theorem dX12_copyRest_44 : decode cX12_copyRest 44 = .ok (.iastore, 1) := by decide +kernel
theorem dX12_copyRest_45 : decode cX12_copyRest 45 = .ok (.aload_n 0, 1) := by decide +kernel
theorem dX12_copyRest_46 : decode cX12_copyRest 46 = .ok (.getfield 40, 3) := by decide +kernel
theorem dX12_copyRest_49 : decode cX12_copyRest 49 = .ok (.iload_n 2, 1) := by decide +kernel
theorem dX12_copyRest_50 : decode cX12_copyRest 50 = .ok (.aload_n 0, 1) := by decide +kernel
theorem dX12_copyRest_51 : decode cX12_copyRest 51 = .ok (.getfield 40, 3) := by decide +kernel
theorem dX12_copyRest_54 : decode cX12_copyRest 54 = .ok (.iload_n 1, 1) := by decide +kernel
theorem dX12_copyRest_55 : decode cX12_copyRest 55 = .ok (.iaload, 1) := by decide +kernel
theorem dX12_copyRest_56 : decode cX12_copyRest 56 = .ok (.iastore, 1) := by decide +kernel
theorem dX12_copyRest_57 : decode cX12_copyRest 57 = .ok (.return_, 1) := by decide +kernel
def kX12_copyRest_0 : List (Nat × zT) := [(0, a_i 0 1), (1, a_istore 3 2), (2, a_iload 3 3), (3, a_i 4 4), (4, a_ic_ge 33 7), (7, a_aload 0 8), (8, a_getR 12 8 11), (11, a_i 4 12), (12, a_iload 2 13), (13, a_ii (fun x y => x * y) 14), (14, a_iload 3 15), (15, a_ii (fun x y => x + y) 16), (16, a_aload 0 17), (17, a_getR 12 8 20), (20, a_i 4 21), (21, a_iload 1 22), (22, a_ii (fun x y => x * y) 23), (23, a_iload 3 24), (24, a_ii (fun x y => x + y) 25), (25, a_iald 26), (26, a_iast 27), (27, a_iinc 3 1 30), (30, a_goto 2), (33, a_aload 0 34)]
theorem oX12_copyRest_0 : ∀ q ∈ kX12_copyRest_0, zSnd zty false RX12 cX12_copyRest 4 none false q := List.forall_mem_cons.mpr ⟨ok_iconst dX12_copyRest_0 (by decide), List.forall_mem_cons.mpr ⟨ok_istore_n dX12_copyRest_1 rfl (by decide), List.forall_mem_cons.mpr ⟨ok_iload_n dX12_copyRest_2 rfl, List.forall_mem_cons.mpr ⟨ok_iconst dX12_copyRest_3 (by decide), List.forall_mem_cons.mpr ⟨ok_ic_ge dX12_copyRest_4 (by decide), List.forall_mem_cons.mpr ⟨ok_aload_n dX12_copyRest_7 rfl, List.forall_mem_cons.mpr ⟨ok_getR dX12_copyRest_8 rfl in12 (by decide) rfl w965, List.forall_mem_cons.mpr ⟨ok_iconst dX12_copyRest_11 (by decide), List.forall_mem_cons.mpr ⟨ok_iload_n dX12_copyRest_12 rfl, List.forall_mem_cons.mpr ⟨ok_imul dX12_copyRest_13, List.forall_mem_cons.mpr ⟨ok_iload_n dX12_copyRest_14 rfl, List.forall_mem_cons.mpr ⟨ok_iadd dX12_copyRest_15, List.forall_mem_cons.mpr ⟨ok_aload_n dX12_copyRest_16 rfl, List.forall_mem_cons.mpr ⟨ok_getR dX12_copyRest_17 rfl in12 (by decide) rfl w965, List.forall_mem_cons.mpr ⟨ok_iconst dX12_copyRest_20 (by decide), List.forall_mem_cons.mpr ⟨ok_iload_n dX12_copyRest_21 rfl, List.forall_mem_cons.mpr ⟨ok_imul dX12_copyRest_22, List.forall_mem_cons.mpr ⟨ok_iload_n dX12_copyRest_23 rfl, List.forall_mem_cons.mpr ⟨ok_iadd dX12_copyRest_24, List.forall_mem_cons.mpr ⟨ok_iald dX12_copyRest_25, List.forall_mem_cons.mpr ⟨ok_iast dX12_copyRest_26, List.forall_mem_cons.mpr ⟨ok_iinc dX12_copyRest_27 (by decide) (by decide), List.forall_mem_cons.mpr ⟨ok_goto dX12_copyRest_30 (by decide), List.forall_mem_cons.mpr ⟨ok_aload_n dX12_copyRest_33 rfl, fun _ h => absurd h List.not_mem_nil⟩⟩⟩⟩⟩⟩⟩⟩⟩⟩⟩⟩⟩⟩⟩⟩⟩⟩⟩⟩⟩⟩⟩⟩
def kX12_copyRest_1 : List (Nat × zT) := [(34, a_getR 12 9 37), (37, a_iload 2 38), (38, a_aload 0 39), (39, a_getR 12 9 42), (42, a_iload 1 43), (43, a_iald 44), (44, a_iast 45), (45, a_aload 0 46), (46, a_getR 12 10 49), (49, a_iload 2 50), (50, a_aload 0 51), (51, a_getR 12 10 54), (54, a_iload 1 55), (55, a_iald 56), (56, a_iast 57), (57, a_vret)]
theorem oX12_copyRest_1 : ∀ q ∈ kX12_copyRest_1, zSnd zty false RX12 cX12_copyRest 4 none false q := List.forall_mem_cons.mpr ⟨ok_getR dX12_copyRest_34 rfl in12 (by decide) rfl w966, List.forall_mem_cons.mpr ⟨ok_iload_n dX12_copyRest_37 rfl, List.forall_mem_cons.mpr ⟨ok_aload_n dX12_copyRest_38 rfl, List.forall_mem_cons.mpr ⟨ok_getR dX12_copyRest_39 rfl in12 (by decide) rfl w966, List.forall_mem_cons.mpr ⟨ok_iload_n dX12_copyRest_42 rfl, List.forall_mem_cons.mpr ⟨ok_iald dX12_copyRest_43, List.forall_mem_cons.mpr ⟨ok_iast dX12_copyRest_44, List.forall_mem_cons.mpr ⟨ok_aload_n dX12_copyRest_45 rfl, List.forall_mem_cons.mpr ⟨ok_getR dX12_copyRest_46 rfl in12 (by decide) rfl w967, List.forall_mem_cons.mpr ⟨ok_iload_n dX12_copyRest_49 rfl, List.forall_mem_cons.mpr ⟨ok_aload_n dX12_copyRest_50 rfl, List.forall_mem_cons.mpr ⟨ok_getR dX12_copyRest_51 rfl in12 (by decide) rfl w967, List.forall_mem_cons.mpr ⟨ok_iload_n dX12_copyRest_54 rfl, List.forall_mem_cons.mpr ⟨ok_iald dX12_copyRest_55, List.forall_mem_cons.mpr ⟨ok_iast dX12_copyRest_56, List.forall_mem_cons.mpr ⟨ok_vret dX12_copyRest_57 rfl, fun _ h => absurd h List.not_mem_nil⟩⟩⟩⟩⟩⟩⟩⟩⟩⟩⟩⟩⟩⟩⟩⟩
def kX12_copyRest : List (Nat × zT) := kX12_copyRest_0 ++ (kX12_copyRest_1)
theorem qX12_copyRest_0 : ∀ q ∈ kX12_copyRest_0, q ∈ kX12_copyRest := fun _ h => (List.mem_append_left _ h)
theorem tX12_copyRest_0 : (0, a_i 0 1) ∈ kX12_copyRest := qX12_copyRest_0 _ (List.mem_of_getElem? (i := 0) rfl)
theorem tX12_copyRest_1 : (1, a_istore 3 2) ∈ kX12_copyRest := qX12_copyRest_0 _ (List.mem_of_getElem? (i := 1) rfl)
theorem tX12_copyRest_2 : (2, a_iload 3 3) ∈ kX12_copyRest := qX12_copyRest_0 _ (List.mem_of_getElem? (i := 2) rfl)
theorem tX12_copyRest_3 : (3, a_i 4 4) ∈ kX12_copyRest := qX12_copyRest_0 _ (List.mem_of_getElem? (i := 3) rfl)
theorem tX12_copyRest_4 : (4, a_ic_ge 33 7) ∈ kX12_copyRest := qX12_copyRest_0 _ (List.mem_of_getElem? (i := 4) rfl)
theorem tX12_copyRest_7 : (7, a_aload 0 8) ∈ kX12_copyRest := qX12_copyRest_0 _ (List.mem_of_getElem? (i := 5) rfl)
theorem tX12_copyRest_8 : (8, a_getR 12 8 11) ∈ kX12_copyRest := qX12_copyRest_0 _ (List.mem_of_getElem? (i := 6) rfl)
theorem tX12_copyRest_11 : (11, a_i 4 12) ∈ kX12_copyRest := qX12_copyRest_0 _ (List.mem_of_getElem? (i := 7) rfl)
theorem tX12_copyRest_12 : (12, a_iload 2 13) ∈ kX12_copyRest := qX12_copyRest_0 _ (List.mem_of_getElem? (i := 8) rfl)
theorem tX12_copyRest_13 : (13, a_ii (fun x y => x * y) 14) ∈ kX12_copyRest := qX12_copyRest_0 _ (List.mem_of_getElem? (i := 9) rfl)
theorem tX12_copyRest_14 : (14, a_iload 3 15) ∈ kX12_copyRest := qX12_copyRest_0 _ (List.mem_of_getElem? (i := 10) rfl)
theorem tX12_copyRest_15 : (15, a_ii (fun x y => x + y) 16) ∈ kX12_copyRest := qX12_copyRest_0 _ (List.mem_of_getElem? (i := 11) rfl)
theorem tX12_copyRest_16 : (16, a_aload 0 17) ∈ kX12_copyRest := qX12_copyRest_0 _ (List.mem_of_getElem? (i := 12) rfl)
theorem tX12_copyRest_17 : (17, a_getR 12 8 20) ∈ kX12_copyRest := qX12_copyRest_0 _ (List.mem_of_getElem? (i := 13) rfl)
theorem tX12_copyRest_20 : (20, a_i 4 21) ∈ kX12_copyRest := qX12_copyRest_0 _ (List.mem_of_getElem? (i := 14) rfl)
theorem tX12_copyRest_21 : (21, a_iload 1 22) ∈ kX12_copyRest := qX12_copyRest_0 _ (List.mem_of_getElem? (i := 15) rfl)
theorem tX12_copyRest_22 : (22, a_ii (fun x y => x * y) 23) ∈ kX12_copyRest := qX12_copyRest_0 _ (List.mem_of_getElem? (i := 16) rfl)
theorem tX12_copyRest_23 : (23, a_iload 3 24) ∈ kX12_copyRest := qX12_copyRest_0 _ (List.mem_of_getElem? (i := 17) rfl)
theorem tX12_copyRest_24 : (24, a_ii (fun x y => x + y) 25) ∈ kX12_copyRest := qX12_copyRest_0 _ (List.mem_of_getElem? (i := 18) rfl)
theorem tX12_copyRest_25 : (25, a_iald 26) ∈ kX12_copyRest := qX12_copyRest_0 _ (List.mem_of_getElem? (i := 19) rfl)
theorem tX12_copyRest_26 : (26, a_iast 27) ∈ kX12_copyRest := qX12_copyRest_0 _ (List.mem_of_getElem? (i := 20) rfl)
theorem tX12_copyRest_27 : (27, a_iinc 3 1 30) ∈ kX12_copyRest := qX12_copyRest_0 _ (List.mem_of_getElem? (i := 21) rfl)
theorem tX12_copyRest_30 : (30, a_goto 2) ∈ kX12_copyRest := qX12_copyRest_0 _ (List.mem_of_getElem? (i := 22) rfl)
theorem tX12_copyRest_33 : (33, a_aload 0 34) ∈ kX12_copyRest := qX12_copyRest_0 _ (List.mem_of_getElem? (i := 23) rfl)
theorem qX12_copyRest_1 : ∀ q ∈ kX12_copyRest_1, q ∈ kX12_copyRest := fun _ h => (List.mem_append_right _ h)
theorem tX12_copyRest_34 : (34, a_getR 12 9 37) ∈ kX12_copyRest := qX12_copyRest_1 _ (List.mem_of_getElem? (i := 0) rfl)
theorem tX12_copyRest_37 : (37, a_iload 2 38) ∈ kX12_copyRest := qX12_copyRest_1 _ (List.mem_of_getElem? (i := 1) rfl)
theorem tX12_copyRest_38 : (38, a_aload 0 39) ∈ kX12_copyRest := qX12_copyRest_1 _ (List.mem_of_getElem? (i := 2) rfl)
theorem tX12_copyRest_39 : (39, a_getR 12 9 42) ∈ kX12_copyRest := qX12_copyRest_1 _ (List.mem_of_getElem? (i := 3) rfl)
theorem tX12_copyRest_42 : (42, a_iload 1 43) ∈ kX12_copyRest := qX12_copyRest_1 _ (List.mem_of_getElem? (i := 4) rfl)
theorem tX12_copyRest_43 : (43, a_iald 44) ∈ kX12_copyRest := qX12_copyRest_1 _ (List.mem_of_getElem? (i := 5) rfl)
theorem tX12_copyRest_44 : (44, a_iast 45) ∈ kX12_copyRest := qX12_copyRest_1 _ (List.mem_of_getElem? (i := 6) rfl)
theorem tX12_copyRest_45 : (45, a_aload 0 46) ∈ kX12_copyRest := qX12_copyRest_1 _ (List.mem_of_getElem? (i := 7) rfl)
theorem tX12_copyRest_46 : (46, a_getR 12 10 49) ∈ kX12_copyRest := qX12_copyRest_1 _ (List.mem_of_getElem? (i := 8) rfl)
theorem tX12_copyRest_49 : (49, a_iload 2 50) ∈ kX12_copyRest := qX12_copyRest_1 _ (List.mem_of_getElem? (i := 9) rfl)
theorem tX12_copyRest_50 : (50, a_aload 0 51) ∈ kX12_copyRest := qX12_copyRest_1 _ (List.mem_of_getElem? (i := 10) rfl)
theorem tX12_copyRest_51 : (51, a_getR 12 10 54) ∈ kX12_copyRest := qX12_copyRest_1 _ (List.mem_of_getElem? (i := 11) rfl)
theorem tX12_copyRest_54 : (54, a_iload 1 55) ∈ kX12_copyRest := qX12_copyRest_1 _ (List.mem_of_getElem? (i := 12) rfl)
theorem tX12_copyRest_55 : (55, a_iald 56) ∈ kX12_copyRest := qX12_copyRest_1 _ (List.mem_of_getElem? (i := 13) rfl)
theorem tX12_copyRest_56 : (56, a_iast 57) ∈ kX12_copyRest := qX12_copyRest_1 _ (List.mem_of_getElem? (i := 14) rfl)
theorem tX12_copyRest_57 : (57, a_vret) ∈ kX12_copyRest := qX12_copyRest_1 _ (List.mem_of_getElem? (i := 15) rfl)
theorem oX12_copyRest : ∀ q ∈ kX12_copyRest, zSnd zty false RX12 cX12_copyRest 4 none false q := List.forall_mem_append.mpr ⟨oX12_copyRest_0, oX12_copyRest_1⟩
theorem dX12_keep_0 : decode cX12_keep 0 = .ok (.aload_n 0, 1) := by decide +kernel
theorem dX12_keep_1 : decode cX12_keep 1 = .ok (.getfield 262, 3) := by decide +kernel
theorem dX12_keep_4 : decode cX12_keep 4 = .ok (.iconst 2, 1) := by decide +kernel
theorem dX12_keep_5 : decode cX12_keep 5 = .ok (.if_icmp .ne 6, 3) := by decide +kernel
theorem dX12_keep_8 : decode cX12_keep 8 = .ok (.bipush (-3), 2) := by decide +kernel
theorem dX12_keep_10 : decode cX12_keep 10 = .ok (.ireturn, 1) := by decide +kernel
theorem dX12_keep_11 : decode cX12_keep 11 = .ok (.aload_n 0, 1) := by decide +kernel
theorem dX12_keep_12 : decode cX12_keep 12 = .ok (.iconst 0, 1) := by decide +kernel
theorem dX12_keep_13 : decode cX12_keep 13 = .ok (.iconst 3, 1) := by decide +kernel
theorem dX12_keep_14 : decode cX12_keep 14 = .ok (.iconst 2, 1) := by decide +kernel
theorem dX12_keep_15 : decode cX12_keep 15 = .ok (.aload_n 0, 1) := by decide +kernel
theorem dX12_keep_16 : decode cX12_keep 16 = .ok (.getfield 262, 3) := by decide +kernel
theorem dX12_keep_19 : decode cX12_keep 19 = .ok (.imul, 1) := by decide +kernel
theorem dX12_keep_20 : decode cX12_keep 20 = .ok (.iadd, 1) := by decide +kernel
theorem dX12_keep_21 : decode cX12_keep 21 = .ok (.invokevirtual 146, 3) := by decide +kernel
theorem dX12_keep_24 : decode cX12_keep 24 = .ok (.aload_n 0, 1) := by decide +kernel
theorem dX12_keep_25 : decode cX12_keep 25 = .ok (.iconst 1, 1) := by decide +kernel
theorem dX12_keep_26 : decode cX12_keep 26 = .ok (.iconst 4, 1) := by decide +kernel
theorem dX12_keep_27 : decode cX12_keep 27 = .ok (.iconst 2, 1) := by decide +kernel
theorem dX12_keep_28 : decode cX12_keep 28 = .ok (.aload_n 0, 1) := by decide +kernel
theorem dX12_keep_29 : decode cX12_keep 29 = .ok (.getfield 262, 3) := by decide +kernel
theorem dX12_keep_32 : decode cX12_keep 32 = .ok (.imul, 1) := by decide +kernel
theorem dX12_keep_33 : decode cX12_keep 33 = .ok (.iadd, 1) := by decide +kernel
theorem dX12_keep_34 : decode cX12_keep 34 = .ok (.invokevirtual 146, 3) := by decide +kernel
theorem dX12_keep_37 : decode cX12_keep 37 = .ok (.aload_n 0, 1) := by decide +kernel
theorem dX12_keep_38 : decode cX12_keep 38 = .ok (.iconst 0, 1) := by decide +kernel
theorem dX12_keep_39 : decode cX12_keep 39 = .ok (.iconst 1, 1) := by decide +kernel
theorem dX12_keep_40 : decode cX12_keep 40 = .ok (.aload_n 0, 1) := by decide +kernel
theorem dX12_keep_41 : decode cX12_keep 41 = .ok (.getfield 262, 3) := by decide +kernel
theorem dX12_keep_44 : decode cX12_keep 44 = .ok (.iadd, 1) := by decide +kernel
theorem dX12_keep_45 : decode cX12_keep 45 = .ok (.invokevirtual 265, 3) := by decide +kernel
theorem dX12_keep_48 : decode cX12_keep 48 = .ok (.aload_n 0, 1) := by decide +kernel
theorem dX12_keep_49 : decode cX12_keep 49 = .ok (.dup, 1) := by decide +kernel
theorem dX12_keep_50 : decode cX12_keep 50 = .ok (.getfield 262, 3) := by decide +kernel
theorem dX12_keep_53 : decode cX12_keep 53 = .ok (.iconst 1, 1) := by decide +kernel
theorem dX12_keep_54 : decode cX12_keep 54 = .ok (.iadd, 1) := by decide +kernel
theorem dX12_keep_55 : decode cX12_keep 55 = .ok (.putfield 262, 3) := by decide +kernel
theorem dX12_keep_58 : decode cX12_keep 58 = .ok (.aload_n 0, 1) := by decide +kernel
theorem dX12_keep_59 : decode cX12_keep 59 = .ok (.getfield 262, 3) := by decide +kernel
theorem dX12_keep_62 : decode cX12_keep 62 = .ok (.ireturn, 1) := by decide +kernel
def kX12_keep_0 : List (Nat × zT) := [(0, a_aload 0 1), (1, a_getI 12 11 4), (4, a_i 2 5), (5, a_ic_ne 11 8), (8, a_i (-3) 10), (10, a_iret false), (11, a_aload 0 12), (12, a_i 0 13), (13, a_i 3 14), (14, a_i 2 15), (15, a_aload 0 16), (16, a_getI 12 11 19), (19, a_ii (fun x y => x * y) 20), (20, a_ii (fun x y => x + y) 21), (21, a_callV 12 150 3 24 0 0), (24, a_aload 0 25), (25, a_i 1 26), (26, a_i 4 27), (27, a_i 2 28), (28, a_aload 0 29), (29, a_getI 12 11 32), (32, a_ii (fun x y => x * y) 33), (33, a_ii (fun x y => x + y) 34), (34, a_callV 12 150 3 37 0 0)]
theorem oX12_keep_0 : ∀ q ∈ kX12_keep_0, zSnd zty false RX12 cX12_keep 1 (some .int) false q := List.forall_mem_cons.mpr ⟨ok_aload_n dX12_keep_0 rfl, List.forall_mem_cons.mpr ⟨ok_getI dX12_keep_1 rfl in12 (by decide) rfl w968, List.forall_mem_cons.mpr ⟨ok_iconst dX12_keep_4 (by decide), List.forall_mem_cons.mpr ⟨ok_ic_ne dX12_keep_5 (by decide), List.forall_mem_cons.mpr ⟨ok_bipush dX12_keep_8 (by decide), List.forall_mem_cons.mpr ⟨ok_iret (bz := false) dX12_keep_10 rfl, List.forall_mem_cons.mpr ⟨ok_aload_n dX12_keep_11 rfl, List.forall_mem_cons.mpr ⟨ok_iconst dX12_keep_12 (by decide), List.forall_mem_cons.mpr ⟨ok_iconst dX12_keep_13 (by decide), List.forall_mem_cons.mpr ⟨ok_iconst dX12_keep_14 (by decide), List.forall_mem_cons.mpr ⟨ok_aload_n dX12_keep_15 rfl, List.forall_mem_cons.mpr ⟨ok_getI dX12_keep_16 rfl in12 (by decide) rfl w968, List.forall_mem_cons.mpr ⟨ok_imul dX12_keep_19, List.forall_mem_cons.mpr ⟨ok_iadd dX12_keep_20, List.forall_mem_cons.mpr ⟨ok_callV dX12_keep_21 rfl rfl w1136 w1133 w1135 w13 s29 (by decide +kernel) (by decide), List.forall_mem_cons.mpr ⟨ok_aload_n dX12_keep_24 rfl, List.forall_mem_cons.mpr ⟨ok_iconst dX12_keep_25 (by decide), List.forall_mem_cons.mpr ⟨ok_iconst dX12_keep_26 (by decide), List.forall_mem_cons.mpr ⟨ok_iconst dX12_keep_27 (by decide), List.forall_mem_cons.mpr ⟨ok_aload_n dX12_keep_28 rfl, List.forall_mem_cons.mpr ⟨ok_getI dX12_keep_29 rfl in12 (by decide) rfl w968, List.forall_mem_cons.mpr ⟨ok_imul dX12_keep_32, List.forall_mem_cons.mpr ⟨ok_iadd dX12_keep_33, List.forall_mem_cons.mpr ⟨ok_callV dX12_keep_34 rfl rfl w1136 w1133 w1135 w13 s29 (by decide +kernel) (by decide), fun _ h => absurd h List.not_mem_nil⟩⟩⟩⟩⟩⟩⟩⟩⟩⟩⟩⟩⟩⟩⟩⟩⟩⟩⟩⟩⟩⟩⟩⟩
def kX12_keep_1 : List (Nat × zT) := [(37, a_aload 0 38), (38, a_i 0 39), (39, a_i 1 40), (40, a_aload 0 41), (41, a_getI 12 11 44), (44, a_ii (fun x y => x + y) 45), (45, a_callV 12 211 3 48 0 0), (48, a_aload 0 49), (49, a_dup 50), (50, a_getI 12 11 53), (53, a_i 1 54), (54, a_ii (fun x y => x + y) 55), (55, a_putI 12 11 58 false), (58, a_aload 0 59), (59, a_getI 12 11 62), (62, a_iret false)]
theorem oX12_keep_1 : ∀ q ∈ kX12_keep_1, zSnd zty false RX12 cX12_keep 1 (some .int) false q := List.forall_mem_cons.mpr ⟨ok_aload_n dX12_keep_37 rfl, List.forall_mem_cons.mpr ⟨ok_iconst dX12_keep_38 (by decide), List.forall_mem_cons.mpr ⟨ok_iconst dX12_keep_39 (by decide), List.forall_mem_cons.mpr ⟨ok_aload_n dX12_keep_40 rfl, List.forall_mem_cons.mpr ⟨ok_getI dX12_keep_41 rfl in12 (by decide) rfl w968, List.forall_mem_cons.mpr ⟨ok_iadd dX12_keep_44, List.forall_mem_cons.mpr ⟨ok_callV dX12_keep_45 rfl rfl w1375 w1372 w1374 w13 s54 (by decide +kernel) (by decide), List.forall_mem_cons.mpr ⟨ok_aload_n dX12_keep_48 rfl, List.forall_mem_cons.mpr ⟨ok_dup dX12_keep_49, List.forall_mem_cons.mpr ⟨ok_getI dX12_keep_50 rfl in12 (by decide) rfl w968, List.forall_mem_cons.mpr ⟨ok_iconst dX12_keep_53 (by decide), List.forall_mem_cons.mpr ⟨ok_iadd dX12_keep_54, List.forall_mem_cons.mpr ⟨ok_putI (bz := false) dX12_keep_55 rfl in12 tyX12 tyX12_ok nmX12 (by decide) rfl w968 rfl rfl, List.forall_mem_cons.mpr ⟨ok_aload_n dX12_keep_58 rfl, List.forall_mem_cons.mpr ⟨ok_getI dX12_keep_59 rfl in12 (by decide) rfl w968, List.forall_mem_cons.mpr ⟨ok_iret (bz := false) dX12_keep_62 rfl, fun _ h => absurd h List.not_mem_nil⟩⟩⟩⟩⟩⟩⟩⟩⟩⟩⟩⟩⟩⟩⟩⟩
def kX12_keep : List (Nat × zT) := kX12_keep_0 ++ (kX12_keep_1)
theorem qX12_keep_0 : ∀ q ∈ kX12_keep_0, q ∈ kX12_keep := fun _ h => (List.mem_append_left _ h)
theorem tX12_keep_0 : (0, a_aload 0 1) ∈ kX12_keep := qX12_keep_0 _ (List.mem_of_getElem? (i := 0) rfl)
theorem tX12_keep_1 : (1, a_getI 12 11 4) ∈ kX12_keep := qX12_keep_0 _ (List.mem_of_getElem? (i := 1) rfl)
theorem tX12_keep_4 : (4, a_i 2 5) ∈ kX12_keep := qX12_keep_0 _ (List.mem_of_getElem? (i := 2) rfl)
theorem tX12_keep_5 : (5, a_ic_ne 11 8) ∈ kX12_keep := qX12_keep_0 _ (List.mem_of_getElem? (i := 3) rfl)
theorem tX12_keep_8 : (8, a_i (-3) 10) ∈ kX12_keep := qX12_keep_0 _ (List.mem_of_getElem? (i := 4) rfl)
theorem tX12_keep_10 : (10, a_iret false) ∈ kX12_keep := qX12_keep_0 _ (List.mem_of_getElem? (i := 5) rfl)
theorem tX12_keep_11 : (11, a_aload 0 12) ∈ kX12_keep := qX12_keep_0 _ (List.mem_of_getElem? (i := 6) rfl)
theorem tX12_keep_12 : (12, a_i 0 13) ∈ kX12_keep := qX12_keep_0 _ (List.mem_of_getElem? (i := 7) rfl)
theorem tX12_keep_13 : (13, a_i 3 14) ∈ kX12_keep := qX12_keep_0 _ (List.mem_of_getElem? (i := 8) rfl)
theorem tX12_keep_14 : (14, a_i 2 15) ∈ kX12_keep := qX12_keep_0 _ (List.mem_of_getElem? (i := 9) rfl)
theorem tX12_keep_15 : (15, a_aload 0 16) ∈ kX12_keep := qX12_keep_0 _ (List.mem_of_getElem? (i := 10) rfl)
theorem tX12_keep_16 : (16, a_getI 12 11 19) ∈ kX12_keep := qX12_keep_0 _ (List.mem_of_getElem? (i := 11) rfl)
theorem tX12_keep_19 : (19, a_ii (fun x y => x * y) 20) ∈ kX12_keep := qX12_keep_0 _ (List.mem_of_getElem? (i := 12) rfl)
theorem tX12_keep_20 : (20, a_ii (fun x y => x + y) 21) ∈ kX12_keep := qX12_keep_0 _ (List.mem_of_getElem? (i := 13) rfl)
theorem tX12_keep_21 : (21, a_callV 12 150 3 24 0 0) ∈ kX12_keep := qX12_keep_0 _ (List.mem_of_getElem? (i := 14) rfl)
theorem tX12_keep_24 : (24, a_aload 0 25) ∈ kX12_keep := qX12_keep_0 _ (List.mem_of_getElem? (i := 15) rfl)
theorem tX12_keep_25 : (25, a_i 1 26) ∈ kX12_keep := qX12_keep_0 _ (List.mem_of_getElem? (i := 16) rfl)
theorem tX12_keep_26 : (26, a_i 4 27) ∈ kX12_keep := qX12_keep_0 _ (List.mem_of_getElem? (i := 17) rfl)
theorem tX12_keep_27 : (27, a_i 2 28) ∈ kX12_keep := qX12_keep_0 _ (List.mem_of_getElem? (i := 18) rfl)
theorem tX12_keep_28 : (28, a_aload 0 29) ∈ kX12_keep := qX12_keep_0 _ (List.mem_of_getElem? (i := 19) rfl)
theorem tX12_keep_29 : (29, a_getI 12 11 32) ∈ kX12_keep := qX12_keep_0 _ (List.mem_of_getElem? (i := 20) rfl)
theorem tX12_keep_32 : (32, a_ii (fun x y => x * y) 33) ∈ kX12_keep := qX12_keep_0 _ (List.mem_of_getElem? (i := 21) rfl)
theorem tX12_keep_33 : (33, a_ii (fun x y => x + y) 34) ∈ kX12_keep := qX12_keep_0 _ (List.mem_of_getElem? (i := 22) rfl)
theorem tX12_keep_34 : (34, a_callV 12 150 3 37 0 0) ∈ kX12_keep := qX12_keep_0 _ (List.mem_of_getElem? (i := 23) rfl)
theorem qX12_keep_1 : ∀ q ∈ kX12_keep_1, q ∈ kX12_keep := fun _ h => (List.mem_append_right _ h)
theorem tX12_keep_37 : (37, a_aload 0 38) ∈ kX12_keep := qX12_keep_1 _ (List.mem_of_getElem? (i := 0) rfl)
theorem tX12_keep_38 : (38, a_i 0 39) ∈ kX12_keep := qX12_keep_1 _ (List.mem_of_getElem? (i := 1) rfl)
theorem tX12_keep_39 : (39, a_i 1 40) ∈ kX12_keep := qX12_keep_1 _ (List.mem_of_getElem? (i := 2) rfl)
theorem tX12_keep_40 : (40, a_aload 0 41) ∈ kX12_keep := qX12_keep_1 _ (List.mem_of_getElem? (i := 3) rfl)
theorem tX12_keep_41 : (41, a_getI 12 11 44) ∈ kX12_keep := qX12_keep_1 _ (List.mem_of_getElem? (i := 4) rfl)
theorem tX12_keep_44 : (44, a_ii (fun x y => x + y) 45) ∈ kX12_keep := qX12_keep_1 _ (List.mem_of_getElem? (i := 5) rfl)
theorem tX12_keep_45 : (45, a_callV 12 211 3 48 0 0) ∈ kX12_keep := qX12_keep_1 _ (List.mem_of_getElem? (i := 6) rfl)
theorem tX12_keep_48 : (48, a_aload 0 49) ∈ kX12_keep := qX12_keep_1 _ (List.mem_of_getElem? (i := 7) rfl)
theorem tX12_keep_49 : (49, a_dup 50) ∈ kX12_keep := qX12_keep_1 _ (List.mem_of_getElem? (i := 8) rfl)
theorem tX12_keep_50 : (50, a_getI 12 11 53) ∈ kX12_keep := qX12_keep_1 _ (List.mem_of_getElem? (i := 9) rfl)
theorem tX12_keep_53 : (53, a_i 1 54) ∈ kX12_keep := qX12_keep_1 _ (List.mem_of_getElem? (i := 10) rfl)
theorem tX12_keep_54 : (54, a_ii (fun x y => x + y) 55) ∈ kX12_keep := qX12_keep_1 _ (List.mem_of_getElem? (i := 11) rfl)
theorem tX12_keep_55 : (55, a_putI 12 11 58 false) ∈ kX12_keep := qX12_keep_1 _ (List.mem_of_getElem? (i := 12) rfl)
theorem tX12_keep_58 : (58, a_aload 0 59) ∈ kX12_keep := qX12_keep_1 _ (List.mem_of_getElem? (i := 13) rfl)
theorem tX12_keep_59 : (59, a_getI 12 11 62) ∈ kX12_keep := qX12_keep_1 _ (List.mem_of_getElem? (i := 14) rfl)
theorem tX12_keep_62 : (62, a_iret false) ∈ kX12_keep := qX12_keep_1 _ (List.mem_of_getElem? (i := 15) rfl)
theorem oX12_keep : ∀ q ∈ kX12_keep, zSnd zty false RX12 cX12_keep 1 (some .int) false q := List.forall_mem_append.mpr ⟨oX12_keep_0, oX12_keep_1⟩
theorem dX12_back_0 : decode cX12_back 0 = .ok (.aload_n 0, 1) := by decide +kernel
theorem dX12_back_1 : decode cX12_back 1 = .ok (.getfield 262, 3) := by decide +kernel
theorem dX12_back_4 : decode cX12_back 4 = .ok (.ifCond .ne 6, 3) := by decide +kernel
theorem dX12_back_7 : decode cX12_back 7 = .ok (.bipush (-2), 2) := by decide +kernel
theorem dX12_back_9 : decode cX12_back 9 = .ok (.ireturn, 1) := by decide +kernel
theorem dX12_back_10 : decode cX12_back 10 = .ok (.aload_n 0, 1) := by decide +kernel
theorem dX12_back_11 : decode cX12_back 11 = .ok (.dup, 1) := by decide +kernel
theorem dX12_back_12 : decode cX12_back 12 = .ok (.getfield 262, 3) := by decide +kernel
theorem dX12_back_15 : decode cX12_back 15 = .ok (.iconst 1, 1) := by decide +kernel
theorem dX12_back_16 : decode cX12_back 16 = .ok (.isub, 1) := by decide +kernel
theorem dX12_back_17 : decode cX12_back 17 = .ok (.putfield 262, 3) := by decide +kernel
theorem dX12_back_20 : decode cX12_back 20 = .ok (.aload_n 0, 1) := by decide +kernel
theorem dX12_back_21 : decode cX12_back 21 = .ok (.iconst 3, 1) := by decide +kernel
theorem dX12_back_22 : decode cX12_back 22 = .ok (.iconst 2, 1) := by decide +kernel
theorem dX12_back_23 : decode cX12_back 23 = .ok (.aload_n 0, 1) := by decide +kernel
theorem dX12_back_24 : decode cX12_back 24 = .ok (.getfield 262, 3) := by decide +kernel
theorem dX12_back_27 : decode cX12_back 27 = .ok (.imul, 1) := by decide +kernel
theorem dX12_back_28 : decode cX12_back 28 = .ok (.iadd, 1) := by decide +kernel
theorem dX12_back_29 : decode cX12_back 29 = .ok (.iconst 0, 1) := by decide +kernel
theorem dX12_back_30 : decode cX12_back 30 = .ok (.invokevirtual 146, 3) := by decide +kernel
theorem dX12_back_33 : decode cX12_back 33 = .ok (.aload_n 0, 1) := by decide +kernel
theorem dX12_back_34 : decode cX12_back 34 = .ok (.iconst 4, 1) := by decide +kernel
theorem dX12_back_35 : decode cX12_back 35 = .ok (.iconst 2, 1) := by decide +kernel
theorem dX12_back_36 : decode cX12_back 36 = .ok (.aload_n 0, 1) := by decide +kernel
theorem dX12_back_37 : decode cX12_back 37 = .ok (.getfield 262, 3) := by decide +kernel
theorem dX12_back_40 : decode cX12_back 40 = .ok (.imul, 1) := by decide +kernel
theorem dX12_back_41 : decode cX12_back 41 = .ok (.iadd, 1) := by decide +kernel
theorem dX12_back_42 : decode cX12_back 42 = .ok (.iconst 1, 1) := by decide +kernel
theorem dX12_back_43 : decode cX12_back 43 = .ok (.invokevirtual 146, 3) := by decide +kernel
theorem dX12_back_46 : decode cX12_back 46 = .ok (.aload_n 0, 1) := by decide +kernel
theorem dX12_back_47 : decode cX12_back 47 = .ok (.iconst 1, 1) := by decide +kernel
theorem dX12_back_48 : decode cX12_back 48 = .ok (.aload_n 0, 1) := by decide +kernel
theorem dX12_back_49 : decode cX12_back 49 = .ok (.getfield 262, 3) := by decide +kernel
theorem dX12_back_52 : decode cX12_back 52 = .ok (.iadd, 1) := by decide +kernel
theorem dX12_back_53 : decode cX12_back 53 = .ok (.iconst 0, 1) := by decide +kernel
theorem dX12_back_54 : decode cX12_back 54 = .ok (.invokevirtual 265, 3) := by decide +kernel
theorem dX12_back_57 : decode cX12_back 57 = .ok (.aload_n 0, 1) := by decide +kernel
theorem dX12_back_58 : decode cX12_back 58 = .ok (.getfield 262, 3) := by decide +kernel
theorem dX12_back_61 : decode cX12_back 61 = .ok (.ireturn, 1) := by decide +kernel
def kX12_back_0 : List (Nat × zT) := [(0, a_aload 0 1), (1, a_getI 12 11 4), (4, a_if_ne 10 7), (7, a_i (-2) 9), (9, a_iret false), (10, a_aload 0 11), (11, a_dup 12), (12, a_getI 12 11 15), (15, a_i 1 16), (16, a_ii (fun x y => x - y) 17), (17, a_putI 12 11 20 false), (20, a_aload 0 21), (21, a_i 3 22), (22, a_i 2 23), (23, a_aload 0 24), (24, a_getI 12 11 27), (27, a_ii (fun x y => x * y) 28), (28, a_ii (fun x y => x + y) 29), (29, a_i 0 30), (30, a_callV 12 150 3 33 0 0), (33, a_aload 0 34), (34, a_i 4 35), (35, a_i 2 36), (36, a_aload 0 37)]
theorem oX12_back_0 : ∀ q ∈ kX12_back_0, zSnd zty false RX12 cX12_back 1 (some .int) false q := List.forall_mem_cons.mpr ⟨ok_aload_n dX12_back_0 rfl, List.forall_mem_cons.mpr ⟨ok_getI dX12_back_1 rfl in12 (by decide) rfl w968, List.forall_mem_cons.mpr ⟨ok_if_ne dX12_back_4 (by decide), List.forall_mem_cons.mpr ⟨ok_bipush dX12_back_7 (by decide), List.forall_mem_cons.mpr ⟨ok_iret (bz := false) dX12_back_9 rfl, List.forall_mem_cons.mpr ⟨ok_aload_n dX12_back_10 rfl, List.forall_mem_cons.mpr ⟨ok_dup dX12_back_11, List.forall_mem_cons.mpr ⟨ok_getI dX12_back_12 rfl in12 (by decide) rfl w968, List.forall_mem_cons.mpr ⟨ok_iconst dX12_back_15 (by decide), List.forall_mem_cons.mpr ⟨ok_isub dX12_back_16, List.forall_mem_cons.mpr ⟨ok_putI (bz := false) dX12_back_17 rfl in12 tyX12 tyX12_ok nmX12 (by decide) rfl w968 rfl rfl, List.forall_mem_cons.mpr ⟨ok_aload_n dX12_back_20 rfl, List.forall_mem_cons.mpr ⟨ok_iconst dX12_back_21 (by decide), List.forall_mem_cons.mpr ⟨ok_iconst dX12_back_22 (by decide), List.forall_mem_cons.mpr ⟨ok_aload_n dX12_back_23 rfl, List.forall_mem_cons.mpr ⟨ok_getI dX12_back_24 rfl in12 (by decide) rfl w968, List.forall_mem_cons.mpr ⟨ok_imul dX12_back_27, List.forall_mem_cons.mpr ⟨ok_iadd dX12_back_28, List.forall_mem_cons.mpr ⟨ok_iconst dX12_back_29 (by decide), List.forall_mem_cons.mpr ⟨ok_callV dX12_back_30 rfl rfl w1136 w1133 w1135 w13 s29 (by decide +kernel) (by decide), List.forall_mem_cons.mpr ⟨ok_aload_n dX12_back_33 rfl, List.forall_mem_cons.mpr ⟨ok_iconst dX12_back_34 (by decide), List.forall_mem_cons.mpr ⟨ok_iconst dX12_back_35 (by decide), List.forall_mem_cons.mpr ⟨ok_aload_n dX12_back_36 rfl, fun _ h => absurd h List.not_mem_nil⟩⟩⟩⟩⟩⟩⟩⟩⟩⟩⟩⟩⟩⟩⟩⟩⟩⟩⟩⟩⟩⟩⟩⟩
def kX12_back_1 : List (Nat × zT) := [(37, a_getI 12 11 40), (40, a_ii (fun x y => x * y) 41), (41, a_ii (fun x y => x + y) 42), (42, a_i 1 43), (43, a_callV 12 150 3 46 0 0), (46, a_aload 0 47), (47, a_i 1 48), (48, a_aload 0 49), (49, a_getI 12 11 52), (52, a_ii (fun x y => x + y) 53), (53, a_i 0 54), (54, a_callV 12 211 3 57 0 0), (57, a_aload 0 58), (58, a_getI 12 11 61), (61, a_iret false)]
theorem oX12_back_1 : ∀ q ∈ kX12_back_1, zSnd zty false RX12 cX12_back 1 (some .int) false q := List.forall_mem_cons.mpr ⟨ok_getI dX12_back_37 rfl in12 (by decide) rfl w968, List.forall_mem_cons.mpr ⟨ok_imul dX12_back_40, List.forall_mem_cons.mpr ⟨ok_iadd dX12_back_41, List.forall_mem_cons.mpr ⟨ok_iconst dX12_back_42 (by decide), List.forall_mem_cons.mpr ⟨ok_callV dX12_back_43 rfl rfl w1136 w1133 w1135 w13 s29 (by decide +kernel) (by decide), List.forall_mem_cons.mpr ⟨ok_aload_n dX12_back_46 rfl, List.forall_mem_cons.mpr ⟨ok_iconst dX12_back_47 (by decide), List.forall_mem_cons.mpr ⟨ok_aload_n dX12_back_48 rfl, List.forall_mem_cons.mpr ⟨ok_getI dX12_back_49 rfl in12 (by decide) rfl w968, List.forall_mem_cons.mpr ⟨ok_iadd dX12_back_52, List.forall_mem_cons.mpr ⟨ok_iconst dX12_back_53 (by decide), List.forall_mem_cons.mpr ⟨ok_callV dX12_back_54 rfl rfl w1375 w1372 w1374 w13 s54 (by decide +kernel) (by decide), List.forall_mem_cons.mpr ⟨ok_aload_n dX12_back_57 rfl, List.forall_mem_cons.mpr ⟨ok_getI dX12_back_58 rfl in12 (by decide) rfl w968, List.forall_mem_cons.mpr ⟨ok_iret (bz := false) dX12_back_61 rfl, fun _ h => absurd h List.not_mem_nil⟩⟩⟩⟩⟩⟩⟩⟩⟩⟩⟩⟩⟩⟩⟩
def kX12_back : List (Nat × zT) := kX12_back_0 ++ (kX12_back_1)
theorem qX12_back_0 : ∀ q ∈ kX12_back_0, q ∈ kX12_back := fun _ h => (List.mem_append_left _ h)
theorem tX12_back_0 : (0, a_aload 0 1) ∈ kX12_back := qX12_back_0 _ (List.mem_of_getElem? (i := 0) rfl)
theorem tX12_back_1 : (1, a_getI 12 11 4) ∈ kX12_back := qX12_back_0 _ (List.mem_of_getElem? (i := 1) rfl)
theorem tX12_back_4 : (4, a_if_ne 10 7) ∈ kX12_back := qX12_back_0 _ (List.mem_of_getElem? (i := 2) rfl)
theorem tX12_back_7 : (7, a_i (-2) 9) ∈ kX12_back := qX12_back_0 _ (List.mem_of_getElem? (i := 3) rfl)
theorem tX12_back_9 : (9, a_iret false) ∈ kX12_back := qX12_back_0 _ (List.mem_of_getElem? (i := 4) rfl)
theorem tX12_back_10 : (10, a_aload 0 11) ∈ kX12_back := qX12_back_0 _ (List.mem_of_getElem? (i := 5) rfl)
theorem tX12_back_11 : (11, a_dup 12) ∈ kX12_back := qX12_back_0 _ (List.mem_of_getElem? (i := 6) rfl)
theorem tX12_back_12 : (12, a_getI 12 11 15) ∈ kX12_back := qX12_back_0 _ (List.mem_of_getElem? (i := 7) rfl)
theorem tX12_back_15 : (15, a_i 1 16) ∈ kX12_back := qX12_back_0 _ (List.mem_of_getElem? (i := 8) rfl)
theorem tX12_back_16 : (16, a_ii (fun x y => x - y) 17) ∈ kX12_back := qX12_back_0 _ (List.mem_of_getElem? (i := 9) rfl)
theorem tX12_back_17 : (17, a_putI 12 11 20 false) ∈ kX12_back := qX12_back_0 _ (List.mem_of_getElem? (i := 10) rfl)
theorem tX12_back_20 : (20, a_aload 0 21) ∈ kX12_back := qX12_back_0 _ (List.mem_of_getElem? (i := 11) rfl)
theorem tX12_back_21 : (21, a_i 3 22) ∈ kX12_back := qX12_back_0 _ (List.mem_of_getElem? (i := 12) rfl)
theorem tX12_back_22 : (22, a_i 2 23) ∈ kX12_back := qX12_back_0 _ (List.mem_of_getElem? (i := 13) rfl)
theorem tX12_back_23 : (23, a_aload 0 24) ∈ kX12_back := qX12_back_0 _ (List.mem_of_getElem? (i := 14) rfl)
theorem tX12_back_24 : (24, a_getI 12 11 27) ∈ kX12_back := qX12_back_0 _ (List.mem_of_getElem? (i := 15) rfl)
theorem tX12_back_27 : (27, a_ii (fun x y => x * y) 28) ∈ kX12_back := qX12_back_0 _ (List.mem_of_getElem? (i := 16) rfl)
theorem tX12_back_28 : (28, a_ii (fun x y => x + y) 29) ∈ kX12_back := qX12_back_0 _ (List.mem_of_getElem? (i := 17) rfl)
theorem tX12_back_29 : (29, a_i 0 30) ∈ kX12_back := qX12_back_0 _ (List.mem_of_getElem? (i := 18) rfl)
theorem tX12_back_30 : (30, a_callV 12 150 3 33 0 0) ∈ kX12_back := qX12_back_0 _ (List.mem_of_getElem? (i := 19) rfl)
theorem tX12_back_33 : (33, a_aload 0 34) ∈ kX12_back := qX12_back_0 _ (List.mem_of_getElem? (i := 20) rfl)
theorem tX12_back_34 : (34, a_i 4 35) ∈ kX12_back := qX12_back_0 _ (List.mem_of_getElem? (i := 21) rfl)
theorem tX12_back_35 : (35, a_i 2 36) ∈ kX12_back := qX12_back_0 _ (List.mem_of_getElem? (i := 22) rfl)
theorem tX12_back_36 : (36, a_aload 0 37) ∈ kX12_back := qX12_back_0 _ (List.mem_of_getElem? (i := 23) rfl)
theorem qX12_back_1 : ∀ q ∈ kX12_back_1, q ∈ kX12_back := fun _ h => (List.mem_append_right _ h)
theorem tX12_back_37 : (37, a_getI 12 11 40) ∈ kX12_back := qX12_back_1 _ (List.mem_of_getElem? (i := 0) rfl)
theorem tX12_back_40 : (40, a_ii (fun x y => x * y) 41) ∈ kX12_back := qX12_back_1 _ (List.mem_of_getElem? (i := 1) rfl)
theorem tX12_back_41 : (41, a_ii (fun x y => x + y) 42) ∈ kX12_back := qX12_back_1 _ (List.mem_of_getElem? (i := 2) rfl)
theorem tX12_back_42 : (42, a_i 1 43) ∈ kX12_back := qX12_back_1 _ (List.mem_of_getElem? (i := 3) rfl)
theorem tX12_back_43 : (43, a_callV 12 150 3 46 0 0) ∈ kX12_back := qX12_back_1 _ (List.mem_of_getElem? (i := 4) rfl)
theorem tX12_back_46 : (46, a_aload 0 47) ∈ kX12_back := qX12_back_1 _ (List.mem_of_getElem? (i := 5) rfl)
theorem tX12_back_47 : (47, a_i 1 48) ∈ kX12_back := qX12_back_1 _ (List.mem_of_getElem? (i := 6) rfl)
theorem tX12_back_48 : (48, a_aload 0 49) ∈ kX12_back := qX12_back_1 _ (List.mem_of_getElem? (i := 7) rfl)
theorem tX12_back_49 : (49, a_getI 12 11 52) ∈ kX12_back := qX12_back_1 _ (List.mem_of_getElem? (i := 8) rfl)
theorem tX12_back_52 : (52, a_ii (fun x y => x + y) 53) ∈ kX12_back := qX12_back_1 _ (List.mem_of_getElem? (i := 9) rfl)
theorem tX12_back_53 : (53, a_i 0 54) ∈ kX12_back := qX12_back_1 _ (List.mem_of_getElem? (i := 10) rfl)
theorem tX12_back_54 : (54, a_callV 12 211 3 57 0 0) ∈ kX12_back := qX12_back_1 _ (List.mem_of_getElem? (i := 11) rfl)
theorem tX12_back_57 : (57, a_aload 0 58) ∈ kX12_back := qX12_back_1 _ (List.mem_of_getElem? (i := 12) rfl)
theorem tX12_back_58 : (58, a_getI 12 11 61) ∈ kX12_back := qX12_back_1 _ (List.mem_of_getElem? (i := 13) rfl)
theorem tX12_back_61 : (61, a_iret false) ∈ kX12_back := qX12_back_1 _ (List.mem_of_getElem? (i := 14) rfl)
theorem oX12_back : ∀ q ∈ kX12_back, zSnd zty false RX12 cX12_back 1 (some .int) false q := List.forall_mem_append.mpr ⟨oX12_back_0, oX12_back_1⟩
theorem dX12_count_0 : decode cX12_count 0 = .ok (.iload_n 1, 1) := by decide +kernel
theorem dX12_count_1 : decode cX12_count 1 = .ok (.tableswitch 92 0 8 #[51, 51, 58, 58, 67, 72, 77, 82, 87], 51) := by decide +kernel
theorem dX12_count_52 : decode cX12_count 52 = .ok (.aload_n 0, 1) := by decide +kernel
theorem dX12_count_53 : decode cX12_count 53 = .ok (.getfield 13, 3) := by decide +kernel
theorem dX12_count_56 : decode cX12_count 56 = .ok (.iload_n 1, 1) := by decide +kernel
theorem dX12_count_57 : decode cX12_count 57 = .ok (.iaload, 1) := by decide +kernel
theorem dX12_count_58 : decode cX12_count 58 = .ok (.ireturn, 1) := by decide +kernel
theorem dX12_count_59 : decode cX12_count 59 = .ok (.aload_n 0, 1) := by decide +kernel
theorem dX12_count_60 : decode cX12_count 60 = .ok (.getfield 25, 3) := by decide +kernel
theorem dX12_count_63 : decode cX12_count 63 = .ok (.iload_n 1, 1) := by decide +kernel
theorem dX12_count_64 : decode cX12_count 64 = .ok (.iconst 2, 1) := by decide +kernel
theorem dX12_count_65 : decode cX12_count 65 = .ok (.isub, 1) := by decide +kernel
theorem dX12_count_66 : decode cX12_count 66 = .ok (.iaload, 1) := by decide +kernel
theorem dX12_count_67 : decode cX12_count 67 = .ok (.ireturn, 1) := by decide +kernel
theorem dX12_count_68 : decode cX12_count 68 = .ok (.aload_n 0, 1) := by decide +kernel
theorem dX12_count_69 : decode cX12_count 69 = .ok (.getfield 211, 3) := by decide +kernel
theorem dX12_count_72 : decode cX12_count 72 = .ok (.ireturn, 1) := by decide +kernel
theorem dX12_count_73 : decode cX12_count 73 = .ok (.aload_n 0, 1) := by decide +kernel
theorem dX12_count_74 : decode cX12_count 74 = .ok (.getfield 217, 3) := by decide +kernel
theorem dX12_count_77 : decode cX12_count 77 = .ok (.ireturn, 1) := by decide +kernel
theorem dX12_count_78 : decode cX12_count 78 = .ok (.aload_n 0, 1) := by decide +kernel
theorem dX12_count_79 : decode cX12_count 79 = .ok (.getfield 246, 3) := by decide +kernel
theorem dX12_count_82 : decode cX12_count 82 = .ok (.ireturn, 1) := by decide +kernel
theorem dX12_count_83 : decode cX12_count 83 = .ok (.aload_n 0, 1) := by decide +kernel
theorem dX12_count_84 : decode cX12_count 84 = .ok (.getfield 262, 3) := by decide +kernel
theorem dX12_count_87 : decode cX12_count 87 = .ok (.ireturn, 1) := by decide +kernel
theorem dX12_count_88 : decode cX12_count 88 = .ok (.aload_n 0, 1) := by decide +kernel
theorem dX12_count_89 : decode cX12_count 89 = .ok (.getfield 150, 3) := by decide +kernel
theorem dX12_count_92 : decode cX12_count 92 = .ok (.ireturn, 1) := by decide +kernel
theorem dX12_count_93 : decode cX12_count 93 = .ok (.iconst (-1), 1) := by decide +kernel
theorem dX12_count_94 : decode cX12_count 94 = .ok (.ireturn, 1) := by decide +kernel
def kX12_count_0 : List (Nat × zT) := [(0, a_iload 1 1), (1, a_sw [(0, 52), (1, 52), (2, 59), (3, 59), (4, 68), (5, 73), (6, 78), (7, 83), (8, 88)] 93), (52, a_aload 0 53), (53, a_getR 12 1 56), (56, a_iload 1 57), (57, a_iald 58), (58, a_iret false), (59, a_aload 0 60), (60, a_getR 12 5 63), (63, a_iload 1 64), (64, a_i 2 65), (65, a_ii (fun x y => x - y) 66), (66, a_iald 67), (67, a_iret false), (68, a_aload 0 69), (69, a_getI 12 27 72), (72, a_iret false), (73, a_aload 0 74), (74, a_getI 12 29 77), (77, a_iret false), (78, a_aload 0 79), (79, a_getI 12 33 82), (82, a_iret false), (83, a_aload 0 84)]
theorem oX12_count_0 : ∀ q ∈ kX12_count_0, zSnd zty false RX12 cX12_count 2 (some .int) false q := List.forall_mem_cons.mpr ⟨ok_iload_n dX12_count_0 rfl, List.forall_mem_cons.mpr ⟨ok_tsw dX12_count_1 (by decide) (by decide) (by decide) (by decide), List.forall_mem_cons.mpr ⟨ok_aload_n dX12_count_52 rfl, List.forall_mem_cons.mpr ⟨ok_getR dX12_count_53 rfl in12 (by decide) rfl w958, List.forall_mem_cons.mpr ⟨ok_iload_n dX12_count_56 rfl, List.forall_mem_cons.mpr ⟨ok_iald dX12_count_57, List.forall_mem_cons.mpr ⟨ok_iret (bz := false) dX12_count_58 rfl, List.forall_mem_cons.mpr ⟨ok_aload_n dX12_count_59 rfl, List.forall_mem_cons.mpr ⟨ok_getR dX12_count_60 rfl in12 (by decide) rfl w962, List.forall_mem_cons.mpr ⟨ok_iload_n dX12_count_63 rfl, List.forall_mem_cons.mpr ⟨ok_iconst dX12_count_64 (by decide), List.forall_mem_cons.mpr ⟨ok_isub dX12_count_65, List.forall_mem_cons.mpr ⟨ok_iald dX12_count_66, List.forall_mem_cons.mpr ⟨ok_iret (bz := false) dX12_count_67 rfl, List.forall_mem_cons.mpr ⟨ok_aload_n dX12_count_68 rfl, List.forall_mem_cons.mpr ⟨ok_getI dX12_count_69 rfl in12 (by decide) rfl w984, List.forall_mem_cons.mpr ⟨ok_iret (bz := false) dX12_count_72 rfl, List.forall_mem_cons.mpr ⟨ok_aload_n dX12_count_73 rfl, List.forall_mem_cons.mpr ⟨ok_getI dX12_count_74 rfl in12 (by decide) rfl w986, List.forall_mem_cons.mpr ⟨ok_iret (bz := false) dX12_count_77 rfl, List.forall_mem_cons.mpr ⟨ok_aload_n dX12_count_78 rfl, List.forall_mem_cons.mpr ⟨ok_getI dX12_count_79 rfl in12 (by decide) rfl w990, List.forall_mem_cons.mpr ⟨ok_iret (bz := false) dX12_count_82 rfl, List.forall_mem_cons.mpr ⟨ok_aload_n dX12_count_83 rfl, fun _ h => absurd h List.not_mem_nil⟩⟩⟩⟩⟩⟩⟩⟩⟩⟩⟩⟩⟩⟩⟩⟩⟩⟩⟩⟩⟩⟩⟩⟩
def kX12_count_1 : List (Nat × zT) := [(84, a_getI 12 11 87), (87, a_iret false), (88, a_aload 0 89), (89, a_getI 12 12 92), (92, a_iret false), (93, a_i (-1) 94), (94, a_iret false)]
theorem oX12_count_1 : ∀ q ∈ kX12_count_1, zSnd zty false RX12 cX12_count 2 (some .int) false q := List.forall_mem_cons.mpr ⟨ok_getI dX12_count_84 rfl in12 (by decide) rfl w968, List.forall_mem_cons.mpr ⟨ok_iret (bz := false) dX12_count_87 rfl, List.forall_mem_cons.mpr ⟨ok_aload_n dX12_count_88 rfl, List.forall_mem_cons.mpr ⟨ok_getI dX12_count_89 rfl in12 (by decide) rfl w969, List.forall_mem_cons.mpr ⟨ok_iret (bz := false) dX12_count_92 rfl, List.forall_mem_cons.mpr ⟨ok_iconst dX12_count_93 (by decide), List.forall_mem_cons.mpr ⟨ok_iret (bz := false) dX12_count_94 rfl, fun _ h => absurd h List.not_mem_nil⟩⟩⟩⟩⟩⟩⟩
def kX12_count : List (Nat × zT) := kX12_count_0 ++ (kX12_count_1)
theorem qX12_count_0 : ∀ q ∈ kX12_count_0, q ∈ kX12_count := fun _ h => (List.mem_append_left _ h)
theorem tX12_count_0 : (0, a_iload 1 1) ∈ kX12_count := qX12_count_0 _ (List.mem_of_getElem? (i := 0) rfl)
theorem tX12_count_1 : (1, a_sw [(0, 52), (1, 52), (2, 59), (3, 59), (4, 68), (5, 73), (6, 78), (7, 83), (8, 88)] 93) ∈ kX12_count := qX12_count_0 _ (List.mem_of_getElem? (i := 1) rfl)
theorem tX12_count_52 : (52, a_aload 0 53) ∈ kX12_count := qX12_count_0 _ (List.mem_of_getElem? (i := 2) rfl)
theorem tX12_count_53 : (53, a_getR 12 1 56) ∈ kX12_count := qX12_count_0 _ (List.mem_of_getElem? (i := 3) rfl)
theorem tX12_count_56 : (56, a_iload 1 57) ∈ kX12_count := qX12_count_0 _ (List.mem_of_getElem? (i := 4) rfl)
theorem tX12_count_57 : (57, a_iald 58) ∈ kX12_count := qX12_count_0 _ (List.mem_of_getElem? (i := 5) rfl)
theorem tX12_count_58 : (58, a_iret false) ∈ kX12_count := qX12_count_0 _ (List.mem_of_getElem? (i := 6) rfl)
theorem tX12_count_59 : (59, a_aload 0 60) ∈ kX12_count := qX12_count_0 _ (List.mem_of_getElem? (i := 7) rfl)
theorem tX12_count_60 : (60, a_getR 12 5 63) ∈ kX12_count := qX12_count_0 _ (List.mem_of_getElem? (i := 8) rfl)
theorem tX12_count_63 : (63, a_iload 1 64) ∈ kX12_count := qX12_count_0 _ (List.mem_of_getElem? (i := 9) rfl)
theorem tX12_count_64 : (64, a_i 2 65) ∈ kX12_count := qX12_count_0 _ (List.mem_of_getElem? (i := 10) rfl)
theorem tX12_count_65 : (65, a_ii (fun x y => x - y) 66) ∈ kX12_count := qX12_count_0 _ (List.mem_of_getElem? (i := 11) rfl)
theorem tX12_count_66 : (66, a_iald 67) ∈ kX12_count := qX12_count_0 _ (List.mem_of_getElem? (i := 12) rfl)
theorem tX12_count_67 : (67, a_iret false) ∈ kX12_count := qX12_count_0 _ (List.mem_of_getElem? (i := 13) rfl)
theorem tX12_count_68 : (68, a_aload 0 69) ∈ kX12_count := qX12_count_0 _ (List.mem_of_getElem? (i := 14) rfl)
theorem tX12_count_69 : (69, a_getI 12 27 72) ∈ kX12_count := qX12_count_0 _ (List.mem_of_getElem? (i := 15) rfl)
theorem tX12_count_72 : (72, a_iret false) ∈ kX12_count := qX12_count_0 _ (List.mem_of_getElem? (i := 16) rfl)
theorem tX12_count_73 : (73, a_aload 0 74) ∈ kX12_count := qX12_count_0 _ (List.mem_of_getElem? (i := 17) rfl)
theorem tX12_count_74 : (74, a_getI 12 29 77) ∈ kX12_count := qX12_count_0 _ (List.mem_of_getElem? (i := 18) rfl)
theorem tX12_count_77 : (77, a_iret false) ∈ kX12_count := qX12_count_0 _ (List.mem_of_getElem? (i := 19) rfl)
theorem tX12_count_78 : (78, a_aload 0 79) ∈ kX12_count := qX12_count_0 _ (List.mem_of_getElem? (i := 20) rfl)
theorem tX12_count_79 : (79, a_getI 12 33 82) ∈ kX12_count := qX12_count_0 _ (List.mem_of_getElem? (i := 21) rfl)
theorem tX12_count_82 : (82, a_iret false) ∈ kX12_count := qX12_count_0 _ (List.mem_of_getElem? (i := 22) rfl)
theorem tX12_count_83 : (83, a_aload 0 84) ∈ kX12_count := qX12_count_0 _ (List.mem_of_getElem? (i := 23) rfl)
theorem qX12_count_1 : ∀ q ∈ kX12_count_1, q ∈ kX12_count := fun _ h => (List.mem_append_right _ h)
theorem tX12_count_84 : (84, a_getI 12 11 87) ∈ kX12_count := qX12_count_1 _ (List.mem_of_getElem? (i := 0) rfl)
theorem tX12_count_87 : (87, a_iret false) ∈ kX12_count := qX12_count_1 _ (List.mem_of_getElem? (i := 1) rfl)
theorem tX12_count_88 : (88, a_aload 0 89) ∈ kX12_count := qX12_count_1 _ (List.mem_of_getElem? (i := 2) rfl)
theorem tX12_count_89 : (89, a_getI 12 12 92) ∈ kX12_count := qX12_count_1 _ (List.mem_of_getElem? (i := 3) rfl)
theorem tX12_count_92 : (92, a_iret false) ∈ kX12_count := qX12_count_1 _ (List.mem_of_getElem? (i := 4) rfl)
theorem tX12_count_93 : (93, a_i (-1) 94) ∈ kX12_count := qX12_count_1 _ (List.mem_of_getElem? (i := 5) rfl)
theorem tX12_count_94 : (94, a_iret false) ∈ kX12_count := qX12_count_1 _ (List.mem_of_getElem? (i := 6) rfl)
theorem oX12_count : ∀ q ∈ kX12_count, zSnd zty false RX12 cX12_count 2 (some .int) false q := List.forall_mem_append.mpr ⟨oX12_count_0, oX12_count_1⟩
