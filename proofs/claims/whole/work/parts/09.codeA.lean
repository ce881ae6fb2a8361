theorem dX0_init_0 : decode cX0_init 0 = .ok (.aload_n 0, 1) := by decide +kernel
theorem dX0_init_1 : decode cX0_init 1 = .ok (.invokespecial 3, 3) := by decide +kernel
theorem dX0_init_4 : decode cX0_init 4 = .ok (.aload_n 0, 1) := by decide +kernel
theorem dX0_init_5 : decode cX0_init 5 = .ok (.bipush 18, 2) := by decide +kernel
theorem dX0_init_7 : decode cX0_init 7 = .ok (.newarray .int, 2) := by decide +kernel
theorem dX0_init_9 : decode cX0_init 9 = .ok (.putfield 9, 3) := by decide +kernel
theorem dX0_init_12 : decode cX0_init 12 = .ok (.aload_n 0, 1) := by decide +kernel
theorem dX0_init_13 : decode cX0_init 13 = .ok (.bipush 18, 2) := by decide +kernel
theorem dX0_init_15 : decode cX0_init 15 = .ok (.newarray .int, 2) := by decide +kernel
theorem dX0_init_17 : decode cX0_init 17 = .ok (.putfield 15, 3) := by decide +kernel
theorem dX0_init_20 : decode cX0_init 20 = .ok (.return_, 1) := by decide +kernel
def kX0_init_0 : List (Nat × zT) := [(0, a_aload 0 1), (1, a_obj 4), (4, a_aload 0 5), (5, a_i 18 7), (7, a_newI 9), (9, a_putR 0 0 12), (12, a_aload 0 13), (13, a_i 18 15), (15, a_newI 17), (17, a_putR 0 1 20), (20, a_vret)]
theorem oX0_init_0 : ∀ q ∈ kX0_init_0, zSnd zty true RX0 cX0_init 1 none true q := List.forall_mem_cons.mpr ⟨ok_aload_n dX0_init_0 rfl, List.forall_mem_cons.mpr ⟨ok_obj dX0_init_1 w206 w25 w26, List.forall_mem_cons.mpr ⟨ok_aload_n dX0_init_4 rfl, List.forall_mem_cons.mpr ⟨ok_bipush dX0_init_5 (by decide), List.forall_mem_cons.mpr ⟨ok_newI dX0_init_7 rfl w44, List.forall_mem_cons.mpr ⟨ok_putR dX0_init_9 rfl rfl in0 tyX0 tyX0_ok nmX0 (by decide) rfl w207 rfl rfl (fun _ => ⟨rfl, rfl⟩), List.forall_mem_cons.mpr ⟨ok_aload_n dX0_init_12 rfl, List.forall_mem_cons.mpr ⟨ok_bipush dX0_init_13 (by decide), List.forall_mem_cons.mpr ⟨ok_newI dX0_init_15 rfl w44, List.forall_mem_cons.mpr ⟨ok_putR dX0_init_17 rfl rfl in0 tyX0 tyX0_ok nmX0 (by decide) rfl w208 rfl rfl (fun _ => ⟨rfl, rfl⟩), List.forall_mem_cons.mpr ⟨ok_vret dX0_init_20 rfl, fun _ h => absurd h List.not_mem_nil⟩⟩⟩⟩⟩⟩⟩⟩⟩⟩⟩
def kX0_init : List (Nat × zT) := kX0_init_0
theorem qX0_init_0 : ∀ q ∈ kX0_init_0, q ∈ kX0_init := fun _ h => h
theorem tX0_init_0 : (0, a_aload 0 1) ∈ kX0_init := qX0_init_0 _ (List.mem_of_getElem? (i := 0) rfl)
theorem tX0_init_1 : (1, a_obj 4) ∈ kX0_init := qX0_init_0 _ (List.mem_of_getElem? (i := 1) rfl)
theorem tX0_init_4 : (4, a_aload 0 5) ∈ kX0_init := qX0_init_0 _ (List.mem_of_getElem? (i := 2) rfl)
theorem tX0_init_5 : (5, a_i 18 7) ∈ kX0_init := qX0_init_0 _ (List.mem_of_getElem? (i := 3) rfl)
theorem tX0_init_7 : (7, a_newI 9) ∈ kX0_init := qX0_init_0 _ (List.mem_of_getElem? (i := 4) rfl)
theorem tX0_init_9 : (9, a_putR 0 0 12) ∈ kX0_init := qX0_init_0 _ (List.mem_of_getElem? (i := 5) rfl)
theorem tX0_init_12 : (12, a_aload 0 13) ∈ kX0_init := qX0_init_0 _ (List.mem_of_getElem? (i := 6) rfl)
theorem tX0_init_13 : (13, a_i 18 15) ∈ kX0_init := qX0_init_0 _ (List.mem_of_getElem? (i := 7) rfl)
theorem tX0_init_15 : (15, a_newI 17) ∈ kX0_init := qX0_init_0 _ (List.mem_of_getElem? (i := 8) rfl)
theorem tX0_init_17 : (17, a_putR 0 1 20) ∈ kX0_init := qX0_init_0 _ (List.mem_of_getElem? (i := 9) rfl)
theorem tX0_init_20 : (20, a_vret) ∈ kX0_init := qX0_init_0 _ (List.mem_of_getElem? (i := 10) rfl)
theorem oX0_init : ∀ q ∈ kX0_init, zSnd zty true RX0 cX0_init 1 none true q := oX0_init_0
theorem dX0_ofAll_0 : decode cX0_ofAll 0 = .ok (.iconst 0, 1) := by decide +kernel
theorem dX0_ofAll_1 : decode cX0_ofAll 1 = .ok (.istore_n 3, 1) := by decide +kernel
theorem dX0_ofAll_2 : decode cX0_ofAll 2 = .ok (.iconst 0, 1) := by decide +kernel
theorem dX0_ofAll_3 : decode cX0_ofAll 3 = .ok (.istore 4, 2) := by decide +kernel
theorem dX0_ofAll_5 : decode cX0_ofAll 5 = .ok (.iload 4, 2) := by decide +kernel
theorem dX0_ofAll_7 : decode cX0_ofAll 7 = .ok (.aload_n 1, 1) := by decide +kernel
theorem dX0_ofAll_8 : decode cX0_ofAll 8 = .ok (.getfield 18, 3) := by decide +kernel
theorem dX0_ofAll_11 : decode cX0_ofAll 11 = .ok (.if_icmp .ge 25, 3) := by decide +kernel
theorem dX0_ofAll_14 : decode cX0_ofAll 14 = .ok (.iload_n 3, 1) := by decide +kernel
theorem dX0_ofAll_15 : decode cX0_ofAll 15 = .ok (.aload_n 0, 1) := by decide +kernel
theorem dX0_ofAll_16 : decode cX0_ofAll 16 = .ok (.aload_n 1, 1) := by decide +kernel
theorem dX0_ofAll_17 : decode cX0_ofAll 17 = .ok (.aload_n 1, 1) := by decide +kernel
theorem dX0_ofAll_18 : decode cX0_ofAll 18 = .ok (.getfield 24, 3) := by decide +kernel
theorem dX0_ofAll_21 : decode cX0_ofAll 21 = .ok (.iload 4, 2) := by decide +kernel
theorem dX0_ofAll_23 : decode cX0_ofAll 23 = .ok (.iaload, 1) := by decide +kernel
theorem dX0_ofAll_24 : decode cX0_ofAll 24 = .ok (.aload_n 2, 1) := by decide +kernel
theorem dX0_ofAll_25 : decode cX0_ofAll 25 = .ok (.invokevirtual 27, 3) := by decide +kernel
theorem dX0_ofAll_28 : decode cX0_ofAll 28 = .ok (.iadd, 1) := by decide +kernel
theorem dX0_ofAll_29 : decode cX0_ofAll 29 = .ok (.istore_n 3, 1) := by decide +kernel
theorem dX0_ofAll_30 : decode cX0_ofAll 30 = .ok (.iinc 4 1, 3) := by decide +kernel
theorem dX0_ofAll_33 : decode cX0_ofAll 33 = .ok (.goto (-28), 3) := by decide +kernel
theorem dX0_ofAll_36 : decode cX0_ofAll 36 = .ok (.iload_n 3, 1) := by decide +kernel
theorem dX0_ofAll_37 : decode cX0_ofAll 37 = .ok (.ireturn, 1) := by decide +kernel
def kX0_ofAll_0 : List (Nat × zT) := [(0, a_i 0 1), (1, a_istore 3 2), (2, a_i 0 3), (3, a_istore 4 5), (5, a_iload 4 7), (7, a_aload 1 8), (8, a_getI 10 7 11), (11, a_ic_ge 36 14), (14, a_iload 3 15), (15, a_aload 0 16), (16, a_aload 1 17), (17, a_aload 1 18), (18, a_getR 10 5 21), (21, a_iload 4 23), (23, a_iald 24), (24, a_aload 2 25), (25, a_callV 0 2 4 28 0 0), (28, a_ii (fun x y => x + y) 29), (29, a_istore 3 30), (30, a_iinc 4 1 33), (33, a_goto 5), (36, a_iload 3 37), (37, a_iret false)]
theorem oX0_ofAll_0 : ∀ q ∈ kX0_ofAll_0, zSnd zty false RX0 cX0_ofAll 5 (some .int) false q := List.forall_mem_cons.mpr ⟨ok_iconst dX0_ofAll_0 (by decide), List.forall_mem_cons.mpr ⟨ok_istore_n dX0_ofAll_1 rfl (by decide), List.forall_mem_cons.mpr ⟨ok_iconst dX0_ofAll_2 (by decide), List.forall_mem_cons.mpr ⟨ok_istore dX0_ofAll_3 (by decide), List.forall_mem_cons.mpr ⟨ok_iload dX0_ofAll_5, List.forall_mem_cons.mpr ⟨ok_aload_n dX0_ofAll_7 rfl, List.forall_mem_cons.mpr ⟨ok_getI dX0_ofAll_8 rfl in10 (by decide) rfl w89, List.forall_mem_cons.mpr ⟨ok_ic_ge dX0_ofAll_11 (by decide), List.forall_mem_cons.mpr ⟨ok_iload_n dX0_ofAll_14 rfl, List.forall_mem_cons.mpr ⟨ok_aload_n dX0_ofAll_15 rfl, List.forall_mem_cons.mpr ⟨ok_aload_n dX0_ofAll_16 rfl, List.forall_mem_cons.mpr ⟨ok_aload_n dX0_ofAll_17 rfl, List.forall_mem_cons.mpr ⟨ok_getR dX0_ofAll_18 rfl in10 (by decide) rfl w80, List.forall_mem_cons.mpr ⟨ok_iload dX0_ofAll_21, List.forall_mem_cons.mpr ⟨ok_iald dX0_ofAll_23, List.forall_mem_cons.mpr ⟨ok_aload_n dX0_ofAll_24 rfl, List.forall_mem_cons.mpr ⟨ok_callV dX0_ofAll_25 rfl rfl w678 w675 w676 w8 w677 (by decide +kernel) (by decide), List.forall_mem_cons.mpr ⟨ok_iadd dX0_ofAll_28, List.forall_mem_cons.mpr ⟨ok_istore_n dX0_ofAll_29 rfl (by decide), List.forall_mem_cons.mpr ⟨ok_iinc dX0_ofAll_30 (by decide) (by decide), List.forall_mem_cons.mpr ⟨ok_goto dX0_ofAll_33 (by decide), List.forall_mem_cons.mpr ⟨ok_iload_n dX0_ofAll_36 rfl, List.forall_mem_cons.mpr ⟨ok_iret (bz := false) dX0_ofAll_37 rfl, fun _ h => absurd h List.not_mem_nil⟩⟩⟩⟩⟩⟩⟩⟩⟩⟩⟩⟩⟩⟩⟩⟩⟩⟩⟩⟩⟩⟩⟩
def kX0_ofAll : List (Nat × zT) := kX0_ofAll_0
theorem qX0_ofAll_0 : ∀ q ∈ kX0_ofAll_0, q ∈ kX0_ofAll := fun _ h => h
theorem tX0_ofAll_0 : (0, a_i 0 1) ∈ kX0_ofAll := qX0_ofAll_0 _ (List.mem_of_getElem? (i := 0) rfl)
theorem tX0_ofAll_1 : (1, a_istore 3 2) ∈ kX0_ofAll := qX0_ofAll_0 _ (List.mem_of_getElem? (i := 1) rfl)
theorem tX0_ofAll_2 : (2, a_i 0 3) ∈ kX0_ofAll := qX0_ofAll_0 _ (List.mem_of_getElem? (i := 2) rfl)
theorem tX0_ofAll_3 : (3, a_istore 4 5) ∈ kX0_ofAll := qX0_ofAll_0 _ (List.mem_of_getElem? (i := 3) rfl)
theorem tX0_ofAll_5 : (5, a_iload 4 7) ∈ kX0_ofAll := qX0_ofAll_0 _ (List.mem_of_getElem? (i := 4) rfl)
theorem tX0_ofAll_7 : (7, a_aload 1 8) ∈ kX0_ofAll := qX0_ofAll_0 _ (List.mem_of_getElem? (i := 5) rfl)
theorem tX0_ofAll_8 : (8, a_getI 10 7 11) ∈ kX0_ofAll := qX0_ofAll_0 _ (List.mem_of_getElem? (i := 6) rfl)
theorem tX0_ofAll_11 : (11, a_ic_ge 36 14) ∈ kX0_ofAll := qX0_ofAll_0 _ (List.mem_of_getElem? (i := 7) rfl)
theorem tX0_ofAll_14 : (14, a_iload 3 15) ∈ kX0_ofAll := qX0_ofAll_0 _ (List.mem_of_getElem? (i := 8) rfl)
theorem tX0_ofAll_15 : (15, a_aload 0 16) ∈ kX0_ofAll := qX0_ofAll_0 _ (List.mem_of_getElem? (i := 9) rfl)
theorem tX0_ofAll_16 : (16, a_aload 1 17) ∈ kX0_ofAll := qX0_ofAll_0 _ (List.mem_of_getElem? (i := 10) rfl)
theorem tX0_ofAll_17 : (17, a_aload 1 18) ∈ kX0_ofAll := qX0_ofAll_0 _ (List.mem_of_getElem? (i := 11) rfl)
theorem tX0_ofAll_18 : (18, a_getR 10 5 21) ∈ kX0_ofAll := qX0_ofAll_0 _ (List.mem_of_getElem? (i := 12) rfl)
theorem tX0_ofAll_21 : (21, a_iload 4 23) ∈ kX0_ofAll := qX0_ofAll_0 _ (List.mem_of_getElem? (i := 13) rfl)
theorem tX0_ofAll_23 : (23, a_iald 24) ∈ kX0_ofAll := qX0_ofAll_0 _ (List.mem_of_getElem? (i := 14) rfl)
theorem tX0_ofAll_24 : (24, a_aload 2 25) ∈ kX0_ofAll := qX0_ofAll_0 _ (List.mem_of_getElem? (i := 15) rfl)
theorem tX0_ofAll_25 : (25, a_callV 0 2 4 28 0 0) ∈ kX0_ofAll := qX0_ofAll_0 _ (List.mem_of_getElem? (i := 16) rfl)
theorem tX0_ofAll_28 : (28, a_ii (fun x y => x + y) 29) ∈ kX0_ofAll := qX0_ofAll_0 _ (List.mem_of_getElem? (i := 17) rfl)
theorem tX0_ofAll_29 : (29, a_istore 3 30) ∈ kX0_ofAll := qX0_ofAll_0 _ (List.mem_of_getElem? (i := 18) rfl)
theorem tX0_ofAll_30 : (30, a_iinc 4 1 33) ∈ kX0_ofAll := qX0_ofAll_0 _ (List.mem_of_getElem? (i := 19) rfl)
theorem tX0_ofAll_33 : (33, a_goto 5) ∈ kX0_ofAll := qX0_ofAll_0 _ (List.mem_of_getElem? (i := 20) rfl)
theorem tX0_ofAll_36 : (36, a_iload 3 37) ∈ kX0_ofAll := qX0_ofAll_0 _ (List.mem_of_getElem? (i := 21) rfl)
theorem tX0_ofAll_37 : (37, a_iret false) ∈ kX0_ofAll := qX0_ofAll_0 _ (List.mem_of_getElem? (i := 22) rfl)
theorem oX0_ofAll : ∀ q ∈ kX0_ofAll, zSnd zty false RX0 cX0_ofAll 5 (some .int) false q := oX0_ofAll_0
theorem dX0_ofLine_0 : decode cX0_ofLine 0 = .ok (.aload_n 1, 1) := by decide +kernel
theorem dX0_ofLine_1 : decode cX0_ofLine 1 = .ok (.getfield 31, 3) := by decide +kernel
theorem dX0_ofLine_4 : decode cX0_ofLine 4 = .ok (.iload_n 2, 1) := by decide +kernel
theorem dX0_ofLine_5 : decode cX0_ofLine 5 = .ok (.iaload, 1) := by decide +kernel
theorem dX0_ofLine_6 : decode cX0_ofLine 6 = .ok (.istore 4, 2) := by decide +kernel
theorem dX0_ofLine_8 : decode cX0_ofLine 8 = .ok (.iload 4, 2) := by decide +kernel
theorem dX0_ofLine_10 : decode cX0_ofLine 10 = .ok (.aload_n 1, 1) := by decide +kernel
theorem dX0_ofLine_11 : decode cX0_ofLine 11 = .ok (.getfield 34, 3) := by decide +kernel
theorem dX0_ofLine_14 : decode cX0_ofLine 14 = .ok (.iload_n 2, 1) := by decide +kernel
theorem dX0_ofLine_15 : decode cX0_ofLine 15 = .ok (.iaload, 1) := by decide +kernel
theorem dX0_ofLine_16 : decode cX0_ofLine 16 = .ok (.if_icmp .ge 94, 3) := by decide +kernel
theorem dX0_ofLine_19 : decode cX0_ofLine 19 = .ok (.aload_n 1, 1) := by decide +kernel
theorem dX0_ofLine_20 : decode cX0_ofLine 20 = .ok (.getfield 37, 3) := by decide +kernel
theorem dX0_ofLine_23 : decode cX0_ofLine 23 = .ok (.iload 4, 2) := by decide +kernel
theorem dX0_ofLine_25 : decode cX0_ofLine 25 = .ok (.iaload, 1) := by decide +kernel
theorem dX0_ofLine_26 : decode cX0_ofLine 26 = .ok (.invokestatic 40, 3) := by decide +kernel
theorem dX0_ofLine_29 : decode cX0_ofLine 29 = .ok (.istore 5, 2) := by decide +kernel
theorem dX0_ofLine_31 : decode cX0_ofLine 31 = .ok (.aload_n 0, 1) := by decide +kernel
theorem dX0_ofLine_32 : decode cX0_ofLine 32 = .ok (.aload_n 1, 1) := by decide +kernel
theorem dX0_ofLine_33 : decode cX0_ofLine 33 = .ok (.getfield 37, 3) := by decide +kernel
theorem dX0_ofLine_36 : decode cX0_ofLine 36 = .ok (.iload 4, 2) := by decide +kernel
theorem dX0_ofLine_38 : decode cX0_ofLine 38 = .ok (.iaload, 1) := by decide +kernel
theorem dX0_ofLine_39 : decode cX0_ofLine 39 = .ok (.invokestatic 44, 3) := by decide +kernel
theorem dX0_ofLine_42 : decode cX0_ofLine 42 = .ok (.iload 5, 2) := by decide +kernel
theorem dX0_ofLine_44 : decode cX0_ofLine 44 = .ok (.aload_n 3, 1) := by decide +kernel
theorem dX0_ofLine_45 : decode cX0_ofLine 45 = .ok (.invokevirtual 47, 3) := by decide +kernel
theorem dX0_ofLine_48 : decode cX0_ofLine 48 = .ok (.aload_n 0, 1) := by decide +kernel
theorem dX0_ofLine_49 : decode cX0_ofLine 49 = .ok (.getfield 9, 3) := by decide +kernel
theorem dX0_ofLine_52 : decode cX0_ofLine 52 = .ok (.iload 5, 2) := by decide +kernel
theorem dX0_ofLine_54 : decode cX0_ofLine 54 = .ok (.aload_n 0, 1) := by decide +kernel
theorem dX0_ofLine_55 : decode cX0_ofLine 55 = .ok (.getfield 9, 3) := by decide +kernel
theorem dX0_ofLine_58 : decode cX0_ofLine 58 = .ok (.iload 5, 2) := by decide +kernel
theorem dX0_ofLine_60 : decode cX0_ofLine 60 = .ok (.iaload, 1) := by decide +kernel
theorem dX0_ofLine_61 : decode cX0_ofLine 61 = .ok (.aload_n 0, 1) := by decide +kernel
theorem dX0_ofLine_62 : decode cX0_ofLine 62 = .ok (.getfield 15, 3) := by decide +kernel
theorem dX0_ofLine_65 : decode cX0_ofLine 65 = .ok (.iload 5, 2) := by decide +kernel
theorem dX0_ofLine_67 : decode cX0_ofLine 67 = .ok (.iaload, 1) := by decide +kernel
theorem dX0_ofLine_68 : decode cX0_ofLine 68 = .ok (.aload_n 3, 1) := by decide +kernel
theorem dX0_ofLine_69 : decode cX0_ofLine 69 = .ok (.iconst 0, 1) := by decide +kernel
theorem dX0_ofLine_70 : decode cX0_ofLine 70 = .ok (.iaload, 1) := by decide +kernel
theorem dX0_ofLine_71 : decode cX0_ofLine 71 = .ok (.iadd, 1) := by decide +kernel
theorem dX0_ofLine_72 : decode cX0_ofLine 72 = .ok (.invokestatic 51, 3) := by decide +kernel
theorem dX0_ofLine_75 : decode cX0_ofLine 75 = .ok (.iastore, 1) := by decide +kernel
theorem dX0_ofLine_76 : decode cX0_ofLine 76 = .ok (.aload_n 0, 1) := by decide +kernel
theorem dX0_ofLine_77 : decode cX0_ofLine 77 = .ok (.getfield 15, 3) := by decide +kernel
theorem dX0_ofLine_80 : decode cX0_ofLine 80 = .ok (.iload 5, 2) := by decide +kernel
theorem dX0_ofLine_82 : decode cX0_ofLine 82 = .ok (.aload_n 0, 1) := by decide +kernel
theorem dX0_ofLine_83 : decode cX0_ofLine 83 = .ok (.getfield 15, 3) := by decide +kernel
theorem dX0_ofLine_86 : decode cX0_ofLine 86 = .ok (.iload 5, 2) := by decide +kernel
theorem dX0_ofLine_88 : decode cX0_ofLine 88 = .ok (.iaload, 1) := by decide +kernel
theorem dX0_ofLine_89 : decode cX0_ofLine 89 = .ok (.aload_n 0, 1) := by decide +kernel
theorem dX0_ofLine_90 : decode cX0_ofLine 90 = .ok (.getfield 9, 3) := by decide +kernel
theorem dX0_ofLine_93 : decode cX0_ofLine 93 = .ok (.iload 5, 2) := by decide +kernel
theorem dX0_ofLine_95 : decode cX0_ofLine 95 = .ok (.iaload, 1) := by decide +kernel
theorem dX0_ofLine_96 : decode cX0_ofLine 96 = .ok (.aload_n 3, 1) := by decide +kernel
theorem dX0_ofLine_97 : decode cX0_ofLine 97 = .ok (.iconst 0, 1) := by decide +kernel
theorem dX0_ofLine_98 : decode cX0_ofLine 98 = .ok (.iaload, 1) := by decide +kernel
theorem dX0_ofLine_99 : decode cX0_ofLine 99 = .ok (.iadd, 1) := by decide +kernel
theorem dX0_ofLine_100 : decode cX0_ofLine 100 = .ok (.invokestatic 51, 3) := by decide +kernel
theorem dX0_ofLine_103 : decode cX0_ofLine 103 = .ok (.iastore, 1) := by decide +kernel
theorem dX0_ofLine_104 : decode cX0_ofLine 104 = .ok (.iinc 4 1, 3) := by decide +kernel
theorem dX0_ofLine_107 : decode cX0_ofLine 107 = .ok (.goto (-99), 3) := by decide +kernel
theorem dX0_ofLine_110 : decode cX0_ofLine 110 = .ok (.aload_n 0, 1) := by decide +kernel
theorem dX0_ofLine_111 : decode cX0_ofLine 111 = .ok (.getfield 9, 3) := by decide +kernel
theorem dX0_ofLine_114 : decode cX0_ofLine 114 = .ok (.iconst 0, 1) := by decide +kernel
theorem dX0_ofLine_115 : decode cX0_ofLine 115 = .ok (.iaload, 1) := by decide +kernel
theorem dX0_ofLine_116 : decode cX0_ofLine 116 = .ok (.ireturn, 1) := by decide +kernel
def kX0_ofLine_0 : List (Nat × zT) := [(0, a_aload 1 1), (1, a_getR 10 1 4), (4, a_iload 2 5), (5, a_iald 6), (6, a_istore 4 8), (8, a_iload 4 10), (10, a_aload 1 11), (11, a_getR 10 2 14), (14, a_iload 2 15), (15, a_iald 16), (16, a_ic_ge 110 19), (19, a_aload 1 20), (20, a_getR 10 0 23), (23, a_iload 4 25), (25, a_iald 26), (26, a_call 136 1 29 0 0), (29, a_istore 5 31), (31, a_aload 0 32), (32, a_aload 1 33), (33, a_getR 10 0 36), (36, a_iload 4 38), (38, a_iald 39), (39, a_call 135 1 42 0 0), (42, a_iload 5 44)]
theorem oX0_ofLine_0 : ∀ q ∈ kX0_ofLine_0, zSnd zty false RX0 cX0_ofLine 6 (some .int) false q := List.forall_mem_cons.mpr ⟨ok_aload_n dX0_ofLine_0 rfl, List.forall_mem_cons.mpr ⟨ok_getR dX0_ofLine_1 rfl in10 (by decide) rfl w59, List.forall_mem_cons.mpr ⟨ok_iload_n dX0_ofLine_4 rfl, List.forall_mem_cons.mpr ⟨ok_iald dX0_ofLine_5, List.forall_mem_cons.mpr ⟨ok_istore dX0_ofLine_6 (by decide), List.forall_mem_cons.mpr ⟨ok_iload dX0_ofLine_8, List.forall_mem_cons.mpr ⟨ok_aload_n dX0_ofLine_10 rfl, List.forall_mem_cons.mpr ⟨ok_getR dX0_ofLine_11 rfl in10 (by decide) rfl w66, List.forall_mem_cons.mpr ⟨ok_iload_n dX0_ofLine_14 rfl, List.forall_mem_cons.mpr ⟨ok_iald dX0_ofLine_15, List.forall_mem_cons.mpr ⟨ok_ic_ge dX0_ofLine_16 (by decide), List.forall_mem_cons.mpr ⟨ok_aload_n dX0_ofLine_19 rfl, List.forall_mem_cons.mpr ⟨ok_getR dX0_ofLine_20 rfl in10 (by decide) rfl w53, List.forall_mem_cons.mpr ⟨ok_iload dX0_ofLine_23, List.forall_mem_cons.mpr ⟨ok_iald dX0_ofLine_25, List.forall_mem_cons.mpr ⟨ok_callSN dX0_ofLine_26 rfl w540 n679 w539 w1 (by decide +kernel) (by decide), List.forall_mem_cons.mpr ⟨ok_istore dX0_ofLine_29 (by decide), List.forall_mem_cons.mpr ⟨ok_aload_n dX0_ofLine_31 rfl, List.forall_mem_cons.mpr ⟨ok_aload_n dX0_ofLine_32 rfl, List.forall_mem_cons.mpr ⟨ok_getR dX0_ofLine_33 rfl in10 (by decide) rfl w53, List.forall_mem_cons.mpr ⟨ok_iload dX0_ofLine_36, List.forall_mem_cons.mpr ⟨ok_iald dX0_ofLine_38, List.forall_mem_cons.mpr ⟨ok_callSN dX0_ofLine_39 rfl w537 n680 w536 w1 (by decide +kernel) (by decide), List.forall_mem_cons.mpr ⟨ok_iload dX0_ofLine_42, fun _ h => absurd h List.not_mem_nil⟩⟩⟩⟩⟩⟩⟩⟩⟩⟩⟩⟩⟩⟩⟩⟩⟩⟩⟩⟩⟩⟩⟩⟩
def kX0_ofLine_1 : List (Nat × zT) := [(44, a_aload 3 45), (45, a_callV 0 3 4 48 0 0), (48, a_aload 0 49), (49, a_getR 0 0 52), (52, a_iload 5 54), (54, a_aload 0 55), (55, a_getR 0 0 58), (58, a_iload 5 60), (60, a_iald 61), (61, a_aload 0 62), (62, a_getR 0 1 65), (65, a_iload 5 67), (67, a_iald 68), (68, a_aload 3 69), (69, a_i 0 70), (70, a_iald 71), (71, a_ii (fun x y => x + y) 72), (72, a_mm (fun x y => if y < x then y else x) 75), (75, a_iast 76), (76, a_aload 0 77), (77, a_getR 0 1 80), (80, a_iload 5 82), (82, a_aload 0 83), (83, a_getR 0 1 86)]
theorem oX0_ofLine_1 : ∀ q ∈ kX0_ofLine_1, zSnd zty false RX0 cX0_ofLine 6 (some .int) false q := List.forall_mem_cons.mpr ⟨ok_aload_n dX0_ofLine_44 rfl, List.forall_mem_cons.mpr ⟨ok_callV dX0_ofLine_45 rfl rfl w684 w681 w683 w8 s10 (by decide +kernel) (by decide), List.forall_mem_cons.mpr ⟨ok_aload_n dX0_ofLine_48 rfl, List.forall_mem_cons.mpr ⟨ok_getR dX0_ofLine_49 rfl in0 (by decide) rfl w207, List.forall_mem_cons.mpr ⟨ok_iload dX0_ofLine_52, List.forall_mem_cons.mpr ⟨ok_aload_n dX0_ofLine_54 rfl, List.forall_mem_cons.mpr ⟨ok_getR dX0_ofLine_55 rfl in0 (by decide) rfl w207, List.forall_mem_cons.mpr ⟨ok_iload dX0_ofLine_58, List.forall_mem_cons.mpr ⟨ok_iald dX0_ofLine_60, List.forall_mem_cons.mpr ⟨ok_aload_n dX0_ofLine_61 rfl, List.forall_mem_cons.mpr ⟨ok_getR dX0_ofLine_62 rfl in0 (by decide) rfl w208, List.forall_mem_cons.mpr ⟨ok_iload dX0_ofLine_65, List.forall_mem_cons.mpr ⟨ok_iald dX0_ofLine_67, List.forall_mem_cons.mpr ⟨ok_aload_n dX0_ofLine_68 rfl, List.forall_mem_cons.mpr ⟨ok_iconst dX0_ofLine_69 (by decide), List.forall_mem_cons.mpr ⟨ok_iald dX0_ofLine_70, List.forall_mem_cons.mpr ⟨ok_iadd dX0_ofLine_71, List.forall_mem_cons.mpr ⟨ok_mmin dX0_ofLine_72 w689 w690 w18 w691, List.forall_mem_cons.mpr ⟨ok_iast dX0_ofLine_75, List.forall_mem_cons.mpr ⟨ok_aload_n dX0_ofLine_76 rfl, List.forall_mem_cons.mpr ⟨ok_getR dX0_ofLine_77 rfl in0 (by decide) rfl w208, List.forall_mem_cons.mpr ⟨ok_iload dX0_ofLine_80, List.forall_mem_cons.mpr ⟨ok_aload_n dX0_ofLine_82 rfl, List.forall_mem_cons.mpr ⟨ok_getR dX0_ofLine_83 rfl in0 (by decide) rfl w208, fun _ h => absurd h List.not_mem_nil⟩⟩⟩⟩⟩⟩⟩⟩⟩⟩⟩⟩⟩⟩⟩⟩⟩⟩⟩⟩⟩⟩⟩⟩
def kX0_ofLine_2 : List (Nat × zT) := [(86, a_iload 5 88), (88, a_iald 89), (89, a_aload 0 90), (90, a_getR 0 0 93), (93, a_iload 5 95), (95, a_iald 96), (96, a_aload 3 97), (97, a_i 0 98), (98, a_iald 99), (99, a_ii (fun x y => x + y) 100), (100, a_mm (fun x y => if y < x then y else x) 103), (103, a_iast 104), (104, a_iinc 4 1 107), (107, a_goto 8), (110, a_aload 0 111), (111, a_getR 0 0 114), (114, a_i 0 115), (115, a_iald 116), (116, a_iret false)]
theorem oX0_ofLine_2 : ∀ q ∈ kX0_ofLine_2, zSnd zty false RX0 cX0_ofLine 6 (some .int) false q := List.forall_mem_cons.mpr ⟨ok_iload dX0_ofLine_86, List.forall_mem_cons.mpr ⟨ok_iald dX0_ofLine_88, List.forall_mem_cons.mpr ⟨ok_aload_n dX0_ofLine_89 rfl, List.forall_mem_cons.mpr ⟨ok_getR dX0_ofLine_90 rfl in0 (by decide) rfl w207, List.forall_mem_cons.mpr ⟨ok_iload dX0_ofLine_93, List.forall_mem_cons.mpr ⟨ok_iald dX0_ofLine_95, List.forall_mem_cons.mpr ⟨ok_aload_n dX0_ofLine_96 rfl, List.forall_mem_cons.mpr ⟨ok_iconst dX0_ofLine_97 (by decide), List.forall_mem_cons.mpr ⟨ok_iald dX0_ofLine_98, List.forall_mem_cons.mpr ⟨ok_iadd dX0_ofLine_99, List.forall_mem_cons.mpr ⟨ok_mmin dX0_ofLine_100 w689 w690 w18 w691, List.forall_mem_cons.mpr ⟨ok_iast dX0_ofLine_103, List.forall_mem_cons.mpr ⟨ok_iinc dX0_ofLine_104 (by decide) (by decide), List.forall_mem_cons.mpr ⟨ok_goto dX0_ofLine_107 (by decide), List.forall_mem_cons.mpr ⟨ok_aload_n dX0_ofLine_110 rfl, List.forall_mem_cons.mpr ⟨ok_getR dX0_ofLine_111 rfl in0 (by decide) rfl w207, List.forall_mem_cons.mpr ⟨ok_iconst dX0_ofLine_114 (by decide), List.forall_mem_cons.mpr ⟨ok_iald dX0_ofLine_115, List.forall_mem_cons.mpr ⟨ok_iret (bz := false) dX0_ofLine_116 rfl, fun _ h => absurd h List.not_mem_nil⟩⟩⟩⟩⟩⟩⟩⟩⟩⟩⟩⟩⟩⟩⟩⟩⟩⟩⟩
def kX0_ofLine : List (Nat × zT) := kX0_ofLine_0 ++ (kX0_ofLine_1 ++ (kX0_ofLine_2))
theorem qX0_ofLine_0 : ∀ q ∈ kX0_ofLine_0, q ∈ kX0_ofLine := fun _ h => (List.mem_append_left _ h)
theorem tX0_ofLine_0 : (0, a_aload 1 1) ∈ kX0_ofLine := qX0_ofLine_0 _ (List.mem_of_getElem? (i := 0) rfl)
theorem tX0_ofLine_1 : (1, a_getR 10 1 4) ∈ kX0_ofLine := qX0_ofLine_0 _ (List.mem_of_getElem? (i := 1) rfl)
theorem tX0_ofLine_4 : (4, a_iload 2 5) ∈ kX0_ofLine := qX0_ofLine_0 _ (List.mem_of_getElem? (i := 2) rfl)
theorem tX0_ofLine_5 : (5, a_iald 6) ∈ kX0_ofLine := qX0_ofLine_0 _ (List.mem_of_getElem? (i := 3) rfl)
theorem tX0_ofLine_6 : (6, a_istore 4 8) ∈ kX0_ofLine := qX0_ofLine_0 _ (List.mem_of_getElem? (i := 4) rfl)
theorem tX0_ofLine_8 : (8, a_iload 4 10) ∈ kX0_ofLine := qX0_ofLine_0 _ (List.mem_of_getElem? (i := 5) rfl)
theorem tX0_ofLine_10 : (10, a_aload 1 11) ∈ kX0_ofLine := qX0_ofLine_0 _ (List.mem_of_getElem? (i := 6) rfl)
theorem tX0_ofLine_11 : (11, a_getR 10 2 14) ∈ kX0_ofLine := qX0_ofLine_0 _ (List.mem_of_getElem? (i := 7) rfl)
theorem tX0_ofLine_14 : (14, a_iload 2 15) ∈ kX0_ofLine := qX0_ofLine_0 _ (List.mem_of_getElem? (i := 8) rfl)
theorem tX0_ofLine_15 : (15, a_iald 16) ∈ kX0_ofLine := qX0_ofLine_0 _ (List.mem_of_getElem? (i := 9) rfl)
theorem tX0_ofLine_16 : (16, a_ic_ge 110 19) ∈ kX0_ofLine := qX0_ofLine_0 _ (List.mem_of_getElem? (i := 10) rfl)
theorem tX0_ofLine_19 : (19, a_aload 1 20) ∈ kX0_ofLine := qX0_ofLine_0 _ (List.mem_of_getElem? (i := 11) rfl)
theorem tX0_ofLine_20 : (20, a_getR 10 0 23) ∈ kX0_ofLine := qX0_ofLine_0 _ (List.mem_of_getElem? (i := 12) rfl)
theorem tX0_ofLine_23 : (23, a_iload 4 25) ∈ kX0_ofLine := qX0_ofLine_0 _ (List.mem_of_getElem? (i := 13) rfl)
theorem tX0_ofLine_25 : (25, a_iald 26) ∈ kX0_ofLine := qX0_ofLine_0 _ (List.mem_of_getElem? (i := 14) rfl)
theorem tX0_ofLine_26 : (26, a_call 136 1 29 0 0) ∈ kX0_ofLine := qX0_ofLine_0 _ (List.mem_of_getElem? (i := 15) rfl)
theorem tX0_ofLine_29 : (29, a_istore 5 31) ∈ kX0_ofLine := qX0_ofLine_0 _ (List.mem_of_getElem? (i := 16) rfl)
theorem tX0_ofLine_31 : (31, a_aload 0 32) ∈ kX0_ofLine := qX0_ofLine_0 _ (List.mem_of_getElem? (i := 17) rfl)
theorem tX0_ofLine_32 : (32, a_aload 1 33) ∈ kX0_ofLine := qX0_ofLine_0 _ (List.mem_of_getElem? (i := 18) rfl)
theorem tX0_ofLine_33 : (33, a_getR 10 0 36) ∈ kX0_ofLine := qX0_ofLine_0 _ (List.mem_of_getElem? (i := 19) rfl)
theorem tX0_ofLine_36 : (36, a_iload 4 38) ∈ kX0_ofLine := qX0_ofLine_0 _ (List.mem_of_getElem? (i := 20) rfl)
theorem tX0_ofLine_38 : (38, a_iald 39) ∈ kX0_ofLine := qX0_ofLine_0 _ (List.mem_of_getElem? (i := 21) rfl)
theorem tX0_ofLine_39 : (39, a_call 135 1 42 0 0) ∈ kX0_ofLine := qX0_ofLine_0 _ (List.mem_of_getElem? (i := 22) rfl)
theorem tX0_ofLine_42 : (42, a_iload 5 44) ∈ kX0_ofLine := qX0_ofLine_0 _ (List.mem_of_getElem? (i := 23) rfl)
theorem qX0_ofLine_1 : ∀ q ∈ kX0_ofLine_1, q ∈ kX0_ofLine := fun _ h => (List.mem_append_right _ (List.mem_append_left _ h))
theorem tX0_ofLine_44 : (44, a_aload 3 45) ∈ kX0_ofLine := qX0_ofLine_1 _ (List.mem_of_getElem? (i := 0) rfl)
theorem tX0_ofLine_45 : (45, a_callV 0 3 4 48 0 0) ∈ kX0_ofLine := qX0_ofLine_1 _ (List.mem_of_getElem? (i := 1) rfl)
theorem tX0_ofLine_48 : (48, a_aload 0 49) ∈ kX0_ofLine := qX0_ofLine_1 _ (List.mem_of_getElem? (i := 2) rfl)
theorem tX0_ofLine_49 : (49, a_getR 0 0 52) ∈ kX0_ofLine := qX0_ofLine_1 _ (List.mem_of_getElem? (i := 3) rfl)
theorem tX0_ofLine_52 : (52, a_iload 5 54) ∈ kX0_ofLine := qX0_ofLine_1 _ (List.mem_of_getElem? (i := 4) rfl)
theorem tX0_ofLine_54 : (54, a_aload 0 55) ∈ kX0_ofLine := qX0_ofLine_1 _ (List.mem_of_getElem? (i := 5) rfl)
theorem tX0_ofLine_55 : (55, a_getR 0 0 58) ∈ kX0_ofLine := qX0_ofLine_1 _ (List.mem_of_getElem? (i := 6) rfl)
theorem tX0_ofLine_58 : (58, a_iload 5 60) ∈ kX0_ofLine := qX0_ofLine_1 _ (List.mem_of_getElem? (i := 7) rfl)
theorem tX0_ofLine_60 : (60, a_iald 61) ∈ kX0_ofLine := qX0_ofLine_1 _ (List.mem_of_getElem? (i := 8) rfl)
theorem tX0_ofLine_61 : (61, a_aload 0 62) ∈ kX0_ofLine := qX0_ofLine_1 _ (List.mem_of_getElem? (i := 9) rfl)
theorem tX0_ofLine_62 : (62, a_getR 0 1 65) ∈ kX0_ofLine := qX0_ofLine_1 _ (List.mem_of_getElem? (i := 10) rfl)
theorem tX0_ofLine_65 : (65, a_iload 5 67) ∈ kX0_ofLine := qX0_ofLine_1 _ (List.mem_of_getElem? (i := 11) rfl)
theorem tX0_ofLine_67 : (67, a_iald 68) ∈ kX0_ofLine := qX0_ofLine_1 _ (List.mem_of_getElem? (i := 12) rfl)
theorem tX0_ofLine_68 : (68, a_aload 3 69) ∈ kX0_ofLine := qX0_ofLine_1 _ (List.mem_of_getElem? (i := 13) rfl)
theorem tX0_ofLine_69 : (69, a_i 0 70) ∈ kX0_ofLine := qX0_ofLine_1 _ (List.mem_of_getElem? (i := 14) rfl)
theorem tX0_ofLine_70 : (70, a_iald 71) ∈ kX0_ofLine := qX0_ofLine_1 _ (List.mem_of_getElem? (i := 15) rfl)
theorem tX0_ofLine_71 : (71, a_ii (fun x y => x + y) 72) ∈ kX0_ofLine := qX0_ofLine_1 _ (List.mem_of_getElem? (i := 16) rfl)
theorem tX0_ofLine_72 : (72, a_mm (fun x y => if y < x then y else x) 75) ∈ kX0_ofLine := qX0_ofLine_1 _ (List.mem_of_getElem? (i := 17) rfl)
theorem tX0_ofLine_75 : (75, a_iast 76) ∈ kX0_ofLine := qX0_ofLine_1 _ (List.mem_of_getElem? (i := 18) rfl)
theorem tX0_ofLine_76 : (76, a_aload 0 77) ∈ kX0_ofLine := qX0_ofLine_1 _ (List.mem_of_getElem? (i := 19) rfl)
theorem tX0_ofLine_77 : (77, a_getR 0 1 80) ∈ kX0_ofLine := qX0_ofLine_1 _ (List.mem_of_getElem? (i := 20) rfl)
theorem tX0_ofLine_80 : (80, a_iload 5 82) ∈ kX0_ofLine := qX0_ofLine_1 _ (List.mem_of_getElem? (i := 21) rfl)
theorem tX0_ofLine_82 : (82, a_aload 0 83) ∈ kX0_ofLine := qX0_ofLine_1 _ (List.mem_of_getElem? (i := 22) rfl)
theorem tX0_ofLine_83 : (83, a_getR 0 1 86) ∈ kX0_ofLine := qX0_ofLine_1 _ (List.mem_of_getElem? (i := 23) rfl)
theorem qX0_ofLine_2 : ∀ q ∈ kX0_ofLine_2, q ∈ kX0_ofLine := fun _ h => (List.mem_append_right _ (List.mem_append_right _ h))
theorem tX0_ofLine_86 : (86, a_iload 5 88) ∈ kX0_ofLine := qX0_ofLine_2 _ (List.mem_of_getElem? (i := 0) rfl)
theorem tX0_ofLine_88 : (88, a_iald 89) ∈ kX0_ofLine := qX0_ofLine_2 _ (List.mem_of_getElem? (i := 1) rfl)
theorem tX0_ofLine_89 : (89, a_aload 0 90) ∈ kX0_ofLine := qX0_ofLine_2 _ (List.mem_of_getElem? (i := 2) rfl)
theorem tX0_ofLine_90 : (90, a_getR 0 0 93) ∈ kX0_ofLine := qX0_ofLine_2 _ (List.mem_of_getElem? (i := 3) rfl)
theorem tX0_ofLine_93 : (93, a_iload 5 95) ∈ kX0_ofLine := qX0_ofLine_2 _ (List.mem_of_getElem? (i := 4) rfl)
theorem tX0_ofLine_95 : (95, a_iald 96) ∈ kX0_ofLine := qX0_ofLine_2 _ (List.mem_of_getElem? (i := 5) rfl)
theorem tX0_ofLine_96 : (96, a_aload 3 97) ∈ kX0_ofLine := qX0_ofLine_2 _ (List.mem_of_getElem? (i := 6) rfl)
theorem tX0_ofLine_97 : (97, a_i 0 98) ∈ kX0_ofLine := qX0_ofLine_2 _ (List.mem_of_getElem? (i := 7) rfl)
theorem tX0_ofLine_98 : (98, a_iald 99) ∈ kX0_ofLine := qX0_ofLine_2 _ (List.mem_of_getElem? (i := 8) rfl)
theorem tX0_ofLine_99 : (99, a_ii (fun x y => x + y) 100) ∈ kX0_ofLine := qX0_ofLine_2 _ (List.mem_of_getElem? (i := 9) rfl)
theorem tX0_ofLine_100 : (100, a_mm (fun x y => if y < x then y else x) 103) ∈ kX0_ofLine := qX0_ofLine_2 _ (List.mem_of_getElem? (i := 10) rfl)
theorem tX0_ofLine_103 : (103, a_iast 104) ∈ kX0_ofLine := qX0_ofLine_2 _ (List.mem_of_getElem? (i := 11) rfl)
theorem tX0_ofLine_104 : (104, a_iinc 4 1 107) ∈ kX0_ofLine := qX0_ofLine_2 _ (List.mem_of_getElem? (i := 12) rfl)
theorem tX0_ofLine_107 : (107, a_goto 8) ∈ kX0_ofLine := qX0_ofLine_2 _ (List.mem_of_getElem? (i := 13) rfl)
theorem tX0_ofLine_110 : (110, a_aload 0 111) ∈ kX0_ofLine := qX0_ofLine_2 _ (List.mem_of_getElem? (i := 14) rfl)
theorem tX0_ofLine_111 : (111, a_getR 0 0 114) ∈ kX0_ofLine := qX0_ofLine_2 _ (List.mem_of_getElem? (i := 15) rfl)
theorem tX0_ofLine_114 : (114, a_i 0 115) ∈ kX0_ofLine := qX0_ofLine_2 _ (List.mem_of_getElem? (i := 16) rfl)
theorem tX0_ofLine_115 : (115, a_iald 116) ∈ kX0_ofLine := qX0_ofLine_2 _ (List.mem_of_getElem? (i := 17) rfl)
theorem tX0_ofLine_116 : (116, a_iret false) ∈ kX0_ofLine := qX0_ofLine_2 _ (List.mem_of_getElem? (i := 18) rfl)
theorem oX0_ofLine : ∀ q ∈ kX0_ofLine, zSnd zty false RX0 cX0_ofLine 6 (some .int) false q := List.forall_mem_append.mpr ⟨oX0_ofLine_0, List.forall_mem_append.mpr ⟨oX0_ofLine_1, oX0_ofLine_2⟩⟩
theorem dX0_coverToken_0 : decode cX0_coverToken 0 = .ok (.aload_n 0, 1) := by decide +kernel
theorem dX0_coverToken_1 : decode cX0_coverToken 1 = .ok (.getfield 9, 3) := by decide +kernel
theorem dX0_coverToken_4 : decode cX0_coverToken 4 = .ok (.iload_n 2, 1) := by decide +kernel
theorem dX0_coverToken_5 : decode cX0_coverToken 5 = .ok (.iaload, 1) := by decide +kernel
theorem dX0_coverToken_6 : decode cX0_coverToken 6 = .ok (.aload_n 0, 1) := by decide +kernel
theorem dX0_coverToken_7 : decode cX0_coverToken 7 = .ok (.getfield 9, 3) := by decide +kernel
theorem dX0_coverToken_10 : decode cX0_coverToken 10 = .ok (.iload_n 2, 1) := by decide +kernel
theorem dX0_coverToken_11 : decode cX0_coverToken 11 = .ok (.iconst 1, 1) := by decide +kernel
theorem dX0_coverToken_12 : decode cX0_coverToken 12 = .ok (.iadd, 1) := by decide +kernel
theorem dX0_coverToken_13 : decode cX0_coverToken 13 = .ok (.iaload, 1) := by decide +kernel
theorem dX0_coverToken_14 : decode cX0_coverToken 14 = .ok (.iadd, 1) := by decide +kernel
theorem dX0_coverToken_15 : decode cX0_coverToken 15 = .ok (.istore 4, 2) := by decide +kernel
theorem dX0_coverToken_17 : decode cX0_coverToken 17 = .ok (.aload_n 0, 1) := by decide +kernel
theorem dX0_coverToken_18 : decode cX0_coverToken 18 = .ok (.getfield 15, 3) := by decide +kernel
theorem dX0_coverToken_21 : decode cX0_coverToken 21 = .ok (.iload_n 2, 1) := by decide +kernel
theorem dX0_coverToken_22 : decode cX0_coverToken 22 = .ok (.iaload, 1) := by decide +kernel
theorem dX0_coverToken_23 : decode cX0_coverToken 23 = .ok (.aload_n 0, 1) := by decide +kernel
theorem dX0_coverToken_24 : decode cX0_coverToken 24 = .ok (.getfield 15, 3) := by decide +kernel
theorem dX0_coverToken_27 : decode cX0_coverToken 27 = .ok (.iload_n 2, 1) := by decide +kernel
theorem dX0_coverToken_28 : decode cX0_coverToken 28 = .ok (.iconst 1, 1) := by decide +kernel
theorem dX0_coverToken_29 : decode cX0_coverToken 29 = .ok (.iadd, 1) := by decide +kernel
theorem dX0_coverToken_30 : decode cX0_coverToken 30 = .ok (.iaload, 1) := by decide +kernel
theorem dX0_coverToken_31 : decode cX0_coverToken 31 = .ok (.iadd, 1) := by decide +kernel
theorem dX0_coverToken_32 : decode cX0_coverToken 32 = .ok (.istore 5, 2) := by decide +kernel
theorem dX0_coverToken_34 : decode cX0_coverToken 34 = .ok (.iload_n 1, 1) := by decide +kernel
theorem dX0_coverToken_35 : decode cX0_coverToken 35 = .ok (.tableswitch 277 19 25 #[41, 41, 51, 71, 109, 147, 207], 41) := by decide +kernel
theorem dX0_coverToken_76 : decode cX0_coverToken 76 = .ok (.aload_n 0, 1) := by decide +kernel
theorem dX0_coverToken_77 : decode cX0_coverToken 77 = .ok (.iload_n 2, 1) := by decide +kernel
theorem dX0_coverToken_78 : decode cX0_coverToken 78 = .ok (.iconst 0, 1) := by decide +kernel
theorem dX0_coverToken_79 : decode cX0_coverToken 79 = .ok (.iconst 0, 1) := by decide +kernel
theorem dX0_coverToken_80 : decode cX0_coverToken 80 = .ok (.invokevirtual 57, 3) := by decide +kernel
theorem dX0_coverToken_83 : decode cX0_coverToken 83 = .ok (.goto 238, 3) := by decide +kernel
theorem dX0_coverToken_86 : decode cX0_coverToken 86 = .ok (.aload_n 0, 1) := by decide +kernel
theorem dX0_coverToken_87 : decode cX0_coverToken 87 = .ok (.iload_n 2, 1) := by decide +kernel
theorem dX0_coverToken_88 : decode cX0_coverToken 88 = .ok (.aload_n 0, 1) := by decide +kernel
theorem dX0_coverToken_89 : decode cX0_coverToken 89 = .ok (.getfield 15, 3) := by decide +kernel
theorem dX0_coverToken_92 : decode cX0_coverToken 92 = .ok (.iload_n 2, 1) := by decide +kernel
theorem dX0_coverToken_93 : decode cX0_coverToken 93 = .ok (.iaload, 1) := by decide +kernel
theorem dX0_coverToken_94 : decode cX0_coverToken 94 = .ok (.aload_n 0, 1) := by decide +kernel
theorem dX0_coverToken_95 : decode cX0_coverToken 95 = .ok (.getfield 9, 3) := by decide +kernel
theorem dX0_coverToken_98 : decode cX0_coverToken 98 = .ok (.iload_n 2, 1) := by decide +kernel
theorem dX0_coverToken_99 : decode cX0_coverToken 99 = .ok (.iaload, 1) := by decide +kernel
theorem dX0_coverToken_100 : decode cX0_coverToken 100 = .ok (.invokevirtual 57, 3) := by decide +kernel
theorem dX0_coverToken_103 : decode cX0_coverToken 103 = .ok (.goto 218, 3) := by decide +kernel
theorem dX0_coverToken_106 : decode cX0_coverToken 106 = .ok (.aload_n 0, 1) := by decide +kernel
theorem dX0_coverToken_107 : decode cX0_coverToken 107 = .ok (.iload_n 2, 1) := by decide +kernel
theorem dX0_coverToken_108 : decode cX0_coverToken 108 = .ok (.aload_n 3, 1) := by decide +kernel
theorem dX0_coverToken_109 : decode cX0_coverToken 109 = .ok (.iconst 1, 1) := by decide +kernel
theorem dX0_coverToken_110 : decode cX0_coverToken 110 = .ok (.iaload, 1) := by decide +kernel
theorem dX0_coverToken_111 : decode cX0_coverToken 111 = .ok (.iload 4, 2) := by decide +kernel
theorem dX0_coverToken_113 : decode cX0_coverToken 113 = .ok (.iadd, 1) := by decide +kernel
theorem dX0_coverToken_114 : decode cX0_coverToken 114 = .ok (.aload_n 3, 1) := by decide +kernel
theorem dX0_coverToken_115 : decode cX0_coverToken 115 = .ok (.iconst 4, 1) := by decide +kernel
theorem dX0_coverToken_116 : decode cX0_coverToken 116 = .ok (.iaload, 1) := by decide +kernel
theorem dX0_coverToken_117 : decode cX0_coverToken 117 = .ok (.iload 5, 2) := by decide +kernel
theorem dX0_coverToken_119 : decode cX0_coverToken 119 = .ok (.iadd, 1) := by decide +kernel
theorem dX0_coverToken_120 : decode cX0_coverToken 120 = .ok (.invokestatic 51, 3) := by decide +kernel
theorem dX0_coverToken_123 : decode cX0_coverToken 123 = .ok (.aload_n 3, 1) := by decide +kernel
theorem dX0_coverToken_124 : decode cX0_coverToken 124 = .ok (.iconst 3, 1) := by decide +kernel
theorem dX0_coverToken_125 : decode cX0_coverToken 125 = .ok (.iaload, 1) := by decide +kernel
theorem dX0_coverToken_126 : decode cX0_coverToken 126 = .ok (.iload 4, 2) := by decide +kernel
theorem dX0_coverToken_128 : decode cX0_coverToken 128 = .ok (.iadd, 1) := by decide +kernel
theorem dX0_coverToken_129 : decode cX0_coverToken 129 = .ok (.aload_n 3, 1) := by decide +kernel
theorem dX0_coverToken_130 : decode cX0_coverToken 130 = .ok (.iconst 2, 1) := by decide +kernel
theorem dX0_coverToken_131 : decode cX0_coverToken 131 = .ok (.iaload, 1) := by decide +kernel
theorem dX0_coverToken_132 : decode cX0_coverToken 132 = .ok (.iload 5, 2) := by decide +kernel
theorem dX0_coverToken_134 : decode cX0_coverToken 134 = .ok (.iadd, 1) := by decide +kernel
theorem dX0_coverToken_135 : decode cX0_coverToken 135 = .ok (.invokestatic 51, 3) := by decide +kernel
theorem dX0_coverToken_138 : decode cX0_coverToken 138 = .ok (.invokevirtual 57, 3) := by decide +kernel
theorem dX0_coverToken_141 : decode cX0_coverToken 141 = .ok (.goto 180, 3) := by decide +kernel
theorem dX0_coverToken_144 : decode cX0_coverToken 144 = .ok (.aload_n 0, 1) := by decide +kernel
theorem dX0_coverToken_145 : decode cX0_coverToken 145 = .ok (.iload_n 2, 1) := by decide +kernel
theorem dX0_coverToken_146 : decode cX0_coverToken 146 = .ok (.aload_n 3, 1) := by decide +kernel
theorem dX0_coverToken_147 : decode cX0_coverToken 147 = .ok (.iconst 2, 1) := by decide +kernel
theorem dX0_coverToken_148 : decode cX0_coverToken 148 = .ok (.iaload, 1) := by decide +kernel
theorem dX0_coverToken_149 : decode cX0_coverToken 149 = .ok (.iload 4, 2) := by decide +kernel
theorem dX0_coverToken_151 : decode cX0_coverToken 151 = .ok (.iadd, 1) := by decide +kernel
theorem dX0_coverToken_152 : decode cX0_coverToken 152 = .ok (.aload_n 3, 1) := by decide +kernel
theorem dX0_coverToken_153 : decode cX0_coverToken 153 = .ok (.iconst 3, 1) := by decide +kernel
theorem dX0_coverToken_154 : decode cX0_coverToken 154 = .ok (.iaload, 1) := by decide +kernel
theorem dX0_coverToken_155 : decode cX0_coverToken 155 = .ok (.iload 5, 2) := by decide +kernel
theorem dX0_coverToken_157 : decode cX0_coverToken 157 = .ok (.iadd, 1) := by decide +kernel
theorem dX0_coverToken_158 : decode cX0_coverToken 158 = .ok (.invokestatic 51, 3) := by decide +kernel
theorem dX0_coverToken_161 : decode cX0_coverToken 161 = .ok (.aload_n 3, 1) := by decide +kernel
theorem dX0_coverToken_162 : decode cX0_coverToken 162 = .ok (.iconst 4, 1) := by decide +kernel
theorem dX0_coverToken_163 : decode cX0_coverToken 163 = .ok (.iaload, 1) := by decide +kernel
theorem dX0_coverToken_164 : decode cX0_coverToken 164 = .ok (.iload 4, 2) := by decide +kernel
theorem dX0_coverToken_166 : decode cX0_coverToken 166 = .ok (.iadd, 1) := by decide +kernel
theorem dX0_coverToken_167 : decode cX0_coverToken 167 = .ok (.aload_n 3, 1) := by decide +kernel
theorem dX0_coverToken_168 : decode cX0_coverToken 168 = .ok (.iconst 1, 1) := by decide +kernel
theorem dX0_coverToken_169 : decode cX0_coverToken 169 = .ok (.iaload, 1) := by decide +kernel
theorem dX0_coverToken_170 : decode cX0_coverToken 170 = .ok (.iload 5, 2) := by decide +kernel
theorem dX0_coverToken_172 : decode cX0_coverToken 172 = .ok (.iadd, 1) := by decide +kernel
theorem dX0_coverToken_173 : decode cX0_coverToken 173 = .ok (.invokestatic 51, 3) := by decide +kernel
theorem dX0_coverToken_176 : decode cX0_coverToken 176 = .ok (.invokevirtual 57, 3) := by decide +kernel
theorem dX0_coverToken_179 : decode cX0_coverToken 179 = .ok (.goto 142, 3) := by decide +kernel
theorem dX0_coverToken_182 : decode cX0_coverToken 182 = .ok (.aload_n 0, 1) := by decide +kernel
theorem dX0_coverToken_183 : decode cX0_coverToken 183 = .ok (.getfield 9, 3) := by decide +kernel
theorem dX0_coverToken_186 : decode cX0_coverToken 186 = .ok (.iload_n 2, 1) := by decide +kernel
theorem dX0_coverToken_187 : decode cX0_coverToken 187 = .ok (.iaload, 1) := by decide +kernel
theorem dX0_coverToken_188 : decode cX0_coverToken 188 = .ok (.aload_n 0, 1) := by decide +kernel
theorem dX0_coverToken_189 : decode cX0_coverToken 189 = .ok (.getfield 15, 3) := by decide +kernel
theorem dX0_coverToken_192 : decode cX0_coverToken 192 = .ok (.iload_n 2, 1) := by decide +kernel
theorem dX0_coverToken_193 : decode cX0_coverToken 193 = .ok (.iconst 1, 1) := by decide +kernel
theorem dX0_coverToken_194 : decode cX0_coverToken 194 = .ok (.iadd, 1) := by decide +kernel
theorem dX0_coverToken_195 : decode cX0_coverToken 195 = .ok (.iaload, 1) := by decide +kernel
theorem dX0_coverToken_196 : decode cX0_coverToken 196 = .ok (.iadd, 1) := by decide +kernel
theorem dX0_coverToken_197 : decode cX0_coverToken 197 = .ok (.aload_n 0, 1) := by decide +kernel
theorem dX0_coverToken_198 : decode cX0_coverToken 198 = .ok (.getfield 15, 3) := by decide +kernel
theorem dX0_coverToken_201 : decode cX0_coverToken 201 = .ok (.iload_n 2, 1) := by decide +kernel
theorem dX0_coverToken_202 : decode cX0_coverToken 202 = .ok (.iaload, 1) := by decide +kernel
theorem dX0_coverToken_203 : decode cX0_coverToken 203 = .ok (.aload_n 0, 1) := by decide +kernel
theorem dX0_coverToken_204 : decode cX0_coverToken 204 = .ok (.getfield 9, 3) := by decide +kernel
theorem dX0_coverToken_207 : decode cX0_coverToken 207 = .ok (.iload_n 2, 1) := by decide +kernel
theorem dX0_coverToken_208 : decode cX0_coverToken 208 = .ok (.iconst 1, 1) := by decide +kernel
theorem dX0_coverToken_209 : decode cX0_coverToken 209 = .ok (.iadd, 1) := by decide +kernel
theorem dX0_coverToken_210 : decode cX0_coverToken 210 = .ok (.iaload, 1) := by decide +kernel
theorem dX0_coverToken_211 : decode cX0_coverToken 211 = .ok (.iadd, 1) := by decide +kernel
theorem dX0_coverToken_212 : decode cX0_coverToken 212 = .ok (.invokestatic 51, 3) := by decide +kernel
theorem dX0_coverToken_215 : decode cX0_coverToken 215 = .ok (.istore 6, 2) := by decide +kernel
theorem dX0_coverToken_217 : decode cX0_coverToken 217 = .ok (.aload_n 0, 1) := by decide +kernel
theorem dX0_coverToken_218 : decode cX0_coverToken 218 = .ok (.iload_n 2, 1) := by decide +kernel
theorem dX0_coverToken_219 : decode cX0_coverToken 219 = .ok (.aload_n 3, 1) := by decide +kernel
theorem dX0_coverToken_220 : decode cX0_coverToken 220 = .ok (.iconst 5, 1) := by decide +kernel
theorem dX0_coverToken_221 : decode cX0_coverToken 221 = .ok (.iaload, 1) := by decide +kernel
theorem dX0_coverToken_222 : decode cX0_coverToken 222 = .ok (.iload 4, 2) := by decide +kernel
theorem dX0_coverToken_224 : decode cX0_coverToken 224 = .ok (.iload 5, 2) := by decide +kernel
theorem dX0_coverToken_226 : decode cX0_coverToken 226 = .ok (.invokestatic 51, 3) := by decide +kernel
theorem dX0_coverToken_229 : decode cX0_coverToken 229 = .ok (.iadd, 1) := by decide +kernel
theorem dX0_coverToken_230 : decode cX0_coverToken 230 = .ok (.aload_n 3, 1) := by decide +kernel
theorem dX0_coverToken_231 : decode cX0_coverToken 231 = .ok (.iconst 5, 1) := by decide +kernel
theorem dX0_coverToken_232 : decode cX0_coverToken 232 = .ok (.iaload, 1) := by decide +kernel
theorem dX0_coverToken_233 : decode cX0_coverToken 233 = .ok (.iload 6, 2) := by decide +kernel
theorem dX0_coverToken_235 : decode cX0_coverToken 235 = .ok (.iadd, 1) := by decide +kernel
theorem dX0_coverToken_236 : decode cX0_coverToken 236 = .ok (.invokevirtual 57, 3) := by decide +kernel
theorem dX0_coverToken_239 : decode cX0_coverToken 239 = .ok (.goto 82, 3) := by decide +kernel
theorem dX0_coverToken_242 : decode cX0_coverToken 242 = .ok (.aload_n 3, 1) := by decide +kernel
theorem dX0_coverToken_243 : decode cX0_coverToken 243 = .ok (.bipush 6, 2) := by decide +kernel
theorem dX0_coverToken_245 : decode cX0_coverToken 245 = .ok (.iaload, 1) := by decide +kernel
theorem dX0_coverToken_246 : decode cX0_coverToken 246 = .ok (.aload_n 0, 1) := by decide +kernel
theorem dX0_coverToken_247 : decode cX0_coverToken 247 = .ok (.getfield 9, 3) := by decide +kernel
theorem dX0_coverToken_250 : decode cX0_coverToken 250 = .ok (.iload_n 2, 1) := by decide +kernel
theorem dX0_coverToken_251 : decode cX0_coverToken 251 = .ok (.iaload, 1) := by decide +kernel
theorem dX0_coverToken_252 : decode cX0_coverToken 252 = .ok (.aload_n 0, 1) := by decide +kernel
theorem dX0_coverToken_253 : decode cX0_coverToken 253 = .ok (.getfield 15, 3) := by decide +kernel
theorem dX0_coverToken_256 : decode cX0_coverToken 256 = .ok (.iload_n 2, 1) := by decide +kernel
theorem dX0_coverToken_257 : decode cX0_coverToken 257 = .ok (.iaload, 1) := by decide +kernel
theorem dX0_coverToken_258 : decode cX0_coverToken 258 = .ok (.invokestatic 51, 3) := by decide +kernel
theorem dX0_coverToken_261 : decode cX0_coverToken 261 = .ok (.iadd, 1) := by decide +kernel
theorem dX0_coverToken_262 : decode cX0_coverToken 262 = .ok (.istore 7, 2) := by decide +kernel
theorem dX0_coverToken_264 : decode cX0_coverToken 264 = .ok (.aload_n 0, 1) := by decide +kernel
theorem dX0_coverToken_265 : decode cX0_coverToken 265 = .ok (.iload_n 2, 1) := by decide +kernel
theorem dX0_coverToken_266 : decode cX0_coverToken 266 = .ok (.iload 7, 2) := by decide +kernel
theorem dX0_coverToken_268 : decode cX0_coverToken 268 = .ok (.aload_n 0, 1) := by decide +kernel
theorem dX0_coverToken_269 : decode cX0_coverToken 269 = .ok (.getfield 9, 3) := by decide +kernel
theorem dX0_coverToken_272 : decode cX0_coverToken 272 = .ok (.iload_n 2, 1) := by decide +kernel
theorem dX0_coverToken_273 : decode cX0_coverToken 273 = .ok (.iconst 1, 1) := by decide +kernel
theorem dX0_coverToken_274 : decode cX0_coverToken 274 = .ok (.iadd, 1) := by decide +kernel
theorem dX0_coverToken_275 : decode cX0_coverToken 275 = .ok (.iaload, 1) := by decide +kernel
theorem dX0_coverToken_276 : decode cX0_coverToken 276 = .ok (.iadd, 1) := by decide +kernel
theorem dX0_coverToken_277 : decode cX0_coverToken 277 = .ok (.aload_n 0, 1) := by decide +kernel
theorem dX0_coverToken_278 : decode cX0_coverToken 278 = .ok (.getfield 9, 3) := by decide +kernel
theorem dX0_coverToken_281 : decode cX0_coverToken 281 = .ok (.iload_n 2, 1) := by decide +kernel
theorem dX0_coverToken_282 : decode cX0_coverToken 282 = .ok (.iconst 2, 1) := by decide +kernel
theorem dX0_coverToken_283 : decode cX0_coverToken 283 = .ok (.iadd, 1) := by decide +kernel
theorem dX0_coverToken_284 : decode cX0_coverToken 284 = .ok (.iaload, 1) := by decide +kernel
theorem dX0_coverToken_285 : decode cX0_coverToken 285 = .ok (.iadd, 1) := by decide +kernel
theorem dX0_coverToken_286 : decode cX0_coverToken 286 = .ok (.iload 7, 2) := by decide +kernel
theorem dX0_coverToken_288 : decode cX0_coverToken 288 = .ok (.aload_n 0, 1) := by decide +kernel
theorem dX0_coverToken_289 : decode cX0_coverToken 289 = .ok (.getfield 15, 3) := by decide +kernel
theorem dX0_coverToken_292 : decode cX0_coverToken 292 = .ok (.iload_n 2, 1) := by decide +kernel
theorem dX0_coverToken_293 : decode cX0_coverToken 293 = .ok (.iconst 1, 1) := by decide +kernel
theorem dX0_coverToken_294 : decode cX0_coverToken 294 = .ok (.iadd, 1) := by decide +kernel
theorem dX0_coverToken_295 : decode cX0_coverToken 295 = .ok (.iaload, 1) := by decide +kernel
theorem dX0_coverToken_296 : decode cX0_coverToken 296 = .ok (.iadd, 1) := by decide +kernel
theorem dX0_coverToken_297 : decode cX0_coverToken 297 = .ok (.aload_n 0, 1) := by decide +kernel
theorem dX0_coverToken_298 : decode cX0_coverToken 298 = .ok (.getfield 15, 3) := by decide +kernel
theorem dX0_coverToken_301 : decode cX0_coverToken 301 = .ok (.iload_n 2, 1) := by decide +kernel
theorem dX0_coverToken_302 : decode cX0_coverToken 302 = .ok (.iconst 2, 1) := by decide +kernel
theorem dX0_coverToken_303 : decode cX0_coverToken 303 = .ok (.iadd, 1) := by decide +kernel
theorem dX0_coverToken_304 : decode cX0_coverToken 304 = .ok (.iaload, 1) := by decide +kernel
theorem dX0_coverToken_305 : decode cX0_coverToken 305 = .ok (.iadd, 1) := by decide +kernel
theorem dX0_coverToken_306 : decode cX0_coverToken 306 = .ok (.invokevirtual 57, 3) := by decide +kernel
theorem dX0_coverToken_309 : decode cX0_coverToken 309 = .ok (.goto 12, 3) := by decide +kernel
theorem dX0_coverToken_312 : decode cX0_coverToken 312 = .ok (.aload_n 0, 1) := by decide +kernel
theorem dX0_coverToken_313 : decode cX0_coverToken 313 = .ok (.iload_n 2, 1) := by decide +kernel
theorem dX0_coverToken_314 : decode cX0_coverToken 314 = .ok (.iconst 0, 1) := by decide +kernel
theorem dX0_coverToken_315 : decode cX0_coverToken 315 = .ok (.aload_n 3, 1) := by decide +kernel
theorem dX0_coverToken_316 : decode cX0_coverToken 316 = .ok (.iconst 0, 1) := by decide +kernel
theorem dX0_coverToken_317 : decode cX0_coverToken 317 = .ok (.iaload, 1) := by decide +kernel
theorem dX0_coverToken_318 : decode cX0_coverToken 318 = .ok (.invokevirtual 57, 3) := by decide +kernel
theorem dX0_coverToken_321 : decode cX0_coverToken 321 = .ok (.return_, 1) := by decide +kernel
def kX0_coverToken_0 : List (Nat × zT) := [(0, a_aload 0 1), (1, a_getR 0 0 4), (4, a_iload 2 5), (5, a_iald 6), (6, a_aload 0 7), (7, a_getR 0 0 10), (10, a_iload 2 11), (11, a_i 1 12), (12, a_ii (fun x y => x + y) 13), (13, a_iald 14), (14, a_ii (fun x y => x + y) 15), (15, a_istore 4 17), (17, a_aload 0 18), (18, a_getR 0 1 21), (21, a_iload 2 22), (22, a_iald 23), (23, a_aload 0 24), (24, a_getR 0 1 27), (27, a_iload 2 28), (28, a_i 1 29), (29, a_ii (fun x y => x + y) 30), (30, a_iald 31), (31, a_ii (fun x y => x + y) 32), (32, a_istore 5 34)]
theorem oX0_coverToken_0 : ∀ q ∈ kX0_coverToken_0, zSnd zty false RX0 cX0_coverToken 8 none false q := List.forall_mem_cons.mpr ⟨ok_aload_n dX0_coverToken_0 rfl, List.forall_mem_cons.mpr ⟨ok_getR dX0_coverToken_1 rfl in0 (by decide) rfl w207, List.forall_mem_cons.mpr ⟨ok_iload_n dX0_coverToken_4 rfl, List.forall_mem_cons.mpr ⟨ok_iald dX0_coverToken_5, List.forall_mem_cons.mpr ⟨ok_aload_n dX0_coverToken_6 rfl, List.forall_mem_cons.mpr ⟨ok_getR dX0_coverToken_7 rfl in0 (by decide) rfl w207, List.forall_mem_cons.mpr ⟨ok_iload_n dX0_coverToken_10 rfl, List.forall_mem_cons.mpr ⟨ok_iconst dX0_coverToken_11 (by decide), List.forall_mem_cons.mpr ⟨ok_iadd dX0_coverToken_12, List.forall_mem_cons.mpr ⟨ok_iald dX0_coverToken_13, List.forall_mem_cons.mpr ⟨ok_iadd dX0_coverToken_14, List.forall_mem_cons.mpr ⟨ok_istore dX0_coverToken_15 (by decide), List.forall_mem_cons.mpr ⟨ok_aload_n dX0_coverToken_17 rfl, List.forall_mem_cons.mpr ⟨ok_getR dX0_coverToken_18 rfl in0 (by decide) rfl w208, List.forall_mem_cons.mpr ⟨ok_iload_n dX0_coverToken_21 rfl, List.forall_mem_cons.mpr ⟨ok_iald dX0_coverToken_22, List.forall_mem_cons.mpr ⟨ok_aload_n dX0_coverToken_23 rfl, List.forall_mem_cons.mpr ⟨ok_getR dX0_coverToken_24 rfl in0 (by decide) rfl w208, List.forall_mem_cons.mpr ⟨ok_iload_n dX0_coverToken_27 rfl, List.forall_mem_cons.mpr ⟨ok_iconst dX0_coverToken_28 (by decide), List.forall_mem_cons.mpr ⟨ok_iadd dX0_coverToken_29, List.forall_mem_cons.mpr ⟨ok_iald dX0_coverToken_30, List.forall_mem_cons.mpr ⟨ok_iadd dX0_coverToken_31, List.forall_mem_cons.mpr ⟨ok_istore dX0_coverToken_32 (by decide), fun _ h => absurd h List.not_mem_nil⟩⟩⟩⟩⟩⟩⟩⟩⟩⟩⟩⟩⟩⟩⟩⟩⟩⟩⟩⟩⟩⟩⟩⟩
def kX0_coverToken_1 : List (Nat × zT) := [(34, a_iload 1 35), (35, a_sw [(19, 76), (20, 76), (21, 86), (22, 106), (23, 144), (24, 182), (25, 242)] 312), (76, a_aload 0 77), (77, a_iload 2 78), (78, a_i 0 79), (79, a_i 0 80), (80, a_callV 0 4 4 83 0 0), (83, a_goto 321), (86, a_aload 0 87), (87, a_iload 2 88), (88, a_aload 0 89), (89, a_getR 0 1 92), (92, a_iload 2 93), (93, a_iald 94), (94, a_aload 0 95), (95, a_getR 0 0 98), (98, a_iload 2 99), (99, a_iald 100), (100, a_callV 0 4 4 103 0 0), (103, a_goto 321), (106, a_aload 0 107), (107, a_iload 2 108), (108, a_aload 3 109), (109, a_i 1 110)]
theorem oX0_coverToken_1 : ∀ q ∈ kX0_coverToken_1, zSnd zty false RX0 cX0_coverToken 8 none false q := List.forall_mem_cons.mpr ⟨ok_iload_n dX0_coverToken_34 rfl, List.forall_mem_cons.mpr ⟨ok_tsw dX0_coverToken_35 (by decide) (by decide) (by decide) (by decide), List.forall_mem_cons.mpr ⟨ok_aload_n dX0_coverToken_76 rfl, List.forall_mem_cons.mpr ⟨ok_iload_n dX0_coverToken_77 rfl, List.forall_mem_cons.mpr ⟨ok_iconst dX0_coverToken_78 (by decide), List.forall_mem_cons.mpr ⟨ok_iconst dX0_coverToken_79 (by decide), List.forall_mem_cons.mpr ⟨ok_callV dX0_coverToken_80 rfl rfl w688 w685 w687 w8 s11 (by decide +kernel) (by decide), List.forall_mem_cons.mpr ⟨ok_goto dX0_coverToken_83 (by decide), List.forall_mem_cons.mpr ⟨ok_aload_n dX0_coverToken_86 rfl, List.forall_mem_cons.mpr ⟨ok_iload_n dX0_coverToken_87 rfl, List.forall_mem_cons.mpr ⟨ok_aload_n dX0_coverToken_88 rfl, List.forall_mem_cons.mpr ⟨ok_getR dX0_coverToken_89 rfl in0 (by decide) rfl w208, List.forall_mem_cons.mpr ⟨ok_iload_n dX0_coverToken_92 rfl, List.forall_mem_cons.mpr ⟨ok_iald dX0_coverToken_93, List.forall_mem_cons.mpr ⟨ok_aload_n dX0_coverToken_94 rfl, List.forall_mem_cons.mpr ⟨ok_getR dX0_coverToken_95 rfl in0 (by decide) rfl w207, List.forall_mem_cons.mpr ⟨ok_iload_n dX0_coverToken_98 rfl, List.forall_mem_cons.mpr ⟨ok_iald dX0_coverToken_99, List.forall_mem_cons.mpr ⟨ok_callV dX0_coverToken_100 rfl rfl w688 w685 w687 w8 s11 (by decide +kernel) (by decide), List.forall_mem_cons.mpr ⟨ok_goto dX0_coverToken_103 (by decide), List.forall_mem_cons.mpr ⟨ok_aload_n dX0_coverToken_106 rfl, List.forall_mem_cons.mpr ⟨ok_iload_n dX0_coverToken_107 rfl, List.forall_mem_cons.mpr ⟨ok_aload_n dX0_coverToken_108 rfl, List.forall_mem_cons.mpr ⟨ok_iconst dX0_coverToken_109 (by decide), fun _ h => absurd h List.not_mem_nil⟩⟩⟩⟩⟩⟩⟩⟩⟩⟩⟩⟩⟩⟩⟩⟩⟩⟩⟩⟩⟩⟩⟩⟩
def kX0_coverToken_2 : List (Nat × zT) := [(110, a_iald 111), (111, a_iload 4 113), (113, a_ii (fun x y => x + y) 114), (114, a_aload 3 115), (115, a_i 4 116), (116, a_iald 117), (117, a_iload 5 119), (119, a_ii (fun x y => x + y) 120), (120, a_mm (fun x y => if y < x then y else x) 123), (123, a_aload 3 124), (124, a_i 3 125), (125, a_iald 126), (126, a_iload 4 128), (128, a_ii (fun x y => x + y) 129), (129, a_aload 3 130), (130, a_i 2 131), (131, a_iald 132), (132, a_iload 5 134), (134, a_ii (fun x y => x + y) 135), (135, a_mm (fun x y => if y < x then y else x) 138), (138, a_callV 0 4 4 141 0 0), (141, a_goto 321), (144, a_aload 0 145), (145, a_iload 2 146)]
theorem oX0_coverToken_2 : ∀ q ∈ kX0_coverToken_2, zSnd zty false RX0 cX0_coverToken 8 none false q := List.forall_mem_cons.mpr ⟨ok_iald dX0_coverToken_110, List.forall_mem_cons.mpr ⟨ok_iload dX0_coverToken_111, List.forall_mem_cons.mpr ⟨ok_iadd dX0_coverToken_113, List.forall_mem_cons.mpr ⟨ok_aload_n dX0_coverToken_114 rfl, List.forall_mem_cons.mpr ⟨ok_iconst dX0_coverToken_115 (by decide), List.forall_mem_cons.mpr ⟨ok_iald dX0_coverToken_116, List.forall_mem_cons.mpr ⟨ok_iload dX0_coverToken_117, List.forall_mem_cons.mpr ⟨ok_iadd dX0_coverToken_119, List.forall_mem_cons.mpr ⟨ok_mmin dX0_coverToken_120 w689 w690 w18 w691, List.forall_mem_cons.mpr ⟨ok_aload_n dX0_coverToken_123 rfl, List.forall_mem_cons.mpr ⟨ok_iconst dX0_coverToken_124 (by decide), List.forall_mem_cons.mpr ⟨ok_iald dX0_coverToken_125, List.forall_mem_cons.mpr ⟨ok_iload dX0_coverToken_126, List.forall_mem_cons.mpr ⟨ok_iadd dX0_coverToken_128, List.forall_mem_cons.mpr ⟨ok_aload_n dX0_coverToken_129 rfl, List.forall_mem_cons.mpr ⟨ok_iconst dX0_coverToken_130 (by decide), List.forall_mem_cons.mpr ⟨ok_iald dX0_coverToken_131, List.forall_mem_cons.mpr ⟨ok_iload dX0_coverToken_132, List.forall_mem_cons.mpr ⟨ok_iadd dX0_coverToken_134, List.forall_mem_cons.mpr ⟨ok_mmin dX0_coverToken_135 w689 w690 w18 w691, List.forall_mem_cons.mpr ⟨ok_callV dX0_coverToken_138 rfl rfl w688 w685 w687 w8 s11 (by decide +kernel) (by decide), List.forall_mem_cons.mpr ⟨ok_goto dX0_coverToken_141 (by decide), List.forall_mem_cons.mpr ⟨ok_aload_n dX0_coverToken_144 rfl, List.forall_mem_cons.mpr ⟨ok_iload_n dX0_coverToken_145 rfl, fun _ h => absurd h List.not_mem_nil⟩⟩⟩⟩⟩⟩⟩⟩⟩⟩⟩⟩⟩⟩⟩⟩⟩⟩⟩⟩⟩⟩⟩⟩
def kX0_coverToken_3 : List (Nat × zT) := [(146, a_aload 3 147), (147, a_i 2 148), (148, a_iald 149), (149, a_iload 4 151), (151, a_ii (fun x y => x + y) 152), (152, a_aload 3 153), (153, a_i 3 154), (154, a_iald 155), (155, a_iload 5 157), (157, a_ii (fun x y => x + y) 158), (158, a_mm (fun x y => if y < x then y else x) 161), (161, a_aload 3 162), (162, a_i 4 163), (163, a_iald 164), (164, a_iload 4 166), (166, a_ii (fun x y => x + y) 167), (167, a_aload 3 168), (168, a_i 1 169), (169, a_iald 170), (170, a_iload 5 172), (172, a_ii (fun x y => x + y) 173), (173, a_mm (fun x y => if y < x then y else x) 176), (176, a_callV 0 4 4 179 0 0), (179, a_goto 321)]
theorem oX0_coverToken_3 : ∀ q ∈ kX0_coverToken_3, zSnd zty false RX0 cX0_coverToken 8 none false q := List.forall_mem_cons.mpr ⟨ok_aload_n dX0_coverToken_146 rfl, List.forall_mem_cons.mpr ⟨ok_iconst dX0_coverToken_147 (by decide), List.forall_mem_cons.mpr ⟨ok_iald dX0_coverToken_148, List.forall_mem_cons.mpr ⟨ok_iload dX0_coverToken_149, List.forall_mem_cons.mpr ⟨ok_iadd dX0_coverToken_151, List.forall_mem_cons.mpr ⟨ok_aload_n dX0_coverToken_152 rfl, List.forall_mem_cons.mpr ⟨ok_iconst dX0_coverToken_153 (by decide), List.forall_mem_cons.mpr ⟨ok_iald dX0_coverToken_154, List.forall_mem_cons.mpr ⟨ok_iload dX0_coverToken_155, List.forall_mem_cons.mpr ⟨ok_iadd dX0_coverToken_157, List.forall_mem_cons.mpr ⟨ok_mmin dX0_coverToken_158 w689 w690 w18 w691, List.forall_mem_cons.mpr ⟨ok_aload_n dX0_coverToken_161 rfl, List.forall_mem_cons.mpr ⟨ok_iconst dX0_coverToken_162 (by decide), List.forall_mem_cons.mpr ⟨ok_iald dX0_coverToken_163, List.forall_mem_cons.mpr ⟨ok_iload dX0_coverToken_164, List.forall_mem_cons.mpr ⟨ok_iadd dX0_coverToken_166, List.forall_mem_cons.mpr ⟨ok_aload_n dX0_coverToken_167 rfl, List.forall_mem_cons.mpr ⟨ok_iconst dX0_coverToken_168 (by decide), List.forall_mem_cons.mpr ⟨ok_iald dX0_coverToken_169, List.forall_mem_cons.mpr ⟨ok_iload dX0_coverToken_170, List.forall_mem_cons.mpr ⟨ok_iadd dX0_coverToken_172, List.forall_mem_cons.mpr ⟨ok_mmin dX0_coverToken_173 w689 w690 w18 w691, List.forall_mem_cons.mpr ⟨ok_callV dX0_coverToken_176 rfl rfl w688 w685 w687 w8 s11 (by decide +kernel) (by decide), List.forall_mem_cons.mpr ⟨ok_goto dX0_coverToken_179 (by decide), fun _ h => absurd h List.not_mem_nil⟩⟩⟩⟩⟩⟩⟩⟩⟩⟩⟩⟩⟩⟩⟩⟩⟩⟩⟩⟩⟩⟩⟩⟩
def kX0_coverToken_4 : List (Nat × zT) := [(182, a_aload 0 183), (183, a_getR 0 0 186), (186, a_iload 2 187), (187, a_iald 188), (188, a_aload 0 189), (189, a_getR 0 1 192), (192, a_iload 2 193), (193, a_i 1 194), (194, a_ii (fun x y => x + y) 195), (195, a_iald 196), (196, a_ii (fun x y => x + y) 197), (197, a_aload 0 198), (198, a_getR 0 1 201), (201, a_iload 2 202), (202, a_iald 203), (203, a_aload 0 204), (204, a_getR 0 0 207), (207, a_iload 2 208), (208, a_i 1 209), (209, a_ii (fun x y => x + y) 210), (210, a_iald 211), (211, a_ii (fun x y => x + y) 212), (212, a_mm (fun x y => if y < x then y else x) 215), (215, a_istore 6 217)]
theorem oX0_coverToken_4 : ∀ q ∈ kX0_coverToken_4, zSnd zty false RX0 cX0_coverToken 8 none false q := List.forall_mem_cons.mpr ⟨ok_aload_n dX0_coverToken_182 rfl, List.forall_mem_cons.mpr ⟨ok_getR dX0_coverToken_183 rfl in0 (by decide) rfl w207, List.forall_mem_cons.mpr ⟨ok_iload_n dX0_coverToken_186 rfl, List.forall_mem_cons.mpr ⟨ok_iald dX0_coverToken_187, List.forall_mem_cons.mpr ⟨ok_aload_n dX0_coverToken_188 rfl, List.forall_mem_cons.mpr ⟨ok_getR dX0_coverToken_189 rfl in0 (by decide) rfl w208, List.forall_mem_cons.mpr ⟨ok_iload_n dX0_coverToken_192 rfl, List.forall_mem_cons.mpr ⟨ok_iconst dX0_coverToken_193 (by decide), List.forall_mem_cons.mpr ⟨ok_iadd dX0_coverToken_194, List.forall_mem_cons.mpr ⟨ok_iald dX0_coverToken_195, List.forall_mem_cons.mpr ⟨ok_iadd dX0_coverToken_196, List.forall_mem_cons.mpr ⟨ok_aload_n dX0_coverToken_197 rfl, List.forall_mem_cons.mpr ⟨ok_getR dX0_coverToken_198 rfl in0 (by decide) rfl w208, List.forall_mem_cons.mpr ⟨ok_iload_n dX0_coverToken_201 rfl, List.forall_mem_cons.mpr ⟨ok_iald dX0_coverToken_202, List.forall_mem_cons.mpr ⟨ok_aload_n dX0_coverToken_203 rfl, List.forall_mem_cons.mpr ⟨ok_getR dX0_coverToken_204 rfl in0 (by decide) rfl w207, List.forall_mem_cons.mpr ⟨ok_iload_n dX0_coverToken_207 rfl, List.forall_mem_cons.mpr ⟨ok_iconst dX0_coverToken_208 (by decide), List.forall_mem_cons.mpr ⟨ok_iadd dX0_coverToken_209, List.forall_mem_cons.mpr ⟨ok_iald dX0_coverToken_210, List.forall_mem_cons.mpr ⟨ok_iadd dX0_coverToken_211, List.forall_mem_cons.mpr ⟨ok_mmin dX0_coverToken_212 w689 w690 w18 w691, List.forall_mem_cons.mpr ⟨ok_istore dX0_coverToken_215 (by decide), fun _ h => absurd h List.not_mem_nil⟩⟩⟩⟩⟩⟩⟩⟩⟩⟩⟩⟩⟩⟩⟩⟩⟩⟩⟩⟩⟩⟩⟩⟩
def kX0_coverToken_5 : List (Nat × zT) := [(217, a_aload 0 218), (218, a_iload 2 219), (219, a_aload 3 220), (220, a_i 5 221), (221, a_iald 222), (222, a_iload 4 224), (224, a_iload 5 226), (226, a_mm (fun x y => if y < x then y else x) 229), (229, a_ii (fun x y => x + y) 230), (230, a_aload 3 231), (231, a_i 5 232), (232, a_iald 233), (233, a_iload 6 235), (235, a_ii (fun x y => x + y) 236), (236, a_callV 0 4 4 239 0 0), (239, a_goto 321), (242, a_aload 3 243), (243, a_i 6 245), (245, a_iald 246), (246, a_aload 0 247), (247, a_getR 0 0 250), (250, a_iload 2 251), (251, a_iald 252), (252, a_aload 0 253)]
theorem oX0_coverToken_5 : ∀ q ∈ kX0_coverToken_5, zSnd zty false RX0 cX0_coverToken 8 none false q := List.forall_mem_cons.mpr ⟨ok_aload_n dX0_coverToken_217 rfl, List.forall_mem_cons.mpr ⟨ok_iload_n dX0_coverToken_218 rfl, List.forall_mem_cons.mpr ⟨ok_aload_n dX0_coverToken_219 rfl, List.forall_mem_cons.mpr ⟨ok_iconst dX0_coverToken_220 (by decide), List.forall_mem_cons.mpr ⟨ok_iald dX0_coverToken_221, List.forall_mem_cons.mpr ⟨ok_iload dX0_coverToken_222, List.forall_mem_cons.mpr ⟨ok_iload dX0_coverToken_224, List.forall_mem_cons.mpr ⟨ok_mmin dX0_coverToken_226 w689 w690 w18 w691, List.forall_mem_cons.mpr ⟨ok_iadd dX0_coverToken_229, List.forall_mem_cons.mpr ⟨ok_aload_n dX0_coverToken_230 rfl, List.forall_mem_cons.mpr ⟨ok_iconst dX0_coverToken_231 (by decide), List.forall_mem_cons.mpr ⟨ok_iald dX0_coverToken_232, List.forall_mem_cons.mpr ⟨ok_iload dX0_coverToken_233, List.forall_mem_cons.mpr ⟨ok_iadd dX0_coverToken_235, List.forall_mem_cons.mpr ⟨ok_callV dX0_coverToken_236 rfl rfl w688 w685 w687 w8 s11 (by decide +kernel) (by decide), List.forall_mem_cons.mpr ⟨ok_goto dX0_coverToken_239 (by decide), List.forall_mem_cons.mpr ⟨ok_aload_n dX0_coverToken_242 rfl, List.forall_mem_cons.mpr ⟨ok_bipush dX0_coverToken_243 (by decide), List.forall_mem_cons.mpr ⟨ok_iald dX0_coverToken_245, List.forall_mem_cons.mpr ⟨ok_aload_n dX0_coverToken_246 rfl, List.forall_mem_cons.mpr ⟨ok_getR dX0_coverToken_247 rfl in0 (by decide) rfl w207, List.forall_mem_cons.mpr ⟨ok_iload_n dX0_coverToken_250 rfl, List.forall_mem_cons.mpr ⟨ok_iald dX0_coverToken_251, List.forall_mem_cons.mpr ⟨ok_aload_n dX0_coverToken_252 rfl, fun _ h => absurd h List.not_mem_nil⟩⟩⟩⟩⟩⟩⟩⟩⟩⟩⟩⟩⟩⟩⟩⟩⟩⟩⟩⟩⟩⟩⟩⟩
def kX0_coverToken_6 : List (Nat × zT) := [(253, a_getR 0 1 256), (256, a_iload 2 257), (257, a_iald 258), (258, a_mm (fun x y => if y < x then y else x) 261), (261, a_ii (fun x y => x + y) 262), (262, a_istore 7 264), (264, a_aload 0 265), (265, a_iload 2 266), (266, a_iload 7 268), (268, a_aload 0 269), (269, a_getR 0 0 272), (272, a_iload 2 273), (273, a_i 1 274), (274, a_ii (fun x y => x + y) 275), (275, a_iald 276), (276, a_ii (fun x y => x + y) 277), (277, a_aload 0 278), (278, a_getR 0 0 281), (281, a_iload 2 282), (282, a_i 2 283), (283, a_ii (fun x y => x + y) 284), (284, a_iald 285), (285, a_ii (fun x y => x + y) 286), (286, a_iload 7 288)]
theorem oX0_coverToken_6 : ∀ q ∈ kX0_coverToken_6, zSnd zty false RX0 cX0_coverToken 8 none false q := List.forall_mem_cons.mpr ⟨ok_getR dX0_coverToken_253 rfl in0 (by decide) rfl w208, List.forall_mem_cons.mpr ⟨ok_iload_n dX0_coverToken_256 rfl, List.forall_mem_cons.mpr ⟨ok_iald dX0_coverToken_257, List.forall_mem_cons.mpr ⟨ok_mmin dX0_coverToken_258 w689 w690 w18 w691, List.forall_mem_cons.mpr ⟨ok_iadd dX0_coverToken_261, List.forall_mem_cons.mpr ⟨ok_istore dX0_coverToken_262 (by decide), List.forall_mem_cons.mpr ⟨ok_aload_n dX0_coverToken_264 rfl, List.forall_mem_cons.mpr ⟨ok_iload_n dX0_coverToken_265 rfl, List.forall_mem_cons.mpr ⟨ok_iload dX0_coverToken_266, List.forall_mem_cons.mpr ⟨ok_aload_n dX0_coverToken_268 rfl, List.forall_mem_cons.mpr ⟨ok_getR dX0_coverToken_269 rfl in0 (by decide) rfl w207, List.forall_mem_cons.mpr ⟨ok_iload_n dX0_coverToken_272 rfl, List.forall_mem_cons.mpr ⟨ok_iconst dX0_coverToken_273 (by decide), List.forall_mem_cons.mpr ⟨ok_iadd dX0_coverToken_274, List.forall_mem_cons.mpr ⟨ok_iald dX0_coverToken_275, List.forall_mem_cons.mpr ⟨ok_iadd dX0_coverToken_276, List.forall_mem_cons.mpr ⟨ok_aload_n dX0_coverToken_277 rfl, List.forall_mem_cons.mpr ⟨ok_getR dX0_coverToken_278 rfl in0 (by decide) rfl w207, List.forall_mem_cons.mpr ⟨ok_iload_n dX0_coverToken_281 rfl, List.forall_mem_cons.mpr ⟨ok_iconst dX0_coverToken_282 (by decide), List.forall_mem_cons.mpr ⟨ok_iadd dX0_coverToken_283, List.forall_mem_cons.mpr ⟨ok_iald dX0_coverToken_284, List.forall_mem_cons.mpr ⟨ok_iadd dX0_coverToken_285, List.forall_mem_cons.mpr ⟨ok_iload dX0_coverToken_286, fun _ h => absurd h List.not_mem_nil⟩⟩⟩⟩⟩⟩⟩⟩⟩⟩⟩⟩⟩⟩⟩⟩⟩⟩⟩⟩⟩⟩⟩⟩
def kX0_coverToken_7 : List (Nat × zT) := [(288, a_aload 0 289), (289, a_getR 0 1 292), (292, a_iload 2 293), (293, a_i 1 294), (294, a_ii (fun x y => x + y) 295), (295, a_iald 296), (296, a_ii (fun x y => x + y) 297), (297, a_aload 0 298), (298, a_getR 0 1 301), (301, a_iload 2 302), (302, a_i 2 303), (303, a_ii (fun x y => x + y) 304), (304, a_iald 305), (305, a_ii (fun x y => x + y) 306), (306, a_callV 0 4 4 309 0 0), (309, a_goto 321), (312, a_aload 0 313), (313, a_iload 2 314), (314, a_i 0 315), (315, a_aload 3 316), (316, a_i 0 317), (317, a_iald 318), (318, a_callV 0 4 4 321 0 0), (321, a_vret)]
theorem oX0_coverToken_7 : ∀ q ∈ kX0_coverToken_7, zSnd zty false RX0 cX0_coverToken 8 none false q := List.forall_mem_cons.mpr ⟨ok_aload_n dX0_coverToken_288 rfl, List.forall_mem_cons.mpr ⟨ok_getR dX0_coverToken_289 rfl in0 (by decide) rfl w208, List.forall_mem_cons.mpr ⟨ok_iload_n dX0_coverToken_292 rfl, List.forall_mem_cons.mpr ⟨ok_iconst dX0_coverToken_293 (by decide), List.forall_mem_cons.mpr ⟨ok_iadd dX0_coverToken_294, List.forall_mem_cons.mpr ⟨ok_iald dX0_coverToken_295, List.forall_mem_cons.mpr ⟨ok_iadd dX0_coverToken_296, List.forall_mem_cons.mpr ⟨ok_aload_n dX0_coverToken_297 rfl, List.forall_mem_cons.mpr ⟨ok_getR dX0_coverToken_298 rfl in0 (by decide) rfl w208, List.forall_mem_cons.mpr ⟨ok_iload_n dX0_coverToken_301 rfl, List.forall_mem_cons.mpr ⟨ok_iconst dX0_coverToken_302 (by decide), List.forall_mem_cons.mpr ⟨ok_iadd dX0_coverToken_303, List.forall_mem_cons.mpr ⟨ok_iald dX0_coverToken_304, List.forall_mem_cons.mpr ⟨ok_iadd dX0_coverToken_305, List.forall_mem_cons.mpr ⟨ok_callV dX0_coverToken_306 rfl rfl w688 w685 w687 w8 s11 (by decide +kernel) (by decide), List.forall_mem_cons.mpr ⟨ok_goto dX0_coverToken_309 (by decide), List.forall_mem_cons.mpr ⟨ok_aload_n dX0_coverToken_312 rfl, List.forall_mem_cons.mpr ⟨ok_iload_n dX0_coverToken_313 rfl, List.forall_mem_cons.mpr ⟨ok_iconst dX0_coverToken_314 (by decide), List.forall_mem_cons.mpr ⟨ok_aload_n dX0_coverToken_315 rfl, List.forall_mem_cons.mpr ⟨ok_iconst dX0_coverToken_316 (by decide), List.forall_mem_cons.mpr ⟨ok_iald dX0_coverToken_317, List.forall_mem_cons.mpr ⟨ok_callV dX0_coverToken_318 rfl rfl w688 w685 w687 w8 s11 (by decide +kernel) (by decide), List.forall_mem_cons.mpr ⟨ok_vret dX0_coverToken_321 rfl, fun _ h => absurd h List.not_mem_nil⟩⟩⟩⟩⟩⟩⟩⟩⟩⟩⟩⟩⟩⟩⟩⟩⟩⟩⟩⟩⟩⟩⟩⟩
def kX0_coverToken : List (Nat × zT) := kX0_coverToken_0 ++ (kX0_coverToken_1 ++ (kX0_coverToken_2 ++ (kX0_coverToken_3 ++ (kX0_coverToken_4 ++ (kX0_coverToken_5 ++ (kX0_coverToken_6 ++ (kX0_coverToken_7)))))))
theorem qX0_coverToken_0 : ∀ q ∈ kX0_coverToken_0, q ∈ kX0_coverToken := fun _ h => (List.mem_append_left _ h)
theorem tX0_coverToken_0 : (0, a_aload 0 1) ∈ kX0_coverToken := qX0_coverToken_0 _ (List.mem_of_getElem? (i := 0) rfl)
theorem tX0_coverToken_1 : (1, a_getR 0 0 4) ∈ kX0_coverToken := qX0_coverToken_0 _ (List.mem_of_getElem? (i := 1) rfl)
theorem tX0_coverToken_4 : (4, a_iload 2 5) ∈ kX0_coverToken := qX0_coverToken_0 _ (List.mem_of_getElem? (i := 2) rfl)
theorem tX0_coverToken_5 : (5, a_iald 6) ∈ kX0_coverToken := qX0_coverToken_0 _ (List.mem_of_getElem? (i := 3) rfl)
theorem tX0_coverToken_6 : (6, a_aload 0 7) ∈ kX0_coverToken := qX0_coverToken_0 _ (List.mem_of_getElem? (i := 4) rfl)
theorem tX0_coverToken_7 : (7, a_getR 0 0 10) ∈ kX0_coverToken := qX0_coverToken_0 _ (List.mem_of_getElem? (i := 5) rfl)
theorem tX0_coverToken_10 : (10, a_iload 2 11) ∈ kX0_coverToken := qX0_coverToken_0 _ (List.mem_of_getElem? (i := 6) rfl)
theorem tX0_coverToken_11 : (11, a_i 1 12) ∈ kX0_coverToken := qX0_coverToken_0 _ (List.mem_of_getElem? (i := 7) rfl)
theorem tX0_coverToken_12 : (12, a_ii (fun x y => x + y) 13) ∈ kX0_coverToken := qX0_coverToken_0 _ (List.mem_of_getElem? (i := 8) rfl)
theorem tX0_coverToken_13 : (13, a_iald 14) ∈ kX0_coverToken := qX0_coverToken_0 _ (List.mem_of_getElem? (i := 9) rfl)
theorem tX0_coverToken_14 : (14, a_ii (fun x y => x + y) 15) ∈ kX0_coverToken := qX0_coverToken_0 _ (List.mem_of_getElem? (i := 10) rfl)
theorem tX0_coverToken_15 : (15, a_istore 4 17) ∈ kX0_coverToken := qX0_coverToken_0 _ (List.mem_of_getElem? (i := 11) rfl)
theorem tX0_coverToken_17 : (17, a_aload 0 18) ∈ kX0_coverToken := qX0_coverToken_0 _ (List.mem_of_getElem? (i := 12) rfl)
theorem tX0_coverToken_18 : (18, a_getR 0 1 21) ∈ kX0_coverToken := qX0_coverToken_0 _ (List.mem_of_getElem? (i := 13) rfl)
theorem tX0_coverToken_21 : (21, a_iload 2 22) ∈ kX0_coverToken := qX0_coverToken_0 _ (List.mem_of_getElem? (i := 14) rfl)
theorem tX0_coverToken_22 : (22, a_iald 23) ∈ kX0_coverToken := qX0_coverToken_0 _ (List.mem_of_getElem? (i := 15) rfl)
theorem tX0_coverToken_23 : (23, a_aload 0 24) ∈ kX0_coverToken := qX0_coverToken_0 _ (List.mem_of_getElem? (i := 16) rfl)
theorem tX0_coverToken_24 : (24, a_getR 0 1 27) ∈ kX0_coverToken := qX0_coverToken_0 _ (List.mem_of_getElem? (i := 17) rfl)
theorem tX0_coverToken_27 : (27, a_iload 2 28) ∈ kX0_coverToken := qX0_coverToken_0 _ (List.mem_of_getElem? (i := 18) rfl)
theorem tX0_coverToken_28 : (28, a_i 1 29) ∈ kX0_coverToken := qX0_coverToken_0 _ (List.mem_of_getElem? (i := 19) rfl)
theorem tX0_coverToken_29 : (29, a_ii (fun x y => x + y) 30) ∈ kX0_coverToken := qX0_coverToken_0 _ (List.mem_of_getElem? (i := 20) rfl)
theorem tX0_coverToken_30 : (30, a_iald 31) ∈ kX0_coverToken := qX0_coverToken_0 _ (List.mem_of_getElem? (i := 21) rfl)
theorem tX0_coverToken_31 : (31, a_ii (fun x y => x + y) 32) ∈ kX0_coverToken := qX0_coverToken_0 _ (List.mem_of_getElem? (i := 22) rfl)
theorem tX0_coverToken_32 : (32, a_istore 5 34) ∈ kX0_coverToken := qX0_coverToken_0 _ (List.mem_of_getElem? (i := 23) rfl)
theorem qX0_coverToken_1 : ∀ q ∈ kX0_coverToken_1, q ∈ kX0_coverToken := fun _ h => (List.mem_append_right _ (List.mem_append_left _ h))
theorem tX0_coverToken_34 : (34, a_iload 1 35) ∈ kX0_coverToken := qX0_coverToken_1 _ (List.mem_of_getElem? (i := 0) rfl)
theorem tX0_coverToken_35 : (35, a_sw [(19, 76), (20, 76), (21, 86), (22, 106), (23, 144), (24, 182), (25, 242)] 312) ∈ kX0_coverToken := qX0_coverToken_1 _ (List.mem_of_getElem? (i := 1) rfl)
theorem tX0_coverToken_76 : (76, a_aload 0 77) ∈ kX0_coverToken := qX0_coverToken_1 _ (List.mem_of_getElem? (i := 2) rfl)
theorem tX0_coverToken_77 : (77, a_iload 2 78) ∈ kX0_coverToken := qX0_coverToken_1 _ (List.mem_of_getElem? (i := 3) rfl)
theorem tX0_coverToken_78 : (78, a_i 0 79) ∈ kX0_coverToken := qX0_coverToken_1 _ (List.mem_of_getElem? (i := 4) rfl)
theorem tX0_coverToken_79 : (79, a_i 0 80) ∈ kX0_coverToken := qX0_coverToken_1 _ (List.mem_of_getElem? (i := 5) rfl)
theorem tX0_coverToken_80 : (80, a_callV 0 4 4 83 0 0) ∈ kX0_coverToken := qX0_coverToken_1 _ (List.mem_of_getElem? (i := 6) rfl)
theorem tX0_coverToken_83 : (83, a_goto 321) ∈ kX0_coverToken := qX0_coverToken_1 _ (List.mem_of_getElem? (i := 7) rfl)
theorem tX0_coverToken_86 : (86, a_aload 0 87) ∈ kX0_coverToken := qX0_coverToken_1 _ (List.mem_of_getElem? (i := 8) rfl)
theorem tX0_coverToken_87 : (87, a_iload 2 88) ∈ kX0_coverToken := qX0_coverToken_1 _ (List.mem_of_getElem? (i := 9) rfl)
theorem tX0_coverToken_88 : (88, a_aload 0 89) ∈ kX0_coverToken := qX0_coverToken_1 _ (List.mem_of_getElem? (i := 10) rfl)
theorem tX0_coverToken_89 : (89, a_getR 0 1 92) ∈ kX0_coverToken := qX0_coverToken_1 _ (List.mem_of_getElem? (i := 11) rfl)
theorem tX0_coverToken_92 : (92, a_iload 2 93) ∈ kX0_coverToken := qX0_coverToken_1 _ (List.mem_of_getElem? (i := 12) rfl)
theorem tX0_coverToken_93 : (93, a_iald 94) ∈ kX0_coverToken := qX0_coverToken_1 _ (List.mem_of_getElem? (i := 13) rfl)
theorem tX0_coverToken_94 : (94, a_aload 0 95) ∈ kX0_coverToken := qX0_coverToken_1 _ (List.mem_of_getElem? (i := 14) rfl)
theorem tX0_coverToken_95 : (95, a_getR 0 0 98) ∈ kX0_coverToken := qX0_coverToken_1 _ (List.mem_of_getElem? (i := 15) rfl)
theorem tX0_coverToken_98 : (98, a_iload 2 99) ∈ kX0_coverToken := qX0_coverToken_1 _ (List.mem_of_getElem? (i := 16) rfl)
theorem tX0_coverToken_99 : (99, a_iald 100) ∈ kX0_coverToken := qX0_coverToken_1 _ (List.mem_of_getElem? (i := 17) rfl)
theorem tX0_coverToken_100 : (100, a_callV 0 4 4 103 0 0) ∈ kX0_coverToken := qX0_coverToken_1 _ (List.mem_of_getElem? (i := 18) rfl)
theorem tX0_coverToken_103 : (103, a_goto 321) ∈ kX0_coverToken := qX0_coverToken_1 _ (List.mem_of_getElem? (i := 19) rfl)
theorem tX0_coverToken_106 : (106, a_aload 0 107) ∈ kX0_coverToken := qX0_coverToken_1 _ (List.mem_of_getElem? (i := 20) rfl)
theorem tX0_coverToken_107 : (107, a_iload 2 108) ∈ kX0_coverToken := qX0_coverToken_1 _ (List.mem_of_getElem? (i := 21) rfl)
theorem tX0_coverToken_108 : (108, a_aload 3 109) ∈ kX0_coverToken := qX0_coverToken_1 _ (List.mem_of_getElem? (i := 22) rfl)
theorem tX0_coverToken_109 : (109, a_i 1 110) ∈ kX0_coverToken := qX0_coverToken_1 _ (List.mem_of_getElem? (i := 23) rfl)
theorem qX0_coverToken_2 : ∀ q ∈ kX0_coverToken_2, q ∈ kX0_coverToken := fun _ h => (List.mem_append_right _ (List.mem_append_right _ (List.mem_append_left _ h)))
theorem tX0_coverToken_110 : (110, a_iald 111) ∈ kX0_coverToken := qX0_coverToken_2 _ (List.mem_of_getElem? (i := 0) rfl)
theorem tX0_coverToken_111 : (111, a_iload 4 113) ∈ kX0_coverToken := qX0_coverToken_2 _ (List.mem_of_getElem? (i := 1) rfl)
theorem tX0_coverToken_113 : (113, a_ii (fun x y => x + y) 114) ∈ kX0_coverToken := qX0_coverToken_2 _ (List.mem_of_getElem? (i := 2) rfl)
theorem tX0_coverToken_114 : (114, a_aload 3 115) ∈ kX0_coverToken := qX0_coverToken_2 _ (List.mem_of_getElem? (i := 3) rfl)
theorem tX0_coverToken_115 : (115, a_i 4 116) ∈ kX0_coverToken := qX0_coverToken_2 _ (List.mem_of_getElem? (i := 4) rfl)
theorem tX0_coverToken_116 : (116, a_iald 117) ∈ kX0_coverToken := qX0_coverToken_2 _ (List.mem_of_getElem? (i := 5) rfl)
theorem tX0_coverToken_117 : (117, a_iload 5 119) ∈ kX0_coverToken := qX0_coverToken_2 _ (List.mem_of_getElem? (i := 6) rfl)
theorem tX0_coverToken_119 : (119, a_ii (fun x y => x + y) 120) ∈ kX0_coverToken := qX0_coverToken_2 _ (List.mem_of_getElem? (i := 7) rfl)
theorem tX0_coverToken_120 : (120, a_mm (fun x y => if y < x then y else x) 123) ∈ kX0_coverToken := qX0_coverToken_2 _ (List.mem_of_getElem? (i := 8) rfl)
theorem tX0_coverToken_123 : (123, a_aload 3 124) ∈ kX0_coverToken := qX0_coverToken_2 _ (List.mem_of_getElem? (i := 9) rfl)
theorem tX0_coverToken_124 : (124, a_i 3 125) ∈ kX0_coverToken := qX0_coverToken_2 _ (List.mem_of_getElem? (i := 10) rfl)
theorem tX0_coverToken_125 : (125, a_iald 126) ∈ kX0_coverToken := qX0_coverToken_2 _ (List.mem_of_getElem? (i := 11) rfl)
theorem tX0_coverToken_126 : (126, a_iload 4 128) ∈ kX0_coverToken := qX0_coverToken_2 _ (List.mem_of_getElem? (i := 12) rfl)
theorem tX0_coverToken_128 : (128, a_ii (fun x y => x + y) 129) ∈ kX0_coverToken := qX0_coverToken_2 _ (List.mem_of_getElem? (i := 13) rfl)
theorem tX0_coverToken_129 : (129, a_aload 3 130) ∈ kX0_coverToken := qX0_coverToken_2 _ (List.mem_of_getElem? (i := 14) rfl)
theorem tX0_coverToken_130 : (130, a_i 2 131) ∈ kX0_coverToken := qX0_coverToken_2 _ (List.mem_of_getElem? (i := 15) rfl)
theorem tX0_coverToken_131 : (131, a_iald 132) ∈ kX0_coverToken := qX0_coverToken_2 _ (List.mem_of_getElem? (i := 16) rfl)
theorem tX0_coverToken_132 : (132, a_iload 5 134) ∈ kX0_coverToken := qX0_coverToken_2 _ (List.mem_of_getElem? (i := 17) rfl)
theorem tX0_coverToken_134 : (134, a_ii (fun x y => x + y) 135) ∈ kX0_coverToken := qX0_coverToken_2 _ (List.mem_of_getElem? (i := 18) rfl)
theorem tX0_coverToken_135 : (135, a_mm (fun x y => if y < x then y else x) 138) ∈ kX0_coverToken := qX0_coverToken_2 _ (List.mem_of_getElem? (i := 19) rfl)
theorem tX0_coverToken_138 : (138, a_callV 0 4 4 141 0 0) ∈ kX0_coverToken := qX0_coverToken_2 _ (List.mem_of_getElem? (i := 20) rfl)
theorem tX0_coverToken_141 : (141, a_goto 321) ∈ kX0_coverToken := qX0_coverToken_2 _ (List.mem_of_getElem? (i := 21) rfl)
theorem tX0_coverToken_144 : (144, a_aload 0 145) ∈ kX0_coverToken := qX0_coverToken_2 _ (List.mem_of_getElem? (i := 22) rfl)
theorem tX0_coverToken_145 : (145, a_iload 2 146) ∈ kX0_coverToken := qX0_coverToken_2 _ (List.mem_of_getElem? (i := 23) rfl)
theorem qX0_coverToken_3 : ∀ q ∈ kX0_coverToken_3, q ∈ kX0_coverToken := fun _ h => (List.mem_append_right _ (List.mem_append_right _ (List.mem_append_right _ (List.mem_append_left _ h))))
theorem tX0_coverToken_146 : (146, a_aload 3 147) ∈ kX0_coverToken := qX0_coverToken_3 _ (List.mem_of_getElem? (i := 0) rfl)
theorem tX0_coverToken_147 : (147, a_i 2 148) ∈ kX0_coverToken := qX0_coverToken_3 _ (List.mem_of_getElem? (i := 1) rfl)
theorem tX0_coverToken_148 : (148, a_iald 149) ∈ kX0_coverToken := qX0_coverToken_3 _ (List.mem_of_getElem? (i := 2) rfl)
theorem tX0_coverToken_149 : (149, a_iload 4 151) ∈ kX0_coverToken := qX0_coverToken_3 _ (List.mem_of_getElem? (i := 3) rfl)
theorem tX0_coverToken_151 : (151, a_ii (fun x y => x + y) 152) ∈ kX0_coverToken := qX0_coverToken_3 _ (List.mem_of_getElem? (i := 4) rfl)
theorem tX0_coverToken_152 : (152, a_aload 3 153) ∈ kX0_coverToken := qX0_coverToken_3 _ (List.mem_of_getElem? (i := 5) rfl)
theorem tX0_coverToken_153 : (153, a_i 3 154) ∈ kX0_coverToken := qX0_coverToken_3 _ (List.mem_of_getElem? (i := 6) rfl)
theorem tX0_coverToken_154 : (154, a_iald 155) ∈ kX0_coverToken := qX0_coverToken_3 _ (List.mem_of_getElem? (i := 7) rfl)
theorem tX0_coverToken_155 : (155, a_iload 5 157) ∈ kX0_coverToken := qX0_coverToken_3 _ (List.mem_of_getElem? (i := 8) rfl)
theorem tX0_coverToken_157 : (157, a_ii (fun x y => x + y) 158) ∈ kX0_coverToken := qX0_coverToken_3 _ (List.mem_of_getElem? (i := 9) rfl)
theorem tX0_coverToken_158 : (158, a_mm (fun x y => if y < x then y else x) 161) ∈ kX0_coverToken := qX0_coverToken_3 _ (List.mem_of_getElem? (i := 10) rfl)
theorem tX0_coverToken_161 : (161, a_aload 3 162) ∈ kX0_coverToken := qX0_coverToken_3 _ (List.mem_of_getElem? (i := 11) rfl)
theorem tX0_coverToken_162 : (162, a_i 4 163) ∈ kX0_coverToken := qX0_coverToken_3 _ (List.mem_of_getElem? (i := 12) rfl)
theorem tX0_coverToken_163 : (163, a_iald 164) ∈ kX0_coverToken := qX0_coverToken_3 _ (List.mem_of_getElem? (i := 13) rfl)
theorem tX0_coverToken_164 : (164, a_iload 4 166) ∈ kX0_coverToken := qX0_coverToken_3 _ (List.mem_of_getElem? (i := 14) rfl)
theorem tX0_coverToken_166 : (166, a_ii (fun x y => x + y) 167) ∈ kX0_coverToken := qX0_coverToken_3 _ (List.mem_of_getElem? (i := 15) rfl)
theorem tX0_coverToken_167 : (167, a_aload 3 168) ∈ kX0_coverToken := qX0_coverToken_3 _ (List.mem_of_getElem? (i := 16) rfl)
theorem tX0_coverToken_168 : (168, a_i 1 169) ∈ kX0_coverToken := qX0_coverToken_3 _ (List.mem_of_getElem? (i := 17) rfl)
theorem tX0_coverToken_169 : (169, a_iald 170) ∈ kX0_coverToken := qX0_coverToken_3 _ (List.mem_of_getElem? (i := 18) rfl)
theorem tX0_coverToken_170 : (170, a_iload 5 172) ∈ kX0_coverToken := qX0_coverToken_3 _ (List.mem_of_getElem? (i := 19) rfl)
theorem tX0_coverToken_172 : (172, a_ii (fun x y => x + y) 173) ∈ kX0_coverToken := qX0_coverToken_3 _ (List.mem_of_getElem? (i := 20) rfl)
theorem tX0_coverToken_173 : (173, a_mm (fun x y => if y < x then y else x) 176) ∈ kX0_coverToken := qX0_coverToken_3 _ (List.mem_of_getElem? (i := 21) rfl)
theorem tX0_coverToken_176 : (176, a_callV 0 4 4 179 0 0) ∈ kX0_coverToken := qX0_coverToken_3 _ (List.mem_of_getElem? (i := 22) rfl)
theorem tX0_coverToken_179 : (179, a_goto 321) ∈ kX0_coverToken := qX0_coverToken_3 _ (List.mem_of_getElem? (i := 23) rfl)
theorem qX0_coverToken_4 : ∀ q ∈ kX0_coverToken_4, q ∈ kX0_coverToken := fun _ h => (List.mem_append_right _ (List.mem_append_right _ (List.mem_append_right _ (List.mem_append_right _ (List.mem_append_left _ h)))))
theorem tX0_coverToken_182 : (182, a_aload 0 183) ∈ kX0_coverToken := qX0_coverToken_4 _ (List.mem_of_getElem? (i := 0) rfl)
theorem tX0_coverToken_183 : (183, a_getR 0 0 186) ∈ kX0_coverToken := qX0_coverToken_4 _ (List.mem_of_getElem? (i := 1) rfl)
theorem tX0_coverToken_186 : (186, a_iload 2 187) ∈ kX0_coverToken := qX0_coverToken_4 _ (List.mem_of_getElem? (i := 2) rfl)
theorem tX0_coverToken_187 : (187, a_iald 188) ∈ kX0_coverToken := qX0_coverToken_4 _ (List.mem_of_getElem? (i := 3) rfl)
theorem tX0_coverToken_188 : (188, a_aload 0 189) ∈ kX0_coverToken := qX0_coverToken_4 _ (List.mem_of_getElem? (i := 4) rfl)
theorem tX0_coverToken_189 : (189, a_getR 0 1 192) ∈ kX0_coverToken := qX0_coverToken_4 _ (List.mem_of_getElem? (i := 5) rfl)
theorem tX0_coverToken_192 : (192, a_iload 2 193) ∈ kX0_coverToken := qX0_coverToken_4 _ (List.mem_of_getElem? (i := 6) rfl)
theorem tX0_coverToken_193 : (193, a_i 1 194) ∈ kX0_coverToken := qX0_coverToken_4 _ (List.mem_of_getElem? (i := 7) rfl)
theorem tX0_coverToken_194 : (194, a_ii (fun x y => x + y) 195) ∈ kX0_coverToken := qX0_coverToken_4 _ (List.mem_of_getElem? (i := 8) rfl)
theorem tX0_coverToken_195 : (195, a_iald 196) ∈ kX0_coverToken := qX0_coverToken_4 _ (List.mem_of_getElem? (i := 9) rfl)
theorem tX0_coverToken_196 : (196, a_ii (fun x y => x + y) 197) ∈ kX0_coverToken := qX0_coverToken_4 _ (List.mem_of_getElem? (i := 10) rfl)
theorem tX0_coverToken_197 : (197, a_aload 0 198) ∈ kX0_coverToken := qX0_coverToken_4 _ (List.mem_of_getElem? (i := 11) rfl)
theorem tX0_coverToken_198 : (198, a_getR 0 1 201) ∈ kX0_coverToken := qX0_coverToken_4 _ (List.mem_of_getElem? (i := 12) rfl)
theorem tX0_coverToken_201 : (201, a_iload 2 202) ∈ kX0_coverToken := qX0_coverToken_4 _ (List.mem_of_getElem? (i := 13) rfl)
theorem tX0_coverToken_202 : (202, a_iald 203) ∈ kX0_coverToken := qX0_coverToken_4 _ (List.mem_of_getElem? (i := 14) rfl)
theorem tX0_coverToken_203 : (203, a_aload 0 204) ∈ kX0_coverToken := qX0_coverToken_4 _ (List.mem_of_getElem? (i := 15) rfl)
theorem tX0_coverToken_204 : (204, a_getR 0 0 207) ∈ kX0_coverToken := qX0_coverToken_4 _ (List.mem_of_getElem? (i := 16) rfl)
theorem tX0_coverToken_207 : (207, a_iload 2 208) ∈ kX0_coverToken := qX0_coverToken_4 _ (List.mem_of_getElem? (i := 17) rfl)
theorem tX0_coverToken_208 : (208, a_i 1 209) ∈ kX0_coverToken := qX0_coverToken_4 _ (List.mem_of_getElem? (i := 18) rfl)
theorem tX0_coverToken_209 : (209, a_ii (fun x y => x + y) 210) ∈ kX0_coverToken := qX0_coverToken_4 _ (List.mem_of_getElem? (i := 19) rfl)
theorem tX0_coverToken_210 : (210, a_iald 211) ∈ kX0_coverToken := qX0_coverToken_4 _ (List.mem_of_getElem? (i := 20) rfl)
theorem tX0_coverToken_211 : (211, a_ii (fun x y => x + y) 212) ∈ kX0_coverToken := qX0_coverToken_4 _ (List.mem_of_getElem? (i := 21) rfl)
theorem tX0_coverToken_212 : (212, a_mm (fun x y => if y < x then y else x) 215) ∈ kX0_coverToken := qX0_coverToken_4 _ (List.mem_of_getElem? (i := 22) rfl)
theorem tX0_coverToken_215 : (215, a_istore 6 217) ∈ kX0_coverToken := qX0_coverToken_4 _ (List.mem_of_getElem? (i := 23) rfl)
theorem qX0_coverToken_5 : ∀ q ∈ kX0_coverToken_5, q ∈ kX0_coverToken := fun _ h => (List.mem_append_right _ (List.mem_append_right _ (List.mem_append_right _ (List.mem_append_right _ (List.mem_append_right _ (List.mem_append_left _ h))))))
theorem tX0_coverToken_217 : (217, a_aload 0 218) ∈ kX0_coverToken := qX0_coverToken_5 _ (List.mem_of_getElem? (i := 0) rfl)
theorem tX0_coverToken_218 : (218, a_iload 2 219) ∈ kX0_coverToken := qX0_coverToken_5 _ (List.mem_of_getElem? (i := 1) rfl)
theorem tX0_coverToken_219 : (219, a_aload 3 220) ∈ kX0_coverToken := qX0_coverToken_5 _ (List.mem_of_getElem? (i := 2) rfl)
theorem tX0_coverToken_220 : (220, a_i 5 221) ∈ kX0_coverToken := qX0_coverToken_5 _ (List.mem_of_getElem? (i := 3) rfl)
theorem tX0_coverToken_221 : (221, a_iald 222) ∈ kX0_coverToken := qX0_coverToken_5 _ (List.mem_of_getElem? (i := 4) rfl)
theorem tX0_coverToken_222 : (222, a_iload 4 224) ∈ kX0_coverToken := qX0_coverToken_5 _ (List.mem_of_getElem? (i := 5) rfl)
theorem tX0_coverToken_224 : (224, a_iload 5 226) ∈ kX0_coverToken := qX0_coverToken_5 _ (List.mem_of_getElem? (i := 6) rfl)
theorem tX0_coverToken_226 : (226, a_mm (fun x y => if y < x then y else x) 229) ∈ kX0_coverToken := qX0_coverToken_5 _ (List.mem_of_getElem? (i := 7) rfl)
theorem tX0_coverToken_229 : (229, a_ii (fun x y => x + y) 230) ∈ kX0_coverToken := qX0_coverToken_5 _ (List.mem_of_getElem? (i := 8) rfl)
theorem tX0_coverToken_230 : (230, a_aload 3 231) ∈ kX0_coverToken := qX0_coverToken_5 _ (List.mem_of_getElem? (i := 9) rfl)
theorem tX0_coverToken_231 : (231, a_i 5 232) ∈ kX0_coverToken := qX0_coverToken_5 _ (List.mem_of_getElem? (i := 10) rfl)
theorem tX0_coverToken_232 : (232, a_iald 233) ∈ kX0_coverToken := qX0_coverToken_5 _ (List.mem_of_getElem? (i := 11) rfl)
theorem tX0_coverToken_233 : (233, a_iload 6 235) ∈ kX0_coverToken := qX0_coverToken_5 _ (List.mem_of_getElem? (i := 12) rfl)
theorem tX0_coverToken_235 : (235, a_ii (fun x y => x + y) 236) ∈ kX0_coverToken := qX0_coverToken_5 _ (List.mem_of_getElem? (i := 13) rfl)
theorem tX0_coverToken_236 : (236, a_callV 0 4 4 239 0 0) ∈ kX0_coverToken := qX0_coverToken_5 _ (List.mem_of_getElem? (i := 14) rfl)
theorem tX0_coverToken_239 : (239, a_goto 321) ∈ kX0_coverToken := qX0_coverToken_5 _ (List.mem_of_getElem? (i := 15) rfl)
theorem tX0_coverToken_242 : (242, a_aload 3 243) ∈ kX0_coverToken := qX0_coverToken_5 _ (List.mem_of_getElem? (i := 16) rfl)
theorem tX0_coverToken_243 : (243, a_i 6 245) ∈ kX0_coverToken := qX0_coverToken_5 _ (List.mem_of_getElem? (i := 17) rfl)
theorem tX0_coverToken_245 : (245, a_iald 246) ∈ kX0_coverToken := qX0_coverToken_5 _ (List.mem_of_getElem? (i := 18) rfl)
theorem tX0_coverToken_246 : (246, a_aload 0 247) ∈ kX0_coverToken := qX0_coverToken_5 _ (List.mem_of_getElem? (i := 19) rfl)
theorem tX0_coverToken_247 : (247, a_getR 0 0 250) ∈ kX0_coverToken := qX0_coverToken_5 _ (List.mem_of_getElem? (i := 20) rfl)
theorem tX0_coverToken_250 : (250, a_iload 2 251) ∈ kX0_coverToken := qX0_coverToken_5 _ (List.mem_of_getElem? (i := 21) rfl)
theorem tX0_coverToken_251 : (251, a_iald 252) ∈ kX0_coverToken := qX0_coverToken_5 _ (List.mem_of_getElem? (i := 22) rfl)
theorem tX0_coverToken_252 : (252, a_aload 0 253) ∈ kX0_coverToken := qX0_coverToken_5 _ (List.mem_of_getElem? (i := 23) rfl)
theorem qX0_coverToken_6 : ∀ q ∈ kX0_coverToken_6, q ∈ kX0_coverToken := fun _ h => (List.mem_append_right _ (List.mem_append_right _ (List.mem_append_right _ (List.mem_append_right _ (List.mem_append_right _ (List.mem_append_right _ (List.mem_append_left _ h)))))))
theorem tX0_coverToken_253 : (253, a_getR 0 1 256) ∈ kX0_coverToken := qX0_coverToken_6 _ (List.mem_of_getElem? (i := 0) rfl)
theorem tX0_coverToken_256 : (256, a_iload 2 257) ∈ kX0_coverToken := qX0_coverToken_6 _ (List.mem_of_getElem? (i := 1) rfl)
theorem tX0_coverToken_257 : (257, a_iald 258) ∈ kX0_coverToken := qX0_coverToken_6 _ (List.mem_of_getElem? (i := 2) rfl)
theorem tX0_coverToken_258 : (258, a_mm (fun x y => if y < x then y else x) 261) ∈ kX0_coverToken := qX0_coverToken_6 _ (List.mem_of_getElem? (i := 3) rfl)
theorem tX0_coverToken_261 : (261, a_ii (fun x y => x + y) 262) ∈ kX0_coverToken := qX0_coverToken_6 _ (List.mem_of_getElem? (i := 4) rfl)
theorem tX0_coverToken_262 : (262, a_istore 7 264) ∈ kX0_coverToken := qX0_coverToken_6 _ (List.mem_of_getElem? (i := 5) rfl)
theorem tX0_coverToken_264 : (264, a_aload 0 265) ∈ kX0_coverToken := qX0_coverToken_6 _ (List.mem_of_getElem? (i := 6) rfl)
theorem tX0_coverToken_265 : (265, a_iload 2 266) ∈ kX0_coverToken := qX0_coverToken_6 _ (List.mem_of_getElem? (i := 7) rfl)
theorem tX0_coverToken_266 : (266, a_iload 7 268) ∈ kX0_coverToken := qX0_coverToken_6 _ (List.mem_of_getElem? (i := 8) rfl)
theorem tX0_coverToken_268 : (268, a_aload 0 269) ∈ kX0_coverToken := qX0_coverToken_6 _ (List.mem_of_getElem? (i := 9) rfl)
theorem tX0_coverToken_269 : (269, a_getR 0 0 272) ∈ kX0_coverToken := qX0_coverToken_6 _ (List.mem_of_getElem? (i := 10) rfl)
theorem tX0_coverToken_272 : (272, a_iload 2 273) ∈ kX0_coverToken := qX0_coverToken_6 _ (List.mem_of_getElem? (i := 11) rfl)
theorem tX0_coverToken_273 : (273, a_i 1 274) ∈ kX0_coverToken := qX0_coverToken_6 _ (List.mem_of_getElem? (i := 12) rfl)
theorem tX0_coverToken_274 : (274, a_ii (fun x y => x + y) 275) ∈ kX0_coverToken := qX0_coverToken_6 _ (List.mem_of_getElem? (i := 13) rfl)
theorem tX0_coverToken_275 : (275, a_iald 276) ∈ kX0_coverToken := qX0_coverToken_6 _ (List.mem_of_getElem? (i := 14) rfl)
theorem tX0_coverToken_276 : (276, a_ii (fun x y => x + y) 277) ∈ kX0_coverToken := qX0_coverToken_6 _ (List.mem_of_getElem? (i := 15) rfl)
theorem tX0_coverToken_277 : (277, a_aload 0 278) ∈ kX0_coverToken := qX0_coverToken_6 _ (List.mem_of_getElem? (i := 16) rfl)
theorem tX0_coverToken_278 : (278, a_getR 0 0 281) ∈ kX0_coverToken := qX0_coverToken_6 _ (List.mem_of_getElem? (i := 17) rfl)
theorem tX0_coverToken_281 : (281, a_iload 2 282) ∈ kX0_coverToken := qX0_coverToken_6 _ (List.mem_of_getElem? (i := 18) rfl)
theorem tX0_coverToken_282 : (282, a_i 2 283) ∈ kX0_coverToken := qX0_coverToken_6 _ (List.mem_of_getElem? (i := 19) rfl)
theorem tX0_coverToken_283 : (283, a_ii (fun x y => x + y) 284) ∈ kX0_coverToken := qX0_coverToken_6 _ (List.mem_of_getElem? (i := 20) rfl)
theorem tX0_coverToken_284 : (284, a_iald 285) ∈ kX0_coverToken := qX0_coverToken_6 _ (List.mem_of_getElem? (i := 21) rfl)
theorem tX0_coverToken_285 : (285, a_ii (fun x y => x + y) 286) ∈ kX0_coverToken := qX0_coverToken_6 _ (List.mem_of_getElem? (i := 22) rfl)
theorem tX0_coverToken_286 : (286, a_iload 7 288) ∈ kX0_coverToken := qX0_coverToken_6 _ (List.mem_of_getElem? (i := 23) rfl)
theorem qX0_coverToken_7 : ∀ q ∈ kX0_coverToken_7, q ∈ kX0_coverToken := fun _ h => (List.mem_append_right _ (List.mem_append_right _ (List.mem_append_right _ (List.mem_append_right _ (List.mem_append_right _ (List.mem_append_right _ (List.mem_append_right _ h)))))))
theorem tX0_coverToken_288 : (288, a_aload 0 289) ∈ kX0_coverToken := qX0_coverToken_7 _ (List.mem_of_getElem? (i := 0) rfl)
theorem tX0_coverToken_289 : (289, a_getR 0 1 292) ∈ kX0_coverToken := qX0_coverToken_7 _ (List.mem_of_getElem? (i := 1) rfl)
theorem tX0_coverToken_292 : (292, a_iload 2 293) ∈ kX0_coverToken := qX0_coverToken_7 _ (List.mem_of_getElem? (i := 2) rfl)
theorem tX0_coverToken_293 : (293, a_i 1 294) ∈ kX0_coverToken := qX0_coverToken_7 _ (List.mem_of_getElem? (i := 3) rfl)
theorem tX0_coverToken_294 : (294, a_ii (fun x y => x + y) 295) ∈ kX0_coverToken := qX0_coverToken_7 _ (List.mem_of_getElem? (i := 4) rfl)
theorem tX0_coverToken_295 : (295, a_iald 296) ∈ kX0_coverToken := qX0_coverToken_7 _ (List.mem_of_getElem? (i := 5) rfl)
theorem tX0_coverToken_296 : (296, a_ii (fun x y => x + y) 297) ∈ kX0_coverToken := qX0_coverToken_7 _ (List.mem_of_getElem? (i := 6) rfl)
theorem tX0_coverToken_297 : (297, a_aload 0 298) ∈ kX0_coverToken := qX0_coverToken_7 _ (List.mem_of_getElem? (i := 7) rfl)
theorem tX0_coverToken_298 : (298, a_getR 0 1 301) ∈ kX0_coverToken := qX0_coverToken_7 _ (List.mem_of_getElem? (i := 8) rfl)
theorem tX0_coverToken_301 : (301, a_iload 2 302) ∈ kX0_coverToken := qX0_coverToken_7 _ (List.mem_of_getElem? (i := 9) rfl)
theorem tX0_coverToken_302 : (302, a_i 2 303) ∈ kX0_coverToken := qX0_coverToken_7 _ (List.mem_of_getElem? (i := 10) rfl)
theorem tX0_coverToken_303 : (303, a_ii (fun x y => x + y) 304) ∈ kX0_coverToken := qX0_coverToken_7 _ (List.mem_of_getElem? (i := 11) rfl)
theorem tX0_coverToken_304 : (304, a_iald 305) ∈ kX0_coverToken := qX0_coverToken_7 _ (List.mem_of_getElem? (i := 12) rfl)
theorem tX0_coverToken_305 : (305, a_ii (fun x y => x + y) 306) ∈ kX0_coverToken := qX0_coverToken_7 _ (List.mem_of_getElem? (i := 13) rfl)
theorem tX0_coverToken_306 : (306, a_callV 0 4 4 309 0 0) ∈ kX0_coverToken := qX0_coverToken_7 _ (List.mem_of_getElem? (i := 14) rfl)
theorem tX0_coverToken_309 : (309, a_goto 321) ∈ kX0_coverToken := qX0_coverToken_7 _ (List.mem_of_getElem? (i := 15) rfl)
theorem tX0_coverToken_312 : (312, a_aload 0 313) ∈ kX0_coverToken := qX0_coverToken_7 _ (List.mem_of_getElem? (i := 16) rfl)
theorem tX0_coverToken_313 : (313, a_iload 2 314) ∈ kX0_coverToken := qX0_coverToken_7 _ (List.mem_of_getElem? (i := 17) rfl)
theorem tX0_coverToken_314 : (314, a_i 0 315) ∈ kX0_coverToken := qX0_coverToken_7 _ (List.mem_of_getElem? (i := 18) rfl)
theorem tX0_coverToken_315 : (315, a_aload 3 316) ∈ kX0_coverToken := qX0_coverToken_7 _ (List.mem_of_getElem? (i := 19) rfl)
theorem tX0_coverToken_316 : (316, a_i 0 317) ∈ kX0_coverToken := qX0_coverToken_7 _ (List.mem_of_getElem? (i := 20) rfl)
theorem tX0_coverToken_317 : (317, a_iald 318) ∈ kX0_coverToken := qX0_coverToken_7 _ (List.mem_of_getElem? (i := 21) rfl)
theorem tX0_coverToken_318 : (318, a_callV 0 4 4 321 0 0) ∈ kX0_coverToken := qX0_coverToken_7 _ (List.mem_of_getElem? (i := 22) rfl)
theorem tX0_coverToken_321 : (321, a_vret) ∈ kX0_coverToken := qX0_coverToken_7 _ (List.mem_of_getElem? (i := 23) rfl)
theorem oX0_coverToken : ∀ q ∈ kX0_coverToken, zSnd zty false RX0 cX0_coverToken 8 none false q := List.forall_mem_append.mpr ⟨oX0_coverToken_0, List.forall_mem_append.mpr ⟨oX0_coverToken_1, List.forall_mem_append.mpr ⟨oX0_coverToken_2, List.forall_mem_append.mpr ⟨oX0_coverToken_3, List.forall_mem_append.mpr ⟨oX0_coverToken_4, List.forall_mem_append.mpr ⟨oX0_coverToken_5, List.forall_mem_append.mpr ⟨oX0_coverToken_6, oX0_coverToken_7⟩⟩⟩⟩⟩⟩⟩
theorem dX0_put_0 : decode cX0_put 0 = .ok (.aload_n 0, 1) := by decide +kernel
theorem dX0_put_1 : decode cX0_put 1 = .ok (.getfield 9, 3) := by decide +kernel
theorem dX0_put_4 : decode cX0_put 4 = .ok (.iload_n 1, 1) := by decide +kernel
theorem dX0_put_5 : decode cX0_put 5 = .ok (.iload_n 2, 1) := by decide +kernel
theorem dX0_put_6 : decode cX0_put 6 = .ok (.iastore, 1) := by decide +kernel
theorem dX0_put_7 : decode cX0_put 7 = .ok (.aload_n 0, 1) := by decide +kernel
theorem dX0_put_8 : decode cX0_put 8 = .ok (.getfield 15, 3) := by decide +kernel
theorem dX0_put_11 : decode cX0_put 11 = .ok (.iload_n 1, 1) := by decide +kernel
theorem dX0_put_12 : decode cX0_put 12 = .ok (.iload_n 3, 1) := by decide +kernel
theorem dX0_put_13 : decode cX0_put 13 = .ok (.iastore, 1) := by decide +kernel
theorem dX0_put_14 : decode cX0_put 14 = .ok (.return_, 1) := by decide +kernel
def kX0_put_0 : List (Nat × zT) := [(0, a_aload 0 1), (1, a_getR 0 0 4), (4, a_iload 1 5), (5, a_iload 2 6), (6, a_iast 7), (7, a_aload 0 8), (8, a_getR 0 1 11), (11, a_iload 1 12), (12, a_iload 3 13), (13, a_iast 14), (14, a_vret)]
theorem oX0_put_0 : ∀ q ∈ kX0_put_0, zSnd zty false RX0 cX0_put 4 none false q := List.forall_mem_cons.mpr ⟨ok_aload_n dX0_put_0 rfl, List.forall_mem_cons.mpr ⟨ok_getR dX0_put_1 rfl in0 (by decide) rfl w207, List.forall_mem_cons.mpr ⟨ok_iload_n dX0_put_4 rfl, List.forall_mem_cons.mpr ⟨ok_iload_n dX0_put_5 rfl, List.forall_mem_cons.mpr ⟨ok_iast dX0_put_6, List.forall_mem_cons.mpr ⟨ok_aload_n dX0_put_7 rfl, List.forall_mem_cons.mpr ⟨ok_getR dX0_put_8 rfl in0 (by decide) rfl w208, List.forall_mem_cons.mpr ⟨ok_iload_n dX0_put_11 rfl, List.forall_mem_cons.mpr ⟨ok_iload_n dX0_put_12 rfl, List.forall_mem_cons.mpr ⟨ok_iast dX0_put_13, List.forall_mem_cons.mpr ⟨ok_vret dX0_put_14 rfl, fun _ h => absurd h List.not_mem_nil⟩⟩⟩⟩⟩⟩⟩⟩⟩⟩⟩
def kX0_put : List (Nat × zT) := kX0_put_0
theorem qX0_put_0 : ∀ q ∈ kX0_put_0, q ∈ kX0_put := fun _ h => h
theorem tX0_put_0 : (0, a_aload 0 1) ∈ kX0_put := qX0_put_0 _ (List.mem_of_getElem? (i := 0) rfl)
theorem tX0_put_1 : (1, a_getR 0 0 4) ∈ kX0_put := qX0_put_0 _ (List.mem_of_getElem? (i := 1) rfl)
theorem tX0_put_4 : (4, a_iload 1 5) ∈ kX0_put := qX0_put_0 _ (List.mem_of_getElem? (i := 2) rfl)
theorem tX0_put_5 : (5, a_iload 2 6) ∈ kX0_put := qX0_put_0 _ (List.mem_of_getElem? (i := 3) rfl)
theorem tX0_put_6 : (6, a_iast 7) ∈ kX0_put := qX0_put_0 _ (List.mem_of_getElem? (i := 4) rfl)
theorem tX0_put_7 : (7, a_aload 0 8) ∈ kX0_put := qX0_put_0 _ (List.mem_of_getElem? (i := 5) rfl)
theorem tX0_put_8 : (8, a_getR 0 1 11) ∈ kX0_put := qX0_put_0 _ (List.mem_of_getElem? (i := 6) rfl)
theorem tX0_put_11 : (11, a_iload 1 12) ∈ kX0_put := qX0_put_0 _ (List.mem_of_getElem? (i := 7) rfl)
theorem tX0_put_12 : (12, a_iload 3 13) ∈ kX0_put := qX0_put_0 _ (List.mem_of_getElem? (i := 8) rfl)
theorem tX0_put_13 : (13, a_iast 14) ∈ kX0_put := qX0_put_0 _ (List.mem_of_getElem? (i := 9) rfl)
theorem tX0_put_14 : (14, a_vret) ∈ kX0_put := qX0_put_0 _ (List.mem_of_getElem? (i := 10) rfl)
theorem oX0_put : ∀ q ∈ kX0_put, zSnd zty false RX0 cX0_put 4 none false q := oX0_put_0
theorem dX1_init_0 : decode cX1_init 0 = .ok (.aload_n 0, 1) := by decide +kernel
theorem dX1_init_1 : decode cX1_init 1 = .ok (.invokespecial 3, 3) := by decide +kernel
theorem dX1_init_4 : decode cX1_init 4 = .ok (.aload_n 0, 1) := by decide +kernel
theorem dX1_init_5 : decode cX1_init 5 = .ok (.bipush 7, 2) := by decide +kernel
theorem dX1_init_7 : decode cX1_init 7 = .ok (.newarray .int, 2) := by decide +kernel
theorem dX1_init_9 : decode cX1_init 9 = .ok (.putfield 11, 3) := by decide +kernel
theorem dX1_init_12 : decode cX1_init 12 = .ok (.aload_n 0, 1) := by decide +kernel
theorem dX1_init_13 : decode cX1_init 13 = .ok (.bipush 8, 2) := by decide +kernel
theorem dX1_init_15 : decode cX1_init 15 = .ok (.newarray .int, 2) := by decide +kernel
theorem dX1_init_17 : decode cX1_init 17 = .ok (.putfield 15, 3) := by decide +kernel
theorem dX1_init_20 : decode cX1_init 20 = .ok (.aload_n 0, 1) := by decide +kernel
theorem dX1_init_21 : decode cX1_init 21 = .ok (.iconst 0, 1) := by decide +kernel
theorem dX1_init_22 : decode cX1_init 22 = .ok (.putfield 18, 3) := by decide +kernel
theorem dX1_init_25 : decode cX1_init 25 = .ok (.aload_n 0, 1) := by decide +kernel
theorem dX1_init_26 : decode cX1_init 26 = .ok (.iconst 0, 1) := by decide +kernel
theorem dX1_init_27 : decode cX1_init 27 = .ok (.putfield 22, 3) := by decide +kernel
theorem dX1_init_30 : decode cX1_init 30 = .ok (.aload_n 0, 1) := by decide +kernel
theorem dX1_init_31 : decode cX1_init 31 = .ok (.bipush 7, 2) := by decide +kernel
theorem dX1_init_33 : decode cX1_init 33 = .ok (.newarray .int, 2) := by decide +kernel
theorem dX1_init_35 : decode cX1_init 35 = .ok (.putfield 25, 3) := by decide +kernel
theorem dX1_init_38 : decode cX1_init 38 = .ok (.aload_n 0, 1) := by decide +kernel
theorem dX1_init_39 : decode cX1_init 39 = .ok (.iconst 0, 1) := by decide +kernel
theorem dX1_init_40 : decode cX1_init 40 = .ok (.putfield 28, 3) := by decide +kernel
theorem dX1_init_43 : decode cX1_init 43 = .ok (.aload_n 0, 1) := by decide +kernel
theorem dX1_init_44 : decode cX1_init 44 = .ok (.iconst 0, 1) := by decide +kernel
theorem dX1_init_45 : decode cX1_init 45 = .ok (.putfield 31, 3) := by decide +kernel
theorem dX1_init_48 : decode cX1_init 48 = .ok (.aload_n 0, 1) := by decide +kernel
theorem dX1_init_49 : decode cX1_init 49 = .ok (.bipush 7, 2) := by decide +kernel
theorem dX1_init_51 : decode cX1_init 51 = .ok (.newarray .int, 2) := by decide +kernel
theorem dX1_init_53 : decode cX1_init 53 = .ok (.putfield 35, 3) := by decide +kernel
theorem dX1_init_56 : decode cX1_init 56 = .ok (.aload_n 0, 1) := by decide +kernel
theorem dX1_init_57 : decode cX1_init 57 = .ok (.bipush 8, 2) := by decide +kernel
theorem dX1_init_59 : decode cX1_init 59 = .ok (.newarray .int, 2) := by decide +kernel
theorem dX1_init_61 : decode cX1_init 61 = .ok (.putfield 38, 3) := by decide +kernel
theorem dX1_init_64 : decode cX1_init 64 = .ok (.return_, 1) := by decide +kernel
def kX1_init_0 : List (Nat × zT) := [(0, a_aload 0 1), (1, a_obj 4), (4, a_aload 0 5), (5, a_i 7 7), (7, a_newI 9), (9, a_putR 1 0 12), (12, a_aload 0 13), (13, a_i 8 15), (15, a_newI 17), (17, a_putR 1 1 20), (20, a_aload 0 21), (21, a_i 0 22), (22, a_putI 1 2 25 false), (25, a_aload 0 26), (26, a_i 0 27), (27, a_putI 1 3 30 false), (30, a_aload 0 31), (31, a_i 7 33), (33, a_newI 35), (35, a_putR 1 4 38), (38, a_aload 0 39), (39, a_i 0 40), (40, a_putI 1 5 43 false), (43, a_aload 0 44)]
theorem oX1_init_0 : ∀ q ∈ kX1_init_0, zSnd zty true RX1 cX1_init 1 none true q := List.forall_mem_cons.mpr ⟨ok_aload_n dX1_init_0 rfl, List.forall_mem_cons.mpr ⟨ok_obj dX1_init_1 w239 w25 w26, List.forall_mem_cons.mpr ⟨ok_aload_n dX1_init_4 rfl, List.forall_mem_cons.mpr ⟨ok_bipush dX1_init_5 (by decide), List.forall_mem_cons.mpr ⟨ok_newI dX1_init_7 rfl w44, List.forall_mem_cons.mpr ⟨ok_putR dX1_init_9 rfl rfl in1 tyX1 tyX1_ok nmX1 (by decide) rfl w240 rfl rfl (fun _ => ⟨rfl, rfl⟩), List.forall_mem_cons.mpr ⟨ok_aload_n dX1_init_12 rfl, List.forall_mem_cons.mpr ⟨ok_bipush dX1_init_13 (by decide), List.forall_mem_cons.mpr ⟨ok_newI dX1_init_15 rfl w44, List.forall_mem_cons.mpr ⟨ok_putR dX1_init_17 rfl rfl in1 tyX1 tyX1_ok nmX1 (by decide) rfl w241 rfl rfl (fun _ => ⟨rfl, rfl⟩), List.forall_mem_cons.mpr ⟨ok_aload_n dX1_init_20 rfl, List.forall_mem_cons.mpr ⟨ok_iconst dX1_init_21 (by decide), List.forall_mem_cons.mpr ⟨ok_putI (bz := false) dX1_init_22 rfl in1 tyX1 tyX1_ok nmX1 (by decide) rfl w242 rfl rfl, List.forall_mem_cons.mpr ⟨ok_aload_n dX1_init_25 rfl, List.forall_mem_cons.mpr ⟨ok_iconst dX1_init_26 (by decide), List.forall_mem_cons.mpr ⟨ok_putI (bz := false) dX1_init_27 rfl in1 tyX1 tyX1_ok nmX1 (by decide) rfl w244 rfl rfl, List.forall_mem_cons.mpr ⟨ok_aload_n dX1_init_30 rfl, List.forall_mem_cons.mpr ⟨ok_bipush dX1_init_31 (by decide), List.forall_mem_cons.mpr ⟨ok_newI dX1_init_33 rfl w44, List.forall_mem_cons.mpr ⟨ok_putR dX1_init_35 rfl rfl in1 tyX1 tyX1_ok nmX1 (by decide) rfl w246 rfl rfl (fun _ => ⟨rfl, rfl⟩), List.forall_mem_cons.mpr ⟨ok_aload_n dX1_init_38 rfl, List.forall_mem_cons.mpr ⟨ok_iconst dX1_init_39 (by decide), List.forall_mem_cons.mpr ⟨ok_putI (bz := false) dX1_init_40 rfl in1 tyX1 tyX1_ok nmX1 (by decide) rfl w248 rfl rfl, List.forall_mem_cons.mpr ⟨ok_aload_n dX1_init_43 rfl, fun _ h => absurd h List.not_mem_nil⟩⟩⟩⟩⟩⟩⟩⟩⟩⟩⟩⟩⟩⟩⟩⟩⟩⟩⟩⟩⟩⟩⟩⟩
def kX1_init_1 : List (Nat × zT) := [(44, a_i 0 45), (45, a_putI 1 6 48 true), (48, a_aload 0 49), (49, a_i 7 51), (51, a_newI 53), (53, a_putR 1 7 56), (56, a_aload 0 57), (57, a_i 8 59), (59, a_newI 61), (61, a_putR 1 8 64), (64, a_vret)]
theorem oX1_init_1 : ∀ q ∈ kX1_init_1, zSnd zty true RX1 cX1_init 1 none true q := List.forall_mem_cons.mpr ⟨ok_iconst dX1_init_44 (by decide), List.forall_mem_cons.mpr ⟨ok_putI (bz := true) dX1_init_45 rfl in1 tyX1 tyX1_ok nmX1 (by decide) rfl w250 rfl rfl, List.forall_mem_cons.mpr ⟨ok_aload_n dX1_init_48 rfl, List.forall_mem_cons.mpr ⟨ok_bipush dX1_init_49 (by decide), List.forall_mem_cons.mpr ⟨ok_newI dX1_init_51 rfl w44, List.forall_mem_cons.mpr ⟨ok_putR dX1_init_53 rfl rfl in1 tyX1 tyX1_ok nmX1 (by decide) rfl w251 rfl rfl (fun _ => ⟨rfl, rfl⟩), List.forall_mem_cons.mpr ⟨ok_aload_n dX1_init_56 rfl, List.forall_mem_cons.mpr ⟨ok_bipush dX1_init_57 (by decide), List.forall_mem_cons.mpr ⟨ok_newI dX1_init_59 rfl w44, List.forall_mem_cons.mpr ⟨ok_putR dX1_init_61 rfl rfl in1 tyX1 tyX1_ok nmX1 (by decide) rfl w252 rfl rfl (fun _ => ⟨rfl, rfl⟩), List.forall_mem_cons.mpr ⟨ok_vret dX1_init_64 rfl, fun _ h => absurd h List.not_mem_nil⟩⟩⟩⟩⟩⟩⟩⟩⟩⟩⟩
def kX1_init : List (Nat × zT) := kX1_init_0 ++ (kX1_init_1)
theorem qX1_init_0 : ∀ q ∈ kX1_init_0, q ∈ kX1_init := fun _ h => (List.mem_append_left _ h)
theorem tX1_init_0 : (0, a_aload 0 1) ∈ kX1_init := qX1_init_0 _ (List.mem_of_getElem? (i := 0) rfl)
theorem tX1_init_1 : (1, a_obj 4) ∈ kX1_init := qX1_init_0 _ (List.mem_of_getElem? (i := 1) rfl)
theorem tX1_init_4 : (4, a_aload 0 5) ∈ kX1_init := qX1_init_0 _ (List.mem_of_getElem? (i := 2) rfl)
theorem tX1_init_5 : (5, a_i 7 7) ∈ kX1_init := qX1_init_0 _ (List.mem_of_getElem? (i := 3) rfl)
theorem tX1_init_7 : (7, a_newI 9) ∈ kX1_init := qX1_init_0 _ (List.mem_of_getElem? (i := 4) rfl)
theorem tX1_init_9 : (9, a_putR 1 0 12) ∈ kX1_init := qX1_init_0 _ (List.mem_of_getElem? (i := 5) rfl)
theorem tX1_init_12 : (12, a_aload 0 13) ∈ kX1_init := qX1_init_0 _ (List.mem_of_getElem? (i := 6) rfl)
theorem tX1_init_13 : (13, a_i 8 15) ∈ kX1_init := qX1_init_0 _ (List.mem_of_getElem? (i := 7) rfl)
theorem tX1_init_15 : (15, a_newI 17) ∈ kX1_init := qX1_init_0 _ (List.mem_of_getElem? (i := 8) rfl)
theorem tX1_init_17 : (17, a_putR 1 1 20) ∈ kX1_init := qX1_init_0 _ (List.mem_of_getElem? (i := 9) rfl)
theorem tX1_init_20 : (20, a_aload 0 21) ∈ kX1_init := qX1_init_0 _ (List.mem_of_getElem? (i := 10) rfl)
theorem tX1_init_21 : (21, a_i 0 22) ∈ kX1_init := qX1_init_0 _ (List.mem_of_getElem? (i := 11) rfl)
theorem tX1_init_22 : (22, a_putI 1 2 25 false) ∈ kX1_init := qX1_init_0 _ (List.mem_of_getElem? (i := 12) rfl)
theorem tX1_init_25 : (25, a_aload 0 26) ∈ kX1_init := qX1_init_0 _ (List.mem_of_getElem? (i := 13) rfl)
theorem tX1_init_26 : (26, a_i 0 27) ∈ kX1_init := qX1_init_0 _ (List.mem_of_getElem? (i := 14) rfl)
theorem tX1_init_27 : (27, a_putI 1 3 30 false) ∈ kX1_init := qX1_init_0 _ (List.mem_of_getElem? (i := 15) rfl)
theorem tX1_init_30 : (30, a_aload 0 31) ∈ kX1_init := qX1_init_0 _ (List.mem_of_getElem? (i := 16) rfl)
theorem tX1_init_31 : (31, a_i 7 33) ∈ kX1_init := qX1_init_0 _ (List.mem_of_getElem? (i := 17) rfl)
theorem tX1_init_33 : (33, a_newI 35) ∈ kX1_init := qX1_init_0 _ (List.mem_of_getElem? (i := 18) rfl)
theorem tX1_init_35 : (35, a_putR 1 4 38) ∈ kX1_init := qX1_init_0 _ (List.mem_of_getElem? (i := 19) rfl)
theorem tX1_init_38 : (38, a_aload 0 39) ∈ kX1_init := qX1_init_0 _ (List.mem_of_getElem? (i := 20) rfl)
theorem tX1_init_39 : (39, a_i 0 40) ∈ kX1_init := qX1_init_0 _ (List.mem_of_getElem? (i := 21) rfl)
theorem tX1_init_40 : (40, a_putI 1 5 43 false) ∈ kX1_init := qX1_init_0 _ (List.mem_of_getElem? (i := 22) rfl)
theorem tX1_init_43 : (43, a_aload 0 44) ∈ kX1_init := qX1_init_0 _ (List.mem_of_getElem? (i := 23) rfl)
theorem qX1_init_1 : ∀ q ∈ kX1_init_1, q ∈ kX1_init := fun _ h => (List.mem_append_right _ h)
theorem tX1_init_44 : (44, a_i 0 45) ∈ kX1_init := qX1_init_1 _ (List.mem_of_getElem? (i := 0) rfl)
theorem tX1_init_45 : (45, a_putI 1 6 48 true) ∈ kX1_init := qX1_init_1 _ (List.mem_of_getElem? (i := 1) rfl)
theorem tX1_init_48 : (48, a_aload 0 49) ∈ kX1_init := qX1_init_1 _ (List.mem_of_getElem? (i := 2) rfl)
theorem tX1_init_49 : (49, a_i 7 51) ∈ kX1_init := qX1_init_1 _ (List.mem_of_getElem? (i := 3) rfl)
theorem tX1_init_51 : (51, a_newI 53) ∈ kX1_init := qX1_init_1 _ (List.mem_of_getElem? (i := 4) rfl)
theorem tX1_init_53 : (53, a_putR 1 7 56) ∈ kX1_init := qX1_init_1 _ (List.mem_of_getElem? (i := 5) rfl)
theorem tX1_init_56 : (56, a_aload 0 57) ∈ kX1_init := qX1_init_1 _ (List.mem_of_getElem? (i := 6) rfl)
theorem tX1_init_57 : (57, a_i 8 59) ∈ kX1_init := qX1_init_1 _ (List.mem_of_getElem? (i := 7) rfl)
theorem tX1_init_59 : (59, a_newI 61) ∈ kX1_init := qX1_init_1 _ (List.mem_of_getElem? (i := 8) rfl)
theorem tX1_init_61 : (61, a_putR 1 8 64) ∈ kX1_init := qX1_init_1 _ (List.mem_of_getElem? (i := 9) rfl)
theorem tX1_init_64 : (64, a_vret) ∈ kX1_init := qX1_init_1 _ (List.mem_of_getElem? (i := 10) rfl)
theorem oX1_init : ∀ q ∈ kX1_init, zSnd zty true RX1 cX1_init 1 none true q := List.forall_mem_append.mpr ⟨oX1_init_0, oX1_init_1⟩
theorem dX1_addBlock_0 : decode cX1_addBlock 0 = .ok (.aload_n 0, 1) := by decide +kernel
theorem dX1_addBlock_1 : decode cX1_addBlock 1 = .ok (.getfield 18, 3) := by decide +kernel
theorem dX1_addBlock_4 : decode cX1_addBlock 4 = .ok (.bipush 7, 2) := by decide +kernel
theorem dX1_addBlock_6 : decode cX1_addBlock 6 = .ok (.if_icmp .lt 6, 3) := by decide +kernel
theorem dX1_addBlock_9 : decode cX1_addBlock 9 = .ok (.bipush (-3), 2) := by decide +kernel
theorem dX1_addBlock_11 : decode cX1_addBlock 11 = .ok (.ireturn, 1) := by decide +kernel
theorem dX1_addBlock_12 : decode cX1_addBlock 12 = .ok (.aload_n 0, 1) := by decide +kernel
theorem dX1_addBlock_13 : decode cX1_addBlock 13 = .ok (.getfield 11, 3) := by decide +kernel
theorem dX1_addBlock_16 : decode cX1_addBlock 16 = .ok (.aload_n 0, 1) := by decide +kernel
theorem dX1_addBlock_17 : decode cX1_addBlock 17 = .ok (.getfield 18, 3) := by decide +kernel
theorem dX1_addBlock_20 : decode cX1_addBlock 20 = .ok (.aload_n 0, 1) := by decide +kernel
theorem dX1_addBlock_21 : decode cX1_addBlock 21 = .ok (.iconst 1, 1) := by decide +kernel
theorem dX1_addBlock_22 : decode cX1_addBlock 22 = .ok (.aload_n 0, 1) := by decide +kernel
theorem dX1_addBlock_23 : decode cX1_addBlock 23 = .ok (.getfield 18, 3) := by decide +kernel
theorem dX1_addBlock_26 : decode cX1_addBlock 26 = .ok (.ishl, 1) := by decide +kernel
theorem dX1_addBlock_27 : decode cX1_addBlock 27 = .ok (.iconst 1, 1) := by decide +kernel
theorem dX1_addBlock_28 : decode cX1_addBlock 28 = .ok (.isub, 1) := by decide +kernel
theorem dX1_addBlock_29 : decode cX1_addBlock 29 = .ok (.invokevirtual 41, 3) := by decide +kernel
theorem dX1_addBlock_32 : decode cX1_addBlock 32 = .ok (.iconst (-1), 1) := by decide +kernel
theorem dX1_addBlock_33 : decode cX1_addBlock 33 = .ok (.ixor, 1) := by decide +kernel
theorem dX1_addBlock_34 : decode cX1_addBlock 34 = .ok (.invokestatic 45, 3) := by decide +kernel
theorem dX1_addBlock_37 : decode cX1_addBlock 37 = .ok (.iastore, 1) := by decide +kernel
theorem dX1_addBlock_38 : decode cX1_addBlock 38 = .ok (.aload_n 0, 1) := by decide +kernel
theorem dX1_addBlock_39 : decode cX1_addBlock 39 = .ok (.dup, 1) := by decide +kernel
theorem dX1_addBlock_40 : decode cX1_addBlock 40 = .ok (.getfield 18, 3) := by decide +kernel
theorem dX1_addBlock_43 : decode cX1_addBlock 43 = .ok (.iconst 1, 1) := by decide +kernel
theorem dX1_addBlock_44 : decode cX1_addBlock 44 = .ok (.iadd, 1) := by decide +kernel
theorem dX1_addBlock_45 : decode cX1_addBlock 45 = .ok (.putfield 18, 3) := by decide +kernel
theorem dX1_addBlock_48 : decode cX1_addBlock 48 = .ok (.aload_n 0, 1) := by decide +kernel
theorem dX1_addBlock_49 : decode cX1_addBlock 49 = .ok (.iconst 0, 1) := by decide +kernel
theorem dX1_addBlock_50 : decode cX1_addBlock 50 = .ok (.putfield 31, 3) := by decide +kernel
theorem dX1_addBlock_53 : decode cX1_addBlock 53 = .ok (.aload_n 0, 1) := by decide +kernel
theorem dX1_addBlock_54 : decode cX1_addBlock 54 = .ok (.getfield 18, 3) := by decide +kernel
theorem dX1_addBlock_57 : decode cX1_addBlock 57 = .ok (.iconst 1, 1) := by decide +kernel
theorem dX1_addBlock_58 : decode cX1_addBlock 58 = .ok (.isub, 1) := by decide +kernel
theorem dX1_addBlock_59 : decode cX1_addBlock 59 = .ok (.ireturn, 1) := by decide +kernel
def kX1_addBlock_0 : List (Nat × zT) := [(0, a_aload 0 1), (1, a_getI 1 2 4), (4, a_i 7 6), (6, a_ic_lt 12 9), (9, a_i (-3) 11), (11, a_iret false), (12, a_aload 0 13), (13, a_getR 1 0 16), (16, a_aload 0 17), (17, a_getI 1 2 20), (20, a_aload 0 21), (21, a_i 1 22), (22, a_aload 0 23), (23, a_getI 1 2 26), (26, a_ii (fun x y => x <<< (y &&& 31)) 27), (27, a_i 1 28), (28, a_ii (fun x y => x - y) 29), (29, a_callV 1 10 2 32 0 0), (32, a_i (-1) 33), (33, a_ii (fun x y => x ^^^ y) 34), (34, a_call 216 1 37 0 0), (37, a_iast 38), (38, a_aload 0 39), (39, a_dup 40)]
theorem oX1_addBlock_0 : ∀ q ∈ kX1_addBlock_0, zSnd zty false RX1 cX1_addBlock 1 (some .int) false q := List.forall_mem_cons.mpr ⟨ok_aload_n dX1_addBlock_0 rfl, List.forall_mem_cons.mpr ⟨ok_getI dX1_addBlock_1 rfl in1 (by decide) rfl w242, List.forall_mem_cons.mpr ⟨ok_bipush dX1_addBlock_4 (by decide), List.forall_mem_cons.mpr ⟨ok_ic_lt dX1_addBlock_6 (by decide), List.forall_mem_cons.mpr ⟨ok_bipush dX1_addBlock_9 (by decide), List.forall_mem_cons.mpr ⟨ok_iret (bz := false) dX1_addBlock_11 rfl, List.forall_mem_cons.mpr ⟨ok_aload_n dX1_addBlock_12 rfl, List.forall_mem_cons.mpr ⟨ok_getR dX1_addBlock_13 rfl in1 (by decide) rfl w240, List.forall_mem_cons.mpr ⟨ok_aload_n dX1_addBlock_16 rfl, List.forall_mem_cons.mpr ⟨ok_getI dX1_addBlock_17 rfl in1 (by decide) rfl w242, List.forall_mem_cons.mpr ⟨ok_aload_n dX1_addBlock_20 rfl, List.forall_mem_cons.mpr ⟨ok_iconst dX1_addBlock_21 (by decide), List.forall_mem_cons.mpr ⟨ok_aload_n dX1_addBlock_22 rfl, List.forall_mem_cons.mpr ⟨ok_getI dX1_addBlock_23 rfl in1 (by decide) rfl w242, List.forall_mem_cons.mpr ⟨ok_ishl dX1_addBlock_26, List.forall_mem_cons.mpr ⟨ok_iconst dX1_addBlock_27 (by decide), List.forall_mem_cons.mpr ⟨ok_isub dX1_addBlock_28, List.forall_mem_cons.mpr ⟨ok_callV dX1_addBlock_29 rfl rfl w752 w749 w751 w10 s14 (by decide +kernel) (by decide), List.forall_mem_cons.mpr ⟨ok_iconst dX1_addBlock_32 (by decide), List.forall_mem_cons.mpr ⟨ok_ixor dX1_addBlock_33, List.forall_mem_cons.mpr ⟨ok_callS dX1_addBlock_34 rfl w641 w754 w640 w15 (by decide +kernel) (by decide), List.forall_mem_cons.mpr ⟨ok_iast dX1_addBlock_37, List.forall_mem_cons.mpr ⟨ok_aload_n dX1_addBlock_38 rfl, List.forall_mem_cons.mpr ⟨ok_dup dX1_addBlock_39, fun _ h => absurd h List.not_mem_nil⟩⟩⟩⟩⟩⟩⟩⟩⟩⟩⟩⟩⟩⟩⟩⟩⟩⟩⟩⟩⟩⟩⟩⟩
def kX1_addBlock_1 : List (Nat × zT) := [(40, a_getI 1 2 43), (43, a_i 1 44), (44, a_ii (fun x y => x + y) 45), (45, a_putI 1 2 48 false), (48, a_aload 0 49), (49, a_i 0 50), (50, a_putI 1 6 53 true), (53, a_aload 0 54), (54, a_getI 1 2 57), (57, a_i 1 58), (58, a_ii (fun x y => x - y) 59), (59, a_iret false)]
theorem oX1_addBlock_1 : ∀ q ∈ kX1_addBlock_1, zSnd zty false RX1 cX1_addBlock 1 (some .int) false q := List.forall_mem_cons.mpr ⟨ok_getI dX1_addBlock_40 rfl in1 (by decide) rfl w242, List.forall_mem_cons.mpr ⟨ok_iconst dX1_addBlock_43 (by decide), List.forall_mem_cons.mpr ⟨ok_iadd dX1_addBlock_44, List.forall_mem_cons.mpr ⟨ok_putI (bz := false) dX1_addBlock_45 rfl in1 tyX1 tyX1_ok nmX1 (by decide) rfl w242 rfl rfl, List.forall_mem_cons.mpr ⟨ok_aload_n dX1_addBlock_48 rfl, List.forall_mem_cons.mpr ⟨ok_iconst dX1_addBlock_49 (by decide), List.forall_mem_cons.mpr ⟨ok_putI (bz := true) dX1_addBlock_50 rfl in1 tyX1 tyX1_ok nmX1 (by decide) rfl w250 rfl rfl, List.forall_mem_cons.mpr ⟨ok_aload_n dX1_addBlock_53 rfl, List.forall_mem_cons.mpr ⟨ok_getI dX1_addBlock_54 rfl in1 (by decide) rfl w242, List.forall_mem_cons.mpr ⟨ok_iconst dX1_addBlock_57 (by decide), List.forall_mem_cons.mpr ⟨ok_isub dX1_addBlock_58, List.forall_mem_cons.mpr ⟨ok_iret (bz := false) dX1_addBlock_59 rfl, fun _ h => absurd h List.not_mem_nil⟩⟩⟩⟩⟩⟩⟩⟩⟩⟩⟩⟩
def kX1_addBlock : List (Nat × zT) := kX1_addBlock_0 ++ (kX1_addBlock_1)
theorem qX1_addBlock_0 : ∀ q ∈ kX1_addBlock_0, q ∈ kX1_addBlock := fun _ h => (List.mem_append_left _ h)
theorem tX1_addBlock_0 : (0, a_aload 0 1) ∈ kX1_addBlock := qX1_addBlock_0 _ (List.mem_of_getElem? (i := 0) rfl)
theorem tX1_addBlock_1 : (1, a_getI 1 2 4) ∈ kX1_addBlock := qX1_addBlock_0 _ (List.mem_of_getElem? (i := 1) rfl)
theorem tX1_addBlock_4 : (4, a_i 7 6) ∈ kX1_addBlock := qX1_addBlock_0 _ (List.mem_of_getElem? (i := 2) rfl)
theorem tX1_addBlock_6 : (6, a_ic_lt 12 9) ∈ kX1_addBlock := qX1_addBlock_0 _ (List.mem_of_getElem? (i := 3) rfl)
theorem tX1_addBlock_9 : (9, a_i (-3) 11) ∈ kX1_addBlock := qX1_addBlock_0 _ (List.mem_of_getElem? (i := 4) rfl)
theorem tX1_addBlock_11 : (11, a_iret false) ∈ kX1_addBlock := qX1_addBlock_0 _ (List.mem_of_getElem? (i := 5) rfl)
theorem tX1_addBlock_12 : (12, a_aload 0 13) ∈ kX1_addBlock := qX1_addBlock_0 _ (List.mem_of_getElem? (i := 6) rfl)
theorem tX1_addBlock_13 : (13, a_getR 1 0 16) ∈ kX1_addBlock := qX1_addBlock_0 _ (List.mem_of_getElem? (i := 7) rfl)
theorem tX1_addBlock_16 : (16, a_aload 0 17) ∈ kX1_addBlock := qX1_addBlock_0 _ (List.mem_of_getElem? (i := 8) rfl)
theorem tX1_addBlock_17 : (17, a_getI 1 2 20) ∈ kX1_addBlock := qX1_addBlock_0 _ (List.mem_of_getElem? (i := 9) rfl)
theorem tX1_addBlock_20 : (20, a_aload 0 21) ∈ kX1_addBlock := qX1_addBlock_0 _ (List.mem_of_getElem? (i := 10) rfl)
theorem tX1_addBlock_21 : (21, a_i 1 22) ∈ kX1_addBlock := qX1_addBlock_0 _ (List.mem_of_getElem? (i := 11) rfl)
theorem tX1_addBlock_22 : (22, a_aload 0 23) ∈ kX1_addBlock := qX1_addBlock_0 _ (List.mem_of_getElem? (i := 12) rfl)
theorem tX1_addBlock_23 : (23, a_getI 1 2 26) ∈ kX1_addBlock := qX1_addBlock_0 _ (List.mem_of_getElem? (i := 13) rfl)
theorem tX1_addBlock_26 : (26, a_ii (fun x y => x <<< (y &&& 31)) 27) ∈ kX1_addBlock := qX1_addBlock_0 _ (List.mem_of_getElem? (i := 14) rfl)
theorem tX1_addBlock_27 : (27, a_i 1 28) ∈ kX1_addBlock := qX1_addBlock_0 _ (List.mem_of_getElem? (i := 15) rfl)
theorem tX1_addBlock_28 : (28, a_ii (fun x y => x - y) 29) ∈ kX1_addBlock := qX1_addBlock_0 _ (List.mem_of_getElem? (i := 16) rfl)
theorem tX1_addBlock_29 : (29, a_callV 1 10 2 32 0 0) ∈ kX1_addBlock := qX1_addBlock_0 _ (List.mem_of_getElem? (i := 17) rfl)
theorem tX1_addBlock_32 : (32, a_i (-1) 33) ∈ kX1_addBlock := qX1_addBlock_0 _ (List.mem_of_getElem? (i := 18) rfl)
theorem tX1_addBlock_33 : (33, a_ii (fun x y => x ^^^ y) 34) ∈ kX1_addBlock := qX1_addBlock_0 _ (List.mem_of_getElem? (i := 19) rfl)
theorem tX1_addBlock_34 : (34, a_call 216 1 37 0 0) ∈ kX1_addBlock := qX1_addBlock_0 _ (List.mem_of_getElem? (i := 20) rfl)
theorem tX1_addBlock_37 : (37, a_iast 38) ∈ kX1_addBlock := qX1_addBlock_0 _ (List.mem_of_getElem? (i := 21) rfl)
theorem tX1_addBlock_38 : (38, a_aload 0 39) ∈ kX1_addBlock := qX1_addBlock_0 _ (List.mem_of_getElem? (i := 22) rfl)
theorem tX1_addBlock_39 : (39, a_dup 40) ∈ kX1_addBlock := qX1_addBlock_0 _ (List.mem_of_getElem? (i := 23) rfl)
theorem qX1_addBlock_1 : ∀ q ∈ kX1_addBlock_1, q ∈ kX1_addBlock := fun _ h => (List.mem_append_right _ h)
theorem tX1_addBlock_40 : (40, a_getI 1 2 43) ∈ kX1_addBlock := qX1_addBlock_1 _ (List.mem_of_getElem? (i := 0) rfl)
theorem tX1_addBlock_43 : (43, a_i 1 44) ∈ kX1_addBlock := qX1_addBlock_1 _ (List.mem_of_getElem? (i := 1) rfl)
theorem tX1_addBlock_44 : (44, a_ii (fun x y => x + y) 45) ∈ kX1_addBlock := qX1_addBlock_1 _ (List.mem_of_getElem? (i := 2) rfl)
theorem tX1_addBlock_45 : (45, a_putI 1 2 48 false) ∈ kX1_addBlock := qX1_addBlock_1 _ (List.mem_of_getElem? (i := 3) rfl)
theorem tX1_addBlock_48 : (48, a_aload 0 49) ∈ kX1_addBlock := qX1_addBlock_1 _ (List.mem_of_getElem? (i := 4) rfl)
theorem tX1_addBlock_49 : (49, a_i 0 50) ∈ kX1_addBlock := qX1_addBlock_1 _ (List.mem_of_getElem? (i := 5) rfl)
theorem tX1_addBlock_50 : (50, a_putI 1 6 53 true) ∈ kX1_addBlock := qX1_addBlock_1 _ (List.mem_of_getElem? (i := 6) rfl)
theorem tX1_addBlock_53 : (53, a_aload 0 54) ∈ kX1_addBlock := qX1_addBlock_1 _ (List.mem_of_getElem? (i := 7) rfl)
theorem tX1_addBlock_54 : (54, a_getI 1 2 57) ∈ kX1_addBlock := qX1_addBlock_1 _ (List.mem_of_getElem? (i := 8) rfl)
theorem tX1_addBlock_57 : (57, a_i 1 58) ∈ kX1_addBlock := qX1_addBlock_1 _ (List.mem_of_getElem? (i := 9) rfl)
theorem tX1_addBlock_58 : (58, a_ii (fun x y => x - y) 59) ∈ kX1_addBlock := qX1_addBlock_1 _ (List.mem_of_getElem? (i := 10) rfl)
theorem tX1_addBlock_59 : (59, a_iret false) ∈ kX1_addBlock := qX1_addBlock_1 _ (List.mem_of_getElem? (i := 11) rfl)
theorem oX1_addBlock : ∀ q ∈ kX1_addBlock, zSnd zty false RX1 cX1_addBlock 1 (some .int) false q := List.forall_mem_append.mpr ⟨oX1_addBlock_0, oX1_addBlock_1⟩
theorem dX1_areBlocks_0 : decode cX1_areBlocks 0 = .ok (.iload_n 1, 1) := by decide +kernel
theorem dX1_areBlocks_1 : decode cX1_areBlocks 1 = .ok (.iconst 1, 1) := by decide +kernel
theorem dX1_areBlocks_2 : decode cX1_areBlocks 2 = .ok (.aload_n 0, 1) := by decide +kernel
theorem dX1_areBlocks_3 : decode cX1_areBlocks 3 = .ok (.getfield 18, 3) := by decide +kernel
theorem dX1_areBlocks_6 : decode cX1_areBlocks 6 = .ok (.ishl, 1) := by decide +kernel
theorem dX1_areBlocks_7 : decode cX1_areBlocks 7 = .ok (.invokestatic 50, 3) := by decide +kernel
theorem dX1_areBlocks_10 : decode cX1_areBlocks 10 = .ok (.ireturn, 1) := by decide +kernel
def kX1_areBlocks_0 : List (Nat × zT) := [(0, a_iload 1 1), (1, a_i 1 2), (2, a_aload 0 3), (3, a_getI 1 2 6), (6, a_ii (fun x y => x <<< (y &&& 31)) 7), (7, a_call 128 2 10 0 0), (10, a_iret true)]
theorem oX1_areBlocks_0 : ∀ q ∈ kX1_areBlocks_0, zSnd zty false RX1 cX1_areBlocks 2 (some .boolean) false q := List.forall_mem_cons.mpr ⟨ok_iload_n dX1_areBlocks_0 rfl, List.forall_mem_cons.mpr ⟨ok_iconst dX1_areBlocks_1 (by decide), List.forall_mem_cons.mpr ⟨ok_aload_n dX1_areBlocks_2 rfl, List.forall_mem_cons.mpr ⟨ok_getI dX1_areBlocks_3 rfl in1 (by decide) rfl w242, List.forall_mem_cons.mpr ⟨ok_ishl dX1_areBlocks_6, List.forall_mem_cons.mpr ⟨ok_callSN dX1_areBlocks_7 rfl w443 n763 w442 w1 (by decide +kernel) (by decide), List.forall_mem_cons.mpr ⟨ok_iret (bz := true) dX1_areBlocks_10 rfl, fun _ h => absurd h List.not_mem_nil⟩⟩⟩⟩⟩⟩⟩
def kX1_areBlocks : List (Nat × zT) := kX1_areBlocks_0
theorem qX1_areBlocks_0 : ∀ q ∈ kX1_areBlocks_0, q ∈ kX1_areBlocks := fun _ h => h
theorem tX1_areBlocks_0 : (0, a_iload 1 1) ∈ kX1_areBlocks := qX1_areBlocks_0 _ (List.mem_of_getElem? (i := 0) rfl)
theorem tX1_areBlocks_1 : (1, a_i 1 2) ∈ kX1_areBlocks := qX1_areBlocks_0 _ (List.mem_of_getElem? (i := 1) rfl)
theorem tX1_areBlocks_2 : (2, a_aload 0 3) ∈ kX1_areBlocks := qX1_areBlocks_0 _ (List.mem_of_getElem? (i := 2) rfl)
theorem tX1_areBlocks_3 : (3, a_getI 1 2 6) ∈ kX1_areBlocks := qX1_areBlocks_0 _ (List.mem_of_getElem? (i := 3) rfl)
theorem tX1_areBlocks_6 : (6, a_ii (fun x y => x <<< (y &&& 31)) 7) ∈ kX1_areBlocks := qX1_areBlocks_0 _ (List.mem_of_getElem? (i := 4) rfl)
theorem tX1_areBlocks_7 : (7, a_call 128 2 10 0 0) ∈ kX1_areBlocks := qX1_areBlocks_0 _ (List.mem_of_getElem? (i := 5) rfl)
theorem tX1_areBlocks_10 : (10, a_iret true) ∈ kX1_areBlocks := qX1_areBlocks_0 _ (List.mem_of_getElem? (i := 6) rfl)
theorem oX1_areBlocks : ∀ q ∈ kX1_areBlocks, zSnd zty false RX1 cX1_areBlocks 2 (some .boolean) false q := oX1_areBlocks_0
theorem dX1_addNet_0 : decode cX1_addNet 0 = .ok (.aload_n 0, 1) := by decide +kernel
theorem dX1_addNet_1 : decode cX1_addNet 1 = .ok (.getfield 22, 3) := by decide +kernel
theorem dX1_addNet_4 : decode cX1_addNet 4 = .ok (.bipush 8, 2) := by decide +kernel
theorem dX1_addNet_6 : decode cX1_addNet 6 = .ok (.if_icmp .lt 6, 3) := by decide +kernel
theorem dX1_addNet_9 : decode cX1_addNet 9 = .ok (.bipush (-3), 2) := by decide +kernel
theorem dX1_addNet_11 : decode cX1_addNet 11 = .ok (.ireturn, 1) := by decide +kernel
theorem dX1_addNet_12 : decode cX1_addNet 12 = .ok (.aload_n 0, 1) := by decide +kernel
theorem dX1_addNet_13 : decode cX1_addNet 13 = .ok (.getfield 15, 3) := by decide +kernel
theorem dX1_addNet_16 : decode cX1_addNet 16 = .ok (.aload_n 0, 1) := by decide +kernel
theorem dX1_addNet_17 : decode cX1_addNet 17 = .ok (.getfield 22, 3) := by decide +kernel
theorem dX1_addNet_20 : decode cX1_addNet 20 = .ok (.iload_n 1, 1) := by decide +kernel
theorem dX1_addNet_21 : decode cX1_addNet 21 = .ok (.iastore, 1) := by decide +kernel
theorem dX1_addNet_22 : decode cX1_addNet 22 = .ok (.aload_n 0, 1) := by decide +kernel
theorem dX1_addNet_23 : decode cX1_addNet 23 = .ok (.dup, 1) := by decide +kernel
theorem dX1_addNet_24 : decode cX1_addNet 24 = .ok (.getfield 22, 3) := by decide +kernel
theorem dX1_addNet_27 : decode cX1_addNet 27 = .ok (.iconst 1, 1) := by decide +kernel
theorem dX1_addNet_28 : decode cX1_addNet 28 = .ok (.iadd, 1) := by decide +kernel
theorem dX1_addNet_29 : decode cX1_addNet 29 = .ok (.putfield 22, 3) := by decide +kernel
theorem dX1_addNet_32 : decode cX1_addNet 32 = .ok (.aload_n 0, 1) := by decide +kernel
theorem dX1_addNet_33 : decode cX1_addNet 33 = .ok (.iconst 0, 1) := by decide +kernel
theorem dX1_addNet_34 : decode cX1_addNet 34 = .ok (.putfield 31, 3) := by decide +kernel
theorem dX1_addNet_37 : decode cX1_addNet 37 = .ok (.aload_n 0, 1) := by decide +kernel
theorem dX1_addNet_38 : decode cX1_addNet 38 = .ok (.getfield 22, 3) := by decide +kernel
theorem dX1_addNet_41 : decode cX1_addNet 41 = .ok (.ireturn, 1) := by decide +kernel
def kX1_addNet_0 : List (Nat × zT) := [(0, a_aload 0 1), (1, a_getI 1 3 4), (4, a_i 8 6), (6, a_ic_lt 12 9), (9, a_i (-3) 11), (11, a_iret false), (12, a_aload 0 13), (13, a_getR 1 1 16), (16, a_aload 0 17), (17, a_getI 1 3 20), (20, a_iload 1 21), (21, a_iast 22), (22, a_aload 0 23), (23, a_dup 24), (24, a_getI 1 3 27), (27, a_i 1 28), (28, a_ii (fun x y => x + y) 29), (29, a_putI 1 3 32 false), (32, a_aload 0 33), (33, a_i 0 34), (34, a_putI 1 6 37 true), (37, a_aload 0 38), (38, a_getI 1 3 41), (41, a_iret false)]
theorem oX1_addNet_0 : ∀ q ∈ kX1_addNet_0, zSnd zty false RX1 cX1_addNet 2 (some .int) false q := List.forall_mem_cons.mpr ⟨ok_aload_n dX1_addNet_0 rfl, List.forall_mem_cons.mpr ⟨ok_getI dX1_addNet_1 rfl in1 (by decide) rfl w244, List.forall_mem_cons.mpr ⟨ok_bipush dX1_addNet_4 (by decide), List.forall_mem_cons.mpr ⟨ok_ic_lt dX1_addNet_6 (by decide), List.forall_mem_cons.mpr ⟨ok_bipush dX1_addNet_9 (by decide), List.forall_mem_cons.mpr ⟨ok_iret (bz := false) dX1_addNet_11 rfl, List.forall_mem_cons.mpr ⟨ok_aload_n dX1_addNet_12 rfl, List.forall_mem_cons.mpr ⟨ok_getR dX1_addNet_13 rfl in1 (by decide) rfl w241, List.forall_mem_cons.mpr ⟨ok_aload_n dX1_addNet_16 rfl, List.forall_mem_cons.mpr ⟨ok_getI dX1_addNet_17 rfl in1 (by decide) rfl w244, List.forall_mem_cons.mpr ⟨ok_iload_n dX1_addNet_20 rfl, List.forall_mem_cons.mpr ⟨ok_iast dX1_addNet_21, List.forall_mem_cons.mpr ⟨ok_aload_n dX1_addNet_22 rfl, List.forall_mem_cons.mpr ⟨ok_dup dX1_addNet_23, List.forall_mem_cons.mpr ⟨ok_getI dX1_addNet_24 rfl in1 (by decide) rfl w244, List.forall_mem_cons.mpr ⟨ok_iconst dX1_addNet_27 (by decide), List.forall_mem_cons.mpr ⟨ok_iadd dX1_addNet_28, List.forall_mem_cons.mpr ⟨ok_putI (bz := false) dX1_addNet_29 rfl in1 tyX1 tyX1_ok nmX1 (by decide) rfl w244 rfl rfl, List.forall_mem_cons.mpr ⟨ok_aload_n dX1_addNet_32 rfl, List.forall_mem_cons.mpr ⟨ok_iconst dX1_addNet_33 (by decide), List.forall_mem_cons.mpr ⟨ok_putI (bz := true) dX1_addNet_34 rfl in1 tyX1 tyX1_ok nmX1 (by decide) rfl w250 rfl rfl, List.forall_mem_cons.mpr ⟨ok_aload_n dX1_addNet_37 rfl, List.forall_mem_cons.mpr ⟨ok_getI dX1_addNet_38 rfl in1 (by decide) rfl w244, List.forall_mem_cons.mpr ⟨ok_iret (bz := false) dX1_addNet_41 rfl, fun _ h => absurd h List.not_mem_nil⟩⟩⟩⟩⟩⟩⟩⟩⟩⟩⟩⟩⟩⟩⟩⟩⟩⟩⟩⟩⟩⟩⟩⟩
def kX1_addNet : List (Nat × zT) := kX1_addNet_0
theorem qX1_addNet_0 : ∀ q ∈ kX1_addNet_0, q ∈ kX1_addNet := fun _ h => h
theorem tX1_addNet_0 : (0, a_aload 0 1) ∈ kX1_addNet := qX1_addNet_0 _ (List.mem_of_getElem? (i := 0) rfl)
theorem tX1_addNet_1 : (1, a_getI 1 3 4) ∈ kX1_addNet := qX1_addNet_0 _ (List.mem_of_getElem? (i := 1) rfl)
theorem tX1_addNet_4 : (4, a_i 8 6) ∈ kX1_addNet := qX1_addNet_0 _ (List.mem_of_getElem? (i := 2) rfl)
theorem tX1_addNet_6 : (6, a_ic_lt 12 9) ∈ kX1_addNet := qX1_addNet_0 _ (List.mem_of_getElem? (i := 3) rfl)
theorem tX1_addNet_9 : (9, a_i (-3) 11) ∈ kX1_addNet := qX1_addNet_0 _ (List.mem_of_getElem? (i := 4) rfl)
theorem tX1_addNet_11 : (11, a_iret false) ∈ kX1_addNet := qX1_addNet_0 _ (List.mem_of_getElem? (i := 5) rfl)
theorem tX1_addNet_12 : (12, a_aload 0 13) ∈ kX1_addNet := qX1_addNet_0 _ (List.mem_of_getElem? (i := 6) rfl)
theorem tX1_addNet_13 : (13, a_getR 1 1 16) ∈ kX1_addNet := qX1_addNet_0 _ (List.mem_of_getElem? (i := 7) rfl)
theorem tX1_addNet_16 : (16, a_aload 0 17) ∈ kX1_addNet := qX1_addNet_0 _ (List.mem_of_getElem? (i := 8) rfl)
theorem tX1_addNet_17 : (17, a_getI 1 3 20) ∈ kX1_addNet := qX1_addNet_0 _ (List.mem_of_getElem? (i := 9) rfl)
theorem tX1_addNet_20 : (20, a_iload 1 21) ∈ kX1_addNet := qX1_addNet_0 _ (List.mem_of_getElem? (i := 10) rfl)
theorem tX1_addNet_21 : (21, a_iast 22) ∈ kX1_addNet := qX1_addNet_0 _ (List.mem_of_getElem? (i := 11) rfl)
theorem tX1_addNet_22 : (22, a_aload 0 23) ∈ kX1_addNet := qX1_addNet_0 _ (List.mem_of_getElem? (i := 12) rfl)
theorem tX1_addNet_23 : (23, a_dup 24) ∈ kX1_addNet := qX1_addNet_0 _ (List.mem_of_getElem? (i := 13) rfl)
theorem tX1_addNet_24 : (24, a_getI 1 3 27) ∈ kX1_addNet := qX1_addNet_0 _ (List.mem_of_getElem? (i := 14) rfl)
theorem tX1_addNet_27 : (27, a_i 1 28) ∈ kX1_addNet := qX1_addNet_0 _ (List.mem_of_getElem? (i := 15) rfl)
theorem tX1_addNet_28 : (28, a_ii (fun x y => x + y) 29) ∈ kX1_addNet := qX1_addNet_0 _ (List.mem_of_getElem? (i := 16) rfl)
theorem tX1_addNet_29 : (29, a_putI 1 3 32 false) ∈ kX1_addNet := qX1_addNet_0 _ (List.mem_of_getElem? (i := 17) rfl)
theorem tX1_addNet_32 : (32, a_aload 0 33) ∈ kX1_addNet := qX1_addNet_0 _ (List.mem_of_getElem? (i := 18) rfl)
theorem tX1_addNet_33 : (33, a_i 0 34) ∈ kX1_addNet := qX1_addNet_0 _ (List.mem_of_getElem? (i := 19) rfl)
theorem tX1_addNet_34 : (34, a_putI 1 6 37 true) ∈ kX1_addNet := qX1_addNet_0 _ (List.mem_of_getElem? (i := 20) rfl)
theorem tX1_addNet_37 : (37, a_aload 0 38) ∈ kX1_addNet := qX1_addNet_0 _ (List.mem_of_getElem? (i := 21) rfl)
theorem tX1_addNet_38 : (38, a_getI 1 3 41) ∈ kX1_addNet := qX1_addNet_0 _ (List.mem_of_getElem? (i := 22) rfl)
theorem tX1_addNet_41 : (41, a_iret false) ∈ kX1_addNet := qX1_addNet_0 _ (List.mem_of_getElem? (i := 23) rfl)
theorem oX1_addNet : ∀ q ∈ kX1_addNet, zSnd zty false RX1 cX1_addNet 2 (some .int) false q := oX1_addNet_0
theorem dX1_move_0 : decode cX1_move 0 = .ok (.aload_n 0, 1) := by decide +kernel
theorem dX1_move_1 : decode cX1_move 1 = .ok (.getfield 11, 3) := by decide +kernel
theorem dX1_move_4 : decode cX1_move 4 = .ok (.iload_n 1, 1) := by decide +kernel
theorem dX1_move_5 : decode cX1_move 5 = .ok (.iaload, 1) := by decide +kernel
theorem dX1_move_6 : decode cX1_move 6 = .ok (.istore_n 3, 1) := by decide +kernel
theorem dX1_move_7 : decode cX1_move 7 = .ok (.iload_n 2, 1) := by decide +kernel
theorem dX1_move_8 : decode cX1_move 8 = .ok (.iload_n 3, 1) := by decide +kernel
theorem dX1_move_9 : decode cX1_move 9 = .ok (.if_icmp .eq 25, 3) := by decide +kernel
theorem dX1_move_12 : decode cX1_move 12 = .ok (.aload_n 0, 1) := by decide +kernel
theorem dX1_move_13 : decode cX1_move 13 = .ok (.iconst 1, 1) := by decide +kernel
theorem dX1_move_14 : decode cX1_move 14 = .ok (.aload_n 0, 1) := by decide +kernel
theorem dX1_move_15 : decode cX1_move 15 = .ok (.getfield 18, 3) := by decide +kernel
theorem dX1_move_18 : decode cX1_move 18 = .ok (.ishl, 1) := by decide +kernel
theorem dX1_move_19 : decode cX1_move 19 = .ok (.iconst 1, 1) := by decide +kernel
theorem dX1_move_20 : decode cX1_move 20 = .ok (.isub, 1) := by decide +kernel
theorem dX1_move_21 : decode cX1_move 21 = .ok (.invokevirtual 41, 3) := by decide +kernel
theorem dX1_move_24 : decode cX1_move 24 = .ok (.iload_n 2, 1) := by decide +kernel
theorem dX1_move_25 : decode cX1_move 25 = .ok (.invokestatic 54, 3) := by decide +kernel
theorem dX1_move_28 : decode cX1_move 28 = .ok (.ifCond .eq 6, 3) := by decide +kernel
theorem dX1_move_31 : decode cX1_move 31 = .ok (.bipush (-2), 2) := by decide +kernel
theorem dX1_move_33 : decode cX1_move 33 = .ok (.ireturn, 1) := by decide +kernel
theorem dX1_move_34 : decode cX1_move 34 = .ok (.aload_n 0, 1) := by decide +kernel
theorem dX1_move_35 : decode cX1_move 35 = .ok (.getfield 11, 3) := by decide +kernel
theorem dX1_move_38 : decode cX1_move 38 = .ok (.iload_n 1, 1) := by decide +kernel
theorem dX1_move_39 : decode cX1_move 39 = .ok (.iload_n 2, 1) := by decide +kernel
theorem dX1_move_40 : decode cX1_move 40 = .ok (.iastore, 1) := by decide +kernel
theorem dX1_move_41 : decode cX1_move 41 = .ok (.iload_n 3, 1) := by decide +kernel
theorem dX1_move_42 : decode cX1_move 42 = .ok (.ireturn, 1) := by decide +kernel
def kX1_move_0 : List (Nat × zT) := [(0, a_aload 0 1), (1, a_getR 1 0 4), (4, a_iload 1 5), (5, a_iald 6), (6, a_istore 3 7), (7, a_iload 2 8), (8, a_iload 3 9), (9, a_ic_eq 34 12), (12, a_aload 0 13), (13, a_i 1 14), (14, a_aload 0 15), (15, a_getI 1 2 18), (18, a_ii (fun x y => x <<< (y &&& 31)) 19), (19, a_i 1 20), (20, a_ii (fun x y => x - y) 21), (21, a_callV 1 10 2 24 0 0), (24, a_iload 2 25), (25, a_call 132 2 28 0 0), (28, a_if_eq 34 31), (31, a_i (-2) 33), (33, a_iret false), (34, a_aload 0 35), (35, a_getR 1 0 38), (38, a_iload 1 39)]
theorem oX1_move_0 : ∀ q ∈ kX1_move_0, zSnd zty false RX1 cX1_move 4 (some .int) false q := List.forall_mem_cons.mpr ⟨ok_aload_n dX1_move_0 rfl, List.forall_mem_cons.mpr ⟨ok_getR dX1_move_1 rfl in1 (by decide) rfl w240, List.forall_mem_cons.mpr ⟨ok_iload_n dX1_move_4 rfl, List.forall_mem_cons.mpr ⟨ok_iald dX1_move_5, List.forall_mem_cons.mpr ⟨ok_istore_n dX1_move_6 rfl (by decide), List.forall_mem_cons.mpr ⟨ok_iload_n dX1_move_7 rfl, List.forall_mem_cons.mpr ⟨ok_iload_n dX1_move_8 rfl, List.forall_mem_cons.mpr ⟨ok_ic_eq dX1_move_9 (by decide), List.forall_mem_cons.mpr ⟨ok_aload_n dX1_move_12 rfl, List.forall_mem_cons.mpr ⟨ok_iconst dX1_move_13 (by decide), List.forall_mem_cons.mpr ⟨ok_aload_n dX1_move_14 rfl, List.forall_mem_cons.mpr ⟨ok_getI dX1_move_15 rfl in1 (by decide) rfl w242, List.forall_mem_cons.mpr ⟨ok_ishl dX1_move_18, List.forall_mem_cons.mpr ⟨ok_iconst dX1_move_19 (by decide), List.forall_mem_cons.mpr ⟨ok_isub dX1_move_20, List.forall_mem_cons.mpr ⟨ok_callV dX1_move_21 rfl rfl w752 w749 w751 w10 s14 (by decide +kernel) (by decide), List.forall_mem_cons.mpr ⟨ok_iload_n dX1_move_24 rfl, List.forall_mem_cons.mpr ⟨ok_callSN dX1_move_25 rfl w433 n753 w432 w1 (by decide +kernel) (by decide), List.forall_mem_cons.mpr ⟨ok_if_eq dX1_move_28 (by decide), List.forall_mem_cons.mpr ⟨ok_bipush dX1_move_31 (by decide), List.forall_mem_cons.mpr ⟨ok_iret (bz := false) dX1_move_33 rfl, List.forall_mem_cons.mpr ⟨ok_aload_n dX1_move_34 rfl, List.forall_mem_cons.mpr ⟨ok_getR dX1_move_35 rfl in1 (by decide) rfl w240, List.forall_mem_cons.mpr ⟨ok_iload_n dX1_move_38 rfl, fun _ h => absurd h List.not_mem_nil⟩⟩⟩⟩⟩⟩⟩⟩⟩⟩⟩⟩⟩⟩⟩⟩⟩⟩⟩⟩⟩⟩⟩⟩
def kX1_move_1 : List (Nat × zT) := [(39, a_iload 2 40), (40, a_iast 41), (41, a_iload 3 42), (42, a_iret false)]
theorem oX1_move_1 : ∀ q ∈ kX1_move_1, zSnd zty false RX1 cX1_move 4 (some .int) false q := List.forall_mem_cons.mpr ⟨ok_iload_n dX1_move_39 rfl, List.forall_mem_cons.mpr ⟨ok_iast dX1_move_40, List.forall_mem_cons.mpr ⟨ok_iload_n dX1_move_41 rfl, List.forall_mem_cons.mpr ⟨ok_iret (bz := false) dX1_move_42 rfl, fun _ h => absurd h List.not_mem_nil⟩⟩⟩⟩
def kX1_move : List (Nat × zT) := kX1_move_0 ++ (kX1_move_1)
theorem qX1_move_0 : ∀ q ∈ kX1_move_0, q ∈ kX1_move := fun _ h => (List.mem_append_left _ h)
theorem tX1_move_0 : (0, a_aload 0 1) ∈ kX1_move := qX1_move_0 _ (List.mem_of_getElem? (i := 0) rfl)
theorem tX1_move_1 : (1, a_getR 1 0 4) ∈ kX1_move := qX1_move_0 _ (List.mem_of_getElem? (i := 1) rfl)
theorem tX1_move_4 : (4, a_iload 1 5) ∈ kX1_move := qX1_move_0 _ (List.mem_of_getElem? (i := 2) rfl)
theorem tX1_move_5 : (5, a_iald 6) ∈ kX1_move := qX1_move_0 _ (List.mem_of_getElem? (i := 3) rfl)
theorem tX1_move_6 : (6, a_istore 3 7) ∈ kX1_move := qX1_move_0 _ (List.mem_of_getElem? (i := 4) rfl)
theorem tX1_move_7 : (7, a_iload 2 8) ∈ kX1_move := qX1_move_0 _ (List.mem_of_getElem? (i := 5) rfl)
theorem tX1_move_8 : (8, a_iload 3 9) ∈ kX1_move := qX1_move_0 _ (List.mem_of_getElem? (i := 6) rfl)
theorem tX1_move_9 : (9, a_ic_eq 34 12) ∈ kX1_move := qX1_move_0 _ (List.mem_of_getElem? (i := 7) rfl)
theorem tX1_move_12 : (12, a_aload 0 13) ∈ kX1_move := qX1_move_0 _ (List.mem_of_getElem? (i := 8) rfl)
theorem tX1_move_13 : (13, a_i 1 14) ∈ kX1_move := qX1_move_0 _ (List.mem_of_getElem? (i := 9) rfl)
theorem tX1_move_14 : (14, a_aload 0 15) ∈ kX1_move := qX1_move_0 _ (List.mem_of_getElem? (i := 10) rfl)
theorem tX1_move_15 : (15, a_getI 1 2 18) ∈ kX1_move := qX1_move_0 _ (List.mem_of_getElem? (i := 11) rfl)
theorem tX1_move_18 : (18, a_ii (fun x y => x <<< (y &&& 31)) 19) ∈ kX1_move := qX1_move_0 _ (List.mem_of_getElem? (i := 12) rfl)
theorem tX1_move_19 : (19, a_i 1 20) ∈ kX1_move := qX1_move_0 _ (List.mem_of_getElem? (i := 13) rfl)
theorem tX1_move_20 : (20, a_ii (fun x y => x - y) 21) ∈ kX1_move := qX1_move_0 _ (List.mem_of_getElem? (i := 14) rfl)
theorem tX1_move_21 : (21, a_callV 1 10 2 24 0 0) ∈ kX1_move := qX1_move_0 _ (List.mem_of_getElem? (i := 15) rfl)
theorem tX1_move_24 : (24, a_iload 2 25) ∈ kX1_move := qX1_move_0 _ (List.mem_of_getElem? (i := 16) rfl)
theorem tX1_move_25 : (25, a_call 132 2 28 0 0) ∈ kX1_move := qX1_move_0 _ (List.mem_of_getElem? (i := 17) rfl)
theorem tX1_move_28 : (28, a_if_eq 34 31) ∈ kX1_move := qX1_move_0 _ (List.mem_of_getElem? (i := 18) rfl)
theorem tX1_move_31 : (31, a_i (-2) 33) ∈ kX1_move := qX1_move_0 _ (List.mem_of_getElem? (i := 19) rfl)
theorem tX1_move_33 : (33, a_iret false) ∈ kX1_move := qX1_move_0 _ (List.mem_of_getElem? (i := 20) rfl)
theorem tX1_move_34 : (34, a_aload 0 35) ∈ kX1_move := qX1_move_0 _ (List.mem_of_getElem? (i := 21) rfl)
theorem tX1_move_35 : (35, a_getR 1 0 38) ∈ kX1_move := qX1_move_0 _ (List.mem_of_getElem? (i := 22) rfl)
theorem tX1_move_38 : (38, a_iload 1 39) ∈ kX1_move := qX1_move_0 _ (List.mem_of_getElem? (i := 23) rfl)
theorem qX1_move_1 : ∀ q ∈ kX1_move_1, q ∈ kX1_move := fun _ h => (List.mem_append_right _ h)
theorem tX1_move_39 : (39, a_iload 2 40) ∈ kX1_move := qX1_move_1 _ (List.mem_of_getElem? (i := 0) rfl)
theorem tX1_move_40 : (40, a_iast 41) ∈ kX1_move := qX1_move_1 _ (List.mem_of_getElem? (i := 1) rfl)
theorem tX1_move_41 : (41, a_iload 3 42) ∈ kX1_move := qX1_move_1 _ (List.mem_of_getElem? (i := 2) rfl)
theorem tX1_move_42 : (42, a_iret false) ∈ kX1_move := qX1_move_1 _ (List.mem_of_getElem? (i := 3) rfl)
theorem oX1_move : ∀ q ∈ kX1_move, zSnd zty false RX1 cX1_move 4 (some .int) false q := List.forall_mem_append.mpr ⟨oX1_move_0, oX1_move_1⟩
theorem dX1_placesOf_0 : decode cX1_placesOf 0 = .ok (.iconst 0, 1) := by decide +kernel
theorem dX1_placesOf_1 : decode cX1_placesOf 1 = .ok (.istore_n 2, 1) := by decide +kernel
theorem dX1_placesOf_2 : decode cX1_placesOf 2 = .ok (.iconst 0, 1) := by decide +kernel
theorem dX1_placesOf_3 : decode cX1_placesOf 3 = .ok (.istore_n 3, 1) := by decide +kernel
theorem dX1_placesOf_4 : decode cX1_placesOf 4 = .ok (.iload_n 3, 1) := by decide +kernel
theorem dX1_placesOf_5 : decode cX1_placesOf 5 = .ok (.aload_n 0, 1) := by decide +kernel
theorem dX1_placesOf_6 : decode cX1_placesOf 6 = .ok (.getfield 18, 3) := by decide +kernel
theorem dX1_placesOf_9 : decode cX1_placesOf 9 = .ok (.if_icmp .ge 28, 3) := by decide +kernel
theorem dX1_placesOf_12 : decode cX1_placesOf 12 = .ok (.iload_n 1, 1) := by decide +kernel
theorem dX1_placesOf_13 : decode cX1_placesOf 13 = .ok (.iload_n 3, 1) := by decide +kernel
theorem dX1_placesOf_14 : decode cX1_placesOf 14 = .ok (.invokestatic 54, 3) := by decide +kernel
theorem dX1_placesOf_17 : decode cX1_placesOf 17 = .ok (.ifCond .eq 14, 3) := by decide +kernel
theorem dX1_placesOf_20 : decode cX1_placesOf 20 = .ok (.iload_n 2, 1) := by decide +kernel
theorem dX1_placesOf_21 : decode cX1_placesOf 21 = .ok (.iconst 1, 1) := by decide +kernel
theorem dX1_placesOf_22 : decode cX1_placesOf 22 = .ok (.aload_n 0, 1) := by decide +kernel
theorem dX1_placesOf_23 : decode cX1_placesOf 23 = .ok (.getfield 11, 3) := by decide +kernel
theorem dX1_placesOf_26 : decode cX1_placesOf 26 = .ok (.iload_n 3, 1) := by decide +kernel
theorem dX1_placesOf_27 : decode cX1_placesOf 27 = .ok (.iaload, 1) := by decide +kernel
theorem dX1_placesOf_28 : decode cX1_placesOf 28 = .ok (.ishl, 1) := by decide +kernel
theorem dX1_placesOf_29 : decode cX1_placesOf 29 = .ok (.ior, 1) := by decide +kernel
theorem dX1_placesOf_30 : decode cX1_placesOf 30 = .ok (.istore_n 2, 1) := by decide +kernel
theorem dX1_placesOf_31 : decode cX1_placesOf 31 = .ok (.iinc 3 1, 3) := by decide +kernel
theorem dX1_placesOf_34 : decode cX1_placesOf 34 = .ok (.goto (-30), 3) := by decide +kernel
theorem dX1_placesOf_37 : decode cX1_placesOf 37 = .ok (.iload_n 2, 1) := by decide +kernel
theorem dX1_placesOf_38 : decode cX1_placesOf 38 = .ok (.ireturn, 1) := by decide +kernel
def kX1_placesOf_0 : List (Nat × zT) := [(0, a_i 0 1), (1, a_istore 2 2), (2, a_i 0 3), (3, a_istore 3 4), (4, a_iload 3 5), (5, a_aload 0 6), (6, a_getI 1 2 9), (9, a_ic_ge 37 12), (12, a_iload 1 13), (13, a_iload 3 14), (14, a_call 132 2 17 0 0), (17, a_if_eq 31 20), (20, a_iload 2 21), (21, a_i 1 22), (22, a_aload 0 23), (23, a_getR 1 0 26), (26, a_iload 3 27), (27, a_iald 28), (28, a_ii (fun x y => x <<< (y &&& 31)) 29), (29, a_ii (fun x y => x ||| y) 30), (30, a_istore 2 31), (31, a_iinc 3 1 34), (34, a_goto 4), (37, a_iload 2 38)]
theorem oX1_placesOf_0 : ∀ q ∈ kX1_placesOf_0, zSnd zty false RX1 cX1_placesOf 4 (some .int) false q := List.forall_mem_cons.mpr ⟨ok_iconst dX1_placesOf_0 (by decide), List.forall_mem_cons.mpr ⟨ok_istore_n dX1_placesOf_1 rfl (by decide), List.forall_mem_cons.mpr ⟨ok_iconst dX1_placesOf_2 (by decide), List.forall_mem_cons.mpr ⟨ok_istore_n dX1_placesOf_3 rfl (by decide), List.forall_mem_cons.mpr ⟨ok_iload_n dX1_placesOf_4 rfl, List.forall_mem_cons.mpr ⟨ok_aload_n dX1_placesOf_5 rfl, List.forall_mem_cons.mpr ⟨ok_getI dX1_placesOf_6 rfl in1 (by decide) rfl w242, List.forall_mem_cons.mpr ⟨ok_ic_ge dX1_placesOf_9 (by decide), List.forall_mem_cons.mpr ⟨ok_iload_n dX1_placesOf_12 rfl, List.forall_mem_cons.mpr ⟨ok_iload_n dX1_placesOf_13 rfl, List.forall_mem_cons.mpr ⟨ok_callSN dX1_placesOf_14 rfl w433 n753 w432 w1 (by decide +kernel) (by decide), List.forall_mem_cons.mpr ⟨ok_if_eq dX1_placesOf_17 (by decide), List.forall_mem_cons.mpr ⟨ok_iload_n dX1_placesOf_20 rfl, List.forall_mem_cons.mpr ⟨ok_iconst dX1_placesOf_21 (by decide), List.forall_mem_cons.mpr ⟨ok_aload_n dX1_placesOf_22 rfl, List.forall_mem_cons.mpr ⟨ok_getR dX1_placesOf_23 rfl in1 (by decide) rfl w240, List.forall_mem_cons.mpr ⟨ok_iload_n dX1_placesOf_26 rfl, List.forall_mem_cons.mpr ⟨ok_iald dX1_placesOf_27, List.forall_mem_cons.mpr ⟨ok_ishl dX1_placesOf_28, List.forall_mem_cons.mpr ⟨ok_ior dX1_placesOf_29, List.forall_mem_cons.mpr ⟨ok_istore_n dX1_placesOf_30 rfl (by decide), List.forall_mem_cons.mpr ⟨ok_iinc dX1_placesOf_31 (by decide) (by decide), List.forall_mem_cons.mpr ⟨ok_goto dX1_placesOf_34 (by decide), List.forall_mem_cons.mpr ⟨ok_iload_n dX1_placesOf_37 rfl, fun _ h => absurd h List.not_mem_nil⟩⟩⟩⟩⟩⟩⟩⟩⟩⟩⟩⟩⟩⟩⟩⟩⟩⟩⟩⟩⟩⟩⟩⟩
def kX1_placesOf_1 : List (Nat × zT) := [(38, a_iret false)]
theorem oX1_placesOf_1 : ∀ q ∈ kX1_placesOf_1, zSnd zty false RX1 cX1_placesOf 4 (some .int) false q := List.forall_mem_cons.mpr ⟨ok_iret (bz := false) dX1_placesOf_38 rfl, fun _ h => absurd h List.not_mem_nil⟩
def kX1_placesOf : List (Nat × zT) := kX1_placesOf_0 ++ (kX1_placesOf_1)
theorem qX1_placesOf_0 : ∀ q ∈ kX1_placesOf_0, q ∈ kX1_placesOf := fun _ h => (List.mem_append_left _ h)
theorem tX1_placesOf_0 : (0, a_i 0 1) ∈ kX1_placesOf := qX1_placesOf_0 _ (List.mem_of_getElem? (i := 0) rfl)
theorem tX1_placesOf_1 : (1, a_istore 2 2) ∈ kX1_placesOf := qX1_placesOf_0 _ (List.mem_of_getElem? (i := 1) rfl)
theorem tX1_placesOf_2 : (2, a_i 0 3) ∈ kX1_placesOf := qX1_placesOf_0 _ (List.mem_of_getElem? (i := 2) rfl)
theorem tX1_placesOf_3 : (3, a_istore 3 4) ∈ kX1_placesOf := qX1_placesOf_0 _ (List.mem_of_getElem? (i := 3) rfl)
theorem tX1_placesOf_4 : (4, a_iload 3 5) ∈ kX1_placesOf := qX1_placesOf_0 _ (List.mem_of_getElem? (i := 4) rfl)
theorem tX1_placesOf_5 : (5, a_aload 0 6) ∈ kX1_placesOf := qX1_placesOf_0 _ (List.mem_of_getElem? (i := 5) rfl)
theorem tX1_placesOf_6 : (6, a_getI 1 2 9) ∈ kX1_placesOf := qX1_placesOf_0 _ (List.mem_of_getElem? (i := 6) rfl)
theorem tX1_placesOf_9 : (9, a_ic_ge 37 12) ∈ kX1_placesOf := qX1_placesOf_0 _ (List.mem_of_getElem? (i := 7) rfl)
theorem tX1_placesOf_12 : (12, a_iload 1 13) ∈ kX1_placesOf := qX1_placesOf_0 _ (List.mem_of_getElem? (i := 8) rfl)
theorem tX1_placesOf_13 : (13, a_iload 3 14) ∈ kX1_placesOf := qX1_placesOf_0 _ (List.mem_of_getElem? (i := 9) rfl)
theorem tX1_placesOf_14 : (14, a_call 132 2 17 0 0) ∈ kX1_placesOf := qX1_placesOf_0 _ (List.mem_of_getElem? (i := 10) rfl)
theorem tX1_placesOf_17 : (17, a_if_eq 31 20) ∈ kX1_placesOf := qX1_placesOf_0 _ (List.mem_of_getElem? (i := 11) rfl)
theorem tX1_placesOf_20 : (20, a_iload 2 21) ∈ kX1_placesOf := qX1_placesOf_0 _ (List.mem_of_getElem? (i := 12) rfl)
theorem tX1_placesOf_21 : (21, a_i 1 22) ∈ kX1_placesOf := qX1_placesOf_0 _ (List.mem_of_getElem? (i := 13) rfl)
theorem tX1_placesOf_22 : (22, a_aload 0 23) ∈ kX1_placesOf := qX1_placesOf_0 _ (List.mem_of_getElem? (i := 14) rfl)
theorem tX1_placesOf_23 : (23, a_getR 1 0 26) ∈ kX1_placesOf := qX1_placesOf_0 _ (List.mem_of_getElem? (i := 15) rfl)
theorem tX1_placesOf_26 : (26, a_iload 3 27) ∈ kX1_placesOf := qX1_placesOf_0 _ (List.mem_of_getElem? (i := 16) rfl)
theorem tX1_placesOf_27 : (27, a_iald 28) ∈ kX1_placesOf := qX1_placesOf_0 _ (List.mem_of_getElem? (i := 17) rfl)
theorem tX1_placesOf_28 : (28, a_ii (fun x y => x <<< (y &&& 31)) 29) ∈ kX1_placesOf := qX1_placesOf_0 _ (List.mem_of_getElem? (i := 18) rfl)
theorem tX1_placesOf_29 : (29, a_ii (fun x y => x ||| y) 30) ∈ kX1_placesOf := qX1_placesOf_0 _ (List.mem_of_getElem? (i := 19) rfl)
theorem tX1_placesOf_30 : (30, a_istore 2 31) ∈ kX1_placesOf := qX1_placesOf_0 _ (List.mem_of_getElem? (i := 20) rfl)
theorem tX1_placesOf_31 : (31, a_iinc 3 1 34) ∈ kX1_placesOf := qX1_placesOf_0 _ (List.mem_of_getElem? (i := 21) rfl)
theorem tX1_placesOf_34 : (34, a_goto 4) ∈ kX1_placesOf := qX1_placesOf_0 _ (List.mem_of_getElem? (i := 22) rfl)
theorem tX1_placesOf_37 : (37, a_iload 2 38) ∈ kX1_placesOf := qX1_placesOf_0 _ (List.mem_of_getElem? (i := 23) rfl)
theorem qX1_placesOf_1 : ∀ q ∈ kX1_placesOf_1, q ∈ kX1_placesOf := fun _ h => (List.mem_append_right _ h)
theorem tX1_placesOf_38 : (38, a_iret false) ∈ kX1_placesOf := qX1_placesOf_1 _ (List.mem_of_getElem? (i := 0) rfl)
theorem oX1_placesOf : ∀ q ∈ kX1_placesOf, zSnd zty false RX1 cX1_placesOf 4 (some .int) false q := List.forall_mem_append.mpr ⟨oX1_placesOf_0, oX1_placesOf_1⟩
theorem dX1_wireOf_0 : decode cX1_wireOf 0 = .ok (.aload_n 0, 1) := by decide +kernel
theorem dX1_wireOf_1 : decode cX1_wireOf 1 = .ok (.aload_n 0, 1) := by decide +kernel
theorem dX1_wireOf_2 : decode cX1_wireOf 2 = .ok (.getfield 15, 3) := by decide +kernel
theorem dX1_wireOf_5 : decode cX1_wireOf 5 = .ok (.iload_n 1, 1) := by decide +kernel
theorem dX1_wireOf_6 : decode cX1_wireOf 6 = .ok (.iaload, 1) := by decide +kernel
theorem dX1_wireOf_7 : decode cX1_wireOf 7 = .ok (.invokevirtual 41, 3) := by decide +kernel
theorem dX1_wireOf_10 : decode cX1_wireOf 10 = .ok (.invokestatic 57, 3) := by decide +kernel
theorem dX1_wireOf_13 : decode cX1_wireOf 13 = .ok (.ireturn, 1) := by decide +kernel
def kX1_wireOf_0 : List (Nat × zT) := [(0, a_aload 0 1), (1, a_aload 0 2), (2, a_getR 1 1 5), (5, a_iload 1 6), (6, a_iald 7), (7, a_callV 1 10 2 10 0 0), (10, a_call 13 1 13 0 0), (13, a_iret false)]
theorem oX1_wireOf_0 : ∀ q ∈ kX1_wireOf_0, zSnd zty false RX1 cX1_wireOf 2 (some .int) false q := List.forall_mem_cons.mpr ⟨ok_aload_n dX1_wireOf_0 rfl, List.forall_mem_cons.mpr ⟨ok_aload_n dX1_wireOf_1 rfl, List.forall_mem_cons.mpr ⟨ok_getR dX1_wireOf_2 rfl in1 (by decide) rfl w241, List.forall_mem_cons.mpr ⟨ok_iload_n dX1_wireOf_5 rfl, List.forall_mem_cons.mpr ⟨ok_iald dX1_wireOf_6, List.forall_mem_cons.mpr ⟨ok_callV dX1_wireOf_7 rfl rfl w752 w749 w751 w10 s14 (by decide +kernel) (by decide), List.forall_mem_cons.mpr ⟨ok_callS dX1_wireOf_10 rfl w791 w789 w790 w10 (by decide +kernel) (by decide), List.forall_mem_cons.mpr ⟨ok_iret (bz := false) dX1_wireOf_13 rfl, fun _ h => absurd h List.not_mem_nil⟩⟩⟩⟩⟩⟩⟩⟩
def kX1_wireOf : List (Nat × zT) := kX1_wireOf_0
theorem qX1_wireOf_0 : ∀ q ∈ kX1_wireOf_0, q ∈ kX1_wireOf := fun _ h => h
theorem tX1_wireOf_0 : (0, a_aload 0 1) ∈ kX1_wireOf := qX1_wireOf_0 _ (List.mem_of_getElem? (i := 0) rfl)
theorem tX1_wireOf_1 : (1, a_aload 0 2) ∈ kX1_wireOf := qX1_wireOf_0 _ (List.mem_of_getElem? (i := 1) rfl)
theorem tX1_wireOf_2 : (2, a_getR 1 1 5) ∈ kX1_wireOf := qX1_wireOf_0 _ (List.mem_of_getElem? (i := 2) rfl)
theorem tX1_wireOf_5 : (5, a_iload 1 6) ∈ kX1_wireOf := qX1_wireOf_0 _ (List.mem_of_getElem? (i := 3) rfl)
theorem tX1_wireOf_6 : (6, a_iald 7) ∈ kX1_wireOf := qX1_wireOf_0 _ (List.mem_of_getElem? (i := 4) rfl)
theorem tX1_wireOf_7 : (7, a_callV 1 10 2 10 0 0) ∈ kX1_wireOf := qX1_wireOf_0 _ (List.mem_of_getElem? (i := 5) rfl)
theorem tX1_wireOf_10 : (10, a_call 13 1 13 0 0) ∈ kX1_wireOf := qX1_wireOf_0 _ (List.mem_of_getElem? (i := 6) rfl)
theorem tX1_wireOf_13 : (13, a_iret false) ∈ kX1_wireOf := qX1_wireOf_0 _ (List.mem_of_getElem? (i := 7) rfl)
theorem oX1_wireOf : ∀ q ∈ kX1_wireOf, zSnd zty false RX1 cX1_wireOf 2 (some .int) false q := oX1_wireOf_0
theorem dX1_wireOfAll_0 : decode cX1_wireOfAll 0 = .ok (.iconst 0, 1) := by decide +kernel
theorem dX1_wireOfAll_1 : decode cX1_wireOfAll 1 = .ok (.istore_n 1, 1) := by decide +kernel
theorem dX1_wireOfAll_2 : decode cX1_wireOfAll 2 = .ok (.iconst 0, 1) := by decide +kernel
theorem dX1_wireOfAll_3 : decode cX1_wireOfAll 3 = .ok (.istore_n 2, 1) := by decide +kernel
theorem dX1_wireOfAll_4 : decode cX1_wireOfAll 4 = .ok (.iload_n 2, 1) := by decide +kernel
theorem dX1_wireOfAll_5 : decode cX1_wireOfAll 5 = .ok (.aload_n 0, 1) := by decide +kernel
theorem dX1_wireOfAll_6 : decode cX1_wireOfAll 6 = .ok (.getfield 22, 3) := by decide +kernel
theorem dX1_wireOfAll_9 : decode cX1_wireOfAll 9 = .ok (.if_icmp .ge 17, 3) := by decide +kernel
theorem dX1_wireOfAll_12 : decode cX1_wireOfAll 12 = .ok (.iload_n 1, 1) := by decide +kernel
theorem dX1_wireOfAll_13 : decode cX1_wireOfAll 13 = .ok (.aload_n 0, 1) := by decide +kernel
theorem dX1_wireOfAll_14 : decode cX1_wireOfAll 14 = .ok (.iload_n 2, 1) := by decide +kernel
theorem dX1_wireOfAll_15 : decode cX1_wireOfAll 15 = .ok (.invokevirtual 60, 3) := by decide +kernel
theorem dX1_wireOfAll_18 : decode cX1_wireOfAll 18 = .ok (.iadd, 1) := by decide +kernel
theorem dX1_wireOfAll_19 : decode cX1_wireOfAll 19 = .ok (.istore_n 1, 1) := by decide +kernel
theorem dX1_wireOfAll_20 : decode cX1_wireOfAll 20 = .ok (.iinc 2 1, 3) := by decide +kernel
theorem dX1_wireOfAll_23 : decode cX1_wireOfAll 23 = .ok (.goto (-19), 3) := by decide +kernel
theorem dX1_wireOfAll_26 : decode cX1_wireOfAll 26 = .ok (.iload_n 1, 1) := by decide +kernel
theorem dX1_wireOfAll_27 : decode cX1_wireOfAll 27 = .ok (.ireturn, 1) := by decide +kernel
def kX1_wireOfAll_0 : List (Nat × zT) := [(0, a_i 0 1), (1, a_istore 1 2), (2, a_i 0 3), (3, a_istore 2 4), (4, a_iload 2 5), (5, a_aload 0 6), (6, a_getI 1 3 9), (9, a_ic_ge 26 12), (12, a_iload 1 13), (13, a_aload 0 14), (14, a_iload 2 15), (15, a_callV 1 11 2 18 0 0), (18, a_ii (fun x y => x + y) 19), (19, a_istore 1 20), (20, a_iinc 2 1 23), (23, a_goto 4), (26, a_iload 1 27), (27, a_iret false)]
theorem oX1_wireOfAll_0 : ∀ q ∈ kX1_wireOfAll_0, zSnd zty false RX1 cX1_wireOfAll 3 (some .int) false q := List.forall_mem_cons.mpr ⟨ok_iconst dX1_wireOfAll_0 (by decide), List.forall_mem_cons.mpr ⟨ok_istore_n dX1_wireOfAll_1 rfl (by decide), List.forall_mem_cons.mpr ⟨ok_iconst dX1_wireOfAll_2 (by decide), List.forall_mem_cons.mpr ⟨ok_istore_n dX1_wireOfAll_3 rfl (by decide), List.forall_mem_cons.mpr ⟨ok_iload_n dX1_wireOfAll_4 rfl, List.forall_mem_cons.mpr ⟨ok_aload_n dX1_wireOfAll_5 rfl, List.forall_mem_cons.mpr ⟨ok_getI dX1_wireOfAll_6 rfl in1 (by decide) rfl w244, List.forall_mem_cons.mpr ⟨ok_ic_ge dX1_wireOfAll_9 (by decide), List.forall_mem_cons.mpr ⟨ok_iload_n dX1_wireOfAll_12 rfl, List.forall_mem_cons.mpr ⟨ok_aload_n dX1_wireOfAll_13 rfl, List.forall_mem_cons.mpr ⟨ok_iload_n dX1_wireOfAll_14 rfl, List.forall_mem_cons.mpr ⟨ok_callV dX1_wireOfAll_15 rfl rfl w788 w785 w786 w10 w787 (by decide +kernel) (by decide), List.forall_mem_cons.mpr ⟨ok_iadd dX1_wireOfAll_18, List.forall_mem_cons.mpr ⟨ok_istore_n dX1_wireOfAll_19 rfl (by decide), List.forall_mem_cons.mpr ⟨ok_iinc dX1_wireOfAll_20 (by decide) (by decide), List.forall_mem_cons.mpr ⟨ok_goto dX1_wireOfAll_23 (by decide), List.forall_mem_cons.mpr ⟨ok_iload_n dX1_wireOfAll_26 rfl, List.forall_mem_cons.mpr ⟨ok_iret (bz := false) dX1_wireOfAll_27 rfl, fun _ h => absurd h List.not_mem_nil⟩⟩⟩⟩⟩⟩⟩⟩⟩⟩⟩⟩⟩⟩⟩⟩⟩⟩
def kX1_wireOfAll : List (Nat × zT) := kX1_wireOfAll_0
theorem qX1_wireOfAll_0 : ∀ q ∈ kX1_wireOfAll_0, q ∈ kX1_wireOfAll := fun _ h => h
theorem tX1_wireOfAll_0 : (0, a_i 0 1) ∈ kX1_wireOfAll := qX1_wireOfAll_0 _ (List.mem_of_getElem? (i := 0) rfl)
theorem tX1_wireOfAll_1 : (1, a_istore 1 2) ∈ kX1_wireOfAll := qX1_wireOfAll_0 _ (List.mem_of_getElem? (i := 1) rfl)
theorem tX1_wireOfAll_2 : (2, a_i 0 3) ∈ kX1_wireOfAll := qX1_wireOfAll_0 _ (List.mem_of_getElem? (i := 2) rfl)
theorem tX1_wireOfAll_3 : (3, a_istore 2 4) ∈ kX1_wireOfAll := qX1_wireOfAll_0 _ (List.mem_of_getElem? (i := 3) rfl)
theorem tX1_wireOfAll_4 : (4, a_iload 2 5) ∈ kX1_wireOfAll := qX1_wireOfAll_0 _ (List.mem_of_getElem? (i := 4) rfl)
theorem tX1_wireOfAll_5 : (5, a_aload 0 6) ∈ kX1_wireOfAll := qX1_wireOfAll_0 _ (List.mem_of_getElem? (i := 5) rfl)
theorem tX1_wireOfAll_6 : (6, a_getI 1 3 9) ∈ kX1_wireOfAll := qX1_wireOfAll_0 _ (List.mem_of_getElem? (i := 6) rfl)
theorem tX1_wireOfAll_9 : (9, a_ic_ge 26 12) ∈ kX1_wireOfAll := qX1_wireOfAll_0 _ (List.mem_of_getElem? (i := 7) rfl)
theorem tX1_wireOfAll_12 : (12, a_iload 1 13) ∈ kX1_wireOfAll := qX1_wireOfAll_0 _ (List.mem_of_getElem? (i := 8) rfl)
theorem tX1_wireOfAll_13 : (13, a_aload 0 14) ∈ kX1_wireOfAll := qX1_wireOfAll_0 _ (List.mem_of_getElem? (i := 9) rfl)
theorem tX1_wireOfAll_14 : (14, a_iload 2 15) ∈ kX1_wireOfAll := qX1_wireOfAll_0 _ (List.mem_of_getElem? (i := 10) rfl)
theorem tX1_wireOfAll_15 : (15, a_callV 1 11 2 18 0 0) ∈ kX1_wireOfAll := qX1_wireOfAll_0 _ (List.mem_of_getElem? (i := 11) rfl)
theorem tX1_wireOfAll_18 : (18, a_ii (fun x y => x + y) 19) ∈ kX1_wireOfAll := qX1_wireOfAll_0 _ (List.mem_of_getElem? (i := 12) rfl)
theorem tX1_wireOfAll_19 : (19, a_istore 1 20) ∈ kX1_wireOfAll := qX1_wireOfAll_0 _ (List.mem_of_getElem? (i := 13) rfl)
theorem tX1_wireOfAll_20 : (20, a_iinc 2 1 23) ∈ kX1_wireOfAll := qX1_wireOfAll_0 _ (List.mem_of_getElem? (i := 14) rfl)
theorem tX1_wireOfAll_23 : (23, a_goto 4) ∈ kX1_wireOfAll := qX1_wireOfAll_0 _ (List.mem_of_getElem? (i := 15) rfl)
theorem tX1_wireOfAll_26 : (26, a_iload 1 27) ∈ kX1_wireOfAll := qX1_wireOfAll_0 _ (List.mem_of_getElem? (i := 16) rfl)
theorem tX1_wireOfAll_27 : (27, a_iret false) ∈ kX1_wireOfAll := qX1_wireOfAll_0 _ (List.mem_of_getElem? (i := 17) rfl)
theorem oX1_wireOfAll : ∀ q ∈ kX1_wireOfAll, zSnd zty false RX1 cX1_wireOfAll 3 (some .int) false q := oX1_wireOfAll_0
theorem dX1_span_0 : decode cX1_span 0 = .ok (.iload_n 0, 1) := by decide +kernel
theorem dX1_span_1 : decode cX1_span 1 = .ok (.bipush 15, 2) := by decide +kernel
theorem dX1_span_3 : decode cX1_span 3 = .ok (.iand, 1) := by decide +kernel
theorem dX1_span_4 : decode cX1_span 4 = .ok (.istore_n 1, 1) := by decide +kernel
theorem dX1_span_5 : decode cX1_span 5 = .ok (.iload_n 0, 1) := by decide +kernel
theorem dX1_span_6 : decode cX1_span 6 = .ok (.iconst 4, 1) := by decide +kernel
theorem dX1_span_7 : decode cX1_span 7 = .ok (.ishr, 1) := by decide +kernel
theorem dX1_span_8 : decode cX1_span 8 = .ok (.bipush 15, 2) := by decide +kernel
theorem dX1_span_10 : decode cX1_span 10 = .ok (.iand, 1) := by decide +kernel
theorem dX1_span_11 : decode cX1_span 11 = .ok (.istore_n 2, 1) := by decide +kernel
theorem dX1_span_12 : decode cX1_span 12 = .ok (.iload_n 1, 1) := by decide +kernel
theorem dX1_span_13 : decode cX1_span 13 = .ok (.iload_n 2, 1) := by decide +kernel
theorem dX1_span_14 : decode cX1_span 14 = .ok (.ior, 1) := by decide +kernel
theorem dX1_span_15 : decode cX1_span 15 = .ok (.istore_n 3, 1) := by decide +kernel
theorem dX1_span_16 : decode cX1_span 16 = .ok (.iload_n 3, 1) := by decide +kernel
theorem dX1_span_17 : decode cX1_span 17 = .ok (.ifCond .ne 5, 3) := by decide +kernel
theorem dX1_span_20 : decode cX1_span 20 = .ok (.iconst 0, 1) := by decide +kernel
theorem dX1_span_21 : decode cX1_span 21 = .ok (.ireturn, 1) := by decide +kernel
theorem dX1_span_22 : decode cX1_span 22 = .ok (.bipush 31, 2) := by decide +kernel
theorem dX1_span_24 : decode cX1_span 24 = .ok (.iload_n 3, 1) := by decide +kernel
theorem dX1_span_25 : decode cX1_span 25 = .ok (.invokestatic 63, 3) := by decide +kernel
theorem dX1_span_28 : decode cX1_span 28 = .ok (.isub, 1) := by decide +kernel
theorem dX1_span_29 : decode cX1_span 29 = .ok (.istore 4, 2) := by decide +kernel
theorem dX1_span_31 : decode cX1_span 31 = .ok (.iload 4, 2) := by decide +kernel
theorem dX1_span_33 : decode cX1_span 33 = .ok (.iload_n 3, 1) := by decide +kernel
theorem dX1_span_34 : decode cX1_span 34 = .ok (.invokestatic 45, 3) := by decide +kernel
theorem dX1_span_37 : decode cX1_span 37 = .ok (.isub, 1) := by decide +kernel
theorem dX1_span_38 : decode cX1_span 38 = .ok (.istore 5, 2) := by decide +kernel
theorem dX1_span_40 : decode cX1_span 40 = .ok (.iload_n 1, 1) := by decide +kernel
theorem dX1_span_41 : decode cX1_span 41 = .ok (.ifCond .eq 14, 3) := by decide +kernel
theorem dX1_span_44 : decode cX1_span 44 = .ok (.iload_n 2, 1) := by decide +kernel
theorem dX1_span_45 : decode cX1_span 45 = .ok (.ifCond .eq 10, 3) := by decide +kernel
theorem dX1_span_48 : decode cX1_span 48 = .ok (.iload 5, 2) := by decide +kernel
theorem dX1_span_50 : decode cX1_span 50 = .ok (.iconst 1, 1) := by decide +kernel
theorem dX1_span_51 : decode cX1_span 51 = .ok (.iadd, 1) := by decide +kernel
theorem dX1_span_52 : decode cX1_span 52 = .ok (.goto 5, 3) := by decide +kernel
theorem dX1_span_55 : decode cX1_span 55 = .ok (.iload 5, 2) := by decide +kernel
theorem dX1_span_57 : decode cX1_span 57 = .ok (.ireturn, 1) := by decide +kernel
def kX1_span_0 : List (Nat × zT) := [(0, a_iload 0 1), (1, a_i 15 3), (3, a_ii (fun x y => x &&& y) 4), (4, a_istore 1 5), (5, a_iload 0 6), (6, a_i 4 7), (7, a_ii (fun x y => x >>> (y &&& 31)) 8), (8, a_i 15 10), (10, a_ii (fun x y => x &&& y) 11), (11, a_istore 2 12), (12, a_iload 1 13), (13, a_iload 2 14), (14, a_ii (fun x y => x ||| y) 15), (15, a_istore 3 16), (16, a_iload 3 17), (17, a_if_ne 22 20), (20, a_i 0 21), (21, a_iret false), (22, a_i 31 24), (24, a_iload 3 25), (25, a_call 215 1 28 0 0), (28, a_ii (fun x y => x - y) 29), (29, a_istore 4 31), (31, a_iload 4 33)]
theorem oX1_span_0 : ∀ q ∈ kX1_span_0, zSnd zty false RX1 cX1_span 6 (some .int) false q := List.forall_mem_cons.mpr ⟨ok_iload_n dX1_span_0 rfl, List.forall_mem_cons.mpr ⟨ok_bipush dX1_span_1 (by decide), List.forall_mem_cons.mpr ⟨ok_iand dX1_span_3, List.forall_mem_cons.mpr ⟨ok_istore_n dX1_span_4 rfl (by decide), List.forall_mem_cons.mpr ⟨ok_iload_n dX1_span_5 rfl, List.forall_mem_cons.mpr ⟨ok_iconst dX1_span_6 (by decide), List.forall_mem_cons.mpr ⟨ok_ishr dX1_span_7, List.forall_mem_cons.mpr ⟨ok_bipush dX1_span_8 (by decide), List.forall_mem_cons.mpr ⟨ok_iand dX1_span_10, List.forall_mem_cons.mpr ⟨ok_istore_n dX1_span_11 rfl (by decide), List.forall_mem_cons.mpr ⟨ok_iload_n dX1_span_12 rfl, List.forall_mem_cons.mpr ⟨ok_iload_n dX1_span_13 rfl, List.forall_mem_cons.mpr ⟨ok_ior dX1_span_14, List.forall_mem_cons.mpr ⟨ok_istore_n dX1_span_15 rfl (by decide), List.forall_mem_cons.mpr ⟨ok_iload_n dX1_span_16 rfl, List.forall_mem_cons.mpr ⟨ok_if_ne dX1_span_17 (by decide), List.forall_mem_cons.mpr ⟨ok_iconst dX1_span_20 (by decide), List.forall_mem_cons.mpr ⟨ok_iret (bz := false) dX1_span_21 rfl, List.forall_mem_cons.mpr ⟨ok_bipush dX1_span_22 (by decide), List.forall_mem_cons.mpr ⟨ok_iload_n dX1_span_24 rfl, List.forall_mem_cons.mpr ⟨ok_callS dX1_span_25 rfl w794 w792 w793 w15 (by decide +kernel) (by decide), List.forall_mem_cons.mpr ⟨ok_isub dX1_span_28, List.forall_mem_cons.mpr ⟨ok_istore dX1_span_29 (by decide), List.forall_mem_cons.mpr ⟨ok_iload dX1_span_31, fun _ h => absurd h List.not_mem_nil⟩⟩⟩⟩⟩⟩⟩⟩⟩⟩⟩⟩⟩⟩⟩⟩⟩⟩⟩⟩⟩⟩⟩⟩
def kX1_span_1 : List (Nat × zT) := [(33, a_iload 3 34), (34, a_call 216 1 37 0 0), (37, a_ii (fun x y => x - y) 38), (38, a_istore 5 40), (40, a_iload 1 41), (41, a_if_eq 55 44), (44, a_iload 2 45), (45, a_if_eq 55 48), (48, a_iload 5 50), (50, a_i 1 51), (51, a_ii (fun x y => x + y) 52), (52, a_goto 57), (55, a_iload 5 57), (57, a_iret false)]
theorem oX1_span_1 : ∀ q ∈ kX1_span_1, zSnd zty false RX1 cX1_span 6 (some .int) false q := List.forall_mem_cons.mpr ⟨ok_iload_n dX1_span_33 rfl, List.forall_mem_cons.mpr ⟨ok_callS dX1_span_34 rfl w641 w754 w640 w15 (by decide +kernel) (by decide), List.forall_mem_cons.mpr ⟨ok_isub dX1_span_37, List.forall_mem_cons.mpr ⟨ok_istore dX1_span_38 (by decide), List.forall_mem_cons.mpr ⟨ok_iload_n dX1_span_40 rfl, List.forall_mem_cons.mpr ⟨ok_if_eq dX1_span_41 (by decide), List.forall_mem_cons.mpr ⟨ok_iload_n dX1_span_44 rfl, List.forall_mem_cons.mpr ⟨ok_if_eq dX1_span_45 (by decide), List.forall_mem_cons.mpr ⟨ok_iload dX1_span_48, List.forall_mem_cons.mpr ⟨ok_iconst dX1_span_50 (by decide), List.forall_mem_cons.mpr ⟨ok_iadd dX1_span_51, List.forall_mem_cons.mpr ⟨ok_goto dX1_span_52 (by decide), List.forall_mem_cons.mpr ⟨ok_iload dX1_span_55, List.forall_mem_cons.mpr ⟨ok_iret (bz := false) dX1_span_57 rfl, fun _ h => absurd h List.not_mem_nil⟩⟩⟩⟩⟩⟩⟩⟩⟩⟩⟩⟩⟩⟩
def kX1_span : List (Nat × zT) := kX1_span_0 ++ (kX1_span_1)
theorem qX1_span_0 : ∀ q ∈ kX1_span_0, q ∈ kX1_span := fun _ h => (List.mem_append_left _ h)
theorem tX1_span_0 : (0, a_iload 0 1) ∈ kX1_span := qX1_span_0 _ (List.mem_of_getElem? (i := 0) rfl)
theorem tX1_span_1 : (1, a_i 15 3) ∈ kX1_span := qX1_span_0 _ (List.mem_of_getElem? (i := 1) rfl)
theorem tX1_span_3 : (3, a_ii (fun x y => x &&& y) 4) ∈ kX1_span := qX1_span_0 _ (List.mem_of_getElem? (i := 2) rfl)
theorem tX1_span_4 : (4, a_istore 1 5) ∈ kX1_span := qX1_span_0 _ (List.mem_of_getElem? (i := 3) rfl)
theorem tX1_span_5 : (5, a_iload 0 6) ∈ kX1_span := qX1_span_0 _ (List.mem_of_getElem? (i := 4) rfl)
theorem tX1_span_6 : (6, a_i 4 7) ∈ kX1_span := qX1_span_0 _ (List.mem_of_getElem? (i := 5) rfl)
theorem tX1_span_7 : (7, a_ii (fun x y => x >>> (y &&& 31)) 8) ∈ kX1_span := qX1_span_0 _ (List.mem_of_getElem? (i := 6) rfl)
theorem tX1_span_8 : (8, a_i 15 10) ∈ kX1_span := qX1_span_0 _ (List.mem_of_getElem? (i := 7) rfl)
theorem tX1_span_10 : (10, a_ii (fun x y => x &&& y) 11) ∈ kX1_span := qX1_span_0 _ (List.mem_of_getElem? (i := 8) rfl)
theorem tX1_span_11 : (11, a_istore 2 12) ∈ kX1_span := qX1_span_0 _ (List.mem_of_getElem? (i := 9) rfl)
theorem tX1_span_12 : (12, a_iload 1 13) ∈ kX1_span := qX1_span_0 _ (List.mem_of_getElem? (i := 10) rfl)
theorem tX1_span_13 : (13, a_iload 2 14) ∈ kX1_span := qX1_span_0 _ (List.mem_of_getElem? (i := 11) rfl)
theorem tX1_span_14 : (14, a_ii (fun x y => x ||| y) 15) ∈ kX1_span := qX1_span_0 _ (List.mem_of_getElem? (i := 12) rfl)
theorem tX1_span_15 : (15, a_istore 3 16) ∈ kX1_span := qX1_span_0 _ (List.mem_of_getElem? (i := 13) rfl)
theorem tX1_span_16 : (16, a_iload 3 17) ∈ kX1_span := qX1_span_0 _ (List.mem_of_getElem? (i := 14) rfl)
theorem tX1_span_17 : (17, a_if_ne 22 20) ∈ kX1_span := qX1_span_0 _ (List.mem_of_getElem? (i := 15) rfl)
theorem tX1_span_20 : (20, a_i 0 21) ∈ kX1_span := qX1_span_0 _ (List.mem_of_getElem? (i := 16) rfl)
theorem tX1_span_21 : (21, a_iret false) ∈ kX1_span := qX1_span_0 _ (List.mem_of_getElem? (i := 17) rfl)
theorem tX1_span_22 : (22, a_i 31 24) ∈ kX1_span := qX1_span_0 _ (List.mem_of_getElem? (i := 18) rfl)
theorem tX1_span_24 : (24, a_iload 3 25) ∈ kX1_span := qX1_span_0 _ (List.mem_of_getElem? (i := 19) rfl)
theorem tX1_span_25 : (25, a_call 215 1 28 0 0) ∈ kX1_span := qX1_span_0 _ (List.mem_of_getElem? (i := 20) rfl)
theorem tX1_span_28 : (28, a_ii (fun x y => x - y) 29) ∈ kX1_span := qX1_span_0 _ (List.mem_of_getElem? (i := 21) rfl)
theorem tX1_span_29 : (29, a_istore 4 31) ∈ kX1_span := qX1_span_0 _ (List.mem_of_getElem? (i := 22) rfl)
theorem tX1_span_31 : (31, a_iload 4 33) ∈ kX1_span := qX1_span_0 _ (List.mem_of_getElem? (i := 23) rfl)
theorem qX1_span_1 : ∀ q ∈ kX1_span_1, q ∈ kX1_span := fun _ h => (List.mem_append_right _ h)
theorem tX1_span_33 : (33, a_iload 3 34) ∈ kX1_span := qX1_span_1 _ (List.mem_of_getElem? (i := 0) rfl)
theorem tX1_span_34 : (34, a_call 216 1 37 0 0) ∈ kX1_span := qX1_span_1 _ (List.mem_of_getElem? (i := 1) rfl)
theorem tX1_span_37 : (37, a_ii (fun x y => x - y) 38) ∈ kX1_span := qX1_span_1 _ (List.mem_of_getElem? (i := 2) rfl)
theorem tX1_span_38 : (38, a_istore 5 40) ∈ kX1_span := qX1_span_1 _ (List.mem_of_getElem? (i := 3) rfl)
theorem tX1_span_40 : (40, a_iload 1 41) ∈ kX1_span := qX1_span_1 _ (List.mem_of_getElem? (i := 4) rfl)
theorem tX1_span_41 : (41, a_if_eq 55 44) ∈ kX1_span := qX1_span_1 _ (List.mem_of_getElem? (i := 5) rfl)
theorem tX1_span_44 : (44, a_iload 2 45) ∈ kX1_span := qX1_span_1 _ (List.mem_of_getElem? (i := 6) rfl)
theorem tX1_span_45 : (45, a_if_eq 55 48) ∈ kX1_span := qX1_span_1 _ (List.mem_of_getElem? (i := 7) rfl)
theorem tX1_span_48 : (48, a_iload 5 50) ∈ kX1_span := qX1_span_1 _ (List.mem_of_getElem? (i := 8) rfl)
theorem tX1_span_50 : (50, a_i 1 51) ∈ kX1_span := qX1_span_1 _ (List.mem_of_getElem? (i := 9) rfl)
theorem tX1_span_51 : (51, a_ii (fun x y => x + y) 52) ∈ kX1_span := qX1_span_1 _ (List.mem_of_getElem? (i := 10) rfl)
theorem tX1_span_52 : (52, a_goto 57) ∈ kX1_span := qX1_span_1 _ (List.mem_of_getElem? (i := 11) rfl)
theorem tX1_span_55 : (55, a_iload 5 57) ∈ kX1_span := qX1_span_1 _ (List.mem_of_getElem? (i := 12) rfl)
theorem tX1_span_57 : (57, a_iret false) ∈ kX1_span := qX1_span_1 _ (List.mem_of_getElem? (i := 13) rfl)
theorem oX1_span : ∀ q ∈ kX1_span, zSnd zty false RX1 cX1_span 6 (some .int) false q := List.forall_mem_append.mpr ⟨oX1_span_0, oX1_span_1⟩
theorem dX1_findLeast_0 : decode cX1_findLeast 0 = .ok (.aload_n 0, 1) := by decide +kernel
theorem dX1_findLeast_1 : decode cX1_findLeast 1 = .ok (.getfield 31, 3) := by decide +kernel
theorem dX1_findLeast_4 : decode cX1_findLeast 4 = .ok (.ifCond .eq 4, 3) := by decide +kernel
theorem dX1_findLeast_7 : decode cX1_findLeast 7 = .ok (.return_, 1) := by decide +kernel
theorem dX1_findLeast_8 : decode cX1_findLeast 8 = .ok (.aload_n 0, 1) := by decide +kernel
theorem dX1_findLeast_9 : decode cX1_findLeast 9 = .ok (.sipush 1000, 3) := by decide +kernel
theorem dX1_findLeast_12 : decode cX1_findLeast 12 = .ok (.putfield 28, 3) := by decide +kernel
theorem dX1_findLeast_15 : decode cX1_findLeast 15 = .ok (.aload_n 0, 1) := by decide +kernel
theorem dX1_findLeast_16 : decode cX1_findLeast 16 = .ok (.iconst 0, 1) := by decide +kernel
theorem dX1_findLeast_17 : decode cX1_findLeast 17 = .ok (.iconst 0, 1) := by decide +kernel
theorem dX1_findLeast_18 : decode cX1_findLeast 18 = .ok (.invokestatic 66, 3) := by decide +kernel
theorem dX1_findLeast_21 : decode cX1_findLeast 21 = .ok (.aload_n 0, 1) := by decide +kernel
theorem dX1_findLeast_22 : decode cX1_findLeast 22 = .ok (.iconst 1, 1) := by decide +kernel
theorem dX1_findLeast_23 : decode cX1_findLeast 23 = .ok (.putfield 31, 3) := by decide +kernel
theorem dX1_findLeast_26 : decode cX1_findLeast 26 = .ok (.return_, 1) := by decide +kernel
def kX1_findLeast_0 : List (Nat × zT) := [(0, a_aload 0 1), (1, a_getI 1 6 4), (4, a_if_eq 8 7), (7, a_vret), (8, a_aload 0 9), (9, a_i 1000 12), (12, a_putI 1 5 15 false), (15, a_aload 0 16), (16, a_i 0 17), (17, a_i 0 18), (18, a_call 15 3 21 0 0), (21, a_aload 0 22), (22, a_i 1 23), (23, a_putI 1 6 26 true), (26, a_vret)]
theorem oX1_findLeast_0 : ∀ q ∈ kX1_findLeast_0, zSnd zty false RX1 cX1_findLeast 1 none false q := List.forall_mem_cons.mpr ⟨ok_aload_n dX1_findLeast_0 rfl, List.forall_mem_cons.mpr ⟨ok_getI dX1_findLeast_1 rfl in1 (by decide) rfl w250, List.forall_mem_cons.mpr ⟨ok_if_eq dX1_findLeast_4 (by decide), List.forall_mem_cons.mpr ⟨ok_vret dX1_findLeast_7 rfl, List.forall_mem_cons.mpr ⟨ok_aload_n dX1_findLeast_8 rfl, List.forall_mem_cons.mpr ⟨ok_sipush dX1_findLeast_9 (by decide), List.forall_mem_cons.mpr ⟨ok_putI (bz := false) dX1_findLeast_12 rfl in1 tyX1 tyX1_ok nmX1 (by decide) rfl w248 rfl rfl, List.forall_mem_cons.mpr ⟨ok_aload_n dX1_findLeast_15 rfl, List.forall_mem_cons.mpr ⟨ok_iconst dX1_findLeast_16 (by decide), List.forall_mem_cons.mpr ⟨ok_iconst dX1_findLeast_17 (by decide), List.forall_mem_cons.mpr ⟨ok_callS dX1_findLeast_18 rfl w806 w804 w805 w10 (by decide +kernel) (by decide), List.forall_mem_cons.mpr ⟨ok_aload_n dX1_findLeast_21 rfl, List.forall_mem_cons.mpr ⟨ok_iconst dX1_findLeast_22 (by decide), List.forall_mem_cons.mpr ⟨ok_putI (bz := true) dX1_findLeast_23 rfl in1 tyX1 tyX1_ok nmX1 (by decide) rfl w250 rfl rfl, List.forall_mem_cons.mpr ⟨ok_vret dX1_findLeast_26 rfl, fun _ h => absurd h List.not_mem_nil⟩⟩⟩⟩⟩⟩⟩⟩⟩⟩⟩⟩⟩⟩⟩
def kX1_findLeast : List (Nat × zT) := kX1_findLeast_0
theorem qX1_findLeast_0 : ∀ q ∈ kX1_findLeast_0, q ∈ kX1_findLeast := fun _ h => h
theorem tX1_findLeast_0 : (0, a_aload 0 1) ∈ kX1_findLeast := qX1_findLeast_0 _ (List.mem_of_getElem? (i := 0) rfl)
theorem tX1_findLeast_1 : (1, a_getI 1 6 4) ∈ kX1_findLeast := qX1_findLeast_0 _ (List.mem_of_getElem? (i := 1) rfl)
theorem tX1_findLeast_4 : (4, a_if_eq 8 7) ∈ kX1_findLeast := qX1_findLeast_0 _ (List.mem_of_getElem? (i := 2) rfl)
theorem tX1_findLeast_7 : (7, a_vret) ∈ kX1_findLeast := qX1_findLeast_0 _ (List.mem_of_getElem? (i := 3) rfl)
theorem tX1_findLeast_8 : (8, a_aload 0 9) ∈ kX1_findLeast := qX1_findLeast_0 _ (List.mem_of_getElem? (i := 4) rfl)
theorem tX1_findLeast_9 : (9, a_i 1000 12) ∈ kX1_findLeast := qX1_findLeast_0 _ (List.mem_of_getElem? (i := 5) rfl)
theorem tX1_findLeast_12 : (12, a_putI 1 5 15 false) ∈ kX1_findLeast := qX1_findLeast_0 _ (List.mem_of_getElem? (i := 6) rfl)
theorem tX1_findLeast_15 : (15, a_aload 0 16) ∈ kX1_findLeast := qX1_findLeast_0 _ (List.mem_of_getElem? (i := 7) rfl)
theorem tX1_findLeast_16 : (16, a_i 0 17) ∈ kX1_findLeast := qX1_findLeast_0 _ (List.mem_of_getElem? (i := 8) rfl)
theorem tX1_findLeast_17 : (17, a_i 0 18) ∈ kX1_findLeast := qX1_findLeast_0 _ (List.mem_of_getElem? (i := 9) rfl)
theorem tX1_findLeast_18 : (18, a_call 15 3 21 0 0) ∈ kX1_findLeast := qX1_findLeast_0 _ (List.mem_of_getElem? (i := 10) rfl)
theorem tX1_findLeast_21 : (21, a_aload 0 22) ∈ kX1_findLeast := qX1_findLeast_0 _ (List.mem_of_getElem? (i := 11) rfl)
theorem tX1_findLeast_22 : (22, a_i 1 23) ∈ kX1_findLeast := qX1_findLeast_0 _ (List.mem_of_getElem? (i := 12) rfl)
theorem tX1_findLeast_23 : (23, a_putI 1 6 26 true) ∈ kX1_findLeast := qX1_findLeast_0 _ (List.mem_of_getElem? (i := 13) rfl)
theorem tX1_findLeast_26 : (26, a_vret) ∈ kX1_findLeast := qX1_findLeast_0 _ (List.mem_of_getElem? (i := 14) rfl)
theorem oX1_findLeast : ∀ q ∈ kX1_findLeast, zSnd zty false RX1 cX1_findLeast 1 none false q := oX1_findLeast_0
theorem dX1_layFrom_0 : decode cX1_layFrom 0 = .ok (.iload_n 1, 1) := by decide +kernel
theorem dX1_layFrom_1 : decode cX1_layFrom 1 = .ok (.aload_n 0, 1) := by decide +kernel
theorem dX1_layFrom_2 : decode cX1_layFrom 2 = .ok (.getfield 18, 3) := by decide +kernel
theorem dX1_layFrom_5 : decode cX1_layFrom 5 = .ok (.if_icmp .ge 9, 3) := by decide +kernel
theorem dX1_layFrom_8 : decode cX1_layFrom 8 = .ok (.iload_n 1, 1) := by decide +kernel
theorem dX1_layFrom_9 : decode cX1_layFrom 9 = .ok (.bipush 7, 2) := by decide +kernel
theorem dX1_layFrom_11 : decode cX1_layFrom 11 = .ok (.if_icmp .lt 27, 3) := by decide +kernel
theorem dX1_layFrom_14 : decode cX1_layFrom 14 = .ok (.aload_n 0, 1) := by decide +kernel
theorem dX1_layFrom_15 : decode cX1_layFrom 15 = .ok (.aload_n 0, 1) := by decide +kernel
theorem dX1_layFrom_16 : decode cX1_layFrom 16 = .ok (.invokevirtual 70, 3) := by decide +kernel
theorem dX1_layFrom_19 : decode cX1_layFrom 19 = .ok (.putfield 28, 3) := by decide +kernel
theorem dX1_layFrom_22 : decode cX1_layFrom 22 = .ok (.aload_n 0, 1) := by decide +kernel
theorem dX1_layFrom_23 : decode cX1_layFrom 23 = .ok (.getfield 35, 3) := by decide +kernel
theorem dX1_layFrom_26 : decode cX1_layFrom 26 = .ok (.iconst 0, 1) := by decide +kernel
theorem dX1_layFrom_27 : decode cX1_layFrom 27 = .ok (.aload_n 0, 1) := by decide +kernel
theorem dX1_layFrom_28 : decode cX1_layFrom 28 = .ok (.getfield 25, 3) := by decide +kernel
theorem dX1_layFrom_31 : decode cX1_layFrom 31 = .ok (.iconst 0, 1) := by decide +kernel
theorem dX1_layFrom_32 : decode cX1_layFrom 32 = .ok (.bipush 7, 2) := by decide +kernel
theorem dX1_layFrom_34 : decode cX1_layFrom 34 = .ok (.invokestatic 74, 3) := by decide +kernel
theorem dX1_layFrom_37 : decode cX1_layFrom 37 = .ok (.return_, 1) := by decide +kernel
theorem dX1_layFrom_38 : decode cX1_layFrom 38 = .ok (.iload_n 1, 1) := by decide +kernel
theorem dX1_layFrom_39 : decode cX1_layFrom 39 = .ok (.ifCond .ne 7, 3) := by decide +kernel
theorem dX1_layFrom_42 : decode cX1_layFrom 42 = .ok (.iconst 2, 1) := by decide +kernel
theorem dX1_layFrom_43 : decode cX1_layFrom 43 = .ok (.goto 5, 3) := by decide +kernel
theorem dX1_layFrom_46 : decode cX1_layFrom 46 = .ok (.bipush 8, 2) := by decide +kernel
theorem dX1_layFrom_48 : decode cX1_layFrom 48 = .ok (.istore_n 3, 1) := by decide +kernel
theorem dX1_layFrom_49 : decode cX1_layFrom 49 = .ok (.iconst 0, 1) := by decide +kernel
theorem dX1_layFrom_50 : decode cX1_layFrom 50 = .ok (.istore 4, 2) := by decide +kernel
theorem dX1_layFrom_52 : decode cX1_layFrom 52 = .ok (.iload 4, 2) := by decide +kernel
theorem dX1_layFrom_54 : decode cX1_layFrom 54 = .ok (.iload_n 3, 1) := by decide +kernel
theorem dX1_layFrom_55 : decode cX1_layFrom 55 = .ok (.if_icmp .ge 64, 3) := by decide +kernel
theorem dX1_layFrom_58 : decode cX1_layFrom 58 = .ok (.iload_n 2, 1) := by decide +kernel
theorem dX1_layFrom_59 : decode cX1_layFrom 59 = .ok (.iload 4, 2) := by decide +kernel
theorem dX1_layFrom_61 : decode cX1_layFrom 61 = .ok (.invokestatic 54, 3) := by decide +kernel
theorem dX1_layFrom_64 : decode cX1_layFrom 64 = .ok (.ifCond .ne 49, 3) := by decide +kernel
theorem dX1_layFrom_67 : decode cX1_layFrom 67 = .ok (.aload_n 0, 1) := by decide +kernel
theorem dX1_layFrom_68 : decode cX1_layFrom 68 = .ok (.getfield 35, 3) := by decide +kernel
theorem dX1_layFrom_71 : decode cX1_layFrom 71 = .ok (.iload_n 1, 1) := by decide +kernel
theorem dX1_layFrom_72 : decode cX1_layFrom 72 = .ok (.iload 4, 2) := by decide +kernel
theorem dX1_layFrom_74 : decode cX1_layFrom 74 = .ok (.iastore, 1) := by decide +kernel
theorem dX1_layFrom_75 : decode cX1_layFrom 75 = .ok (.aload_n 0, 1) := by decide +kernel
theorem dX1_layFrom_76 : decode cX1_layFrom 76 = .ok (.iload_n 1, 1) := by decide +kernel
theorem dX1_layFrom_77 : decode cX1_layFrom 77 = .ok (.iload 4, 2) := by decide +kernel
theorem dX1_layFrom_79 : decode cX1_layFrom 79 = .ok (.invokevirtual 80, 3) := by decide +kernel
theorem dX1_layFrom_82 : decode cX1_layFrom 82 = .ok (.aload_n 0, 1) := by decide +kernel
theorem dX1_layFrom_83 : decode cX1_layFrom 83 = .ok (.invokevirtual 70, 3) := by decide +kernel
theorem dX1_layFrom_86 : decode cX1_layFrom 86 = .ok (.aload_n 0, 1) := by decide +kernel
theorem dX1_layFrom_87 : decode cX1_layFrom 87 = .ok (.getfield 28, 3) := by decide +kernel
theorem dX1_layFrom_90 : decode cX1_layFrom 90 = .ok (.if_icmp .ge 16, 3) := by decide +kernel
theorem dX1_layFrom_93 : decode cX1_layFrom 93 = .ok (.aload_n 0, 1) := by decide +kernel
theorem dX1_layFrom_94 : decode cX1_layFrom 94 = .ok (.iload_n 1, 1) := by decide +kernel
theorem dX1_layFrom_95 : decode cX1_layFrom 95 = .ok (.iconst 1, 1) := by decide +kernel
theorem dX1_layFrom_96 : decode cX1_layFrom 96 = .ok (.iadd, 1) := by decide +kernel
theorem dX1_layFrom_97 : decode cX1_layFrom 97 = .ok (.iload_n 2, 1) := by decide +kernel
theorem dX1_layFrom_98 : decode cX1_layFrom 98 = .ok (.iconst 1, 1) := by decide +kernel
theorem dX1_layFrom_99 : decode cX1_layFrom 99 = .ok (.iload 4, 2) := by decide +kernel
theorem dX1_layFrom_101 : decode cX1_layFrom 101 = .ok (.ishl, 1) := by decide +kernel
theorem dX1_layFrom_102 : decode cX1_layFrom 102 = .ok (.ior, 1) := by decide +kernel
theorem dX1_layFrom_103 : decode cX1_layFrom 103 = .ok (.invokestatic 66, 3) := by decide +kernel
theorem dX1_layFrom_106 : decode cX1_layFrom 106 = .ok (.aload_n 0, 1) := by decide +kernel
theorem dX1_layFrom_107 : decode cX1_layFrom 107 = .ok (.iload_n 1, 1) := by decide +kernel
theorem dX1_layFrom_108 : decode cX1_layFrom 108 = .ok (.iload 4, 2) := by decide +kernel
theorem dX1_layFrom_110 : decode cX1_layFrom 110 = .ok (.invokevirtual 80, 3) := by decide +kernel
theorem dX1_layFrom_113 : decode cX1_layFrom 113 = .ok (.iinc 4 1, 3) := by decide +kernel
theorem dX1_layFrom_116 : decode cX1_layFrom 116 = .ok (.goto (-64), 3) := by decide +kernel
theorem dX1_layFrom_119 : decode cX1_layFrom 119 = .ok (.return_, 1) := by decide +kernel
def kX1_layFrom_0 : List (Nat × zT) := [(0, a_iload 1 1), (1, a_aload 0 2), (2, a_getI 1 2 5), (5, a_ic_ge 14 8), (8, a_iload 1 9), (9, a_i 7 11), (11, a_ic_lt 38 14), (14, a_aload 0 15), (15, a_aload 0 16), (16, a_callV 1 17 1 19 0 0), (19, a_putI 1 5 22 false), (22, a_aload 0 23), (23, a_getR 1 7 26), (26, a_i 0 27), (27, a_aload 0 28), (28, a_getR 1 4 31), (31, a_i 0 32), (32, a_i 7 34), (34, a_copy 37), (37, a_vret), (38, a_iload 1 39), (39, a_if_ne 46 42), (42, a_i 2 43), (43, a_goto 48)]
theorem oX1_layFrom_0 : ∀ q ∈ kX1_layFrom_0, zSnd zty false RX1 cX1_layFrom 5 none false q := List.forall_mem_cons.mpr ⟨ok_iload_n dX1_layFrom_0 rfl, List.forall_mem_cons.mpr ⟨ok_aload_n dX1_layFrom_1 rfl, List.forall_mem_cons.mpr ⟨ok_getI dX1_layFrom_2 rfl in1 (by decide) rfl w242, List.forall_mem_cons.mpr ⟨ok_ic_ge dX1_layFrom_5 (by decide), List.forall_mem_cons.mpr ⟨ok_iload_n dX1_layFrom_8 rfl, List.forall_mem_cons.mpr ⟨ok_bipush dX1_layFrom_9 (by decide), List.forall_mem_cons.mpr ⟨ok_ic_lt dX1_layFrom_11 (by decide), List.forall_mem_cons.mpr ⟨ok_aload_n dX1_layFrom_14 rfl, List.forall_mem_cons.mpr ⟨ok_aload_n dX1_layFrom_15 rfl, List.forall_mem_cons.mpr ⟨ok_callV dX1_layFrom_16 rfl rfl w810 w807 w809 w10 s15 (by decide +kernel) (by decide), List.forall_mem_cons.mpr ⟨ok_putI (bz := false) dX1_layFrom_19 rfl in1 tyX1 tyX1_ok nmX1 (by decide) rfl w248 rfl rfl, List.forall_mem_cons.mpr ⟨ok_aload_n dX1_layFrom_22 rfl, List.forall_mem_cons.mpr ⟨ok_getR dX1_layFrom_23 rfl in1 (by decide) rfl w251, List.forall_mem_cons.mpr ⟨ok_iconst dX1_layFrom_26 (by decide), List.forall_mem_cons.mpr ⟨ok_aload_n dX1_layFrom_27 rfl, List.forall_mem_cons.mpr ⟨ok_getR dX1_layFrom_28 rfl in1 (by decide) rfl w246, List.forall_mem_cons.mpr ⟨ok_iconst dX1_layFrom_31 (by decide), List.forall_mem_cons.mpr ⟨ok_bipush dX1_layFrom_32 (by decide), List.forall_mem_cons.mpr ⟨ok_copy dX1_layFrom_34 rfl w817 w502 w501 w16 (by decide +kernel), List.forall_mem_cons.mpr ⟨ok_vret dX1_layFrom_37 rfl, List.forall_mem_cons.mpr ⟨ok_iload_n dX1_layFrom_38 rfl, List.forall_mem_cons.mpr ⟨ok_if_ne dX1_layFrom_39 (by decide), List.forall_mem_cons.mpr ⟨ok_iconst dX1_layFrom_42 (by decide), List.forall_mem_cons.mpr ⟨ok_goto dX1_layFrom_43 (by decide), fun _ h => absurd h List.not_mem_nil⟩⟩⟩⟩⟩⟩⟩⟩⟩⟩⟩⟩⟩⟩⟩⟩⟩⟩⟩⟩⟩⟩⟩⟩
def kX1_layFrom_1 : List (Nat × zT) := [(46, a_i 8 48), (48, a_istore 3 49), (49, a_i 0 50), (50, a_istore 4 52), (52, a_iload 4 54), (54, a_iload 3 55), (55, a_ic_ge 119 58), (58, a_iload 2 59), (59, a_iload 4 61), (61, a_call 132 2 64 0 0), (64, a_if_ne 113 67), (67, a_aload 0 68), (68, a_getR 1 7 71), (71, a_iload 1 72), (72, a_iload 4 74), (74, a_iast 75), (75, a_aload 0 76), (76, a_iload 1 77), (77, a_iload 4 79), (79, a_callV 1 16 3 82 0 0), (82, a_aload 0 83), (83, a_callV 1 17 1 86 0 0), (86, a_aload 0 87), (87, a_getI 1 5 90)]
theorem oX1_layFrom_1 : ∀ q ∈ kX1_layFrom_1, zSnd zty false RX1 cX1_layFrom 5 none false q := List.forall_mem_cons.mpr ⟨ok_bipush dX1_layFrom_46 (by decide), List.forall_mem_cons.mpr ⟨ok_istore_n dX1_layFrom_48 rfl (by decide), List.forall_mem_cons.mpr ⟨ok_iconst dX1_layFrom_49 (by decide), List.forall_mem_cons.mpr ⟨ok_istore dX1_layFrom_50 (by decide), List.forall_mem_cons.mpr ⟨ok_iload dX1_layFrom_52, List.forall_mem_cons.mpr ⟨ok_iload_n dX1_layFrom_54 rfl, List.forall_mem_cons.mpr ⟨ok_ic_ge dX1_layFrom_55 (by decide), List.forall_mem_cons.mpr ⟨ok_iload_n dX1_layFrom_58 rfl, List.forall_mem_cons.mpr ⟨ok_iload dX1_layFrom_59, List.forall_mem_cons.mpr ⟨ok_callSN dX1_layFrom_61 rfl w433 n753 w432 w1 (by decide +kernel) (by decide), List.forall_mem_cons.mpr ⟨ok_if_ne dX1_layFrom_64 (by decide), List.forall_mem_cons.mpr ⟨ok_aload_n dX1_layFrom_67 rfl, List.forall_mem_cons.mpr ⟨ok_getR dX1_layFrom_68 rfl in1 (by decide) rfl w251, List.forall_mem_cons.mpr ⟨ok_iload_n dX1_layFrom_71 rfl, List.forall_mem_cons.mpr ⟨ok_iload dX1_layFrom_72, List.forall_mem_cons.mpr ⟨ok_iast dX1_layFrom_74, List.forall_mem_cons.mpr ⟨ok_aload_n dX1_layFrom_75 rfl, List.forall_mem_cons.mpr ⟨ok_iload_n dX1_layFrom_76 rfl, List.forall_mem_cons.mpr ⟨ok_iload dX1_layFrom_77, List.forall_mem_cons.mpr ⟨ok_callV dX1_layFrom_79 rfl rfl w821 w818 w820 w10 s16 (by decide +kernel) (by decide), List.forall_mem_cons.mpr ⟨ok_aload_n dX1_layFrom_82 rfl, List.forall_mem_cons.mpr ⟨ok_callV dX1_layFrom_83 rfl rfl w810 w807 w809 w10 s15 (by decide +kernel) (by decide), List.forall_mem_cons.mpr ⟨ok_aload_n dX1_layFrom_86 rfl, List.forall_mem_cons.mpr ⟨ok_getI dX1_layFrom_87 rfl in1 (by decide) rfl w248, fun _ h => absurd h List.not_mem_nil⟩⟩⟩⟩⟩⟩⟩⟩⟩⟩⟩⟩⟩⟩⟩⟩⟩⟩⟩⟩⟩⟩⟩⟩
def kX1_layFrom_2 : List (Nat × zT) := [(90, a_ic_ge 106 93), (93, a_aload 0 94), (94, a_iload 1 95), (95, a_i 1 96), (96, a_ii (fun x y => x + y) 97), (97, a_iload 2 98), (98, a_i 1 99), (99, a_iload 4 101), (101, a_ii (fun x y => x <<< (y &&& 31)) 102), (102, a_ii (fun x y => x ||| y) 103), (103, a_call 15 3 106 0 0), (106, a_aload 0 107), (107, a_iload 1 108), (108, a_iload 4 110), (110, a_callV 1 16 3 113 0 0), (113, a_iinc 4 1 116), (116, a_goto 52), (119, a_vret)]
theorem oX1_layFrom_2 : ∀ q ∈ kX1_layFrom_2, zSnd zty false RX1 cX1_layFrom 5 none false q := List.forall_mem_cons.mpr ⟨ok_ic_ge dX1_layFrom_90 (by decide), List.forall_mem_cons.mpr ⟨ok_aload_n dX1_layFrom_93 rfl, List.forall_mem_cons.mpr ⟨ok_iload_n dX1_layFrom_94 rfl, List.forall_mem_cons.mpr ⟨ok_iconst dX1_layFrom_95 (by decide), List.forall_mem_cons.mpr ⟨ok_iadd dX1_layFrom_96, List.forall_mem_cons.mpr ⟨ok_iload_n dX1_layFrom_97 rfl, List.forall_mem_cons.mpr ⟨ok_iconst dX1_layFrom_98 (by decide), List.forall_mem_cons.mpr ⟨ok_iload dX1_layFrom_99, List.forall_mem_cons.mpr ⟨ok_ishl dX1_layFrom_101, List.forall_mem_cons.mpr ⟨ok_ior dX1_layFrom_102, List.forall_mem_cons.mpr ⟨ok_callS dX1_layFrom_103 rfl w806 w804 w805 w10 (by decide +kernel) (by decide), List.forall_mem_cons.mpr ⟨ok_aload_n dX1_layFrom_106 rfl, List.forall_mem_cons.mpr ⟨ok_iload_n dX1_layFrom_107 rfl, List.forall_mem_cons.mpr ⟨ok_iload dX1_layFrom_108, List.forall_mem_cons.mpr ⟨ok_callV dX1_layFrom_110 rfl rfl w821 w818 w820 w10 s16 (by decide +kernel) (by decide), List.forall_mem_cons.mpr ⟨ok_iinc dX1_layFrom_113 (by decide) (by decide), List.forall_mem_cons.mpr ⟨ok_goto dX1_layFrom_116 (by decide), List.forall_mem_cons.mpr ⟨ok_vret dX1_layFrom_119 rfl, fun _ h => absurd h List.not_mem_nil⟩⟩⟩⟩⟩⟩⟩⟩⟩⟩⟩⟩⟩⟩⟩⟩⟩⟩
def kX1_layFrom : List (Nat × zT) := kX1_layFrom_0 ++ (kX1_layFrom_1 ++ (kX1_layFrom_2))
theorem qX1_layFrom_0 : ∀ q ∈ kX1_layFrom_0, q ∈ kX1_layFrom := fun _ h => (List.mem_append_left _ h)
theorem tX1_layFrom_0 : (0, a_iload 1 1) ∈ kX1_layFrom := qX1_layFrom_0 _ (List.mem_of_getElem? (i := 0) rfl)
theorem tX1_layFrom_1 : (1, a_aload 0 2) ∈ kX1_layFrom := qX1_layFrom_0 _ (List.mem_of_getElem? (i := 1) rfl)
theorem tX1_layFrom_2 : (2, a_getI 1 2 5) ∈ kX1_layFrom := qX1_layFrom_0 _ (List.mem_of_getElem? (i := 2) rfl)
theorem tX1_layFrom_5 : (5, a_ic_ge 14 8) ∈ kX1_layFrom := qX1_layFrom_0 _ (List.mem_of_getElem? (i := 3) rfl)
theorem tX1_layFrom_8 : (8, a_iload 1 9) ∈ kX1_layFrom := qX1_layFrom_0 _ (List.mem_of_getElem? (i := 4) rfl)
theorem tX1_layFrom_9 : (9, a_i 7 11) ∈ kX1_layFrom := qX1_layFrom_0 _ (List.mem_of_getElem? (i := 5) rfl)
theorem tX1_layFrom_11 : (11, a_ic_lt 38 14) ∈ kX1_layFrom := qX1_layFrom_0 _ (List.mem_of_getElem? (i := 6) rfl)
theorem tX1_layFrom_14 : (14, a_aload 0 15) ∈ kX1_layFrom := qX1_layFrom_0 _ (List.mem_of_getElem? (i := 7) rfl)
theorem tX1_layFrom_15 : (15, a_aload 0 16) ∈ kX1_layFrom := qX1_layFrom_0 _ (List.mem_of_getElem? (i := 8) rfl)
theorem tX1_layFrom_16 : (16, a_callV 1 17 1 19 0 0) ∈ kX1_layFrom := qX1_layFrom_0 _ (List.mem_of_getElem? (i := 9) rfl)
theorem tX1_layFrom_19 : (19, a_putI 1 5 22 false) ∈ kX1_layFrom := qX1_layFrom_0 _ (List.mem_of_getElem? (i := 10) rfl)
theorem tX1_layFrom_22 : (22, a_aload 0 23) ∈ kX1_layFrom := qX1_layFrom_0 _ (List.mem_of_getElem? (i := 11) rfl)
theorem tX1_layFrom_23 : (23, a_getR 1 7 26) ∈ kX1_layFrom := qX1_layFrom_0 _ (List.mem_of_getElem? (i := 12) rfl)
theorem tX1_layFrom_26 : (26, a_i 0 27) ∈ kX1_layFrom := qX1_layFrom_0 _ (List.mem_of_getElem? (i := 13) rfl)
theorem tX1_layFrom_27 : (27, a_aload 0 28) ∈ kX1_layFrom := qX1_layFrom_0 _ (List.mem_of_getElem? (i := 14) rfl)
theorem tX1_layFrom_28 : (28, a_getR 1 4 31) ∈ kX1_layFrom := qX1_layFrom_0 _ (List.mem_of_getElem? (i := 15) rfl)
theorem tX1_layFrom_31 : (31, a_i 0 32) ∈ kX1_layFrom := qX1_layFrom_0 _ (List.mem_of_getElem? (i := 16) rfl)
theorem tX1_layFrom_32 : (32, a_i 7 34) ∈ kX1_layFrom := qX1_layFrom_0 _ (List.mem_of_getElem? (i := 17) rfl)
theorem tX1_layFrom_34 : (34, a_copy 37) ∈ kX1_layFrom := qX1_layFrom_0 _ (List.mem_of_getElem? (i := 18) rfl)
theorem tX1_layFrom_37 : (37, a_vret) ∈ kX1_layFrom := qX1_layFrom_0 _ (List.mem_of_getElem? (i := 19) rfl)
theorem tX1_layFrom_38 : (38, a_iload 1 39) ∈ kX1_layFrom := qX1_layFrom_0 _ (List.mem_of_getElem? (i := 20) rfl)
theorem tX1_layFrom_39 : (39, a_if_ne 46 42) ∈ kX1_layFrom := qX1_layFrom_0 _ (List.mem_of_getElem? (i := 21) rfl)
theorem tX1_layFrom_42 : (42, a_i 2 43) ∈ kX1_layFrom := qX1_layFrom_0 _ (List.mem_of_getElem? (i := 22) rfl)
theorem tX1_layFrom_43 : (43, a_goto 48) ∈ kX1_layFrom := qX1_layFrom_0 _ (List.mem_of_getElem? (i := 23) rfl)
theorem qX1_layFrom_1 : ∀ q ∈ kX1_layFrom_1, q ∈ kX1_layFrom := fun _ h => (List.mem_append_right _ (List.mem_append_left _ h))
theorem tX1_layFrom_46 : (46, a_i 8 48) ∈ kX1_layFrom := qX1_layFrom_1 _ (List.mem_of_getElem? (i := 0) rfl)
theorem tX1_layFrom_48 : (48, a_istore 3 49) ∈ kX1_layFrom := qX1_layFrom_1 _ (List.mem_of_getElem? (i := 1) rfl)
theorem tX1_layFrom_49 : (49, a_i 0 50) ∈ kX1_layFrom := qX1_layFrom_1 _ (List.mem_of_getElem? (i := 2) rfl)
theorem tX1_layFrom_50 : (50, a_istore 4 52) ∈ kX1_layFrom := qX1_layFrom_1 _ (List.mem_of_getElem? (i := 3) rfl)
theorem tX1_layFrom_52 : (52, a_iload 4 54) ∈ kX1_layFrom := qX1_layFrom_1 _ (List.mem_of_getElem? (i := 4) rfl)
theorem tX1_layFrom_54 : (54, a_iload 3 55) ∈ kX1_layFrom := qX1_layFrom_1 _ (List.mem_of_getElem? (i := 5) rfl)
theorem tX1_layFrom_55 : (55, a_ic_ge 119 58) ∈ kX1_layFrom := qX1_layFrom_1 _ (List.mem_of_getElem? (i := 6) rfl)
theorem tX1_layFrom_58 : (58, a_iload 2 59) ∈ kX1_layFrom := qX1_layFrom_1 _ (List.mem_of_getElem? (i := 7) rfl)
theorem tX1_layFrom_59 : (59, a_iload 4 61) ∈ kX1_layFrom := qX1_layFrom_1 _ (List.mem_of_getElem? (i := 8) rfl)
theorem tX1_layFrom_61 : (61, a_call 132 2 64 0 0) ∈ kX1_layFrom := qX1_layFrom_1 _ (List.mem_of_getElem? (i := 9) rfl)
theorem tX1_layFrom_64 : (64, a_if_ne 113 67) ∈ kX1_layFrom := qX1_layFrom_1 _ (List.mem_of_getElem? (i := 10) rfl)
theorem tX1_layFrom_67 : (67, a_aload 0 68) ∈ kX1_layFrom := qX1_layFrom_1 _ (List.mem_of_getElem? (i := 11) rfl)
theorem tX1_layFrom_68 : (68, a_getR 1 7 71) ∈ kX1_layFrom := qX1_layFrom_1 _ (List.mem_of_getElem? (i := 12) rfl)
theorem tX1_layFrom_71 : (71, a_iload 1 72) ∈ kX1_layFrom := qX1_layFrom_1 _ (List.mem_of_getElem? (i := 13) rfl)
theorem tX1_layFrom_72 : (72, a_iload 4 74) ∈ kX1_layFrom := qX1_layFrom_1 _ (List.mem_of_getElem? (i := 14) rfl)
theorem tX1_layFrom_74 : (74, a_iast 75) ∈ kX1_layFrom := qX1_layFrom_1 _ (List.mem_of_getElem? (i := 15) rfl)
theorem tX1_layFrom_75 : (75, a_aload 0 76) ∈ kX1_layFrom := qX1_layFrom_1 _ (List.mem_of_getElem? (i := 16) rfl)
theorem tX1_layFrom_76 : (76, a_iload 1 77) ∈ kX1_layFrom := qX1_layFrom_1 _ (List.mem_of_getElem? (i := 17) rfl)
theorem tX1_layFrom_77 : (77, a_iload 4 79) ∈ kX1_layFrom := qX1_layFrom_1 _ (List.mem_of_getElem? (i := 18) rfl)
theorem tX1_layFrom_79 : (79, a_callV 1 16 3 82 0 0) ∈ kX1_layFrom := qX1_layFrom_1 _ (List.mem_of_getElem? (i := 19) rfl)
theorem tX1_layFrom_82 : (82, a_aload 0 83) ∈ kX1_layFrom := qX1_layFrom_1 _ (List.mem_of_getElem? (i := 20) rfl)
theorem tX1_layFrom_83 : (83, a_callV 1 17 1 86 0 0) ∈ kX1_layFrom := qX1_layFrom_1 _ (List.mem_of_getElem? (i := 21) rfl)
theorem tX1_layFrom_86 : (86, a_aload 0 87) ∈ kX1_layFrom := qX1_layFrom_1 _ (List.mem_of_getElem? (i := 22) rfl)
theorem tX1_layFrom_87 : (87, a_getI 1 5 90) ∈ kX1_layFrom := qX1_layFrom_1 _ (List.mem_of_getElem? (i := 23) rfl)
theorem qX1_layFrom_2 : ∀ q ∈ kX1_layFrom_2, q ∈ kX1_layFrom := fun _ h => (List.mem_append_right _ (List.mem_append_right _ h))
theorem tX1_layFrom_90 : (90, a_ic_ge 106 93) ∈ kX1_layFrom := qX1_layFrom_2 _ (List.mem_of_getElem? (i := 0) rfl)
theorem tX1_layFrom_93 : (93, a_aload 0 94) ∈ kX1_layFrom := qX1_layFrom_2 _ (List.mem_of_getElem? (i := 1) rfl)
theorem tX1_layFrom_94 : (94, a_iload 1 95) ∈ kX1_layFrom := qX1_layFrom_2 _ (List.mem_of_getElem? (i := 2) rfl)
theorem tX1_layFrom_95 : (95, a_i 1 96) ∈ kX1_layFrom := qX1_layFrom_2 _ (List.mem_of_getElem? (i := 3) rfl)
theorem tX1_layFrom_96 : (96, a_ii (fun x y => x + y) 97) ∈ kX1_layFrom := qX1_layFrom_2 _ (List.mem_of_getElem? (i := 4) rfl)
theorem tX1_layFrom_97 : (97, a_iload 2 98) ∈ kX1_layFrom := qX1_layFrom_2 _ (List.mem_of_getElem? (i := 5) rfl)
theorem tX1_layFrom_98 : (98, a_i 1 99) ∈ kX1_layFrom := qX1_layFrom_2 _ (List.mem_of_getElem? (i := 6) rfl)
theorem tX1_layFrom_99 : (99, a_iload 4 101) ∈ kX1_layFrom := qX1_layFrom_2 _ (List.mem_of_getElem? (i := 7) rfl)
theorem tX1_layFrom_101 : (101, a_ii (fun x y => x <<< (y &&& 31)) 102) ∈ kX1_layFrom := qX1_layFrom_2 _ (List.mem_of_getElem? (i := 8) rfl)
theorem tX1_layFrom_102 : (102, a_ii (fun x y => x ||| y) 103) ∈ kX1_layFrom := qX1_layFrom_2 _ (List.mem_of_getElem? (i := 9) rfl)
theorem tX1_layFrom_103 : (103, a_call 15 3 106 0 0) ∈ kX1_layFrom := qX1_layFrom_2 _ (List.mem_of_getElem? (i := 10) rfl)
theorem tX1_layFrom_106 : (106, a_aload 0 107) ∈ kX1_layFrom := qX1_layFrom_2 _ (List.mem_of_getElem? (i := 11) rfl)
theorem tX1_layFrom_107 : (107, a_iload 1 108) ∈ kX1_layFrom := qX1_layFrom_2 _ (List.mem_of_getElem? (i := 12) rfl)
theorem tX1_layFrom_108 : (108, a_iload 4 110) ∈ kX1_layFrom := qX1_layFrom_2 _ (List.mem_of_getElem? (i := 13) rfl)
theorem tX1_layFrom_110 : (110, a_callV 1 16 3 113 0 0) ∈ kX1_layFrom := qX1_layFrom_2 _ (List.mem_of_getElem? (i := 14) rfl)
theorem tX1_layFrom_113 : (113, a_iinc 4 1 116) ∈ kX1_layFrom := qX1_layFrom_2 _ (List.mem_of_getElem? (i := 15) rfl)
theorem tX1_layFrom_116 : (116, a_goto 52) ∈ kX1_layFrom := qX1_layFrom_2 _ (List.mem_of_getElem? (i := 16) rfl)
theorem tX1_layFrom_119 : (119, a_vret) ∈ kX1_layFrom := qX1_layFrom_2 _ (List.mem_of_getElem? (i := 17) rfl)
theorem oX1_layFrom : ∀ q ∈ kX1_layFrom, zSnd zty false RX1 cX1_layFrom 5 none false q := List.forall_mem_append.mpr ⟨oX1_layFrom_0, List.forall_mem_append.mpr ⟨oX1_layFrom_1, oX1_layFrom_2⟩⟩
theorem dX1_turnNetPlaces_0 : decode cX1_turnNetPlaces 0 = .ok (.iconst 0, 1) := by decide +kernel
theorem dX1_turnNetPlaces_1 : decode cX1_turnNetPlaces 1 = .ok (.istore_n 3, 1) := by decide +kernel
theorem dX1_turnNetPlaces_2 : decode cX1_turnNetPlaces 2 = .ok (.iload_n 3, 1) := by decide +kernel
theorem dX1_turnNetPlaces_3 : decode cX1_turnNetPlaces 3 = .ok (.aload_n 0, 1) := by decide +kernel
theorem dX1_turnNetPlaces_4 : decode cX1_turnNetPlaces 4 = .ok (.getfield 22, 3) := by decide +kernel
theorem dX1_turnNetPlaces_7 : decode cX1_turnNetPlaces 7 = .ok (.if_icmp .ge 34, 3) := by decide +kernel
theorem dX1_turnNetPlaces_10 : decode cX1_turnNetPlaces 10 = .ok (.aload_n 0, 1) := by decide +kernel
theorem dX1_turnNetPlaces_11 : decode cX1_turnNetPlaces 11 = .ok (.getfield 15, 3) := by decide +kernel
theorem dX1_turnNetPlaces_14 : decode cX1_turnNetPlaces 14 = .ok (.iload_n 3, 1) := by decide +kernel
theorem dX1_turnNetPlaces_15 : decode cX1_turnNetPlaces 15 = .ok (.iaload, 1) := by decide +kernel
theorem dX1_turnNetPlaces_16 : decode cX1_turnNetPlaces 16 = .ok (.iload_n 1, 1) := by decide +kernel
theorem dX1_turnNetPlaces_17 : decode cX1_turnNetPlaces 17 = .ok (.invokestatic 54, 3) := by decide +kernel
theorem dX1_turnNetPlaces_20 : decode cX1_turnNetPlaces 20 = .ok (.ifCond .eq 15, 3) := by decide +kernel
theorem dX1_turnNetPlaces_23 : decode cX1_turnNetPlaces 23 = .ok (.aload_n 0, 1) := by decide +kernel
theorem dX1_turnNetPlaces_24 : decode cX1_turnNetPlaces 24 = .ok (.getfield 38, 3) := by decide +kernel
theorem dX1_turnNetPlaces_27 : decode cX1_turnNetPlaces 27 = .ok (.iload_n 3, 1) := by decide +kernel
theorem dX1_turnNetPlaces_28 : decode cX1_turnNetPlaces 28 = .ok (.dup2, 1) := by decide +kernel
theorem dX1_turnNetPlaces_29 : decode cX1_turnNetPlaces 29 = .ok (.iaload, 1) := by decide +kernel
theorem dX1_turnNetPlaces_30 : decode cX1_turnNetPlaces 30 = .ok (.iconst 1, 1) := by decide +kernel
theorem dX1_turnNetPlaces_31 : decode cX1_turnNetPlaces 31 = .ok (.iload_n 2, 1) := by decide +kernel
theorem dX1_turnNetPlaces_32 : decode cX1_turnNetPlaces 32 = .ok (.ishl, 1) := by decide +kernel
theorem dX1_turnNetPlaces_33 : decode cX1_turnNetPlaces 33 = .ok (.ixor, 1) := by decide +kernel
theorem dX1_turnNetPlaces_34 : decode cX1_turnNetPlaces 34 = .ok (.iastore, 1) := by decide +kernel
theorem dX1_turnNetPlaces_35 : decode cX1_turnNetPlaces 35 = .ok (.iinc 3 1, 3) := by decide +kernel
theorem dX1_turnNetPlaces_38 : decode cX1_turnNetPlaces 38 = .ok (.goto (-36), 3) := by decide +kernel
theorem dX1_turnNetPlaces_41 : decode cX1_turnNetPlaces 41 = .ok (.return_, 1) := by decide +kernel
def kX1_turnNetPlaces_0 : List (Nat × zT) := [(0, a_i 0 1), (1, a_istore 3 2), (2, a_iload 3 3), (3, a_aload 0 4), (4, a_getI 1 3 7), (7, a_ic_ge 41 10), (10, a_aload 0 11), (11, a_getR 1 1 14), (14, a_iload 3 15), (15, a_iald 16), (16, a_iload 1 17), (17, a_call 132 2 20 0 0), (20, a_if_eq 35 23), (23, a_aload 0 24), (24, a_getR 1 8 27), (27, a_iload 3 28), (28, a_dup2 29), (29, a_iald 30), (30, a_i 1 31), (31, a_iload 2 32), (32, a_ii (fun x y => x <<< (y &&& 31)) 33), (33, a_ii (fun x y => x ^^^ y) 34), (34, a_iast 35), (35, a_iinc 3 1 38)]
theorem oX1_turnNetPlaces_0 : ∀ q ∈ kX1_turnNetPlaces_0, zSnd zty false RX1 cX1_turnNetPlaces 4 none false q := List.forall_mem_cons.mpr ⟨ok_iconst dX1_turnNetPlaces_0 (by decide), List.forall_mem_cons.mpr ⟨ok_istore_n dX1_turnNetPlaces_1 rfl (by decide), List.forall_mem_cons.mpr ⟨ok_iload_n dX1_turnNetPlaces_2 rfl, List.forall_mem_cons.mpr ⟨ok_aload_n dX1_turnNetPlaces_3 rfl, List.forall_mem_cons.mpr ⟨ok_getI dX1_turnNetPlaces_4 rfl in1 (by decide) rfl w244, List.forall_mem_cons.mpr ⟨ok_ic_ge dX1_turnNetPlaces_7 (by decide), List.forall_mem_cons.mpr ⟨ok_aload_n dX1_turnNetPlaces_10 rfl, List.forall_mem_cons.mpr ⟨ok_getR dX1_turnNetPlaces_11 rfl in1 (by decide) rfl w241, List.forall_mem_cons.mpr ⟨ok_iload_n dX1_turnNetPlaces_14 rfl, List.forall_mem_cons.mpr ⟨ok_iald dX1_turnNetPlaces_15, List.forall_mem_cons.mpr ⟨ok_iload_n dX1_turnNetPlaces_16 rfl, List.forall_mem_cons.mpr ⟨ok_callSN dX1_turnNetPlaces_17 rfl w433 n753 w432 w1 (by decide +kernel) (by decide), List.forall_mem_cons.mpr ⟨ok_if_eq dX1_turnNetPlaces_20 (by decide), List.forall_mem_cons.mpr ⟨ok_aload_n dX1_turnNetPlaces_23 rfl, List.forall_mem_cons.mpr ⟨ok_getR dX1_turnNetPlaces_24 rfl in1 (by decide) rfl w252, List.forall_mem_cons.mpr ⟨ok_iload_n dX1_turnNetPlaces_27 rfl, List.forall_mem_cons.mpr ⟨ok_dup2 dX1_turnNetPlaces_28, List.forall_mem_cons.mpr ⟨ok_iald dX1_turnNetPlaces_29, List.forall_mem_cons.mpr ⟨ok_iconst dX1_turnNetPlaces_30 (by decide), List.forall_mem_cons.mpr ⟨ok_iload_n dX1_turnNetPlaces_31 rfl, List.forall_mem_cons.mpr ⟨ok_ishl dX1_turnNetPlaces_32, List.forall_mem_cons.mpr ⟨ok_ixor dX1_turnNetPlaces_33, List.forall_mem_cons.mpr ⟨ok_iast dX1_turnNetPlaces_34, List.forall_mem_cons.mpr ⟨ok_iinc dX1_turnNetPlaces_35 (by decide) (by decide), fun _ h => absurd h List.not_mem_nil⟩⟩⟩⟩⟩⟩⟩⟩⟩⟩⟩⟩⟩⟩⟩⟩⟩⟩⟩⟩⟩⟩⟩⟩
def kX1_turnNetPlaces_1 : List (Nat × zT) := [(38, a_goto 2), (41, a_vret)]
theorem oX1_turnNetPlaces_1 : ∀ q ∈ kX1_turnNetPlaces_1, zSnd zty false RX1 cX1_turnNetPlaces 4 none false q := List.forall_mem_cons.mpr ⟨ok_goto dX1_turnNetPlaces_38 (by decide), List.forall_mem_cons.mpr ⟨ok_vret dX1_turnNetPlaces_41 rfl, fun _ h => absurd h List.not_mem_nil⟩⟩
def kX1_turnNetPlaces : List (Nat × zT) := kX1_turnNetPlaces_0 ++ (kX1_turnNetPlaces_1)
theorem qX1_turnNetPlaces_0 : ∀ q ∈ kX1_turnNetPlaces_0, q ∈ kX1_turnNetPlaces := fun _ h => (List.mem_append_left _ h)
theorem tX1_turnNetPlaces_0 : (0, a_i 0 1) ∈ kX1_turnNetPlaces := qX1_turnNetPlaces_0 _ (List.mem_of_getElem? (i := 0) rfl)
theorem tX1_turnNetPlaces_1 : (1, a_istore 3 2) ∈ kX1_turnNetPlaces := qX1_turnNetPlaces_0 _ (List.mem_of_getElem? (i := 1) rfl)
theorem tX1_turnNetPlaces_2 : (2, a_iload 3 3) ∈ kX1_turnNetPlaces := qX1_turnNetPlaces_0 _ (List.mem_of_getElem? (i := 2) rfl)
theorem tX1_turnNetPlaces_3 : (3, a_aload 0 4) ∈ kX1_turnNetPlaces := qX1_turnNetPlaces_0 _ (List.mem_of_getElem? (i := 3) rfl)
theorem tX1_turnNetPlaces_4 : (4, a_getI 1 3 7) ∈ kX1_turnNetPlaces := qX1_turnNetPlaces_0 _ (List.mem_of_getElem? (i := 4) rfl)
theorem tX1_turnNetPlaces_7 : (7, a_ic_ge 41 10) ∈ kX1_turnNetPlaces := qX1_turnNetPlaces_0 _ (List.mem_of_getElem? (i := 5) rfl)
theorem tX1_turnNetPlaces_10 : (10, a_aload 0 11) ∈ kX1_turnNetPlaces := qX1_turnNetPlaces_0 _ (List.mem_of_getElem? (i := 6) rfl)
theorem tX1_turnNetPlaces_11 : (11, a_getR 1 1 14) ∈ kX1_turnNetPlaces := qX1_turnNetPlaces_0 _ (List.mem_of_getElem? (i := 7) rfl)
theorem tX1_turnNetPlaces_14 : (14, a_iload 3 15) ∈ kX1_turnNetPlaces := qX1_turnNetPlaces_0 _ (List.mem_of_getElem? (i := 8) rfl)
theorem tX1_turnNetPlaces_15 : (15, a_iald 16) ∈ kX1_turnNetPlaces := qX1_turnNetPlaces_0 _ (List.mem_of_getElem? (i := 9) rfl)
theorem tX1_turnNetPlaces_16 : (16, a_iload 1 17) ∈ kX1_turnNetPlaces := qX1_turnNetPlaces_0 _ (List.mem_of_getElem? (i := 10) rfl)
theorem tX1_turnNetPlaces_17 : (17, a_call 132 2 20 0 0) ∈ kX1_turnNetPlaces := qX1_turnNetPlaces_0 _ (List.mem_of_getElem? (i := 11) rfl)
theorem tX1_turnNetPlaces_20 : (20, a_if_eq 35 23) ∈ kX1_turnNetPlaces := qX1_turnNetPlaces_0 _ (List.mem_of_getElem? (i := 12) rfl)
theorem tX1_turnNetPlaces_23 : (23, a_aload 0 24) ∈ kX1_turnNetPlaces := qX1_turnNetPlaces_0 _ (List.mem_of_getElem? (i := 13) rfl)
theorem tX1_turnNetPlaces_24 : (24, a_getR 1 8 27) ∈ kX1_turnNetPlaces := qX1_turnNetPlaces_0 _ (List.mem_of_getElem? (i := 14) rfl)
theorem tX1_turnNetPlaces_27 : (27, a_iload 3 28) ∈ kX1_turnNetPlaces := qX1_turnNetPlaces_0 _ (List.mem_of_getElem? (i := 15) rfl)
theorem tX1_turnNetPlaces_28 : (28, a_dup2 29) ∈ kX1_turnNetPlaces := qX1_turnNetPlaces_0 _ (List.mem_of_getElem? (i := 16) rfl)
theorem tX1_turnNetPlaces_29 : (29, a_iald 30) ∈ kX1_turnNetPlaces := qX1_turnNetPlaces_0 _ (List.mem_of_getElem? (i := 17) rfl)
theorem tX1_turnNetPlaces_30 : (30, a_i 1 31) ∈ kX1_turnNetPlaces := qX1_turnNetPlaces_0 _ (List.mem_of_getElem? (i := 18) rfl)
theorem tX1_turnNetPlaces_31 : (31, a_iload 2 32) ∈ kX1_turnNetPlaces := qX1_turnNetPlaces_0 _ (List.mem_of_getElem? (i := 19) rfl)
theorem tX1_turnNetPlaces_32 : (32, a_ii (fun x y => x <<< (y &&& 31)) 33) ∈ kX1_turnNetPlaces := qX1_turnNetPlaces_0 _ (List.mem_of_getElem? (i := 20) rfl)
theorem tX1_turnNetPlaces_33 : (33, a_ii (fun x y => x ^^^ y) 34) ∈ kX1_turnNetPlaces := qX1_turnNetPlaces_0 _ (List.mem_of_getElem? (i := 21) rfl)
theorem tX1_turnNetPlaces_34 : (34, a_iast 35) ∈ kX1_turnNetPlaces := qX1_turnNetPlaces_0 _ (List.mem_of_getElem? (i := 22) rfl)
theorem tX1_turnNetPlaces_35 : (35, a_iinc 3 1 38) ∈ kX1_turnNetPlaces := qX1_turnNetPlaces_0 _ (List.mem_of_getElem? (i := 23) rfl)
theorem qX1_turnNetPlaces_1 : ∀ q ∈ kX1_turnNetPlaces_1, q ∈ kX1_turnNetPlaces := fun _ h => (List.mem_append_right _ h)
theorem tX1_turnNetPlaces_38 : (38, a_goto 2) ∈ kX1_turnNetPlaces := qX1_turnNetPlaces_1 _ (List.mem_of_getElem? (i := 0) rfl)
theorem tX1_turnNetPlaces_41 : (41, a_vret) ∈ kX1_turnNetPlaces := qX1_turnNetPlaces_1 _ (List.mem_of_getElem? (i := 1) rfl)
theorem oX1_turnNetPlaces : ∀ q ∈ kX1_turnNetPlaces, zSnd zty false RX1 cX1_turnNetPlaces 4 none false q := List.forall_mem_append.mpr ⟨oX1_turnNetPlaces_0, oX1_turnNetPlaces_1⟩
theorem dX1_wireToCome_0 : decode cX1_wireToCome 0 = .ok (.iconst 0, 1) := by decide +kernel
theorem dX1_wireToCome_1 : decode cX1_wireToCome 1 = .ok (.istore_n 1, 1) := by decide +kernel
theorem dX1_wireToCome_2 : decode cX1_wireToCome 2 = .ok (.iconst 0, 1) := by decide +kernel
theorem dX1_wireToCome_3 : decode cX1_wireToCome 3 = .ok (.istore_n 2, 1) := by decide +kernel
theorem dX1_wireToCome_4 : decode cX1_wireToCome 4 = .ok (.iload_n 2, 1) := by decide +kernel
theorem dX1_wireToCome_5 : decode cX1_wireToCome 5 = .ok (.aload_n 0, 1) := by decide +kernel
theorem dX1_wireToCome_6 : decode cX1_wireToCome 6 = .ok (.getfield 22, 3) := by decide +kernel
theorem dX1_wireToCome_9 : decode cX1_wireToCome 9 = .ok (.if_icmp .ge 40, 3) := by decide +kernel
theorem dX1_wireToCome_12 : decode cX1_wireToCome 12 = .ok (.iload_n 1, 1) := by decide +kernel
theorem dX1_wireToCome_13 : decode cX1_wireToCome 13 = .ok (.aload_n 0, 1) := by decide +kernel
theorem dX1_wireToCome_14 : decode cX1_wireToCome 14 = .ok (.getfield 38, 3) := by decide +kernel
theorem dX1_wireToCome_17 : decode cX1_wireToCome 17 = .ok (.iload_n 2, 1) := by decide +kernel
theorem dX1_wireToCome_18 : decode cX1_wireToCome 18 = .ok (.iaload, 1) := by decide +kernel
theorem dX1_wireToCome_19 : decode cX1_wireToCome 19 = .ok (.invokestatic 57, 3) := by decide +kernel
theorem dX1_wireToCome_22 : decode cX1_wireToCome 22 = .ok (.getstatic 84, 3) := by decide +kernel
theorem dX1_wireToCome_25 : decode cX1_wireToCome 25 = .ok (.aload_n 0, 1) := by decide +kernel
theorem dX1_wireToCome_26 : decode cX1_wireToCome 26 = .ok (.getfield 15, 3) := by decide +kernel
theorem dX1_wireToCome_29 : decode cX1_wireToCome 29 = .ok (.iload_n 2, 1) := by decide +kernel
theorem dX1_wireToCome_30 : decode cX1_wireToCome 30 = .ok (.iaload, 1) := by decide +kernel
theorem dX1_wireToCome_31 : decode cX1_wireToCome 31 = .ok (.invokestatic 87, 3) := by decide +kernel
theorem dX1_wireToCome_34 : decode cX1_wireToCome 34 = .ok (.bipush 7, 2) := by decide +kernel
theorem dX1_wireToCome_36 : decode cX1_wireToCome 36 = .ok (.iand, 1) := by decide +kernel
theorem dX1_wireToCome_37 : decode cX1_wireToCome 37 = .ok (.iaload, 1) := by decide +kernel
theorem dX1_wireToCome_38 : decode cX1_wireToCome 38 = .ok (.invokestatic 90, 3) := by decide +kernel
theorem dX1_wireToCome_41 : decode cX1_wireToCome 41 = .ok (.iadd, 1) := by decide +kernel
theorem dX1_wireToCome_42 : decode cX1_wireToCome 42 = .ok (.istore_n 1, 1) := by decide +kernel
theorem dX1_wireToCome_43 : decode cX1_wireToCome 43 = .ok (.iinc 2 1, 3) := by decide +kernel
theorem dX1_wireToCome_46 : decode cX1_wireToCome 46 = .ok (.goto (-42), 3) := by decide +kernel
theorem dX1_wireToCome_49 : decode cX1_wireToCome 49 = .ok (.iload_n 1, 1) := by decide +kernel
theorem dX1_wireToCome_50 : decode cX1_wireToCome 50 = .ok (.ireturn, 1) := by decide +kernel
def kX1_wireToCome_0 : List (Nat × zT) := [(0, a_i 0 1), (1, a_istore 1 2), (2, a_i 0 3), (3, a_istore 2 4), (4, a_iload 2 5), (5, a_aload 0 6), (6, a_getI 1 3 9), (9, a_ic_ge 49 12), (12, a_iload 1 13), (13, a_aload 0 14), (14, a_getR 1 8 17), (17, a_iload 2 18), (18, a_iald 19), (19, a_call 13 1 22 0 0), (22, a_gets 3 25), (25, a_aload 0 26), (26, a_getR 1 1 29), (29, a_iload 2 30), (30, a_iald 31), (31, a_call 217 1 34 0 0), (34, a_i 7 36), (36, a_ii (fun x y => x &&& y) 37), (37, a_iald 38), (38, a_mm (fun x y => if x < y then y else x) 41)]
theorem oX1_wireToCome_0 : ∀ q ∈ kX1_wireToCome_0, zSnd zty false RX1 cX1_wireToCome 3 (some .int) false q := List.forall_mem_cons.mpr ⟨ok_iconst dX1_wireToCome_0 (by decide), List.forall_mem_cons.mpr ⟨ok_istore_n dX1_wireToCome_1 rfl (by decide), List.forall_mem_cons.mpr ⟨ok_iconst dX1_wireToCome_2 (by decide), List.forall_mem_cons.mpr ⟨ok_istore_n dX1_wireToCome_3 rfl (by decide), List.forall_mem_cons.mpr ⟨ok_iload_n dX1_wireToCome_4 rfl, List.forall_mem_cons.mpr ⟨ok_aload_n dX1_wireToCome_5 rfl, List.forall_mem_cons.mpr ⟨ok_getI dX1_wireToCome_6 rfl in1 (by decide) rfl w244, List.forall_mem_cons.mpr ⟨ok_ic_ge dX1_wireToCome_9 (by decide), List.forall_mem_cons.mpr ⟨ok_iload_n dX1_wireToCome_12 rfl, List.forall_mem_cons.mpr ⟨ok_aload_n dX1_wireToCome_13 rfl, List.forall_mem_cons.mpr ⟨ok_getR dX1_wireToCome_14 rfl in1 (by decide) rfl w252, List.forall_mem_cons.mpr ⟨ok_iload_n dX1_wireToCome_17 rfl, List.forall_mem_cons.mpr ⟨ok_iald dX1_wireToCome_18, List.forall_mem_cons.mpr ⟨ok_callS dX1_wireToCome_19 rfl w791 w789 w790 w10 (by decide +kernel) (by decide), List.forall_mem_cons.mpr ⟨ok_gets dX1_wireToCome_22 rfl w811, List.forall_mem_cons.mpr ⟨ok_aload_n dX1_wireToCome_25 rfl, List.forall_mem_cons.mpr ⟨ok_getR dX1_wireToCome_26 rfl in1 (by decide) rfl w241, List.forall_mem_cons.mpr ⟨ok_iload_n dX1_wireToCome_29 rfl, List.forall_mem_cons.mpr ⟨ok_iald dX1_wireToCome_30, List.forall_mem_cons.mpr ⟨ok_callS dX1_wireToCome_31 rfl w488 w813 w487 w15 (by decide +kernel) (by decide), List.forall_mem_cons.mpr ⟨ok_bipush dX1_wireToCome_34 (by decide), List.forall_mem_cons.mpr ⟨ok_iand dX1_wireToCome_36, List.forall_mem_cons.mpr ⟨ok_iald dX1_wireToCome_37, List.forall_mem_cons.mpr ⟨ok_mmax dX1_wireToCome_38 w814 w815 w18 w816, fun _ h => absurd h List.not_mem_nil⟩⟩⟩⟩⟩⟩⟩⟩⟩⟩⟩⟩⟩⟩⟩⟩⟩⟩⟩⟩⟩⟩⟩⟩
def kX1_wireToCome_1 : List (Nat × zT) := [(41, a_ii (fun x y => x + y) 42), (42, a_istore 1 43), (43, a_iinc 2 1 46), (46, a_goto 4), (49, a_iload 1 50), (50, a_iret false)]
theorem oX1_wireToCome_1 : ∀ q ∈ kX1_wireToCome_1, zSnd zty false RX1 cX1_wireToCome 3 (some .int) false q := List.forall_mem_cons.mpr ⟨ok_iadd dX1_wireToCome_41, List.forall_mem_cons.mpr ⟨ok_istore_n dX1_wireToCome_42 rfl (by decide), List.forall_mem_cons.mpr ⟨ok_iinc dX1_wireToCome_43 (by decide) (by decide), List.forall_mem_cons.mpr ⟨ok_goto dX1_wireToCome_46 (by decide), List.forall_mem_cons.mpr ⟨ok_iload_n dX1_wireToCome_49 rfl, List.forall_mem_cons.mpr ⟨ok_iret (bz := false) dX1_wireToCome_50 rfl, fun _ h => absurd h List.not_mem_nil⟩⟩⟩⟩⟩⟩
def kX1_wireToCome : List (Nat × zT) := kX1_wireToCome_0 ++ (kX1_wireToCome_1)
theorem qX1_wireToCome_0 : ∀ q ∈ kX1_wireToCome_0, q ∈ kX1_wireToCome := fun _ h => (List.mem_append_left _ h)
theorem tX1_wireToCome_0 : (0, a_i 0 1) ∈ kX1_wireToCome := qX1_wireToCome_0 _ (List.mem_of_getElem? (i := 0) rfl)
theorem tX1_wireToCome_1 : (1, a_istore 1 2) ∈ kX1_wireToCome := qX1_wireToCome_0 _ (List.mem_of_getElem? (i := 1) rfl)
theorem tX1_wireToCome_2 : (2, a_i 0 3) ∈ kX1_wireToCome := qX1_wireToCome_0 _ (List.mem_of_getElem? (i := 2) rfl)
theorem tX1_wireToCome_3 : (3, a_istore 2 4) ∈ kX1_wireToCome := qX1_wireToCome_0 _ (List.mem_of_getElem? (i := 3) rfl)
theorem tX1_wireToCome_4 : (4, a_iload 2 5) ∈ kX1_wireToCome := qX1_wireToCome_0 _ (List.mem_of_getElem? (i := 4) rfl)
theorem tX1_wireToCome_5 : (5, a_aload 0 6) ∈ kX1_wireToCome := qX1_wireToCome_0 _ (List.mem_of_getElem? (i := 5) rfl)
theorem tX1_wireToCome_6 : (6, a_getI 1 3 9) ∈ kX1_wireToCome := qX1_wireToCome_0 _ (List.mem_of_getElem? (i := 6) rfl)
theorem tX1_wireToCome_9 : (9, a_ic_ge 49 12) ∈ kX1_wireToCome := qX1_wireToCome_0 _ (List.mem_of_getElem? (i := 7) rfl)
theorem tX1_wireToCome_12 : (12, a_iload 1 13) ∈ kX1_wireToCome := qX1_wireToCome_0 _ (List.mem_of_getElem? (i := 8) rfl)
theorem tX1_wireToCome_13 : (13, a_aload 0 14) ∈ kX1_wireToCome := qX1_wireToCome_0 _ (List.mem_of_getElem? (i := 9) rfl)
theorem tX1_wireToCome_14 : (14, a_getR 1 8 17) ∈ kX1_wireToCome := qX1_wireToCome_0 _ (List.mem_of_getElem? (i := 10) rfl)
theorem tX1_wireToCome_17 : (17, a_iload 2 18) ∈ kX1_wireToCome := qX1_wireToCome_0 _ (List.mem_of_getElem? (i := 11) rfl)
theorem tX1_wireToCome_18 : (18, a_iald 19) ∈ kX1_wireToCome := qX1_wireToCome_0 _ (List.mem_of_getElem? (i := 12) rfl)
theorem tX1_wireToCome_19 : (19, a_call 13 1 22 0 0) ∈ kX1_wireToCome := qX1_wireToCome_0 _ (List.mem_of_getElem? (i := 13) rfl)
theorem tX1_wireToCome_22 : (22, a_gets 3 25) ∈ kX1_wireToCome := qX1_wireToCome_0 _ (List.mem_of_getElem? (i := 14) rfl)
theorem tX1_wireToCome_25 : (25, a_aload 0 26) ∈ kX1_wireToCome := qX1_wireToCome_0 _ (List.mem_of_getElem? (i := 15) rfl)
theorem tX1_wireToCome_26 : (26, a_getR 1 1 29) ∈ kX1_wireToCome := qX1_wireToCome_0 _ (List.mem_of_getElem? (i := 16) rfl)
theorem tX1_wireToCome_29 : (29, a_iload 2 30) ∈ kX1_wireToCome := qX1_wireToCome_0 _ (List.mem_of_getElem? (i := 17) rfl)
theorem tX1_wireToCome_30 : (30, a_iald 31) ∈ kX1_wireToCome := qX1_wireToCome_0 _ (List.mem_of_getElem? (i := 18) rfl)
theorem tX1_wireToCome_31 : (31, a_call 217 1 34 0 0) ∈ kX1_wireToCome := qX1_wireToCome_0 _ (List.mem_of_getElem? (i := 19) rfl)
theorem tX1_wireToCome_34 : (34, a_i 7 36) ∈ kX1_wireToCome := qX1_wireToCome_0 _ (List.mem_of_getElem? (i := 20) rfl)
theorem tX1_wireToCome_36 : (36, a_ii (fun x y => x &&& y) 37) ∈ kX1_wireToCome := qX1_wireToCome_0 _ (List.mem_of_getElem? (i := 21) rfl)
theorem tX1_wireToCome_37 : (37, a_iald 38) ∈ kX1_wireToCome := qX1_wireToCome_0 _ (List.mem_of_getElem? (i := 22) rfl)
theorem tX1_wireToCome_38 : (38, a_mm (fun x y => if x < y then y else x) 41) ∈ kX1_wireToCome := qX1_wireToCome_0 _ (List.mem_of_getElem? (i := 23) rfl)
theorem qX1_wireToCome_1 : ∀ q ∈ kX1_wireToCome_1, q ∈ kX1_wireToCome := fun _ h => (List.mem_append_right _ h)
theorem tX1_wireToCome_41 : (41, a_ii (fun x y => x + y) 42) ∈ kX1_wireToCome := qX1_wireToCome_1 _ (List.mem_of_getElem? (i := 0) rfl)
theorem tX1_wireToCome_42 : (42, a_istore 1 43) ∈ kX1_wireToCome := qX1_wireToCome_1 _ (List.mem_of_getElem? (i := 1) rfl)
theorem tX1_wireToCome_43 : (43, a_iinc 2 1 46) ∈ kX1_wireToCome := qX1_wireToCome_1 _ (List.mem_of_getElem? (i := 2) rfl)
theorem tX1_wireToCome_46 : (46, a_goto 4) ∈ kX1_wireToCome := qX1_wireToCome_1 _ (List.mem_of_getElem? (i := 3) rfl)
theorem tX1_wireToCome_49 : (49, a_iload 1 50) ∈ kX1_wireToCome := qX1_wireToCome_1 _ (List.mem_of_getElem? (i := 4) rfl)
theorem tX1_wireToCome_50 : (50, a_iret false) ∈ kX1_wireToCome := qX1_wireToCome_1 _ (List.mem_of_getElem? (i := 5) rfl)
theorem oX1_wireToCome : ∀ q ∈ kX1_wireToCome, zSnd zty false RX1 cX1_wireToCome 3 (some .int) false q := List.forall_mem_append.mpr ⟨oX1_wireToCome_0, oX1_wireToCome_1⟩
theorem dX1_swapWhileItHelps_0 : decode cX1_swapWhileItHelps 0 = .ok (.iconst 0, 1) := by decide +kernel
theorem dX1_swapWhileItHelps_1 : decode cX1_swapWhileItHelps 1 = .ok (.istore_n 1, 1) := by decide +kernel
theorem dX1_swapWhileItHelps_2 : decode cX1_swapWhileItHelps 2 = .ok (.iload_n 1, 1) := by decide +kernel
theorem dX1_swapWhileItHelps_3 : decode cX1_swapWhileItHelps 3 = .ok (.sipush 1000, 3) := by decide +kernel
theorem dX1_swapWhileItHelps_6 : decode cX1_swapWhileItHelps 6 = .ok (.if_icmp .ge 18, 3) := by decide +kernel
theorem dX1_swapWhileItHelps_9 : decode cX1_swapWhileItHelps 9 = .ok (.aload_n 0, 1) := by decide +kernel
theorem dX1_swapWhileItHelps_10 : decode cX1_swapWhileItHelps 10 = .ok (.invokevirtual 96, 3) := by decide +kernel
theorem dX1_swapWhileItHelps_13 : decode cX1_swapWhileItHelps 13 = .ok (.ifCond .ne 5, 3) := by decide +kernel
theorem dX1_swapWhileItHelps_16 : decode cX1_swapWhileItHelps 16 = .ok (.iload_n 1, 1) := by decide +kernel
theorem dX1_swapWhileItHelps_17 : decode cX1_swapWhileItHelps 17 = .ok (.ireturn, 1) := by decide +kernel
theorem dX1_swapWhileItHelps_18 : decode cX1_swapWhileItHelps 18 = .ok (.iinc 1 1, 3) := by decide +kernel
theorem dX1_swapWhileItHelps_21 : decode cX1_swapWhileItHelps 21 = .ok (.goto (-19), 3) := by decide +kernel
theorem dX1_swapWhileItHelps_24 : decode cX1_swapWhileItHelps 24 = .ok (.sipush 1000, 3) := by decide +kernel
theorem dX1_swapWhileItHelps_27 : decode cX1_swapWhileItHelps 27 = .ok (.ireturn, 1) := by decide +kernel
def kX1_swapWhileItHelps_0 : List (Nat × zT) := [(0, a_i 0 1), (1, a_istore 1 2), (2, a_iload 1 3), (3, a_i 1000 6), (6, a_ic_ge 24 9), (9, a_aload 0 10), (10, a_callV 1 19 1 13 0 0), (13, a_if_ne 18 16), (16, a_iload 1 17), (17, a_iret false), (18, a_iinc 1 1 21), (21, a_goto 2), (24, a_i 1000 27), (27, a_iret false)]
theorem oX1_swapWhileItHelps_0 : ∀ q ∈ kX1_swapWhileItHelps_0, zSnd zty false RX1 cX1_swapWhileItHelps 2 (some .int) false q := List.forall_mem_cons.mpr ⟨ok_iconst dX1_swapWhileItHelps_0 (by decide), List.forall_mem_cons.mpr ⟨ok_istore_n dX1_swapWhileItHelps_1 rfl (by decide), List.forall_mem_cons.mpr ⟨ok_iload_n dX1_swapWhileItHelps_2 rfl, List.forall_mem_cons.mpr ⟨ok_sipush dX1_swapWhileItHelps_3 (by decide), List.forall_mem_cons.mpr ⟨ok_ic_ge dX1_swapWhileItHelps_6 (by decide), List.forall_mem_cons.mpr ⟨ok_aload_n dX1_swapWhileItHelps_9 rfl, List.forall_mem_cons.mpr ⟨ok_callV dX1_swapWhileItHelps_10 rfl rfl w833 w830 w832 w10 s17 (by decide +kernel) (by decide), List.forall_mem_cons.mpr ⟨ok_if_ne dX1_swapWhileItHelps_13 (by decide), List.forall_mem_cons.mpr ⟨ok_iload_n dX1_swapWhileItHelps_16 rfl, List.forall_mem_cons.mpr ⟨ok_iret (bz := false) dX1_swapWhileItHelps_17 rfl, List.forall_mem_cons.mpr ⟨ok_iinc dX1_swapWhileItHelps_18 (by decide) (by decide), List.forall_mem_cons.mpr ⟨ok_goto dX1_swapWhileItHelps_21 (by decide), List.forall_mem_cons.mpr ⟨ok_sipush dX1_swapWhileItHelps_24 (by decide), List.forall_mem_cons.mpr ⟨ok_iret (bz := false) dX1_swapWhileItHelps_27 rfl, fun _ h => absurd h List.not_mem_nil⟩⟩⟩⟩⟩⟩⟩⟩⟩⟩⟩⟩⟩⟩
def kX1_swapWhileItHelps : List (Nat × zT) := kX1_swapWhileItHelps_0
theorem qX1_swapWhileItHelps_0 : ∀ q ∈ kX1_swapWhileItHelps_0, q ∈ kX1_swapWhileItHelps := fun _ h => h
theorem tX1_swapWhileItHelps_0 : (0, a_i 0 1) ∈ kX1_swapWhileItHelps := qX1_swapWhileItHelps_0 _ (List.mem_of_getElem? (i := 0) rfl)
theorem tX1_swapWhileItHelps_1 : (1, a_istore 1 2) ∈ kX1_swapWhileItHelps := qX1_swapWhileItHelps_0 _ (List.mem_of_getElem? (i := 1) rfl)
theorem tX1_swapWhileItHelps_2 : (2, a_iload 1 3) ∈ kX1_swapWhileItHelps := qX1_swapWhileItHelps_0 _ (List.mem_of_getElem? (i := 2) rfl)
theorem tX1_swapWhileItHelps_3 : (3, a_i 1000 6) ∈ kX1_swapWhileItHelps := qX1_swapWhileItHelps_0 _ (List.mem_of_getElem? (i := 3) rfl)
theorem tX1_swapWhileItHelps_6 : (6, a_ic_ge 24 9) ∈ kX1_swapWhileItHelps := qX1_swapWhileItHelps_0 _ (List.mem_of_getElem? (i := 4) rfl)
theorem tX1_swapWhileItHelps_9 : (9, a_aload 0 10) ∈ kX1_swapWhileItHelps := qX1_swapWhileItHelps_0 _ (List.mem_of_getElem? (i := 5) rfl)
theorem tX1_swapWhileItHelps_10 : (10, a_callV 1 19 1 13 0 0) ∈ kX1_swapWhileItHelps := qX1_swapWhileItHelps_0 _ (List.mem_of_getElem? (i := 6) rfl)
theorem tX1_swapWhileItHelps_13 : (13, a_if_ne 18 16) ∈ kX1_swapWhileItHelps := qX1_swapWhileItHelps_0 _ (List.mem_of_getElem? (i := 7) rfl)
theorem tX1_swapWhileItHelps_16 : (16, a_iload 1 17) ∈ kX1_swapWhileItHelps := qX1_swapWhileItHelps_0 _ (List.mem_of_getElem? (i := 8) rfl)
theorem tX1_swapWhileItHelps_17 : (17, a_iret false) ∈ kX1_swapWhileItHelps := qX1_swapWhileItHelps_0 _ (List.mem_of_getElem? (i := 9) rfl)
theorem tX1_swapWhileItHelps_18 : (18, a_iinc 1 1 21) ∈ kX1_swapWhileItHelps := qX1_swapWhileItHelps_0 _ (List.mem_of_getElem? (i := 10) rfl)
theorem tX1_swapWhileItHelps_21 : (21, a_goto 2) ∈ kX1_swapWhileItHelps := qX1_swapWhileItHelps_0 _ (List.mem_of_getElem? (i := 11) rfl)
theorem tX1_swapWhileItHelps_24 : (24, a_i 1000 27) ∈ kX1_swapWhileItHelps := qX1_swapWhileItHelps_0 _ (List.mem_of_getElem? (i := 12) rfl)
theorem tX1_swapWhileItHelps_27 : (27, a_iret false) ∈ kX1_swapWhileItHelps := qX1_swapWhileItHelps_0 _ (List.mem_of_getElem? (i := 13) rfl)
theorem oX1_swapWhileItHelps : ∀ q ∈ kX1_swapWhileItHelps, zSnd zty false RX1 cX1_swapWhileItHelps 2 (some .int) false q := oX1_swapWhileItHelps_0
theorem dX1_swapBest_0 : decode cX1_swapBest 0 = .ok (.aload_n 0, 1) := by decide +kernel
theorem dX1_swapBest_1 : decode cX1_swapBest 1 = .ok (.invokevirtual 100, 3) := by decide +kernel
theorem dX1_swapBest_4 : decode cX1_swapBest 4 = .ok (.istore_n 1, 1) := by decide +kernel
theorem dX1_swapBest_5 : decode cX1_swapBest 5 = .ok (.bipush (-4), 2) := by decide +kernel
theorem dX1_swapBest_7 : decode cX1_swapBest 7 = .ok (.istore_n 2, 1) := by decide +kernel
theorem dX1_swapBest_8 : decode cX1_swapBest 8 = .ok (.bipush (-4), 2) := by decide +kernel
theorem dX1_swapBest_10 : decode cX1_swapBest 10 = .ok (.istore_n 3, 1) := by decide +kernel
theorem dX1_swapBest_11 : decode cX1_swapBest 11 = .ok (.iconst 0, 1) := by decide +kernel
theorem dX1_swapBest_12 : decode cX1_swapBest 12 = .ok (.istore 4, 2) := by decide +kernel
theorem dX1_swapBest_14 : decode cX1_swapBest 14 = .ok (.iload 4, 2) := by decide +kernel
theorem dX1_swapBest_16 : decode cX1_swapBest 16 = .ok (.bipush 8, 2) := by decide +kernel
theorem dX1_swapBest_18 : decode cX1_swapBest 18 = .ok (.if_icmp .ge 65, 3) := by decide +kernel
theorem dX1_swapBest_21 : decode cX1_swapBest 21 = .ok (.iload 4, 2) := by decide +kernel
theorem dX1_swapBest_23 : decode cX1_swapBest 23 = .ok (.iconst 1, 1) := by decide +kernel
theorem dX1_swapBest_24 : decode cX1_swapBest 24 = .ok (.iadd, 1) := by decide +kernel
theorem dX1_swapBest_25 : decode cX1_swapBest 25 = .ok (.istore 5, 2) := by decide +kernel
theorem dX1_swapBest_27 : decode cX1_swapBest 27 = .ok (.iload 5, 2) := by decide +kernel
theorem dX1_swapBest_29 : decode cX1_swapBest 29 = .ok (.bipush 8, 2) := by decide +kernel
theorem dX1_swapBest_31 : decode cX1_swapBest 31 = .ok (.if_icmp .ge 46, 3) := by decide +kernel
theorem dX1_swapBest_34 : decode cX1_swapBest 34 = .ok (.aload_n 0, 1) := by decide +kernel
theorem dX1_swapBest_35 : decode cX1_swapBest 35 = .ok (.iload 4, 2) := by decide +kernel
theorem dX1_swapBest_37 : decode cX1_swapBest 37 = .ok (.iload 5, 2) := by decide +kernel
theorem dX1_swapBest_39 : decode cX1_swapBest 39 = .ok (.invokevirtual 103, 3) := by decide +kernel
theorem dX1_swapBest_42 : decode cX1_swapBest 42 = .ok (.aload_n 0, 1) := by decide +kernel
theorem dX1_swapBest_43 : decode cX1_swapBest 43 = .ok (.invokevirtual 100, 3) := by decide +kernel
theorem dX1_swapBest_46 : decode cX1_swapBest 46 = .ok (.istore 6, 2) := by decide +kernel
theorem dX1_swapBest_48 : decode cX1_swapBest 48 = .ok (.aload_n 0, 1) := by decide +kernel
theorem dX1_swapBest_49 : decode cX1_swapBest 49 = .ok (.iload 4, 2) := by decide +kernel
theorem dX1_swapBest_51 : decode cX1_swapBest 51 = .ok (.iload 5, 2) := by decide +kernel
theorem dX1_swapBest_53 : decode cX1_swapBest 53 = .ok (.invokevirtual 103, 3) := by decide +kernel
theorem dX1_swapBest_56 : decode cX1_swapBest 56 = .ok (.iload 6, 2) := by decide +kernel
theorem dX1_swapBest_58 : decode cX1_swapBest 58 = .ok (.iload_n 1, 1) := by decide +kernel
theorem dX1_swapBest_59 : decode cX1_swapBest 59 = .ok (.if_icmp .ge 12, 3) := by decide +kernel
theorem dX1_swapBest_62 : decode cX1_swapBest 62 = .ok (.iload 6, 2) := by decide +kernel
theorem dX1_swapBest_64 : decode cX1_swapBest 64 = .ok (.istore_n 1, 1) := by decide +kernel
theorem dX1_swapBest_65 : decode cX1_swapBest 65 = .ok (.iload 4, 2) := by decide +kernel
theorem dX1_swapBest_67 : decode cX1_swapBest 67 = .ok (.istore_n 2, 1) := by decide +kernel
theorem dX1_swapBest_68 : decode cX1_swapBest 68 = .ok (.iload 5, 2) := by decide +kernel
theorem dX1_swapBest_70 : decode cX1_swapBest 70 = .ok (.istore_n 3, 1) := by decide +kernel
theorem dX1_swapBest_71 : decode cX1_swapBest 71 = .ok (.iinc 5 1, 3) := by decide +kernel
theorem dX1_swapBest_74 : decode cX1_swapBest 74 = .ok (.goto (-47), 3) := by decide +kernel
theorem dX1_swapBest_77 : decode cX1_swapBest 77 = .ok (.iinc 4 1, 3) := by decide +kernel
theorem dX1_swapBest_80 : decode cX1_swapBest 80 = .ok (.goto (-66), 3) := by decide +kernel
theorem dX1_swapBest_83 : decode cX1_swapBest 83 = .ok (.aload_n 0, 1) := by decide +kernel
theorem dX1_swapBest_84 : decode cX1_swapBest 84 = .ok (.iload_n 2, 1) := by decide +kernel
theorem dX1_swapBest_85 : decode cX1_swapBest 85 = .ok (.iload_n 3, 1) := by decide +kernel
theorem dX1_swapBest_86 : decode cX1_swapBest 86 = .ok (.invokevirtual 103, 3) := by decide +kernel
theorem dX1_swapBest_89 : decode cX1_swapBest 89 = .ok (.iload_n 2, 1) := by decide +kernel
theorem dX1_swapBest_90 : decode cX1_swapBest 90 = .ok (.bipush (-4), 2) := by decide +kernel
theorem dX1_swapBest_92 : decode cX1_swapBest 92 = .ok (.if_icmp .eq 7, 3) := by decide +kernel
theorem dX1_swapBest_95 : decode cX1_swapBest 95 = .ok (.iconst 1, 1) := by decide +kernel
theorem dX1_swapBest_96 : decode cX1_swapBest 96 = .ok (.goto 4, 3) := by decide +kernel
theorem dX1_swapBest_99 : decode cX1_swapBest 99 = .ok (.iconst 0, 1) := by decide +kernel
theorem dX1_swapBest_100 : decode cX1_swapBest 100 = .ok (.ireturn, 1) := by decide +kernel
def kX1_swapBest_0 : List (Nat × zT) := [(0, a_aload 0 1), (1, a_callV 1 12 1 4 0 0), (4, a_istore 1 5), (5, a_i (-4) 7), (7, a_istore 2 8), (8, a_i (-4) 10), (10, a_istore 3 11), (11, a_i 0 12), (12, a_istore 4 14), (14, a_iload 4 16), (16, a_i 8 18), (18, a_ic_ge 83 21), (21, a_iload 4 23), (23, a_i 1 24), (24, a_ii (fun x y => x + y) 25), (25, a_istore 5 27), (27, a_iload 5 29), (29, a_i 8 31), (31, a_ic_ge 77 34), (34, a_aload 0 35), (35, a_iload 4 37), (37, a_iload 5 39), (39, a_callV 1 20 3 42 0 0), (42, a_aload 0 43)]
theorem oX1_swapBest_0 : ∀ q ∈ kX1_swapBest_0, zSnd zty false RX1 cX1_swapBest 7 (some .boolean) false q := List.forall_mem_cons.mpr ⟨ok_aload_n dX1_swapBest_0 rfl, List.forall_mem_cons.mpr ⟨ok_callV dX1_swapBest_1 rfl rfl w784 w834 w782 w10 w783 (by decide +kernel) (by decide), List.forall_mem_cons.mpr ⟨ok_istore_n dX1_swapBest_4 rfl (by decide), List.forall_mem_cons.mpr ⟨ok_bipush dX1_swapBest_5 (by decide), List.forall_mem_cons.mpr ⟨ok_istore_n dX1_swapBest_7 rfl (by decide), List.forall_mem_cons.mpr ⟨ok_bipush dX1_swapBest_8 (by decide), List.forall_mem_cons.mpr ⟨ok_istore_n dX1_swapBest_10 rfl (by decide), List.forall_mem_cons.mpr ⟨ok_iconst dX1_swapBest_11 (by decide), List.forall_mem_cons.mpr ⟨ok_istore dX1_swapBest_12 (by decide), List.forall_mem_cons.mpr ⟨ok_iload dX1_swapBest_14, List.forall_mem_cons.mpr ⟨ok_bipush dX1_swapBest_16 (by decide), List.forall_mem_cons.mpr ⟨ok_ic_ge dX1_swapBest_18 (by decide), List.forall_mem_cons.mpr ⟨ok_iload dX1_swapBest_21, List.forall_mem_cons.mpr ⟨ok_iconst dX1_swapBest_23 (by decide), List.forall_mem_cons.mpr ⟨ok_iadd dX1_swapBest_24, List.forall_mem_cons.mpr ⟨ok_istore dX1_swapBest_25 (by decide), List.forall_mem_cons.mpr ⟨ok_iload dX1_swapBest_27, List.forall_mem_cons.mpr ⟨ok_bipush dX1_swapBest_29 (by decide), List.forall_mem_cons.mpr ⟨ok_ic_ge dX1_swapBest_31 (by decide), List.forall_mem_cons.mpr ⟨ok_aload_n dX1_swapBest_34 rfl, List.forall_mem_cons.mpr ⟨ok_iload dX1_swapBest_35, List.forall_mem_cons.mpr ⟨ok_iload dX1_swapBest_37, List.forall_mem_cons.mpr ⟨ok_callV dX1_swapBest_39 rfl rfl w838 w835 w837 w10 s18 (by decide +kernel) (by decide), List.forall_mem_cons.mpr ⟨ok_aload_n dX1_swapBest_42 rfl, fun _ h => absurd h List.not_mem_nil⟩⟩⟩⟩⟩⟩⟩⟩⟩⟩⟩⟩⟩⟩⟩⟩⟩⟩⟩⟩⟩⟩⟩⟩
def kX1_swapBest_1 : List (Nat × zT) := [(43, a_callV 1 12 1 46 0 0), (46, a_istore 6 48), (48, a_aload 0 49), (49, a_iload 4 51), (51, a_iload 5 53), (53, a_callV 1 20 3 56 0 0), (56, a_iload 6 58), (58, a_iload 1 59), (59, a_ic_ge 71 62), (62, a_iload 6 64), (64, a_istore 1 65), (65, a_iload 4 67), (67, a_istore 2 68), (68, a_iload 5 70), (70, a_istore 3 71), (71, a_iinc 5 1 74), (74, a_goto 27), (77, a_iinc 4 1 80), (80, a_goto 14), (83, a_aload 0 84), (84, a_iload 2 85), (85, a_iload 3 86), (86, a_callV 1 20 3 89 0 0), (89, a_iload 2 90)]
theorem oX1_swapBest_1 : ∀ q ∈ kX1_swapBest_1, zSnd zty false RX1 cX1_swapBest 7 (some .boolean) false q := List.forall_mem_cons.mpr ⟨ok_callV dX1_swapBest_43 rfl rfl w784 w834 w782 w10 w783 (by decide +kernel) (by decide), List.forall_mem_cons.mpr ⟨ok_istore dX1_swapBest_46 (by decide), List.forall_mem_cons.mpr ⟨ok_aload_n dX1_swapBest_48 rfl, List.forall_mem_cons.mpr ⟨ok_iload dX1_swapBest_49, List.forall_mem_cons.mpr ⟨ok_iload dX1_swapBest_51, List.forall_mem_cons.mpr ⟨ok_callV dX1_swapBest_53 rfl rfl w838 w835 w837 w10 s18 (by decide +kernel) (by decide), List.forall_mem_cons.mpr ⟨ok_iload dX1_swapBest_56, List.forall_mem_cons.mpr ⟨ok_iload_n dX1_swapBest_58 rfl, List.forall_mem_cons.mpr ⟨ok_ic_ge dX1_swapBest_59 (by decide), List.forall_mem_cons.mpr ⟨ok_iload dX1_swapBest_62, List.forall_mem_cons.mpr ⟨ok_istore_n dX1_swapBest_64 rfl (by decide), List.forall_mem_cons.mpr ⟨ok_iload dX1_swapBest_65, List.forall_mem_cons.mpr ⟨ok_istore_n dX1_swapBest_67 rfl (by decide), List.forall_mem_cons.mpr ⟨ok_iload dX1_swapBest_68, List.forall_mem_cons.mpr ⟨ok_istore_n dX1_swapBest_70 rfl (by decide), List.forall_mem_cons.mpr ⟨ok_iinc dX1_swapBest_71 (by decide) (by decide), List.forall_mem_cons.mpr ⟨ok_goto dX1_swapBest_74 (by decide), List.forall_mem_cons.mpr ⟨ok_iinc dX1_swapBest_77 (by decide) (by decide), List.forall_mem_cons.mpr ⟨ok_goto dX1_swapBest_80 (by decide), List.forall_mem_cons.mpr ⟨ok_aload_n dX1_swapBest_83 rfl, List.forall_mem_cons.mpr ⟨ok_iload_n dX1_swapBest_84 rfl, List.forall_mem_cons.mpr ⟨ok_iload_n dX1_swapBest_85 rfl, List.forall_mem_cons.mpr ⟨ok_callV dX1_swapBest_86 rfl rfl w838 w835 w837 w10 s18 (by decide +kernel) (by decide), List.forall_mem_cons.mpr ⟨ok_iload_n dX1_swapBest_89 rfl, fun _ h => absurd h List.not_mem_nil⟩⟩⟩⟩⟩⟩⟩⟩⟩⟩⟩⟩⟩⟩⟩⟩⟩⟩⟩⟩⟩⟩⟩⟩
def kX1_swapBest_2 : List (Nat × zT) := [(90, a_i (-4) 92), (92, a_ic_eq 99 95), (95, a_i 1 96), (96, a_goto 100), (99, a_i 0 100), (100, a_iret true)]
theorem oX1_swapBest_2 : ∀ q ∈ kX1_swapBest_2, zSnd zty false RX1 cX1_swapBest 7 (some .boolean) false q := List.forall_mem_cons.mpr ⟨ok_bipush dX1_swapBest_90 (by decide), List.forall_mem_cons.mpr ⟨ok_ic_eq dX1_swapBest_92 (by decide), List.forall_mem_cons.mpr ⟨ok_iconst dX1_swapBest_95 (by decide), List.forall_mem_cons.mpr ⟨ok_goto dX1_swapBest_96 (by decide), List.forall_mem_cons.mpr ⟨ok_iconst dX1_swapBest_99 (by decide), List.forall_mem_cons.mpr ⟨ok_iret (bz := true) dX1_swapBest_100 rfl, fun _ h => absurd h List.not_mem_nil⟩⟩⟩⟩⟩⟩
def kX1_swapBest : List (Nat × zT) := kX1_swapBest_0 ++ (kX1_swapBest_1 ++ (kX1_swapBest_2))
theorem qX1_swapBest_0 : ∀ q ∈ kX1_swapBest_0, q ∈ kX1_swapBest := fun _ h => (List.mem_append_left _ h)
theorem tX1_swapBest_0 : (0, a_aload 0 1) ∈ kX1_swapBest := qX1_swapBest_0 _ (List.mem_of_getElem? (i := 0) rfl)
theorem tX1_swapBest_1 : (1, a_callV 1 12 1 4 0 0) ∈ kX1_swapBest := qX1_swapBest_0 _ (List.mem_of_getElem? (i := 1) rfl)
theorem tX1_swapBest_4 : (4, a_istore 1 5) ∈ kX1_swapBest := qX1_swapBest_0 _ (List.mem_of_getElem? (i := 2) rfl)
theorem tX1_swapBest_5 : (5, a_i (-4) 7) ∈ kX1_swapBest := qX1_swapBest_0 _ (List.mem_of_getElem? (i := 3) rfl)
theorem tX1_swapBest_7 : (7, a_istore 2 8) ∈ kX1_swapBest := qX1_swapBest_0 _ (List.mem_of_getElem? (i := 4) rfl)
theorem tX1_swapBest_8 : (8, a_i (-4) 10) ∈ kX1_swapBest := qX1_swapBest_0 _ (List.mem_of_getElem? (i := 5) rfl)
theorem tX1_swapBest_10 : (10, a_istore 3 11) ∈ kX1_swapBest := qX1_swapBest_0 _ (List.mem_of_getElem? (i := 6) rfl)
theorem tX1_swapBest_11 : (11, a_i 0 12) ∈ kX1_swapBest := qX1_swapBest_0 _ (List.mem_of_getElem? (i := 7) rfl)
theorem tX1_swapBest_12 : (12, a_istore 4 14) ∈ kX1_swapBest := qX1_swapBest_0 _ (List.mem_of_getElem? (i := 8) rfl)
theorem tX1_swapBest_14 : (14, a_iload 4 16) ∈ kX1_swapBest := qX1_swapBest_0 _ (List.mem_of_getElem? (i := 9) rfl)
theorem tX1_swapBest_16 : (16, a_i 8 18) ∈ kX1_swapBest := qX1_swapBest_0 _ (List.mem_of_getElem? (i := 10) rfl)
theorem tX1_swapBest_18 : (18, a_ic_ge 83 21) ∈ kX1_swapBest := qX1_swapBest_0 _ (List.mem_of_getElem? (i := 11) rfl)
theorem tX1_swapBest_21 : (21, a_iload 4 23) ∈ kX1_swapBest := qX1_swapBest_0 _ (List.mem_of_getElem? (i := 12) rfl)
theorem tX1_swapBest_23 : (23, a_i 1 24) ∈ kX1_swapBest := qX1_swapBest_0 _ (List.mem_of_getElem? (i := 13) rfl)
theorem tX1_swapBest_24 : (24, a_ii (fun x y => x + y) 25) ∈ kX1_swapBest := qX1_swapBest_0 _ (List.mem_of_getElem? (i := 14) rfl)
theorem tX1_swapBest_25 : (25, a_istore 5 27) ∈ kX1_swapBest := qX1_swapBest_0 _ (List.mem_of_getElem? (i := 15) rfl)
theorem tX1_swapBest_27 : (27, a_iload 5 29) ∈ kX1_swapBest := qX1_swapBest_0 _ (List.mem_of_getElem? (i := 16) rfl)
theorem tX1_swapBest_29 : (29, a_i 8 31) ∈ kX1_swapBest := qX1_swapBest_0 _ (List.mem_of_getElem? (i := 17) rfl)
theorem tX1_swapBest_31 : (31, a_ic_ge 77 34) ∈ kX1_swapBest := qX1_swapBest_0 _ (List.mem_of_getElem? (i := 18) rfl)
theorem tX1_swapBest_34 : (34, a_aload 0 35) ∈ kX1_swapBest := qX1_swapBest_0 _ (List.mem_of_getElem? (i := 19) rfl)
theorem tX1_swapBest_35 : (35, a_iload 4 37) ∈ kX1_swapBest := qX1_swapBest_0 _ (List.mem_of_getElem? (i := 20) rfl)
theorem tX1_swapBest_37 : (37, a_iload 5 39) ∈ kX1_swapBest := qX1_swapBest_0 _ (List.mem_of_getElem? (i := 21) rfl)
theorem tX1_swapBest_39 : (39, a_callV 1 20 3 42 0 0) ∈ kX1_swapBest := qX1_swapBest_0 _ (List.mem_of_getElem? (i := 22) rfl)
theorem tX1_swapBest_42 : (42, a_aload 0 43) ∈ kX1_swapBest := qX1_swapBest_0 _ (List.mem_of_getElem? (i := 23) rfl)
theorem qX1_swapBest_1 : ∀ q ∈ kX1_swapBest_1, q ∈ kX1_swapBest := fun _ h => (List.mem_append_right _ (List.mem_append_left _ h))
theorem tX1_swapBest_43 : (43, a_callV 1 12 1 46 0 0) ∈ kX1_swapBest := qX1_swapBest_1 _ (List.mem_of_getElem? (i := 0) rfl)
theorem tX1_swapBest_46 : (46, a_istore 6 48) ∈ kX1_swapBest := qX1_swapBest_1 _ (List.mem_of_getElem? (i := 1) rfl)
theorem tX1_swapBest_48 : (48, a_aload 0 49) ∈ kX1_swapBest := qX1_swapBest_1 _ (List.mem_of_getElem? (i := 2) rfl)
theorem tX1_swapBest_49 : (49, a_iload 4 51) ∈ kX1_swapBest := qX1_swapBest_1 _ (List.mem_of_getElem? (i := 3) rfl)
theorem tX1_swapBest_51 : (51, a_iload 5 53) ∈ kX1_swapBest := qX1_swapBest_1 _ (List.mem_of_getElem? (i := 4) rfl)
theorem tX1_swapBest_53 : (53, a_callV 1 20 3 56 0 0) ∈ kX1_swapBest := qX1_swapBest_1 _ (List.mem_of_getElem? (i := 5) rfl)
theorem tX1_swapBest_56 : (56, a_iload 6 58) ∈ kX1_swapBest := qX1_swapBest_1 _ (List.mem_of_getElem? (i := 6) rfl)
theorem tX1_swapBest_58 : (58, a_iload 1 59) ∈ kX1_swapBest := qX1_swapBest_1 _ (List.mem_of_getElem? (i := 7) rfl)
theorem tX1_swapBest_59 : (59, a_ic_ge 71 62) ∈ kX1_swapBest := qX1_swapBest_1 _ (List.mem_of_getElem? (i := 8) rfl)
theorem tX1_swapBest_62 : (62, a_iload 6 64) ∈ kX1_swapBest := qX1_swapBest_1 _ (List.mem_of_getElem? (i := 9) rfl)
theorem tX1_swapBest_64 : (64, a_istore 1 65) ∈ kX1_swapBest := qX1_swapBest_1 _ (List.mem_of_getElem? (i := 10) rfl)
theorem tX1_swapBest_65 : (65, a_iload 4 67) ∈ kX1_swapBest := qX1_swapBest_1 _ (List.mem_of_getElem? (i := 11) rfl)
theorem tX1_swapBest_67 : (67, a_istore 2 68) ∈ kX1_swapBest := qX1_swapBest_1 _ (List.mem_of_getElem? (i := 12) rfl)
theorem tX1_swapBest_68 : (68, a_iload 5 70) ∈ kX1_swapBest := qX1_swapBest_1 _ (List.mem_of_getElem? (i := 13) rfl)
theorem tX1_swapBest_70 : (70, a_istore 3 71) ∈ kX1_swapBest := qX1_swapBest_1 _ (List.mem_of_getElem? (i := 14) rfl)
theorem tX1_swapBest_71 : (71, a_iinc 5 1 74) ∈ kX1_swapBest := qX1_swapBest_1 _ (List.mem_of_getElem? (i := 15) rfl)
theorem tX1_swapBest_74 : (74, a_goto 27) ∈ kX1_swapBest := qX1_swapBest_1 _ (List.mem_of_getElem? (i := 16) rfl)
theorem tX1_swapBest_77 : (77, a_iinc 4 1 80) ∈ kX1_swapBest := qX1_swapBest_1 _ (List.mem_of_getElem? (i := 17) rfl)
theorem tX1_swapBest_80 : (80, a_goto 14) ∈ kX1_swapBest := qX1_swapBest_1 _ (List.mem_of_getElem? (i := 18) rfl)
theorem tX1_swapBest_83 : (83, a_aload 0 84) ∈ kX1_swapBest := qX1_swapBest_1 _ (List.mem_of_getElem? (i := 19) rfl)
theorem tX1_swapBest_84 : (84, a_iload 2 85) ∈ kX1_swapBest := qX1_swapBest_1 _ (List.mem_of_getElem? (i := 20) rfl)
theorem tX1_swapBest_85 : (85, a_iload 3 86) ∈ kX1_swapBest := qX1_swapBest_1 _ (List.mem_of_getElem? (i := 21) rfl)
theorem tX1_swapBest_86 : (86, a_callV 1 20 3 89 0 0) ∈ kX1_swapBest := qX1_swapBest_1 _ (List.mem_of_getElem? (i := 22) rfl)
theorem tX1_swapBest_89 : (89, a_iload 2 90) ∈ kX1_swapBest := qX1_swapBest_1 _ (List.mem_of_getElem? (i := 23) rfl)
theorem qX1_swapBest_2 : ∀ q ∈ kX1_swapBest_2, q ∈ kX1_swapBest := fun _ h => (List.mem_append_right _ (List.mem_append_right _ h))
theorem tX1_swapBest_90 : (90, a_i (-4) 92) ∈ kX1_swapBest := qX1_swapBest_2 _ (List.mem_of_getElem? (i := 0) rfl)
theorem tX1_swapBest_92 : (92, a_ic_eq 99 95) ∈ kX1_swapBest := qX1_swapBest_2 _ (List.mem_of_getElem? (i := 1) rfl)
theorem tX1_swapBest_95 : (95, a_i 1 96) ∈ kX1_swapBest := qX1_swapBest_2 _ (List.mem_of_getElem? (i := 2) rfl)
theorem tX1_swapBest_96 : (96, a_goto 100) ∈ kX1_swapBest := qX1_swapBest_2 _ (List.mem_of_getElem? (i := 3) rfl)
theorem tX1_swapBest_99 : (99, a_i 0 100) ∈ kX1_swapBest := qX1_swapBest_2 _ (List.mem_of_getElem? (i := 4) rfl)
theorem tX1_swapBest_100 : (100, a_iret true) ∈ kX1_swapBest := qX1_swapBest_2 _ (List.mem_of_getElem? (i := 5) rfl)
theorem oX1_swapBest : ∀ q ∈ kX1_swapBest, zSnd zty false RX1 cX1_swapBest 7 (some .boolean) false q := List.forall_mem_append.mpr ⟨oX1_swapBest_0, List.forall_mem_append.mpr ⟨oX1_swapBest_1, oX1_swapBest_2⟩⟩
theorem dX1_exchange_0 : decode cX1_exchange 0 = .ok (.iconst 0, 1) := by decide +kernel
theorem dX1_exchange_1 : decode cX1_exchange 1 = .ok (.istore_n 3, 1) := by decide +kernel
theorem dX1_exchange_2 : decode cX1_exchange 2 = .ok (.iload_n 3, 1) := by decide +kernel
theorem dX1_exchange_3 : decode cX1_exchange 3 = .ok (.aload_n 0, 1) := by decide +kernel
theorem dX1_exchange_4 : decode cX1_exchange 4 = .ok (.getfield 18, 3) := by decide +kernel
theorem dX1_exchange_7 : decode cX1_exchange 7 = .ok (.if_icmp .ge 46, 3) := by decide +kernel
theorem dX1_exchange_10 : decode cX1_exchange 10 = .ok (.aload_n 0, 1) := by decide +kernel
theorem dX1_exchange_11 : decode cX1_exchange 11 = .ok (.getfield 11, 3) := by decide +kernel
theorem dX1_exchange_14 : decode cX1_exchange 14 = .ok (.iload_n 3, 1) := by decide +kernel
theorem dX1_exchange_15 : decode cX1_exchange 15 = .ok (.iaload, 1) := by decide +kernel
theorem dX1_exchange_16 : decode cX1_exchange 16 = .ok (.iload_n 1, 1) := by decide +kernel
theorem dX1_exchange_17 : decode cX1_exchange 17 = .ok (.if_icmp .ne 13, 3) := by decide +kernel
theorem dX1_exchange_20 : decode cX1_exchange 20 = .ok (.aload_n 0, 1) := by decide +kernel
theorem dX1_exchange_21 : decode cX1_exchange 21 = .ok (.getfield 11, 3) := by decide +kernel
theorem dX1_exchange_24 : decode cX1_exchange 24 = .ok (.iload_n 3, 1) := by decide +kernel
theorem dX1_exchange_25 : decode cX1_exchange 25 = .ok (.iload_n 2, 1) := by decide +kernel
theorem dX1_exchange_26 : decode cX1_exchange 26 = .ok (.iastore, 1) := by decide +kernel
theorem dX1_exchange_27 : decode cX1_exchange 27 = .ok (.goto 20, 3) := by decide +kernel
theorem dX1_exchange_30 : decode cX1_exchange 30 = .ok (.aload_n 0, 1) := by decide +kernel
theorem dX1_exchange_31 : decode cX1_exchange 31 = .ok (.getfield 11, 3) := by decide +kernel
theorem dX1_exchange_34 : decode cX1_exchange 34 = .ok (.iload_n 3, 1) := by decide +kernel
theorem dX1_exchange_35 : decode cX1_exchange 35 = .ok (.iaload, 1) := by decide +kernel
theorem dX1_exchange_36 : decode cX1_exchange 36 = .ok (.iload_n 2, 1) := by decide +kernel
theorem dX1_exchange_37 : decode cX1_exchange 37 = .ok (.if_icmp .ne 10, 3) := by decide +kernel
theorem dX1_exchange_40 : decode cX1_exchange 40 = .ok (.aload_n 0, 1) := by decide +kernel
theorem dX1_exchange_41 : decode cX1_exchange 41 = .ok (.getfield 11, 3) := by decide +kernel
theorem dX1_exchange_44 : decode cX1_exchange 44 = .ok (.iload_n 3, 1) := by decide +kernel
theorem dX1_exchange_45 : decode cX1_exchange 45 = .ok (.iload_n 1, 1) := by decide +kernel
theorem dX1_exchange_46 : decode cX1_exchange 46 = .ok (.iastore, 1) := by decide +kernel
theorem dX1_exchange_47 : decode cX1_exchange 47 = .ok (.iinc 3 1, 3) := by decide +kernel
theorem dX1_exchange_50 : decode cX1_exchange 50 = .ok (.goto (-48), 3) := by decide +kernel
theorem dX1_exchange_53 : decode cX1_exchange 53 = .ok (.return_, 1) := by decide +kernel
def kX1_exchange_0 : List (Nat × zT) := [(0, a_i 0 1), (1, a_istore 3 2), (2, a_iload 3 3), (3, a_aload 0 4), (4, a_getI 1 2 7), (7, a_ic_ge 53 10), (10, a_aload 0 11), (11, a_getR 1 0 14), (14, a_iload 3 15), (15, a_iald 16), (16, a_iload 1 17), (17, a_ic_ne 30 20), (20, a_aload 0 21), (21, a_getR 1 0 24), (24, a_iload 3 25), (25, a_iload 2 26), (26, a_iast 27), (27, a_goto 47), (30, a_aload 0 31), (31, a_getR 1 0 34), (34, a_iload 3 35), (35, a_iald 36), (36, a_iload 2 37), (37, a_ic_ne 47 40)]
theorem oX1_exchange_0 : ∀ q ∈ kX1_exchange_0, zSnd zty false RX1 cX1_exchange 4 none false q := List.forall_mem_cons.mpr ⟨ok_iconst dX1_exchange_0 (by decide), List.forall_mem_cons.mpr ⟨ok_istore_n dX1_exchange_1 rfl (by decide), List.forall_mem_cons.mpr ⟨ok_iload_n dX1_exchange_2 rfl, List.forall_mem_cons.mpr ⟨ok_aload_n dX1_exchange_3 rfl, List.forall_mem_cons.mpr ⟨ok_getI dX1_exchange_4 rfl in1 (by decide) rfl w242, List.forall_mem_cons.mpr ⟨ok_ic_ge dX1_exchange_7 (by decide), List.forall_mem_cons.mpr ⟨ok_aload_n dX1_exchange_10 rfl, List.forall_mem_cons.mpr ⟨ok_getR dX1_exchange_11 rfl in1 (by decide) rfl w240, List.forall_mem_cons.mpr ⟨ok_iload_n dX1_exchange_14 rfl, List.forall_mem_cons.mpr ⟨ok_iald dX1_exchange_15, List.forall_mem_cons.mpr ⟨ok_iload_n dX1_exchange_16 rfl, List.forall_mem_cons.mpr ⟨ok_ic_ne dX1_exchange_17 (by decide), List.forall_mem_cons.mpr ⟨ok_aload_n dX1_exchange_20 rfl, List.forall_mem_cons.mpr ⟨ok_getR dX1_exchange_21 rfl in1 (by decide) rfl w240, List.forall_mem_cons.mpr ⟨ok_iload_n dX1_exchange_24 rfl, List.forall_mem_cons.mpr ⟨ok_iload_n dX1_exchange_25 rfl, List.forall_mem_cons.mpr ⟨ok_iast dX1_exchange_26, List.forall_mem_cons.mpr ⟨ok_goto dX1_exchange_27 (by decide), List.forall_mem_cons.mpr ⟨ok_aload_n dX1_exchange_30 rfl, List.forall_mem_cons.mpr ⟨ok_getR dX1_exchange_31 rfl in1 (by decide) rfl w240, List.forall_mem_cons.mpr ⟨ok_iload_n dX1_exchange_34 rfl, List.forall_mem_cons.mpr ⟨ok_iald dX1_exchange_35, List.forall_mem_cons.mpr ⟨ok_iload_n dX1_exchange_36 rfl, List.forall_mem_cons.mpr ⟨ok_ic_ne dX1_exchange_37 (by decide), fun _ h => absurd h List.not_mem_nil⟩⟩⟩⟩⟩⟩⟩⟩⟩⟩⟩⟩⟩⟩⟩⟩⟩⟩⟩⟩⟩⟩⟩⟩
def kX1_exchange_1 : List (Nat × zT) := [(40, a_aload 0 41), (41, a_getR 1 0 44), (44, a_iload 3 45), (45, a_iload 1 46), (46, a_iast 47), (47, a_iinc 3 1 50), (50, a_goto 2), (53, a_vret)]
theorem oX1_exchange_1 : ∀ q ∈ kX1_exchange_1, zSnd zty false RX1 cX1_exchange 4 none false q := List.forall_mem_cons.mpr ⟨ok_aload_n dX1_exchange_40 rfl, List.forall_mem_cons.mpr ⟨ok_getR dX1_exchange_41 rfl in1 (by decide) rfl w240, List.forall_mem_cons.mpr ⟨ok_iload_n dX1_exchange_44 rfl, List.forall_mem_cons.mpr ⟨ok_iload_n dX1_exchange_45 rfl, List.forall_mem_cons.mpr ⟨ok_iast dX1_exchange_46, List.forall_mem_cons.mpr ⟨ok_iinc dX1_exchange_47 (by decide) (by decide), List.forall_mem_cons.mpr ⟨ok_goto dX1_exchange_50 (by decide), List.forall_mem_cons.mpr ⟨ok_vret dX1_exchange_53 rfl, fun _ h => absurd h List.not_mem_nil⟩⟩⟩⟩⟩⟩⟩⟩
def kX1_exchange : List (Nat × zT) := kX1_exchange_0 ++ (kX1_exchange_1)
theorem qX1_exchange_0 : ∀ q ∈ kX1_exchange_0, q ∈ kX1_exchange := fun _ h => (List.mem_append_left _ h)
theorem tX1_exchange_0 : (0, a_i 0 1) ∈ kX1_exchange := qX1_exchange_0 _ (List.mem_of_getElem? (i := 0) rfl)
theorem tX1_exchange_1 : (1, a_istore 3 2) ∈ kX1_exchange := qX1_exchange_0 _ (List.mem_of_getElem? (i := 1) rfl)
theorem tX1_exchange_2 : (2, a_iload 3 3) ∈ kX1_exchange := qX1_exchange_0 _ (List.mem_of_getElem? (i := 2) rfl)
theorem tX1_exchange_3 : (3, a_aload 0 4) ∈ kX1_exchange := qX1_exchange_0 _ (List.mem_of_getElem? (i := 3) rfl)
theorem tX1_exchange_4 : (4, a_getI 1 2 7) ∈ kX1_exchange := qX1_exchange_0 _ (List.mem_of_getElem? (i := 4) rfl)
theorem tX1_exchange_7 : (7, a_ic_ge 53 10) ∈ kX1_exchange := qX1_exchange_0 _ (List.mem_of_getElem? (i := 5) rfl)
theorem tX1_exchange_10 : (10, a_aload 0 11) ∈ kX1_exchange := qX1_exchange_0 _ (List.mem_of_getElem? (i := 6) rfl)
theorem tX1_exchange_11 : (11, a_getR 1 0 14) ∈ kX1_exchange := qX1_exchange_0 _ (List.mem_of_getElem? (i := 7) rfl)
theorem tX1_exchange_14 : (14, a_iload 3 15) ∈ kX1_exchange := qX1_exchange_0 _ (List.mem_of_getElem? (i := 8) rfl)
theorem tX1_exchange_15 : (15, a_iald 16) ∈ kX1_exchange := qX1_exchange_0 _ (List.mem_of_getElem? (i := 9) rfl)
theorem tX1_exchange_16 : (16, a_iload 1 17) ∈ kX1_exchange := qX1_exchange_0 _ (List.mem_of_getElem? (i := 10) rfl)
theorem tX1_exchange_17 : (17, a_ic_ne 30 20) ∈ kX1_exchange := qX1_exchange_0 _ (List.mem_of_getElem? (i := 11) rfl)
theorem tX1_exchange_20 : (20, a_aload 0 21) ∈ kX1_exchange := qX1_exchange_0 _ (List.mem_of_getElem? (i := 12) rfl)
theorem tX1_exchange_21 : (21, a_getR 1 0 24) ∈ kX1_exchange := qX1_exchange_0 _ (List.mem_of_getElem? (i := 13) rfl)
theorem tX1_exchange_24 : (24, a_iload 3 25) ∈ kX1_exchange := qX1_exchange_0 _ (List.mem_of_getElem? (i := 14) rfl)
theorem tX1_exchange_25 : (25, a_iload 2 26) ∈ kX1_exchange := qX1_exchange_0 _ (List.mem_of_getElem? (i := 15) rfl)
theorem tX1_exchange_26 : (26, a_iast 27) ∈ kX1_exchange := qX1_exchange_0 _ (List.mem_of_getElem? (i := 16) rfl)
theorem tX1_exchange_27 : (27, a_goto 47) ∈ kX1_exchange := qX1_exchange_0 _ (List.mem_of_getElem? (i := 17) rfl)
theorem tX1_exchange_30 : (30, a_aload 0 31) ∈ kX1_exchange := qX1_exchange_0 _ (List.mem_of_getElem? (i := 18) rfl)
theorem tX1_exchange_31 : (31, a_getR 1 0 34) ∈ kX1_exchange := qX1_exchange_0 _ (List.mem_of_getElem? (i := 19) rfl)
theorem tX1_exchange_34 : (34, a_iload 3 35) ∈ kX1_exchange := qX1_exchange_0 _ (List.mem_of_getElem? (i := 20) rfl)
theorem tX1_exchange_35 : (35, a_iald 36) ∈ kX1_exchange := qX1_exchange_0 _ (List.mem_of_getElem? (i := 21) rfl)
theorem tX1_exchange_36 : (36, a_iload 2 37) ∈ kX1_exchange := qX1_exchange_0 _ (List.mem_of_getElem? (i := 22) rfl)
theorem tX1_exchange_37 : (37, a_ic_ne 47 40) ∈ kX1_exchange := qX1_exchange_0 _ (List.mem_of_getElem? (i := 23) rfl)
theorem qX1_exchange_1 : ∀ q ∈ kX1_exchange_1, q ∈ kX1_exchange := fun _ h => (List.mem_append_right _ h)
theorem tX1_exchange_40 : (40, a_aload 0 41) ∈ kX1_exchange := qX1_exchange_1 _ (List.mem_of_getElem? (i := 0) rfl)
theorem tX1_exchange_41 : (41, a_getR 1 0 44) ∈ kX1_exchange := qX1_exchange_1 _ (List.mem_of_getElem? (i := 1) rfl)
theorem tX1_exchange_44 : (44, a_iload 3 45) ∈ kX1_exchange := qX1_exchange_1 _ (List.mem_of_getElem? (i := 2) rfl)
theorem tX1_exchange_45 : (45, a_iload 1 46) ∈ kX1_exchange := qX1_exchange_1 _ (List.mem_of_getElem? (i := 3) rfl)
theorem tX1_exchange_46 : (46, a_iast 47) ∈ kX1_exchange := qX1_exchange_1 _ (List.mem_of_getElem? (i := 4) rfl)
theorem tX1_exchange_47 : (47, a_iinc 3 1 50) ∈ kX1_exchange := qX1_exchange_1 _ (List.mem_of_getElem? (i := 5) rfl)
theorem tX1_exchange_50 : (50, a_goto 2) ∈ kX1_exchange := qX1_exchange_1 _ (List.mem_of_getElem? (i := 6) rfl)
theorem tX1_exchange_53 : (53, a_vret) ∈ kX1_exchange := qX1_exchange_1 _ (List.mem_of_getElem? (i := 7) rfl)
theorem oX1_exchange : ∀ q ∈ kX1_exchange, zSnd zty false RX1 cX1_exchange 4 none false q := List.forall_mem_append.mpr ⟨oX1_exchange_0, oX1_exchange_1⟩
theorem dX2_init_0 : decode cX2_init 0 = .ok (.aload_n 0, 1) := by decide +kernel
theorem dX2_init_1 : decode cX2_init 1 = .ok (.invokespecial 3, 3) := by decide +kernel
theorem dX2_init_4 : decode cX2_init 4 = .ok (.aload_n 0, 1) := by decide +kernel
theorem dX2_init_5 : decode cX2_init 5 = .ok (.bipush 7, 2) := by decide +kernel
theorem dX2_init_7 : decode cX2_init 7 = .ok (.newarray .int, 2) := by decide +kernel
theorem dX2_init_9 : decode cX2_init 9 = .ok (.dup, 1) := by decide +kernel
theorem dX2_init_10 : decode cX2_init 10 = .ok (.iconst 0, 1) := by decide +kernel
theorem dX2_init_11 : decode cX2_init 11 = .ok (.iconst 1, 1) := by decide +kernel
theorem dX2_init_12 : decode cX2_init 12 = .ok (.iastore, 1) := by decide +kernel
theorem dX2_init_13 : decode cX2_init 13 = .ok (.dup, 1) := by decide +kernel
theorem dX2_init_14 : decode cX2_init 14 = .ok (.iconst 1, 1) := by decide +kernel
theorem dX2_init_15 : decode cX2_init 15 = .ok (.iconst 3, 1) := by decide +kernel
theorem dX2_init_16 : decode cX2_init 16 = .ok (.iastore, 1) := by decide +kernel
theorem dX2_init_17 : decode cX2_init 17 = .ok (.dup, 1) := by decide +kernel
theorem dX2_init_18 : decode cX2_init 18 = .ok (.iconst 2, 1) := by decide +kernel
theorem dX2_init_19 : decode cX2_init 19 = .ok (.iconst 3, 1) := by decide +kernel
theorem dX2_init_20 : decode cX2_init 20 = .ok (.iastore, 1) := by decide +kernel
theorem dX2_init_21 : decode cX2_init 21 = .ok (.dup, 1) := by decide +kernel
theorem dX2_init_22 : decode cX2_init 22 = .ok (.iconst 3, 1) := by decide +kernel
theorem dX2_init_23 : decode cX2_init 23 = .ok (.iconst 2, 1) := by decide +kernel
theorem dX2_init_24 : decode cX2_init 24 = .ok (.iastore, 1) := by decide +kernel
theorem dX2_init_25 : decode cX2_init 25 = .ok (.dup, 1) := by decide +kernel
theorem dX2_init_26 : decode cX2_init 26 = .ok (.iconst 4, 1) := by decide +kernel
theorem dX2_init_27 : decode cX2_init 27 = .ok (.iconst 2, 1) := by decide +kernel
theorem dX2_init_28 : decode cX2_init 28 = .ok (.iastore, 1) := by decide +kernel
theorem dX2_init_29 : decode cX2_init 29 = .ok (.dup, 1) := by decide +kernel
theorem dX2_init_30 : decode cX2_init 30 = .ok (.iconst 5, 1) := by decide +kernel
theorem dX2_init_31 : decode cX2_init 31 = .ok (.iconst 5, 1) := by decide +kernel
theorem dX2_init_32 : decode cX2_init 32 = .ok (.iastore, 1) := by decide +kernel
theorem dX2_init_33 : decode cX2_init 33 = .ok (.dup, 1) := by decide +kernel
theorem dX2_init_34 : decode cX2_init 34 = .ok (.bipush 6, 2) := by decide +kernel
theorem dX2_init_36 : decode cX2_init 36 = .ok (.bipush 6, 2) := by decide +kernel
theorem dX2_init_38 : decode cX2_init 38 = .ok (.iastore, 1) := by decide +kernel
theorem dX2_init_39 : decode cX2_init 39 = .ok (.putfield 9, 3) := by decide +kernel
theorem dX2_init_42 : decode cX2_init 42 = .ok (.aload_n 0, 1) := by decide +kernel
theorem dX2_init_43 : decode cX2_init 43 = .ok (.bipush 7, 2) := by decide +kernel
theorem dX2_init_45 : decode cX2_init 45 = .ok (.newarray .int, 2) := by decide +kernel
theorem dX2_init_47 : decode cX2_init 47 = .ok (.dup, 1) := by decide +kernel
theorem dX2_init_48 : decode cX2_init 48 = .ok (.iconst 0, 1) := by decide +kernel
theorem dX2_init_49 : decode cX2_init 49 = .ok (.iconst 1, 1) := by decide +kernel
theorem dX2_init_50 : decode cX2_init 50 = .ok (.iastore, 1) := by decide +kernel
theorem dX2_init_51 : decode cX2_init 51 = .ok (.dup, 1) := by decide +kernel
theorem dX2_init_52 : decode cX2_init 52 = .ok (.iconst 1, 1) := by decide +kernel
theorem dX2_init_53 : decode cX2_init 53 = .ok (.iconst 2, 1) := by decide +kernel
theorem dX2_init_54 : decode cX2_init 54 = .ok (.iastore, 1) := by decide +kernel
theorem dX2_init_55 : decode cX2_init 55 = .ok (.dup, 1) := by decide +kernel
theorem dX2_init_56 : decode cX2_init 56 = .ok (.iconst 2, 1) := by decide +kernel
theorem dX2_init_57 : decode cX2_init 57 = .ok (.iconst 2, 1) := by decide +kernel
theorem dX2_init_58 : decode cX2_init 58 = .ok (.iastore, 1) := by decide +kernel
theorem dX2_init_59 : decode cX2_init 59 = .ok (.dup, 1) := by decide +kernel
theorem dX2_init_60 : decode cX2_init 60 = .ok (.iconst 3, 1) := by decide +kernel
theorem dX2_init_61 : decode cX2_init 61 = .ok (.iconst 1, 1) := by decide +kernel
theorem dX2_init_62 : decode cX2_init 62 = .ok (.iastore, 1) := by decide +kernel
theorem dX2_init_63 : decode cX2_init 63 = .ok (.dup, 1) := by decide +kernel
theorem dX2_init_64 : decode cX2_init 64 = .ok (.iconst 4, 1) := by decide +kernel
theorem dX2_init_65 : decode cX2_init 65 = .ok (.iconst 1, 1) := by decide +kernel
theorem dX2_init_66 : decode cX2_init 66 = .ok (.iastore, 1) := by decide +kernel
theorem dX2_init_67 : decode cX2_init 67 = .ok (.dup, 1) := by decide +kernel
theorem dX2_init_68 : decode cX2_init 68 = .ok (.iconst 5, 1) := by decide +kernel
theorem dX2_init_69 : decode cX2_init 69 = .ok (.iconst 3, 1) := by decide +kernel
theorem dX2_init_70 : decode cX2_init 70 = .ok (.iastore, 1) := by decide +kernel
theorem dX2_init_71 : decode cX2_init 71 = .ok (.dup, 1) := by decide +kernel
theorem dX2_init_72 : decode cX2_init 72 = .ok (.bipush 6, 2) := by decide +kernel
theorem dX2_init_74 : decode cX2_init 74 = .ok (.iconst 3, 1) := by decide +kernel
theorem dX2_init_75 : decode cX2_init 75 = .ok (.iastore, 1) := by decide +kernel
theorem dX2_init_76 : decode cX2_init 76 = .ok (.putfield 15, 3) := by decide +kernel
theorem dX2_init_79 : decode cX2_init 79 = .ok (.aload_n 0, 1) := by decide +kernel
theorem dX2_init_80 : decode cX2_init 80 = .ok (.iconst 5, 1) := by decide +kernel
theorem dX2_init_81 : decode cX2_init 81 = .ok (.newarray .int, 2) := by decide +kernel
theorem dX2_init_83 : decode cX2_init 83 = .ok (.dup, 1) := by decide +kernel
theorem dX2_init_84 : decode cX2_init 84 = .ok (.iconst 0, 1) := by decide +kernel
theorem dX2_init_85 : decode cX2_init 85 = .ok (.bipush 100, 2) := by decide +kernel
theorem dX2_init_87 : decode cX2_init 87 = .ok (.iastore, 1) := by decide +kernel
theorem dX2_init_88 : decode cX2_init 88 = .ok (.dup, 1) := by decide +kernel
theorem dX2_init_89 : decode cX2_init 89 = .ok (.iconst 1, 1) := by decide +kernel
theorem dX2_init_90 : decode cX2_init 90 = .ok (.bipush 80, 2) := by decide +kernel
theorem dX2_init_92 : decode cX2_init 92 = .ok (.iastore, 1) := by decide +kernel
theorem dX2_init_93 : decode cX2_init 93 = .ok (.dup, 1) := by decide +kernel
theorem dX2_init_94 : decode cX2_init 94 = .ok (.iconst 2, 1) := by decide +kernel
theorem dX2_init_95 : decode cX2_init 95 = .ok (.sipush 130, 3) := by decide +kernel
theorem dX2_init_98 : decode cX2_init 98 = .ok (.iastore, 1) := by decide +kernel
theorem dX2_init_99 : decode cX2_init 99 = .ok (.dup, 1) := by decide +kernel
theorem dX2_init_100 : decode cX2_init 100 = .ok (.iconst 3, 1) := by decide +kernel
theorem dX2_init_101 : decode cX2_init 101 = .ok (.iconst 1, 1) := by decide +kernel
theorem dX2_init_102 : decode cX2_init 102 = .ok (.iastore, 1) := by decide +kernel
theorem dX2_init_103 : decode cX2_init 103 = .ok (.dup, 1) := by decide +kernel
theorem dX2_init_104 : decode cX2_init 104 = .ok (.iconst 4, 1) := by decide +kernel
theorem dX2_init_105 : decode cX2_init 105 = .ok (.bipush 20, 2) := by decide +kernel
theorem dX2_init_107 : decode cX2_init 107 = .ok (.iastore, 1) := by decide +kernel
theorem dX2_init_108 : decode cX2_init 108 = .ok (.putfield 18, 3) := by decide +kernel
theorem dX2_init_111 : decode cX2_init 111 = .ok (.return_, 1) := by decide +kernel
def kX2_init_0 : List (Nat × zT) := [(0, a_aload 0 1), (1, a_obj 4), (4, a_aload 0 5), (5, a_i 7 7), (7, a_newI 9), (9, a_dup 10), (10, a_i 0 11), (11, a_i 1 12), (12, a_iast 13), (13, a_dup 14), (14, a_i 1 15), (15, a_i 3 16), (16, a_iast 17), (17, a_dup 18), (18, a_i 2 19), (19, a_i 3 20), (20, a_iast 21), (21, a_dup 22), (22, a_i 3 23), (23, a_i 2 24), (24, a_iast 25), (25, a_dup 26), (26, a_i 4 27), (27, a_i 2 28)]
theorem oX2_init_0 : ∀ q ∈ kX2_init_0, zSnd zty true RX2 cX2_init 1 none true q := List.forall_mem_cons.mpr ⟨ok_aload_n dX2_init_0 rfl, List.forall_mem_cons.mpr ⟨ok_obj dX2_init_1 w188 w25 w26, List.forall_mem_cons.mpr ⟨ok_aload_n dX2_init_4 rfl, List.forall_mem_cons.mpr ⟨ok_bipush dX2_init_5 (by decide), List.forall_mem_cons.mpr ⟨ok_newI dX2_init_7 rfl w44, List.forall_mem_cons.mpr ⟨ok_dup dX2_init_9, List.forall_mem_cons.mpr ⟨ok_iconst dX2_init_10 (by decide), List.forall_mem_cons.mpr ⟨ok_iconst dX2_init_11 (by decide), List.forall_mem_cons.mpr ⟨ok_iast dX2_init_12, List.forall_mem_cons.mpr ⟨ok_dup dX2_init_13, List.forall_mem_cons.mpr ⟨ok_iconst dX2_init_14 (by decide), List.forall_mem_cons.mpr ⟨ok_iconst dX2_init_15 (by decide), List.forall_mem_cons.mpr ⟨ok_iast dX2_init_16, List.forall_mem_cons.mpr ⟨ok_dup dX2_init_17, List.forall_mem_cons.mpr ⟨ok_iconst dX2_init_18 (by decide), List.forall_mem_cons.mpr ⟨ok_iconst dX2_init_19 (by decide), List.forall_mem_cons.mpr ⟨ok_iast dX2_init_20, List.forall_mem_cons.mpr ⟨ok_dup dX2_init_21, List.forall_mem_cons.mpr ⟨ok_iconst dX2_init_22 (by decide), List.forall_mem_cons.mpr ⟨ok_iconst dX2_init_23 (by decide), List.forall_mem_cons.mpr ⟨ok_iast dX2_init_24, List.forall_mem_cons.mpr ⟨ok_dup dX2_init_25, List.forall_mem_cons.mpr ⟨ok_iconst dX2_init_26 (by decide), List.forall_mem_cons.mpr ⟨ok_iconst dX2_init_27 (by decide), fun _ h => absurd h List.not_mem_nil⟩⟩⟩⟩⟩⟩⟩⟩⟩⟩⟩⟩⟩⟩⟩⟩⟩⟩⟩⟩⟩⟩⟩⟩
def kX2_init_1 : List (Nat × zT) := [(28, a_iast 29), (29, a_dup 30), (30, a_i 5 31), (31, a_i 5 32), (32, a_iast 33), (33, a_dup 34), (34, a_i 6 36), (36, a_i 6 38), (38, a_iast 39), (39, a_putR 2 0 42), (42, a_aload 0 43), (43, a_i 7 45), (45, a_newI 47), (47, a_dup 48), (48, a_i 0 49), (49, a_i 1 50), (50, a_iast 51), (51, a_dup 52), (52, a_i 1 53), (53, a_i 2 54), (54, a_iast 55), (55, a_dup 56), (56, a_i 2 57), (57, a_i 2 58)]
theorem oX2_init_1 : ∀ q ∈ kX2_init_1, zSnd zty true RX2 cX2_init 1 none true q := List.forall_mem_cons.mpr ⟨ok_iast dX2_init_28, List.forall_mem_cons.mpr ⟨ok_dup dX2_init_29, List.forall_mem_cons.mpr ⟨ok_iconst dX2_init_30 (by decide), List.forall_mem_cons.mpr ⟨ok_iconst dX2_init_31 (by decide), List.forall_mem_cons.mpr ⟨ok_iast dX2_init_32, List.forall_mem_cons.mpr ⟨ok_dup dX2_init_33, List.forall_mem_cons.mpr ⟨ok_bipush dX2_init_34 (by decide), List.forall_mem_cons.mpr ⟨ok_bipush dX2_init_36 (by decide), List.forall_mem_cons.mpr ⟨ok_iast dX2_init_38, List.forall_mem_cons.mpr ⟨ok_putR dX2_init_39 rfl rfl in2 tyX2 tyX2_ok nmX2 (by decide) rfl w189 rfl rfl (fun _ => ⟨rfl, rfl⟩), List.forall_mem_cons.mpr ⟨ok_aload_n dX2_init_42 rfl, List.forall_mem_cons.mpr ⟨ok_bipush dX2_init_43 (by decide), List.forall_mem_cons.mpr ⟨ok_newI dX2_init_45 rfl w44, List.forall_mem_cons.mpr ⟨ok_dup dX2_init_47, List.forall_mem_cons.mpr ⟨ok_iconst dX2_init_48 (by decide), List.forall_mem_cons.mpr ⟨ok_iconst dX2_init_49 (by decide), List.forall_mem_cons.mpr ⟨ok_iast dX2_init_50, List.forall_mem_cons.mpr ⟨ok_dup dX2_init_51, List.forall_mem_cons.mpr ⟨ok_iconst dX2_init_52 (by decide), List.forall_mem_cons.mpr ⟨ok_iconst dX2_init_53 (by decide), List.forall_mem_cons.mpr ⟨ok_iast dX2_init_54, List.forall_mem_cons.mpr ⟨ok_dup dX2_init_55, List.forall_mem_cons.mpr ⟨ok_iconst dX2_init_56 (by decide), List.forall_mem_cons.mpr ⟨ok_iconst dX2_init_57 (by decide), fun _ h => absurd h List.not_mem_nil⟩⟩⟩⟩⟩⟩⟩⟩⟩⟩⟩⟩⟩⟩⟩⟩⟩⟩⟩⟩⟩⟩⟩⟩
def kX2_init_2 : List (Nat × zT) := [(58, a_iast 59), (59, a_dup 60), (60, a_i 3 61), (61, a_i 1 62), (62, a_iast 63), (63, a_dup 64), (64, a_i 4 65), (65, a_i 1 66), (66, a_iast 67), (67, a_dup 68), (68, a_i 5 69), (69, a_i 3 70), (70, a_iast 71), (71, a_dup 72), (72, a_i 6 74), (74, a_i 3 75), (75, a_iast 76), (76, a_putR 2 1 79), (79, a_aload 0 80), (80, a_i 5 81), (81, a_newI 83), (83, a_dup 84), (84, a_i 0 85), (85, a_i 100 87)]
theorem oX2_init_2 : ∀ q ∈ kX2_init_2, zSnd zty true RX2 cX2_init 1 none true q := List.forall_mem_cons.mpr ⟨ok_iast dX2_init_58, List.forall_mem_cons.mpr ⟨ok_dup dX2_init_59, List.forall_mem_cons.mpr ⟨ok_iconst dX2_init_60 (by decide), List.forall_mem_cons.mpr ⟨ok_iconst dX2_init_61 (by decide), List.forall_mem_cons.mpr ⟨ok_iast dX2_init_62, List.forall_mem_cons.mpr ⟨ok_dup dX2_init_63, List.forall_mem_cons.mpr ⟨ok_iconst dX2_init_64 (by decide), List.forall_mem_cons.mpr ⟨ok_iconst dX2_init_65 (by decide), List.forall_mem_cons.mpr ⟨ok_iast dX2_init_66, List.forall_mem_cons.mpr ⟨ok_dup dX2_init_67, List.forall_mem_cons.mpr ⟨ok_iconst dX2_init_68 (by decide), List.forall_mem_cons.mpr ⟨ok_iconst dX2_init_69 (by decide), List.forall_mem_cons.mpr ⟨ok_iast dX2_init_70, List.forall_mem_cons.mpr ⟨ok_dup dX2_init_71, List.forall_mem_cons.mpr ⟨ok_bipush dX2_init_72 (by decide), List.forall_mem_cons.mpr ⟨ok_iconst dX2_init_74 (by decide), List.forall_mem_cons.mpr ⟨ok_iast dX2_init_75, List.forall_mem_cons.mpr ⟨ok_putR dX2_init_76 rfl rfl in2 tyX2 tyX2_ok nmX2 (by decide) rfl w191 rfl rfl (fun _ => ⟨rfl, rfl⟩), List.forall_mem_cons.mpr ⟨ok_aload_n dX2_init_79 rfl, List.forall_mem_cons.mpr ⟨ok_iconst dX2_init_80 (by decide), List.forall_mem_cons.mpr ⟨ok_newI dX2_init_81 rfl w44, List.forall_mem_cons.mpr ⟨ok_dup dX2_init_83, List.forall_mem_cons.mpr ⟨ok_iconst dX2_init_84 (by decide), List.forall_mem_cons.mpr ⟨ok_bipush dX2_init_85 (by decide), fun _ h => absurd h List.not_mem_nil⟩⟩⟩⟩⟩⟩⟩⟩⟩⟩⟩⟩⟩⟩⟩⟩⟩⟩⟩⟩⟩⟩⟩⟩
def kX2_init_3 : List (Nat × zT) := [(87, a_iast 88), (88, a_dup 89), (89, a_i 1 90), (90, a_i 80 92), (92, a_iast 93), (93, a_dup 94), (94, a_i 2 95), (95, a_i 130 98), (98, a_iast 99), (99, a_dup 100), (100, a_i 3 101), (101, a_i 1 102), (102, a_iast 103), (103, a_dup 104), (104, a_i 4 105), (105, a_i 20 107), (107, a_iast 108), (108, a_putR 2 2 111), (111, a_vret)]
theorem oX2_init_3 : ∀ q ∈ kX2_init_3, zSnd zty true RX2 cX2_init 1 none true q := List.forall_mem_cons.mpr ⟨ok_iast dX2_init_87, List.forall_mem_cons.mpr ⟨ok_dup dX2_init_88, List.forall_mem_cons.mpr ⟨ok_iconst dX2_init_89 (by decide), List.forall_mem_cons.mpr ⟨ok_bipush dX2_init_90 (by decide), List.forall_mem_cons.mpr ⟨ok_iast dX2_init_92, List.forall_mem_cons.mpr ⟨ok_dup dX2_init_93, List.forall_mem_cons.mpr ⟨ok_iconst dX2_init_94 (by decide), List.forall_mem_cons.mpr ⟨ok_sipush dX2_init_95 (by decide), List.forall_mem_cons.mpr ⟨ok_iast dX2_init_98, List.forall_mem_cons.mpr ⟨ok_dup dX2_init_99, List.forall_mem_cons.mpr ⟨ok_iconst dX2_init_100 (by decide), List.forall_mem_cons.mpr ⟨ok_iconst dX2_init_101 (by decide), List.forall_mem_cons.mpr ⟨ok_iast dX2_init_102, List.forall_mem_cons.mpr ⟨ok_dup dX2_init_103, List.forall_mem_cons.mpr ⟨ok_iconst dX2_init_104 (by decide), List.forall_mem_cons.mpr ⟨ok_bipush dX2_init_105 (by decide), List.forall_mem_cons.mpr ⟨ok_iast dX2_init_107, List.forall_mem_cons.mpr ⟨ok_putR dX2_init_108 rfl rfl in2 tyX2 tyX2_ok nmX2 (by decide) rfl w193 rfl rfl (fun _ => ⟨rfl, rfl⟩), List.forall_mem_cons.mpr ⟨ok_vret dX2_init_111 rfl, fun _ h => absurd h List.not_mem_nil⟩⟩⟩⟩⟩⟩⟩⟩⟩⟩⟩⟩⟩⟩⟩⟩⟩⟩⟩
def kX2_init : List (Nat × zT) := kX2_init_0 ++ (kX2_init_1 ++ (kX2_init_2 ++ (kX2_init_3)))
theorem qX2_init_0 : ∀ q ∈ kX2_init_0, q ∈ kX2_init := fun _ h => (List.mem_append_left _ h)
theorem tX2_init_0 : (0, a_aload 0 1) ∈ kX2_init := qX2_init_0 _ (List.mem_of_getElem? (i := 0) rfl)
theorem tX2_init_1 : (1, a_obj 4) ∈ kX2_init := qX2_init_0 _ (List.mem_of_getElem? (i := 1) rfl)
theorem tX2_init_4 : (4, a_aload 0 5) ∈ kX2_init := qX2_init_0 _ (List.mem_of_getElem? (i := 2) rfl)
theorem tX2_init_5 : (5, a_i 7 7) ∈ kX2_init := qX2_init_0 _ (List.mem_of_getElem? (i := 3) rfl)
theorem tX2_init_7 : (7, a_newI 9) ∈ kX2_init := qX2_init_0 _ (List.mem_of_getElem? (i := 4) rfl)
theorem tX2_init_9 : (9, a_dup 10) ∈ kX2_init := qX2_init_0 _ (List.mem_of_getElem? (i := 5) rfl)
theorem tX2_init_10 : (10, a_i 0 11) ∈ kX2_init := qX2_init_0 _ (List.mem_of_getElem? (i := 6) rfl)
theorem tX2_init_11 : (11, a_i 1 12) ∈ kX2_init := qX2_init_0 _ (List.mem_of_getElem? (i := 7) rfl)
theorem tX2_init_12 : (12, a_iast 13) ∈ kX2_init := qX2_init_0 _ (List.mem_of_getElem? (i := 8) rfl)
theorem tX2_init_13 : (13, a_dup 14) ∈ kX2_init := qX2_init_0 _ (List.mem_of_getElem? (i := 9) rfl)
theorem tX2_init_14 : (14, a_i 1 15) ∈ kX2_init := qX2_init_0 _ (List.mem_of_getElem? (i := 10) rfl)
theorem tX2_init_15 : (15, a_i 3 16) ∈ kX2_init := qX2_init_0 _ (List.mem_of_getElem? (i := 11) rfl)
theorem tX2_init_16 : (16, a_iast 17) ∈ kX2_init := qX2_init_0 _ (List.mem_of_getElem? (i := 12) rfl)
theorem tX2_init_17 : (17, a_dup 18) ∈ kX2_init := qX2_init_0 _ (List.mem_of_getElem? (i := 13) rfl)
theorem tX2_init_18 : (18, a_i 2 19) ∈ kX2_init := qX2_init_0 _ (List.mem_of_getElem? (i := 14) rfl)
theorem tX2_init_19 : (19, a_i 3 20) ∈ kX2_init := qX2_init_0 _ (List.mem_of_getElem? (i := 15) rfl)
theorem tX2_init_20 : (20, a_iast 21) ∈ kX2_init := qX2_init_0 _ (List.mem_of_getElem? (i := 16) rfl)
theorem tX2_init_21 : (21, a_dup 22) ∈ kX2_init := qX2_init_0 _ (List.mem_of_getElem? (i := 17) rfl)
theorem tX2_init_22 : (22, a_i 3 23) ∈ kX2_init := qX2_init_0 _ (List.mem_of_getElem? (i := 18) rfl)
theorem tX2_init_23 : (23, a_i 2 24) ∈ kX2_init := qX2_init_0 _ (List.mem_of_getElem? (i := 19) rfl)
theorem tX2_init_24 : (24, a_iast 25) ∈ kX2_init := qX2_init_0 _ (List.mem_of_getElem? (i := 20) rfl)
theorem tX2_init_25 : (25, a_dup 26) ∈ kX2_init := qX2_init_0 _ (List.mem_of_getElem? (i := 21) rfl)
theorem tX2_init_26 : (26, a_i 4 27) ∈ kX2_init := qX2_init_0 _ (List.mem_of_getElem? (i := 22) rfl)
theorem tX2_init_27 : (27, a_i 2 28) ∈ kX2_init := qX2_init_0 _ (List.mem_of_getElem? (i := 23) rfl)
theorem qX2_init_1 : ∀ q ∈ kX2_init_1, q ∈ kX2_init := fun _ h => (List.mem_append_right _ (List.mem_append_left _ h))
theorem tX2_init_28 : (28, a_iast 29) ∈ kX2_init := qX2_init_1 _ (List.mem_of_getElem? (i := 0) rfl)
theorem tX2_init_29 : (29, a_dup 30) ∈ kX2_init := qX2_init_1 _ (List.mem_of_getElem? (i := 1) rfl)
theorem tX2_init_30 : (30, a_i 5 31) ∈ kX2_init := qX2_init_1 _ (List.mem_of_getElem? (i := 2) rfl)
theorem tX2_init_31 : (31, a_i 5 32) ∈ kX2_init := qX2_init_1 _ (List.mem_of_getElem? (i := 3) rfl)
theorem tX2_init_32 : (32, a_iast 33) ∈ kX2_init := qX2_init_1 _ (List.mem_of_getElem? (i := 4) rfl)
theorem tX2_init_33 : (33, a_dup 34) ∈ kX2_init := qX2_init_1 _ (List.mem_of_getElem? (i := 5) rfl)
theorem tX2_init_34 : (34, a_i 6 36) ∈ kX2_init := qX2_init_1 _ (List.mem_of_getElem? (i := 6) rfl)
theorem tX2_init_36 : (36, a_i 6 38) ∈ kX2_init := qX2_init_1 _ (List.mem_of_getElem? (i := 7) rfl)
theorem tX2_init_38 : (38, a_iast 39) ∈ kX2_init := qX2_init_1 _ (List.mem_of_getElem? (i := 8) rfl)
theorem tX2_init_39 : (39, a_putR 2 0 42) ∈ kX2_init := qX2_init_1 _ (List.mem_of_getElem? (i := 9) rfl)
theorem tX2_init_42 : (42, a_aload 0 43) ∈ kX2_init := qX2_init_1 _ (List.mem_of_getElem? (i := 10) rfl)
theorem tX2_init_43 : (43, a_i 7 45) ∈ kX2_init := qX2_init_1 _ (List.mem_of_getElem? (i := 11) rfl)
theorem tX2_init_45 : (45, a_newI 47) ∈ kX2_init := qX2_init_1 _ (List.mem_of_getElem? (i := 12) rfl)
theorem tX2_init_47 : (47, a_dup 48) ∈ kX2_init := qX2_init_1 _ (List.mem_of_getElem? (i := 13) rfl)
theorem tX2_init_48 : (48, a_i 0 49) ∈ kX2_init := qX2_init_1 _ (List.mem_of_getElem? (i := 14) rfl)
theorem tX2_init_49 : (49, a_i 1 50) ∈ kX2_init := qX2_init_1 _ (List.mem_of_getElem? (i := 15) rfl)
theorem tX2_init_50 : (50, a_iast 51) ∈ kX2_init := qX2_init_1 _ (List.mem_of_getElem? (i := 16) rfl)
theorem tX2_init_51 : (51, a_dup 52) ∈ kX2_init := qX2_init_1 _ (List.mem_of_getElem? (i := 17) rfl)
theorem tX2_init_52 : (52, a_i 1 53) ∈ kX2_init := qX2_init_1 _ (List.mem_of_getElem? (i := 18) rfl)
theorem tX2_init_53 : (53, a_i 2 54) ∈ kX2_init := qX2_init_1 _ (List.mem_of_getElem? (i := 19) rfl)
theorem tX2_init_54 : (54, a_iast 55) ∈ kX2_init := qX2_init_1 _ (List.mem_of_getElem? (i := 20) rfl)
theorem tX2_init_55 : (55, a_dup 56) ∈ kX2_init := qX2_init_1 _ (List.mem_of_getElem? (i := 21) rfl)
theorem tX2_init_56 : (56, a_i 2 57) ∈ kX2_init := qX2_init_1 _ (List.mem_of_getElem? (i := 22) rfl)
theorem tX2_init_57 : (57, a_i 2 58) ∈ kX2_init := qX2_init_1 _ (List.mem_of_getElem? (i := 23) rfl)
theorem qX2_init_2 : ∀ q ∈ kX2_init_2, q ∈ kX2_init := fun _ h => (List.mem_append_right _ (List.mem_append_right _ (List.mem_append_left _ h)))
theorem tX2_init_58 : (58, a_iast 59) ∈ kX2_init := qX2_init_2 _ (List.mem_of_getElem? (i := 0) rfl)
theorem tX2_init_59 : (59, a_dup 60) ∈ kX2_init := qX2_init_2 _ (List.mem_of_getElem? (i := 1) rfl)
theorem tX2_init_60 : (60, a_i 3 61) ∈ kX2_init := qX2_init_2 _ (List.mem_of_getElem? (i := 2) rfl)
theorem tX2_init_61 : (61, a_i 1 62) ∈ kX2_init := qX2_init_2 _ (List.mem_of_getElem? (i := 3) rfl)
theorem tX2_init_62 : (62, a_iast 63) ∈ kX2_init := qX2_init_2 _ (List.mem_of_getElem? (i := 4) rfl)
theorem tX2_init_63 : (63, a_dup 64) ∈ kX2_init := qX2_init_2 _ (List.mem_of_getElem? (i := 5) rfl)
theorem tX2_init_64 : (64, a_i 4 65) ∈ kX2_init := qX2_init_2 _ (List.mem_of_getElem? (i := 6) rfl)
theorem tX2_init_65 : (65, a_i 1 66) ∈ kX2_init := qX2_init_2 _ (List.mem_of_getElem? (i := 7) rfl)
theorem tX2_init_66 : (66, a_iast 67) ∈ kX2_init := qX2_init_2 _ (List.mem_of_getElem? (i := 8) rfl)
theorem tX2_init_67 : (67, a_dup 68) ∈ kX2_init := qX2_init_2 _ (List.mem_of_getElem? (i := 9) rfl)
theorem tX2_init_68 : (68, a_i 5 69) ∈ kX2_init := qX2_init_2 _ (List.mem_of_getElem? (i := 10) rfl)
theorem tX2_init_69 : (69, a_i 3 70) ∈ kX2_init := qX2_init_2 _ (List.mem_of_getElem? (i := 11) rfl)
theorem tX2_init_70 : (70, a_iast 71) ∈ kX2_init := qX2_init_2 _ (List.mem_of_getElem? (i := 12) rfl)
theorem tX2_init_71 : (71, a_dup 72) ∈ kX2_init := qX2_init_2 _ (List.mem_of_getElem? (i := 13) rfl)
theorem tX2_init_72 : (72, a_i 6 74) ∈ kX2_init := qX2_init_2 _ (List.mem_of_getElem? (i := 14) rfl)
theorem tX2_init_74 : (74, a_i 3 75) ∈ kX2_init := qX2_init_2 _ (List.mem_of_getElem? (i := 15) rfl)
theorem tX2_init_75 : (75, a_iast 76) ∈ kX2_init := qX2_init_2 _ (List.mem_of_getElem? (i := 16) rfl)
theorem tX2_init_76 : (76, a_putR 2 1 79) ∈ kX2_init := qX2_init_2 _ (List.mem_of_getElem? (i := 17) rfl)
theorem tX2_init_79 : (79, a_aload 0 80) ∈ kX2_init := qX2_init_2 _ (List.mem_of_getElem? (i := 18) rfl)
theorem tX2_init_80 : (80, a_i 5 81) ∈ kX2_init := qX2_init_2 _ (List.mem_of_getElem? (i := 19) rfl)
theorem tX2_init_81 : (81, a_newI 83) ∈ kX2_init := qX2_init_2 _ (List.mem_of_getElem? (i := 20) rfl)
theorem tX2_init_83 : (83, a_dup 84) ∈ kX2_init := qX2_init_2 _ (List.mem_of_getElem? (i := 21) rfl)
theorem tX2_init_84 : (84, a_i 0 85) ∈ kX2_init := qX2_init_2 _ (List.mem_of_getElem? (i := 22) rfl)
theorem tX2_init_85 : (85, a_i 100 87) ∈ kX2_init := qX2_init_2 _ (List.mem_of_getElem? (i := 23) rfl)
theorem qX2_init_3 : ∀ q ∈ kX2_init_3, q ∈ kX2_init := fun _ h => (List.mem_append_right _ (List.mem_append_right _ (List.mem_append_right _ h)))
theorem tX2_init_87 : (87, a_iast 88) ∈ kX2_init := qX2_init_3 _ (List.mem_of_getElem? (i := 0) rfl)
theorem tX2_init_88 : (88, a_dup 89) ∈ kX2_init := qX2_init_3 _ (List.mem_of_getElem? (i := 1) rfl)
theorem tX2_init_89 : (89, a_i 1 90) ∈ kX2_init := qX2_init_3 _ (List.mem_of_getElem? (i := 2) rfl)
theorem tX2_init_90 : (90, a_i 80 92) ∈ kX2_init := qX2_init_3 _ (List.mem_of_getElem? (i := 3) rfl)
theorem tX2_init_92 : (92, a_iast 93) ∈ kX2_init := qX2_init_3 _ (List.mem_of_getElem? (i := 4) rfl)
theorem tX2_init_93 : (93, a_dup 94) ∈ kX2_init := qX2_init_3 _ (List.mem_of_getElem? (i := 5) rfl)
theorem tX2_init_94 : (94, a_i 2 95) ∈ kX2_init := qX2_init_3 _ (List.mem_of_getElem? (i := 6) rfl)
theorem tX2_init_95 : (95, a_i 130 98) ∈ kX2_init := qX2_init_3 _ (List.mem_of_getElem? (i := 7) rfl)
theorem tX2_init_98 : (98, a_iast 99) ∈ kX2_init := qX2_init_3 _ (List.mem_of_getElem? (i := 8) rfl)
theorem tX2_init_99 : (99, a_dup 100) ∈ kX2_init := qX2_init_3 _ (List.mem_of_getElem? (i := 9) rfl)
theorem tX2_init_100 : (100, a_i 3 101) ∈ kX2_init := qX2_init_3 _ (List.mem_of_getElem? (i := 10) rfl)
theorem tX2_init_101 : (101, a_i 1 102) ∈ kX2_init := qX2_init_3 _ (List.mem_of_getElem? (i := 11) rfl)
theorem tX2_init_102 : (102, a_iast 103) ∈ kX2_init := qX2_init_3 _ (List.mem_of_getElem? (i := 12) rfl)
theorem tX2_init_103 : (103, a_dup 104) ∈ kX2_init := qX2_init_3 _ (List.mem_of_getElem? (i := 13) rfl)
theorem tX2_init_104 : (104, a_i 4 105) ∈ kX2_init := qX2_init_3 _ (List.mem_of_getElem? (i := 14) rfl)
theorem tX2_init_105 : (105, a_i 20 107) ∈ kX2_init := qX2_init_3 _ (List.mem_of_getElem? (i := 15) rfl)
theorem tX2_init_107 : (107, a_iast 108) ∈ kX2_init := qX2_init_3 _ (List.mem_of_getElem? (i := 16) rfl)
theorem tX2_init_108 : (108, a_putR 2 2 111) ∈ kX2_init := qX2_init_3 _ (List.mem_of_getElem? (i := 17) rfl)
theorem tX2_init_111 : (111, a_vret) ∈ kX2_init := qX2_init_3 _ (List.mem_of_getElem? (i := 18) rfl)
theorem oX2_init : ∀ q ∈ kX2_init, zSnd zty true RX2 cX2_init 1 none true q := List.forall_mem_append.mpr ⟨oX2_init_0, List.forall_mem_append.mpr ⟨oX2_init_1, List.forall_mem_append.mpr ⟨oX2_init_2, oX2_init_3⟩⟩⟩
theorem dX2_isRule_0 : decode cX2_isRule 0 = .ok (.iload_n 0, 1) := by decide +kernel
theorem dX2_isRule_1 : decode cX2_isRule 1 = .ok (.getstatic 21, 3) := by decide +kernel
theorem dX2_isRule_4 : decode cX2_isRule 4 = .ok (.arraylength, 1) := by decide +kernel
theorem dX2_isRule_5 : decode cX2_isRule 5 = .ok (.invokestatic 24, 3) := by decide +kernel
theorem dX2_isRule_8 : decode cX2_isRule 8 = .ok (.ifCond .eq 25, 3) := by decide +kernel
theorem dX2_isRule_11 : decode cX2_isRule 11 = .ok (.iload_n 1, 1) := by decide +kernel
theorem dX2_isRule_12 : decode cX2_isRule 12 = .ok (.getstatic 21, 3) := by decide +kernel
theorem dX2_isRule_15 : decode cX2_isRule 15 = .ok (.iload_n 0, 1) := by decide +kernel
theorem dX2_isRule_16 : decode cX2_isRule 16 = .ok (.iaload, 1) := by decide +kernel
theorem dX2_isRule_17 : decode cX2_isRule 17 = .ok (.if_icmp .lt 16, 3) := by decide +kernel
theorem dX2_isRule_20 : decode cX2_isRule 20 = .ok (.iload_n 1, 1) := by decide +kernel
theorem dX2_isRule_21 : decode cX2_isRule 21 = .ok (.getstatic 28, 3) := by decide +kernel
theorem dX2_isRule_24 : decode cX2_isRule 24 = .ok (.iload_n 0, 1) := by decide +kernel
theorem dX2_isRule_25 : decode cX2_isRule 25 = .ok (.iaload, 1) := by decide +kernel
theorem dX2_isRule_26 : decode cX2_isRule 26 = .ok (.if_icmp .gt 7, 3) := by decide +kernel
theorem dX2_isRule_29 : decode cX2_isRule 29 = .ok (.iconst 1, 1) := by decide +kernel
theorem dX2_isRule_30 : decode cX2_isRule 30 = .ok (.goto 4, 3) := by decide +kernel
theorem dX2_isRule_33 : decode cX2_isRule 33 = .ok (.iconst 0, 1) := by decide +kernel
theorem dX2_isRule_34 : decode cX2_isRule 34 = .ok (.ireturn, 1) := by decide +kernel
def kX2_isRule_0 : List (Nat × zT) := [(0, a_iload 0 1), (1, a_gets 1 4), (4, a_alen 5), (5, a_call 128 2 8 0 0), (8, a_if_eq 33 11), (11, a_iload 1 12), (12, a_gets 1 15), (15, a_iload 0 16), (16, a_iald 17), (17, a_ic_lt 33 20), (20, a_iload 1 21), (21, a_gets 2 24), (24, a_iload 0 25), (25, a_iald 26), (26, a_ic_gt 33 29), (29, a_i 1 30), (30, a_goto 34), (33, a_i 0 34), (34, a_iret true)]
theorem oX2_isRule_0 : ∀ q ∈ kX2_isRule_0, zSnd zty false RX2 cX2_isRule 2 (some .boolean) false q := List.forall_mem_cons.mpr ⟨ok_iload_n dX2_isRule_0 rfl, List.forall_mem_cons.mpr ⟨ok_gets dX2_isRule_1 rfl w658, List.forall_mem_cons.mpr ⟨ok_alen dX2_isRule_4, List.forall_mem_cons.mpr ⟨ok_callSN dX2_isRule_5 rfl w443 n660 w442 w1 (by decide +kernel) (by decide), List.forall_mem_cons.mpr ⟨ok_if_eq dX2_isRule_8 (by decide), List.forall_mem_cons.mpr ⟨ok_iload_n dX2_isRule_11 rfl, List.forall_mem_cons.mpr ⟨ok_gets dX2_isRule_12 rfl w658, List.forall_mem_cons.mpr ⟨ok_iload_n dX2_isRule_15 rfl, List.forall_mem_cons.mpr ⟨ok_iald dX2_isRule_16, List.forall_mem_cons.mpr ⟨ok_ic_lt dX2_isRule_17 (by decide), List.forall_mem_cons.mpr ⟨ok_iload_n dX2_isRule_20 rfl, List.forall_mem_cons.mpr ⟨ok_gets dX2_isRule_21 rfl w661, List.forall_mem_cons.mpr ⟨ok_iload_n dX2_isRule_24 rfl, List.forall_mem_cons.mpr ⟨ok_iald dX2_isRule_25, List.forall_mem_cons.mpr ⟨ok_ic_gt dX2_isRule_26 (by decide), List.forall_mem_cons.mpr ⟨ok_iconst dX2_isRule_29 (by decide), List.forall_mem_cons.mpr ⟨ok_goto dX2_isRule_30 (by decide), List.forall_mem_cons.mpr ⟨ok_iconst dX2_isRule_33 (by decide), List.forall_mem_cons.mpr ⟨ok_iret (bz := true) dX2_isRule_34 rfl, fun _ h => absurd h List.not_mem_nil⟩⟩⟩⟩⟩⟩⟩⟩⟩⟩⟩⟩⟩⟩⟩⟩⟩⟩⟩
def kX2_isRule : List (Nat × zT) := kX2_isRule_0
theorem qX2_isRule_0 : ∀ q ∈ kX2_isRule_0, q ∈ kX2_isRule := fun _ h => h
theorem tX2_isRule_0 : (0, a_iload 0 1) ∈ kX2_isRule := qX2_isRule_0 _ (List.mem_of_getElem? (i := 0) rfl)
theorem tX2_isRule_1 : (1, a_gets 1 4) ∈ kX2_isRule := qX2_isRule_0 _ (List.mem_of_getElem? (i := 1) rfl)
theorem tX2_isRule_4 : (4, a_alen 5) ∈ kX2_isRule := qX2_isRule_0 _ (List.mem_of_getElem? (i := 2) rfl)
theorem tX2_isRule_5 : (5, a_call 128 2 8 0 0) ∈ kX2_isRule := qX2_isRule_0 _ (List.mem_of_getElem? (i := 3) rfl)
theorem tX2_isRule_8 : (8, a_if_eq 33 11) ∈ kX2_isRule := qX2_isRule_0 _ (List.mem_of_getElem? (i := 4) rfl)
theorem tX2_isRule_11 : (11, a_iload 1 12) ∈ kX2_isRule := qX2_isRule_0 _ (List.mem_of_getElem? (i := 5) rfl)
theorem tX2_isRule_12 : (12, a_gets 1 15) ∈ kX2_isRule := qX2_isRule_0 _ (List.mem_of_getElem? (i := 6) rfl)
theorem tX2_isRule_15 : (15, a_iload 0 16) ∈ kX2_isRule := qX2_isRule_0 _ (List.mem_of_getElem? (i := 7) rfl)
theorem tX2_isRule_16 : (16, a_iald 17) ∈ kX2_isRule := qX2_isRule_0 _ (List.mem_of_getElem? (i := 8) rfl)
theorem tX2_isRule_17 : (17, a_ic_lt 33 20) ∈ kX2_isRule := qX2_isRule_0 _ (List.mem_of_getElem? (i := 9) rfl)
theorem tX2_isRule_20 : (20, a_iload 1 21) ∈ kX2_isRule := qX2_isRule_0 _ (List.mem_of_getElem? (i := 10) rfl)
theorem tX2_isRule_21 : (21, a_gets 2 24) ∈ kX2_isRule := qX2_isRule_0 _ (List.mem_of_getElem? (i := 11) rfl)
theorem tX2_isRule_24 : (24, a_iload 0 25) ∈ kX2_isRule := qX2_isRule_0 _ (List.mem_of_getElem? (i := 12) rfl)
theorem tX2_isRule_25 : (25, a_iald 26) ∈ kX2_isRule := qX2_isRule_0 _ (List.mem_of_getElem? (i := 13) rfl)
theorem tX2_isRule_26 : (26, a_ic_gt 33 29) ∈ kX2_isRule := qX2_isRule_0 _ (List.mem_of_getElem? (i := 14) rfl)
theorem tX2_isRule_29 : (29, a_i 1 30) ∈ kX2_isRule := qX2_isRule_0 _ (List.mem_of_getElem? (i := 15) rfl)
theorem tX2_isRule_30 : (30, a_goto 34) ∈ kX2_isRule := qX2_isRule_0 _ (List.mem_of_getElem? (i := 16) rfl)
theorem tX2_isRule_33 : (33, a_i 0 34) ∈ kX2_isRule := qX2_isRule_0 _ (List.mem_of_getElem? (i := 17) rfl)
theorem tX2_isRule_34 : (34, a_iret true) ∈ kX2_isRule := qX2_isRule_0 _ (List.mem_of_getElem? (i := 18) rfl)
theorem oX2_isRule : ∀ q ∈ kX2_isRule, zSnd zty false RX2 cX2_isRule 2 (some .boolean) false q := oX2_isRule_0
theorem dX2_changeRule_0 : decode cX2_changeRule 0 = .ok (.aload_n 0, 1) := by decide +kernel
theorem dX2_changeRule_1 : decode cX2_changeRule 1 = .ok (.getfield 18, 3) := by decide +kernel
theorem dX2_changeRule_4 : decode cX2_changeRule 4 = .ok (.iload_n 1, 1) := by decide +kernel
theorem dX2_changeRule_5 : decode cX2_changeRule 5 = .ok (.iaload, 1) := by decide +kernel
theorem dX2_changeRule_6 : decode cX2_changeRule 6 = .ok (.istore_n 3, 1) := by decide +kernel
theorem dX2_changeRule_7 : decode cX2_changeRule 7 = .ok (.aload_n 0, 1) := by decide +kernel
theorem dX2_changeRule_8 : decode cX2_changeRule 8 = .ok (.getfield 18, 3) := by decide +kernel
theorem dX2_changeRule_11 : decode cX2_changeRule 11 = .ok (.iload_n 1, 1) := by decide +kernel
theorem dX2_changeRule_12 : decode cX2_changeRule 12 = .ok (.iload_n 2, 1) := by decide +kernel
theorem dX2_changeRule_13 : decode cX2_changeRule 13 = .ok (.iastore, 1) := by decide +kernel
theorem dX2_changeRule_14 : decode cX2_changeRule 14 = .ok (.iload_n 3, 1) := by decide +kernel
theorem dX2_changeRule_15 : decode cX2_changeRule 15 = .ok (.ireturn, 1) := by decide +kernel
def kX2_changeRule_0 : List (Nat × zT) := [(0, a_aload 0 1), (1, a_getR 2 2 4), (4, a_iload 1 5), (5, a_iald 6), (6, a_istore 3 7), (7, a_aload 0 8), (8, a_getR 2 2 11), (11, a_iload 1 12), (12, a_iload 2 13), (13, a_iast 14), (14, a_iload 3 15), (15, a_iret false)]
theorem oX2_changeRule_0 : ∀ q ∈ kX2_changeRule_0, zSnd zty false RX2 cX2_changeRule 4 (some .int) false q := List.forall_mem_cons.mpr ⟨ok_aload_n dX2_changeRule_0 rfl, List.forall_mem_cons.mpr ⟨ok_getR dX2_changeRule_1 rfl in2 (by decide) rfl w193, List.forall_mem_cons.mpr ⟨ok_iload_n dX2_changeRule_4 rfl, List.forall_mem_cons.mpr ⟨ok_iald dX2_changeRule_5, List.forall_mem_cons.mpr ⟨ok_istore_n dX2_changeRule_6 rfl (by decide), List.forall_mem_cons.mpr ⟨ok_aload_n dX2_changeRule_7 rfl, List.forall_mem_cons.mpr ⟨ok_getR dX2_changeRule_8 rfl in2 (by decide) rfl w193, List.forall_mem_cons.mpr ⟨ok_iload_n dX2_changeRule_11 rfl, List.forall_mem_cons.mpr ⟨ok_iload_n dX2_changeRule_12 rfl, List.forall_mem_cons.mpr ⟨ok_iast dX2_changeRule_13, List.forall_mem_cons.mpr ⟨ok_iload_n dX2_changeRule_14 rfl, List.forall_mem_cons.mpr ⟨ok_iret (bz := false) dX2_changeRule_15 rfl, fun _ h => absurd h List.not_mem_nil⟩⟩⟩⟩⟩⟩⟩⟩⟩⟩⟩⟩
def kX2_changeRule : List (Nat × zT) := kX2_changeRule_0
theorem qX2_changeRule_0 : ∀ q ∈ kX2_changeRule_0, q ∈ kX2_changeRule := fun _ h => h
theorem tX2_changeRule_0 : (0, a_aload 0 1) ∈ kX2_changeRule := qX2_changeRule_0 _ (List.mem_of_getElem? (i := 0) rfl)
theorem tX2_changeRule_1 : (1, a_getR 2 2 4) ∈ kX2_changeRule := qX2_changeRule_0 _ (List.mem_of_getElem? (i := 1) rfl)
theorem tX2_changeRule_4 : (4, a_iload 1 5) ∈ kX2_changeRule := qX2_changeRule_0 _ (List.mem_of_getElem? (i := 2) rfl)
theorem tX2_changeRule_5 : (5, a_iald 6) ∈ kX2_changeRule := qX2_changeRule_0 _ (List.mem_of_getElem? (i := 3) rfl)
theorem tX2_changeRule_6 : (6, a_istore 3 7) ∈ kX2_changeRule := qX2_changeRule_0 _ (List.mem_of_getElem? (i := 4) rfl)
theorem tX2_changeRule_7 : (7, a_aload 0 8) ∈ kX2_changeRule := qX2_changeRule_0 _ (List.mem_of_getElem? (i := 5) rfl)
theorem tX2_changeRule_8 : (8, a_getR 2 2 11) ∈ kX2_changeRule := qX2_changeRule_0 _ (List.mem_of_getElem? (i := 6) rfl)
theorem tX2_changeRule_11 : (11, a_iload 1 12) ∈ kX2_changeRule := qX2_changeRule_0 _ (List.mem_of_getElem? (i := 7) rfl)
theorem tX2_changeRule_12 : (12, a_iload 2 13) ∈ kX2_changeRule := qX2_changeRule_0 _ (List.mem_of_getElem? (i := 8) rfl)
theorem tX2_changeRule_13 : (13, a_iast 14) ∈ kX2_changeRule := qX2_changeRule_0 _ (List.mem_of_getElem? (i := 9) rfl)
theorem tX2_changeRule_14 : (14, a_iload 3 15) ∈ kX2_changeRule := qX2_changeRule_0 _ (List.mem_of_getElem? (i := 10) rfl)
theorem tX2_changeRule_15 : (15, a_iret false) ∈ kX2_changeRule := qX2_changeRule_0 _ (List.mem_of_getElem? (i := 11) rfl)
theorem oX2_changeRule : ∀ q ∈ kX2_changeRule, zSnd zty false RX2 cX2_changeRule 4 (some .int) false q := oX2_changeRule_0
theorem dX2_load_0 : decode cX2_load 0 = .ok (.aload_n 0, 1) := by decide +kernel
theorem dX2_load_1 : decode cX2_load 1 = .ok (.getfield 18, 3) := by decide +kernel
theorem dX2_load_4 : decode cX2_load 4 = .ok (.iconst 3, 1) := by decide +kernel
theorem dX2_load_5 : decode cX2_load 5 = .ok (.iaload, 1) := by decide +kernel
theorem dX2_load_6 : decode cX2_load 6 = .ok (.ireturn, 1) := by decide +kernel
def kX2_load_0 : List (Nat × zT) := [(0, a_aload 0 1), (1, a_getR 2 2 4), (4, a_i 3 5), (5, a_iald 6), (6, a_iret false)]
theorem oX2_load_0 : ∀ q ∈ kX2_load_0, zSnd zty false RX2 cX2_load 1 (some .int) false q := List.forall_mem_cons.mpr ⟨ok_aload_n dX2_load_0 rfl, List.forall_mem_cons.mpr ⟨ok_getR dX2_load_1 rfl in2 (by decide) rfl w193, List.forall_mem_cons.mpr ⟨ok_iconst dX2_load_4 (by decide), List.forall_mem_cons.mpr ⟨ok_iald dX2_load_5, List.forall_mem_cons.mpr ⟨ok_iret (bz := false) dX2_load_6 rfl, fun _ h => absurd h List.not_mem_nil⟩⟩⟩⟩⟩
def kX2_load : List (Nat × zT) := kX2_load_0
theorem qX2_load_0 : ∀ q ∈ kX2_load_0, q ∈ kX2_load := fun _ h => h
theorem tX2_load_0 : (0, a_aload 0 1) ∈ kX2_load := qX2_load_0 _ (List.mem_of_getElem? (i := 0) rfl)
theorem tX2_load_1 : (1, a_getR 2 2 4) ∈ kX2_load := qX2_load_0 _ (List.mem_of_getElem? (i := 1) rfl)
theorem tX2_load_4 : (4, a_i 3 5) ∈ kX2_load := qX2_load_0 _ (List.mem_of_getElem? (i := 2) rfl)
theorem tX2_load_5 : (5, a_iald 6) ∈ kX2_load := qX2_load_0 _ (List.mem_of_getElem? (i := 3) rfl)
theorem tX2_load_6 : (6, a_iret false) ∈ kX2_load := qX2_load_0 _ (List.mem_of_getElem? (i := 4) rfl)
theorem oX2_load : ∀ q ∈ kX2_load, zSnd zty false RX2 cX2_load 1 (some .int) false q := oX2_load_0
theorem dX2_clock_0 : decode cX2_clock 0 = .ok (.aload_n 0, 1) := by decide +kernel
theorem dX2_clock_1 : decode cX2_clock 1 = .ok (.getfield 18, 3) := by decide +kernel
theorem dX2_clock_4 : decode cX2_clock 4 = .ok (.iconst 4, 1) := by decide +kernel
theorem dX2_clock_5 : decode cX2_clock 5 = .ok (.iaload, 1) := by decide +kernel
theorem dX2_clock_6 : decode cX2_clock 6 = .ok (.ireturn, 1) := by decide +kernel
def kX2_clock_0 : List (Nat × zT) := [(0, a_aload 0 1), (1, a_getR 2 2 4), (4, a_i 4 5), (5, a_iald 6), (6, a_iret false)]
theorem oX2_clock_0 : ∀ q ∈ kX2_clock_0, zSnd zty false RX2 cX2_clock 1 (some .int) false q := List.forall_mem_cons.mpr ⟨ok_aload_n dX2_clock_0 rfl, List.forall_mem_cons.mpr ⟨ok_getR dX2_clock_1 rfl in2 (by decide) rfl w193, List.forall_mem_cons.mpr ⟨ok_iconst dX2_clock_4 (by decide), List.forall_mem_cons.mpr ⟨ok_iald dX2_clock_5, List.forall_mem_cons.mpr ⟨ok_iret (bz := false) dX2_clock_6 rfl, fun _ h => absurd h List.not_mem_nil⟩⟩⟩⟩⟩
def kX2_clock : List (Nat × zT) := kX2_clock_0
theorem qX2_clock_0 : ∀ q ∈ kX2_clock_0, q ∈ kX2_clock := fun _ h => h
theorem tX2_clock_0 : (0, a_aload 0 1) ∈ kX2_clock := qX2_clock_0 _ (List.mem_of_getElem? (i := 0) rfl)
theorem tX2_clock_1 : (1, a_getR 2 2 4) ∈ kX2_clock := qX2_clock_0 _ (List.mem_of_getElem? (i := 1) rfl)
theorem tX2_clock_4 : (4, a_i 4 5) ∈ kX2_clock := qX2_clock_0 _ (List.mem_of_getElem? (i := 2) rfl)
theorem tX2_clock_5 : (5, a_iald 6) ∈ kX2_clock := qX2_clock_0 _ (List.mem_of_getElem? (i := 3) rfl)
theorem tX2_clock_6 : (6, a_iret false) ∈ kX2_clock := qX2_clock_0 _ (List.mem_of_getElem? (i := 4) rfl)
theorem oX2_clock : ∀ q ∈ kX2_clock, zSnd zty false RX2 cX2_clock 1 (some .int) false q := oX2_clock_0
theorem dX2_takes_0 : decode cX2_takes 0 = .ok (.aload_n 0, 1) := by decide +kernel
theorem dX2_takes_1 : decode cX2_takes 1 = .ok (.getfield 15, 3) := by decide +kernel
theorem dX2_takes_4 : decode cX2_takes 4 = .ok (.iload_n 1, 1) := by decide +kernel
theorem dX2_takes_5 : decode cX2_takes 5 = .ok (.invokestatic 31, 3) := by decide +kernel
theorem dX2_takes_8 : decode cX2_takes 8 = .ok (.iaload, 1) := by decide +kernel
theorem dX2_takes_9 : decode cX2_takes 9 = .ok (.aload_n 0, 1) := by decide +kernel
theorem dX2_takes_10 : decode cX2_takes 10 = .ok (.getfield 18, 3) := by decide +kernel
theorem dX2_takes_13 : decode cX2_takes 13 = .ok (.iload_n 2, 1) := by decide +kernel
theorem dX2_takes_14 : decode cX2_takes 14 = .ok (.iaload, 1) := by decide +kernel
theorem dX2_takes_15 : decode cX2_takes 15 = .ok (.imul, 1) := by decide +kernel
theorem dX2_takes_16 : decode cX2_takes 16 = .ok (.bipush 99, 2) := by decide +kernel
theorem dX2_takes_18 : decode cX2_takes 18 = .ok (.iadd, 1) := by decide +kernel
theorem dX2_takes_19 : decode cX2_takes 19 = .ok (.bipush 100, 2) := by decide +kernel
theorem dX2_takes_21 : decode cX2_takes 21 = .ok (.idiv, 1) := by decide +kernel
theorem dX2_takes_22 : decode cX2_takes 22 = .ok (.ireturn, 1) := by decide +kernel
def kX2_takes_0 : List (Nat × zT) := [(0, a_aload 0 1), (1, a_getR 2 1 4), (4, a_iload 1 5), (5, a_call 27 1 8 0 0), (8, a_iald 9), (9, a_aload 0 10), (10, a_getR 2 2 13), (13, a_iload 2 14), (14, a_iald 15), (15, a_ii (fun x y => x * y) 16), (16, a_i 99 18), (18, a_ii (fun x y => x + y) 19), (19, a_i 100 21), (21, a_div (fun x y => x / y) 22), (22, a_iret false)]
theorem oX2_takes_0 : ∀ q ∈ kX2_takes_0, zSnd zty false RX2 cX2_takes 3 (some .int) false q := List.forall_mem_cons.mpr ⟨ok_aload_n dX2_takes_0 rfl, List.forall_mem_cons.mpr ⟨ok_getR dX2_takes_1 rfl in2 (by decide) rfl w191, List.forall_mem_cons.mpr ⟨ok_iload_n dX2_takes_4 rfl, List.forall_mem_cons.mpr ⟨ok_callS dX2_takes_5 rfl w719 w717 w718 w7 (by decide +kernel) (by decide), List.forall_mem_cons.mpr ⟨ok_iald dX2_takes_8, List.forall_mem_cons.mpr ⟨ok_aload_n dX2_takes_9 rfl, List.forall_mem_cons.mpr ⟨ok_getR dX2_takes_10 rfl in2 (by decide) rfl w193, List.forall_mem_cons.mpr ⟨ok_iload_n dX2_takes_13 rfl, List.forall_mem_cons.mpr ⟨ok_iald dX2_takes_14, List.forall_mem_cons.mpr ⟨ok_imul dX2_takes_15, List.forall_mem_cons.mpr ⟨ok_bipush dX2_takes_16 (by decide), List.forall_mem_cons.mpr ⟨ok_iadd dX2_takes_18, List.forall_mem_cons.mpr ⟨ok_bipush dX2_takes_19 (by decide), List.forall_mem_cons.mpr ⟨ok_idiv dX2_takes_21, List.forall_mem_cons.mpr ⟨ok_iret (bz := false) dX2_takes_22 rfl, fun _ h => absurd h List.not_mem_nil⟩⟩⟩⟩⟩⟩⟩⟩⟩⟩⟩⟩⟩⟩⟩
def kX2_takes : List (Nat × zT) := kX2_takes_0
theorem qX2_takes_0 : ∀ q ∈ kX2_takes_0, q ∈ kX2_takes := fun _ h => h
theorem tX2_takes_0 : (0, a_aload 0 1) ∈ kX2_takes := qX2_takes_0 _ (List.mem_of_getElem? (i := 0) rfl)
theorem tX2_takes_1 : (1, a_getR 2 1 4) ∈ kX2_takes := qX2_takes_0 _ (List.mem_of_getElem? (i := 1) rfl)
theorem tX2_takes_4 : (4, a_iload 1 5) ∈ kX2_takes := qX2_takes_0 _ (List.mem_of_getElem? (i := 2) rfl)
theorem tX2_takes_5 : (5, a_call 27 1 8 0 0) ∈ kX2_takes := qX2_takes_0 _ (List.mem_of_getElem? (i := 3) rfl)
theorem tX2_takes_8 : (8, a_iald 9) ∈ kX2_takes := qX2_takes_0 _ (List.mem_of_getElem? (i := 4) rfl)
theorem tX2_takes_9 : (9, a_aload 0 10) ∈ kX2_takes := qX2_takes_0 _ (List.mem_of_getElem? (i := 5) rfl)
theorem tX2_takes_10 : (10, a_getR 2 2 13) ∈ kX2_takes := qX2_takes_0 _ (List.mem_of_getElem? (i := 6) rfl)
theorem tX2_takes_13 : (13, a_iload 2 14) ∈ kX2_takes := qX2_takes_0 _ (List.mem_of_getElem? (i := 7) rfl)
theorem tX2_takes_14 : (14, a_iald 15) ∈ kX2_takes := qX2_takes_0 _ (List.mem_of_getElem? (i := 8) rfl)
theorem tX2_takes_15 : (15, a_ii (fun x y => x * y) 16) ∈ kX2_takes := qX2_takes_0 _ (List.mem_of_getElem? (i := 9) rfl)
theorem tX2_takes_16 : (16, a_i 99 18) ∈ kX2_takes := qX2_takes_0 _ (List.mem_of_getElem? (i := 10) rfl)
theorem tX2_takes_18 : (18, a_ii (fun x y => x + y) 19) ∈ kX2_takes := qX2_takes_0 _ (List.mem_of_getElem? (i := 11) rfl)
theorem tX2_takes_19 : (19, a_i 100 21) ∈ kX2_takes := qX2_takes_0 _ (List.mem_of_getElem? (i := 12) rfl)
theorem tX2_takes_21 : (21, a_div (fun x y => x / y) 22) ∈ kX2_takes := qX2_takes_0 _ (List.mem_of_getElem? (i := 13) rfl)
theorem tX2_takes_22 : (22, a_iret false) ∈ kX2_takes := qX2_takes_0 _ (List.mem_of_getElem? (i := 14) rfl)
theorem oX2_takes : ∀ q ∈ kX2_takes, zSnd zty false RX2 cX2_takes 3 (some .int) false q := oX2_takes_0
theorem dX2_gateFor_0 : decode cX2_gateFor 0 = .ok (.iload_n 0, 1) := by decide +kernel
theorem dX2_gateFor_1 : decode cX2_gateFor 1 = .ok (.tableswitch 40 22 25 #[31, 33, 35, 37], 31) := by decide +kernel
theorem dX2_gateFor_32 : decode cX2_gateFor 32 = .ok (.iconst 1, 1) := by decide +kernel
theorem dX2_gateFor_33 : decode cX2_gateFor 33 = .ok (.ireturn, 1) := by decide +kernel
theorem dX2_gateFor_34 : decode cX2_gateFor 34 = .ok (.iconst 2, 1) := by decide +kernel
theorem dX2_gateFor_35 : decode cX2_gateFor 35 = .ok (.ireturn, 1) := by decide +kernel
theorem dX2_gateFor_36 : decode cX2_gateFor 36 = .ok (.iconst 5, 1) := by decide +kernel
theorem dX2_gateFor_37 : decode cX2_gateFor 37 = .ok (.ireturn, 1) := by decide +kernel
theorem dX2_gateFor_38 : decode cX2_gateFor 38 = .ok (.bipush 6, 2) := by decide +kernel
theorem dX2_gateFor_40 : decode cX2_gateFor 40 = .ok (.ireturn, 1) := by decide +kernel
theorem dX2_gateFor_41 : decode cX2_gateFor 41 = .ok (.iconst 0, 1) := by decide +kernel
theorem dX2_gateFor_42 : decode cX2_gateFor 42 = .ok (.ireturn, 1) := by decide +kernel
def kX2_gateFor_0 : List (Nat × zT) := [(0, a_iload 0 1), (1, a_sw [(22, 32), (23, 34), (24, 36), (25, 38)] 41), (32, a_i 1 33), (33, a_iret false), (34, a_i 2 35), (35, a_iret false), (36, a_i 5 37), (37, a_iret false), (38, a_i 6 40), (40, a_iret false), (41, a_i 0 42), (42, a_iret false)]
theorem oX2_gateFor_0 : ∀ q ∈ kX2_gateFor_0, zSnd zty false RX2 cX2_gateFor 1 (some .int) false q := List.forall_mem_cons.mpr ⟨ok_iload_n dX2_gateFor_0 rfl, List.forall_mem_cons.mpr ⟨ok_tsw dX2_gateFor_1 (by decide) (by decide) (by decide) (by decide), List.forall_mem_cons.mpr ⟨ok_iconst dX2_gateFor_32 (by decide), List.forall_mem_cons.mpr ⟨ok_iret (bz := false) dX2_gateFor_33 rfl, List.forall_mem_cons.mpr ⟨ok_iconst dX2_gateFor_34 (by decide), List.forall_mem_cons.mpr ⟨ok_iret (bz := false) dX2_gateFor_35 rfl, List.forall_mem_cons.mpr ⟨ok_iconst dX2_gateFor_36 (by decide), List.forall_mem_cons.mpr ⟨ok_iret (bz := false) dX2_gateFor_37 rfl, List.forall_mem_cons.mpr ⟨ok_bipush dX2_gateFor_38 (by decide), List.forall_mem_cons.mpr ⟨ok_iret (bz := false) dX2_gateFor_40 rfl, List.forall_mem_cons.mpr ⟨ok_iconst dX2_gateFor_41 (by decide), List.forall_mem_cons.mpr ⟨ok_iret (bz := false) dX2_gateFor_42 rfl, fun _ h => absurd h List.not_mem_nil⟩⟩⟩⟩⟩⟩⟩⟩⟩⟩⟩⟩
def kX2_gateFor : List (Nat × zT) := kX2_gateFor_0
theorem qX2_gateFor_0 : ∀ q ∈ kX2_gateFor_0, q ∈ kX2_gateFor := fun _ h => h
theorem tX2_gateFor_0 : (0, a_iload 0 1) ∈ kX2_gateFor := qX2_gateFor_0 _ (List.mem_of_getElem? (i := 0) rfl)
theorem tX2_gateFor_1 : (1, a_sw [(22, 32), (23, 34), (24, 36), (25, 38)] 41) ∈ kX2_gateFor := qX2_gateFor_0 _ (List.mem_of_getElem? (i := 1) rfl)
theorem tX2_gateFor_32 : (32, a_i 1 33) ∈ kX2_gateFor := qX2_gateFor_0 _ (List.mem_of_getElem? (i := 2) rfl)
theorem tX2_gateFor_33 : (33, a_iret false) ∈ kX2_gateFor := qX2_gateFor_0 _ (List.mem_of_getElem? (i := 3) rfl)
theorem tX2_gateFor_34 : (34, a_i 2 35) ∈ kX2_gateFor := qX2_gateFor_0 _ (List.mem_of_getElem? (i := 4) rfl)
theorem tX2_gateFor_35 : (35, a_iret false) ∈ kX2_gateFor := qX2_gateFor_0 _ (List.mem_of_getElem? (i := 5) rfl)
theorem tX2_gateFor_36 : (36, a_i 5 37) ∈ kX2_gateFor := qX2_gateFor_0 _ (List.mem_of_getElem? (i := 6) rfl)
theorem tX2_gateFor_37 : (37, a_iret false) ∈ kX2_gateFor := qX2_gateFor_0 _ (List.mem_of_getElem? (i := 7) rfl)
theorem tX2_gateFor_38 : (38, a_i 6 40) ∈ kX2_gateFor := qX2_gateFor_0 _ (List.mem_of_getElem? (i := 8) rfl)
theorem tX2_gateFor_40 : (40, a_iret false) ∈ kX2_gateFor := qX2_gateFor_0 _ (List.mem_of_getElem? (i := 9) rfl)
theorem tX2_gateFor_41 : (41, a_i 0 42) ∈ kX2_gateFor := qX2_gateFor_0 _ (List.mem_of_getElem? (i := 10) rfl)
theorem tX2_gateFor_42 : (42, a_iret false) ∈ kX2_gateFor := qX2_gateFor_0 _ (List.mem_of_getElem? (i := 11) rfl)
theorem oX2_gateFor : ∀ q ∈ kX2_gateFor, zSnd zty false RX2 cX2_gateFor 1 (some .int) false q := oX2_gateFor_0
theorem dX3_init_0 : decode cX3_init 0 = .ok (.aload_n 0, 1) := by decide +kernel
theorem dX3_init_1 : decode cX3_init 1 = .ok (.invokespecial 1, 3) := by decide +kernel
theorem dX3_init_4 : decode cX3_init 4 = .ok (.aload_n 0, 1) := by decide +kernel
theorem dX3_init_5 : decode cX3_init 5 = .ok (.new 7, 3) := by decide +kernel
theorem dX3_init_8 : decode cX3_init 8 = .ok (.dup, 1) := by decide +kernel
theorem dX3_init_9 : decode cX3_init 9 = .ok (.invokespecial 9, 3) := by decide +kernel
theorem dX3_init_12 : decode cX3_init 12 = .ok (.putfield 10, 3) := by decide +kernel
theorem dX3_init_15 : decode cX3_init 15 = .ok (.aload_n 0, 1) := by decide +kernel
theorem dX3_init_16 : decode cX3_init 16 = .ok (.new 7, 3) := by decide +kernel
theorem dX3_init_19 : decode cX3_init 19 = .ok (.dup, 1) := by decide +kernel
theorem dX3_init_20 : decode cX3_init 20 = .ok (.invokespecial 9, 3) := by decide +kernel
theorem dX3_init_23 : decode cX3_init 23 = .ok (.putfield 16, 3) := by decide +kernel
theorem dX3_init_26 : decode cX3_init 26 = .ok (.aload_n 0, 1) := by decide +kernel
theorem dX3_init_27 : decode cX3_init 27 = .ok (.iconst 0, 1) := by decide +kernel
theorem dX3_init_28 : decode cX3_init 28 = .ok (.putfield 19, 3) := by decide +kernel
theorem dX3_init_31 : decode cX3_init 31 = .ok (.aload_n 0, 1) := by decide +kernel
theorem dX3_init_32 : decode cX3_init 32 = .ok (.iconst 0, 1) := by decide +kernel
theorem dX3_init_33 : decode cX3_init 33 = .ok (.putfield 23, 3) := by decide +kernel
theorem dX3_init_36 : decode cX3_init 36 = .ok (.aload_n 0, 1) := by decide +kernel
theorem dX3_init_37 : decode cX3_init 37 = .ok (.iconst 0, 1) := by decide +kernel
theorem dX3_init_38 : decode cX3_init 38 = .ok (.putfield 26, 3) := by decide +kernel
theorem dX3_init_41 : decode cX3_init 41 = .ok (.return_, 1) := by decide +kernel
def kX3_init_0 : List (Nat × zT) := [(0, a_aload 0 1), (1, a_obj 4), (4, a_aload 0 5), (5, a_new 10 8 8), (8, a_dup 9), (9, a_callV 10 80 1 12 6 289), (12, a_putR 3 0 15), (15, a_aload 0 16), (16, a_new 10 8 19), (19, a_dup 20), (20, a_callV 10 80 1 23 6 289), (23, a_putR 3 1 26), (26, a_aload 0 27), (27, a_i 0 28), (28, a_putI 3 2 31 false), (31, a_aload 0 32), (32, a_i 0 33), (33, a_putI 3 3 36 false), (36, a_aload 0 37), (37, a_i 0 38), (38, a_putI 3 4 41 false), (41, a_vret)]
theorem oX3_init_0 : ∀ q ∈ kX3_init_0, zSnd zty true RX3 cX3_init 1 none true q := List.forall_mem_cons.mpr ⟨ok_aload_n dX3_init_0 rfl, List.forall_mem_cons.mpr ⟨ok_obj dX3_init_1 w312 w25 w26, List.forall_mem_cons.mpr ⟨ok_aload_n dX3_init_4 rfl, List.forall_mem_cons.mpr ⟨ok_new dX3_init_5 rfl rfl in10 tyX10 tyX10_ok rfl (by decide +kernel) w313 w47 w3, List.forall_mem_cons.mpr ⟨ok_dup dX3_init_8, List.forall_mem_cons.mpr ⟨ok_callIN dX3_init_9 rfl w50 n314 w49 w3 rfl (by decide +kernel) (by decide), List.forall_mem_cons.mpr ⟨ok_putR dX3_init_12 rfl rfl in3 tyX3 tyX3_ok nmX3 (by decide) rfl w315 rfl rfl (fun _ => ⟨rfl, rfl⟩), List.forall_mem_cons.mpr ⟨ok_aload_n dX3_init_15 rfl, List.forall_mem_cons.mpr ⟨ok_new dX3_init_16 rfl rfl in10 tyX10 tyX10_ok rfl (by decide +kernel) w313 w47 w3, List.forall_mem_cons.mpr ⟨ok_dup dX3_init_19, List.forall_mem_cons.mpr ⟨ok_callIN dX3_init_20 rfl w50 n314 w49 w3 rfl (by decide +kernel) (by decide), List.forall_mem_cons.mpr ⟨ok_putR dX3_init_23 rfl rfl in3 tyX3 tyX3_ok nmX3 (by decide) rfl w317 rfl rfl (fun _ => ⟨rfl, rfl⟩), List.forall_mem_cons.mpr ⟨ok_aload_n dX3_init_26 rfl, List.forall_mem_cons.mpr ⟨ok_iconst dX3_init_27 (by decide), List.forall_mem_cons.mpr ⟨ok_putI (bz := false) dX3_init_28 rfl in3 tyX3 tyX3_ok nmX3 (by decide) rfl w319 rfl rfl, List.forall_mem_cons.mpr ⟨ok_aload_n dX3_init_31 rfl, List.forall_mem_cons.mpr ⟨ok_iconst dX3_init_32 (by decide), List.forall_mem_cons.mpr ⟨ok_putI (bz := false) dX3_init_33 rfl in3 tyX3 tyX3_ok nmX3 (by decide) rfl w321 rfl rfl, List.forall_mem_cons.mpr ⟨ok_aload_n dX3_init_36 rfl, List.forall_mem_cons.mpr ⟨ok_iconst dX3_init_37 (by decide), List.forall_mem_cons.mpr ⟨ok_putI (bz := false) dX3_init_38 rfl in3 tyX3 tyX3_ok nmX3 (by decide) rfl w323 rfl rfl, List.forall_mem_cons.mpr ⟨ok_vret dX3_init_41 rfl, fun _ h => absurd h List.not_mem_nil⟩⟩⟩⟩⟩⟩⟩⟩⟩⟩⟩⟩⟩⟩⟩⟩⟩⟩⟩⟩⟩⟩
def kX3_init : List (Nat × zT) := kX3_init_0
theorem qX3_init_0 : ∀ q ∈ kX3_init_0, q ∈ kX3_init := fun _ h => h
theorem tX3_init_0 : (0, a_aload 0 1) ∈ kX3_init := qX3_init_0 _ (List.mem_of_getElem? (i := 0) rfl)
theorem tX3_init_1 : (1, a_obj 4) ∈ kX3_init := qX3_init_0 _ (List.mem_of_getElem? (i := 1) rfl)
theorem tX3_init_4 : (4, a_aload 0 5) ∈ kX3_init := qX3_init_0 _ (List.mem_of_getElem? (i := 2) rfl)
theorem tX3_init_5 : (5, a_new 10 8 8) ∈ kX3_init := qX3_init_0 _ (List.mem_of_getElem? (i := 3) rfl)
theorem tX3_init_8 : (8, a_dup 9) ∈ kX3_init := qX3_init_0 _ (List.mem_of_getElem? (i := 4) rfl)
theorem tX3_init_9 : (9, a_callV 10 80 1 12 6 289) ∈ kX3_init := qX3_init_0 _ (List.mem_of_getElem? (i := 5) rfl)
theorem tX3_init_12 : (12, a_putR 3 0 15) ∈ kX3_init := qX3_init_0 _ (List.mem_of_getElem? (i := 6) rfl)
theorem tX3_init_15 : (15, a_aload 0 16) ∈ kX3_init := qX3_init_0 _ (List.mem_of_getElem? (i := 7) rfl)
theorem tX3_init_16 : (16, a_new 10 8 19) ∈ kX3_init := qX3_init_0 _ (List.mem_of_getElem? (i := 8) rfl)
theorem tX3_init_19 : (19, a_dup 20) ∈ kX3_init := qX3_init_0 _ (List.mem_of_getElem? (i := 9) rfl)
theorem tX3_init_20 : (20, a_callV 10 80 1 23 6 289) ∈ kX3_init := qX3_init_0 _ (List.mem_of_getElem? (i := 10) rfl)
theorem tX3_init_23 : (23, a_putR 3 1 26) ∈ kX3_init := qX3_init_0 _ (List.mem_of_getElem? (i := 11) rfl)
theorem tX3_init_26 : (26, a_aload 0 27) ∈ kX3_init := qX3_init_0 _ (List.mem_of_getElem? (i := 12) rfl)
theorem tX3_init_27 : (27, a_i 0 28) ∈ kX3_init := qX3_init_0 _ (List.mem_of_getElem? (i := 13) rfl)
theorem tX3_init_28 : (28, a_putI 3 2 31 false) ∈ kX3_init := qX3_init_0 _ (List.mem_of_getElem? (i := 14) rfl)
theorem tX3_init_31 : (31, a_aload 0 32) ∈ kX3_init := qX3_init_0 _ (List.mem_of_getElem? (i := 15) rfl)
theorem tX3_init_32 : (32, a_i 0 33) ∈ kX3_init := qX3_init_0 _ (List.mem_of_getElem? (i := 16) rfl)
theorem tX3_init_33 : (33, a_putI 3 3 36 false) ∈ kX3_init := qX3_init_0 _ (List.mem_of_getElem? (i := 17) rfl)
theorem tX3_init_36 : (36, a_aload 0 37) ∈ kX3_init := qX3_init_0 _ (List.mem_of_getElem? (i := 18) rfl)
theorem tX3_init_37 : (37, a_i 0 38) ∈ kX3_init := qX3_init_0 _ (List.mem_of_getElem? (i := 19) rfl)
theorem tX3_init_38 : (38, a_putI 3 4 41 false) ∈ kX3_init := qX3_init_0 _ (List.mem_of_getElem? (i := 20) rfl)
theorem tX3_init_41 : (41, a_vret) ∈ kX3_init := qX3_init_0 _ (List.mem_of_getElem? (i := 21) rfl)
theorem oX3_init : ∀ q ∈ kX3_init, zSnd zty true RX3 cX3_init 1 none true q := oX3_init_0
theorem dX4_init_0 : decode cX4_init 0 = .ok (.aload_n 0, 1) := by decide +kernel
theorem dX4_init_1 : decode cX4_init 1 = .ok (.invokespecial 3, 3) := by decide +kernel
theorem dX4_init_4 : decode cX4_init 4 = .ok (.aload_n 0, 1) := by decide +kernel
theorem dX4_init_5 : decode cX4_init 5 = .ok (.bipush 19, 2) := by decide +kernel
theorem dX4_init_7 : decode cX4_init 7 = .ok (.newarray .long, 2) := by decide +kernel
theorem dX4_init_9 : decode cX4_init 9 = .ok (.putfield 9, 3) := by decide +kernel
theorem dX4_init_12 : decode cX4_init 12 = .ok (.aload_n 0, 1) := by decide +kernel
theorem dX4_init_13 : decode cX4_init 13 = .ok (.bipush 19, 2) := by decide +kernel
theorem dX4_init_15 : decode cX4_init 15 = .ok (.newarray .long, 2) := by decide +kernel
theorem dX4_init_17 : decode cX4_init 17 = .ok (.putfield 15, 3) := by decide +kernel
theorem dX4_init_20 : decode cX4_init 20 = .ok (.aload_n 0, 1) := by decide +kernel
theorem dX4_init_21 : decode cX4_init 21 = .ok (.bipush 19, 2) := by decide +kernel
theorem dX4_init_23 : decode cX4_init 23 = .ok (.newarray .long, 2) := by decide +kernel
theorem dX4_init_25 : decode cX4_init 25 = .ok (.putfield 18, 3) := by decide +kernel
theorem dX4_init_28 : decode cX4_init 28 = .ok (.aload_n 0, 1) := by decide +kernel
theorem dX4_init_29 : decode cX4_init 29 = .ok (.bipush 19, 2) := by decide +kernel
theorem dX4_init_31 : decode cX4_init 31 = .ok (.newarray .long, 2) := by decide +kernel
theorem dX4_init_33 : decode cX4_init 33 = .ok (.putfield 21, 3) := by decide +kernel
theorem dX4_init_36 : decode cX4_init 36 = .ok (.aload_n 0, 1) := by decide +kernel
theorem dX4_init_37 : decode cX4_init 37 = .ok (.bipush 18, 2) := by decide +kernel
theorem dX4_init_39 : decode cX4_init 39 = .ok (.newarray .long, 2) := by decide +kernel
theorem dX4_init_41 : decode cX4_init 41 = .ok (.putfield 24, 3) := by decide +kernel
theorem dX4_init_44 : decode cX4_init 44 = .ok (.return_, 1) := by decide +kernel
def kX4_init_0 : List (Nat × zT) := [(0, a_aload 0 1), (1, a_obj 4), (4, a_aload 0 5), (5, a_i 19 7), (7, a_newJ 9), (9, a_putR 4 0 12), (12, a_aload 0 13), (13, a_i 19 15), (15, a_newJ 17), (17, a_putR 4 1 20), (20, a_aload 0 21), (21, a_i 19 23), (23, a_newJ 25), (25, a_putR 4 2 28), (28, a_aload 0 29), (29, a_i 19 31), (31, a_newJ 33), (33, a_putR 4 3 36), (36, a_aload 0 37), (37, a_i 18 39), (39, a_newJ 41), (41, a_putR 4 4 44), (44, a_vret)]
theorem oX4_init_0 : ∀ q ∈ kX4_init_0, zSnd zty true RX4 cX4_init 1 none true q := List.forall_mem_cons.mpr ⟨ok_aload_n dX4_init_0 rfl, List.forall_mem_cons.mpr ⟨ok_obj dX4_init_1 w163 w25 w26, List.forall_mem_cons.mpr ⟨ok_aload_n dX4_init_4 rfl, List.forall_mem_cons.mpr ⟨ok_bipush dX4_init_5 (by decide), List.forall_mem_cons.mpr ⟨ok_newJ dX4_init_7 rfl w182, List.forall_mem_cons.mpr ⟨ok_putR dX4_init_9 rfl rfl in4 tyX4 tyX4_ok nmX4 (by decide) rfl w164 rfl rfl (fun _ => ⟨rfl, rfl⟩), List.forall_mem_cons.mpr ⟨ok_aload_n dX4_init_12 rfl, List.forall_mem_cons.mpr ⟨ok_bipush dX4_init_13 (by decide), List.forall_mem_cons.mpr ⟨ok_newJ dX4_init_15 rfl w182, List.forall_mem_cons.mpr ⟨ok_putR dX4_init_17 rfl rfl in4 tyX4 tyX4_ok nmX4 (by decide) rfl w165 rfl rfl (fun _ => ⟨rfl, rfl⟩), List.forall_mem_cons.mpr ⟨ok_aload_n dX4_init_20 rfl, List.forall_mem_cons.mpr ⟨ok_bipush dX4_init_21 (by decide), List.forall_mem_cons.mpr ⟨ok_newJ dX4_init_23 rfl w182, List.forall_mem_cons.mpr ⟨ok_putR dX4_init_25 rfl rfl in4 tyX4 tyX4_ok nmX4 (by decide) rfl w168 rfl rfl (fun _ => ⟨rfl, rfl⟩), List.forall_mem_cons.mpr ⟨ok_aload_n dX4_init_28 rfl, List.forall_mem_cons.mpr ⟨ok_bipush dX4_init_29 (by decide), List.forall_mem_cons.mpr ⟨ok_newJ dX4_init_31 rfl w182, List.forall_mem_cons.mpr ⟨ok_putR dX4_init_33 rfl rfl in4 tyX4 tyX4_ok nmX4 (by decide) rfl w169 rfl rfl (fun _ => ⟨rfl, rfl⟩), List.forall_mem_cons.mpr ⟨ok_aload_n dX4_init_36 rfl, List.forall_mem_cons.mpr ⟨ok_bipush dX4_init_37 (by decide), List.forall_mem_cons.mpr ⟨ok_newJ dX4_init_39 rfl w182, List.forall_mem_cons.mpr ⟨ok_putR dX4_init_41 rfl rfl in4 tyX4 tyX4_ok nmX4 (by decide) rfl w170 rfl rfl (fun _ => ⟨rfl, rfl⟩), List.forall_mem_cons.mpr ⟨ok_vret dX4_init_44 rfl, fun _ h => absurd h List.not_mem_nil⟩⟩⟩⟩⟩⟩⟩⟩⟩⟩⟩⟩⟩⟩⟩⟩⟩⟩⟩⟩⟩⟩⟩
def kX4_init : List (Nat × zT) := kX4_init_0
theorem qX4_init_0 : ∀ q ∈ kX4_init_0, q ∈ kX4_init := fun _ h => h
theorem tX4_init_0 : (0, a_aload 0 1) ∈ kX4_init := qX4_init_0 _ (List.mem_of_getElem? (i := 0) rfl)
theorem tX4_init_1 : (1, a_obj 4) ∈ kX4_init := qX4_init_0 _ (List.mem_of_getElem? (i := 1) rfl)
theorem tX4_init_4 : (4, a_aload 0 5) ∈ kX4_init := qX4_init_0 _ (List.mem_of_getElem? (i := 2) rfl)
theorem tX4_init_5 : (5, a_i 19 7) ∈ kX4_init := qX4_init_0 _ (List.mem_of_getElem? (i := 3) rfl)
theorem tX4_init_7 : (7, a_newJ 9) ∈ kX4_init := qX4_init_0 _ (List.mem_of_getElem? (i := 4) rfl)
theorem tX4_init_9 : (9, a_putR 4 0 12) ∈ kX4_init := qX4_init_0 _ (List.mem_of_getElem? (i := 5) rfl)
theorem tX4_init_12 : (12, a_aload 0 13) ∈ kX4_init := qX4_init_0 _ (List.mem_of_getElem? (i := 6) rfl)
theorem tX4_init_13 : (13, a_i 19 15) ∈ kX4_init := qX4_init_0 _ (List.mem_of_getElem? (i := 7) rfl)
theorem tX4_init_15 : (15, a_newJ 17) ∈ kX4_init := qX4_init_0 _ (List.mem_of_getElem? (i := 8) rfl)
theorem tX4_init_17 : (17, a_putR 4 1 20) ∈ kX4_init := qX4_init_0 _ (List.mem_of_getElem? (i := 9) rfl)
theorem tX4_init_20 : (20, a_aload 0 21) ∈ kX4_init := qX4_init_0 _ (List.mem_of_getElem? (i := 10) rfl)
theorem tX4_init_21 : (21, a_i 19 23) ∈ kX4_init := qX4_init_0 _ (List.mem_of_getElem? (i := 11) rfl)
theorem tX4_init_23 : (23, a_newJ 25) ∈ kX4_init := qX4_init_0 _ (List.mem_of_getElem? (i := 12) rfl)
theorem tX4_init_25 : (25, a_putR 4 2 28) ∈ kX4_init := qX4_init_0 _ (List.mem_of_getElem? (i := 13) rfl)
theorem tX4_init_28 : (28, a_aload 0 29) ∈ kX4_init := qX4_init_0 _ (List.mem_of_getElem? (i := 14) rfl)
theorem tX4_init_29 : (29, a_i 19 31) ∈ kX4_init := qX4_init_0 _ (List.mem_of_getElem? (i := 15) rfl)
theorem tX4_init_31 : (31, a_newJ 33) ∈ kX4_init := qX4_init_0 _ (List.mem_of_getElem? (i := 16) rfl)
theorem tX4_init_33 : (33, a_putR 4 3 36) ∈ kX4_init := qX4_init_0 _ (List.mem_of_getElem? (i := 17) rfl)
theorem tX4_init_36 : (36, a_aload 0 37) ∈ kX4_init := qX4_init_0 _ (List.mem_of_getElem? (i := 18) rfl)
theorem tX4_init_37 : (37, a_i 18 39) ∈ kX4_init := qX4_init_0 _ (List.mem_of_getElem? (i := 19) rfl)
theorem tX4_init_39 : (39, a_newJ 41) ∈ kX4_init := qX4_init_0 _ (List.mem_of_getElem? (i := 20) rfl)
theorem tX4_init_41 : (41, a_putR 4 4 44) ∈ kX4_init := qX4_init_0 _ (List.mem_of_getElem? (i := 21) rfl)
theorem tX4_init_44 : (44, a_vret) ∈ kX4_init := qX4_init_0 _ (List.mem_of_getElem? (i := 22) rfl)
theorem oX4_init : ∀ q ∈ kX4_init, zSnd zty true RX4 cX4_init 1 none true q := oX4_init_0
theorem dX4_stickOne_0 : decode cX4_stickOne 0 = .ok (.aload_n 0, 1) := by decide +kernel
theorem dX4_stickOne_1 : decode cX4_stickOne 1 = .ok (.getfield 18, 3) := by decide +kernel
theorem dX4_stickOne_4 : decode cX4_stickOne 4 = .ok (.lconst 0, 1) := by decide +kernel
theorem dX4_stickOne_5 : decode cX4_stickOne 5 = .ok (.invokestatic 27, 3) := by decide +kernel
theorem dX4_stickOne_8 : decode cX4_stickOne 8 = .ok (.aload_n 0, 1) := by decide +kernel
theorem dX4_stickOne_9 : decode cX4_stickOne 9 = .ok (.getfield 21, 3) := by decide +kernel
theorem dX4_stickOne_12 : decode cX4_stickOne 12 = .ok (.lconst 0, 1) := by decide +kernel
theorem dX4_stickOne_13 : decode cX4_stickOne 13 = .ok (.invokestatic 27, 3) := by decide +kernel
theorem dX4_stickOne_16 : decode cX4_stickOne 16 = .ok (.iload_n 1, 1) := by decide +kernel
theorem dX4_stickOne_17 : decode cX4_stickOne 17 = .ok (.bipush 19, 2) := by decide +kernel
theorem dX4_stickOne_19 : decode cX4_stickOne 19 = .ok (.invokestatic 33, 3) := by decide +kernel
theorem dX4_stickOne_22 : decode cX4_stickOne 22 = .ok (.ifCond .eq 37, 3) := by decide +kernel
theorem dX4_stickOne_25 : decode cX4_stickOne 25 = .ok (.aload_n 0, 1) := by decide +kernel
theorem dX4_stickOne_26 : decode cX4_stickOne 26 = .ok (.getfield 18, 3) := by decide +kernel
theorem dX4_stickOne_29 : decode cX4_stickOne 29 = .ok (.iload_n 1, 1) := by decide +kernel
theorem dX4_stickOne_30 : decode cX4_stickOne 30 = .ok (.iload_n 2, 1) := by decide +kernel
theorem dX4_stickOne_31 : decode cX4_stickOne 31 = .ok (.ifCond .ne 9, 3) := by decide +kernel
theorem dX4_stickOne_34 : decode cX4_stickOne 34 = .ok (.ldc2_w 37, 3) := by decide +kernel
theorem dX4_stickOne_37 : decode cX4_stickOne 37 = .ok (.goto 4, 3) := by decide +kernel
theorem dX4_stickOne_40 : decode cX4_stickOne 40 = .ok (.lconst 0, 1) := by decide +kernel
theorem dX4_stickOne_41 : decode cX4_stickOne 41 = .ok (.lastore, 1) := by decide +kernel
theorem dX4_stickOne_42 : decode cX4_stickOne 42 = .ok (.aload_n 0, 1) := by decide +kernel
theorem dX4_stickOne_43 : decode cX4_stickOne 43 = .ok (.getfield 21, 3) := by decide +kernel
theorem dX4_stickOne_46 : decode cX4_stickOne 46 = .ok (.iload_n 1, 1) := by decide +kernel
theorem dX4_stickOne_47 : decode cX4_stickOne 47 = .ok (.iload_n 2, 1) := by decide +kernel
theorem dX4_stickOne_48 : decode cX4_stickOne 48 = .ok (.ifCond .ne 7, 3) := by decide +kernel
theorem dX4_stickOne_51 : decode cX4_stickOne 51 = .ok (.lconst 0, 1) := by decide +kernel
theorem dX4_stickOne_52 : decode cX4_stickOne 52 = .ok (.goto 6, 3) := by decide +kernel
theorem dX4_stickOne_55 : decode cX4_stickOne 55 = .ok (.ldc2_w 37, 3) := by decide +kernel
theorem dX4_stickOne_58 : decode cX4_stickOne 58 = .ok (.lastore, 1) := by decide +kernel
theorem dX4_stickOne_59 : decode cX4_stickOne 59 = .ok (.return_, 1) := by decide +kernel
def kX4_stickOne_0 : List (Nat × zT) := [(0, a_aload 0 1), (1, a_getR 4 2 4), (4, a_l 0 5), (5, a_call 220 2 8 0 0), (8, a_aload 0 9), (9, a_getR 4 3 12), (12, a_l 0 13), (13, a_call 220 2 16 0 0), (16, a_iload 1 17), (17, a_i 19 19), (19, a_call 128 2 22 0 0), (22, a_if_eq 59 25), (25, a_aload 0 26), (26, a_getR 4 2 29), (29, a_iload 1 30), (30, a_iload 2 31), (31, a_if_ne 40 34), (34, a_l (-1) 37), (37, a_goto 41), (40, a_l 0 41), (41, a_last 42), (42, a_aload 0 43), (43, a_getR 4 3 46), (46, a_iload 1 47)]
theorem oX4_stickOne_0 : ∀ q ∈ kX4_stickOne_0, zSnd zty false RX4 cX4_stickOne 3 none false q := List.forall_mem_cons.mpr ⟨ok_aload_n dX4_stickOne_0 rfl, List.forall_mem_cons.mpr ⟨ok_getR dX4_stickOne_1 rfl in4 (by decide) rfl w168, List.forall_mem_cons.mpr ⟨ok_lconst dX4_stickOne_4 (by decide), List.forall_mem_cons.mpr ⟨ok_callS dX4_stickOne_5 rfl w869 w867 w868 w14 (by decide +kernel) (by decide), List.forall_mem_cons.mpr ⟨ok_aload_n dX4_stickOne_8 rfl, List.forall_mem_cons.mpr ⟨ok_getR dX4_stickOne_9 rfl in4 (by decide) rfl w169, List.forall_mem_cons.mpr ⟨ok_lconst dX4_stickOne_12 (by decide), List.forall_mem_cons.mpr ⟨ok_callS dX4_stickOne_13 rfl w869 w867 w868 w14 (by decide +kernel) (by decide), List.forall_mem_cons.mpr ⟨ok_iload_n dX4_stickOne_16 rfl, List.forall_mem_cons.mpr ⟨ok_bipush dX4_stickOne_17 (by decide), List.forall_mem_cons.mpr ⟨ok_callSN dX4_stickOne_19 rfl w443 n870 w442 w1 (by decide +kernel) (by decide), List.forall_mem_cons.mpr ⟨ok_if_eq dX4_stickOne_22 (by decide), List.forall_mem_cons.mpr ⟨ok_aload_n dX4_stickOne_25 rfl, List.forall_mem_cons.mpr ⟨ok_getR dX4_stickOne_26 rfl in4 (by decide) rfl w168, List.forall_mem_cons.mpr ⟨ok_iload_n dX4_stickOne_29 rfl, List.forall_mem_cons.mpr ⟨ok_iload_n dX4_stickOne_30 rfl, List.forall_mem_cons.mpr ⟨ok_if_ne dX4_stickOne_31 (by decide), List.forall_mem_cons.mpr ⟨ok_ldc2 dX4_stickOne_34 w580, List.forall_mem_cons.mpr ⟨ok_goto dX4_stickOne_37 (by decide), List.forall_mem_cons.mpr ⟨ok_lconst dX4_stickOne_40 (by decide), List.forall_mem_cons.mpr ⟨ok_last dX4_stickOne_41, List.forall_mem_cons.mpr ⟨ok_aload_n dX4_stickOne_42 rfl, List.forall_mem_cons.mpr ⟨ok_getR dX4_stickOne_43 rfl in4 (by decide) rfl w169, List.forall_mem_cons.mpr ⟨ok_iload_n dX4_stickOne_46 rfl, fun _ h => absurd h List.not_mem_nil⟩⟩⟩⟩⟩⟩⟩⟩⟩⟩⟩⟩⟩⟩⟩⟩⟩⟩⟩⟩⟩⟩⟩⟩
def kX4_stickOne_1 : List (Nat × zT) := [(47, a_iload 2 48), (48, a_if_ne 55 51), (51, a_l 0 52), (52, a_goto 58), (55, a_l (-1) 58), (58, a_last 59), (59, a_vret)]
theorem oX4_stickOne_1 : ∀ q ∈ kX4_stickOne_1, zSnd zty false RX4 cX4_stickOne 3 none false q := List.forall_mem_cons.mpr ⟨ok_iload_n dX4_stickOne_47 rfl, List.forall_mem_cons.mpr ⟨ok_if_ne dX4_stickOne_48 (by decide), List.forall_mem_cons.mpr ⟨ok_lconst dX4_stickOne_51 (by decide), List.forall_mem_cons.mpr ⟨ok_goto dX4_stickOne_52 (by decide), List.forall_mem_cons.mpr ⟨ok_ldc2 dX4_stickOne_55 w580, List.forall_mem_cons.mpr ⟨ok_last dX4_stickOne_58, List.forall_mem_cons.mpr ⟨ok_vret dX4_stickOne_59 rfl, fun _ h => absurd h List.not_mem_nil⟩⟩⟩⟩⟩⟩⟩
def kX4_stickOne : List (Nat × zT) := kX4_stickOne_0 ++ (kX4_stickOne_1)
theorem qX4_stickOne_0 : ∀ q ∈ kX4_stickOne_0, q ∈ kX4_stickOne := fun _ h => (List.mem_append_left _ h)
theorem tX4_stickOne_0 : (0, a_aload 0 1) ∈ kX4_stickOne := qX4_stickOne_0 _ (List.mem_of_getElem? (i := 0) rfl)
theorem tX4_stickOne_1 : (1, a_getR 4 2 4) ∈ kX4_stickOne := qX4_stickOne_0 _ (List.mem_of_getElem? (i := 1) rfl)
theorem tX4_stickOne_4 : (4, a_l 0 5) ∈ kX4_stickOne := qX4_stickOne_0 _ (List.mem_of_getElem? (i := 2) rfl)
theorem tX4_stickOne_5 : (5, a_call 220 2 8 0 0) ∈ kX4_stickOne := qX4_stickOne_0 _ (List.mem_of_getElem? (i := 3) rfl)
theorem tX4_stickOne_8 : (8, a_aload 0 9) ∈ kX4_stickOne := qX4_stickOne_0 _ (List.mem_of_getElem? (i := 4) rfl)
theorem tX4_stickOne_9 : (9, a_getR 4 3 12) ∈ kX4_stickOne := qX4_stickOne_0 _ (List.mem_of_getElem? (i := 5) rfl)
theorem tX4_stickOne_12 : (12, a_l 0 13) ∈ kX4_stickOne := qX4_stickOne_0 _ (List.mem_of_getElem? (i := 6) rfl)
theorem tX4_stickOne_13 : (13, a_call 220 2 16 0 0) ∈ kX4_stickOne := qX4_stickOne_0 _ (List.mem_of_getElem? (i := 7) rfl)
theorem tX4_stickOne_16 : (16, a_iload 1 17) ∈ kX4_stickOne := qX4_stickOne_0 _ (List.mem_of_getElem? (i := 8) rfl)
theorem tX4_stickOne_17 : (17, a_i 19 19) ∈ kX4_stickOne := qX4_stickOne_0 _ (List.mem_of_getElem? (i := 9) rfl)
theorem tX4_stickOne_19 : (19, a_call 128 2 22 0 0) ∈ kX4_stickOne := qX4_stickOne_0 _ (List.mem_of_getElem? (i := 10) rfl)
theorem tX4_stickOne_22 : (22, a_if_eq 59 25) ∈ kX4_stickOne := qX4_stickOne_0 _ (List.mem_of_getElem? (i := 11) rfl)
theorem tX4_stickOne_25 : (25, a_aload 0 26) ∈ kX4_stickOne := qX4_stickOne_0 _ (List.mem_of_getElem? (i := 12) rfl)
theorem tX4_stickOne_26 : (26, a_getR 4 2 29) ∈ kX4_stickOne := qX4_stickOne_0 _ (List.mem_of_getElem? (i := 13) rfl)
theorem tX4_stickOne_29 : (29, a_iload 1 30) ∈ kX4_stickOne := qX4_stickOne_0 _ (List.mem_of_getElem? (i := 14) rfl)
theorem tX4_stickOne_30 : (30, a_iload 2 31) ∈ kX4_stickOne := qX4_stickOne_0 _ (List.mem_of_getElem? (i := 15) rfl)
theorem tX4_stickOne_31 : (31, a_if_ne 40 34) ∈ kX4_stickOne := qX4_stickOne_0 _ (List.mem_of_getElem? (i := 16) rfl)
theorem tX4_stickOne_34 : (34, a_l (-1) 37) ∈ kX4_stickOne := qX4_stickOne_0 _ (List.mem_of_getElem? (i := 17) rfl)
theorem tX4_stickOne_37 : (37, a_goto 41) ∈ kX4_stickOne := qX4_stickOne_0 _ (List.mem_of_getElem? (i := 18) rfl)
theorem tX4_stickOne_40 : (40, a_l 0 41) ∈ kX4_stickOne := qX4_stickOne_0 _ (List.mem_of_getElem? (i := 19) rfl)
theorem tX4_stickOne_41 : (41, a_last 42) ∈ kX4_stickOne := qX4_stickOne_0 _ (List.mem_of_getElem? (i := 20) rfl)
theorem tX4_stickOne_42 : (42, a_aload 0 43) ∈ kX4_stickOne := qX4_stickOne_0 _ (List.mem_of_getElem? (i := 21) rfl)
theorem tX4_stickOne_43 : (43, a_getR 4 3 46) ∈ kX4_stickOne := qX4_stickOne_0 _ (List.mem_of_getElem? (i := 22) rfl)
theorem tX4_stickOne_46 : (46, a_iload 1 47) ∈ kX4_stickOne := qX4_stickOne_0 _ (List.mem_of_getElem? (i := 23) rfl)
theorem qX4_stickOne_1 : ∀ q ∈ kX4_stickOne_1, q ∈ kX4_stickOne := fun _ h => (List.mem_append_right _ h)
theorem tX4_stickOne_47 : (47, a_iload 2 48) ∈ kX4_stickOne := qX4_stickOne_1 _ (List.mem_of_getElem? (i := 0) rfl)
theorem tX4_stickOne_48 : (48, a_if_ne 55 51) ∈ kX4_stickOne := qX4_stickOne_1 _ (List.mem_of_getElem? (i := 1) rfl)
theorem tX4_stickOne_51 : (51, a_l 0 52) ∈ kX4_stickOne := qX4_stickOne_1 _ (List.mem_of_getElem? (i := 2) rfl)
theorem tX4_stickOne_52 : (52, a_goto 58) ∈ kX4_stickOne := qX4_stickOne_1 _ (List.mem_of_getElem? (i := 3) rfl)
theorem tX4_stickOne_55 : (55, a_l (-1) 58) ∈ kX4_stickOne := qX4_stickOne_1 _ (List.mem_of_getElem? (i := 4) rfl)
theorem tX4_stickOne_58 : (58, a_last 59) ∈ kX4_stickOne := qX4_stickOne_1 _ (List.mem_of_getElem? (i := 5) rfl)
theorem tX4_stickOne_59 : (59, a_vret) ∈ kX4_stickOne := qX4_stickOne_1 _ (List.mem_of_getElem? (i := 6) rfl)
theorem oX4_stickOne : ∀ q ∈ kX4_stickOne, zSnd zty false RX4 cX4_stickOne 3 none false q := List.forall_mem_append.mpr ⟨oX4_stickOne_0, oX4_stickOne_1⟩
theorem dX4_stickEachInItsLane_0 : decode cX4_stickEachInItsLane 0 = .ok (.iconst 0, 1) := by decide +kernel
theorem dX4_stickEachInItsLane_1 : decode cX4_stickEachInItsLane 1 = .ok (.istore_n 1, 1) := by decide +kernel
theorem dX4_stickEachInItsLane_2 : decode cX4_stickEachInItsLane 2 = .ok (.iload_n 1, 1) := by decide +kernel
theorem dX4_stickEachInItsLane_3 : decode cX4_stickEachInItsLane 3 = .ok (.bipush 19, 2) := by decide +kernel
theorem dX4_stickEachInItsLane_5 : decode cX4_stickEachInItsLane 5 = .ok (.if_icmp .ge 33, 3) := by decide +kernel
theorem dX4_stickEachInItsLane_8 : decode cX4_stickEachInItsLane 8 = .ok (.aload_n 0, 1) := by decide +kernel
theorem dX4_stickEachInItsLane_9 : decode cX4_stickEachInItsLane 9 = .ok (.getfield 18, 3) := by decide +kernel
theorem dX4_stickEachInItsLane_12 : decode cX4_stickEachInItsLane 12 = .ok (.iload_n 1, 1) := by decide +kernel
theorem dX4_stickEachInItsLane_13 : decode cX4_stickEachInItsLane 13 = .ok (.lconst 1, 1) := by decide +kernel
theorem dX4_stickEachInItsLane_14 : decode cX4_stickEachInItsLane 14 = .ok (.iconst 2, 1) := by decide +kernel
theorem dX4_stickEachInItsLane_15 : decode cX4_stickEachInItsLane 15 = .ok (.iload_n 1, 1) := by decide +kernel
theorem dX4_stickEachInItsLane_16 : decode cX4_stickEachInItsLane 16 = .ok (.imul, 1) := by decide +kernel
theorem dX4_stickEachInItsLane_17 : decode cX4_stickEachInItsLane 17 = .ok (.lshl, 1) := by decide +kernel
theorem dX4_stickEachInItsLane_18 : decode cX4_stickEachInItsLane 18 = .ok (.lastore, 1) := by decide +kernel
theorem dX4_stickEachInItsLane_19 : decode cX4_stickEachInItsLane 19 = .ok (.aload_n 0, 1) := by decide +kernel
theorem dX4_stickEachInItsLane_20 : decode cX4_stickEachInItsLane 20 = .ok (.getfield 21, 3) := by decide +kernel
theorem dX4_stickEachInItsLane_23 : decode cX4_stickEachInItsLane 23 = .ok (.iload_n 1, 1) := by decide +kernel
theorem dX4_stickEachInItsLane_24 : decode cX4_stickEachInItsLane 24 = .ok (.ldc2_w 39, 3) := by decide +kernel
theorem dX4_stickEachInItsLane_27 : decode cX4_stickEachInItsLane 27 = .ok (.iconst 2, 1) := by decide +kernel
theorem dX4_stickEachInItsLane_28 : decode cX4_stickEachInItsLane 28 = .ok (.iload_n 1, 1) := by decide +kernel
theorem dX4_stickEachInItsLane_29 : decode cX4_stickEachInItsLane 29 = .ok (.imul, 1) := by decide +kernel
theorem dX4_stickEachInItsLane_30 : decode cX4_stickEachInItsLane 30 = .ok (.lshl, 1) := by decide +kernel
theorem dX4_stickEachInItsLane_31 : decode cX4_stickEachInItsLane 31 = .ok (.lastore, 1) := by decide +kernel
theorem dX4_stickEachInItsLane_32 : decode cX4_stickEachInItsLane 32 = .ok (.iinc 1 1, 3) := by decide +kernel
theorem dX4_stickEachInItsLane_35 : decode cX4_stickEachInItsLane 35 = .ok (.goto (-33), 3) := by decide +kernel
theorem dX4_stickEachInItsLane_38 : decode cX4_stickEachInItsLane 38 = .ok (.return_, 1) := by decide +kernel
def kX4_stickEachInItsLane_0 : List (Nat × zT) := [(0, a_i 0 1), (1, a_istore 1 2), (2, a_iload 1 3), (3, a_i 19 5), (5, a_ic_ge 38 8), (8, a_aload 0 9), (9, a_getR 4 2 12), (12, a_iload 1 13), (13, a_l 1 14), (14, a_i 2 15), (15, a_iload 1 16), (16, a_ii (fun x y => x * y) 17), (17, a_li (fun x y => x <<< (y.toInt64 &&& 63)) 18), (18, a_last 19), (19, a_aload 0 20), (20, a_getR 4 3 23), (23, a_iload 1 24), (24, a_l 2 27), (27, a_i 2 28), (28, a_iload 1 29), (29, a_ii (fun x y => x * y) 30), (30, a_li (fun x y => x <<< (y.toInt64 &&& 63)) 31), (31, a_last 32), (32, a_iinc 1 1 35)]
theorem oX4_stickEachInItsLane_0 : ∀ q ∈ kX4_stickEachInItsLane_0, zSnd zty true RX4 cX4_stickEachInItsLane 2 none false q := List.forall_mem_cons.mpr ⟨ok_iconst dX4_stickEachInItsLane_0 (by decide), List.forall_mem_cons.mpr ⟨ok_istore_n dX4_stickEachInItsLane_1 rfl (by decide), List.forall_mem_cons.mpr ⟨ok_iload_n dX4_stickEachInItsLane_2 rfl, List.forall_mem_cons.mpr ⟨ok_bipush dX4_stickEachInItsLane_3 (by decide), List.forall_mem_cons.mpr ⟨ok_ic_ge dX4_stickEachInItsLane_5 (by decide), List.forall_mem_cons.mpr ⟨ok_aload_n dX4_stickEachInItsLane_8 rfl, List.forall_mem_cons.mpr ⟨ok_getR dX4_stickEachInItsLane_9 rfl in4 (by decide) rfl w168, List.forall_mem_cons.mpr ⟨ok_iload_n dX4_stickEachInItsLane_12 rfl, List.forall_mem_cons.mpr ⟨ok_lconst dX4_stickEachInItsLane_13 (by decide), List.forall_mem_cons.mpr ⟨ok_iconst dX4_stickEachInItsLane_14 (by decide), List.forall_mem_cons.mpr ⟨ok_iload_n dX4_stickEachInItsLane_15 rfl, List.forall_mem_cons.mpr ⟨ok_imul dX4_stickEachInItsLane_16, List.forall_mem_cons.mpr ⟨ok_lshl dX4_stickEachInItsLane_17, List.forall_mem_cons.mpr ⟨ok_last dX4_stickEachInItsLane_18, List.forall_mem_cons.mpr ⟨ok_aload_n dX4_stickEachInItsLane_19 rfl, List.forall_mem_cons.mpr ⟨ok_getR dX4_stickEachInItsLane_20 rfl in4 (by decide) rfl w169, List.forall_mem_cons.mpr ⟨ok_iload_n dX4_stickEachInItsLane_23 rfl, List.forall_mem_cons.mpr ⟨ok_ldc2 dX4_stickEachInItsLane_24 w284, List.forall_mem_cons.mpr ⟨ok_iconst dX4_stickEachInItsLane_27 (by decide), List.forall_mem_cons.mpr ⟨ok_iload_n dX4_stickEachInItsLane_28 rfl, List.forall_mem_cons.mpr ⟨ok_imul dX4_stickEachInItsLane_29, List.forall_mem_cons.mpr ⟨ok_lshl dX4_stickEachInItsLane_30, List.forall_mem_cons.mpr ⟨ok_last dX4_stickEachInItsLane_31, List.forall_mem_cons.mpr ⟨ok_iinc dX4_stickEachInItsLane_32 (by decide) (by decide), fun _ h => absurd h List.not_mem_nil⟩⟩⟩⟩⟩⟩⟩⟩⟩⟩⟩⟩⟩⟩⟩⟩⟩⟩⟩⟩⟩⟩⟩⟩
def kX4_stickEachInItsLane_1 : List (Nat × zT) := [(35, a_goto 2), (38, a_vret)]
theorem oX4_stickEachInItsLane_1 : ∀ q ∈ kX4_stickEachInItsLane_1, zSnd zty true RX4 cX4_stickEachInItsLane 2 none false q := List.forall_mem_cons.mpr ⟨ok_goto dX4_stickEachInItsLane_35 (by decide), List.forall_mem_cons.mpr ⟨ok_vret dX4_stickEachInItsLane_38 rfl, fun _ h => absurd h List.not_mem_nil⟩⟩
def kX4_stickEachInItsLane : List (Nat × zT) := kX4_stickEachInItsLane_0 ++ (kX4_stickEachInItsLane_1)
theorem qX4_stickEachInItsLane_0 : ∀ q ∈ kX4_stickEachInItsLane_0, q ∈ kX4_stickEachInItsLane := fun _ h => (List.mem_append_left _ h)
theorem tX4_stickEachInItsLane_0 : (0, a_i 0 1) ∈ kX4_stickEachInItsLane := qX4_stickEachInItsLane_0 _ (List.mem_of_getElem? (i := 0) rfl)
theorem tX4_stickEachInItsLane_1 : (1, a_istore 1 2) ∈ kX4_stickEachInItsLane := qX4_stickEachInItsLane_0 _ (List.mem_of_getElem? (i := 1) rfl)
theorem tX4_stickEachInItsLane_2 : (2, a_iload 1 3) ∈ kX4_stickEachInItsLane := qX4_stickEachInItsLane_0 _ (List.mem_of_getElem? (i := 2) rfl)
theorem tX4_stickEachInItsLane_3 : (3, a_i 19 5) ∈ kX4_stickEachInItsLane := qX4_stickEachInItsLane_0 _ (List.mem_of_getElem? (i := 3) rfl)
theorem tX4_stickEachInItsLane_5 : (5, a_ic_ge 38 8) ∈ kX4_stickEachInItsLane := qX4_stickEachInItsLane_0 _ (List.mem_of_getElem? (i := 4) rfl)
theorem tX4_stickEachInItsLane_8 : (8, a_aload 0 9) ∈ kX4_stickEachInItsLane := qX4_stickEachInItsLane_0 _ (List.mem_of_getElem? (i := 5) rfl)
theorem tX4_stickEachInItsLane_9 : (9, a_getR 4 2 12) ∈ kX4_stickEachInItsLane := qX4_stickEachInItsLane_0 _ (List.mem_of_getElem? (i := 6) rfl)
theorem tX4_stickEachInItsLane_12 : (12, a_iload 1 13) ∈ kX4_stickEachInItsLane := qX4_stickEachInItsLane_0 _ (List.mem_of_getElem? (i := 7) rfl)
theorem tX4_stickEachInItsLane_13 : (13, a_l 1 14) ∈ kX4_stickEachInItsLane := qX4_stickEachInItsLane_0 _ (List.mem_of_getElem? (i := 8) rfl)
theorem tX4_stickEachInItsLane_14 : (14, a_i 2 15) ∈ kX4_stickEachInItsLane := qX4_stickEachInItsLane_0 _ (List.mem_of_getElem? (i := 9) rfl)
theorem tX4_stickEachInItsLane_15 : (15, a_iload 1 16) ∈ kX4_stickEachInItsLane := qX4_stickEachInItsLane_0 _ (List.mem_of_getElem? (i := 10) rfl)
theorem tX4_stickEachInItsLane_16 : (16, a_ii (fun x y => x * y) 17) ∈ kX4_stickEachInItsLane := qX4_stickEachInItsLane_0 _ (List.mem_of_getElem? (i := 11) rfl)
theorem tX4_stickEachInItsLane_17 : (17, a_li (fun x y => x <<< (y.toInt64 &&& 63)) 18) ∈ kX4_stickEachInItsLane := qX4_stickEachInItsLane_0 _ (List.mem_of_getElem? (i := 12) rfl)
theorem tX4_stickEachInItsLane_18 : (18, a_last 19) ∈ kX4_stickEachInItsLane := qX4_stickEachInItsLane_0 _ (List.mem_of_getElem? (i := 13) rfl)
theorem tX4_stickEachInItsLane_19 : (19, a_aload 0 20) ∈ kX4_stickEachInItsLane := qX4_stickEachInItsLane_0 _ (List.mem_of_getElem? (i := 14) rfl)
theorem tX4_stickEachInItsLane_20 : (20, a_getR 4 3 23) ∈ kX4_stickEachInItsLane := qX4_stickEachInItsLane_0 _ (List.mem_of_getElem? (i := 15) rfl)
theorem tX4_stickEachInItsLane_23 : (23, a_iload 1 24) ∈ kX4_stickEachInItsLane := qX4_stickEachInItsLane_0 _ (List.mem_of_getElem? (i := 16) rfl)
theorem tX4_stickEachInItsLane_24 : (24, a_l 2 27) ∈ kX4_stickEachInItsLane := qX4_stickEachInItsLane_0 _ (List.mem_of_getElem? (i := 17) rfl)
theorem tX4_stickEachInItsLane_27 : (27, a_i 2 28) ∈ kX4_stickEachInItsLane := qX4_stickEachInItsLane_0 _ (List.mem_of_getElem? (i := 18) rfl)
theorem tX4_stickEachInItsLane_28 : (28, a_iload 1 29) ∈ kX4_stickEachInItsLane := qX4_stickEachInItsLane_0 _ (List.mem_of_getElem? (i := 19) rfl)
theorem tX4_stickEachInItsLane_29 : (29, a_ii (fun x y => x * y) 30) ∈ kX4_stickEachInItsLane := qX4_stickEachInItsLane_0 _ (List.mem_of_getElem? (i := 20) rfl)
theorem tX4_stickEachInItsLane_30 : (30, a_li (fun x y => x <<< (y.toInt64 &&& 63)) 31) ∈ kX4_stickEachInItsLane := qX4_stickEachInItsLane_0 _ (List.mem_of_getElem? (i := 21) rfl)
theorem tX4_stickEachInItsLane_31 : (31, a_last 32) ∈ kX4_stickEachInItsLane := qX4_stickEachInItsLane_0 _ (List.mem_of_getElem? (i := 22) rfl)
theorem tX4_stickEachInItsLane_32 : (32, a_iinc 1 1 35) ∈ kX4_stickEachInItsLane := qX4_stickEachInItsLane_0 _ (List.mem_of_getElem? (i := 23) rfl)
theorem qX4_stickEachInItsLane_1 : ∀ q ∈ kX4_stickEachInItsLane_1, q ∈ kX4_stickEachInItsLane := fun _ h => (List.mem_append_right _ h)
theorem tX4_stickEachInItsLane_35 : (35, a_goto 2) ∈ kX4_stickEachInItsLane := qX4_stickEachInItsLane_1 _ (List.mem_of_getElem? (i := 0) rfl)
theorem tX4_stickEachInItsLane_38 : (38, a_vret) ∈ kX4_stickEachInItsLane := qX4_stickEachInItsLane_1 _ (List.mem_of_getElem? (i := 1) rfl)
theorem oX4_stickEachInItsLane : ∀ q ∈ kX4_stickEachInItsLane, zSnd zty true RX4 cX4_stickEachInItsLane 2 none false q := List.forall_mem_append.mpr ⟨oX4_stickEachInItsLane_0, oX4_stickEachInItsLane_1⟩
theorem dX4_runState_0 : decode cX4_runState 0 = .ok (.iconst 0, 1) := by decide +kernel
theorem dX4_runState_1 : decode cX4_runState 1 = .ok (.istore_n 3, 1) := by decide +kernel
theorem dX4_runState_2 : decode cX4_runState 2 = .ok (.iload_n 3, 1) := by decide +kernel
theorem dX4_runState_3 : decode cX4_runState 3 = .ok (.bipush 6, 2) := by decide +kernel
theorem dX4_runState_5 : decode cX4_runState 5 = .ok (.if_icmp .ge 20, 3) := by decide +kernel
theorem dX4_runState_8 : decode cX4_runState 8 = .ok (.aload_n 0, 1) := by decide +kernel
theorem dX4_runState_9 : decode cX4_runState 9 = .ok (.getfield 15, 3) := by decide +kernel
theorem dX4_runState_12 : decode cX4_runState 12 = .ok (.iload_n 3, 1) := by decide +kernel
theorem dX4_runState_13 : decode cX4_runState 13 = .ok (.getstatic 41, 3) := by decide +kernel
theorem dX4_runState_16 : decode cX4_runState 16 = .ok (.iload_n 3, 1) := by decide +kernel
theorem dX4_runState_17 : decode cX4_runState 17 = .ok (.laload, 1) := by decide +kernel
theorem dX4_runState_18 : decode cX4_runState 18 = .ok (.lastore, 1) := by decide +kernel
theorem dX4_runState_19 : decode cX4_runState 19 = .ok (.iinc 3 1, 3) := by decide +kernel
theorem dX4_runState_22 : decode cX4_runState 22 = .ok (.goto (-20), 3) := by decide +kernel
theorem dX4_runState_25 : decode cX4_runState 25 = .ok (.iconst 0, 1) := by decide +kernel
theorem dX4_runState_26 : decode cX4_runState 26 = .ok (.istore_n 3, 1) := by decide +kernel
theorem dX4_runState_27 : decode cX4_runState 27 = .ok (.iload_n 3, 1) := by decide +kernel
theorem dX4_runState_28 : decode cX4_runState 28 = .ok (.iconst 4, 1) := by decide +kernel
theorem dX4_runState_29 : decode cX4_runState 29 = .ok (.if_icmp .ge 24, 3) := by decide +kernel
theorem dX4_runState_32 : decode cX4_runState 32 = .ok (.aload_n 0, 1) := by decide +kernel
theorem dX4_runState_33 : decode cX4_runState 33 = .ok (.getfield 15, 3) := by decide +kernel
theorem dX4_runState_36 : decode cX4_runState 36 = .ok (.bipush 15, 2) := by decide +kernel
theorem dX4_runState_38 : decode cX4_runState 38 = .ok (.iload_n 3, 1) := by decide +kernel
theorem dX4_runState_39 : decode cX4_runState 39 = .ok (.iadd, 1) := by decide +kernel
theorem dX4_runState_40 : decode cX4_runState 40 = .ok (.iload_n 2, 1) := by decide +kernel
theorem dX4_runState_41 : decode cX4_runState 41 = .ok (.iload_n 3, 1) := by decide +kernel
theorem dX4_runState_42 : decode cX4_runState 42 = .ok (.ishr, 1) := by decide +kernel
theorem dX4_runState_43 : decode cX4_runState 43 = .ok (.invokestatic 44, 3) := by decide +kernel
theorem dX4_runState_46 : decode cX4_runState 46 = .ok (.lastore, 1) := by decide +kernel
theorem dX4_runState_47 : decode cX4_runState 47 = .ok (.iinc 3 1, 3) := by decide +kernel
theorem dX4_runState_50 : decode cX4_runState 50 = .ok (.goto (-23), 3) := by decide +kernel
theorem dX4_runState_53 : decode cX4_runState 53 = .ok (.aload_n 0, 1) := by decide +kernel
theorem dX4_runState_54 : decode cX4_runState 54 = .ok (.aload_n 1, 1) := by decide +kernel
theorem dX4_runState_55 : decode cX4_runState 55 = .ok (.invokevirtual 48, 3) := by decide +kernel
theorem dX4_runState_58 : decode cX4_runState 58 = .ok (.return_, 1) := by decide +kernel
def kX4_runState_0 : List (Nat × zT) := [(0, a_i 0 1), (1, a_istore 3 2), (2, a_iload 3 3), (3, a_i 6 5), (5, a_ic_ge 25 8), (8, a_aload 0 9), (9, a_getR 4 1 12), (12, a_iload 3 13), (13, a_gets 0 16), (16, a_iload 3 17), (17, a_lald 18), (18, a_last 19), (19, a_iinc 3 1 22), (22, a_goto 2), (25, a_i 0 26), (26, a_istore 3 27), (27, a_iload 3 28), (28, a_i 4 29), (29, a_ic_ge 53 32), (32, a_aload 0 33), (33, a_getR 4 1 36), (36, a_i 15 38), (38, a_iload 3 39), (39, a_ii (fun x y => x + y) 40)]
theorem oX4_runState_0 : ∀ q ∈ kX4_runState_0, zSnd zty false RX4 cX4_runState 4 none false q := List.forall_mem_cons.mpr ⟨ok_iconst dX4_runState_0 (by decide), List.forall_mem_cons.mpr ⟨ok_istore_n dX4_runState_1 rfl (by decide), List.forall_mem_cons.mpr ⟨ok_iload_n dX4_runState_2 rfl, List.forall_mem_cons.mpr ⟨ok_bipush dX4_runState_3 (by decide), List.forall_mem_cons.mpr ⟨ok_ic_ge dX4_runState_5 (by decide), List.forall_mem_cons.mpr ⟨ok_aload_n dX4_runState_8 rfl, List.forall_mem_cons.mpr ⟨ok_getR dX4_runState_9 rfl in4 (by decide) rfl w165, List.forall_mem_cons.mpr ⟨ok_iload_n dX4_runState_12 rfl, List.forall_mem_cons.mpr ⟨ok_gets dX4_runState_13 rfl w598, List.forall_mem_cons.mpr ⟨ok_iload_n dX4_runState_16 rfl, List.forall_mem_cons.mpr ⟨ok_lald dX4_runState_17, List.forall_mem_cons.mpr ⟨ok_last dX4_runState_18, List.forall_mem_cons.mpr ⟨ok_iinc dX4_runState_19 (by decide) (by decide), List.forall_mem_cons.mpr ⟨ok_goto dX4_runState_22 (by decide), List.forall_mem_cons.mpr ⟨ok_iconst dX4_runState_25 (by decide), List.forall_mem_cons.mpr ⟨ok_istore_n dX4_runState_26 rfl (by decide), List.forall_mem_cons.mpr ⟨ok_iload_n dX4_runState_27 rfl, List.forall_mem_cons.mpr ⟨ok_iconst dX4_runState_28 (by decide), List.forall_mem_cons.mpr ⟨ok_ic_ge dX4_runState_29 (by decide), List.forall_mem_cons.mpr ⟨ok_aload_n dX4_runState_32 rfl, List.forall_mem_cons.mpr ⟨ok_getR dX4_runState_33 rfl in4 (by decide) rfl w165, List.forall_mem_cons.mpr ⟨ok_bipush dX4_runState_36 (by decide), List.forall_mem_cons.mpr ⟨ok_iload_n dX4_runState_38 rfl, List.forall_mem_cons.mpr ⟨ok_iadd dX4_runState_39, fun _ h => absurd h List.not_mem_nil⟩⟩⟩⟩⟩⟩⟩⟩⟩⟩⟩⟩⟩⟩⟩⟩⟩⟩⟩⟩⟩⟩⟩⟩
def kX4_runState_1 : List (Nat × zT) := [(40, a_iload 2 41), (41, a_iload 3 42), (42, a_ii (fun x y => x >>> (y &&& 31)) 43), (43, a_call 34 1 46 0 0), (46, a_last 47), (47, a_iinc 3 1 50), (50, a_goto 27), (53, a_aload 0 54), (54, a_aload 1 55), (55, a_callV 4 35 2 58 0 0), (58, a_vret)]
theorem oX4_runState_1 : ∀ q ∈ kX4_runState_1, zSnd zty false RX4 cX4_runState 4 none false q := List.forall_mem_cons.mpr ⟨ok_iload_n dX4_runState_40 rfl, List.forall_mem_cons.mpr ⟨ok_iload_n dX4_runState_41 rfl, List.forall_mem_cons.mpr ⟨ok_ishr dX4_runState_42, List.forall_mem_cons.mpr ⟨ok_callS dX4_runState_43 rfl w570 w568 w569 w6 (by decide +kernel) (by decide), List.forall_mem_cons.mpr ⟨ok_last dX4_runState_46, List.forall_mem_cons.mpr ⟨ok_iinc dX4_runState_47 (by decide) (by decide), List.forall_mem_cons.mpr ⟨ok_goto dX4_runState_50 (by decide), List.forall_mem_cons.mpr ⟨ok_aload_n dX4_runState_53 rfl, List.forall_mem_cons.mpr ⟨ok_aload_n dX4_runState_54 rfl, List.forall_mem_cons.mpr ⟨ok_callV dX4_runState_55 rfl rfl w574 w571 w573 w6 s6 (by decide +kernel) (by decide), List.forall_mem_cons.mpr ⟨ok_vret dX4_runState_58 rfl, fun _ h => absurd h List.not_mem_nil⟩⟩⟩⟩⟩⟩⟩⟩⟩⟩⟩
def kX4_runState : List (Nat × zT) := kX4_runState_0 ++ (kX4_runState_1)
theorem qX4_runState_0 : ∀ q ∈ kX4_runState_0, q ∈ kX4_runState := fun _ h => (List.mem_append_left _ h)
theorem tX4_runState_0 : (0, a_i 0 1) ∈ kX4_runState := qX4_runState_0 _ (List.mem_of_getElem? (i := 0) rfl)
theorem tX4_runState_1 : (1, a_istore 3 2) ∈ kX4_runState := qX4_runState_0 _ (List.mem_of_getElem? (i := 1) rfl)
theorem tX4_runState_2 : (2, a_iload 3 3) ∈ kX4_runState := qX4_runState_0 _ (List.mem_of_getElem? (i := 2) rfl)
theorem tX4_runState_3 : (3, a_i 6 5) ∈ kX4_runState := qX4_runState_0 _ (List.mem_of_getElem? (i := 3) rfl)
theorem tX4_runState_5 : (5, a_ic_ge 25 8) ∈ kX4_runState := qX4_runState_0 _ (List.mem_of_getElem? (i := 4) rfl)
theorem tX4_runState_8 : (8, a_aload 0 9) ∈ kX4_runState := qX4_runState_0 _ (List.mem_of_getElem? (i := 5) rfl)
theorem tX4_runState_9 : (9, a_getR 4 1 12) ∈ kX4_runState := qX4_runState_0 _ (List.mem_of_getElem? (i := 6) rfl)
theorem tX4_runState_12 : (12, a_iload 3 13) ∈ kX4_runState := qX4_runState_0 _ (List.mem_of_getElem? (i := 7) rfl)
theorem tX4_runState_13 : (13, a_gets 0 16) ∈ kX4_runState := qX4_runState_0 _ (List.mem_of_getElem? (i := 8) rfl)
theorem tX4_runState_16 : (16, a_iload 3 17) ∈ kX4_runState := qX4_runState_0 _ (List.mem_of_getElem? (i := 9) rfl)
theorem tX4_runState_17 : (17, a_lald 18) ∈ kX4_runState := qX4_runState_0 _ (List.mem_of_getElem? (i := 10) rfl)
theorem tX4_runState_18 : (18, a_last 19) ∈ kX4_runState := qX4_runState_0 _ (List.mem_of_getElem? (i := 11) rfl)
theorem tX4_runState_19 : (19, a_iinc 3 1 22) ∈ kX4_runState := qX4_runState_0 _ (List.mem_of_getElem? (i := 12) rfl)
theorem tX4_runState_22 : (22, a_goto 2) ∈ kX4_runState := qX4_runState_0 _ (List.mem_of_getElem? (i := 13) rfl)
theorem tX4_runState_25 : (25, a_i 0 26) ∈ kX4_runState := qX4_runState_0 _ (List.mem_of_getElem? (i := 14) rfl)
theorem tX4_runState_26 : (26, a_istore 3 27) ∈ kX4_runState := qX4_runState_0 _ (List.mem_of_getElem? (i := 15) rfl)
theorem tX4_runState_27 : (27, a_iload 3 28) ∈ kX4_runState := qX4_runState_0 _ (List.mem_of_getElem? (i := 16) rfl)
theorem tX4_runState_28 : (28, a_i 4 29) ∈ kX4_runState := qX4_runState_0 _ (List.mem_of_getElem? (i := 17) rfl)
theorem tX4_runState_29 : (29, a_ic_ge 53 32) ∈ kX4_runState := qX4_runState_0 _ (List.mem_of_getElem? (i := 18) rfl)
theorem tX4_runState_32 : (32, a_aload 0 33) ∈ kX4_runState := qX4_runState_0 _ (List.mem_of_getElem? (i := 19) rfl)
theorem tX4_runState_33 : (33, a_getR 4 1 36) ∈ kX4_runState := qX4_runState_0 _ (List.mem_of_getElem? (i := 20) rfl)
theorem tX4_runState_36 : (36, a_i 15 38) ∈ kX4_runState := qX4_runState_0 _ (List.mem_of_getElem? (i := 21) rfl)
theorem tX4_runState_38 : (38, a_iload 3 39) ∈ kX4_runState := qX4_runState_0 _ (List.mem_of_getElem? (i := 22) rfl)
theorem tX4_runState_39 : (39, a_ii (fun x y => x + y) 40) ∈ kX4_runState := qX4_runState_0 _ (List.mem_of_getElem? (i := 23) rfl)
theorem qX4_runState_1 : ∀ q ∈ kX4_runState_1, q ∈ kX4_runState := fun _ h => (List.mem_append_right _ h)
theorem tX4_runState_40 : (40, a_iload 2 41) ∈ kX4_runState := qX4_runState_1 _ (List.mem_of_getElem? (i := 0) rfl)
theorem tX4_runState_41 : (41, a_iload 3 42) ∈ kX4_runState := qX4_runState_1 _ (List.mem_of_getElem? (i := 1) rfl)
theorem tX4_runState_42 : (42, a_ii (fun x y => x >>> (y &&& 31)) 43) ∈ kX4_runState := qX4_runState_1 _ (List.mem_of_getElem? (i := 2) rfl)
theorem tX4_runState_43 : (43, a_call 34 1 46 0 0) ∈ kX4_runState := qX4_runState_1 _ (List.mem_of_getElem? (i := 3) rfl)
theorem tX4_runState_46 : (46, a_last 47) ∈ kX4_runState := qX4_runState_1 _ (List.mem_of_getElem? (i := 4) rfl)
theorem tX4_runState_47 : (47, a_iinc 3 1 50) ∈ kX4_runState := qX4_runState_1 _ (List.mem_of_getElem? (i := 5) rfl)
theorem tX4_runState_50 : (50, a_goto 27) ∈ kX4_runState := qX4_runState_1 _ (List.mem_of_getElem? (i := 6) rfl)
theorem tX4_runState_53 : (53, a_aload 0 54) ∈ kX4_runState := qX4_runState_1 _ (List.mem_of_getElem? (i := 7) rfl)
theorem tX4_runState_54 : (54, a_aload 1 55) ∈ kX4_runState := qX4_runState_1 _ (List.mem_of_getElem? (i := 8) rfl)
theorem tX4_runState_55 : (55, a_callV 4 35 2 58 0 0) ∈ kX4_runState := qX4_runState_1 _ (List.mem_of_getElem? (i := 9) rfl)
theorem tX4_runState_58 : (58, a_vret) ∈ kX4_runState := qX4_runState_1 _ (List.mem_of_getElem? (i := 10) rfl)
theorem oX4_runState : ∀ q ∈ kX4_runState, zSnd zty false RX4 cX4_runState 4 none false q := List.forall_mem_append.mpr ⟨oX4_runState_0, oX4_runState_1⟩
theorem dX4_runRow_0 : decode cX4_runRow 0 = .ok (.iconst 0, 1) := by decide +kernel
theorem dX4_runRow_1 : decode cX4_runRow 1 = .ok (.istore_n 3, 1) := by decide +kernel
theorem dX4_runRow_2 : decode cX4_runRow 2 = .ok (.iload_n 3, 1) := by decide +kernel
theorem dX4_runRow_3 : decode cX4_runRow 3 = .ok (.bipush 6, 2) := by decide +kernel
theorem dX4_runRow_5 : decode cX4_runRow 5 = .ok (.if_icmp .ge 21, 3) := by decide +kernel
theorem dX4_runRow_8 : decode cX4_runRow 8 = .ok (.aload_n 0, 1) := by decide +kernel
theorem dX4_runRow_9 : decode cX4_runRow 9 = .ok (.getfield 15, 3) := by decide +kernel
theorem dX4_runRow_12 : decode cX4_runRow 12 = .ok (.iload_n 3, 1) := by decide +kernel
theorem dX4_runRow_13 : decode cX4_runRow 13 = .ok (.iload_n 2, 1) := by decide +kernel
theorem dX4_runRow_14 : decode cX4_runRow 14 = .ok (.iload_n 3, 1) := by decide +kernel
theorem dX4_runRow_15 : decode cX4_runRow 15 = .ok (.ishr, 1) := by decide +kernel
theorem dX4_runRow_16 : decode cX4_runRow 16 = .ok (.invokestatic 44, 3) := by decide +kernel
theorem dX4_runRow_19 : decode cX4_runRow 19 = .ok (.lastore, 1) := by decide +kernel
theorem dX4_runRow_20 : decode cX4_runRow 20 = .ok (.iinc 3 1, 3) := by decide +kernel
theorem dX4_runRow_23 : decode cX4_runRow 23 = .ok (.goto (-21), 3) := by decide +kernel
theorem dX4_runRow_26 : decode cX4_runRow 26 = .ok (.iconst 0, 1) := by decide +kernel
theorem dX4_runRow_27 : decode cX4_runRow 27 = .ok (.istore_n 3, 1) := by decide +kernel
theorem dX4_runRow_28 : decode cX4_runRow 28 = .ok (.iload_n 3, 1) := by decide +kernel
theorem dX4_runRow_29 : decode cX4_runRow 29 = .ok (.iconst 4, 1) := by decide +kernel
theorem dX4_runRow_30 : decode cX4_runRow 30 = .ok (.if_icmp .ge 27, 3) := by decide +kernel
theorem dX4_runRow_33 : decode cX4_runRow 33 = .ok (.aload_n 0, 1) := by decide +kernel
theorem dX4_runRow_34 : decode cX4_runRow 34 = .ok (.getfield 15, 3) := by decide +kernel
theorem dX4_runRow_37 : decode cX4_runRow 37 = .ok (.bipush 15, 2) := by decide +kernel
theorem dX4_runRow_39 : decode cX4_runRow 39 = .ok (.iload_n 3, 1) := by decide +kernel
theorem dX4_runRow_40 : decode cX4_runRow 40 = .ok (.iadd, 1) := by decide +kernel
theorem dX4_runRow_41 : decode cX4_runRow 41 = .ok (.iload_n 2, 1) := by decide +kernel
theorem dX4_runRow_42 : decode cX4_runRow 42 = .ok (.bipush 6, 2) := by decide +kernel
theorem dX4_runRow_44 : decode cX4_runRow 44 = .ok (.iload_n 3, 1) := by decide +kernel
theorem dX4_runRow_45 : decode cX4_runRow 45 = .ok (.iadd, 1) := by decide +kernel
theorem dX4_runRow_46 : decode cX4_runRow 46 = .ok (.ishr, 1) := by decide +kernel
theorem dX4_runRow_47 : decode cX4_runRow 47 = .ok (.invokestatic 44, 3) := by decide +kernel
theorem dX4_runRow_50 : decode cX4_runRow 50 = .ok (.lastore, 1) := by decide +kernel
theorem dX4_runRow_51 : decode cX4_runRow 51 = .ok (.iinc 3 1, 3) := by decide +kernel
theorem dX4_runRow_54 : decode cX4_runRow 54 = .ok (.goto (-26), 3) := by decide +kernel
theorem dX4_runRow_57 : decode cX4_runRow 57 = .ok (.aload_n 0, 1) := by decide +kernel
theorem dX4_runRow_58 : decode cX4_runRow 58 = .ok (.aload_n 1, 1) := by decide +kernel
theorem dX4_runRow_59 : decode cX4_runRow 59 = .ok (.invokevirtual 48, 3) := by decide +kernel
theorem dX4_runRow_62 : decode cX4_runRow 62 = .ok (.return_, 1) := by decide +kernel
def kX4_runRow_0 : List (Nat × zT) := [(0, a_i 0 1), (1, a_istore 3 2), (2, a_iload 3 3), (3, a_i 6 5), (5, a_ic_ge 26 8), (8, a_aload 0 9), (9, a_getR 4 1 12), (12, a_iload 3 13), (13, a_iload 2 14), (14, a_iload 3 15), (15, a_ii (fun x y => x >>> (y &&& 31)) 16), (16, a_call 34 1 19 0 0), (19, a_last 20), (20, a_iinc 3 1 23), (23, a_goto 2), (26, a_i 0 27), (27, a_istore 3 28), (28, a_iload 3 29), (29, a_i 4 30), (30, a_ic_ge 57 33), (33, a_aload 0 34), (34, a_getR 4 1 37), (37, a_i 15 39), (39, a_iload 3 40)]
theorem oX4_runRow_0 : ∀ q ∈ kX4_runRow_0, zSnd zty false RX4 cX4_runRow 4 none false q := List.forall_mem_cons.mpr ⟨ok_iconst dX4_runRow_0 (by decide), List.forall_mem_cons.mpr ⟨ok_istore_n dX4_runRow_1 rfl (by decide), List.forall_mem_cons.mpr ⟨ok_iload_n dX4_runRow_2 rfl, List.forall_mem_cons.mpr ⟨ok_bipush dX4_runRow_3 (by decide), List.forall_mem_cons.mpr ⟨ok_ic_ge dX4_runRow_5 (by decide), List.forall_mem_cons.mpr ⟨ok_aload_n dX4_runRow_8 rfl, List.forall_mem_cons.mpr ⟨ok_getR dX4_runRow_9 rfl in4 (by decide) rfl w165, List.forall_mem_cons.mpr ⟨ok_iload_n dX4_runRow_12 rfl, List.forall_mem_cons.mpr ⟨ok_iload_n dX4_runRow_13 rfl, List.forall_mem_cons.mpr ⟨ok_iload_n dX4_runRow_14 rfl, List.forall_mem_cons.mpr ⟨ok_ishr dX4_runRow_15, List.forall_mem_cons.mpr ⟨ok_callS dX4_runRow_16 rfl w570 w568 w569 w6 (by decide +kernel) (by decide), List.forall_mem_cons.mpr ⟨ok_last dX4_runRow_19, List.forall_mem_cons.mpr ⟨ok_iinc dX4_runRow_20 (by decide) (by decide), List.forall_mem_cons.mpr ⟨ok_goto dX4_runRow_23 (by decide), List.forall_mem_cons.mpr ⟨ok_iconst dX4_runRow_26 (by decide), List.forall_mem_cons.mpr ⟨ok_istore_n dX4_runRow_27 rfl (by decide), List.forall_mem_cons.mpr ⟨ok_iload_n dX4_runRow_28 rfl, List.forall_mem_cons.mpr ⟨ok_iconst dX4_runRow_29 (by decide), List.forall_mem_cons.mpr ⟨ok_ic_ge dX4_runRow_30 (by decide), List.forall_mem_cons.mpr ⟨ok_aload_n dX4_runRow_33 rfl, List.forall_mem_cons.mpr ⟨ok_getR dX4_runRow_34 rfl in4 (by decide) rfl w165, List.forall_mem_cons.mpr ⟨ok_bipush dX4_runRow_37 (by decide), List.forall_mem_cons.mpr ⟨ok_iload_n dX4_runRow_39 rfl, fun _ h => absurd h List.not_mem_nil⟩⟩⟩⟩⟩⟩⟩⟩⟩⟩⟩⟩⟩⟩⟩⟩⟩⟩⟩⟩⟩⟩⟩⟩
def kX4_runRow_1 : List (Nat × zT) := [(40, a_ii (fun x y => x + y) 41), (41, a_iload 2 42), (42, a_i 6 44), (44, a_iload 3 45), (45, a_ii (fun x y => x + y) 46), (46, a_ii (fun x y => x >>> (y &&& 31)) 47), (47, a_call 34 1 50 0 0), (50, a_last 51), (51, a_iinc 3 1 54), (54, a_goto 28), (57, a_aload 0 58), (58, a_aload 1 59), (59, a_callV 4 35 2 62 0 0), (62, a_vret)]
theorem oX4_runRow_1 : ∀ q ∈ kX4_runRow_1, zSnd zty false RX4 cX4_runRow 4 none false q := List.forall_mem_cons.mpr ⟨ok_iadd dX4_runRow_40, List.forall_mem_cons.mpr ⟨ok_iload_n dX4_runRow_41 rfl, List.forall_mem_cons.mpr ⟨ok_bipush dX4_runRow_42 (by decide), List.forall_mem_cons.mpr ⟨ok_iload_n dX4_runRow_44 rfl, List.forall_mem_cons.mpr ⟨ok_iadd dX4_runRow_45, List.forall_mem_cons.mpr ⟨ok_ishr dX4_runRow_46, List.forall_mem_cons.mpr ⟨ok_callS dX4_runRow_47 rfl w570 w568 w569 w6 (by decide +kernel) (by decide), List.forall_mem_cons.mpr ⟨ok_last dX4_runRow_50, List.forall_mem_cons.mpr ⟨ok_iinc dX4_runRow_51 (by decide) (by decide), List.forall_mem_cons.mpr ⟨ok_goto dX4_runRow_54 (by decide), List.forall_mem_cons.mpr ⟨ok_aload_n dX4_runRow_57 rfl, List.forall_mem_cons.mpr ⟨ok_aload_n dX4_runRow_58 rfl, List.forall_mem_cons.mpr ⟨ok_callV dX4_runRow_59 rfl rfl w574 w571 w573 w6 s6 (by decide +kernel) (by decide), List.forall_mem_cons.mpr ⟨ok_vret dX4_runRow_62 rfl, fun _ h => absurd h List.not_mem_nil⟩⟩⟩⟩⟩⟩⟩⟩⟩⟩⟩⟩⟩⟩
def kX4_runRow : List (Nat × zT) := kX4_runRow_0 ++ (kX4_runRow_1)
theorem qX4_runRow_0 : ∀ q ∈ kX4_runRow_0, q ∈ kX4_runRow := fun _ h => (List.mem_append_left _ h)
theorem tX4_runRow_0 : (0, a_i 0 1) ∈ kX4_runRow := qX4_runRow_0 _ (List.mem_of_getElem? (i := 0) rfl)
theorem tX4_runRow_1 : (1, a_istore 3 2) ∈ kX4_runRow := qX4_runRow_0 _ (List.mem_of_getElem? (i := 1) rfl)
theorem tX4_runRow_2 : (2, a_iload 3 3) ∈ kX4_runRow := qX4_runRow_0 _ (List.mem_of_getElem? (i := 2) rfl)
theorem tX4_runRow_3 : (3, a_i 6 5) ∈ kX4_runRow := qX4_runRow_0 _ (List.mem_of_getElem? (i := 3) rfl)
theorem tX4_runRow_5 : (5, a_ic_ge 26 8) ∈ kX4_runRow := qX4_runRow_0 _ (List.mem_of_getElem? (i := 4) rfl)
theorem tX4_runRow_8 : (8, a_aload 0 9) ∈ kX4_runRow := qX4_runRow_0 _ (List.mem_of_getElem? (i := 5) rfl)
theorem tX4_runRow_9 : (9, a_getR 4 1 12) ∈ kX4_runRow := qX4_runRow_0 _ (List.mem_of_getElem? (i := 6) rfl)
theorem tX4_runRow_12 : (12, a_iload 3 13) ∈ kX4_runRow := qX4_runRow_0 _ (List.mem_of_getElem? (i := 7) rfl)
theorem tX4_runRow_13 : (13, a_iload 2 14) ∈ kX4_runRow := qX4_runRow_0 _ (List.mem_of_getElem? (i := 8) rfl)
theorem tX4_runRow_14 : (14, a_iload 3 15) ∈ kX4_runRow := qX4_runRow_0 _ (List.mem_of_getElem? (i := 9) rfl)
theorem tX4_runRow_15 : (15, a_ii (fun x y => x >>> (y &&& 31)) 16) ∈ kX4_runRow := qX4_runRow_0 _ (List.mem_of_getElem? (i := 10) rfl)
theorem tX4_runRow_16 : (16, a_call 34 1 19 0 0) ∈ kX4_runRow := qX4_runRow_0 _ (List.mem_of_getElem? (i := 11) rfl)
theorem tX4_runRow_19 : (19, a_last 20) ∈ kX4_runRow := qX4_runRow_0 _ (List.mem_of_getElem? (i := 12) rfl)
theorem tX4_runRow_20 : (20, a_iinc 3 1 23) ∈ kX4_runRow := qX4_runRow_0 _ (List.mem_of_getElem? (i := 13) rfl)
theorem tX4_runRow_23 : (23, a_goto 2) ∈ kX4_runRow := qX4_runRow_0 _ (List.mem_of_getElem? (i := 14) rfl)
theorem tX4_runRow_26 : (26, a_i 0 27) ∈ kX4_runRow := qX4_runRow_0 _ (List.mem_of_getElem? (i := 15) rfl)
theorem tX4_runRow_27 : (27, a_istore 3 28) ∈ kX4_runRow := qX4_runRow_0 _ (List.mem_of_getElem? (i := 16) rfl)
theorem tX4_runRow_28 : (28, a_iload 3 29) ∈ kX4_runRow := qX4_runRow_0 _ (List.mem_of_getElem? (i := 17) rfl)
theorem tX4_runRow_29 : (29, a_i 4 30) ∈ kX4_runRow := qX4_runRow_0 _ (List.mem_of_getElem? (i := 18) rfl)
theorem tX4_runRow_30 : (30, a_ic_ge 57 33) ∈ kX4_runRow := qX4_runRow_0 _ (List.mem_of_getElem? (i := 19) rfl)
theorem tX4_runRow_33 : (33, a_aload 0 34) ∈ kX4_runRow := qX4_runRow_0 _ (List.mem_of_getElem? (i := 20) rfl)
theorem tX4_runRow_34 : (34, a_getR 4 1 37) ∈ kX4_runRow := qX4_runRow_0 _ (List.mem_of_getElem? (i := 21) rfl)
theorem tX4_runRow_37 : (37, a_i 15 39) ∈ kX4_runRow := qX4_runRow_0 _ (List.mem_of_getElem? (i := 22) rfl)
theorem tX4_runRow_39 : (39, a_iload 3 40) ∈ kX4_runRow := qX4_runRow_0 _ (List.mem_of_getElem? (i := 23) rfl)
theorem qX4_runRow_1 : ∀ q ∈ kX4_runRow_1, q ∈ kX4_runRow := fun _ h => (List.mem_append_right _ h)
theorem tX4_runRow_40 : (40, a_ii (fun x y => x + y) 41) ∈ kX4_runRow := qX4_runRow_1 _ (List.mem_of_getElem? (i := 0) rfl)
theorem tX4_runRow_41 : (41, a_iload 2 42) ∈ kX4_runRow := qX4_runRow_1 _ (List.mem_of_getElem? (i := 1) rfl)
theorem tX4_runRow_42 : (42, a_i 6 44) ∈ kX4_runRow := qX4_runRow_1 _ (List.mem_of_getElem? (i := 2) rfl)
theorem tX4_runRow_44 : (44, a_iload 3 45) ∈ kX4_runRow := qX4_runRow_1 _ (List.mem_of_getElem? (i := 3) rfl)
theorem tX4_runRow_45 : (45, a_ii (fun x y => x + y) 46) ∈ kX4_runRow := qX4_runRow_1 _ (List.mem_of_getElem? (i := 4) rfl)
theorem tX4_runRow_46 : (46, a_ii (fun x y => x >>> (y &&& 31)) 47) ∈ kX4_runRow := qX4_runRow_1 _ (List.mem_of_getElem? (i := 5) rfl)
theorem tX4_runRow_47 : (47, a_call 34 1 50 0 0) ∈ kX4_runRow := qX4_runRow_1 _ (List.mem_of_getElem? (i := 6) rfl)
theorem tX4_runRow_50 : (50, a_last 51) ∈ kX4_runRow := qX4_runRow_1 _ (List.mem_of_getElem? (i := 7) rfl)
theorem tX4_runRow_51 : (51, a_iinc 3 1 54) ∈ kX4_runRow := qX4_runRow_1 _ (List.mem_of_getElem? (i := 8) rfl)
theorem tX4_runRow_54 : (54, a_goto 28) ∈ kX4_runRow := qX4_runRow_1 _ (List.mem_of_getElem? (i := 9) rfl)
theorem tX4_runRow_57 : (57, a_aload 0 58) ∈ kX4_runRow := qX4_runRow_1 _ (List.mem_of_getElem? (i := 10) rfl)
theorem tX4_runRow_58 : (58, a_aload 1 59) ∈ kX4_runRow := qX4_runRow_1 _ (List.mem_of_getElem? (i := 11) rfl)
theorem tX4_runRow_59 : (59, a_callV 4 35 2 62 0 0) ∈ kX4_runRow := qX4_runRow_1 _ (List.mem_of_getElem? (i := 12) rfl)
theorem tX4_runRow_62 : (62, a_vret) ∈ kX4_runRow := qX4_runRow_1 _ (List.mem_of_getElem? (i := 13) rfl)
theorem oX4_runRow : ∀ q ∈ kX4_runRow, zSnd zty false RX4 cX4_runRow 4 none false q := List.forall_mem_append.mpr ⟨oX4_runRow_0, oX4_runRow_1⟩
theorem dX4_inAllLanes_0 : decode cX4_inAllLanes 0 = .ok (.iload_n 0, 1) := by decide +kernel
theorem dX4_inAllLanes_1 : decode cX4_inAllLanes 1 = .ok (.iconst 1, 1) := by decide +kernel
theorem dX4_inAllLanes_2 : decode cX4_inAllLanes 2 = .ok (.iand, 1) := by decide +kernel
theorem dX4_inAllLanes_3 : decode cX4_inAllLanes 3 = .ok (.i2l, 1) := by decide +kernel
theorem dX4_inAllLanes_4 : decode cX4_inAllLanes 4 = .ok (.lneg, 1) := by decide +kernel
theorem dX4_inAllLanes_5 : decode cX4_inAllLanes 5 = .ok (.lreturn, 1) := by decide +kernel
def kX4_inAllLanes_0 : List (Nat × zT) := [(0, a_iload 0 1), (1, a_i 1 2), (2, a_ii (fun x y => x &&& y) 3), (3, a_i2l 4), (4, a_lneg 5), (5, a_lret)]
theorem oX4_inAllLanes_0 : ∀ q ∈ kX4_inAllLanes_0, zSnd zty false RX4 cX4_inAllLanes 1 (some .long) false q := List.forall_mem_cons.mpr ⟨ok_iload_n dX4_inAllLanes_0 rfl, List.forall_mem_cons.mpr ⟨ok_iconst dX4_inAllLanes_1 (by decide), List.forall_mem_cons.mpr ⟨ok_iand dX4_inAllLanes_2, List.forall_mem_cons.mpr ⟨ok_i2l dX4_inAllLanes_3, List.forall_mem_cons.mpr ⟨ok_lneg dX4_inAllLanes_4, List.forall_mem_cons.mpr ⟨ok_lret dX4_inAllLanes_5 rfl, fun _ h => absurd h List.not_mem_nil⟩⟩⟩⟩⟩⟩
def kX4_inAllLanes : List (Nat × zT) := kX4_inAllLanes_0
theorem qX4_inAllLanes_0 : ∀ q ∈ kX4_inAllLanes_0, q ∈ kX4_inAllLanes := fun _ h => h
theorem tX4_inAllLanes_0 : (0, a_iload 0 1) ∈ kX4_inAllLanes := qX4_inAllLanes_0 _ (List.mem_of_getElem? (i := 0) rfl)
theorem tX4_inAllLanes_1 : (1, a_i 1 2) ∈ kX4_inAllLanes := qX4_inAllLanes_0 _ (List.mem_of_getElem? (i := 1) rfl)
theorem tX4_inAllLanes_2 : (2, a_ii (fun x y => x &&& y) 3) ∈ kX4_inAllLanes := qX4_inAllLanes_0 _ (List.mem_of_getElem? (i := 2) rfl)
theorem tX4_inAllLanes_3 : (3, a_i2l 4) ∈ kX4_inAllLanes := qX4_inAllLanes_0 _ (List.mem_of_getElem? (i := 3) rfl)
theorem tX4_inAllLanes_4 : (4, a_lneg 5) ∈ kX4_inAllLanes := qX4_inAllLanes_0 _ (List.mem_of_getElem? (i := 4) rfl)
theorem tX4_inAllLanes_5 : (5, a_lret) ∈ kX4_inAllLanes := qX4_inAllLanes_0 _ (List.mem_of_getElem? (i := 5) rfl)
theorem oX4_inAllLanes : ∀ q ∈ kX4_inAllLanes, zSnd zty false RX4 cX4_inAllLanes 1 (some .long) false q := oX4_inAllLanes_0
theorem dX4_run_0 : decode cX4_run 0 = .ok (.iconst 0, 1) := by decide +kernel
theorem dX4_run_1 : decode cX4_run 1 = .ok (.istore_n 2, 1) := by decide +kernel
theorem dX4_run_2 : decode cX4_run 2 = .ok (.iload_n 2, 1) := by decide +kernel
theorem dX4_run_3 : decode cX4_run 3 = .ok (.bipush 19, 2) := by decide +kernel
theorem dX4_run_5 : decode cX4_run 5 = .ok (.if_icmp .ge 40, 3) := by decide +kernel
theorem dX4_run_8 : decode cX4_run 8 = .ok (.iload_n 2, 1) := by decide +kernel
theorem dX4_run_9 : decode cX4_run 9 = .ok (.invokestatic 52, 3) := by decide +kernel
theorem dX4_run_12 : decode cX4_run 12 = .ok (.ifCond .eq 10, 3) := by decide +kernel
theorem dX4_run_15 : decode cX4_run 15 = .ok (.aload_n 0, 1) := by decide +kernel
theorem dX4_run_16 : decode cX4_run 16 = .ok (.getfield 15, 3) := by decide +kernel
theorem dX4_run_19 : decode cX4_run 19 = .ok (.iload_n 2, 1) := by decide +kernel
theorem dX4_run_20 : decode cX4_run 20 = .ok (.lconst 0, 1) := by decide +kernel
theorem dX4_run_21 : decode cX4_run 21 = .ok (.lastore, 1) := by decide +kernel
theorem dX4_run_22 : decode cX4_run 22 = .ok (.aload_n 0, 1) := by decide +kernel
theorem dX4_run_23 : decode cX4_run 23 = .ok (.getfield 9, 3) := by decide +kernel
theorem dX4_run_26 : decode cX4_run 26 = .ok (.iload_n 2, 1) := by decide +kernel
theorem dX4_run_27 : decode cX4_run 27 = .ok (.aload_n 0, 1) := by decide +kernel
theorem dX4_run_28 : decode cX4_run 28 = .ok (.iload_n 2, 1) := by decide +kernel
theorem dX4_run_29 : decode cX4_run 29 = .ok (.aload_n 0, 1) := by decide +kernel
theorem dX4_run_30 : decode cX4_run 30 = .ok (.getfield 15, 3) := by decide +kernel
theorem dX4_run_33 : decode cX4_run 33 = .ok (.iload_n 2, 1) := by decide +kernel
theorem dX4_run_34 : decode cX4_run 34 = .ok (.laload, 1) := by decide +kernel
theorem dX4_run_35 : decode cX4_run 35 = .ok (.invokevirtual 56, 3) := by decide +kernel
theorem dX4_run_38 : decode cX4_run 38 = .ok (.lastore, 1) := by decide +kernel
theorem dX4_run_39 : decode cX4_run 39 = .ok (.iinc 2 1, 3) := by decide +kernel
theorem dX4_run_42 : decode cX4_run 42 = .ok (.goto (-40), 3) := by decide +kernel
theorem dX4_run_45 : decode cX4_run 45 = .ok (.iconst 0, 1) := by decide +kernel
theorem dX4_run_46 : decode cX4_run 46 = .ok (.istore_n 2, 1) := by decide +kernel
theorem dX4_run_47 : decode cX4_run 47 = .ok (.iload_n 2, 1) := by decide +kernel
theorem dX4_run_48 : decode cX4_run 48 = .ok (.aload_n 1, 1) := by decide +kernel
theorem dX4_run_49 : decode cX4_run 49 = .ok (.getfield 60, 3) := by decide +kernel
theorem dX4_run_52 : decode cX4_run 52 = .ok (.if_icmp .ge 56, 3) := by decide +kernel
theorem dX4_run_55 : decode cX4_run 55 = .ok (.aload_n 1, 1) := by decide +kernel
theorem dX4_run_56 : decode cX4_run 56 = .ok (.getfield 66, 3) := by decide +kernel
theorem dX4_run_59 : decode cX4_run 59 = .ok (.iload_n 2, 1) := by decide +kernel
theorem dX4_run_60 : decode cX4_run 60 = .ok (.iaload, 1) := by decide +kernel
theorem dX4_run_61 : decode cX4_run 61 = .ok (.istore_n 3, 1) := by decide +kernel
theorem dX4_run_62 : decode cX4_run 62 = .ok (.aload_n 0, 1) := by decide +kernel
theorem dX4_run_63 : decode cX4_run 63 = .ok (.aload_n 1, 1) := by decide +kernel
theorem dX4_run_64 : decode cX4_run 64 = .ok (.iload_n 3, 1) := by decide +kernel
theorem dX4_run_65 : decode cX4_run 65 = .ok (.invokevirtual 70, 3) := by decide +kernel
theorem dX4_run_68 : decode cX4_run 68 = .ok (.lstore 4, 2) := by decide +kernel
theorem dX4_run_70 : decode cX4_run 70 = .ok (.iload_n 3, 1) := by decide +kernel
theorem dX4_run_71 : decode cX4_run 71 = .ok (.invokestatic 52, 3) := by decide +kernel
theorem dX4_run_74 : decode cX4_run 74 = .ok (.ifCond .eq 20, 3) := by decide +kernel
theorem dX4_run_77 : decode cX4_run 77 = .ok (.aload_n 0, 1) := by decide +kernel
theorem dX4_run_78 : decode cX4_run 78 = .ok (.iload_n 3, 1) := by decide +kernel
theorem dX4_run_79 : decode cX4_run 79 = .ok (.lload 4, 2) := by decide +kernel
theorem dX4_run_81 : decode cX4_run 81 = .ok (.invokevirtual 56, 3) := by decide +kernel
theorem dX4_run_84 : decode cX4_run 84 = .ok (.lstore 4, 2) := by decide +kernel
theorem dX4_run_86 : decode cX4_run 86 = .ok (.aload_n 0, 1) := by decide +kernel
theorem dX4_run_87 : decode cX4_run 87 = .ok (.getfield 9, 3) := by decide +kernel
theorem dX4_run_90 : decode cX4_run 90 = .ok (.iload_n 3, 1) := by decide +kernel
theorem dX4_run_91 : decode cX4_run 91 = .ok (.lload 4, 2) := by decide +kernel
theorem dX4_run_93 : decode cX4_run 93 = .ok (.lastore, 1) := by decide +kernel
theorem dX4_run_94 : decode cX4_run 94 = .ok (.aload_n 0, 1) := by decide +kernel
theorem dX4_run_95 : decode cX4_run 95 = .ok (.getfield 15, 3) := by decide +kernel
theorem dX4_run_98 : decode cX4_run 98 = .ok (.iload_n 3, 1) := by decide +kernel
theorem dX4_run_99 : decode cX4_run 99 = .ok (.lload 4, 2) := by decide +kernel
theorem dX4_run_101 : decode cX4_run 101 = .ok (.lastore, 1) := by decide +kernel
theorem dX4_run_102 : decode cX4_run 102 = .ok (.iinc 2 1, 3) := by decide +kernel
theorem dX4_run_105 : decode cX4_run 105 = .ok (.goto (-58), 3) := by decide +kernel
theorem dX4_run_108 : decode cX4_run 108 = .ok (.return_, 1) := by decide +kernel
def kX4_run_0 : List (Nat × zT) := [(0, a_i 0 1), (1, a_istore 2 2), (2, a_iload 2 3), (3, a_i 19 5), (5, a_ic_ge 45 8), (8, a_iload 2 9), (9, a_call 131 1 12 0 0), (12, a_if_eq 22 15), (15, a_aload 0 16), (16, a_getR 4 1 19), (19, a_iload 2 20), (20, a_l 0 21), (21, a_last 22), (22, a_aload 0 23), (23, a_getR 4 0 26), (26, a_iload 2 27), (27, a_aload 0 28), (28, a_iload 2 29), (29, a_aload 0 30), (30, a_getR 4 1 33), (33, a_iload 2 34), (34, a_lald 35), (35, a_callV 4 36 3 38 0 0), (38, a_last 39)]
theorem oX4_run_0 : ∀ q ∈ kX4_run_0, zSnd zty false RX4 cX4_run 6 none false q := List.forall_mem_cons.mpr ⟨ok_iconst dX4_run_0 (by decide), List.forall_mem_cons.mpr ⟨ok_istore_n dX4_run_1 rfl (by decide), List.forall_mem_cons.mpr ⟨ok_iload_n dX4_run_2 rfl, List.forall_mem_cons.mpr ⟨ok_bipush dX4_run_3 (by decide), List.forall_mem_cons.mpr ⟨ok_ic_ge dX4_run_5 (by decide), List.forall_mem_cons.mpr ⟨ok_iload_n dX4_run_8 rfl, List.forall_mem_cons.mpr ⟨ok_callSN dX4_run_9 rfl w555 n575 w554 w1 (by decide +kernel) (by decide), List.forall_mem_cons.mpr ⟨ok_if_eq dX4_run_12 (by decide), List.forall_mem_cons.mpr ⟨ok_aload_n dX4_run_15 rfl, List.forall_mem_cons.mpr ⟨ok_getR dX4_run_16 rfl in4 (by decide) rfl w165, List.forall_mem_cons.mpr ⟨ok_iload_n dX4_run_19 rfl, List.forall_mem_cons.mpr ⟨ok_lconst dX4_run_20 (by decide), List.forall_mem_cons.mpr ⟨ok_last dX4_run_21, List.forall_mem_cons.mpr ⟨ok_aload_n dX4_run_22 rfl, List.forall_mem_cons.mpr ⟨ok_getR dX4_run_23 rfl in4 (by decide) rfl w164, List.forall_mem_cons.mpr ⟨ok_iload_n dX4_run_26 rfl, List.forall_mem_cons.mpr ⟨ok_aload_n dX4_run_27 rfl, List.forall_mem_cons.mpr ⟨ok_iload_n dX4_run_28 rfl, List.forall_mem_cons.mpr ⟨ok_aload_n dX4_run_29 rfl, List.forall_mem_cons.mpr ⟨ok_getR dX4_run_30 rfl in4 (by decide) rfl w165, List.forall_mem_cons.mpr ⟨ok_iload_n dX4_run_33 rfl, List.forall_mem_cons.mpr ⟨ok_lald dX4_run_34, List.forall_mem_cons.mpr ⟨ok_callV dX4_run_35 rfl rfl w579 w576 w578 w6 s7 (by decide +kernel) (by decide), List.forall_mem_cons.mpr ⟨ok_last dX4_run_38, fun _ h => absurd h List.not_mem_nil⟩⟩⟩⟩⟩⟩⟩⟩⟩⟩⟩⟩⟩⟩⟩⟩⟩⟩⟩⟩⟩⟩⟩⟩
def kX4_run_1 : List (Nat × zT) := [(39, a_iinc 2 1 42), (42, a_goto 2), (45, a_i 0 46), (46, a_istore 2 47), (47, a_iload 2 48), (48, a_aload 1 49), (49, a_getI 10 7 52), (52, a_ic_ge 108 55), (55, a_aload 1 56), (56, a_getR 10 5 59), (59, a_iload 2 60), (60, a_iald 61), (61, a_istore 3 62), (62, a_aload 0 63), (63, a_aload 1 64), (64, a_iload 3 65), (65, a_callV 4 37 3 68 0 0), (68, a_lstore 4 70), (70, a_iload 3 71), (71, a_call 131 1 74 0 0), (74, a_if_eq 94 77), (77, a_aload 0 78), (78, a_iload 3 79), (79, a_lload 4 81)]
theorem oX4_run_1 : ∀ q ∈ kX4_run_1, zSnd zty false RX4 cX4_run 6 none false q := List.forall_mem_cons.mpr ⟨ok_iinc dX4_run_39 (by decide) (by decide), List.forall_mem_cons.mpr ⟨ok_goto dX4_run_42 (by decide), List.forall_mem_cons.mpr ⟨ok_iconst dX4_run_45 (by decide), List.forall_mem_cons.mpr ⟨ok_istore_n dX4_run_46 rfl (by decide), List.forall_mem_cons.mpr ⟨ok_iload_n dX4_run_47 rfl, List.forall_mem_cons.mpr ⟨ok_aload_n dX4_run_48 rfl, List.forall_mem_cons.mpr ⟨ok_getI dX4_run_49 rfl in10 (by decide) rfl w93, List.forall_mem_cons.mpr ⟨ok_ic_ge dX4_run_52 (by decide), List.forall_mem_cons.mpr ⟨ok_aload_n dX4_run_55 rfl, List.forall_mem_cons.mpr ⟨ok_getR dX4_run_56 rfl in10 (by decide) rfl w83, List.forall_mem_cons.mpr ⟨ok_iload_n dX4_run_59 rfl, List.forall_mem_cons.mpr ⟨ok_iald dX4_run_60, List.forall_mem_cons.mpr ⟨ok_istore_n dX4_run_61 rfl (by decide), List.forall_mem_cons.mpr ⟨ok_aload_n dX4_run_62 rfl, List.forall_mem_cons.mpr ⟨ok_aload_n dX4_run_63 rfl, List.forall_mem_cons.mpr ⟨ok_iload_n dX4_run_64 rfl, List.forall_mem_cons.mpr ⟨ok_callV dX4_run_65 rfl rfl w584 w581 w583 w6 s8 (by decide +kernel) (by decide), List.forall_mem_cons.mpr ⟨ok_lstore dX4_run_68 (by decide), List.forall_mem_cons.mpr ⟨ok_iload_n dX4_run_70 rfl, List.forall_mem_cons.mpr ⟨ok_callSN dX4_run_71 rfl w555 n575 w554 w1 (by decide +kernel) (by decide), List.forall_mem_cons.mpr ⟨ok_if_eq dX4_run_74 (by decide), List.forall_mem_cons.mpr ⟨ok_aload_n dX4_run_77 rfl, List.forall_mem_cons.mpr ⟨ok_iload_n dX4_run_78 rfl, List.forall_mem_cons.mpr ⟨ok_lload dX4_run_79, fun _ h => absurd h List.not_mem_nil⟩⟩⟩⟩⟩⟩⟩⟩⟩⟩⟩⟩⟩⟩⟩⟩⟩⟩⟩⟩⟩⟩⟩⟩
def kX4_run_2 : List (Nat × zT) := [(81, a_callV 4 36 3 84 0 0), (84, a_lstore 4 86), (86, a_aload 0 87), (87, a_getR 4 0 90), (90, a_iload 3 91), (91, a_lload 4 93), (93, a_last 94), (94, a_aload 0 95), (95, a_getR 4 1 98), (98, a_iload 3 99), (99, a_lload 4 101), (101, a_last 102), (102, a_iinc 2 1 105), (105, a_goto 47), (108, a_vret)]
theorem oX4_run_2 : ∀ q ∈ kX4_run_2, zSnd zty false RX4 cX4_run 6 none false q := List.forall_mem_cons.mpr ⟨ok_callV dX4_run_81 rfl rfl w579 w576 w578 w6 s7 (by decide +kernel) (by decide), List.forall_mem_cons.mpr ⟨ok_lstore dX4_run_84 (by decide), List.forall_mem_cons.mpr ⟨ok_aload_n dX4_run_86 rfl, List.forall_mem_cons.mpr ⟨ok_getR dX4_run_87 rfl in4 (by decide) rfl w164, List.forall_mem_cons.mpr ⟨ok_iload_n dX4_run_90 rfl, List.forall_mem_cons.mpr ⟨ok_lload dX4_run_91, List.forall_mem_cons.mpr ⟨ok_last dX4_run_93, List.forall_mem_cons.mpr ⟨ok_aload_n dX4_run_94 rfl, List.forall_mem_cons.mpr ⟨ok_getR dX4_run_95 rfl in4 (by decide) rfl w165, List.forall_mem_cons.mpr ⟨ok_iload_n dX4_run_98 rfl, List.forall_mem_cons.mpr ⟨ok_lload dX4_run_99, List.forall_mem_cons.mpr ⟨ok_last dX4_run_101, List.forall_mem_cons.mpr ⟨ok_iinc dX4_run_102 (by decide) (by decide), List.forall_mem_cons.mpr ⟨ok_goto dX4_run_105 (by decide), List.forall_mem_cons.mpr ⟨ok_vret dX4_run_108 rfl, fun _ h => absurd h List.not_mem_nil⟩⟩⟩⟩⟩⟩⟩⟩⟩⟩⟩⟩⟩⟩⟩
def kX4_run : List (Nat × zT) := kX4_run_0 ++ (kX4_run_1 ++ (kX4_run_2))
theorem qX4_run_0 : ∀ q ∈ kX4_run_0, q ∈ kX4_run := fun _ h => (List.mem_append_left _ h)
theorem tX4_run_0 : (0, a_i 0 1) ∈ kX4_run := qX4_run_0 _ (List.mem_of_getElem? (i := 0) rfl)
theorem tX4_run_1 : (1, a_istore 2 2) ∈ kX4_run := qX4_run_0 _ (List.mem_of_getElem? (i := 1) rfl)
theorem tX4_run_2 : (2, a_iload 2 3) ∈ kX4_run := qX4_run_0 _ (List.mem_of_getElem? (i := 2) rfl)
theorem tX4_run_3 : (3, a_i 19 5) ∈ kX4_run := qX4_run_0 _ (List.mem_of_getElem? (i := 3) rfl)
theorem tX4_run_5 : (5, a_ic_ge 45 8) ∈ kX4_run := qX4_run_0 _ (List.mem_of_getElem? (i := 4) rfl)
theorem tX4_run_8 : (8, a_iload 2 9) ∈ kX4_run := qX4_run_0 _ (List.mem_of_getElem? (i := 5) rfl)
theorem tX4_run_9 : (9, a_call 131 1 12 0 0) ∈ kX4_run := qX4_run_0 _ (List.mem_of_getElem? (i := 6) rfl)
theorem tX4_run_12 : (12, a_if_eq 22 15) ∈ kX4_run := qX4_run_0 _ (List.mem_of_getElem? (i := 7) rfl)
theorem tX4_run_15 : (15, a_aload 0 16) ∈ kX4_run := qX4_run_0 _ (List.mem_of_getElem? (i := 8) rfl)
theorem tX4_run_16 : (16, a_getR 4 1 19) ∈ kX4_run := qX4_run_0 _ (List.mem_of_getElem? (i := 9) rfl)
theorem tX4_run_19 : (19, a_iload 2 20) ∈ kX4_run := qX4_run_0 _ (List.mem_of_getElem? (i := 10) rfl)
theorem tX4_run_20 : (20, a_l 0 21) ∈ kX4_run := qX4_run_0 _ (List.mem_of_getElem? (i := 11) rfl)
theorem tX4_run_21 : (21, a_last 22) ∈ kX4_run := qX4_run_0 _ (List.mem_of_getElem? (i := 12) rfl)
theorem tX4_run_22 : (22, a_aload 0 23) ∈ kX4_run := qX4_run_0 _ (List.mem_of_getElem? (i := 13) rfl)
theorem tX4_run_23 : (23, a_getR 4 0 26) ∈ kX4_run := qX4_run_0 _ (List.mem_of_getElem? (i := 14) rfl)
theorem tX4_run_26 : (26, a_iload 2 27) ∈ kX4_run := qX4_run_0 _ (List.mem_of_getElem? (i := 15) rfl)
theorem tX4_run_27 : (27, a_aload 0 28) ∈ kX4_run := qX4_run_0 _ (List.mem_of_getElem? (i := 16) rfl)
theorem tX4_run_28 : (28, a_iload 2 29) ∈ kX4_run := qX4_run_0 _ (List.mem_of_getElem? (i := 17) rfl)
theorem tX4_run_29 : (29, a_aload 0 30) ∈ kX4_run := qX4_run_0 _ (List.mem_of_getElem? (i := 18) rfl)
theorem tX4_run_30 : (30, a_getR 4 1 33) ∈ kX4_run := qX4_run_0 _ (List.mem_of_getElem? (i := 19) rfl)
theorem tX4_run_33 : (33, a_iload 2 34) ∈ kX4_run := qX4_run_0 _ (List.mem_of_getElem? (i := 20) rfl)
theorem tX4_run_34 : (34, a_lald 35) ∈ kX4_run := qX4_run_0 _ (List.mem_of_getElem? (i := 21) rfl)
theorem tX4_run_35 : (35, a_callV 4 36 3 38 0 0) ∈ kX4_run := qX4_run_0 _ (List.mem_of_getElem? (i := 22) rfl)
theorem tX4_run_38 : (38, a_last 39) ∈ kX4_run := qX4_run_0 _ (List.mem_of_getElem? (i := 23) rfl)
theorem qX4_run_1 : ∀ q ∈ kX4_run_1, q ∈ kX4_run := fun _ h => (List.mem_append_right _ (List.mem_append_left _ h))
theorem tX4_run_39 : (39, a_iinc 2 1 42) ∈ kX4_run := qX4_run_1 _ (List.mem_of_getElem? (i := 0) rfl)
theorem tX4_run_42 : (42, a_goto 2) ∈ kX4_run := qX4_run_1 _ (List.mem_of_getElem? (i := 1) rfl)
theorem tX4_run_45 : (45, a_i 0 46) ∈ kX4_run := qX4_run_1 _ (List.mem_of_getElem? (i := 2) rfl)
theorem tX4_run_46 : (46, a_istore 2 47) ∈ kX4_run := qX4_run_1 _ (List.mem_of_getElem? (i := 3) rfl)
theorem tX4_run_47 : (47, a_iload 2 48) ∈ kX4_run := qX4_run_1 _ (List.mem_of_getElem? (i := 4) rfl)
theorem tX4_run_48 : (48, a_aload 1 49) ∈ kX4_run := qX4_run_1 _ (List.mem_of_getElem? (i := 5) rfl)
theorem tX4_run_49 : (49, a_getI 10 7 52) ∈ kX4_run := qX4_run_1 _ (List.mem_of_getElem? (i := 6) rfl)
theorem tX4_run_52 : (52, a_ic_ge 108 55) ∈ kX4_run := qX4_run_1 _ (List.mem_of_getElem? (i := 7) rfl)
theorem tX4_run_55 : (55, a_aload 1 56) ∈ kX4_run := qX4_run_1 _ (List.mem_of_getElem? (i := 8) rfl)
theorem tX4_run_56 : (56, a_getR 10 5 59) ∈ kX4_run := qX4_run_1 _ (List.mem_of_getElem? (i := 9) rfl)
theorem tX4_run_59 : (59, a_iload 2 60) ∈ kX4_run := qX4_run_1 _ (List.mem_of_getElem? (i := 10) rfl)
theorem tX4_run_60 : (60, a_iald 61) ∈ kX4_run := qX4_run_1 _ (List.mem_of_getElem? (i := 11) rfl)
theorem tX4_run_61 : (61, a_istore 3 62) ∈ kX4_run := qX4_run_1 _ (List.mem_of_getElem? (i := 12) rfl)
theorem tX4_run_62 : (62, a_aload 0 63) ∈ kX4_run := qX4_run_1 _ (List.mem_of_getElem? (i := 13) rfl)
theorem tX4_run_63 : (63, a_aload 1 64) ∈ kX4_run := qX4_run_1 _ (List.mem_of_getElem? (i := 14) rfl)
theorem tX4_run_64 : (64, a_iload 3 65) ∈ kX4_run := qX4_run_1 _ (List.mem_of_getElem? (i := 15) rfl)
theorem tX4_run_65 : (65, a_callV 4 37 3 68 0 0) ∈ kX4_run := qX4_run_1 _ (List.mem_of_getElem? (i := 16) rfl)
theorem tX4_run_68 : (68, a_lstore 4 70) ∈ kX4_run := qX4_run_1 _ (List.mem_of_getElem? (i := 17) rfl)
theorem tX4_run_70 : (70, a_iload 3 71) ∈ kX4_run := qX4_run_1 _ (List.mem_of_getElem? (i := 18) rfl)
theorem tX4_run_71 : (71, a_call 131 1 74 0 0) ∈ kX4_run := qX4_run_1 _ (List.mem_of_getElem? (i := 19) rfl)
theorem tX4_run_74 : (74, a_if_eq 94 77) ∈ kX4_run := qX4_run_1 _ (List.mem_of_getElem? (i := 20) rfl)
theorem tX4_run_77 : (77, a_aload 0 78) ∈ kX4_run := qX4_run_1 _ (List.mem_of_getElem? (i := 21) rfl)
theorem tX4_run_78 : (78, a_iload 3 79) ∈ kX4_run := qX4_run_1 _ (List.mem_of_getElem? (i := 22) rfl)
theorem tX4_run_79 : (79, a_lload 4 81) ∈ kX4_run := qX4_run_1 _ (List.mem_of_getElem? (i := 23) rfl)
theorem qX4_run_2 : ∀ q ∈ kX4_run_2, q ∈ kX4_run := fun _ h => (List.mem_append_right _ (List.mem_append_right _ h))
theorem tX4_run_81 : (81, a_callV 4 36 3 84 0 0) ∈ kX4_run := qX4_run_2 _ (List.mem_of_getElem? (i := 0) rfl)
theorem tX4_run_84 : (84, a_lstore 4 86) ∈ kX4_run := qX4_run_2 _ (List.mem_of_getElem? (i := 1) rfl)
theorem tX4_run_86 : (86, a_aload 0 87) ∈ kX4_run := qX4_run_2 _ (List.mem_of_getElem? (i := 2) rfl)
theorem tX4_run_87 : (87, a_getR 4 0 90) ∈ kX4_run := qX4_run_2 _ (List.mem_of_getElem? (i := 3) rfl)
theorem tX4_run_90 : (90, a_iload 3 91) ∈ kX4_run := qX4_run_2 _ (List.mem_of_getElem? (i := 4) rfl)
theorem tX4_run_91 : (91, a_lload 4 93) ∈ kX4_run := qX4_run_2 _ (List.mem_of_getElem? (i := 5) rfl)
theorem tX4_run_93 : (93, a_last 94) ∈ kX4_run := qX4_run_2 _ (List.mem_of_getElem? (i := 6) rfl)
theorem tX4_run_94 : (94, a_aload 0 95) ∈ kX4_run := qX4_run_2 _ (List.mem_of_getElem? (i := 7) rfl)
theorem tX4_run_95 : (95, a_getR 4 1 98) ∈ kX4_run := qX4_run_2 _ (List.mem_of_getElem? (i := 8) rfl)
theorem tX4_run_98 : (98, a_iload 3 99) ∈ kX4_run := qX4_run_2 _ (List.mem_of_getElem? (i := 9) rfl)
theorem tX4_run_99 : (99, a_lload 4 101) ∈ kX4_run := qX4_run_2 _ (List.mem_of_getElem? (i := 10) rfl)
theorem tX4_run_101 : (101, a_last 102) ∈ kX4_run := qX4_run_2 _ (List.mem_of_getElem? (i := 11) rfl)
theorem tX4_run_102 : (102, a_iinc 2 1 105) ∈ kX4_run := qX4_run_2 _ (List.mem_of_getElem? (i := 12) rfl)
theorem tX4_run_105 : (105, a_goto 47) ∈ kX4_run := qX4_run_2 _ (List.mem_of_getElem? (i := 13) rfl)
theorem tX4_run_108 : (108, a_vret) ∈ kX4_run := qX4_run_2 _ (List.mem_of_getElem? (i := 14) rfl)
theorem oX4_run : ∀ q ∈ kX4_run, zSnd zty false RX4 cX4_run 6 none false q := List.forall_mem_append.mpr ⟨oX4_run_0, List.forall_mem_append.mpr ⟨oX4_run_1, oX4_run_2⟩⟩
theorem dX4_stuck_0 : decode cX4_stuck 0 = .ok (.lload_n 2, 1) := by decide +kernel
theorem dX4_stuck_1 : decode cX4_stuck 1 = .ok (.aload_n 0, 1) := by decide +kernel
theorem dX4_stuck_2 : decode cX4_stuck 2 = .ok (.getfield 18, 3) := by decide +kernel
theorem dX4_stuck_5 : decode cX4_stuck 5 = .ok (.iload_n 1, 1) := by decide +kernel
theorem dX4_stuck_6 : decode cX4_stuck 6 = .ok (.laload, 1) := by decide +kernel
theorem dX4_stuck_7 : decode cX4_stuck 7 = .ok (.ldc2_w 37, 3) := by decide +kernel
theorem dX4_stuck_10 : decode cX4_stuck 10 = .ok (.lxor, 1) := by decide +kernel
theorem dX4_stuck_11 : decode cX4_stuck 11 = .ok (.land, 1) := by decide +kernel
theorem dX4_stuck_12 : decode cX4_stuck 12 = .ok (.aload_n 0, 1) := by decide +kernel
theorem dX4_stuck_13 : decode cX4_stuck 13 = .ok (.getfield 21, 3) := by decide +kernel
theorem dX4_stuck_16 : decode cX4_stuck 16 = .ok (.iload_n 1, 1) := by decide +kernel
theorem dX4_stuck_17 : decode cX4_stuck 17 = .ok (.laload, 1) := by decide +kernel
theorem dX4_stuck_18 : decode cX4_stuck 18 = .ok (.lor, 1) := by decide +kernel
theorem dX4_stuck_19 : decode cX4_stuck 19 = .ok (.lreturn, 1) := by decide +kernel
def kX4_stuck_0 : List (Nat × zT) := [(0, a_lload 2 1), (1, a_aload 0 2), (2, a_getR 4 2 5), (5, a_iload 1 6), (6, a_lald 7), (7, a_l (-1) 10), (10, a_ll (fun x y => x ^^^ y) 11), (11, a_ll (fun x y => x &&& y) 12), (12, a_aload 0 13), (13, a_getR 4 3 16), (16, a_iload 1 17), (17, a_lald 18), (18, a_ll (fun x y => x ||| y) 19), (19, a_lret)]
theorem oX4_stuck_0 : ∀ q ∈ kX4_stuck_0, zSnd zty false RX4 cX4_stuck 4 (some .long) false q := List.forall_mem_cons.mpr ⟨ok_lload_n dX4_stuck_0 rfl, List.forall_mem_cons.mpr ⟨ok_aload_n dX4_stuck_1 rfl, List.forall_mem_cons.mpr ⟨ok_getR dX4_stuck_2 rfl in4 (by decide) rfl w168, List.forall_mem_cons.mpr ⟨ok_iload_n dX4_stuck_5 rfl, List.forall_mem_cons.mpr ⟨ok_lald dX4_stuck_6, List.forall_mem_cons.mpr ⟨ok_ldc2 dX4_stuck_7 w580, List.forall_mem_cons.mpr ⟨ok_lxor dX4_stuck_10, List.forall_mem_cons.mpr ⟨ok_land dX4_stuck_11, List.forall_mem_cons.mpr ⟨ok_aload_n dX4_stuck_12 rfl, List.forall_mem_cons.mpr ⟨ok_getR dX4_stuck_13 rfl in4 (by decide) rfl w169, List.forall_mem_cons.mpr ⟨ok_iload_n dX4_stuck_16 rfl, List.forall_mem_cons.mpr ⟨ok_lald dX4_stuck_17, List.forall_mem_cons.mpr ⟨ok_lor dX4_stuck_18, List.forall_mem_cons.mpr ⟨ok_lret dX4_stuck_19 rfl, fun _ h => absurd h List.not_mem_nil⟩⟩⟩⟩⟩⟩⟩⟩⟩⟩⟩⟩⟩⟩
def kX4_stuck : List (Nat × zT) := kX4_stuck_0
theorem qX4_stuck_0 : ∀ q ∈ kX4_stuck_0, q ∈ kX4_stuck := fun _ h => h
theorem tX4_stuck_0 : (0, a_lload 2 1) ∈ kX4_stuck := qX4_stuck_0 _ (List.mem_of_getElem? (i := 0) rfl)
theorem tX4_stuck_1 : (1, a_aload 0 2) ∈ kX4_stuck := qX4_stuck_0 _ (List.mem_of_getElem? (i := 1) rfl)
theorem tX4_stuck_2 : (2, a_getR 4 2 5) ∈ kX4_stuck := qX4_stuck_0 _ (List.mem_of_getElem? (i := 2) rfl)
theorem tX4_stuck_5 : (5, a_iload 1 6) ∈ kX4_stuck := qX4_stuck_0 _ (List.mem_of_getElem? (i := 3) rfl)
theorem tX4_stuck_6 : (6, a_lald 7) ∈ kX4_stuck := qX4_stuck_0 _ (List.mem_of_getElem? (i := 4) rfl)
theorem tX4_stuck_7 : (7, a_l (-1) 10) ∈ kX4_stuck := qX4_stuck_0 _ (List.mem_of_getElem? (i := 5) rfl)
theorem tX4_stuck_10 : (10, a_ll (fun x y => x ^^^ y) 11) ∈ kX4_stuck := qX4_stuck_0 _ (List.mem_of_getElem? (i := 6) rfl)
theorem tX4_stuck_11 : (11, a_ll (fun x y => x &&& y) 12) ∈ kX4_stuck := qX4_stuck_0 _ (List.mem_of_getElem? (i := 7) rfl)
theorem tX4_stuck_12 : (12, a_aload 0 13) ∈ kX4_stuck := qX4_stuck_0 _ (List.mem_of_getElem? (i := 8) rfl)
theorem tX4_stuck_13 : (13, a_getR 4 3 16) ∈ kX4_stuck := qX4_stuck_0 _ (List.mem_of_getElem? (i := 9) rfl)
theorem tX4_stuck_16 : (16, a_iload 1 17) ∈ kX4_stuck := qX4_stuck_0 _ (List.mem_of_getElem? (i := 10) rfl)
theorem tX4_stuck_17 : (17, a_lald 18) ∈ kX4_stuck := qX4_stuck_0 _ (List.mem_of_getElem? (i := 11) rfl)
theorem tX4_stuck_18 : (18, a_ll (fun x y => x ||| y) 19) ∈ kX4_stuck := qX4_stuck_0 _ (List.mem_of_getElem? (i := 12) rfl)
theorem tX4_stuck_19 : (19, a_lret) ∈ kX4_stuck := qX4_stuck_0 _ (List.mem_of_getElem? (i := 13) rfl)
theorem oX4_stuck : ∀ q ∈ kX4_stuck, zSnd zty false RX4 cX4_stuck 4 (some .long) false q := oX4_stuck_0
theorem dX4_make_0 : decode cX4_make 0 = .ok (.aload_n 1, 1) := by decide +kernel
theorem dX4_make_1 : decode cX4_make 1 = .ok (.getfield 74, 3) := by decide +kernel
theorem dX4_make_4 : decode cX4_make 4 = .ok (.iload_n 2, 1) := by decide +kernel
theorem dX4_make_5 : decode cX4_make 5 = .ok (.iaload, 1) := by decide +kernel
theorem dX4_make_6 : decode cX4_make 6 = .ok (.istore_n 3, 1) := by decide +kernel
theorem dX4_make_7 : decode cX4_make 7 = .ok (.iload_n 3, 1) := by decide +kernel
theorem dX4_make_8 : decode cX4_make 8 = .ok (.aload_n 1, 1) := by decide +kernel
theorem dX4_make_9 : decode cX4_make 9 = .ok (.getfield 77, 3) := by decide +kernel
theorem dX4_make_12 : decode cX4_make 12 = .ok (.iload_n 2, 1) := by decide +kernel
theorem dX4_make_13 : decode cX4_make 13 = .ok (.iaload, 1) := by decide +kernel
theorem dX4_make_14 : decode cX4_make 14 = .ok (.if_icmp .ge 85, 3) := by decide +kernel
theorem dX4_make_17 : decode cX4_make 17 = .ok (.aload_n 1, 1) := by decide +kernel
theorem dX4_make_18 : decode cX4_make 18 = .ok (.getfield 80, 3) := by decide +kernel
theorem dX4_make_21 : decode cX4_make 21 = .ok (.iload_n 3, 1) := by decide +kernel
theorem dX4_make_22 : decode cX4_make 22 = .ok (.iaload, 1) := by decide +kernel
theorem dX4_make_23 : decode cX4_make 23 = .ok (.invokestatic 83, 3) := by decide +kernel
theorem dX4_make_26 : decode cX4_make 26 = .ok (.istore 4, 2) := by decide +kernel
theorem dX4_make_28 : decode cX4_make 28 = .ok (.aload_n 1, 1) := by decide +kernel
theorem dX4_make_29 : decode cX4_make 29 = .ok (.getfield 80, 3) := by decide +kernel
theorem dX4_make_32 : decode cX4_make 32 = .ok (.iload_n 3, 1) := by decide +kernel
theorem dX4_make_33 : decode cX4_make 33 = .ok (.iaload, 1) := by decide +kernel
theorem dX4_make_34 : decode cX4_make 34 = .ok (.invokestatic 87, 3) := by decide +kernel
theorem dX4_make_37 : decode cX4_make 37 = .ok (.istore 5, 2) := by decide +kernel
theorem dX4_make_39 : decode cX4_make 39 = .ok (.aload_n 0, 1) := by decide +kernel
theorem dX4_make_40 : decode cX4_make 40 = .ok (.getfield 24, 3) := by decide +kernel
theorem dX4_make_43 : decode cX4_make 43 = .ok (.iload 5, 2) := by decide +kernel
theorem dX4_make_45 : decode cX4_make 45 = .ok (.iload 4, 2) := by decide +kernel
theorem dX4_make_47 : decode cX4_make 47 = .ok (.bipush 19, 2) := by decide +kernel
theorem dX4_make_49 : decode cX4_make 49 = .ok (.if_icmp .ge 13, 3) := by decide +kernel
theorem dX4_make_52 : decode cX4_make 52 = .ok (.aload_n 0, 1) := by decide +kernel
theorem dX4_make_53 : decode cX4_make 53 = .ok (.getfield 9, 3) := by decide +kernel
theorem dX4_make_56 : decode cX4_make 56 = .ok (.iload 4, 2) := by decide +kernel
theorem dX4_make_58 : decode cX4_make 58 = .ok (.laload, 1) := by decide +kernel
theorem dX4_make_59 : decode cX4_make 59 = .ok (.goto 33, 3) := by decide +kernel
theorem dX4_make_62 : decode cX4_make 62 = .ok (.iload 4, 2) := by decide +kernel
theorem dX4_make_64 : decode cX4_make 64 = .ok (.aload_n 0, 1) := by decide +kernel
theorem dX4_make_65 : decode cX4_make 65 = .ok (.getfield 24, 3) := by decide +kernel
theorem dX4_make_68 : decode cX4_make 68 = .ok (.iload 5, 2) := by decide +kernel
theorem dX4_make_70 : decode cX4_make 70 = .ok (.laload, 1) := by decide +kernel
theorem dX4_make_71 : decode cX4_make 71 = .ok (.aload_n 0, 1) := by decide +kernel
theorem dX4_make_72 : decode cX4_make 72 = .ok (.getfield 24, 3) := by decide +kernel
theorem dX4_make_75 : decode cX4_make 75 = .ok (.iload 5, 2) := by decide +kernel
theorem dX4_make_77 : decode cX4_make 77 = .ok (.iconst 1, 1) := by decide +kernel
theorem dX4_make_78 : decode cX4_make 78 = .ok (.iadd, 1) := by decide +kernel
theorem dX4_make_79 : decode cX4_make 79 = .ok (.laload, 1) := by decide +kernel
theorem dX4_make_80 : decode cX4_make 80 = .ok (.aload_n 0, 1) := by decide +kernel
theorem dX4_make_81 : decode cX4_make 81 = .ok (.getfield 24, 3) := by decide +kernel
theorem dX4_make_84 : decode cX4_make 84 = .ok (.iload 5, 2) := by decide +kernel
theorem dX4_make_86 : decode cX4_make 86 = .ok (.iconst 2, 1) := by decide +kernel
theorem dX4_make_87 : decode cX4_make 87 = .ok (.iadd, 1) := by decide +kernel
theorem dX4_make_88 : decode cX4_make 88 = .ok (.laload, 1) := by decide +kernel
theorem dX4_make_89 : decode cX4_make 89 = .ok (.invokestatic 90, 3) := by decide +kernel
theorem dX4_make_92 : decode cX4_make 92 = .ok (.lastore, 1) := by decide +kernel
theorem dX4_make_93 : decode cX4_make 93 = .ok (.iinc 3 1, 3) := by decide +kernel
theorem dX4_make_96 : decode cX4_make 96 = .ok (.goto (-89), 3) := by decide +kernel
theorem dX4_make_99 : decode cX4_make 99 = .ok (.aload_n 0, 1) := by decide +kernel
theorem dX4_make_100 : decode cX4_make 100 = .ok (.getfield 24, 3) := by decide +kernel
theorem dX4_make_103 : decode cX4_make 103 = .ok (.iconst 0, 1) := by decide +kernel
theorem dX4_make_104 : decode cX4_make 104 = .ok (.laload, 1) := by decide +kernel
theorem dX4_make_105 : decode cX4_make 105 = .ok (.lreturn, 1) := by decide +kernel
def kX4_make_0 : List (Nat × zT) := [(0, a_aload 1 1), (1, a_getR 10 1 4), (4, a_iload 2 5), (5, a_iald 6), (6, a_istore 3 7), (7, a_iload 3 8), (8, a_aload 1 9), (9, a_getR 10 2 12), (12, a_iload 2 13), (13, a_iald 14), (14, a_ic_ge 99 17), (17, a_aload 1 18), (18, a_getR 10 0 21), (21, a_iload 3 22), (22, a_iald 23), (23, a_call 135 1 26 0 0), (26, a_istore 4 28), (28, a_aload 1 29), (29, a_getR 10 0 32), (32, a_iload 3 33), (33, a_iald 34), (34, a_call 136 1 37 0 0), (37, a_istore 5 39), (39, a_aload 0 40)]
theorem oX4_make_0 : ∀ q ∈ kX4_make_0, zSnd zty false RX4 cX4_make 6 (some .long) false q := List.forall_mem_cons.mpr ⟨ok_aload_n dX4_make_0 rfl, List.forall_mem_cons.mpr ⟨ok_getR dX4_make_1 rfl in10 (by decide) rfl w64, List.forall_mem_cons.mpr ⟨ok_iload_n dX4_make_4 rfl, List.forall_mem_cons.mpr ⟨ok_iald dX4_make_5, List.forall_mem_cons.mpr ⟨ok_istore_n dX4_make_6 rfl (by decide), List.forall_mem_cons.mpr ⟨ok_iload_n dX4_make_7 rfl, List.forall_mem_cons.mpr ⟨ok_aload_n dX4_make_8 rfl, List.forall_mem_cons.mpr ⟨ok_getR dX4_make_9 rfl in10 (by decide) rfl w71, List.forall_mem_cons.mpr ⟨ok_iload_n dX4_make_12 rfl, List.forall_mem_cons.mpr ⟨ok_iald dX4_make_13, List.forall_mem_cons.mpr ⟨ok_ic_ge dX4_make_14 (by decide), List.forall_mem_cons.mpr ⟨ok_aload_n dX4_make_17 rfl, List.forall_mem_cons.mpr ⟨ok_getR dX4_make_18 rfl in10 (by decide) rfl w57, List.forall_mem_cons.mpr ⟨ok_iload_n dX4_make_21 rfl, List.forall_mem_cons.mpr ⟨ok_iald dX4_make_22, List.forall_mem_cons.mpr ⟨ok_callSN dX4_make_23 rfl w537 n585 w536 w1 (by decide +kernel) (by decide), List.forall_mem_cons.mpr ⟨ok_istore dX4_make_26 (by decide), List.forall_mem_cons.mpr ⟨ok_aload_n dX4_make_28 rfl, List.forall_mem_cons.mpr ⟨ok_getR dX4_make_29 rfl in10 (by decide) rfl w57, List.forall_mem_cons.mpr ⟨ok_iload_n dX4_make_32 rfl, List.forall_mem_cons.mpr ⟨ok_iald dX4_make_33, List.forall_mem_cons.mpr ⟨ok_callSN dX4_make_34 rfl w540 n586 w539 w1 (by decide +kernel) (by decide), List.forall_mem_cons.mpr ⟨ok_istore dX4_make_37 (by decide), List.forall_mem_cons.mpr ⟨ok_aload_n dX4_make_39 rfl, fun _ h => absurd h List.not_mem_nil⟩⟩⟩⟩⟩⟩⟩⟩⟩⟩⟩⟩⟩⟩⟩⟩⟩⟩⟩⟩⟩⟩⟩⟩
def kX4_make_1 : List (Nat × zT) := [(40, a_getR 4 4 43), (43, a_iload 5 45), (45, a_iload 4 47), (47, a_i 19 49), (49, a_ic_ge 62 52), (52, a_aload 0 53), (53, a_getR 4 0 56), (56, a_iload 4 58), (58, a_lald 59), (59, a_goto 92), (62, a_iload 4 64), (64, a_aload 0 65), (65, a_getR 4 4 68), (68, a_iload 5 70), (70, a_lald 71), (71, a_aload 0 72), (72, a_getR 4 4 75), (75, a_iload 5 77), (77, a_i 1 78), (78, a_ii (fun x y => x + y) 79), (79, a_lald 80), (80, a_aload 0 81), (81, a_getR 4 4 84), (84, a_iload 5 86)]
theorem oX4_make_1 : ∀ q ∈ kX4_make_1, zSnd zty false RX4 cX4_make 6 (some .long) false q := List.forall_mem_cons.mpr ⟨ok_getR dX4_make_40 rfl in4 (by decide) rfl w170, List.forall_mem_cons.mpr ⟨ok_iload dX4_make_43, List.forall_mem_cons.mpr ⟨ok_iload dX4_make_45, List.forall_mem_cons.mpr ⟨ok_bipush dX4_make_47 (by decide), List.forall_mem_cons.mpr ⟨ok_ic_ge dX4_make_49 (by decide), List.forall_mem_cons.mpr ⟨ok_aload_n dX4_make_52 rfl, List.forall_mem_cons.mpr ⟨ok_getR dX4_make_53 rfl in4 (by decide) rfl w164, List.forall_mem_cons.mpr ⟨ok_iload dX4_make_56, List.forall_mem_cons.mpr ⟨ok_lald dX4_make_58, List.forall_mem_cons.mpr ⟨ok_goto dX4_make_59 (by decide), List.forall_mem_cons.mpr ⟨ok_iload dX4_make_62, List.forall_mem_cons.mpr ⟨ok_aload_n dX4_make_64 rfl, List.forall_mem_cons.mpr ⟨ok_getR dX4_make_65 rfl in4 (by decide) rfl w170, List.forall_mem_cons.mpr ⟨ok_iload dX4_make_68, List.forall_mem_cons.mpr ⟨ok_lald dX4_make_70, List.forall_mem_cons.mpr ⟨ok_aload_n dX4_make_71 rfl, List.forall_mem_cons.mpr ⟨ok_getR dX4_make_72 rfl in4 (by decide) rfl w170, List.forall_mem_cons.mpr ⟨ok_iload dX4_make_75, List.forall_mem_cons.mpr ⟨ok_iconst dX4_make_77 (by decide), List.forall_mem_cons.mpr ⟨ok_iadd dX4_make_78, List.forall_mem_cons.mpr ⟨ok_lald dX4_make_79, List.forall_mem_cons.mpr ⟨ok_aload_n dX4_make_80 rfl, List.forall_mem_cons.mpr ⟨ok_getR dX4_make_81 rfl in4 (by decide) rfl w170, List.forall_mem_cons.mpr ⟨ok_iload dX4_make_84, fun _ h => absurd h List.not_mem_nil⟩⟩⟩⟩⟩⟩⟩⟩⟩⟩⟩⟩⟩⟩⟩⟩⟩⟩⟩⟩⟩⟩⟩⟩
def kX4_make_2 : List (Nat × zT) := [(86, a_i 2 87), (87, a_ii (fun x y => x + y) 88), (88, a_lald 89), (89, a_call 38 4 92 0 0), (92, a_last 93), (93, a_iinc 3 1 96), (96, a_goto 7), (99, a_aload 0 100), (100, a_getR 4 4 103), (103, a_i 0 104), (104, a_lald 105), (105, a_lret)]
theorem oX4_make_2 : ∀ q ∈ kX4_make_2, zSnd zty false RX4 cX4_make 6 (some .long) false q := List.forall_mem_cons.mpr ⟨ok_iconst dX4_make_86 (by decide), List.forall_mem_cons.mpr ⟨ok_iadd dX4_make_87, List.forall_mem_cons.mpr ⟨ok_lald dX4_make_88, List.forall_mem_cons.mpr ⟨ok_callS dX4_make_89 rfl w589 w587 w588 w6 (by decide +kernel) (by decide), List.forall_mem_cons.mpr ⟨ok_last dX4_make_92, List.forall_mem_cons.mpr ⟨ok_iinc dX4_make_93 (by decide) (by decide), List.forall_mem_cons.mpr ⟨ok_goto dX4_make_96 (by decide), List.forall_mem_cons.mpr ⟨ok_aload_n dX4_make_99 rfl, List.forall_mem_cons.mpr ⟨ok_getR dX4_make_100 rfl in4 (by decide) rfl w170, List.forall_mem_cons.mpr ⟨ok_iconst dX4_make_103 (by decide), List.forall_mem_cons.mpr ⟨ok_lald dX4_make_104, List.forall_mem_cons.mpr ⟨ok_lret dX4_make_105 rfl, fun _ h => absurd h List.not_mem_nil⟩⟩⟩⟩⟩⟩⟩⟩⟩⟩⟩⟩
def kX4_make : List (Nat × zT) := kX4_make_0 ++ (kX4_make_1 ++ (kX4_make_2))
theorem qX4_make_0 : ∀ q ∈ kX4_make_0, q ∈ kX4_make := fun _ h => (List.mem_append_left _ h)
theorem tX4_make_0 : (0, a_aload 1 1) ∈ kX4_make := qX4_make_0 _ (List.mem_of_getElem? (i := 0) rfl)
theorem tX4_make_1 : (1, a_getR 10 1 4) ∈ kX4_make := qX4_make_0 _ (List.mem_of_getElem? (i := 1) rfl)
theorem tX4_make_4 : (4, a_iload 2 5) ∈ kX4_make := qX4_make_0 _ (List.mem_of_getElem? (i := 2) rfl)
theorem tX4_make_5 : (5, a_iald 6) ∈ kX4_make := qX4_make_0 _ (List.mem_of_getElem? (i := 3) rfl)
theorem tX4_make_6 : (6, a_istore 3 7) ∈ kX4_make := qX4_make_0 _ (List.mem_of_getElem? (i := 4) rfl)
theorem tX4_make_7 : (7, a_iload 3 8) ∈ kX4_make := qX4_make_0 _ (List.mem_of_getElem? (i := 5) rfl)
theorem tX4_make_8 : (8, a_aload 1 9) ∈ kX4_make := qX4_make_0 _ (List.mem_of_getElem? (i := 6) rfl)
theorem tX4_make_9 : (9, a_getR 10 2 12) ∈ kX4_make := qX4_make_0 _ (List.mem_of_getElem? (i := 7) rfl)
theorem tX4_make_12 : (12, a_iload 2 13) ∈ kX4_make := qX4_make_0 _ (List.mem_of_getElem? (i := 8) rfl)
theorem tX4_make_13 : (13, a_iald 14) ∈ kX4_make := qX4_make_0 _ (List.mem_of_getElem? (i := 9) rfl)
theorem tX4_make_14 : (14, a_ic_ge 99 17) ∈ kX4_make := qX4_make_0 _ (List.mem_of_getElem? (i := 10) rfl)
theorem tX4_make_17 : (17, a_aload 1 18) ∈ kX4_make := qX4_make_0 _ (List.mem_of_getElem? (i := 11) rfl)
theorem tX4_make_18 : (18, a_getR 10 0 21) ∈ kX4_make := qX4_make_0 _ (List.mem_of_getElem? (i := 12) rfl)
theorem tX4_make_21 : (21, a_iload 3 22) ∈ kX4_make := qX4_make_0 _ (List.mem_of_getElem? (i := 13) rfl)
theorem tX4_make_22 : (22, a_iald 23) ∈ kX4_make := qX4_make_0 _ (List.mem_of_getElem? (i := 14) rfl)
theorem tX4_make_23 : (23, a_call 135 1 26 0 0) ∈ kX4_make := qX4_make_0 _ (List.mem_of_getElem? (i := 15) rfl)
theorem tX4_make_26 : (26, a_istore 4 28) ∈ kX4_make := qX4_make_0 _ (List.mem_of_getElem? (i := 16) rfl)
theorem tX4_make_28 : (28, a_aload 1 29) ∈ kX4_make := qX4_make_0 _ (List.mem_of_getElem? (i := 17) rfl)
theorem tX4_make_29 : (29, a_getR 10 0 32) ∈ kX4_make := qX4_make_0 _ (List.mem_of_getElem? (i := 18) rfl)
theorem tX4_make_32 : (32, a_iload 3 33) ∈ kX4_make := qX4_make_0 _ (List.mem_of_getElem? (i := 19) rfl)
theorem tX4_make_33 : (33, a_iald 34) ∈ kX4_make := qX4_make_0 _ (List.mem_of_getElem? (i := 20) rfl)
theorem tX4_make_34 : (34, a_call 136 1 37 0 0) ∈ kX4_make := qX4_make_0 _ (List.mem_of_getElem? (i := 21) rfl)
theorem tX4_make_37 : (37, a_istore 5 39) ∈ kX4_make := qX4_make_0 _ (List.mem_of_getElem? (i := 22) rfl)
theorem tX4_make_39 : (39, a_aload 0 40) ∈ kX4_make := qX4_make_0 _ (List.mem_of_getElem? (i := 23) rfl)
theorem qX4_make_1 : ∀ q ∈ kX4_make_1, q ∈ kX4_make := fun _ h => (List.mem_append_right _ (List.mem_append_left _ h))
theorem tX4_make_40 : (40, a_getR 4 4 43) ∈ kX4_make := qX4_make_1 _ (List.mem_of_getElem? (i := 0) rfl)
theorem tX4_make_43 : (43, a_iload 5 45) ∈ kX4_make := qX4_make_1 _ (List.mem_of_getElem? (i := 1) rfl)
theorem tX4_make_45 : (45, a_iload 4 47) ∈ kX4_make := qX4_make_1 _ (List.mem_of_getElem? (i := 2) rfl)
theorem tX4_make_47 : (47, a_i 19 49) ∈ kX4_make := qX4_make_1 _ (List.mem_of_getElem? (i := 3) rfl)
theorem tX4_make_49 : (49, a_ic_ge 62 52) ∈ kX4_make := qX4_make_1 _ (List.mem_of_getElem? (i := 4) rfl)
theorem tX4_make_52 : (52, a_aload 0 53) ∈ kX4_make := qX4_make_1 _ (List.mem_of_getElem? (i := 5) rfl)
theorem tX4_make_53 : (53, a_getR 4 0 56) ∈ kX4_make := qX4_make_1 _ (List.mem_of_getElem? (i := 6) rfl)
theorem tX4_make_56 : (56, a_iload 4 58) ∈ kX4_make := qX4_make_1 _ (List.mem_of_getElem? (i := 7) rfl)
theorem tX4_make_58 : (58, a_lald 59) ∈ kX4_make := qX4_make_1 _ (List.mem_of_getElem? (i := 8) rfl)
theorem tX4_make_59 : (59, a_goto 92) ∈ kX4_make := qX4_make_1 _ (List.mem_of_getElem? (i := 9) rfl)
theorem tX4_make_62 : (62, a_iload 4 64) ∈ kX4_make := qX4_make_1 _ (List.mem_of_getElem? (i := 10) rfl)
theorem tX4_make_64 : (64, a_aload 0 65) ∈ kX4_make := qX4_make_1 _ (List.mem_of_getElem? (i := 11) rfl)
theorem tX4_make_65 : (65, a_getR 4 4 68) ∈ kX4_make := qX4_make_1 _ (List.mem_of_getElem? (i := 12) rfl)
theorem tX4_make_68 : (68, a_iload 5 70) ∈ kX4_make := qX4_make_1 _ (List.mem_of_getElem? (i := 13) rfl)
theorem tX4_make_70 : (70, a_lald 71) ∈ kX4_make := qX4_make_1 _ (List.mem_of_getElem? (i := 14) rfl)
theorem tX4_make_71 : (71, a_aload 0 72) ∈ kX4_make := qX4_make_1 _ (List.mem_of_getElem? (i := 15) rfl)
theorem tX4_make_72 : (72, a_getR 4 4 75) ∈ kX4_make := qX4_make_1 _ (List.mem_of_getElem? (i := 16) rfl)
theorem tX4_make_75 : (75, a_iload 5 77) ∈ kX4_make := qX4_make_1 _ (List.mem_of_getElem? (i := 17) rfl)
theorem tX4_make_77 : (77, a_i 1 78) ∈ kX4_make := qX4_make_1 _ (List.mem_of_getElem? (i := 18) rfl)
theorem tX4_make_78 : (78, a_ii (fun x y => x + y) 79) ∈ kX4_make := qX4_make_1 _ (List.mem_of_getElem? (i := 19) rfl)
theorem tX4_make_79 : (79, a_lald 80) ∈ kX4_make := qX4_make_1 _ (List.mem_of_getElem? (i := 20) rfl)
theorem tX4_make_80 : (80, a_aload 0 81) ∈ kX4_make := qX4_make_1 _ (List.mem_of_getElem? (i := 21) rfl)
theorem tX4_make_81 : (81, a_getR 4 4 84) ∈ kX4_make := qX4_make_1 _ (List.mem_of_getElem? (i := 22) rfl)
theorem tX4_make_84 : (84, a_iload 5 86) ∈ kX4_make := qX4_make_1 _ (List.mem_of_getElem? (i := 23) rfl)
theorem qX4_make_2 : ∀ q ∈ kX4_make_2, q ∈ kX4_make := fun _ h => (List.mem_append_right _ (List.mem_append_right _ h))
theorem tX4_make_86 : (86, a_i 2 87) ∈ kX4_make := qX4_make_2 _ (List.mem_of_getElem? (i := 0) rfl)
theorem tX4_make_87 : (87, a_ii (fun x y => x + y) 88) ∈ kX4_make := qX4_make_2 _ (List.mem_of_getElem? (i := 1) rfl)
theorem tX4_make_88 : (88, a_lald 89) ∈ kX4_make := qX4_make_2 _ (List.mem_of_getElem? (i := 2) rfl)
theorem tX4_make_89 : (89, a_call 38 4 92 0 0) ∈ kX4_make := qX4_make_2 _ (List.mem_of_getElem? (i := 3) rfl)
theorem tX4_make_92 : (92, a_last 93) ∈ kX4_make := qX4_make_2 _ (List.mem_of_getElem? (i := 4) rfl)
theorem tX4_make_93 : (93, a_iinc 3 1 96) ∈ kX4_make := qX4_make_2 _ (List.mem_of_getElem? (i := 5) rfl)
theorem tX4_make_96 : (96, a_goto 7) ∈ kX4_make := qX4_make_2 _ (List.mem_of_getElem? (i := 6) rfl)
theorem tX4_make_99 : (99, a_aload 0 100) ∈ kX4_make := qX4_make_2 _ (List.mem_of_getElem? (i := 7) rfl)
theorem tX4_make_100 : (100, a_getR 4 4 103) ∈ kX4_make := qX4_make_2 _ (List.mem_of_getElem? (i := 8) rfl)
theorem tX4_make_103 : (103, a_i 0 104) ∈ kX4_make := qX4_make_2 _ (List.mem_of_getElem? (i := 9) rfl)
theorem tX4_make_104 : (104, a_lald 105) ∈ kX4_make := qX4_make_2 _ (List.mem_of_getElem? (i := 10) rfl)
theorem tX4_make_105 : (105, a_lret) ∈ kX4_make := qX4_make_2 _ (List.mem_of_getElem? (i := 11) rfl)
theorem oX4_make : ∀ q ∈ kX4_make, zSnd zty false RX4 cX4_make 6 (some .long) false q := List.forall_mem_append.mpr ⟨oX4_make_0, List.forall_mem_append.mpr ⟨oX4_make_1, oX4_make_2⟩⟩
theorem dX4_gateOf_0 : decode cX4_gateOf 0 = .ok (.iload_n 0, 1) := by decide +kernel
theorem dX4_gateOf_1 : decode cX4_gateOf 1 = .ok (.tableswitch 74 20 25 #[39, 43, 49, 53, 57, 61], 39) := by decide +kernel
theorem dX4_gateOf_40 : decode cX4_gateOf 40 = .ok (.ldc2_w 37, 3) := by decide +kernel
theorem dX4_gateOf_43 : decode cX4_gateOf 43 = .ok (.lreturn, 1) := by decide +kernel
theorem dX4_gateOf_44 : decode cX4_gateOf 44 = .ok (.lload_n 1, 1) := by decide +kernel
theorem dX4_gateOf_45 : decode cX4_gateOf 45 = .ok (.ldc2_w 37, 3) := by decide +kernel
theorem dX4_gateOf_48 : decode cX4_gateOf 48 = .ok (.lxor, 1) := by decide +kernel
theorem dX4_gateOf_49 : decode cX4_gateOf 49 = .ok (.lreturn, 1) := by decide +kernel
theorem dX4_gateOf_50 : decode cX4_gateOf 50 = .ok (.lload_n 1, 1) := by decide +kernel
theorem dX4_gateOf_51 : decode cX4_gateOf 51 = .ok (.lload_n 3, 1) := by decide +kernel
theorem dX4_gateOf_52 : decode cX4_gateOf 52 = .ok (.land, 1) := by decide +kernel
theorem dX4_gateOf_53 : decode cX4_gateOf 53 = .ok (.lreturn, 1) := by decide +kernel
theorem dX4_gateOf_54 : decode cX4_gateOf 54 = .ok (.lload_n 1, 1) := by decide +kernel
theorem dX4_gateOf_55 : decode cX4_gateOf 55 = .ok (.lload_n 3, 1) := by decide +kernel
theorem dX4_gateOf_56 : decode cX4_gateOf 56 = .ok (.lor, 1) := by decide +kernel
theorem dX4_gateOf_57 : decode cX4_gateOf 57 = .ok (.lreturn, 1) := by decide +kernel
theorem dX4_gateOf_58 : decode cX4_gateOf 58 = .ok (.lload_n 1, 1) := by decide +kernel
theorem dX4_gateOf_59 : decode cX4_gateOf 59 = .ok (.lload_n 3, 1) := by decide +kernel
theorem dX4_gateOf_60 : decode cX4_gateOf 60 = .ok (.lxor, 1) := by decide +kernel
theorem dX4_gateOf_61 : decode cX4_gateOf 61 = .ok (.lreturn, 1) := by decide +kernel
theorem dX4_gateOf_62 : decode cX4_gateOf 62 = .ok (.lload_n 1, 1) := by decide +kernel
theorem dX4_gateOf_63 : decode cX4_gateOf 63 = .ok (.lload_n 3, 1) := by decide +kernel
theorem dX4_gateOf_64 : decode cX4_gateOf 64 = .ok (.land, 1) := by decide +kernel
theorem dX4_gateOf_65 : decode cX4_gateOf 65 = .ok (.lload_n 1, 1) := by decide +kernel
theorem dX4_gateOf_66 : decode cX4_gateOf 66 = .ok (.ldc2_w 37, 3) := by decide +kernel
theorem dX4_gateOf_69 : decode cX4_gateOf 69 = .ok (.lxor, 1) := by decide +kernel
theorem dX4_gateOf_70 : decode cX4_gateOf 70 = .ok (.lload 5, 2) := by decide +kernel
theorem dX4_gateOf_72 : decode cX4_gateOf 72 = .ok (.land, 1) := by decide +kernel
theorem dX4_gateOf_73 : decode cX4_gateOf 73 = .ok (.lor, 1) := by decide +kernel
theorem dX4_gateOf_74 : decode cX4_gateOf 74 = .ok (.lreturn, 1) := by decide +kernel
theorem dX4_gateOf_75 : decode cX4_gateOf 75 = .ok (.lconst 0, 1) := by decide +kernel
theorem dX4_gateOf_76 : decode cX4_gateOf 76 = .ok (.lreturn, 1) := by decide +kernel
def kX4_gateOf_0 : List (Nat × zT) := [(0, a_iload 0 1), (1, a_sw [(20, 40), (21, 44), (22, 50), (23, 54), (24, 58), (25, 62)] 75), (40, a_l (-1) 43), (43, a_lret), (44, a_lload 1 45), (45, a_l (-1) 48), (48, a_ll (fun x y => x ^^^ y) 49), (49, a_lret), (50, a_lload 1 51), (51, a_lload 3 52), (52, a_ll (fun x y => x &&& y) 53), (53, a_lret), (54, a_lload 1 55), (55, a_lload 3 56), (56, a_ll (fun x y => x ||| y) 57), (57, a_lret), (58, a_lload 1 59), (59, a_lload 3 60), (60, a_ll (fun x y => x ^^^ y) 61), (61, a_lret), (62, a_lload 1 63), (63, a_lload 3 64), (64, a_ll (fun x y => x &&& y) 65), (65, a_lload 1 66)]
theorem oX4_gateOf_0 : ∀ q ∈ kX4_gateOf_0, zSnd zty false RX4 cX4_gateOf 7 (some .long) false q := List.forall_mem_cons.mpr ⟨ok_iload_n dX4_gateOf_0 rfl, List.forall_mem_cons.mpr ⟨ok_tsw dX4_gateOf_1 (by decide) (by decide) (by decide) (by decide), List.forall_mem_cons.mpr ⟨ok_ldc2 dX4_gateOf_40 w580, List.forall_mem_cons.mpr ⟨ok_lret dX4_gateOf_43 rfl, List.forall_mem_cons.mpr ⟨ok_lload_n dX4_gateOf_44 rfl, List.forall_mem_cons.mpr ⟨ok_ldc2 dX4_gateOf_45 w580, List.forall_mem_cons.mpr ⟨ok_lxor dX4_gateOf_48, List.forall_mem_cons.mpr ⟨ok_lret dX4_gateOf_49 rfl, List.forall_mem_cons.mpr ⟨ok_lload_n dX4_gateOf_50 rfl, List.forall_mem_cons.mpr ⟨ok_lload_n dX4_gateOf_51 rfl, List.forall_mem_cons.mpr ⟨ok_land dX4_gateOf_52, List.forall_mem_cons.mpr ⟨ok_lret dX4_gateOf_53 rfl, List.forall_mem_cons.mpr ⟨ok_lload_n dX4_gateOf_54 rfl, List.forall_mem_cons.mpr ⟨ok_lload_n dX4_gateOf_55 rfl, List.forall_mem_cons.mpr ⟨ok_lor dX4_gateOf_56, List.forall_mem_cons.mpr ⟨ok_lret dX4_gateOf_57 rfl, List.forall_mem_cons.mpr ⟨ok_lload_n dX4_gateOf_58 rfl, List.forall_mem_cons.mpr ⟨ok_lload_n dX4_gateOf_59 rfl, List.forall_mem_cons.mpr ⟨ok_lxor dX4_gateOf_60, List.forall_mem_cons.mpr ⟨ok_lret dX4_gateOf_61 rfl, List.forall_mem_cons.mpr ⟨ok_lload_n dX4_gateOf_62 rfl, List.forall_mem_cons.mpr ⟨ok_lload_n dX4_gateOf_63 rfl, List.forall_mem_cons.mpr ⟨ok_land dX4_gateOf_64, List.forall_mem_cons.mpr ⟨ok_lload_n dX4_gateOf_65 rfl, fun _ h => absurd h List.not_mem_nil⟩⟩⟩⟩⟩⟩⟩⟩⟩⟩⟩⟩⟩⟩⟩⟩⟩⟩⟩⟩⟩⟩⟩⟩
def kX4_gateOf_1 : List (Nat × zT) := [(66, a_l (-1) 69), (69, a_ll (fun x y => x ^^^ y) 70), (70, a_lload 5 72), (72, a_ll (fun x y => x &&& y) 73), (73, a_ll (fun x y => x ||| y) 74), (74, a_lret), (75, a_l 0 76), (76, a_lret)]
theorem oX4_gateOf_1 : ∀ q ∈ kX4_gateOf_1, zSnd zty false RX4 cX4_gateOf 7 (some .long) false q := List.forall_mem_cons.mpr ⟨ok_ldc2 dX4_gateOf_66 w580, List.forall_mem_cons.mpr ⟨ok_lxor dX4_gateOf_69, List.forall_mem_cons.mpr ⟨ok_lload dX4_gateOf_70, List.forall_mem_cons.mpr ⟨ok_land dX4_gateOf_72, List.forall_mem_cons.mpr ⟨ok_lor dX4_gateOf_73, List.forall_mem_cons.mpr ⟨ok_lret dX4_gateOf_74 rfl, List.forall_mem_cons.mpr ⟨ok_lconst dX4_gateOf_75 (by decide), List.forall_mem_cons.mpr ⟨ok_lret dX4_gateOf_76 rfl, fun _ h => absurd h List.not_mem_nil⟩⟩⟩⟩⟩⟩⟩⟩
def kX4_gateOf : List (Nat × zT) := kX4_gateOf_0 ++ (kX4_gateOf_1)
theorem qX4_gateOf_0 : ∀ q ∈ kX4_gateOf_0, q ∈ kX4_gateOf := fun _ h => (List.mem_append_left _ h)
theorem tX4_gateOf_0 : (0, a_iload 0 1) ∈ kX4_gateOf := qX4_gateOf_0 _ (List.mem_of_getElem? (i := 0) rfl)
theorem tX4_gateOf_1 : (1, a_sw [(20, 40), (21, 44), (22, 50), (23, 54), (24, 58), (25, 62)] 75) ∈ kX4_gateOf := qX4_gateOf_0 _ (List.mem_of_getElem? (i := 1) rfl)
theorem tX4_gateOf_40 : (40, a_l (-1) 43) ∈ kX4_gateOf := qX4_gateOf_0 _ (List.mem_of_getElem? (i := 2) rfl)
theorem tX4_gateOf_43 : (43, a_lret) ∈ kX4_gateOf := qX4_gateOf_0 _ (List.mem_of_getElem? (i := 3) rfl)
theorem tX4_gateOf_44 : (44, a_lload 1 45) ∈ kX4_gateOf := qX4_gateOf_0 _ (List.mem_of_getElem? (i := 4) rfl)
theorem tX4_gateOf_45 : (45, a_l (-1) 48) ∈ kX4_gateOf := qX4_gateOf_0 _ (List.mem_of_getElem? (i := 5) rfl)
theorem tX4_gateOf_48 : (48, a_ll (fun x y => x ^^^ y) 49) ∈ kX4_gateOf := qX4_gateOf_0 _ (List.mem_of_getElem? (i := 6) rfl)
theorem tX4_gateOf_49 : (49, a_lret) ∈ kX4_gateOf := qX4_gateOf_0 _ (List.mem_of_getElem? (i := 7) rfl)
theorem tX4_gateOf_50 : (50, a_lload 1 51) ∈ kX4_gateOf := qX4_gateOf_0 _ (List.mem_of_getElem? (i := 8) rfl)
theorem tX4_gateOf_51 : (51, a_lload 3 52) ∈ kX4_gateOf := qX4_gateOf_0 _ (List.mem_of_getElem? (i := 9) rfl)
theorem tX4_gateOf_52 : (52, a_ll (fun x y => x &&& y) 53) ∈ kX4_gateOf := qX4_gateOf_0 _ (List.mem_of_getElem? (i := 10) rfl)
theorem tX4_gateOf_53 : (53, a_lret) ∈ kX4_gateOf := qX4_gateOf_0 _ (List.mem_of_getElem? (i := 11) rfl)
theorem tX4_gateOf_54 : (54, a_lload 1 55) ∈ kX4_gateOf := qX4_gateOf_0 _ (List.mem_of_getElem? (i := 12) rfl)
theorem tX4_gateOf_55 : (55, a_lload 3 56) ∈ kX4_gateOf := qX4_gateOf_0 _ (List.mem_of_getElem? (i := 13) rfl)
theorem tX4_gateOf_56 : (56, a_ll (fun x y => x ||| y) 57) ∈ kX4_gateOf := qX4_gateOf_0 _ (List.mem_of_getElem? (i := 14) rfl)
theorem tX4_gateOf_57 : (57, a_lret) ∈ kX4_gateOf := qX4_gateOf_0 _ (List.mem_of_getElem? (i := 15) rfl)
theorem tX4_gateOf_58 : (58, a_lload 1 59) ∈ kX4_gateOf := qX4_gateOf_0 _ (List.mem_of_getElem? (i := 16) rfl)
theorem tX4_gateOf_59 : (59, a_lload 3 60) ∈ kX4_gateOf := qX4_gateOf_0 _ (List.mem_of_getElem? (i := 17) rfl)
theorem tX4_gateOf_60 : (60, a_ll (fun x y => x ^^^ y) 61) ∈ kX4_gateOf := qX4_gateOf_0 _ (List.mem_of_getElem? (i := 18) rfl)
theorem tX4_gateOf_61 : (61, a_lret) ∈ kX4_gateOf := qX4_gateOf_0 _ (List.mem_of_getElem? (i := 19) rfl)
theorem tX4_gateOf_62 : (62, a_lload 1 63) ∈ kX4_gateOf := qX4_gateOf_0 _ (List.mem_of_getElem? (i := 20) rfl)
theorem tX4_gateOf_63 : (63, a_lload 3 64) ∈ kX4_gateOf := qX4_gateOf_0 _ (List.mem_of_getElem? (i := 21) rfl)
theorem tX4_gateOf_64 : (64, a_ll (fun x y => x &&& y) 65) ∈ kX4_gateOf := qX4_gateOf_0 _ (List.mem_of_getElem? (i := 22) rfl)
theorem tX4_gateOf_65 : (65, a_lload 1 66) ∈ kX4_gateOf := qX4_gateOf_0 _ (List.mem_of_getElem? (i := 23) rfl)
theorem qX4_gateOf_1 : ∀ q ∈ kX4_gateOf_1, q ∈ kX4_gateOf := fun _ h => (List.mem_append_right _ h)
theorem tX4_gateOf_66 : (66, a_l (-1) 69) ∈ kX4_gateOf := qX4_gateOf_1 _ (List.mem_of_getElem? (i := 0) rfl)
theorem tX4_gateOf_69 : (69, a_ll (fun x y => x ^^^ y) 70) ∈ kX4_gateOf := qX4_gateOf_1 _ (List.mem_of_getElem? (i := 1) rfl)
theorem tX4_gateOf_70 : (70, a_lload 5 72) ∈ kX4_gateOf := qX4_gateOf_1 _ (List.mem_of_getElem? (i := 2) rfl)
theorem tX4_gateOf_72 : (72, a_ll (fun x y => x &&& y) 73) ∈ kX4_gateOf := qX4_gateOf_1 _ (List.mem_of_getElem? (i := 3) rfl)
theorem tX4_gateOf_73 : (73, a_ll (fun x y => x ||| y) 74) ∈ kX4_gateOf := qX4_gateOf_1 _ (List.mem_of_getElem? (i := 4) rfl)
theorem tX4_gateOf_74 : (74, a_lret) ∈ kX4_gateOf := qX4_gateOf_1 _ (List.mem_of_getElem? (i := 5) rfl)
theorem tX4_gateOf_75 : (75, a_l 0 76) ∈ kX4_gateOf := qX4_gateOf_1 _ (List.mem_of_getElem? (i := 6) rfl)
theorem tX4_gateOf_76 : (76, a_lret) ∈ kX4_gateOf := qX4_gateOf_1 _ (List.mem_of_getElem? (i := 7) rfl)
theorem oX4_gateOf : ∀ q ∈ kX4_gateOf, zSnd zty false RX4 cX4_gateOf 7 (some .long) false q := List.forall_mem_append.mpr ⟨oX4_gateOf_0, oX4_gateOf_1⟩
theorem dX4_unlike_0 : decode cX4_unlike 0 = .ok (.lconst 0, 1) := by decide +kernel
theorem dX4_unlike_1 : decode cX4_unlike 1 = .ok (.lstore_n 3, 1) := by decide +kernel
theorem dX4_unlike_2 : decode cX4_unlike 2 = .ok (.iconst 0, 1) := by decide +kernel
theorem dX4_unlike_3 : decode cX4_unlike 3 = .ok (.istore 5, 2) := by decide +kernel
theorem dX4_unlike_5 : decode cX4_unlike 5 = .ok (.iload 5, 2) := by decide +kernel
theorem dX4_unlike_7 : decode cX4_unlike 7 = .ok (.bipush 19, 2) := by decide +kernel
theorem dX4_unlike_9 : decode cX4_unlike 9 = .ok (.if_icmp .ge 36, 3) := by decide +kernel
theorem dX4_unlike_12 : decode cX4_unlike 12 = .ok (.iload_n 2, 1) := by decide +kernel
theorem dX4_unlike_13 : decode cX4_unlike 13 = .ok (.iload 5, 2) := by decide +kernel
theorem dX4_unlike_15 : decode cX4_unlike 15 = .ok (.invokestatic 94, 3) := by decide +kernel
theorem dX4_unlike_18 : decode cX4_unlike 18 = .ok (.ifCond .eq 21, 3) := by decide +kernel
theorem dX4_unlike_21 : decode cX4_unlike 21 = .ok (.lload_n 3, 1) := by decide +kernel
theorem dX4_unlike_22 : decode cX4_unlike 22 = .ok (.aload_n 0, 1) := by decide +kernel
theorem dX4_unlike_23 : decode cX4_unlike 23 = .ok (.getfield 15, 3) := by decide +kernel
theorem dX4_unlike_26 : decode cX4_unlike 26 = .ok (.iload 5, 2) := by decide +kernel
theorem dX4_unlike_28 : decode cX4_unlike 28 = .ok (.laload, 1) := by decide +kernel
theorem dX4_unlike_29 : decode cX4_unlike 29 = .ok (.aload_n 1, 1) := by decide +kernel
theorem dX4_unlike_30 : decode cX4_unlike 30 = .ok (.getfield 15, 3) := by decide +kernel
theorem dX4_unlike_33 : decode cX4_unlike 33 = .ok (.iload 5, 2) := by decide +kernel
theorem dX4_unlike_35 : decode cX4_unlike 35 = .ok (.laload, 1) := by decide +kernel
theorem dX4_unlike_36 : decode cX4_unlike 36 = .ok (.lxor, 1) := by decide +kernel
theorem dX4_unlike_37 : decode cX4_unlike 37 = .ok (.lor, 1) := by decide +kernel
theorem dX4_unlike_38 : decode cX4_unlike 38 = .ok (.lstore_n 3, 1) := by decide +kernel
theorem dX4_unlike_39 : decode cX4_unlike 39 = .ok (.iinc 5 1, 3) := by decide +kernel
theorem dX4_unlike_42 : decode cX4_unlike 42 = .ok (.goto (-37), 3) := by decide +kernel
theorem dX4_unlike_45 : decode cX4_unlike 45 = .ok (.lload_n 3, 1) := by decide +kernel
theorem dX4_unlike_46 : decode cX4_unlike 46 = .ok (.lreturn, 1) := by decide +kernel
def kX4_unlike_0 : List (Nat × zT) := [(0, a_l 0 1), (1, a_lstore 3 2), (2, a_i 0 3), (3, a_istore 5 5), (5, a_iload 5 7), (7, a_i 19 9), (9, a_ic_ge 45 12), (12, a_iload 2 13), (13, a_iload 5 15), (15, a_call 132 2 18 0 0), (18, a_if_eq 39 21), (21, a_lload 3 22), (22, a_aload 0 23), (23, a_getR 4 1 26), (26, a_iload 5 28), (28, a_lald 29), (29, a_aload 1 30), (30, a_getR 4 1 33), (33, a_iload 5 35), (35, a_lald 36), (36, a_ll (fun x y => x ^^^ y) 37), (37, a_ll (fun x y => x ||| y) 38), (38, a_lstore 3 39), (39, a_iinc 5 1 42)]
theorem oX4_unlike_0 : ∀ q ∈ kX4_unlike_0, zSnd zty false RX4 cX4_unlike 6 (some .long) false q := List.forall_mem_cons.mpr ⟨ok_lconst dX4_unlike_0 (by decide), List.forall_mem_cons.mpr ⟨ok_lstore_n dX4_unlike_1 rfl (by decide), List.forall_mem_cons.mpr ⟨ok_iconst dX4_unlike_2 (by decide), List.forall_mem_cons.mpr ⟨ok_istore dX4_unlike_3 (by decide), List.forall_mem_cons.mpr ⟨ok_iload dX4_unlike_5, List.forall_mem_cons.mpr ⟨ok_bipush dX4_unlike_7 (by decide), List.forall_mem_cons.mpr ⟨ok_ic_ge dX4_unlike_9 (by decide), List.forall_mem_cons.mpr ⟨ok_iload_n dX4_unlike_12 rfl, List.forall_mem_cons.mpr ⟨ok_iload dX4_unlike_13, List.forall_mem_cons.mpr ⟨ok_callSN dX4_unlike_15 rfl w433 n618 w432 w1 (by decide +kernel) (by decide), List.forall_mem_cons.mpr ⟨ok_if_eq dX4_unlike_18 (by decide), List.forall_mem_cons.mpr ⟨ok_lload_n dX4_unlike_21 rfl, List.forall_mem_cons.mpr ⟨ok_aload_n dX4_unlike_22 rfl, List.forall_mem_cons.mpr ⟨ok_getR dX4_unlike_23 rfl in4 (by decide) rfl w165, List.forall_mem_cons.mpr ⟨ok_iload dX4_unlike_26, List.forall_mem_cons.mpr ⟨ok_lald dX4_unlike_28, List.forall_mem_cons.mpr ⟨ok_aload_n dX4_unlike_29 rfl, List.forall_mem_cons.mpr ⟨ok_getR dX4_unlike_30 rfl in4 (by decide) rfl w165, List.forall_mem_cons.mpr ⟨ok_iload dX4_unlike_33, List.forall_mem_cons.mpr ⟨ok_lald dX4_unlike_35, List.forall_mem_cons.mpr ⟨ok_lxor dX4_unlike_36, List.forall_mem_cons.mpr ⟨ok_lor dX4_unlike_37, List.forall_mem_cons.mpr ⟨ok_lstore_n dX4_unlike_38 rfl (by decide), List.forall_mem_cons.mpr ⟨ok_iinc dX4_unlike_39 (by decide) (by decide), fun _ h => absurd h List.not_mem_nil⟩⟩⟩⟩⟩⟩⟩⟩⟩⟩⟩⟩⟩⟩⟩⟩⟩⟩⟩⟩⟩⟩⟩⟩
def kX4_unlike_1 : List (Nat × zT) := [(42, a_goto 5), (45, a_lload 3 46), (46, a_lret)]
theorem oX4_unlike_1 : ∀ q ∈ kX4_unlike_1, zSnd zty false RX4 cX4_unlike 6 (some .long) false q := List.forall_mem_cons.mpr ⟨ok_goto dX4_unlike_42 (by decide), List.forall_mem_cons.mpr ⟨ok_lload_n dX4_unlike_45 rfl, List.forall_mem_cons.mpr ⟨ok_lret dX4_unlike_46 rfl, fun _ h => absurd h List.not_mem_nil⟩⟩⟩
def kX4_unlike : List (Nat × zT) := kX4_unlike_0 ++ (kX4_unlike_1)
theorem qX4_unlike_0 : ∀ q ∈ kX4_unlike_0, q ∈ kX4_unlike := fun _ h => (List.mem_append_left _ h)
theorem tX4_unlike_0 : (0, a_l 0 1) ∈ kX4_unlike := qX4_unlike_0 _ (List.mem_of_getElem? (i := 0) rfl)
theorem tX4_unlike_1 : (1, a_lstore 3 2) ∈ kX4_unlike := qX4_unlike_0 _ (List.mem_of_getElem? (i := 1) rfl)
theorem tX4_unlike_2 : (2, a_i 0 3) ∈ kX4_unlike := qX4_unlike_0 _ (List.mem_of_getElem? (i := 2) rfl)
theorem tX4_unlike_3 : (3, a_istore 5 5) ∈ kX4_unlike := qX4_unlike_0 _ (List.mem_of_getElem? (i := 3) rfl)
theorem tX4_unlike_5 : (5, a_iload 5 7) ∈ kX4_unlike := qX4_unlike_0 _ (List.mem_of_getElem? (i := 4) rfl)
theorem tX4_unlike_7 : (7, a_i 19 9) ∈ kX4_unlike := qX4_unlike_0 _ (List.mem_of_getElem? (i := 5) rfl)
theorem tX4_unlike_9 : (9, a_ic_ge 45 12) ∈ kX4_unlike := qX4_unlike_0 _ (List.mem_of_getElem? (i := 6) rfl)
theorem tX4_unlike_12 : (12, a_iload 2 13) ∈ kX4_unlike := qX4_unlike_0 _ (List.mem_of_getElem? (i := 7) rfl)
theorem tX4_unlike_13 : (13, a_iload 5 15) ∈ kX4_unlike := qX4_unlike_0 _ (List.mem_of_getElem? (i := 8) rfl)
theorem tX4_unlike_15 : (15, a_call 132 2 18 0 0) ∈ kX4_unlike := qX4_unlike_0 _ (List.mem_of_getElem? (i := 9) rfl)
theorem tX4_unlike_18 : (18, a_if_eq 39 21) ∈ kX4_unlike := qX4_unlike_0 _ (List.mem_of_getElem? (i := 10) rfl)
theorem tX4_unlike_21 : (21, a_lload 3 22) ∈ kX4_unlike := qX4_unlike_0 _ (List.mem_of_getElem? (i := 11) rfl)
theorem tX4_unlike_22 : (22, a_aload 0 23) ∈ kX4_unlike := qX4_unlike_0 _ (List.mem_of_getElem? (i := 12) rfl)
theorem tX4_unlike_23 : (23, a_getR 4 1 26) ∈ kX4_unlike := qX4_unlike_0 _ (List.mem_of_getElem? (i := 13) rfl)
theorem tX4_unlike_26 : (26, a_iload 5 28) ∈ kX4_unlike := qX4_unlike_0 _ (List.mem_of_getElem? (i := 14) rfl)
theorem tX4_unlike_28 : (28, a_lald 29) ∈ kX4_unlike := qX4_unlike_0 _ (List.mem_of_getElem? (i := 15) rfl)
theorem tX4_unlike_29 : (29, a_aload 1 30) ∈ kX4_unlike := qX4_unlike_0 _ (List.mem_of_getElem? (i := 16) rfl)
theorem tX4_unlike_30 : (30, a_getR 4 1 33) ∈ kX4_unlike := qX4_unlike_0 _ (List.mem_of_getElem? (i := 17) rfl)
theorem tX4_unlike_33 : (33, a_iload 5 35) ∈ kX4_unlike := qX4_unlike_0 _ (List.mem_of_getElem? (i := 18) rfl)
theorem tX4_unlike_35 : (35, a_lald 36) ∈ kX4_unlike := qX4_unlike_0 _ (List.mem_of_getElem? (i := 19) rfl)
theorem tX4_unlike_36 : (36, a_ll (fun x y => x ^^^ y) 37) ∈ kX4_unlike := qX4_unlike_0 _ (List.mem_of_getElem? (i := 20) rfl)
theorem tX4_unlike_37 : (37, a_ll (fun x y => x ||| y) 38) ∈ kX4_unlike := qX4_unlike_0 _ (List.mem_of_getElem? (i := 21) rfl)
theorem tX4_unlike_38 : (38, a_lstore 3 39) ∈ kX4_unlike := qX4_unlike_0 _ (List.mem_of_getElem? (i := 22) rfl)
theorem tX4_unlike_39 : (39, a_iinc 5 1 42) ∈ kX4_unlike := qX4_unlike_0 _ (List.mem_of_getElem? (i := 23) rfl)
theorem qX4_unlike_1 : ∀ q ∈ kX4_unlike_1, q ∈ kX4_unlike := fun _ h => (List.mem_append_right _ h)
theorem tX4_unlike_42 : (42, a_goto 5) ∈ kX4_unlike := qX4_unlike_1 _ (List.mem_of_getElem? (i := 0) rfl)
theorem tX4_unlike_45 : (45, a_lload 3 46) ∈ kX4_unlike := qX4_unlike_1 _ (List.mem_of_getElem? (i := 1) rfl)
theorem tX4_unlike_46 : (46, a_lret) ∈ kX4_unlike := qX4_unlike_1 _ (List.mem_of_getElem? (i := 2) rfl)
theorem oX4_unlike : ∀ q ∈ kX4_unlike, zSnd zty false RX4 cX4_unlike 6 (some .long) false q := List.forall_mem_append.mpr ⟨oX4_unlike_0, oX4_unlike_1⟩
theorem dX4_statesFrom_0 : decode cX4_statesFrom 0 = .ok (.iconst 1, 1) := by decide +kernel
theorem dX4_statesFrom_1 : decode cX4_statesFrom 1 = .ok (.iload_n 2, 1) := by decide +kernel
theorem dX4_statesFrom_2 : decode cX4_statesFrom 2 = .ok (.ishl, 1) := by decide +kernel
theorem dX4_statesFrom_3 : decode cX4_statesFrom 3 = .ok (.istore_n 3, 1) := by decide +kernel
theorem dX4_statesFrom_4 : decode cX4_statesFrom 4 = .ok (.iconst 0, 1) := by decide +kernel
theorem dX4_statesFrom_5 : decode cX4_statesFrom 5 = .ok (.istore 4, 2) := by decide +kernel
theorem dX4_statesFrom_7 : decode cX4_statesFrom 7 = .ok (.iconst 0, 1) := by decide +kernel
theorem dX4_statesFrom_8 : decode cX4_statesFrom 8 = .ok (.istore 5, 2) := by decide +kernel
theorem dX4_statesFrom_10 : decode cX4_statesFrom 10 = .ok (.iload 5, 2) := by decide +kernel
theorem dX4_statesFrom_12 : decode cX4_statesFrom 12 = .ok (.bipush 16, 2) := by decide +kernel
theorem dX4_statesFrom_14 : decode cX4_statesFrom 14 = .ok (.if_icmp .ge 66, 3) := by decide +kernel
theorem dX4_statesFrom_17 : decode cX4_statesFrom 17 = .ok (.iload 4, 2) := by decide +kernel
theorem dX4_statesFrom_19 : decode cX4_statesFrom 19 = .ok (.iload_n 3, 1) := by decide +kernel
theorem dX4_statesFrom_20 : decode cX4_statesFrom 20 = .ok (.if_icmp .eq 60, 3) := by decide +kernel
theorem dX4_statesFrom_23 : decode cX4_statesFrom 23 = .ok (.iload_n 3, 1) := by decide +kernel
theorem dX4_statesFrom_24 : decode cX4_statesFrom 24 = .ok (.iload 4, 2) := by decide +kernel
theorem dX4_statesFrom_26 : decode cX4_statesFrom 26 = .ok (.iconst (-1), 1) := by decide +kernel
theorem dX4_statesFrom_27 : decode cX4_statesFrom 27 = .ok (.ixor, 1) := by decide +kernel
theorem dX4_statesFrom_28 : decode cX4_statesFrom 28 = .ok (.iand, 1) := by decide +kernel
theorem dX4_statesFrom_29 : decode cX4_statesFrom 29 = .ok (.istore 6, 2) := by decide +kernel
theorem dX4_statesFrom_31 : decode cX4_statesFrom 31 = .ok (.iload_n 3, 1) := by decide +kernel
theorem dX4_statesFrom_32 : decode cX4_statesFrom 32 = .ok (.istore 4, 2) := by decide +kernel
theorem dX4_statesFrom_34 : decode cX4_statesFrom 34 = .ok (.iconst 0, 1) := by decide +kernel
theorem dX4_statesFrom_35 : decode cX4_statesFrom 35 = .ok (.istore 7, 2) := by decide +kernel
theorem dX4_statesFrom_37 : decode cX4_statesFrom 37 = .ok (.iload 7, 2) := by decide +kernel
theorem dX4_statesFrom_39 : decode cX4_statesFrom 39 = .ok (.bipush 16, 2) := by decide +kernel
theorem dX4_statesFrom_41 : decode cX4_statesFrom 41 = .ok (.if_icmp .ge 33, 3) := by decide +kernel
theorem dX4_statesFrom_44 : decode cX4_statesFrom 44 = .ok (.iload 6, 2) := by decide +kernel
theorem dX4_statesFrom_46 : decode cX4_statesFrom 46 = .ok (.iload 7, 2) := by decide +kernel
theorem dX4_statesFrom_48 : decode cX4_statesFrom 48 = .ok (.invokestatic 94, 3) := by decide +kernel
theorem dX4_statesFrom_51 : decode cX4_statesFrom 51 = .ok (.ifCond .eq 17, 3) := by decide +kernel
theorem dX4_statesFrom_54 : decode cX4_statesFrom 54 = .ok (.aload_n 0, 1) := by decide +kernel
theorem dX4_statesFrom_55 : decode cX4_statesFrom 55 = .ok (.aload_n 1, 1) := by decide +kernel
theorem dX4_statesFrom_56 : decode cX4_statesFrom 56 = .ok (.iload 7, 2) := by decide +kernel
theorem dX4_statesFrom_58 : decode cX4_statesFrom 58 = .ok (.invokevirtual 97, 3) := by decide +kernel
theorem dX4_statesFrom_61 : decode cX4_statesFrom 61 = .ok (.iload_n 3, 1) := by decide +kernel
theorem dX4_statesFrom_62 : decode cX4_statesFrom 62 = .ok (.aload_n 0, 1) := by decide +kernel
theorem dX4_statesFrom_63 : decode cX4_statesFrom 63 = .ok (.invokevirtual 101, 3) := by decide +kernel
theorem dX4_statesFrom_66 : decode cX4_statesFrom 66 = .ok (.ior, 1) := by decide +kernel
theorem dX4_statesFrom_67 : decode cX4_statesFrom 67 = .ok (.istore_n 3, 1) := by decide +kernel
theorem dX4_statesFrom_68 : decode cX4_statesFrom 68 = .ok (.iinc 7 1, 3) := by decide +kernel
theorem dX4_statesFrom_71 : decode cX4_statesFrom 71 = .ok (.goto (-34), 3) := by decide +kernel
theorem dX4_statesFrom_74 : decode cX4_statesFrom 74 = .ok (.iinc 5 1, 3) := by decide +kernel
theorem dX4_statesFrom_77 : decode cX4_statesFrom 77 = .ok (.goto (-67), 3) := by decide +kernel
theorem dX4_statesFrom_80 : decode cX4_statesFrom 80 = .ok (.iload_n 3, 1) := by decide +kernel
theorem dX4_statesFrom_81 : decode cX4_statesFrom 81 = .ok (.ireturn, 1) := by decide +kernel
def kX4_statesFrom_0 : List (Nat × zT) := [(0, a_i 1 1), (1, a_iload 2 2), (2, a_ii (fun x y => x <<< (y &&& 31)) 3), (3, a_istore 3 4), (4, a_i 0 5), (5, a_istore 4 7), (7, a_i 0 8), (8, a_istore 5 10), (10, a_iload 5 12), (12, a_i 16 14), (14, a_ic_ge 80 17), (17, a_iload 4 19), (19, a_iload 3 20), (20, a_ic_eq 80 23), (23, a_iload 3 24), (24, a_iload 4 26), (26, a_i (-1) 27), (27, a_ii (fun x y => x ^^^ y) 28), (28, a_ii (fun x y => x &&& y) 29), (29, a_istore 6 31), (31, a_iload 3 32), (32, a_istore 4 34), (34, a_i 0 35), (35, a_istore 7 37)]
theorem oX4_statesFrom_0 : ∀ q ∈ kX4_statesFrom_0, zSnd zty false RX4 cX4_statesFrom 8 (some .int) false q := List.forall_mem_cons.mpr ⟨ok_iconst dX4_statesFrom_0 (by decide), List.forall_mem_cons.mpr ⟨ok_iload_n dX4_statesFrom_1 rfl, List.forall_mem_cons.mpr ⟨ok_ishl dX4_statesFrom_2, List.forall_mem_cons.mpr ⟨ok_istore_n dX4_statesFrom_3 rfl (by decide), List.forall_mem_cons.mpr ⟨ok_iconst dX4_statesFrom_4 (by decide), List.forall_mem_cons.mpr ⟨ok_istore dX4_statesFrom_5 (by decide), List.forall_mem_cons.mpr ⟨ok_iconst dX4_statesFrom_7 (by decide), List.forall_mem_cons.mpr ⟨ok_istore dX4_statesFrom_8 (by decide), List.forall_mem_cons.mpr ⟨ok_iload dX4_statesFrom_10, List.forall_mem_cons.mpr ⟨ok_bipush dX4_statesFrom_12 (by decide), List.forall_mem_cons.mpr ⟨ok_ic_ge dX4_statesFrom_14 (by decide), List.forall_mem_cons.mpr ⟨ok_iload dX4_statesFrom_17, List.forall_mem_cons.mpr ⟨ok_iload_n dX4_statesFrom_19 rfl, List.forall_mem_cons.mpr ⟨ok_ic_eq dX4_statesFrom_20 (by decide), List.forall_mem_cons.mpr ⟨ok_iload_n dX4_statesFrom_23 rfl, List.forall_mem_cons.mpr ⟨ok_iload dX4_statesFrom_24, List.forall_mem_cons.mpr ⟨ok_iconst dX4_statesFrom_26 (by decide), List.forall_mem_cons.mpr ⟨ok_ixor dX4_statesFrom_27, List.forall_mem_cons.mpr ⟨ok_iand dX4_statesFrom_28, List.forall_mem_cons.mpr ⟨ok_istore dX4_statesFrom_29 (by decide), List.forall_mem_cons.mpr ⟨ok_iload_n dX4_statesFrom_31 rfl, List.forall_mem_cons.mpr ⟨ok_istore dX4_statesFrom_32 (by decide), List.forall_mem_cons.mpr ⟨ok_iconst dX4_statesFrom_34 (by decide), List.forall_mem_cons.mpr ⟨ok_istore dX4_statesFrom_35 (by decide), fun _ h => absurd h List.not_mem_nil⟩⟩⟩⟩⟩⟩⟩⟩⟩⟩⟩⟩⟩⟩⟩⟩⟩⟩⟩⟩⟩⟩⟩⟩
def kX4_statesFrom_1 : List (Nat × zT) := [(37, a_iload 7 39), (39, a_i 16 41), (41, a_ic_ge 74 44), (44, a_iload 6 46), (46, a_iload 7 48), (48, a_call 132 2 51 0 0), (51, a_if_eq 68 54), (54, a_aload 0 55), (55, a_aload 1 56), (56, a_iload 7 58), (58, a_callV 4 32 3 61 0 0), (61, a_iload 3 62), (62, a_aload 0 63), (63, a_callV 4 41 1 66 0 0), (66, a_ii (fun x y => x ||| y) 67), (67, a_istore 3 68), (68, a_iinc 7 1 71), (71, a_goto 37), (74, a_iinc 5 1 77), (77, a_goto 10), (80, a_iload 3 81), (81, a_iret false)]
theorem oX4_statesFrom_1 : ∀ q ∈ kX4_statesFrom_1, zSnd zty false RX4 cX4_statesFrom 8 (some .int) false q := List.forall_mem_cons.mpr ⟨ok_iload dX4_statesFrom_37, List.forall_mem_cons.mpr ⟨ok_bipush dX4_statesFrom_39 (by decide), List.forall_mem_cons.mpr ⟨ok_ic_ge dX4_statesFrom_41 (by decide), List.forall_mem_cons.mpr ⟨ok_iload dX4_statesFrom_44, List.forall_mem_cons.mpr ⟨ok_iload dX4_statesFrom_46, List.forall_mem_cons.mpr ⟨ok_callSN dX4_statesFrom_48 rfl w433 n618 w432 w1 (by decide +kernel) (by decide), List.forall_mem_cons.mpr ⟨ok_if_eq dX4_statesFrom_51 (by decide), List.forall_mem_cons.mpr ⟨ok_aload_n dX4_statesFrom_54 rfl, List.forall_mem_cons.mpr ⟨ok_aload_n dX4_statesFrom_55 rfl, List.forall_mem_cons.mpr ⟨ok_iload dX4_statesFrom_56, List.forall_mem_cons.mpr ⟨ok_callV dX4_statesFrom_58 rfl rfl w597 w619 w595 w6 w596 (by decide +kernel) (by decide), List.forall_mem_cons.mpr ⟨ok_iload_n dX4_statesFrom_61 rfl, List.forall_mem_cons.mpr ⟨ok_aload_n dX4_statesFrom_62 rfl, List.forall_mem_cons.mpr ⟨ok_callV dX4_statesFrom_63 rfl rfl w623 w620 w622 w6 s9 (by decide +kernel) (by decide), List.forall_mem_cons.mpr ⟨ok_ior dX4_statesFrom_66, List.forall_mem_cons.mpr ⟨ok_istore_n dX4_statesFrom_67 rfl (by decide), List.forall_mem_cons.mpr ⟨ok_iinc dX4_statesFrom_68 (by decide) (by decide), List.forall_mem_cons.mpr ⟨ok_goto dX4_statesFrom_71 (by decide), List.forall_mem_cons.mpr ⟨ok_iinc dX4_statesFrom_74 (by decide) (by decide), List.forall_mem_cons.mpr ⟨ok_goto dX4_statesFrom_77 (by decide), List.forall_mem_cons.mpr ⟨ok_iload_n dX4_statesFrom_80 rfl, List.forall_mem_cons.mpr ⟨ok_iret (bz := false) dX4_statesFrom_81 rfl, fun _ h => absurd h List.not_mem_nil⟩⟩⟩⟩⟩⟩⟩⟩⟩⟩⟩⟩⟩⟩⟩⟩⟩⟩⟩⟩⟩⟩
def kX4_statesFrom : List (Nat × zT) := kX4_statesFrom_0 ++ (kX4_statesFrom_1)
theorem qX4_statesFrom_0 : ∀ q ∈ kX4_statesFrom_0, q ∈ kX4_statesFrom := fun _ h => (List.mem_append_left _ h)
theorem tX4_statesFrom_0 : (0, a_i 1 1) ∈ kX4_statesFrom := qX4_statesFrom_0 _ (List.mem_of_getElem? (i := 0) rfl)
theorem tX4_statesFrom_1 : (1, a_iload 2 2) ∈ kX4_statesFrom := qX4_statesFrom_0 _ (List.mem_of_getElem? (i := 1) rfl)
theorem tX4_statesFrom_2 : (2, a_ii (fun x y => x <<< (y &&& 31)) 3) ∈ kX4_statesFrom := qX4_statesFrom_0 _ (List.mem_of_getElem? (i := 2) rfl)
theorem tX4_statesFrom_3 : (3, a_istore 3 4) ∈ kX4_statesFrom := qX4_statesFrom_0 _ (List.mem_of_getElem? (i := 3) rfl)
theorem tX4_statesFrom_4 : (4, a_i 0 5) ∈ kX4_statesFrom := qX4_statesFrom_0 _ (List.mem_of_getElem? (i := 4) rfl)
theorem tX4_statesFrom_5 : (5, a_istore 4 7) ∈ kX4_statesFrom := qX4_statesFrom_0 _ (List.mem_of_getElem? (i := 5) rfl)
theorem tX4_statesFrom_7 : (7, a_i 0 8) ∈ kX4_statesFrom := qX4_statesFrom_0 _ (List.mem_of_getElem? (i := 6) rfl)
theorem tX4_statesFrom_8 : (8, a_istore 5 10) ∈ kX4_statesFrom := qX4_statesFrom_0 _ (List.mem_of_getElem? (i := 7) rfl)
theorem tX4_statesFrom_10 : (10, a_iload 5 12) ∈ kX4_statesFrom := qX4_statesFrom_0 _ (List.mem_of_getElem? (i := 8) rfl)
theorem tX4_statesFrom_12 : (12, a_i 16 14) ∈ kX4_statesFrom := qX4_statesFrom_0 _ (List.mem_of_getElem? (i := 9) rfl)
theorem tX4_statesFrom_14 : (14, a_ic_ge 80 17) ∈ kX4_statesFrom := qX4_statesFrom_0 _ (List.mem_of_getElem? (i := 10) rfl)
theorem tX4_statesFrom_17 : (17, a_iload 4 19) ∈ kX4_statesFrom := qX4_statesFrom_0 _ (List.mem_of_getElem? (i := 11) rfl)
theorem tX4_statesFrom_19 : (19, a_iload 3 20) ∈ kX4_statesFrom := qX4_statesFrom_0 _ (List.mem_of_getElem? (i := 12) rfl)
theorem tX4_statesFrom_20 : (20, a_ic_eq 80 23) ∈ kX4_statesFrom := qX4_statesFrom_0 _ (List.mem_of_getElem? (i := 13) rfl)
theorem tX4_statesFrom_23 : (23, a_iload 3 24) ∈ kX4_statesFrom := qX4_statesFrom_0 _ (List.mem_of_getElem? (i := 14) rfl)
theorem tX4_statesFrom_24 : (24, a_iload 4 26) ∈ kX4_statesFrom := qX4_statesFrom_0 _ (List.mem_of_getElem? (i := 15) rfl)
theorem tX4_statesFrom_26 : (26, a_i (-1) 27) ∈ kX4_statesFrom := qX4_statesFrom_0 _ (List.mem_of_getElem? (i := 16) rfl)
theorem tX4_statesFrom_27 : (27, a_ii (fun x y => x ^^^ y) 28) ∈ kX4_statesFrom := qX4_statesFrom_0 _ (List.mem_of_getElem? (i := 17) rfl)
theorem tX4_statesFrom_28 : (28, a_ii (fun x y => x &&& y) 29) ∈ kX4_statesFrom := qX4_statesFrom_0 _ (List.mem_of_getElem? (i := 18) rfl)
theorem tX4_statesFrom_29 : (29, a_istore 6 31) ∈ kX4_statesFrom := qX4_statesFrom_0 _ (List.mem_of_getElem? (i := 19) rfl)
theorem tX4_statesFrom_31 : (31, a_iload 3 32) ∈ kX4_statesFrom := qX4_statesFrom_0 _ (List.mem_of_getElem? (i := 20) rfl)
theorem tX4_statesFrom_32 : (32, a_istore 4 34) ∈ kX4_statesFrom := qX4_statesFrom_0 _ (List.mem_of_getElem? (i := 21) rfl)
theorem tX4_statesFrom_34 : (34, a_i 0 35) ∈ kX4_statesFrom := qX4_statesFrom_0 _ (List.mem_of_getElem? (i := 22) rfl)
theorem tX4_statesFrom_35 : (35, a_istore 7 37) ∈ kX4_statesFrom := qX4_statesFrom_0 _ (List.mem_of_getElem? (i := 23) rfl)
theorem qX4_statesFrom_1 : ∀ q ∈ kX4_statesFrom_1, q ∈ kX4_statesFrom := fun _ h => (List.mem_append_right _ h)
theorem tX4_statesFrom_37 : (37, a_iload 7 39) ∈ kX4_statesFrom := qX4_statesFrom_1 _ (List.mem_of_getElem? (i := 0) rfl)
theorem tX4_statesFrom_39 : (39, a_i 16 41) ∈ kX4_statesFrom := qX4_statesFrom_1 _ (List.mem_of_getElem? (i := 1) rfl)
theorem tX4_statesFrom_41 : (41, a_ic_ge 74 44) ∈ kX4_statesFrom := qX4_statesFrom_1 _ (List.mem_of_getElem? (i := 2) rfl)
theorem tX4_statesFrom_44 : (44, a_iload 6 46) ∈ kX4_statesFrom := qX4_statesFrom_1 _ (List.mem_of_getElem? (i := 3) rfl)
theorem tX4_statesFrom_46 : (46, a_iload 7 48) ∈ kX4_statesFrom := qX4_statesFrom_1 _ (List.mem_of_getElem? (i := 4) rfl)
theorem tX4_statesFrom_48 : (48, a_call 132 2 51 0 0) ∈ kX4_statesFrom := qX4_statesFrom_1 _ (List.mem_of_getElem? (i := 5) rfl)
theorem tX4_statesFrom_51 : (51, a_if_eq 68 54) ∈ kX4_statesFrom := qX4_statesFrom_1 _ (List.mem_of_getElem? (i := 6) rfl)
theorem tX4_statesFrom_54 : (54, a_aload 0 55) ∈ kX4_statesFrom := qX4_statesFrom_1 _ (List.mem_of_getElem? (i := 7) rfl)
theorem tX4_statesFrom_55 : (55, a_aload 1 56) ∈ kX4_statesFrom := qX4_statesFrom_1 _ (List.mem_of_getElem? (i := 8) rfl)
theorem tX4_statesFrom_56 : (56, a_iload 7 58) ∈ kX4_statesFrom := qX4_statesFrom_1 _ (List.mem_of_getElem? (i := 9) rfl)
theorem tX4_statesFrom_58 : (58, a_callV 4 32 3 61 0 0) ∈ kX4_statesFrom := qX4_statesFrom_1 _ (List.mem_of_getElem? (i := 10) rfl)
theorem tX4_statesFrom_61 : (61, a_iload 3 62) ∈ kX4_statesFrom := qX4_statesFrom_1 _ (List.mem_of_getElem? (i := 11) rfl)
theorem tX4_statesFrom_62 : (62, a_aload 0 63) ∈ kX4_statesFrom := qX4_statesFrom_1 _ (List.mem_of_getElem? (i := 12) rfl)
theorem tX4_statesFrom_63 : (63, a_callV 4 41 1 66 0 0) ∈ kX4_statesFrom := qX4_statesFrom_1 _ (List.mem_of_getElem? (i := 13) rfl)
theorem tX4_statesFrom_66 : (66, a_ii (fun x y => x ||| y) 67) ∈ kX4_statesFrom := qX4_statesFrom_1 _ (List.mem_of_getElem? (i := 14) rfl)
theorem tX4_statesFrom_67 : (67, a_istore 3 68) ∈ kX4_statesFrom := qX4_statesFrom_1 _ (List.mem_of_getElem? (i := 15) rfl)
theorem tX4_statesFrom_68 : (68, a_iinc 7 1 71) ∈ kX4_statesFrom := qX4_statesFrom_1 _ (List.mem_of_getElem? (i := 16) rfl)
theorem tX4_statesFrom_71 : (71, a_goto 37) ∈ kX4_statesFrom := qX4_statesFrom_1 _ (List.mem_of_getElem? (i := 17) rfl)
theorem tX4_statesFrom_74 : (74, a_iinc 5 1 77) ∈ kX4_statesFrom := qX4_statesFrom_1 _ (List.mem_of_getElem? (i := 18) rfl)
theorem tX4_statesFrom_77 : (77, a_goto 10) ∈ kX4_statesFrom := qX4_statesFrom_1 _ (List.mem_of_getElem? (i := 19) rfl)
theorem tX4_statesFrom_80 : (80, a_iload 3 81) ∈ kX4_statesFrom := qX4_statesFrom_1 _ (List.mem_of_getElem? (i := 20) rfl)
theorem tX4_statesFrom_81 : (81, a_iret false) ∈ kX4_statesFrom := qX4_statesFrom_1 _ (List.mem_of_getElem? (i := 21) rfl)
theorem oX4_statesFrom : ∀ q ∈ kX4_statesFrom, zSnd zty false RX4 cX4_statesFrom 8 (some .int) false q := List.forall_mem_append.mpr ⟨oX4_statesFrom_0, oX4_statesFrom_1⟩
theorem dX4_statesShown_0 : decode cX4_statesShown 0 = .ok (.iconst 0, 1) := by decide +kernel
theorem dX4_statesShown_1 : decode cX4_statesShown 1 = .ok (.istore_n 1, 1) := by decide +kernel
theorem dX4_statesShown_2 : decode cX4_statesShown 2 = .ok (.iconst 0, 1) := by decide +kernel
theorem dX4_statesShown_3 : decode cX4_statesShown 3 = .ok (.istore_n 2, 1) := by decide +kernel
theorem dX4_statesShown_4 : decode cX4_statesShown 4 = .ok (.iload_n 2, 1) := by decide +kernel
theorem dX4_statesShown_5 : decode cX4_statesShown 5 = .ok (.bipush 16, 2) := by decide +kernel
theorem dX4_statesShown_7 : decode cX4_statesShown 7 = .ok (.if_icmp .ge 65, 3) := by decide +kernel
theorem dX4_statesShown_10 : decode cX4_statesShown 10 = .ok (.ldc2_w 37, 3) := by decide +kernel
theorem dX4_statesShown_13 : decode cX4_statesShown 13 = .ok (.lstore_n 3, 1) := by decide +kernel
theorem dX4_statesShown_14 : decode cX4_statesShown 14 = .ok (.iconst 0, 1) := by decide +kernel
theorem dX4_statesShown_15 : decode cX4_statesShown 15 = .ok (.istore 5, 2) := by decide +kernel
theorem dX4_statesShown_17 : decode cX4_statesShown 17 = .ok (.iload 5, 2) := by decide +kernel
theorem dX4_statesShown_19 : decode cX4_statesShown 19 = .ok (.iconst 4, 1) := by decide +kernel
theorem dX4_statesShown_20 : decode cX4_statesShown 20 = .ok (.if_icmp .ge 34, 3) := by decide +kernel
theorem dX4_statesShown_23 : decode cX4_statesShown 23 = .ok (.lload_n 3, 1) := by decide +kernel
theorem dX4_statesShown_24 : decode cX4_statesShown 24 = .ok (.aload_n 0, 1) := by decide +kernel
theorem dX4_statesShown_25 : decode cX4_statesShown 25 = .ok (.getfield 15, 3) := by decide +kernel
theorem dX4_statesShown_28 : decode cX4_statesShown 28 = .ok (.bipush 15, 2) := by decide +kernel
theorem dX4_statesShown_30 : decode cX4_statesShown 30 = .ok (.iload 5, 2) := by decide +kernel
theorem dX4_statesShown_32 : decode cX4_statesShown 32 = .ok (.iadd, 1) := by decide +kernel
theorem dX4_statesShown_33 : decode cX4_statesShown 33 = .ok (.laload, 1) := by decide +kernel
theorem dX4_statesShown_34 : decode cX4_statesShown 34 = .ok (.iload_n 2, 1) := by decide +kernel
theorem dX4_statesShown_35 : decode cX4_statesShown 35 = .ok (.iload 5, 2) := by decide +kernel
theorem dX4_statesShown_37 : decode cX4_statesShown 37 = .ok (.ishr, 1) := by decide +kernel
theorem dX4_statesShown_38 : decode cX4_statesShown 38 = .ok (.invokestatic 44, 3) := by decide +kernel
theorem dX4_statesShown_41 : decode cX4_statesShown 41 = .ok (.lxor, 1) := by decide +kernel
theorem dX4_statesShown_42 : decode cX4_statesShown 42 = .ok (.ldc2_w 37, 3) := by decide +kernel
theorem dX4_statesShown_45 : decode cX4_statesShown 45 = .ok (.lxor, 1) := by decide +kernel
theorem dX4_statesShown_46 : decode cX4_statesShown 46 = .ok (.land, 1) := by decide +kernel
theorem dX4_statesShown_47 : decode cX4_statesShown 47 = .ok (.lstore_n 3, 1) := by decide +kernel
theorem dX4_statesShown_48 : decode cX4_statesShown 48 = .ok (.iinc 5 1, 3) := by decide +kernel
theorem dX4_statesShown_51 : decode cX4_statesShown 51 = .ok (.goto (-34), 3) := by decide +kernel
theorem dX4_statesShown_54 : decode cX4_statesShown 54 = .ok (.lload_n 3, 1) := by decide +kernel
theorem dX4_statesShown_55 : decode cX4_statesShown 55 = .ok (.lconst 0, 1) := by decide +kernel
theorem dX4_statesShown_56 : decode cX4_statesShown 56 = .ok (.lcmp, 1) := by decide +kernel
theorem dX4_statesShown_57 : decode cX4_statesShown 57 = .ok (.ifCond .eq 9, 3) := by decide +kernel
theorem dX4_statesShown_60 : decode cX4_statesShown 60 = .ok (.iload_n 1, 1) := by decide +kernel
theorem dX4_statesShown_61 : decode cX4_statesShown 61 = .ok (.iconst 1, 1) := by decide +kernel
theorem dX4_statesShown_62 : decode cX4_statesShown 62 = .ok (.iload_n 2, 1) := by decide +kernel
theorem dX4_statesShown_63 : decode cX4_statesShown 63 = .ok (.ishl, 1) := by decide +kernel
theorem dX4_statesShown_64 : decode cX4_statesShown 64 = .ok (.ior, 1) := by decide +kernel
theorem dX4_statesShown_65 : decode cX4_statesShown 65 = .ok (.istore_n 1, 1) := by decide +kernel
theorem dX4_statesShown_66 : decode cX4_statesShown 66 = .ok (.iinc 2 1, 3) := by decide +kernel
theorem dX4_statesShown_69 : decode cX4_statesShown 69 = .ok (.goto (-65), 3) := by decide +kernel
theorem dX4_statesShown_72 : decode cX4_statesShown 72 = .ok (.iload_n 1, 1) := by decide +kernel
theorem dX4_statesShown_73 : decode cX4_statesShown 73 = .ok (.ireturn, 1) := by decide +kernel
def kX4_statesShown_0 : List (Nat × zT) := [(0, a_i 0 1), (1, a_istore 1 2), (2, a_i 0 3), (3, a_istore 2 4), (4, a_iload 2 5), (5, a_i 16 7), (7, a_ic_ge 72 10), (10, a_l (-1) 13), (13, a_lstore 3 14), (14, a_i 0 15), (15, a_istore 5 17), (17, a_iload 5 19), (19, a_i 4 20), (20, a_ic_ge 54 23), (23, a_lload 3 24), (24, a_aload 0 25), (25, a_getR 4 1 28), (28, a_i 15 30), (30, a_iload 5 32), (32, a_ii (fun x y => x + y) 33), (33, a_lald 34), (34, a_iload 2 35), (35, a_iload 5 37), (37, a_ii (fun x y => x >>> (y &&& 31)) 38)]
theorem oX4_statesShown_0 : ∀ q ∈ kX4_statesShown_0, zSnd zty false RX4 cX4_statesShown 6 (some .int) false q := List.forall_mem_cons.mpr ⟨ok_iconst dX4_statesShown_0 (by decide), List.forall_mem_cons.mpr ⟨ok_istore_n dX4_statesShown_1 rfl (by decide), List.forall_mem_cons.mpr ⟨ok_iconst dX4_statesShown_2 (by decide), List.forall_mem_cons.mpr ⟨ok_istore_n dX4_statesShown_3 rfl (by decide), List.forall_mem_cons.mpr ⟨ok_iload_n dX4_statesShown_4 rfl, List.forall_mem_cons.mpr ⟨ok_bipush dX4_statesShown_5 (by decide), List.forall_mem_cons.mpr ⟨ok_ic_ge dX4_statesShown_7 (by decide), List.forall_mem_cons.mpr ⟨ok_ldc2 dX4_statesShown_10 w580, List.forall_mem_cons.mpr ⟨ok_lstore_n dX4_statesShown_13 rfl (by decide), List.forall_mem_cons.mpr ⟨ok_iconst dX4_statesShown_14 (by decide), List.forall_mem_cons.mpr ⟨ok_istore dX4_statesShown_15 (by decide), List.forall_mem_cons.mpr ⟨ok_iload dX4_statesShown_17, List.forall_mem_cons.mpr ⟨ok_iconst dX4_statesShown_19 (by decide), List.forall_mem_cons.mpr ⟨ok_ic_ge dX4_statesShown_20 (by decide), List.forall_mem_cons.mpr ⟨ok_lload_n dX4_statesShown_23 rfl, List.forall_mem_cons.mpr ⟨ok_aload_n dX4_statesShown_24 rfl, List.forall_mem_cons.mpr ⟨ok_getR dX4_statesShown_25 rfl in4 (by decide) rfl w165, List.forall_mem_cons.mpr ⟨ok_bipush dX4_statesShown_28 (by decide), List.forall_mem_cons.mpr ⟨ok_iload dX4_statesShown_30, List.forall_mem_cons.mpr ⟨ok_iadd dX4_statesShown_32, List.forall_mem_cons.mpr ⟨ok_lald dX4_statesShown_33, List.forall_mem_cons.mpr ⟨ok_iload_n dX4_statesShown_34 rfl, List.forall_mem_cons.mpr ⟨ok_iload dX4_statesShown_35, List.forall_mem_cons.mpr ⟨ok_ishr dX4_statesShown_37, fun _ h => absurd h List.not_mem_nil⟩⟩⟩⟩⟩⟩⟩⟩⟩⟩⟩⟩⟩⟩⟩⟩⟩⟩⟩⟩⟩⟩⟩⟩
def kX4_statesShown_1 : List (Nat × zT) := [(38, a_call 34 1 41 0 0), (41, a_ll (fun x y => x ^^^ y) 42), (42, a_l (-1) 45), (45, a_ll (fun x y => x ^^^ y) 46), (46, a_ll (fun x y => x &&& y) 47), (47, a_lstore 3 48), (48, a_iinc 5 1 51), (51, a_goto 17), (54, a_lload 3 55), (55, a_l 0 56), (56, a_lcmp 57), (57, a_if_eq 66 60), (60, a_iload 1 61), (61, a_i 1 62), (62, a_iload 2 63), (63, a_ii (fun x y => x <<< (y &&& 31)) 64), (64, a_ii (fun x y => x ||| y) 65), (65, a_istore 1 66), (66, a_iinc 2 1 69), (69, a_goto 4), (72, a_iload 1 73), (73, a_iret false)]
theorem oX4_statesShown_1 : ∀ q ∈ kX4_statesShown_1, zSnd zty false RX4 cX4_statesShown 6 (some .int) false q := List.forall_mem_cons.mpr ⟨ok_callS dX4_statesShown_38 rfl w570 w568 w569 w6 (by decide +kernel) (by decide), List.forall_mem_cons.mpr ⟨ok_lxor dX4_statesShown_41, List.forall_mem_cons.mpr ⟨ok_ldc2 dX4_statesShown_42 w580, List.forall_mem_cons.mpr ⟨ok_lxor dX4_statesShown_45, List.forall_mem_cons.mpr ⟨ok_land dX4_statesShown_46, List.forall_mem_cons.mpr ⟨ok_lstore_n dX4_statesShown_47 rfl (by decide), List.forall_mem_cons.mpr ⟨ok_iinc dX4_statesShown_48 (by decide) (by decide), List.forall_mem_cons.mpr ⟨ok_goto dX4_statesShown_51 (by decide), List.forall_mem_cons.mpr ⟨ok_lload_n dX4_statesShown_54 rfl, List.forall_mem_cons.mpr ⟨ok_lconst dX4_statesShown_55 (by decide), List.forall_mem_cons.mpr ⟨ok_lcmp dX4_statesShown_56, List.forall_mem_cons.mpr ⟨ok_if_eq dX4_statesShown_57 (by decide), List.forall_mem_cons.mpr ⟨ok_iload_n dX4_statesShown_60 rfl, List.forall_mem_cons.mpr ⟨ok_iconst dX4_statesShown_61 (by decide), List.forall_mem_cons.mpr ⟨ok_iload_n dX4_statesShown_62 rfl, List.forall_mem_cons.mpr ⟨ok_ishl dX4_statesShown_63, List.forall_mem_cons.mpr ⟨ok_ior dX4_statesShown_64, List.forall_mem_cons.mpr ⟨ok_istore_n dX4_statesShown_65 rfl (by decide), List.forall_mem_cons.mpr ⟨ok_iinc dX4_statesShown_66 (by decide) (by decide), List.forall_mem_cons.mpr ⟨ok_goto dX4_statesShown_69 (by decide), List.forall_mem_cons.mpr ⟨ok_iload_n dX4_statesShown_72 rfl, List.forall_mem_cons.mpr ⟨ok_iret (bz := false) dX4_statesShown_73 rfl, fun _ h => absurd h List.not_mem_nil⟩⟩⟩⟩⟩⟩⟩⟩⟩⟩⟩⟩⟩⟩⟩⟩⟩⟩⟩⟩⟩⟩
def kX4_statesShown : List (Nat × zT) := kX4_statesShown_0 ++ (kX4_statesShown_1)
theorem qX4_statesShown_0 : ∀ q ∈ kX4_statesShown_0, q ∈ kX4_statesShown := fun _ h => (List.mem_append_left _ h)
theorem tX4_statesShown_0 : (0, a_i 0 1) ∈ kX4_statesShown := qX4_statesShown_0 _ (List.mem_of_getElem? (i := 0) rfl)
theorem tX4_statesShown_1 : (1, a_istore 1 2) ∈ kX4_statesShown := qX4_statesShown_0 _ (List.mem_of_getElem? (i := 1) rfl)
theorem tX4_statesShown_2 : (2, a_i 0 3) ∈ kX4_statesShown := qX4_statesShown_0 _ (List.mem_of_getElem? (i := 2) rfl)
theorem tX4_statesShown_3 : (3, a_istore 2 4) ∈ kX4_statesShown := qX4_statesShown_0 _ (List.mem_of_getElem? (i := 3) rfl)
theorem tX4_statesShown_4 : (4, a_iload 2 5) ∈ kX4_statesShown := qX4_statesShown_0 _ (List.mem_of_getElem? (i := 4) rfl)
theorem tX4_statesShown_5 : (5, a_i 16 7) ∈ kX4_statesShown := qX4_statesShown_0 _ (List.mem_of_getElem? (i := 5) rfl)
theorem tX4_statesShown_7 : (7, a_ic_ge 72 10) ∈ kX4_statesShown := qX4_statesShown_0 _ (List.mem_of_getElem? (i := 6) rfl)
theorem tX4_statesShown_10 : (10, a_l (-1) 13) ∈ kX4_statesShown := qX4_statesShown_0 _ (List.mem_of_getElem? (i := 7) rfl)
theorem tX4_statesShown_13 : (13, a_lstore 3 14) ∈ kX4_statesShown := qX4_statesShown_0 _ (List.mem_of_getElem? (i := 8) rfl)
theorem tX4_statesShown_14 : (14, a_i 0 15) ∈ kX4_statesShown := qX4_statesShown_0 _ (List.mem_of_getElem? (i := 9) rfl)
theorem tX4_statesShown_15 : (15, a_istore 5 17) ∈ kX4_statesShown := qX4_statesShown_0 _ (List.mem_of_getElem? (i := 10) rfl)
theorem tX4_statesShown_17 : (17, a_iload 5 19) ∈ kX4_statesShown := qX4_statesShown_0 _ (List.mem_of_getElem? (i := 11) rfl)
theorem tX4_statesShown_19 : (19, a_i 4 20) ∈ kX4_statesShown := qX4_statesShown_0 _ (List.mem_of_getElem? (i := 12) rfl)
theorem tX4_statesShown_20 : (20, a_ic_ge 54 23) ∈ kX4_statesShown := qX4_statesShown_0 _ (List.mem_of_getElem? (i := 13) rfl)
theorem tX4_statesShown_23 : (23, a_lload 3 24) ∈ kX4_statesShown := qX4_statesShown_0 _ (List.mem_of_getElem? (i := 14) rfl)
theorem tX4_statesShown_24 : (24, a_aload 0 25) ∈ kX4_statesShown := qX4_statesShown_0 _ (List.mem_of_getElem? (i := 15) rfl)
theorem tX4_statesShown_25 : (25, a_getR 4 1 28) ∈ kX4_statesShown := qX4_statesShown_0 _ (List.mem_of_getElem? (i := 16) rfl)
theorem tX4_statesShown_28 : (28, a_i 15 30) ∈ kX4_statesShown := qX4_statesShown_0 _ (List.mem_of_getElem? (i := 17) rfl)
theorem tX4_statesShown_30 : (30, a_iload 5 32) ∈ kX4_statesShown := qX4_statesShown_0 _ (List.mem_of_getElem? (i := 18) rfl)
theorem tX4_statesShown_32 : (32, a_ii (fun x y => x + y) 33) ∈ kX4_statesShown := qX4_statesShown_0 _ (List.mem_of_getElem? (i := 19) rfl)
theorem tX4_statesShown_33 : (33, a_lald 34) ∈ kX4_statesShown := qX4_statesShown_0 _ (List.mem_of_getElem? (i := 20) rfl)
theorem tX4_statesShown_34 : (34, a_iload 2 35) ∈ kX4_statesShown := qX4_statesShown_0 _ (List.mem_of_getElem? (i := 21) rfl)
theorem tX4_statesShown_35 : (35, a_iload 5 37) ∈ kX4_statesShown := qX4_statesShown_0 _ (List.mem_of_getElem? (i := 22) rfl)
theorem tX4_statesShown_37 : (37, a_ii (fun x y => x >>> (y &&& 31)) 38) ∈ kX4_statesShown := qX4_statesShown_0 _ (List.mem_of_getElem? (i := 23) rfl)
theorem qX4_statesShown_1 : ∀ q ∈ kX4_statesShown_1, q ∈ kX4_statesShown := fun _ h => (List.mem_append_right _ h)
theorem tX4_statesShown_38 : (38, a_call 34 1 41 0 0) ∈ kX4_statesShown := qX4_statesShown_1 _ (List.mem_of_getElem? (i := 0) rfl)
theorem tX4_statesShown_41 : (41, a_ll (fun x y => x ^^^ y) 42) ∈ kX4_statesShown := qX4_statesShown_1 _ (List.mem_of_getElem? (i := 1) rfl)
theorem tX4_statesShown_42 : (42, a_l (-1) 45) ∈ kX4_statesShown := qX4_statesShown_1 _ (List.mem_of_getElem? (i := 2) rfl)
theorem tX4_statesShown_45 : (45, a_ll (fun x y => x ^^^ y) 46) ∈ kX4_statesShown := qX4_statesShown_1 _ (List.mem_of_getElem? (i := 3) rfl)
theorem tX4_statesShown_46 : (46, a_ll (fun x y => x &&& y) 47) ∈ kX4_statesShown := qX4_statesShown_1 _ (List.mem_of_getElem? (i := 4) rfl)
theorem tX4_statesShown_47 : (47, a_lstore 3 48) ∈ kX4_statesShown := qX4_statesShown_1 _ (List.mem_of_getElem? (i := 5) rfl)
theorem tX4_statesShown_48 : (48, a_iinc 5 1 51) ∈ kX4_statesShown := qX4_statesShown_1 _ (List.mem_of_getElem? (i := 6) rfl)
theorem tX4_statesShown_51 : (51, a_goto 17) ∈ kX4_statesShown := qX4_statesShown_1 _ (List.mem_of_getElem? (i := 7) rfl)
theorem tX4_statesShown_54 : (54, a_lload 3 55) ∈ kX4_statesShown := qX4_statesShown_1 _ (List.mem_of_getElem? (i := 8) rfl)
theorem tX4_statesShown_55 : (55, a_l 0 56) ∈ kX4_statesShown := qX4_statesShown_1 _ (List.mem_of_getElem? (i := 9) rfl)
theorem tX4_statesShown_56 : (56, a_lcmp 57) ∈ kX4_statesShown := qX4_statesShown_1 _ (List.mem_of_getElem? (i := 10) rfl)
theorem tX4_statesShown_57 : (57, a_if_eq 66 60) ∈ kX4_statesShown := qX4_statesShown_1 _ (List.mem_of_getElem? (i := 11) rfl)
theorem tX4_statesShown_60 : (60, a_iload 1 61) ∈ kX4_statesShown := qX4_statesShown_1 _ (List.mem_of_getElem? (i := 12) rfl)
theorem tX4_statesShown_61 : (61, a_i 1 62) ∈ kX4_statesShown := qX4_statesShown_1 _ (List.mem_of_getElem? (i := 13) rfl)
theorem tX4_statesShown_62 : (62, a_iload 2 63) ∈ kX4_statesShown := qX4_statesShown_1 _ (List.mem_of_getElem? (i := 14) rfl)
theorem tX4_statesShown_63 : (63, a_ii (fun x y => x <<< (y &&& 31)) 64) ∈ kX4_statesShown := qX4_statesShown_1 _ (List.mem_of_getElem? (i := 15) rfl)
theorem tX4_statesShown_64 : (64, a_ii (fun x y => x ||| y) 65) ∈ kX4_statesShown := qX4_statesShown_1 _ (List.mem_of_getElem? (i := 16) rfl)
theorem tX4_statesShown_65 : (65, a_istore 1 66) ∈ kX4_statesShown := qX4_statesShown_1 _ (List.mem_of_getElem? (i := 17) rfl)
theorem tX4_statesShown_66 : (66, a_iinc 2 1 69) ∈ kX4_statesShown := qX4_statesShown_1 _ (List.mem_of_getElem? (i := 18) rfl)
theorem tX4_statesShown_69 : (69, a_goto 4) ∈ kX4_statesShown := qX4_statesShown_1 _ (List.mem_of_getElem? (i := 19) rfl)
theorem tX4_statesShown_72 : (72, a_iload 1 73) ∈ kX4_statesShown := qX4_statesShown_1 _ (List.mem_of_getElem? (i := 20) rfl)
theorem tX4_statesShown_73 : (73, a_iret false) ∈ kX4_statesShown := qX4_statesShown_1 _ (List.mem_of_getElem? (i := 21) rfl)
theorem oX4_statesShown : ∀ q ∈ kX4_statesShown, zSnd zty false RX4 cX4_statesShown 6 (some .int) false q := List.forall_mem_append.mpr ⟨oX4_statesShown_0, oX4_statesShown_1⟩
theorem dJ6_numberOfLeadingZeros_0f7a4_0 : decode cJ6_numberOfLeadingZeros_0f7a4 0 = .ok (.iload_n 0, 1) := by decide +kernel
theorem dJ6_numberOfLeadingZeros_0f7a4_1 : decode cJ6_numberOfLeadingZeros_0f7a4 1 = .ok (.ifCond .gt 14, 3) := by decide +kernel
theorem dJ6_numberOfLeadingZeros_0f7a4_4 : decode cJ6_numberOfLeadingZeros_0f7a4 4 = .ok (.iload_n 0, 1) := by decide +kernel
theorem dJ6_numberOfLeadingZeros_0f7a4_5 : decode cJ6_numberOfLeadingZeros_0f7a4 5 = .ok (.ifCond .ne 8, 3) := by decide +kernel
theorem dJ6_numberOfLeadingZeros_0f7a4_8 : decode cJ6_numberOfLeadingZeros_0f7a4 8 = .ok (.bipush 32, 2) := by decide +kernel
theorem dJ6_numberOfLeadingZeros_0f7a4_10 : decode cJ6_numberOfLeadingZeros_0f7a4 10 = .ok (.goto 4, 3) := by decide +kernel
theorem dJ6_numberOfLeadingZeros_0f7a4_13 : decode cJ6_numberOfLeadingZeros_0f7a4 13 = .ok (.iconst 0, 1) := by decide +kernel
theorem dJ6_numberOfLeadingZeros_0f7a4_14 : decode cJ6_numberOfLeadingZeros_0f7a4 14 = .ok (.ireturn, 1) := by decide +kernel
theorem dJ6_numberOfLeadingZeros_0f7a4_15 : decode cJ6_numberOfLeadingZeros_0f7a4 15 = .ok (.bipush 31, 2) := by decide +kernel
theorem dJ6_numberOfLeadingZeros_0f7a4_17 : decode cJ6_numberOfLeadingZeros_0f7a4 17 = .ok (.istore_n 1, 1) := by decide +kernel
theorem dJ6_numberOfLeadingZeros_0f7a4_18 : decode cJ6_numberOfLeadingZeros_0f7a4 18 = .ok (.iload_n 0, 1) := by decide +kernel
theorem dJ6_numberOfLeadingZeros_0f7a4_19 : decode cJ6_numberOfLeadingZeros_0f7a4 19 = .ok (.ldc_w 264, 3) := by decide +kernel
theorem dJ6_numberOfLeadingZeros_0f7a4_22 : decode cJ6_numberOfLeadingZeros_0f7a4 22 = .ok (.if_icmp .lt 11, 3) := by decide +kernel
theorem dJ6_numberOfLeadingZeros_0f7a4_25 : decode cJ6_numberOfLeadingZeros_0f7a4 25 = .ok (.iinc 1 (-16), 3) := by decide +kernel
theorem dJ6_numberOfLeadingZeros_0f7a4_28 : decode cJ6_numberOfLeadingZeros_0f7a4 28 = .ok (.iload_n 0, 1) := by decide +kernel
theorem dJ6_numberOfLeadingZeros_0f7a4_29 : decode cJ6_numberOfLeadingZeros_0f7a4 29 = .ok (.bipush 16, 2) := by decide +kernel
theorem dJ6_numberOfLeadingZeros_0f7a4_31 : decode cJ6_numberOfLeadingZeros_0f7a4 31 = .ok (.iushr, 1) := by decide +kernel
theorem dJ6_numberOfLeadingZeros_0f7a4_32 : decode cJ6_numberOfLeadingZeros_0f7a4 32 = .ok (.istore_n 0, 1) := by decide +kernel
theorem dJ6_numberOfLeadingZeros_0f7a4_33 : decode cJ6_numberOfLeadingZeros_0f7a4 33 = .ok (.iload_n 0, 1) := by decide +kernel
theorem dJ6_numberOfLeadingZeros_0f7a4_34 : decode cJ6_numberOfLeadingZeros_0f7a4 34 = .ok (.sipush 256, 3) := by decide +kernel
theorem dJ6_numberOfLeadingZeros_0f7a4_37 : decode cJ6_numberOfLeadingZeros_0f7a4 37 = .ok (.if_icmp .lt 11, 3) := by decide +kernel
theorem dJ6_numberOfLeadingZeros_0f7a4_40 : decode cJ6_numberOfLeadingZeros_0f7a4 40 = .ok (.iinc 1 (-8), 3) := by decide +kernel
theorem dJ6_numberOfLeadingZeros_0f7a4_43 : decode cJ6_numberOfLeadingZeros_0f7a4 43 = .ok (.iload_n 0, 1) := by decide +kernel
theorem dJ6_numberOfLeadingZeros_0f7a4_44 : decode cJ6_numberOfLeadingZeros_0f7a4 44 = .ok (.bipush 8, 2) := by decide +kernel
theorem dJ6_numberOfLeadingZeros_0f7a4_46 : decode cJ6_numberOfLeadingZeros_0f7a4 46 = .ok (.iushr, 1) := by decide +kernel
theorem dJ6_numberOfLeadingZeros_0f7a4_47 : decode cJ6_numberOfLeadingZeros_0f7a4 47 = .ok (.istore_n 0, 1) := by decide +kernel
theorem dJ6_numberOfLeadingZeros_0f7a4_48 : decode cJ6_numberOfLeadingZeros_0f7a4 48 = .ok (.iload_n 0, 1) := by decide +kernel
theorem dJ6_numberOfLeadingZeros_0f7a4_49 : decode cJ6_numberOfLeadingZeros_0f7a4 49 = .ok (.bipush 16, 2) := by decide +kernel
theorem dJ6_numberOfLeadingZeros_0f7a4_51 : decode cJ6_numberOfLeadingZeros_0f7a4 51 = .ok (.if_icmp .lt 10, 3) := by decide +kernel
theorem dJ6_numberOfLeadingZeros_0f7a4_54 : decode cJ6_numberOfLeadingZeros_0f7a4 54 = .ok (.iinc 1 (-4), 3) := by decide +kernel
theorem dJ6_numberOfLeadingZeros_0f7a4_57 : decode cJ6_numberOfLeadingZeros_0f7a4 57 = .ok (.iload_n 0, 1) := by decide +kernel
theorem dJ6_numberOfLeadingZeros_0f7a4_58 : decode cJ6_numberOfLeadingZeros_0f7a4 58 = .ok (.iconst 4, 1) := by decide +kernel
theorem dJ6_numberOfLeadingZeros_0f7a4_59 : decode cJ6_numberOfLeadingZeros_0f7a4 59 = .ok (.iushr, 1) := by decide +kernel
theorem dJ6_numberOfLeadingZeros_0f7a4_60 : decode cJ6_numberOfLeadingZeros_0f7a4 60 = .ok (.istore_n 0, 1) := by decide +kernel
theorem dJ6_numberOfLeadingZeros_0f7a4_61 : decode cJ6_numberOfLeadingZeros_0f7a4 61 = .ok (.iload_n 0, 1) := by decide +kernel
theorem dJ6_numberOfLeadingZeros_0f7a4_62 : decode cJ6_numberOfLeadingZeros_0f7a4 62 = .ok (.iconst 4, 1) := by decide +kernel
theorem dJ6_numberOfLeadingZeros_0f7a4_63 : decode cJ6_numberOfLeadingZeros_0f7a4 63 = .ok (.if_icmp .lt 10, 3) := by decide +kernel
theorem dJ6_numberOfLeadingZeros_0f7a4_66 : decode cJ6_numberOfLeadingZeros_0f7a4 66 = .ok (.iinc 1 (-2), 3) := by decide +kernel
theorem dJ6_numberOfLeadingZeros_0f7a4_69 : decode cJ6_numberOfLeadingZeros_0f7a4 69 = .ok (.iload_n 0, 1) := by decide +kernel
theorem dJ6_numberOfLeadingZeros_0f7a4_70 : decode cJ6_numberOfLeadingZeros_0f7a4 70 = .ok (.iconst 2, 1) := by decide +kernel
theorem dJ6_numberOfLeadingZeros_0f7a4_71 : decode cJ6_numberOfLeadingZeros_0f7a4 71 = .ok (.iushr, 1) := by decide +kernel
theorem dJ6_numberOfLeadingZeros_0f7a4_72 : decode cJ6_numberOfLeadingZeros_0f7a4 72 = .ok (.istore_n 0, 1) := by decide +kernel
theorem dJ6_numberOfLeadingZeros_0f7a4_73 : decode cJ6_numberOfLeadingZeros_0f7a4 73 = .ok (.iload_n 1, 1) := by decide +kernel
theorem dJ6_numberOfLeadingZeros_0f7a4_74 : decode cJ6_numberOfLeadingZeros_0f7a4 74 = .ok (.iload_n 0, 1) := by decide +kernel
theorem dJ6_numberOfLeadingZeros_0f7a4_75 : decode cJ6_numberOfLeadingZeros_0f7a4 75 = .ok (.iconst 1, 1) := by decide +kernel
theorem dJ6_numberOfLeadingZeros_0f7a4_76 : decode cJ6_numberOfLeadingZeros_0f7a4 76 = .ok (.iushr, 1) := by decide +kernel
theorem dJ6_numberOfLeadingZeros_0f7a4_77 : decode cJ6_numberOfLeadingZeros_0f7a4 77 = .ok (.isub, 1) := by decide +kernel
theorem dJ6_numberOfLeadingZeros_0f7a4_78 : decode cJ6_numberOfLeadingZeros_0f7a4 78 = .ok (.ireturn, 1) := by decide +kernel
def kJ6_numberOfLeadingZeros_0f7a4_0 : List (Nat × zT) := [(0, a_iload 0 1), (1, a_if_gt 15 4), (4, a_iload 0 5), (5, a_if_ne 13 8), (8, a_i 32 10), (10, a_goto 14), (13, a_i 0 14), (14, a_iret false), (15, a_i 31 17), (17, a_istore 1 18), (18, a_iload 0 19), (19, a_i 65536 22), (22, a_ic_lt 33 25), (25, a_iinc 1 (-16) 28), (28, a_iload 0 29), (29, a_i 16 31), (31, a_ii (fun x y => (x.toUInt32 >>> (y.toUInt32 &&& Int32.toUInt32 31)).toInt32) 32), (32, a_istore 0 33), (33, a_iload 0 34), (34, a_i 256 37), (37, a_ic_lt 48 40), (40, a_iinc 1 (-8) 43), (43, a_iload 0 44), (44, a_i 8 46)]
theorem oJ6_numberOfLeadingZeros_0f7a4_0 : ∀ q ∈ kJ6_numberOfLeadingZeros_0f7a4_0, zSnd zty false RJ6 cJ6_numberOfLeadingZeros_0f7a4 2 (some .int) false q := List.forall_mem_cons.mpr ⟨ok_iload_n dJ6_numberOfLeadingZeros_0f7a4_0 rfl, List.forall_mem_cons.mpr ⟨ok_if_gt dJ6_numberOfLeadingZeros_0f7a4_1 (by decide), List.forall_mem_cons.mpr ⟨ok_iload_n dJ6_numberOfLeadingZeros_0f7a4_4 rfl, List.forall_mem_cons.mpr ⟨ok_if_ne dJ6_numberOfLeadingZeros_0f7a4_5 (by decide), List.forall_mem_cons.mpr ⟨ok_bipush dJ6_numberOfLeadingZeros_0f7a4_8 (by decide), List.forall_mem_cons.mpr ⟨ok_goto dJ6_numberOfLeadingZeros_0f7a4_10 (by decide), List.forall_mem_cons.mpr ⟨ok_iconst dJ6_numberOfLeadingZeros_0f7a4_13 (by decide), List.forall_mem_cons.mpr ⟨ok_iret (bz := false) dJ6_numberOfLeadingZeros_0f7a4_14 rfl, List.forall_mem_cons.mpr ⟨ok_bipush dJ6_numberOfLeadingZeros_0f7a4_15 (by decide), List.forall_mem_cons.mpr ⟨ok_istore_n dJ6_numberOfLeadingZeros_0f7a4_17 rfl (by decide), List.forall_mem_cons.mpr ⟨ok_iload_n dJ6_numberOfLeadingZeros_0f7a4_18 rfl, List.forall_mem_cons.mpr ⟨ok_ldcw dJ6_numberOfLeadingZeros_0f7a4_19 w642, List.forall_mem_cons.mpr ⟨ok_ic_lt dJ6_numberOfLeadingZeros_0f7a4_22 (by decide), List.forall_mem_cons.mpr ⟨ok_iinc dJ6_numberOfLeadingZeros_0f7a4_25 (by decide) (by decide), List.forall_mem_cons.mpr ⟨ok_iload_n dJ6_numberOfLeadingZeros_0f7a4_28 rfl, List.forall_mem_cons.mpr ⟨ok_bipush dJ6_numberOfLeadingZeros_0f7a4_29 (by decide), List.forall_mem_cons.mpr ⟨ok_iushr dJ6_numberOfLeadingZeros_0f7a4_31, List.forall_mem_cons.mpr ⟨ok_istore_n dJ6_numberOfLeadingZeros_0f7a4_32 rfl (by decide), List.forall_mem_cons.mpr ⟨ok_iload_n dJ6_numberOfLeadingZeros_0f7a4_33 rfl, List.forall_mem_cons.mpr ⟨ok_sipush dJ6_numberOfLeadingZeros_0f7a4_34 (by decide), List.forall_mem_cons.mpr ⟨ok_ic_lt dJ6_numberOfLeadingZeros_0f7a4_37 (by decide), List.forall_mem_cons.mpr ⟨ok_iinc dJ6_numberOfLeadingZeros_0f7a4_40 (by decide) (by decide), List.forall_mem_cons.mpr ⟨ok_iload_n dJ6_numberOfLeadingZeros_0f7a4_43 rfl, List.forall_mem_cons.mpr ⟨ok_bipush dJ6_numberOfLeadingZeros_0f7a4_44 (by decide), fun _ h => absurd h List.not_mem_nil⟩⟩⟩⟩⟩⟩⟩⟩⟩⟩⟩⟩⟩⟩⟩⟩⟩⟩⟩⟩⟩⟩⟩⟩
def kJ6_numberOfLeadingZeros_0f7a4_1 : List (Nat × zT) := [(46, a_ii (fun x y => (x.toUInt32 >>> (y.toUInt32 &&& Int32.toUInt32 31)).toInt32) 47), (47, a_istore 0 48), (48, a_iload 0 49), (49, a_i 16 51), (51, a_ic_lt 61 54), (54, a_iinc 1 (-4) 57), (57, a_iload 0 58), (58, a_i 4 59), (59, a_ii (fun x y => (x.toUInt32 >>> (y.toUInt32 &&& Int32.toUInt32 31)).toInt32) 60), (60, a_istore 0 61), (61, a_iload 0 62), (62, a_i 4 63), (63, a_ic_lt 73 66), (66, a_iinc 1 (-2) 69), (69, a_iload 0 70), (70, a_i 2 71), (71, a_ii (fun x y => (x.toUInt32 >>> (y.toUInt32 &&& Int32.toUInt32 31)).toInt32) 72), (72, a_istore 0 73), (73, a_iload 1 74), (74, a_iload 0 75), (75, a_i 1 76), (76, a_ii (fun x y => (x.toUInt32 >>> (y.toUInt32 &&& Int32.toUInt32 31)).toInt32) 77), (77, a_ii (fun x y => x - y) 78), (78, a_iret false)]
theorem oJ6_numberOfLeadingZeros_0f7a4_1 : ∀ q ∈ kJ6_numberOfLeadingZeros_0f7a4_1, zSnd zty false RJ6 cJ6_numberOfLeadingZeros_0f7a4 2 (some .int) false q := List.forall_mem_cons.mpr ⟨ok_iushr dJ6_numberOfLeadingZeros_0f7a4_46, List.forall_mem_cons.mpr ⟨ok_istore_n dJ6_numberOfLeadingZeros_0f7a4_47 rfl (by decide), List.forall_mem_cons.mpr ⟨ok_iload_n dJ6_numberOfLeadingZeros_0f7a4_48 rfl, List.forall_mem_cons.mpr ⟨ok_bipush dJ6_numberOfLeadingZeros_0f7a4_49 (by decide), List.forall_mem_cons.mpr ⟨ok_ic_lt dJ6_numberOfLeadingZeros_0f7a4_51 (by decide), List.forall_mem_cons.mpr ⟨ok_iinc dJ6_numberOfLeadingZeros_0f7a4_54 (by decide) (by decide), List.forall_mem_cons.mpr ⟨ok_iload_n dJ6_numberOfLeadingZeros_0f7a4_57 rfl, List.forall_mem_cons.mpr ⟨ok_iconst dJ6_numberOfLeadingZeros_0f7a4_58 (by decide), List.forall_mem_cons.mpr ⟨ok_iushr dJ6_numberOfLeadingZeros_0f7a4_59, List.forall_mem_cons.mpr ⟨ok_istore_n dJ6_numberOfLeadingZeros_0f7a4_60 rfl (by decide), List.forall_mem_cons.mpr ⟨ok_iload_n dJ6_numberOfLeadingZeros_0f7a4_61 rfl, List.forall_mem_cons.mpr ⟨ok_iconst dJ6_numberOfLeadingZeros_0f7a4_62 (by decide), List.forall_mem_cons.mpr ⟨ok_ic_lt dJ6_numberOfLeadingZeros_0f7a4_63 (by decide), List.forall_mem_cons.mpr ⟨ok_iinc dJ6_numberOfLeadingZeros_0f7a4_66 (by decide) (by decide), List.forall_mem_cons.mpr ⟨ok_iload_n dJ6_numberOfLeadingZeros_0f7a4_69 rfl, List.forall_mem_cons.mpr ⟨ok_iconst dJ6_numberOfLeadingZeros_0f7a4_70 (by decide), List.forall_mem_cons.mpr ⟨ok_iushr dJ6_numberOfLeadingZeros_0f7a4_71, List.forall_mem_cons.mpr ⟨ok_istore_n dJ6_numberOfLeadingZeros_0f7a4_72 rfl (by decide), List.forall_mem_cons.mpr ⟨ok_iload_n dJ6_numberOfLeadingZeros_0f7a4_73 rfl, List.forall_mem_cons.mpr ⟨ok_iload_n dJ6_numberOfLeadingZeros_0f7a4_74 rfl, List.forall_mem_cons.mpr ⟨ok_iconst dJ6_numberOfLeadingZeros_0f7a4_75 (by decide), List.forall_mem_cons.mpr ⟨ok_iushr dJ6_numberOfLeadingZeros_0f7a4_76, List.forall_mem_cons.mpr ⟨ok_isub dJ6_numberOfLeadingZeros_0f7a4_77, List.forall_mem_cons.mpr ⟨ok_iret (bz := false) dJ6_numberOfLeadingZeros_0f7a4_78 rfl, fun _ h => absurd h List.not_mem_nil⟩⟩⟩⟩⟩⟩⟩⟩⟩⟩⟩⟩⟩⟩⟩⟩⟩⟩⟩⟩⟩⟩⟩⟩
def kJ6_numberOfLeadingZeros_0f7a4 : List (Nat × zT) := kJ6_numberOfLeadingZeros_0f7a4_0 ++ (kJ6_numberOfLeadingZeros_0f7a4_1)
theorem qJ6_numberOfLeadingZeros_0f7a4_0 : ∀ q ∈ kJ6_numberOfLeadingZeros_0f7a4_0, q ∈ kJ6_numberOfLeadingZeros_0f7a4 := fun _ h => (List.mem_append_left _ h)
theorem tJ6_numberOfLeadingZeros_0f7a4_0 : (0, a_iload 0 1) ∈ kJ6_numberOfLeadingZeros_0f7a4 := qJ6_numberOfLeadingZeros_0f7a4_0 _ (List.mem_of_getElem? (i := 0) rfl)
theorem tJ6_numberOfLeadingZeros_0f7a4_1 : (1, a_if_gt 15 4) ∈ kJ6_numberOfLeadingZeros_0f7a4 := qJ6_numberOfLeadingZeros_0f7a4_0 _ (List.mem_of_getElem? (i := 1) rfl)
theorem tJ6_numberOfLeadingZeros_0f7a4_4 : (4, a_iload 0 5) ∈ kJ6_numberOfLeadingZeros_0f7a4 := qJ6_numberOfLeadingZeros_0f7a4_0 _ (List.mem_of_getElem? (i := 2) rfl)
theorem tJ6_numberOfLeadingZeros_0f7a4_5 : (5, a_if_ne 13 8) ∈ kJ6_numberOfLeadingZeros_0f7a4 := qJ6_numberOfLeadingZeros_0f7a4_0 _ (List.mem_of_getElem? (i := 3) rfl)
theorem tJ6_numberOfLeadingZeros_0f7a4_8 : (8, a_i 32 10) ∈ kJ6_numberOfLeadingZeros_0f7a4 := qJ6_numberOfLeadingZeros_0f7a4_0 _ (List.mem_of_getElem? (i := 4) rfl)
theorem tJ6_numberOfLeadingZeros_0f7a4_10 : (10, a_goto 14) ∈ kJ6_numberOfLeadingZeros_0f7a4 := qJ6_numberOfLeadingZeros_0f7a4_0 _ (List.mem_of_getElem? (i := 5) rfl)
theorem tJ6_numberOfLeadingZeros_0f7a4_13 : (13, a_i 0 14) ∈ kJ6_numberOfLeadingZeros_0f7a4 := qJ6_numberOfLeadingZeros_0f7a4_0 _ (List.mem_of_getElem? (i := 6) rfl)
theorem tJ6_numberOfLeadingZeros_0f7a4_14 : (14, a_iret false) ∈ kJ6_numberOfLeadingZeros_0f7a4 := qJ6_numberOfLeadingZeros_0f7a4_0 _ (List.mem_of_getElem? (i := 7) rfl)
theorem tJ6_numberOfLeadingZeros_0f7a4_15 : (15, a_i 31 17) ∈ kJ6_numberOfLeadingZeros_0f7a4 := qJ6_numberOfLeadingZeros_0f7a4_0 _ (List.mem_of_getElem? (i := 8) rfl)
theorem tJ6_numberOfLeadingZeros_0f7a4_17 : (17, a_istore 1 18) ∈ kJ6_numberOfLeadingZeros_0f7a4 := qJ6_numberOfLeadingZeros_0f7a4_0 _ (List.mem_of_getElem? (i := 9) rfl)
theorem tJ6_numberOfLeadingZeros_0f7a4_18 : (18, a_iload 0 19) ∈ kJ6_numberOfLeadingZeros_0f7a4 := qJ6_numberOfLeadingZeros_0f7a4_0 _ (List.mem_of_getElem? (i := 10) rfl)
theorem tJ6_numberOfLeadingZeros_0f7a4_19 : (19, a_i 65536 22) ∈ kJ6_numberOfLeadingZeros_0f7a4 := qJ6_numberOfLeadingZeros_0f7a4_0 _ (List.mem_of_getElem? (i := 11) rfl)
theorem tJ6_numberOfLeadingZeros_0f7a4_22 : (22, a_ic_lt 33 25) ∈ kJ6_numberOfLeadingZeros_0f7a4 := qJ6_numberOfLeadingZeros_0f7a4_0 _ (List.mem_of_getElem? (i := 12) rfl)
theorem tJ6_numberOfLeadingZeros_0f7a4_25 : (25, a_iinc 1 (-16) 28) ∈ kJ6_numberOfLeadingZeros_0f7a4 := qJ6_numberOfLeadingZeros_0f7a4_0 _ (List.mem_of_getElem? (i := 13) rfl)
theorem tJ6_numberOfLeadingZeros_0f7a4_28 : (28, a_iload 0 29) ∈ kJ6_numberOfLeadingZeros_0f7a4 := qJ6_numberOfLeadingZeros_0f7a4_0 _ (List.mem_of_getElem? (i := 14) rfl)
theorem tJ6_numberOfLeadingZeros_0f7a4_29 : (29, a_i 16 31) ∈ kJ6_numberOfLeadingZeros_0f7a4 := qJ6_numberOfLeadingZeros_0f7a4_0 _ (List.mem_of_getElem? (i := 15) rfl)
theorem tJ6_numberOfLeadingZeros_0f7a4_31 : (31, a_ii (fun x y => (x.toUInt32 >>> (y.toUInt32 &&& Int32.toUInt32 31)).toInt32) 32) ∈ kJ6_numberOfLeadingZeros_0f7a4 := qJ6_numberOfLeadingZeros_0f7a4_0 _ (List.mem_of_getElem? (i := 16) rfl)
theorem tJ6_numberOfLeadingZeros_0f7a4_32 : (32, a_istore 0 33) ∈ kJ6_numberOfLeadingZeros_0f7a4 := qJ6_numberOfLeadingZeros_0f7a4_0 _ (List.mem_of_getElem? (i := 17) rfl)
theorem tJ6_numberOfLeadingZeros_0f7a4_33 : (33, a_iload 0 34) ∈ kJ6_numberOfLeadingZeros_0f7a4 := qJ6_numberOfLeadingZeros_0f7a4_0 _ (List.mem_of_getElem? (i := 18) rfl)
theorem tJ6_numberOfLeadingZeros_0f7a4_34 : (34, a_i 256 37) ∈ kJ6_numberOfLeadingZeros_0f7a4 := qJ6_numberOfLeadingZeros_0f7a4_0 _ (List.mem_of_getElem? (i := 19) rfl)
theorem tJ6_numberOfLeadingZeros_0f7a4_37 : (37, a_ic_lt 48 40) ∈ kJ6_numberOfLeadingZeros_0f7a4 := qJ6_numberOfLeadingZeros_0f7a4_0 _ (List.mem_of_getElem? (i := 20) rfl)
theorem tJ6_numberOfLeadingZeros_0f7a4_40 : (40, a_iinc 1 (-8) 43) ∈ kJ6_numberOfLeadingZeros_0f7a4 := qJ6_numberOfLeadingZeros_0f7a4_0 _ (List.mem_of_getElem? (i := 21) rfl)
theorem tJ6_numberOfLeadingZeros_0f7a4_43 : (43, a_iload 0 44) ∈ kJ6_numberOfLeadingZeros_0f7a4 := qJ6_numberOfLeadingZeros_0f7a4_0 _ (List.mem_of_getElem? (i := 22) rfl)
theorem tJ6_numberOfLeadingZeros_0f7a4_44 : (44, a_i 8 46) ∈ kJ6_numberOfLeadingZeros_0f7a4 := qJ6_numberOfLeadingZeros_0f7a4_0 _ (List.mem_of_getElem? (i := 23) rfl)
theorem qJ6_numberOfLeadingZeros_0f7a4_1 : ∀ q ∈ kJ6_numberOfLeadingZeros_0f7a4_1, q ∈ kJ6_numberOfLeadingZeros_0f7a4 := fun _ h => (List.mem_append_right _ h)
theorem tJ6_numberOfLeadingZeros_0f7a4_46 : (46, a_ii (fun x y => (x.toUInt32 >>> (y.toUInt32 &&& Int32.toUInt32 31)).toInt32) 47) ∈ kJ6_numberOfLeadingZeros_0f7a4 := qJ6_numberOfLeadingZeros_0f7a4_1 _ (List.mem_of_getElem? (i := 0) rfl)
theorem tJ6_numberOfLeadingZeros_0f7a4_47 : (47, a_istore 0 48) ∈ kJ6_numberOfLeadingZeros_0f7a4 := qJ6_numberOfLeadingZeros_0f7a4_1 _ (List.mem_of_getElem? (i := 1) rfl)
theorem tJ6_numberOfLeadingZeros_0f7a4_48 : (48, a_iload 0 49) ∈ kJ6_numberOfLeadingZeros_0f7a4 := qJ6_numberOfLeadingZeros_0f7a4_1 _ (List.mem_of_getElem? (i := 2) rfl)
theorem tJ6_numberOfLeadingZeros_0f7a4_49 : (49, a_i 16 51) ∈ kJ6_numberOfLeadingZeros_0f7a4 := qJ6_numberOfLeadingZeros_0f7a4_1 _ (List.mem_of_getElem? (i := 3) rfl)
theorem tJ6_numberOfLeadingZeros_0f7a4_51 : (51, a_ic_lt 61 54) ∈ kJ6_numberOfLeadingZeros_0f7a4 := qJ6_numberOfLeadingZeros_0f7a4_1 _ (List.mem_of_getElem? (i := 4) rfl)
theorem tJ6_numberOfLeadingZeros_0f7a4_54 : (54, a_iinc 1 (-4) 57) ∈ kJ6_numberOfLeadingZeros_0f7a4 := qJ6_numberOfLeadingZeros_0f7a4_1 _ (List.mem_of_getElem? (i := 5) rfl)
theorem tJ6_numberOfLeadingZeros_0f7a4_57 : (57, a_iload 0 58) ∈ kJ6_numberOfLeadingZeros_0f7a4 := qJ6_numberOfLeadingZeros_0f7a4_1 _ (List.mem_of_getElem? (i := 6) rfl)
theorem tJ6_numberOfLeadingZeros_0f7a4_58 : (58, a_i 4 59) ∈ kJ6_numberOfLeadingZeros_0f7a4 := qJ6_numberOfLeadingZeros_0f7a4_1 _ (List.mem_of_getElem? (i := 7) rfl)
theorem tJ6_numberOfLeadingZeros_0f7a4_59 : (59, a_ii (fun x y => (x.toUInt32 >>> (y.toUInt32 &&& Int32.toUInt32 31)).toInt32) 60) ∈ kJ6_numberOfLeadingZeros_0f7a4 := qJ6_numberOfLeadingZeros_0f7a4_1 _ (List.mem_of_getElem? (i := 8) rfl)
theorem tJ6_numberOfLeadingZeros_0f7a4_60 : (60, a_istore 0 61) ∈ kJ6_numberOfLeadingZeros_0f7a4 := qJ6_numberOfLeadingZeros_0f7a4_1 _ (List.mem_of_getElem? (i := 9) rfl)
theorem tJ6_numberOfLeadingZeros_0f7a4_61 : (61, a_iload 0 62) ∈ kJ6_numberOfLeadingZeros_0f7a4 := qJ6_numberOfLeadingZeros_0f7a4_1 _ (List.mem_of_getElem? (i := 10) rfl)
theorem tJ6_numberOfLeadingZeros_0f7a4_62 : (62, a_i 4 63) ∈ kJ6_numberOfLeadingZeros_0f7a4 := qJ6_numberOfLeadingZeros_0f7a4_1 _ (List.mem_of_getElem? (i := 11) rfl)
theorem tJ6_numberOfLeadingZeros_0f7a4_63 : (63, a_ic_lt 73 66) ∈ kJ6_numberOfLeadingZeros_0f7a4 := qJ6_numberOfLeadingZeros_0f7a4_1 _ (List.mem_of_getElem? (i := 12) rfl)
theorem tJ6_numberOfLeadingZeros_0f7a4_66 : (66, a_iinc 1 (-2) 69) ∈ kJ6_numberOfLeadingZeros_0f7a4 := qJ6_numberOfLeadingZeros_0f7a4_1 _ (List.mem_of_getElem? (i := 13) rfl)
theorem tJ6_numberOfLeadingZeros_0f7a4_69 : (69, a_iload 0 70) ∈ kJ6_numberOfLeadingZeros_0f7a4 := qJ6_numberOfLeadingZeros_0f7a4_1 _ (List.mem_of_getElem? (i := 14) rfl)
theorem tJ6_numberOfLeadingZeros_0f7a4_70 : (70, a_i 2 71) ∈ kJ6_numberOfLeadingZeros_0f7a4 := qJ6_numberOfLeadingZeros_0f7a4_1 _ (List.mem_of_getElem? (i := 15) rfl)
theorem tJ6_numberOfLeadingZeros_0f7a4_71 : (71, a_ii (fun x y => (x.toUInt32 >>> (y.toUInt32 &&& Int32.toUInt32 31)).toInt32) 72) ∈ kJ6_numberOfLeadingZeros_0f7a4 := qJ6_numberOfLeadingZeros_0f7a4_1 _ (List.mem_of_getElem? (i := 16) rfl)
theorem tJ6_numberOfLeadingZeros_0f7a4_72 : (72, a_istore 0 73) ∈ kJ6_numberOfLeadingZeros_0f7a4 := qJ6_numberOfLeadingZeros_0f7a4_1 _ (List.mem_of_getElem? (i := 17) rfl)
theorem tJ6_numberOfLeadingZeros_0f7a4_73 : (73, a_iload 1 74) ∈ kJ6_numberOfLeadingZeros_0f7a4 := qJ6_numberOfLeadingZeros_0f7a4_1 _ (List.mem_of_getElem? (i := 18) rfl)
theorem tJ6_numberOfLeadingZeros_0f7a4_74 : (74, a_iload 0 75) ∈ kJ6_numberOfLeadingZeros_0f7a4 := qJ6_numberOfLeadingZeros_0f7a4_1 _ (List.mem_of_getElem? (i := 19) rfl)
theorem tJ6_numberOfLeadingZeros_0f7a4_75 : (75, a_i 1 76) ∈ kJ6_numberOfLeadingZeros_0f7a4 := qJ6_numberOfLeadingZeros_0f7a4_1 _ (List.mem_of_getElem? (i := 20) rfl)
theorem tJ6_numberOfLeadingZeros_0f7a4_76 : (76, a_ii (fun x y => (x.toUInt32 >>> (y.toUInt32 &&& Int32.toUInt32 31)).toInt32) 77) ∈ kJ6_numberOfLeadingZeros_0f7a4 := qJ6_numberOfLeadingZeros_0f7a4_1 _ (List.mem_of_getElem? (i := 21) rfl)
theorem tJ6_numberOfLeadingZeros_0f7a4_77 : (77, a_ii (fun x y => x - y) 78) ∈ kJ6_numberOfLeadingZeros_0f7a4 := qJ6_numberOfLeadingZeros_0f7a4_1 _ (List.mem_of_getElem? (i := 22) rfl)
theorem tJ6_numberOfLeadingZeros_0f7a4_78 : (78, a_iret false) ∈ kJ6_numberOfLeadingZeros_0f7a4 := qJ6_numberOfLeadingZeros_0f7a4_1 _ (List.mem_of_getElem? (i := 23) rfl)
theorem oJ6_numberOfLeadingZeros_0f7a4 : ∀ q ∈ kJ6_numberOfLeadingZeros_0f7a4, zSnd zty false RJ6 cJ6_numberOfLeadingZeros_0f7a4 2 (some .int) false q := List.forall_mem_append.mpr ⟨oJ6_numberOfLeadingZeros_0f7a4_0, oJ6_numberOfLeadingZeros_0f7a4_1⟩
theorem dJ6_numberOfTrailingZeros_0f7a4_0 : decode cJ6_numberOfTrailingZeros_0f7a4 0 = .ok (.iload_n 0, 1) := by decide +kernel
theorem dJ6_numberOfTrailingZeros_0f7a4_1 : decode cJ6_numberOfTrailingZeros_0f7a4 1 = .ok (.iconst (-1), 1) := by decide +kernel
theorem dJ6_numberOfTrailingZeros_0f7a4_2 : decode cJ6_numberOfTrailingZeros_0f7a4 2 = .ok (.ixor, 1) := by decide +kernel
theorem dJ6_numberOfTrailingZeros_0f7a4_3 : decode cJ6_numberOfTrailingZeros_0f7a4 3 = .ok (.iload_n 0, 1) := by decide +kernel
theorem dJ6_numberOfTrailingZeros_0f7a4_4 : decode cJ6_numberOfTrailingZeros_0f7a4 4 = .ok (.iconst 1, 1) := by decide +kernel
theorem dJ6_numberOfTrailingZeros_0f7a4_5 : decode cJ6_numberOfTrailingZeros_0f7a4 5 = .ok (.isub, 1) := by decide +kernel
theorem dJ6_numberOfTrailingZeros_0f7a4_6 : decode cJ6_numberOfTrailingZeros_0f7a4 6 = .ok (.iand, 1) := by decide +kernel
theorem dJ6_numberOfTrailingZeros_0f7a4_7 : decode cJ6_numberOfTrailingZeros_0f7a4 7 = .ok (.istore_n 0, 1) := by decide +kernel
theorem dJ6_numberOfTrailingZeros_0f7a4_8 : decode cJ6_numberOfTrailingZeros_0f7a4 8 = .ok (.iload_n 0, 1) := by decide +kernel
theorem dJ6_numberOfTrailingZeros_0f7a4_9 : decode cJ6_numberOfTrailingZeros_0f7a4 9 = .ok (.ifCond .gt 8, 3) := by decide +kernel
theorem dJ6_numberOfTrailingZeros_0f7a4_12 : decode cJ6_numberOfTrailingZeros_0f7a4 12 = .ok (.iload_n 0, 1) := by decide +kernel
theorem dJ6_numberOfTrailingZeros_0f7a4_13 : decode cJ6_numberOfTrailingZeros_0f7a4 13 = .ok (.bipush 32, 2) := by decide +kernel
theorem dJ6_numberOfTrailingZeros_0f7a4_15 : decode cJ6_numberOfTrailingZeros_0f7a4 15 = .ok (.iand, 1) := by decide +kernel
theorem dJ6_numberOfTrailingZeros_0f7a4_16 : decode cJ6_numberOfTrailingZeros_0f7a4 16 = .ok (.ireturn, 1) := by decide +kernel
theorem dJ6_numberOfTrailingZeros_0f7a4_17 : decode cJ6_numberOfTrailingZeros_0f7a4 17 = .ok (.iconst 1, 1) := by decide +kernel
theorem dJ6_numberOfTrailingZeros_0f7a4_18 : decode cJ6_numberOfTrailingZeros_0f7a4 18 = .ok (.istore_n 1, 1) := by decide +kernel
theorem dJ6_numberOfTrailingZeros_0f7a4_19 : decode cJ6_numberOfTrailingZeros_0f7a4 19 = .ok (.iload_n 0, 1) := by decide +kernel
theorem dJ6_numberOfTrailingZeros_0f7a4_20 : decode cJ6_numberOfTrailingZeros_0f7a4 20 = .ok (.ldc_w 264, 3) := by decide +kernel
theorem dJ6_numberOfTrailingZeros_0f7a4_23 : decode cJ6_numberOfTrailingZeros_0f7a4 23 = .ok (.if_icmp .le 11, 3) := by decide +kernel
theorem dJ6_numberOfTrailingZeros_0f7a4_26 : decode cJ6_numberOfTrailingZeros_0f7a4 26 = .ok (.iinc 1 16, 3) := by decide +kernel
theorem dJ6_numberOfTrailingZeros_0f7a4_29 : decode cJ6_numberOfTrailingZeros_0f7a4 29 = .ok (.iload_n 0, 1) := by decide +kernel
theorem dJ6_numberOfTrailingZeros_0f7a4_30 : decode cJ6_numberOfTrailingZeros_0f7a4 30 = .ok (.bipush 16, 2) := by decide +kernel
theorem dJ6_numberOfTrailingZeros_0f7a4_32 : decode cJ6_numberOfTrailingZeros_0f7a4 32 = .ok (.iushr, 1) := by decide +kernel
theorem dJ6_numberOfTrailingZeros_0f7a4_33 : decode cJ6_numberOfTrailingZeros_0f7a4 33 = .ok (.istore_n 0, 1) := by decide +kernel
theorem dJ6_numberOfTrailingZeros_0f7a4_34 : decode cJ6_numberOfTrailingZeros_0f7a4 34 = .ok (.iload_n 0, 1) := by decide +kernel
theorem dJ6_numberOfTrailingZeros_0f7a4_35 : decode cJ6_numberOfTrailingZeros_0f7a4 35 = .ok (.sipush 256, 3) := by decide +kernel
theorem dJ6_numberOfTrailingZeros_0f7a4_38 : decode cJ6_numberOfTrailingZeros_0f7a4 38 = .ok (.if_icmp .le 11, 3) := by decide +kernel
theorem dJ6_numberOfTrailingZeros_0f7a4_41 : decode cJ6_numberOfTrailingZeros_0f7a4 41 = .ok (.iinc 1 8, 3) := by decide +kernel
theorem dJ6_numberOfTrailingZeros_0f7a4_44 : decode cJ6_numberOfTrailingZeros_0f7a4 44 = .ok (.iload_n 0, 1) := by decide +kernel
theorem dJ6_numberOfTrailingZeros_0f7a4_45 : decode cJ6_numberOfTrailingZeros_0f7a4 45 = .ok (.bipush 8, 2) := by decide +kernel
theorem dJ6_numberOfTrailingZeros_0f7a4_47 : decode cJ6_numberOfTrailingZeros_0f7a4 47 = .ok (.iushr, 1) := by decide +kernel
theorem dJ6_numberOfTrailingZeros_0f7a4_48 : decode cJ6_numberOfTrailingZeros_0f7a4 48 = .ok (.istore_n 0, 1) := by decide +kernel
theorem dJ6_numberOfTrailingZeros_0f7a4_49 : decode cJ6_numberOfTrailingZeros_0f7a4 49 = .ok (.iload_n 0, 1) := by decide +kernel
theorem dJ6_numberOfTrailingZeros_0f7a4_50 : decode cJ6_numberOfTrailingZeros_0f7a4 50 = .ok (.bipush 16, 2) := by decide +kernel
theorem dJ6_numberOfTrailingZeros_0f7a4_52 : decode cJ6_numberOfTrailingZeros_0f7a4 52 = .ok (.if_icmp .le 10, 3) := by decide +kernel
theorem dJ6_numberOfTrailingZeros_0f7a4_55 : decode cJ6_numberOfTrailingZeros_0f7a4 55 = .ok (.iinc 1 4, 3) := by decide +kernel
theorem dJ6_numberOfTrailingZeros_0f7a4_58 : decode cJ6_numberOfTrailingZeros_0f7a4 58 = .ok (.iload_n 0, 1) := by decide +kernel
theorem dJ6_numberOfTrailingZeros_0f7a4_59 : decode cJ6_numberOfTrailingZeros_0f7a4 59 = .ok (.iconst 4, 1) := by decide +kernel
theorem dJ6_numberOfTrailingZeros_0f7a4_60 : decode cJ6_numberOfTrailingZeros_0f7a4 60 = .ok (.iushr, 1) := by decide +kernel
theorem dJ6_numberOfTrailingZeros_0f7a4_61 : decode cJ6_numberOfTrailingZeros_0f7a4 61 = .ok (.istore_n 0, 1) := by decide +kernel
theorem dJ6_numberOfTrailingZeros_0f7a4_62 : decode cJ6_numberOfTrailingZeros_0f7a4 62 = .ok (.iload_n 0, 1) := by decide +kernel
theorem dJ6_numberOfTrailingZeros_0f7a4_63 : decode cJ6_numberOfTrailingZeros_0f7a4 63 = .ok (.iconst 4, 1) := by decide +kernel
theorem dJ6_numberOfTrailingZeros_0f7a4_64 : decode cJ6_numberOfTrailingZeros_0f7a4 64 = .ok (.if_icmp .le 10, 3) := by decide +kernel
theorem dJ6_numberOfTrailingZeros_0f7a4_67 : decode cJ6_numberOfTrailingZeros_0f7a4 67 = .ok (.iinc 1 2, 3) := by decide +kernel
theorem dJ6_numberOfTrailingZeros_0f7a4_70 : decode cJ6_numberOfTrailingZeros_0f7a4 70 = .ok (.iload_n 0, 1) := by decide +kernel
theorem dJ6_numberOfTrailingZeros_0f7a4_71 : decode cJ6_numberOfTrailingZeros_0f7a4 71 = .ok (.iconst 2, 1) := by decide +kernel
theorem dJ6_numberOfTrailingZeros_0f7a4_72 : decode cJ6_numberOfTrailingZeros_0f7a4 72 = .ok (.iushr, 1) := by decide +kernel
theorem dJ6_numberOfTrailingZeros_0f7a4_73 : decode cJ6_numberOfTrailingZeros_0f7a4 73 = .ok (.istore_n 0, 1) := by decide +kernel
theorem dJ6_numberOfTrailingZeros_0f7a4_74 : decode cJ6_numberOfTrailingZeros_0f7a4 74 = .ok (.iload_n 1, 1) := by decide +kernel
theorem dJ6_numberOfTrailingZeros_0f7a4_75 : decode cJ6_numberOfTrailingZeros_0f7a4 75 = .ok (.iload_n 0, 1) := by decide +kernel
theorem dJ6_numberOfTrailingZeros_0f7a4_76 : decode cJ6_numberOfTrailingZeros_0f7a4 76 = .ok (.iconst 1, 1) := by decide +kernel
theorem dJ6_numberOfTrailingZeros_0f7a4_77 : decode cJ6_numberOfTrailingZeros_0f7a4 77 = .ok (.iushr, 1) := by decide +kernel
theorem dJ6_numberOfTrailingZeros_0f7a4_78 : decode cJ6_numberOfTrailingZeros_0f7a4 78 = .ok (.iadd, 1) := by decide +kernel
theorem dJ6_numberOfTrailingZeros_0f7a4_79 : decode cJ6_numberOfTrailingZeros_0f7a4 79 = .ok (.ireturn, 1) := by decide +kernel
def kJ6_numberOfTrailingZeros_0f7a4_0 : List (Nat × zT) := [(0, a_iload 0 1), (1, a_i (-1) 2), (2, a_ii (fun x y => x ^^^ y) 3), (3, a_iload 0 4), (4, a_i 1 5), (5, a_ii (fun x y => x - y) 6), (6, a_ii (fun x y => x &&& y) 7), (7, a_istore 0 8), (8, a_iload 0 9), (9, a_if_gt 17 12), (12, a_iload 0 13), (13, a_i 32 15), (15, a_ii (fun x y => x &&& y) 16), (16, a_iret false), (17, a_i 1 18), (18, a_istore 1 19), (19, a_iload 0 20), (20, a_i 65536 23), (23, a_ic_le 34 26), (26, a_iinc 1 16 29), (29, a_iload 0 30), (30, a_i 16 32), (32, a_ii (fun x y => (x.toUInt32 >>> (y.toUInt32 &&& Int32.toUInt32 31)).toInt32) 33), (33, a_istore 0 34)]
theorem oJ6_numberOfTrailingZeros_0f7a4_0 : ∀ q ∈ kJ6_numberOfTrailingZeros_0f7a4_0, zSnd zty false RJ6 cJ6_numberOfTrailingZeros_0f7a4 2 (some .int) false q := List.forall_mem_cons.mpr ⟨ok_iload_n dJ6_numberOfTrailingZeros_0f7a4_0 rfl, List.forall_mem_cons.mpr ⟨ok_iconst dJ6_numberOfTrailingZeros_0f7a4_1 (by decide), List.forall_mem_cons.mpr ⟨ok_ixor dJ6_numberOfTrailingZeros_0f7a4_2, List.forall_mem_cons.mpr ⟨ok_iload_n dJ6_numberOfTrailingZeros_0f7a4_3 rfl, List.forall_mem_cons.mpr ⟨ok_iconst dJ6_numberOfTrailingZeros_0f7a4_4 (by decide), List.forall_mem_cons.mpr ⟨ok_isub dJ6_numberOfTrailingZeros_0f7a4_5, List.forall_mem_cons.mpr ⟨ok_iand dJ6_numberOfTrailingZeros_0f7a4_6, List.forall_mem_cons.mpr ⟨ok_istore_n dJ6_numberOfTrailingZeros_0f7a4_7 rfl (by decide), List.forall_mem_cons.mpr ⟨ok_iload_n dJ6_numberOfTrailingZeros_0f7a4_8 rfl, List.forall_mem_cons.mpr ⟨ok_if_gt dJ6_numberOfTrailingZeros_0f7a4_9 (by decide), List.forall_mem_cons.mpr ⟨ok_iload_n dJ6_numberOfTrailingZeros_0f7a4_12 rfl, List.forall_mem_cons.mpr ⟨ok_bipush dJ6_numberOfTrailingZeros_0f7a4_13 (by decide), List.forall_mem_cons.mpr ⟨ok_iand dJ6_numberOfTrailingZeros_0f7a4_15, List.forall_mem_cons.mpr ⟨ok_iret (bz := false) dJ6_numberOfTrailingZeros_0f7a4_16 rfl, List.forall_mem_cons.mpr ⟨ok_iconst dJ6_numberOfTrailingZeros_0f7a4_17 (by decide), List.forall_mem_cons.mpr ⟨ok_istore_n dJ6_numberOfTrailingZeros_0f7a4_18 rfl (by decide), List.forall_mem_cons.mpr ⟨ok_iload_n dJ6_numberOfTrailingZeros_0f7a4_19 rfl, List.forall_mem_cons.mpr ⟨ok_ldcw dJ6_numberOfTrailingZeros_0f7a4_20 w642, List.forall_mem_cons.mpr ⟨ok_ic_le dJ6_numberOfTrailingZeros_0f7a4_23 (by decide), List.forall_mem_cons.mpr ⟨ok_iinc dJ6_numberOfTrailingZeros_0f7a4_26 (by decide) (by decide), List.forall_mem_cons.mpr ⟨ok_iload_n dJ6_numberOfTrailingZeros_0f7a4_29 rfl, List.forall_mem_cons.mpr ⟨ok_bipush dJ6_numberOfTrailingZeros_0f7a4_30 (by decide), List.forall_mem_cons.mpr ⟨ok_iushr dJ6_numberOfTrailingZeros_0f7a4_32, List.forall_mem_cons.mpr ⟨ok_istore_n dJ6_numberOfTrailingZeros_0f7a4_33 rfl (by decide), fun _ h => absurd h List.not_mem_nil⟩⟩⟩⟩⟩⟩⟩⟩⟩⟩⟩⟩⟩⟩⟩⟩⟩⟩⟩⟩⟩⟩⟩⟩
def kJ6_numberOfTrailingZeros_0f7a4_1 : List (Nat × zT) := [(34, a_iload 0 35), (35, a_i 256 38), (38, a_ic_le 49 41), (41, a_iinc 1 8 44), (44, a_iload 0 45), (45, a_i 8 47), (47, a_ii (fun x y => (x.toUInt32 >>> (y.toUInt32 &&& Int32.toUInt32 31)).toInt32) 48), (48, a_istore 0 49), (49, a_iload 0 50), (50, a_i 16 52), (52, a_ic_le 62 55), (55, a_iinc 1 4 58), (58, a_iload 0 59), (59, a_i 4 60), (60, a_ii (fun x y => (x.toUInt32 >>> (y.toUInt32 &&& Int32.toUInt32 31)).toInt32) 61), (61, a_istore 0 62), (62, a_iload 0 63), (63, a_i 4 64), (64, a_ic_le 74 67), (67, a_iinc 1 2 70), (70, a_iload 0 71), (71, a_i 2 72), (72, a_ii (fun x y => (x.toUInt32 >>> (y.toUInt32 &&& Int32.toUInt32 31)).toInt32) 73), (73, a_istore 0 74)]
theorem oJ6_numberOfTrailingZeros_0f7a4_1 : ∀ q ∈ kJ6_numberOfTrailingZeros_0f7a4_1, zSnd zty false RJ6 cJ6_numberOfTrailingZeros_0f7a4 2 (some .int) false q := List.forall_mem_cons.mpr ⟨ok_iload_n dJ6_numberOfTrailingZeros_0f7a4_34 rfl, List.forall_mem_cons.mpr ⟨ok_sipush dJ6_numberOfTrailingZeros_0f7a4_35 (by decide), List.forall_mem_cons.mpr ⟨ok_ic_le dJ6_numberOfTrailingZeros_0f7a4_38 (by decide), List.forall_mem_cons.mpr ⟨ok_iinc dJ6_numberOfTrailingZeros_0f7a4_41 (by decide) (by decide), List.forall_mem_cons.mpr ⟨ok_iload_n dJ6_numberOfTrailingZeros_0f7a4_44 rfl, List.forall_mem_cons.mpr ⟨ok_bipush dJ6_numberOfTrailingZeros_0f7a4_45 (by decide), List.forall_mem_cons.mpr ⟨ok_iushr dJ6_numberOfTrailingZeros_0f7a4_47, List.forall_mem_cons.mpr ⟨ok_istore_n dJ6_numberOfTrailingZeros_0f7a4_48 rfl (by decide), List.forall_mem_cons.mpr ⟨ok_iload_n dJ6_numberOfTrailingZeros_0f7a4_49 rfl, List.forall_mem_cons.mpr ⟨ok_bipush dJ6_numberOfTrailingZeros_0f7a4_50 (by decide), List.forall_mem_cons.mpr ⟨ok_ic_le dJ6_numberOfTrailingZeros_0f7a4_52 (by decide), List.forall_mem_cons.mpr ⟨ok_iinc dJ6_numberOfTrailingZeros_0f7a4_55 (by decide) (by decide), List.forall_mem_cons.mpr ⟨ok_iload_n dJ6_numberOfTrailingZeros_0f7a4_58 rfl, List.forall_mem_cons.mpr ⟨ok_iconst dJ6_numberOfTrailingZeros_0f7a4_59 (by decide), List.forall_mem_cons.mpr ⟨ok_iushr dJ6_numberOfTrailingZeros_0f7a4_60, List.forall_mem_cons.mpr ⟨ok_istore_n dJ6_numberOfTrailingZeros_0f7a4_61 rfl (by decide), List.forall_mem_cons.mpr ⟨ok_iload_n dJ6_numberOfTrailingZeros_0f7a4_62 rfl, List.forall_mem_cons.mpr ⟨ok_iconst dJ6_numberOfTrailingZeros_0f7a4_63 (by decide), List.forall_mem_cons.mpr ⟨ok_ic_le dJ6_numberOfTrailingZeros_0f7a4_64 (by decide), List.forall_mem_cons.mpr ⟨ok_iinc dJ6_numberOfTrailingZeros_0f7a4_67 (by decide) (by decide), List.forall_mem_cons.mpr ⟨ok_iload_n dJ6_numberOfTrailingZeros_0f7a4_70 rfl, List.forall_mem_cons.mpr ⟨ok_iconst dJ6_numberOfTrailingZeros_0f7a4_71 (by decide), List.forall_mem_cons.mpr ⟨ok_iushr dJ6_numberOfTrailingZeros_0f7a4_72, List.forall_mem_cons.mpr ⟨ok_istore_n dJ6_numberOfTrailingZeros_0f7a4_73 rfl (by decide), fun _ h => absurd h List.not_mem_nil⟩⟩⟩⟩⟩⟩⟩⟩⟩⟩⟩⟩⟩⟩⟩⟩⟩⟩⟩⟩⟩⟩⟩⟩
def kJ6_numberOfTrailingZeros_0f7a4_2 : List (Nat × zT) := [(74, a_iload 1 75), (75, a_iload 0 76), (76, a_i 1 77), (77, a_ii (fun x y => (x.toUInt32 >>> (y.toUInt32 &&& Int32.toUInt32 31)).toInt32) 78), (78, a_ii (fun x y => x + y) 79), (79, a_iret false)]
theorem oJ6_numberOfTrailingZeros_0f7a4_2 : ∀ q ∈ kJ6_numberOfTrailingZeros_0f7a4_2, zSnd zty false RJ6 cJ6_numberOfTrailingZeros_0f7a4 2 (some .int) false q := List.forall_mem_cons.mpr ⟨ok_iload_n dJ6_numberOfTrailingZeros_0f7a4_74 rfl, List.forall_mem_cons.mpr ⟨ok_iload_n dJ6_numberOfTrailingZeros_0f7a4_75 rfl, List.forall_mem_cons.mpr ⟨ok_iconst dJ6_numberOfTrailingZeros_0f7a4_76 (by decide), List.forall_mem_cons.mpr ⟨ok_iushr dJ6_numberOfTrailingZeros_0f7a4_77, List.forall_mem_cons.mpr ⟨ok_iadd dJ6_numberOfTrailingZeros_0f7a4_78, List.forall_mem_cons.mpr ⟨ok_iret (bz := false) dJ6_numberOfTrailingZeros_0f7a4_79 rfl, fun _ h => absurd h List.not_mem_nil⟩⟩⟩⟩⟩⟩
def kJ6_numberOfTrailingZeros_0f7a4 : List (Nat × zT) := kJ6_numberOfTrailingZeros_0f7a4_0 ++ (kJ6_numberOfTrailingZeros_0f7a4_1 ++ (kJ6_numberOfTrailingZeros_0f7a4_2))
theorem qJ6_numberOfTrailingZeros_0f7a4_0 : ∀ q ∈ kJ6_numberOfTrailingZeros_0f7a4_0, q ∈ kJ6_numberOfTrailingZeros_0f7a4 := fun _ h => (List.mem_append_left _ h)
theorem tJ6_numberOfTrailingZeros_0f7a4_0 : (0, a_iload 0 1) ∈ kJ6_numberOfTrailingZeros_0f7a4 := qJ6_numberOfTrailingZeros_0f7a4_0 _ (List.mem_of_getElem? (i := 0) rfl)
theorem tJ6_numberOfTrailingZeros_0f7a4_1 : (1, a_i (-1) 2) ∈ kJ6_numberOfTrailingZeros_0f7a4 := qJ6_numberOfTrailingZeros_0f7a4_0 _ (List.mem_of_getElem? (i := 1) rfl)
theorem tJ6_numberOfTrailingZeros_0f7a4_2 : (2, a_ii (fun x y => x ^^^ y) 3) ∈ kJ6_numberOfTrailingZeros_0f7a4 := qJ6_numberOfTrailingZeros_0f7a4_0 _ (List.mem_of_getElem? (i := 2) rfl)
theorem tJ6_numberOfTrailingZeros_0f7a4_3 : (3, a_iload 0 4) ∈ kJ6_numberOfTrailingZeros_0f7a4 := qJ6_numberOfTrailingZeros_0f7a4_0 _ (List.mem_of_getElem? (i := 3) rfl)
theorem tJ6_numberOfTrailingZeros_0f7a4_4 : (4, a_i 1 5) ∈ kJ6_numberOfTrailingZeros_0f7a4 := qJ6_numberOfTrailingZeros_0f7a4_0 _ (List.mem_of_getElem? (i := 4) rfl)
theorem tJ6_numberOfTrailingZeros_0f7a4_5 : (5, a_ii (fun x y => x - y) 6) ∈ kJ6_numberOfTrailingZeros_0f7a4 := qJ6_numberOfTrailingZeros_0f7a4_0 _ (List.mem_of_getElem? (i := 5) rfl)
theorem tJ6_numberOfTrailingZeros_0f7a4_6 : (6, a_ii (fun x y => x &&& y) 7) ∈ kJ6_numberOfTrailingZeros_0f7a4 := qJ6_numberOfTrailingZeros_0f7a4_0 _ (List.mem_of_getElem? (i := 6) rfl)
theorem tJ6_numberOfTrailingZeros_0f7a4_7 : (7, a_istore 0 8) ∈ kJ6_numberOfTrailingZeros_0f7a4 := qJ6_numberOfTrailingZeros_0f7a4_0 _ (List.mem_of_getElem? (i := 7) rfl)
theorem tJ6_numberOfTrailingZeros_0f7a4_8 : (8, a_iload 0 9) ∈ kJ6_numberOfTrailingZeros_0f7a4 := qJ6_numberOfTrailingZeros_0f7a4_0 _ (List.mem_of_getElem? (i := 8) rfl)
theorem tJ6_numberOfTrailingZeros_0f7a4_9 : (9, a_if_gt 17 12) ∈ kJ6_numberOfTrailingZeros_0f7a4 := qJ6_numberOfTrailingZeros_0f7a4_0 _ (List.mem_of_getElem? (i := 9) rfl)
theorem tJ6_numberOfTrailingZeros_0f7a4_12 : (12, a_iload 0 13) ∈ kJ6_numberOfTrailingZeros_0f7a4 := qJ6_numberOfTrailingZeros_0f7a4_0 _ (List.mem_of_getElem? (i := 10) rfl)
theorem tJ6_numberOfTrailingZeros_0f7a4_13 : (13, a_i 32 15) ∈ kJ6_numberOfTrailingZeros_0f7a4 := qJ6_numberOfTrailingZeros_0f7a4_0 _ (List.mem_of_getElem? (i := 11) rfl)
theorem tJ6_numberOfTrailingZeros_0f7a4_15 : (15, a_ii (fun x y => x &&& y) 16) ∈ kJ6_numberOfTrailingZeros_0f7a4 := qJ6_numberOfTrailingZeros_0f7a4_0 _ (List.mem_of_getElem? (i := 12) rfl)
theorem tJ6_numberOfTrailingZeros_0f7a4_16 : (16, a_iret false) ∈ kJ6_numberOfTrailingZeros_0f7a4 := qJ6_numberOfTrailingZeros_0f7a4_0 _ (List.mem_of_getElem? (i := 13) rfl)
theorem tJ6_numberOfTrailingZeros_0f7a4_17 : (17, a_i 1 18) ∈ kJ6_numberOfTrailingZeros_0f7a4 := qJ6_numberOfTrailingZeros_0f7a4_0 _ (List.mem_of_getElem? (i := 14) rfl)
theorem tJ6_numberOfTrailingZeros_0f7a4_18 : (18, a_istore 1 19) ∈ kJ6_numberOfTrailingZeros_0f7a4 := qJ6_numberOfTrailingZeros_0f7a4_0 _ (List.mem_of_getElem? (i := 15) rfl)
theorem tJ6_numberOfTrailingZeros_0f7a4_19 : (19, a_iload 0 20) ∈ kJ6_numberOfTrailingZeros_0f7a4 := qJ6_numberOfTrailingZeros_0f7a4_0 _ (List.mem_of_getElem? (i := 16) rfl)
theorem tJ6_numberOfTrailingZeros_0f7a4_20 : (20, a_i 65536 23) ∈ kJ6_numberOfTrailingZeros_0f7a4 := qJ6_numberOfTrailingZeros_0f7a4_0 _ (List.mem_of_getElem? (i := 17) rfl)
theorem tJ6_numberOfTrailingZeros_0f7a4_23 : (23, a_ic_le 34 26) ∈ kJ6_numberOfTrailingZeros_0f7a4 := qJ6_numberOfTrailingZeros_0f7a4_0 _ (List.mem_of_getElem? (i := 18) rfl)
theorem tJ6_numberOfTrailingZeros_0f7a4_26 : (26, a_iinc 1 16 29) ∈ kJ6_numberOfTrailingZeros_0f7a4 := qJ6_numberOfTrailingZeros_0f7a4_0 _ (List.mem_of_getElem? (i := 19) rfl)
theorem tJ6_numberOfTrailingZeros_0f7a4_29 : (29, a_iload 0 30) ∈ kJ6_numberOfTrailingZeros_0f7a4 := qJ6_numberOfTrailingZeros_0f7a4_0 _ (List.mem_of_getElem? (i := 20) rfl)
theorem tJ6_numberOfTrailingZeros_0f7a4_30 : (30, a_i 16 32) ∈ kJ6_numberOfTrailingZeros_0f7a4 := qJ6_numberOfTrailingZeros_0f7a4_0 _ (List.mem_of_getElem? (i := 21) rfl)
theorem tJ6_numberOfTrailingZeros_0f7a4_32 : (32, a_ii (fun x y => (x.toUInt32 >>> (y.toUInt32 &&& Int32.toUInt32 31)).toInt32) 33) ∈ kJ6_numberOfTrailingZeros_0f7a4 := qJ6_numberOfTrailingZeros_0f7a4_0 _ (List.mem_of_getElem? (i := 22) rfl)
theorem tJ6_numberOfTrailingZeros_0f7a4_33 : (33, a_istore 0 34) ∈ kJ6_numberOfTrailingZeros_0f7a4 := qJ6_numberOfTrailingZeros_0f7a4_0 _ (List.mem_of_getElem? (i := 23) rfl)
theorem qJ6_numberOfTrailingZeros_0f7a4_1 : ∀ q ∈ kJ6_numberOfTrailingZeros_0f7a4_1, q ∈ kJ6_numberOfTrailingZeros_0f7a4 := fun _ h => (List.mem_append_right _ (List.mem_append_left _ h))
theorem tJ6_numberOfTrailingZeros_0f7a4_34 : (34, a_iload 0 35) ∈ kJ6_numberOfTrailingZeros_0f7a4 := qJ6_numberOfTrailingZeros_0f7a4_1 _ (List.mem_of_getElem? (i := 0) rfl)
theorem tJ6_numberOfTrailingZeros_0f7a4_35 : (35, a_i 256 38) ∈ kJ6_numberOfTrailingZeros_0f7a4 := qJ6_numberOfTrailingZeros_0f7a4_1 _ (List.mem_of_getElem? (i := 1) rfl)
theorem tJ6_numberOfTrailingZeros_0f7a4_38 : (38, a_ic_le 49 41) ∈ kJ6_numberOfTrailingZeros_0f7a4 := qJ6_numberOfTrailingZeros_0f7a4_1 _ (List.mem_of_getElem? (i := 2) rfl)
theorem tJ6_numberOfTrailingZeros_0f7a4_41 : (41, a_iinc 1 8 44) ∈ kJ6_numberOfTrailingZeros_0f7a4 := qJ6_numberOfTrailingZeros_0f7a4_1 _ (List.mem_of_getElem? (i := 3) rfl)
theorem tJ6_numberOfTrailingZeros_0f7a4_44 : (44, a_iload 0 45) ∈ kJ6_numberOfTrailingZeros_0f7a4 := qJ6_numberOfTrailingZeros_0f7a4_1 _ (List.mem_of_getElem? (i := 4) rfl)
theorem tJ6_numberOfTrailingZeros_0f7a4_45 : (45, a_i 8 47) ∈ kJ6_numberOfTrailingZeros_0f7a4 := qJ6_numberOfTrailingZeros_0f7a4_1 _ (List.mem_of_getElem? (i := 5) rfl)
theorem tJ6_numberOfTrailingZeros_0f7a4_47 : (47, a_ii (fun x y => (x.toUInt32 >>> (y.toUInt32 &&& Int32.toUInt32 31)).toInt32) 48) ∈ kJ6_numberOfTrailingZeros_0f7a4 := qJ6_numberOfTrailingZeros_0f7a4_1 _ (List.mem_of_getElem? (i := 6) rfl)
theorem tJ6_numberOfTrailingZeros_0f7a4_48 : (48, a_istore 0 49) ∈ kJ6_numberOfTrailingZeros_0f7a4 := qJ6_numberOfTrailingZeros_0f7a4_1 _ (List.mem_of_getElem? (i := 7) rfl)
theorem tJ6_numberOfTrailingZeros_0f7a4_49 : (49, a_iload 0 50) ∈ kJ6_numberOfTrailingZeros_0f7a4 := qJ6_numberOfTrailingZeros_0f7a4_1 _ (List.mem_of_getElem? (i := 8) rfl)
theorem tJ6_numberOfTrailingZeros_0f7a4_50 : (50, a_i 16 52) ∈ kJ6_numberOfTrailingZeros_0f7a4 := qJ6_numberOfTrailingZeros_0f7a4_1 _ (List.mem_of_getElem? (i := 9) rfl)
theorem tJ6_numberOfTrailingZeros_0f7a4_52 : (52, a_ic_le 62 55) ∈ kJ6_numberOfTrailingZeros_0f7a4 := qJ6_numberOfTrailingZeros_0f7a4_1 _ (List.mem_of_getElem? (i := 10) rfl)
theorem tJ6_numberOfTrailingZeros_0f7a4_55 : (55, a_iinc 1 4 58) ∈ kJ6_numberOfTrailingZeros_0f7a4 := qJ6_numberOfTrailingZeros_0f7a4_1 _ (List.mem_of_getElem? (i := 11) rfl)
theorem tJ6_numberOfTrailingZeros_0f7a4_58 : (58, a_iload 0 59) ∈ kJ6_numberOfTrailingZeros_0f7a4 := qJ6_numberOfTrailingZeros_0f7a4_1 _ (List.mem_of_getElem? (i := 12) rfl)
theorem tJ6_numberOfTrailingZeros_0f7a4_59 : (59, a_i 4 60) ∈ kJ6_numberOfTrailingZeros_0f7a4 := qJ6_numberOfTrailingZeros_0f7a4_1 _ (List.mem_of_getElem? (i := 13) rfl)
theorem tJ6_numberOfTrailingZeros_0f7a4_60 : (60, a_ii (fun x y => (x.toUInt32 >>> (y.toUInt32 &&& Int32.toUInt32 31)).toInt32) 61) ∈ kJ6_numberOfTrailingZeros_0f7a4 := qJ6_numberOfTrailingZeros_0f7a4_1 _ (List.mem_of_getElem? (i := 14) rfl)
theorem tJ6_numberOfTrailingZeros_0f7a4_61 : (61, a_istore 0 62) ∈ kJ6_numberOfTrailingZeros_0f7a4 := qJ6_numberOfTrailingZeros_0f7a4_1 _ (List.mem_of_getElem? (i := 15) rfl)
theorem tJ6_numberOfTrailingZeros_0f7a4_62 : (62, a_iload 0 63) ∈ kJ6_numberOfTrailingZeros_0f7a4 := qJ6_numberOfTrailingZeros_0f7a4_1 _ (List.mem_of_getElem? (i := 16) rfl)
theorem tJ6_numberOfTrailingZeros_0f7a4_63 : (63, a_i 4 64) ∈ kJ6_numberOfTrailingZeros_0f7a4 := qJ6_numberOfTrailingZeros_0f7a4_1 _ (List.mem_of_getElem? (i := 17) rfl)
theorem tJ6_numberOfTrailingZeros_0f7a4_64 : (64, a_ic_le 74 67) ∈ kJ6_numberOfTrailingZeros_0f7a4 := qJ6_numberOfTrailingZeros_0f7a4_1 _ (List.mem_of_getElem? (i := 18) rfl)
theorem tJ6_numberOfTrailingZeros_0f7a4_67 : (67, a_iinc 1 2 70) ∈ kJ6_numberOfTrailingZeros_0f7a4 := qJ6_numberOfTrailingZeros_0f7a4_1 _ (List.mem_of_getElem? (i := 19) rfl)
theorem tJ6_numberOfTrailingZeros_0f7a4_70 : (70, a_iload 0 71) ∈ kJ6_numberOfTrailingZeros_0f7a4 := qJ6_numberOfTrailingZeros_0f7a4_1 _ (List.mem_of_getElem? (i := 20) rfl)
theorem tJ6_numberOfTrailingZeros_0f7a4_71 : (71, a_i 2 72) ∈ kJ6_numberOfTrailingZeros_0f7a4 := qJ6_numberOfTrailingZeros_0f7a4_1 _ (List.mem_of_getElem? (i := 21) rfl)
theorem tJ6_numberOfTrailingZeros_0f7a4_72 : (72, a_ii (fun x y => (x.toUInt32 >>> (y.toUInt32 &&& Int32.toUInt32 31)).toInt32) 73) ∈ kJ6_numberOfTrailingZeros_0f7a4 := qJ6_numberOfTrailingZeros_0f7a4_1 _ (List.mem_of_getElem? (i := 22) rfl)
theorem tJ6_numberOfTrailingZeros_0f7a4_73 : (73, a_istore 0 74) ∈ kJ6_numberOfTrailingZeros_0f7a4 := qJ6_numberOfTrailingZeros_0f7a4_1 _ (List.mem_of_getElem? (i := 23) rfl)
theorem qJ6_numberOfTrailingZeros_0f7a4_2 : ∀ q ∈ kJ6_numberOfTrailingZeros_0f7a4_2, q ∈ kJ6_numberOfTrailingZeros_0f7a4 := fun _ h => (List.mem_append_right _ (List.mem_append_right _ h))
theorem tJ6_numberOfTrailingZeros_0f7a4_74 : (74, a_iload 1 75) ∈ kJ6_numberOfTrailingZeros_0f7a4 := qJ6_numberOfTrailingZeros_0f7a4_2 _ (List.mem_of_getElem? (i := 0) rfl)
theorem tJ6_numberOfTrailingZeros_0f7a4_75 : (75, a_iload 0 76) ∈ kJ6_numberOfTrailingZeros_0f7a4 := qJ6_numberOfTrailingZeros_0f7a4_2 _ (List.mem_of_getElem? (i := 1) rfl)
theorem tJ6_numberOfTrailingZeros_0f7a4_76 : (76, a_i 1 77) ∈ kJ6_numberOfTrailingZeros_0f7a4 := qJ6_numberOfTrailingZeros_0f7a4_2 _ (List.mem_of_getElem? (i := 2) rfl)
theorem tJ6_numberOfTrailingZeros_0f7a4_77 : (77, a_ii (fun x y => (x.toUInt32 >>> (y.toUInt32 &&& Int32.toUInt32 31)).toInt32) 78) ∈ kJ6_numberOfTrailingZeros_0f7a4 := qJ6_numberOfTrailingZeros_0f7a4_2 _ (List.mem_of_getElem? (i := 3) rfl)
theorem tJ6_numberOfTrailingZeros_0f7a4_78 : (78, a_ii (fun x y => x + y) 79) ∈ kJ6_numberOfTrailingZeros_0f7a4 := qJ6_numberOfTrailingZeros_0f7a4_2 _ (List.mem_of_getElem? (i := 4) rfl)
theorem tJ6_numberOfTrailingZeros_0f7a4_79 : (79, a_iret false) ∈ kJ6_numberOfTrailingZeros_0f7a4 := qJ6_numberOfTrailingZeros_0f7a4_2 _ (List.mem_of_getElem? (i := 5) rfl)
theorem oJ6_numberOfTrailingZeros_0f7a4 : ∀ q ∈ kJ6_numberOfTrailingZeros_0f7a4, zSnd zty false RJ6 cJ6_numberOfTrailingZeros_0f7a4 2 (some .int) false q := List.forall_mem_append.mpr ⟨oJ6_numberOfTrailingZeros_0f7a4_0, List.forall_mem_append.mpr ⟨oJ6_numberOfTrailingZeros_0f7a4_1, oJ6_numberOfTrailingZeros_0f7a4_2⟩⟩
theorem dJ6_bitCount_0f7a4_0 : decode cJ6_bitCount_0f7a4 0 = .ok (.iload_n 0, 1) := by decide +kernel
theorem dJ6_bitCount_0f7a4_1 : decode cJ6_bitCount_0f7a4 1 = .ok (.iload_n 0, 1) := by decide +kernel
theorem dJ6_bitCount_0f7a4_2 : decode cJ6_bitCount_0f7a4 2 = .ok (.iconst 1, 1) := by decide +kernel
theorem dJ6_bitCount_0f7a4_3 : decode cJ6_bitCount_0f7a4 3 = .ok (.iushr, 1) := by decide +kernel
theorem dJ6_bitCount_0f7a4_4 : decode cJ6_bitCount_0f7a4 4 = .ok (.ldc_w 265, 3) := by decide +kernel
theorem dJ6_bitCount_0f7a4_7 : decode cJ6_bitCount_0f7a4 7 = .ok (.iand, 1) := by decide +kernel
theorem dJ6_bitCount_0f7a4_8 : decode cJ6_bitCount_0f7a4 8 = .ok (.isub, 1) := by decide +kernel
theorem dJ6_bitCount_0f7a4_9 : decode cJ6_bitCount_0f7a4 9 = .ok (.istore_n 0, 1) := by decide +kernel
theorem dJ6_bitCount_0f7a4_10 : decode cJ6_bitCount_0f7a4 10 = .ok (.iload_n 0, 1) := by decide +kernel
theorem dJ6_bitCount_0f7a4_11 : decode cJ6_bitCount_0f7a4 11 = .ok (.ldc_w 266, 3) := by decide +kernel
theorem dJ6_bitCount_0f7a4_14 : decode cJ6_bitCount_0f7a4 14 = .ok (.iand, 1) := by decide +kernel
theorem dJ6_bitCount_0f7a4_15 : decode cJ6_bitCount_0f7a4 15 = .ok (.iload_n 0, 1) := by decide +kernel
theorem dJ6_bitCount_0f7a4_16 : decode cJ6_bitCount_0f7a4 16 = .ok (.iconst 2, 1) := by decide +kernel
theorem dJ6_bitCount_0f7a4_17 : decode cJ6_bitCount_0f7a4 17 = .ok (.iushr, 1) := by decide +kernel
theorem dJ6_bitCount_0f7a4_18 : decode cJ6_bitCount_0f7a4 18 = .ok (.ldc_w 266, 3) := by decide +kernel
theorem dJ6_bitCount_0f7a4_21 : decode cJ6_bitCount_0f7a4 21 = .ok (.iand, 1) := by decide +kernel
theorem dJ6_bitCount_0f7a4_22 : decode cJ6_bitCount_0f7a4 22 = .ok (.iadd, 1) := by decide +kernel
theorem dJ6_bitCount_0f7a4_23 : decode cJ6_bitCount_0f7a4 23 = .ok (.istore_n 0, 1) := by decide +kernel
theorem dJ6_bitCount_0f7a4_24 : decode cJ6_bitCount_0f7a4 24 = .ok (.iload_n 0, 1) := by decide +kernel
theorem dJ6_bitCount_0f7a4_25 : decode cJ6_bitCount_0f7a4 25 = .ok (.iload_n 0, 1) := by decide +kernel
theorem dJ6_bitCount_0f7a4_26 : decode cJ6_bitCount_0f7a4 26 = .ok (.iconst 4, 1) := by decide +kernel
theorem dJ6_bitCount_0f7a4_27 : decode cJ6_bitCount_0f7a4 27 = .ok (.iushr, 1) := by decide +kernel
theorem dJ6_bitCount_0f7a4_28 : decode cJ6_bitCount_0f7a4 28 = .ok (.iadd, 1) := by decide +kernel
theorem dJ6_bitCount_0f7a4_29 : decode cJ6_bitCount_0f7a4 29 = .ok (.ldc_w 267, 3) := by decide +kernel
theorem dJ6_bitCount_0f7a4_32 : decode cJ6_bitCount_0f7a4 32 = .ok (.iand, 1) := by decide +kernel
theorem dJ6_bitCount_0f7a4_33 : decode cJ6_bitCount_0f7a4 33 = .ok (.istore_n 0, 1) := by decide +kernel
theorem dJ6_bitCount_0f7a4_34 : decode cJ6_bitCount_0f7a4 34 = .ok (.iload_n 0, 1) := by decide +kernel
theorem dJ6_bitCount_0f7a4_35 : decode cJ6_bitCount_0f7a4 35 = .ok (.iload_n 0, 1) := by decide +kernel
theorem dJ6_bitCount_0f7a4_36 : decode cJ6_bitCount_0f7a4 36 = .ok (.bipush 8, 2) := by decide +kernel
theorem dJ6_bitCount_0f7a4_38 : decode cJ6_bitCount_0f7a4 38 = .ok (.iushr, 1) := by decide +kernel
theorem dJ6_bitCount_0f7a4_39 : decode cJ6_bitCount_0f7a4 39 = .ok (.iadd, 1) := by decide +kernel
theorem dJ6_bitCount_0f7a4_40 : decode cJ6_bitCount_0f7a4 40 = .ok (.istore_n 0, 1) := by decide +kernel
theorem dJ6_bitCount_0f7a4_41 : decode cJ6_bitCount_0f7a4 41 = .ok (.iload_n 0, 1) := by decide +kernel
theorem dJ6_bitCount_0f7a4_42 : decode cJ6_bitCount_0f7a4 42 = .ok (.iload_n 0, 1) := by decide +kernel
theorem dJ6_bitCount_0f7a4_43 : decode cJ6_bitCount_0f7a4 43 = .ok (.bipush 16, 2) := by decide +kernel
theorem dJ6_bitCount_0f7a4_45 : decode cJ6_bitCount_0f7a4 45 = .ok (.iushr, 1) := by decide +kernel
theorem dJ6_bitCount_0f7a4_46 : decode cJ6_bitCount_0f7a4 46 = .ok (.iadd, 1) := by decide +kernel
theorem dJ6_bitCount_0f7a4_47 : decode cJ6_bitCount_0f7a4 47 = .ok (.istore_n 0, 1) := by decide +kernel
theorem dJ6_bitCount_0f7a4_48 : decode cJ6_bitCount_0f7a4 48 = .ok (.iload_n 0, 1) := by decide +kernel
theorem dJ6_bitCount_0f7a4_49 : decode cJ6_bitCount_0f7a4 49 = .ok (.bipush 63, 2) := by decide +kernel
theorem dJ6_bitCount_0f7a4_51 : decode cJ6_bitCount_0f7a4 51 = .ok (.iand, 1) := by decide +kernel
theorem dJ6_bitCount_0f7a4_52 : decode cJ6_bitCount_0f7a4 52 = .ok (.ireturn, 1) := by decide +kernel
def kJ6_bitCount_0f7a4_0 : List (Nat × zT) := [(0, a_iload 0 1), (1, a_iload 0 2), (2, a_i 1 3), (3, a_ii (fun x y => (x.toUInt32 >>> (y.toUInt32 &&& Int32.toUInt32 31)).toInt32) 4), (4, a_i 1431655765 7), (7, a_ii (fun x y => x &&& y) 8), (8, a_ii (fun x y => x - y) 9), (9, a_istore 0 10), (10, a_iload 0 11), (11, a_i 858993459 14), (14, a_ii (fun x y => x &&& y) 15), (15, a_iload 0 16), (16, a_i 2 17), (17, a_ii (fun x y => (x.toUInt32 >>> (y.toUInt32 &&& Int32.toUInt32 31)).toInt32) 18), (18, a_i 858993459 21), (21, a_ii (fun x y => x &&& y) 22), (22, a_ii (fun x y => x + y) 23), (23, a_istore 0 24), (24, a_iload 0 25), (25, a_iload 0 26), (26, a_i 4 27), (27, a_ii (fun x y => (x.toUInt32 >>> (y.toUInt32 &&& Int32.toUInt32 31)).toInt32) 28), (28, a_ii (fun x y => x + y) 29), (29, a_i 252645135 32)]
theorem oJ6_bitCount_0f7a4_0 : ∀ q ∈ kJ6_bitCount_0f7a4_0, zSnd zty false RJ6 cJ6_bitCount_0f7a4 1 (some .int) false q := List.forall_mem_cons.mpr ⟨ok_iload_n dJ6_bitCount_0f7a4_0 rfl, List.forall_mem_cons.mpr ⟨ok_iload_n dJ6_bitCount_0f7a4_1 rfl, List.forall_mem_cons.mpr ⟨ok_iconst dJ6_bitCount_0f7a4_2 (by decide), List.forall_mem_cons.mpr ⟨ok_iushr dJ6_bitCount_0f7a4_3, List.forall_mem_cons.mpr ⟨ok_ldcw dJ6_bitCount_0f7a4_4 w489, List.forall_mem_cons.mpr ⟨ok_iand dJ6_bitCount_0f7a4_7, List.forall_mem_cons.mpr ⟨ok_isub dJ6_bitCount_0f7a4_8, List.forall_mem_cons.mpr ⟨ok_istore_n dJ6_bitCount_0f7a4_9 rfl (by decide), List.forall_mem_cons.mpr ⟨ok_iload_n dJ6_bitCount_0f7a4_10 rfl, List.forall_mem_cons.mpr ⟨ok_ldcw dJ6_bitCount_0f7a4_11 w490, List.forall_mem_cons.mpr ⟨ok_iand dJ6_bitCount_0f7a4_14, List.forall_mem_cons.mpr ⟨ok_iload_n dJ6_bitCount_0f7a4_15 rfl, List.forall_mem_cons.mpr ⟨ok_iconst dJ6_bitCount_0f7a4_16 (by decide), List.forall_mem_cons.mpr ⟨ok_iushr dJ6_bitCount_0f7a4_17, List.forall_mem_cons.mpr ⟨ok_ldcw dJ6_bitCount_0f7a4_18 w490, List.forall_mem_cons.mpr ⟨ok_iand dJ6_bitCount_0f7a4_21, List.forall_mem_cons.mpr ⟨ok_iadd dJ6_bitCount_0f7a4_22, List.forall_mem_cons.mpr ⟨ok_istore_n dJ6_bitCount_0f7a4_23 rfl (by decide), List.forall_mem_cons.mpr ⟨ok_iload_n dJ6_bitCount_0f7a4_24 rfl, List.forall_mem_cons.mpr ⟨ok_iload_n dJ6_bitCount_0f7a4_25 rfl, List.forall_mem_cons.mpr ⟨ok_iconst dJ6_bitCount_0f7a4_26 (by decide), List.forall_mem_cons.mpr ⟨ok_iushr dJ6_bitCount_0f7a4_27, List.forall_mem_cons.mpr ⟨ok_iadd dJ6_bitCount_0f7a4_28, List.forall_mem_cons.mpr ⟨ok_ldcw dJ6_bitCount_0f7a4_29 w491, fun _ h => absurd h List.not_mem_nil⟩⟩⟩⟩⟩⟩⟩⟩⟩⟩⟩⟩⟩⟩⟩⟩⟩⟩⟩⟩⟩⟩⟩⟩
def kJ6_bitCount_0f7a4_1 : List (Nat × zT) := [(32, a_ii (fun x y => x &&& y) 33), (33, a_istore 0 34), (34, a_iload 0 35), (35, a_iload 0 36), (36, a_i 8 38), (38, a_ii (fun x y => (x.toUInt32 >>> (y.toUInt32 &&& Int32.toUInt32 31)).toInt32) 39), (39, a_ii (fun x y => x + y) 40), (40, a_istore 0 41), (41, a_iload 0 42), (42, a_iload 0 43), (43, a_i 16 45), (45, a_ii (fun x y => (x.toUInt32 >>> (y.toUInt32 &&& Int32.toUInt32 31)).toInt32) 46), (46, a_ii (fun x y => x + y) 47), (47, a_istore 0 48), (48, a_iload 0 49), (49, a_i 63 51), (51, a_ii (fun x y => x &&& y) 52), (52, a_iret false)]
theorem oJ6_bitCount_0f7a4_1 : ∀ q ∈ kJ6_bitCount_0f7a4_1, zSnd zty false RJ6 cJ6_bitCount_0f7a4 1 (some .int) false q := List.forall_mem_cons.mpr ⟨ok_iand dJ6_bitCount_0f7a4_32, List.forall_mem_cons.mpr ⟨ok_istore_n dJ6_bitCount_0f7a4_33 rfl (by decide), List.forall_mem_cons.mpr ⟨ok_iload_n dJ6_bitCount_0f7a4_34 rfl, List.forall_mem_cons.mpr ⟨ok_iload_n dJ6_bitCount_0f7a4_35 rfl, List.forall_mem_cons.mpr ⟨ok_bipush dJ6_bitCount_0f7a4_36 (by decide), List.forall_mem_cons.mpr ⟨ok_iushr dJ6_bitCount_0f7a4_38, List.forall_mem_cons.mpr ⟨ok_iadd dJ6_bitCount_0f7a4_39, List.forall_mem_cons.mpr ⟨ok_istore_n dJ6_bitCount_0f7a4_40 rfl (by decide), List.forall_mem_cons.mpr ⟨ok_iload_n dJ6_bitCount_0f7a4_41 rfl, List.forall_mem_cons.mpr ⟨ok_iload_n dJ6_bitCount_0f7a4_42 rfl, List.forall_mem_cons.mpr ⟨ok_bipush dJ6_bitCount_0f7a4_43 (by decide), List.forall_mem_cons.mpr ⟨ok_iushr dJ6_bitCount_0f7a4_45, List.forall_mem_cons.mpr ⟨ok_iadd dJ6_bitCount_0f7a4_46, List.forall_mem_cons.mpr ⟨ok_istore_n dJ6_bitCount_0f7a4_47 rfl (by decide), List.forall_mem_cons.mpr ⟨ok_iload_n dJ6_bitCount_0f7a4_48 rfl, List.forall_mem_cons.mpr ⟨ok_bipush dJ6_bitCount_0f7a4_49 (by decide), List.forall_mem_cons.mpr ⟨ok_iand dJ6_bitCount_0f7a4_51, List.forall_mem_cons.mpr ⟨ok_iret (bz := false) dJ6_bitCount_0f7a4_52 rfl, fun _ h => absurd h List.not_mem_nil⟩⟩⟩⟩⟩⟩⟩⟩⟩⟩⟩⟩⟩⟩⟩⟩⟩⟩
def kJ6_bitCount_0f7a4 : List (Nat × zT) := kJ6_bitCount_0f7a4_0 ++ (kJ6_bitCount_0f7a4_1)
theorem qJ6_bitCount_0f7a4_0 : ∀ q ∈ kJ6_bitCount_0f7a4_0, q ∈ kJ6_bitCount_0f7a4 := fun _ h => (List.mem_append_left _ h)
theorem tJ6_bitCount_0f7a4_0 : (0, a_iload 0 1) ∈ kJ6_bitCount_0f7a4 := qJ6_bitCount_0f7a4_0 _ (List.mem_of_getElem? (i := 0) rfl)
theorem tJ6_bitCount_0f7a4_1 : (1, a_iload 0 2) ∈ kJ6_bitCount_0f7a4 := qJ6_bitCount_0f7a4_0 _ (List.mem_of_getElem? (i := 1) rfl)
theorem tJ6_bitCount_0f7a4_2 : (2, a_i 1 3) ∈ kJ6_bitCount_0f7a4 := qJ6_bitCount_0f7a4_0 _ (List.mem_of_getElem? (i := 2) rfl)
theorem tJ6_bitCount_0f7a4_3 : (3, a_ii (fun x y => (x.toUInt32 >>> (y.toUInt32 &&& Int32.toUInt32 31)).toInt32) 4) ∈ kJ6_bitCount_0f7a4 := qJ6_bitCount_0f7a4_0 _ (List.mem_of_getElem? (i := 3) rfl)
theorem tJ6_bitCount_0f7a4_4 : (4, a_i 1431655765 7) ∈ kJ6_bitCount_0f7a4 := qJ6_bitCount_0f7a4_0 _ (List.mem_of_getElem? (i := 4) rfl)
theorem tJ6_bitCount_0f7a4_7 : (7, a_ii (fun x y => x &&& y) 8) ∈ kJ6_bitCount_0f7a4 := qJ6_bitCount_0f7a4_0 _ (List.mem_of_getElem? (i := 5) rfl)
theorem tJ6_bitCount_0f7a4_8 : (8, a_ii (fun x y => x - y) 9) ∈ kJ6_bitCount_0f7a4 := qJ6_bitCount_0f7a4_0 _ (List.mem_of_getElem? (i := 6) rfl)
theorem tJ6_bitCount_0f7a4_9 : (9, a_istore 0 10) ∈ kJ6_bitCount_0f7a4 := qJ6_bitCount_0f7a4_0 _ (List.mem_of_getElem? (i := 7) rfl)
theorem tJ6_bitCount_0f7a4_10 : (10, a_iload 0 11) ∈ kJ6_bitCount_0f7a4 := qJ6_bitCount_0f7a4_0 _ (List.mem_of_getElem? (i := 8) rfl)
theorem tJ6_bitCount_0f7a4_11 : (11, a_i 858993459 14) ∈ kJ6_bitCount_0f7a4 := qJ6_bitCount_0f7a4_0 _ (List.mem_of_getElem? (i := 9) rfl)
theorem tJ6_bitCount_0f7a4_14 : (14, a_ii (fun x y => x &&& y) 15) ∈ kJ6_bitCount_0f7a4 := qJ6_bitCount_0f7a4_0 _ (List.mem_of_getElem? (i := 10) rfl)
theorem tJ6_bitCount_0f7a4_15 : (15, a_iload 0 16) ∈ kJ6_bitCount_0f7a4 := qJ6_bitCount_0f7a4_0 _ (List.mem_of_getElem? (i := 11) rfl)
theorem tJ6_bitCount_0f7a4_16 : (16, a_i 2 17) ∈ kJ6_bitCount_0f7a4 := qJ6_bitCount_0f7a4_0 _ (List.mem_of_getElem? (i := 12) rfl)
theorem tJ6_bitCount_0f7a4_17 : (17, a_ii (fun x y => (x.toUInt32 >>> (y.toUInt32 &&& Int32.toUInt32 31)).toInt32) 18) ∈ kJ6_bitCount_0f7a4 := qJ6_bitCount_0f7a4_0 _ (List.mem_of_getElem? (i := 13) rfl)
theorem tJ6_bitCount_0f7a4_18 : (18, a_i 858993459 21) ∈ kJ6_bitCount_0f7a4 := qJ6_bitCount_0f7a4_0 _ (List.mem_of_getElem? (i := 14) rfl)
theorem tJ6_bitCount_0f7a4_21 : (21, a_ii (fun x y => x &&& y) 22) ∈ kJ6_bitCount_0f7a4 := qJ6_bitCount_0f7a4_0 _ (List.mem_of_getElem? (i := 15) rfl)
theorem tJ6_bitCount_0f7a4_22 : (22, a_ii (fun x y => x + y) 23) ∈ kJ6_bitCount_0f7a4 := qJ6_bitCount_0f7a4_0 _ (List.mem_of_getElem? (i := 16) rfl)
theorem tJ6_bitCount_0f7a4_23 : (23, a_istore 0 24) ∈ kJ6_bitCount_0f7a4 := qJ6_bitCount_0f7a4_0 _ (List.mem_of_getElem? (i := 17) rfl)
theorem tJ6_bitCount_0f7a4_24 : (24, a_iload 0 25) ∈ kJ6_bitCount_0f7a4 := qJ6_bitCount_0f7a4_0 _ (List.mem_of_getElem? (i := 18) rfl)
theorem tJ6_bitCount_0f7a4_25 : (25, a_iload 0 26) ∈ kJ6_bitCount_0f7a4 := qJ6_bitCount_0f7a4_0 _ (List.mem_of_getElem? (i := 19) rfl)
theorem tJ6_bitCount_0f7a4_26 : (26, a_i 4 27) ∈ kJ6_bitCount_0f7a4 := qJ6_bitCount_0f7a4_0 _ (List.mem_of_getElem? (i := 20) rfl)
theorem tJ6_bitCount_0f7a4_27 : (27, a_ii (fun x y => (x.toUInt32 >>> (y.toUInt32 &&& Int32.toUInt32 31)).toInt32) 28) ∈ kJ6_bitCount_0f7a4 := qJ6_bitCount_0f7a4_0 _ (List.mem_of_getElem? (i := 21) rfl)
theorem tJ6_bitCount_0f7a4_28 : (28, a_ii (fun x y => x + y) 29) ∈ kJ6_bitCount_0f7a4 := qJ6_bitCount_0f7a4_0 _ (List.mem_of_getElem? (i := 22) rfl)
theorem tJ6_bitCount_0f7a4_29 : (29, a_i 252645135 32) ∈ kJ6_bitCount_0f7a4 := qJ6_bitCount_0f7a4_0 _ (List.mem_of_getElem? (i := 23) rfl)
theorem qJ6_bitCount_0f7a4_1 : ∀ q ∈ kJ6_bitCount_0f7a4_1, q ∈ kJ6_bitCount_0f7a4 := fun _ h => (List.mem_append_right _ h)
theorem tJ6_bitCount_0f7a4_32 : (32, a_ii (fun x y => x &&& y) 33) ∈ kJ6_bitCount_0f7a4 := qJ6_bitCount_0f7a4_1 _ (List.mem_of_getElem? (i := 0) rfl)
theorem tJ6_bitCount_0f7a4_33 : (33, a_istore 0 34) ∈ kJ6_bitCount_0f7a4 := qJ6_bitCount_0f7a4_1 _ (List.mem_of_getElem? (i := 1) rfl)
theorem tJ6_bitCount_0f7a4_34 : (34, a_iload 0 35) ∈ kJ6_bitCount_0f7a4 := qJ6_bitCount_0f7a4_1 _ (List.mem_of_getElem? (i := 2) rfl)
theorem tJ6_bitCount_0f7a4_35 : (35, a_iload 0 36) ∈ kJ6_bitCount_0f7a4 := qJ6_bitCount_0f7a4_1 _ (List.mem_of_getElem? (i := 3) rfl)
theorem tJ6_bitCount_0f7a4_36 : (36, a_i 8 38) ∈ kJ6_bitCount_0f7a4 := qJ6_bitCount_0f7a4_1 _ (List.mem_of_getElem? (i := 4) rfl)
theorem tJ6_bitCount_0f7a4_38 : (38, a_ii (fun x y => (x.toUInt32 >>> (y.toUInt32 &&& Int32.toUInt32 31)).toInt32) 39) ∈ kJ6_bitCount_0f7a4 := qJ6_bitCount_0f7a4_1 _ (List.mem_of_getElem? (i := 5) rfl)
theorem tJ6_bitCount_0f7a4_39 : (39, a_ii (fun x y => x + y) 40) ∈ kJ6_bitCount_0f7a4 := qJ6_bitCount_0f7a4_1 _ (List.mem_of_getElem? (i := 6) rfl)
theorem tJ6_bitCount_0f7a4_40 : (40, a_istore 0 41) ∈ kJ6_bitCount_0f7a4 := qJ6_bitCount_0f7a4_1 _ (List.mem_of_getElem? (i := 7) rfl)
theorem tJ6_bitCount_0f7a4_41 : (41, a_iload 0 42) ∈ kJ6_bitCount_0f7a4 := qJ6_bitCount_0f7a4_1 _ (List.mem_of_getElem? (i := 8) rfl)
theorem tJ6_bitCount_0f7a4_42 : (42, a_iload 0 43) ∈ kJ6_bitCount_0f7a4 := qJ6_bitCount_0f7a4_1 _ (List.mem_of_getElem? (i := 9) rfl)
theorem tJ6_bitCount_0f7a4_43 : (43, a_i 16 45) ∈ kJ6_bitCount_0f7a4 := qJ6_bitCount_0f7a4_1 _ (List.mem_of_getElem? (i := 10) rfl)
theorem tJ6_bitCount_0f7a4_45 : (45, a_ii (fun x y => (x.toUInt32 >>> (y.toUInt32 &&& Int32.toUInt32 31)).toInt32) 46) ∈ kJ6_bitCount_0f7a4 := qJ6_bitCount_0f7a4_1 _ (List.mem_of_getElem? (i := 11) rfl)
theorem tJ6_bitCount_0f7a4_46 : (46, a_ii (fun x y => x + y) 47) ∈ kJ6_bitCount_0f7a4 := qJ6_bitCount_0f7a4_1 _ (List.mem_of_getElem? (i := 12) rfl)
theorem tJ6_bitCount_0f7a4_47 : (47, a_istore 0 48) ∈ kJ6_bitCount_0f7a4 := qJ6_bitCount_0f7a4_1 _ (List.mem_of_getElem? (i := 13) rfl)
theorem tJ6_bitCount_0f7a4_48 : (48, a_iload 0 49) ∈ kJ6_bitCount_0f7a4 := qJ6_bitCount_0f7a4_1 _ (List.mem_of_getElem? (i := 14) rfl)
theorem tJ6_bitCount_0f7a4_49 : (49, a_i 63 51) ∈ kJ6_bitCount_0f7a4 := qJ6_bitCount_0f7a4_1 _ (List.mem_of_getElem? (i := 15) rfl)
theorem tJ6_bitCount_0f7a4_51 : (51, a_ii (fun x y => x &&& y) 52) ∈ kJ6_bitCount_0f7a4 := qJ6_bitCount_0f7a4_1 _ (List.mem_of_getElem? (i := 16) rfl)
theorem tJ6_bitCount_0f7a4_52 : (52, a_iret false) ∈ kJ6_bitCount_0f7a4 := qJ6_bitCount_0f7a4_1 _ (List.mem_of_getElem? (i := 17) rfl)
theorem oJ6_bitCount_0f7a4 : ∀ q ∈ kJ6_bitCount_0f7a4, zSnd zty false RJ6 cJ6_bitCount_0f7a4 1 (some .int) false q := List.forall_mem_append.mpr ⟨oJ6_bitCount_0f7a4_0, oJ6_bitCount_0f7a4_1⟩
theorem dJ13_numberOfTrailingZeros_95d88_0 : decode cJ13_numberOfTrailingZeros_95d88 0 = .ok (.lload_n 0, 1) := by decide +kernel
theorem dJ13_numberOfTrailingZeros_95d88_1 : decode cJ13_numberOfTrailingZeros_95d88 1 = .ok (.l2i, 1) := by decide +kernel
theorem dJ13_numberOfTrailingZeros_95d88_2 : decode cJ13_numberOfTrailingZeros_95d88 2 = .ok (.istore_n 2, 1) := by decide +kernel
theorem dJ13_numberOfTrailingZeros_95d88_3 : decode cJ13_numberOfTrailingZeros_95d88 3 = .ok (.iload_n 2, 1) := by decide +kernel
theorem dJ13_numberOfTrailingZeros_95d88_4 : decode cJ13_numberOfTrailingZeros_95d88 4 = .ok (.ifCond .ne 17, 3) := by decide +kernel
theorem dJ13_numberOfTrailingZeros_95d88_7 : decode cJ13_numberOfTrailingZeros_95d88 7 = .ok (.bipush 32, 2) := by decide +kernel
theorem dJ13_numberOfTrailingZeros_95d88_9 : decode cJ13_numberOfTrailingZeros_95d88 9 = .ok (.lload_n 0, 1) := by decide +kernel
theorem dJ13_numberOfTrailingZeros_95d88_10 : decode cJ13_numberOfTrailingZeros_95d88 10 = .ok (.bipush 32, 2) := by decide +kernel
theorem dJ13_numberOfTrailingZeros_95d88_12 : decode cJ13_numberOfTrailingZeros_95d88 12 = .ok (.lushr, 1) := by decide +kernel
theorem dJ13_numberOfTrailingZeros_95d88_13 : decode cJ13_numberOfTrailingZeros_95d88 13 = .ok (.l2i, 1) := by decide +kernel
theorem dJ13_numberOfTrailingZeros_95d88_14 : decode cJ13_numberOfTrailingZeros_95d88 14 = .ok (.invokestatic 311, 3) := by decide +kernel
theorem dJ13_numberOfTrailingZeros_95d88_17 : decode cJ13_numberOfTrailingZeros_95d88 17 = .ok (.iadd, 1) := by decide +kernel
theorem dJ13_numberOfTrailingZeros_95d88_18 : decode cJ13_numberOfTrailingZeros_95d88 18 = .ok (.goto 7, 3) := by decide +kernel
theorem dJ13_numberOfTrailingZeros_95d88_21 : decode cJ13_numberOfTrailingZeros_95d88 21 = .ok (.iload_n 2, 1) := by decide +kernel
theorem dJ13_numberOfTrailingZeros_95d88_22 : decode cJ13_numberOfTrailingZeros_95d88 22 = .ok (.invokestatic 311, 3) := by decide +kernel
theorem dJ13_numberOfTrailingZeros_95d88_25 : decode cJ13_numberOfTrailingZeros_95d88 25 = .ok (.ireturn, 1) := by decide +kernel
def kJ13_numberOfTrailingZeros_95d88_0 : List (Nat × zT) := [(0, a_lload 0 1), (1, a_l2i 2), (2, a_istore 2 3), (3, a_iload 2 4), (4, a_if_ne 21 7), (7, a_i 32 9), (9, a_lload 0 10), (10, a_i 32 12), (12, a_li (fun x y => (x.toUInt64 >>> (y.toInt64.toUInt64 &&& Int64.toUInt64 63)).toInt64) 13), (13, a_l2i 14), (14, a_call 216 1 17 0 0), (17, a_ii (fun x y => x + y) 18), (18, a_goto 25), (21, a_iload 2 22), (22, a_call 216 1 25 0 0), (25, a_iret false)]
theorem oJ13_numberOfTrailingZeros_95d88_0 : ∀ q ∈ kJ13_numberOfTrailingZeros_95d88_0, zSnd zty false RJ13 cJ13_numberOfTrailingZeros_95d88 3 (some .int) false q := List.forall_mem_cons.mpr ⟨ok_lload_n dJ13_numberOfTrailingZeros_95d88_0 rfl, List.forall_mem_cons.mpr ⟨ok_l2i dJ13_numberOfTrailingZeros_95d88_1, List.forall_mem_cons.mpr ⟨ok_istore_n dJ13_numberOfTrailingZeros_95d88_2 rfl (by decide), List.forall_mem_cons.mpr ⟨ok_iload_n dJ13_numberOfTrailingZeros_95d88_3 rfl, List.forall_mem_cons.mpr ⟨ok_if_ne dJ13_numberOfTrailingZeros_95d88_4 (by decide), List.forall_mem_cons.mpr ⟨ok_bipush dJ13_numberOfTrailingZeros_95d88_7 (by decide), List.forall_mem_cons.mpr ⟨ok_lload_n dJ13_numberOfTrailingZeros_95d88_9 rfl, List.forall_mem_cons.mpr ⟨ok_bipush dJ13_numberOfTrailingZeros_95d88_10 (by decide), List.forall_mem_cons.mpr ⟨ok_lushr dJ13_numberOfTrailingZeros_95d88_12, List.forall_mem_cons.mpr ⟨ok_l2i dJ13_numberOfTrailingZeros_95d88_13, List.forall_mem_cons.mpr ⟨ok_callS dJ13_numberOfTrailingZeros_95d88_14 rfl w641 w639 w640 w15 (by decide +kernel) (by decide), List.forall_mem_cons.mpr ⟨ok_iadd dJ13_numberOfTrailingZeros_95d88_17, List.forall_mem_cons.mpr ⟨ok_goto dJ13_numberOfTrailingZeros_95d88_18 (by decide), List.forall_mem_cons.mpr ⟨ok_iload_n dJ13_numberOfTrailingZeros_95d88_21 rfl, List.forall_mem_cons.mpr ⟨ok_callS dJ13_numberOfTrailingZeros_95d88_22 rfl w641 w639 w640 w15 (by decide +kernel) (by decide), List.forall_mem_cons.mpr ⟨ok_iret (bz := false) dJ13_numberOfTrailingZeros_95d88_25 rfl, fun _ h => absurd h List.not_mem_nil⟩⟩⟩⟩⟩⟩⟩⟩⟩⟩⟩⟩⟩⟩⟩⟩
def kJ13_numberOfTrailingZeros_95d88 : List (Nat × zT) := kJ13_numberOfTrailingZeros_95d88_0
theorem qJ13_numberOfTrailingZeros_95d88_0 : ∀ q ∈ kJ13_numberOfTrailingZeros_95d88_0, q ∈ kJ13_numberOfTrailingZeros_95d88 := fun _ h => h
theorem tJ13_numberOfTrailingZeros_95d88_0 : (0, a_lload 0 1) ∈ kJ13_numberOfTrailingZeros_95d88 := qJ13_numberOfTrailingZeros_95d88_0 _ (List.mem_of_getElem? (i := 0) rfl)
theorem tJ13_numberOfTrailingZeros_95d88_1 : (1, a_l2i 2) ∈ kJ13_numberOfTrailingZeros_95d88 := qJ13_numberOfTrailingZeros_95d88_0 _ (List.mem_of_getElem? (i := 1) rfl)
theorem tJ13_numberOfTrailingZeros_95d88_2 : (2, a_istore 2 3) ∈ kJ13_numberOfTrailingZeros_95d88 := qJ13_numberOfTrailingZeros_95d88_0 _ (List.mem_of_getElem? (i := 2) rfl)
theorem tJ13_numberOfTrailingZeros_95d88_3 : (3, a_iload 2 4) ∈ kJ13_numberOfTrailingZeros_95d88 := qJ13_numberOfTrailingZeros_95d88_0 _ (List.mem_of_getElem? (i := 3) rfl)
theorem tJ13_numberOfTrailingZeros_95d88_4 : (4, a_if_ne 21 7) ∈ kJ13_numberOfTrailingZeros_95d88 := qJ13_numberOfTrailingZeros_95d88_0 _ (List.mem_of_getElem? (i := 4) rfl)
theorem tJ13_numberOfTrailingZeros_95d88_7 : (7, a_i 32 9) ∈ kJ13_numberOfTrailingZeros_95d88 := qJ13_numberOfTrailingZeros_95d88_0 _ (List.mem_of_getElem? (i := 5) rfl)
theorem tJ13_numberOfTrailingZeros_95d88_9 : (9, a_lload 0 10) ∈ kJ13_numberOfTrailingZeros_95d88 := qJ13_numberOfTrailingZeros_95d88_0 _ (List.mem_of_getElem? (i := 6) rfl)
theorem tJ13_numberOfTrailingZeros_95d88_10 : (10, a_i 32 12) ∈ kJ13_numberOfTrailingZeros_95d88 := qJ13_numberOfTrailingZeros_95d88_0 _ (List.mem_of_getElem? (i := 7) rfl)
theorem tJ13_numberOfTrailingZeros_95d88_12 : (12, a_li (fun x y => (x.toUInt64 >>> (y.toInt64.toUInt64 &&& Int64.toUInt64 63)).toInt64) 13) ∈ kJ13_numberOfTrailingZeros_95d88 := qJ13_numberOfTrailingZeros_95d88_0 _ (List.mem_of_getElem? (i := 8) rfl)
theorem tJ13_numberOfTrailingZeros_95d88_13 : (13, a_l2i 14) ∈ kJ13_numberOfTrailingZeros_95d88 := qJ13_numberOfTrailingZeros_95d88_0 _ (List.mem_of_getElem? (i := 9) rfl)
theorem tJ13_numberOfTrailingZeros_95d88_14 : (14, a_call 216 1 17 0 0) ∈ kJ13_numberOfTrailingZeros_95d88 := qJ13_numberOfTrailingZeros_95d88_0 _ (List.mem_of_getElem? (i := 10) rfl)
theorem tJ13_numberOfTrailingZeros_95d88_17 : (17, a_ii (fun x y => x + y) 18) ∈ kJ13_numberOfTrailingZeros_95d88 := qJ13_numberOfTrailingZeros_95d88_0 _ (List.mem_of_getElem? (i := 11) rfl)
theorem tJ13_numberOfTrailingZeros_95d88_18 : (18, a_goto 25) ∈ kJ13_numberOfTrailingZeros_95d88 := qJ13_numberOfTrailingZeros_95d88_0 _ (List.mem_of_getElem? (i := 12) rfl)
theorem tJ13_numberOfTrailingZeros_95d88_21 : (21, a_iload 2 22) ∈ kJ13_numberOfTrailingZeros_95d88 := qJ13_numberOfTrailingZeros_95d88_0 _ (List.mem_of_getElem? (i := 13) rfl)
theorem tJ13_numberOfTrailingZeros_95d88_22 : (22, a_call 216 1 25 0 0) ∈ kJ13_numberOfTrailingZeros_95d88 := qJ13_numberOfTrailingZeros_95d88_0 _ (List.mem_of_getElem? (i := 14) rfl)
theorem tJ13_numberOfTrailingZeros_95d88_25 : (25, a_iret false) ∈ kJ13_numberOfTrailingZeros_95d88 := qJ13_numberOfTrailingZeros_95d88_0 _ (List.mem_of_getElem? (i := 15) rfl)
theorem oJ13_numberOfTrailingZeros_95d88 : ∀ q ∈ kJ13_numberOfTrailingZeros_95d88, zSnd zty false RJ13 cJ13_numberOfTrailingZeros_95d88 3 (some .int) false q := oJ13_numberOfTrailingZeros_95d88_0
theorem dJ13_bitCount_95d88_0 : decode cJ13_bitCount_95d88 0 = .ok (.lload_n 0, 1) := by decide +kernel
theorem dJ13_bitCount_95d88_1 : decode cJ13_bitCount_95d88 1 = .ok (.lload_n 0, 1) := by decide +kernel
theorem dJ13_bitCount_95d88_2 : decode cJ13_bitCount_95d88 2 = .ok (.iconst 1, 1) := by decide +kernel
theorem dJ13_bitCount_95d88_3 : decode cJ13_bitCount_95d88 3 = .ok (.lushr, 1) := by decide +kernel
theorem dJ13_bitCount_95d88_4 : decode cJ13_bitCount_95d88 4 = .ok (.ldc2_w 314, 3) := by decide +kernel
theorem dJ13_bitCount_95d88_7 : decode cJ13_bitCount_95d88 7 = .ok (.land, 1) := by decide +kernel
theorem dJ13_bitCount_95d88_8 : decode cJ13_bitCount_95d88 8 = .ok (.lsub, 1) := by decide +kernel
theorem dJ13_bitCount_95d88_9 : decode cJ13_bitCount_95d88 9 = .ok (.lstore_n 0, 1) := by decide +kernel
theorem dJ13_bitCount_95d88_10 : decode cJ13_bitCount_95d88 10 = .ok (.lload_n 0, 1) := by decide +kernel
theorem dJ13_bitCount_95d88_11 : decode cJ13_bitCount_95d88 11 = .ok (.ldc2_w 316, 3) := by decide +kernel
theorem dJ13_bitCount_95d88_14 : decode cJ13_bitCount_95d88 14 = .ok (.land, 1) := by decide +kernel
theorem dJ13_bitCount_95d88_15 : decode cJ13_bitCount_95d88 15 = .ok (.lload_n 0, 1) := by decide +kernel
theorem dJ13_bitCount_95d88_16 : decode cJ13_bitCount_95d88 16 = .ok (.iconst 2, 1) := by decide +kernel
theorem dJ13_bitCount_95d88_17 : decode cJ13_bitCount_95d88 17 = .ok (.lushr, 1) := by decide +kernel
theorem dJ13_bitCount_95d88_18 : decode cJ13_bitCount_95d88 18 = .ok (.ldc2_w 316, 3) := by decide +kernel
theorem dJ13_bitCount_95d88_21 : decode cJ13_bitCount_95d88 21 = .ok (.land, 1) := by decide +kernel
theorem dJ13_bitCount_95d88_22 : decode cJ13_bitCount_95d88 22 = .ok (.ladd, 1) := by decide +kernel
theorem dJ13_bitCount_95d88_23 : decode cJ13_bitCount_95d88 23 = .ok (.lstore_n 0, 1) := by decide +kernel
theorem dJ13_bitCount_95d88_24 : decode cJ13_bitCount_95d88 24 = .ok (.lload_n 0, 1) := by decide +kernel
theorem dJ13_bitCount_95d88_25 : decode cJ13_bitCount_95d88 25 = .ok (.lload_n 0, 1) := by decide +kernel
theorem dJ13_bitCount_95d88_26 : decode cJ13_bitCount_95d88 26 = .ok (.iconst 4, 1) := by decide +kernel
theorem dJ13_bitCount_95d88_27 : decode cJ13_bitCount_95d88 27 = .ok (.lushr, 1) := by decide +kernel
theorem dJ13_bitCount_95d88_28 : decode cJ13_bitCount_95d88 28 = .ok (.ladd, 1) := by decide +kernel
theorem dJ13_bitCount_95d88_29 : decode cJ13_bitCount_95d88 29 = .ok (.ldc2_w 318, 3) := by decide +kernel
theorem dJ13_bitCount_95d88_32 : decode cJ13_bitCount_95d88 32 = .ok (.land, 1) := by decide +kernel
theorem dJ13_bitCount_95d88_33 : decode cJ13_bitCount_95d88 33 = .ok (.lstore_n 0, 1) := by decide +kernel
theorem dJ13_bitCount_95d88_34 : decode cJ13_bitCount_95d88 34 = .ok (.lload_n 0, 1) := by decide +kernel
theorem dJ13_bitCount_95d88_35 : decode cJ13_bitCount_95d88 35 = .ok (.lload_n 0, 1) := by decide +kernel
theorem dJ13_bitCount_95d88_36 : decode cJ13_bitCount_95d88 36 = .ok (.bipush 8, 2) := by decide +kernel
theorem dJ13_bitCount_95d88_38 : decode cJ13_bitCount_95d88 38 = .ok (.lushr, 1) := by decide +kernel
theorem dJ13_bitCount_95d88_39 : decode cJ13_bitCount_95d88 39 = .ok (.ladd, 1) := by decide +kernel
theorem dJ13_bitCount_95d88_40 : decode cJ13_bitCount_95d88 40 = .ok (.lstore_n 0, 1) := by decide +kernel
theorem dJ13_bitCount_95d88_41 : decode cJ13_bitCount_95d88 41 = .ok (.lload_n 0, 1) := by decide +kernel
theorem dJ13_bitCount_95d88_42 : decode cJ13_bitCount_95d88 42 = .ok (.lload_n 0, 1) := by decide +kernel
theorem dJ13_bitCount_95d88_43 : decode cJ13_bitCount_95d88 43 = .ok (.bipush 16, 2) := by decide +kernel
theorem dJ13_bitCount_95d88_45 : decode cJ13_bitCount_95d88 45 = .ok (.lushr, 1) := by decide +kernel
theorem dJ13_bitCount_95d88_46 : decode cJ13_bitCount_95d88 46 = .ok (.ladd, 1) := by decide +kernel
theorem dJ13_bitCount_95d88_47 : decode cJ13_bitCount_95d88 47 = .ok (.lstore_n 0, 1) := by decide +kernel
theorem dJ13_bitCount_95d88_48 : decode cJ13_bitCount_95d88 48 = .ok (.lload_n 0, 1) := by decide +kernel
theorem dJ13_bitCount_95d88_49 : decode cJ13_bitCount_95d88 49 = .ok (.lload_n 0, 1) := by decide +kernel
theorem dJ13_bitCount_95d88_50 : decode cJ13_bitCount_95d88 50 = .ok (.bipush 32, 2) := by decide +kernel
theorem dJ13_bitCount_95d88_52 : decode cJ13_bitCount_95d88 52 = .ok (.lushr, 1) := by decide +kernel
theorem dJ13_bitCount_95d88_53 : decode cJ13_bitCount_95d88 53 = .ok (.ladd, 1) := by decide +kernel
theorem dJ13_bitCount_95d88_54 : decode cJ13_bitCount_95d88 54 = .ok (.lstore_n 0, 1) := by decide +kernel
theorem dJ13_bitCount_95d88_55 : decode cJ13_bitCount_95d88 55 = .ok (.lload_n 0, 1) := by decide +kernel
theorem dJ13_bitCount_95d88_56 : decode cJ13_bitCount_95d88 56 = .ok (.l2i, 1) := by decide +kernel
theorem dJ13_bitCount_95d88_57 : decode cJ13_bitCount_95d88 57 = .ok (.bipush 127, 2) := by decide +kernel
theorem dJ13_bitCount_95d88_59 : decode cJ13_bitCount_95d88 59 = .ok (.iand, 1) := by decide +kernel
theorem dJ13_bitCount_95d88_60 : decode cJ13_bitCount_95d88 60 = .ok (.ireturn, 1) := by decide +kernel
def kJ13_bitCount_95d88_0 : List (Nat × zT) := [(0, a_lload 0 1), (1, a_lload 0 2), (2, a_i 1 3), (3, a_li (fun x y => (x.toUInt64 >>> (y.toInt64.toUInt64 &&& Int64.toUInt64 63)).toInt64) 4), (4, a_l 6148914691236517205 7), (7, a_ll (fun x y => x &&& y) 8), (8, a_ll (fun x y => x - y) 9), (9, a_lstore 0 10), (10, a_lload 0 11), (11, a_l 3689348814741910323 14), (14, a_ll (fun x y => x &&& y) 15), (15, a_lload 0 16), (16, a_i 2 17), (17, a_li (fun x y => (x.toUInt64 >>> (y.toInt64.toUInt64 &&& Int64.toUInt64 63)).toInt64) 18), (18, a_l 3689348814741910323 21), (21, a_ll (fun x y => x &&& y) 22), (22, a_ll (fun x y => x + y) 23), (23, a_lstore 0 24), (24, a_lload 0 25), (25, a_lload 0 26), (26, a_i 4 27), (27, a_li (fun x y => (x.toUInt64 >>> (y.toInt64.toUInt64 &&& Int64.toUInt64 63)).toInt64) 28), (28, a_ll (fun x y => x + y) 29), (29, a_l 1085102592571150095 32)]
theorem oJ13_bitCount_95d88_0 : ∀ q ∈ kJ13_bitCount_95d88_0, zSnd zty false RJ13 cJ13_bitCount_95d88 2 (some .int) false q := List.forall_mem_cons.mpr ⟨ok_lload_n dJ13_bitCount_95d88_0 rfl, List.forall_mem_cons.mpr ⟨ok_lload_n dJ13_bitCount_95d88_1 rfl, List.forall_mem_cons.mpr ⟨ok_iconst dJ13_bitCount_95d88_2 (by decide), List.forall_mem_cons.mpr ⟨ok_lushr dJ13_bitCount_95d88_3, List.forall_mem_cons.mpr ⟨ok_ldc2 dJ13_bitCount_95d88_4 w603, List.forall_mem_cons.mpr ⟨ok_land dJ13_bitCount_95d88_7, List.forall_mem_cons.mpr ⟨ok_lsub dJ13_bitCount_95d88_8, List.forall_mem_cons.mpr ⟨ok_lstore_n dJ13_bitCount_95d88_9 rfl (by decide), List.forall_mem_cons.mpr ⟨ok_lload_n dJ13_bitCount_95d88_10 rfl, List.forall_mem_cons.mpr ⟨ok_ldc2 dJ13_bitCount_95d88_11 w604, List.forall_mem_cons.mpr ⟨ok_land dJ13_bitCount_95d88_14, List.forall_mem_cons.mpr ⟨ok_lload_n dJ13_bitCount_95d88_15 rfl, List.forall_mem_cons.mpr ⟨ok_iconst dJ13_bitCount_95d88_16 (by decide), List.forall_mem_cons.mpr ⟨ok_lushr dJ13_bitCount_95d88_17, List.forall_mem_cons.mpr ⟨ok_ldc2 dJ13_bitCount_95d88_18 w604, List.forall_mem_cons.mpr ⟨ok_land dJ13_bitCount_95d88_21, List.forall_mem_cons.mpr ⟨ok_ladd dJ13_bitCount_95d88_22, List.forall_mem_cons.mpr ⟨ok_lstore_n dJ13_bitCount_95d88_23 rfl (by decide), List.forall_mem_cons.mpr ⟨ok_lload_n dJ13_bitCount_95d88_24 rfl, List.forall_mem_cons.mpr ⟨ok_lload_n dJ13_bitCount_95d88_25 rfl, List.forall_mem_cons.mpr ⟨ok_iconst dJ13_bitCount_95d88_26 (by decide), List.forall_mem_cons.mpr ⟨ok_lushr dJ13_bitCount_95d88_27, List.forall_mem_cons.mpr ⟨ok_ladd dJ13_bitCount_95d88_28, List.forall_mem_cons.mpr ⟨ok_ldc2 dJ13_bitCount_95d88_29 w605, fun _ h => absurd h List.not_mem_nil⟩⟩⟩⟩⟩⟩⟩⟩⟩⟩⟩⟩⟩⟩⟩⟩⟩⟩⟩⟩⟩⟩⟩⟩
def kJ13_bitCount_95d88_1 : List (Nat × zT) := [(32, a_ll (fun x y => x &&& y) 33), (33, a_lstore 0 34), (34, a_lload 0 35), (35, a_lload 0 36), (36, a_i 8 38), (38, a_li (fun x y => (x.toUInt64 >>> (y.toInt64.toUInt64 &&& Int64.toUInt64 63)).toInt64) 39), (39, a_ll (fun x y => x + y) 40), (40, a_lstore 0 41), (41, a_lload 0 42), (42, a_lload 0 43), (43, a_i 16 45), (45, a_li (fun x y => (x.toUInt64 >>> (y.toInt64.toUInt64 &&& Int64.toUInt64 63)).toInt64) 46), (46, a_ll (fun x y => x + y) 47), (47, a_lstore 0 48), (48, a_lload 0 49), (49, a_lload 0 50), (50, a_i 32 52), (52, a_li (fun x y => (x.toUInt64 >>> (y.toInt64.toUInt64 &&& Int64.toUInt64 63)).toInt64) 53), (53, a_ll (fun x y => x + y) 54), (54, a_lstore 0 55), (55, a_lload 0 56), (56, a_l2i 57), (57, a_i 127 59), (59, a_ii (fun x y => x &&& y) 60)]
theorem oJ13_bitCount_95d88_1 : ∀ q ∈ kJ13_bitCount_95d88_1, zSnd zty false RJ13 cJ13_bitCount_95d88 2 (some .int) false q := List.forall_mem_cons.mpr ⟨ok_land dJ13_bitCount_95d88_32, List.forall_mem_cons.mpr ⟨ok_lstore_n dJ13_bitCount_95d88_33 rfl (by decide), List.forall_mem_cons.mpr ⟨ok_lload_n dJ13_bitCount_95d88_34 rfl, List.forall_mem_cons.mpr ⟨ok_lload_n dJ13_bitCount_95d88_35 rfl, List.forall_mem_cons.mpr ⟨ok_bipush dJ13_bitCount_95d88_36 (by decide), List.forall_mem_cons.mpr ⟨ok_lushr dJ13_bitCount_95d88_38, List.forall_mem_cons.mpr ⟨ok_ladd dJ13_bitCount_95d88_39, List.forall_mem_cons.mpr ⟨ok_lstore_n dJ13_bitCount_95d88_40 rfl (by decide), List.forall_mem_cons.mpr ⟨ok_lload_n dJ13_bitCount_95d88_41 rfl, List.forall_mem_cons.mpr ⟨ok_lload_n dJ13_bitCount_95d88_42 rfl, List.forall_mem_cons.mpr ⟨ok_bipush dJ13_bitCount_95d88_43 (by decide), List.forall_mem_cons.mpr ⟨ok_lushr dJ13_bitCount_95d88_45, List.forall_mem_cons.mpr ⟨ok_ladd dJ13_bitCount_95d88_46, List.forall_mem_cons.mpr ⟨ok_lstore_n dJ13_bitCount_95d88_47 rfl (by decide), List.forall_mem_cons.mpr ⟨ok_lload_n dJ13_bitCount_95d88_48 rfl, List.forall_mem_cons.mpr ⟨ok_lload_n dJ13_bitCount_95d88_49 rfl, List.forall_mem_cons.mpr ⟨ok_bipush dJ13_bitCount_95d88_50 (by decide), List.forall_mem_cons.mpr ⟨ok_lushr dJ13_bitCount_95d88_52, List.forall_mem_cons.mpr ⟨ok_ladd dJ13_bitCount_95d88_53, List.forall_mem_cons.mpr ⟨ok_lstore_n dJ13_bitCount_95d88_54 rfl (by decide), List.forall_mem_cons.mpr ⟨ok_lload_n dJ13_bitCount_95d88_55 rfl, List.forall_mem_cons.mpr ⟨ok_l2i dJ13_bitCount_95d88_56, List.forall_mem_cons.mpr ⟨ok_bipush dJ13_bitCount_95d88_57 (by decide), List.forall_mem_cons.mpr ⟨ok_iand dJ13_bitCount_95d88_59, fun _ h => absurd h List.not_mem_nil⟩⟩⟩⟩⟩⟩⟩⟩⟩⟩⟩⟩⟩⟩⟩⟩⟩⟩⟩⟩⟩⟩⟩⟩
def kJ13_bitCount_95d88_2 : List (Nat × zT) := [(60, a_iret false)]
theorem oJ13_bitCount_95d88_2 : ∀ q ∈ kJ13_bitCount_95d88_2, zSnd zty false RJ13 cJ13_bitCount_95d88 2 (some .int) false q := List.forall_mem_cons.mpr ⟨ok_iret (bz := false) dJ13_bitCount_95d88_60 rfl, fun _ h => absurd h List.not_mem_nil⟩
def kJ13_bitCount_95d88 : List (Nat × zT) := kJ13_bitCount_95d88_0 ++ (kJ13_bitCount_95d88_1 ++ (kJ13_bitCount_95d88_2))
theorem qJ13_bitCount_95d88_0 : ∀ q ∈ kJ13_bitCount_95d88_0, q ∈ kJ13_bitCount_95d88 := fun _ h => (List.mem_append_left _ h)
theorem tJ13_bitCount_95d88_0 : (0, a_lload 0 1) ∈ kJ13_bitCount_95d88 := qJ13_bitCount_95d88_0 _ (List.mem_of_getElem? (i := 0) rfl)
theorem tJ13_bitCount_95d88_1 : (1, a_lload 0 2) ∈ kJ13_bitCount_95d88 := qJ13_bitCount_95d88_0 _ (List.mem_of_getElem? (i := 1) rfl)
theorem tJ13_bitCount_95d88_2 : (2, a_i 1 3) ∈ kJ13_bitCount_95d88 := qJ13_bitCount_95d88_0 _ (List.mem_of_getElem? (i := 2) rfl)
theorem tJ13_bitCount_95d88_3 : (3, a_li (fun x y => (x.toUInt64 >>> (y.toInt64.toUInt64 &&& Int64.toUInt64 63)).toInt64) 4) ∈ kJ13_bitCount_95d88 := qJ13_bitCount_95d88_0 _ (List.mem_of_getElem? (i := 3) rfl)
theorem tJ13_bitCount_95d88_4 : (4, a_l 6148914691236517205 7) ∈ kJ13_bitCount_95d88 := qJ13_bitCount_95d88_0 _ (List.mem_of_getElem? (i := 4) rfl)
theorem tJ13_bitCount_95d88_7 : (7, a_ll (fun x y => x &&& y) 8) ∈ kJ13_bitCount_95d88 := qJ13_bitCount_95d88_0 _ (List.mem_of_getElem? (i := 5) rfl)
theorem tJ13_bitCount_95d88_8 : (8, a_ll (fun x y => x - y) 9) ∈ kJ13_bitCount_95d88 := qJ13_bitCount_95d88_0 _ (List.mem_of_getElem? (i := 6) rfl)
theorem tJ13_bitCount_95d88_9 : (9, a_lstore 0 10) ∈ kJ13_bitCount_95d88 := qJ13_bitCount_95d88_0 _ (List.mem_of_getElem? (i := 7) rfl)
theorem tJ13_bitCount_95d88_10 : (10, a_lload 0 11) ∈ kJ13_bitCount_95d88 := qJ13_bitCount_95d88_0 _ (List.mem_of_getElem? (i := 8) rfl)
theorem tJ13_bitCount_95d88_11 : (11, a_l 3689348814741910323 14) ∈ kJ13_bitCount_95d88 := qJ13_bitCount_95d88_0 _ (List.mem_of_getElem? (i := 9) rfl)
theorem tJ13_bitCount_95d88_14 : (14, a_ll (fun x y => x &&& y) 15) ∈ kJ13_bitCount_95d88 := qJ13_bitCount_95d88_0 _ (List.mem_of_getElem? (i := 10) rfl)
theorem tJ13_bitCount_95d88_15 : (15, a_lload 0 16) ∈ kJ13_bitCount_95d88 := qJ13_bitCount_95d88_0 _ (List.mem_of_getElem? (i := 11) rfl)
theorem tJ13_bitCount_95d88_16 : (16, a_i 2 17) ∈ kJ13_bitCount_95d88 := qJ13_bitCount_95d88_0 _ (List.mem_of_getElem? (i := 12) rfl)
theorem tJ13_bitCount_95d88_17 : (17, a_li (fun x y => (x.toUInt64 >>> (y.toInt64.toUInt64 &&& Int64.toUInt64 63)).toInt64) 18) ∈ kJ13_bitCount_95d88 := qJ13_bitCount_95d88_0 _ (List.mem_of_getElem? (i := 13) rfl)
theorem tJ13_bitCount_95d88_18 : (18, a_l 3689348814741910323 21) ∈ kJ13_bitCount_95d88 := qJ13_bitCount_95d88_0 _ (List.mem_of_getElem? (i := 14) rfl)
theorem tJ13_bitCount_95d88_21 : (21, a_ll (fun x y => x &&& y) 22) ∈ kJ13_bitCount_95d88 := qJ13_bitCount_95d88_0 _ (List.mem_of_getElem? (i := 15) rfl)
theorem tJ13_bitCount_95d88_22 : (22, a_ll (fun x y => x + y) 23) ∈ kJ13_bitCount_95d88 := qJ13_bitCount_95d88_0 _ (List.mem_of_getElem? (i := 16) rfl)
theorem tJ13_bitCount_95d88_23 : (23, a_lstore 0 24) ∈ kJ13_bitCount_95d88 := qJ13_bitCount_95d88_0 _ (List.mem_of_getElem? (i := 17) rfl)
theorem tJ13_bitCount_95d88_24 : (24, a_lload 0 25) ∈ kJ13_bitCount_95d88 := qJ13_bitCount_95d88_0 _ (List.mem_of_getElem? (i := 18) rfl)
theorem tJ13_bitCount_95d88_25 : (25, a_lload 0 26) ∈ kJ13_bitCount_95d88 := qJ13_bitCount_95d88_0 _ (List.mem_of_getElem? (i := 19) rfl)
theorem tJ13_bitCount_95d88_26 : (26, a_i 4 27) ∈ kJ13_bitCount_95d88 := qJ13_bitCount_95d88_0 _ (List.mem_of_getElem? (i := 20) rfl)
theorem tJ13_bitCount_95d88_27 : (27, a_li (fun x y => (x.toUInt64 >>> (y.toInt64.toUInt64 &&& Int64.toUInt64 63)).toInt64) 28) ∈ kJ13_bitCount_95d88 := qJ13_bitCount_95d88_0 _ (List.mem_of_getElem? (i := 21) rfl)
theorem tJ13_bitCount_95d88_28 : (28, a_ll (fun x y => x + y) 29) ∈ kJ13_bitCount_95d88 := qJ13_bitCount_95d88_0 _ (List.mem_of_getElem? (i := 22) rfl)
theorem tJ13_bitCount_95d88_29 : (29, a_l 1085102592571150095 32) ∈ kJ13_bitCount_95d88 := qJ13_bitCount_95d88_0 _ (List.mem_of_getElem? (i := 23) rfl)
theorem qJ13_bitCount_95d88_1 : ∀ q ∈ kJ13_bitCount_95d88_1, q ∈ kJ13_bitCount_95d88 := fun _ h => (List.mem_append_right _ (List.mem_append_left _ h))
theorem tJ13_bitCount_95d88_32 : (32, a_ll (fun x y => x &&& y) 33) ∈ kJ13_bitCount_95d88 := qJ13_bitCount_95d88_1 _ (List.mem_of_getElem? (i := 0) rfl)
theorem tJ13_bitCount_95d88_33 : (33, a_lstore 0 34) ∈ kJ13_bitCount_95d88 := qJ13_bitCount_95d88_1 _ (List.mem_of_getElem? (i := 1) rfl)
theorem tJ13_bitCount_95d88_34 : (34, a_lload 0 35) ∈ kJ13_bitCount_95d88 := qJ13_bitCount_95d88_1 _ (List.mem_of_getElem? (i := 2) rfl)
theorem tJ13_bitCount_95d88_35 : (35, a_lload 0 36) ∈ kJ13_bitCount_95d88 := qJ13_bitCount_95d88_1 _ (List.mem_of_getElem? (i := 3) rfl)
theorem tJ13_bitCount_95d88_36 : (36, a_i 8 38) ∈ kJ13_bitCount_95d88 := qJ13_bitCount_95d88_1 _ (List.mem_of_getElem? (i := 4) rfl)
theorem tJ13_bitCount_95d88_38 : (38, a_li (fun x y => (x.toUInt64 >>> (y.toInt64.toUInt64 &&& Int64.toUInt64 63)).toInt64) 39) ∈ kJ13_bitCount_95d88 := qJ13_bitCount_95d88_1 _ (List.mem_of_getElem? (i := 5) rfl)
theorem tJ13_bitCount_95d88_39 : (39, a_ll (fun x y => x + y) 40) ∈ kJ13_bitCount_95d88 := qJ13_bitCount_95d88_1 _ (List.mem_of_getElem? (i := 6) rfl)
theorem tJ13_bitCount_95d88_40 : (40, a_lstore 0 41) ∈ kJ13_bitCount_95d88 := qJ13_bitCount_95d88_1 _ (List.mem_of_getElem? (i := 7) rfl)
theorem tJ13_bitCount_95d88_41 : (41, a_lload 0 42) ∈ kJ13_bitCount_95d88 := qJ13_bitCount_95d88_1 _ (List.mem_of_getElem? (i := 8) rfl)
theorem tJ13_bitCount_95d88_42 : (42, a_lload 0 43) ∈ kJ13_bitCount_95d88 := qJ13_bitCount_95d88_1 _ (List.mem_of_getElem? (i := 9) rfl)
theorem tJ13_bitCount_95d88_43 : (43, a_i 16 45) ∈ kJ13_bitCount_95d88 := qJ13_bitCount_95d88_1 _ (List.mem_of_getElem? (i := 10) rfl)
theorem tJ13_bitCount_95d88_45 : (45, a_li (fun x y => (x.toUInt64 >>> (y.toInt64.toUInt64 &&& Int64.toUInt64 63)).toInt64) 46) ∈ kJ13_bitCount_95d88 := qJ13_bitCount_95d88_1 _ (List.mem_of_getElem? (i := 11) rfl)
theorem tJ13_bitCount_95d88_46 : (46, a_ll (fun x y => x + y) 47) ∈ kJ13_bitCount_95d88 := qJ13_bitCount_95d88_1 _ (List.mem_of_getElem? (i := 12) rfl)
theorem tJ13_bitCount_95d88_47 : (47, a_lstore 0 48) ∈ kJ13_bitCount_95d88 := qJ13_bitCount_95d88_1 _ (List.mem_of_getElem? (i := 13) rfl)
theorem tJ13_bitCount_95d88_48 : (48, a_lload 0 49) ∈ kJ13_bitCount_95d88 := qJ13_bitCount_95d88_1 _ (List.mem_of_getElem? (i := 14) rfl)
theorem tJ13_bitCount_95d88_49 : (49, a_lload 0 50) ∈ kJ13_bitCount_95d88 := qJ13_bitCount_95d88_1 _ (List.mem_of_getElem? (i := 15) rfl)
theorem tJ13_bitCount_95d88_50 : (50, a_i 32 52) ∈ kJ13_bitCount_95d88 := qJ13_bitCount_95d88_1 _ (List.mem_of_getElem? (i := 16) rfl)
theorem tJ13_bitCount_95d88_52 : (52, a_li (fun x y => (x.toUInt64 >>> (y.toInt64.toUInt64 &&& Int64.toUInt64 63)).toInt64) 53) ∈ kJ13_bitCount_95d88 := qJ13_bitCount_95d88_1 _ (List.mem_of_getElem? (i := 17) rfl)
theorem tJ13_bitCount_95d88_53 : (53, a_ll (fun x y => x + y) 54) ∈ kJ13_bitCount_95d88 := qJ13_bitCount_95d88_1 _ (List.mem_of_getElem? (i := 18) rfl)
theorem tJ13_bitCount_95d88_54 : (54, a_lstore 0 55) ∈ kJ13_bitCount_95d88 := qJ13_bitCount_95d88_1 _ (List.mem_of_getElem? (i := 19) rfl)
theorem tJ13_bitCount_95d88_55 : (55, a_lload 0 56) ∈ kJ13_bitCount_95d88 := qJ13_bitCount_95d88_1 _ (List.mem_of_getElem? (i := 20) rfl)
theorem tJ13_bitCount_95d88_56 : (56, a_l2i 57) ∈ kJ13_bitCount_95d88 := qJ13_bitCount_95d88_1 _ (List.mem_of_getElem? (i := 21) rfl)
theorem tJ13_bitCount_95d88_57 : (57, a_i 127 59) ∈ kJ13_bitCount_95d88 := qJ13_bitCount_95d88_1 _ (List.mem_of_getElem? (i := 22) rfl)
theorem tJ13_bitCount_95d88_59 : (59, a_ii (fun x y => x &&& y) 60) ∈ kJ13_bitCount_95d88 := qJ13_bitCount_95d88_1 _ (List.mem_of_getElem? (i := 23) rfl)
theorem qJ13_bitCount_95d88_2 : ∀ q ∈ kJ13_bitCount_95d88_2, q ∈ kJ13_bitCount_95d88 := fun _ h => (List.mem_append_right _ (List.mem_append_right _ h))
theorem tJ13_bitCount_95d88_60 : (60, a_iret false) ∈ kJ13_bitCount_95d88 := qJ13_bitCount_95d88_2 _ (List.mem_of_getElem? (i := 0) rfl)
theorem oJ13_bitCount_95d88 : ∀ q ∈ kJ13_bitCount_95d88, zSnd zty false RJ13 cJ13_bitCount_95d88 2 (some .int) false q := List.forall_mem_append.mpr ⟨oJ13_bitCount_95d88_0, List.forall_mem_append.mpr ⟨oJ13_bitCount_95d88_1, oJ13_bitCount_95d88_2⟩⟩
theorem dJ7_fill_d0a16_0 : decode cJ7_fill_d0a16 0 = .ok (.iconst 0, 1) := by decide +kernel
theorem dJ7_fill_d0a16_1 : decode cJ7_fill_d0a16 1 = .ok (.istore_n 3, 1) := by decide +kernel
theorem dJ7_fill_d0a16_2 : decode cJ7_fill_d0a16 2 = .ok (.aload_n 0, 1) := by decide +kernel
theorem dJ7_fill_d0a16_3 : decode cJ7_fill_d0a16 3 = .ok (.arraylength, 1) := by decide +kernel
theorem dJ7_fill_d0a16_4 : decode cJ7_fill_d0a16 4 = .ok (.istore 4, 2) := by decide +kernel
theorem dJ7_fill_d0a16_6 : decode cJ7_fill_d0a16 6 = .ok (.iload_n 3, 1) := by decide +kernel
theorem dJ7_fill_d0a16_7 : decode cJ7_fill_d0a16 7 = .ok (.iload 4, 2) := by decide +kernel
theorem dJ7_fill_d0a16_9 : decode cJ7_fill_d0a16 9 = .ok (.if_icmp .ge 13, 3) := by decide +kernel
theorem dJ7_fill_d0a16_12 : decode cJ7_fill_d0a16 12 = .ok (.aload_n 0, 1) := by decide +kernel
theorem dJ7_fill_d0a16_13 : decode cJ7_fill_d0a16 13 = .ok (.iload_n 3, 1) := by decide +kernel
theorem dJ7_fill_d0a16_14 : decode cJ7_fill_d0a16 14 = .ok (.lload_n 1, 1) := by decide +kernel
theorem dJ7_fill_d0a16_15 : decode cJ7_fill_d0a16 15 = .ok (.lastore, 1) := by decide +kernel
theorem dJ7_fill_d0a16_16 : decode cJ7_fill_d0a16 16 = .ok (.iinc 3 1, 3) := by decide +kernel
theorem dJ7_fill_d0a16_19 : decode cJ7_fill_d0a16 19 = .ok (.goto (-13), 3) := by decide +kernel
theorem dJ7_fill_d0a16_22 : decode cJ7_fill_d0a16 22 = .ok (.return_, 1) := by decide +kernel
def kJ7_fill_d0a16_0 : List (Nat × zT) := [(0, a_i 0 1), (1, a_istore 3 2), (2, a_aload 0 3), (3, a_alen 4), (4, a_istore 4 6), (6, a_iload 3 7), (7, a_iload 4 9), (9, a_ic_ge 22 12), (12, a_aload 0 13), (13, a_iload 3 14), (14, a_lload 1 15), (15, a_last 16), (16, a_iinc 3 1 19), (19, a_goto 6), (22, a_vret)]
theorem oJ7_fill_d0a16_0 : ∀ q ∈ kJ7_fill_d0a16_0, zSnd zty false RJ7 cJ7_fill_d0a16 5 none false q := List.forall_mem_cons.mpr ⟨ok_iconst dJ7_fill_d0a16_0 (by decide), List.forall_mem_cons.mpr ⟨ok_istore_n dJ7_fill_d0a16_1 rfl (by decide), List.forall_mem_cons.mpr ⟨ok_aload_n dJ7_fill_d0a16_2 rfl, List.forall_mem_cons.mpr ⟨ok_alen dJ7_fill_d0a16_3, List.forall_mem_cons.mpr ⟨ok_istore dJ7_fill_d0a16_4 (by decide), List.forall_mem_cons.mpr ⟨ok_iload_n dJ7_fill_d0a16_6 rfl, List.forall_mem_cons.mpr ⟨ok_iload dJ7_fill_d0a16_7, List.forall_mem_cons.mpr ⟨ok_ic_ge dJ7_fill_d0a16_9 (by decide), List.forall_mem_cons.mpr ⟨ok_aload_n dJ7_fill_d0a16_12 rfl, List.forall_mem_cons.mpr ⟨ok_iload_n dJ7_fill_d0a16_13 rfl, List.forall_mem_cons.mpr ⟨ok_lload_n dJ7_fill_d0a16_14 rfl, List.forall_mem_cons.mpr ⟨ok_last dJ7_fill_d0a16_15, List.forall_mem_cons.mpr ⟨ok_iinc dJ7_fill_d0a16_16 (by decide) (by decide), List.forall_mem_cons.mpr ⟨ok_goto dJ7_fill_d0a16_19 (by decide), List.forall_mem_cons.mpr ⟨ok_vret dJ7_fill_d0a16_22 rfl, fun _ h => absurd h List.not_mem_nil⟩⟩⟩⟩⟩⟩⟩⟩⟩⟩⟩⟩⟩⟩⟩
def kJ7_fill_d0a16 : List (Nat × zT) := kJ7_fill_d0a16_0
theorem qJ7_fill_d0a16_0 : ∀ q ∈ kJ7_fill_d0a16_0, q ∈ kJ7_fill_d0a16 := fun _ h => h
theorem tJ7_fill_d0a16_0 : (0, a_i 0 1) ∈ kJ7_fill_d0a16 := qJ7_fill_d0a16_0 _ (List.mem_of_getElem? (i := 0) rfl)
theorem tJ7_fill_d0a16_1 : (1, a_istore 3 2) ∈ kJ7_fill_d0a16 := qJ7_fill_d0a16_0 _ (List.mem_of_getElem? (i := 1) rfl)
theorem tJ7_fill_d0a16_2 : (2, a_aload 0 3) ∈ kJ7_fill_d0a16 := qJ7_fill_d0a16_0 _ (List.mem_of_getElem? (i := 2) rfl)
theorem tJ7_fill_d0a16_3 : (3, a_alen 4) ∈ kJ7_fill_d0a16 := qJ7_fill_d0a16_0 _ (List.mem_of_getElem? (i := 3) rfl)
theorem tJ7_fill_d0a16_4 : (4, a_istore 4 6) ∈ kJ7_fill_d0a16 := qJ7_fill_d0a16_0 _ (List.mem_of_getElem? (i := 4) rfl)
theorem tJ7_fill_d0a16_6 : (6, a_iload 3 7) ∈ kJ7_fill_d0a16 := qJ7_fill_d0a16_0 _ (List.mem_of_getElem? (i := 5) rfl)
theorem tJ7_fill_d0a16_7 : (7, a_iload 4 9) ∈ kJ7_fill_d0a16 := qJ7_fill_d0a16_0 _ (List.mem_of_getElem? (i := 6) rfl)
theorem tJ7_fill_d0a16_9 : (9, a_ic_ge 22 12) ∈ kJ7_fill_d0a16 := qJ7_fill_d0a16_0 _ (List.mem_of_getElem? (i := 7) rfl)
theorem tJ7_fill_d0a16_12 : (12, a_aload 0 13) ∈ kJ7_fill_d0a16 := qJ7_fill_d0a16_0 _ (List.mem_of_getElem? (i := 8) rfl)
theorem tJ7_fill_d0a16_13 : (13, a_iload 3 14) ∈ kJ7_fill_d0a16 := qJ7_fill_d0a16_0 _ (List.mem_of_getElem? (i := 9) rfl)
theorem tJ7_fill_d0a16_14 : (14, a_lload 1 15) ∈ kJ7_fill_d0a16 := qJ7_fill_d0a16_0 _ (List.mem_of_getElem? (i := 10) rfl)
theorem tJ7_fill_d0a16_15 : (15, a_last 16) ∈ kJ7_fill_d0a16 := qJ7_fill_d0a16_0 _ (List.mem_of_getElem? (i := 11) rfl)
theorem tJ7_fill_d0a16_16 : (16, a_iinc 3 1 19) ∈ kJ7_fill_d0a16 := qJ7_fill_d0a16_0 _ (List.mem_of_getElem? (i := 12) rfl)
theorem tJ7_fill_d0a16_19 : (19, a_goto 6) ∈ kJ7_fill_d0a16 := qJ7_fill_d0a16_0 _ (List.mem_of_getElem? (i := 13) rfl)
theorem tJ7_fill_d0a16_22 : (22, a_vret) ∈ kJ7_fill_d0a16 := qJ7_fill_d0a16_0 _ (List.mem_of_getElem? (i := 14) rfl)
theorem oJ7_fill_d0a16 : ∀ q ∈ kJ7_fill_d0a16, zSnd zty false RJ7 cJ7_fill_d0a16 5 none false q := oJ7_fill_d0a16_0
theorem dJ7_fill_53178_0 : decode cJ7_fill_53178 0 = .ok (.iconst 0, 1) := by decide +kernel
theorem dJ7_fill_53178_1 : decode cJ7_fill_53178 1 = .ok (.istore_n 2, 1) := by decide +kernel
theorem dJ7_fill_53178_2 : decode cJ7_fill_53178 2 = .ok (.aload_n 0, 1) := by decide +kernel
theorem dJ7_fill_53178_3 : decode cJ7_fill_53178 3 = .ok (.arraylength, 1) := by decide +kernel
theorem dJ7_fill_53178_4 : decode cJ7_fill_53178 4 = .ok (.istore_n 3, 1) := by decide +kernel
theorem dJ7_fill_53178_5 : decode cJ7_fill_53178 5 = .ok (.iload_n 2, 1) := by decide +kernel
theorem dJ7_fill_53178_6 : decode cJ7_fill_53178 6 = .ok (.iload_n 3, 1) := by decide +kernel
theorem dJ7_fill_53178_7 : decode cJ7_fill_53178 7 = .ok (.if_icmp .ge 13, 3) := by decide +kernel
theorem dJ7_fill_53178_10 : decode cJ7_fill_53178 10 = .ok (.aload_n 0, 1) := by decide +kernel
theorem dJ7_fill_53178_11 : decode cJ7_fill_53178 11 = .ok (.iload_n 2, 1) := by decide +kernel
theorem dJ7_fill_53178_12 : decode cJ7_fill_53178 12 = .ok (.iload_n 1, 1) := by decide +kernel
theorem dJ7_fill_53178_13 : decode cJ7_fill_53178 13 = .ok (.iastore, 1) := by decide +kernel
theorem dJ7_fill_53178_14 : decode cJ7_fill_53178 14 = .ok (.iinc 2 1, 3) := by decide +kernel
theorem dJ7_fill_53178_17 : decode cJ7_fill_53178 17 = .ok (.goto (-12), 3) := by decide +kernel
theorem dJ7_fill_53178_20 : decode cJ7_fill_53178 20 = .ok (.return_, 1) := by decide +kernel
def kJ7_fill_53178_0 : List (Nat × zT) := [(0, a_i 0 1), (1, a_istore 2 2), (2, a_aload 0 3), (3, a_alen 4), (4, a_istore 3 5), (5, a_iload 2 6), (6, a_iload 3 7), (7, a_ic_ge 20 10), (10, a_aload 0 11), (11, a_iload 2 12), (12, a_iload 1 13), (13, a_iast 14), (14, a_iinc 2 1 17), (17, a_goto 5), (20, a_vret)]
theorem oJ7_fill_53178_0 : ∀ q ∈ kJ7_fill_53178_0, zSnd zty false RJ7 cJ7_fill_53178 4 none false q := List.forall_mem_cons.mpr ⟨ok_iconst dJ7_fill_53178_0 (by decide), List.forall_mem_cons.mpr ⟨ok_istore_n dJ7_fill_53178_1 rfl (by decide), List.forall_mem_cons.mpr ⟨ok_aload_n dJ7_fill_53178_2 rfl, List.forall_mem_cons.mpr ⟨ok_alen dJ7_fill_53178_3, List.forall_mem_cons.mpr ⟨ok_istore_n dJ7_fill_53178_4 rfl (by decide), List.forall_mem_cons.mpr ⟨ok_iload_n dJ7_fill_53178_5 rfl, List.forall_mem_cons.mpr ⟨ok_iload_n dJ7_fill_53178_6 rfl, List.forall_mem_cons.mpr ⟨ok_ic_ge dJ7_fill_53178_7 (by decide), List.forall_mem_cons.mpr ⟨ok_aload_n dJ7_fill_53178_10 rfl, List.forall_mem_cons.mpr ⟨ok_iload_n dJ7_fill_53178_11 rfl, List.forall_mem_cons.mpr ⟨ok_iload_n dJ7_fill_53178_12 rfl, List.forall_mem_cons.mpr ⟨ok_iast dJ7_fill_53178_13, List.forall_mem_cons.mpr ⟨ok_iinc dJ7_fill_53178_14 (by decide) (by decide), List.forall_mem_cons.mpr ⟨ok_goto dJ7_fill_53178_17 (by decide), List.forall_mem_cons.mpr ⟨ok_vret dJ7_fill_53178_20 rfl, fun _ h => absurd h List.not_mem_nil⟩⟩⟩⟩⟩⟩⟩⟩⟩⟩⟩⟩⟩⟩⟩
def kJ7_fill_53178 : List (Nat × zT) := kJ7_fill_53178_0
theorem qJ7_fill_53178_0 : ∀ q ∈ kJ7_fill_53178_0, q ∈ kJ7_fill_53178 := fun _ h => h
theorem tJ7_fill_53178_0 : (0, a_i 0 1) ∈ kJ7_fill_53178 := qJ7_fill_53178_0 _ (List.mem_of_getElem? (i := 0) rfl)
theorem tJ7_fill_53178_1 : (1, a_istore 2 2) ∈ kJ7_fill_53178 := qJ7_fill_53178_0 _ (List.mem_of_getElem? (i := 1) rfl)
theorem tJ7_fill_53178_2 : (2, a_aload 0 3) ∈ kJ7_fill_53178 := qJ7_fill_53178_0 _ (List.mem_of_getElem? (i := 2) rfl)
theorem tJ7_fill_53178_3 : (3, a_alen 4) ∈ kJ7_fill_53178 := qJ7_fill_53178_0 _ (List.mem_of_getElem? (i := 3) rfl)
theorem tJ7_fill_53178_4 : (4, a_istore 3 5) ∈ kJ7_fill_53178 := qJ7_fill_53178_0 _ (List.mem_of_getElem? (i := 4) rfl)
theorem tJ7_fill_53178_5 : (5, a_iload 2 6) ∈ kJ7_fill_53178 := qJ7_fill_53178_0 _ (List.mem_of_getElem? (i := 5) rfl)
theorem tJ7_fill_53178_6 : (6, a_iload 3 7) ∈ kJ7_fill_53178 := qJ7_fill_53178_0 _ (List.mem_of_getElem? (i := 6) rfl)
theorem tJ7_fill_53178_7 : (7, a_ic_ge 20 10) ∈ kJ7_fill_53178 := qJ7_fill_53178_0 _ (List.mem_of_getElem? (i := 7) rfl)
theorem tJ7_fill_53178_10 : (10, a_aload 0 11) ∈ kJ7_fill_53178 := qJ7_fill_53178_0 _ (List.mem_of_getElem? (i := 8) rfl)
theorem tJ7_fill_53178_11 : (11, a_iload 2 12) ∈ kJ7_fill_53178 := qJ7_fill_53178_0 _ (List.mem_of_getElem? (i := 9) rfl)
theorem tJ7_fill_53178_12 : (12, a_iload 1 13) ∈ kJ7_fill_53178 := qJ7_fill_53178_0 _ (List.mem_of_getElem? (i := 10) rfl)
theorem tJ7_fill_53178_13 : (13, a_iast 14) ∈ kJ7_fill_53178 := qJ7_fill_53178_0 _ (List.mem_of_getElem? (i := 11) rfl)
theorem tJ7_fill_53178_14 : (14, a_iinc 2 1 17) ∈ kJ7_fill_53178 := qJ7_fill_53178_0 _ (List.mem_of_getElem? (i := 12) rfl)
theorem tJ7_fill_53178_17 : (17, a_goto 5) ∈ kJ7_fill_53178 := qJ7_fill_53178_0 _ (List.mem_of_getElem? (i := 13) rfl)
theorem tJ7_fill_53178_20 : (20, a_vret) ∈ kJ7_fill_53178 := qJ7_fill_53178_0 _ (List.mem_of_getElem? (i := 14) rfl)
theorem oJ7_fill_53178 : ∀ q ∈ kJ7_fill_53178, zSnd zty false RJ7 cJ7_fill_53178 4 none false q := oJ7_fill_53178_0
