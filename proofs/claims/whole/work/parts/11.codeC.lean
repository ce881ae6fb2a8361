theorem dX11_init_0 : decode cX11_init 0 = .ok (.aload_n 0, 1) := by decide +kernel
theorem dX11_init_1 : decode cX11_init 1 = .ok (.invokespecial 1, 3) := by decide +kernel
theorem dX11_init_4 : decode cX11_init 4 = .ok (.aload_n 0, 1) := by decide +kernel
theorem dX11_init_5 : decode cX11_init 5 = .ok (.iconst 2, 1) := by decide +kernel
theorem dX11_init_6 : decode cX11_init 6 = .ok (.anewarray 7, 3) := by decide +kernel
theorem dX11_init_9 : decode cX11_init 9 = .ok (.dup, 1) := by decide +kernel
theorem dX11_init_10 : decode cX11_init 10 = .ok (.iconst 0, 1) := by decide +kernel
theorem dX11_init_11 : decode cX11_init 11 = .ok (.new 7, 3) := by decide +kernel
theorem dX11_init_14 : decode cX11_init 14 = .ok (.dup, 1) := by decide +kernel
theorem dX11_init_15 : decode cX11_init 15 = .ok (.invokespecial 9, 3) := by decide +kernel
theorem dX11_init_18 : decode cX11_init 18 = .ok (.aastore, 1) := by decide +kernel
theorem dX11_init_19 : decode cX11_init 19 = .ok (.dup, 1) := by decide +kernel
theorem dX11_init_20 : decode cX11_init 20 = .ok (.iconst 1, 1) := by decide +kernel
theorem dX11_init_21 : decode cX11_init 21 = .ok (.new 7, 3) := by decide +kernel
theorem dX11_init_24 : decode cX11_init 24 = .ok (.dup, 1) := by decide +kernel
theorem dX11_init_25 : decode cX11_init 25 = .ok (.invokespecial 9, 3) := by decide +kernel
theorem dX11_init_28 : decode cX11_init 28 = .ok (.aastore, 1) := by decide +kernel
theorem dX11_init_29 : decode cX11_init 29 = .ok (.putfield 10, 3) := by decide +kernel
theorem dX11_init_32 : decode cX11_init 32 = .ok (.aload_n 0, 1) := by decide +kernel
theorem dX11_init_33 : decode cX11_init 33 = .ok (.iconst 2, 1) := by decide +kernel
theorem dX11_init_34 : decode cX11_init 34 = .ok (.anewarray 16, 3) := by decide +kernel
theorem dX11_init_37 : decode cX11_init 37 = .ok (.dup, 1) := by decide +kernel
theorem dX11_init_38 : decode cX11_init 38 = .ok (.iconst 0, 1) := by decide +kernel
theorem dX11_init_39 : decode cX11_init 39 = .ok (.new 16, 3) := by decide +kernel
theorem dX11_init_42 : decode cX11_init 42 = .ok (.dup, 1) := by decide +kernel
theorem dX11_init_43 : decode cX11_init 43 = .ok (.invokespecial 18, 3) := by decide +kernel
theorem dX11_init_46 : decode cX11_init 46 = .ok (.aastore, 1) := by decide +kernel
theorem dX11_init_47 : decode cX11_init 47 = .ok (.dup, 1) := by decide +kernel
theorem dX11_init_48 : decode cX11_init 48 = .ok (.iconst 1, 1) := by decide +kernel
theorem dX11_init_49 : decode cX11_init 49 = .ok (.new 16, 3) := by decide +kernel
theorem dX11_init_52 : decode cX11_init 52 = .ok (.dup, 1) := by decide +kernel
theorem dX11_init_53 : decode cX11_init 53 = .ok (.invokespecial 18, 3) := by decide +kernel
theorem dX11_init_56 : decode cX11_init 56 = .ok (.aastore, 1) := by decide +kernel
theorem dX11_init_57 : decode cX11_init 57 = .ok (.putfield 19, 3) := by decide +kernel
theorem dX11_init_60 : decode cX11_init 60 = .ok (.aload_n 0, 1) := by decide +kernel
theorem dX11_init_61 : decode cX11_init 61 = .ok (.new 23, 3) := by decide +kernel
theorem dX11_init_64 : decode cX11_init 64 = .ok (.dup, 1) := by decide +kernel
theorem dX11_init_65 : decode cX11_init 65 = .ok (.invokespecial 25, 3) := by decide +kernel
theorem dX11_init_68 : decode cX11_init 68 = .ok (.putfield 26, 3) := by decide +kernel
theorem dX11_init_71 : decode cX11_init 71 = .ok (.aload_n 0, 1) := by decide +kernel
theorem dX11_init_72 : decode cX11_init 72 = .ok (.new 30, 3) := by decide +kernel
theorem dX11_init_75 : decode cX11_init 75 = .ok (.dup, 1) := by decide +kernel
theorem dX11_init_76 : decode cX11_init 76 = .ok (.invokespecial 32, 3) := by decide +kernel
theorem dX11_init_79 : decode cX11_init 79 = .ok (.putfield 33, 3) := by decide +kernel
theorem dX11_init_82 : decode cX11_init 82 = .ok (.aload_n 0, 1) := by decide +kernel
theorem dX11_init_83 : decode cX11_init 83 = .ok (.new 37, 3) := by decide +kernel
theorem dX11_init_86 : decode cX11_init 86 = .ok (.dup, 1) := by decide +kernel
theorem dX11_init_87 : decode cX11_init 87 = .ok (.invokespecial 39, 3) := by decide +kernel
theorem dX11_init_90 : decode cX11_init 90 = .ok (.putfield 40, 3) := by decide +kernel
theorem dX11_init_93 : decode cX11_init 93 = .ok (.aload_n 0, 1) := by decide +kernel
theorem dX11_init_94 : decode cX11_init 94 = .ok (.new 37, 3) := by decide +kernel
theorem dX11_init_97 : decode cX11_init 97 = .ok (.dup, 1) := by decide +kernel
theorem dX11_init_98 : decode cX11_init 98 = .ok (.invokespecial 39, 3) := by decide +kernel
theorem dX11_init_101 : decode cX11_init 101 = .ok (.putfield 44, 3) := by decide +kernel
theorem dX11_init_104 : decode cX11_init 104 = .ok (.aload_n 0, 1) := by decide +kernel
theorem dX11_init_105 : decode cX11_init 105 = .ok (.new 37, 3) := by decide +kernel
theorem dX11_init_108 : decode cX11_init 108 = .ok (.dup, 1) := by decide +kernel
theorem dX11_init_109 : decode cX11_init 109 = .ok (.invokespecial 39, 3) := by decide +kernel
theorem dX11_init_112 : decode cX11_init 112 = .ok (.putfield 47, 3) := by decide +kernel
theorem dX11_init_115 : decode cX11_init 115 = .ok (.aload_n 0, 1) := by decide +kernel
theorem dX11_init_116 : decode cX11_init 116 = .ok (.new 50, 3) := by decide +kernel
theorem dX11_init_119 : decode cX11_init 119 = .ok (.dup, 1) := by decide +kernel
theorem dX11_init_120 : decode cX11_init 120 = .ok (.invokespecial 52, 3) := by decide +kernel
theorem dX11_init_123 : decode cX11_init 123 = .ok (.putfield 53, 3) := by decide +kernel
theorem dX11_init_126 : decode cX11_init 126 = .ok (.aload_n 0, 1) := by decide +kernel
theorem dX11_init_127 : decode cX11_init 127 = .ok (.new 57, 3) := by decide +kernel
theorem dX11_init_130 : decode cX11_init 130 = .ok (.dup, 1) := by decide +kernel
theorem dX11_init_131 : decode cX11_init 131 = .ok (.invokespecial 59, 3) := by decide +kernel
theorem dX11_init_134 : decode cX11_init 134 = .ok (.putfield 60, 3) := by decide +kernel
theorem dX11_init_137 : decode cX11_init 137 = .ok (.aload_n 0, 1) := by decide +kernel
theorem dX11_init_138 : decode cX11_init 138 = .ok (.new 64, 3) := by decide +kernel
theorem dX11_init_141 : decode cX11_init 141 = .ok (.dup, 1) := by decide +kernel
theorem dX11_init_142 : decode cX11_init 142 = .ok (.invokespecial 66, 3) := by decide +kernel
theorem dX11_init_145 : decode cX11_init 145 = .ok (.putfield 67, 3) := by decide +kernel
theorem dX11_init_148 : decode cX11_init 148 = .ok (.aload_n 0, 1) := by decide +kernel
theorem dX11_init_149 : decode cX11_init 149 = .ok (.new 71, 3) := by decide +kernel
theorem dX11_init_152 : decode cX11_init 152 = .ok (.dup, 1) := by decide +kernel
theorem dX11_init_153 : decode cX11_init 153 = .ok (.invokespecial 73, 3) := by decide +kernel
theorem dX11_init_156 : decode cX11_init 156 = .ok (.putfield 74, 3) := by decide +kernel
theorem dX11_init_159 : decode cX11_init 159 = .ok (.aload_n 0, 1) := by decide +kernel
theorem dX11_init_160 : decode cX11_init 160 = .ok (.new 78, 3) := by decide +kernel
theorem dX11_init_163 : decode cX11_init 163 = .ok (.dup, 1) := by decide +kernel
theorem dX11_init_164 : decode cX11_init 164 = .ok (.invokespecial 80, 3) := by decide +kernel
theorem dX11_init_167 : decode cX11_init 167 = .ok (.putfield 81, 3) := by decide +kernel
theorem dX11_init_170 : decode cX11_init 170 = .ok (.aload_n 0, 1) := by decide +kernel
theorem dX11_init_171 : decode cX11_init 171 = .ok (.iconst 2, 1) := by decide +kernel
theorem dX11_init_172 : decode cX11_init 172 = .ok (.anewarray 85, 3) := by decide +kernel
theorem dX11_init_175 : decode cX11_init 175 = .ok (.dup, 1) := by decide +kernel
theorem dX11_init_176 : decode cX11_init 176 = .ok (.iconst 0, 1) := by decide +kernel
theorem dX11_init_177 : decode cX11_init 177 = .ok (.new 85, 3) := by decide +kernel
theorem dX11_init_180 : decode cX11_init 180 = .ok (.dup, 1) := by decide +kernel
theorem dX11_init_181 : decode cX11_init 181 = .ok (.invokespecial 87, 3) := by decide +kernel
theorem dX11_init_184 : decode cX11_init 184 = .ok (.aastore, 1) := by decide +kernel
theorem dX11_init_185 : decode cX11_init 185 = .ok (.dup, 1) := by decide +kernel
theorem dX11_init_186 : decode cX11_init 186 = .ok (.iconst 1, 1) := by decide +kernel
theorem dX11_init_187 : decode cX11_init 187 = .ok (.new 85, 3) := by decide +kernel
theorem dX11_init_190 : decode cX11_init 190 = .ok (.dup, 1) := by decide +kernel
theorem dX11_init_191 : decode cX11_init 191 = .ok (.invokespecial 87, 3) := by decide +kernel
theorem dX11_init_194 : decode cX11_init 194 = .ok (.aastore, 1) := by decide +kernel
theorem dX11_init_195 : decode cX11_init 195 = .ok (.putfield 88, 3) := by decide +kernel
theorem dX11_init_198 : decode cX11_init 198 = .ok (.aload_n 0, 1) := by decide +kernel
theorem dX11_init_199 : decode cX11_init 199 = .ok (.iconst 0, 1) := by decide +kernel
theorem dX11_init_200 : decode cX11_init 200 = .ok (.putfield 92, 3) := by decide +kernel
theorem dX11_init_203 : decode cX11_init 203 = .ok (.aload_n 0, 1) := by decide +kernel
theorem dX11_init_204 : decode cX11_init 204 = .ok (.iconst 0, 1) := by decide +kernel
theorem dX11_init_205 : decode cX11_init 205 = .ok (.putfield 96, 3) := by decide +kernel
theorem dX11_init_208 : decode cX11_init 208 = .ok (.aload_n 0, 1) := by decide +kernel
theorem dX11_init_209 : decode cX11_init 209 = .ok (.ldc 99, 2) := by decide +kernel
theorem dX11_init_211 : decode cX11_init 211 = .ok (.putfield 100, 3) := by decide +kernel
theorem dX11_init_214 : decode cX11_init 214 = .ok (.return_, 1) := by decide +kernel
def kX11_init_0 : List (Nat × zT) := [(0, a_aload 0 1), (1, a_obj 4), (4, a_aload 0 5), (5, a_i 2 6), (6, a_newR 0 9), (9, a_dup 10), (10, a_i 0 11), (11, a_new 7 2 14), (14, a_dup 15), (15, a_callV 7 60 1 18 1 200), (18, a_aast 19), (19, a_dup 20), (20, a_i 1 21), (21, a_new 7 2 24), (24, a_dup 25), (25, a_callV 7 60 1 28 1 200), (28, a_aast 29), (29, a_putR 11 0 32), (32, a_aload 0 33), (33, a_i 2 34), (34, a_newR 1 37), (37, a_dup 38), (38, a_i 0 39), (39, a_new 10 8 42)]
theorem oX11_init_0 : ∀ q ∈ kX11_init_0, zSnd zty true RX11 cX11_init 1 none true q := List.forall_mem_cons.mpr ⟨ok_aload_n dX11_init_0 rfl, List.forall_mem_cons.mpr ⟨ok_obj dX11_init_1 w24 w25 w26, List.forall_mem_cons.mpr ⟨ok_aload_n dX11_init_4 rfl, List.forall_mem_cons.mpr ⟨ok_iconst dX11_init_5 (by decide), List.forall_mem_cons.mpr ⟨ok_newR dX11_init_6 rfl (by decide) w27, List.forall_mem_cons.mpr ⟨ok_dup dX11_init_9, List.forall_mem_cons.mpr ⟨ok_iconst dX11_init_10 (by decide), List.forall_mem_cons.mpr ⟨ok_new dX11_init_11 rfl rfl in7 tyX7 tyX7_ok rfl (by decide +kernel) w27 w29 w2, List.forall_mem_cons.mpr ⟨ok_dup dX11_init_14, List.forall_mem_cons.mpr ⟨ok_callIN dX11_init_15 rfl w32 n30 w31 w2 rfl (by decide +kernel) (by decide), List.forall_mem_cons.mpr ⟨ok_aast dX11_init_18, List.forall_mem_cons.mpr ⟨ok_dup dX11_init_19, List.forall_mem_cons.mpr ⟨ok_iconst dX11_init_20 (by decide), List.forall_mem_cons.mpr ⟨ok_new dX11_init_21 rfl rfl in7 tyX7 tyX7_ok rfl (by decide +kernel) w27 w29 w2, List.forall_mem_cons.mpr ⟨ok_dup dX11_init_24, List.forall_mem_cons.mpr ⟨ok_callIN dX11_init_25 rfl w32 n30 w31 w2 rfl (by decide +kernel) (by decide), List.forall_mem_cons.mpr ⟨ok_aast dX11_init_28, List.forall_mem_cons.mpr ⟨ok_putR dX11_init_29 rfl rfl in11 tyX11 tyX11_ok nmX11 (by decide) rfl w337 rfl rfl (fun _ => ⟨rfl, rfl⟩), List.forall_mem_cons.mpr ⟨ok_aload_n dX11_init_32 rfl, List.forall_mem_cons.mpr ⟨ok_iconst dX11_init_33 (by decide), List.forall_mem_cons.mpr ⟨ok_newR dX11_init_34 rfl (by decide) w45, List.forall_mem_cons.mpr ⟨ok_dup dX11_init_37, List.forall_mem_cons.mpr ⟨ok_iconst dX11_init_38 (by decide), List.forall_mem_cons.mpr ⟨ok_new dX11_init_39 rfl rfl in10 tyX10 tyX10_ok rfl (by decide +kernel) w45 w47 w3, fun _ h => absurd h List.not_mem_nil⟩⟩⟩⟩⟩⟩⟩⟩⟩⟩⟩⟩⟩⟩⟩⟩⟩⟩⟩⟩⟩⟩⟩⟩
def kX11_init_1 : List (Nat × zT) := [(42, a_dup 43), (43, a_callV 10 80 1 46 6 289), (46, a_aast 47), (47, a_dup 48), (48, a_i 1 49), (49, a_new 10 8 52), (52, a_dup 53), (53, a_callV 10 80 1 56 6 289), (56, a_aast 57), (57, a_putR 11 1 60), (60, a_aload 0 61), (61, a_new 5 5 64), (64, a_dup 65), (65, a_callV 5 42 1 68 7 297), (68, a_putR 11 2 71), (71, a_aload 0 72), (72, a_new 6 4 75), (75, a_dup 76), (76, a_callV 6 51 1 79 2 37), (79, a_putR 11 3 82), (82, a_aload 0 83), (83, a_new 4 5 86), (86, a_dup 87), (87, a_callV 4 29 1 90 5 94)]
theorem oX11_init_1 : ∀ q ∈ kX11_init_1, zSnd zty true RX11 cX11_init 1 none true q := List.forall_mem_cons.mpr ⟨ok_dup dX11_init_42, List.forall_mem_cons.mpr ⟨ok_callIN dX11_init_43 rfl w50 n48 w49 w3 rfl (by decide +kernel) (by decide), List.forall_mem_cons.mpr ⟨ok_aast dX11_init_46, List.forall_mem_cons.mpr ⟨ok_dup dX11_init_47, List.forall_mem_cons.mpr ⟨ok_iconst dX11_init_48 (by decide), List.forall_mem_cons.mpr ⟨ok_new dX11_init_49 rfl rfl in10 tyX10 tyX10_ok rfl (by decide +kernel) w45 w47 w3, List.forall_mem_cons.mpr ⟨ok_dup dX11_init_52, List.forall_mem_cons.mpr ⟨ok_callIN dX11_init_53 rfl w50 n48 w49 w3 rfl (by decide +kernel) (by decide), List.forall_mem_cons.mpr ⟨ok_aast dX11_init_56, List.forall_mem_cons.mpr ⟨ok_putR dX11_init_57 rfl rfl in11 tyX11 tyX11_ok nmX11 (by decide) rfl w338 rfl rfl (fun _ => ⟨rfl, rfl⟩), List.forall_mem_cons.mpr ⟨ok_aload_n dX11_init_60 rfl, List.forall_mem_cons.mpr ⟨ok_new dX11_init_61 rfl rfl in5 tyX5 tyX5_ok rfl (by decide +kernel) w111 w112 w4, List.forall_mem_cons.mpr ⟨ok_dup dX11_init_64, List.forall_mem_cons.mpr ⟨ok_callIN dX11_init_65 rfl w115 n113 w114 w4 rfl (by decide +kernel) (by decide), List.forall_mem_cons.mpr ⟨ok_putR dX11_init_68 rfl rfl in11 tyX11 tyX11_ok nmX11 (by decide) rfl w339 rfl rfl (fun _ => ⟨rfl, rfl⟩), List.forall_mem_cons.mpr ⟨ok_aload_n dX11_init_71 rfl, List.forall_mem_cons.mpr ⟨ok_new dX11_init_72 rfl rfl in6 tyX6 tyX6_ok rfl (by decide +kernel) w136 w137 w5, List.forall_mem_cons.mpr ⟨ok_dup dX11_init_75, List.forall_mem_cons.mpr ⟨ok_callIN dX11_init_76 rfl w140 n138 w139 w5 rfl (by decide +kernel) (by decide), List.forall_mem_cons.mpr ⟨ok_putR dX11_init_79 rfl rfl in11 tyX11 tyX11_ok nmX11 (by decide) rfl w340 rfl rfl (fun _ => ⟨rfl, rfl⟩), List.forall_mem_cons.mpr ⟨ok_aload_n dX11_init_82 rfl, List.forall_mem_cons.mpr ⟨ok_new dX11_init_83 rfl rfl in4 tyX4 tyX4_ok rfl (by decide +kernel) w158 w159 w6, List.forall_mem_cons.mpr ⟨ok_dup dX11_init_86, List.forall_mem_cons.mpr ⟨ok_callIN dX11_init_87 rfl w162 n160 w161 w6 rfl (by decide +kernel) (by decide), fun _ h => absurd h List.not_mem_nil⟩⟩⟩⟩⟩⟩⟩⟩⟩⟩⟩⟩⟩⟩⟩⟩⟩⟩⟩⟩⟩⟩⟩⟩
def kX11_init_2 : List (Nat × zT) := [(90, a_putR 11 4 93), (93, a_aload 0 94), (94, a_new 4 5 97), (97, a_dup 98), (98, a_callV 4 29 1 101 5 94), (101, a_putR 11 5 104), (104, a_aload 0 105), (105, a_new 4 5 108), (108, a_dup 109), (109, a_callV 4 29 1 112 5 94), (112, a_putR 11 6 115), (115, a_aload 0 116), (116, a_new 2 3 119), (119, a_dup 120), (120, a_callV 2 21 1 123 3 19), (123, a_putR 11 7 126), (126, a_aload 0 127), (127, a_new 0 2 130), (130, a_dup 131), (131, a_callV 0 0 1 134 2 36), (134, a_putR 11 8 137), (137, a_aload 0 138), (138, a_new 8 4 141), (141, a_dup 142)]
theorem oX11_init_2 : ∀ q ∈ kX11_init_2, zSnd zty true RX11 cX11_init 1 none true q := List.forall_mem_cons.mpr ⟨ok_putR dX11_init_90 rfl rfl in11 tyX11 tyX11_ok nmX11 (by decide) rfl w341 rfl rfl (fun _ => ⟨rfl, rfl⟩), List.forall_mem_cons.mpr ⟨ok_aload_n dX11_init_93 rfl, List.forall_mem_cons.mpr ⟨ok_new dX11_init_94 rfl rfl in4 tyX4 tyX4_ok rfl (by decide +kernel) w158 w159 w6, List.forall_mem_cons.mpr ⟨ok_dup dX11_init_97, List.forall_mem_cons.mpr ⟨ok_callIN dX11_init_98 rfl w162 n160 w161 w6 rfl (by decide +kernel) (by decide), List.forall_mem_cons.mpr ⟨ok_putR dX11_init_101 rfl rfl in11 tyX11 tyX11_ok nmX11 (by decide) rfl w342 rfl rfl (fun _ => ⟨rfl, rfl⟩), List.forall_mem_cons.mpr ⟨ok_aload_n dX11_init_104 rfl, List.forall_mem_cons.mpr ⟨ok_new dX11_init_105 rfl rfl in4 tyX4 tyX4_ok rfl (by decide +kernel) w158 w159 w6, List.forall_mem_cons.mpr ⟨ok_dup dX11_init_108, List.forall_mem_cons.mpr ⟨ok_callIN dX11_init_109 rfl w162 n160 w161 w6 rfl (by decide +kernel) (by decide), List.forall_mem_cons.mpr ⟨ok_putR dX11_init_112 rfl rfl in11 tyX11 tyX11_ok nmX11 (by decide) rfl w343 rfl rfl (fun _ => ⟨rfl, rfl⟩), List.forall_mem_cons.mpr ⟨ok_aload_n dX11_init_115 rfl, List.forall_mem_cons.mpr ⟨ok_new dX11_init_116 rfl rfl in2 tyX2 tyX2_ok rfl (by decide +kernel) w183 w184 w7, List.forall_mem_cons.mpr ⟨ok_dup dX11_init_119, List.forall_mem_cons.mpr ⟨ok_callIN dX11_init_120 rfl w187 n185 w186 w7 rfl (by decide +kernel) (by decide), List.forall_mem_cons.mpr ⟨ok_putR dX11_init_123 rfl rfl in11 tyX11 tyX11_ok nmX11 (by decide) rfl w344 rfl rfl (fun _ => ⟨rfl, rfl⟩), List.forall_mem_cons.mpr ⟨ok_aload_n dX11_init_126 rfl, List.forall_mem_cons.mpr ⟨ok_new dX11_init_127 rfl rfl in0 tyX0 tyX0_ok rfl (by decide +kernel) w201 w202 w8, List.forall_mem_cons.mpr ⟨ok_dup dX11_init_130, List.forall_mem_cons.mpr ⟨ok_callIN dX11_init_131 rfl w205 n203 w204 w8 rfl (by decide +kernel) (by decide), List.forall_mem_cons.mpr ⟨ok_putR dX11_init_134 rfl rfl in11 tyX11 tyX11_ok nmX11 (by decide) rfl w345 rfl rfl (fun _ => ⟨rfl, rfl⟩), List.forall_mem_cons.mpr ⟨ok_aload_n dX11_init_137 rfl, List.forall_mem_cons.mpr ⟨ok_new dX11_init_138 rfl rfl in8 tyX8 tyX8_ok rfl (by decide +kernel) w214 w215 w9, List.forall_mem_cons.mpr ⟨ok_dup dX11_init_141, fun _ h => absurd h List.not_mem_nil⟩⟩⟩⟩⟩⟩⟩⟩⟩⟩⟩⟩⟩⟩⟩⟩⟩⟩⟩⟩⟩⟩⟩⟩
def kX11_init_3 : List (Nat × zT) := [(142, a_callV 8 62 1 145 4 74), (145, a_putR 11 9 148), (148, a_aload 0 149), (149, a_new 1 9 152), (152, a_dup 153), (153, a_callV 1 5 1 156 5 37), (156, a_putR 11 10 159), (159, a_aload 0 160), (160, a_new 9 6 163), (163, a_dup 164), (164, a_callV 9 68 1 167 10 148), (167, a_putR 11 11 170), (170, a_aload 0 171), (171, a_i 2 172), (172, a_newR 2 175), (175, a_dup 176), (176, a_i 0 177), (177, a_new 3 5 180), (180, a_dup 181), (181, a_callV 3 28 1 184 14 594), (184, a_aast 185), (185, a_dup 186), (186, a_i 1 187), (187, a_new 3 5 190)]
theorem oX11_init_3 : ∀ q ∈ kX11_init_3, zSnd zty true RX11 cX11_init 1 none true q := List.forall_mem_cons.mpr ⟨ok_callIN dX11_init_142 rfl w218 n216 w217 w9 rfl (by decide +kernel) (by decide), List.forall_mem_cons.mpr ⟨ok_putR dX11_init_145 rfl rfl in11 tyX11 tyX11_ok nmX11 (by decide) rfl w346 rfl rfl (fun _ => ⟨rfl, rfl⟩), List.forall_mem_cons.mpr ⟨ok_aload_n dX11_init_148 rfl, List.forall_mem_cons.mpr ⟨ok_new dX11_init_149 rfl rfl in1 tyX1 tyX1_ok rfl (by decide +kernel) w234 w235 w10, List.forall_mem_cons.mpr ⟨ok_dup dX11_init_152, List.forall_mem_cons.mpr ⟨ok_callIN dX11_init_153 rfl w238 n236 w237 w10 rfl (by decide +kernel) (by decide), List.forall_mem_cons.mpr ⟨ok_putR dX11_init_156 rfl rfl in11 tyX11 tyX11_ok nmX11 (by decide) rfl w347 rfl rfl (fun _ => ⟨rfl, rfl⟩), List.forall_mem_cons.mpr ⟨ok_aload_n dX11_init_159 rfl, List.forall_mem_cons.mpr ⟨ok_new dX11_init_160 rfl rfl in9 tyX9 tyX9_ok rfl (by decide +kernel) w272 w273 w11, List.forall_mem_cons.mpr ⟨ok_dup dX11_init_163, List.forall_mem_cons.mpr ⟨ok_callI dX11_init_164 rfl w276 w274 w275 w11 rfl (by decide +kernel) (by decide), List.forall_mem_cons.mpr ⟨ok_putR dX11_init_167 rfl rfl in11 tyX11 tyX11_ok nmX11 (by decide) rfl w348 rfl rfl (fun _ => ⟨rfl, rfl⟩), List.forall_mem_cons.mpr ⟨ok_aload_n dX11_init_170 rfl, List.forall_mem_cons.mpr ⟨ok_iconst dX11_init_171 (by decide), List.forall_mem_cons.mpr ⟨ok_newR dX11_init_172 rfl (by decide) w306, List.forall_mem_cons.mpr ⟨ok_dup dX11_init_175, List.forall_mem_cons.mpr ⟨ok_iconst dX11_init_176 (by decide), List.forall_mem_cons.mpr ⟨ok_new dX11_init_177 rfl rfl in3 tyX3 tyX3_ok rfl (by decide +kernel) w306 w308 w12, List.forall_mem_cons.mpr ⟨ok_dup dX11_init_180, List.forall_mem_cons.mpr ⟨ok_callIN dX11_init_181 rfl w311 n309 w310 w12 rfl (by decide +kernel) (by decide), List.forall_mem_cons.mpr ⟨ok_aast dX11_init_184, List.forall_mem_cons.mpr ⟨ok_dup dX11_init_185, List.forall_mem_cons.mpr ⟨ok_iconst dX11_init_186 (by decide), List.forall_mem_cons.mpr ⟨ok_new dX11_init_187 rfl rfl in3 tyX3 tyX3_ok rfl (by decide +kernel) w306 w308 w12, fun _ h => absurd h List.not_mem_nil⟩⟩⟩⟩⟩⟩⟩⟩⟩⟩⟩⟩⟩⟩⟩⟩⟩⟩⟩⟩⟩⟩⟩⟩
def kX11_init_4 : List (Nat × zT) := [(190, a_dup 191), (191, a_callV 3 28 1 194 14 594), (194, a_aast 195), (195, a_putR 11 12 198), (198, a_aload 0 199), (199, a_i 0 200), (200, a_putI 11 13 203 false), (203, a_aload 0 204), (204, a_i 0 205), (205, a_putI 11 14 208 false), (208, a_aload 0 209), (209, a_i 524224 211), (211, a_putI 11 15 214 false), (214, a_vret)]
theorem oX11_init_4 : ∀ q ∈ kX11_init_4, zSnd zty true RX11 cX11_init 1 none true q := List.forall_mem_cons.mpr ⟨ok_dup dX11_init_190, List.forall_mem_cons.mpr ⟨ok_callIN dX11_init_191 rfl w311 n309 w310 w12 rfl (by decide +kernel) (by decide), List.forall_mem_cons.mpr ⟨ok_aast dX11_init_194, List.forall_mem_cons.mpr ⟨ok_putR dX11_init_195 rfl rfl in11 tyX11 tyX11_ok nmX11 (by decide) rfl w349 rfl rfl (fun _ => ⟨rfl, rfl⟩), List.forall_mem_cons.mpr ⟨ok_aload_n dX11_init_198 rfl, List.forall_mem_cons.mpr ⟨ok_iconst dX11_init_199 (by decide), List.forall_mem_cons.mpr ⟨ok_putI (bz := false) dX11_init_200 rfl in11 tyX11 tyX11_ok nmX11 (by decide) rfl w350 rfl rfl, List.forall_mem_cons.mpr ⟨ok_aload_n dX11_init_203 rfl, List.forall_mem_cons.mpr ⟨ok_iconst dX11_init_204 (by decide), List.forall_mem_cons.mpr ⟨ok_putI (bz := false) dX11_init_205 rfl in11 tyX11 tyX11_ok nmX11 (by decide) rfl w351 rfl rfl, List.forall_mem_cons.mpr ⟨ok_aload_n dX11_init_208 rfl, List.forall_mem_cons.mpr ⟨ok_ldc dX11_init_209 w336, List.forall_mem_cons.mpr ⟨ok_putI (bz := false) dX11_init_211 rfl in11 tyX11 tyX11_ok nmX11 (by decide) rfl w352 rfl rfl, List.forall_mem_cons.mpr ⟨ok_vret dX11_init_214 rfl, fun _ h => absurd h List.not_mem_nil⟩⟩⟩⟩⟩⟩⟩⟩⟩⟩⟩⟩⟩⟩
def kX11_init : List (Nat × zT) := kX11_init_0 ++ (kX11_init_1 ++ (kX11_init_2 ++ (kX11_init_3 ++ (kX11_init_4))))
theorem qX11_init_0 : ∀ q ∈ kX11_init_0, q ∈ kX11_init := fun _ h => (List.mem_append_left _ h)
theorem tX11_init_0 : (0, a_aload 0 1) ∈ kX11_init := qX11_init_0 _ (List.mem_of_getElem? (i := 0) rfl)
theorem tX11_init_1 : (1, a_obj 4) ∈ kX11_init := qX11_init_0 _ (List.mem_of_getElem? (i := 1) rfl)
theorem tX11_init_4 : (4, a_aload 0 5) ∈ kX11_init := qX11_init_0 _ (List.mem_of_getElem? (i := 2) rfl)
theorem tX11_init_5 : (5, a_i 2 6) ∈ kX11_init := qX11_init_0 _ (List.mem_of_getElem? (i := 3) rfl)
theorem tX11_init_6 : (6, a_newR 0 9) ∈ kX11_init := qX11_init_0 _ (List.mem_of_getElem? (i := 4) rfl)
theorem tX11_init_9 : (9, a_dup 10) ∈ kX11_init := qX11_init_0 _ (List.mem_of_getElem? (i := 5) rfl)
theorem tX11_init_10 : (10, a_i 0 11) ∈ kX11_init := qX11_init_0 _ (List.mem_of_getElem? (i := 6) rfl)
theorem tX11_init_11 : (11, a_new 7 2 14) ∈ kX11_init := qX11_init_0 _ (List.mem_of_getElem? (i := 7) rfl)
theorem tX11_init_14 : (14, a_dup 15) ∈ kX11_init := qX11_init_0 _ (List.mem_of_getElem? (i := 8) rfl)
theorem tX11_init_15 : (15, a_callV 7 60 1 18 1 200) ∈ kX11_init := qX11_init_0 _ (List.mem_of_getElem? (i := 9) rfl)
theorem tX11_init_18 : (18, a_aast 19) ∈ kX11_init := qX11_init_0 _ (List.mem_of_getElem? (i := 10) rfl)
theorem tX11_init_19 : (19, a_dup 20) ∈ kX11_init := qX11_init_0 _ (List.mem_of_getElem? (i := 11) rfl)
theorem tX11_init_20 : (20, a_i 1 21) ∈ kX11_init := qX11_init_0 _ (List.mem_of_getElem? (i := 12) rfl)
theorem tX11_init_21 : (21, a_new 7 2 24) ∈ kX11_init := qX11_init_0 _ (List.mem_of_getElem? (i := 13) rfl)
theorem tX11_init_24 : (24, a_dup 25) ∈ kX11_init := qX11_init_0 _ (List.mem_of_getElem? (i := 14) rfl)
theorem tX11_init_25 : (25, a_callV 7 60 1 28 1 200) ∈ kX11_init := qX11_init_0 _ (List.mem_of_getElem? (i := 15) rfl)
theorem tX11_init_28 : (28, a_aast 29) ∈ kX11_init := qX11_init_0 _ (List.mem_of_getElem? (i := 16) rfl)
theorem tX11_init_29 : (29, a_putR 11 0 32) ∈ kX11_init := qX11_init_0 _ (List.mem_of_getElem? (i := 17) rfl)
theorem tX11_init_32 : (32, a_aload 0 33) ∈ kX11_init := qX11_init_0 _ (List.mem_of_getElem? (i := 18) rfl)
theorem tX11_init_33 : (33, a_i 2 34) ∈ kX11_init := qX11_init_0 _ (List.mem_of_getElem? (i := 19) rfl)
theorem tX11_init_34 : (34, a_newR 1 37) ∈ kX11_init := qX11_init_0 _ (List.mem_of_getElem? (i := 20) rfl)
theorem tX11_init_37 : (37, a_dup 38) ∈ kX11_init := qX11_init_0 _ (List.mem_of_getElem? (i := 21) rfl)
theorem tX11_init_38 : (38, a_i 0 39) ∈ kX11_init := qX11_init_0 _ (List.mem_of_getElem? (i := 22) rfl)
theorem tX11_init_39 : (39, a_new 10 8 42) ∈ kX11_init := qX11_init_0 _ (List.mem_of_getElem? (i := 23) rfl)
theorem qX11_init_1 : ∀ q ∈ kX11_init_1, q ∈ kX11_init := fun _ h => (List.mem_append_right _ (List.mem_append_left _ h))
theorem tX11_init_42 : (42, a_dup 43) ∈ kX11_init := qX11_init_1 _ (List.mem_of_getElem? (i := 0) rfl)
theorem tX11_init_43 : (43, a_callV 10 80 1 46 6 289) ∈ kX11_init := qX11_init_1 _ (List.mem_of_getElem? (i := 1) rfl)
theorem tX11_init_46 : (46, a_aast 47) ∈ kX11_init := qX11_init_1 _ (List.mem_of_getElem? (i := 2) rfl)
theorem tX11_init_47 : (47, a_dup 48) ∈ kX11_init := qX11_init_1 _ (List.mem_of_getElem? (i := 3) rfl)
theorem tX11_init_48 : (48, a_i 1 49) ∈ kX11_init := qX11_init_1 _ (List.mem_of_getElem? (i := 4) rfl)
theorem tX11_init_49 : (49, a_new 10 8 52) ∈ kX11_init := qX11_init_1 _ (List.mem_of_getElem? (i := 5) rfl)
theorem tX11_init_52 : (52, a_dup 53) ∈ kX11_init := qX11_init_1 _ (List.mem_of_getElem? (i := 6) rfl)
theorem tX11_init_53 : (53, a_callV 10 80 1 56 6 289) ∈ kX11_init := qX11_init_1 _ (List.mem_of_getElem? (i := 7) rfl)
theorem tX11_init_56 : (56, a_aast 57) ∈ kX11_init := qX11_init_1 _ (List.mem_of_getElem? (i := 8) rfl)
theorem tX11_init_57 : (57, a_putR 11 1 60) ∈ kX11_init := qX11_init_1 _ (List.mem_of_getElem? (i := 9) rfl)
theorem tX11_init_60 : (60, a_aload 0 61) ∈ kX11_init := qX11_init_1 _ (List.mem_of_getElem? (i := 10) rfl)
theorem tX11_init_61 : (61, a_new 5 5 64) ∈ kX11_init := qX11_init_1 _ (List.mem_of_getElem? (i := 11) rfl)
theorem tX11_init_64 : (64, a_dup 65) ∈ kX11_init := qX11_init_1 _ (List.mem_of_getElem? (i := 12) rfl)
theorem tX11_init_65 : (65, a_callV 5 42 1 68 7 297) ∈ kX11_init := qX11_init_1 _ (List.mem_of_getElem? (i := 13) rfl)
theorem tX11_init_68 : (68, a_putR 11 2 71) ∈ kX11_init := qX11_init_1 _ (List.mem_of_getElem? (i := 14) rfl)
theorem tX11_init_71 : (71, a_aload 0 72) ∈ kX11_init := qX11_init_1 _ (List.mem_of_getElem? (i := 15) rfl)
theorem tX11_init_72 : (72, a_new 6 4 75) ∈ kX11_init := qX11_init_1 _ (List.mem_of_getElem? (i := 16) rfl)
theorem tX11_init_75 : (75, a_dup 76) ∈ kX11_init := qX11_init_1 _ (List.mem_of_getElem? (i := 17) rfl)
theorem tX11_init_76 : (76, a_callV 6 51 1 79 2 37) ∈ kX11_init := qX11_init_1 _ (List.mem_of_getElem? (i := 18) rfl)
theorem tX11_init_79 : (79, a_putR 11 3 82) ∈ kX11_init := qX11_init_1 _ (List.mem_of_getElem? (i := 19) rfl)
theorem tX11_init_82 : (82, a_aload 0 83) ∈ kX11_init := qX11_init_1 _ (List.mem_of_getElem? (i := 20) rfl)
theorem tX11_init_83 : (83, a_new 4 5 86) ∈ kX11_init := qX11_init_1 _ (List.mem_of_getElem? (i := 21) rfl)
theorem tX11_init_86 : (86, a_dup 87) ∈ kX11_init := qX11_init_1 _ (List.mem_of_getElem? (i := 22) rfl)
theorem tX11_init_87 : (87, a_callV 4 29 1 90 5 94) ∈ kX11_init := qX11_init_1 _ (List.mem_of_getElem? (i := 23) rfl)
theorem qX11_init_2 : ∀ q ∈ kX11_init_2, q ∈ kX11_init := fun _ h => (List.mem_append_right _ (List.mem_append_right _ (List.mem_append_left _ h)))
theorem tX11_init_90 : (90, a_putR 11 4 93) ∈ kX11_init := qX11_init_2 _ (List.mem_of_getElem? (i := 0) rfl)
theorem tX11_init_93 : (93, a_aload 0 94) ∈ kX11_init := qX11_init_2 _ (List.mem_of_getElem? (i := 1) rfl)
theorem tX11_init_94 : (94, a_new 4 5 97) ∈ kX11_init := qX11_init_2 _ (List.mem_of_getElem? (i := 2) rfl)
theorem tX11_init_97 : (97, a_dup 98) ∈ kX11_init := qX11_init_2 _ (List.mem_of_getElem? (i := 3) rfl)
theorem tX11_init_98 : (98, a_callV 4 29 1 101 5 94) ∈ kX11_init := qX11_init_2 _ (List.mem_of_getElem? (i := 4) rfl)
theorem tX11_init_101 : (101, a_putR 11 5 104) ∈ kX11_init := qX11_init_2 _ (List.mem_of_getElem? (i := 5) rfl)
theorem tX11_init_104 : (104, a_aload 0 105) ∈ kX11_init := qX11_init_2 _ (List.mem_of_getElem? (i := 6) rfl)
theorem tX11_init_105 : (105, a_new 4 5 108) ∈ kX11_init := qX11_init_2 _ (List.mem_of_getElem? (i := 7) rfl)
theorem tX11_init_108 : (108, a_dup 109) ∈ kX11_init := qX11_init_2 _ (List.mem_of_getElem? (i := 8) rfl)
theorem tX11_init_109 : (109, a_callV 4 29 1 112 5 94) ∈ kX11_init := qX11_init_2 _ (List.mem_of_getElem? (i := 9) rfl)
theorem tX11_init_112 : (112, a_putR 11 6 115) ∈ kX11_init := qX11_init_2 _ (List.mem_of_getElem? (i := 10) rfl)
theorem tX11_init_115 : (115, a_aload 0 116) ∈ kX11_init := qX11_init_2 _ (List.mem_of_getElem? (i := 11) rfl)
theorem tX11_init_116 : (116, a_new 2 3 119) ∈ kX11_init := qX11_init_2 _ (List.mem_of_getElem? (i := 12) rfl)
theorem tX11_init_119 : (119, a_dup 120) ∈ kX11_init := qX11_init_2 _ (List.mem_of_getElem? (i := 13) rfl)
theorem tX11_init_120 : (120, a_callV 2 21 1 123 3 19) ∈ kX11_init := qX11_init_2 _ (List.mem_of_getElem? (i := 14) rfl)
theorem tX11_init_123 : (123, a_putR 11 7 126) ∈ kX11_init := qX11_init_2 _ (List.mem_of_getElem? (i := 15) rfl)
theorem tX11_init_126 : (126, a_aload 0 127) ∈ kX11_init := qX11_init_2 _ (List.mem_of_getElem? (i := 16) rfl)
theorem tX11_init_127 : (127, a_new 0 2 130) ∈ kX11_init := qX11_init_2 _ (List.mem_of_getElem? (i := 17) rfl)
theorem tX11_init_130 : (130, a_dup 131) ∈ kX11_init := qX11_init_2 _ (List.mem_of_getElem? (i := 18) rfl)
theorem tX11_init_131 : (131, a_callV 0 0 1 134 2 36) ∈ kX11_init := qX11_init_2 _ (List.mem_of_getElem? (i := 19) rfl)
theorem tX11_init_134 : (134, a_putR 11 8 137) ∈ kX11_init := qX11_init_2 _ (List.mem_of_getElem? (i := 20) rfl)
theorem tX11_init_137 : (137, a_aload 0 138) ∈ kX11_init := qX11_init_2 _ (List.mem_of_getElem? (i := 21) rfl)
theorem tX11_init_138 : (138, a_new 8 4 141) ∈ kX11_init := qX11_init_2 _ (List.mem_of_getElem? (i := 22) rfl)
theorem tX11_init_141 : (141, a_dup 142) ∈ kX11_init := qX11_init_2 _ (List.mem_of_getElem? (i := 23) rfl)
theorem qX11_init_3 : ∀ q ∈ kX11_init_3, q ∈ kX11_init := fun _ h => (List.mem_append_right _ (List.mem_append_right _ (List.mem_append_right _ (List.mem_append_left _ h))))
theorem tX11_init_142 : (142, a_callV 8 62 1 145 4 74) ∈ kX11_init := qX11_init_3 _ (List.mem_of_getElem? (i := 0) rfl)
theorem tX11_init_145 : (145, a_putR 11 9 148) ∈ kX11_init := qX11_init_3 _ (List.mem_of_getElem? (i := 1) rfl)
theorem tX11_init_148 : (148, a_aload 0 149) ∈ kX11_init := qX11_init_3 _ (List.mem_of_getElem? (i := 2) rfl)
theorem tX11_init_149 : (149, a_new 1 9 152) ∈ kX11_init := qX11_init_3 _ (List.mem_of_getElem? (i := 3) rfl)
theorem tX11_init_152 : (152, a_dup 153) ∈ kX11_init := qX11_init_3 _ (List.mem_of_getElem? (i := 4) rfl)
theorem tX11_init_153 : (153, a_callV 1 5 1 156 5 37) ∈ kX11_init := qX11_init_3 _ (List.mem_of_getElem? (i := 5) rfl)
theorem tX11_init_156 : (156, a_putR 11 10 159) ∈ kX11_init := qX11_init_3 _ (List.mem_of_getElem? (i := 6) rfl)
theorem tX11_init_159 : (159, a_aload 0 160) ∈ kX11_init := qX11_init_3 _ (List.mem_of_getElem? (i := 7) rfl)
theorem tX11_init_160 : (160, a_new 9 6 163) ∈ kX11_init := qX11_init_3 _ (List.mem_of_getElem? (i := 8) rfl)
theorem tX11_init_163 : (163, a_dup 164) ∈ kX11_init := qX11_init_3 _ (List.mem_of_getElem? (i := 9) rfl)
theorem tX11_init_164 : (164, a_callV 9 68 1 167 10 148) ∈ kX11_init := qX11_init_3 _ (List.mem_of_getElem? (i := 10) rfl)
theorem tX11_init_167 : (167, a_putR 11 11 170) ∈ kX11_init := qX11_init_3 _ (List.mem_of_getElem? (i := 11) rfl)
theorem tX11_init_170 : (170, a_aload 0 171) ∈ kX11_init := qX11_init_3 _ (List.mem_of_getElem? (i := 12) rfl)
theorem tX11_init_171 : (171, a_i 2 172) ∈ kX11_init := qX11_init_3 _ (List.mem_of_getElem? (i := 13) rfl)
theorem tX11_init_172 : (172, a_newR 2 175) ∈ kX11_init := qX11_init_3 _ (List.mem_of_getElem? (i := 14) rfl)
theorem tX11_init_175 : (175, a_dup 176) ∈ kX11_init := qX11_init_3 _ (List.mem_of_getElem? (i := 15) rfl)
theorem tX11_init_176 : (176, a_i 0 177) ∈ kX11_init := qX11_init_3 _ (List.mem_of_getElem? (i := 16) rfl)
theorem tX11_init_177 : (177, a_new 3 5 180) ∈ kX11_init := qX11_init_3 _ (List.mem_of_getElem? (i := 17) rfl)
theorem tX11_init_180 : (180, a_dup 181) ∈ kX11_init := qX11_init_3 _ (List.mem_of_getElem? (i := 18) rfl)
theorem tX11_init_181 : (181, a_callV 3 28 1 184 14 594) ∈ kX11_init := qX11_init_3 _ (List.mem_of_getElem? (i := 19) rfl)
theorem tX11_init_184 : (184, a_aast 185) ∈ kX11_init := qX11_init_3 _ (List.mem_of_getElem? (i := 20) rfl)
theorem tX11_init_185 : (185, a_dup 186) ∈ kX11_init := qX11_init_3 _ (List.mem_of_getElem? (i := 21) rfl)
theorem tX11_init_186 : (186, a_i 1 187) ∈ kX11_init := qX11_init_3 _ (List.mem_of_getElem? (i := 22) rfl)
theorem tX11_init_187 : (187, a_new 3 5 190) ∈ kX11_init := qX11_init_3 _ (List.mem_of_getElem? (i := 23) rfl)
theorem qX11_init_4 : ∀ q ∈ kX11_init_4, q ∈ kX11_init := fun _ h => (List.mem_append_right _ (List.mem_append_right _ (List.mem_append_right _ (List.mem_append_right _ h))))
theorem tX11_init_190 : (190, a_dup 191) ∈ kX11_init := qX11_init_4 _ (List.mem_of_getElem? (i := 0) rfl)
theorem tX11_init_191 : (191, a_callV 3 28 1 194 14 594) ∈ kX11_init := qX11_init_4 _ (List.mem_of_getElem? (i := 1) rfl)
theorem tX11_init_194 : (194, a_aast 195) ∈ kX11_init := qX11_init_4 _ (List.mem_of_getElem? (i := 2) rfl)
theorem tX11_init_195 : (195, a_putR 11 12 198) ∈ kX11_init := qX11_init_4 _ (List.mem_of_getElem? (i := 3) rfl)
theorem tX11_init_198 : (198, a_aload 0 199) ∈ kX11_init := qX11_init_4 _ (List.mem_of_getElem? (i := 4) rfl)
theorem tX11_init_199 : (199, a_i 0 200) ∈ kX11_init := qX11_init_4 _ (List.mem_of_getElem? (i := 5) rfl)
theorem tX11_init_200 : (200, a_putI 11 13 203 false) ∈ kX11_init := qX11_init_4 _ (List.mem_of_getElem? (i := 6) rfl)
theorem tX11_init_203 : (203, a_aload 0 204) ∈ kX11_init := qX11_init_4 _ (List.mem_of_getElem? (i := 7) rfl)
theorem tX11_init_204 : (204, a_i 0 205) ∈ kX11_init := qX11_init_4 _ (List.mem_of_getElem? (i := 8) rfl)
theorem tX11_init_205 : (205, a_putI 11 14 208 false) ∈ kX11_init := qX11_init_4 _ (List.mem_of_getElem? (i := 9) rfl)
theorem tX11_init_208 : (208, a_aload 0 209) ∈ kX11_init := qX11_init_4 _ (List.mem_of_getElem? (i := 10) rfl)
theorem tX11_init_209 : (209, a_i 524224 211) ∈ kX11_init := qX11_init_4 _ (List.mem_of_getElem? (i := 11) rfl)
theorem tX11_init_211 : (211, a_putI 11 15 214 false) ∈ kX11_init := qX11_init_4 _ (List.mem_of_getElem? (i := 12) rfl)
theorem tX11_init_214 : (214, a_vret) ∈ kX11_init := qX11_init_4 _ (List.mem_of_getElem? (i := 13) rfl)
theorem oX11_init : ∀ q ∈ kX11_init, zSnd zty true RX11 cX11_init 1 none true q := List.forall_mem_append.mpr ⟨oX11_init_0, List.forall_mem_append.mpr ⟨oX11_init_1, List.forall_mem_append.mpr ⟨oX11_init_2, List.forall_mem_append.mpr ⟨oX11_init_3, oX11_init_4⟩⟩⟩⟩
theorem dX11_write_0 : decode cX11_write 0 = .ok (.iload_n 1, 1) := by decide +kernel
theorem dX11_write_1 : decode cX11_write 1 = .ok (.invokestatic 103, 3) := by decide +kernel
theorem dX11_write_4 : decode cX11_write 4 = .ok (.ifCond .eq 14, 3) := by decide +kernel
theorem dX11_write_7 : decode cX11_write 7 = .ok (.iload_n 2, 1) := by decide +kernel
theorem dX11_write_8 : decode cX11_write 8 = .ok (.iconst 1, 1) := by decide +kernel
theorem dX11_write_9 : decode cX11_write 9 = .ok (.if_icmp .lt 9, 3) := by decide +kernel
theorem dX11_write_12 : decode cX11_write 12 = .ok (.iload_n 2, 1) := by decide +kernel
theorem dX11_write_13 : decode cX11_write 13 = .ok (.bipush 8, 2) := by decide +kernel
theorem dX11_write_15 : decode cX11_write 15 = .ok (.if_icmp .le 5, 3) := by decide +kernel
theorem dX11_write_18 : decode cX11_write 18 = .ok (.iconst (-1), 1) := by decide +kernel
theorem dX11_write_19 : decode cX11_write 19 = .ok (.ireturn, 1) := by decide +kernel
theorem dX11_write_20 : decode cX11_write 20 = .ok (.aload_n 0, 1) := by decide +kernel
theorem dX11_write_21 : decode cX11_write 21 = .ok (.getfield 10, 3) := by decide +kernel
theorem dX11_write_24 : decode cX11_write 24 = .ok (.iload_n 1, 1) := by decide +kernel
theorem dX11_write_25 : decode cX11_write 25 = .ok (.aaload, 1) := by decide +kernel
theorem dX11_write_26 : decode cX11_write 26 = .ok (.iload_n 2, 1) := by decide +kernel
theorem dX11_write_27 : decode cX11_write 27 = .ok (.lload_n 3, 1) := by decide +kernel
theorem dX11_write_28 : decode cX11_write 28 = .ok (.invokevirtual 107, 3) := by decide +kernel
theorem dX11_write_31 : decode cX11_write 31 = .ok (.ireturn, 1) := by decide +kernel
def kX11_write_0 : List (Nat × zT) := [(0, a_iload 1 1), (1, a_call 129 1 4 0 0), (4, a_if_eq 18 7), (7, a_iload 2 8), (8, a_i 1 9), (9, a_ic_lt 18 12), (12, a_iload 2 13), (13, a_i 8 15), (15, a_ic_le 20 18), (18, a_i (-1) 19), (19, a_iret false), (20, a_aload 0 21), (21, a_getR 11 0 24), (24, a_iload 1 25), (25, a_aald 26), (26, a_iload 2 27), (27, a_lload 3 28), (28, a_callV 7 61 3 31 0 0), (31, a_iret false)]
theorem oX11_write_0 : ∀ q ∈ kX11_write_0, zSnd zty false RX11 cX11_write 5 (some .int) false q := List.forall_mem_cons.mpr ⟨ok_iload_n dX11_write_0 rfl, List.forall_mem_cons.mpr ⟨ok_callS dX11_write_1 rfl w392 w390 w391 w1 (by decide +kernel) (by decide), List.forall_mem_cons.mpr ⟨ok_if_eq dX11_write_4 (by decide), List.forall_mem_cons.mpr ⟨ok_iload_n dX11_write_7 rfl, List.forall_mem_cons.mpr ⟨ok_iconst dX11_write_8 (by decide), List.forall_mem_cons.mpr ⟨ok_ic_lt dX11_write_9 (by decide), List.forall_mem_cons.mpr ⟨ok_iload_n dX11_write_12 rfl, List.forall_mem_cons.mpr ⟨ok_bipush dX11_write_13 (by decide), List.forall_mem_cons.mpr ⟨ok_ic_le dX11_write_15 (by decide), List.forall_mem_cons.mpr ⟨ok_iconst dX11_write_18 (by decide), List.forall_mem_cons.mpr ⟨ok_iret (bz := false) dX11_write_19 rfl, List.forall_mem_cons.mpr ⟨ok_aload_n dX11_write_20 rfl, List.forall_mem_cons.mpr ⟨ok_getR dX11_write_21 rfl in11 (by decide) rfl w337, List.forall_mem_cons.mpr ⟨ok_iload_n dX11_write_24 rfl, List.forall_mem_cons.mpr ⟨ok_aald dX11_write_25, List.forall_mem_cons.mpr ⟨ok_iload_n dX11_write_26 rfl, List.forall_mem_cons.mpr ⟨ok_lload_n dX11_write_27 rfl, List.forall_mem_cons.mpr ⟨ok_callV dX11_write_28 rfl rfl w396 w393 w394 w2 w395 (by decide +kernel) (by decide), List.forall_mem_cons.mpr ⟨ok_iret (bz := false) dX11_write_31 rfl, fun _ h => absurd h List.not_mem_nil⟩⟩⟩⟩⟩⟩⟩⟩⟩⟩⟩⟩⟩⟩⟩⟩⟩⟩⟩
def kX11_write : List (Nat × zT) := kX11_write_0
theorem qX11_write_0 : ∀ q ∈ kX11_write_0, q ∈ kX11_write := fun _ h => h
theorem tX11_write_0 : (0, a_iload 1 1) ∈ kX11_write := qX11_write_0 _ (List.mem_of_getElem? (i := 0) rfl)
theorem tX11_write_1 : (1, a_call 129 1 4 0 0) ∈ kX11_write := qX11_write_0 _ (List.mem_of_getElem? (i := 1) rfl)
theorem tX11_write_4 : (4, a_if_eq 18 7) ∈ kX11_write := qX11_write_0 _ (List.mem_of_getElem? (i := 2) rfl)
theorem tX11_write_7 : (7, a_iload 2 8) ∈ kX11_write := qX11_write_0 _ (List.mem_of_getElem? (i := 3) rfl)
theorem tX11_write_8 : (8, a_i 1 9) ∈ kX11_write := qX11_write_0 _ (List.mem_of_getElem? (i := 4) rfl)
theorem tX11_write_9 : (9, a_ic_lt 18 12) ∈ kX11_write := qX11_write_0 _ (List.mem_of_getElem? (i := 5) rfl)
theorem tX11_write_12 : (12, a_iload 2 13) ∈ kX11_write := qX11_write_0 _ (List.mem_of_getElem? (i := 6) rfl)
theorem tX11_write_13 : (13, a_i 8 15) ∈ kX11_write := qX11_write_0 _ (List.mem_of_getElem? (i := 7) rfl)
theorem tX11_write_15 : (15, a_ic_le 20 18) ∈ kX11_write := qX11_write_0 _ (List.mem_of_getElem? (i := 8) rfl)
theorem tX11_write_18 : (18, a_i (-1) 19) ∈ kX11_write := qX11_write_0 _ (List.mem_of_getElem? (i := 9) rfl)
theorem tX11_write_19 : (19, a_iret false) ∈ kX11_write := qX11_write_0 _ (List.mem_of_getElem? (i := 10) rfl)
theorem tX11_write_20 : (20, a_aload 0 21) ∈ kX11_write := qX11_write_0 _ (List.mem_of_getElem? (i := 11) rfl)
theorem tX11_write_21 : (21, a_getR 11 0 24) ∈ kX11_write := qX11_write_0 _ (List.mem_of_getElem? (i := 12) rfl)
theorem tX11_write_24 : (24, a_iload 1 25) ∈ kX11_write := qX11_write_0 _ (List.mem_of_getElem? (i := 13) rfl)
theorem tX11_write_25 : (25, a_aald 26) ∈ kX11_write := qX11_write_0 _ (List.mem_of_getElem? (i := 14) rfl)
theorem tX11_write_26 : (26, a_iload 2 27) ∈ kX11_write := qX11_write_0 _ (List.mem_of_getElem? (i := 15) rfl)
theorem tX11_write_27 : (27, a_lload 3 28) ∈ kX11_write := qX11_write_0 _ (List.mem_of_getElem? (i := 16) rfl)
theorem tX11_write_28 : (28, a_callV 7 61 3 31 0 0) ∈ kX11_write := qX11_write_0 _ (List.mem_of_getElem? (i := 17) rfl)
theorem tX11_write_31 : (31, a_iret false) ∈ kX11_write := qX11_write_0 _ (List.mem_of_getElem? (i := 18) rfl)
theorem oX11_write : ∀ q ∈ kX11_write, zSnd zty false RX11 cX11_write 5 (some .int) false q := oX11_write_0
theorem dX11_clear_0 : decode cX11_clear 0 = .ok (.iload_n 1, 1) := by decide +kernel
theorem dX11_clear_1 : decode cX11_clear 1 = .ok (.invokestatic 103, 3) := by decide +kernel
theorem dX11_clear_4 : decode cX11_clear 4 = .ok (.ifCond .ne 5, 3) := by decide +kernel
theorem dX11_clear_7 : decode cX11_clear 7 = .ok (.iconst (-1), 1) := by decide +kernel
theorem dX11_clear_8 : decode cX11_clear 8 = .ok (.ireturn, 1) := by decide +kernel
theorem dX11_clear_9 : decode cX11_clear 9 = .ok (.aload_n 0, 1) := by decide +kernel
theorem dX11_clear_10 : decode cX11_clear 10 = .ok (.getfield 10, 3) := by decide +kernel
theorem dX11_clear_13 : decode cX11_clear 13 = .ok (.iload_n 1, 1) := by decide +kernel
theorem dX11_clear_14 : decode cX11_clear 14 = .ok (.aaload, 1) := by decide +kernel
theorem dX11_clear_15 : decode cX11_clear 15 = .ok (.getfield 111, 3) := by decide +kernel
theorem dX11_clear_18 : decode cX11_clear 18 = .ok (.istore_n 2, 1) := by decide +kernel
theorem dX11_clear_19 : decode cX11_clear 19 = .ok (.aload_n 0, 1) := by decide +kernel
theorem dX11_clear_20 : decode cX11_clear 20 = .ok (.getfield 10, 3) := by decide +kernel
theorem dX11_clear_23 : decode cX11_clear 23 = .ok (.iload_n 1, 1) := by decide +kernel
theorem dX11_clear_24 : decode cX11_clear 24 = .ok (.aaload, 1) := by decide +kernel
theorem dX11_clear_25 : decode cX11_clear 25 = .ok (.iconst 0, 1) := by decide +kernel
theorem dX11_clear_26 : decode cX11_clear 26 = .ok (.putfield 111, 3) := by decide +kernel
theorem dX11_clear_29 : decode cX11_clear 29 = .ok (.iload_n 2, 1) := by decide +kernel
theorem dX11_clear_30 : decode cX11_clear 30 = .ok (.ireturn, 1) := by decide +kernel
def kX11_clear_0 : List (Nat × zT) := [(0, a_iload 1 1), (1, a_call 129 1 4 0 0), (4, a_if_ne 9 7), (7, a_i (-1) 8), (8, a_iret false), (9, a_aload 0 10), (10, a_getR 11 0 13), (13, a_iload 1 14), (14, a_aald 15), (15, a_getI 7 1 18), (18, a_istore 2 19), (19, a_aload 0 20), (20, a_getR 11 0 23), (23, a_iload 1 24), (24, a_aald 25), (25, a_i 0 26), (26, a_putI 7 1 29 false), (29, a_iload 2 30), (30, a_iret false)]
theorem oX11_clear_0 : ∀ q ∈ kX11_clear_0, zSnd zty false RX11 cX11_clear 3 (some .int) false q := List.forall_mem_cons.mpr ⟨ok_iload_n dX11_clear_0 rfl, List.forall_mem_cons.mpr ⟨ok_callS dX11_clear_1 rfl w392 w390 w391 w1 (by decide +kernel) (by decide), List.forall_mem_cons.mpr ⟨ok_if_ne dX11_clear_4 (by decide), List.forall_mem_cons.mpr ⟨ok_iconst dX11_clear_7 (by decide), List.forall_mem_cons.mpr ⟨ok_iret (bz := false) dX11_clear_8 rfl, List.forall_mem_cons.mpr ⟨ok_aload_n dX11_clear_9 rfl, List.forall_mem_cons.mpr ⟨ok_getR dX11_clear_10 rfl in11 (by decide) rfl w337, List.forall_mem_cons.mpr ⟨ok_iload_n dX11_clear_13 rfl, List.forall_mem_cons.mpr ⟨ok_aald dX11_clear_14, List.forall_mem_cons.mpr ⟨ok_getI dX11_clear_15 rfl in7 (by decide) rfl w38, List.forall_mem_cons.mpr ⟨ok_istore_n dX11_clear_18 rfl (by decide), List.forall_mem_cons.mpr ⟨ok_aload_n dX11_clear_19 rfl, List.forall_mem_cons.mpr ⟨ok_getR dX11_clear_20 rfl in11 (by decide) rfl w337, List.forall_mem_cons.mpr ⟨ok_iload_n dX11_clear_23 rfl, List.forall_mem_cons.mpr ⟨ok_aald dX11_clear_24, List.forall_mem_cons.mpr ⟨ok_iconst dX11_clear_25 (by decide), List.forall_mem_cons.mpr ⟨ok_putI (bz := false) dX11_clear_26 rfl in7 tyX7 tyX7_ok nmX7 (by decide) rfl w38 rfl rfl, List.forall_mem_cons.mpr ⟨ok_iload_n dX11_clear_29 rfl, List.forall_mem_cons.mpr ⟨ok_iret (bz := false) dX11_clear_30 rfl, fun _ h => absurd h List.not_mem_nil⟩⟩⟩⟩⟩⟩⟩⟩⟩⟩⟩⟩⟩⟩⟩⟩⟩⟩⟩
def kX11_clear : List (Nat × zT) := kX11_clear_0
theorem qX11_clear_0 : ∀ q ∈ kX11_clear_0, q ∈ kX11_clear := fun _ h => h
theorem tX11_clear_0 : (0, a_iload 1 1) ∈ kX11_clear := qX11_clear_0 _ (List.mem_of_getElem? (i := 0) rfl)
theorem tX11_clear_1 : (1, a_call 129 1 4 0 0) ∈ kX11_clear := qX11_clear_0 _ (List.mem_of_getElem? (i := 1) rfl)
theorem tX11_clear_4 : (4, a_if_ne 9 7) ∈ kX11_clear := qX11_clear_0 _ (List.mem_of_getElem? (i := 2) rfl)
theorem tX11_clear_7 : (7, a_i (-1) 8) ∈ kX11_clear := qX11_clear_0 _ (List.mem_of_getElem? (i := 3) rfl)
theorem tX11_clear_8 : (8, a_iret false) ∈ kX11_clear := qX11_clear_0 _ (List.mem_of_getElem? (i := 4) rfl)
theorem tX11_clear_9 : (9, a_aload 0 10) ∈ kX11_clear := qX11_clear_0 _ (List.mem_of_getElem? (i := 5) rfl)
theorem tX11_clear_10 : (10, a_getR 11 0 13) ∈ kX11_clear := qX11_clear_0 _ (List.mem_of_getElem? (i := 6) rfl)
theorem tX11_clear_13 : (13, a_iload 1 14) ∈ kX11_clear := qX11_clear_0 _ (List.mem_of_getElem? (i := 7) rfl)
theorem tX11_clear_14 : (14, a_aald 15) ∈ kX11_clear := qX11_clear_0 _ (List.mem_of_getElem? (i := 8) rfl)
theorem tX11_clear_15 : (15, a_getI 7 1 18) ∈ kX11_clear := qX11_clear_0 _ (List.mem_of_getElem? (i := 9) rfl)
theorem tX11_clear_18 : (18, a_istore 2 19) ∈ kX11_clear := qX11_clear_0 _ (List.mem_of_getElem? (i := 10) rfl)
theorem tX11_clear_19 : (19, a_aload 0 20) ∈ kX11_clear := qX11_clear_0 _ (List.mem_of_getElem? (i := 11) rfl)
theorem tX11_clear_20 : (20, a_getR 11 0 23) ∈ kX11_clear := qX11_clear_0 _ (List.mem_of_getElem? (i := 12) rfl)
theorem tX11_clear_23 : (23, a_iload 1 24) ∈ kX11_clear := qX11_clear_0 _ (List.mem_of_getElem? (i := 13) rfl)
theorem tX11_clear_24 : (24, a_aald 25) ∈ kX11_clear := qX11_clear_0 _ (List.mem_of_getElem? (i := 14) rfl)
theorem tX11_clear_25 : (25, a_i 0 26) ∈ kX11_clear := qX11_clear_0 _ (List.mem_of_getElem? (i := 15) rfl)
theorem tX11_clear_26 : (26, a_putI 7 1 29 false) ∈ kX11_clear := qX11_clear_0 _ (List.mem_of_getElem? (i := 16) rfl)
theorem tX11_clear_29 : (29, a_iload 2 30) ∈ kX11_clear := qX11_clear_0 _ (List.mem_of_getElem? (i := 17) rfl)
theorem tX11_clear_30 : (30, a_iret false) ∈ kX11_clear := qX11_clear_0 _ (List.mem_of_getElem? (i := 18) rfl)
theorem oX11_clear : ∀ q ∈ kX11_clear, zSnd zty false RX11 cX11_clear 3 (some .int) false q := oX11_clear_0
theorem dX11_fault_0 : decode cX11_fault 0 = .ok (.iload_n 1, 1) := by decide +kernel
theorem dX11_fault_1 : decode cX11_fault 1 = .ok (.invokestatic 103, 3) := by decide +kernel
theorem dX11_fault_4 : decode cX11_fault 4 = .ok (.ifCond .ne 5, 3) := by decide +kernel
theorem dX11_fault_7 : decode cX11_fault 7 = .ok (.iconst (-1), 1) := by decide +kernel
theorem dX11_fault_8 : decode cX11_fault 8 = .ok (.ireturn, 1) := by decide +kernel
theorem dX11_fault_9 : decode cX11_fault 9 = .ok (.aload_n 0, 1) := by decide +kernel
theorem dX11_fault_10 : decode cX11_fault 10 = .ok (.getfield 26, 3) := by decide +kernel
theorem dX11_fault_13 : decode cX11_fault 13 = .ok (.aload_n 0, 1) := by decide +kernel
theorem dX11_fault_14 : decode cX11_fault 14 = .ok (.getfield 10, 3) := by decide +kernel
theorem dX11_fault_17 : decode cX11_fault 17 = .ok (.iload_n 1, 1) := by decide +kernel
theorem dX11_fault_18 : decode cX11_fault 18 = .ok (.aaload, 1) := by decide +kernel
theorem dX11_fault_19 : decode cX11_fault 19 = .ok (.invokevirtual 114, 3) := by decide +kernel
theorem dX11_fault_22 : decode cX11_fault 22 = .ok (.ireturn, 1) := by decide +kernel
def kX11_fault_0 : List (Nat × zT) := [(0, a_iload 1 1), (1, a_call 129 1 4 0 0), (4, a_if_ne 9 7), (7, a_i (-1) 8), (8, a_iret false), (9, a_aload 0 10), (10, a_getR 11 2 13), (13, a_aload 0 14), (14, a_getR 11 0 17), (17, a_iload 1 18), (18, a_aald 19), (19, a_callV 5 43 2 22 0 0), (22, a_iret false)]
theorem oX11_fault_0 : ∀ q ∈ kX11_fault_0, zSnd zty false RX11 cX11_fault 2 (some .int) false q := List.forall_mem_cons.mpr ⟨ok_iload_n dX11_fault_0 rfl, List.forall_mem_cons.mpr ⟨ok_callS dX11_fault_1 rfl w392 w390 w391 w1 (by decide +kernel) (by decide), List.forall_mem_cons.mpr ⟨ok_if_ne dX11_fault_4 (by decide), List.forall_mem_cons.mpr ⟨ok_iconst dX11_fault_7 (by decide), List.forall_mem_cons.mpr ⟨ok_iret (bz := false) dX11_fault_8 rfl, List.forall_mem_cons.mpr ⟨ok_aload_n dX11_fault_9 rfl, List.forall_mem_cons.mpr ⟨ok_getR dX11_fault_10 rfl in11 (by decide) rfl w339, List.forall_mem_cons.mpr ⟨ok_aload_n dX11_fault_13 rfl, List.forall_mem_cons.mpr ⟨ok_getR dX11_fault_14 rfl in11 (by decide) rfl w337, List.forall_mem_cons.mpr ⟨ok_iload_n dX11_fault_17 rfl, List.forall_mem_cons.mpr ⟨ok_aald dX11_fault_18, List.forall_mem_cons.mpr ⟨ok_callV dX11_fault_19 rfl rfl w408 w405 w406 w4 w407 (by decide +kernel) (by decide), List.forall_mem_cons.mpr ⟨ok_iret (bz := false) dX11_fault_22 rfl, fun _ h => absurd h List.not_mem_nil⟩⟩⟩⟩⟩⟩⟩⟩⟩⟩⟩⟩⟩
def kX11_fault : List (Nat × zT) := kX11_fault_0
theorem qX11_fault_0 : ∀ q ∈ kX11_fault_0, q ∈ kX11_fault := fun _ h => h
theorem tX11_fault_0 : (0, a_iload 1 1) ∈ kX11_fault := qX11_fault_0 _ (List.mem_of_getElem? (i := 0) rfl)
theorem tX11_fault_1 : (1, a_call 129 1 4 0 0) ∈ kX11_fault := qX11_fault_0 _ (List.mem_of_getElem? (i := 1) rfl)
theorem tX11_fault_4 : (4, a_if_ne 9 7) ∈ kX11_fault := qX11_fault_0 _ (List.mem_of_getElem? (i := 2) rfl)
theorem tX11_fault_7 : (7, a_i (-1) 8) ∈ kX11_fault := qX11_fault_0 _ (List.mem_of_getElem? (i := 3) rfl)
theorem tX11_fault_8 : (8, a_iret false) ∈ kX11_fault := qX11_fault_0 _ (List.mem_of_getElem? (i := 4) rfl)
theorem tX11_fault_9 : (9, a_aload 0 10) ∈ kX11_fault := qX11_fault_0 _ (List.mem_of_getElem? (i := 5) rfl)
theorem tX11_fault_10 : (10, a_getR 11 2 13) ∈ kX11_fault := qX11_fault_0 _ (List.mem_of_getElem? (i := 6) rfl)
theorem tX11_fault_13 : (13, a_aload 0 14) ∈ kX11_fault := qX11_fault_0 _ (List.mem_of_getElem? (i := 7) rfl)
theorem tX11_fault_14 : (14, a_getR 11 0 17) ∈ kX11_fault := qX11_fault_0 _ (List.mem_of_getElem? (i := 8) rfl)
theorem tX11_fault_17 : (17, a_iload 1 18) ∈ kX11_fault := qX11_fault_0 _ (List.mem_of_getElem? (i := 9) rfl)
theorem tX11_fault_18 : (18, a_aald 19) ∈ kX11_fault := qX11_fault_0 _ (List.mem_of_getElem? (i := 10) rfl)
theorem tX11_fault_19 : (19, a_callV 5 43 2 22 0 0) ∈ kX11_fault := qX11_fault_0 _ (List.mem_of_getElem? (i := 11) rfl)
theorem tX11_fault_22 : (22, a_iret false) ∈ kX11_fault := qX11_fault_0 _ (List.mem_of_getElem? (i := 12) rfl)
theorem oX11_fault : ∀ q ∈ kX11_fault, zSnd zty false RX11 cX11_fault 2 (some .int) false q := oX11_fault_0
theorem dX11_ring_0 : decode cX11_ring 0 = .ok (.iload_n 1, 1) := by decide +kernel
theorem dX11_ring_1 : decode cX11_ring 1 = .ok (.invokestatic 103, 3) := by decide +kernel
theorem dX11_ring_4 : decode cX11_ring 4 = .ok (.ifCond .eq 12, 3) := by decide +kernel
theorem dX11_ring_7 : decode cX11_ring 7 = .ok (.iload_n 2, 1) := by decide +kernel
theorem dX11_ring_8 : decode cX11_ring 8 = .ok (.ifCond .lt 8, 3) := by decide +kernel
theorem dX11_ring_11 : decode cX11_ring 11 = .ok (.iload_n 2, 1) := by decide +kernel
theorem dX11_ring_12 : decode cX11_ring 12 = .ok (.iconst 1, 1) := by decide +kernel
theorem dX11_ring_13 : decode cX11_ring 13 = .ok (.if_icmp .le 5, 3) := by decide +kernel
theorem dX11_ring_16 : decode cX11_ring 16 = .ok (.iconst (-1), 1) := by decide +kernel
theorem dX11_ring_17 : decode cX11_ring 17 = .ok (.ireturn, 1) := by decide +kernel
theorem dX11_ring_18 : decode cX11_ring 18 = .ok (.aload_n 0, 1) := by decide +kernel
theorem dX11_ring_19 : decode cX11_ring 19 = .ok (.getfield 26, 3) := by decide +kernel
theorem dX11_ring_22 : decode cX11_ring 22 = .ok (.aload_n 0, 1) := by decide +kernel
theorem dX11_ring_23 : decode cX11_ring 23 = .ok (.getfield 10, 3) := by decide +kernel
theorem dX11_ring_26 : decode cX11_ring 26 = .ok (.iload_n 1, 1) := by decide +kernel
theorem dX11_ring_27 : decode cX11_ring 27 = .ok (.aaload, 1) := by decide +kernel
theorem dX11_ring_28 : decode cX11_ring 28 = .ok (.invokevirtual 114, 3) := by decide +kernel
theorem dX11_ring_31 : decode cX11_ring 31 = .ok (.bipush (-4), 2) := by decide +kernel
theorem dX11_ring_33 : decode cX11_ring 33 = .ok (.if_icmp .eq 6, 3) := by decide +kernel
theorem dX11_ring_36 : decode cX11_ring 36 = .ok (.bipush (-2), 2) := by decide +kernel
theorem dX11_ring_38 : decode cX11_ring 38 = .ok (.ireturn, 1) := by decide +kernel
theorem dX11_ring_39 : decode cX11_ring 39 = .ok (.iload_n 2, 1) := by decide +kernel
theorem dX11_ring_40 : decode cX11_ring 40 = .ok (.ifCond .ne 16, 3) := by decide +kernel
theorem dX11_ring_43 : decode cX11_ring 43 = .ok (.aload_n 0, 1) := by decide +kernel
theorem dX11_ring_44 : decode cX11_ring 44 = .ok (.getfield 26, 3) := by decide +kernel
theorem dX11_ring_47 : decode cX11_ring 47 = .ok (.getfield 118, 3) := by decide +kernel
theorem dX11_ring_50 : decode cX11_ring 50 = .ok (.invokevirtual 122, 3) := by decide +kernel
theorem dX11_ring_53 : decode cX11_ring 53 = .ok (.goto 13, 3) := by decide +kernel
theorem dX11_ring_56 : decode cX11_ring 56 = .ok (.aload_n 0, 1) := by decide +kernel
theorem dX11_ring_57 : decode cX11_ring 57 = .ok (.getfield 26, 3) := by decide +kernel
theorem dX11_ring_60 : decode cX11_ring 60 = .ok (.getfield 118, 3) := by decide +kernel
theorem dX11_ring_63 : decode cX11_ring 63 = .ok (.invokevirtual 126, 3) := by decide +kernel
theorem dX11_ring_66 : decode cX11_ring 66 = .ok (.ireturn, 1) := by decide +kernel
def kX11_ring_0 : List (Nat × zT) := [(0, a_iload 1 1), (1, a_call 129 1 4 0 0), (4, a_if_eq 16 7), (7, a_iload 2 8), (8, a_if_lt 16 11), (11, a_iload 2 12), (12, a_i 1 13), (13, a_ic_le 18 16), (16, a_i (-1) 17), (17, a_iret false), (18, a_aload 0 19), (19, a_getR 11 2 22), (22, a_aload 0 23), (23, a_getR 11 0 26), (26, a_iload 1 27), (27, a_aald 28), (28, a_callV 5 43 2 31 0 0), (31, a_i (-4) 33), (33, a_ic_eq 39 36), (36, a_i (-2) 38), (38, a_iret false), (39, a_iload 2 40), (40, a_if_ne 56 43), (43, a_aload 0 44)]
theorem oX11_ring_0 : ∀ q ∈ kX11_ring_0, zSnd zty false RX11 cX11_ring 3 (some .int) false q := List.forall_mem_cons.mpr ⟨ok_iload_n dX11_ring_0 rfl, List.forall_mem_cons.mpr ⟨ok_callS dX11_ring_1 rfl w392 w390 w391 w1 (by decide +kernel) (by decide), List.forall_mem_cons.mpr ⟨ok_if_eq dX11_ring_4 (by decide), List.forall_mem_cons.mpr ⟨ok_iload_n dX11_ring_7 rfl, List.forall_mem_cons.mpr ⟨ok_if_lt dX11_ring_8 (by decide), List.forall_mem_cons.mpr ⟨ok_iload_n dX11_ring_11 rfl, List.forall_mem_cons.mpr ⟨ok_iconst dX11_ring_12 (by decide), List.forall_mem_cons.mpr ⟨ok_ic_le dX11_ring_13 (by decide), List.forall_mem_cons.mpr ⟨ok_iconst dX11_ring_16 (by decide), List.forall_mem_cons.mpr ⟨ok_iret (bz := false) dX11_ring_17 rfl, List.forall_mem_cons.mpr ⟨ok_aload_n dX11_ring_18 rfl, List.forall_mem_cons.mpr ⟨ok_getR dX11_ring_19 rfl in11 (by decide) rfl w339, List.forall_mem_cons.mpr ⟨ok_aload_n dX11_ring_22 rfl, List.forall_mem_cons.mpr ⟨ok_getR dX11_ring_23 rfl in11 (by decide) rfl w337, List.forall_mem_cons.mpr ⟨ok_iload_n dX11_ring_26 rfl, List.forall_mem_cons.mpr ⟨ok_aald dX11_ring_27, List.forall_mem_cons.mpr ⟨ok_callV dX11_ring_28 rfl rfl w408 w405 w406 w4 w407 (by decide +kernel) (by decide), List.forall_mem_cons.mpr ⟨ok_bipush dX11_ring_31 (by decide), List.forall_mem_cons.mpr ⟨ok_ic_eq dX11_ring_33 (by decide), List.forall_mem_cons.mpr ⟨ok_bipush dX11_ring_36 (by decide), List.forall_mem_cons.mpr ⟨ok_iret (bz := false) dX11_ring_38 rfl, List.forall_mem_cons.mpr ⟨ok_iload_n dX11_ring_39 rfl, List.forall_mem_cons.mpr ⟨ok_if_ne dX11_ring_40 (by decide), List.forall_mem_cons.mpr ⟨ok_aload_n dX11_ring_43 rfl, fun _ h => absurd h List.not_mem_nil⟩⟩⟩⟩⟩⟩⟩⟩⟩⟩⟩⟩⟩⟩⟩⟩⟩⟩⟩⟩⟩⟩⟩⟩
def kX11_ring_1 : List (Nat × zT) := [(44, a_getR 11 2 47), (47, a_getR 5 0 50), (50, a_callV 10 85 1 53 0 0), (53, a_goto 66), (56, a_aload 0 57), (57, a_getR 11 2 60), (60, a_getR 5 0 63), (63, a_callV 10 86 1 66 0 0), (66, a_iret false)]
theorem oX11_ring_1 : ∀ q ∈ kX11_ring_1, zSnd zty false RX11 cX11_ring 3 (some .int) false q := List.forall_mem_cons.mpr ⟨ok_getR dX11_ring_44 rfl in11 (by decide) rfl w339, List.forall_mem_cons.mpr ⟨ok_getR dX11_ring_47 rfl in5 (by decide) rfl w120, List.forall_mem_cons.mpr ⟨ok_callV dX11_ring_50 rfl rfl w465 w462 w463 w3 w464 (by decide +kernel) (by decide), List.forall_mem_cons.mpr ⟨ok_goto dX11_ring_53 (by decide), List.forall_mem_cons.mpr ⟨ok_aload_n dX11_ring_56 rfl, List.forall_mem_cons.mpr ⟨ok_getR dX11_ring_57 rfl in11 (by decide) rfl w339, List.forall_mem_cons.mpr ⟨ok_getR dX11_ring_60 rfl in5 (by decide) rfl w120, List.forall_mem_cons.mpr ⟨ok_callV dX11_ring_63 rfl rfl w469 w466 w467 w3 w468 (by decide +kernel) (by decide), List.forall_mem_cons.mpr ⟨ok_iret (bz := false) dX11_ring_66 rfl, fun _ h => absurd h List.not_mem_nil⟩⟩⟩⟩⟩⟩⟩⟩⟩
def kX11_ring : List (Nat × zT) := kX11_ring_0 ++ (kX11_ring_1)
theorem qX11_ring_0 : ∀ q ∈ kX11_ring_0, q ∈ kX11_ring := fun _ h => (List.mem_append_left _ h)
theorem tX11_ring_0 : (0, a_iload 1 1) ∈ kX11_ring := qX11_ring_0 _ (List.mem_of_getElem? (i := 0) rfl)
theorem tX11_ring_1 : (1, a_call 129 1 4 0 0) ∈ kX11_ring := qX11_ring_0 _ (List.mem_of_getElem? (i := 1) rfl)
theorem tX11_ring_4 : (4, a_if_eq 16 7) ∈ kX11_ring := qX11_ring_0 _ (List.mem_of_getElem? (i := 2) rfl)
theorem tX11_ring_7 : (7, a_iload 2 8) ∈ kX11_ring := qX11_ring_0 _ (List.mem_of_getElem? (i := 3) rfl)
theorem tX11_ring_8 : (8, a_if_lt 16 11) ∈ kX11_ring := qX11_ring_0 _ (List.mem_of_getElem? (i := 4) rfl)
theorem tX11_ring_11 : (11, a_iload 2 12) ∈ kX11_ring := qX11_ring_0 _ (List.mem_of_getElem? (i := 5) rfl)
theorem tX11_ring_12 : (12, a_i 1 13) ∈ kX11_ring := qX11_ring_0 _ (List.mem_of_getElem? (i := 6) rfl)
theorem tX11_ring_13 : (13, a_ic_le 18 16) ∈ kX11_ring := qX11_ring_0 _ (List.mem_of_getElem? (i := 7) rfl)
theorem tX11_ring_16 : (16, a_i (-1) 17) ∈ kX11_ring := qX11_ring_0 _ (List.mem_of_getElem? (i := 8) rfl)
theorem tX11_ring_17 : (17, a_iret false) ∈ kX11_ring := qX11_ring_0 _ (List.mem_of_getElem? (i := 9) rfl)
theorem tX11_ring_18 : (18, a_aload 0 19) ∈ kX11_ring := qX11_ring_0 _ (List.mem_of_getElem? (i := 10) rfl)
theorem tX11_ring_19 : (19, a_getR 11 2 22) ∈ kX11_ring := qX11_ring_0 _ (List.mem_of_getElem? (i := 11) rfl)
theorem tX11_ring_22 : (22, a_aload 0 23) ∈ kX11_ring := qX11_ring_0 _ (List.mem_of_getElem? (i := 12) rfl)
theorem tX11_ring_23 : (23, a_getR 11 0 26) ∈ kX11_ring := qX11_ring_0 _ (List.mem_of_getElem? (i := 13) rfl)
theorem tX11_ring_26 : (26, a_iload 1 27) ∈ kX11_ring := qX11_ring_0 _ (List.mem_of_getElem? (i := 14) rfl)
theorem tX11_ring_27 : (27, a_aald 28) ∈ kX11_ring := qX11_ring_0 _ (List.mem_of_getElem? (i := 15) rfl)
theorem tX11_ring_28 : (28, a_callV 5 43 2 31 0 0) ∈ kX11_ring := qX11_ring_0 _ (List.mem_of_getElem? (i := 16) rfl)
theorem tX11_ring_31 : (31, a_i (-4) 33) ∈ kX11_ring := qX11_ring_0 _ (List.mem_of_getElem? (i := 17) rfl)
theorem tX11_ring_33 : (33, a_ic_eq 39 36) ∈ kX11_ring := qX11_ring_0 _ (List.mem_of_getElem? (i := 18) rfl)
theorem tX11_ring_36 : (36, a_i (-2) 38) ∈ kX11_ring := qX11_ring_0 _ (List.mem_of_getElem? (i := 19) rfl)
theorem tX11_ring_38 : (38, a_iret false) ∈ kX11_ring := qX11_ring_0 _ (List.mem_of_getElem? (i := 20) rfl)
theorem tX11_ring_39 : (39, a_iload 2 40) ∈ kX11_ring := qX11_ring_0 _ (List.mem_of_getElem? (i := 21) rfl)
theorem tX11_ring_40 : (40, a_if_ne 56 43) ∈ kX11_ring := qX11_ring_0 _ (List.mem_of_getElem? (i := 22) rfl)
theorem tX11_ring_43 : (43, a_aload 0 44) ∈ kX11_ring := qX11_ring_0 _ (List.mem_of_getElem? (i := 23) rfl)
theorem qX11_ring_1 : ∀ q ∈ kX11_ring_1, q ∈ kX11_ring := fun _ h => (List.mem_append_right _ h)
theorem tX11_ring_44 : (44, a_getR 11 2 47) ∈ kX11_ring := qX11_ring_1 _ (List.mem_of_getElem? (i := 0) rfl)
theorem tX11_ring_47 : (47, a_getR 5 0 50) ∈ kX11_ring := qX11_ring_1 _ (List.mem_of_getElem? (i := 1) rfl)
theorem tX11_ring_50 : (50, a_callV 10 85 1 53 0 0) ∈ kX11_ring := qX11_ring_1 _ (List.mem_of_getElem? (i := 2) rfl)
theorem tX11_ring_53 : (53, a_goto 66) ∈ kX11_ring := qX11_ring_1 _ (List.mem_of_getElem? (i := 3) rfl)
theorem tX11_ring_56 : (56, a_aload 0 57) ∈ kX11_ring := qX11_ring_1 _ (List.mem_of_getElem? (i := 4) rfl)
theorem tX11_ring_57 : (57, a_getR 11 2 60) ∈ kX11_ring := qX11_ring_1 _ (List.mem_of_getElem? (i := 5) rfl)
theorem tX11_ring_60 : (60, a_getR 5 0 63) ∈ kX11_ring := qX11_ring_1 _ (List.mem_of_getElem? (i := 6) rfl)
theorem tX11_ring_63 : (63, a_callV 10 86 1 66 0 0) ∈ kX11_ring := qX11_ring_1 _ (List.mem_of_getElem? (i := 7) rfl)
theorem tX11_ring_66 : (66, a_iret false) ∈ kX11_ring := qX11_ring_1 _ (List.mem_of_getElem? (i := 8) rfl)
theorem oX11_ring : ∀ q ∈ kX11_ring, zSnd zty false RX11 cX11_ring 3 (some .int) false q := List.forall_mem_append.mpr ⟨oX11_ring_0, oX11_ring_1⟩
theorem dX11_build_0 : decode cX11_build 0 = .ok (.iload_n 1, 1) := by decide +kernel
theorem dX11_build_1 : decode cX11_build 1 = .ok (.invokestatic 103, 3) := by decide +kernel
theorem dX11_build_4 : decode cX11_build 4 = .ok (.ifCond .ne 5, 3) := by decide +kernel
theorem dX11_build_7 : decode cX11_build 7 = .ok (.iconst (-1), 1) := by decide +kernel
theorem dX11_build_8 : decode cX11_build 8 = .ok (.ireturn, 1) := by decide +kernel
theorem dX11_build_9 : decode cX11_build 9 = .ok (.aload_n 0, 1) := by decide +kernel
theorem dX11_build_10 : decode cX11_build 10 = .ok (.getfield 26, 3) := by decide +kernel
theorem dX11_build_13 : decode cX11_build 13 = .ok (.aload_n 0, 1) := by decide +kernel
theorem dX11_build_14 : decode cX11_build 14 = .ok (.getfield 10, 3) := by decide +kernel
theorem dX11_build_17 : decode cX11_build 17 = .ok (.iload_n 1, 1) := by decide +kernel
theorem dX11_build_18 : decode cX11_build 18 = .ok (.aaload, 1) := by decide +kernel
theorem dX11_build_19 : decode cX11_build 19 = .ok (.invokevirtual 129, 3) := by decide +kernel
theorem dX11_build_22 : decode cX11_build 22 = .ok (.ifCond .ne 6, 3) := by decide +kernel
theorem dX11_build_25 : decode cX11_build 25 = .ok (.bipush (-2), 2) := by decide +kernel
theorem dX11_build_27 : decode cX11_build 27 = .ok (.ireturn, 1) := by decide +kernel
theorem dX11_build_28 : decode cX11_build 28 = .ok (.aload_n 0, 1) := by decide +kernel
theorem dX11_build_29 : decode cX11_build 29 = .ok (.getfield 19, 3) := by decide +kernel
theorem dX11_build_32 : decode cX11_build 32 = .ok (.iload_n 1, 1) := by decide +kernel
theorem dX11_build_33 : decode cX11_build 33 = .ok (.aaload, 1) := by decide +kernel
theorem dX11_build_34 : decode cX11_build 34 = .ok (.aload_n 0, 1) := by decide +kernel
theorem dX11_build_35 : decode cX11_build 35 = .ok (.getfield 26, 3) := by decide +kernel
theorem dX11_build_38 : decode cX11_build 38 = .ok (.getfield 118, 3) := by decide +kernel
theorem dX11_build_41 : decode cX11_build 41 = .ok (.invokevirtual 133, 3) := by decide +kernel
theorem dX11_build_44 : decode cX11_build 44 = .ok (.iload_n 1, 1) := by decide +kernel
theorem dX11_build_45 : decode cX11_build 45 = .ok (.ifCond .ne 10, 3) := by decide +kernel
theorem dX11_build_48 : decode cX11_build 48 = .ok (.aload_n 0, 1) := by decide +kernel
theorem dX11_build_49 : decode cX11_build 49 = .ok (.getfield 33, 3) := by decide +kernel
theorem dX11_build_52 : decode cX11_build 52 = .ok (.invokevirtual 137, 3) := by decide +kernel
theorem dX11_build_55 : decode cX11_build 55 = .ok (.aload_n 0, 1) := by decide +kernel
theorem dX11_build_56 : decode cX11_build 56 = .ok (.getfield 19, 3) := by decide +kernel
theorem dX11_build_59 : decode cX11_build 59 = .ok (.iload_n 1, 1) := by decide +kernel
theorem dX11_build_60 : decode cX11_build 60 = .ok (.aaload, 1) := by decide +kernel
theorem dX11_build_61 : decode cX11_build 61 = .ok (.getfield 140, 3) := by decide +kernel
theorem dX11_build_64 : decode cX11_build 64 = .ok (.ireturn, 1) := by decide +kernel
def kX11_build_0 : List (Nat × zT) := [(0, a_iload 1 1), (1, a_call 129 1 4 0 0), (4, a_if_ne 9 7), (7, a_i (-1) 8), (8, a_iret false), (9, a_aload 0 10), (10, a_getR 11 2 13), (13, a_aload 0 14), (14, a_getR 11 0 17), (17, a_iload 1 18), (18, a_aald 19), (19, a_callV 5 44 2 22 0 0), (22, a_if_ne 28 25), (25, a_i (-2) 27), (27, a_iret false), (28, a_aload 0 29), (29, a_getR 11 1 32), (32, a_iload 1 33), (33, a_aald 34), (34, a_aload 0 35), (35, a_getR 11 2 38), (38, a_getR 5 0 41), (41, a_callV 10 83 2 44 0 0), (44, a_iload 1 45)]
theorem oX11_build_0 : ∀ q ∈ kX11_build_0, zSnd zty false RX11 cX11_build 2 (some .int) false q := List.forall_mem_cons.mpr ⟨ok_iload_n dX11_build_0 rfl, List.forall_mem_cons.mpr ⟨ok_callS dX11_build_1 rfl w392 w390 w391 w1 (by decide +kernel) (by decide), List.forall_mem_cons.mpr ⟨ok_if_ne dX11_build_4 (by decide), List.forall_mem_cons.mpr ⟨ok_iconst dX11_build_7 (by decide), List.forall_mem_cons.mpr ⟨ok_iret (bz := false) dX11_build_8 rfl, List.forall_mem_cons.mpr ⟨ok_aload_n dX11_build_9 rfl, List.forall_mem_cons.mpr ⟨ok_getR dX11_build_10 rfl in11 (by decide) rfl w339, List.forall_mem_cons.mpr ⟨ok_aload_n dX11_build_13 rfl, List.forall_mem_cons.mpr ⟨ok_getR dX11_build_14 rfl in11 (by decide) rfl w337, List.forall_mem_cons.mpr ⟨ok_iload_n dX11_build_17 rfl, List.forall_mem_cons.mpr ⟨ok_aald dX11_build_18, List.forall_mem_cons.mpr ⟨ok_callV dX11_build_19 rfl rfl w478 w475 w476 w4 w477 (by decide +kernel) (by decide), List.forall_mem_cons.mpr ⟨ok_if_ne dX11_build_22 (by decide), List.forall_mem_cons.mpr ⟨ok_bipush dX11_build_25 (by decide), List.forall_mem_cons.mpr ⟨ok_iret (bz := false) dX11_build_27 rfl, List.forall_mem_cons.mpr ⟨ok_aload_n dX11_build_28 rfl, List.forall_mem_cons.mpr ⟨ok_getR dX11_build_29 rfl in11 (by decide) rfl w338, List.forall_mem_cons.mpr ⟨ok_iload_n dX11_build_32 rfl, List.forall_mem_cons.mpr ⟨ok_aald dX11_build_33, List.forall_mem_cons.mpr ⟨ok_aload_n dX11_build_34 rfl, List.forall_mem_cons.mpr ⟨ok_getR dX11_build_35 rfl in11 (by decide) rfl w339, List.forall_mem_cons.mpr ⟨ok_getR dX11_build_38 rfl in5 (by decide) rfl w120, List.forall_mem_cons.mpr ⟨ok_callV dX11_build_41 rfl rfl w499 w496 w497 w3 w498 (by decide +kernel) (by decide), List.forall_mem_cons.mpr ⟨ok_iload_n dX11_build_44 rfl, fun _ h => absurd h List.not_mem_nil⟩⟩⟩⟩⟩⟩⟩⟩⟩⟩⟩⟩⟩⟩⟩⟩⟩⟩⟩⟩⟩⟩⟩⟩
def kX11_build_1 : List (Nat × zT) := [(45, a_if_ne 55 48), (48, a_aload 0 49), (49, a_getR 11 3 52), (52, a_callV 6 53 1 55 0 0), (55, a_aload 0 56), (56, a_getR 11 1 59), (59, a_iload 1 60), (60, a_aald 61), (61, a_getI 10 7 64), (64, a_iret false)]
theorem oX11_build_1 : ∀ q ∈ kX11_build_1, zSnd zty false RX11 cX11_build 2 (some .int) false q := List.forall_mem_cons.mpr ⟨ok_if_ne dX11_build_45 (by decide), List.forall_mem_cons.mpr ⟨ok_aload_n dX11_build_48 rfl, List.forall_mem_cons.mpr ⟨ok_getR dX11_build_49 rfl in11 (by decide) rfl w340, List.forall_mem_cons.mpr ⟨ok_callV dX11_build_52 rfl rfl w506 w503 w504 w5 w505 (by decide +kernel) (by decide), List.forall_mem_cons.mpr ⟨ok_aload_n dX11_build_55 rfl, List.forall_mem_cons.mpr ⟨ok_getR dX11_build_56 rfl in11 (by decide) rfl w338, List.forall_mem_cons.mpr ⟨ok_iload_n dX11_build_59 rfl, List.forall_mem_cons.mpr ⟨ok_aald dX11_build_60, List.forall_mem_cons.mpr ⟨ok_getI dX11_build_61 rfl in10 (by decide) rfl w92, List.forall_mem_cons.mpr ⟨ok_iret (bz := false) dX11_build_64 rfl, fun _ h => absurd h List.not_mem_nil⟩⟩⟩⟩⟩⟩⟩⟩⟩⟩
def kX11_build : List (Nat × zT) := kX11_build_0 ++ (kX11_build_1)
theorem qX11_build_0 : ∀ q ∈ kX11_build_0, q ∈ kX11_build := fun _ h => (List.mem_append_left _ h)
theorem tX11_build_0 : (0, a_iload 1 1) ∈ kX11_build := qX11_build_0 _ (List.mem_of_getElem? (i := 0) rfl)
theorem tX11_build_1 : (1, a_call 129 1 4 0 0) ∈ kX11_build := qX11_build_0 _ (List.mem_of_getElem? (i := 1) rfl)
theorem tX11_build_4 : (4, a_if_ne 9 7) ∈ kX11_build := qX11_build_0 _ (List.mem_of_getElem? (i := 2) rfl)
theorem tX11_build_7 : (7, a_i (-1) 8) ∈ kX11_build := qX11_build_0 _ (List.mem_of_getElem? (i := 3) rfl)
theorem tX11_build_8 : (8, a_iret false) ∈ kX11_build := qX11_build_0 _ (List.mem_of_getElem? (i := 4) rfl)
theorem tX11_build_9 : (9, a_aload 0 10) ∈ kX11_build := qX11_build_0 _ (List.mem_of_getElem? (i := 5) rfl)
theorem tX11_build_10 : (10, a_getR 11 2 13) ∈ kX11_build := qX11_build_0 _ (List.mem_of_getElem? (i := 6) rfl)
theorem tX11_build_13 : (13, a_aload 0 14) ∈ kX11_build := qX11_build_0 _ (List.mem_of_getElem? (i := 7) rfl)
theorem tX11_build_14 : (14, a_getR 11 0 17) ∈ kX11_build := qX11_build_0 _ (List.mem_of_getElem? (i := 8) rfl)
theorem tX11_build_17 : (17, a_iload 1 18) ∈ kX11_build := qX11_build_0 _ (List.mem_of_getElem? (i := 9) rfl)
theorem tX11_build_18 : (18, a_aald 19) ∈ kX11_build := qX11_build_0 _ (List.mem_of_getElem? (i := 10) rfl)
theorem tX11_build_19 : (19, a_callV 5 44 2 22 0 0) ∈ kX11_build := qX11_build_0 _ (List.mem_of_getElem? (i := 11) rfl)
theorem tX11_build_22 : (22, a_if_ne 28 25) ∈ kX11_build := qX11_build_0 _ (List.mem_of_getElem? (i := 12) rfl)
theorem tX11_build_25 : (25, a_i (-2) 27) ∈ kX11_build := qX11_build_0 _ (List.mem_of_getElem? (i := 13) rfl)
theorem tX11_build_27 : (27, a_iret false) ∈ kX11_build := qX11_build_0 _ (List.mem_of_getElem? (i := 14) rfl)
theorem tX11_build_28 : (28, a_aload 0 29) ∈ kX11_build := qX11_build_0 _ (List.mem_of_getElem? (i := 15) rfl)
theorem tX11_build_29 : (29, a_getR 11 1 32) ∈ kX11_build := qX11_build_0 _ (List.mem_of_getElem? (i := 16) rfl)
theorem tX11_build_32 : (32, a_iload 1 33) ∈ kX11_build := qX11_build_0 _ (List.mem_of_getElem? (i := 17) rfl)
theorem tX11_build_33 : (33, a_aald 34) ∈ kX11_build := qX11_build_0 _ (List.mem_of_getElem? (i := 18) rfl)
theorem tX11_build_34 : (34, a_aload 0 35) ∈ kX11_build := qX11_build_0 _ (List.mem_of_getElem? (i := 19) rfl)
theorem tX11_build_35 : (35, a_getR 11 2 38) ∈ kX11_build := qX11_build_0 _ (List.mem_of_getElem? (i := 20) rfl)
theorem tX11_build_38 : (38, a_getR 5 0 41) ∈ kX11_build := qX11_build_0 _ (List.mem_of_getElem? (i := 21) rfl)
theorem tX11_build_41 : (41, a_callV 10 83 2 44 0 0) ∈ kX11_build := qX11_build_0 _ (List.mem_of_getElem? (i := 22) rfl)
theorem tX11_build_44 : (44, a_iload 1 45) ∈ kX11_build := qX11_build_0 _ (List.mem_of_getElem? (i := 23) rfl)
theorem qX11_build_1 : ∀ q ∈ kX11_build_1, q ∈ kX11_build := fun _ h => (List.mem_append_right _ h)
theorem tX11_build_45 : (45, a_if_ne 55 48) ∈ kX11_build := qX11_build_1 _ (List.mem_of_getElem? (i := 0) rfl)
theorem tX11_build_48 : (48, a_aload 0 49) ∈ kX11_build := qX11_build_1 _ (List.mem_of_getElem? (i := 1) rfl)
theorem tX11_build_49 : (49, a_getR 11 3 52) ∈ kX11_build := qX11_build_1 _ (List.mem_of_getElem? (i := 2) rfl)
theorem tX11_build_52 : (52, a_callV 6 53 1 55 0 0) ∈ kX11_build := qX11_build_1 _ (List.mem_of_getElem? (i := 3) rfl)
theorem tX11_build_55 : (55, a_aload 0 56) ∈ kX11_build := qX11_build_1 _ (List.mem_of_getElem? (i := 4) rfl)
theorem tX11_build_56 : (56, a_getR 11 1 59) ∈ kX11_build := qX11_build_1 _ (List.mem_of_getElem? (i := 5) rfl)
theorem tX11_build_59 : (59, a_iload 1 60) ∈ kX11_build := qX11_build_1 _ (List.mem_of_getElem? (i := 6) rfl)
theorem tX11_build_60 : (60, a_aald 61) ∈ kX11_build := qX11_build_1 _ (List.mem_of_getElem? (i := 7) rfl)
theorem tX11_build_61 : (61, a_getI 10 7 64) ∈ kX11_build := qX11_build_1 _ (List.mem_of_getElem? (i := 8) rfl)
theorem tX11_build_64 : (64, a_iret false) ∈ kX11_build := qX11_build_1 _ (List.mem_of_getElem? (i := 9) rfl)
theorem oX11_build : ∀ q ∈ kX11_build, zSnd zty false RX11 cX11_build 2 (some .int) false q := List.forall_mem_append.mpr ⟨oX11_build_0, oX11_build_1⟩
theorem dX11_line_0 : decode cX11_line 0 = .ok (.iload_n 1, 1) := by decide +kernel
theorem dX11_line_1 : decode cX11_line 1 = .ok (.invokestatic 103, 3) := by decide +kernel
theorem dX11_line_4 : decode cX11_line 4 = .ok (.ifCond .eq 19, 3) := by decide +kernel
theorem dX11_line_7 : decode cX11_line 7 = .ok (.iload_n 2, 1) := by decide +kernel
theorem dX11_line_8 : decode cX11_line 8 = .ok (.invokestatic 143, 3) := by decide +kernel
theorem dX11_line_11 : decode cX11_line 11 = .ok (.ifCond .eq 12, 3) := by decide +kernel
theorem dX11_line_14 : decode cX11_line 14 = .ok (.iload_n 3, 1) := by decide +kernel
theorem dX11_line_15 : decode cX11_line 15 = .ok (.ifCond .lt 8, 3) := by decide +kernel
theorem dX11_line_18 : decode cX11_line 18 = .ok (.iload_n 3, 1) := by decide +kernel
theorem dX11_line_19 : decode cX11_line 19 = .ok (.iconst 2, 1) := by decide +kernel
theorem dX11_line_20 : decode cX11_line 20 = .ok (.if_icmp .le 5, 3) := by decide +kernel
theorem dX11_line_23 : decode cX11_line 23 = .ok (.iconst (-1), 1) := by decide +kernel
theorem dX11_line_24 : decode cX11_line 24 = .ok (.ireturn, 1) := by decide +kernel
theorem dX11_line_25 : decode cX11_line 25 = .ok (.aload_n 0, 1) := by decide +kernel
theorem dX11_line_26 : decode cX11_line 26 = .ok (.getfield 19, 3) := by decide +kernel
theorem dX11_line_29 : decode cX11_line 29 = .ok (.iload_n 1, 1) := by decide +kernel
theorem dX11_line_30 : decode cX11_line 30 = .ok (.aaload, 1) := by decide +kernel
theorem dX11_line_31 : decode cX11_line 31 = .ok (.astore 4, 2) := by decide +kernel
theorem dX11_line_33 : decode cX11_line 33 = .ok (.aload 4, 2) := by decide +kernel
theorem dX11_line_35 : decode cX11_line 35 = .ok (.iload_n 2, 1) := by decide +kernel
theorem dX11_line_36 : decode cX11_line 36 = .ok (.invokevirtual 146, 3) := by decide +kernel
theorem dX11_line_39 : decode cX11_line 39 = .ok (.ifCond .ne 6, 3) := by decide +kernel
theorem dX11_line_42 : decode cX11_line 42 = .ok (.bipush (-4), 2) := by decide +kernel
theorem dX11_line_44 : decode cX11_line 44 = .ok (.ireturn, 1) := by decide +kernel
theorem dX11_line_45 : decode cX11_line 45 = .ok (.iload_n 3, 1) := by decide +kernel
theorem dX11_line_46 : decode cX11_line 46 = .ok (.ifCond .ne 19, 3) := by decide +kernel
theorem dX11_line_49 : decode cX11_line 49 = .ok (.aload 4, 2) := by decide +kernel
theorem dX11_line_51 : decode cX11_line 51 = .ok (.getfield 149, 3) := by decide +kernel
theorem dX11_line_54 : decode cX11_line 54 = .ok (.iload_n 2, 1) := by decide +kernel
theorem dX11_line_55 : decode cX11_line 55 = .ok (.iaload, 1) := by decide +kernel
theorem dX11_line_56 : decode cX11_line 56 = .ok (.aload 4, 2) := by decide +kernel
theorem dX11_line_58 : decode cX11_line 58 = .ok (.getfield 153, 3) := by decide +kernel
theorem dX11_line_61 : decode cX11_line 61 = .ok (.iload_n 2, 1) := by decide +kernel
theorem dX11_line_62 : decode cX11_line 62 = .ok (.iaload, 1) := by decide +kernel
theorem dX11_line_63 : decode cX11_line 63 = .ok (.isub, 1) := by decide +kernel
theorem dX11_line_64 : decode cX11_line 64 = .ok (.ireturn, 1) := by decide +kernel
theorem dX11_line_65 : decode cX11_line 65 = .ok (.iload_n 3, 1) := by decide +kernel
theorem dX11_line_66 : decode cX11_line 66 = .ok (.iconst 1, 1) := by decide +kernel
theorem dX11_line_67 : decode cX11_line 67 = .ok (.if_icmp .ne 13, 3) := by decide +kernel
theorem dX11_line_70 : decode cX11_line 70 = .ok (.aload 4, 2) := by decide +kernel
theorem dX11_line_72 : decode cX11_line 72 = .ok (.getfield 156, 3) := by decide +kernel
theorem dX11_line_75 : decode cX11_line 75 = .ok (.iload_n 2, 1) := by decide +kernel
theorem dX11_line_76 : decode cX11_line 76 = .ok (.iaload, 1) := by decide +kernel
theorem dX11_line_77 : decode cX11_line 77 = .ok (.goto 10, 3) := by decide +kernel
theorem dX11_line_80 : decode cX11_line 80 = .ok (.aload 4, 2) := by decide +kernel
theorem dX11_line_82 : decode cX11_line 82 = .ok (.getfield 159, 3) := by decide +kernel
theorem dX11_line_85 : decode cX11_line 85 = .ok (.iload_n 2, 1) := by decide +kernel
theorem dX11_line_86 : decode cX11_line 86 = .ok (.iaload, 1) := by decide +kernel
theorem dX11_line_87 : decode cX11_line 87 = .ok (.ireturn, 1) := by decide +kernel
def kX11_line_0 : List (Nat × zT) := [(0, a_iload 1 1), (1, a_call 129 1 4 0 0), (4, a_if_eq 23 7), (7, a_iload 2 8), (8, a_call 130 1 11 0 0), (11, a_if_eq 23 14), (14, a_iload 3 15), (15, a_if_lt 23 18), (18, a_iload 3 19), (19, a_i 2 20), (20, a_ic_le 25 23), (23, a_i (-1) 24), (24, a_iret false), (25, a_aload 0 26), (26, a_getR 11 1 29), (29, a_iload 1 30), (30, a_aald 31), (31, a_astore 4 33), (33, a_aload 4 35), (35, a_iload 2 36), (36, a_callV 10 81 2 39 0 0), (39, a_if_ne 45 42), (42, a_i (-4) 44), (44, a_iret false)]
theorem oX11_line_0 : ∀ q ∈ kX11_line_0, zSnd zty false RX11 cX11_line 5 (some .int) false q := List.forall_mem_cons.mpr ⟨ok_iload_n dX11_line_0 rfl, List.forall_mem_cons.mpr ⟨ok_callS dX11_line_1 rfl w392 w390 w391 w1 (by decide +kernel) (by decide), List.forall_mem_cons.mpr ⟨ok_if_eq dX11_line_4 (by decide), List.forall_mem_cons.mpr ⟨ok_iload_n dX11_line_7 rfl, List.forall_mem_cons.mpr ⟨ok_callS dX11_line_8 rfl w426 w511 w425 w1 (by decide +kernel) (by decide), List.forall_mem_cons.mpr ⟨ok_if_eq dX11_line_11 (by decide), List.forall_mem_cons.mpr ⟨ok_iload_n dX11_line_14 rfl, List.forall_mem_cons.mpr ⟨ok_if_lt dX11_line_15 (by decide), List.forall_mem_cons.mpr ⟨ok_iload_n dX11_line_18 rfl, List.forall_mem_cons.mpr ⟨ok_iconst dX11_line_19 (by decide), List.forall_mem_cons.mpr ⟨ok_ic_le dX11_line_20 (by decide), List.forall_mem_cons.mpr ⟨ok_iconst dX11_line_23 (by decide), List.forall_mem_cons.mpr ⟨ok_iret (bz := false) dX11_line_24 rfl, List.forall_mem_cons.mpr ⟨ok_aload_n dX11_line_25 rfl, List.forall_mem_cons.mpr ⟨ok_getR dX11_line_26 rfl in11 (by decide) rfl w338, List.forall_mem_cons.mpr ⟨ok_iload_n dX11_line_29 rfl, List.forall_mem_cons.mpr ⟨ok_aald dX11_line_30, List.forall_mem_cons.mpr ⟨ok_astore dX11_line_31 (by decide), List.forall_mem_cons.mpr ⟨ok_aload dX11_line_33, List.forall_mem_cons.mpr ⟨ok_iload_n dX11_line_35 rfl, List.forall_mem_cons.mpr ⟨ok_callV dX11_line_36 rfl rfl w430 w512 w428 w3 w429 (by decide +kernel) (by decide), List.forall_mem_cons.mpr ⟨ok_if_ne dX11_line_39 (by decide), List.forall_mem_cons.mpr ⟨ok_bipush dX11_line_42 (by decide), List.forall_mem_cons.mpr ⟨ok_iret (bz := false) dX11_line_44 rfl, fun _ h => absurd h List.not_mem_nil⟩⟩⟩⟩⟩⟩⟩⟩⟩⟩⟩⟩⟩⟩⟩⟩⟩⟩⟩⟩⟩⟩⟩⟩
def kX11_line_1 : List (Nat × zT) := [(45, a_iload 3 46), (46, a_if_ne 65 49), (49, a_aload 4 51), (51, a_getR 10 2 54), (54, a_iload 2 55), (55, a_iald 56), (56, a_aload 4 58), (58, a_getR 10 1 61), (61, a_iload 2 62), (62, a_iald 63), (63, a_ii (fun x y => x - y) 64), (64, a_iret false), (65, a_iload 3 66), (66, a_i 1 67), (67, a_ic_ne 80 70), (70, a_aload 4 72), (72, a_getR 10 3 75), (75, a_iload 2 76), (76, a_iald 77), (77, a_goto 87), (80, a_aload 4 82), (82, a_getR 10 4 85), (85, a_iload 2 86), (86, a_iald 87)]
theorem oX11_line_1 : ∀ q ∈ kX11_line_1, zSnd zty false RX11 cX11_line 5 (some .int) false q := List.forall_mem_cons.mpr ⟨ok_iload_n dX11_line_45 rfl, List.forall_mem_cons.mpr ⟨ok_if_ne dX11_line_46 (by decide), List.forall_mem_cons.mpr ⟨ok_aload dX11_line_49, List.forall_mem_cons.mpr ⟨ok_getR dX11_line_51 rfl in10 (by decide) rfl w70, List.forall_mem_cons.mpr ⟨ok_iload_n dX11_line_54 rfl, List.forall_mem_cons.mpr ⟨ok_iald dX11_line_55, List.forall_mem_cons.mpr ⟨ok_aload dX11_line_56, List.forall_mem_cons.mpr ⟨ok_getR dX11_line_58 rfl in10 (by decide) rfl w63, List.forall_mem_cons.mpr ⟨ok_iload_n dX11_line_61 rfl, List.forall_mem_cons.mpr ⟨ok_iald dX11_line_62, List.forall_mem_cons.mpr ⟨ok_isub dX11_line_63, List.forall_mem_cons.mpr ⟨ok_iret (bz := false) dX11_line_64 rfl, List.forall_mem_cons.mpr ⟨ok_iload_n dX11_line_65 rfl, List.forall_mem_cons.mpr ⟨ok_iconst dX11_line_66 (by decide), List.forall_mem_cons.mpr ⟨ok_ic_ne dX11_line_67 (by decide), List.forall_mem_cons.mpr ⟨ok_aload dX11_line_70, List.forall_mem_cons.mpr ⟨ok_getR dX11_line_72 rfl in10 (by decide) rfl w73, List.forall_mem_cons.mpr ⟨ok_iload_n dX11_line_75 rfl, List.forall_mem_cons.mpr ⟨ok_iald dX11_line_76, List.forall_mem_cons.mpr ⟨ok_goto dX11_line_77 (by decide), List.forall_mem_cons.mpr ⟨ok_aload dX11_line_80, List.forall_mem_cons.mpr ⟨ok_getR dX11_line_82 rfl in10 (by decide) rfl w78, List.forall_mem_cons.mpr ⟨ok_iload_n dX11_line_85 rfl, List.forall_mem_cons.mpr ⟨ok_iald dX11_line_86, fun _ h => absurd h List.not_mem_nil⟩⟩⟩⟩⟩⟩⟩⟩⟩⟩⟩⟩⟩⟩⟩⟩⟩⟩⟩⟩⟩⟩⟩⟩
def kX11_line_2 : List (Nat × zT) := [(87, a_iret false)]
theorem oX11_line_2 : ∀ q ∈ kX11_line_2, zSnd zty false RX11 cX11_line 5 (some .int) false q := List.forall_mem_cons.mpr ⟨ok_iret (bz := false) dX11_line_87 rfl, fun _ h => absurd h List.not_mem_nil⟩
def kX11_line : List (Nat × zT) := kX11_line_0 ++ (kX11_line_1 ++ (kX11_line_2))
theorem qX11_line_0 : ∀ q ∈ kX11_line_0, q ∈ kX11_line := fun _ h => (List.mem_append_left _ h)
theorem tX11_line_0 : (0, a_iload 1 1) ∈ kX11_line := qX11_line_0 _ (List.mem_of_getElem? (i := 0) rfl)
theorem tX11_line_1 : (1, a_call 129 1 4 0 0) ∈ kX11_line := qX11_line_0 _ (List.mem_of_getElem? (i := 1) rfl)
theorem tX11_line_4 : (4, a_if_eq 23 7) ∈ kX11_line := qX11_line_0 _ (List.mem_of_getElem? (i := 2) rfl)
theorem tX11_line_7 : (7, a_iload 2 8) ∈ kX11_line := qX11_line_0 _ (List.mem_of_getElem? (i := 3) rfl)
theorem tX11_line_8 : (8, a_call 130 1 11 0 0) ∈ kX11_line := qX11_line_0 _ (List.mem_of_getElem? (i := 4) rfl)
theorem tX11_line_11 : (11, a_if_eq 23 14) ∈ kX11_line := qX11_line_0 _ (List.mem_of_getElem? (i := 5) rfl)
theorem tX11_line_14 : (14, a_iload 3 15) ∈ kX11_line := qX11_line_0 _ (List.mem_of_getElem? (i := 6) rfl)
theorem tX11_line_15 : (15, a_if_lt 23 18) ∈ kX11_line := qX11_line_0 _ (List.mem_of_getElem? (i := 7) rfl)
theorem tX11_line_18 : (18, a_iload 3 19) ∈ kX11_line := qX11_line_0 _ (List.mem_of_getElem? (i := 8) rfl)
theorem tX11_line_19 : (19, a_i 2 20) ∈ kX11_line := qX11_line_0 _ (List.mem_of_getElem? (i := 9) rfl)
theorem tX11_line_20 : (20, a_ic_le 25 23) ∈ kX11_line := qX11_line_0 _ (List.mem_of_getElem? (i := 10) rfl)
theorem tX11_line_23 : (23, a_i (-1) 24) ∈ kX11_line := qX11_line_0 _ (List.mem_of_getElem? (i := 11) rfl)
theorem tX11_line_24 : (24, a_iret false) ∈ kX11_line := qX11_line_0 _ (List.mem_of_getElem? (i := 12) rfl)
theorem tX11_line_25 : (25, a_aload 0 26) ∈ kX11_line := qX11_line_0 _ (List.mem_of_getElem? (i := 13) rfl)
theorem tX11_line_26 : (26, a_getR 11 1 29) ∈ kX11_line := qX11_line_0 _ (List.mem_of_getElem? (i := 14) rfl)
theorem tX11_line_29 : (29, a_iload 1 30) ∈ kX11_line := qX11_line_0 _ (List.mem_of_getElem? (i := 15) rfl)
theorem tX11_line_30 : (30, a_aald 31) ∈ kX11_line := qX11_line_0 _ (List.mem_of_getElem? (i := 16) rfl)
theorem tX11_line_31 : (31, a_astore 4 33) ∈ kX11_line := qX11_line_0 _ (List.mem_of_getElem? (i := 17) rfl)
theorem tX11_line_33 : (33, a_aload 4 35) ∈ kX11_line := qX11_line_0 _ (List.mem_of_getElem? (i := 18) rfl)
theorem tX11_line_35 : (35, a_iload 2 36) ∈ kX11_line := qX11_line_0 _ (List.mem_of_getElem? (i := 19) rfl)
theorem tX11_line_36 : (36, a_callV 10 81 2 39 0 0) ∈ kX11_line := qX11_line_0 _ (List.mem_of_getElem? (i := 20) rfl)
theorem tX11_line_39 : (39, a_if_ne 45 42) ∈ kX11_line := qX11_line_0 _ (List.mem_of_getElem? (i := 21) rfl)
theorem tX11_line_42 : (42, a_i (-4) 44) ∈ kX11_line := qX11_line_0 _ (List.mem_of_getElem? (i := 22) rfl)
theorem tX11_line_44 : (44, a_iret false) ∈ kX11_line := qX11_line_0 _ (List.mem_of_getElem? (i := 23) rfl)
theorem qX11_line_1 : ∀ q ∈ kX11_line_1, q ∈ kX11_line := fun _ h => (List.mem_append_right _ (List.mem_append_left _ h))
theorem tX11_line_45 : (45, a_iload 3 46) ∈ kX11_line := qX11_line_1 _ (List.mem_of_getElem? (i := 0) rfl)
theorem tX11_line_46 : (46, a_if_ne 65 49) ∈ kX11_line := qX11_line_1 _ (List.mem_of_getElem? (i := 1) rfl)
theorem tX11_line_49 : (49, a_aload 4 51) ∈ kX11_line := qX11_line_1 _ (List.mem_of_getElem? (i := 2) rfl)
theorem tX11_line_51 : (51, a_getR 10 2 54) ∈ kX11_line := qX11_line_1 _ (List.mem_of_getElem? (i := 3) rfl)
theorem tX11_line_54 : (54, a_iload 2 55) ∈ kX11_line := qX11_line_1 _ (List.mem_of_getElem? (i := 4) rfl)
theorem tX11_line_55 : (55, a_iald 56) ∈ kX11_line := qX11_line_1 _ (List.mem_of_getElem? (i := 5) rfl)
theorem tX11_line_56 : (56, a_aload 4 58) ∈ kX11_line := qX11_line_1 _ (List.mem_of_getElem? (i := 6) rfl)
theorem tX11_line_58 : (58, a_getR 10 1 61) ∈ kX11_line := qX11_line_1 _ (List.mem_of_getElem? (i := 7) rfl)
theorem tX11_line_61 : (61, a_iload 2 62) ∈ kX11_line := qX11_line_1 _ (List.mem_of_getElem? (i := 8) rfl)
theorem tX11_line_62 : (62, a_iald 63) ∈ kX11_line := qX11_line_1 _ (List.mem_of_getElem? (i := 9) rfl)
theorem tX11_line_63 : (63, a_ii (fun x y => x - y) 64) ∈ kX11_line := qX11_line_1 _ (List.mem_of_getElem? (i := 10) rfl)
theorem tX11_line_64 : (64, a_iret false) ∈ kX11_line := qX11_line_1 _ (List.mem_of_getElem? (i := 11) rfl)
theorem tX11_line_65 : (65, a_iload 3 66) ∈ kX11_line := qX11_line_1 _ (List.mem_of_getElem? (i := 12) rfl)
theorem tX11_line_66 : (66, a_i 1 67) ∈ kX11_line := qX11_line_1 _ (List.mem_of_getElem? (i := 13) rfl)
theorem tX11_line_67 : (67, a_ic_ne 80 70) ∈ kX11_line := qX11_line_1 _ (List.mem_of_getElem? (i := 14) rfl)
theorem tX11_line_70 : (70, a_aload 4 72) ∈ kX11_line := qX11_line_1 _ (List.mem_of_getElem? (i := 15) rfl)
theorem tX11_line_72 : (72, a_getR 10 3 75) ∈ kX11_line := qX11_line_1 _ (List.mem_of_getElem? (i := 16) rfl)
theorem tX11_line_75 : (75, a_iload 2 76) ∈ kX11_line := qX11_line_1 _ (List.mem_of_getElem? (i := 17) rfl)
theorem tX11_line_76 : (76, a_iald 77) ∈ kX11_line := qX11_line_1 _ (List.mem_of_getElem? (i := 18) rfl)
theorem tX11_line_77 : (77, a_goto 87) ∈ kX11_line := qX11_line_1 _ (List.mem_of_getElem? (i := 19) rfl)
theorem tX11_line_80 : (80, a_aload 4 82) ∈ kX11_line := qX11_line_1 _ (List.mem_of_getElem? (i := 20) rfl)
theorem tX11_line_82 : (82, a_getR 10 4 85) ∈ kX11_line := qX11_line_1 _ (List.mem_of_getElem? (i := 21) rfl)
theorem tX11_line_85 : (85, a_iload 2 86) ∈ kX11_line := qX11_line_1 _ (List.mem_of_getElem? (i := 22) rfl)
theorem tX11_line_86 : (86, a_iald 87) ∈ kX11_line := qX11_line_1 _ (List.mem_of_getElem? (i := 23) rfl)
theorem qX11_line_2 : ∀ q ∈ kX11_line_2, q ∈ kX11_line := fun _ h => (List.mem_append_right _ (List.mem_append_right _ h))
theorem tX11_line_87 : (87, a_iret false) ∈ kX11_line := qX11_line_2 _ (List.mem_of_getElem? (i := 0) rfl)
theorem oX11_line : ∀ q ∈ kX11_line, zSnd zty false RX11 cX11_line 5 (some .int) false q := List.forall_mem_append.mpr ⟨oX11_line_0, List.forall_mem_append.mpr ⟨oX11_line_1, oX11_line_2⟩⟩
theorem dX11_state_0 : decode cX11_state 0 = .ok (.iload_n 1, 1) := by decide +kernel
theorem dX11_state_1 : decode cX11_state 1 = .ok (.invokestatic 162, 3) := by decide +kernel
theorem dX11_state_4 : decode cX11_state 4 = .ok (.ifCond .ne 5, 3) := by decide +kernel
theorem dX11_state_7 : decode cX11_state 7 = .ok (.iconst (-1), 1) := by decide +kernel
theorem dX11_state_8 : decode cX11_state 8 = .ok (.ireturn, 1) := by decide +kernel
theorem dX11_state_9 : decode cX11_state 9 = .ok (.aload_n 0, 1) := by decide +kernel
theorem dX11_state_10 : decode cX11_state 10 = .ok (.getfield 33, 3) := by decide +kernel
theorem dX11_state_13 : decode cX11_state 13 = .ok (.getfield 165, 3) := by decide +kernel
theorem dX11_state_16 : decode cX11_state 16 = .ok (.istore_n 2, 1) := by decide +kernel
theorem dX11_state_17 : decode cX11_state 17 = .ok (.aload_n 0, 1) := by decide +kernel
theorem dX11_state_18 : decode cX11_state 18 = .ok (.getfield 33, 3) := by decide +kernel
theorem dX11_state_21 : decode cX11_state 21 = .ok (.iload_n 1, 1) := by decide +kernel
theorem dX11_state_22 : decode cX11_state 22 = .ok (.putfield 165, 3) := by decide +kernel
theorem dX11_state_25 : decode cX11_state 25 = .ok (.iload_n 2, 1) := by decide +kernel
theorem dX11_state_26 : decode cX11_state 26 = .ok (.ireturn, 1) := by decide +kernel
def kX11_state_0 : List (Nat × zT) := [(0, a_iload 1 1), (1, a_call 52 1 4 0 0), (4, a_if_ne 9 7), (7, a_i (-1) 8), (8, a_iret false), (9, a_aload 0 10), (10, a_getR 11 3 13), (13, a_getI 6 2 16), (16, a_istore 2 17), (17, a_aload 0 18), (18, a_getR 11 3 21), (21, a_iload 1 22), (22, a_putI 6 2 25 false), (25, a_iload 2 26), (26, a_iret false)]
theorem oX11_state_0 : ∀ q ∈ kX11_state_0, zSnd zty false RX11 cX11_state 3 (some .int) false q := List.forall_mem_cons.mpr ⟨ok_iload_n dX11_state_0 rfl, List.forall_mem_cons.mpr ⟨ok_callS dX11_state_1 rfl w519 w517 w518 w5 (by decide +kernel) (by decide), List.forall_mem_cons.mpr ⟨ok_if_ne dX11_state_4 (by decide), List.forall_mem_cons.mpr ⟨ok_iconst dX11_state_7 (by decide), List.forall_mem_cons.mpr ⟨ok_iret (bz := false) dX11_state_8 rfl, List.forall_mem_cons.mpr ⟨ok_aload_n dX11_state_9 rfl, List.forall_mem_cons.mpr ⟨ok_getR dX11_state_10 rfl in11 (by decide) rfl w340, List.forall_mem_cons.mpr ⟨ok_getI dX11_state_13 rfl in6 (by decide) rfl w146, List.forall_mem_cons.mpr ⟨ok_istore_n dX11_state_16 rfl (by decide), List.forall_mem_cons.mpr ⟨ok_aload_n dX11_state_17 rfl, List.forall_mem_cons.mpr ⟨ok_getR dX11_state_18 rfl in11 (by decide) rfl w340, List.forall_mem_cons.mpr ⟨ok_iload_n dX11_state_21 rfl, List.forall_mem_cons.mpr ⟨ok_putI (bz := false) dX11_state_22 rfl in6 tyX6 tyX6_ok nmX6 (by decide) rfl w146 rfl rfl, List.forall_mem_cons.mpr ⟨ok_iload_n dX11_state_25 rfl, List.forall_mem_cons.mpr ⟨ok_iret (bz := false) dX11_state_26 rfl, fun _ h => absurd h List.not_mem_nil⟩⟩⟩⟩⟩⟩⟩⟩⟩⟩⟩⟩⟩⟩⟩
def kX11_state : List (Nat × zT) := kX11_state_0
theorem qX11_state_0 : ∀ q ∈ kX11_state_0, q ∈ kX11_state := fun _ h => h
theorem tX11_state_0 : (0, a_iload 1 1) ∈ kX11_state := qX11_state_0 _ (List.mem_of_getElem? (i := 0) rfl)
theorem tX11_state_1 : (1, a_call 52 1 4 0 0) ∈ kX11_state := qX11_state_0 _ (List.mem_of_getElem? (i := 1) rfl)
theorem tX11_state_4 : (4, a_if_ne 9 7) ∈ kX11_state := qX11_state_0 _ (List.mem_of_getElem? (i := 2) rfl)
theorem tX11_state_7 : (7, a_i (-1) 8) ∈ kX11_state := qX11_state_0 _ (List.mem_of_getElem? (i := 3) rfl)
theorem tX11_state_8 : (8, a_iret false) ∈ kX11_state := qX11_state_0 _ (List.mem_of_getElem? (i := 4) rfl)
theorem tX11_state_9 : (9, a_aload 0 10) ∈ kX11_state := qX11_state_0 _ (List.mem_of_getElem? (i := 5) rfl)
theorem tX11_state_10 : (10, a_getR 11 3 13) ∈ kX11_state := qX11_state_0 _ (List.mem_of_getElem? (i := 6) rfl)
theorem tX11_state_13 : (13, a_getI 6 2 16) ∈ kX11_state := qX11_state_0 _ (List.mem_of_getElem? (i := 7) rfl)
theorem tX11_state_16 : (16, a_istore 2 17) ∈ kX11_state := qX11_state_0 _ (List.mem_of_getElem? (i := 8) rfl)
theorem tX11_state_17 : (17, a_aload 0 18) ∈ kX11_state := qX11_state_0 _ (List.mem_of_getElem? (i := 9) rfl)
theorem tX11_state_18 : (18, a_getR 11 3 21) ∈ kX11_state := qX11_state_0 _ (List.mem_of_getElem? (i := 10) rfl)
theorem tX11_state_21 : (21, a_iload 1 22) ∈ kX11_state := qX11_state_0 _ (List.mem_of_getElem? (i := 11) rfl)
theorem tX11_state_22 : (22, a_putI 6 2 25 false) ∈ kX11_state := qX11_state_0 _ (List.mem_of_getElem? (i := 12) rfl)
theorem tX11_state_25 : (25, a_iload 2 26) ∈ kX11_state := qX11_state_0 _ (List.mem_of_getElem? (i := 13) rfl)
theorem tX11_state_26 : (26, a_iret false) ∈ kX11_state := qX11_state_0 _ (List.mem_of_getElem? (i := 14) rfl)
theorem oX11_state : ∀ q ∈ kX11_state, zSnd zty false RX11 cX11_state 3 (some .int) false q := oX11_state_0
theorem dX11_step_0 : decode cX11_step 0 = .ok (.iload_n 1, 1) := by decide +kernel
theorem dX11_step_1 : decode cX11_step 1 = .ok (.bipush 64, 2) := by decide +kernel
theorem dX11_step_3 : decode cX11_step 3 = .ok (.invokestatic 168, 3) := by decide +kernel
theorem dX11_step_6 : decode cX11_step 6 = .ok (.ifCond .eq 12, 3) := by decide +kernel
theorem dX11_step_9 : decode cX11_step 9 = .ok (.iload_n 2, 1) := by decide +kernel
theorem dX11_step_10 : decode cX11_step 10 = .ok (.bipush 64, 2) := by decide +kernel
theorem dX11_step_12 : decode cX11_step 12 = .ok (.invokestatic 168, 3) := by decide +kernel
theorem dX11_step_15 : decode cX11_step 15 = .ok (.ifCond .ne 5, 3) := by decide +kernel
theorem dX11_step_18 : decode cX11_step 18 = .ok (.iconst (-1), 1) := by decide +kernel
theorem dX11_step_19 : decode cX11_step 19 = .ok (.ireturn, 1) := by decide +kernel
theorem dX11_step_20 : decode cX11_step 20 = .ok (.aload_n 0, 1) := by decide +kernel
theorem dX11_step_21 : decode cX11_step 21 = .ok (.getfield 33, 3) := by decide +kernel
theorem dX11_step_24 : decode cX11_step 24 = .ok (.aload_n 0, 1) := by decide +kernel
theorem dX11_step_25 : decode cX11_step 25 = .ok (.getfield 19, 3) := by decide +kernel
theorem dX11_step_28 : decode cX11_step 28 = .ok (.iconst 0, 1) := by decide +kernel
theorem dX11_step_29 : decode cX11_step 29 = .ok (.aaload, 1) := by decide +kernel
theorem dX11_step_30 : decode cX11_step 30 = .ok (.iload_n 1, 1) := by decide +kernel
theorem dX11_step_31 : decode cX11_step 31 = .ok (.iload_n 2, 1) := by decide +kernel
theorem dX11_step_32 : decode cX11_step 32 = .ok (.invokevirtual 172, 3) := by decide +kernel
theorem dX11_step_35 : decode cX11_step 35 = .ok (.ireturn, 1) := by decide +kernel
def kX11_step_0 : List (Nat × zT) := [(0, a_iload 1 1), (1, a_i 64 3), (3, a_call 128 2 6 0 0), (6, a_if_eq 18 9), (9, a_iload 2 10), (10, a_i 64 12), (12, a_call 128 2 15 0 0), (15, a_if_ne 20 18), (18, a_i (-1) 19), (19, a_iret false), (20, a_aload 0 21), (21, a_getR 11 3 24), (24, a_aload 0 25), (25, a_getR 11 1 28), (28, a_i 0 29), (29, a_aald 30), (30, a_iload 1 31), (31, a_iload 2 32), (32, a_callV 6 54 4 35 0 0), (35, a_iret false)]
theorem oX11_step_0 : ∀ q ∈ kX11_step_0, zSnd zty false RX11 cX11_step 3 (some .int) false q := List.forall_mem_cons.mpr ⟨ok_iload_n dX11_step_0 rfl, List.forall_mem_cons.mpr ⟨ok_bipush dX11_step_1 (by decide), List.forall_mem_cons.mpr ⟨ok_callS dX11_step_3 rfl w443 w525 w442 w1 (by decide +kernel) (by decide), List.forall_mem_cons.mpr ⟨ok_if_eq dX11_step_6 (by decide), List.forall_mem_cons.mpr ⟨ok_iload_n dX11_step_9 rfl, List.forall_mem_cons.mpr ⟨ok_bipush dX11_step_10 (by decide), List.forall_mem_cons.mpr ⟨ok_callS dX11_step_12 rfl w443 w525 w442 w1 (by decide +kernel) (by decide), List.forall_mem_cons.mpr ⟨ok_if_ne dX11_step_15 (by decide), List.forall_mem_cons.mpr ⟨ok_iconst dX11_step_18 (by decide), List.forall_mem_cons.mpr ⟨ok_iret (bz := false) dX11_step_19 rfl, List.forall_mem_cons.mpr ⟨ok_aload_n dX11_step_20 rfl, List.forall_mem_cons.mpr ⟨ok_getR dX11_step_21 rfl in11 (by decide) rfl w340, List.forall_mem_cons.mpr ⟨ok_aload_n dX11_step_24 rfl, List.forall_mem_cons.mpr ⟨ok_getR dX11_step_25 rfl in11 (by decide) rfl w338, List.forall_mem_cons.mpr ⟨ok_iconst dX11_step_28 (by decide), List.forall_mem_cons.mpr ⟨ok_aald dX11_step_29, List.forall_mem_cons.mpr ⟨ok_iload_n dX11_step_30 rfl, List.forall_mem_cons.mpr ⟨ok_iload_n dX11_step_31 rfl, List.forall_mem_cons.mpr ⟨ok_callV dX11_step_32 rfl rfl w529 w526 w527 w5 w528 (by decide +kernel) (by decide), List.forall_mem_cons.mpr ⟨ok_iret (bz := false) dX11_step_35 rfl, fun _ h => absurd h List.not_mem_nil⟩⟩⟩⟩⟩⟩⟩⟩⟩⟩⟩⟩⟩⟩⟩⟩⟩⟩⟩⟩
def kX11_step : List (Nat × zT) := kX11_step_0
theorem qX11_step_0 : ∀ q ∈ kX11_step_0, q ∈ kX11_step := fun _ h => h
theorem tX11_step_0 : (0, a_iload 1 1) ∈ kX11_step := qX11_step_0 _ (List.mem_of_getElem? (i := 0) rfl)
theorem tX11_step_1 : (1, a_i 64 3) ∈ kX11_step := qX11_step_0 _ (List.mem_of_getElem? (i := 1) rfl)
theorem tX11_step_3 : (3, a_call 128 2 6 0 0) ∈ kX11_step := qX11_step_0 _ (List.mem_of_getElem? (i := 2) rfl)
theorem tX11_step_6 : (6, a_if_eq 18 9) ∈ kX11_step := qX11_step_0 _ (List.mem_of_getElem? (i := 3) rfl)
theorem tX11_step_9 : (9, a_iload 2 10) ∈ kX11_step := qX11_step_0 _ (List.mem_of_getElem? (i := 4) rfl)
theorem tX11_step_10 : (10, a_i 64 12) ∈ kX11_step := qX11_step_0 _ (List.mem_of_getElem? (i := 5) rfl)
theorem tX11_step_12 : (12, a_call 128 2 15 0 0) ∈ kX11_step := qX11_step_0 _ (List.mem_of_getElem? (i := 6) rfl)
theorem tX11_step_15 : (15, a_if_ne 20 18) ∈ kX11_step := qX11_step_0 _ (List.mem_of_getElem? (i := 7) rfl)
theorem tX11_step_18 : (18, a_i (-1) 19) ∈ kX11_step := qX11_step_0 _ (List.mem_of_getElem? (i := 8) rfl)
theorem tX11_step_19 : (19, a_iret false) ∈ kX11_step := qX11_step_0 _ (List.mem_of_getElem? (i := 9) rfl)
theorem tX11_step_20 : (20, a_aload 0 21) ∈ kX11_step := qX11_step_0 _ (List.mem_of_getElem? (i := 10) rfl)
theorem tX11_step_21 : (21, a_getR 11 3 24) ∈ kX11_step := qX11_step_0 _ (List.mem_of_getElem? (i := 11) rfl)
theorem tX11_step_24 : (24, a_aload 0 25) ∈ kX11_step := qX11_step_0 _ (List.mem_of_getElem? (i := 12) rfl)
theorem tX11_step_25 : (25, a_getR 11 1 28) ∈ kX11_step := qX11_step_0 _ (List.mem_of_getElem? (i := 13) rfl)
theorem tX11_step_28 : (28, a_i 0 29) ∈ kX11_step := qX11_step_0 _ (List.mem_of_getElem? (i := 14) rfl)
theorem tX11_step_29 : (29, a_aald 30) ∈ kX11_step := qX11_step_0 _ (List.mem_of_getElem? (i := 15) rfl)
theorem tX11_step_30 : (30, a_iload 1 31) ∈ kX11_step := qX11_step_0 _ (List.mem_of_getElem? (i := 16) rfl)
theorem tX11_step_31 : (31, a_iload 2 32) ∈ kX11_step := qX11_step_0 _ (List.mem_of_getElem? (i := 17) rfl)
theorem tX11_step_32 : (32, a_callV 6 54 4 35 0 0) ∈ kX11_step := qX11_step_0 _ (List.mem_of_getElem? (i := 18) rfl)
theorem tX11_step_35 : (35, a_iret false) ∈ kX11_step := qX11_step_0 _ (List.mem_of_getElem? (i := 19) rfl)
theorem oX11_step : ∀ q ∈ kX11_step, zSnd zty false RX11 cX11_step 3 (some .int) false q := oX11_step_0
theorem dX11_value_0 : decode cX11_value 0 = .ok (.iload_n 1, 1) := by decide +kernel
theorem dX11_value_1 : decode cX11_value 1 = .ok (.bipush 19, 2) := by decide +kernel
theorem dX11_value_3 : decode cX11_value 3 = .ok (.invokestatic 168, 3) := by decide +kernel
theorem dX11_value_6 : decode cX11_value 6 = .ok (.ifCond .ne 5, 3) := by decide +kernel
theorem dX11_value_9 : decode cX11_value 9 = .ok (.iconst (-1), 1) := by decide +kernel
theorem dX11_value_10 : decode cX11_value 10 = .ok (.ireturn, 1) := by decide +kernel
theorem dX11_value_11 : decode cX11_value 11 = .ok (.aload_n 0, 1) := by decide +kernel
theorem dX11_value_12 : decode cX11_value 12 = .ok (.getfield 33, 3) := by decide +kernel
theorem dX11_value_15 : decode cX11_value 15 = .ok (.getfield 176, 3) := by decide +kernel
theorem dX11_value_18 : decode cX11_value 18 = .ok (.ifCond .ne 8, 3) := by decide +kernel
theorem dX11_value_21 : decode cX11_value 21 = .ok (.bipush (-2), 2) := by decide +kernel
theorem dX11_value_23 : decode cX11_value 23 = .ok (.goto 12, 3) := by decide +kernel
theorem dX11_value_26 : decode cX11_value 26 = .ok (.aload_n 0, 1) := by decide +kernel
theorem dX11_value_27 : decode cX11_value 27 = .ok (.getfield 33, 3) := by decide +kernel
theorem dX11_value_30 : decode cX11_value 30 = .ok (.getfield 179, 3) := by decide +kernel
theorem dX11_value_33 : decode cX11_value 33 = .ok (.iload_n 1, 1) := by decide +kernel
theorem dX11_value_34 : decode cX11_value 34 = .ok (.iaload, 1) := by decide +kernel
theorem dX11_value_35 : decode cX11_value 35 = .ok (.ireturn, 1) := by decide +kernel
def kX11_value_0 : List (Nat × zT) := [(0, a_iload 1 1), (1, a_i 19 3), (3, a_call 128 2 6 0 0), (6, a_if_ne 11 9), (9, a_i (-1) 10), (10, a_iret false), (11, a_aload 0 12), (12, a_getR 11 3 15), (15, a_getI 6 3 18), (18, a_if_ne 26 21), (21, a_i (-2) 23), (23, a_goto 35), (26, a_aload 0 27), (27, a_getR 11 3 30), (30, a_getR 6 0 33), (33, a_iload 1 34), (34, a_iald 35), (35, a_iret false)]
theorem oX11_value_0 : ∀ q ∈ kX11_value_0, zSnd zty false RX11 cX11_value 2 (some .int) false q := List.forall_mem_cons.mpr ⟨ok_iload_n dX11_value_0 rfl, List.forall_mem_cons.mpr ⟨ok_bipush dX11_value_1 (by decide), List.forall_mem_cons.mpr ⟨ok_callS dX11_value_3 rfl w443 w525 w442 w1 (by decide +kernel) (by decide), List.forall_mem_cons.mpr ⟨ok_if_ne dX11_value_6 (by decide), List.forall_mem_cons.mpr ⟨ok_iconst dX11_value_9 (by decide), List.forall_mem_cons.mpr ⟨ok_iret (bz := false) dX11_value_10 rfl, List.forall_mem_cons.mpr ⟨ok_aload_n dX11_value_11 rfl, List.forall_mem_cons.mpr ⟨ok_getR dX11_value_12 rfl in11 (by decide) rfl w340, List.forall_mem_cons.mpr ⟨ok_getI dX11_value_15 rfl in6 (by decide) rfl w148, List.forall_mem_cons.mpr ⟨ok_if_ne dX11_value_18 (by decide), List.forall_mem_cons.mpr ⟨ok_bipush dX11_value_21 (by decide), List.forall_mem_cons.mpr ⟨ok_goto dX11_value_23 (by decide), List.forall_mem_cons.mpr ⟨ok_aload_n dX11_value_26 rfl, List.forall_mem_cons.mpr ⟨ok_getR dX11_value_27 rfl in11 (by decide) rfl w340, List.forall_mem_cons.mpr ⟨ok_getR dX11_value_30 rfl in6 (by decide) rfl w143, List.forall_mem_cons.mpr ⟨ok_iload_n dX11_value_33 rfl, List.forall_mem_cons.mpr ⟨ok_iald dX11_value_34, List.forall_mem_cons.mpr ⟨ok_iret (bz := false) dX11_value_35 rfl, fun _ h => absurd h List.not_mem_nil⟩⟩⟩⟩⟩⟩⟩⟩⟩⟩⟩⟩⟩⟩⟩⟩⟩⟩
def kX11_value : List (Nat × zT) := kX11_value_0
theorem qX11_value_0 : ∀ q ∈ kX11_value_0, q ∈ kX11_value := fun _ h => h
theorem tX11_value_0 : (0, a_iload 1 1) ∈ kX11_value := qX11_value_0 _ (List.mem_of_getElem? (i := 0) rfl)
theorem tX11_value_1 : (1, a_i 19 3) ∈ kX11_value := qX11_value_0 _ (List.mem_of_getElem? (i := 1) rfl)
theorem tX11_value_3 : (3, a_call 128 2 6 0 0) ∈ kX11_value := qX11_value_0 _ (List.mem_of_getElem? (i := 2) rfl)
theorem tX11_value_6 : (6, a_if_ne 11 9) ∈ kX11_value := qX11_value_0 _ (List.mem_of_getElem? (i := 3) rfl)
theorem tX11_value_9 : (9, a_i (-1) 10) ∈ kX11_value := qX11_value_0 _ (List.mem_of_getElem? (i := 4) rfl)
theorem tX11_value_10 : (10, a_iret false) ∈ kX11_value := qX11_value_0 _ (List.mem_of_getElem? (i := 5) rfl)
theorem tX11_value_11 : (11, a_aload 0 12) ∈ kX11_value := qX11_value_0 _ (List.mem_of_getElem? (i := 6) rfl)
theorem tX11_value_12 : (12, a_getR 11 3 15) ∈ kX11_value := qX11_value_0 _ (List.mem_of_getElem? (i := 7) rfl)
theorem tX11_value_15 : (15, a_getI 6 3 18) ∈ kX11_value := qX11_value_0 _ (List.mem_of_getElem? (i := 8) rfl)
theorem tX11_value_18 : (18, a_if_ne 26 21) ∈ kX11_value := qX11_value_0 _ (List.mem_of_getElem? (i := 9) rfl)
theorem tX11_value_21 : (21, a_i (-2) 23) ∈ kX11_value := qX11_value_0 _ (List.mem_of_getElem? (i := 10) rfl)
theorem tX11_value_23 : (23, a_goto 35) ∈ kX11_value := qX11_value_0 _ (List.mem_of_getElem? (i := 11) rfl)
theorem tX11_value_26 : (26, a_aload 0 27) ∈ kX11_value := qX11_value_0 _ (List.mem_of_getElem? (i := 12) rfl)
theorem tX11_value_27 : (27, a_getR 11 3 30) ∈ kX11_value := qX11_value_0 _ (List.mem_of_getElem? (i := 13) rfl)
theorem tX11_value_30 : (30, a_getR 6 0 33) ∈ kX11_value := qX11_value_0 _ (List.mem_of_getElem? (i := 14) rfl)
theorem tX11_value_33 : (33, a_iload 1 34) ∈ kX11_value := qX11_value_0 _ (List.mem_of_getElem? (i := 15) rfl)
theorem tX11_value_34 : (34, a_iald 35) ∈ kX11_value := qX11_value_0 _ (List.mem_of_getElem? (i := 16) rfl)
theorem tX11_value_35 : (35, a_iret false) ∈ kX11_value := qX11_value_0 _ (List.mem_of_getElem? (i := 17) rfl)
theorem oX11_value : ∀ q ∈ kX11_value, zSnd zty false RX11 cX11_value 2 (some .int) false q := oX11_value_0
theorem dX11_truth_0 : decode cX11_truth 0 = .ok (.iload_n 1, 1) := by decide +kernel
theorem dX11_truth_1 : decode cX11_truth 1 = .ok (.invokestatic 103, 3) := by decide +kernel
theorem dX11_truth_4 : decode cX11_truth 4 = .ok (.ifCond .eq 22, 3) := by decide +kernel
theorem dX11_truth_7 : decode cX11_truth 7 = .ok (.iload_n 2, 1) := by decide +kernel
theorem dX11_truth_8 : decode cX11_truth 8 = .ok (.bipush 19, 2) := by decide +kernel
theorem dX11_truth_10 : decode cX11_truth 10 = .ok (.invokestatic 168, 3) := by decide +kernel
theorem dX11_truth_13 : decode cX11_truth 13 = .ok (.ifCond .eq 13, 3) := by decide +kernel
theorem dX11_truth_16 : decode cX11_truth 16 = .ok (.iload_n 3, 1) := by decide +kernel
theorem dX11_truth_17 : decode cX11_truth 17 = .ok (.sipush 1024, 3) := by decide +kernel
theorem dX11_truth_20 : decode cX11_truth 20 = .ok (.invokestatic 168, 3) := by decide +kernel
theorem dX11_truth_23 : decode cX11_truth 23 = .ok (.ifCond .ne 5, 3) := by decide +kernel
theorem dX11_truth_26 : decode cX11_truth 26 = .ok (.iconst (-1), 1) := by decide +kernel
theorem dX11_truth_27 : decode cX11_truth 27 = .ok (.ireturn, 1) := by decide +kernel
theorem dX11_truth_28 : decode cX11_truth 28 = .ok (.aload_n 0, 1) := by decide +kernel
theorem dX11_truth_29 : decode cX11_truth 29 = .ok (.getfield 40, 3) := by decide +kernel
theorem dX11_truth_32 : decode cX11_truth 32 = .ok (.aload_n 0, 1) := by decide +kernel
theorem dX11_truth_33 : decode cX11_truth 33 = .ok (.getfield 19, 3) := by decide +kernel
theorem dX11_truth_36 : decode cX11_truth 36 = .ok (.iload_n 1, 1) := by decide +kernel
theorem dX11_truth_37 : decode cX11_truth 37 = .ok (.aaload, 1) := by decide +kernel
theorem dX11_truth_38 : decode cX11_truth 38 = .ok (.iload_n 3, 1) := by decide +kernel
theorem dX11_truth_39 : decode cX11_truth 39 = .ok (.invokevirtual 182, 3) := by decide +kernel
theorem dX11_truth_42 : decode cX11_truth 42 = .ok (.aload_n 0, 1) := by decide +kernel
theorem dX11_truth_43 : decode cX11_truth 43 = .ok (.getfield 40, 3) := by decide +kernel
theorem dX11_truth_46 : decode cX11_truth 46 = .ok (.getfield 186, 3) := by decide +kernel
theorem dX11_truth_49 : decode cX11_truth 49 = .ok (.iload_n 2, 1) := by decide +kernel
theorem dX11_truth_50 : decode cX11_truth 50 = .ok (.laload, 1) := by decide +kernel
theorem dX11_truth_51 : decode cX11_truth 51 = .ok (.lconst 1, 1) := by decide +kernel
theorem dX11_truth_52 : decode cX11_truth 52 = .ok (.land, 1) := by decide +kernel
theorem dX11_truth_53 : decode cX11_truth 53 = .ok (.l2i, 1) := by decide +kernel
theorem dX11_truth_54 : decode cX11_truth 54 = .ok (.ireturn, 1) := by decide +kernel
def kX11_truth_0 : List (Nat × zT) := [(0, a_iload 1 1), (1, a_call 129 1 4 0 0), (4, a_if_eq 26 7), (7, a_iload 2 8), (8, a_i 19 10), (10, a_call 128 2 13 0 0), (13, a_if_eq 26 16), (16, a_iload 3 17), (17, a_i 1024 20), (20, a_call 128 2 23 0 0), (23, a_if_ne 28 26), (26, a_i (-1) 27), (27, a_iret false), (28, a_aload 0 29), (29, a_getR 11 4 32), (32, a_aload 0 33), (33, a_getR 11 1 36), (36, a_iload 1 37), (37, a_aald 38), (38, a_iload 3 39), (39, a_callV 4 33 3 42 0 0), (42, a_aload 0 43), (43, a_getR 11 4 46), (46, a_getR 4 1 49)]
theorem oX11_truth_0 : ∀ q ∈ kX11_truth_0, zSnd zty false RX11 cX11_truth 4 (some .int) false q := List.forall_mem_cons.mpr ⟨ok_iload_n dX11_truth_0 rfl, List.forall_mem_cons.mpr ⟨ok_callS dX11_truth_1 rfl w392 w390 w391 w1 (by decide +kernel) (by decide), List.forall_mem_cons.mpr ⟨ok_if_eq dX11_truth_4 (by decide), List.forall_mem_cons.mpr ⟨ok_iload_n dX11_truth_7 rfl, List.forall_mem_cons.mpr ⟨ok_bipush dX11_truth_8 (by decide), List.forall_mem_cons.mpr ⟨ok_callS dX11_truth_10 rfl w443 w525 w442 w1 (by decide +kernel) (by decide), List.forall_mem_cons.mpr ⟨ok_if_eq dX11_truth_13 (by decide), List.forall_mem_cons.mpr ⟨ok_iload_n dX11_truth_16 rfl, List.forall_mem_cons.mpr ⟨ok_sipush dX11_truth_17 (by decide), List.forall_mem_cons.mpr ⟨ok_callS dX11_truth_20 rfl w443 w525 w442 w1 (by decide +kernel) (by decide), List.forall_mem_cons.mpr ⟨ok_if_ne dX11_truth_23 (by decide), List.forall_mem_cons.mpr ⟨ok_iconst dX11_truth_26 (by decide), List.forall_mem_cons.mpr ⟨ok_iret (bz := false) dX11_truth_27 rfl, List.forall_mem_cons.mpr ⟨ok_aload_n dX11_truth_28 rfl, List.forall_mem_cons.mpr ⟨ok_getR dX11_truth_29 rfl in11 (by decide) rfl w341, List.forall_mem_cons.mpr ⟨ok_aload_n dX11_truth_32 rfl, List.forall_mem_cons.mpr ⟨ok_getR dX11_truth_33 rfl in11 (by decide) rfl w338, List.forall_mem_cons.mpr ⟨ok_iload_n dX11_truth_36 rfl, List.forall_mem_cons.mpr ⟨ok_aald dX11_truth_37, List.forall_mem_cons.mpr ⟨ok_iload_n dX11_truth_38 rfl, List.forall_mem_cons.mpr ⟨ok_callV dX11_truth_39 rfl rfl w567 w564 w565 w6 w566 (by decide +kernel) (by decide), List.forall_mem_cons.mpr ⟨ok_aload_n dX11_truth_42 rfl, List.forall_mem_cons.mpr ⟨ok_getR dX11_truth_43 rfl in11 (by decide) rfl w341, List.forall_mem_cons.mpr ⟨ok_getR dX11_truth_46 rfl in4 (by decide) rfl w167, fun _ h => absurd h List.not_mem_nil⟩⟩⟩⟩⟩⟩⟩⟩⟩⟩⟩⟩⟩⟩⟩⟩⟩⟩⟩⟩⟩⟩⟩⟩
def kX11_truth_1 : List (Nat × zT) := [(49, a_iload 2 50), (50, a_lald 51), (51, a_l 1 52), (52, a_ll (fun x y => x &&& y) 53), (53, a_l2i 54), (54, a_iret false)]
theorem oX11_truth_1 : ∀ q ∈ kX11_truth_1, zSnd zty false RX11 cX11_truth 4 (some .int) false q := List.forall_mem_cons.mpr ⟨ok_iload_n dX11_truth_49 rfl, List.forall_mem_cons.mpr ⟨ok_lald dX11_truth_50, List.forall_mem_cons.mpr ⟨ok_lconst dX11_truth_51 (by decide), List.forall_mem_cons.mpr ⟨ok_land dX11_truth_52, List.forall_mem_cons.mpr ⟨ok_l2i dX11_truth_53, List.forall_mem_cons.mpr ⟨ok_iret (bz := false) dX11_truth_54 rfl, fun _ h => absurd h List.not_mem_nil⟩⟩⟩⟩⟩⟩
def kX11_truth : List (Nat × zT) := kX11_truth_0 ++ (kX11_truth_1)
theorem qX11_truth_0 : ∀ q ∈ kX11_truth_0, q ∈ kX11_truth := fun _ h => (List.mem_append_left _ h)
theorem tX11_truth_0 : (0, a_iload 1 1) ∈ kX11_truth := qX11_truth_0 _ (List.mem_of_getElem? (i := 0) rfl)
theorem tX11_truth_1 : (1, a_call 129 1 4 0 0) ∈ kX11_truth := qX11_truth_0 _ (List.mem_of_getElem? (i := 1) rfl)
theorem tX11_truth_4 : (4, a_if_eq 26 7) ∈ kX11_truth := qX11_truth_0 _ (List.mem_of_getElem? (i := 2) rfl)
theorem tX11_truth_7 : (7, a_iload 2 8) ∈ kX11_truth := qX11_truth_0 _ (List.mem_of_getElem? (i := 3) rfl)
theorem tX11_truth_8 : (8, a_i 19 10) ∈ kX11_truth := qX11_truth_0 _ (List.mem_of_getElem? (i := 4) rfl)
theorem tX11_truth_10 : (10, a_call 128 2 13 0 0) ∈ kX11_truth := qX11_truth_0 _ (List.mem_of_getElem? (i := 5) rfl)
theorem tX11_truth_13 : (13, a_if_eq 26 16) ∈ kX11_truth := qX11_truth_0 _ (List.mem_of_getElem? (i := 6) rfl)
theorem tX11_truth_16 : (16, a_iload 3 17) ∈ kX11_truth := qX11_truth_0 _ (List.mem_of_getElem? (i := 7) rfl)
theorem tX11_truth_17 : (17, a_i 1024 20) ∈ kX11_truth := qX11_truth_0 _ (List.mem_of_getElem? (i := 8) rfl)
theorem tX11_truth_20 : (20, a_call 128 2 23 0 0) ∈ kX11_truth := qX11_truth_0 _ (List.mem_of_getElem? (i := 9) rfl)
theorem tX11_truth_23 : (23, a_if_ne 28 26) ∈ kX11_truth := qX11_truth_0 _ (List.mem_of_getElem? (i := 10) rfl)
theorem tX11_truth_26 : (26, a_i (-1) 27) ∈ kX11_truth := qX11_truth_0 _ (List.mem_of_getElem? (i := 11) rfl)
theorem tX11_truth_27 : (27, a_iret false) ∈ kX11_truth := qX11_truth_0 _ (List.mem_of_getElem? (i := 12) rfl)
theorem tX11_truth_28 : (28, a_aload 0 29) ∈ kX11_truth := qX11_truth_0 _ (List.mem_of_getElem? (i := 13) rfl)
theorem tX11_truth_29 : (29, a_getR 11 4 32) ∈ kX11_truth := qX11_truth_0 _ (List.mem_of_getElem? (i := 14) rfl)
theorem tX11_truth_32 : (32, a_aload 0 33) ∈ kX11_truth := qX11_truth_0 _ (List.mem_of_getElem? (i := 15) rfl)
theorem tX11_truth_33 : (33, a_getR 11 1 36) ∈ kX11_truth := qX11_truth_0 _ (List.mem_of_getElem? (i := 16) rfl)
theorem tX11_truth_36 : (36, a_iload 1 37) ∈ kX11_truth := qX11_truth_0 _ (List.mem_of_getElem? (i := 17) rfl)
theorem tX11_truth_37 : (37, a_aald 38) ∈ kX11_truth := qX11_truth_0 _ (List.mem_of_getElem? (i := 18) rfl)
theorem tX11_truth_38 : (38, a_iload 3 39) ∈ kX11_truth := qX11_truth_0 _ (List.mem_of_getElem? (i := 19) rfl)
theorem tX11_truth_39 : (39, a_callV 4 33 3 42 0 0) ∈ kX11_truth := qX11_truth_0 _ (List.mem_of_getElem? (i := 20) rfl)
theorem tX11_truth_42 : (42, a_aload 0 43) ∈ kX11_truth := qX11_truth_0 _ (List.mem_of_getElem? (i := 21) rfl)
theorem tX11_truth_43 : (43, a_getR 11 4 46) ∈ kX11_truth := qX11_truth_0 _ (List.mem_of_getElem? (i := 22) rfl)
theorem tX11_truth_46 : (46, a_getR 4 1 49) ∈ kX11_truth := qX11_truth_0 _ (List.mem_of_getElem? (i := 23) rfl)
theorem qX11_truth_1 : ∀ q ∈ kX11_truth_1, q ∈ kX11_truth := fun _ h => (List.mem_append_right _ h)
theorem tX11_truth_49 : (49, a_iload 2 50) ∈ kX11_truth := qX11_truth_1 _ (List.mem_of_getElem? (i := 0) rfl)
theorem tX11_truth_50 : (50, a_lald 51) ∈ kX11_truth := qX11_truth_1 _ (List.mem_of_getElem? (i := 1) rfl)
theorem tX11_truth_51 : (51, a_l 1 52) ∈ kX11_truth := qX11_truth_1 _ (List.mem_of_getElem? (i := 2) rfl)
theorem tX11_truth_52 : (52, a_ll (fun x y => x &&& y) 53) ∈ kX11_truth := qX11_truth_1 _ (List.mem_of_getElem? (i := 3) rfl)
theorem tX11_truth_53 : (53, a_l2i 54) ∈ kX11_truth := qX11_truth_1 _ (List.mem_of_getElem? (i := 4) rfl)
theorem tX11_truth_54 : (54, a_iret false) ∈ kX11_truth := qX11_truth_1 _ (List.mem_of_getElem? (i := 5) rfl)
theorem oX11_truth : ∀ q ∈ kX11_truth, zSnd zty false RX11 cX11_truth 4 (some .int) false q := List.forall_mem_append.mpr ⟨oX11_truth_0, oX11_truth_1⟩
theorem dX11_ones_0 : decode cX11_ones 0 = .ok (.iload_n 1, 1) := by decide +kernel
theorem dX11_ones_1 : decode cX11_ones 1 = .ok (.invokestatic 103, 3) := by decide +kernel
theorem dX11_ones_4 : decode cX11_ones 4 = .ok (.ifCond .eq 12, 3) := by decide +kernel
theorem dX11_ones_7 : decode cX11_ones 7 = .ok (.iload_n 2, 1) := by decide +kernel
theorem dX11_ones_8 : decode cX11_ones 8 = .ok (.bipush 19, 2) := by decide +kernel
theorem dX11_ones_10 : decode cX11_ones 10 = .ok (.invokestatic 168, 3) := by decide +kernel
theorem dX11_ones_13 : decode cX11_ones 13 = .ok (.ifCond .ne 5, 3) := by decide +kernel
theorem dX11_ones_16 : decode cX11_ones 16 = .ok (.iconst (-1), 1) := by decide +kernel
theorem dX11_ones_17 : decode cX11_ones 17 = .ok (.ireturn, 1) := by decide +kernel
theorem dX11_ones_18 : decode cX11_ones 18 = .ok (.iconst 0, 1) := by decide +kernel
theorem dX11_ones_19 : decode cX11_ones 19 = .ok (.istore_n 3, 1) := by decide +kernel
theorem dX11_ones_20 : decode cX11_ones 20 = .ok (.iconst 0, 1) := by decide +kernel
theorem dX11_ones_21 : decode cX11_ones 21 = .ok (.istore 4, 2) := by decide +kernel
theorem dX11_ones_23 : decode cX11_ones 23 = .ok (.iload 4, 2) := by decide +kernel
theorem dX11_ones_25 : decode cX11_ones 25 = .ok (.bipush 16, 2) := by decide +kernel
theorem dX11_ones_27 : decode cX11_ones 27 = .ok (.if_icmp .ge 39, 3) := by decide +kernel
theorem dX11_ones_30 : decode cX11_ones 30 = .ok (.aload_n 0, 1) := by decide +kernel
theorem dX11_ones_31 : decode cX11_ones 31 = .ok (.getfield 40, 3) := by decide +kernel
theorem dX11_ones_34 : decode cX11_ones 34 = .ok (.aload_n 0, 1) := by decide +kernel
theorem dX11_ones_35 : decode cX11_ones 35 = .ok (.getfield 19, 3) := by decide +kernel
theorem dX11_ones_38 : decode cX11_ones 38 = .ok (.iload_n 1, 1) := by decide +kernel
theorem dX11_ones_39 : decode cX11_ones 39 = .ok (.aaload, 1) := by decide +kernel
theorem dX11_ones_40 : decode cX11_ones 40 = .ok (.iload 4, 2) := by decide +kernel
theorem dX11_ones_42 : decode cX11_ones 42 = .ok (.invokevirtual 190, 3) := by decide +kernel
theorem dX11_ones_45 : decode cX11_ones 45 = .ok (.iload_n 3, 1) := by decide +kernel
theorem dX11_ones_46 : decode cX11_ones 46 = .ok (.aload_n 0, 1) := by decide +kernel
theorem dX11_ones_47 : decode cX11_ones 47 = .ok (.getfield 40, 3) := by decide +kernel
theorem dX11_ones_50 : decode cX11_ones 50 = .ok (.getfield 186, 3) := by decide +kernel
theorem dX11_ones_53 : decode cX11_ones 53 = .ok (.iload_n 2, 1) := by decide +kernel
theorem dX11_ones_54 : decode cX11_ones 54 = .ok (.laload, 1) := by decide +kernel
theorem dX11_ones_55 : decode cX11_ones 55 = .ok (.invokestatic 193, 3) := by decide +kernel
theorem dX11_ones_58 : decode cX11_ones 58 = .ok (.iadd, 1) := by decide +kernel
theorem dX11_ones_59 : decode cX11_ones 59 = .ok (.istore_n 3, 1) := by decide +kernel
theorem dX11_ones_60 : decode cX11_ones 60 = .ok (.iinc 4 1, 3) := by decide +kernel
theorem dX11_ones_63 : decode cX11_ones 63 = .ok (.goto (-40), 3) := by decide +kernel
theorem dX11_ones_66 : decode cX11_ones 66 = .ok (.iload_n 3, 1) := by decide +kernel
theorem dX11_ones_67 : decode cX11_ones 67 = .ok (.ireturn, 1) := by decide +kernel
def kX11_ones_0 : List (Nat × zT) := [(0, a_iload 1 1), (1, a_call 129 1 4 0 0), (4, a_if_eq 16 7), (7, a_iload 2 8), (8, a_i 19 10), (10, a_call 128 2 13 0 0), (13, a_if_ne 18 16), (16, a_i (-1) 17), (17, a_iret false), (18, a_i 0 19), (19, a_istore 3 20), (20, a_i 0 21), (21, a_istore 4 23), (23, a_iload 4 25), (25, a_i 16 27), (27, a_ic_ge 66 30), (30, a_aload 0 31), (31, a_getR 11 4 34), (34, a_aload 0 35), (35, a_getR 11 1 38), (38, a_iload 1 39), (39, a_aald 40), (40, a_iload 4 42), (42, a_callV 4 32 3 45 0 0)]
theorem oX11_ones_0 : ∀ q ∈ kX11_ones_0, zSnd zty false RX11 cX11_ones 5 (some .int) false q := List.forall_mem_cons.mpr ⟨ok_iload_n dX11_ones_0 rfl, List.forall_mem_cons.mpr ⟨ok_callS dX11_ones_1 rfl w392 w390 w391 w1 (by decide +kernel) (by decide), List.forall_mem_cons.mpr ⟨ok_if_eq dX11_ones_4 (by decide), List.forall_mem_cons.mpr ⟨ok_iload_n dX11_ones_7 rfl, List.forall_mem_cons.mpr ⟨ok_bipush dX11_ones_8 (by decide), List.forall_mem_cons.mpr ⟨ok_callS dX11_ones_10 rfl w443 w525 w442 w1 (by decide +kernel) (by decide), List.forall_mem_cons.mpr ⟨ok_if_ne dX11_ones_13 (by decide), List.forall_mem_cons.mpr ⟨ok_iconst dX11_ones_16 (by decide), List.forall_mem_cons.mpr ⟨ok_iret (bz := false) dX11_ones_17 rfl, List.forall_mem_cons.mpr ⟨ok_iconst dX11_ones_18 (by decide), List.forall_mem_cons.mpr ⟨ok_istore_n dX11_ones_19 rfl (by decide), List.forall_mem_cons.mpr ⟨ok_iconst dX11_ones_20 (by decide), List.forall_mem_cons.mpr ⟨ok_istore dX11_ones_21 (by decide), List.forall_mem_cons.mpr ⟨ok_iload dX11_ones_23, List.forall_mem_cons.mpr ⟨ok_bipush dX11_ones_25 (by decide), List.forall_mem_cons.mpr ⟨ok_ic_ge dX11_ones_27 (by decide), List.forall_mem_cons.mpr ⟨ok_aload_n dX11_ones_30 rfl, List.forall_mem_cons.mpr ⟨ok_getR dX11_ones_31 rfl in11 (by decide) rfl w341, List.forall_mem_cons.mpr ⟨ok_aload_n dX11_ones_34 rfl, List.forall_mem_cons.mpr ⟨ok_getR dX11_ones_35 rfl in11 (by decide) rfl w338, List.forall_mem_cons.mpr ⟨ok_iload_n dX11_ones_38 rfl, List.forall_mem_cons.mpr ⟨ok_aald dX11_ones_39, List.forall_mem_cons.mpr ⟨ok_iload dX11_ones_40, List.forall_mem_cons.mpr ⟨ok_callV dX11_ones_42 rfl rfl w597 w594 w595 w6 w596 (by decide +kernel) (by decide), fun _ h => absurd h List.not_mem_nil⟩⟩⟩⟩⟩⟩⟩⟩⟩⟩⟩⟩⟩⟩⟩⟩⟩⟩⟩⟩⟩⟩⟩⟩
def kX11_ones_1 : List (Nat × zT) := [(45, a_iload 3 46), (46, a_aload 0 47), (47, a_getR 11 4 50), (50, a_getR 4 1 53), (53, a_iload 2 54), (54, a_lald 55), (55, a_call 219 1 58 0 0), (58, a_ii (fun x y => x + y) 59), (59, a_istore 3 60), (60, a_iinc 4 1 63), (63, a_goto 23), (66, a_iload 3 67), (67, a_iret false)]
theorem oX11_ones_1 : ∀ q ∈ kX11_ones_1, zSnd zty false RX11 cX11_ones 5 (some .int) false q := List.forall_mem_cons.mpr ⟨ok_iload_n dX11_ones_45 rfl, List.forall_mem_cons.mpr ⟨ok_aload_n dX11_ones_46 rfl, List.forall_mem_cons.mpr ⟨ok_getR dX11_ones_47 rfl in11 (by decide) rfl w341, List.forall_mem_cons.mpr ⟨ok_getR dX11_ones_50 rfl in4 (by decide) rfl w167, List.forall_mem_cons.mpr ⟨ok_iload_n dX11_ones_53 rfl, List.forall_mem_cons.mpr ⟨ok_lald dX11_ones_54, List.forall_mem_cons.mpr ⟨ok_callS dX11_ones_55 rfl w602 w600 w601 w17 (by decide +kernel) (by decide), List.forall_mem_cons.mpr ⟨ok_iadd dX11_ones_58, List.forall_mem_cons.mpr ⟨ok_istore_n dX11_ones_59 rfl (by decide), List.forall_mem_cons.mpr ⟨ok_iinc dX11_ones_60 (by decide) (by decide), List.forall_mem_cons.mpr ⟨ok_goto dX11_ones_63 (by decide), List.forall_mem_cons.mpr ⟨ok_iload_n dX11_ones_66 rfl, List.forall_mem_cons.mpr ⟨ok_iret (bz := false) dX11_ones_67 rfl, fun _ h => absurd h List.not_mem_nil⟩⟩⟩⟩⟩⟩⟩⟩⟩⟩⟩⟩⟩
def kX11_ones : List (Nat × zT) := kX11_ones_0 ++ (kX11_ones_1)
theorem qX11_ones_0 : ∀ q ∈ kX11_ones_0, q ∈ kX11_ones := fun _ h => (List.mem_append_left _ h)
theorem tX11_ones_0 : (0, a_iload 1 1) ∈ kX11_ones := qX11_ones_0 _ (List.mem_of_getElem? (i := 0) rfl)
theorem tX11_ones_1 : (1, a_call 129 1 4 0 0) ∈ kX11_ones := qX11_ones_0 _ (List.mem_of_getElem? (i := 1) rfl)
theorem tX11_ones_4 : (4, a_if_eq 16 7) ∈ kX11_ones := qX11_ones_0 _ (List.mem_of_getElem? (i := 2) rfl)
theorem tX11_ones_7 : (7, a_iload 2 8) ∈ kX11_ones := qX11_ones_0 _ (List.mem_of_getElem? (i := 3) rfl)
theorem tX11_ones_8 : (8, a_i 19 10) ∈ kX11_ones := qX11_ones_0 _ (List.mem_of_getElem? (i := 4) rfl)
theorem tX11_ones_10 : (10, a_call 128 2 13 0 0) ∈ kX11_ones := qX11_ones_0 _ (List.mem_of_getElem? (i := 5) rfl)
theorem tX11_ones_13 : (13, a_if_ne 18 16) ∈ kX11_ones := qX11_ones_0 _ (List.mem_of_getElem? (i := 6) rfl)
theorem tX11_ones_16 : (16, a_i (-1) 17) ∈ kX11_ones := qX11_ones_0 _ (List.mem_of_getElem? (i := 7) rfl)
theorem tX11_ones_17 : (17, a_iret false) ∈ kX11_ones := qX11_ones_0 _ (List.mem_of_getElem? (i := 8) rfl)
theorem tX11_ones_18 : (18, a_i 0 19) ∈ kX11_ones := qX11_ones_0 _ (List.mem_of_getElem? (i := 9) rfl)
theorem tX11_ones_19 : (19, a_istore 3 20) ∈ kX11_ones := qX11_ones_0 _ (List.mem_of_getElem? (i := 10) rfl)
theorem tX11_ones_20 : (20, a_i 0 21) ∈ kX11_ones := qX11_ones_0 _ (List.mem_of_getElem? (i := 11) rfl)
theorem tX11_ones_21 : (21, a_istore 4 23) ∈ kX11_ones := qX11_ones_0 _ (List.mem_of_getElem? (i := 12) rfl)
theorem tX11_ones_23 : (23, a_iload 4 25) ∈ kX11_ones := qX11_ones_0 _ (List.mem_of_getElem? (i := 13) rfl)
theorem tX11_ones_25 : (25, a_i 16 27) ∈ kX11_ones := qX11_ones_0 _ (List.mem_of_getElem? (i := 14) rfl)
theorem tX11_ones_27 : (27, a_ic_ge 66 30) ∈ kX11_ones := qX11_ones_0 _ (List.mem_of_getElem? (i := 15) rfl)
theorem tX11_ones_30 : (30, a_aload 0 31) ∈ kX11_ones := qX11_ones_0 _ (List.mem_of_getElem? (i := 16) rfl)
theorem tX11_ones_31 : (31, a_getR 11 4 34) ∈ kX11_ones := qX11_ones_0 _ (List.mem_of_getElem? (i := 17) rfl)
theorem tX11_ones_34 : (34, a_aload 0 35) ∈ kX11_ones := qX11_ones_0 _ (List.mem_of_getElem? (i := 18) rfl)
theorem tX11_ones_35 : (35, a_getR 11 1 38) ∈ kX11_ones := qX11_ones_0 _ (List.mem_of_getElem? (i := 19) rfl)
theorem tX11_ones_38 : (38, a_iload 1 39) ∈ kX11_ones := qX11_ones_0 _ (List.mem_of_getElem? (i := 20) rfl)
theorem tX11_ones_39 : (39, a_aald 40) ∈ kX11_ones := qX11_ones_0 _ (List.mem_of_getElem? (i := 21) rfl)
theorem tX11_ones_40 : (40, a_iload 4 42) ∈ kX11_ones := qX11_ones_0 _ (List.mem_of_getElem? (i := 22) rfl)
theorem tX11_ones_42 : (42, a_callV 4 32 3 45 0 0) ∈ kX11_ones := qX11_ones_0 _ (List.mem_of_getElem? (i := 23) rfl)
theorem qX11_ones_1 : ∀ q ∈ kX11_ones_1, q ∈ kX11_ones := fun _ h => (List.mem_append_right _ h)
theorem tX11_ones_45 : (45, a_iload 3 46) ∈ kX11_ones := qX11_ones_1 _ (List.mem_of_getElem? (i := 0) rfl)
theorem tX11_ones_46 : (46, a_aload 0 47) ∈ kX11_ones := qX11_ones_1 _ (List.mem_of_getElem? (i := 1) rfl)
theorem tX11_ones_47 : (47, a_getR 11 4 50) ∈ kX11_ones := qX11_ones_1 _ (List.mem_of_getElem? (i := 2) rfl)
theorem tX11_ones_50 : (50, a_getR 4 1 53) ∈ kX11_ones := qX11_ones_1 _ (List.mem_of_getElem? (i := 3) rfl)
theorem tX11_ones_53 : (53, a_iload 2 54) ∈ kX11_ones := qX11_ones_1 _ (List.mem_of_getElem? (i := 4) rfl)
theorem tX11_ones_54 : (54, a_lald 55) ∈ kX11_ones := qX11_ones_1 _ (List.mem_of_getElem? (i := 5) rfl)
theorem tX11_ones_55 : (55, a_call 219 1 58 0 0) ∈ kX11_ones := qX11_ones_1 _ (List.mem_of_getElem? (i := 6) rfl)
theorem tX11_ones_58 : (58, a_ii (fun x y => x + y) 59) ∈ kX11_ones := qX11_ones_1 _ (List.mem_of_getElem? (i := 7) rfl)
theorem tX11_ones_59 : (59, a_istore 3 60) ∈ kX11_ones := qX11_ones_1 _ (List.mem_of_getElem? (i := 8) rfl)
theorem tX11_ones_60 : (60, a_iinc 4 1 63) ∈ kX11_ones := qX11_ones_1 _ (List.mem_of_getElem? (i := 9) rfl)
theorem tX11_ones_63 : (63, a_goto 23) ∈ kX11_ones := qX11_ones_1 _ (List.mem_of_getElem? (i := 10) rfl)
theorem tX11_ones_66 : (66, a_iload 3 67) ∈ kX11_ones := qX11_ones_1 _ (List.mem_of_getElem? (i := 11) rfl)
theorem tX11_ones_67 : (67, a_iret false) ∈ kX11_ones := qX11_ones_1 _ (List.mem_of_getElem? (i := 12) rfl)
theorem oX11_ones : ∀ q ∈ kX11_ones, zSnd zty false RX11 cX11_ones 5 (some .int) false q := List.forall_mem_append.mpr ⟨oX11_ones_0, oX11_ones_1⟩
theorem dX11_start_0 : decode cX11_start 0 = .ok (.iload_n 1, 1) := by decide +kernel
theorem dX11_start_1 : decode cX11_start 1 = .ok (.bipush 16, 2) := by decide +kernel
theorem dX11_start_3 : decode cX11_start 3 = .ok (.invokestatic 168, 3) := by decide +kernel
theorem dX11_start_6 : decode cX11_start 6 = .ok (.ifCond .ne 5, 3) := by decide +kernel
theorem dX11_start_9 : decode cX11_start 9 = .ok (.iconst (-1), 1) := by decide +kernel
theorem dX11_start_10 : decode cX11_start 10 = .ok (.ireturn, 1) := by decide +kernel
theorem dX11_start_11 : decode cX11_start 11 = .ok (.aload_n 0, 1) := by decide +kernel
theorem dX11_start_12 : decode cX11_start 12 = .ok (.getfield 96, 3) := by decide +kernel
theorem dX11_start_15 : decode cX11_start 15 = .ok (.istore_n 2, 1) := by decide +kernel
theorem dX11_start_16 : decode cX11_start 16 = .ok (.aload_n 0, 1) := by decide +kernel
theorem dX11_start_17 : decode cX11_start 17 = .ok (.iload_n 1, 1) := by decide +kernel
theorem dX11_start_18 : decode cX11_start 18 = .ok (.putfield 96, 3) := by decide +kernel
theorem dX11_start_21 : decode cX11_start 21 = .ok (.iload_n 2, 1) := by decide +kernel
theorem dX11_start_22 : decode cX11_start 22 = .ok (.ireturn, 1) := by decide +kernel
def kX11_start_0 : List (Nat × zT) := [(0, a_iload 1 1), (1, a_i 16 3), (3, a_call 128 2 6 0 0), (6, a_if_ne 11 9), (9, a_i (-1) 10), (10, a_iret false), (11, a_aload 0 12), (12, a_getI 11 14 15), (15, a_istore 2 16), (16, a_aload 0 17), (17, a_iload 1 18), (18, a_putI 11 14 21 false), (21, a_iload 2 22), (22, a_iret false)]
theorem oX11_start_0 : ∀ q ∈ kX11_start_0, zSnd zty false RX11 cX11_start 3 (some .int) false q := List.forall_mem_cons.mpr ⟨ok_iload_n dX11_start_0 rfl, List.forall_mem_cons.mpr ⟨ok_bipush dX11_start_1 (by decide), List.forall_mem_cons.mpr ⟨ok_callS dX11_start_3 rfl w443 w525 w442 w1 (by decide +kernel) (by decide), List.forall_mem_cons.mpr ⟨ok_if_ne dX11_start_6 (by decide), List.forall_mem_cons.mpr ⟨ok_iconst dX11_start_9 (by decide), List.forall_mem_cons.mpr ⟨ok_iret (bz := false) dX11_start_10 rfl, List.forall_mem_cons.mpr ⟨ok_aload_n dX11_start_11 rfl, List.forall_mem_cons.mpr ⟨ok_getI dX11_start_12 rfl in11 (by decide) rfl w351, List.forall_mem_cons.mpr ⟨ok_istore_n dX11_start_15 rfl (by decide), List.forall_mem_cons.mpr ⟨ok_aload_n dX11_start_16 rfl, List.forall_mem_cons.mpr ⟨ok_iload_n dX11_start_17 rfl, List.forall_mem_cons.mpr ⟨ok_putI (bz := false) dX11_start_18 rfl in11 tyX11 tyX11_ok nmX11 (by decide) rfl w351 rfl rfl, List.forall_mem_cons.mpr ⟨ok_iload_n dX11_start_21 rfl, List.forall_mem_cons.mpr ⟨ok_iret (bz := false) dX11_start_22 rfl, fun _ h => absurd h List.not_mem_nil⟩⟩⟩⟩⟩⟩⟩⟩⟩⟩⟩⟩⟩⟩
def kX11_start : List (Nat × zT) := kX11_start_0
theorem qX11_start_0 : ∀ q ∈ kX11_start_0, q ∈ kX11_start := fun _ h => h
theorem tX11_start_0 : (0, a_iload 1 1) ∈ kX11_start := qX11_start_0 _ (List.mem_of_getElem? (i := 0) rfl)
theorem tX11_start_1 : (1, a_i 16 3) ∈ kX11_start := qX11_start_0 _ (List.mem_of_getElem? (i := 1) rfl)
theorem tX11_start_3 : (3, a_call 128 2 6 0 0) ∈ kX11_start := qX11_start_0 _ (List.mem_of_getElem? (i := 2) rfl)
theorem tX11_start_6 : (6, a_if_ne 11 9) ∈ kX11_start := qX11_start_0 _ (List.mem_of_getElem? (i := 3) rfl)
theorem tX11_start_9 : (9, a_i (-1) 10) ∈ kX11_start := qX11_start_0 _ (List.mem_of_getElem? (i := 4) rfl)
theorem tX11_start_10 : (10, a_iret false) ∈ kX11_start := qX11_start_0 _ (List.mem_of_getElem? (i := 5) rfl)
theorem tX11_start_11 : (11, a_aload 0 12) ∈ kX11_start := qX11_start_0 _ (List.mem_of_getElem? (i := 6) rfl)
theorem tX11_start_12 : (12, a_getI 11 14 15) ∈ kX11_start := qX11_start_0 _ (List.mem_of_getElem? (i := 7) rfl)
theorem tX11_start_15 : (15, a_istore 2 16) ∈ kX11_start := qX11_start_0 _ (List.mem_of_getElem? (i := 8) rfl)
theorem tX11_start_16 : (16, a_aload 0 17) ∈ kX11_start := qX11_start_0 _ (List.mem_of_getElem? (i := 9) rfl)
theorem tX11_start_17 : (17, a_iload 1 18) ∈ kX11_start := qX11_start_0 _ (List.mem_of_getElem? (i := 10) rfl)
theorem tX11_start_18 : (18, a_putI 11 14 21 false) ∈ kX11_start := qX11_start_0 _ (List.mem_of_getElem? (i := 11) rfl)
theorem tX11_start_21 : (21, a_iload 2 22) ∈ kX11_start := qX11_start_0 _ (List.mem_of_getElem? (i := 12) rfl)
theorem tX11_start_22 : (22, a_iret false) ∈ kX11_start := qX11_start_0 _ (List.mem_of_getElem? (i := 13) rfl)
theorem oX11_start : ∀ q ∈ kX11_start, zSnd zty false RX11 cX11_start 3 (some .int) false q := oX11_start_0
theorem dX11_states_0 : decode cX11_states 0 = .ok (.aload_n 0, 1) := by decide +kernel
theorem dX11_states_1 : decode cX11_states 1 = .ok (.getfield 40, 3) := by decide +kernel
theorem dX11_states_4 : decode cX11_states 4 = .ok (.aload_n 0, 1) := by decide +kernel
theorem dX11_states_5 : decode cX11_states 5 = .ok (.getfield 19, 3) := by decide +kernel
theorem dX11_states_8 : decode cX11_states 8 = .ok (.iconst 0, 1) := by decide +kernel
theorem dX11_states_9 : decode cX11_states 9 = .ok (.aaload, 1) := by decide +kernel
theorem dX11_states_10 : decode cX11_states 10 = .ok (.aload_n 0, 1) := by decide +kernel
theorem dX11_states_11 : decode cX11_states 11 = .ok (.getfield 96, 3) := by decide +kernel
theorem dX11_states_14 : decode cX11_states 14 = .ok (.invokevirtual 199, 3) := by decide +kernel
theorem dX11_states_17 : decode cX11_states 17 = .ok (.ireturn, 1) := by decide +kernel
def kX11_states_0 : List (Nat × zT) := [(0, a_aload 0 1), (1, a_getR 11 4 4), (4, a_aload 0 5), (5, a_getR 11 1 8), (8, a_i 0 9), (9, a_aald 10), (10, a_aload 0 11), (11, a_getI 11 14 14), (14, a_callV 4 40 3 17 0 0), (17, a_iret false)]
theorem oX11_states_0 : ∀ q ∈ kX11_states_0, zSnd zty false RX11 cX11_states 1 (some .int) false q := List.forall_mem_cons.mpr ⟨ok_aload_n dX11_states_0 rfl, List.forall_mem_cons.mpr ⟨ok_getR dX11_states_1 rfl in11 (by decide) rfl w341, List.forall_mem_cons.mpr ⟨ok_aload_n dX11_states_4 rfl, List.forall_mem_cons.mpr ⟨ok_getR dX11_states_5 rfl in11 (by decide) rfl w338, List.forall_mem_cons.mpr ⟨ok_iconst dX11_states_8 (by decide), List.forall_mem_cons.mpr ⟨ok_aald dX11_states_9, List.forall_mem_cons.mpr ⟨ok_aload_n dX11_states_10 rfl, List.forall_mem_cons.mpr ⟨ok_getI dX11_states_11 rfl in11 (by decide) rfl w351, List.forall_mem_cons.mpr ⟨ok_callV dX11_states_14 rfl rfl w617 w614 w615 w6 w616 (by decide +kernel) (by decide), List.forall_mem_cons.mpr ⟨ok_iret (bz := false) dX11_states_17 rfl, fun _ h => absurd h List.not_mem_nil⟩⟩⟩⟩⟩⟩⟩⟩⟩⟩
def kX11_states : List (Nat × zT) := kX11_states_0
theorem qX11_states_0 : ∀ q ∈ kX11_states_0, q ∈ kX11_states := fun _ h => h
theorem tX11_states_0 : (0, a_aload 0 1) ∈ kX11_states := qX11_states_0 _ (List.mem_of_getElem? (i := 0) rfl)
theorem tX11_states_1 : (1, a_getR 11 4 4) ∈ kX11_states := qX11_states_0 _ (List.mem_of_getElem? (i := 1) rfl)
theorem tX11_states_4 : (4, a_aload 0 5) ∈ kX11_states := qX11_states_0 _ (List.mem_of_getElem? (i := 2) rfl)
theorem tX11_states_5 : (5, a_getR 11 1 8) ∈ kX11_states := qX11_states_0 _ (List.mem_of_getElem? (i := 3) rfl)
theorem tX11_states_8 : (8, a_i 0 9) ∈ kX11_states := qX11_states_0 _ (List.mem_of_getElem? (i := 4) rfl)
theorem tX11_states_9 : (9, a_aald 10) ∈ kX11_states := qX11_states_0 _ (List.mem_of_getElem? (i := 5) rfl)
theorem tX11_states_10 : (10, a_aload 0 11) ∈ kX11_states := qX11_states_0 _ (List.mem_of_getElem? (i := 6) rfl)
theorem tX11_states_11 : (11, a_getI 11 14 14) ∈ kX11_states := qX11_states_0 _ (List.mem_of_getElem? (i := 7) rfl)
theorem tX11_states_14 : (14, a_callV 4 40 3 17 0 0) ∈ kX11_states := qX11_states_0 _ (List.mem_of_getElem? (i := 8) rfl)
theorem tX11_states_17 : (17, a_iret false) ∈ kX11_states := qX11_states_0 _ (List.mem_of_getElem? (i := 9) rfl)
theorem oX11_states : ∀ q ∈ kX11_states, zSnd zty false RX11 cX11_states 1 (some .int) false q := oX11_states_0
theorem dX11_differ_0 : decode cX11_differ 0 = .ok (.iload_n 1, 1) := by decide +kernel
theorem dX11_differ_1 : decode cX11_differ 1 = .ok (.invokestatic 143, 3) := by decide +kernel
theorem dX11_differ_4 : decode cX11_differ 4 = .ok (.ifCond .ne 5, 3) := by decide +kernel
theorem dX11_differ_7 : decode cX11_differ 7 = .ok (.iconst (-1), 1) := by decide +kernel
theorem dX11_differ_8 : decode cX11_differ 8 = .ok (.ireturn, 1) := by decide +kernel
theorem dX11_differ_9 : decode cX11_differ 9 = .ok (.aload_n 0, 1) := by decide +kernel
theorem dX11_differ_10 : decode cX11_differ 10 = .ok (.getfield 40, 3) := by decide +kernel
theorem dX11_differ_13 : decode cX11_differ 13 = .ok (.aload_n 0, 1) := by decide +kernel
theorem dX11_differ_14 : decode cX11_differ 14 = .ok (.getfield 19, 3) := by decide +kernel
theorem dX11_differ_17 : decode cX11_differ 17 = .ok (.iconst 0, 1) := by decide +kernel
theorem dX11_differ_18 : decode cX11_differ 18 = .ok (.aaload, 1) := by decide +kernel
theorem dX11_differ_19 : decode cX11_differ 19 = .ok (.aload_n 0, 1) := by decide +kernel
theorem dX11_differ_20 : decode cX11_differ 20 = .ok (.getfield 96, 3) := by decide +kernel
theorem dX11_differ_23 : decode cX11_differ 23 = .ok (.invokevirtual 199, 3) := by decide +kernel
theorem dX11_differ_26 : decode cX11_differ 26 = .ok (.istore_n 2, 1) := by decide +kernel
theorem dX11_differ_27 : decode cX11_differ 27 = .ok (.iconst 0, 1) := by decide +kernel
theorem dX11_differ_28 : decode cX11_differ 28 = .ok (.istore_n 3, 1) := by decide +kernel
theorem dX11_differ_29 : decode cX11_differ 29 = .ok (.iload_n 3, 1) := by decide +kernel
theorem dX11_differ_30 : decode cX11_differ 30 = .ok (.bipush 16, 2) := by decide +kernel
theorem dX11_differ_32 : decode cX11_differ 32 = .ok (.if_icmp .ge 75, 3) := by decide +kernel
theorem dX11_differ_35 : decode cX11_differ 35 = .ok (.iload_n 2, 1) := by decide +kernel
theorem dX11_differ_36 : decode cX11_differ 36 = .ok (.iload_n 3, 1) := by decide +kernel
theorem dX11_differ_37 : decode cX11_differ 37 = .ok (.invokestatic 203, 3) := by decide +kernel
theorem dX11_differ_40 : decode cX11_differ 40 = .ok (.ifCond .eq 61, 3) := by decide +kernel
theorem dX11_differ_43 : decode cX11_differ 43 = .ok (.aload_n 0, 1) := by decide +kernel
theorem dX11_differ_44 : decode cX11_differ 44 = .ok (.getfield 40, 3) := by decide +kernel
theorem dX11_differ_47 : decode cX11_differ 47 = .ok (.aload_n 0, 1) := by decide +kernel
theorem dX11_differ_48 : decode cX11_differ 48 = .ok (.getfield 19, 3) := by decide +kernel
theorem dX11_differ_51 : decode cX11_differ 51 = .ok (.iconst 0, 1) := by decide +kernel
theorem dX11_differ_52 : decode cX11_differ 52 = .ok (.aaload, 1) := by decide +kernel
theorem dX11_differ_53 : decode cX11_differ 53 = .ok (.iload_n 3, 1) := by decide +kernel
theorem dX11_differ_54 : decode cX11_differ 54 = .ok (.invokevirtual 190, 3) := by decide +kernel
theorem dX11_differ_57 : decode cX11_differ 57 = .ok (.aload_n 0, 1) := by decide +kernel
theorem dX11_differ_58 : decode cX11_differ 58 = .ok (.getfield 44, 3) := by decide +kernel
theorem dX11_differ_61 : decode cX11_differ 61 = .ok (.aload_n 0, 1) := by decide +kernel
theorem dX11_differ_62 : decode cX11_differ 62 = .ok (.getfield 19, 3) := by decide +kernel
theorem dX11_differ_65 : decode cX11_differ 65 = .ok (.iconst 1, 1) := by decide +kernel
theorem dX11_differ_66 : decode cX11_differ 66 = .ok (.aaload, 1) := by decide +kernel
theorem dX11_differ_67 : decode cX11_differ 67 = .ok (.iload_n 3, 1) := by decide +kernel
theorem dX11_differ_68 : decode cX11_differ 68 = .ok (.invokevirtual 190, 3) := by decide +kernel
theorem dX11_differ_71 : decode cX11_differ 71 = .ok (.aload_n 0, 1) := by decide +kernel
theorem dX11_differ_72 : decode cX11_differ 72 = .ok (.getfield 40, 3) := by decide +kernel
theorem dX11_differ_75 : decode cX11_differ 75 = .ok (.aload_n 0, 1) := by decide +kernel
theorem dX11_differ_76 : decode cX11_differ 76 = .ok (.getfield 44, 3) := by decide +kernel
theorem dX11_differ_79 : decode cX11_differ 79 = .ok (.iconst 1, 1) := by decide +kernel
theorem dX11_differ_80 : decode cX11_differ 80 = .ok (.iload_n 1, 1) := by decide +kernel
theorem dX11_differ_81 : decode cX11_differ 81 = .ok (.ishl, 1) := by decide +kernel
theorem dX11_differ_82 : decode cX11_differ 82 = .ok (.invokevirtual 206, 3) := by decide +kernel
theorem dX11_differ_85 : decode cX11_differ 85 = .ok (.lstore 4, 2) := by decide +kernel
theorem dX11_differ_87 : decode cX11_differ 87 = .ok (.lload 4, 2) := by decide +kernel
theorem dX11_differ_89 : decode cX11_differ 89 = .ok (.lconst 0, 1) := by decide +kernel
theorem dX11_differ_90 : decode cX11_differ 90 = .ok (.lcmp, 1) := by decide +kernel
theorem dX11_differ_91 : decode cX11_differ 91 = .ok (.ifCond .eq 10, 3) := by decide +kernel
theorem dX11_differ_94 : decode cX11_differ 94 = .ok (.iload_n 3, 1) := by decide +kernel
theorem dX11_differ_95 : decode cX11_differ 95 = .ok (.lload 4, 2) := by decide +kernel
theorem dX11_differ_97 : decode cX11_differ 97 = .ok (.invokestatic 210, 3) := by decide +kernel
theorem dX11_differ_100 : decode cX11_differ 100 = .ok (.ireturn, 1) := by decide +kernel
theorem dX11_differ_101 : decode cX11_differ 101 = .ok (.iinc 3 1, 3) := by decide +kernel
theorem dX11_differ_104 : decode cX11_differ 104 = .ok (.goto (-75), 3) := by decide +kernel
theorem dX11_differ_107 : decode cX11_differ 107 = .ok (.bipush (-4), 2) := by decide +kernel
theorem dX11_differ_109 : decode cX11_differ 109 = .ok (.ireturn, 1) := by decide +kernel
def kX11_differ_0 : List (Nat × zT) := [(0, a_iload 1 1), (1, a_call 130 1 4 0 0), (4, a_if_ne 9 7), (7, a_i (-1) 8), (8, a_iret false), (9, a_aload 0 10), (10, a_getR 11 4 13), (13, a_aload 0 14), (14, a_getR 11 1 17), (17, a_i 0 18), (18, a_aald 19), (19, a_aload 0 20), (20, a_getI 11 14 23), (23, a_callV 4 40 3 26 0 0), (26, a_istore 2 27), (27, a_i 0 28), (28, a_istore 3 29), (29, a_iload 3 30), (30, a_i 16 32), (32, a_ic_ge 107 35), (35, a_iload 2 36), (36, a_iload 3 37), (37, a_call 132 2 40 0 0), (40, a_if_eq 101 43)]
theorem oX11_differ_0 : ∀ q ∈ kX11_differ_0, zSnd zty false RX11 cX11_differ 6 (some .int) false q := List.forall_mem_cons.mpr ⟨ok_iload_n dX11_differ_0 rfl, List.forall_mem_cons.mpr ⟨ok_callS dX11_differ_1 rfl w426 w511 w425 w1 (by decide +kernel) (by decide), List.forall_mem_cons.mpr ⟨ok_if_ne dX11_differ_4 (by decide), List.forall_mem_cons.mpr ⟨ok_iconst dX11_differ_7 (by decide), List.forall_mem_cons.mpr ⟨ok_iret (bz := false) dX11_differ_8 rfl, List.forall_mem_cons.mpr ⟨ok_aload_n dX11_differ_9 rfl, List.forall_mem_cons.mpr ⟨ok_getR dX11_differ_10 rfl in11 (by decide) rfl w341, List.forall_mem_cons.mpr ⟨ok_aload_n dX11_differ_13 rfl, List.forall_mem_cons.mpr ⟨ok_getR dX11_differ_14 rfl in11 (by decide) rfl w338, List.forall_mem_cons.mpr ⟨ok_iconst dX11_differ_17 (by decide), List.forall_mem_cons.mpr ⟨ok_aald dX11_differ_18, List.forall_mem_cons.mpr ⟨ok_aload_n dX11_differ_19 rfl, List.forall_mem_cons.mpr ⟨ok_getI dX11_differ_20 rfl in11 (by decide) rfl w351, List.forall_mem_cons.mpr ⟨ok_callV dX11_differ_23 rfl rfl w617 w614 w615 w6 w616 (by decide +kernel) (by decide), List.forall_mem_cons.mpr ⟨ok_istore_n dX11_differ_26 rfl (by decide), List.forall_mem_cons.mpr ⟨ok_iconst dX11_differ_27 (by decide), List.forall_mem_cons.mpr ⟨ok_istore_n dX11_differ_28 rfl (by decide), List.forall_mem_cons.mpr ⟨ok_iload_n dX11_differ_29 rfl, List.forall_mem_cons.mpr ⟨ok_bipush dX11_differ_30 (by decide), List.forall_mem_cons.mpr ⟨ok_ic_ge dX11_differ_32 (by decide), List.forall_mem_cons.mpr ⟨ok_iload_n dX11_differ_35 rfl, List.forall_mem_cons.mpr ⟨ok_iload_n dX11_differ_36 rfl, List.forall_mem_cons.mpr ⟨ok_callS dX11_differ_37 rfl w433 w628 w432 w1 (by decide +kernel) (by decide), List.forall_mem_cons.mpr ⟨ok_if_eq dX11_differ_40 (by decide), fun _ h => absurd h List.not_mem_nil⟩⟩⟩⟩⟩⟩⟩⟩⟩⟩⟩⟩⟩⟩⟩⟩⟩⟩⟩⟩⟩⟩⟩⟩
def kX11_differ_1 : List (Nat × zT) := [(43, a_aload 0 44), (44, a_getR 11 4 47), (47, a_aload 0 48), (48, a_getR 11 1 51), (51, a_i 0 52), (52, a_aald 53), (53, a_iload 3 54), (54, a_callV 4 32 3 57 0 0), (57, a_aload 0 58), (58, a_getR 11 5 61), (61, a_aload 0 62), (62, a_getR 11 1 65), (65, a_i 1 66), (66, a_aald 67), (67, a_iload 3 68), (68, a_callV 4 32 3 71 0 0), (71, a_aload 0 72), (72, a_getR 11 4 75), (75, a_aload 0 76), (76, a_getR 11 5 79), (79, a_i 1 80), (80, a_iload 1 81), (81, a_ii (fun x y => x <<< (y &&& 31)) 82), (82, a_callV 4 39 3 85 0 0)]
theorem oX11_differ_1 : ∀ q ∈ kX11_differ_1, zSnd zty false RX11 cX11_differ 6 (some .int) false q := List.forall_mem_cons.mpr ⟨ok_aload_n dX11_differ_43 rfl, List.forall_mem_cons.mpr ⟨ok_getR dX11_differ_44 rfl in11 (by decide) rfl w341, List.forall_mem_cons.mpr ⟨ok_aload_n dX11_differ_47 rfl, List.forall_mem_cons.mpr ⟨ok_getR dX11_differ_48 rfl in11 (by decide) rfl w338, List.forall_mem_cons.mpr ⟨ok_iconst dX11_differ_51 (by decide), List.forall_mem_cons.mpr ⟨ok_aald dX11_differ_52, List.forall_mem_cons.mpr ⟨ok_iload_n dX11_differ_53 rfl, List.forall_mem_cons.mpr ⟨ok_callV dX11_differ_54 rfl rfl w597 w594 w595 w6 w596 (by decide +kernel) (by decide), List.forall_mem_cons.mpr ⟨ok_aload_n dX11_differ_57 rfl, List.forall_mem_cons.mpr ⟨ok_getR dX11_differ_58 rfl in11 (by decide) rfl w342, List.forall_mem_cons.mpr ⟨ok_aload_n dX11_differ_61 rfl, List.forall_mem_cons.mpr ⟨ok_getR dX11_differ_62 rfl in11 (by decide) rfl w338, List.forall_mem_cons.mpr ⟨ok_iconst dX11_differ_65 (by decide), List.forall_mem_cons.mpr ⟨ok_aald dX11_differ_66, List.forall_mem_cons.mpr ⟨ok_iload_n dX11_differ_67 rfl, List.forall_mem_cons.mpr ⟨ok_callV dX11_differ_68 rfl rfl w597 w594 w595 w6 w596 (by decide +kernel) (by decide), List.forall_mem_cons.mpr ⟨ok_aload_n dX11_differ_71 rfl, List.forall_mem_cons.mpr ⟨ok_getR dX11_differ_72 rfl in11 (by decide) rfl w341, List.forall_mem_cons.mpr ⟨ok_aload_n dX11_differ_75 rfl, List.forall_mem_cons.mpr ⟨ok_getR dX11_differ_76 rfl in11 (by decide) rfl w342, List.forall_mem_cons.mpr ⟨ok_iconst dX11_differ_79 (by decide), List.forall_mem_cons.mpr ⟨ok_iload_n dX11_differ_80 rfl, List.forall_mem_cons.mpr ⟨ok_ishl dX11_differ_81, List.forall_mem_cons.mpr ⟨ok_callV dX11_differ_82 rfl rfl w632 w629 w630 w6 w631 (by decide +kernel) (by decide), fun _ h => absurd h List.not_mem_nil⟩⟩⟩⟩⟩⟩⟩⟩⟩⟩⟩⟩⟩⟩⟩⟩⟩⟩⟩⟩⟩⟩⟩⟩
def kX11_differ_2 : List (Nat × zT) := [(85, a_lstore 4 87), (87, a_lload 4 89), (89, a_l 0 90), (90, a_lcmp 91), (91, a_if_eq 101 94), (94, a_iload 3 95), (95, a_lload 4 97), (97, a_call 133 2 100 0 0), (100, a_iret false), (101, a_iinc 3 1 104), (104, a_goto 29), (107, a_i (-4) 109), (109, a_iret false)]
theorem oX11_differ_2 : ∀ q ∈ kX11_differ_2, zSnd zty false RX11 cX11_differ 6 (some .int) false q := List.forall_mem_cons.mpr ⟨ok_lstore dX11_differ_85 (by decide), List.forall_mem_cons.mpr ⟨ok_lload dX11_differ_87, List.forall_mem_cons.mpr ⟨ok_lconst dX11_differ_89 (by decide), List.forall_mem_cons.mpr ⟨ok_lcmp dX11_differ_90, List.forall_mem_cons.mpr ⟨ok_if_eq dX11_differ_91 (by decide), List.forall_mem_cons.mpr ⟨ok_iload_n dX11_differ_94 rfl, List.forall_mem_cons.mpr ⟨ok_lload dX11_differ_95, List.forall_mem_cons.mpr ⟨ok_callS dX11_differ_97 rfl w635 w633 w634 w1 (by decide +kernel) (by decide), List.forall_mem_cons.mpr ⟨ok_iret (bz := false) dX11_differ_100 rfl, List.forall_mem_cons.mpr ⟨ok_iinc dX11_differ_101 (by decide) (by decide), List.forall_mem_cons.mpr ⟨ok_goto dX11_differ_104 (by decide), List.forall_mem_cons.mpr ⟨ok_bipush dX11_differ_107 (by decide), List.forall_mem_cons.mpr ⟨ok_iret (bz := false) dX11_differ_109 rfl, fun _ h => absurd h List.not_mem_nil⟩⟩⟩⟩⟩⟩⟩⟩⟩⟩⟩⟩⟩
def kX11_differ : List (Nat × zT) := kX11_differ_0 ++ (kX11_differ_1 ++ (kX11_differ_2))
theorem qX11_differ_0 : ∀ q ∈ kX11_differ_0, q ∈ kX11_differ := fun _ h => (List.mem_append_left _ h)
theorem tX11_differ_0 : (0, a_iload 1 1) ∈ kX11_differ := qX11_differ_0 _ (List.mem_of_getElem? (i := 0) rfl)
theorem tX11_differ_1 : (1, a_call 130 1 4 0 0) ∈ kX11_differ := qX11_differ_0 _ (List.mem_of_getElem? (i := 1) rfl)
theorem tX11_differ_4 : (4, a_if_ne 9 7) ∈ kX11_differ := qX11_differ_0 _ (List.mem_of_getElem? (i := 2) rfl)
theorem tX11_differ_7 : (7, a_i (-1) 8) ∈ kX11_differ := qX11_differ_0 _ (List.mem_of_getElem? (i := 3) rfl)
theorem tX11_differ_8 : (8, a_iret false) ∈ kX11_differ := qX11_differ_0 _ (List.mem_of_getElem? (i := 4) rfl)
theorem tX11_differ_9 : (9, a_aload 0 10) ∈ kX11_differ := qX11_differ_0 _ (List.mem_of_getElem? (i := 5) rfl)
theorem tX11_differ_10 : (10, a_getR 11 4 13) ∈ kX11_differ := qX11_differ_0 _ (List.mem_of_getElem? (i := 6) rfl)
theorem tX11_differ_13 : (13, a_aload 0 14) ∈ kX11_differ := qX11_differ_0 _ (List.mem_of_getElem? (i := 7) rfl)
theorem tX11_differ_14 : (14, a_getR 11 1 17) ∈ kX11_differ := qX11_differ_0 _ (List.mem_of_getElem? (i := 8) rfl)
theorem tX11_differ_17 : (17, a_i 0 18) ∈ kX11_differ := qX11_differ_0 _ (List.mem_of_getElem? (i := 9) rfl)
theorem tX11_differ_18 : (18, a_aald 19) ∈ kX11_differ := qX11_differ_0 _ (List.mem_of_getElem? (i := 10) rfl)
theorem tX11_differ_19 : (19, a_aload 0 20) ∈ kX11_differ := qX11_differ_0 _ (List.mem_of_getElem? (i := 11) rfl)
theorem tX11_differ_20 : (20, a_getI 11 14 23) ∈ kX11_differ := qX11_differ_0 _ (List.mem_of_getElem? (i := 12) rfl)
theorem tX11_differ_23 : (23, a_callV 4 40 3 26 0 0) ∈ kX11_differ := qX11_differ_0 _ (List.mem_of_getElem? (i := 13) rfl)
theorem tX11_differ_26 : (26, a_istore 2 27) ∈ kX11_differ := qX11_differ_0 _ (List.mem_of_getElem? (i := 14) rfl)
theorem tX11_differ_27 : (27, a_i 0 28) ∈ kX11_differ := qX11_differ_0 _ (List.mem_of_getElem? (i := 15) rfl)
theorem tX11_differ_28 : (28, a_istore 3 29) ∈ kX11_differ := qX11_differ_0 _ (List.mem_of_getElem? (i := 16) rfl)
theorem tX11_differ_29 : (29, a_iload 3 30) ∈ kX11_differ := qX11_differ_0 _ (List.mem_of_getElem? (i := 17) rfl)
theorem tX11_differ_30 : (30, a_i 16 32) ∈ kX11_differ := qX11_differ_0 _ (List.mem_of_getElem? (i := 18) rfl)
theorem tX11_differ_32 : (32, a_ic_ge 107 35) ∈ kX11_differ := qX11_differ_0 _ (List.mem_of_getElem? (i := 19) rfl)
theorem tX11_differ_35 : (35, a_iload 2 36) ∈ kX11_differ := qX11_differ_0 _ (List.mem_of_getElem? (i := 20) rfl)
theorem tX11_differ_36 : (36, a_iload 3 37) ∈ kX11_differ := qX11_differ_0 _ (List.mem_of_getElem? (i := 21) rfl)
theorem tX11_differ_37 : (37, a_call 132 2 40 0 0) ∈ kX11_differ := qX11_differ_0 _ (List.mem_of_getElem? (i := 22) rfl)
theorem tX11_differ_40 : (40, a_if_eq 101 43) ∈ kX11_differ := qX11_differ_0 _ (List.mem_of_getElem? (i := 23) rfl)
theorem qX11_differ_1 : ∀ q ∈ kX11_differ_1, q ∈ kX11_differ := fun _ h => (List.mem_append_right _ (List.mem_append_left _ h))
theorem tX11_differ_43 : (43, a_aload 0 44) ∈ kX11_differ := qX11_differ_1 _ (List.mem_of_getElem? (i := 0) rfl)
theorem tX11_differ_44 : (44, a_getR 11 4 47) ∈ kX11_differ := qX11_differ_1 _ (List.mem_of_getElem? (i := 1) rfl)
theorem tX11_differ_47 : (47, a_aload 0 48) ∈ kX11_differ := qX11_differ_1 _ (List.mem_of_getElem? (i := 2) rfl)
theorem tX11_differ_48 : (48, a_getR 11 1 51) ∈ kX11_differ := qX11_differ_1 _ (List.mem_of_getElem? (i := 3) rfl)
theorem tX11_differ_51 : (51, a_i 0 52) ∈ kX11_differ := qX11_differ_1 _ (List.mem_of_getElem? (i := 4) rfl)
theorem tX11_differ_52 : (52, a_aald 53) ∈ kX11_differ := qX11_differ_1 _ (List.mem_of_getElem? (i := 5) rfl)
theorem tX11_differ_53 : (53, a_iload 3 54) ∈ kX11_differ := qX11_differ_1 _ (List.mem_of_getElem? (i := 6) rfl)
theorem tX11_differ_54 : (54, a_callV 4 32 3 57 0 0) ∈ kX11_differ := qX11_differ_1 _ (List.mem_of_getElem? (i := 7) rfl)
theorem tX11_differ_57 : (57, a_aload 0 58) ∈ kX11_differ := qX11_differ_1 _ (List.mem_of_getElem? (i := 8) rfl)
theorem tX11_differ_58 : (58, a_getR 11 5 61) ∈ kX11_differ := qX11_differ_1 _ (List.mem_of_getElem? (i := 9) rfl)
theorem tX11_differ_61 : (61, a_aload 0 62) ∈ kX11_differ := qX11_differ_1 _ (List.mem_of_getElem? (i := 10) rfl)
theorem tX11_differ_62 : (62, a_getR 11 1 65) ∈ kX11_differ := qX11_differ_1 _ (List.mem_of_getElem? (i := 11) rfl)
theorem tX11_differ_65 : (65, a_i 1 66) ∈ kX11_differ := qX11_differ_1 _ (List.mem_of_getElem? (i := 12) rfl)
theorem tX11_differ_66 : (66, a_aald 67) ∈ kX11_differ := qX11_differ_1 _ (List.mem_of_getElem? (i := 13) rfl)
theorem tX11_differ_67 : (67, a_iload 3 68) ∈ kX11_differ := qX11_differ_1 _ (List.mem_of_getElem? (i := 14) rfl)
theorem tX11_differ_68 : (68, a_callV 4 32 3 71 0 0) ∈ kX11_differ := qX11_differ_1 _ (List.mem_of_getElem? (i := 15) rfl)
theorem tX11_differ_71 : (71, a_aload 0 72) ∈ kX11_differ := qX11_differ_1 _ (List.mem_of_getElem? (i := 16) rfl)
theorem tX11_differ_72 : (72, a_getR 11 4 75) ∈ kX11_differ := qX11_differ_1 _ (List.mem_of_getElem? (i := 17) rfl)
theorem tX11_differ_75 : (75, a_aload 0 76) ∈ kX11_differ := qX11_differ_1 _ (List.mem_of_getElem? (i := 18) rfl)
theorem tX11_differ_76 : (76, a_getR 11 5 79) ∈ kX11_differ := qX11_differ_1 _ (List.mem_of_getElem? (i := 19) rfl)
theorem tX11_differ_79 : (79, a_i 1 80) ∈ kX11_differ := qX11_differ_1 _ (List.mem_of_getElem? (i := 20) rfl)
theorem tX11_differ_80 : (80, a_iload 1 81) ∈ kX11_differ := qX11_differ_1 _ (List.mem_of_getElem? (i := 21) rfl)
theorem tX11_differ_81 : (81, a_ii (fun x y => x <<< (y &&& 31)) 82) ∈ kX11_differ := qX11_differ_1 _ (List.mem_of_getElem? (i := 22) rfl)
theorem tX11_differ_82 : (82, a_callV 4 39 3 85 0 0) ∈ kX11_differ := qX11_differ_1 _ (List.mem_of_getElem? (i := 23) rfl)
theorem qX11_differ_2 : ∀ q ∈ kX11_differ_2, q ∈ kX11_differ := fun _ h => (List.mem_append_right _ (List.mem_append_right _ h))
theorem tX11_differ_85 : (85, a_lstore 4 87) ∈ kX11_differ := qX11_differ_2 _ (List.mem_of_getElem? (i := 0) rfl)
theorem tX11_differ_87 : (87, a_lload 4 89) ∈ kX11_differ := qX11_differ_2 _ (List.mem_of_getElem? (i := 1) rfl)
theorem tX11_differ_89 : (89, a_l 0 90) ∈ kX11_differ := qX11_differ_2 _ (List.mem_of_getElem? (i := 2) rfl)
theorem tX11_differ_90 : (90, a_lcmp 91) ∈ kX11_differ := qX11_differ_2 _ (List.mem_of_getElem? (i := 3) rfl)
theorem tX11_differ_91 : (91, a_if_eq 101 94) ∈ kX11_differ := qX11_differ_2 _ (List.mem_of_getElem? (i := 4) rfl)
theorem tX11_differ_94 : (94, a_iload 3 95) ∈ kX11_differ := qX11_differ_2 _ (List.mem_of_getElem? (i := 5) rfl)
theorem tX11_differ_95 : (95, a_lload 4 97) ∈ kX11_differ := qX11_differ_2 _ (List.mem_of_getElem? (i := 6) rfl)
theorem tX11_differ_97 : (97, a_call 133 2 100 0 0) ∈ kX11_differ := qX11_differ_2 _ (List.mem_of_getElem? (i := 7) rfl)
theorem tX11_differ_100 : (100, a_iret false) ∈ kX11_differ := qX11_differ_2 _ (List.mem_of_getElem? (i := 8) rfl)
theorem tX11_differ_101 : (101, a_iinc 3 1 104) ∈ kX11_differ := qX11_differ_2 _ (List.mem_of_getElem? (i := 9) rfl)
theorem tX11_differ_104 : (104, a_goto 29) ∈ kX11_differ := qX11_differ_2 _ (List.mem_of_getElem? (i := 10) rfl)
theorem tX11_differ_107 : (107, a_i (-4) 109) ∈ kX11_differ := qX11_differ_2 _ (List.mem_of_getElem? (i := 11) rfl)
theorem tX11_differ_109 : (109, a_iret false) ∈ kX11_differ := qX11_differ_2 _ (List.mem_of_getElem? (i := 12) rfl)
theorem oX11_differ : ∀ q ∈ kX11_differ, zSnd zty false RX11 cX11_differ 6 (some .int) false q := List.forall_mem_append.mpr ⟨oX11_differ_0, List.forall_mem_append.mpr ⟨oX11_differ_1, oX11_differ_2⟩⟩
theorem dX11_touched_0 : decode cX11_touched 0 = .ok (.aload_n 0, 1) := by decide +kernel
theorem dX11_touched_1 : decode cX11_touched 1 = .ok (.getfield 26, 3) := by decide +kernel
theorem dX11_touched_4 : decode cX11_touched 4 = .ok (.aload_n 0, 1) := by decide +kernel
theorem dX11_touched_5 : decode cX11_touched 5 = .ok (.getfield 10, 3) := by decide +kernel
theorem dX11_touched_8 : decode cX11_touched 8 = .ok (.iconst 0, 1) := by decide +kernel
theorem dX11_touched_9 : decode cX11_touched 9 = .ok (.aaload, 1) := by decide +kernel
theorem dX11_touched_10 : decode cX11_touched 10 = .ok (.invokevirtual 129, 3) := by decide +kernel
theorem dX11_touched_13 : decode cX11_touched 13 = .ok (.ifCond .ne 6, 3) := by decide +kernel
theorem dX11_touched_16 : decode cX11_touched 16 = .ok (.bipush (-2), 2) := by decide +kernel
theorem dX11_touched_18 : decode cX11_touched 18 = .ok (.ireturn, 1) := by decide +kernel
theorem dX11_touched_19 : decode cX11_touched 19 = .ok (.iconst 0, 1) := by decide +kernel
theorem dX11_touched_20 : decode cX11_touched 20 = .ok (.istore_n 1, 1) := by decide +kernel
theorem dX11_touched_21 : decode cX11_touched 21 = .ok (.iconst 0, 1) := by decide +kernel
theorem dX11_touched_22 : decode cX11_touched 22 = .ok (.istore_n 2, 1) := by decide +kernel
theorem dX11_touched_23 : decode cX11_touched 23 = .ok (.iload_n 2, 1) := by decide +kernel
theorem dX11_touched_24 : decode cX11_touched 24 = .ok (.bipush 16, 2) := by decide +kernel
theorem dX11_touched_26 : decode cX11_touched 26 = .ok (.if_icmp .ge 78, 3) := by decide +kernel
theorem dX11_touched_29 : decode cX11_touched 29 = .ok (.aload_n 0, 1) := by decide +kernel
theorem dX11_touched_30 : decode cX11_touched 30 = .ok (.getfield 40, 3) := by decide +kernel
theorem dX11_touched_33 : decode cX11_touched 33 = .ok (.aload_n 0, 1) := by decide +kernel
theorem dX11_touched_34 : decode cX11_touched 34 = .ok (.getfield 19, 3) := by decide +kernel
theorem dX11_touched_37 : decode cX11_touched 37 = .ok (.iconst 0, 1) := by decide +kernel
theorem dX11_touched_38 : decode cX11_touched 38 = .ok (.aaload, 1) := by decide +kernel
theorem dX11_touched_39 : decode cX11_touched 39 = .ok (.iload_n 2, 1) := by decide +kernel
theorem dX11_touched_40 : decode cX11_touched 40 = .ok (.invokevirtual 190, 3) := by decide +kernel
theorem dX11_touched_43 : decode cX11_touched 43 = .ok (.aload_n 0, 1) := by decide +kernel
theorem dX11_touched_44 : decode cX11_touched 44 = .ok (.getfield 44, 3) := by decide +kernel
theorem dX11_touched_47 : decode cX11_touched 47 = .ok (.aload_n 0, 1) := by decide +kernel
theorem dX11_touched_48 : decode cX11_touched 48 = .ok (.getfield 26, 3) := by decide +kernel
theorem dX11_touched_51 : decode cX11_touched 51 = .ok (.getfield 118, 3) := by decide +kernel
theorem dX11_touched_54 : decode cX11_touched 54 = .ok (.iload_n 2, 1) := by decide +kernel
theorem dX11_touched_55 : decode cX11_touched 55 = .ok (.invokevirtual 190, 3) := by decide +kernel
theorem dX11_touched_58 : decode cX11_touched 58 = .ok (.bipush 6, 2) := by decide +kernel
theorem dX11_touched_60 : decode cX11_touched 60 = .ok (.istore_n 3, 1) := by decide +kernel
theorem dX11_touched_61 : decode cX11_touched 61 = .ok (.iload_n 3, 1) := by decide +kernel
theorem dX11_touched_62 : decode cX11_touched 62 = .ok (.bipush 19, 2) := by decide +kernel
theorem dX11_touched_64 : decode cX11_touched 64 = .ok (.if_icmp .ge 34, 3) := by decide +kernel
theorem dX11_touched_67 : decode cX11_touched 67 = .ok (.aload_n 0, 1) := by decide +kernel
theorem dX11_touched_68 : decode cX11_touched 68 = .ok (.getfield 40, 3) := by decide +kernel
theorem dX11_touched_71 : decode cX11_touched 71 = .ok (.aload_n 0, 1) := by decide +kernel
theorem dX11_touched_72 : decode cX11_touched 72 = .ok (.getfield 44, 3) := by decide +kernel
theorem dX11_touched_75 : decode cX11_touched 75 = .ok (.iconst 1, 1) := by decide +kernel
theorem dX11_touched_76 : decode cX11_touched 76 = .ok (.iload_n 3, 1) := by decide +kernel
theorem dX11_touched_77 : decode cX11_touched 77 = .ok (.ishl, 1) := by decide +kernel
theorem dX11_touched_78 : decode cX11_touched 78 = .ok (.invokevirtual 206, 3) := by decide +kernel
theorem dX11_touched_81 : decode cX11_touched 81 = .ok (.lconst 0, 1) := by decide +kernel
theorem dX11_touched_82 : decode cX11_touched 82 = .ok (.lcmp, 1) := by decide +kernel
theorem dX11_touched_83 : decode cX11_touched 83 = .ok (.ifCond .eq 9, 3) := by decide +kernel
theorem dX11_touched_86 : decode cX11_touched 86 = .ok (.iload_n 1, 1) := by decide +kernel
theorem dX11_touched_87 : decode cX11_touched 87 = .ok (.iconst 1, 1) := by decide +kernel
theorem dX11_touched_88 : decode cX11_touched 88 = .ok (.iload_n 3, 1) := by decide +kernel
theorem dX11_touched_89 : decode cX11_touched 89 = .ok (.ishl, 1) := by decide +kernel
theorem dX11_touched_90 : decode cX11_touched 90 = .ok (.ior, 1) := by decide +kernel
theorem dX11_touched_91 : decode cX11_touched 91 = .ok (.istore_n 1, 1) := by decide +kernel
theorem dX11_touched_92 : decode cX11_touched 92 = .ok (.iinc 3 1, 3) := by decide +kernel
theorem dX11_touched_95 : decode cX11_touched 95 = .ok (.goto (-34), 3) := by decide +kernel
theorem dX11_touched_98 : decode cX11_touched 98 = .ok (.iinc 2 1, 3) := by decide +kernel
theorem dX11_touched_101 : decode cX11_touched 101 = .ok (.goto (-78), 3) := by decide +kernel
theorem dX11_touched_104 : decode cX11_touched 104 = .ok (.iload_n 1, 1) := by decide +kernel
theorem dX11_touched_105 : decode cX11_touched 105 = .ok (.ireturn, 1) := by decide +kernel
def kX11_touched_0 : List (Nat × zT) := [(0, a_aload 0 1), (1, a_getR 11 2 4), (4, a_aload 0 5), (5, a_getR 11 0 8), (8, a_i 0 9), (9, a_aald 10), (10, a_callV 5 44 2 13 0 0), (13, a_if_ne 19 16), (16, a_i (-2) 18), (18, a_iret false), (19, a_i 0 20), (20, a_istore 1 21), (21, a_i 0 22), (22, a_istore 2 23), (23, a_iload 2 24), (24, a_i 16 26), (26, a_ic_ge 104 29), (29, a_aload 0 30), (30, a_getR 11 4 33), (33, a_aload 0 34), (34, a_getR 11 1 37), (37, a_i 0 38), (38, a_aald 39), (39, a_iload 2 40)]
theorem oX11_touched_0 : ∀ q ∈ kX11_touched_0, zSnd zty false RX11 cX11_touched 4 (some .int) false q := List.forall_mem_cons.mpr ⟨ok_aload_n dX11_touched_0 rfl, List.forall_mem_cons.mpr ⟨ok_getR dX11_touched_1 rfl in11 (by decide) rfl w339, List.forall_mem_cons.mpr ⟨ok_aload_n dX11_touched_4 rfl, List.forall_mem_cons.mpr ⟨ok_getR dX11_touched_5 rfl in11 (by decide) rfl w337, List.forall_mem_cons.mpr ⟨ok_iconst dX11_touched_8 (by decide), List.forall_mem_cons.mpr ⟨ok_aald dX11_touched_9, List.forall_mem_cons.mpr ⟨ok_callV dX11_touched_10 rfl rfl w478 w475 w476 w4 w477 (by decide +kernel) (by decide), List.forall_mem_cons.mpr ⟨ok_if_ne dX11_touched_13 (by decide), List.forall_mem_cons.mpr ⟨ok_bipush dX11_touched_16 (by decide), List.forall_mem_cons.mpr ⟨ok_iret (bz := false) dX11_touched_18 rfl, List.forall_mem_cons.mpr ⟨ok_iconst dX11_touched_19 (by decide), List.forall_mem_cons.mpr ⟨ok_istore_n dX11_touched_20 rfl (by decide), List.forall_mem_cons.mpr ⟨ok_iconst dX11_touched_21 (by decide), List.forall_mem_cons.mpr ⟨ok_istore_n dX11_touched_22 rfl (by decide), List.forall_mem_cons.mpr ⟨ok_iload_n dX11_touched_23 rfl, List.forall_mem_cons.mpr ⟨ok_bipush dX11_touched_24 (by decide), List.forall_mem_cons.mpr ⟨ok_ic_ge dX11_touched_26 (by decide), List.forall_mem_cons.mpr ⟨ok_aload_n dX11_touched_29 rfl, List.forall_mem_cons.mpr ⟨ok_getR dX11_touched_30 rfl in11 (by decide) rfl w341, List.forall_mem_cons.mpr ⟨ok_aload_n dX11_touched_33 rfl, List.forall_mem_cons.mpr ⟨ok_getR dX11_touched_34 rfl in11 (by decide) rfl w338, List.forall_mem_cons.mpr ⟨ok_iconst dX11_touched_37 (by decide), List.forall_mem_cons.mpr ⟨ok_aald dX11_touched_38, List.forall_mem_cons.mpr ⟨ok_iload_n dX11_touched_39 rfl, fun _ h => absurd h List.not_mem_nil⟩⟩⟩⟩⟩⟩⟩⟩⟩⟩⟩⟩⟩⟩⟩⟩⟩⟩⟩⟩⟩⟩⟩⟩
def kX11_touched_1 : List (Nat × zT) := [(40, a_callV 4 32 3 43 0 0), (43, a_aload 0 44), (44, a_getR 11 5 47), (47, a_aload 0 48), (48, a_getR 11 2 51), (51, a_getR 5 0 54), (54, a_iload 2 55), (55, a_callV 4 32 3 58 0 0), (58, a_i 6 60), (60, a_istore 3 61), (61, a_iload 3 62), (62, a_i 19 64), (64, a_ic_ge 98 67), (67, a_aload 0 68), (68, a_getR 11 4 71), (71, a_aload 0 72), (72, a_getR 11 5 75), (75, a_i 1 76), (76, a_iload 3 77), (77, a_ii (fun x y => x <<< (y &&& 31)) 78), (78, a_callV 4 39 3 81 0 0), (81, a_l 0 82), (82, a_lcmp 83), (83, a_if_eq 92 86)]
theorem oX11_touched_1 : ∀ q ∈ kX11_touched_1, zSnd zty false RX11 cX11_touched 4 (some .int) false q := List.forall_mem_cons.mpr ⟨ok_callV dX11_touched_40 rfl rfl w597 w594 w595 w6 w596 (by decide +kernel) (by decide), List.forall_mem_cons.mpr ⟨ok_aload_n dX11_touched_43 rfl, List.forall_mem_cons.mpr ⟨ok_getR dX11_touched_44 rfl in11 (by decide) rfl w342, List.forall_mem_cons.mpr ⟨ok_aload_n dX11_touched_47 rfl, List.forall_mem_cons.mpr ⟨ok_getR dX11_touched_48 rfl in11 (by decide) rfl w339, List.forall_mem_cons.mpr ⟨ok_getR dX11_touched_51 rfl in5 (by decide) rfl w120, List.forall_mem_cons.mpr ⟨ok_iload_n dX11_touched_54 rfl, List.forall_mem_cons.mpr ⟨ok_callV dX11_touched_55 rfl rfl w597 w594 w595 w6 w596 (by decide +kernel) (by decide), List.forall_mem_cons.mpr ⟨ok_bipush dX11_touched_58 (by decide), List.forall_mem_cons.mpr ⟨ok_istore_n dX11_touched_60 rfl (by decide), List.forall_mem_cons.mpr ⟨ok_iload_n dX11_touched_61 rfl, List.forall_mem_cons.mpr ⟨ok_bipush dX11_touched_62 (by decide), List.forall_mem_cons.mpr ⟨ok_ic_ge dX11_touched_64 (by decide), List.forall_mem_cons.mpr ⟨ok_aload_n dX11_touched_67 rfl, List.forall_mem_cons.mpr ⟨ok_getR dX11_touched_68 rfl in11 (by decide) rfl w341, List.forall_mem_cons.mpr ⟨ok_aload_n dX11_touched_71 rfl, List.forall_mem_cons.mpr ⟨ok_getR dX11_touched_72 rfl in11 (by decide) rfl w342, List.forall_mem_cons.mpr ⟨ok_iconst dX11_touched_75 (by decide), List.forall_mem_cons.mpr ⟨ok_iload_n dX11_touched_76 rfl, List.forall_mem_cons.mpr ⟨ok_ishl dX11_touched_77, List.forall_mem_cons.mpr ⟨ok_callV dX11_touched_78 rfl rfl w632 w629 w630 w6 w631 (by decide +kernel) (by decide), List.forall_mem_cons.mpr ⟨ok_lconst dX11_touched_81 (by decide), List.forall_mem_cons.mpr ⟨ok_lcmp dX11_touched_82, List.forall_mem_cons.mpr ⟨ok_if_eq dX11_touched_83 (by decide), fun _ h => absurd h List.not_mem_nil⟩⟩⟩⟩⟩⟩⟩⟩⟩⟩⟩⟩⟩⟩⟩⟩⟩⟩⟩⟩⟩⟩⟩⟩
def kX11_touched_2 : List (Nat × zT) := [(86, a_iload 1 87), (87, a_i 1 88), (88, a_iload 3 89), (89, a_ii (fun x y => x <<< (y &&& 31)) 90), (90, a_ii (fun x y => x ||| y) 91), (91, a_istore 1 92), (92, a_iinc 3 1 95), (95, a_goto 61), (98, a_iinc 2 1 101), (101, a_goto 23), (104, a_iload 1 105), (105, a_iret false)]
theorem oX11_touched_2 : ∀ q ∈ kX11_touched_2, zSnd zty false RX11 cX11_touched 4 (some .int) false q := List.forall_mem_cons.mpr ⟨ok_iload_n dX11_touched_86 rfl, List.forall_mem_cons.mpr ⟨ok_iconst dX11_touched_87 (by decide), List.forall_mem_cons.mpr ⟨ok_iload_n dX11_touched_88 rfl, List.forall_mem_cons.mpr ⟨ok_ishl dX11_touched_89, List.forall_mem_cons.mpr ⟨ok_ior dX11_touched_90, List.forall_mem_cons.mpr ⟨ok_istore_n dX11_touched_91 rfl (by decide), List.forall_mem_cons.mpr ⟨ok_iinc dX11_touched_92 (by decide) (by decide), List.forall_mem_cons.mpr ⟨ok_goto dX11_touched_95 (by decide), List.forall_mem_cons.mpr ⟨ok_iinc dX11_touched_98 (by decide) (by decide), List.forall_mem_cons.mpr ⟨ok_goto dX11_touched_101 (by decide), List.forall_mem_cons.mpr ⟨ok_iload_n dX11_touched_104 rfl, List.forall_mem_cons.mpr ⟨ok_iret (bz := false) dX11_touched_105 rfl, fun _ h => absurd h List.not_mem_nil⟩⟩⟩⟩⟩⟩⟩⟩⟩⟩⟩⟩
def kX11_touched : List (Nat × zT) := kX11_touched_0 ++ (kX11_touched_1 ++ (kX11_touched_2))
theorem qX11_touched_0 : ∀ q ∈ kX11_touched_0, q ∈ kX11_touched := fun _ h => (List.mem_append_left _ h)
theorem tX11_touched_0 : (0, a_aload 0 1) ∈ kX11_touched := qX11_touched_0 _ (List.mem_of_getElem? (i := 0) rfl)
theorem tX11_touched_1 : (1, a_getR 11 2 4) ∈ kX11_touched := qX11_touched_0 _ (List.mem_of_getElem? (i := 1) rfl)
theorem tX11_touched_4 : (4, a_aload 0 5) ∈ kX11_touched := qX11_touched_0 _ (List.mem_of_getElem? (i := 2) rfl)
theorem tX11_touched_5 : (5, a_getR 11 0 8) ∈ kX11_touched := qX11_touched_0 _ (List.mem_of_getElem? (i := 3) rfl)
theorem tX11_touched_8 : (8, a_i 0 9) ∈ kX11_touched := qX11_touched_0 _ (List.mem_of_getElem? (i := 4) rfl)
theorem tX11_touched_9 : (9, a_aald 10) ∈ kX11_touched := qX11_touched_0 _ (List.mem_of_getElem? (i := 5) rfl)
theorem tX11_touched_10 : (10, a_callV 5 44 2 13 0 0) ∈ kX11_touched := qX11_touched_0 _ (List.mem_of_getElem? (i := 6) rfl)
theorem tX11_touched_13 : (13, a_if_ne 19 16) ∈ kX11_touched := qX11_touched_0 _ (List.mem_of_getElem? (i := 7) rfl)
theorem tX11_touched_16 : (16, a_i (-2) 18) ∈ kX11_touched := qX11_touched_0 _ (List.mem_of_getElem? (i := 8) rfl)
theorem tX11_touched_18 : (18, a_iret false) ∈ kX11_touched := qX11_touched_0 _ (List.mem_of_getElem? (i := 9) rfl)
theorem tX11_touched_19 : (19, a_i 0 20) ∈ kX11_touched := qX11_touched_0 _ (List.mem_of_getElem? (i := 10) rfl)
theorem tX11_touched_20 : (20, a_istore 1 21) ∈ kX11_touched := qX11_touched_0 _ (List.mem_of_getElem? (i := 11) rfl)
theorem tX11_touched_21 : (21, a_i 0 22) ∈ kX11_touched := qX11_touched_0 _ (List.mem_of_getElem? (i := 12) rfl)
theorem tX11_touched_22 : (22, a_istore 2 23) ∈ kX11_touched := qX11_touched_0 _ (List.mem_of_getElem? (i := 13) rfl)
theorem tX11_touched_23 : (23, a_iload 2 24) ∈ kX11_touched := qX11_touched_0 _ (List.mem_of_getElem? (i := 14) rfl)
theorem tX11_touched_24 : (24, a_i 16 26) ∈ kX11_touched := qX11_touched_0 _ (List.mem_of_getElem? (i := 15) rfl)
theorem tX11_touched_26 : (26, a_ic_ge 104 29) ∈ kX11_touched := qX11_touched_0 _ (List.mem_of_getElem? (i := 16) rfl)
theorem tX11_touched_29 : (29, a_aload 0 30) ∈ kX11_touched := qX11_touched_0 _ (List.mem_of_getElem? (i := 17) rfl)
theorem tX11_touched_30 : (30, a_getR 11 4 33) ∈ kX11_touched := qX11_touched_0 _ (List.mem_of_getElem? (i := 18) rfl)
theorem tX11_touched_33 : (33, a_aload 0 34) ∈ kX11_touched := qX11_touched_0 _ (List.mem_of_getElem? (i := 19) rfl)
theorem tX11_touched_34 : (34, a_getR 11 1 37) ∈ kX11_touched := qX11_touched_0 _ (List.mem_of_getElem? (i := 20) rfl)
theorem tX11_touched_37 : (37, a_i 0 38) ∈ kX11_touched := qX11_touched_0 _ (List.mem_of_getElem? (i := 21) rfl)
theorem tX11_touched_38 : (38, a_aald 39) ∈ kX11_touched := qX11_touched_0 _ (List.mem_of_getElem? (i := 22) rfl)
theorem tX11_touched_39 : (39, a_iload 2 40) ∈ kX11_touched := qX11_touched_0 _ (List.mem_of_getElem? (i := 23) rfl)
theorem qX11_touched_1 : ∀ q ∈ kX11_touched_1, q ∈ kX11_touched := fun _ h => (List.mem_append_right _ (List.mem_append_left _ h))
theorem tX11_touched_40 : (40, a_callV 4 32 3 43 0 0) ∈ kX11_touched := qX11_touched_1 _ (List.mem_of_getElem? (i := 0) rfl)
theorem tX11_touched_43 : (43, a_aload 0 44) ∈ kX11_touched := qX11_touched_1 _ (List.mem_of_getElem? (i := 1) rfl)
theorem tX11_touched_44 : (44, a_getR 11 5 47) ∈ kX11_touched := qX11_touched_1 _ (List.mem_of_getElem? (i := 2) rfl)
theorem tX11_touched_47 : (47, a_aload 0 48) ∈ kX11_touched := qX11_touched_1 _ (List.mem_of_getElem? (i := 3) rfl)
theorem tX11_touched_48 : (48, a_getR 11 2 51) ∈ kX11_touched := qX11_touched_1 _ (List.mem_of_getElem? (i := 4) rfl)
theorem tX11_touched_51 : (51, a_getR 5 0 54) ∈ kX11_touched := qX11_touched_1 _ (List.mem_of_getElem? (i := 5) rfl)
theorem tX11_touched_54 : (54, a_iload 2 55) ∈ kX11_touched := qX11_touched_1 _ (List.mem_of_getElem? (i := 6) rfl)
theorem tX11_touched_55 : (55, a_callV 4 32 3 58 0 0) ∈ kX11_touched := qX11_touched_1 _ (List.mem_of_getElem? (i := 7) rfl)
theorem tX11_touched_58 : (58, a_i 6 60) ∈ kX11_touched := qX11_touched_1 _ (List.mem_of_getElem? (i := 8) rfl)
theorem tX11_touched_60 : (60, a_istore 3 61) ∈ kX11_touched := qX11_touched_1 _ (List.mem_of_getElem? (i := 9) rfl)
theorem tX11_touched_61 : (61, a_iload 3 62) ∈ kX11_touched := qX11_touched_1 _ (List.mem_of_getElem? (i := 10) rfl)
theorem tX11_touched_62 : (62, a_i 19 64) ∈ kX11_touched := qX11_touched_1 _ (List.mem_of_getElem? (i := 11) rfl)
theorem tX11_touched_64 : (64, a_ic_ge 98 67) ∈ kX11_touched := qX11_touched_1 _ (List.mem_of_getElem? (i := 12) rfl)
theorem tX11_touched_67 : (67, a_aload 0 68) ∈ kX11_touched := qX11_touched_1 _ (List.mem_of_getElem? (i := 13) rfl)
theorem tX11_touched_68 : (68, a_getR 11 4 71) ∈ kX11_touched := qX11_touched_1 _ (List.mem_of_getElem? (i := 14) rfl)
theorem tX11_touched_71 : (71, a_aload 0 72) ∈ kX11_touched := qX11_touched_1 _ (List.mem_of_getElem? (i := 15) rfl)
theorem tX11_touched_72 : (72, a_getR 11 5 75) ∈ kX11_touched := qX11_touched_1 _ (List.mem_of_getElem? (i := 16) rfl)
theorem tX11_touched_75 : (75, a_i 1 76) ∈ kX11_touched := qX11_touched_1 _ (List.mem_of_getElem? (i := 17) rfl)
theorem tX11_touched_76 : (76, a_iload 3 77) ∈ kX11_touched := qX11_touched_1 _ (List.mem_of_getElem? (i := 18) rfl)
theorem tX11_touched_77 : (77, a_ii (fun x y => x <<< (y &&& 31)) 78) ∈ kX11_touched := qX11_touched_1 _ (List.mem_of_getElem? (i := 19) rfl)
theorem tX11_touched_78 : (78, a_callV 4 39 3 81 0 0) ∈ kX11_touched := qX11_touched_1 _ (List.mem_of_getElem? (i := 20) rfl)
theorem tX11_touched_81 : (81, a_l 0 82) ∈ kX11_touched := qX11_touched_1 _ (List.mem_of_getElem? (i := 21) rfl)
theorem tX11_touched_82 : (82, a_lcmp 83) ∈ kX11_touched := qX11_touched_1 _ (List.mem_of_getElem? (i := 22) rfl)
theorem tX11_touched_83 : (83, a_if_eq 92 86) ∈ kX11_touched := qX11_touched_1 _ (List.mem_of_getElem? (i := 23) rfl)
theorem qX11_touched_2 : ∀ q ∈ kX11_touched_2, q ∈ kX11_touched := fun _ h => (List.mem_append_right _ (List.mem_append_right _ h))
theorem tX11_touched_86 : (86, a_iload 1 87) ∈ kX11_touched := qX11_touched_2 _ (List.mem_of_getElem? (i := 0) rfl)
theorem tX11_touched_87 : (87, a_i 1 88) ∈ kX11_touched := qX11_touched_2 _ (List.mem_of_getElem? (i := 1) rfl)
theorem tX11_touched_88 : (88, a_iload 3 89) ∈ kX11_touched := qX11_touched_2 _ (List.mem_of_getElem? (i := 2) rfl)
theorem tX11_touched_89 : (89, a_ii (fun x y => x <<< (y &&& 31)) 90) ∈ kX11_touched := qX11_touched_2 _ (List.mem_of_getElem? (i := 3) rfl)
theorem tX11_touched_90 : (90, a_ii (fun x y => x ||| y) 91) ∈ kX11_touched := qX11_touched_2 _ (List.mem_of_getElem? (i := 4) rfl)
theorem tX11_touched_91 : (91, a_istore 1 92) ∈ kX11_touched := qX11_touched_2 _ (List.mem_of_getElem? (i := 5) rfl)
theorem tX11_touched_92 : (92, a_iinc 3 1 95) ∈ kX11_touched := qX11_touched_2 _ (List.mem_of_getElem? (i := 6) rfl)
theorem tX11_touched_95 : (95, a_goto 61) ∈ kX11_touched := qX11_touched_2 _ (List.mem_of_getElem? (i := 7) rfl)
theorem tX11_touched_98 : (98, a_iinc 2 1 101) ∈ kX11_touched := qX11_touched_2 _ (List.mem_of_getElem? (i := 8) rfl)
theorem tX11_touched_101 : (101, a_goto 23) ∈ kX11_touched := qX11_touched_2 _ (List.mem_of_getElem? (i := 9) rfl)
theorem tX11_touched_104 : (104, a_iload 1 105) ∈ kX11_touched := qX11_touched_2 _ (List.mem_of_getElem? (i := 10) rfl)
theorem tX11_touched_105 : (105, a_iret false) ∈ kX11_touched := qX11_touched_2 _ (List.mem_of_getElem? (i := 11) rfl)
theorem oX11_touched : ∀ q ∈ kX11_touched, zSnd zty false RX11 cX11_touched 4 (some .int) false q := List.forall_mem_append.mpr ⟨oX11_touched_0, List.forall_mem_append.mpr ⟨oX11_touched_1, oX11_touched_2⟩⟩
theorem dX11_gate_0 : decode cX11_gate 0 = .ok (.iload_n 1, 1) := by decide +kernel
theorem dX11_gate_1 : decode cX11_gate 1 = .ok (.bipush 7, 2) := by decide +kernel
theorem dX11_gate_3 : decode cX11_gate 3 = .ok (.invokestatic 168, 3) := by decide +kernel
theorem dX11_gate_6 : decode cX11_gate 6 = .ok (.ifCond .eq 12, 3) := by decide +kernel
theorem dX11_gate_9 : decode cX11_gate 9 = .ok (.iload_n 2, 1) := by decide +kernel
theorem dX11_gate_10 : decode cX11_gate 10 = .ok (.ifCond .lt 8, 3) := by decide +kernel
theorem dX11_gate_13 : decode cX11_gate 13 = .ok (.iload_n 2, 1) := by decide +kernel
theorem dX11_gate_14 : decode cX11_gate 14 = .ok (.iconst 1, 1) := by decide +kernel
theorem dX11_gate_15 : decode cX11_gate 15 = .ok (.if_icmp .le 5, 3) := by decide +kernel
theorem dX11_gate_18 : decode cX11_gate 18 = .ok (.iconst (-1), 1) := by decide +kernel
theorem dX11_gate_19 : decode cX11_gate 19 = .ok (.ireturn, 1) := by decide +kernel
theorem dX11_gate_20 : decode cX11_gate 20 = .ok (.iload_n 2, 1) := by decide +kernel
theorem dX11_gate_21 : decode cX11_gate 21 = .ok (.ifCond .ne 13, 3) := by decide +kernel
theorem dX11_gate_24 : decode cX11_gate 24 = .ok (.aload_n 0, 1) := by decide +kernel
theorem dX11_gate_25 : decode cX11_gate 25 = .ok (.getfield 53, 3) := by decide +kernel
theorem dX11_gate_28 : decode cX11_gate 28 = .ok (.getfield 213, 3) := by decide +kernel
theorem dX11_gate_31 : decode cX11_gate 31 = .ok (.goto 10, 3) := by decide +kernel
theorem dX11_gate_34 : decode cX11_gate 34 = .ok (.aload_n 0, 1) := by decide +kernel
theorem dX11_gate_35 : decode cX11_gate 35 = .ok (.getfield 53, 3) := by decide +kernel
theorem dX11_gate_38 : decode cX11_gate 38 = .ok (.getfield 216, 3) := by decide +kernel
theorem dX11_gate_41 : decode cX11_gate 41 = .ok (.astore 4, 2) := by decide +kernel
theorem dX11_gate_43 : decode cX11_gate 43 = .ok (.iload_n 3, 1) := by decide +kernel
theorem dX11_gate_44 : decode cX11_gate 44 = .ok (.iconst 1, 1) := by decide +kernel
theorem dX11_gate_45 : decode cX11_gate 45 = .ok (.if_icmp .lt 18, 3) := by decide +kernel
theorem dX11_gate_48 : decode cX11_gate 48 = .ok (.iload_n 3, 1) := by decide +kernel
theorem dX11_gate_49 : decode cX11_gate 49 = .ok (.iload_n 2, 1) := by decide +kernel
theorem dX11_gate_50 : decode cX11_gate 50 = .ok (.ifCond .ne 8, 3) := by decide +kernel
theorem dX11_gate_53 : decode cX11_gate 53 = .ok (.bipush 100, 2) := by decide +kernel
theorem dX11_gate_55 : decode cX11_gate 55 = .ok (.goto 5, 3) := by decide +kernel
theorem dX11_gate_58 : decode cX11_gate 58 = .ok (.bipush 50, 2) := by decide +kernel
theorem dX11_gate_60 : decode cX11_gate 60 = .ok (.if_icmp .le 5, 3) := by decide +kernel
theorem dX11_gate_63 : decode cX11_gate 63 = .ok (.iconst (-1), 1) := by decide +kernel
theorem dX11_gate_64 : decode cX11_gate 64 = .ok (.ireturn, 1) := by decide +kernel
theorem dX11_gate_65 : decode cX11_gate 65 = .ok (.aload 4, 2) := by decide +kernel
theorem dX11_gate_67 : decode cX11_gate 67 = .ok (.iload_n 1, 1) := by decide +kernel
theorem dX11_gate_68 : decode cX11_gate 68 = .ok (.iaload, 1) := by decide +kernel
theorem dX11_gate_69 : decode cX11_gate 69 = .ok (.istore 5, 2) := by decide +kernel
theorem dX11_gate_71 : decode cX11_gate 71 = .ok (.aload 4, 2) := by decide +kernel
theorem dX11_gate_73 : decode cX11_gate 73 = .ok (.iload_n 1, 1) := by decide +kernel
theorem dX11_gate_74 : decode cX11_gate 74 = .ok (.iload_n 3, 1) := by decide +kernel
theorem dX11_gate_75 : decode cX11_gate 75 = .ok (.iastore, 1) := by decide +kernel
theorem dX11_gate_76 : decode cX11_gate 76 = .ok (.iload 5, 2) := by decide +kernel
theorem dX11_gate_78 : decode cX11_gate 78 = .ok (.ireturn, 1) := by decide +kernel
def kX11_gate_0 : List (Nat × zT) := [(0, a_iload 1 1), (1, a_i 7 3), (3, a_call 128 2 6 0 0), (6, a_if_eq 18 9), (9, a_iload 2 10), (10, a_if_lt 18 13), (13, a_iload 2 14), (14, a_i 1 15), (15, a_ic_le 20 18), (18, a_i (-1) 19), (19, a_iret false), (20, a_iload 2 21), (21, a_if_ne 34 24), (24, a_aload 0 25), (25, a_getR 11 7 28), (28, a_getR 2 0 31), (31, a_goto 41), (34, a_aload 0 35), (35, a_getR 11 7 38), (38, a_getR 2 1 41), (41, a_astore 4 43), (43, a_iload 3 44), (44, a_i 1 45), (45, a_ic_lt 63 48)]
theorem oX11_gate_0 : ∀ q ∈ kX11_gate_0, zSnd zty false RX11 cX11_gate 6 (some .int) false q := List.forall_mem_cons.mpr ⟨ok_iload_n dX11_gate_0 rfl, List.forall_mem_cons.mpr ⟨ok_bipush dX11_gate_1 (by decide), List.forall_mem_cons.mpr ⟨ok_callS dX11_gate_3 rfl w443 w525 w442 w1 (by decide +kernel) (by decide), List.forall_mem_cons.mpr ⟨ok_if_eq dX11_gate_6 (by decide), List.forall_mem_cons.mpr ⟨ok_iload_n dX11_gate_9 rfl, List.forall_mem_cons.mpr ⟨ok_if_lt dX11_gate_10 (by decide), List.forall_mem_cons.mpr ⟨ok_iload_n dX11_gate_13 rfl, List.forall_mem_cons.mpr ⟨ok_iconst dX11_gate_14 (by decide), List.forall_mem_cons.mpr ⟨ok_ic_le dX11_gate_15 (by decide), List.forall_mem_cons.mpr ⟨ok_iconst dX11_gate_18 (by decide), List.forall_mem_cons.mpr ⟨ok_iret (bz := false) dX11_gate_19 rfl, List.forall_mem_cons.mpr ⟨ok_iload_n dX11_gate_20 rfl, List.forall_mem_cons.mpr ⟨ok_if_ne dX11_gate_21 (by decide), List.forall_mem_cons.mpr ⟨ok_aload_n dX11_gate_24 rfl, List.forall_mem_cons.mpr ⟨ok_getR dX11_gate_25 rfl in11 (by decide) rfl w344, List.forall_mem_cons.mpr ⟨ok_getR dX11_gate_28 rfl in2 (by decide) rfl w190, List.forall_mem_cons.mpr ⟨ok_goto dX11_gate_31 (by decide), List.forall_mem_cons.mpr ⟨ok_aload_n dX11_gate_34 rfl, List.forall_mem_cons.mpr ⟨ok_getR dX11_gate_35 rfl in11 (by decide) rfl w344, List.forall_mem_cons.mpr ⟨ok_getR dX11_gate_38 rfl in2 (by decide) rfl w192, List.forall_mem_cons.mpr ⟨ok_astore dX11_gate_41 (by decide), List.forall_mem_cons.mpr ⟨ok_iload_n dX11_gate_43 rfl, List.forall_mem_cons.mpr ⟨ok_iconst dX11_gate_44 (by decide), List.forall_mem_cons.mpr ⟨ok_ic_lt dX11_gate_45 (by decide), fun _ h => absurd h List.not_mem_nil⟩⟩⟩⟩⟩⟩⟩⟩⟩⟩⟩⟩⟩⟩⟩⟩⟩⟩⟩⟩⟩⟩⟩⟩
def kX11_gate_1 : List (Nat × zT) := [(48, a_iload 3 49), (49, a_iload 2 50), (50, a_if_ne 58 53), (53, a_i 100 55), (55, a_goto 60), (58, a_i 50 60), (60, a_ic_le 65 63), (63, a_i (-1) 64), (64, a_iret false), (65, a_aload 4 67), (67, a_iload 1 68), (68, a_iald 69), (69, a_istore 5 71), (71, a_aload 4 73), (73, a_iload 1 74), (74, a_iload 3 75), (75, a_iast 76), (76, a_iload 5 78), (78, a_iret false)]
theorem oX11_gate_1 : ∀ q ∈ kX11_gate_1, zSnd zty false RX11 cX11_gate 6 (some .int) false q := List.forall_mem_cons.mpr ⟨ok_iload_n dX11_gate_48 rfl, List.forall_mem_cons.mpr ⟨ok_iload_n dX11_gate_49 rfl, List.forall_mem_cons.mpr ⟨ok_if_ne dX11_gate_50 (by decide), List.forall_mem_cons.mpr ⟨ok_bipush dX11_gate_53 (by decide), List.forall_mem_cons.mpr ⟨ok_goto dX11_gate_55 (by decide), List.forall_mem_cons.mpr ⟨ok_bipush dX11_gate_58 (by decide), List.forall_mem_cons.mpr ⟨ok_ic_le dX11_gate_60 (by decide), List.forall_mem_cons.mpr ⟨ok_iconst dX11_gate_63 (by decide), List.forall_mem_cons.mpr ⟨ok_iret (bz := false) dX11_gate_64 rfl, List.forall_mem_cons.mpr ⟨ok_aload dX11_gate_65, List.forall_mem_cons.mpr ⟨ok_iload_n dX11_gate_67 rfl, List.forall_mem_cons.mpr ⟨ok_iald dX11_gate_68, List.forall_mem_cons.mpr ⟨ok_istore dX11_gate_69 (by decide), List.forall_mem_cons.mpr ⟨ok_aload dX11_gate_71, List.forall_mem_cons.mpr ⟨ok_iload_n dX11_gate_73 rfl, List.forall_mem_cons.mpr ⟨ok_iload_n dX11_gate_74 rfl, List.forall_mem_cons.mpr ⟨ok_iast dX11_gate_75, List.forall_mem_cons.mpr ⟨ok_iload dX11_gate_76, List.forall_mem_cons.mpr ⟨ok_iret (bz := false) dX11_gate_78 rfl, fun _ h => absurd h List.not_mem_nil⟩⟩⟩⟩⟩⟩⟩⟩⟩⟩⟩⟩⟩⟩⟩⟩⟩⟩⟩
def kX11_gate : List (Nat × zT) := kX11_gate_0 ++ (kX11_gate_1)
theorem qX11_gate_0 : ∀ q ∈ kX11_gate_0, q ∈ kX11_gate := fun _ h => (List.mem_append_left _ h)
theorem tX11_gate_0 : (0, a_iload 1 1) ∈ kX11_gate := qX11_gate_0 _ (List.mem_of_getElem? (i := 0) rfl)
theorem tX11_gate_1 : (1, a_i 7 3) ∈ kX11_gate := qX11_gate_0 _ (List.mem_of_getElem? (i := 1) rfl)
theorem tX11_gate_3 : (3, a_call 128 2 6 0 0) ∈ kX11_gate := qX11_gate_0 _ (List.mem_of_getElem? (i := 2) rfl)
theorem tX11_gate_6 : (6, a_if_eq 18 9) ∈ kX11_gate := qX11_gate_0 _ (List.mem_of_getElem? (i := 3) rfl)
theorem tX11_gate_9 : (9, a_iload 2 10) ∈ kX11_gate := qX11_gate_0 _ (List.mem_of_getElem? (i := 4) rfl)
theorem tX11_gate_10 : (10, a_if_lt 18 13) ∈ kX11_gate := qX11_gate_0 _ (List.mem_of_getElem? (i := 5) rfl)
theorem tX11_gate_13 : (13, a_iload 2 14) ∈ kX11_gate := qX11_gate_0 _ (List.mem_of_getElem? (i := 6) rfl)
theorem tX11_gate_14 : (14, a_i 1 15) ∈ kX11_gate := qX11_gate_0 _ (List.mem_of_getElem? (i := 7) rfl)
theorem tX11_gate_15 : (15, a_ic_le 20 18) ∈ kX11_gate := qX11_gate_0 _ (List.mem_of_getElem? (i := 8) rfl)
theorem tX11_gate_18 : (18, a_i (-1) 19) ∈ kX11_gate := qX11_gate_0 _ (List.mem_of_getElem? (i := 9) rfl)
theorem tX11_gate_19 : (19, a_iret false) ∈ kX11_gate := qX11_gate_0 _ (List.mem_of_getElem? (i := 10) rfl)
theorem tX11_gate_20 : (20, a_iload 2 21) ∈ kX11_gate := qX11_gate_0 _ (List.mem_of_getElem? (i := 11) rfl)
theorem tX11_gate_21 : (21, a_if_ne 34 24) ∈ kX11_gate := qX11_gate_0 _ (List.mem_of_getElem? (i := 12) rfl)
theorem tX11_gate_24 : (24, a_aload 0 25) ∈ kX11_gate := qX11_gate_0 _ (List.mem_of_getElem? (i := 13) rfl)
theorem tX11_gate_25 : (25, a_getR 11 7 28) ∈ kX11_gate := qX11_gate_0 _ (List.mem_of_getElem? (i := 14) rfl)
theorem tX11_gate_28 : (28, a_getR 2 0 31) ∈ kX11_gate := qX11_gate_0 _ (List.mem_of_getElem? (i := 15) rfl)
theorem tX11_gate_31 : (31, a_goto 41) ∈ kX11_gate := qX11_gate_0 _ (List.mem_of_getElem? (i := 16) rfl)
theorem tX11_gate_34 : (34, a_aload 0 35) ∈ kX11_gate := qX11_gate_0 _ (List.mem_of_getElem? (i := 17) rfl)
theorem tX11_gate_35 : (35, a_getR 11 7 38) ∈ kX11_gate := qX11_gate_0 _ (List.mem_of_getElem? (i := 18) rfl)
theorem tX11_gate_38 : (38, a_getR 2 1 41) ∈ kX11_gate := qX11_gate_0 _ (List.mem_of_getElem? (i := 19) rfl)
theorem tX11_gate_41 : (41, a_astore 4 43) ∈ kX11_gate := qX11_gate_0 _ (List.mem_of_getElem? (i := 20) rfl)
theorem tX11_gate_43 : (43, a_iload 3 44) ∈ kX11_gate := qX11_gate_0 _ (List.mem_of_getElem? (i := 21) rfl)
theorem tX11_gate_44 : (44, a_i 1 45) ∈ kX11_gate := qX11_gate_0 _ (List.mem_of_getElem? (i := 22) rfl)
theorem tX11_gate_45 : (45, a_ic_lt 63 48) ∈ kX11_gate := qX11_gate_0 _ (List.mem_of_getElem? (i := 23) rfl)
theorem qX11_gate_1 : ∀ q ∈ kX11_gate_1, q ∈ kX11_gate := fun _ h => (List.mem_append_right _ h)
theorem tX11_gate_48 : (48, a_iload 3 49) ∈ kX11_gate := qX11_gate_1 _ (List.mem_of_getElem? (i := 0) rfl)
theorem tX11_gate_49 : (49, a_iload 2 50) ∈ kX11_gate := qX11_gate_1 _ (List.mem_of_getElem? (i := 1) rfl)
theorem tX11_gate_50 : (50, a_if_ne 58 53) ∈ kX11_gate := qX11_gate_1 _ (List.mem_of_getElem? (i := 2) rfl)
theorem tX11_gate_53 : (53, a_i 100 55) ∈ kX11_gate := qX11_gate_1 _ (List.mem_of_getElem? (i := 3) rfl)
theorem tX11_gate_55 : (55, a_goto 60) ∈ kX11_gate := qX11_gate_1 _ (List.mem_of_getElem? (i := 4) rfl)
theorem tX11_gate_58 : (58, a_i 50 60) ∈ kX11_gate := qX11_gate_1 _ (List.mem_of_getElem? (i := 5) rfl)
theorem tX11_gate_60 : (60, a_ic_le 65 63) ∈ kX11_gate := qX11_gate_1 _ (List.mem_of_getElem? (i := 6) rfl)
theorem tX11_gate_63 : (63, a_i (-1) 64) ∈ kX11_gate := qX11_gate_1 _ (List.mem_of_getElem? (i := 7) rfl)
theorem tX11_gate_64 : (64, a_iret false) ∈ kX11_gate := qX11_gate_1 _ (List.mem_of_getElem? (i := 8) rfl)
theorem tX11_gate_65 : (65, a_aload 4 67) ∈ kX11_gate := qX11_gate_1 _ (List.mem_of_getElem? (i := 9) rfl)
theorem tX11_gate_67 : (67, a_iload 1 68) ∈ kX11_gate := qX11_gate_1 _ (List.mem_of_getElem? (i := 10) rfl)
theorem tX11_gate_68 : (68, a_iald 69) ∈ kX11_gate := qX11_gate_1 _ (List.mem_of_getElem? (i := 11) rfl)
theorem tX11_gate_69 : (69, a_istore 5 71) ∈ kX11_gate := qX11_gate_1 _ (List.mem_of_getElem? (i := 12) rfl)
theorem tX11_gate_71 : (71, a_aload 4 73) ∈ kX11_gate := qX11_gate_1 _ (List.mem_of_getElem? (i := 13) rfl)
theorem tX11_gate_73 : (73, a_iload 1 74) ∈ kX11_gate := qX11_gate_1 _ (List.mem_of_getElem? (i := 14) rfl)
theorem tX11_gate_74 : (74, a_iload 3 75) ∈ kX11_gate := qX11_gate_1 _ (List.mem_of_getElem? (i := 15) rfl)
theorem tX11_gate_75 : (75, a_iast 76) ∈ kX11_gate := qX11_gate_1 _ (List.mem_of_getElem? (i := 16) rfl)
theorem tX11_gate_76 : (76, a_iload 5 78) ∈ kX11_gate := qX11_gate_1 _ (List.mem_of_getElem? (i := 17) rfl)
theorem tX11_gate_78 : (78, a_iret false) ∈ kX11_gate := qX11_gate_1 _ (List.mem_of_getElem? (i := 18) rfl)
theorem oX11_gate : ∀ q ∈ kX11_gate, zSnd zty false RX11 cX11_gate 6 (some .int) false q := List.forall_mem_append.mpr ⟨oX11_gate_0, oX11_gate_1⟩
theorem dX11_rule_0 : decode cX11_rule 0 = .ok (.iload_n 1, 1) := by decide +kernel
theorem dX11_rule_1 : decode cX11_rule 1 = .ok (.iload_n 2, 1) := by decide +kernel
theorem dX11_rule_2 : decode cX11_rule 2 = .ok (.invokestatic 219, 3) := by decide +kernel
theorem dX11_rule_5 : decode cX11_rule 5 = .ok (.ifCond .ne 5, 3) := by decide +kernel
theorem dX11_rule_8 : decode cX11_rule 8 = .ok (.iconst (-1), 1) := by decide +kernel
theorem dX11_rule_9 : decode cX11_rule 9 = .ok (.ireturn, 1) := by decide +kernel
theorem dX11_rule_10 : decode cX11_rule 10 = .ok (.aload_n 0, 1) := by decide +kernel
theorem dX11_rule_11 : decode cX11_rule 11 = .ok (.getfield 53, 3) := by decide +kernel
theorem dX11_rule_14 : decode cX11_rule 14 = .ok (.iload_n 1, 1) := by decide +kernel
theorem dX11_rule_15 : decode cX11_rule 15 = .ok (.iload_n 2, 1) := by decide +kernel
theorem dX11_rule_16 : decode cX11_rule 16 = .ok (.invokevirtual 222, 3) := by decide +kernel
theorem dX11_rule_19 : decode cX11_rule 19 = .ok (.ireturn, 1) := by decide +kernel
def kX11_rule_0 : List (Nat × zT) := [(0, a_iload 1 1), (1, a_iload 2 2), (2, a_call 22 2 5 0 0), (5, a_if_ne 10 8), (8, a_i (-1) 9), (9, a_iret false), (10, a_aload 0 11), (11, a_getR 11 7 14), (14, a_iload 1 15), (15, a_iload 2 16), (16, a_callV 2 23 3 19 0 0), (19, a_iret false)]
theorem oX11_rule_0 : ∀ q ∈ kX11_rule_0, zSnd zty false RX11 cX11_rule 3 (some .int) false q := List.forall_mem_cons.mpr ⟨ok_iload_n dX11_rule_0 rfl, List.forall_mem_cons.mpr ⟨ok_iload_n dX11_rule_1 rfl, List.forall_mem_cons.mpr ⟨ok_callS dX11_rule_2 rfl w657 w655 w656 w7 (by decide +kernel) (by decide), List.forall_mem_cons.mpr ⟨ok_if_ne dX11_rule_5 (by decide), List.forall_mem_cons.mpr ⟨ok_iconst dX11_rule_8 (by decide), List.forall_mem_cons.mpr ⟨ok_iret (bz := false) dX11_rule_9 rfl, List.forall_mem_cons.mpr ⟨ok_aload_n dX11_rule_10 rfl, List.forall_mem_cons.mpr ⟨ok_getR dX11_rule_11 rfl in11 (by decide) rfl w344, List.forall_mem_cons.mpr ⟨ok_iload_n dX11_rule_14 rfl, List.forall_mem_cons.mpr ⟨ok_iload_n dX11_rule_15 rfl, List.forall_mem_cons.mpr ⟨ok_callV dX11_rule_16 rfl rfl w666 w663 w664 w7 w665 (by decide +kernel) (by decide), List.forall_mem_cons.mpr ⟨ok_iret (bz := false) dX11_rule_19 rfl, fun _ h => absurd h List.not_mem_nil⟩⟩⟩⟩⟩⟩⟩⟩⟩⟩⟩⟩
def kX11_rule : List (Nat × zT) := kX11_rule_0
theorem qX11_rule_0 : ∀ q ∈ kX11_rule_0, q ∈ kX11_rule := fun _ h => h
theorem tX11_rule_0 : (0, a_iload 1 1) ∈ kX11_rule := qX11_rule_0 _ (List.mem_of_getElem? (i := 0) rfl)
theorem tX11_rule_1 : (1, a_iload 2 2) ∈ kX11_rule := qX11_rule_0 _ (List.mem_of_getElem? (i := 1) rfl)
theorem tX11_rule_2 : (2, a_call 22 2 5 0 0) ∈ kX11_rule := qX11_rule_0 _ (List.mem_of_getElem? (i := 2) rfl)
theorem tX11_rule_5 : (5, a_if_ne 10 8) ∈ kX11_rule := qX11_rule_0 _ (List.mem_of_getElem? (i := 3) rfl)
theorem tX11_rule_8 : (8, a_i (-1) 9) ∈ kX11_rule := qX11_rule_0 _ (List.mem_of_getElem? (i := 4) rfl)
theorem tX11_rule_9 : (9, a_iret false) ∈ kX11_rule := qX11_rule_0 _ (List.mem_of_getElem? (i := 5) rfl)
theorem tX11_rule_10 : (10, a_aload 0 11) ∈ kX11_rule := qX11_rule_0 _ (List.mem_of_getElem? (i := 6) rfl)
theorem tX11_rule_11 : (11, a_getR 11 7 14) ∈ kX11_rule := qX11_rule_0 _ (List.mem_of_getElem? (i := 7) rfl)
theorem tX11_rule_14 : (14, a_iload 1 15) ∈ kX11_rule := qX11_rule_0 _ (List.mem_of_getElem? (i := 8) rfl)
theorem tX11_rule_15 : (15, a_iload 2 16) ∈ kX11_rule := qX11_rule_0 _ (List.mem_of_getElem? (i := 9) rfl)
theorem tX11_rule_16 : (16, a_callV 2 23 3 19 0 0) ∈ kX11_rule := qX11_rule_0 _ (List.mem_of_getElem? (i := 10) rfl)
theorem tX11_rule_19 : (19, a_iret false) ∈ kX11_rule := qX11_rule_0 _ (List.mem_of_getElem? (i := 11) rfl)
theorem oX11_rule : ∀ q ∈ kX11_rule, zSnd zty false RX11 cX11_rule 3 (some .int) false q := oX11_rule_0
theorem dX11_cover_0 : decode cX11_cover 0 = .ok (.iload_n 1, 1) := by decide +kernel
theorem dX11_cover_1 : decode cX11_cover 1 = .ok (.invokestatic 103, 3) := by decide +kernel
theorem dX11_cover_4 : decode cX11_cover 4 = .ok (.ifCond .eq 15, 3) := by decide +kernel
theorem dX11_cover_7 : decode cX11_cover 7 = .ok (.iload_n 2, 1) := by decide +kernel
theorem dX11_cover_8 : decode cX11_cover 8 = .ok (.iconst (-1), 1) := by decide +kernel
theorem dX11_cover_9 : decode cX11_cover 9 = .ok (.if_icmp .eq 12, 3) := by decide +kernel
theorem dX11_cover_12 : decode cX11_cover 12 = .ok (.iload_n 2, 1) := by decide +kernel
theorem dX11_cover_13 : decode cX11_cover 13 = .ok (.invokestatic 143, 3) := by decide +kernel
theorem dX11_cover_16 : decode cX11_cover 16 = .ok (.ifCond .ne 5, 3) := by decide +kernel
theorem dX11_cover_19 : decode cX11_cover 19 = .ok (.iconst (-1), 1) := by decide +kernel
theorem dX11_cover_20 : decode cX11_cover 20 = .ok (.ireturn, 1) := by decide +kernel
theorem dX11_cover_21 : decode cX11_cover 21 = .ok (.iload_n 2, 1) := by decide +kernel
theorem dX11_cover_22 : decode cX11_cover 22 = .ok (.iconst (-1), 1) := by decide +kernel
theorem dX11_cover_23 : decode cX11_cover 23 = .ok (.if_icmp .ne 24, 3) := by decide +kernel
theorem dX11_cover_26 : decode cX11_cover 26 = .ok (.aload_n 0, 1) := by decide +kernel
theorem dX11_cover_27 : decode cX11_cover 27 = .ok (.getfield 60, 3) := by decide +kernel
theorem dX11_cover_30 : decode cX11_cover 30 = .ok (.aload_n 0, 1) := by decide +kernel
theorem dX11_cover_31 : decode cX11_cover 31 = .ok (.getfield 19, 3) := by decide +kernel
theorem dX11_cover_34 : decode cX11_cover 34 = .ok (.iload_n 1, 1) := by decide +kernel
theorem dX11_cover_35 : decode cX11_cover 35 = .ok (.aaload, 1) := by decide +kernel
theorem dX11_cover_36 : decode cX11_cover 36 = .ok (.aload_n 0, 1) := by decide +kernel
theorem dX11_cover_37 : decode cX11_cover 37 = .ok (.getfield 53, 3) := by decide +kernel
theorem dX11_cover_40 : decode cX11_cover 40 = .ok (.getfield 213, 3) := by decide +kernel
theorem dX11_cover_43 : decode cX11_cover 43 = .ok (.invokevirtual 226, 3) := by decide +kernel
theorem dX11_cover_46 : decode cX11_cover 46 = .ok (.ireturn, 1) := by decide +kernel
theorem dX11_cover_47 : decode cX11_cover 47 = .ok (.aload_n 0, 1) := by decide +kernel
theorem dX11_cover_48 : decode cX11_cover 48 = .ok (.getfield 19, 3) := by decide +kernel
theorem dX11_cover_51 : decode cX11_cover 51 = .ok (.iload_n 1, 1) := by decide +kernel
theorem dX11_cover_52 : decode cX11_cover 52 = .ok (.aaload, 1) := by decide +kernel
theorem dX11_cover_53 : decode cX11_cover 53 = .ok (.iload_n 2, 1) := by decide +kernel
theorem dX11_cover_54 : decode cX11_cover 54 = .ok (.invokevirtual 146, 3) := by decide +kernel
theorem dX11_cover_57 : decode cX11_cover 57 = .ok (.ifCond .eq 27, 3) := by decide +kernel
theorem dX11_cover_60 : decode cX11_cover 60 = .ok (.aload_n 0, 1) := by decide +kernel
theorem dX11_cover_61 : decode cX11_cover 61 = .ok (.getfield 60, 3) := by decide +kernel
theorem dX11_cover_64 : decode cX11_cover 64 = .ok (.aload_n 0, 1) := by decide +kernel
theorem dX11_cover_65 : decode cX11_cover 65 = .ok (.getfield 19, 3) := by decide +kernel
theorem dX11_cover_68 : decode cX11_cover 68 = .ok (.iload_n 1, 1) := by decide +kernel
theorem dX11_cover_69 : decode cX11_cover 69 = .ok (.aaload, 1) := by decide +kernel
theorem dX11_cover_70 : decode cX11_cover 70 = .ok (.iload_n 2, 1) := by decide +kernel
theorem dX11_cover_71 : decode cX11_cover 71 = .ok (.aload_n 0, 1) := by decide +kernel
theorem dX11_cover_72 : decode cX11_cover 72 = .ok (.getfield 53, 3) := by decide +kernel
theorem dX11_cover_75 : decode cX11_cover 75 = .ok (.getfield 213, 3) := by decide +kernel
theorem dX11_cover_78 : decode cX11_cover 78 = .ok (.invokevirtual 230, 3) := by decide +kernel
theorem dX11_cover_81 : decode cX11_cover 81 = .ok (.goto 5, 3) := by decide +kernel
theorem dX11_cover_84 : decode cX11_cover 84 = .ok (.bipush (-4), 2) := by decide +kernel
theorem dX11_cover_86 : decode cX11_cover 86 = .ok (.ireturn, 1) := by decide +kernel
def kX11_cover_0 : List (Nat × zT) := [(0, a_iload 1 1), (1, a_call 129 1 4 0 0), (4, a_if_eq 19 7), (7, a_iload 2 8), (8, a_i (-1) 9), (9, a_ic_eq 21 12), (12, a_iload 2 13), (13, a_call 130 1 16 0 0), (16, a_if_ne 21 19), (19, a_i (-1) 20), (20, a_iret false), (21, a_iload 2 22), (22, a_i (-1) 23), (23, a_ic_ne 47 26), (26, a_aload 0 27), (27, a_getR 11 8 30), (30, a_aload 0 31), (31, a_getR 11 1 34), (34, a_iload 1 35), (35, a_aald 36), (36, a_aload 0 37), (37, a_getR 11 7 40), (40, a_getR 2 0 43), (43, a_callV 0 1 3 46 0 0)]
theorem oX11_cover_0 : ∀ q ∈ kX11_cover_0, zSnd zty false RX11 cX11_cover 3 (some .int) false q := List.forall_mem_cons.mpr ⟨ok_iload_n dX11_cover_0 rfl, List.forall_mem_cons.mpr ⟨ok_callS dX11_cover_1 rfl w392 w390 w391 w1 (by decide +kernel) (by decide), List.forall_mem_cons.mpr ⟨ok_if_eq dX11_cover_4 (by decide), List.forall_mem_cons.mpr ⟨ok_iload_n dX11_cover_7 rfl, List.forall_mem_cons.mpr ⟨ok_iconst dX11_cover_8 (by decide), List.forall_mem_cons.mpr ⟨ok_ic_eq dX11_cover_9 (by decide), List.forall_mem_cons.mpr ⟨ok_iload_n dX11_cover_12 rfl, List.forall_mem_cons.mpr ⟨ok_callS dX11_cover_13 rfl w426 w511 w425 w1 (by decide +kernel) (by decide), List.forall_mem_cons.mpr ⟨ok_if_ne dX11_cover_16 (by decide), List.forall_mem_cons.mpr ⟨ok_iconst dX11_cover_19 (by decide), List.forall_mem_cons.mpr ⟨ok_iret (bz := false) dX11_cover_20 rfl, List.forall_mem_cons.mpr ⟨ok_iload_n dX11_cover_21 rfl, List.forall_mem_cons.mpr ⟨ok_iconst dX11_cover_22 (by decide), List.forall_mem_cons.mpr ⟨ok_ic_ne dX11_cover_23 (by decide), List.forall_mem_cons.mpr ⟨ok_aload_n dX11_cover_26 rfl, List.forall_mem_cons.mpr ⟨ok_getR dX11_cover_27 rfl in11 (by decide) rfl w345, List.forall_mem_cons.mpr ⟨ok_aload_n dX11_cover_30 rfl, List.forall_mem_cons.mpr ⟨ok_getR dX11_cover_31 rfl in11 (by decide) rfl w338, List.forall_mem_cons.mpr ⟨ok_iload_n dX11_cover_34 rfl, List.forall_mem_cons.mpr ⟨ok_aald dX11_cover_35, List.forall_mem_cons.mpr ⟨ok_aload_n dX11_cover_36 rfl, List.forall_mem_cons.mpr ⟨ok_getR dX11_cover_37 rfl in11 (by decide) rfl w344, List.forall_mem_cons.mpr ⟨ok_getR dX11_cover_40 rfl in2 (by decide) rfl w190, List.forall_mem_cons.mpr ⟨ok_callV dX11_cover_43 rfl rfl w674 w671 w672 w8 w673 (by decide +kernel) (by decide), fun _ h => absurd h List.not_mem_nil⟩⟩⟩⟩⟩⟩⟩⟩⟩⟩⟩⟩⟩⟩⟩⟩⟩⟩⟩⟩⟩⟩⟩⟩
def kX11_cover_1 : List (Nat × zT) := [(46, a_iret false), (47, a_aload 0 48), (48, a_getR 11 1 51), (51, a_iload 1 52), (52, a_aald 53), (53, a_iload 2 54), (54, a_callV 10 81 2 57 0 0), (57, a_if_eq 84 60), (60, a_aload 0 61), (61, a_getR 11 8 64), (64, a_aload 0 65), (65, a_getR 11 1 68), (68, a_iload 1 69), (69, a_aald 70), (70, a_iload 2 71), (71, a_aload 0 72), (72, a_getR 11 7 75), (75, a_getR 2 0 78), (78, a_callV 0 2 4 81 0 0), (81, a_goto 86), (84, a_i (-4) 86), (86, a_iret false)]
theorem oX11_cover_1 : ∀ q ∈ kX11_cover_1, zSnd zty false RX11 cX11_cover 3 (some .int) false q := List.forall_mem_cons.mpr ⟨ok_iret (bz := false) dX11_cover_46 rfl, List.forall_mem_cons.mpr ⟨ok_aload_n dX11_cover_47 rfl, List.forall_mem_cons.mpr ⟨ok_getR dX11_cover_48 rfl in11 (by decide) rfl w338, List.forall_mem_cons.mpr ⟨ok_iload_n dX11_cover_51 rfl, List.forall_mem_cons.mpr ⟨ok_aald dX11_cover_52, List.forall_mem_cons.mpr ⟨ok_iload_n dX11_cover_53 rfl, List.forall_mem_cons.mpr ⟨ok_callV dX11_cover_54 rfl rfl w430 w512 w428 w3 w429 (by decide +kernel) (by decide), List.forall_mem_cons.mpr ⟨ok_if_eq dX11_cover_57 (by decide), List.forall_mem_cons.mpr ⟨ok_aload_n dX11_cover_60 rfl, List.forall_mem_cons.mpr ⟨ok_getR dX11_cover_61 rfl in11 (by decide) rfl w345, List.forall_mem_cons.mpr ⟨ok_aload_n dX11_cover_64 rfl, List.forall_mem_cons.mpr ⟨ok_getR dX11_cover_65 rfl in11 (by decide) rfl w338, List.forall_mem_cons.mpr ⟨ok_iload_n dX11_cover_68 rfl, List.forall_mem_cons.mpr ⟨ok_aald dX11_cover_69, List.forall_mem_cons.mpr ⟨ok_iload_n dX11_cover_70 rfl, List.forall_mem_cons.mpr ⟨ok_aload_n dX11_cover_71 rfl, List.forall_mem_cons.mpr ⟨ok_getR dX11_cover_72 rfl in11 (by decide) rfl w344, List.forall_mem_cons.mpr ⟨ok_getR dX11_cover_75 rfl in2 (by decide) rfl w190, List.forall_mem_cons.mpr ⟨ok_callV dX11_cover_78 rfl rfl w678 w692 w676 w8 w677 (by decide +kernel) (by decide), List.forall_mem_cons.mpr ⟨ok_goto dX11_cover_81 (by decide), List.forall_mem_cons.mpr ⟨ok_bipush dX11_cover_84 (by decide), List.forall_mem_cons.mpr ⟨ok_iret (bz := false) dX11_cover_86 rfl, fun _ h => absurd h List.not_mem_nil⟩⟩⟩⟩⟩⟩⟩⟩⟩⟩⟩⟩⟩⟩⟩⟩⟩⟩⟩⟩⟩⟩
def kX11_cover : List (Nat × zT) := kX11_cover_0 ++ (kX11_cover_1)
theorem qX11_cover_0 : ∀ q ∈ kX11_cover_0, q ∈ kX11_cover := fun _ h => (List.mem_append_left _ h)
theorem tX11_cover_0 : (0, a_iload 1 1) ∈ kX11_cover := qX11_cover_0 _ (List.mem_of_getElem? (i := 0) rfl)
theorem tX11_cover_1 : (1, a_call 129 1 4 0 0) ∈ kX11_cover := qX11_cover_0 _ (List.mem_of_getElem? (i := 1) rfl)
theorem tX11_cover_4 : (4, a_if_eq 19 7) ∈ kX11_cover := qX11_cover_0 _ (List.mem_of_getElem? (i := 2) rfl)
theorem tX11_cover_7 : (7, a_iload 2 8) ∈ kX11_cover := qX11_cover_0 _ (List.mem_of_getElem? (i := 3) rfl)
theorem tX11_cover_8 : (8, a_i (-1) 9) ∈ kX11_cover := qX11_cover_0 _ (List.mem_of_getElem? (i := 4) rfl)
theorem tX11_cover_9 : (9, a_ic_eq 21 12) ∈ kX11_cover := qX11_cover_0 _ (List.mem_of_getElem? (i := 5) rfl)
theorem tX11_cover_12 : (12, a_iload 2 13) ∈ kX11_cover := qX11_cover_0 _ (List.mem_of_getElem? (i := 6) rfl)
theorem tX11_cover_13 : (13, a_call 130 1 16 0 0) ∈ kX11_cover := qX11_cover_0 _ (List.mem_of_getElem? (i := 7) rfl)
theorem tX11_cover_16 : (16, a_if_ne 21 19) ∈ kX11_cover := qX11_cover_0 _ (List.mem_of_getElem? (i := 8) rfl)
theorem tX11_cover_19 : (19, a_i (-1) 20) ∈ kX11_cover := qX11_cover_0 _ (List.mem_of_getElem? (i := 9) rfl)
theorem tX11_cover_20 : (20, a_iret false) ∈ kX11_cover := qX11_cover_0 _ (List.mem_of_getElem? (i := 10) rfl)
theorem tX11_cover_21 : (21, a_iload 2 22) ∈ kX11_cover := qX11_cover_0 _ (List.mem_of_getElem? (i := 11) rfl)
theorem tX11_cover_22 : (22, a_i (-1) 23) ∈ kX11_cover := qX11_cover_0 _ (List.mem_of_getElem? (i := 12) rfl)
theorem tX11_cover_23 : (23, a_ic_ne 47 26) ∈ kX11_cover := qX11_cover_0 _ (List.mem_of_getElem? (i := 13) rfl)
theorem tX11_cover_26 : (26, a_aload 0 27) ∈ kX11_cover := qX11_cover_0 _ (List.mem_of_getElem? (i := 14) rfl)
theorem tX11_cover_27 : (27, a_getR 11 8 30) ∈ kX11_cover := qX11_cover_0 _ (List.mem_of_getElem? (i := 15) rfl)
theorem tX11_cover_30 : (30, a_aload 0 31) ∈ kX11_cover := qX11_cover_0 _ (List.mem_of_getElem? (i := 16) rfl)
theorem tX11_cover_31 : (31, a_getR 11 1 34) ∈ kX11_cover := qX11_cover_0 _ (List.mem_of_getElem? (i := 17) rfl)
theorem tX11_cover_34 : (34, a_iload 1 35) ∈ kX11_cover := qX11_cover_0 _ (List.mem_of_getElem? (i := 18) rfl)
theorem tX11_cover_35 : (35, a_aald 36) ∈ kX11_cover := qX11_cover_0 _ (List.mem_of_getElem? (i := 19) rfl)
theorem tX11_cover_36 : (36, a_aload 0 37) ∈ kX11_cover := qX11_cover_0 _ (List.mem_of_getElem? (i := 20) rfl)
theorem tX11_cover_37 : (37, a_getR 11 7 40) ∈ kX11_cover := qX11_cover_0 _ (List.mem_of_getElem? (i := 21) rfl)
theorem tX11_cover_40 : (40, a_getR 2 0 43) ∈ kX11_cover := qX11_cover_0 _ (List.mem_of_getElem? (i := 22) rfl)
theorem tX11_cover_43 : (43, a_callV 0 1 3 46 0 0) ∈ kX11_cover := qX11_cover_0 _ (List.mem_of_getElem? (i := 23) rfl)
theorem qX11_cover_1 : ∀ q ∈ kX11_cover_1, q ∈ kX11_cover := fun _ h => (List.mem_append_right _ h)
theorem tX11_cover_46 : (46, a_iret false) ∈ kX11_cover := qX11_cover_1 _ (List.mem_of_getElem? (i := 0) rfl)
theorem tX11_cover_47 : (47, a_aload 0 48) ∈ kX11_cover := qX11_cover_1 _ (List.mem_of_getElem? (i := 1) rfl)
theorem tX11_cover_48 : (48, a_getR 11 1 51) ∈ kX11_cover := qX11_cover_1 _ (List.mem_of_getElem? (i := 2) rfl)
theorem tX11_cover_51 : (51, a_iload 1 52) ∈ kX11_cover := qX11_cover_1 _ (List.mem_of_getElem? (i := 3) rfl)
theorem tX11_cover_52 : (52, a_aald 53) ∈ kX11_cover := qX11_cover_1 _ (List.mem_of_getElem? (i := 4) rfl)
theorem tX11_cover_53 : (53, a_iload 2 54) ∈ kX11_cover := qX11_cover_1 _ (List.mem_of_getElem? (i := 5) rfl)
theorem tX11_cover_54 : (54, a_callV 10 81 2 57 0 0) ∈ kX11_cover := qX11_cover_1 _ (List.mem_of_getElem? (i := 6) rfl)
theorem tX11_cover_57 : (57, a_if_eq 84 60) ∈ kX11_cover := qX11_cover_1 _ (List.mem_of_getElem? (i := 7) rfl)
theorem tX11_cover_60 : (60, a_aload 0 61) ∈ kX11_cover := qX11_cover_1 _ (List.mem_of_getElem? (i := 8) rfl)
theorem tX11_cover_61 : (61, a_getR 11 8 64) ∈ kX11_cover := qX11_cover_1 _ (List.mem_of_getElem? (i := 9) rfl)
theorem tX11_cover_64 : (64, a_aload 0 65) ∈ kX11_cover := qX11_cover_1 _ (List.mem_of_getElem? (i := 10) rfl)
theorem tX11_cover_65 : (65, a_getR 11 1 68) ∈ kX11_cover := qX11_cover_1 _ (List.mem_of_getElem? (i := 11) rfl)
theorem tX11_cover_68 : (68, a_iload 1 69) ∈ kX11_cover := qX11_cover_1 _ (List.mem_of_getElem? (i := 12) rfl)
theorem tX11_cover_69 : (69, a_aald 70) ∈ kX11_cover := qX11_cover_1 _ (List.mem_of_getElem? (i := 13) rfl)
theorem tX11_cover_70 : (70, a_iload 2 71) ∈ kX11_cover := qX11_cover_1 _ (List.mem_of_getElem? (i := 14) rfl)
theorem tX11_cover_71 : (71, a_aload 0 72) ∈ kX11_cover := qX11_cover_1 _ (List.mem_of_getElem? (i := 15) rfl)
theorem tX11_cover_72 : (72, a_getR 11 7 75) ∈ kX11_cover := qX11_cover_1 _ (List.mem_of_getElem? (i := 16) rfl)
theorem tX11_cover_75 : (75, a_getR 2 0 78) ∈ kX11_cover := qX11_cover_1 _ (List.mem_of_getElem? (i := 17) rfl)
theorem tX11_cover_78 : (78, a_callV 0 2 4 81 0 0) ∈ kX11_cover := qX11_cover_1 _ (List.mem_of_getElem? (i := 18) rfl)
theorem tX11_cover_81 : (81, a_goto 86) ∈ kX11_cover := qX11_cover_1 _ (List.mem_of_getElem? (i := 19) rfl)
theorem tX11_cover_84 : (84, a_i (-4) 86) ∈ kX11_cover := qX11_cover_1 _ (List.mem_of_getElem? (i := 20) rfl)
theorem tX11_cover_86 : (86, a_iret false) ∈ kX11_cover := qX11_cover_1 _ (List.mem_of_getElem? (i := 21) rfl)
theorem oX11_cover : ∀ q ∈ kX11_cover, zSnd zty false RX11 cX11_cover 3 (some .int) false q := List.forall_mem_append.mpr ⟨oX11_cover_0, oX11_cover_1⟩
theorem dX11_arrival_0 : decode cX11_arrival 0 = .ok (.iload_n 1, 1) := by decide +kernel
theorem dX11_arrival_1 : decode cX11_arrival 1 = .ok (.invokestatic 103, 3) := by decide +kernel
theorem dX11_arrival_4 : decode cX11_arrival 4 = .ok (.ifCond .eq 20, 3) := by decide +kernel
theorem dX11_arrival_7 : decode cX11_arrival 7 = .ok (.iload_n 2, 1) := by decide +kernel
theorem dX11_arrival_8 : decode cX11_arrival 8 = .ok (.bipush 19, 2) := by decide +kernel
theorem dX11_arrival_10 : decode cX11_arrival 10 = .ok (.invokestatic 168, 3) := by decide +kernel
theorem dX11_arrival_13 : decode cX11_arrival 13 = .ok (.ifCond .eq 11, 3) := by decide +kernel
theorem dX11_arrival_16 : decode cX11_arrival 16 = .ok (.iload_n 3, 1) := by decide +kernel
theorem dX11_arrival_17 : decode cX11_arrival 17 = .ok (.iconst 3, 1) := by decide +kernel
theorem dX11_arrival_18 : decode cX11_arrival 18 = .ok (.invokestatic 168, 3) := by decide +kernel
theorem dX11_arrival_21 : decode cX11_arrival 21 = .ok (.ifCond .ne 5, 3) := by decide +kernel
theorem dX11_arrival_24 : decode cX11_arrival 24 = .ok (.iconst (-1), 1) := by decide +kernel
theorem dX11_arrival_25 : decode cX11_arrival 25 = .ok (.ireturn, 1) := by decide +kernel
theorem dX11_arrival_26 : decode cX11_arrival 26 = .ok (.aload_n 0, 1) := by decide +kernel
theorem dX11_arrival_27 : decode cX11_arrival 27 = .ok (.getfield 67, 3) := by decide +kernel
theorem dX11_arrival_30 : decode cX11_arrival 30 = .ok (.aload_n 0, 1) := by decide +kernel
theorem dX11_arrival_31 : decode cX11_arrival 31 = .ok (.getfield 19, 3) := by decide +kernel
theorem dX11_arrival_34 : decode cX11_arrival 34 = .ok (.iload_n 1, 1) := by decide +kernel
theorem dX11_arrival_35 : decode cX11_arrival 35 = .ok (.aaload, 1) := by decide +kernel
theorem dX11_arrival_36 : decode cX11_arrival 36 = .ok (.aload_n 0, 1) := by decide +kernel
theorem dX11_arrival_37 : decode cX11_arrival 37 = .ok (.getfield 53, 3) := by decide +kernel
theorem dX11_arrival_40 : decode cX11_arrival 40 = .ok (.iload_n 3, 1) := by decide +kernel
theorem dX11_arrival_41 : decode cX11_arrival 41 = .ok (.invokevirtual 234, 3) := by decide +kernel
theorem dX11_arrival_44 : decode cX11_arrival 44 = .ok (.aload_n 0, 1) := by decide +kernel
theorem dX11_arrival_45 : decode cX11_arrival 45 = .ok (.getfield 67, 3) := by decide +kernel
theorem dX11_arrival_48 : decode cX11_arrival 48 = .ok (.getfield 238, 3) := by decide +kernel
theorem dX11_arrival_51 : decode cX11_arrival 51 = .ok (.iload_n 2, 1) := by decide +kernel
theorem dX11_arrival_52 : decode cX11_arrival 52 = .ok (.iaload, 1) := by decide +kernel
theorem dX11_arrival_53 : decode cX11_arrival 53 = .ok (.ireturn, 1) := by decide +kernel
def kX11_arrival_0 : List (Nat × zT) := [(0, a_iload 1 1), (1, a_call 129 1 4 0 0), (4, a_if_eq 24 7), (7, a_iload 2 8), (8, a_i 19 10), (10, a_call 128 2 13 0 0), (13, a_if_eq 24 16), (16, a_iload 3 17), (17, a_i 3 18), (18, a_call 128 2 21 0 0), (21, a_if_ne 26 24), (24, a_i (-1) 25), (25, a_iret false), (26, a_aload 0 27), (27, a_getR 11 9 30), (30, a_aload 0 31), (31, a_getR 11 1 34), (34, a_iload 1 35), (35, a_aald 36), (36, a_aload 0 37), (37, a_getR 11 7 40), (40, a_iload 3 41), (41, a_callV 8 63 4 44 0 0), (44, a_aload 0 45)]
theorem oX11_arrival_0 : ∀ q ∈ kX11_arrival_0, zSnd zty false RX11 cX11_arrival 4 (some .int) false q := List.forall_mem_cons.mpr ⟨ok_iload_n dX11_arrival_0 rfl, List.forall_mem_cons.mpr ⟨ok_callS dX11_arrival_1 rfl w392 w390 w391 w1 (by decide +kernel) (by decide), List.forall_mem_cons.mpr ⟨ok_if_eq dX11_arrival_4 (by decide), List.forall_mem_cons.mpr ⟨ok_iload_n dX11_arrival_7 rfl, List.forall_mem_cons.mpr ⟨ok_bipush dX11_arrival_8 (by decide), List.forall_mem_cons.mpr ⟨ok_callS dX11_arrival_10 rfl w443 w525 w442 w1 (by decide +kernel) (by decide), List.forall_mem_cons.mpr ⟨ok_if_eq dX11_arrival_13 (by decide), List.forall_mem_cons.mpr ⟨ok_iload_n dX11_arrival_16 rfl, List.forall_mem_cons.mpr ⟨ok_iconst dX11_arrival_17 (by decide), List.forall_mem_cons.mpr ⟨ok_callS dX11_arrival_18 rfl w443 w525 w442 w1 (by decide +kernel) (by decide), List.forall_mem_cons.mpr ⟨ok_if_ne dX11_arrival_21 (by decide), List.forall_mem_cons.mpr ⟨ok_iconst dX11_arrival_24 (by decide), List.forall_mem_cons.mpr ⟨ok_iret (bz := false) dX11_arrival_25 rfl, List.forall_mem_cons.mpr ⟨ok_aload_n dX11_arrival_26 rfl, List.forall_mem_cons.mpr ⟨ok_getR dX11_arrival_27 rfl in11 (by decide) rfl w346, List.forall_mem_cons.mpr ⟨ok_aload_n dX11_arrival_30 rfl, List.forall_mem_cons.mpr ⟨ok_getR dX11_arrival_31 rfl in11 (by decide) rfl w338, List.forall_mem_cons.mpr ⟨ok_iload_n dX11_arrival_34 rfl, List.forall_mem_cons.mpr ⟨ok_aald dX11_arrival_35, List.forall_mem_cons.mpr ⟨ok_aload_n dX11_arrival_36 rfl, List.forall_mem_cons.mpr ⟨ok_getR dX11_arrival_37 rfl in11 (by decide) rfl w344, List.forall_mem_cons.mpr ⟨ok_iload_n dX11_arrival_40 rfl, List.forall_mem_cons.mpr ⟨ok_callV dX11_arrival_41 rfl rfl w700 w697 w698 w9 w699 (by decide +kernel) (by decide), List.forall_mem_cons.mpr ⟨ok_aload_n dX11_arrival_44 rfl, fun _ h => absurd h List.not_mem_nil⟩⟩⟩⟩⟩⟩⟩⟩⟩⟩⟩⟩⟩⟩⟩⟩⟩⟩⟩⟩⟩⟩⟩⟩
def kX11_arrival_1 : List (Nat × zT) := [(45, a_getR 11 9 48), (48, a_getR 8 0 51), (51, a_iload 2 52), (52, a_iald 53), (53, a_iret false)]
theorem oX11_arrival_1 : ∀ q ∈ kX11_arrival_1, zSnd zty false RX11 cX11_arrival 4 (some .int) false q := List.forall_mem_cons.mpr ⟨ok_getR dX11_arrival_45 rfl in11 (by decide) rfl w346, List.forall_mem_cons.mpr ⟨ok_getR dX11_arrival_48 rfl in8 (by decide) rfl w221, List.forall_mem_cons.mpr ⟨ok_iload_n dX11_arrival_51 rfl, List.forall_mem_cons.mpr ⟨ok_iald dX11_arrival_52, List.forall_mem_cons.mpr ⟨ok_iret (bz := false) dX11_arrival_53 rfl, fun _ h => absurd h List.not_mem_nil⟩⟩⟩⟩⟩
def kX11_arrival : List (Nat × zT) := kX11_arrival_0 ++ (kX11_arrival_1)
theorem qX11_arrival_0 : ∀ q ∈ kX11_arrival_0, q ∈ kX11_arrival := fun _ h => (List.mem_append_left _ h)
theorem tX11_arrival_0 : (0, a_iload 1 1) ∈ kX11_arrival := qX11_arrival_0 _ (List.mem_of_getElem? (i := 0) rfl)
theorem tX11_arrival_1 : (1, a_call 129 1 4 0 0) ∈ kX11_arrival := qX11_arrival_0 _ (List.mem_of_getElem? (i := 1) rfl)
theorem tX11_arrival_4 : (4, a_if_eq 24 7) ∈ kX11_arrival := qX11_arrival_0 _ (List.mem_of_getElem? (i := 2) rfl)
theorem tX11_arrival_7 : (7, a_iload 2 8) ∈ kX11_arrival := qX11_arrival_0 _ (List.mem_of_getElem? (i := 3) rfl)
theorem tX11_arrival_8 : (8, a_i 19 10) ∈ kX11_arrival := qX11_arrival_0 _ (List.mem_of_getElem? (i := 4) rfl)
theorem tX11_arrival_10 : (10, a_call 128 2 13 0 0) ∈ kX11_arrival := qX11_arrival_0 _ (List.mem_of_getElem? (i := 5) rfl)
theorem tX11_arrival_13 : (13, a_if_eq 24 16) ∈ kX11_arrival := qX11_arrival_0 _ (List.mem_of_getElem? (i := 6) rfl)
theorem tX11_arrival_16 : (16, a_iload 3 17) ∈ kX11_arrival := qX11_arrival_0 _ (List.mem_of_getElem? (i := 7) rfl)
theorem tX11_arrival_17 : (17, a_i 3 18) ∈ kX11_arrival := qX11_arrival_0 _ (List.mem_of_getElem? (i := 8) rfl)
theorem tX11_arrival_18 : (18, a_call 128 2 21 0 0) ∈ kX11_arrival := qX11_arrival_0 _ (List.mem_of_getElem? (i := 9) rfl)
theorem tX11_arrival_21 : (21, a_if_ne 26 24) ∈ kX11_arrival := qX11_arrival_0 _ (List.mem_of_getElem? (i := 10) rfl)
theorem tX11_arrival_24 : (24, a_i (-1) 25) ∈ kX11_arrival := qX11_arrival_0 _ (List.mem_of_getElem? (i := 11) rfl)
theorem tX11_arrival_25 : (25, a_iret false) ∈ kX11_arrival := qX11_arrival_0 _ (List.mem_of_getElem? (i := 12) rfl)
theorem tX11_arrival_26 : (26, a_aload 0 27) ∈ kX11_arrival := qX11_arrival_0 _ (List.mem_of_getElem? (i := 13) rfl)
theorem tX11_arrival_27 : (27, a_getR 11 9 30) ∈ kX11_arrival := qX11_arrival_0 _ (List.mem_of_getElem? (i := 14) rfl)
theorem tX11_arrival_30 : (30, a_aload 0 31) ∈ kX11_arrival := qX11_arrival_0 _ (List.mem_of_getElem? (i := 15) rfl)
theorem tX11_arrival_31 : (31, a_getR 11 1 34) ∈ kX11_arrival := qX11_arrival_0 _ (List.mem_of_getElem? (i := 16) rfl)
theorem tX11_arrival_34 : (34, a_iload 1 35) ∈ kX11_arrival := qX11_arrival_0 _ (List.mem_of_getElem? (i := 17) rfl)
theorem tX11_arrival_35 : (35, a_aald 36) ∈ kX11_arrival := qX11_arrival_0 _ (List.mem_of_getElem? (i := 18) rfl)
theorem tX11_arrival_36 : (36, a_aload 0 37) ∈ kX11_arrival := qX11_arrival_0 _ (List.mem_of_getElem? (i := 19) rfl)
theorem tX11_arrival_37 : (37, a_getR 11 7 40) ∈ kX11_arrival := qX11_arrival_0 _ (List.mem_of_getElem? (i := 20) rfl)
theorem tX11_arrival_40 : (40, a_iload 3 41) ∈ kX11_arrival := qX11_arrival_0 _ (List.mem_of_getElem? (i := 21) rfl)
theorem tX11_arrival_41 : (41, a_callV 8 63 4 44 0 0) ∈ kX11_arrival := qX11_arrival_0 _ (List.mem_of_getElem? (i := 22) rfl)
theorem tX11_arrival_44 : (44, a_aload 0 45) ∈ kX11_arrival := qX11_arrival_0 _ (List.mem_of_getElem? (i := 23) rfl)
theorem qX11_arrival_1 : ∀ q ∈ kX11_arrival_1, q ∈ kX11_arrival := fun _ h => (List.mem_append_right _ h)
theorem tX11_arrival_45 : (45, a_getR 11 9 48) ∈ kX11_arrival := qX11_arrival_1 _ (List.mem_of_getElem? (i := 0) rfl)
theorem tX11_arrival_48 : (48, a_getR 8 0 51) ∈ kX11_arrival := qX11_arrival_1 _ (List.mem_of_getElem? (i := 1) rfl)
theorem tX11_arrival_51 : (51, a_iload 2 52) ∈ kX11_arrival := qX11_arrival_1 _ (List.mem_of_getElem? (i := 2) rfl)
theorem tX11_arrival_52 : (52, a_iald 53) ∈ kX11_arrival := qX11_arrival_1 _ (List.mem_of_getElem? (i := 3) rfl)
theorem tX11_arrival_53 : (53, a_iret false) ∈ kX11_arrival := qX11_arrival_1 _ (List.mem_of_getElem? (i := 4) rfl)
theorem oX11_arrival : ∀ q ∈ kX11_arrival, zSnd zty false RX11 cX11_arrival 4 (some .int) false q := List.forall_mem_append.mpr ⟨oX11_arrival_0, oX11_arrival_1⟩
theorem dX11_worst_0 : decode cX11_worst 0 = .ok (.iload_n 1, 1) := by decide +kernel
theorem dX11_worst_1 : decode cX11_worst 1 = .ok (.invokestatic 103, 3) := by decide +kernel
theorem dX11_worst_4 : decode cX11_worst 4 = .ok (.ifCond .eq 17, 3) := by decide +kernel
theorem dX11_worst_7 : decode cX11_worst 7 = .ok (.iload_n 2, 1) := by decide +kernel
theorem dX11_worst_8 : decode cX11_worst 8 = .ok (.iconst 3, 1) := by decide +kernel
theorem dX11_worst_9 : decode cX11_worst 9 = .ok (.invokestatic 168, 3) := by decide +kernel
theorem dX11_worst_12 : decode cX11_worst 12 = .ok (.ifCond .eq 9, 3) := by decide +kernel
theorem dX11_worst_15 : decode cX11_worst 15 = .ok (.iload_n 3, 1) := by decide +kernel
theorem dX11_worst_16 : decode cX11_worst 16 = .ok (.bipush (-2), 2) := by decide +kernel
theorem dX11_worst_18 : decode cX11_worst 18 = .ok (.if_icmp .ge 7, 3) := by decide +kernel
theorem dX11_worst_21 : decode cX11_worst 21 = .ok (.sipush (-10001), 3) := by decide +kernel
theorem dX11_worst_24 : decode cX11_worst 24 = .ok (.ireturn, 1) := by decide +kernel
theorem dX11_worst_25 : decode cX11_worst 25 = .ok (.aload_n 0, 1) := by decide +kernel
theorem dX11_worst_26 : decode cX11_worst 26 = .ok (.getfield 67, 3) := by decide +kernel
theorem dX11_worst_29 : decode cX11_worst 29 = .ok (.aload_n 0, 1) := by decide +kernel
theorem dX11_worst_30 : decode cX11_worst 30 = .ok (.getfield 19, 3) := by decide +kernel
theorem dX11_worst_33 : decode cX11_worst 33 = .ok (.iload_n 1, 1) := by decide +kernel
theorem dX11_worst_34 : decode cX11_worst 34 = .ok (.aaload, 1) := by decide +kernel
theorem dX11_worst_35 : decode cX11_worst 35 = .ok (.aload_n 0, 1) := by decide +kernel
theorem dX11_worst_36 : decode cX11_worst 36 = .ok (.getfield 53, 3) := by decide +kernel
theorem dX11_worst_39 : decode cX11_worst 39 = .ok (.iload_n 2, 1) := by decide +kernel
theorem dX11_worst_40 : decode cX11_worst 40 = .ok (.invokevirtual 234, 3) := by decide +kernel
theorem dX11_worst_43 : decode cX11_worst 43 = .ok (.aload_n 0, 1) := by decide +kernel
theorem dX11_worst_44 : decode cX11_worst 44 = .ok (.getfield 67, 3) := by decide +kernel
theorem dX11_worst_47 : decode cX11_worst 47 = .ok (.aload_n 0, 1) := by decide +kernel
theorem dX11_worst_48 : decode cX11_worst 48 = .ok (.getfield 19, 3) := by decide +kernel
theorem dX11_worst_51 : decode cX11_worst 51 = .ok (.iload_n 1, 1) := by decide +kernel
theorem dX11_worst_52 : decode cX11_worst 52 = .ok (.aaload, 1) := by decide +kernel
theorem dX11_worst_53 : decode cX11_worst 53 = .ok (.invokevirtual 241, 3) := by decide +kernel
theorem dX11_worst_56 : decode cX11_worst 56 = .ok (.istore 4, 2) := by decide +kernel
theorem dX11_worst_58 : decode cX11_worst 58 = .ok (.iload_n 3, 1) := by decide +kernel
theorem dX11_worst_59 : decode cX11_worst 59 = .ok (.bipush (-2), 2) := by decide +kernel
theorem dX11_worst_61 : decode cX11_worst 61 = .ok (.if_icmp .ne 35, 3) := by decide +kernel
theorem dX11_worst_64 : decode cX11_worst 64 = .ok (.iload 4, 2) := by decide +kernel
theorem dX11_worst_66 : decode cX11_worst 66 = .ok (.bipush (-4), 2) := by decide +kernel
theorem dX11_worst_68 : decode cX11_worst 68 = .ok (.if_icmp .ne 9, 3) := by decide +kernel
theorem dX11_worst_71 : decode cX11_worst 71 = .ok (.sipush (-10000), 3) := by decide +kernel
theorem dX11_worst_74 : decode cX11_worst 74 = .ok (.goto 21, 3) := by decide +kernel
theorem dX11_worst_77 : decode cX11_worst 77 = .ok (.aload_n 0, 1) := by decide +kernel
theorem dX11_worst_78 : decode cX11_worst 78 = .ok (.getfield 53, 3) := by decide +kernel
theorem dX11_worst_81 : decode cX11_worst 81 = .ok (.invokevirtual 245, 3) := by decide +kernel
theorem dX11_worst_84 : decode cX11_worst 84 = .ok (.aload_n 0, 1) := by decide +kernel
theorem dX11_worst_85 : decode cX11_worst 85 = .ok (.getfield 67, 3) := by decide +kernel
theorem dX11_worst_88 : decode cX11_worst 88 = .ok (.getfield 238, 3) := by decide +kernel
theorem dX11_worst_91 : decode cX11_worst 91 = .ok (.iload 4, 2) := by decide +kernel
theorem dX11_worst_93 : decode cX11_worst 93 = .ok (.iaload, 1) := by decide +kernel
theorem dX11_worst_94 : decode cX11_worst 94 = .ok (.isub, 1) := by decide +kernel
theorem dX11_worst_95 : decode cX11_worst 95 = .ok (.ireturn, 1) := by decide +kernel
theorem dX11_worst_96 : decode cX11_worst 96 = .ok (.iload 4, 2) := by decide +kernel
theorem dX11_worst_98 : decode cX11_worst 98 = .ok (.bipush (-4), 2) := by decide +kernel
theorem dX11_worst_100 : decode cX11_worst 100 = .ok (.if_icmp .eq 8, 3) := by decide +kernel
theorem dX11_worst_103 : decode cX11_worst 103 = .ok (.iload_n 3, 1) := by decide +kernel
theorem dX11_worst_104 : decode cX11_worst 104 = .ok (.iconst (-1), 1) := by decide +kernel
theorem dX11_worst_105 : decode cX11_worst 105 = .ok (.if_icmp .ne 6, 3) := by decide +kernel
theorem dX11_worst_108 : decode cX11_worst 108 = .ok (.iload 4, 2) := by decide +kernel
theorem dX11_worst_110 : decode cX11_worst 110 = .ok (.ireturn, 1) := by decide +kernel
theorem dX11_worst_111 : decode cX11_worst 111 = .ok (.aload_n 0, 1) := by decide +kernel
theorem dX11_worst_112 : decode cX11_worst 112 = .ok (.getfield 67, 3) := by decide +kernel
theorem dX11_worst_115 : decode cX11_worst 115 = .ok (.iload 4, 2) := by decide +kernel
theorem dX11_worst_117 : decode cX11_worst 117 = .ok (.iload_n 3, 1) := by decide +kernel
theorem dX11_worst_118 : decode cX11_worst 118 = .ok (.invokevirtual 248, 3) := by decide +kernel
theorem dX11_worst_121 : decode cX11_worst 121 = .ok (.ireturn, 1) := by decide +kernel
def kX11_worst_0 : List (Nat × zT) := [(0, a_iload 1 1), (1, a_call 129 1 4 0 0), (4, a_if_eq 21 7), (7, a_iload 2 8), (8, a_i 3 9), (9, a_call 128 2 12 0 0), (12, a_if_eq 21 15), (15, a_iload 3 16), (16, a_i (-2) 18), (18, a_ic_ge 25 21), (21, a_i (-10001) 24), (24, a_iret false), (25, a_aload 0 26), (26, a_getR 11 9 29), (29, a_aload 0 30), (30, a_getR 11 1 33), (33, a_iload 1 34), (34, a_aald 35), (35, a_aload 0 36), (36, a_getR 11 7 39), (39, a_iload 2 40), (40, a_callV 8 63 4 43 0 0), (43, a_aload 0 44), (44, a_getR 11 9 47)]
theorem oX11_worst_0 : ∀ q ∈ kX11_worst_0, zSnd zty false RX11 cX11_worst 5 (some .int) false q := List.forall_mem_cons.mpr ⟨ok_iload_n dX11_worst_0 rfl, List.forall_mem_cons.mpr ⟨ok_callS dX11_worst_1 rfl w392 w390 w391 w1 (by decide +kernel) (by decide), List.forall_mem_cons.mpr ⟨ok_if_eq dX11_worst_4 (by decide), List.forall_mem_cons.mpr ⟨ok_iload_n dX11_worst_7 rfl, List.forall_mem_cons.mpr ⟨ok_iconst dX11_worst_8 (by decide), List.forall_mem_cons.mpr ⟨ok_callS dX11_worst_9 rfl w443 w525 w442 w1 (by decide +kernel) (by decide), List.forall_mem_cons.mpr ⟨ok_if_eq dX11_worst_12 (by decide), List.forall_mem_cons.mpr ⟨ok_iload_n dX11_worst_15 rfl, List.forall_mem_cons.mpr ⟨ok_bipush dX11_worst_16 (by decide), List.forall_mem_cons.mpr ⟨ok_ic_ge dX11_worst_18 (by decide), List.forall_mem_cons.mpr ⟨ok_sipush dX11_worst_21 (by decide), List.forall_mem_cons.mpr ⟨ok_iret (bz := false) dX11_worst_24 rfl, List.forall_mem_cons.mpr ⟨ok_aload_n dX11_worst_25 rfl, List.forall_mem_cons.mpr ⟨ok_getR dX11_worst_26 rfl in11 (by decide) rfl w346, List.forall_mem_cons.mpr ⟨ok_aload_n dX11_worst_29 rfl, List.forall_mem_cons.mpr ⟨ok_getR dX11_worst_30 rfl in11 (by decide) rfl w338, List.forall_mem_cons.mpr ⟨ok_iload_n dX11_worst_33 rfl, List.forall_mem_cons.mpr ⟨ok_aald dX11_worst_34, List.forall_mem_cons.mpr ⟨ok_aload_n dX11_worst_35 rfl, List.forall_mem_cons.mpr ⟨ok_getR dX11_worst_36 rfl in11 (by decide) rfl w344, List.forall_mem_cons.mpr ⟨ok_iload_n dX11_worst_39 rfl, List.forall_mem_cons.mpr ⟨ok_callV dX11_worst_40 rfl rfl w700 w697 w698 w9 w699 (by decide +kernel) (by decide), List.forall_mem_cons.mpr ⟨ok_aload_n dX11_worst_43 rfl, List.forall_mem_cons.mpr ⟨ok_getR dX11_worst_44 rfl in11 (by decide) rfl w346, fun _ h => absurd h List.not_mem_nil⟩⟩⟩⟩⟩⟩⟩⟩⟩⟩⟩⟩⟩⟩⟩⟩⟩⟩⟩⟩⟩⟩⟩⟩
def kX11_worst_1 : List (Nat × zT) := [(47, a_aload 0 48), (48, a_getR 11 1 51), (51, a_iload 1 52), (52, a_aald 53), (53, a_callV 8 66 2 56 0 0), (56, a_istore 4 58), (58, a_iload 3 59), (59, a_i (-2) 61), (61, a_ic_ne 96 64), (64, a_iload 4 66), (66, a_i (-4) 68), (68, a_ic_ne 77 71), (71, a_i (-10000) 74), (74, a_goto 95), (77, a_aload 0 78), (78, a_getR 11 7 81), (81, a_callV 2 25 1 84 0 0), (84, a_aload 0 85), (85, a_getR 11 9 88), (88, a_getR 8 0 91), (91, a_iload 4 93), (93, a_iald 94), (94, a_ii (fun x y => x - y) 95), (95, a_iret false)]
theorem oX11_worst_1 : ∀ q ∈ kX11_worst_1, zSnd zty false RX11 cX11_worst 5 (some .int) false q := List.forall_mem_cons.mpr ⟨ok_aload_n dX11_worst_47 rfl, List.forall_mem_cons.mpr ⟨ok_getR dX11_worst_48 rfl in11 (by decide) rfl w338, List.forall_mem_cons.mpr ⟨ok_iload_n dX11_worst_51 rfl, List.forall_mem_cons.mpr ⟨ok_aald dX11_worst_52, List.forall_mem_cons.mpr ⟨ok_callV dX11_worst_53 rfl rfl w731 w728 w729 w9 w730 (by decide +kernel) (by decide), List.forall_mem_cons.mpr ⟨ok_istore dX11_worst_56 (by decide), List.forall_mem_cons.mpr ⟨ok_iload_n dX11_worst_58 rfl, List.forall_mem_cons.mpr ⟨ok_bipush dX11_worst_59 (by decide), List.forall_mem_cons.mpr ⟨ok_ic_ne dX11_worst_61 (by decide), List.forall_mem_cons.mpr ⟨ok_iload dX11_worst_64, List.forall_mem_cons.mpr ⟨ok_bipush dX11_worst_66 (by decide), List.forall_mem_cons.mpr ⟨ok_ic_ne dX11_worst_68 (by decide), List.forall_mem_cons.mpr ⟨ok_sipush dX11_worst_71 (by decide), List.forall_mem_cons.mpr ⟨ok_goto dX11_worst_74 (by decide), List.forall_mem_cons.mpr ⟨ok_aload_n dX11_worst_77 rfl, List.forall_mem_cons.mpr ⟨ok_getR dX11_worst_78 rfl in11 (by decide) rfl w344, List.forall_mem_cons.mpr ⟨ok_callV dX11_worst_81 rfl rfl w736 w733 w734 w7 w735 (by decide +kernel) (by decide), List.forall_mem_cons.mpr ⟨ok_aload_n dX11_worst_84 rfl, List.forall_mem_cons.mpr ⟨ok_getR dX11_worst_85 rfl in11 (by decide) rfl w346, List.forall_mem_cons.mpr ⟨ok_getR dX11_worst_88 rfl in8 (by decide) rfl w221, List.forall_mem_cons.mpr ⟨ok_iload dX11_worst_91, List.forall_mem_cons.mpr ⟨ok_iald dX11_worst_93, List.forall_mem_cons.mpr ⟨ok_isub dX11_worst_94, List.forall_mem_cons.mpr ⟨ok_iret (bz := false) dX11_worst_95 rfl, fun _ h => absurd h List.not_mem_nil⟩⟩⟩⟩⟩⟩⟩⟩⟩⟩⟩⟩⟩⟩⟩⟩⟩⟩⟩⟩⟩⟩⟩⟩
def kX11_worst_2 : List (Nat × zT) := [(96, a_iload 4 98), (98, a_i (-4) 100), (100, a_ic_eq 108 103), (103, a_iload 3 104), (104, a_i (-1) 105), (105, a_ic_ne 111 108), (108, a_iload 4 110), (110, a_iret false), (111, a_aload 0 112), (112, a_getR 11 9 115), (115, a_iload 4 117), (117, a_iload 3 118), (118, a_callV 8 67 3 121 0 0), (121, a_iret false)]
theorem oX11_worst_2 : ∀ q ∈ kX11_worst_2, zSnd zty false RX11 cX11_worst 5 (some .int) false q := List.forall_mem_cons.mpr ⟨ok_iload dX11_worst_96, List.forall_mem_cons.mpr ⟨ok_bipush dX11_worst_98 (by decide), List.forall_mem_cons.mpr ⟨ok_ic_eq dX11_worst_100 (by decide), List.forall_mem_cons.mpr ⟨ok_iload_n dX11_worst_103 rfl, List.forall_mem_cons.mpr ⟨ok_iconst dX11_worst_104 (by decide), List.forall_mem_cons.mpr ⟨ok_ic_ne dX11_worst_105 (by decide), List.forall_mem_cons.mpr ⟨ok_iload dX11_worst_108, List.forall_mem_cons.mpr ⟨ok_iret (bz := false) dX11_worst_110 rfl, List.forall_mem_cons.mpr ⟨ok_aload_n dX11_worst_111 rfl, List.forall_mem_cons.mpr ⟨ok_getR dX11_worst_112 rfl in11 (by decide) rfl w346, List.forall_mem_cons.mpr ⟨ok_iload dX11_worst_115, List.forall_mem_cons.mpr ⟨ok_iload_n dX11_worst_117 rfl, List.forall_mem_cons.mpr ⟨ok_callV dX11_worst_118 rfl rfl w740 w737 w738 w9 w739 (by decide +kernel) (by decide), List.forall_mem_cons.mpr ⟨ok_iret (bz := false) dX11_worst_121 rfl, fun _ h => absurd h List.not_mem_nil⟩⟩⟩⟩⟩⟩⟩⟩⟩⟩⟩⟩⟩⟩
def kX11_worst : List (Nat × zT) := kX11_worst_0 ++ (kX11_worst_1 ++ (kX11_worst_2))
theorem qX11_worst_0 : ∀ q ∈ kX11_worst_0, q ∈ kX11_worst := fun _ h => (List.mem_append_left _ h)
theorem tX11_worst_0 : (0, a_iload 1 1) ∈ kX11_worst := qX11_worst_0 _ (List.mem_of_getElem? (i := 0) rfl)
theorem tX11_worst_1 : (1, a_call 129 1 4 0 0) ∈ kX11_worst := qX11_worst_0 _ (List.mem_of_getElem? (i := 1) rfl)
theorem tX11_worst_4 : (4, a_if_eq 21 7) ∈ kX11_worst := qX11_worst_0 _ (List.mem_of_getElem? (i := 2) rfl)
theorem tX11_worst_7 : (7, a_iload 2 8) ∈ kX11_worst := qX11_worst_0 _ (List.mem_of_getElem? (i := 3) rfl)
theorem tX11_worst_8 : (8, a_i 3 9) ∈ kX11_worst := qX11_worst_0 _ (List.mem_of_getElem? (i := 4) rfl)
theorem tX11_worst_9 : (9, a_call 128 2 12 0 0) ∈ kX11_worst := qX11_worst_0 _ (List.mem_of_getElem? (i := 5) rfl)
theorem tX11_worst_12 : (12, a_if_eq 21 15) ∈ kX11_worst := qX11_worst_0 _ (List.mem_of_getElem? (i := 6) rfl)
theorem tX11_worst_15 : (15, a_iload 3 16) ∈ kX11_worst := qX11_worst_0 _ (List.mem_of_getElem? (i := 7) rfl)
theorem tX11_worst_16 : (16, a_i (-2) 18) ∈ kX11_worst := qX11_worst_0 _ (List.mem_of_getElem? (i := 8) rfl)
theorem tX11_worst_18 : (18, a_ic_ge 25 21) ∈ kX11_worst := qX11_worst_0 _ (List.mem_of_getElem? (i := 9) rfl)
theorem tX11_worst_21 : (21, a_i (-10001) 24) ∈ kX11_worst := qX11_worst_0 _ (List.mem_of_getElem? (i := 10) rfl)
theorem tX11_worst_24 : (24, a_iret false) ∈ kX11_worst := qX11_worst_0 _ (List.mem_of_getElem? (i := 11) rfl)
theorem tX11_worst_25 : (25, a_aload 0 26) ∈ kX11_worst := qX11_worst_0 _ (List.mem_of_getElem? (i := 12) rfl)
theorem tX11_worst_26 : (26, a_getR 11 9 29) ∈ kX11_worst := qX11_worst_0 _ (List.mem_of_getElem? (i := 13) rfl)
theorem tX11_worst_29 : (29, a_aload 0 30) ∈ kX11_worst := qX11_worst_0 _ (List.mem_of_getElem? (i := 14) rfl)
theorem tX11_worst_30 : (30, a_getR 11 1 33) ∈ kX11_worst := qX11_worst_0 _ (List.mem_of_getElem? (i := 15) rfl)
theorem tX11_worst_33 : (33, a_iload 1 34) ∈ kX11_worst := qX11_worst_0 _ (List.mem_of_getElem? (i := 16) rfl)
theorem tX11_worst_34 : (34, a_aald 35) ∈ kX11_worst := qX11_worst_0 _ (List.mem_of_getElem? (i := 17) rfl)
theorem tX11_worst_35 : (35, a_aload 0 36) ∈ kX11_worst := qX11_worst_0 _ (List.mem_of_getElem? (i := 18) rfl)
theorem tX11_worst_36 : (36, a_getR 11 7 39) ∈ kX11_worst := qX11_worst_0 _ (List.mem_of_getElem? (i := 19) rfl)
theorem tX11_worst_39 : (39, a_iload 2 40) ∈ kX11_worst := qX11_worst_0 _ (List.mem_of_getElem? (i := 20) rfl)
theorem tX11_worst_40 : (40, a_callV 8 63 4 43 0 0) ∈ kX11_worst := qX11_worst_0 _ (List.mem_of_getElem? (i := 21) rfl)
theorem tX11_worst_43 : (43, a_aload 0 44) ∈ kX11_worst := qX11_worst_0 _ (List.mem_of_getElem? (i := 22) rfl)
theorem tX11_worst_44 : (44, a_getR 11 9 47) ∈ kX11_worst := qX11_worst_0 _ (List.mem_of_getElem? (i := 23) rfl)
theorem qX11_worst_1 : ∀ q ∈ kX11_worst_1, q ∈ kX11_worst := fun _ h => (List.mem_append_right _ (List.mem_append_left _ h))
theorem tX11_worst_47 : (47, a_aload 0 48) ∈ kX11_worst := qX11_worst_1 _ (List.mem_of_getElem? (i := 0) rfl)
theorem tX11_worst_48 : (48, a_getR 11 1 51) ∈ kX11_worst := qX11_worst_1 _ (List.mem_of_getElem? (i := 1) rfl)
theorem tX11_worst_51 : (51, a_iload 1 52) ∈ kX11_worst := qX11_worst_1 _ (List.mem_of_getElem? (i := 2) rfl)
theorem tX11_worst_52 : (52, a_aald 53) ∈ kX11_worst := qX11_worst_1 _ (List.mem_of_getElem? (i := 3) rfl)
theorem tX11_worst_53 : (53, a_callV 8 66 2 56 0 0) ∈ kX11_worst := qX11_worst_1 _ (List.mem_of_getElem? (i := 4) rfl)
theorem tX11_worst_56 : (56, a_istore 4 58) ∈ kX11_worst := qX11_worst_1 _ (List.mem_of_getElem? (i := 5) rfl)
theorem tX11_worst_58 : (58, a_iload 3 59) ∈ kX11_worst := qX11_worst_1 _ (List.mem_of_getElem? (i := 6) rfl)
theorem tX11_worst_59 : (59, a_i (-2) 61) ∈ kX11_worst := qX11_worst_1 _ (List.mem_of_getElem? (i := 7) rfl)
theorem tX11_worst_61 : (61, a_ic_ne 96 64) ∈ kX11_worst := qX11_worst_1 _ (List.mem_of_getElem? (i := 8) rfl)
theorem tX11_worst_64 : (64, a_iload 4 66) ∈ kX11_worst := qX11_worst_1 _ (List.mem_of_getElem? (i := 9) rfl)
theorem tX11_worst_66 : (66, a_i (-4) 68) ∈ kX11_worst := qX11_worst_1 _ (List.mem_of_getElem? (i := 10) rfl)
theorem tX11_worst_68 : (68, a_ic_ne 77 71) ∈ kX11_worst := qX11_worst_1 _ (List.mem_of_getElem? (i := 11) rfl)
theorem tX11_worst_71 : (71, a_i (-10000) 74) ∈ kX11_worst := qX11_worst_1 _ (List.mem_of_getElem? (i := 12) rfl)
theorem tX11_worst_74 : (74, a_goto 95) ∈ kX11_worst := qX11_worst_1 _ (List.mem_of_getElem? (i := 13) rfl)
theorem tX11_worst_77 : (77, a_aload 0 78) ∈ kX11_worst := qX11_worst_1 _ (List.mem_of_getElem? (i := 14) rfl)
theorem tX11_worst_78 : (78, a_getR 11 7 81) ∈ kX11_worst := qX11_worst_1 _ (List.mem_of_getElem? (i := 15) rfl)
theorem tX11_worst_81 : (81, a_callV 2 25 1 84 0 0) ∈ kX11_worst := qX11_worst_1 _ (List.mem_of_getElem? (i := 16) rfl)
theorem tX11_worst_84 : (84, a_aload 0 85) ∈ kX11_worst := qX11_worst_1 _ (List.mem_of_getElem? (i := 17) rfl)
theorem tX11_worst_85 : (85, a_getR 11 9 88) ∈ kX11_worst := qX11_worst_1 _ (List.mem_of_getElem? (i := 18) rfl)
theorem tX11_worst_88 : (88, a_getR 8 0 91) ∈ kX11_worst := qX11_worst_1 _ (List.mem_of_getElem? (i := 19) rfl)
theorem tX11_worst_91 : (91, a_iload 4 93) ∈ kX11_worst := qX11_worst_1 _ (List.mem_of_getElem? (i := 20) rfl)
theorem tX11_worst_93 : (93, a_iald 94) ∈ kX11_worst := qX11_worst_1 _ (List.mem_of_getElem? (i := 21) rfl)
theorem tX11_worst_94 : (94, a_ii (fun x y => x - y) 95) ∈ kX11_worst := qX11_worst_1 _ (List.mem_of_getElem? (i := 22) rfl)
theorem tX11_worst_95 : (95, a_iret false) ∈ kX11_worst := qX11_worst_1 _ (List.mem_of_getElem? (i := 23) rfl)
theorem qX11_worst_2 : ∀ q ∈ kX11_worst_2, q ∈ kX11_worst := fun _ h => (List.mem_append_right _ (List.mem_append_right _ h))
theorem tX11_worst_96 : (96, a_iload 4 98) ∈ kX11_worst := qX11_worst_2 _ (List.mem_of_getElem? (i := 0) rfl)
theorem tX11_worst_98 : (98, a_i (-4) 100) ∈ kX11_worst := qX11_worst_2 _ (List.mem_of_getElem? (i := 1) rfl)
theorem tX11_worst_100 : (100, a_ic_eq 108 103) ∈ kX11_worst := qX11_worst_2 _ (List.mem_of_getElem? (i := 2) rfl)
theorem tX11_worst_103 : (103, a_iload 3 104) ∈ kX11_worst := qX11_worst_2 _ (List.mem_of_getElem? (i := 3) rfl)
theorem tX11_worst_104 : (104, a_i (-1) 105) ∈ kX11_worst := qX11_worst_2 _ (List.mem_of_getElem? (i := 4) rfl)
theorem tX11_worst_105 : (105, a_ic_ne 111 108) ∈ kX11_worst := qX11_worst_2 _ (List.mem_of_getElem? (i := 5) rfl)
theorem tX11_worst_108 : (108, a_iload 4 110) ∈ kX11_worst := qX11_worst_2 _ (List.mem_of_getElem? (i := 6) rfl)
theorem tX11_worst_110 : (110, a_iret false) ∈ kX11_worst := qX11_worst_2 _ (List.mem_of_getElem? (i := 7) rfl)
theorem tX11_worst_111 : (111, a_aload 0 112) ∈ kX11_worst := qX11_worst_2 _ (List.mem_of_getElem? (i := 8) rfl)
theorem tX11_worst_112 : (112, a_getR 11 9 115) ∈ kX11_worst := qX11_worst_2 _ (List.mem_of_getElem? (i := 9) rfl)
theorem tX11_worst_115 : (115, a_iload 4 117) ∈ kX11_worst := qX11_worst_2 _ (List.mem_of_getElem? (i := 10) rfl)
theorem tX11_worst_117 : (117, a_iload 3 118) ∈ kX11_worst := qX11_worst_2 _ (List.mem_of_getElem? (i := 11) rfl)
theorem tX11_worst_118 : (118, a_callV 8 67 3 121 0 0) ∈ kX11_worst := qX11_worst_2 _ (List.mem_of_getElem? (i := 12) rfl)
theorem tX11_worst_121 : (121, a_iret false) ∈ kX11_worst := qX11_worst_2 _ (List.mem_of_getElem? (i := 13) rfl)
theorem oX11_worst : ∀ q ∈ kX11_worst, zSnd zty false RX11 cX11_worst 5 (some .int) false q := List.forall_mem_append.mpr ⟨oX11_worst_0, List.forall_mem_append.mpr ⟨oX11_worst_1, oX11_worst_2⟩⟩
theorem dX11_block_0 : decode cX11_block 0 = .ok (.aload_n 0, 1) := by decide +kernel
theorem dX11_block_1 : decode cX11_block 1 = .ok (.getfield 74, 3) := by decide +kernel
theorem dX11_block_4 : decode cX11_block 4 = .ok (.invokevirtual 251, 3) := by decide +kernel
theorem dX11_block_7 : decode cX11_block 7 = .ok (.ireturn, 1) := by decide +kernel
def kX11_block_0 : List (Nat × zT) := [(0, a_aload 0 1), (1, a_getR 11 10 4), (4, a_callV 1 6 1 7 0 0), (7, a_iret false)]
theorem oX11_block_0 : ∀ q ∈ kX11_block_0, zSnd zty false RX11 cX11_block 1 (some .int) false q := List.forall_mem_cons.mpr ⟨ok_aload_n dX11_block_0 rfl, List.forall_mem_cons.mpr ⟨ok_getR dX11_block_1 rfl in11 (by decide) rfl w347, List.forall_mem_cons.mpr ⟨ok_callV dX11_block_4 rfl rfl w748 w745 w746 w10 w747 (by decide +kernel) (by decide), List.forall_mem_cons.mpr ⟨ok_iret (bz := false) dX11_block_7 rfl, fun _ h => absurd h List.not_mem_nil⟩⟩⟩⟩
def kX11_block : List (Nat × zT) := kX11_block_0
theorem qX11_block_0 : ∀ q ∈ kX11_block_0, q ∈ kX11_block := fun _ h => h
theorem tX11_block_0 : (0, a_aload 0 1) ∈ kX11_block := qX11_block_0 _ (List.mem_of_getElem? (i := 0) rfl)
theorem tX11_block_1 : (1, a_getR 11 10 4) ∈ kX11_block := qX11_block_0 _ (List.mem_of_getElem? (i := 1) rfl)
theorem tX11_block_4 : (4, a_callV 1 6 1 7 0 0) ∈ kX11_block := qX11_block_0 _ (List.mem_of_getElem? (i := 2) rfl)
theorem tX11_block_7 : (7, a_iret false) ∈ kX11_block := qX11_block_0 _ (List.mem_of_getElem? (i := 3) rfl)
theorem oX11_block : ∀ q ∈ kX11_block, zSnd zty false RX11 cX11_block 1 (some .int) false q := oX11_block_0
theorem dX11_net_0 : decode cX11_net 0 = .ok (.aload_n 0, 1) := by decide +kernel
theorem dX11_net_1 : decode cX11_net 1 = .ok (.getfield 74, 3) := by decide +kernel
theorem dX11_net_4 : decode cX11_net 4 = .ok (.iload_n 1, 1) := by decide +kernel
theorem dX11_net_5 : decode cX11_net 5 = .ok (.invokevirtual 254, 3) := by decide +kernel
theorem dX11_net_8 : decode cX11_net 8 = .ok (.ifCond .eq 11, 3) := by decide +kernel
theorem dX11_net_11 : decode cX11_net 11 = .ok (.iload_n 1, 1) := by decide +kernel
theorem dX11_net_12 : decode cX11_net 12 = .ok (.invokestatic 257, 3) := by decide +kernel
theorem dX11_net_15 : decode cX11_net 15 = .ok (.iconst 2, 1) := by decide +kernel
theorem dX11_net_16 : decode cX11_net 16 = .ok (.if_icmp .ge 5, 3) := by decide +kernel
theorem dX11_net_19 : decode cX11_net 19 = .ok (.iconst (-1), 1) := by decide +kernel
theorem dX11_net_20 : decode cX11_net 20 = .ok (.ireturn, 1) := by decide +kernel
theorem dX11_net_21 : decode cX11_net 21 = .ok (.aload_n 0, 1) := by decide +kernel
theorem dX11_net_22 : decode cX11_net 22 = .ok (.getfield 74, 3) := by decide +kernel
theorem dX11_net_25 : decode cX11_net 25 = .ok (.iload_n 1, 1) := by decide +kernel
theorem dX11_net_26 : decode cX11_net 26 = .ok (.invokevirtual 262, 3) := by decide +kernel
theorem dX11_net_29 : decode cX11_net 29 = .ok (.ireturn, 1) := by decide +kernel
def kX11_net_0 : List (Nat × zT) := [(0, a_aload 0 1), (1, a_getR 11 10 4), (4, a_iload 1 5), (5, a_callV 1 7 2 8 0 0), (8, a_if_eq 19 11), (11, a_iload 1 12), (12, a_call 217 1 15 0 0), (15, a_i 2 16), (16, a_ic_ge 21 19), (19, a_i (-1) 20), (20, a_iret false), (21, a_aload 0 22), (22, a_getR 11 10 25), (25, a_iload 1 26), (26, a_callV 1 8 2 29 0 0), (29, a_iret false)]
theorem oX11_net_0 : ∀ q ∈ kX11_net_0, zSnd zty false RX11 cX11_net 2 (some .int) false q := List.forall_mem_cons.mpr ⟨ok_aload_n dX11_net_0 rfl, List.forall_mem_cons.mpr ⟨ok_getR dX11_net_1 rfl in11 (by decide) rfl w347, List.forall_mem_cons.mpr ⟨ok_iload_n dX11_net_4 rfl, List.forall_mem_cons.mpr ⟨ok_callV dX11_net_5 rfl rfl w762 w759 w760 w10 w761 (by decide +kernel) (by decide), List.forall_mem_cons.mpr ⟨ok_if_eq dX11_net_8 (by decide), List.forall_mem_cons.mpr ⟨ok_iload_n dX11_net_11 rfl, List.forall_mem_cons.mpr ⟨ok_callS dX11_net_12 rfl w488 w764 w487 w15 (by decide +kernel) (by decide), List.forall_mem_cons.mpr ⟨ok_iconst dX11_net_15 (by decide), List.forall_mem_cons.mpr ⟨ok_ic_ge dX11_net_16 (by decide), List.forall_mem_cons.mpr ⟨ok_iconst dX11_net_19 (by decide), List.forall_mem_cons.mpr ⟨ok_iret (bz := false) dX11_net_20 rfl, List.forall_mem_cons.mpr ⟨ok_aload_n dX11_net_21 rfl, List.forall_mem_cons.mpr ⟨ok_getR dX11_net_22 rfl in11 (by decide) rfl w347, List.forall_mem_cons.mpr ⟨ok_iload_n dX11_net_25 rfl, List.forall_mem_cons.mpr ⟨ok_callV dX11_net_26 rfl rfl w768 w765 w766 w10 w767 (by decide +kernel) (by decide), List.forall_mem_cons.mpr ⟨ok_iret (bz := false) dX11_net_29 rfl, fun _ h => absurd h List.not_mem_nil⟩⟩⟩⟩⟩⟩⟩⟩⟩⟩⟩⟩⟩⟩⟩⟩
def kX11_net : List (Nat × zT) := kX11_net_0
theorem qX11_net_0 : ∀ q ∈ kX11_net_0, q ∈ kX11_net := fun _ h => h
theorem tX11_net_0 : (0, a_aload 0 1) ∈ kX11_net := qX11_net_0 _ (List.mem_of_getElem? (i := 0) rfl)
theorem tX11_net_1 : (1, a_getR 11 10 4) ∈ kX11_net := qX11_net_0 _ (List.mem_of_getElem? (i := 1) rfl)
theorem tX11_net_4 : (4, a_iload 1 5) ∈ kX11_net := qX11_net_0 _ (List.mem_of_getElem? (i := 2) rfl)
theorem tX11_net_5 : (5, a_callV 1 7 2 8 0 0) ∈ kX11_net := qX11_net_0 _ (List.mem_of_getElem? (i := 3) rfl)
theorem tX11_net_8 : (8, a_if_eq 19 11) ∈ kX11_net := qX11_net_0 _ (List.mem_of_getElem? (i := 4) rfl)
theorem tX11_net_11 : (11, a_iload 1 12) ∈ kX11_net := qX11_net_0 _ (List.mem_of_getElem? (i := 5) rfl)
theorem tX11_net_12 : (12, a_call 217 1 15 0 0) ∈ kX11_net := qX11_net_0 _ (List.mem_of_getElem? (i := 6) rfl)
theorem tX11_net_15 : (15, a_i 2 16) ∈ kX11_net := qX11_net_0 _ (List.mem_of_getElem? (i := 7) rfl)
theorem tX11_net_16 : (16, a_ic_ge 21 19) ∈ kX11_net := qX11_net_0 _ (List.mem_of_getElem? (i := 8) rfl)
theorem tX11_net_19 : (19, a_i (-1) 20) ∈ kX11_net := qX11_net_0 _ (List.mem_of_getElem? (i := 9) rfl)
theorem tX11_net_20 : (20, a_iret false) ∈ kX11_net := qX11_net_0 _ (List.mem_of_getElem? (i := 10) rfl)
theorem tX11_net_21 : (21, a_aload 0 22) ∈ kX11_net := qX11_net_0 _ (List.mem_of_getElem? (i := 11) rfl)
theorem tX11_net_22 : (22, a_getR 11 10 25) ∈ kX11_net := qX11_net_0 _ (List.mem_of_getElem? (i := 12) rfl)
theorem tX11_net_25 : (25, a_iload 1 26) ∈ kX11_net := qX11_net_0 _ (List.mem_of_getElem? (i := 13) rfl)
theorem tX11_net_26 : (26, a_callV 1 8 2 29 0 0) ∈ kX11_net := qX11_net_0 _ (List.mem_of_getElem? (i := 14) rfl)
theorem tX11_net_29 : (29, a_iret false) ∈ kX11_net := qX11_net_0 _ (List.mem_of_getElem? (i := 15) rfl)
theorem oX11_net : ∀ q ∈ kX11_net, zSnd zty false RX11 cX11_net 2 (some .int) false q := oX11_net_0
theorem dX11_place_0 : decode cX11_place 0 = .ok (.iload_n 1, 1) := by decide +kernel
theorem dX11_place_1 : decode cX11_place 1 = .ok (.aload_n 0, 1) := by decide +kernel
theorem dX11_place_2 : decode cX11_place 2 = .ok (.getfield 74, 3) := by decide +kernel
theorem dX11_place_5 : decode cX11_place 5 = .ok (.getfield 265, 3) := by decide +kernel
theorem dX11_place_8 : decode cX11_place 8 = .ok (.invokestatic 168, 3) := by decide +kernel
theorem dX11_place_11 : decode cX11_place 11 = .ok (.ifCond .eq 12, 3) := by decide +kernel
theorem dX11_place_14 : decode cX11_place 14 = .ok (.iload_n 2, 1) := by decide +kernel
theorem dX11_place_15 : decode cX11_place 15 = .ok (.bipush 8, 2) := by decide +kernel
theorem dX11_place_17 : decode cX11_place 17 = .ok (.invokestatic 168, 3) := by decide +kernel
theorem dX11_place_20 : decode cX11_place 20 = .ok (.ifCond .ne 5, 3) := by decide +kernel
theorem dX11_place_23 : decode cX11_place 23 = .ok (.iconst (-1), 1) := by decide +kernel
theorem dX11_place_24 : decode cX11_place 24 = .ok (.ireturn, 1) := by decide +kernel
theorem dX11_place_25 : decode cX11_place 25 = .ok (.aload_n 0, 1) := by decide +kernel
theorem dX11_place_26 : decode cX11_place 26 = .ok (.getfield 74, 3) := by decide +kernel
theorem dX11_place_29 : decode cX11_place 29 = .ok (.iload_n 1, 1) := by decide +kernel
theorem dX11_place_30 : decode cX11_place 30 = .ok (.iload_n 2, 1) := by decide +kernel
theorem dX11_place_31 : decode cX11_place 31 = .ok (.invokevirtual 268, 3) := by decide +kernel
theorem dX11_place_34 : decode cX11_place 34 = .ok (.ireturn, 1) := by decide +kernel
def kX11_place_0 : List (Nat × zT) := [(0, a_iload 1 1), (1, a_aload 0 2), (2, a_getR 11 10 5), (5, a_getI 1 2 8), (8, a_call 128 2 11 0 0), (11, a_if_eq 23 14), (14, a_iload 2 15), (15, a_i 8 17), (17, a_call 128 2 20 0 0), (20, a_if_ne 25 23), (23, a_i (-1) 24), (24, a_iret false), (25, a_aload 0 26), (26, a_getR 11 10 29), (29, a_iload 1 30), (30, a_iload 2 31), (31, a_callV 1 9 3 34 0 0), (34, a_iret false)]
theorem oX11_place_0 : ∀ q ∈ kX11_place_0, zSnd zty false RX11 cX11_place 3 (some .int) false q := List.forall_mem_cons.mpr ⟨ok_iload_n dX11_place_0 rfl, List.forall_mem_cons.mpr ⟨ok_aload_n dX11_place_1 rfl, List.forall_mem_cons.mpr ⟨ok_getR dX11_place_2 rfl in11 (by decide) rfl w347, List.forall_mem_cons.mpr ⟨ok_getI dX11_place_5 rfl in1 (by decide) rfl w243, List.forall_mem_cons.mpr ⟨ok_callS dX11_place_8 rfl w443 w525 w442 w1 (by decide +kernel) (by decide), List.forall_mem_cons.mpr ⟨ok_if_eq dX11_place_11 (by decide), List.forall_mem_cons.mpr ⟨ok_iload_n dX11_place_14 rfl, List.forall_mem_cons.mpr ⟨ok_bipush dX11_place_15 (by decide), List.forall_mem_cons.mpr ⟨ok_callS dX11_place_17 rfl w443 w525 w442 w1 (by decide +kernel) (by decide), List.forall_mem_cons.mpr ⟨ok_if_ne dX11_place_20 (by decide), List.forall_mem_cons.mpr ⟨ok_iconst dX11_place_23 (by decide), List.forall_mem_cons.mpr ⟨ok_iret (bz := false) dX11_place_24 rfl, List.forall_mem_cons.mpr ⟨ok_aload_n dX11_place_25 rfl, List.forall_mem_cons.mpr ⟨ok_getR dX11_place_26 rfl in11 (by decide) rfl w347, List.forall_mem_cons.mpr ⟨ok_iload_n dX11_place_29 rfl, List.forall_mem_cons.mpr ⟨ok_iload_n dX11_place_30 rfl, List.forall_mem_cons.mpr ⟨ok_callV dX11_place_31 rfl rfl w776 w773 w774 w10 w775 (by decide +kernel) (by decide), List.forall_mem_cons.mpr ⟨ok_iret (bz := false) dX11_place_34 rfl, fun _ h => absurd h List.not_mem_nil⟩⟩⟩⟩⟩⟩⟩⟩⟩⟩⟩⟩⟩⟩⟩⟩⟩⟩
def kX11_place : List (Nat × zT) := kX11_place_0
theorem qX11_place_0 : ∀ q ∈ kX11_place_0, q ∈ kX11_place := fun _ h => h
theorem tX11_place_0 : (0, a_iload 1 1) ∈ kX11_place := qX11_place_0 _ (List.mem_of_getElem? (i := 0) rfl)
theorem tX11_place_1 : (1, a_aload 0 2) ∈ kX11_place := qX11_place_0 _ (List.mem_of_getElem? (i := 1) rfl)
theorem tX11_place_2 : (2, a_getR 11 10 5) ∈ kX11_place := qX11_place_0 _ (List.mem_of_getElem? (i := 2) rfl)
theorem tX11_place_5 : (5, a_getI 1 2 8) ∈ kX11_place := qX11_place_0 _ (List.mem_of_getElem? (i := 3) rfl)
theorem tX11_place_8 : (8, a_call 128 2 11 0 0) ∈ kX11_place := qX11_place_0 _ (List.mem_of_getElem? (i := 4) rfl)
theorem tX11_place_11 : (11, a_if_eq 23 14) ∈ kX11_place := qX11_place_0 _ (List.mem_of_getElem? (i := 5) rfl)
theorem tX11_place_14 : (14, a_iload 2 15) ∈ kX11_place := qX11_place_0 _ (List.mem_of_getElem? (i := 6) rfl)
theorem tX11_place_15 : (15, a_i 8 17) ∈ kX11_place := qX11_place_0 _ (List.mem_of_getElem? (i := 7) rfl)
theorem tX11_place_17 : (17, a_call 128 2 20 0 0) ∈ kX11_place := qX11_place_0 _ (List.mem_of_getElem? (i := 8) rfl)
theorem tX11_place_20 : (20, a_if_ne 25 23) ∈ kX11_place := qX11_place_0 _ (List.mem_of_getElem? (i := 9) rfl)
theorem tX11_place_23 : (23, a_i (-1) 24) ∈ kX11_place := qX11_place_0 _ (List.mem_of_getElem? (i := 10) rfl)
theorem tX11_place_24 : (24, a_iret false) ∈ kX11_place := qX11_place_0 _ (List.mem_of_getElem? (i := 11) rfl)
theorem tX11_place_25 : (25, a_aload 0 26) ∈ kX11_place := qX11_place_0 _ (List.mem_of_getElem? (i := 12) rfl)
theorem tX11_place_26 : (26, a_getR 11 10 29) ∈ kX11_place := qX11_place_0 _ (List.mem_of_getElem? (i := 13) rfl)
theorem tX11_place_29 : (29, a_iload 1 30) ∈ kX11_place := qX11_place_0 _ (List.mem_of_getElem? (i := 14) rfl)
theorem tX11_place_30 : (30, a_iload 2 31) ∈ kX11_place := qX11_place_0 _ (List.mem_of_getElem? (i := 15) rfl)
theorem tX11_place_31 : (31, a_callV 1 9 3 34 0 0) ∈ kX11_place := qX11_place_0 _ (List.mem_of_getElem? (i := 16) rfl)
theorem tX11_place_34 : (34, a_iret false) ∈ kX11_place := qX11_place_0 _ (List.mem_of_getElem? (i := 17) rfl)
theorem oX11_place : ∀ q ∈ kX11_place, zSnd zty false RX11 cX11_place 3 (some .int) false q := oX11_place_0
theorem dX11_wire_0 : decode cX11_wire 0 = .ok (.iload_n 1, 1) := by decide +kernel
theorem dX11_wire_1 : decode cX11_wire 1 = .ok (.iconst (-1), 1) := by decide +kernel
theorem dX11_wire_2 : decode cX11_wire 2 = .ok (.if_icmp .ne 11, 3) := by decide +kernel
theorem dX11_wire_5 : decode cX11_wire 5 = .ok (.aload_n 0, 1) := by decide +kernel
theorem dX11_wire_6 : decode cX11_wire 6 = .ok (.getfield 74, 3) := by decide +kernel
theorem dX11_wire_9 : decode cX11_wire 9 = .ok (.invokevirtual 271, 3) := by decide +kernel
theorem dX11_wire_12 : decode cX11_wire 12 = .ok (.ireturn, 1) := by decide +kernel
theorem dX11_wire_13 : decode cX11_wire 13 = .ok (.iload_n 1, 1) := by decide +kernel
theorem dX11_wire_14 : decode cX11_wire 14 = .ok (.aload_n 0, 1) := by decide +kernel
theorem dX11_wire_15 : decode cX11_wire 15 = .ok (.getfield 74, 3) := by decide +kernel
theorem dX11_wire_18 : decode cX11_wire 18 = .ok (.getfield 274, 3) := by decide +kernel
theorem dX11_wire_21 : decode cX11_wire 21 = .ok (.invokestatic 168, 3) := by decide +kernel
theorem dX11_wire_24 : decode cX11_wire 24 = .ok (.ifCond .eq 14, 3) := by decide +kernel
theorem dX11_wire_27 : decode cX11_wire 27 = .ok (.aload_n 0, 1) := by decide +kernel
theorem dX11_wire_28 : decode cX11_wire 28 = .ok (.getfield 74, 3) := by decide +kernel
theorem dX11_wire_31 : decode cX11_wire 31 = .ok (.iload_n 1, 1) := by decide +kernel
theorem dX11_wire_32 : decode cX11_wire 32 = .ok (.invokevirtual 277, 3) := by decide +kernel
theorem dX11_wire_35 : decode cX11_wire 35 = .ok (.goto 4, 3) := by decide +kernel
theorem dX11_wire_38 : decode cX11_wire 38 = .ok (.iconst (-1), 1) := by decide +kernel
theorem dX11_wire_39 : decode cX11_wire 39 = .ok (.ireturn, 1) := by decide +kernel
def kX11_wire_0 : List (Nat × zT) := [(0, a_iload 1 1), (1, a_i (-1) 2), (2, a_ic_ne 13 5), (5, a_aload 0 6), (6, a_getR 11 10 9), (9, a_callV 1 12 1 12 0 0), (12, a_iret false), (13, a_iload 1 14), (14, a_aload 0 15), (15, a_getR 11 10 18), (18, a_getI 1 3 21), (21, a_call 128 2 24 0 0), (24, a_if_eq 38 27), (27, a_aload 0 28), (28, a_getR 11 10 31), (31, a_iload 1 32), (32, a_callV 1 11 2 35 0 0), (35, a_goto 39), (38, a_i (-1) 39), (39, a_iret false)]
theorem oX11_wire_0 : ∀ q ∈ kX11_wire_0, zSnd zty false RX11 cX11_wire 2 (some .int) false q := List.forall_mem_cons.mpr ⟨ok_iload_n dX11_wire_0 rfl, List.forall_mem_cons.mpr ⟨ok_iconst dX11_wire_1 (by decide), List.forall_mem_cons.mpr ⟨ok_ic_ne dX11_wire_2 (by decide), List.forall_mem_cons.mpr ⟨ok_aload_n dX11_wire_5 rfl, List.forall_mem_cons.mpr ⟨ok_getR dX11_wire_6 rfl in11 (by decide) rfl w347, List.forall_mem_cons.mpr ⟨ok_callV dX11_wire_9 rfl rfl w784 w781 w782 w10 w783 (by decide +kernel) (by decide), List.forall_mem_cons.mpr ⟨ok_iret (bz := false) dX11_wire_12 rfl, List.forall_mem_cons.mpr ⟨ok_iload_n dX11_wire_13 rfl, List.forall_mem_cons.mpr ⟨ok_aload_n dX11_wire_14 rfl, List.forall_mem_cons.mpr ⟨ok_getR dX11_wire_15 rfl in11 (by decide) rfl w347, List.forall_mem_cons.mpr ⟨ok_getI dX11_wire_18 rfl in1 (by decide) rfl w245, List.forall_mem_cons.mpr ⟨ok_callS dX11_wire_21 rfl w443 w525 w442 w1 (by decide +kernel) (by decide), List.forall_mem_cons.mpr ⟨ok_if_eq dX11_wire_24 (by decide), List.forall_mem_cons.mpr ⟨ok_aload_n dX11_wire_27 rfl, List.forall_mem_cons.mpr ⟨ok_getR dX11_wire_28 rfl in11 (by decide) rfl w347, List.forall_mem_cons.mpr ⟨ok_iload_n dX11_wire_31 rfl, List.forall_mem_cons.mpr ⟨ok_callV dX11_wire_32 rfl rfl w788 w795 w786 w10 w787 (by decide +kernel) (by decide), List.forall_mem_cons.mpr ⟨ok_goto dX11_wire_35 (by decide), List.forall_mem_cons.mpr ⟨ok_iconst dX11_wire_38 (by decide), List.forall_mem_cons.mpr ⟨ok_iret (bz := false) dX11_wire_39 rfl, fun _ h => absurd h List.not_mem_nil⟩⟩⟩⟩⟩⟩⟩⟩⟩⟩⟩⟩⟩⟩⟩⟩⟩⟩⟩⟩
def kX11_wire : List (Nat × zT) := kX11_wire_0
theorem qX11_wire_0 : ∀ q ∈ kX11_wire_0, q ∈ kX11_wire := fun _ h => h
theorem tX11_wire_0 : (0, a_iload 1 1) ∈ kX11_wire := qX11_wire_0 _ (List.mem_of_getElem? (i := 0) rfl)
theorem tX11_wire_1 : (1, a_i (-1) 2) ∈ kX11_wire := qX11_wire_0 _ (List.mem_of_getElem? (i := 1) rfl)
theorem tX11_wire_2 : (2, a_ic_ne 13 5) ∈ kX11_wire := qX11_wire_0 _ (List.mem_of_getElem? (i := 2) rfl)
theorem tX11_wire_5 : (5, a_aload 0 6) ∈ kX11_wire := qX11_wire_0 _ (List.mem_of_getElem? (i := 3) rfl)
theorem tX11_wire_6 : (6, a_getR 11 10 9) ∈ kX11_wire := qX11_wire_0 _ (List.mem_of_getElem? (i := 4) rfl)
theorem tX11_wire_9 : (9, a_callV 1 12 1 12 0 0) ∈ kX11_wire := qX11_wire_0 _ (List.mem_of_getElem? (i := 5) rfl)
theorem tX11_wire_12 : (12, a_iret false) ∈ kX11_wire := qX11_wire_0 _ (List.mem_of_getElem? (i := 6) rfl)
theorem tX11_wire_13 : (13, a_iload 1 14) ∈ kX11_wire := qX11_wire_0 _ (List.mem_of_getElem? (i := 7) rfl)
theorem tX11_wire_14 : (14, a_aload 0 15) ∈ kX11_wire := qX11_wire_0 _ (List.mem_of_getElem? (i := 8) rfl)
theorem tX11_wire_15 : (15, a_getR 11 10 18) ∈ kX11_wire := qX11_wire_0 _ (List.mem_of_getElem? (i := 9) rfl)
theorem tX11_wire_18 : (18, a_getI 1 3 21) ∈ kX11_wire := qX11_wire_0 _ (List.mem_of_getElem? (i := 10) rfl)
theorem tX11_wire_21 : (21, a_call 128 2 24 0 0) ∈ kX11_wire := qX11_wire_0 _ (List.mem_of_getElem? (i := 11) rfl)
theorem tX11_wire_24 : (24, a_if_eq 38 27) ∈ kX11_wire := qX11_wire_0 _ (List.mem_of_getElem? (i := 12) rfl)
theorem tX11_wire_27 : (27, a_aload 0 28) ∈ kX11_wire := qX11_wire_0 _ (List.mem_of_getElem? (i := 13) rfl)
theorem tX11_wire_28 : (28, a_getR 11 10 31) ∈ kX11_wire := qX11_wire_0 _ (List.mem_of_getElem? (i := 14) rfl)
theorem tX11_wire_31 : (31, a_iload 1 32) ∈ kX11_wire := qX11_wire_0 _ (List.mem_of_getElem? (i := 15) rfl)
theorem tX11_wire_32 : (32, a_callV 1 11 2 35 0 0) ∈ kX11_wire := qX11_wire_0 _ (List.mem_of_getElem? (i := 16) rfl)
theorem tX11_wire_35 : (35, a_goto 39) ∈ kX11_wire := qX11_wire_0 _ (List.mem_of_getElem? (i := 17) rfl)
theorem tX11_wire_38 : (38, a_i (-1) 39) ∈ kX11_wire := qX11_wire_0 _ (List.mem_of_getElem? (i := 18) rfl)
theorem tX11_wire_39 : (39, a_iret false) ∈ kX11_wire := qX11_wire_0 _ (List.mem_of_getElem? (i := 19) rfl)
theorem oX11_wire : ∀ q ∈ kX11_wire, zSnd zty false RX11 cX11_wire 2 (some .int) false q := oX11_wire_0
theorem dX11_least_0 : decode cX11_least 0 = .ok (.iload_n 1, 1) := by decide +kernel
theorem dX11_least_1 : decode cX11_least 1 = .ok (.iconst (-1), 1) := by decide +kernel
theorem dX11_least_2 : decode cX11_least 2 = .ok (.if_icmp .eq 19, 3) := by decide +kernel
theorem dX11_least_5 : decode cX11_least 5 = .ok (.iload_n 1, 1) := by decide +kernel
theorem dX11_least_6 : decode cX11_least 6 = .ok (.aload_n 0, 1) := by decide +kernel
theorem dX11_least_7 : decode cX11_least 7 = .ok (.getfield 74, 3) := by decide +kernel
theorem dX11_least_10 : decode cX11_least 10 = .ok (.getfield 265, 3) := by decide +kernel
theorem dX11_least_13 : decode cX11_least 13 = .ok (.invokestatic 168, 3) := by decide +kernel
theorem dX11_least_16 : decode cX11_least 16 = .ok (.ifCond .ne 5, 3) := by decide +kernel
theorem dX11_least_19 : decode cX11_least 19 = .ok (.iconst (-1), 1) := by decide +kernel
theorem dX11_least_20 : decode cX11_least 20 = .ok (.ireturn, 1) := by decide +kernel
theorem dX11_least_21 : decode cX11_least 21 = .ok (.aload_n 0, 1) := by decide +kernel
theorem dX11_least_22 : decode cX11_least 22 = .ok (.getfield 74, 3) := by decide +kernel
theorem dX11_least_25 : decode cX11_least 25 = .ok (.invokevirtual 280, 3) := by decide +kernel
theorem dX11_least_28 : decode cX11_least 28 = .ok (.iload_n 1, 1) := by decide +kernel
theorem dX11_least_29 : decode cX11_least 29 = .ok (.iconst (-1), 1) := by decide +kernel
theorem dX11_least_30 : decode cX11_least 30 = .ok (.if_icmp .ne 13, 3) := by decide +kernel
theorem dX11_least_33 : decode cX11_least 33 = .ok (.aload_n 0, 1) := by decide +kernel
theorem dX11_least_34 : decode cX11_least 34 = .ok (.getfield 74, 3) := by decide +kernel
theorem dX11_least_37 : decode cX11_least 37 = .ok (.getfield 283, 3) := by decide +kernel
theorem dX11_least_40 : decode cX11_least 40 = .ok (.goto 12, 3) := by decide +kernel
theorem dX11_least_43 : decode cX11_least 43 = .ok (.aload_n 0, 1) := by decide +kernel
theorem dX11_least_44 : decode cX11_least 44 = .ok (.getfield 74, 3) := by decide +kernel
theorem dX11_least_47 : decode cX11_least 47 = .ok (.getfield 286, 3) := by decide +kernel
theorem dX11_least_50 : decode cX11_least 50 = .ok (.iload_n 1, 1) := by decide +kernel
theorem dX11_least_51 : decode cX11_least 51 = .ok (.iaload, 1) := by decide +kernel
theorem dX11_least_52 : decode cX11_least 52 = .ok (.ireturn, 1) := by decide +kernel
def kX11_least_0 : List (Nat × zT) := [(0, a_iload 1 1), (1, a_i (-1) 2), (2, a_ic_eq 21 5), (5, a_iload 1 6), (6, a_aload 0 7), (7, a_getR 11 10 10), (10, a_getI 1 2 13), (13, a_call 128 2 16 0 0), (16, a_if_ne 21 19), (19, a_i (-1) 20), (20, a_iret false), (21, a_aload 0 22), (22, a_getR 11 10 25), (25, a_callV 1 14 1 28 0 0), (28, a_iload 1 29), (29, a_i (-1) 30), (30, a_ic_ne 43 33), (33, a_aload 0 34), (34, a_getR 11 10 37), (37, a_getI 1 5 40), (40, a_goto 52), (43, a_aload 0 44), (44, a_getR 11 10 47), (47, a_getR 1 4 50)]
theorem oX11_least_0 : ∀ q ∈ kX11_least_0, zSnd zty false RX11 cX11_least 2 (some .int) false q := List.forall_mem_cons.mpr ⟨ok_iload_n dX11_least_0 rfl, List.forall_mem_cons.mpr ⟨ok_iconst dX11_least_1 (by decide), List.forall_mem_cons.mpr ⟨ok_ic_eq dX11_least_2 (by decide), List.forall_mem_cons.mpr ⟨ok_iload_n dX11_least_5 rfl, List.forall_mem_cons.mpr ⟨ok_aload_n dX11_least_6 rfl, List.forall_mem_cons.mpr ⟨ok_getR dX11_least_7 rfl in11 (by decide) rfl w347, List.forall_mem_cons.mpr ⟨ok_getI dX11_least_10 rfl in1 (by decide) rfl w243, List.forall_mem_cons.mpr ⟨ok_callS dX11_least_13 rfl w443 w525 w442 w1 (by decide +kernel) (by decide), List.forall_mem_cons.mpr ⟨ok_if_ne dX11_least_16 (by decide), List.forall_mem_cons.mpr ⟨ok_iconst dX11_least_19 (by decide), List.forall_mem_cons.mpr ⟨ok_iret (bz := false) dX11_least_20 rfl, List.forall_mem_cons.mpr ⟨ok_aload_n dX11_least_21 rfl, List.forall_mem_cons.mpr ⟨ok_getR dX11_least_22 rfl in11 (by decide) rfl w347, List.forall_mem_cons.mpr ⟨ok_callV dX11_least_25 rfl rfl w803 w800 w801 w10 w802 (by decide +kernel) (by decide), List.forall_mem_cons.mpr ⟨ok_iload_n dX11_least_28 rfl, List.forall_mem_cons.mpr ⟨ok_iconst dX11_least_29 (by decide), List.forall_mem_cons.mpr ⟨ok_ic_ne dX11_least_30 (by decide), List.forall_mem_cons.mpr ⟨ok_aload_n dX11_least_33 rfl, List.forall_mem_cons.mpr ⟨ok_getR dX11_least_34 rfl in11 (by decide) rfl w347, List.forall_mem_cons.mpr ⟨ok_getI dX11_least_37 rfl in1 (by decide) rfl w249, List.forall_mem_cons.mpr ⟨ok_goto dX11_least_40 (by decide), List.forall_mem_cons.mpr ⟨ok_aload_n dX11_least_43 rfl, List.forall_mem_cons.mpr ⟨ok_getR dX11_least_44 rfl in11 (by decide) rfl w347, List.forall_mem_cons.mpr ⟨ok_getR dX11_least_47 rfl in1 (by decide) rfl w247, fun _ h => absurd h List.not_mem_nil⟩⟩⟩⟩⟩⟩⟩⟩⟩⟩⟩⟩⟩⟩⟩⟩⟩⟩⟩⟩⟩⟩⟩⟩
def kX11_least_1 : List (Nat × zT) := [(50, a_iload 1 51), (51, a_iald 52), (52, a_iret false)]
theorem oX11_least_1 : ∀ q ∈ kX11_least_1, zSnd zty false RX11 cX11_least 2 (some .int) false q := List.forall_mem_cons.mpr ⟨ok_iload_n dX11_least_50 rfl, List.forall_mem_cons.mpr ⟨ok_iald dX11_least_51, List.forall_mem_cons.mpr ⟨ok_iret (bz := false) dX11_least_52 rfl, fun _ h => absurd h List.not_mem_nil⟩⟩⟩
def kX11_least : List (Nat × zT) := kX11_least_0 ++ (kX11_least_1)
theorem qX11_least_0 : ∀ q ∈ kX11_least_0, q ∈ kX11_least := fun _ h => (List.mem_append_left _ h)
theorem tX11_least_0 : (0, a_iload 1 1) ∈ kX11_least := qX11_least_0 _ (List.mem_of_getElem? (i := 0) rfl)
theorem tX11_least_1 : (1, a_i (-1) 2) ∈ kX11_least := qX11_least_0 _ (List.mem_of_getElem? (i := 1) rfl)
theorem tX11_least_2 : (2, a_ic_eq 21 5) ∈ kX11_least := qX11_least_0 _ (List.mem_of_getElem? (i := 2) rfl)
theorem tX11_least_5 : (5, a_iload 1 6) ∈ kX11_least := qX11_least_0 _ (List.mem_of_getElem? (i := 3) rfl)
theorem tX11_least_6 : (6, a_aload 0 7) ∈ kX11_least := qX11_least_0 _ (List.mem_of_getElem? (i := 4) rfl)
theorem tX11_least_7 : (7, a_getR 11 10 10) ∈ kX11_least := qX11_least_0 _ (List.mem_of_getElem? (i := 5) rfl)
theorem tX11_least_10 : (10, a_getI 1 2 13) ∈ kX11_least := qX11_least_0 _ (List.mem_of_getElem? (i := 6) rfl)
theorem tX11_least_13 : (13, a_call 128 2 16 0 0) ∈ kX11_least := qX11_least_0 _ (List.mem_of_getElem? (i := 7) rfl)
theorem tX11_least_16 : (16, a_if_ne 21 19) ∈ kX11_least := qX11_least_0 _ (List.mem_of_getElem? (i := 8) rfl)
theorem tX11_least_19 : (19, a_i (-1) 20) ∈ kX11_least := qX11_least_0 _ (List.mem_of_getElem? (i := 9) rfl)
theorem tX11_least_20 : (20, a_iret false) ∈ kX11_least := qX11_least_0 _ (List.mem_of_getElem? (i := 10) rfl)
theorem tX11_least_21 : (21, a_aload 0 22) ∈ kX11_least := qX11_least_0 _ (List.mem_of_getElem? (i := 11) rfl)
theorem tX11_least_22 : (22, a_getR 11 10 25) ∈ kX11_least := qX11_least_0 _ (List.mem_of_getElem? (i := 12) rfl)
theorem tX11_least_25 : (25, a_callV 1 14 1 28 0 0) ∈ kX11_least := qX11_least_0 _ (List.mem_of_getElem? (i := 13) rfl)
theorem tX11_least_28 : (28, a_iload 1 29) ∈ kX11_least := qX11_least_0 _ (List.mem_of_getElem? (i := 14) rfl)
theorem tX11_least_29 : (29, a_i (-1) 30) ∈ kX11_least := qX11_least_0 _ (List.mem_of_getElem? (i := 15) rfl)
theorem tX11_least_30 : (30, a_ic_ne 43 33) ∈ kX11_least := qX11_least_0 _ (List.mem_of_getElem? (i := 16) rfl)
theorem tX11_least_33 : (33, a_aload 0 34) ∈ kX11_least := qX11_least_0 _ (List.mem_of_getElem? (i := 17) rfl)
theorem tX11_least_34 : (34, a_getR 11 10 37) ∈ kX11_least := qX11_least_0 _ (List.mem_of_getElem? (i := 18) rfl)
theorem tX11_least_37 : (37, a_getI 1 5 40) ∈ kX11_least := qX11_least_0 _ (List.mem_of_getElem? (i := 19) rfl)
theorem tX11_least_40 : (40, a_goto 52) ∈ kX11_least := qX11_least_0 _ (List.mem_of_getElem? (i := 20) rfl)
theorem tX11_least_43 : (43, a_aload 0 44) ∈ kX11_least := qX11_least_0 _ (List.mem_of_getElem? (i := 21) rfl)
theorem tX11_least_44 : (44, a_getR 11 10 47) ∈ kX11_least := qX11_least_0 _ (List.mem_of_getElem? (i := 22) rfl)
theorem tX11_least_47 : (47, a_getR 1 4 50) ∈ kX11_least := qX11_least_0 _ (List.mem_of_getElem? (i := 23) rfl)
theorem qX11_least_1 : ∀ q ∈ kX11_least_1, q ∈ kX11_least := fun _ h => (List.mem_append_right _ h)
theorem tX11_least_50 : (50, a_iload 1 51) ∈ kX11_least := qX11_least_1 _ (List.mem_of_getElem? (i := 0) rfl)
theorem tX11_least_51 : (51, a_iald 52) ∈ kX11_least := qX11_least_1 _ (List.mem_of_getElem? (i := 1) rfl)
theorem tX11_least_52 : (52, a_iret false) ∈ kX11_least := qX11_least_1 _ (List.mem_of_getElem? (i := 2) rfl)
theorem oX11_least : ∀ q ∈ kX11_least, zSnd zty false RX11 cX11_least 2 (some .int) false q := List.forall_mem_append.mpr ⟨oX11_least_0, oX11_least_1⟩
theorem dX11_swap_0 : decode cX11_swap 0 = .ok (.aload_n 0, 1) := by decide +kernel
theorem dX11_swap_1 : decode cX11_swap 1 = .ok (.getfield 74, 3) := by decide +kernel
theorem dX11_swap_4 : decode cX11_swap 4 = .ok (.invokevirtual 289, 3) := by decide +kernel
theorem dX11_swap_7 : decode cX11_swap 7 = .ok (.ireturn, 1) := by decide +kernel
def kX11_swap_0 : List (Nat × zT) := [(0, a_aload 0 1), (1, a_getR 11 10 4), (4, a_callV 1 18 1 7 0 0), (7, a_iret false)]
theorem oX11_swap_0 : ∀ q ∈ kX11_swap_0, zSnd zty false RX11 cX11_swap 1 (some .int) false q := List.forall_mem_cons.mpr ⟨ok_aload_n dX11_swap_0 rfl, List.forall_mem_cons.mpr ⟨ok_getR dX11_swap_1 rfl in11 (by decide) rfl w347, List.forall_mem_cons.mpr ⟨ok_callV dX11_swap_4 rfl rfl w829 w826 w827 w10 w828 (by decide +kernel) (by decide), List.forall_mem_cons.mpr ⟨ok_iret (bz := false) dX11_swap_7 rfl, fun _ h => absurd h List.not_mem_nil⟩⟩⟩⟩
def kX11_swap : List (Nat × zT) := kX11_swap_0
theorem qX11_swap_0 : ∀ q ∈ kX11_swap_0, q ∈ kX11_swap := fun _ h => h
theorem tX11_swap_0 : (0, a_aload 0 1) ∈ kX11_swap := qX11_swap_0 _ (List.mem_of_getElem? (i := 0) rfl)
theorem tX11_swap_1 : (1, a_getR 11 10 4) ∈ kX11_swap := qX11_swap_0 _ (List.mem_of_getElem? (i := 1) rfl)
theorem tX11_swap_4 : (4, a_callV 1 18 1 7 0 0) ∈ kX11_swap := qX11_swap_0 _ (List.mem_of_getElem? (i := 2) rfl)
theorem tX11_swap_7 : (7, a_iret false) ∈ kX11_swap := qX11_swap_0 _ (List.mem_of_getElem? (i := 3) rfl)
theorem oX11_swap : ∀ q ∈ kX11_swap, zSnd zty false RX11 cX11_swap 1 (some .int) false q := oX11_swap_0
theorem dX11_ends_0 : decode cX11_ends 0 = .ok (.iload_n 1, 1) := by decide +kernel
theorem dX11_ends_1 : decode cX11_ends 1 = .ok (.ldc_w 292, 3) := by decide +kernel
theorem dX11_ends_4 : decode cX11_ends 4 = .ok (.iand, 1) := by decide +kernel
theorem dX11_ends_5 : decode cX11_ends 5 = .ok (.ifCond .eq 5, 3) := by decide +kernel
theorem dX11_ends_8 : decode cX11_ends 8 = .ok (.iconst (-1), 1) := by decide +kernel
theorem dX11_ends_9 : decode cX11_ends 9 = .ok (.ireturn, 1) := by decide +kernel
theorem dX11_ends_10 : decode cX11_ends 10 = .ok (.aload_n 0, 1) := by decide +kernel
theorem dX11_ends_11 : decode cX11_ends 11 = .ok (.getfield 100, 3) := by decide +kernel
theorem dX11_ends_14 : decode cX11_ends 14 = .ok (.istore_n 2, 1) := by decide +kernel
theorem dX11_ends_15 : decode cX11_ends 15 = .ok (.aload_n 0, 1) := by decide +kernel
theorem dX11_ends_16 : decode cX11_ends 16 = .ok (.iload_n 1, 1) := by decide +kernel
theorem dX11_ends_17 : decode cX11_ends 17 = .ok (.putfield 100, 3) := by decide +kernel
theorem dX11_ends_20 : decode cX11_ends 20 = .ok (.iload_n 2, 1) := by decide +kernel
theorem dX11_ends_21 : decode cX11_ends 21 = .ok (.ireturn, 1) := by decide +kernel
def kX11_ends_0 : List (Nat × zT) := [(0, a_iload 1 1), (1, a_i (-524225) 4), (4, a_ii (fun x y => x &&& y) 5), (5, a_if_eq 10 8), (8, a_i (-1) 9), (9, a_iret false), (10, a_aload 0 11), (11, a_getI 11 15 14), (14, a_istore 2 15), (15, a_aload 0 16), (16, a_iload 1 17), (17, a_putI 11 15 20 false), (20, a_iload 2 21), (21, a_iret false)]
theorem oX11_ends_0 : ∀ q ∈ kX11_ends_0, zSnd zty false RX11 cX11_ends 3 (some .int) false q := List.forall_mem_cons.mpr ⟨ok_iload_n dX11_ends_0 rfl, List.forall_mem_cons.mpr ⟨ok_ldcw dX11_ends_1 w843, List.forall_mem_cons.mpr ⟨ok_iand dX11_ends_4, List.forall_mem_cons.mpr ⟨ok_if_eq dX11_ends_5 (by decide), List.forall_mem_cons.mpr ⟨ok_iconst dX11_ends_8 (by decide), List.forall_mem_cons.mpr ⟨ok_iret (bz := false) dX11_ends_9 rfl, List.forall_mem_cons.mpr ⟨ok_aload_n dX11_ends_10 rfl, List.forall_mem_cons.mpr ⟨ok_getI dX11_ends_11 rfl in11 (by decide) rfl w352, List.forall_mem_cons.mpr ⟨ok_istore_n dX11_ends_14 rfl (by decide), List.forall_mem_cons.mpr ⟨ok_aload_n dX11_ends_15 rfl, List.forall_mem_cons.mpr ⟨ok_iload_n dX11_ends_16 rfl, List.forall_mem_cons.mpr ⟨ok_putI (bz := false) dX11_ends_17 rfl in11 tyX11 tyX11_ok nmX11 (by decide) rfl w352 rfl rfl, List.forall_mem_cons.mpr ⟨ok_iload_n dX11_ends_20 rfl, List.forall_mem_cons.mpr ⟨ok_iret (bz := false) dX11_ends_21 rfl, fun _ h => absurd h List.not_mem_nil⟩⟩⟩⟩⟩⟩⟩⟩⟩⟩⟩⟩⟩⟩
def kX11_ends : List (Nat × zT) := kX11_ends_0
theorem qX11_ends_0 : ∀ q ∈ kX11_ends_0, q ∈ kX11_ends := fun _ h => h
theorem tX11_ends_0 : (0, a_iload 1 1) ∈ kX11_ends := qX11_ends_0 _ (List.mem_of_getElem? (i := 0) rfl)
theorem tX11_ends_1 : (1, a_i (-524225) 4) ∈ kX11_ends := qX11_ends_0 _ (List.mem_of_getElem? (i := 1) rfl)
theorem tX11_ends_4 : (4, a_ii (fun x y => x &&& y) 5) ∈ kX11_ends := qX11_ends_0 _ (List.mem_of_getElem? (i := 2) rfl)
theorem tX11_ends_5 : (5, a_if_eq 10 8) ∈ kX11_ends := qX11_ends_0 _ (List.mem_of_getElem? (i := 3) rfl)
theorem tX11_ends_8 : (8, a_i (-1) 9) ∈ kX11_ends := qX11_ends_0 _ (List.mem_of_getElem? (i := 4) rfl)
theorem tX11_ends_9 : (9, a_iret false) ∈ kX11_ends := qX11_ends_0 _ (List.mem_of_getElem? (i := 5) rfl)
theorem tX11_ends_10 : (10, a_aload 0 11) ∈ kX11_ends := qX11_ends_0 _ (List.mem_of_getElem? (i := 6) rfl)
theorem tX11_ends_11 : (11, a_getI 11 15 14) ∈ kX11_ends := qX11_ends_0 _ (List.mem_of_getElem? (i := 7) rfl)
theorem tX11_ends_14 : (14, a_istore 2 15) ∈ kX11_ends := qX11_ends_0 _ (List.mem_of_getElem? (i := 8) rfl)
theorem tX11_ends_15 : (15, a_aload 0 16) ∈ kX11_ends := qX11_ends_0 _ (List.mem_of_getElem? (i := 9) rfl)
theorem tX11_ends_16 : (16, a_iload 1 17) ∈ kX11_ends := qX11_ends_0 _ (List.mem_of_getElem? (i := 10) rfl)
theorem tX11_ends_17 : (17, a_putI 11 15 20 false) ∈ kX11_ends := qX11_ends_0 _ (List.mem_of_getElem? (i := 11) rfl)
theorem tX11_ends_20 : (20, a_iload 2 21) ∈ kX11_ends := qX11_ends_0 _ (List.mem_of_getElem? (i := 12) rfl)
theorem tX11_ends_21 : (21, a_iret false) ∈ kX11_ends := qX11_ends_0 _ (List.mem_of_getElem? (i := 13) rfl)
theorem oX11_ends : ∀ q ∈ kX11_ends, zSnd zty false RX11 cX11_ends 3 (some .int) false q := oX11_ends_0
theorem dX11_fails_0 : decode cX11_fails 0 = .ok (.iload_n 1, 1) := by decide +kernel
theorem dX11_fails_1 : decode cX11_fails 1 = .ok (.bipush 38, 2) := by decide +kernel
theorem dX11_fails_3 : decode cX11_fails 3 = .ok (.invokestatic 168, 3) := by decide +kernel
theorem dX11_fails_6 : decode cX11_fails 6 = .ok (.ifCond .eq 13, 3) := by decide +kernel
theorem dX11_fails_9 : decode cX11_fails 9 = .ok (.iload_n 2, 1) := by decide +kernel
theorem dX11_fails_10 : decode cX11_fails 10 = .ok (.sipush 1024, 3) := by decide +kernel
theorem dX11_fails_13 : decode cX11_fails 13 = .ok (.invokestatic 168, 3) := by decide +kernel
theorem dX11_fails_16 : decode cX11_fails 16 = .ok (.ifCond .ne 5, 3) := by decide +kernel
theorem dX11_fails_19 : decode cX11_fails 19 = .ok (.iconst (-1), 1) := by decide +kernel
theorem dX11_fails_20 : decode cX11_fails 20 = .ok (.ireturn, 1) := by decide +kernel
theorem dX11_fails_21 : decode cX11_fails 21 = .ok (.aload_n 0, 1) := by decide +kernel
theorem dX11_fails_22 : decode cX11_fails 22 = .ok (.getfield 81, 3) := by decide +kernel
theorem dX11_fails_25 : decode cX11_fails 25 = .ok (.aload_n 0, 1) := by decide +kernel
theorem dX11_fails_26 : decode cX11_fails 26 = .ok (.getfield 19, 3) := by decide +kernel
theorem dX11_fails_29 : decode cX11_fails 29 = .ok (.iconst 1, 1) := by decide +kernel
theorem dX11_fails_30 : decode cX11_fails 30 = .ok (.aaload, 1) := by decide +kernel
theorem dX11_fails_31 : decode cX11_fails 31 = .ok (.aload_n 0, 1) := by decide +kernel
theorem dX11_fails_32 : decode cX11_fails 32 = .ok (.getfield 100, 3) := by decide +kernel
theorem dX11_fails_35 : decode cX11_fails 35 = .ok (.iload_n 2, 1) := by decide +kernel
theorem dX11_fails_36 : decode cX11_fails 36 = .ok (.invokevirtual 293, 3) := by decide +kernel
theorem dX11_fails_39 : decode cX11_fails 39 = .ok (.aload_n 0, 1) := by decide +kernel
theorem dX11_fails_40 : decode cX11_fails 40 = .ok (.getfield 81, 3) := by decide +kernel
theorem dX11_fails_43 : decode cX11_fails 43 = .ok (.iload_n 1, 1) := by decide +kernel
theorem dX11_fails_44 : decode cX11_fails 44 = .ok (.invokevirtual 297, 3) := by decide +kernel
theorem dX11_fails_47 : decode cX11_fails 47 = .ok (.ireturn, 1) := by decide +kernel
def kX11_fails_0 : List (Nat × zT) := [(0, a_iload 1 1), (1, a_i 38 3), (3, a_call 128 2 6 0 0), (6, a_if_eq 19 9), (9, a_iload 2 10), (10, a_i 1024 13), (13, a_call 128 2 16 0 0), (16, a_if_ne 21 19), (19, a_i (-1) 20), (20, a_iret false), (21, a_aload 0 22), (22, a_getR 11 11 25), (25, a_aload 0 26), (26, a_getR 11 1 29), (29, a_i 1 30), (30, a_aald 31), (31, a_aload 0 32), (32, a_getI 11 15 35), (35, a_iload 2 36), (36, a_callV 9 70 4 39 0 0), (39, a_aload 0 40), (40, a_getR 11 11 43), (43, a_iload 1 44), (44, a_callV 9 71 2 47 0 0)]
theorem oX11_fails_0 : ∀ q ∈ kX11_fails_0, zSnd zty false RX11 cX11_fails 3 (some .int) false q := List.forall_mem_cons.mpr ⟨ok_iload_n dX11_fails_0 rfl, List.forall_mem_cons.mpr ⟨ok_bipush dX11_fails_1 (by decide), List.forall_mem_cons.mpr ⟨ok_callS dX11_fails_3 rfl w443 w525 w442 w1 (by decide +kernel) (by decide), List.forall_mem_cons.mpr ⟨ok_if_eq dX11_fails_6 (by decide), List.forall_mem_cons.mpr ⟨ok_iload_n dX11_fails_9 rfl, List.forall_mem_cons.mpr ⟨ok_sipush dX11_fails_10 (by decide), List.forall_mem_cons.mpr ⟨ok_callS dX11_fails_13 rfl w443 w525 w442 w1 (by decide +kernel) (by decide), List.forall_mem_cons.mpr ⟨ok_if_ne dX11_fails_16 (by decide), List.forall_mem_cons.mpr ⟨ok_iconst dX11_fails_19 (by decide), List.forall_mem_cons.mpr ⟨ok_iret (bz := false) dX11_fails_20 rfl, List.forall_mem_cons.mpr ⟨ok_aload_n dX11_fails_21 rfl, List.forall_mem_cons.mpr ⟨ok_getR dX11_fails_22 rfl in11 (by decide) rfl w348, List.forall_mem_cons.mpr ⟨ok_aload_n dX11_fails_25 rfl, List.forall_mem_cons.mpr ⟨ok_getR dX11_fails_26 rfl in11 (by decide) rfl w338, List.forall_mem_cons.mpr ⟨ok_iconst dX11_fails_29 (by decide), List.forall_mem_cons.mpr ⟨ok_aald dX11_fails_30, List.forall_mem_cons.mpr ⟨ok_aload_n dX11_fails_31 rfl, List.forall_mem_cons.mpr ⟨ok_getI dX11_fails_32 rfl in11 (by decide) rfl w352, List.forall_mem_cons.mpr ⟨ok_iload_n dX11_fails_35 rfl, List.forall_mem_cons.mpr ⟨ok_callV dX11_fails_36 rfl rfl w851 w848 w849 w11 w850 (by decide +kernel) (by decide), List.forall_mem_cons.mpr ⟨ok_aload_n dX11_fails_39 rfl, List.forall_mem_cons.mpr ⟨ok_getR dX11_fails_40 rfl in11 (by decide) rfl w348, List.forall_mem_cons.mpr ⟨ok_iload_n dX11_fails_43 rfl, List.forall_mem_cons.mpr ⟨ok_callV dX11_fails_44 rfl rfl w858 w855 w856 w11 w857 (by decide +kernel) (by decide), fun _ h => absurd h List.not_mem_nil⟩⟩⟩⟩⟩⟩⟩⟩⟩⟩⟩⟩⟩⟩⟩⟩⟩⟩⟩⟩⟩⟩⟩⟩
def kX11_fails_1 : List (Nat × zT) := [(47, a_iret false)]
theorem oX11_fails_1 : ∀ q ∈ kX11_fails_1, zSnd zty false RX11 cX11_fails 3 (some .int) false q := List.forall_mem_cons.mpr ⟨ok_iret (bz := false) dX11_fails_47 rfl, fun _ h => absurd h List.not_mem_nil⟩
def kX11_fails : List (Nat × zT) := kX11_fails_0 ++ (kX11_fails_1)
theorem qX11_fails_0 : ∀ q ∈ kX11_fails_0, q ∈ kX11_fails := fun _ h => (List.mem_append_left _ h)
theorem tX11_fails_0 : (0, a_iload 1 1) ∈ kX11_fails := qX11_fails_0 _ (List.mem_of_getElem? (i := 0) rfl)
theorem tX11_fails_1 : (1, a_i 38 3) ∈ kX11_fails := qX11_fails_0 _ (List.mem_of_getElem? (i := 1) rfl)
theorem tX11_fails_3 : (3, a_call 128 2 6 0 0) ∈ kX11_fails := qX11_fails_0 _ (List.mem_of_getElem? (i := 2) rfl)
theorem tX11_fails_6 : (6, a_if_eq 19 9) ∈ kX11_fails := qX11_fails_0 _ (List.mem_of_getElem? (i := 3) rfl)
theorem tX11_fails_9 : (9, a_iload 2 10) ∈ kX11_fails := qX11_fails_0 _ (List.mem_of_getElem? (i := 4) rfl)
theorem tX11_fails_10 : (10, a_i 1024 13) ∈ kX11_fails := qX11_fails_0 _ (List.mem_of_getElem? (i := 5) rfl)
theorem tX11_fails_13 : (13, a_call 128 2 16 0 0) ∈ kX11_fails := qX11_fails_0 _ (List.mem_of_getElem? (i := 6) rfl)
theorem tX11_fails_16 : (16, a_if_ne 21 19) ∈ kX11_fails := qX11_fails_0 _ (List.mem_of_getElem? (i := 7) rfl)
theorem tX11_fails_19 : (19, a_i (-1) 20) ∈ kX11_fails := qX11_fails_0 _ (List.mem_of_getElem? (i := 8) rfl)
theorem tX11_fails_20 : (20, a_iret false) ∈ kX11_fails := qX11_fails_0 _ (List.mem_of_getElem? (i := 9) rfl)
theorem tX11_fails_21 : (21, a_aload 0 22) ∈ kX11_fails := qX11_fails_0 _ (List.mem_of_getElem? (i := 10) rfl)
theorem tX11_fails_22 : (22, a_getR 11 11 25) ∈ kX11_fails := qX11_fails_0 _ (List.mem_of_getElem? (i := 11) rfl)
theorem tX11_fails_25 : (25, a_aload 0 26) ∈ kX11_fails := qX11_fails_0 _ (List.mem_of_getElem? (i := 12) rfl)
theorem tX11_fails_26 : (26, a_getR 11 1 29) ∈ kX11_fails := qX11_fails_0 _ (List.mem_of_getElem? (i := 13) rfl)
theorem tX11_fails_29 : (29, a_i 1 30) ∈ kX11_fails := qX11_fails_0 _ (List.mem_of_getElem? (i := 14) rfl)
theorem tX11_fails_30 : (30, a_aald 31) ∈ kX11_fails := qX11_fails_0 _ (List.mem_of_getElem? (i := 15) rfl)
theorem tX11_fails_31 : (31, a_aload 0 32) ∈ kX11_fails := qX11_fails_0 _ (List.mem_of_getElem? (i := 16) rfl)
theorem tX11_fails_32 : (32, a_getI 11 15 35) ∈ kX11_fails := qX11_fails_0 _ (List.mem_of_getElem? (i := 17) rfl)
theorem tX11_fails_35 : (35, a_iload 2 36) ∈ kX11_fails := qX11_fails_0 _ (List.mem_of_getElem? (i := 18) rfl)
theorem tX11_fails_36 : (36, a_callV 9 70 4 39 0 0) ∈ kX11_fails := qX11_fails_0 _ (List.mem_of_getElem? (i := 19) rfl)
theorem tX11_fails_39 : (39, a_aload 0 40) ∈ kX11_fails := qX11_fails_0 _ (List.mem_of_getElem? (i := 20) rfl)
theorem tX11_fails_40 : (40, a_getR 11 11 43) ∈ kX11_fails := qX11_fails_0 _ (List.mem_of_getElem? (i := 21) rfl)
theorem tX11_fails_43 : (43, a_iload 1 44) ∈ kX11_fails := qX11_fails_0 _ (List.mem_of_getElem? (i := 22) rfl)
theorem tX11_fails_44 : (44, a_callV 9 71 2 47 0 0) ∈ kX11_fails := qX11_fails_0 _ (List.mem_of_getElem? (i := 23) rfl)
theorem qX11_fails_1 : ∀ q ∈ kX11_fails_1, q ∈ kX11_fails := fun _ h => (List.mem_append_right _ h)
theorem tX11_fails_47 : (47, a_iret false) ∈ kX11_fails := qX11_fails_1 _ (List.mem_of_getElem? (i := 0) rfl)
theorem oX11_fails : ∀ q ∈ kX11_fails, zSnd zty false RX11 cX11_fails 3 (some .int) false q := List.forall_mem_append.mpr ⟨oX11_fails_0, oX11_fails_1⟩
theorem dX11_finds_0 : decode cX11_finds 0 = .ok (.iload_n 1, 1) := by decide +kernel
theorem dX11_finds_1 : decode cX11_finds 1 = .ok (.bipush 38, 2) := by decide +kernel
theorem dX11_finds_3 : decode cX11_finds 3 = .ok (.invokestatic 168, 3) := by decide +kernel
theorem dX11_finds_6 : decode cX11_finds 6 = .ok (.ifCond .ne 5, 3) := by decide +kernel
theorem dX11_finds_9 : decode cX11_finds 9 = .ok (.iconst (-1), 1) := by decide +kernel
theorem dX11_finds_10 : decode cX11_finds 10 = .ok (.ireturn, 1) := by decide +kernel
theorem dX11_finds_11 : decode cX11_finds 11 = .ok (.aload_n 0, 1) := by decide +kernel
theorem dX11_finds_12 : decode cX11_finds 12 = .ok (.getfield 19, 3) := by decide +kernel
theorem dX11_finds_15 : decode cX11_finds 15 = .ok (.iconst 1, 1) := by decide +kernel
theorem dX11_finds_16 : decode cX11_finds 16 = .ok (.aaload, 1) := by decide +kernel
theorem dX11_finds_17 : decode cX11_finds 17 = .ok (.astore_n 2, 1) := by decide +kernel
theorem dX11_finds_18 : decode cX11_finds 18 = .ok (.aload_n 0, 1) := by decide +kernel
theorem dX11_finds_19 : decode cX11_finds 19 = .ok (.getfield 47, 3) := by decide +kernel
theorem dX11_finds_22 : decode cX11_finds 22 = .ok (.iload_n 1, 1) := by decide +kernel
theorem dX11_finds_23 : decode cX11_finds 23 = .ok (.iconst 1, 1) := by decide +kernel
theorem dX11_finds_24 : decode cX11_finds 24 = .ok (.ishr, 1) := by decide +kernel
theorem dX11_finds_25 : decode cX11_finds 25 = .ok (.iload_n 1, 1) := by decide +kernel
theorem dX11_finds_26 : decode cX11_finds 26 = .ok (.iconst 1, 1) := by decide +kernel
theorem dX11_finds_27 : decode cX11_finds 27 = .ok (.iand, 1) := by decide +kernel
theorem dX11_finds_28 : decode cX11_finds 28 = .ok (.invokevirtual 300, 3) := by decide +kernel
theorem dX11_finds_31 : decode cX11_finds 31 = .ok (.iconst 0, 1) := by decide +kernel
theorem dX11_finds_32 : decode cX11_finds 32 = .ok (.istore_n 3, 1) := by decide +kernel
theorem dX11_finds_33 : decode cX11_finds 33 = .ok (.iload_n 3, 1) := by decide +kernel
theorem dX11_finds_34 : decode cX11_finds 34 = .ok (.bipush 16, 2) := by decide +kernel
theorem dX11_finds_36 : decode cX11_finds 36 = .ok (.if_icmp .ge 63, 3) := by decide +kernel
theorem dX11_finds_39 : decode cX11_finds 39 = .ok (.aload_n 0, 1) := by decide +kernel
theorem dX11_finds_40 : decode cX11_finds 40 = .ok (.getfield 40, 3) := by decide +kernel
theorem dX11_finds_43 : decode cX11_finds 43 = .ok (.aload_n 2, 1) := by decide +kernel
theorem dX11_finds_44 : decode cX11_finds 44 = .ok (.iload_n 3, 1) := by decide +kernel
theorem dX11_finds_45 : decode cX11_finds 45 = .ok (.invokevirtual 190, 3) := by decide +kernel
theorem dX11_finds_48 : decode cX11_finds 48 = .ok (.aload_n 0, 1) := by decide +kernel
theorem dX11_finds_49 : decode cX11_finds 49 = .ok (.getfield 47, 3) := by decide +kernel
theorem dX11_finds_52 : decode cX11_finds 52 = .ok (.aload_n 2, 1) := by decide +kernel
theorem dX11_finds_53 : decode cX11_finds 53 = .ok (.iload_n 3, 1) := by decide +kernel
theorem dX11_finds_54 : decode cX11_finds 54 = .ok (.invokevirtual 190, 3) := by decide +kernel
theorem dX11_finds_57 : decode cX11_finds 57 = .ok (.aload_n 0, 1) := by decide +kernel
theorem dX11_finds_58 : decode cX11_finds 58 = .ok (.getfield 40, 3) := by decide +kernel
theorem dX11_finds_61 : decode cX11_finds 61 = .ok (.aload_n 0, 1) := by decide +kernel
theorem dX11_finds_62 : decode cX11_finds 62 = .ok (.getfield 47, 3) := by decide +kernel
theorem dX11_finds_65 : decode cX11_finds 65 = .ok (.aload_n 0, 1) := by decide +kernel
theorem dX11_finds_66 : decode cX11_finds 66 = .ok (.getfield 100, 3) := by decide +kernel
theorem dX11_finds_69 : decode cX11_finds 69 = .ok (.aload_n 2, 1) := by decide +kernel
theorem dX11_finds_70 : decode cX11_finds 70 = .ok (.getfield 304, 3) := by decide +kernel
theorem dX11_finds_73 : decode cX11_finds 73 = .ok (.iand, 1) := by decide +kernel
theorem dX11_finds_74 : decode cX11_finds 74 = .ok (.invokevirtual 206, 3) := by decide +kernel
theorem dX11_finds_77 : decode cX11_finds 77 = .ok (.lstore 4, 2) := by decide +kernel
theorem dX11_finds_79 : decode cX11_finds 79 = .ok (.lload 4, 2) := by decide +kernel
theorem dX11_finds_81 : decode cX11_finds 81 = .ok (.lconst 0, 1) := by decide +kernel
theorem dX11_finds_82 : decode cX11_finds 82 = .ok (.lcmp, 1) := by decide +kernel
theorem dX11_finds_83 : decode cX11_finds 83 = .ok (.ifCond .eq 10, 3) := by decide +kernel
theorem dX11_finds_86 : decode cX11_finds 86 = .ok (.iload_n 3, 1) := by decide +kernel
theorem dX11_finds_87 : decode cX11_finds 87 = .ok (.lload 4, 2) := by decide +kernel
theorem dX11_finds_89 : decode cX11_finds 89 = .ok (.invokestatic 210, 3) := by decide +kernel
theorem dX11_finds_92 : decode cX11_finds 92 = .ok (.ireturn, 1) := by decide +kernel
theorem dX11_finds_93 : decode cX11_finds 93 = .ok (.iinc 3 1, 3) := by decide +kernel
theorem dX11_finds_96 : decode cX11_finds 96 = .ok (.goto (-63), 3) := by decide +kernel
theorem dX11_finds_99 : decode cX11_finds 99 = .ok (.bipush (-4), 2) := by decide +kernel
theorem dX11_finds_101 : decode cX11_finds 101 = .ok (.ireturn, 1) := by decide +kernel
def kX11_finds_0 : List (Nat × zT) := [(0, a_iload 1 1), (1, a_i 38 3), (3, a_call 128 2 6 0 0), (6, a_if_ne 11 9), (9, a_i (-1) 10), (10, a_iret false), (11, a_aload 0 12), (12, a_getR 11 1 15), (15, a_i 1 16), (16, a_aald 17), (17, a_astore 2 18), (18, a_aload 0 19), (19, a_getR 11 6 22), (22, a_iload 1 23), (23, a_i 1 24), (24, a_ii (fun x y => x >>> (y &&& 31)) 25), (25, a_iload 1 26), (26, a_i 1 27), (27, a_ii (fun x y => x &&& y) 28), (28, a_callV 4 30 3 31 0 0), (31, a_i 0 32), (32, a_istore 3 33), (33, a_iload 3 34), (34, a_i 16 36)]
theorem oX11_finds_0 : ∀ q ∈ kX11_finds_0, zSnd zty false RX11 cX11_finds 6 (some .int) false q := List.forall_mem_cons.mpr ⟨ok_iload_n dX11_finds_0 rfl, List.forall_mem_cons.mpr ⟨ok_bipush dX11_finds_1 (by decide), List.forall_mem_cons.mpr ⟨ok_callS dX11_finds_3 rfl w443 w525 w442 w1 (by decide +kernel) (by decide), List.forall_mem_cons.mpr ⟨ok_if_ne dX11_finds_6 (by decide), List.forall_mem_cons.mpr ⟨ok_iconst dX11_finds_9 (by decide), List.forall_mem_cons.mpr ⟨ok_iret (bz := false) dX11_finds_10 rfl, List.forall_mem_cons.mpr ⟨ok_aload_n dX11_finds_11 rfl, List.forall_mem_cons.mpr ⟨ok_getR dX11_finds_12 rfl in11 (by decide) rfl w338, List.forall_mem_cons.mpr ⟨ok_iconst dX11_finds_15 (by decide), List.forall_mem_cons.mpr ⟨ok_aald dX11_finds_16, List.forall_mem_cons.mpr ⟨ok_astore_n dX11_finds_17 rfl (by decide), List.forall_mem_cons.mpr ⟨ok_aload_n dX11_finds_18 rfl, List.forall_mem_cons.mpr ⟨ok_getR dX11_finds_19 rfl in11 (by decide) rfl w343, List.forall_mem_cons.mpr ⟨ok_iload_n dX11_finds_22 rfl, List.forall_mem_cons.mpr ⟨ok_iconst dX11_finds_23 (by decide), List.forall_mem_cons.mpr ⟨ok_ishr dX11_finds_24, List.forall_mem_cons.mpr ⟨ok_iload_n dX11_finds_25 rfl, List.forall_mem_cons.mpr ⟨ok_iconst dX11_finds_26 (by decide), List.forall_mem_cons.mpr ⟨ok_iand dX11_finds_27, List.forall_mem_cons.mpr ⟨ok_callV dX11_finds_28 rfl rfl w866 w863 w864 w6 w865 (by decide +kernel) (by decide), List.forall_mem_cons.mpr ⟨ok_iconst dX11_finds_31 (by decide), List.forall_mem_cons.mpr ⟨ok_istore_n dX11_finds_32 rfl (by decide), List.forall_mem_cons.mpr ⟨ok_iload_n dX11_finds_33 rfl, List.forall_mem_cons.mpr ⟨ok_bipush dX11_finds_34 (by decide), fun _ h => absurd h List.not_mem_nil⟩⟩⟩⟩⟩⟩⟩⟩⟩⟩⟩⟩⟩⟩⟩⟩⟩⟩⟩⟩⟩⟩⟩⟩
def kX11_finds_1 : List (Nat × zT) := [(36, a_ic_ge 99 39), (39, a_aload 0 40), (40, a_getR 11 4 43), (43, a_aload 2 44), (44, a_iload 3 45), (45, a_callV 4 32 3 48 0 0), (48, a_aload 0 49), (49, a_getR 11 6 52), (52, a_aload 2 53), (53, a_iload 3 54), (54, a_callV 4 32 3 57 0 0), (57, a_aload 0 58), (58, a_getR 11 4 61), (61, a_aload 0 62), (62, a_getR 11 6 65), (65, a_aload 0 66), (66, a_getI 11 15 69), (69, a_aload 2 70), (70, a_getI 10 6 73), (73, a_ii (fun x y => x &&& y) 74), (74, a_callV 4 39 3 77 0 0), (77, a_lstore 4 79), (79, a_lload 4 81), (81, a_l 0 82)]
theorem oX11_finds_1 : ∀ q ∈ kX11_finds_1, zSnd zty false RX11 cX11_finds 6 (some .int) false q := List.forall_mem_cons.mpr ⟨ok_ic_ge dX11_finds_36 (by decide), List.forall_mem_cons.mpr ⟨ok_aload_n dX11_finds_39 rfl, List.forall_mem_cons.mpr ⟨ok_getR dX11_finds_40 rfl in11 (by decide) rfl w341, List.forall_mem_cons.mpr ⟨ok_aload_n dX11_finds_43 rfl, List.forall_mem_cons.mpr ⟨ok_iload_n dX11_finds_44 rfl, List.forall_mem_cons.mpr ⟨ok_callV dX11_finds_45 rfl rfl w597 w594 w595 w6 w596 (by decide +kernel) (by decide), List.forall_mem_cons.mpr ⟨ok_aload_n dX11_finds_48 rfl, List.forall_mem_cons.mpr ⟨ok_getR dX11_finds_49 rfl in11 (by decide) rfl w343, List.forall_mem_cons.mpr ⟨ok_aload_n dX11_finds_52 rfl, List.forall_mem_cons.mpr ⟨ok_iload_n dX11_finds_53 rfl, List.forall_mem_cons.mpr ⟨ok_callV dX11_finds_54 rfl rfl w597 w594 w595 w6 w596 (by decide +kernel) (by decide), List.forall_mem_cons.mpr ⟨ok_aload_n dX11_finds_57 rfl, List.forall_mem_cons.mpr ⟨ok_getR dX11_finds_58 rfl in11 (by decide) rfl w341, List.forall_mem_cons.mpr ⟨ok_aload_n dX11_finds_61 rfl, List.forall_mem_cons.mpr ⟨ok_getR dX11_finds_62 rfl in11 (by decide) rfl w343, List.forall_mem_cons.mpr ⟨ok_aload_n dX11_finds_65 rfl, List.forall_mem_cons.mpr ⟨ok_getI dX11_finds_66 rfl in11 (by decide) rfl w352, List.forall_mem_cons.mpr ⟨ok_aload_n dX11_finds_69 rfl, List.forall_mem_cons.mpr ⟨ok_getI dX11_finds_70 rfl in10 (by decide) rfl w87, List.forall_mem_cons.mpr ⟨ok_iand dX11_finds_73, List.forall_mem_cons.mpr ⟨ok_callV dX11_finds_74 rfl rfl w632 w629 w630 w6 w631 (by decide +kernel) (by decide), List.forall_mem_cons.mpr ⟨ok_lstore dX11_finds_77 (by decide), List.forall_mem_cons.mpr ⟨ok_lload dX11_finds_79, List.forall_mem_cons.mpr ⟨ok_lconst dX11_finds_81 (by decide), fun _ h => absurd h List.not_mem_nil⟩⟩⟩⟩⟩⟩⟩⟩⟩⟩⟩⟩⟩⟩⟩⟩⟩⟩⟩⟩⟩⟩⟩⟩
def kX11_finds_2 : List (Nat × zT) := [(82, a_lcmp 83), (83, a_if_eq 93 86), (86, a_iload 3 87), (87, a_lload 4 89), (89, a_call 133 2 92 0 0), (92, a_iret false), (93, a_iinc 3 1 96), (96, a_goto 33), (99, a_i (-4) 101), (101, a_iret false)]
theorem oX11_finds_2 : ∀ q ∈ kX11_finds_2, zSnd zty false RX11 cX11_finds 6 (some .int) false q := List.forall_mem_cons.mpr ⟨ok_lcmp dX11_finds_82, List.forall_mem_cons.mpr ⟨ok_if_eq dX11_finds_83 (by decide), List.forall_mem_cons.mpr ⟨ok_iload_n dX11_finds_86 rfl, List.forall_mem_cons.mpr ⟨ok_lload dX11_finds_87, List.forall_mem_cons.mpr ⟨ok_callS dX11_finds_89 rfl w635 w633 w634 w1 (by decide +kernel) (by decide), List.forall_mem_cons.mpr ⟨ok_iret (bz := false) dX11_finds_92 rfl, List.forall_mem_cons.mpr ⟨ok_iinc dX11_finds_93 (by decide) (by decide), List.forall_mem_cons.mpr ⟨ok_goto dX11_finds_96 (by decide), List.forall_mem_cons.mpr ⟨ok_bipush dX11_finds_99 (by decide), List.forall_mem_cons.mpr ⟨ok_iret (bz := false) dX11_finds_101 rfl, fun _ h => absurd h List.not_mem_nil⟩⟩⟩⟩⟩⟩⟩⟩⟩⟩
def kX11_finds : List (Nat × zT) := kX11_finds_0 ++ (kX11_finds_1 ++ (kX11_finds_2))
theorem qX11_finds_0 : ∀ q ∈ kX11_finds_0, q ∈ kX11_finds := fun _ h => (List.mem_append_left _ h)
theorem tX11_finds_0 : (0, a_iload 1 1) ∈ kX11_finds := qX11_finds_0 _ (List.mem_of_getElem? (i := 0) rfl)
theorem tX11_finds_1 : (1, a_i 38 3) ∈ kX11_finds := qX11_finds_0 _ (List.mem_of_getElem? (i := 1) rfl)
theorem tX11_finds_3 : (3, a_call 128 2 6 0 0) ∈ kX11_finds := qX11_finds_0 _ (List.mem_of_getElem? (i := 2) rfl)
theorem tX11_finds_6 : (6, a_if_ne 11 9) ∈ kX11_finds := qX11_finds_0 _ (List.mem_of_getElem? (i := 3) rfl)
theorem tX11_finds_9 : (9, a_i (-1) 10) ∈ kX11_finds := qX11_finds_0 _ (List.mem_of_getElem? (i := 4) rfl)
theorem tX11_finds_10 : (10, a_iret false) ∈ kX11_finds := qX11_finds_0 _ (List.mem_of_getElem? (i := 5) rfl)
theorem tX11_finds_11 : (11, a_aload 0 12) ∈ kX11_finds := qX11_finds_0 _ (List.mem_of_getElem? (i := 6) rfl)
theorem tX11_finds_12 : (12, a_getR 11 1 15) ∈ kX11_finds := qX11_finds_0 _ (List.mem_of_getElem? (i := 7) rfl)
theorem tX11_finds_15 : (15, a_i 1 16) ∈ kX11_finds := qX11_finds_0 _ (List.mem_of_getElem? (i := 8) rfl)
theorem tX11_finds_16 : (16, a_aald 17) ∈ kX11_finds := qX11_finds_0 _ (List.mem_of_getElem? (i := 9) rfl)
theorem tX11_finds_17 : (17, a_astore 2 18) ∈ kX11_finds := qX11_finds_0 _ (List.mem_of_getElem? (i := 10) rfl)
theorem tX11_finds_18 : (18, a_aload 0 19) ∈ kX11_finds := qX11_finds_0 _ (List.mem_of_getElem? (i := 11) rfl)
theorem tX11_finds_19 : (19, a_getR 11 6 22) ∈ kX11_finds := qX11_finds_0 _ (List.mem_of_getElem? (i := 12) rfl)
theorem tX11_finds_22 : (22, a_iload 1 23) ∈ kX11_finds := qX11_finds_0 _ (List.mem_of_getElem? (i := 13) rfl)
theorem tX11_finds_23 : (23, a_i 1 24) ∈ kX11_finds := qX11_finds_0 _ (List.mem_of_getElem? (i := 14) rfl)
theorem tX11_finds_24 : (24, a_ii (fun x y => x >>> (y &&& 31)) 25) ∈ kX11_finds := qX11_finds_0 _ (List.mem_of_getElem? (i := 15) rfl)
theorem tX11_finds_25 : (25, a_iload 1 26) ∈ kX11_finds := qX11_finds_0 _ (List.mem_of_getElem? (i := 16) rfl)
theorem tX11_finds_26 : (26, a_i 1 27) ∈ kX11_finds := qX11_finds_0 _ (List.mem_of_getElem? (i := 17) rfl)
theorem tX11_finds_27 : (27, a_ii (fun x y => x &&& y) 28) ∈ kX11_finds := qX11_finds_0 _ (List.mem_of_getElem? (i := 18) rfl)
theorem tX11_finds_28 : (28, a_callV 4 30 3 31 0 0) ∈ kX11_finds := qX11_finds_0 _ (List.mem_of_getElem? (i := 19) rfl)
theorem tX11_finds_31 : (31, a_i 0 32) ∈ kX11_finds := qX11_finds_0 _ (List.mem_of_getElem? (i := 20) rfl)
theorem tX11_finds_32 : (32, a_istore 3 33) ∈ kX11_finds := qX11_finds_0 _ (List.mem_of_getElem? (i := 21) rfl)
theorem tX11_finds_33 : (33, a_iload 3 34) ∈ kX11_finds := qX11_finds_0 _ (List.mem_of_getElem? (i := 22) rfl)
theorem tX11_finds_34 : (34, a_i 16 36) ∈ kX11_finds := qX11_finds_0 _ (List.mem_of_getElem? (i := 23) rfl)
theorem qX11_finds_1 : ∀ q ∈ kX11_finds_1, q ∈ kX11_finds := fun _ h => (List.mem_append_right _ (List.mem_append_left _ h))
theorem tX11_finds_36 : (36, a_ic_ge 99 39) ∈ kX11_finds := qX11_finds_1 _ (List.mem_of_getElem? (i := 0) rfl)
theorem tX11_finds_39 : (39, a_aload 0 40) ∈ kX11_finds := qX11_finds_1 _ (List.mem_of_getElem? (i := 1) rfl)
theorem tX11_finds_40 : (40, a_getR 11 4 43) ∈ kX11_finds := qX11_finds_1 _ (List.mem_of_getElem? (i := 2) rfl)
theorem tX11_finds_43 : (43, a_aload 2 44) ∈ kX11_finds := qX11_finds_1 _ (List.mem_of_getElem? (i := 3) rfl)
theorem tX11_finds_44 : (44, a_iload 3 45) ∈ kX11_finds := qX11_finds_1 _ (List.mem_of_getElem? (i := 4) rfl)
theorem tX11_finds_45 : (45, a_callV 4 32 3 48 0 0) ∈ kX11_finds := qX11_finds_1 _ (List.mem_of_getElem? (i := 5) rfl)
theorem tX11_finds_48 : (48, a_aload 0 49) ∈ kX11_finds := qX11_finds_1 _ (List.mem_of_getElem? (i := 6) rfl)
theorem tX11_finds_49 : (49, a_getR 11 6 52) ∈ kX11_finds := qX11_finds_1 _ (List.mem_of_getElem? (i := 7) rfl)
theorem tX11_finds_52 : (52, a_aload 2 53) ∈ kX11_finds := qX11_finds_1 _ (List.mem_of_getElem? (i := 8) rfl)
theorem tX11_finds_53 : (53, a_iload 3 54) ∈ kX11_finds := qX11_finds_1 _ (List.mem_of_getElem? (i := 9) rfl)
theorem tX11_finds_54 : (54, a_callV 4 32 3 57 0 0) ∈ kX11_finds := qX11_finds_1 _ (List.mem_of_getElem? (i := 10) rfl)
theorem tX11_finds_57 : (57, a_aload 0 58) ∈ kX11_finds := qX11_finds_1 _ (List.mem_of_getElem? (i := 11) rfl)
theorem tX11_finds_58 : (58, a_getR 11 4 61) ∈ kX11_finds := qX11_finds_1 _ (List.mem_of_getElem? (i := 12) rfl)
theorem tX11_finds_61 : (61, a_aload 0 62) ∈ kX11_finds := qX11_finds_1 _ (List.mem_of_getElem? (i := 13) rfl)
theorem tX11_finds_62 : (62, a_getR 11 6 65) ∈ kX11_finds := qX11_finds_1 _ (List.mem_of_getElem? (i := 14) rfl)
theorem tX11_finds_65 : (65, a_aload 0 66) ∈ kX11_finds := qX11_finds_1 _ (List.mem_of_getElem? (i := 15) rfl)
theorem tX11_finds_66 : (66, a_getI 11 15 69) ∈ kX11_finds := qX11_finds_1 _ (List.mem_of_getElem? (i := 16) rfl)
theorem tX11_finds_69 : (69, a_aload 2 70) ∈ kX11_finds := qX11_finds_1 _ (List.mem_of_getElem? (i := 17) rfl)
theorem tX11_finds_70 : (70, a_getI 10 6 73) ∈ kX11_finds := qX11_finds_1 _ (List.mem_of_getElem? (i := 18) rfl)
theorem tX11_finds_73 : (73, a_ii (fun x y => x &&& y) 74) ∈ kX11_finds := qX11_finds_1 _ (List.mem_of_getElem? (i := 19) rfl)
theorem tX11_finds_74 : (74, a_callV 4 39 3 77 0 0) ∈ kX11_finds := qX11_finds_1 _ (List.mem_of_getElem? (i := 20) rfl)
theorem tX11_finds_77 : (77, a_lstore 4 79) ∈ kX11_finds := qX11_finds_1 _ (List.mem_of_getElem? (i := 21) rfl)
theorem tX11_finds_79 : (79, a_lload 4 81) ∈ kX11_finds := qX11_finds_1 _ (List.mem_of_getElem? (i := 22) rfl)
theorem tX11_finds_81 : (81, a_l 0 82) ∈ kX11_finds := qX11_finds_1 _ (List.mem_of_getElem? (i := 23) rfl)
theorem qX11_finds_2 : ∀ q ∈ kX11_finds_2, q ∈ kX11_finds := fun _ h => (List.mem_append_right _ (List.mem_append_right _ h))
theorem tX11_finds_82 : (82, a_lcmp 83) ∈ kX11_finds := qX11_finds_2 _ (List.mem_of_getElem? (i := 0) rfl)
theorem tX11_finds_83 : (83, a_if_eq 93 86) ∈ kX11_finds := qX11_finds_2 _ (List.mem_of_getElem? (i := 1) rfl)
theorem tX11_finds_86 : (86, a_iload 3 87) ∈ kX11_finds := qX11_finds_2 _ (List.mem_of_getElem? (i := 2) rfl)
theorem tX11_finds_87 : (87, a_lload 4 89) ∈ kX11_finds := qX11_finds_2 _ (List.mem_of_getElem? (i := 3) rfl)
theorem tX11_finds_89 : (89, a_call 133 2 92 0 0) ∈ kX11_finds := qX11_finds_2 _ (List.mem_of_getElem? (i := 4) rfl)
theorem tX11_finds_92 : (92, a_iret false) ∈ kX11_finds := qX11_finds_2 _ (List.mem_of_getElem? (i := 5) rfl)
theorem tX11_finds_93 : (93, a_iinc 3 1 96) ∈ kX11_finds := qX11_finds_2 _ (List.mem_of_getElem? (i := 6) rfl)
theorem tX11_finds_96 : (96, a_goto 33) ∈ kX11_finds := qX11_finds_2 _ (List.mem_of_getElem? (i := 7) rfl)
theorem tX11_finds_99 : (99, a_i (-4) 101) ∈ kX11_finds := qX11_finds_2 _ (List.mem_of_getElem? (i := 8) rfl)
theorem tX11_finds_101 : (101, a_iret false) ∈ kX11_finds := qX11_finds_2 _ (List.mem_of_getElem? (i := 9) rfl)
theorem oX11_finds : ∀ q ∈ kX11_finds, zSnd zty false RX11 cX11_finds 6 (some .int) false q := List.forall_mem_append.mpr ⟨oX11_finds_0, List.forall_mem_append.mpr ⟨oX11_finds_1, oX11_finds_2⟩⟩
theorem dX11_trial_0 : decode cX11_trial 0 = .ok (.iload_n 1, 1) := by decide +kernel
theorem dX11_trial_1 : decode cX11_trial 1 = .ok (.sipush 1024, 3) := by decide +kernel
theorem dX11_trial_4 : decode cX11_trial 4 = .ok (.invokestatic 168, 3) := by decide +kernel
theorem dX11_trial_7 : decode cX11_trial 7 = .ok (.ifCond .ne 5, 3) := by decide +kernel
theorem dX11_trial_10 : decode cX11_trial 10 = .ok (.iconst (-1), 1) := by decide +kernel
theorem dX11_trial_11 : decode cX11_trial 11 = .ok (.ireturn, 1) := by decide +kernel
theorem dX11_trial_12 : decode cX11_trial 12 = .ok (.aload_n 0, 1) := by decide +kernel
theorem dX11_trial_13 : decode cX11_trial 13 = .ok (.getfield 81, 3) := by decide +kernel
theorem dX11_trial_16 : decode cX11_trial 16 = .ok (.iload_n 1, 1) := by decide +kernel
theorem dX11_trial_17 : decode cX11_trial 17 = .ok (.invokevirtual 307, 3) := by decide +kernel
theorem dX11_trial_20 : decode cX11_trial 20 = .ok (.ireturn, 1) := by decide +kernel
def kX11_trial_0 : List (Nat × zT) := [(0, a_iload 1 1), (1, a_i 1024 4), (4, a_call 128 2 7 0 0), (7, a_if_ne 12 10), (10, a_i (-1) 11), (11, a_iret false), (12, a_aload 0 13), (13, a_getR 11 11 16), (16, a_iload 1 17), (17, a_callV 9 69 2 20 0 0), (20, a_iret false)]
theorem oX11_trial_0 : ∀ q ∈ kX11_trial_0, zSnd zty false RX11 cX11_trial 2 (some .int) false q := List.forall_mem_cons.mpr ⟨ok_iload_n dX11_trial_0 rfl, List.forall_mem_cons.mpr ⟨ok_sipush dX11_trial_1 (by decide), List.forall_mem_cons.mpr ⟨ok_callS dX11_trial_4 rfl w443 w525 w442 w1 (by decide +kernel) (by decide), List.forall_mem_cons.mpr ⟨ok_if_ne dX11_trial_7 (by decide), List.forall_mem_cons.mpr ⟨ok_iconst dX11_trial_10 (by decide), List.forall_mem_cons.mpr ⟨ok_iret (bz := false) dX11_trial_11 rfl, List.forall_mem_cons.mpr ⟨ok_aload_n dX11_trial_12 rfl, List.forall_mem_cons.mpr ⟨ok_getR dX11_trial_13 rfl in11 (by decide) rfl w348, List.forall_mem_cons.mpr ⟨ok_iload_n dX11_trial_16 rfl, List.forall_mem_cons.mpr ⟨ok_callV dX11_trial_17 rfl rfl w878 w875 w876 w11 w877 (by decide +kernel) (by decide), List.forall_mem_cons.mpr ⟨ok_iret (bz := false) dX11_trial_20 rfl, fun _ h => absurd h List.not_mem_nil⟩⟩⟩⟩⟩⟩⟩⟩⟩⟩⟩
def kX11_trial : List (Nat × zT) := kX11_trial_0
theorem qX11_trial_0 : ∀ q ∈ kX11_trial_0, q ∈ kX11_trial := fun _ h => h
theorem tX11_trial_0 : (0, a_iload 1 1) ∈ kX11_trial := qX11_trial_0 _ (List.mem_of_getElem? (i := 0) rfl)
theorem tX11_trial_1 : (1, a_i 1024 4) ∈ kX11_trial := qX11_trial_0 _ (List.mem_of_getElem? (i := 1) rfl)
theorem tX11_trial_4 : (4, a_call 128 2 7 0 0) ∈ kX11_trial := qX11_trial_0 _ (List.mem_of_getElem? (i := 2) rfl)
theorem tX11_trial_7 : (7, a_if_ne 12 10) ∈ kX11_trial := qX11_trial_0 _ (List.mem_of_getElem? (i := 3) rfl)
theorem tX11_trial_10 : (10, a_i (-1) 11) ∈ kX11_trial := qX11_trial_0 _ (List.mem_of_getElem? (i := 4) rfl)
theorem tX11_trial_11 : (11, a_iret false) ∈ kX11_trial := qX11_trial_0 _ (List.mem_of_getElem? (i := 5) rfl)
theorem tX11_trial_12 : (12, a_aload 0 13) ∈ kX11_trial := qX11_trial_0 _ (List.mem_of_getElem? (i := 6) rfl)
theorem tX11_trial_13 : (13, a_getR 11 11 16) ∈ kX11_trial := qX11_trial_0 _ (List.mem_of_getElem? (i := 7) rfl)
theorem tX11_trial_16 : (16, a_iload 1 17) ∈ kX11_trial := qX11_trial_0 _ (List.mem_of_getElem? (i := 8) rfl)
theorem tX11_trial_17 : (17, a_callV 9 69 2 20 0 0) ∈ kX11_trial := qX11_trial_0 _ (List.mem_of_getElem? (i := 9) rfl)
theorem tX11_trial_20 : (20, a_iret false) ∈ kX11_trial := qX11_trial_0 _ (List.mem_of_getElem? (i := 10) rfl)
theorem oX11_trial : ∀ q ∈ kX11_trial, zSnd zty false RX11 cX11_trial 2 (some .int) false q := oX11_trial_0
theorem dX11_noTrials_0 : decode cX11_noTrials 0 = .ok (.aload_n 0, 1) := by decide +kernel
theorem dX11_noTrials_1 : decode cX11_noTrials 1 = .ok (.getfield 81, 3) := by decide +kernel
theorem dX11_noTrials_4 : decode cX11_noTrials 4 = .ok (.getfield 310, 3) := by decide +kernel
theorem dX11_noTrials_7 : decode cX11_noTrials 7 = .ok (.istore_n 1, 1) := by decide +kernel
theorem dX11_noTrials_8 : decode cX11_noTrials 8 = .ok (.aload_n 0, 1) := by decide +kernel
theorem dX11_noTrials_9 : decode cX11_noTrials 9 = .ok (.getfield 81, 3) := by decide +kernel
theorem dX11_noTrials_12 : decode cX11_noTrials 12 = .ok (.iconst 0, 1) := by decide +kernel
theorem dX11_noTrials_13 : decode cX11_noTrials 13 = .ok (.putfield 310, 3) := by decide +kernel
theorem dX11_noTrials_16 : decode cX11_noTrials 16 = .ok (.iload_n 1, 1) := by decide +kernel
theorem dX11_noTrials_17 : decode cX11_noTrials 17 = .ok (.ireturn, 1) := by decide +kernel
def kX11_noTrials_0 : List (Nat × zT) := [(0, a_aload 0 1), (1, a_getR 11 11 4), (4, a_getI 9 2 7), (7, a_istore 1 8), (8, a_aload 0 9), (9, a_getR 11 11 12), (12, a_i 0 13), (13, a_putI 9 2 16 false), (16, a_iload 1 17), (17, a_iret false)]
theorem oX11_noTrials_0 : ∀ q ∈ kX11_noTrials_0, zSnd zty false RX11 cX11_noTrials 2 (some .int) false q := List.forall_mem_cons.mpr ⟨ok_aload_n dX11_noTrials_0 rfl, List.forall_mem_cons.mpr ⟨ok_getR dX11_noTrials_1 rfl in11 (by decide) rfl w348, List.forall_mem_cons.mpr ⟨ok_getI dX11_noTrials_4 rfl in9 (by decide) rfl w289, List.forall_mem_cons.mpr ⟨ok_istore_n dX11_noTrials_7 rfl (by decide), List.forall_mem_cons.mpr ⟨ok_aload_n dX11_noTrials_8 rfl, List.forall_mem_cons.mpr ⟨ok_getR dX11_noTrials_9 rfl in11 (by decide) rfl w348, List.forall_mem_cons.mpr ⟨ok_iconst dX11_noTrials_12 (by decide), List.forall_mem_cons.mpr ⟨ok_putI (bz := false) dX11_noTrials_13 rfl in9 tyX9 tyX9_ok nmX9 (by decide) rfl w289 rfl rfl, List.forall_mem_cons.mpr ⟨ok_iload_n dX11_noTrials_16 rfl, List.forall_mem_cons.mpr ⟨ok_iret (bz := false) dX11_noTrials_17 rfl, fun _ h => absurd h List.not_mem_nil⟩⟩⟩⟩⟩⟩⟩⟩⟩⟩
def kX11_noTrials : List (Nat × zT) := kX11_noTrials_0
theorem qX11_noTrials_0 : ∀ q ∈ kX11_noTrials_0, q ∈ kX11_noTrials := fun _ h => h
theorem tX11_noTrials_0 : (0, a_aload 0 1) ∈ kX11_noTrials := qX11_noTrials_0 _ (List.mem_of_getElem? (i := 0) rfl)
theorem tX11_noTrials_1 : (1, a_getR 11 11 4) ∈ kX11_noTrials := qX11_noTrials_0 _ (List.mem_of_getElem? (i := 1) rfl)
theorem tX11_noTrials_4 : (4, a_getI 9 2 7) ∈ kX11_noTrials := qX11_noTrials_0 _ (List.mem_of_getElem? (i := 2) rfl)
theorem tX11_noTrials_7 : (7, a_istore 1 8) ∈ kX11_noTrials := qX11_noTrials_0 _ (List.mem_of_getElem? (i := 3) rfl)
theorem tX11_noTrials_8 : (8, a_aload 0 9) ∈ kX11_noTrials := qX11_noTrials_0 _ (List.mem_of_getElem? (i := 4) rfl)
theorem tX11_noTrials_9 : (9, a_getR 11 11 12) ∈ kX11_noTrials := qX11_noTrials_0 _ (List.mem_of_getElem? (i := 5) rfl)
theorem tX11_noTrials_12 : (12, a_i 0 13) ∈ kX11_noTrials := qX11_noTrials_0 _ (List.mem_of_getElem? (i := 6) rfl)
theorem tX11_noTrials_13 : (13, a_putI 9 2 16 false) ∈ kX11_noTrials := qX11_noTrials_0 _ (List.mem_of_getElem? (i := 7) rfl)
theorem tX11_noTrials_16 : (16, a_iload 1 17) ∈ kX11_noTrials := qX11_noTrials_0 _ (List.mem_of_getElem? (i := 8) rfl)
theorem tX11_noTrials_17 : (17, a_iret false) ∈ kX11_noTrials := qX11_noTrials_0 _ (List.mem_of_getElem? (i := 9) rfl)
theorem oX11_noTrials : ∀ q ∈ kX11_noTrials, zSnd zty false RX11 cX11_noTrials 2 (some .int) false q := oX11_noTrials_0
theorem dX11_fewest_0 : decode cX11_fewest 0 = .ok (.iload_n 1, 1) := by decide +kernel
theorem dX11_fewest_1 : decode cX11_fewest 1 = .ok (.ifCond .lt 8, 3) := by decide +kernel
theorem dX11_fewest_4 : decode cX11_fewest 4 = .ok (.iload_n 1, 1) := by decide +kernel
theorem dX11_fewest_5 : decode cX11_fewest 5 = .ok (.iconst 1, 1) := by decide +kernel
theorem dX11_fewest_6 : decode cX11_fewest 6 = .ok (.if_icmp .le 5, 3) := by decide +kernel
theorem dX11_fewest_9 : decode cX11_fewest 9 = .ok (.iconst (-1), 1) := by decide +kernel
theorem dX11_fewest_10 : decode cX11_fewest 10 = .ok (.ireturn, 1) := by decide +kernel
theorem dX11_fewest_11 : decode cX11_fewest 11 = .ok (.aload_n 0, 1) := by decide +kernel
theorem dX11_fewest_12 : decode cX11_fewest 12 = .ok (.getfield 81, 3) := by decide +kernel
theorem dX11_fewest_15 : decode cX11_fewest 15 = .ok (.aload_n 0, 1) := by decide +kernel
theorem dX11_fewest_16 : decode cX11_fewest 16 = .ok (.getfield 19, 3) := by decide +kernel
theorem dX11_fewest_19 : decode cX11_fewest 19 = .ok (.iconst 1, 1) := by decide +kernel
theorem dX11_fewest_20 : decode cX11_fewest 20 = .ok (.aaload, 1) := by decide +kernel
theorem dX11_fewest_21 : decode cX11_fewest 21 = .ok (.aload_n 0, 1) := by decide +kernel
theorem dX11_fewest_22 : decode cX11_fewest 22 = .ok (.getfield 100, 3) := by decide +kernel
theorem dX11_fewest_25 : decode cX11_fewest 25 = .ok (.invokevirtual 313, 3) := by decide +kernel
theorem dX11_fewest_28 : decode cX11_fewest 28 = .ok (.lstore_n 2, 1) := by decide +kernel
theorem dX11_fewest_29 : decode cX11_fewest 29 = .ok (.iload_n 1, 1) := by decide +kernel
theorem dX11_fewest_30 : decode cX11_fewest 30 = .ok (.ifCond .ne 10, 3) := by decide +kernel
theorem dX11_fewest_33 : decode cX11_fewest 33 = .ok (.lload_n 2, 1) := by decide +kernel
theorem dX11_fewest_34 : decode cX11_fewest 34 = .ok (.invokestatic 193, 3) := by decide +kernel
theorem dX11_fewest_37 : decode cX11_fewest 37 = .ok (.goto 11, 3) := by decide +kernel
theorem dX11_fewest_40 : decode cX11_fewest 40 = .ok (.aload_n 0, 1) := by decide +kernel
theorem dX11_fewest_41 : decode cX11_fewest 41 = .ok (.getfield 81, 3) := by decide +kernel
theorem dX11_fewest_44 : decode cX11_fewest 44 = .ok (.lload_n 2, 1) := by decide +kernel
theorem dX11_fewest_45 : decode cX11_fewest 45 = .ok (.invokevirtual 317, 3) := by decide +kernel
theorem dX11_fewest_48 : decode cX11_fewest 48 = .ok (.ireturn, 1) := by decide +kernel
def kX11_fewest_0 : List (Nat × zT) := [(0, a_iload 1 1), (1, a_if_lt 9 4), (4, a_iload 1 5), (5, a_i 1 6), (6, a_ic_le 11 9), (9, a_i (-1) 10), (10, a_iret false), (11, a_aload 0 12), (12, a_getR 11 11 15), (15, a_aload 0 16), (16, a_getR 11 1 19), (19, a_i 1 20), (20, a_aald 21), (21, a_aload 0 22), (22, a_getI 11 15 25), (25, a_callV 9 73 3 28 0 0), (28, a_lstore 2 29), (29, a_iload 1 30), (30, a_if_ne 40 33), (33, a_lload 2 34), (34, a_call 219 1 37 0 0), (37, a_goto 48), (40, a_aload 0 41), (41, a_getR 11 11 44)]
theorem oX11_fewest_0 : ∀ q ∈ kX11_fewest_0, zSnd zty false RX11 cX11_fewest 4 (some .int) false q := List.forall_mem_cons.mpr ⟨ok_iload_n dX11_fewest_0 rfl, List.forall_mem_cons.mpr ⟨ok_if_lt dX11_fewest_1 (by decide), List.forall_mem_cons.mpr ⟨ok_iload_n dX11_fewest_4 rfl, List.forall_mem_cons.mpr ⟨ok_iconst dX11_fewest_5 (by decide), List.forall_mem_cons.mpr ⟨ok_ic_le dX11_fewest_6 (by decide), List.forall_mem_cons.mpr ⟨ok_iconst dX11_fewest_9 (by decide), List.forall_mem_cons.mpr ⟨ok_iret (bz := false) dX11_fewest_10 rfl, List.forall_mem_cons.mpr ⟨ok_aload_n dX11_fewest_11 rfl, List.forall_mem_cons.mpr ⟨ok_getR dX11_fewest_12 rfl in11 (by decide) rfl w348, List.forall_mem_cons.mpr ⟨ok_aload_n dX11_fewest_15 rfl, List.forall_mem_cons.mpr ⟨ok_getR dX11_fewest_16 rfl in11 (by decide) rfl w338, List.forall_mem_cons.mpr ⟨ok_iconst dX11_fewest_19 (by decide), List.forall_mem_cons.mpr ⟨ok_aald dX11_fewest_20, List.forall_mem_cons.mpr ⟨ok_aload_n dX11_fewest_21 rfl, List.forall_mem_cons.mpr ⟨ok_getI dX11_fewest_22 rfl in11 (by decide) rfl w352, List.forall_mem_cons.mpr ⟨ok_callV dX11_fewest_25 rfl rfl w890 w887 w888 w11 w889 (by decide +kernel) (by decide), List.forall_mem_cons.mpr ⟨ok_lstore_n dX11_fewest_28 rfl (by decide), List.forall_mem_cons.mpr ⟨ok_iload_n dX11_fewest_29 rfl, List.forall_mem_cons.mpr ⟨ok_if_ne dX11_fewest_30 (by decide), List.forall_mem_cons.mpr ⟨ok_lload_n dX11_fewest_33 rfl, List.forall_mem_cons.mpr ⟨ok_callS dX11_fewest_34 rfl w602 w600 w601 w17 (by decide +kernel) (by decide), List.forall_mem_cons.mpr ⟨ok_goto dX11_fewest_37 (by decide), List.forall_mem_cons.mpr ⟨ok_aload_n dX11_fewest_40 rfl, List.forall_mem_cons.mpr ⟨ok_getR dX11_fewest_41 rfl in11 (by decide) rfl w348, fun _ h => absurd h List.not_mem_nil⟩⟩⟩⟩⟩⟩⟩⟩⟩⟩⟩⟩⟩⟩⟩⟩⟩⟩⟩⟩⟩⟩⟩⟩
def kX11_fewest_1 : List (Nat × zT) := [(44, a_lload 2 45), (45, a_callV 9 74 2 48 0 0), (48, a_iret false)]
theorem oX11_fewest_1 : ∀ q ∈ kX11_fewest_1, zSnd zty false RX11 cX11_fewest 4 (some .int) false q := List.forall_mem_cons.mpr ⟨ok_lload_n dX11_fewest_44 rfl, List.forall_mem_cons.mpr ⟨ok_callV dX11_fewest_45 rfl rfl w900 w897 w898 w11 w899 (by decide +kernel) (by decide), List.forall_mem_cons.mpr ⟨ok_iret (bz := false) dX11_fewest_48 rfl, fun _ h => absurd h List.not_mem_nil⟩⟩⟩
def kX11_fewest : List (Nat × zT) := kX11_fewest_0 ++ (kX11_fewest_1)
theorem qX11_fewest_0 : ∀ q ∈ kX11_fewest_0, q ∈ kX11_fewest := fun _ h => (List.mem_append_left _ h)
theorem tX11_fewest_0 : (0, a_iload 1 1) ∈ kX11_fewest := qX11_fewest_0 _ (List.mem_of_getElem? (i := 0) rfl)
theorem tX11_fewest_1 : (1, a_if_lt 9 4) ∈ kX11_fewest := qX11_fewest_0 _ (List.mem_of_getElem? (i := 1) rfl)
theorem tX11_fewest_4 : (4, a_iload 1 5) ∈ kX11_fewest := qX11_fewest_0 _ (List.mem_of_getElem? (i := 2) rfl)
theorem tX11_fewest_5 : (5, a_i 1 6) ∈ kX11_fewest := qX11_fewest_0 _ (List.mem_of_getElem? (i := 3) rfl)
theorem tX11_fewest_6 : (6, a_ic_le 11 9) ∈ kX11_fewest := qX11_fewest_0 _ (List.mem_of_getElem? (i := 4) rfl)
theorem tX11_fewest_9 : (9, a_i (-1) 10) ∈ kX11_fewest := qX11_fewest_0 _ (List.mem_of_getElem? (i := 5) rfl)
theorem tX11_fewest_10 : (10, a_iret false) ∈ kX11_fewest := qX11_fewest_0 _ (List.mem_of_getElem? (i := 6) rfl)
theorem tX11_fewest_11 : (11, a_aload 0 12) ∈ kX11_fewest := qX11_fewest_0 _ (List.mem_of_getElem? (i := 7) rfl)
theorem tX11_fewest_12 : (12, a_getR 11 11 15) ∈ kX11_fewest := qX11_fewest_0 _ (List.mem_of_getElem? (i := 8) rfl)
theorem tX11_fewest_15 : (15, a_aload 0 16) ∈ kX11_fewest := qX11_fewest_0 _ (List.mem_of_getElem? (i := 9) rfl)
theorem tX11_fewest_16 : (16, a_getR 11 1 19) ∈ kX11_fewest := qX11_fewest_0 _ (List.mem_of_getElem? (i := 10) rfl)
theorem tX11_fewest_19 : (19, a_i 1 20) ∈ kX11_fewest := qX11_fewest_0 _ (List.mem_of_getElem? (i := 11) rfl)
theorem tX11_fewest_20 : (20, a_aald 21) ∈ kX11_fewest := qX11_fewest_0 _ (List.mem_of_getElem? (i := 12) rfl)
theorem tX11_fewest_21 : (21, a_aload 0 22) ∈ kX11_fewest := qX11_fewest_0 _ (List.mem_of_getElem? (i := 13) rfl)
theorem tX11_fewest_22 : (22, a_getI 11 15 25) ∈ kX11_fewest := qX11_fewest_0 _ (List.mem_of_getElem? (i := 14) rfl)
theorem tX11_fewest_25 : (25, a_callV 9 73 3 28 0 0) ∈ kX11_fewest := qX11_fewest_0 _ (List.mem_of_getElem? (i := 15) rfl)
theorem tX11_fewest_28 : (28, a_lstore 2 29) ∈ kX11_fewest := qX11_fewest_0 _ (List.mem_of_getElem? (i := 16) rfl)
theorem tX11_fewest_29 : (29, a_iload 1 30) ∈ kX11_fewest := qX11_fewest_0 _ (List.mem_of_getElem? (i := 17) rfl)
theorem tX11_fewest_30 : (30, a_if_ne 40 33) ∈ kX11_fewest := qX11_fewest_0 _ (List.mem_of_getElem? (i := 18) rfl)
theorem tX11_fewest_33 : (33, a_lload 2 34) ∈ kX11_fewest := qX11_fewest_0 _ (List.mem_of_getElem? (i := 19) rfl)
theorem tX11_fewest_34 : (34, a_call 219 1 37 0 0) ∈ kX11_fewest := qX11_fewest_0 _ (List.mem_of_getElem? (i := 20) rfl)
theorem tX11_fewest_37 : (37, a_goto 48) ∈ kX11_fewest := qX11_fewest_0 _ (List.mem_of_getElem? (i := 21) rfl)
theorem tX11_fewest_40 : (40, a_aload 0 41) ∈ kX11_fewest := qX11_fewest_0 _ (List.mem_of_getElem? (i := 22) rfl)
theorem tX11_fewest_41 : (41, a_getR 11 11 44) ∈ kX11_fewest := qX11_fewest_0 _ (List.mem_of_getElem? (i := 23) rfl)
theorem qX11_fewest_1 : ∀ q ∈ kX11_fewest_1, q ∈ kX11_fewest := fun _ h => (List.mem_append_right _ h)
theorem tX11_fewest_44 : (44, a_lload 2 45) ∈ kX11_fewest := qX11_fewest_1 _ (List.mem_of_getElem? (i := 0) rfl)
theorem tX11_fewest_45 : (45, a_callV 9 74 2 48 0 0) ∈ kX11_fewest := qX11_fewest_1 _ (List.mem_of_getElem? (i := 1) rfl)
theorem tX11_fewest_48 : (48, a_iret false) ∈ kX11_fewest := qX11_fewest_1 _ (List.mem_of_getElem? (i := 2) rfl)
theorem oX11_fewest : ∀ q ∈ kX11_fewest, zSnd zty false RX11 cX11_fewest 4 (some .int) false q := List.forall_mem_append.mpr ⟨oX11_fewest_0, oX11_fewest_1⟩
theorem dX11_see_0 : decode cX11_see 0 = .ok (.iload_n 1, 1) := by decide +kernel
theorem dX11_see_1 : decode cX11_see 1 = .ok (.aload_n 0, 1) := by decide +kernel
theorem dX11_see_2 : decode cX11_see 2 = .ok (.getfield 81, 3) := by decide +kernel
theorem dX11_see_5 : decode cX11_see 5 = .ok (.getfield 310, 3) := by decide +kernel
theorem dX11_see_8 : decode cX11_see 8 = .ok (.invokestatic 168, 3) := by decide +kernel
theorem dX11_see_11 : decode cX11_see 11 = .ok (.ifCond .eq 16, 3) := by decide +kernel
theorem dX11_see_14 : decode cX11_see 14 = .ok (.iload_n 2, 1) := by decide +kernel
theorem dX11_see_15 : decode cX11_see 15 = .ok (.iconst (-1), 1) := by decide +kernel
theorem dX11_see_16 : decode cX11_see 16 = .ok (.if_icmp .eq 14, 3) := by decide +kernel
theorem dX11_see_19 : decode cX11_see 19 = .ok (.iload_n 2, 1) := by decide +kernel
theorem dX11_see_20 : decode cX11_see 20 = .ok (.ldc_w 292, 3) := by decide +kernel
theorem dX11_see_23 : decode cX11_see 23 = .ok (.iand, 1) := by decide +kernel
theorem dX11_see_24 : decode cX11_see 24 = .ok (.ifCond .eq 6, 3) := by decide +kernel
theorem dX11_see_27 : decode cX11_see 27 = .ok (.bipush (-100), 2) := by decide +kernel
theorem dX11_see_29 : decode cX11_see 29 = .ok (.ireturn, 1) := by decide +kernel
theorem dX11_see_30 : decode cX11_see 30 = .ok (.aload_n 0, 1) := by decide +kernel
theorem dX11_see_31 : decode cX11_see 31 = .ok (.getfield 81, 3) := by decide +kernel
theorem dX11_see_34 : decode cX11_see 34 = .ok (.getfield 320, 3) := by decide +kernel
theorem dX11_see_37 : decode cX11_see 37 = .ok (.iload_n 1, 1) := by decide +kernel
theorem dX11_see_38 : decode cX11_see 38 = .ok (.iaload, 1) := by decide +kernel
theorem dX11_see_39 : decode cX11_see 39 = .ok (.istore_n 3, 1) := by decide +kernel
theorem dX11_see_40 : decode cX11_see 40 = .ok (.aload_n 0, 1) := by decide +kernel
theorem dX11_see_41 : decode cX11_see 41 = .ok (.getfield 81, 3) := by decide +kernel
theorem dX11_see_44 : decode cX11_see 44 = .ok (.getfield 320, 3) := by decide +kernel
theorem dX11_see_47 : decode cX11_see 47 = .ok (.iload_n 1, 1) := by decide +kernel
theorem dX11_see_48 : decode cX11_see 48 = .ok (.iload_n 2, 1) := by decide +kernel
theorem dX11_see_49 : decode cX11_see 49 = .ok (.iastore, 1) := by decide +kernel
theorem dX11_see_50 : decode cX11_see 50 = .ok (.iload_n 3, 1) := by decide +kernel
theorem dX11_see_51 : decode cX11_see 51 = .ok (.ireturn, 1) := by decide +kernel
def kX11_see_0 : List (Nat × zT) := [(0, a_iload 1 1), (1, a_aload 0 2), (2, a_getR 11 11 5), (5, a_getI 9 2 8), (8, a_call 128 2 11 0 0), (11, a_if_eq 27 14), (14, a_iload 2 15), (15, a_i (-1) 16), (16, a_ic_eq 30 19), (19, a_iload 2 20), (20, a_i (-524225) 23), (23, a_ii (fun x y => x &&& y) 24), (24, a_if_eq 30 27), (27, a_i (-100) 29), (29, a_iret false), (30, a_aload 0 31), (31, a_getR 11 11 34), (34, a_getR 9 1 37), (37, a_iload 1 38), (38, a_iald 39), (39, a_istore 3 40), (40, a_aload 0 41), (41, a_getR 11 11 44), (44, a_getR 9 1 47)]
theorem oX11_see_0 : ∀ q ∈ kX11_see_0, zSnd zty false RX11 cX11_see 4 (some .int) false q := List.forall_mem_cons.mpr ⟨ok_iload_n dX11_see_0 rfl, List.forall_mem_cons.mpr ⟨ok_aload_n dX11_see_1 rfl, List.forall_mem_cons.mpr ⟨ok_getR dX11_see_2 rfl in11 (by decide) rfl w348, List.forall_mem_cons.mpr ⟨ok_getI dX11_see_5 rfl in9 (by decide) rfl w289, List.forall_mem_cons.mpr ⟨ok_callS dX11_see_8 rfl w443 w525 w442 w1 (by decide +kernel) (by decide), List.forall_mem_cons.mpr ⟨ok_if_eq dX11_see_11 (by decide), List.forall_mem_cons.mpr ⟨ok_iload_n dX11_see_14 rfl, List.forall_mem_cons.mpr ⟨ok_iconst dX11_see_15 (by decide), List.forall_mem_cons.mpr ⟨ok_ic_eq dX11_see_16 (by decide), List.forall_mem_cons.mpr ⟨ok_iload_n dX11_see_19 rfl, List.forall_mem_cons.mpr ⟨ok_ldcw dX11_see_20 w843, List.forall_mem_cons.mpr ⟨ok_iand dX11_see_23, List.forall_mem_cons.mpr ⟨ok_if_eq dX11_see_24 (by decide), List.forall_mem_cons.mpr ⟨ok_bipush dX11_see_27 (by decide), List.forall_mem_cons.mpr ⟨ok_iret (bz := false) dX11_see_29 rfl, List.forall_mem_cons.mpr ⟨ok_aload_n dX11_see_30 rfl, List.forall_mem_cons.mpr ⟨ok_getR dX11_see_31 rfl in11 (by decide) rfl w348, List.forall_mem_cons.mpr ⟨ok_getR dX11_see_34 rfl in9 (by decide) rfl w287, List.forall_mem_cons.mpr ⟨ok_iload_n dX11_see_37 rfl, List.forall_mem_cons.mpr ⟨ok_iald dX11_see_38, List.forall_mem_cons.mpr ⟨ok_istore_n dX11_see_39 rfl (by decide), List.forall_mem_cons.mpr ⟨ok_aload_n dX11_see_40 rfl, List.forall_mem_cons.mpr ⟨ok_getR dX11_see_41 rfl in11 (by decide) rfl w348, List.forall_mem_cons.mpr ⟨ok_getR dX11_see_44 rfl in9 (by decide) rfl w287, fun _ h => absurd h List.not_mem_nil⟩⟩⟩⟩⟩⟩⟩⟩⟩⟩⟩⟩⟩⟩⟩⟩⟩⟩⟩⟩⟩⟩⟩⟩
def kX11_see_1 : List (Nat × zT) := [(47, a_iload 1 48), (48, a_iload 2 49), (49, a_iast 50), (50, a_iload 3 51), (51, a_iret false)]
theorem oX11_see_1 : ∀ q ∈ kX11_see_1, zSnd zty false RX11 cX11_see 4 (some .int) false q := List.forall_mem_cons.mpr ⟨ok_iload_n dX11_see_47 rfl, List.forall_mem_cons.mpr ⟨ok_iload_n dX11_see_48 rfl, List.forall_mem_cons.mpr ⟨ok_iast dX11_see_49, List.forall_mem_cons.mpr ⟨ok_iload_n dX11_see_50 rfl, List.forall_mem_cons.mpr ⟨ok_iret (bz := false) dX11_see_51 rfl, fun _ h => absurd h List.not_mem_nil⟩⟩⟩⟩⟩
def kX11_see : List (Nat × zT) := kX11_see_0 ++ (kX11_see_1)
theorem qX11_see_0 : ∀ q ∈ kX11_see_0, q ∈ kX11_see := fun _ h => (List.mem_append_left _ h)
theorem tX11_see_0 : (0, a_iload 1 1) ∈ kX11_see := qX11_see_0 _ (List.mem_of_getElem? (i := 0) rfl)
theorem tX11_see_1 : (1, a_aload 0 2) ∈ kX11_see := qX11_see_0 _ (List.mem_of_getElem? (i := 1) rfl)
theorem tX11_see_2 : (2, a_getR 11 11 5) ∈ kX11_see := qX11_see_0 _ (List.mem_of_getElem? (i := 2) rfl)
theorem tX11_see_5 : (5, a_getI 9 2 8) ∈ kX11_see := qX11_see_0 _ (List.mem_of_getElem? (i := 3) rfl)
theorem tX11_see_8 : (8, a_call 128 2 11 0 0) ∈ kX11_see := qX11_see_0 _ (List.mem_of_getElem? (i := 4) rfl)
theorem tX11_see_11 : (11, a_if_eq 27 14) ∈ kX11_see := qX11_see_0 _ (List.mem_of_getElem? (i := 5) rfl)
theorem tX11_see_14 : (14, a_iload 2 15) ∈ kX11_see := qX11_see_0 _ (List.mem_of_getElem? (i := 6) rfl)
theorem tX11_see_15 : (15, a_i (-1) 16) ∈ kX11_see := qX11_see_0 _ (List.mem_of_getElem? (i := 7) rfl)
theorem tX11_see_16 : (16, a_ic_eq 30 19) ∈ kX11_see := qX11_see_0 _ (List.mem_of_getElem? (i := 8) rfl)
theorem tX11_see_19 : (19, a_iload 2 20) ∈ kX11_see := qX11_see_0 _ (List.mem_of_getElem? (i := 9) rfl)
theorem tX11_see_20 : (20, a_i (-524225) 23) ∈ kX11_see := qX11_see_0 _ (List.mem_of_getElem? (i := 10) rfl)
theorem tX11_see_23 : (23, a_ii (fun x y => x &&& y) 24) ∈ kX11_see := qX11_see_0 _ (List.mem_of_getElem? (i := 11) rfl)
theorem tX11_see_24 : (24, a_if_eq 30 27) ∈ kX11_see := qX11_see_0 _ (List.mem_of_getElem? (i := 12) rfl)
theorem tX11_see_27 : (27, a_i (-100) 29) ∈ kX11_see := qX11_see_0 _ (List.mem_of_getElem? (i := 13) rfl)
theorem tX11_see_29 : (29, a_iret false) ∈ kX11_see := qX11_see_0 _ (List.mem_of_getElem? (i := 14) rfl)
theorem tX11_see_30 : (30, a_aload 0 31) ∈ kX11_see := qX11_see_0 _ (List.mem_of_getElem? (i := 15) rfl)
theorem tX11_see_31 : (31, a_getR 11 11 34) ∈ kX11_see := qX11_see_0 _ (List.mem_of_getElem? (i := 16) rfl)
theorem tX11_see_34 : (34, a_getR 9 1 37) ∈ kX11_see := qX11_see_0 _ (List.mem_of_getElem? (i := 17) rfl)
theorem tX11_see_37 : (37, a_iload 1 38) ∈ kX11_see := qX11_see_0 _ (List.mem_of_getElem? (i := 18) rfl)
theorem tX11_see_38 : (38, a_iald 39) ∈ kX11_see := qX11_see_0 _ (List.mem_of_getElem? (i := 19) rfl)
theorem tX11_see_39 : (39, a_istore 3 40) ∈ kX11_see := qX11_see_0 _ (List.mem_of_getElem? (i := 20) rfl)
theorem tX11_see_40 : (40, a_aload 0 41) ∈ kX11_see := qX11_see_0 _ (List.mem_of_getElem? (i := 21) rfl)
theorem tX11_see_41 : (41, a_getR 11 11 44) ∈ kX11_see := qX11_see_0 _ (List.mem_of_getElem? (i := 22) rfl)
theorem tX11_see_44 : (44, a_getR 9 1 47) ∈ kX11_see := qX11_see_0 _ (List.mem_of_getElem? (i := 23) rfl)
theorem qX11_see_1 : ∀ q ∈ kX11_see_1, q ∈ kX11_see := fun _ h => (List.mem_append_right _ h)
theorem tX11_see_47 : (47, a_iload 1 48) ∈ kX11_see := qX11_see_1 _ (List.mem_of_getElem? (i := 0) rfl)
theorem tX11_see_48 : (48, a_iload 2 49) ∈ kX11_see := qX11_see_1 _ (List.mem_of_getElem? (i := 1) rfl)
theorem tX11_see_49 : (49, a_iast 50) ∈ kX11_see := qX11_see_1 _ (List.mem_of_getElem? (i := 2) rfl)
theorem tX11_see_50 : (50, a_iload 3 51) ∈ kX11_see := qX11_see_1 _ (List.mem_of_getElem? (i := 3) rfl)
theorem tX11_see_51 : (51, a_iret false) ∈ kX11_see := qX11_see_1 _ (List.mem_of_getElem? (i := 4) rfl)
theorem oX11_see : ∀ q ∈ kX11_see, zSnd zty false RX11 cX11_see 4 (some .int) false q := List.forall_mem_append.mpr ⟨oX11_see_0, oX11_see_1⟩
theorem dX11_could_0 : decode cX11_could 0 = .ok (.iload_n 1, 1) := by decide +kernel
theorem dX11_could_1 : decode cX11_could 1 = .ok (.iconst (-1), 1) := by decide +kernel
theorem dX11_could_2 : decode cX11_could 2 = .ok (.if_icmp .ge 5, 3) := by decide +kernel
theorem dX11_could_5 : decode cX11_could 5 = .ok (.iconst (-1), 1) := by decide +kernel
theorem dX11_could_6 : decode cX11_could 6 = .ok (.ireturn, 1) := by decide +kernel
theorem dX11_could_7 : decode cX11_could 7 = .ok (.aload_n 0, 1) := by decide +kernel
theorem dX11_could_8 : decode cX11_could 8 = .ok (.getfield 81, 3) := by decide +kernel
theorem dX11_could_11 : decode cX11_could 11 = .ok (.aload_n 0, 1) := by decide +kernel
theorem dX11_could_12 : decode cX11_could 12 = .ok (.getfield 19, 3) := by decide +kernel
theorem dX11_could_15 : decode cX11_could 15 = .ok (.iconst 1, 1) := by decide +kernel
theorem dX11_could_16 : decode cX11_could 16 = .ok (.aaload, 1) := by decide +kernel
theorem dX11_could_17 : decode cX11_could 17 = .ok (.aload_n 0, 1) := by decide +kernel
theorem dX11_could_18 : decode cX11_could 18 = .ok (.getfield 100, 3) := by decide +kernel
theorem dX11_could_21 : decode cX11_could 21 = .ok (.invokevirtual 323, 3) := by decide +kernel
theorem dX11_could_24 : decode cX11_could 24 = .ok (.lstore_n 2, 1) := by decide +kernel
theorem dX11_could_25 : decode cX11_could 25 = .ok (.iload_n 1, 1) := by decide +kernel
theorem dX11_could_26 : decode cX11_could 26 = .ok (.iconst (-1), 1) := by decide +kernel
theorem dX11_could_27 : decode cX11_could 27 = .ok (.if_icmp .ne 10, 3) := by decide +kernel
theorem dX11_could_30 : decode cX11_could 30 = .ok (.lload_n 2, 1) := by decide +kernel
theorem dX11_could_31 : decode cX11_could 31 = .ok (.invokestatic 193, 3) := by decide +kernel
theorem dX11_could_34 : decode cX11_could 34 = .ok (.goto 8, 3) := by decide +kernel
theorem dX11_could_37 : decode cX11_could 37 = .ok (.lload_n 2, 1) := by decide +kernel
theorem dX11_could_38 : decode cX11_could 38 = .ok (.iload_n 1, 1) := by decide +kernel
theorem dX11_could_39 : decode cX11_could 39 = .ok (.invokestatic 326, 3) := by decide +kernel
theorem dX11_could_42 : decode cX11_could 42 = .ok (.ireturn, 1) := by decide +kernel
def kX11_could_0 : List (Nat × zT) := [(0, a_iload 1 1), (1, a_i (-1) 2), (2, a_ic_ge 7 5), (5, a_i (-1) 6), (6, a_iret false), (7, a_aload 0 8), (8, a_getR 11 11 11), (11, a_aload 0 12), (12, a_getR 11 1 15), (15, a_i 1 16), (16, a_aald 17), (17, a_aload 0 18), (18, a_getI 11 15 21), (21, a_callV 9 76 3 24 0 0), (24, a_lstore 2 25), (25, a_iload 1 26), (26, a_i (-1) 27), (27, a_ic_ne 37 30), (30, a_lload 2 31), (31, a_call 219 1 34 0 0), (34, a_goto 42), (37, a_lload 2 38), (38, a_iload 1 39), (39, a_call 79 2 42 0 0)]
theorem oX11_could_0 : ∀ q ∈ kX11_could_0, zSnd zty false RX11 cX11_could 4 (some .int) false q := List.forall_mem_cons.mpr ⟨ok_iload_n dX11_could_0 rfl, List.forall_mem_cons.mpr ⟨ok_iconst dX11_could_1 (by decide), List.forall_mem_cons.mpr ⟨ok_ic_ge dX11_could_2 (by decide), List.forall_mem_cons.mpr ⟨ok_iconst dX11_could_5 (by decide), List.forall_mem_cons.mpr ⟨ok_iret (bz := false) dX11_could_6 rfl, List.forall_mem_cons.mpr ⟨ok_aload_n dX11_could_7 rfl, List.forall_mem_cons.mpr ⟨ok_getR dX11_could_8 rfl in11 (by decide) rfl w348, List.forall_mem_cons.mpr ⟨ok_aload_n dX11_could_11 rfl, List.forall_mem_cons.mpr ⟨ok_getR dX11_could_12 rfl in11 (by decide) rfl w338, List.forall_mem_cons.mpr ⟨ok_iconst dX11_could_15 (by decide), List.forall_mem_cons.mpr ⟨ok_aald dX11_could_16, List.forall_mem_cons.mpr ⟨ok_aload_n dX11_could_17 rfl, List.forall_mem_cons.mpr ⟨ok_getI dX11_could_18 rfl in11 (by decide) rfl w352, List.forall_mem_cons.mpr ⟨ok_callV dX11_could_21 rfl rfl w917 w914 w915 w11 w916 (by decide +kernel) (by decide), List.forall_mem_cons.mpr ⟨ok_lstore_n dX11_could_24 rfl (by decide), List.forall_mem_cons.mpr ⟨ok_iload_n dX11_could_25 rfl, List.forall_mem_cons.mpr ⟨ok_iconst dX11_could_26 (by decide), List.forall_mem_cons.mpr ⟨ok_ic_ne dX11_could_27 (by decide), List.forall_mem_cons.mpr ⟨ok_lload_n dX11_could_30 rfl, List.forall_mem_cons.mpr ⟨ok_callS dX11_could_31 rfl w602 w600 w601 w17 (by decide +kernel) (by decide), List.forall_mem_cons.mpr ⟨ok_goto dX11_could_34 (by decide), List.forall_mem_cons.mpr ⟨ok_lload_n dX11_could_37 rfl, List.forall_mem_cons.mpr ⟨ok_iload_n dX11_could_38 rfl, List.forall_mem_cons.mpr ⟨ok_callS dX11_could_39 rfl w920 w918 w919 w11 (by decide +kernel) (by decide), fun _ h => absurd h List.not_mem_nil⟩⟩⟩⟩⟩⟩⟩⟩⟩⟩⟩⟩⟩⟩⟩⟩⟩⟩⟩⟩⟩⟩⟩⟩
def kX11_could_1 : List (Nat × zT) := [(42, a_iret false)]
theorem oX11_could_1 : ∀ q ∈ kX11_could_1, zSnd zty false RX11 cX11_could 4 (some .int) false q := List.forall_mem_cons.mpr ⟨ok_iret (bz := false) dX11_could_42 rfl, fun _ h => absurd h List.not_mem_nil⟩
def kX11_could : List (Nat × zT) := kX11_could_0 ++ (kX11_could_1)
theorem qX11_could_0 : ∀ q ∈ kX11_could_0, q ∈ kX11_could := fun _ h => (List.mem_append_left _ h)
theorem tX11_could_0 : (0, a_iload 1 1) ∈ kX11_could := qX11_could_0 _ (List.mem_of_getElem? (i := 0) rfl)
theorem tX11_could_1 : (1, a_i (-1) 2) ∈ kX11_could := qX11_could_0 _ (List.mem_of_getElem? (i := 1) rfl)
theorem tX11_could_2 : (2, a_ic_ge 7 5) ∈ kX11_could := qX11_could_0 _ (List.mem_of_getElem? (i := 2) rfl)
theorem tX11_could_5 : (5, a_i (-1) 6) ∈ kX11_could := qX11_could_0 _ (List.mem_of_getElem? (i := 3) rfl)
theorem tX11_could_6 : (6, a_iret false) ∈ kX11_could := qX11_could_0 _ (List.mem_of_getElem? (i := 4) rfl)
theorem tX11_could_7 : (7, a_aload 0 8) ∈ kX11_could := qX11_could_0 _ (List.mem_of_getElem? (i := 5) rfl)
theorem tX11_could_8 : (8, a_getR 11 11 11) ∈ kX11_could := qX11_could_0 _ (List.mem_of_getElem? (i := 6) rfl)
theorem tX11_could_11 : (11, a_aload 0 12) ∈ kX11_could := qX11_could_0 _ (List.mem_of_getElem? (i := 7) rfl)
theorem tX11_could_12 : (12, a_getR 11 1 15) ∈ kX11_could := qX11_could_0 _ (List.mem_of_getElem? (i := 8) rfl)
theorem tX11_could_15 : (15, a_i 1 16) ∈ kX11_could := qX11_could_0 _ (List.mem_of_getElem? (i := 9) rfl)
theorem tX11_could_16 : (16, a_aald 17) ∈ kX11_could := qX11_could_0 _ (List.mem_of_getElem? (i := 10) rfl)
theorem tX11_could_17 : (17, a_aload 0 18) ∈ kX11_could := qX11_could_0 _ (List.mem_of_getElem? (i := 11) rfl)
theorem tX11_could_18 : (18, a_getI 11 15 21) ∈ kX11_could := qX11_could_0 _ (List.mem_of_getElem? (i := 12) rfl)
theorem tX11_could_21 : (21, a_callV 9 76 3 24 0 0) ∈ kX11_could := qX11_could_0 _ (List.mem_of_getElem? (i := 13) rfl)
theorem tX11_could_24 : (24, a_lstore 2 25) ∈ kX11_could := qX11_could_0 _ (List.mem_of_getElem? (i := 14) rfl)
theorem tX11_could_25 : (25, a_iload 1 26) ∈ kX11_could := qX11_could_0 _ (List.mem_of_getElem? (i := 15) rfl)
theorem tX11_could_26 : (26, a_i (-1) 27) ∈ kX11_could := qX11_could_0 _ (List.mem_of_getElem? (i := 16) rfl)
theorem tX11_could_27 : (27, a_ic_ne 37 30) ∈ kX11_could := qX11_could_0 _ (List.mem_of_getElem? (i := 17) rfl)
theorem tX11_could_30 : (30, a_lload 2 31) ∈ kX11_could := qX11_could_0 _ (List.mem_of_getElem? (i := 18) rfl)
theorem tX11_could_31 : (31, a_call 219 1 34 0 0) ∈ kX11_could := qX11_could_0 _ (List.mem_of_getElem? (i := 19) rfl)
theorem tX11_could_34 : (34, a_goto 42) ∈ kX11_could := qX11_could_0 _ (List.mem_of_getElem? (i := 20) rfl)
theorem tX11_could_37 : (37, a_lload 2 38) ∈ kX11_could := qX11_could_0 _ (List.mem_of_getElem? (i := 21) rfl)
theorem tX11_could_38 : (38, a_iload 1 39) ∈ kX11_could := qX11_could_0 _ (List.mem_of_getElem? (i := 22) rfl)
theorem tX11_could_39 : (39, a_call 79 2 42 0 0) ∈ kX11_could := qX11_could_0 _ (List.mem_of_getElem? (i := 23) rfl)
theorem qX11_could_1 : ∀ q ∈ kX11_could_1, q ∈ kX11_could := fun _ h => (List.mem_append_right _ h)
theorem tX11_could_42 : (42, a_iret false) ∈ kX11_could := qX11_could_1 _ (List.mem_of_getElem? (i := 0) rfl)
theorem oX11_could : ∀ q ∈ kX11_could, zSnd zty false RX11 cX11_could 4 (some .int) false q := List.forall_mem_append.mpr ⟨oX11_could_0, oX11_could_1⟩
theorem dX11_parts_0 : decode cX11_parts 0 = .ok (.aload_n 0, 1) := by decide +kernel
theorem dX11_parts_1 : decode cX11_parts 1 = .ok (.getfield 81, 3) := by decide +kernel
theorem dX11_parts_4 : decode cX11_parts 4 = .ok (.aload_n 0, 1) := by decide +kernel
theorem dX11_parts_5 : decode cX11_parts 5 = .ok (.getfield 19, 3) := by decide +kernel
theorem dX11_parts_8 : decode cX11_parts 8 = .ok (.iconst 1, 1) := by decide +kernel
theorem dX11_parts_9 : decode cX11_parts 9 = .ok (.aaload, 1) := by decide +kernel
theorem dX11_parts_10 : decode cX11_parts 10 = .ok (.aload_n 0, 1) := by decide +kernel
theorem dX11_parts_11 : decode cX11_parts 11 = .ok (.getfield 100, 3) := by decide +kernel
theorem dX11_parts_14 : decode cX11_parts 14 = .ok (.invokevirtual 330, 3) := by decide +kernel
theorem dX11_parts_17 : decode cX11_parts 17 = .ok (.ireturn, 1) := by decide +kernel
def kX11_parts_0 : List (Nat × zT) := [(0, a_aload 0 1), (1, a_getR 11 11 4), (4, a_aload 0 5), (5, a_getR 11 1 8), (8, a_i 1 9), (9, a_aald 10), (10, a_aload 0 11), (11, a_getI 11 15 14), (14, a_callV 9 77 3 17 0 0), (17, a_iret false)]
theorem oX11_parts_0 : ∀ q ∈ kX11_parts_0, zSnd zty false RX11 cX11_parts 1 (some .int) false q := List.forall_mem_cons.mpr ⟨ok_aload_n dX11_parts_0 rfl, List.forall_mem_cons.mpr ⟨ok_getR dX11_parts_1 rfl in11 (by decide) rfl w348, List.forall_mem_cons.mpr ⟨ok_aload_n dX11_parts_4 rfl, List.forall_mem_cons.mpr ⟨ok_getR dX11_parts_5 rfl in11 (by decide) rfl w338, List.forall_mem_cons.mpr ⟨ok_iconst dX11_parts_8 (by decide), List.forall_mem_cons.mpr ⟨ok_aald dX11_parts_9, List.forall_mem_cons.mpr ⟨ok_aload_n dX11_parts_10 rfl, List.forall_mem_cons.mpr ⟨ok_getI dX11_parts_11 rfl in11 (by decide) rfl w352, List.forall_mem_cons.mpr ⟨ok_callV dX11_parts_14 rfl rfl w929 w926 w927 w11 w928 (by decide +kernel) (by decide), List.forall_mem_cons.mpr ⟨ok_iret (bz := false) dX11_parts_17 rfl, fun _ h => absurd h List.not_mem_nil⟩⟩⟩⟩⟩⟩⟩⟩⟩⟩
def kX11_parts : List (Nat × zT) := kX11_parts_0
theorem qX11_parts_0 : ∀ q ∈ kX11_parts_0, q ∈ kX11_parts := fun _ h => h
theorem tX11_parts_0 : (0, a_aload 0 1) ∈ kX11_parts := qX11_parts_0 _ (List.mem_of_getElem? (i := 0) rfl)
theorem tX11_parts_1 : (1, a_getR 11 11 4) ∈ kX11_parts := qX11_parts_0 _ (List.mem_of_getElem? (i := 1) rfl)
theorem tX11_parts_4 : (4, a_aload 0 5) ∈ kX11_parts := qX11_parts_0 _ (List.mem_of_getElem? (i := 2) rfl)
theorem tX11_parts_5 : (5, a_getR 11 1 8) ∈ kX11_parts := qX11_parts_0 _ (List.mem_of_getElem? (i := 3) rfl)
theorem tX11_parts_8 : (8, a_i 1 9) ∈ kX11_parts := qX11_parts_0 _ (List.mem_of_getElem? (i := 4) rfl)
theorem tX11_parts_9 : (9, a_aald 10) ∈ kX11_parts := qX11_parts_0 _ (List.mem_of_getElem? (i := 5) rfl)
theorem tX11_parts_10 : (10, a_aload 0 11) ∈ kX11_parts := qX11_parts_0 _ (List.mem_of_getElem? (i := 6) rfl)
theorem tX11_parts_11 : (11, a_getI 11 15 14) ∈ kX11_parts := qX11_parts_0 _ (List.mem_of_getElem? (i := 7) rfl)
theorem tX11_parts_14 : (14, a_callV 9 77 3 17 0 0) ∈ kX11_parts := qX11_parts_0 _ (List.mem_of_getElem? (i := 8) rfl)
theorem tX11_parts_17 : (17, a_iret false) ∈ kX11_parts := qX11_parts_0 _ (List.mem_of_getElem? (i := 9) rfl)
theorem oX11_parts : ∀ q ∈ kX11_parts, zSnd zty false RX11 cX11_parts 1 (some .int) false q := oX11_parts_0
theorem dX11_keep_0 : decode cX11_keep 0 = .ok (.aload_n 0, 1) := by decide +kernel
theorem dX11_keep_1 : decode cX11_keep 1 = .ok (.getfield 92, 3) := by decide +kernel
theorem dX11_keep_4 : decode cX11_keep 4 = .ok (.iconst 2, 1) := by decide +kernel
theorem dX11_keep_5 : decode cX11_keep 5 = .ok (.if_icmp .lt 6, 3) := by decide +kernel
theorem dX11_keep_8 : decode cX11_keep 8 = .ok (.bipush (-3), 2) := by decide +kernel
theorem dX11_keep_10 : decode cX11_keep 10 = .ok (.ireturn, 1) := by decide +kernel
theorem dX11_keep_11 : decode cX11_keep 11 = .ok (.aload_n 0, 1) := by decide +kernel
theorem dX11_keep_12 : decode cX11_keep 12 = .ok (.getfield 88, 3) := by decide +kernel
theorem dX11_keep_15 : decode cX11_keep 15 = .ok (.aload_n 0, 1) := by decide +kernel
theorem dX11_keep_16 : decode cX11_keep 16 = .ok (.getfield 92, 3) := by decide +kernel
theorem dX11_keep_19 : decode cX11_keep 19 = .ok (.aaload, 1) := by decide +kernel
theorem dX11_keep_20 : decode cX11_keep 20 = .ok (.astore_n 1, 1) := by decide +kernel
theorem dX11_keep_21 : decode cX11_keep 21 = .ok (.aload_n 1, 1) := by decide +kernel
theorem dX11_keep_22 : decode cX11_keep 22 = .ok (.getfield 333, 3) := by decide +kernel
theorem dX11_keep_25 : decode cX11_keep 25 = .ok (.aload_n 0, 1) := by decide +kernel
theorem dX11_keep_26 : decode cX11_keep 26 = .ok (.getfield 19, 3) := by decide +kernel
theorem dX11_keep_29 : decode cX11_keep 29 = .ok (.iconst 0, 1) := by decide +kernel
theorem dX11_keep_30 : decode cX11_keep 30 = .ok (.aaload, 1) := by decide +kernel
theorem dX11_keep_31 : decode cX11_keep 31 = .ok (.invokevirtual 133, 3) := by decide +kernel
theorem dX11_keep_34 : decode cX11_keep 34 = .ok (.aload_n 1, 1) := by decide +kernel
theorem dX11_keep_35 : decode cX11_keep 35 = .ok (.getfield 336, 3) := by decide +kernel
theorem dX11_keep_38 : decode cX11_keep 38 = .ok (.aload_n 0, 1) := by decide +kernel
theorem dX11_keep_39 : decode cX11_keep 39 = .ok (.getfield 19, 3) := by decide +kernel
theorem dX11_keep_42 : decode cX11_keep 42 = .ok (.iconst 1, 1) := by decide +kernel
theorem dX11_keep_43 : decode cX11_keep 43 = .ok (.aaload, 1) := by decide +kernel
theorem dX11_keep_44 : decode cX11_keep 44 = .ok (.invokevirtual 133, 3) := by decide +kernel
theorem dX11_keep_47 : decode cX11_keep 47 = .ok (.aload_n 1, 1) := by decide +kernel
theorem dX11_keep_48 : decode cX11_keep 48 = .ok (.aload_n 0, 1) := by decide +kernel
theorem dX11_keep_49 : decode cX11_keep 49 = .ok (.getfield 33, 3) := by decide +kernel
theorem dX11_keep_52 : decode cX11_keep 52 = .ok (.getfield 165, 3) := by decide +kernel
theorem dX11_keep_55 : decode cX11_keep 55 = .ok (.putfield 339, 3) := by decide +kernel
theorem dX11_keep_58 : decode cX11_keep 58 = .ok (.aload_n 1, 1) := by decide +kernel
theorem dX11_keep_59 : decode cX11_keep 59 = .ok (.aload_n 0, 1) := by decide +kernel
theorem dX11_keep_60 : decode cX11_keep 60 = .ok (.getfield 96, 3) := by decide +kernel
theorem dX11_keep_63 : decode cX11_keep 63 = .ok (.putfield 340, 3) := by decide +kernel
theorem dX11_keep_66 : decode cX11_keep 66 = .ok (.aload_n 1, 1) := by decide +kernel
theorem dX11_keep_67 : decode cX11_keep 67 = .ok (.aload_n 0, 1) := by decide +kernel
theorem dX11_keep_68 : decode cX11_keep 68 = .ok (.getfield 100, 3) := by decide +kernel
theorem dX11_keep_71 : decode cX11_keep 71 = .ok (.putfield 341, 3) := by decide +kernel
theorem dX11_keep_74 : decode cX11_keep 74 = .ok (.aload_n 0, 1) := by decide +kernel
theorem dX11_keep_75 : decode cX11_keep 75 = .ok (.dup, 1) := by decide +kernel
theorem dX11_keep_76 : decode cX11_keep 76 = .ok (.getfield 92, 3) := by decide +kernel
theorem dX11_keep_79 : decode cX11_keep 79 = .ok (.iconst 1, 1) := by decide +kernel
theorem dX11_keep_80 : decode cX11_keep 80 = .ok (.iadd, 1) := by decide +kernel
theorem dX11_keep_81 : decode cX11_keep 81 = .ok (.putfield 92, 3) := by decide +kernel
theorem dX11_keep_84 : decode cX11_keep 84 = .ok (.aload_n 0, 1) := by decide +kernel
theorem dX11_keep_85 : decode cX11_keep 85 = .ok (.getfield 92, 3) := by decide +kernel
theorem dX11_keep_88 : decode cX11_keep 88 = .ok (.ireturn, 1) := by decide +kernel
def kX11_keep_0 : List (Nat × zT) := [(0, a_aload 0 1), (1, a_getI 11 13 4), (4, a_i 2 5), (5, a_ic_lt 11 8), (8, a_i (-3) 10), (10, a_iret false), (11, a_aload 0 12), (12, a_getR 11 12 15), (15, a_aload 0 16), (16, a_getI 11 13 19), (19, a_aald 20), (20, a_astore 1 21), (21, a_aload 1 22), (22, a_getR 3 0 25), (25, a_aload 0 26), (26, a_getR 11 1 29), (29, a_i 0 30), (30, a_aald 31), (31, a_callV 10 83 2 34 0 0), (34, a_aload 1 35), (35, a_getR 3 1 38), (38, a_aload 0 39), (39, a_getR 11 1 42), (42, a_i 1 43)]
theorem oX11_keep_0 : ∀ q ∈ kX11_keep_0, zSnd zty false RX11 cX11_keep 2 (some .int) false q := List.forall_mem_cons.mpr ⟨ok_aload_n dX11_keep_0 rfl, List.forall_mem_cons.mpr ⟨ok_getI dX11_keep_1 rfl in11 (by decide) rfl w350, List.forall_mem_cons.mpr ⟨ok_iconst dX11_keep_4 (by decide), List.forall_mem_cons.mpr ⟨ok_ic_lt dX11_keep_5 (by decide), List.forall_mem_cons.mpr ⟨ok_bipush dX11_keep_8 (by decide), List.forall_mem_cons.mpr ⟨ok_iret (bz := false) dX11_keep_10 rfl, List.forall_mem_cons.mpr ⟨ok_aload_n dX11_keep_11 rfl, List.forall_mem_cons.mpr ⟨ok_getR dX11_keep_12 rfl in11 (by decide) rfl w349, List.forall_mem_cons.mpr ⟨ok_aload_n dX11_keep_15 rfl, List.forall_mem_cons.mpr ⟨ok_getI dX11_keep_16 rfl in11 (by decide) rfl w350, List.forall_mem_cons.mpr ⟨ok_aald dX11_keep_19, List.forall_mem_cons.mpr ⟨ok_astore_n dX11_keep_20 rfl (by decide), List.forall_mem_cons.mpr ⟨ok_aload_n dX11_keep_21 rfl, List.forall_mem_cons.mpr ⟨ok_getR dX11_keep_22 rfl in3 (by decide) rfl w316, List.forall_mem_cons.mpr ⟨ok_aload_n dX11_keep_25 rfl, List.forall_mem_cons.mpr ⟨ok_getR dX11_keep_26 rfl in11 (by decide) rfl w338, List.forall_mem_cons.mpr ⟨ok_iconst dX11_keep_29 (by decide), List.forall_mem_cons.mpr ⟨ok_aald dX11_keep_30, List.forall_mem_cons.mpr ⟨ok_callV dX11_keep_31 rfl rfl w499 w496 w497 w3 w498 (by decide +kernel) (by decide), List.forall_mem_cons.mpr ⟨ok_aload_n dX11_keep_34 rfl, List.forall_mem_cons.mpr ⟨ok_getR dX11_keep_35 rfl in3 (by decide) rfl w318, List.forall_mem_cons.mpr ⟨ok_aload_n dX11_keep_38 rfl, List.forall_mem_cons.mpr ⟨ok_getR dX11_keep_39 rfl in11 (by decide) rfl w338, List.forall_mem_cons.mpr ⟨ok_iconst dX11_keep_42 (by decide), fun _ h => absurd h List.not_mem_nil⟩⟩⟩⟩⟩⟩⟩⟩⟩⟩⟩⟩⟩⟩⟩⟩⟩⟩⟩⟩⟩⟩⟩⟩
def kX11_keep_1 : List (Nat × zT) := [(43, a_aald 44), (44, a_callV 10 83 2 47 0 0), (47, a_aload 1 48), (48, a_aload 0 49), (49, a_getR 11 3 52), (52, a_getI 6 2 55), (55, a_putI 3 2 58 false), (58, a_aload 1 59), (59, a_aload 0 60), (60, a_getI 11 14 63), (63, a_putI 3 3 66 false), (66, a_aload 1 67), (67, a_aload 0 68), (68, a_getI 11 15 71), (71, a_putI 3 4 74 false), (74, a_aload 0 75), (75, a_dup 76), (76, a_getI 11 13 79), (79, a_i 1 80), (80, a_ii (fun x y => x + y) 81), (81, a_putI 11 13 84 false), (84, a_aload 0 85), (85, a_getI 11 13 88), (88, a_iret false)]
theorem oX11_keep_1 : ∀ q ∈ kX11_keep_1, zSnd zty false RX11 cX11_keep 2 (some .int) false q := List.forall_mem_cons.mpr ⟨ok_aald dX11_keep_43, List.forall_mem_cons.mpr ⟨ok_callV dX11_keep_44 rfl rfl w499 w496 w497 w3 w498 (by decide +kernel) (by decide), List.forall_mem_cons.mpr ⟨ok_aload_n dX11_keep_47 rfl, List.forall_mem_cons.mpr ⟨ok_aload_n dX11_keep_48 rfl, List.forall_mem_cons.mpr ⟨ok_getR dX11_keep_49 rfl in11 (by decide) rfl w340, List.forall_mem_cons.mpr ⟨ok_getI dX11_keep_52 rfl in6 (by decide) rfl w146, List.forall_mem_cons.mpr ⟨ok_putI (bz := false) dX11_keep_55 rfl in3 tyX3 tyX3_ok nmX3 (by decide) rfl w320 rfl rfl, List.forall_mem_cons.mpr ⟨ok_aload_n dX11_keep_58 rfl, List.forall_mem_cons.mpr ⟨ok_aload_n dX11_keep_59 rfl, List.forall_mem_cons.mpr ⟨ok_getI dX11_keep_60 rfl in11 (by decide) rfl w351, List.forall_mem_cons.mpr ⟨ok_putI (bz := false) dX11_keep_63 rfl in3 tyX3 tyX3_ok nmX3 (by decide) rfl w322 rfl rfl, List.forall_mem_cons.mpr ⟨ok_aload_n dX11_keep_66 rfl, List.forall_mem_cons.mpr ⟨ok_aload_n dX11_keep_67 rfl, List.forall_mem_cons.mpr ⟨ok_getI dX11_keep_68 rfl in11 (by decide) rfl w352, List.forall_mem_cons.mpr ⟨ok_putI (bz := false) dX11_keep_71 rfl in3 tyX3 tyX3_ok nmX3 (by decide) rfl w324 rfl rfl, List.forall_mem_cons.mpr ⟨ok_aload_n dX11_keep_74 rfl, List.forall_mem_cons.mpr ⟨ok_dup dX11_keep_75, List.forall_mem_cons.mpr ⟨ok_getI dX11_keep_76 rfl in11 (by decide) rfl w350, List.forall_mem_cons.mpr ⟨ok_iconst dX11_keep_79 (by decide), List.forall_mem_cons.mpr ⟨ok_iadd dX11_keep_80, List.forall_mem_cons.mpr ⟨ok_putI (bz := false) dX11_keep_81 rfl in11 tyX11 tyX11_ok nmX11 (by decide) rfl w350 rfl rfl, List.forall_mem_cons.mpr ⟨ok_aload_n dX11_keep_84 rfl, List.forall_mem_cons.mpr ⟨ok_getI dX11_keep_85 rfl in11 (by decide) rfl w350, List.forall_mem_cons.mpr ⟨ok_iret (bz := false) dX11_keep_88 rfl, fun _ h => absurd h List.not_mem_nil⟩⟩⟩⟩⟩⟩⟩⟩⟩⟩⟩⟩⟩⟩⟩⟩⟩⟩⟩⟩⟩⟩⟩⟩
def kX11_keep : List (Nat × zT) := kX11_keep_0 ++ (kX11_keep_1)
theorem qX11_keep_0 : ∀ q ∈ kX11_keep_0, q ∈ kX11_keep := fun _ h => (List.mem_append_left _ h)
theorem tX11_keep_0 : (0, a_aload 0 1) ∈ kX11_keep := qX11_keep_0 _ (List.mem_of_getElem? (i := 0) rfl)
theorem tX11_keep_1 : (1, a_getI 11 13 4) ∈ kX11_keep := qX11_keep_0 _ (List.mem_of_getElem? (i := 1) rfl)
theorem tX11_keep_4 : (4, a_i 2 5) ∈ kX11_keep := qX11_keep_0 _ (List.mem_of_getElem? (i := 2) rfl)
theorem tX11_keep_5 : (5, a_ic_lt 11 8) ∈ kX11_keep := qX11_keep_0 _ (List.mem_of_getElem? (i := 3) rfl)
theorem tX11_keep_8 : (8, a_i (-3) 10) ∈ kX11_keep := qX11_keep_0 _ (List.mem_of_getElem? (i := 4) rfl)
theorem tX11_keep_10 : (10, a_iret false) ∈ kX11_keep := qX11_keep_0 _ (List.mem_of_getElem? (i := 5) rfl)
theorem tX11_keep_11 : (11, a_aload 0 12) ∈ kX11_keep := qX11_keep_0 _ (List.mem_of_getElem? (i := 6) rfl)
theorem tX11_keep_12 : (12, a_getR 11 12 15) ∈ kX11_keep := qX11_keep_0 _ (List.mem_of_getElem? (i := 7) rfl)
theorem tX11_keep_15 : (15, a_aload 0 16) ∈ kX11_keep := qX11_keep_0 _ (List.mem_of_getElem? (i := 8) rfl)
theorem tX11_keep_16 : (16, a_getI 11 13 19) ∈ kX11_keep := qX11_keep_0 _ (List.mem_of_getElem? (i := 9) rfl)
theorem tX11_keep_19 : (19, a_aald 20) ∈ kX11_keep := qX11_keep_0 _ (List.mem_of_getElem? (i := 10) rfl)
theorem tX11_keep_20 : (20, a_astore 1 21) ∈ kX11_keep := qX11_keep_0 _ (List.mem_of_getElem? (i := 11) rfl)
theorem tX11_keep_21 : (21, a_aload 1 22) ∈ kX11_keep := qX11_keep_0 _ (List.mem_of_getElem? (i := 12) rfl)
theorem tX11_keep_22 : (22, a_getR 3 0 25) ∈ kX11_keep := qX11_keep_0 _ (List.mem_of_getElem? (i := 13) rfl)
theorem tX11_keep_25 : (25, a_aload 0 26) ∈ kX11_keep := qX11_keep_0 _ (List.mem_of_getElem? (i := 14) rfl)
theorem tX11_keep_26 : (26, a_getR 11 1 29) ∈ kX11_keep := qX11_keep_0 _ (List.mem_of_getElem? (i := 15) rfl)
theorem tX11_keep_29 : (29, a_i 0 30) ∈ kX11_keep := qX11_keep_0 _ (List.mem_of_getElem? (i := 16) rfl)
theorem tX11_keep_30 : (30, a_aald 31) ∈ kX11_keep := qX11_keep_0 _ (List.mem_of_getElem? (i := 17) rfl)
theorem tX11_keep_31 : (31, a_callV 10 83 2 34 0 0) ∈ kX11_keep := qX11_keep_0 _ (List.mem_of_getElem? (i := 18) rfl)
theorem tX11_keep_34 : (34, a_aload 1 35) ∈ kX11_keep := qX11_keep_0 _ (List.mem_of_getElem? (i := 19) rfl)
theorem tX11_keep_35 : (35, a_getR 3 1 38) ∈ kX11_keep := qX11_keep_0 _ (List.mem_of_getElem? (i := 20) rfl)
theorem tX11_keep_38 : (38, a_aload 0 39) ∈ kX11_keep := qX11_keep_0 _ (List.mem_of_getElem? (i := 21) rfl)
theorem tX11_keep_39 : (39, a_getR 11 1 42) ∈ kX11_keep := qX11_keep_0 _ (List.mem_of_getElem? (i := 22) rfl)
theorem tX11_keep_42 : (42, a_i 1 43) ∈ kX11_keep := qX11_keep_0 _ (List.mem_of_getElem? (i := 23) rfl)
theorem qX11_keep_1 : ∀ q ∈ kX11_keep_1, q ∈ kX11_keep := fun _ h => (List.mem_append_right _ h)
theorem tX11_keep_43 : (43, a_aald 44) ∈ kX11_keep := qX11_keep_1 _ (List.mem_of_getElem? (i := 0) rfl)
theorem tX11_keep_44 : (44, a_callV 10 83 2 47 0 0) ∈ kX11_keep := qX11_keep_1 _ (List.mem_of_getElem? (i := 1) rfl)
theorem tX11_keep_47 : (47, a_aload 1 48) ∈ kX11_keep := qX11_keep_1 _ (List.mem_of_getElem? (i := 2) rfl)
theorem tX11_keep_48 : (48, a_aload 0 49) ∈ kX11_keep := qX11_keep_1 _ (List.mem_of_getElem? (i := 3) rfl)
theorem tX11_keep_49 : (49, a_getR 11 3 52) ∈ kX11_keep := qX11_keep_1 _ (List.mem_of_getElem? (i := 4) rfl)
theorem tX11_keep_52 : (52, a_getI 6 2 55) ∈ kX11_keep := qX11_keep_1 _ (List.mem_of_getElem? (i := 5) rfl)
theorem tX11_keep_55 : (55, a_putI 3 2 58 false) ∈ kX11_keep := qX11_keep_1 _ (List.mem_of_getElem? (i := 6) rfl)
theorem tX11_keep_58 : (58, a_aload 1 59) ∈ kX11_keep := qX11_keep_1 _ (List.mem_of_getElem? (i := 7) rfl)
theorem tX11_keep_59 : (59, a_aload 0 60) ∈ kX11_keep := qX11_keep_1 _ (List.mem_of_getElem? (i := 8) rfl)
theorem tX11_keep_60 : (60, a_getI 11 14 63) ∈ kX11_keep := qX11_keep_1 _ (List.mem_of_getElem? (i := 9) rfl)
theorem tX11_keep_63 : (63, a_putI 3 3 66 false) ∈ kX11_keep := qX11_keep_1 _ (List.mem_of_getElem? (i := 10) rfl)
theorem tX11_keep_66 : (66, a_aload 1 67) ∈ kX11_keep := qX11_keep_1 _ (List.mem_of_getElem? (i := 11) rfl)
theorem tX11_keep_67 : (67, a_aload 0 68) ∈ kX11_keep := qX11_keep_1 _ (List.mem_of_getElem? (i := 12) rfl)
theorem tX11_keep_68 : (68, a_getI 11 15 71) ∈ kX11_keep := qX11_keep_1 _ (List.mem_of_getElem? (i := 13) rfl)
theorem tX11_keep_71 : (71, a_putI 3 4 74 false) ∈ kX11_keep := qX11_keep_1 _ (List.mem_of_getElem? (i := 14) rfl)
theorem tX11_keep_74 : (74, a_aload 0 75) ∈ kX11_keep := qX11_keep_1 _ (List.mem_of_getElem? (i := 15) rfl)
theorem tX11_keep_75 : (75, a_dup 76) ∈ kX11_keep := qX11_keep_1 _ (List.mem_of_getElem? (i := 16) rfl)
theorem tX11_keep_76 : (76, a_getI 11 13 79) ∈ kX11_keep := qX11_keep_1 _ (List.mem_of_getElem? (i := 17) rfl)
theorem tX11_keep_79 : (79, a_i 1 80) ∈ kX11_keep := qX11_keep_1 _ (List.mem_of_getElem? (i := 18) rfl)
theorem tX11_keep_80 : (80, a_ii (fun x y => x + y) 81) ∈ kX11_keep := qX11_keep_1 _ (List.mem_of_getElem? (i := 19) rfl)
theorem tX11_keep_81 : (81, a_putI 11 13 84 false) ∈ kX11_keep := qX11_keep_1 _ (List.mem_of_getElem? (i := 20) rfl)
theorem tX11_keep_84 : (84, a_aload 0 85) ∈ kX11_keep := qX11_keep_1 _ (List.mem_of_getElem? (i := 21) rfl)
theorem tX11_keep_85 : (85, a_getI 11 13 88) ∈ kX11_keep := qX11_keep_1 _ (List.mem_of_getElem? (i := 22) rfl)
theorem tX11_keep_88 : (88, a_iret false) ∈ kX11_keep := qX11_keep_1 _ (List.mem_of_getElem? (i := 23) rfl)
theorem oX11_keep : ∀ q ∈ kX11_keep, zSnd zty false RX11 cX11_keep 2 (some .int) false q := List.forall_mem_append.mpr ⟨oX11_keep_0, oX11_keep_1⟩
theorem dX11_back_0 : decode cX11_back 0 = .ok (.aload_n 0, 1) := by decide +kernel
theorem dX11_back_1 : decode cX11_back 1 = .ok (.getfield 92, 3) := by decide +kernel
theorem dX11_back_4 : decode cX11_back 4 = .ok (.ifCond .gt 6, 3) := by decide +kernel
theorem dX11_back_7 : decode cX11_back 7 = .ok (.bipush (-2), 2) := by decide +kernel
theorem dX11_back_9 : decode cX11_back 9 = .ok (.ireturn, 1) := by decide +kernel
theorem dX11_back_10 : decode cX11_back 10 = .ok (.aload_n 0, 1) := by decide +kernel
theorem dX11_back_11 : decode cX11_back 11 = .ok (.dup, 1) := by decide +kernel
theorem dX11_back_12 : decode cX11_back 12 = .ok (.getfield 92, 3) := by decide +kernel
theorem dX11_back_15 : decode cX11_back 15 = .ok (.iconst 1, 1) := by decide +kernel
theorem dX11_back_16 : decode cX11_back 16 = .ok (.isub, 1) := by decide +kernel
theorem dX11_back_17 : decode cX11_back 17 = .ok (.putfield 92, 3) := by decide +kernel
theorem dX11_back_20 : decode cX11_back 20 = .ok (.aload_n 0, 1) := by decide +kernel
theorem dX11_back_21 : decode cX11_back 21 = .ok (.getfield 88, 3) := by decide +kernel
theorem dX11_back_24 : decode cX11_back 24 = .ok (.aload_n 0, 1) := by decide +kernel
theorem dX11_back_25 : decode cX11_back 25 = .ok (.getfield 92, 3) := by decide +kernel
theorem dX11_back_28 : decode cX11_back 28 = .ok (.aaload, 1) := by decide +kernel
theorem dX11_back_29 : decode cX11_back 29 = .ok (.astore_n 1, 1) := by decide +kernel
theorem dX11_back_30 : decode cX11_back 30 = .ok (.aload_n 0, 1) := by decide +kernel
theorem dX11_back_31 : decode cX11_back 31 = .ok (.getfield 19, 3) := by decide +kernel
theorem dX11_back_34 : decode cX11_back 34 = .ok (.iconst 0, 1) := by decide +kernel
theorem dX11_back_35 : decode cX11_back 35 = .ok (.aaload, 1) := by decide +kernel
theorem dX11_back_36 : decode cX11_back 36 = .ok (.aload_n 1, 1) := by decide +kernel
theorem dX11_back_37 : decode cX11_back 37 = .ok (.getfield 333, 3) := by decide +kernel
theorem dX11_back_40 : decode cX11_back 40 = .ok (.invokevirtual 133, 3) := by decide +kernel
theorem dX11_back_43 : decode cX11_back 43 = .ok (.aload_n 0, 1) := by decide +kernel
theorem dX11_back_44 : decode cX11_back 44 = .ok (.getfield 19, 3) := by decide +kernel
theorem dX11_back_47 : decode cX11_back 47 = .ok (.iconst 1, 1) := by decide +kernel
theorem dX11_back_48 : decode cX11_back 48 = .ok (.aaload, 1) := by decide +kernel
theorem dX11_back_49 : decode cX11_back 49 = .ok (.aload_n 1, 1) := by decide +kernel
theorem dX11_back_50 : decode cX11_back 50 = .ok (.getfield 336, 3) := by decide +kernel
theorem dX11_back_53 : decode cX11_back 53 = .ok (.invokevirtual 133, 3) := by decide +kernel
theorem dX11_back_56 : decode cX11_back 56 = .ok (.aload_n 0, 1) := by decide +kernel
theorem dX11_back_57 : decode cX11_back 57 = .ok (.getfield 33, 3) := by decide +kernel
theorem dX11_back_60 : decode cX11_back 60 = .ok (.aload_n 1, 1) := by decide +kernel
theorem dX11_back_61 : decode cX11_back 61 = .ok (.getfield 339, 3) := by decide +kernel
theorem dX11_back_64 : decode cX11_back 64 = .ok (.putfield 165, 3) := by decide +kernel
theorem dX11_back_67 : decode cX11_back 67 = .ok (.aload_n 0, 1) := by decide +kernel
theorem dX11_back_68 : decode cX11_back 68 = .ok (.aload_n 1, 1) := by decide +kernel
theorem dX11_back_69 : decode cX11_back 69 = .ok (.getfield 340, 3) := by decide +kernel
theorem dX11_back_72 : decode cX11_back 72 = .ok (.putfield 96, 3) := by decide +kernel
theorem dX11_back_75 : decode cX11_back 75 = .ok (.aload_n 0, 1) := by decide +kernel
theorem dX11_back_76 : decode cX11_back 76 = .ok (.aload_n 1, 1) := by decide +kernel
theorem dX11_back_77 : decode cX11_back 77 = .ok (.getfield 341, 3) := by decide +kernel
theorem dX11_back_80 : decode cX11_back 80 = .ok (.putfield 100, 3) := by decide +kernel
theorem dX11_back_83 : decode cX11_back 83 = .ok (.aload_n 0, 1) := by decide +kernel
theorem dX11_back_84 : decode cX11_back 84 = .ok (.getfield 92, 3) := by decide +kernel
theorem dX11_back_87 : decode cX11_back 87 = .ok (.ireturn, 1) := by decide +kernel
def kX11_back_0 : List (Nat × zT) := [(0, a_aload 0 1), (1, a_getI 11 13 4), (4, a_if_gt 10 7), (7, a_i (-2) 9), (9, a_iret false), (10, a_aload 0 11), (11, a_dup 12), (12, a_getI 11 13 15), (15, a_i 1 16), (16, a_ii (fun x y => x - y) 17), (17, a_putI 11 13 20 false), (20, a_aload 0 21), (21, a_getR 11 12 24), (24, a_aload 0 25), (25, a_getI 11 13 28), (28, a_aald 29), (29, a_astore 1 30), (30, a_aload 0 31), (31, a_getR 11 1 34), (34, a_i 0 35), (35, a_aald 36), (36, a_aload 1 37), (37, a_getR 3 0 40), (40, a_callV 10 83 2 43 0 0)]
theorem oX11_back_0 : ∀ q ∈ kX11_back_0, zSnd zty false RX11 cX11_back 2 (some .int) false q := List.forall_mem_cons.mpr ⟨ok_aload_n dX11_back_0 rfl, List.forall_mem_cons.mpr ⟨ok_getI dX11_back_1 rfl in11 (by decide) rfl w350, List.forall_mem_cons.mpr ⟨ok_if_gt dX11_back_4 (by decide), List.forall_mem_cons.mpr ⟨ok_bipush dX11_back_7 (by decide), List.forall_mem_cons.mpr ⟨ok_iret (bz := false) dX11_back_9 rfl, List.forall_mem_cons.mpr ⟨ok_aload_n dX11_back_10 rfl, List.forall_mem_cons.mpr ⟨ok_dup dX11_back_11, List.forall_mem_cons.mpr ⟨ok_getI dX11_back_12 rfl in11 (by decide) rfl w350, List.forall_mem_cons.mpr ⟨ok_iconst dX11_back_15 (by decide), List.forall_mem_cons.mpr ⟨ok_isub dX11_back_16, List.forall_mem_cons.mpr ⟨ok_putI (bz := false) dX11_back_17 rfl in11 tyX11 tyX11_ok nmX11 (by decide) rfl w350 rfl rfl, List.forall_mem_cons.mpr ⟨ok_aload_n dX11_back_20 rfl, List.forall_mem_cons.mpr ⟨ok_getR dX11_back_21 rfl in11 (by decide) rfl w349, List.forall_mem_cons.mpr ⟨ok_aload_n dX11_back_24 rfl, List.forall_mem_cons.mpr ⟨ok_getI dX11_back_25 rfl in11 (by decide) rfl w350, List.forall_mem_cons.mpr ⟨ok_aald dX11_back_28, List.forall_mem_cons.mpr ⟨ok_astore_n dX11_back_29 rfl (by decide), List.forall_mem_cons.mpr ⟨ok_aload_n dX11_back_30 rfl, List.forall_mem_cons.mpr ⟨ok_getR dX11_back_31 rfl in11 (by decide) rfl w338, List.forall_mem_cons.mpr ⟨ok_iconst dX11_back_34 (by decide), List.forall_mem_cons.mpr ⟨ok_aald dX11_back_35, List.forall_mem_cons.mpr ⟨ok_aload_n dX11_back_36 rfl, List.forall_mem_cons.mpr ⟨ok_getR dX11_back_37 rfl in3 (by decide) rfl w316, List.forall_mem_cons.mpr ⟨ok_callV dX11_back_40 rfl rfl w499 w496 w497 w3 w498 (by decide +kernel) (by decide), fun _ h => absurd h List.not_mem_nil⟩⟩⟩⟩⟩⟩⟩⟩⟩⟩⟩⟩⟩⟩⟩⟩⟩⟩⟩⟩⟩⟩⟩⟩
def kX11_back_1 : List (Nat × zT) := [(43, a_aload 0 44), (44, a_getR 11 1 47), (47, a_i 1 48), (48, a_aald 49), (49, a_aload 1 50), (50, a_getR 3 1 53), (53, a_callV 10 83 2 56 0 0), (56, a_aload 0 57), (57, a_getR 11 3 60), (60, a_aload 1 61), (61, a_getI 3 2 64), (64, a_putI 6 2 67 false), (67, a_aload 0 68), (68, a_aload 1 69), (69, a_getI 3 3 72), (72, a_putI 11 14 75 false), (75, a_aload 0 76), (76, a_aload 1 77), (77, a_getI 3 4 80), (80, a_putI 11 15 83 false), (83, a_aload 0 84), (84, a_getI 11 13 87), (87, a_iret false)]
theorem oX11_back_1 : ∀ q ∈ kX11_back_1, zSnd zty false RX11 cX11_back 2 (some .int) false q := List.forall_mem_cons.mpr ⟨ok_aload_n dX11_back_43 rfl, List.forall_mem_cons.mpr ⟨ok_getR dX11_back_44 rfl in11 (by decide) rfl w338, List.forall_mem_cons.mpr ⟨ok_iconst dX11_back_47 (by decide), List.forall_mem_cons.mpr ⟨ok_aald dX11_back_48, List.forall_mem_cons.mpr ⟨ok_aload_n dX11_back_49 rfl, List.forall_mem_cons.mpr ⟨ok_getR dX11_back_50 rfl in3 (by decide) rfl w318, List.forall_mem_cons.mpr ⟨ok_callV dX11_back_53 rfl rfl w499 w496 w497 w3 w498 (by decide +kernel) (by decide), List.forall_mem_cons.mpr ⟨ok_aload_n dX11_back_56 rfl, List.forall_mem_cons.mpr ⟨ok_getR dX11_back_57 rfl in11 (by decide) rfl w340, List.forall_mem_cons.mpr ⟨ok_aload_n dX11_back_60 rfl, List.forall_mem_cons.mpr ⟨ok_getI dX11_back_61 rfl in3 (by decide) rfl w320, List.forall_mem_cons.mpr ⟨ok_putI (bz := false) dX11_back_64 rfl in6 tyX6 tyX6_ok nmX6 (by decide) rfl w146 rfl rfl, List.forall_mem_cons.mpr ⟨ok_aload_n dX11_back_67 rfl, List.forall_mem_cons.mpr ⟨ok_aload_n dX11_back_68 rfl, List.forall_mem_cons.mpr ⟨ok_getI dX11_back_69 rfl in3 (by decide) rfl w322, List.forall_mem_cons.mpr ⟨ok_putI (bz := false) dX11_back_72 rfl in11 tyX11 tyX11_ok nmX11 (by decide) rfl w351 rfl rfl, List.forall_mem_cons.mpr ⟨ok_aload_n dX11_back_75 rfl, List.forall_mem_cons.mpr ⟨ok_aload_n dX11_back_76 rfl, List.forall_mem_cons.mpr ⟨ok_getI dX11_back_77 rfl in3 (by decide) rfl w324, List.forall_mem_cons.mpr ⟨ok_putI (bz := false) dX11_back_80 rfl in11 tyX11 tyX11_ok nmX11 (by decide) rfl w352 rfl rfl, List.forall_mem_cons.mpr ⟨ok_aload_n dX11_back_83 rfl, List.forall_mem_cons.mpr ⟨ok_getI dX11_back_84 rfl in11 (by decide) rfl w350, List.forall_mem_cons.mpr ⟨ok_iret (bz := false) dX11_back_87 rfl, fun _ h => absurd h List.not_mem_nil⟩⟩⟩⟩⟩⟩⟩⟩⟩⟩⟩⟩⟩⟩⟩⟩⟩⟩⟩⟩⟩⟩⟩
def kX11_back : List (Nat × zT) := kX11_back_0 ++ (kX11_back_1)
theorem qX11_back_0 : ∀ q ∈ kX11_back_0, q ∈ kX11_back := fun _ h => (List.mem_append_left _ h)
theorem tX11_back_0 : (0, a_aload 0 1) ∈ kX11_back := qX11_back_0 _ (List.mem_of_getElem? (i := 0) rfl)
theorem tX11_back_1 : (1, a_getI 11 13 4) ∈ kX11_back := qX11_back_0 _ (List.mem_of_getElem? (i := 1) rfl)
theorem tX11_back_4 : (4, a_if_gt 10 7) ∈ kX11_back := qX11_back_0 _ (List.mem_of_getElem? (i := 2) rfl)
theorem tX11_back_7 : (7, a_i (-2) 9) ∈ kX11_back := qX11_back_0 _ (List.mem_of_getElem? (i := 3) rfl)
theorem tX11_back_9 : (9, a_iret false) ∈ kX11_back := qX11_back_0 _ (List.mem_of_getElem? (i := 4) rfl)
theorem tX11_back_10 : (10, a_aload 0 11) ∈ kX11_back := qX11_back_0 _ (List.mem_of_getElem? (i := 5) rfl)
theorem tX11_back_11 : (11, a_dup 12) ∈ kX11_back := qX11_back_0 _ (List.mem_of_getElem? (i := 6) rfl)
theorem tX11_back_12 : (12, a_getI 11 13 15) ∈ kX11_back := qX11_back_0 _ (List.mem_of_getElem? (i := 7) rfl)
theorem tX11_back_15 : (15, a_i 1 16) ∈ kX11_back := qX11_back_0 _ (List.mem_of_getElem? (i := 8) rfl)
theorem tX11_back_16 : (16, a_ii (fun x y => x - y) 17) ∈ kX11_back := qX11_back_0 _ (List.mem_of_getElem? (i := 9) rfl)
theorem tX11_back_17 : (17, a_putI 11 13 20 false) ∈ kX11_back := qX11_back_0 _ (List.mem_of_getElem? (i := 10) rfl)
theorem tX11_back_20 : (20, a_aload 0 21) ∈ kX11_back := qX11_back_0 _ (List.mem_of_getElem? (i := 11) rfl)
theorem tX11_back_21 : (21, a_getR 11 12 24) ∈ kX11_back := qX11_back_0 _ (List.mem_of_getElem? (i := 12) rfl)
theorem tX11_back_24 : (24, a_aload 0 25) ∈ kX11_back := qX11_back_0 _ (List.mem_of_getElem? (i := 13) rfl)
theorem tX11_back_25 : (25, a_getI 11 13 28) ∈ kX11_back := qX11_back_0 _ (List.mem_of_getElem? (i := 14) rfl)
theorem tX11_back_28 : (28, a_aald 29) ∈ kX11_back := qX11_back_0 _ (List.mem_of_getElem? (i := 15) rfl)
theorem tX11_back_29 : (29, a_astore 1 30) ∈ kX11_back := qX11_back_0 _ (List.mem_of_getElem? (i := 16) rfl)
theorem tX11_back_30 : (30, a_aload 0 31) ∈ kX11_back := qX11_back_0 _ (List.mem_of_getElem? (i := 17) rfl)
theorem tX11_back_31 : (31, a_getR 11 1 34) ∈ kX11_back := qX11_back_0 _ (List.mem_of_getElem? (i := 18) rfl)
theorem tX11_back_34 : (34, a_i 0 35) ∈ kX11_back := qX11_back_0 _ (List.mem_of_getElem? (i := 19) rfl)
theorem tX11_back_35 : (35, a_aald 36) ∈ kX11_back := qX11_back_0 _ (List.mem_of_getElem? (i := 20) rfl)
theorem tX11_back_36 : (36, a_aload 1 37) ∈ kX11_back := qX11_back_0 _ (List.mem_of_getElem? (i := 21) rfl)
theorem tX11_back_37 : (37, a_getR 3 0 40) ∈ kX11_back := qX11_back_0 _ (List.mem_of_getElem? (i := 22) rfl)
theorem tX11_back_40 : (40, a_callV 10 83 2 43 0 0) ∈ kX11_back := qX11_back_0 _ (List.mem_of_getElem? (i := 23) rfl)
theorem qX11_back_1 : ∀ q ∈ kX11_back_1, q ∈ kX11_back := fun _ h => (List.mem_append_right _ h)
theorem tX11_back_43 : (43, a_aload 0 44) ∈ kX11_back := qX11_back_1 _ (List.mem_of_getElem? (i := 0) rfl)
theorem tX11_back_44 : (44, a_getR 11 1 47) ∈ kX11_back := qX11_back_1 _ (List.mem_of_getElem? (i := 1) rfl)
theorem tX11_back_47 : (47, a_i 1 48) ∈ kX11_back := qX11_back_1 _ (List.mem_of_getElem? (i := 2) rfl)
theorem tX11_back_48 : (48, a_aald 49) ∈ kX11_back := qX11_back_1 _ (List.mem_of_getElem? (i := 3) rfl)
theorem tX11_back_49 : (49, a_aload 1 50) ∈ kX11_back := qX11_back_1 _ (List.mem_of_getElem? (i := 4) rfl)
theorem tX11_back_50 : (50, a_getR 3 1 53) ∈ kX11_back := qX11_back_1 _ (List.mem_of_getElem? (i := 5) rfl)
theorem tX11_back_53 : (53, a_callV 10 83 2 56 0 0) ∈ kX11_back := qX11_back_1 _ (List.mem_of_getElem? (i := 6) rfl)
theorem tX11_back_56 : (56, a_aload 0 57) ∈ kX11_back := qX11_back_1 _ (List.mem_of_getElem? (i := 7) rfl)
theorem tX11_back_57 : (57, a_getR 11 3 60) ∈ kX11_back := qX11_back_1 _ (List.mem_of_getElem? (i := 8) rfl)
theorem tX11_back_60 : (60, a_aload 1 61) ∈ kX11_back := qX11_back_1 _ (List.mem_of_getElem? (i := 9) rfl)
theorem tX11_back_61 : (61, a_getI 3 2 64) ∈ kX11_back := qX11_back_1 _ (List.mem_of_getElem? (i := 10) rfl)
theorem tX11_back_64 : (64, a_putI 6 2 67 false) ∈ kX11_back := qX11_back_1 _ (List.mem_of_getElem? (i := 11) rfl)
theorem tX11_back_67 : (67, a_aload 0 68) ∈ kX11_back := qX11_back_1 _ (List.mem_of_getElem? (i := 12) rfl)
theorem tX11_back_68 : (68, a_aload 1 69) ∈ kX11_back := qX11_back_1 _ (List.mem_of_getElem? (i := 13) rfl)
theorem tX11_back_69 : (69, a_getI 3 3 72) ∈ kX11_back := qX11_back_1 _ (List.mem_of_getElem? (i := 14) rfl)
theorem tX11_back_72 : (72, a_putI 11 14 75 false) ∈ kX11_back := qX11_back_1 _ (List.mem_of_getElem? (i := 15) rfl)
theorem tX11_back_75 : (75, a_aload 0 76) ∈ kX11_back := qX11_back_1 _ (List.mem_of_getElem? (i := 16) rfl)
theorem tX11_back_76 : (76, a_aload 1 77) ∈ kX11_back := qX11_back_1 _ (List.mem_of_getElem? (i := 17) rfl)
theorem tX11_back_77 : (77, a_getI 3 4 80) ∈ kX11_back := qX11_back_1 _ (List.mem_of_getElem? (i := 18) rfl)
theorem tX11_back_80 : (80, a_putI 11 15 83 false) ∈ kX11_back := qX11_back_1 _ (List.mem_of_getElem? (i := 19) rfl)
theorem tX11_back_83 : (83, a_aload 0 84) ∈ kX11_back := qX11_back_1 _ (List.mem_of_getElem? (i := 20) rfl)
theorem tX11_back_84 : (84, a_getI 11 13 87) ∈ kX11_back := qX11_back_1 _ (List.mem_of_getElem? (i := 21) rfl)
theorem tX11_back_87 : (87, a_iret false) ∈ kX11_back := qX11_back_1 _ (List.mem_of_getElem? (i := 22) rfl)
theorem oX11_back : ∀ q ∈ kX11_back, zSnd zty false RX11 cX11_back 2 (some .int) false q := List.forall_mem_append.mpr ⟨oX11_back_0, oX11_back_1⟩
theorem dX11_count_0 : decode cX11_count 0 = .ok (.iload_n 1, 1) := by decide +kernel
theorem dX11_count_1 : decode cX11_count 1 = .ok (.tableswitch 128 0 8 #[51, 61, 71, 81, 91, 99, 107, 115, 120], 51) := by decide +kernel
theorem dX11_count_52 : decode cX11_count 52 = .ok (.aload_n 0, 1) := by decide +kernel
theorem dX11_count_53 : decode cX11_count 53 = .ok (.getfield 10, 3) := by decide +kernel
theorem dX11_count_56 : decode cX11_count 56 = .ok (.iconst 0, 1) := by decide +kernel
theorem dX11_count_57 : decode cX11_count 57 = .ok (.aaload, 1) := by decide +kernel
theorem dX11_count_58 : decode cX11_count 58 = .ok (.getfield 111, 3) := by decide +kernel
theorem dX11_count_61 : decode cX11_count 61 = .ok (.ireturn, 1) := by decide +kernel
theorem dX11_count_62 : decode cX11_count 62 = .ok (.aload_n 0, 1) := by decide +kernel
theorem dX11_count_63 : decode cX11_count 63 = .ok (.getfield 10, 3) := by decide +kernel
theorem dX11_count_66 : decode cX11_count 66 = .ok (.iconst 1, 1) := by decide +kernel
theorem dX11_count_67 : decode cX11_count 67 = .ok (.aaload, 1) := by decide +kernel
theorem dX11_count_68 : decode cX11_count 68 = .ok (.getfield 111, 3) := by decide +kernel
theorem dX11_count_71 : decode cX11_count 71 = .ok (.ireturn, 1) := by decide +kernel
theorem dX11_count_72 : decode cX11_count 72 = .ok (.aload_n 0, 1) := by decide +kernel
theorem dX11_count_73 : decode cX11_count 73 = .ok (.getfield 19, 3) := by decide +kernel
theorem dX11_count_76 : decode cX11_count 76 = .ok (.iconst 0, 1) := by decide +kernel
theorem dX11_count_77 : decode cX11_count 77 = .ok (.aaload, 1) := by decide +kernel
theorem dX11_count_78 : decode cX11_count 78 = .ok (.getfield 140, 3) := by decide +kernel
theorem dX11_count_81 : decode cX11_count 81 = .ok (.ireturn, 1) := by decide +kernel
theorem dX11_count_82 : decode cX11_count 82 = .ok (.aload_n 0, 1) := by decide +kernel
theorem dX11_count_83 : decode cX11_count 83 = .ok (.getfield 19, 3) := by decide +kernel
theorem dX11_count_86 : decode cX11_count 86 = .ok (.iconst 1, 1) := by decide +kernel
theorem dX11_count_87 : decode cX11_count 87 = .ok (.aaload, 1) := by decide +kernel
theorem dX11_count_88 : decode cX11_count 88 = .ok (.getfield 140, 3) := by decide +kernel
theorem dX11_count_91 : decode cX11_count 91 = .ok (.ireturn, 1) := by decide +kernel
theorem dX11_count_92 : decode cX11_count 92 = .ok (.aload_n 0, 1) := by decide +kernel
theorem dX11_count_93 : decode cX11_count 93 = .ok (.getfield 74, 3) := by decide +kernel
theorem dX11_count_96 : decode cX11_count 96 = .ok (.getfield 265, 3) := by decide +kernel
theorem dX11_count_99 : decode cX11_count 99 = .ok (.ireturn, 1) := by decide +kernel
theorem dX11_count_100 : decode cX11_count 100 = .ok (.aload_n 0, 1) := by decide +kernel
theorem dX11_count_101 : decode cX11_count 101 = .ok (.getfield 74, 3) := by decide +kernel
theorem dX11_count_104 : decode cX11_count 104 = .ok (.getfield 274, 3) := by decide +kernel
theorem dX11_count_107 : decode cX11_count 107 = .ok (.ireturn, 1) := by decide +kernel
theorem dX11_count_108 : decode cX11_count 108 = .ok (.aload_n 0, 1) := by decide +kernel
theorem dX11_count_109 : decode cX11_count 109 = .ok (.getfield 81, 3) := by decide +kernel
theorem dX11_count_112 : decode cX11_count 112 = .ok (.getfield 310, 3) := by decide +kernel
theorem dX11_count_115 : decode cX11_count 115 = .ok (.ireturn, 1) := by decide +kernel
theorem dX11_count_116 : decode cX11_count 116 = .ok (.aload_n 0, 1) := by decide +kernel
theorem dX11_count_117 : decode cX11_count 117 = .ok (.getfield 92, 3) := by decide +kernel
theorem dX11_count_120 : decode cX11_count 120 = .ok (.ireturn, 1) := by decide +kernel
theorem dX11_count_121 : decode cX11_count 121 = .ok (.aload_n 0, 1) := by decide +kernel
theorem dX11_count_122 : decode cX11_count 122 = .ok (.getfield 33, 3) := by decide +kernel
theorem dX11_count_125 : decode cX11_count 125 = .ok (.getfield 176, 3) := by decide +kernel
theorem dX11_count_128 : decode cX11_count 128 = .ok (.ireturn, 1) := by decide +kernel
theorem dX11_count_129 : decode cX11_count 129 = .ok (.iconst (-1), 1) := by decide +kernel
theorem dX11_count_130 : decode cX11_count 130 = .ok (.ireturn, 1) := by decide +kernel
def kX11_count_0 : List (Nat × zT) := [(0, a_iload 1 1), (1, a_sw [(0, 52), (1, 62), (2, 72), (3, 82), (4, 92), (5, 100), (6, 108), (7, 116), (8, 121)] 129), (52, a_aload 0 53), (53, a_getR 11 0 56), (56, a_i 0 57), (57, a_aald 58), (58, a_getI 7 1 61), (61, a_iret false), (62, a_aload 0 63), (63, a_getR 11 0 66), (66, a_i 1 67), (67, a_aald 68), (68, a_getI 7 1 71), (71, a_iret false), (72, a_aload 0 73), (73, a_getR 11 1 76), (76, a_i 0 77), (77, a_aald 78), (78, a_getI 10 7 81), (81, a_iret false), (82, a_aload 0 83), (83, a_getR 11 1 86), (86, a_i 1 87), (87, a_aald 88)]
theorem oX11_count_0 : ∀ q ∈ kX11_count_0, zSnd zty false RX11 cX11_count 2 (some .int) false q := List.forall_mem_cons.mpr ⟨ok_iload_n dX11_count_0 rfl, List.forall_mem_cons.mpr ⟨ok_tsw dX11_count_1 (by decide) (by decide) (by decide) (by decide), List.forall_mem_cons.mpr ⟨ok_aload_n dX11_count_52 rfl, List.forall_mem_cons.mpr ⟨ok_getR dX11_count_53 rfl in11 (by decide) rfl w337, List.forall_mem_cons.mpr ⟨ok_iconst dX11_count_56 (by decide), List.forall_mem_cons.mpr ⟨ok_aald dX11_count_57, List.forall_mem_cons.mpr ⟨ok_getI dX11_count_58 rfl in7 (by decide) rfl w38, List.forall_mem_cons.mpr ⟨ok_iret (bz := false) dX11_count_61 rfl, List.forall_mem_cons.mpr ⟨ok_aload_n dX11_count_62 rfl, List.forall_mem_cons.mpr ⟨ok_getR dX11_count_63 rfl in11 (by decide) rfl w337, List.forall_mem_cons.mpr ⟨ok_iconst dX11_count_66 (by decide), List.forall_mem_cons.mpr ⟨ok_aald dX11_count_67, List.forall_mem_cons.mpr ⟨ok_getI dX11_count_68 rfl in7 (by decide) rfl w38, List.forall_mem_cons.mpr ⟨ok_iret (bz := false) dX11_count_71 rfl, List.forall_mem_cons.mpr ⟨ok_aload_n dX11_count_72 rfl, List.forall_mem_cons.mpr ⟨ok_getR dX11_count_73 rfl in11 (by decide) rfl w338, List.forall_mem_cons.mpr ⟨ok_iconst dX11_count_76 (by decide), List.forall_mem_cons.mpr ⟨ok_aald dX11_count_77, List.forall_mem_cons.mpr ⟨ok_getI dX11_count_78 rfl in10 (by decide) rfl w92, List.forall_mem_cons.mpr ⟨ok_iret (bz := false) dX11_count_81 rfl, List.forall_mem_cons.mpr ⟨ok_aload_n dX11_count_82 rfl, List.forall_mem_cons.mpr ⟨ok_getR dX11_count_83 rfl in11 (by decide) rfl w338, List.forall_mem_cons.mpr ⟨ok_iconst dX11_count_86 (by decide), List.forall_mem_cons.mpr ⟨ok_aald dX11_count_87, fun _ h => absurd h List.not_mem_nil⟩⟩⟩⟩⟩⟩⟩⟩⟩⟩⟩⟩⟩⟩⟩⟩⟩⟩⟩⟩⟩⟩⟩⟩
def kX11_count_1 : List (Nat × zT) := [(88, a_getI 10 7 91), (91, a_iret false), (92, a_aload 0 93), (93, a_getR 11 10 96), (96, a_getI 1 2 99), (99, a_iret false), (100, a_aload 0 101), (101, a_getR 11 10 104), (104, a_getI 1 3 107), (107, a_iret false), (108, a_aload 0 109), (109, a_getR 11 11 112), (112, a_getI 9 2 115), (115, a_iret false), (116, a_aload 0 117), (117, a_getI 11 13 120), (120, a_iret false), (121, a_aload 0 122), (122, a_getR 11 3 125), (125, a_getI 6 3 128), (128, a_iret false), (129, a_i (-1) 130), (130, a_iret false)]
theorem oX11_count_1 : ∀ q ∈ kX11_count_1, zSnd zty false RX11 cX11_count 2 (some .int) false q := List.forall_mem_cons.mpr ⟨ok_getI dX11_count_88 rfl in10 (by decide) rfl w92, List.forall_mem_cons.mpr ⟨ok_iret (bz := false) dX11_count_91 rfl, List.forall_mem_cons.mpr ⟨ok_aload_n dX11_count_92 rfl, List.forall_mem_cons.mpr ⟨ok_getR dX11_count_93 rfl in11 (by decide) rfl w347, List.forall_mem_cons.mpr ⟨ok_getI dX11_count_96 rfl in1 (by decide) rfl w243, List.forall_mem_cons.mpr ⟨ok_iret (bz := false) dX11_count_99 rfl, List.forall_mem_cons.mpr ⟨ok_aload_n dX11_count_100 rfl, List.forall_mem_cons.mpr ⟨ok_getR dX11_count_101 rfl in11 (by decide) rfl w347, List.forall_mem_cons.mpr ⟨ok_getI dX11_count_104 rfl in1 (by decide) rfl w245, List.forall_mem_cons.mpr ⟨ok_iret (bz := false) dX11_count_107 rfl, List.forall_mem_cons.mpr ⟨ok_aload_n dX11_count_108 rfl, List.forall_mem_cons.mpr ⟨ok_getR dX11_count_109 rfl in11 (by decide) rfl w348, List.forall_mem_cons.mpr ⟨ok_getI dX11_count_112 rfl in9 (by decide) rfl w289, List.forall_mem_cons.mpr ⟨ok_iret (bz := false) dX11_count_115 rfl, List.forall_mem_cons.mpr ⟨ok_aload_n dX11_count_116 rfl, List.forall_mem_cons.mpr ⟨ok_getI dX11_count_117 rfl in11 (by decide) rfl w350, List.forall_mem_cons.mpr ⟨ok_iret (bz := false) dX11_count_120 rfl, List.forall_mem_cons.mpr ⟨ok_aload_n dX11_count_121 rfl, List.forall_mem_cons.mpr ⟨ok_getR dX11_count_122 rfl in11 (by decide) rfl w340, List.forall_mem_cons.mpr ⟨ok_getI dX11_count_125 rfl in6 (by decide) rfl w148, List.forall_mem_cons.mpr ⟨ok_iret (bz := false) dX11_count_128 rfl, List.forall_mem_cons.mpr ⟨ok_iconst dX11_count_129 (by decide), List.forall_mem_cons.mpr ⟨ok_iret (bz := false) dX11_count_130 rfl, fun _ h => absurd h List.not_mem_nil⟩⟩⟩⟩⟩⟩⟩⟩⟩⟩⟩⟩⟩⟩⟩⟩⟩⟩⟩⟩⟩⟩⟩
def kX11_count : List (Nat × zT) := kX11_count_0 ++ (kX11_count_1)
theorem qX11_count_0 : ∀ q ∈ kX11_count_0, q ∈ kX11_count := fun _ h => (List.mem_append_left _ h)
theorem tX11_count_0 : (0, a_iload 1 1) ∈ kX11_count := qX11_count_0 _ (List.mem_of_getElem? (i := 0) rfl)
theorem tX11_count_1 : (1, a_sw [(0, 52), (1, 62), (2, 72), (3, 82), (4, 92), (5, 100), (6, 108), (7, 116), (8, 121)] 129) ∈ kX11_count := qX11_count_0 _ (List.mem_of_getElem? (i := 1) rfl)
theorem tX11_count_52 : (52, a_aload 0 53) ∈ kX11_count := qX11_count_0 _ (List.mem_of_getElem? (i := 2) rfl)
theorem tX11_count_53 : (53, a_getR 11 0 56) ∈ kX11_count := qX11_count_0 _ (List.mem_of_getElem? (i := 3) rfl)
theorem tX11_count_56 : (56, a_i 0 57) ∈ kX11_count := qX11_count_0 _ (List.mem_of_getElem? (i := 4) rfl)
theorem tX11_count_57 : (57, a_aald 58) ∈ kX11_count := qX11_count_0 _ (List.mem_of_getElem? (i := 5) rfl)
theorem tX11_count_58 : (58, a_getI 7 1 61) ∈ kX11_count := qX11_count_0 _ (List.mem_of_getElem? (i := 6) rfl)
theorem tX11_count_61 : (61, a_iret false) ∈ kX11_count := qX11_count_0 _ (List.mem_of_getElem? (i := 7) rfl)
theorem tX11_count_62 : (62, a_aload 0 63) ∈ kX11_count := qX11_count_0 _ (List.mem_of_getElem? (i := 8) rfl)
theorem tX11_count_63 : (63, a_getR 11 0 66) ∈ kX11_count := qX11_count_0 _ (List.mem_of_getElem? (i := 9) rfl)
theorem tX11_count_66 : (66, a_i 1 67) ∈ kX11_count := qX11_count_0 _ (List.mem_of_getElem? (i := 10) rfl)
theorem tX11_count_67 : (67, a_aald 68) ∈ kX11_count := qX11_count_0 _ (List.mem_of_getElem? (i := 11) rfl)
theorem tX11_count_68 : (68, a_getI 7 1 71) ∈ kX11_count := qX11_count_0 _ (List.mem_of_getElem? (i := 12) rfl)
theorem tX11_count_71 : (71, a_iret false) ∈ kX11_count := qX11_count_0 _ (List.mem_of_getElem? (i := 13) rfl)
theorem tX11_count_72 : (72, a_aload 0 73) ∈ kX11_count := qX11_count_0 _ (List.mem_of_getElem? (i := 14) rfl)
theorem tX11_count_73 : (73, a_getR 11 1 76) ∈ kX11_count := qX11_count_0 _ (List.mem_of_getElem? (i := 15) rfl)
theorem tX11_count_76 : (76, a_i 0 77) ∈ kX11_count := qX11_count_0 _ (List.mem_of_getElem? (i := 16) rfl)
theorem tX11_count_77 : (77, a_aald 78) ∈ kX11_count := qX11_count_0 _ (List.mem_of_getElem? (i := 17) rfl)
theorem tX11_count_78 : (78, a_getI 10 7 81) ∈ kX11_count := qX11_count_0 _ (List.mem_of_getElem? (i := 18) rfl)
theorem tX11_count_81 : (81, a_iret false) ∈ kX11_count := qX11_count_0 _ (List.mem_of_getElem? (i := 19) rfl)
theorem tX11_count_82 : (82, a_aload 0 83) ∈ kX11_count := qX11_count_0 _ (List.mem_of_getElem? (i := 20) rfl)
theorem tX11_count_83 : (83, a_getR 11 1 86) ∈ kX11_count := qX11_count_0 _ (List.mem_of_getElem? (i := 21) rfl)
theorem tX11_count_86 : (86, a_i 1 87) ∈ kX11_count := qX11_count_0 _ (List.mem_of_getElem? (i := 22) rfl)
theorem tX11_count_87 : (87, a_aald 88) ∈ kX11_count := qX11_count_0 _ (List.mem_of_getElem? (i := 23) rfl)
theorem qX11_count_1 : ∀ q ∈ kX11_count_1, q ∈ kX11_count := fun _ h => (List.mem_append_right _ h)
theorem tX11_count_88 : (88, a_getI 10 7 91) ∈ kX11_count := qX11_count_1 _ (List.mem_of_getElem? (i := 0) rfl)
theorem tX11_count_91 : (91, a_iret false) ∈ kX11_count := qX11_count_1 _ (List.mem_of_getElem? (i := 1) rfl)
theorem tX11_count_92 : (92, a_aload 0 93) ∈ kX11_count := qX11_count_1 _ (List.mem_of_getElem? (i := 2) rfl)
theorem tX11_count_93 : (93, a_getR 11 10 96) ∈ kX11_count := qX11_count_1 _ (List.mem_of_getElem? (i := 3) rfl)
theorem tX11_count_96 : (96, a_getI 1 2 99) ∈ kX11_count := qX11_count_1 _ (List.mem_of_getElem? (i := 4) rfl)
theorem tX11_count_99 : (99, a_iret false) ∈ kX11_count := qX11_count_1 _ (List.mem_of_getElem? (i := 5) rfl)
theorem tX11_count_100 : (100, a_aload 0 101) ∈ kX11_count := qX11_count_1 _ (List.mem_of_getElem? (i := 6) rfl)
theorem tX11_count_101 : (101, a_getR 11 10 104) ∈ kX11_count := qX11_count_1 _ (List.mem_of_getElem? (i := 7) rfl)
theorem tX11_count_104 : (104, a_getI 1 3 107) ∈ kX11_count := qX11_count_1 _ (List.mem_of_getElem? (i := 8) rfl)
theorem tX11_count_107 : (107, a_iret false) ∈ kX11_count := qX11_count_1 _ (List.mem_of_getElem? (i := 9) rfl)
theorem tX11_count_108 : (108, a_aload 0 109) ∈ kX11_count := qX11_count_1 _ (List.mem_of_getElem? (i := 10) rfl)
theorem tX11_count_109 : (109, a_getR 11 11 112) ∈ kX11_count := qX11_count_1 _ (List.mem_of_getElem? (i := 11) rfl)
theorem tX11_count_112 : (112, a_getI 9 2 115) ∈ kX11_count := qX11_count_1 _ (List.mem_of_getElem? (i := 12) rfl)
theorem tX11_count_115 : (115, a_iret false) ∈ kX11_count := qX11_count_1 _ (List.mem_of_getElem? (i := 13) rfl)
theorem tX11_count_116 : (116, a_aload 0 117) ∈ kX11_count := qX11_count_1 _ (List.mem_of_getElem? (i := 14) rfl)
theorem tX11_count_117 : (117, a_getI 11 13 120) ∈ kX11_count := qX11_count_1 _ (List.mem_of_getElem? (i := 15) rfl)
theorem tX11_count_120 : (120, a_iret false) ∈ kX11_count := qX11_count_1 _ (List.mem_of_getElem? (i := 16) rfl)
theorem tX11_count_121 : (121, a_aload 0 122) ∈ kX11_count := qX11_count_1 _ (List.mem_of_getElem? (i := 17) rfl)
theorem tX11_count_122 : (122, a_getR 11 3 125) ∈ kX11_count := qX11_count_1 _ (List.mem_of_getElem? (i := 18) rfl)
theorem tX11_count_125 : (125, a_getI 6 3 128) ∈ kX11_count := qX11_count_1 _ (List.mem_of_getElem? (i := 19) rfl)
theorem tX11_count_128 : (128, a_iret false) ∈ kX11_count := qX11_count_1 _ (List.mem_of_getElem? (i := 20) rfl)
theorem tX11_count_129 : (129, a_i (-1) 130) ∈ kX11_count := qX11_count_1 _ (List.mem_of_getElem? (i := 21) rfl)
theorem tX11_count_130 : (130, a_iret false) ∈ kX11_count := qX11_count_1 _ (List.mem_of_getElem? (i := 22) rfl)
theorem oX11_count : ∀ q ∈ kX11_count, zSnd zty false RX11 cX11_count 2 (some .int) false q := List.forall_mem_append.mpr ⟨oX11_count_0, oX11_count_1⟩
theorem dX11_isBelow_0 : decode cX11_isBelow 0 = .ok (.iload_n 0, 1) := by decide +kernel
theorem dX11_isBelow_1 : decode cX11_isBelow 1 = .ok (.ifCond .lt 12, 3) := by decide +kernel
theorem dX11_isBelow_4 : decode cX11_isBelow 4 = .ok (.iload_n 0, 1) := by decide +kernel
theorem dX11_isBelow_5 : decode cX11_isBelow 5 = .ok (.iload_n 1, 1) := by decide +kernel
theorem dX11_isBelow_6 : decode cX11_isBelow 6 = .ok (.if_icmp .ge 7, 3) := by decide +kernel
theorem dX11_isBelow_9 : decode cX11_isBelow 9 = .ok (.iconst 1, 1) := by decide +kernel
theorem dX11_isBelow_10 : decode cX11_isBelow 10 = .ok (.goto 4, 3) := by decide +kernel
theorem dX11_isBelow_13 : decode cX11_isBelow 13 = .ok (.iconst 0, 1) := by decide +kernel
theorem dX11_isBelow_14 : decode cX11_isBelow 14 = .ok (.ireturn, 1) := by decide +kernel
def kX11_isBelow_0 : List (Nat × zT) := [(0, a_iload 0 1), (1, a_if_lt 13 4), (4, a_iload 0 5), (5, a_iload 1 6), (6, a_ic_ge 13 9), (9, a_i 1 10), (10, a_goto 14), (13, a_i 0 14), (14, a_iret true)]
theorem oX11_isBelow_0 : ∀ q ∈ kX11_isBelow_0, zSnd zty false RX11 cX11_isBelow 2 (some .boolean) false q := List.forall_mem_cons.mpr ⟨ok_iload_n dX11_isBelow_0 rfl, List.forall_mem_cons.mpr ⟨ok_if_lt dX11_isBelow_1 (by decide), List.forall_mem_cons.mpr ⟨ok_iload_n dX11_isBelow_4 rfl, List.forall_mem_cons.mpr ⟨ok_iload_n dX11_isBelow_5 rfl, List.forall_mem_cons.mpr ⟨ok_ic_ge dX11_isBelow_6 (by decide), List.forall_mem_cons.mpr ⟨ok_iconst dX11_isBelow_9 (by decide), List.forall_mem_cons.mpr ⟨ok_goto dX11_isBelow_10 (by decide), List.forall_mem_cons.mpr ⟨ok_iconst dX11_isBelow_13 (by decide), List.forall_mem_cons.mpr ⟨ok_iret (bz := true) dX11_isBelow_14 rfl, fun _ h => absurd h List.not_mem_nil⟩⟩⟩⟩⟩⟩⟩⟩⟩
def kX11_isBelow : List (Nat × zT) := kX11_isBelow_0
theorem qX11_isBelow_0 : ∀ q ∈ kX11_isBelow_0, q ∈ kX11_isBelow := fun _ h => h
theorem tX11_isBelow_0 : (0, a_iload 0 1) ∈ kX11_isBelow := qX11_isBelow_0 _ (List.mem_of_getElem? (i := 0) rfl)
theorem tX11_isBelow_1 : (1, a_if_lt 13 4) ∈ kX11_isBelow := qX11_isBelow_0 _ (List.mem_of_getElem? (i := 1) rfl)
theorem tX11_isBelow_4 : (4, a_iload 0 5) ∈ kX11_isBelow := qX11_isBelow_0 _ (List.mem_of_getElem? (i := 2) rfl)
theorem tX11_isBelow_5 : (5, a_iload 1 6) ∈ kX11_isBelow := qX11_isBelow_0 _ (List.mem_of_getElem? (i := 3) rfl)
theorem tX11_isBelow_6 : (6, a_ic_ge 13 9) ∈ kX11_isBelow := qX11_isBelow_0 _ (List.mem_of_getElem? (i := 4) rfl)
theorem tX11_isBelow_9 : (9, a_i 1 10) ∈ kX11_isBelow := qX11_isBelow_0 _ (List.mem_of_getElem? (i := 5) rfl)
theorem tX11_isBelow_10 : (10, a_goto 14) ∈ kX11_isBelow := qX11_isBelow_0 _ (List.mem_of_getElem? (i := 6) rfl)
theorem tX11_isBelow_13 : (13, a_i 0 14) ∈ kX11_isBelow := qX11_isBelow_0 _ (List.mem_of_getElem? (i := 7) rfl)
theorem tX11_isBelow_14 : (14, a_iret true) ∈ kX11_isBelow := qX11_isBelow_0 _ (List.mem_of_getElem? (i := 8) rfl)
theorem oX11_isBelow : ∀ q ∈ kX11_isBelow, zSnd zty false RX11 cX11_isBelow 2 (some .boolean) false q := oX11_isBelow_0
theorem dX11_isView_0 : decode cX11_isView 0 = .ok (.iload_n 0, 1) := by decide +kernel
theorem dX11_isView_1 : decode cX11_isView 1 = .ok (.ifCond .eq 8, 3) := by decide +kernel
theorem dX11_isView_4 : decode cX11_isView 4 = .ok (.iload_n 0, 1) := by decide +kernel
theorem dX11_isView_5 : decode cX11_isView 5 = .ok (.iconst 1, 1) := by decide +kernel
theorem dX11_isView_6 : decode cX11_isView 6 = .ok (.if_icmp .ne 7, 3) := by decide +kernel
theorem dX11_isView_9 : decode cX11_isView 9 = .ok (.iconst 1, 1) := by decide +kernel
theorem dX11_isView_10 : decode cX11_isView 10 = .ok (.goto 4, 3) := by decide +kernel
theorem dX11_isView_13 : decode cX11_isView 13 = .ok (.iconst 0, 1) := by decide +kernel
theorem dX11_isView_14 : decode cX11_isView 14 = .ok (.ireturn, 1) := by decide +kernel
def kX11_isView_0 : List (Nat × zT) := [(0, a_iload 0 1), (1, a_if_eq 9 4), (4, a_iload 0 5), (5, a_i 1 6), (6, a_ic_ne 13 9), (9, a_i 1 10), (10, a_goto 14), (13, a_i 0 14), (14, a_iret true)]
theorem oX11_isView_0 : ∀ q ∈ kX11_isView_0, zSnd zty false RX11 cX11_isView 1 (some .boolean) false q := List.forall_mem_cons.mpr ⟨ok_iload_n dX11_isView_0 rfl, List.forall_mem_cons.mpr ⟨ok_if_eq dX11_isView_1 (by decide), List.forall_mem_cons.mpr ⟨ok_iload_n dX11_isView_4 rfl, List.forall_mem_cons.mpr ⟨ok_iconst dX11_isView_5 (by decide), List.forall_mem_cons.mpr ⟨ok_ic_ne dX11_isView_6 (by decide), List.forall_mem_cons.mpr ⟨ok_iconst dX11_isView_9 (by decide), List.forall_mem_cons.mpr ⟨ok_goto dX11_isView_10 (by decide), List.forall_mem_cons.mpr ⟨ok_iconst dX11_isView_13 (by decide), List.forall_mem_cons.mpr ⟨ok_iret (bz := true) dX11_isView_14 rfl, fun _ h => absurd h List.not_mem_nil⟩⟩⟩⟩⟩⟩⟩⟩⟩
def kX11_isView : List (Nat × zT) := kX11_isView_0
theorem qX11_isView_0 : ∀ q ∈ kX11_isView_0, q ∈ kX11_isView := fun _ h => h
theorem tX11_isView_0 : (0, a_iload 0 1) ∈ kX11_isView := qX11_isView_0 _ (List.mem_of_getElem? (i := 0) rfl)
theorem tX11_isView_1 : (1, a_if_eq 9 4) ∈ kX11_isView := qX11_isView_0 _ (List.mem_of_getElem? (i := 1) rfl)
theorem tX11_isView_4 : (4, a_iload 0 5) ∈ kX11_isView := qX11_isView_0 _ (List.mem_of_getElem? (i := 2) rfl)
theorem tX11_isView_5 : (5, a_i 1 6) ∈ kX11_isView := qX11_isView_0 _ (List.mem_of_getElem? (i := 3) rfl)
theorem tX11_isView_6 : (6, a_ic_ne 13 9) ∈ kX11_isView := qX11_isView_0 _ (List.mem_of_getElem? (i := 4) rfl)
theorem tX11_isView_9 : (9, a_i 1 10) ∈ kX11_isView := qX11_isView_0 _ (List.mem_of_getElem? (i := 5) rfl)
theorem tX11_isView_10 : (10, a_goto 14) ∈ kX11_isView := qX11_isView_0 _ (List.mem_of_getElem? (i := 6) rfl)
theorem tX11_isView_13 : (13, a_i 0 14) ∈ kX11_isView := qX11_isView_0 _ (List.mem_of_getElem? (i := 7) rfl)
theorem tX11_isView_14 : (14, a_iret true) ∈ kX11_isView := qX11_isView_0 _ (List.mem_of_getElem? (i := 8) rfl)
theorem oX11_isView : ∀ q ∈ kX11_isView, zSnd zty false RX11 cX11_isView 1 (some .boolean) false q := oX11_isView_0
theorem dX11_mayHaveLine_0 : decode cX11_mayHaveLine 0 = .ok (.iload_n 0, 1) := by decide +kernel
theorem dX11_mayHaveLine_1 : decode cX11_mayHaveLine 1 = .ok (.bipush 6, 2) := by decide +kernel
theorem dX11_mayHaveLine_3 : decode cX11_mayHaveLine 3 = .ok (.if_icmp .lt 13, 3) := by decide +kernel
theorem dX11_mayHaveLine_6 : decode cX11_mayHaveLine 6 = .ok (.iload_n 0, 1) := by decide +kernel
theorem dX11_mayHaveLine_7 : decode cX11_mayHaveLine 7 = .ok (.bipush 19, 2) := by decide +kernel
theorem dX11_mayHaveLine_9 : decode cX11_mayHaveLine 9 = .ok (.if_icmp .ge 7, 3) := by decide +kernel
theorem dX11_mayHaveLine_12 : decode cX11_mayHaveLine 12 = .ok (.iconst 1, 1) := by decide +kernel
theorem dX11_mayHaveLine_13 : decode cX11_mayHaveLine 13 = .ok (.goto 4, 3) := by decide +kernel
theorem dX11_mayHaveLine_16 : decode cX11_mayHaveLine 16 = .ok (.iconst 0, 1) := by decide +kernel
theorem dX11_mayHaveLine_17 : decode cX11_mayHaveLine 17 = .ok (.ireturn, 1) := by decide +kernel
def kX11_mayHaveLine_0 : List (Nat × zT) := [(0, a_iload 0 1), (1, a_i 6 3), (3, a_ic_lt 16 6), (6, a_iload 0 7), (7, a_i 19 9), (9, a_ic_ge 16 12), (12, a_i 1 13), (13, a_goto 17), (16, a_i 0 17), (17, a_iret true)]
theorem oX11_mayHaveLine_0 : ∀ q ∈ kX11_mayHaveLine_0, zSnd zty false RX11 cX11_mayHaveLine 1 (some .boolean) false q := List.forall_mem_cons.mpr ⟨ok_iload_n dX11_mayHaveLine_0 rfl, List.forall_mem_cons.mpr ⟨ok_bipush dX11_mayHaveLine_1 (by decide), List.forall_mem_cons.mpr ⟨ok_ic_lt dX11_mayHaveLine_3 (by decide), List.forall_mem_cons.mpr ⟨ok_iload_n dX11_mayHaveLine_6 rfl, List.forall_mem_cons.mpr ⟨ok_bipush dX11_mayHaveLine_7 (by decide), List.forall_mem_cons.mpr ⟨ok_ic_ge dX11_mayHaveLine_9 (by decide), List.forall_mem_cons.mpr ⟨ok_iconst dX11_mayHaveLine_12 (by decide), List.forall_mem_cons.mpr ⟨ok_goto dX11_mayHaveLine_13 (by decide), List.forall_mem_cons.mpr ⟨ok_iconst dX11_mayHaveLine_16 (by decide), List.forall_mem_cons.mpr ⟨ok_iret (bz := true) dX11_mayHaveLine_17 rfl, fun _ h => absurd h List.not_mem_nil⟩⟩⟩⟩⟩⟩⟩⟩⟩⟩
def kX11_mayHaveLine : List (Nat × zT) := kX11_mayHaveLine_0
theorem qX11_mayHaveLine_0 : ∀ q ∈ kX11_mayHaveLine_0, q ∈ kX11_mayHaveLine := fun _ h => h
theorem tX11_mayHaveLine_0 : (0, a_iload 0 1) ∈ kX11_mayHaveLine := qX11_mayHaveLine_0 _ (List.mem_of_getElem? (i := 0) rfl)
theorem tX11_mayHaveLine_1 : (1, a_i 6 3) ∈ kX11_mayHaveLine := qX11_mayHaveLine_0 _ (List.mem_of_getElem? (i := 1) rfl)
theorem tX11_mayHaveLine_3 : (3, a_ic_lt 16 6) ∈ kX11_mayHaveLine := qX11_mayHaveLine_0 _ (List.mem_of_getElem? (i := 2) rfl)
theorem tX11_mayHaveLine_6 : (6, a_iload 0 7) ∈ kX11_mayHaveLine := qX11_mayHaveLine_0 _ (List.mem_of_getElem? (i := 3) rfl)
theorem tX11_mayHaveLine_7 : (7, a_i 19 9) ∈ kX11_mayHaveLine := qX11_mayHaveLine_0 _ (List.mem_of_getElem? (i := 4) rfl)
theorem tX11_mayHaveLine_9 : (9, a_ic_ge 16 12) ∈ kX11_mayHaveLine := qX11_mayHaveLine_0 _ (List.mem_of_getElem? (i := 5) rfl)
theorem tX11_mayHaveLine_12 : (12, a_i 1 13) ∈ kX11_mayHaveLine := qX11_mayHaveLine_0 _ (List.mem_of_getElem? (i := 6) rfl)
theorem tX11_mayHaveLine_13 : (13, a_goto 17) ∈ kX11_mayHaveLine := qX11_mayHaveLine_0 _ (List.mem_of_getElem? (i := 7) rfl)
theorem tX11_mayHaveLine_16 : (16, a_i 0 17) ∈ kX11_mayHaveLine := qX11_mayHaveLine_0 _ (List.mem_of_getElem? (i := 8) rfl)
theorem tX11_mayHaveLine_17 : (17, a_iret true) ∈ kX11_mayHaveLine := qX11_mayHaveLine_0 _ (List.mem_of_getElem? (i := 9) rfl)
theorem oX11_mayHaveLine : ∀ q ∈ kX11_mayHaveLine, zSnd zty false RX11 cX11_mayHaveLine 1 (some .boolean) false q := oX11_mayHaveLine_0
theorem dX11_isWire_0 : decode cX11_isWire 0 = .ok (.iload_n 0, 1) := by decide +kernel
theorem dX11_isWire_1 : decode cX11_isWire 1 = .ok (.bipush 6, 2) := by decide +kernel
theorem dX11_isWire_3 : decode cX11_isWire 3 = .ok (.if_icmp .lt 13, 3) := by decide +kernel
theorem dX11_isWire_6 : decode cX11_isWire 6 = .ok (.iload_n 0, 1) := by decide +kernel
theorem dX11_isWire_7 : decode cX11_isWire 7 = .ok (.bipush 15, 2) := by decide +kernel
theorem dX11_isWire_9 : decode cX11_isWire 9 = .ok (.if_icmp .ge 7, 3) := by decide +kernel
theorem dX11_isWire_12 : decode cX11_isWire 12 = .ok (.iconst 1, 1) := by decide +kernel
theorem dX11_isWire_13 : decode cX11_isWire 13 = .ok (.goto 4, 3) := by decide +kernel
theorem dX11_isWire_16 : decode cX11_isWire 16 = .ok (.iconst 0, 1) := by decide +kernel
theorem dX11_isWire_17 : decode cX11_isWire 17 = .ok (.ireturn, 1) := by decide +kernel
def kX11_isWire_0 : List (Nat × zT) := [(0, a_iload 0 1), (1, a_i 6 3), (3, a_ic_lt 16 6), (6, a_iload 0 7), (7, a_i 15 9), (9, a_ic_ge 16 12), (12, a_i 1 13), (13, a_goto 17), (16, a_i 0 17), (17, a_iret true)]
theorem oX11_isWire_0 : ∀ q ∈ kX11_isWire_0, zSnd zty false RX11 cX11_isWire 1 (some .boolean) false q := List.forall_mem_cons.mpr ⟨ok_iload_n dX11_isWire_0 rfl, List.forall_mem_cons.mpr ⟨ok_bipush dX11_isWire_1 (by decide), List.forall_mem_cons.mpr ⟨ok_ic_lt dX11_isWire_3 (by decide), List.forall_mem_cons.mpr ⟨ok_iload_n dX11_isWire_6 rfl, List.forall_mem_cons.mpr ⟨ok_bipush dX11_isWire_7 (by decide), List.forall_mem_cons.mpr ⟨ok_ic_ge dX11_isWire_9 (by decide), List.forall_mem_cons.mpr ⟨ok_iconst dX11_isWire_12 (by decide), List.forall_mem_cons.mpr ⟨ok_goto dX11_isWire_13 (by decide), List.forall_mem_cons.mpr ⟨ok_iconst dX11_isWire_16 (by decide), List.forall_mem_cons.mpr ⟨ok_iret (bz := true) dX11_isWire_17 rfl, fun _ h => absurd h List.not_mem_nil⟩⟩⟩⟩⟩⟩⟩⟩⟩⟩
def kX11_isWire : List (Nat × zT) := kX11_isWire_0
theorem qX11_isWire_0 : ∀ q ∈ kX11_isWire_0, q ∈ kX11_isWire := fun _ h => h
theorem tX11_isWire_0 : (0, a_iload 0 1) ∈ kX11_isWire := qX11_isWire_0 _ (List.mem_of_getElem? (i := 0) rfl)
theorem tX11_isWire_1 : (1, a_i 6 3) ∈ kX11_isWire := qX11_isWire_0 _ (List.mem_of_getElem? (i := 1) rfl)
theorem tX11_isWire_3 : (3, a_ic_lt 16 6) ∈ kX11_isWire := qX11_isWire_0 _ (List.mem_of_getElem? (i := 2) rfl)
theorem tX11_isWire_6 : (6, a_iload 0 7) ∈ kX11_isWire := qX11_isWire_0 _ (List.mem_of_getElem? (i := 3) rfl)
theorem tX11_isWire_7 : (7, a_i 15 9) ∈ kX11_isWire := qX11_isWire_0 _ (List.mem_of_getElem? (i := 4) rfl)
theorem tX11_isWire_9 : (9, a_ic_ge 16 12) ∈ kX11_isWire := qX11_isWire_0 _ (List.mem_of_getElem? (i := 5) rfl)
theorem tX11_isWire_12 : (12, a_i 1 13) ∈ kX11_isWire := qX11_isWire_0 _ (List.mem_of_getElem? (i := 6) rfl)
theorem tX11_isWire_13 : (13, a_goto 17) ∈ kX11_isWire := qX11_isWire_0 _ (List.mem_of_getElem? (i := 7) rfl)
theorem tX11_isWire_16 : (16, a_i 0 17) ∈ kX11_isWire := qX11_isWire_0 _ (List.mem_of_getElem? (i := 8) rfl)
theorem tX11_isWire_17 : (17, a_iret true) ∈ kX11_isWire := qX11_isWire_0 _ (List.mem_of_getElem? (i := 9) rfl)
theorem oX11_isWire : ∀ q ∈ kX11_isWire, zSnd zty false RX11 cX11_isWire 1 (some .boolean) false q := oX11_isWire_0
theorem dX11_hasBit_0 : decode cX11_hasBit 0 = .ok (.iload_n 0, 1) := by decide +kernel
theorem dX11_hasBit_1 : decode cX11_hasBit 1 = .ok (.iload_n 1, 1) := by decide +kernel
theorem dX11_hasBit_2 : decode cX11_hasBit 2 = .ok (.ishr, 1) := by decide +kernel
theorem dX11_hasBit_3 : decode cX11_hasBit 3 = .ok (.iconst 1, 1) := by decide +kernel
theorem dX11_hasBit_4 : decode cX11_hasBit 4 = .ok (.iand, 1) := by decide +kernel
theorem dX11_hasBit_5 : decode cX11_hasBit 5 = .ok (.ifCond .eq 7, 3) := by decide +kernel
theorem dX11_hasBit_8 : decode cX11_hasBit 8 = .ok (.iconst 1, 1) := by decide +kernel
theorem dX11_hasBit_9 : decode cX11_hasBit 9 = .ok (.goto 4, 3) := by decide +kernel
theorem dX11_hasBit_12 : decode cX11_hasBit 12 = .ok (.iconst 0, 1) := by decide +kernel
theorem dX11_hasBit_13 : decode cX11_hasBit 13 = .ok (.ireturn, 1) := by decide +kernel
def kX11_hasBit_0 : List (Nat × zT) := [(0, a_iload 0 1), (1, a_iload 1 2), (2, a_ii (fun x y => x >>> (y &&& 31)) 3), (3, a_i 1 4), (4, a_ii (fun x y => x &&& y) 5), (5, a_if_eq 12 8), (8, a_i 1 9), (9, a_goto 13), (12, a_i 0 13), (13, a_iret true)]
theorem oX11_hasBit_0 : ∀ q ∈ kX11_hasBit_0, zSnd zty false RX11 cX11_hasBit 2 (some .boolean) false q := List.forall_mem_cons.mpr ⟨ok_iload_n dX11_hasBit_0 rfl, List.forall_mem_cons.mpr ⟨ok_iload_n dX11_hasBit_1 rfl, List.forall_mem_cons.mpr ⟨ok_ishr dX11_hasBit_2, List.forall_mem_cons.mpr ⟨ok_iconst dX11_hasBit_3 (by decide), List.forall_mem_cons.mpr ⟨ok_iand dX11_hasBit_4, List.forall_mem_cons.mpr ⟨ok_if_eq dX11_hasBit_5 (by decide), List.forall_mem_cons.mpr ⟨ok_iconst dX11_hasBit_8 (by decide), List.forall_mem_cons.mpr ⟨ok_goto dX11_hasBit_9 (by decide), List.forall_mem_cons.mpr ⟨ok_iconst dX11_hasBit_12 (by decide), List.forall_mem_cons.mpr ⟨ok_iret (bz := true) dX11_hasBit_13 rfl, fun _ h => absurd h List.not_mem_nil⟩⟩⟩⟩⟩⟩⟩⟩⟩⟩
def kX11_hasBit : List (Nat × zT) := kX11_hasBit_0
theorem qX11_hasBit_0 : ∀ q ∈ kX11_hasBit_0, q ∈ kX11_hasBit := fun _ h => h
theorem tX11_hasBit_0 : (0, a_iload 0 1) ∈ kX11_hasBit := qX11_hasBit_0 _ (List.mem_of_getElem? (i := 0) rfl)
theorem tX11_hasBit_1 : (1, a_iload 1 2) ∈ kX11_hasBit := qX11_hasBit_0 _ (List.mem_of_getElem? (i := 1) rfl)
theorem tX11_hasBit_2 : (2, a_ii (fun x y => x >>> (y &&& 31)) 3) ∈ kX11_hasBit := qX11_hasBit_0 _ (List.mem_of_getElem? (i := 2) rfl)
theorem tX11_hasBit_3 : (3, a_i 1 4) ∈ kX11_hasBit := qX11_hasBit_0 _ (List.mem_of_getElem? (i := 3) rfl)
theorem tX11_hasBit_4 : (4, a_ii (fun x y => x &&& y) 5) ∈ kX11_hasBit := qX11_hasBit_0 _ (List.mem_of_getElem? (i := 4) rfl)
theorem tX11_hasBit_5 : (5, a_if_eq 12 8) ∈ kX11_hasBit := qX11_hasBit_0 _ (List.mem_of_getElem? (i := 5) rfl)
theorem tX11_hasBit_8 : (8, a_i 1 9) ∈ kX11_hasBit := qX11_hasBit_0 _ (List.mem_of_getElem? (i := 6) rfl)
theorem tX11_hasBit_9 : (9, a_goto 13) ∈ kX11_hasBit := qX11_hasBit_0 _ (List.mem_of_getElem? (i := 7) rfl)
theorem tX11_hasBit_12 : (12, a_i 0 13) ∈ kX11_hasBit := qX11_hasBit_0 _ (List.mem_of_getElem? (i := 8) rfl)
theorem tX11_hasBit_13 : (13, a_iret true) ∈ kX11_hasBit := qX11_hasBit_0 _ (List.mem_of_getElem? (i := 9) rfl)
theorem oX11_hasBit : ∀ q ∈ kX11_hasBit, zSnd zty false RX11 cX11_hasBit 2 (some .boolean) false q := oX11_hasBit_0
theorem dX11_leastRow_0 : decode cX11_leastRow 0 = .ok (.iload_n 0, 1) := by decide +kernel
theorem dX11_leastRow_1 : decode cX11_leastRow 1 = .ok (.bipush 64, 2) := by decide +kernel
theorem dX11_leastRow_3 : decode cX11_leastRow 3 = .ok (.imul, 1) := by decide +kernel
theorem dX11_leastRow_4 : decode cX11_leastRow 4 = .ok (.lload_n 1, 1) := by decide +kernel
theorem dX11_leastRow_5 : decode cX11_leastRow 5 = .ok (.invokestatic 342, 3) := by decide +kernel
theorem dX11_leastRow_8 : decode cX11_leastRow 8 = .ok (.iadd, 1) := by decide +kernel
theorem dX11_leastRow_9 : decode cX11_leastRow 9 = .ok (.ireturn, 1) := by decide +kernel
def kX11_leastRow_0 : List (Nat × zT) := [(0, a_iload 0 1), (1, a_i 64 3), (3, a_ii (fun x y => x * y) 4), (4, a_lload 1 5), (5, a_call 218 1 8 0 0), (8, a_ii (fun x y => x + y) 9), (9, a_iret false)]
theorem oX11_leastRow_0 : ∀ q ∈ kX11_leastRow_0, zSnd zty false RX11 cX11_leastRow 3 (some .int) false q := List.forall_mem_cons.mpr ⟨ok_iload_n dX11_leastRow_0 rfl, List.forall_mem_cons.mpr ⟨ok_bipush dX11_leastRow_1 (by decide), List.forall_mem_cons.mpr ⟨ok_imul dX11_leastRow_3, List.forall_mem_cons.mpr ⟨ok_lload_n dX11_leastRow_4 rfl, List.forall_mem_cons.mpr ⟨ok_callS dX11_leastRow_5 rfl w638 w636 w637 w17 (by decide +kernel) (by decide), List.forall_mem_cons.mpr ⟨ok_iadd dX11_leastRow_8, List.forall_mem_cons.mpr ⟨ok_iret (bz := false) dX11_leastRow_9 rfl, fun _ h => absurd h List.not_mem_nil⟩⟩⟩⟩⟩⟩⟩
def kX11_leastRow : List (Nat × zT) := kX11_leastRow_0
theorem qX11_leastRow_0 : ∀ q ∈ kX11_leastRow_0, q ∈ kX11_leastRow := fun _ h => h
theorem tX11_leastRow_0 : (0, a_iload 0 1) ∈ kX11_leastRow := qX11_leastRow_0 _ (List.mem_of_getElem? (i := 0) rfl)
theorem tX11_leastRow_1 : (1, a_i 64 3) ∈ kX11_leastRow := qX11_leastRow_0 _ (List.mem_of_getElem? (i := 1) rfl)
theorem tX11_leastRow_3 : (3, a_ii (fun x y => x * y) 4) ∈ kX11_leastRow := qX11_leastRow_0 _ (List.mem_of_getElem? (i := 2) rfl)
theorem tX11_leastRow_4 : (4, a_lload 1 5) ∈ kX11_leastRow := qX11_leastRow_0 _ (List.mem_of_getElem? (i := 3) rfl)
theorem tX11_leastRow_5 : (5, a_call 218 1 8 0 0) ∈ kX11_leastRow := qX11_leastRow_0 _ (List.mem_of_getElem? (i := 4) rfl)
theorem tX11_leastRow_8 : (8, a_ii (fun x y => x + y) 9) ∈ kX11_leastRow := qX11_leastRow_0 _ (List.mem_of_getElem? (i := 5) rfl)
theorem tX11_leastRow_9 : (9, a_iret false) ∈ kX11_leastRow := qX11_leastRow_0 _ (List.mem_of_getElem? (i := 6) rfl)
theorem oX11_leastRow : ∀ q ∈ kX11_leastRow, zSnd zty false RX11 cX11_leastRow 3 (some .int) false q := oX11_leastRow_0
theorem dX11_tokenOf_0 : decode cX11_tokenOf 0 = .ok (.iload_n 0, 1) := by decide +kernel
theorem dX11_tokenOf_1 : decode cX11_tokenOf 1 = .ok (.iload_n 1, 1) := by decide +kernel
theorem dX11_tokenOf_2 : decode cX11_tokenOf 2 = .ok (.iconst 5, 1) := by decide +kernel
theorem dX11_tokenOf_3 : decode cX11_tokenOf 3 = .ok (.ishl, 1) := by decide +kernel
theorem dX11_tokenOf_4 : decode cX11_tokenOf 4 = .ok (.ior, 1) := by decide +kernel
theorem dX11_tokenOf_5 : decode cX11_tokenOf 5 = .ok (.ireturn, 1) := by decide +kernel
def kX11_tokenOf_0 : List (Nat × zT) := [(0, a_iload 0 1), (1, a_iload 1 2), (2, a_i 5 3), (3, a_ii (fun x y => x <<< (y &&& 31)) 4), (4, a_ii (fun x y => x ||| y) 5), (5, a_iret false)]
theorem oX11_tokenOf_0 : ∀ q ∈ kX11_tokenOf_0, zSnd zty false RX11 cX11_tokenOf 2 (some .int) false q := List.forall_mem_cons.mpr ⟨ok_iload_n dX11_tokenOf_0 rfl, List.forall_mem_cons.mpr ⟨ok_iload_n dX11_tokenOf_1 rfl, List.forall_mem_cons.mpr ⟨ok_iconst dX11_tokenOf_2 (by decide), List.forall_mem_cons.mpr ⟨ok_ishl dX11_tokenOf_3, List.forall_mem_cons.mpr ⟨ok_ior dX11_tokenOf_4, List.forall_mem_cons.mpr ⟨ok_iret (bz := false) dX11_tokenOf_5 rfl, fun _ h => absurd h List.not_mem_nil⟩⟩⟩⟩⟩⟩
def kX11_tokenOf : List (Nat × zT) := kX11_tokenOf_0
theorem qX11_tokenOf_0 : ∀ q ∈ kX11_tokenOf_0, q ∈ kX11_tokenOf := fun _ h => h
theorem tX11_tokenOf_0 : (0, a_iload 0 1) ∈ kX11_tokenOf := qX11_tokenOf_0 _ (List.mem_of_getElem? (i := 0) rfl)
theorem tX11_tokenOf_1 : (1, a_iload 1 2) ∈ kX11_tokenOf := qX11_tokenOf_0 _ (List.mem_of_getElem? (i := 1) rfl)
theorem tX11_tokenOf_2 : (2, a_i 5 3) ∈ kX11_tokenOf := qX11_tokenOf_0 _ (List.mem_of_getElem? (i := 2) rfl)
theorem tX11_tokenOf_3 : (3, a_ii (fun x y => x <<< (y &&& 31)) 4) ∈ kX11_tokenOf := qX11_tokenOf_0 _ (List.mem_of_getElem? (i := 3) rfl)
theorem tX11_tokenOf_4 : (4, a_ii (fun x y => x ||| y) 5) ∈ kX11_tokenOf := qX11_tokenOf_0 _ (List.mem_of_getElem? (i := 4) rfl)
theorem tX11_tokenOf_5 : (5, a_iret false) ∈ kX11_tokenOf := qX11_tokenOf_0 _ (List.mem_of_getElem? (i := 5) rfl)
theorem oX11_tokenOf : ∀ q ∈ kX11_tokenOf, zSnd zty false RX11 cX11_tokenOf 2 (some .int) false q := oX11_tokenOf_0
theorem dX11_kindOf_0 : decode cX11_kindOf 0 = .ok (.iload_n 0, 1) := by decide +kernel
theorem dX11_kindOf_1 : decode cX11_kindOf 1 = .ok (.bipush 31, 2) := by decide +kernel
theorem dX11_kindOf_3 : decode cX11_kindOf 3 = .ok (.iand, 1) := by decide +kernel
theorem dX11_kindOf_4 : decode cX11_kindOf 4 = .ok (.ireturn, 1) := by decide +kernel
def kX11_kindOf_0 : List (Nat × zT) := [(0, a_iload 0 1), (1, a_i 31 3), (3, a_ii (fun x y => x &&& y) 4), (4, a_iret false)]
theorem oX11_kindOf_0 : ∀ q ∈ kX11_kindOf_0, zSnd zty false RX11 cX11_kindOf 1 (some .int) false q := List.forall_mem_cons.mpr ⟨ok_iload_n dX11_kindOf_0 rfl, List.forall_mem_cons.mpr ⟨ok_bipush dX11_kindOf_1 (by decide), List.forall_mem_cons.mpr ⟨ok_iand dX11_kindOf_3, List.forall_mem_cons.mpr ⟨ok_iret (bz := false) dX11_kindOf_4 rfl, fun _ h => absurd h List.not_mem_nil⟩⟩⟩⟩
def kX11_kindOf : List (Nat × zT) := kX11_kindOf_0
theorem qX11_kindOf_0 : ∀ q ∈ kX11_kindOf_0, q ∈ kX11_kindOf := fun _ h => h
theorem tX11_kindOf_0 : (0, a_iload 0 1) ∈ kX11_kindOf := qX11_kindOf_0 _ (List.mem_of_getElem? (i := 0) rfl)
theorem tX11_kindOf_1 : (1, a_i 31 3) ∈ kX11_kindOf := qX11_kindOf_0 _ (List.mem_of_getElem? (i := 1) rfl)
theorem tX11_kindOf_3 : (3, a_ii (fun x y => x &&& y) 4) ∈ kX11_kindOf := qX11_kindOf_0 _ (List.mem_of_getElem? (i := 2) rfl)
theorem tX11_kindOf_4 : (4, a_iret false) ∈ kX11_kindOf := qX11_kindOf_0 _ (List.mem_of_getElem? (i := 3) rfl)
theorem oX11_kindOf : ∀ q ∈ kX11_kindOf, zSnd zty false RX11 cX11_kindOf 1 (some .int) false q := oX11_kindOf_0
theorem dX11_slotOf_0 : decode cX11_slotOf 0 = .ok (.iload_n 0, 1) := by decide +kernel
theorem dX11_slotOf_1 : decode cX11_slotOf 1 = .ok (.iconst 5, 1) := by decide +kernel
theorem dX11_slotOf_2 : decode cX11_slotOf 2 = .ok (.ishr, 1) := by decide +kernel
theorem dX11_slotOf_3 : decode cX11_slotOf 3 = .ok (.bipush 15, 2) := by decide +kernel
theorem dX11_slotOf_5 : decode cX11_slotOf 5 = .ok (.iand, 1) := by decide +kernel
theorem dX11_slotOf_6 : decode cX11_slotOf 6 = .ok (.ireturn, 1) := by decide +kernel
def kX11_slotOf_0 : List (Nat × zT) := [(0, a_iload 0 1), (1, a_i 5 2), (2, a_ii (fun x y => x >>> (y &&& 31)) 3), (3, a_i 15 5), (5, a_ii (fun x y => x &&& y) 6), (6, a_iret false)]
theorem oX11_slotOf_0 : ∀ q ∈ kX11_slotOf_0, zSnd zty false RX11 cX11_slotOf 1 (some .int) false q := List.forall_mem_cons.mpr ⟨ok_iload_n dX11_slotOf_0 rfl, List.forall_mem_cons.mpr ⟨ok_iconst dX11_slotOf_1 (by decide), List.forall_mem_cons.mpr ⟨ok_ishr dX11_slotOf_2, List.forall_mem_cons.mpr ⟨ok_bipush dX11_slotOf_3 (by decide), List.forall_mem_cons.mpr ⟨ok_iand dX11_slotOf_5, List.forall_mem_cons.mpr ⟨ok_iret (bz := false) dX11_slotOf_6 rfl, fun _ h => absurd h List.not_mem_nil⟩⟩⟩⟩⟩⟩
def kX11_slotOf : List (Nat × zT) := kX11_slotOf_0
theorem qX11_slotOf_0 : ∀ q ∈ kX11_slotOf_0, q ∈ kX11_slotOf := fun _ h => h
theorem tX11_slotOf_0 : (0, a_iload 0 1) ∈ kX11_slotOf := qX11_slotOf_0 _ (List.mem_of_getElem? (i := 0) rfl)
theorem tX11_slotOf_1 : (1, a_i 5 2) ∈ kX11_slotOf := qX11_slotOf_0 _ (List.mem_of_getElem? (i := 1) rfl)
theorem tX11_slotOf_2 : (2, a_ii (fun x y => x >>> (y &&& 31)) 3) ∈ kX11_slotOf := qX11_slotOf_0 _ (List.mem_of_getElem? (i := 2) rfl)
theorem tX11_slotOf_3 : (3, a_i 15 5) ∈ kX11_slotOf := qX11_slotOf_0 _ (List.mem_of_getElem? (i := 3) rfl)
theorem tX11_slotOf_5 : (5, a_ii (fun x y => x &&& y) 6) ∈ kX11_slotOf := qX11_slotOf_0 _ (List.mem_of_getElem? (i := 4) rfl)
theorem tX11_slotOf_6 : (6, a_iret false) ∈ kX11_slotOf := qX11_slotOf_0 _ (List.mem_of_getElem? (i := 5) rfl)
theorem oX11_slotOf : ∀ q ∈ kX11_slotOf, zSnd zty false RX11 cX11_slotOf 1 (some .int) false q := oX11_slotOf_0
