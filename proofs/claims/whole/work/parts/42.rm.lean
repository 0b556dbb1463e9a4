/-! names and decode rows of FrozenBranches$Room (printed by names.py) -/
abbrev nb_RM_init : ByteArray := prog_2_method_1_code
def ny_RM_init : MethodName := ⟨nr_RM, "<init>", "()V"⟩
theorem nc_RM_init : Cond.code ny_RM_init nb_RM_init 1 none ∈ wl := wl_t1 26 rfl rfl
theorem nd_RM_init_0 : decode nb_RM_init 0 = .ok (.aload_n 0, 1) := by decide +kernel
theorem nd_RM_init_1 : decode nb_RM_init 1 = .ok (.invokespecial 3, 3) := by decide +kernel
theorem nd_RM_init_4 : decode nb_RM_init 4 = .ok (.aload_n 0, 1) := by decide +kernel
theorem nd_RM_init_5 : decode nb_RM_init 5 = .ok (.bipush 61, 2) := by decide +kernel
theorem nd_RM_init_7 : decode nb_RM_init 7 = .ok (.iconst 4, 1) := by decide +kernel
theorem nd_RM_init_8 : decode nb_RM_init 8 = .ok (.multianewarray 11 2, 4) := by decide +kernel
theorem nd_RM_init_12 : decode nb_RM_init 12 = .ok (.putfield 13, 3) := by decide +kernel
theorem nd_RM_init_15 : decode nb_RM_init 15 = .ok (.aload_n 0, 1) := by decide +kernel
theorem nd_RM_init_16 : decode nb_RM_init 16 = .ok (.bipush 61, 2) := by decide +kernel
theorem nd_RM_init_18 : decode nb_RM_init 18 = .ok (.newarray .int, 2) := by decide +kernel
theorem nd_RM_init_20 : decode nb_RM_init 20 = .ok (.putfield 16, 3) := by decide +kernel
theorem nd_RM_init_23 : decode nb_RM_init 23 = .ok (.aload_n 0, 1) := by decide +kernel
theorem nd_RM_init_24 : decode nb_RM_init 24 = .ok (.bipush 61, 2) := by decide +kernel
theorem nd_RM_init_26 : decode nb_RM_init 26 = .ok (.newarray .boolean, 2) := by decide +kernel
theorem nd_RM_init_28 : decode nb_RM_init 28 = .ok (.putfield 20, 3) := by decide +kernel
theorem nd_RM_init_31 : decode nb_RM_init 31 = .ok (.aload_n 0, 1) := by decide +kernel
theorem nd_RM_init_32 : decode nb_RM_init 32 = .ok (.bipush 61, 2) := by decide +kernel
theorem nd_RM_init_34 : decode nb_RM_init 34 = .ok (.newarray .boolean, 2) := by decide +kernel
theorem nd_RM_init_36 : decode nb_RM_init 36 = .ok (.putfield 24, 3) := by decide +kernel
theorem nd_RM_init_39 : decode nb_RM_init 39 = .ok (.return_, 1) := by decide +kernel
abbrev nb_RM_binds : ByteArray := prog_2_method_2_code
def ny_RM_binds : MethodName := ⟨nr_RM, "binds", "(II)Z"⟩
theorem nc_RM_binds : Cond.code ny_RM_binds nb_RM_binds 4 (some .boolean) ∈ wl := wl_t1 196 rfl rfl
theorem nd_RM_binds_0 : decode nb_RM_binds 0 = .ok (.aload_n 0, 1) := by decide +kernel
theorem nd_RM_binds_1 : decode nb_RM_binds 1 = .ok (.iload_n 1, 1) := by decide +kernel
theorem nd_RM_binds_2 : decode nb_RM_binds 2 = .ok (.iload_n 2, 1) := by decide +kernel
theorem nd_RM_binds_3 : decode nb_RM_binds 3 = .ok (.iconst 2, 1) := by decide +kernel
theorem nd_RM_binds_4 : decode nb_RM_binds 4 = .ok (.invokevirtual 27, 3) := by decide +kernel
theorem nd_RM_binds_7 : decode nb_RM_binds 7 = .ok (.istore_n 3, 1) := by decide +kernel
theorem nd_RM_binds_8 : decode nb_RM_binds 8 = .ok (.aload_n 0, 1) := by decide +kernel
theorem nd_RM_binds_9 : decode nb_RM_binds 9 = .ok (.getfield 16, 3) := by decide +kernel
theorem nd_RM_binds_12 : decode nb_RM_binds 12 = .ok (.iload_n 3, 1) := by decide +kernel
theorem nd_RM_binds_13 : decode nb_RM_binds 13 = .ok (.iaload, 1) := by decide +kernel
theorem nd_RM_binds_14 : decode nb_RM_binds 14 = .ok (.iload_n 2, 1) := by decide +kernel
theorem nd_RM_binds_15 : decode nb_RM_binds 15 = .ok (.iconst 2, 1) := by decide +kernel
theorem nd_RM_binds_16 : decode nb_RM_binds 16 = .ok (.invokestatic 31, 3) := by decide +kernel
theorem nd_RM_binds_19 : decode nb_RM_binds 19 = .ok (.iand, 1) := by decide +kernel
theorem nd_RM_binds_20 : decode nb_RM_binds 20 = .ok (.ifCond .eq 7, 3) := by decide +kernel
theorem nd_RM_binds_23 : decode nb_RM_binds 23 = .ok (.iconst 1, 1) := by decide +kernel
theorem nd_RM_binds_24 : decode nb_RM_binds 24 = .ok (.goto 4, 3) := by decide +kernel
theorem nd_RM_binds_27 : decode nb_RM_binds 27 = .ok (.iconst 0, 1) := by decide +kernel
theorem nd_RM_binds_28 : decode nb_RM_binds 28 = .ok (.ireturn, 1) := by decide +kernel
abbrev nb_RM_valueOf : ByteArray := prog_2_method_3_code
def ny_RM_valueOf : MethodName := ⟨nr_RM, "valueOf", "(II)I"⟩
theorem nc_RM_valueOf : Cond.code ny_RM_valueOf nb_RM_valueOf 3 (some .int) ∈ wl := wl_t1 210 rfl rfl
theorem nd_RM_valueOf_0 : decode nb_RM_valueOf 0 = .ok (.aload_n 0, 1) := by decide +kernel
theorem nd_RM_valueOf_1 : decode nb_RM_valueOf 1 = .ok (.getfield 13, 3) := by decide +kernel
theorem nd_RM_valueOf_4 : decode nb_RM_valueOf 4 = .ok (.aload_n 0, 1) := by decide +kernel
theorem nd_RM_valueOf_5 : decode nb_RM_valueOf 5 = .ok (.iload_n 1, 1) := by decide +kernel
theorem nd_RM_valueOf_6 : decode nb_RM_valueOf 6 = .ok (.iload_n 2, 1) := by decide +kernel
theorem nd_RM_valueOf_7 : decode nb_RM_valueOf 7 = .ok (.iconst 2, 1) := by decide +kernel
theorem nd_RM_valueOf_8 : decode nb_RM_valueOf 8 = .ok (.invokevirtual 27, 3) := by decide +kernel
theorem nd_RM_valueOf_11 : decode nb_RM_valueOf 11 = .ok (.aaload, 1) := by decide +kernel
theorem nd_RM_valueOf_12 : decode nb_RM_valueOf 12 = .ok (.iload_n 2, 1) := by decide +kernel
theorem nd_RM_valueOf_13 : decode nb_RM_valueOf 13 = .ok (.iconst 2, 1) := by decide +kernel
theorem nd_RM_valueOf_14 : decode nb_RM_valueOf 14 = .ok (.invokestatic 35, 3) := by decide +kernel
theorem nd_RM_valueOf_17 : decode nb_RM_valueOf 17 = .ok (.iaload, 1) := by decide +kernel
theorem nd_RM_valueOf_18 : decode nb_RM_valueOf 18 = .ok (.ireturn, 1) := by decide +kernel
abbrev nb_RM_levelsWithout : ByteArray := prog_2_method_4_code
def ny_RM_levelsWithout : MethodName := ⟨nr_RM, "levelsWithout", "(II)I"⟩
theorem nc_RM_levelsWithout : Cond.code ny_RM_levelsWithout nb_RM_levelsWithout 4 (some .int) ∈ wl := wl_t2 63 rfl rfl
theorem nd_RM_levelsWithout_0 : decode nb_RM_levelsWithout 0 = .ok (.iconst 3, 1) := by decide +kernel
theorem nd_RM_levelsWithout_1 : decode nb_RM_levelsWithout 1 = .ok (.istore_n 3, 1) := by decide +kernel
theorem nd_RM_levelsWithout_2 : decode nb_RM_levelsWithout 2 = .ok (.iload_n 3, 1) := by decide +kernel
theorem nd_RM_levelsWithout_3 : decode nb_RM_levelsWithout 3 = .ok (.ifCond .le 21, 3) := by decide +kernel
theorem nd_RM_levelsWithout_6 : decode nb_RM_levelsWithout 6 = .ok (.aload_n 0, 1) := by decide +kernel
theorem nd_RM_levelsWithout_7 : decode nb_RM_levelsWithout 7 = .ok (.iload_n 1, 1) := by decide +kernel
theorem nd_RM_levelsWithout_8 : decode nb_RM_levelsWithout 8 = .ok (.iload_n 2, 1) := by decide +kernel
theorem nd_RM_levelsWithout_9 : decode nb_RM_levelsWithout 9 = .ok (.iload_n 3, 1) := by decide +kernel
theorem nd_RM_levelsWithout_10 : decode nb_RM_levelsWithout 10 = .ok (.iconst 1, 1) := by decide +kernel
theorem nd_RM_levelsWithout_11 : decode nb_RM_levelsWithout 11 = .ok (.isub, 1) := by decide +kernel
theorem nd_RM_levelsWithout_12 : decode nb_RM_levelsWithout 12 = .ok (.invokevirtual 38, 3) := by decide +kernel
theorem nd_RM_levelsWithout_15 : decode nb_RM_levelsWithout 15 = .ok (.ifCond .eq 9, 3) := by decide +kernel
theorem nd_RM_levelsWithout_18 : decode nb_RM_levelsWithout 18 = .ok (.iinc 3 (-1), 3) := by decide +kernel
theorem nd_RM_levelsWithout_21 : decode nb_RM_levelsWithout 21 = .ok (.goto (-19), 3) := by decide +kernel
theorem nd_RM_levelsWithout_24 : decode nb_RM_levelsWithout 24 = .ok (.iload_n 3, 1) := by decide +kernel
theorem nd_RM_levelsWithout_25 : decode nb_RM_levelsWithout 25 = .ok (.ireturn, 1) := by decide +kernel
abbrev nb_RM_nodesToMake : ByteArray := prog_2_method_5_code
def ny_RM_nodesToMake : MethodName := ⟨nr_RM, "nodesToMake", "(III)I"⟩
theorem nc_RM_nodesToMake : Cond.code ny_RM_nodesToMake nb_RM_nodesToMake 6 (some .int) ∈ wl := wl_t1 234 rfl rfl
theorem nd_RM_nodesToMake_0 : decode nb_RM_nodesToMake 0 = .ok (.iconst 0, 1) := by decide +kernel
theorem nd_RM_nodesToMake_1 : decode nb_RM_nodesToMake 1 = .ok (.istore 4, 2) := by decide +kernel
theorem nd_RM_nodesToMake_3 : decode nb_RM_nodesToMake 3 = .ok (.iconst 0, 1) := by decide +kernel
theorem nd_RM_nodesToMake_4 : decode nb_RM_nodesToMake 4 = .ok (.istore 5, 2) := by decide +kernel
theorem nd_RM_nodesToMake_6 : decode nb_RM_nodesToMake 6 = .ok (.iload 5, 2) := by decide +kernel
theorem nd_RM_nodesToMake_8 : decode nb_RM_nodesToMake 8 = .ok (.iload_n 3, 1) := by decide +kernel
theorem nd_RM_nodesToMake_9 : decode nb_RM_nodesToMake 9 = .ok (.if_icmp .ge 28, 3) := by decide +kernel
theorem nd_RM_nodesToMake_12 : decode nb_RM_nodesToMake 12 = .ok (.aload_n 0, 1) := by decide +kernel
theorem nd_RM_nodesToMake_13 : decode nb_RM_nodesToMake 13 = .ok (.getfield 20, 3) := by decide +kernel
theorem nd_RM_nodesToMake_16 : decode nb_RM_nodesToMake 16 = .ok (.aload_n 0, 1) := by decide +kernel
theorem nd_RM_nodesToMake_17 : decode nb_RM_nodesToMake 17 = .ok (.iload_n 1, 1) := by decide +kernel
theorem nd_RM_nodesToMake_18 : decode nb_RM_nodesToMake 18 = .ok (.iload_n 2, 1) := by decide +kernel
theorem nd_RM_nodesToMake_19 : decode nb_RM_nodesToMake 19 = .ok (.iload 5, 2) := by decide +kernel
theorem nd_RM_nodesToMake_21 : decode nb_RM_nodesToMake 21 = .ok (.invokevirtual 27, 3) := by decide +kernel
theorem nd_RM_nodesToMake_24 : decode nb_RM_nodesToMake 24 = .ok (.baload, 1) := by decide +kernel
theorem nd_RM_nodesToMake_25 : decode nb_RM_nodesToMake 25 = .ok (.ifCond .ne 6, 3) := by decide +kernel
theorem nd_RM_nodesToMake_28 : decode nb_RM_nodesToMake 28 = .ok (.iinc 4 1, 3) := by decide +kernel
theorem nd_RM_nodesToMake_31 : decode nb_RM_nodesToMake 31 = .ok (.iinc 5 1, 3) := by decide +kernel
theorem nd_RM_nodesToMake_34 : decode nb_RM_nodesToMake 34 = .ok (.goto (-28), 3) := by decide +kernel
theorem nd_RM_nodesToMake_37 : decode nb_RM_nodesToMake 37 = .ok (.iload 4, 2) := by decide +kernel
theorem nd_RM_nodesToMake_39 : decode nb_RM_nodesToMake 39 = .ok (.ireturn, 1) := by decide +kernel
abbrev nb_RM_ownPath : ByteArray := prog_2_method_6_code
def ny_RM_ownPath : MethodName := ⟨nr_RM, "ownPath", "(III)I"⟩
theorem nc_RM_ownPath : Cond.code ny_RM_ownPath nb_RM_ownPath 8 (some .int) ∈ wl := wl_t2 14 rfl rfl
theorem nd_RM_ownPath_0 : decode nb_RM_ownPath 0 = .ok (.iload_n 3, 1) := by decide +kernel
theorem nd_RM_ownPath_1 : decode nb_RM_ownPath 1 = .ok (.ifCond .gt 5, 3) := by decide +kernel
theorem nd_RM_ownPath_4 : decode nb_RM_ownPath 4 = .ok (.iconst 0, 1) := by decide +kernel
theorem nd_RM_ownPath_5 : decode nb_RM_ownPath 5 = .ok (.ireturn, 1) := by decide +kernel
theorem nd_RM_ownPath_6 : decode nb_RM_ownPath 6 = .ok (.aload_n 0, 1) := by decide +kernel
theorem nd_RM_ownPath_7 : decode nb_RM_ownPath 7 = .ok (.iload_n 1, 1) := by decide +kernel
theorem nd_RM_ownPath_8 : decode nb_RM_ownPath 8 = .ok (.invokevirtual 42, 3) := by decide +kernel
theorem nd_RM_ownPath_11 : decode nb_RM_ownPath 11 = .ok (.istore 4, 2) := by decide +kernel
theorem nd_RM_ownPath_13 : decode nb_RM_ownPath 13 = .ok (.iload 4, 2) := by decide +kernel
theorem nd_RM_ownPath_15 : decode nb_RM_ownPath 15 = .ok (.istore 5, 2) := by decide +kernel
theorem nd_RM_ownPath_17 : decode nb_RM_ownPath 17 = .ok (.iconst 0, 1) := by decide +kernel
theorem nd_RM_ownPath_18 : decode nb_RM_ownPath 18 = .ok (.istore 6, 2) := by decide +kernel
theorem nd_RM_ownPath_20 : decode nb_RM_ownPath 20 = .ok (.iload 6, 2) := by decide +kernel
theorem nd_RM_ownPath_22 : decode nb_RM_ownPath 22 = .ok (.iload_n 3, 1) := by decide +kernel
theorem nd_RM_ownPath_23 : decode nb_RM_ownPath 23 = .ok (.iconst 1, 1) := by decide +kernel
theorem nd_RM_ownPath_24 : decode nb_RM_ownPath 24 = .ok (.isub, 1) := by decide +kernel
theorem nd_RM_ownPath_25 : decode nb_RM_ownPath 25 = .ok (.if_icmp .ge 44, 3) := by decide +kernel
theorem nd_RM_ownPath_28 : decode nb_RM_ownPath 28 = .ok (.aload_n 0, 1) := by decide +kernel
theorem nd_RM_ownPath_29 : decode nb_RM_ownPath 29 = .ok (.aload_n 0, 1) := by decide +kernel
theorem nd_RM_ownPath_30 : decode nb_RM_ownPath 30 = .ok (.getfield 13, 3) := by decide +kernel
theorem nd_RM_ownPath_33 : decode nb_RM_ownPath 33 = .ok (.iload 5, 2) := by decide +kernel
theorem nd_RM_ownPath_35 : decode nb_RM_ownPath 35 = .ok (.aaload, 1) := by decide +kernel
theorem nd_RM_ownPath_36 : decode nb_RM_ownPath 36 = .ok (.iload_n 2, 1) := by decide +kernel
theorem nd_RM_ownPath_37 : decode nb_RM_ownPath 37 = .ok (.iload 6, 2) := by decide +kernel
theorem nd_RM_ownPath_39 : decode nb_RM_ownPath 39 = .ok (.invokestatic 35, 3) := by decide +kernel
theorem nd_RM_ownPath_42 : decode nb_RM_ownPath 42 = .ok (.iaload, 1) := by decide +kernel
theorem nd_RM_ownPath_43 : decode nb_RM_ownPath 43 = .ok (.invokevirtual 42, 3) := by decide +kernel
theorem nd_RM_ownPath_46 : decode nb_RM_ownPath 46 = .ok (.istore 7, 2) := by decide +kernel
theorem nd_RM_ownPath_48 : decode nb_RM_ownPath 48 = .ok (.aload_n 0, 1) := by decide +kernel
theorem nd_RM_ownPath_49 : decode nb_RM_ownPath 49 = .ok (.iload 5, 2) := by decide +kernel
theorem nd_RM_ownPath_51 : decode nb_RM_ownPath 51 = .ok (.iload_n 2, 1) := by decide +kernel
theorem nd_RM_ownPath_52 : decode nb_RM_ownPath 52 = .ok (.iload 6, 2) := by decide +kernel
theorem nd_RM_ownPath_54 : decode nb_RM_ownPath 54 = .ok (.iload 7, 2) := by decide +kernel
theorem nd_RM_ownPath_56 : decode nb_RM_ownPath 56 = .ok (.invokevirtual 46, 3) := by decide +kernel
theorem nd_RM_ownPath_59 : decode nb_RM_ownPath 59 = .ok (.iload 7, 2) := by decide +kernel
theorem nd_RM_ownPath_61 : decode nb_RM_ownPath 61 = .ok (.istore 5, 2) := by decide +kernel
theorem nd_RM_ownPath_63 : decode nb_RM_ownPath 63 = .ok (.iinc 6 1, 3) := by decide +kernel
theorem nd_RM_ownPath_66 : decode nb_RM_ownPath 66 = .ok (.goto (-46), 3) := by decide +kernel
theorem nd_RM_ownPath_69 : decode nb_RM_ownPath 69 = .ok (.iload 4, 2) := by decide +kernel
theorem nd_RM_ownPath_71 : decode nb_RM_ownPath 71 = .ok (.ireturn, 1) := by decide +kernel
abbrev nb_RM_bind : ByteArray := prog_2_method_7_code
def ny_RM_bind : MethodName := ⟨nr_RM, "bind", "(III)V"⟩
theorem nc_RM_bind : Cond.code ny_RM_bind nb_RM_bind 4 none ∈ wl := wl_t2 31 rfl rfl
theorem nd_RM_bind_0 : decode nb_RM_bind 0 = .ok (.aload_n 0, 1) := by decide +kernel
theorem nd_RM_bind_1 : decode nb_RM_bind 1 = .ok (.aload_n 0, 1) := by decide +kernel
theorem nd_RM_bind_2 : decode nb_RM_bind 2 = .ok (.iload_n 1, 1) := by decide +kernel
theorem nd_RM_bind_3 : decode nb_RM_bind 3 = .ok (.iload_n 2, 1) := by decide +kernel
theorem nd_RM_bind_4 : decode nb_RM_bind 4 = .ok (.iconst 2, 1) := by decide +kernel
theorem nd_RM_bind_5 : decode nb_RM_bind 5 = .ok (.invokevirtual 27, 3) := by decide +kernel
theorem nd_RM_bind_8 : decode nb_RM_bind 8 = .ok (.iload_n 2, 1) := by decide +kernel
theorem nd_RM_bind_9 : decode nb_RM_bind 9 = .ok (.iconst 2, 1) := by decide +kernel
theorem nd_RM_bind_10 : decode nb_RM_bind 10 = .ok (.iload_n 3, 1) := by decide +kernel
theorem nd_RM_bind_11 : decode nb_RM_bind 11 = .ok (.invokevirtual 46, 3) := by decide +kernel
theorem nd_RM_bind_14 : decode nb_RM_bind 14 = .ok (.return_, 1) := by decide +kernel
abbrev nb_RM_cut : ByteArray := prog_2_method_8_code
def ny_RM_cut : MethodName := ⟨nr_RM, "cut", "(III)V"⟩
theorem nc_RM_cut : Cond.code ny_RM_cut nb_RM_cut 5 none ∈ wl := wl_t2 71 rfl rfl
theorem nd_RM_cut_0 : decode nb_RM_cut 0 = .ok (.iload_n 3, 1) := by decide +kernel
theorem nd_RM_cut_1 : decode nb_RM_cut 1 = .ok (.ifCond .gt 4, 3) := by decide +kernel
theorem nd_RM_cut_4 : decode nb_RM_cut 4 = .ok (.return_, 1) := by decide +kernel
theorem nd_RM_cut_5 : decode nb_RM_cut 5 = .ok (.aload_n 0, 1) := by decide +kernel
theorem nd_RM_cut_6 : decode nb_RM_cut 6 = .ok (.iload_n 1, 1) := by decide +kernel
theorem nd_RM_cut_7 : decode nb_RM_cut 7 = .ok (.iload_n 2, 1) := by decide +kernel
theorem nd_RM_cut_8 : decode nb_RM_cut 8 = .ok (.iload_n 3, 1) := by decide +kernel
theorem nd_RM_cut_9 : decode nb_RM_cut 9 = .ok (.iconst 1, 1) := by decide +kernel
theorem nd_RM_cut_10 : decode nb_RM_cut 10 = .ok (.isub, 1) := by decide +kernel
theorem nd_RM_cut_11 : decode nb_RM_cut 11 = .ok (.invokevirtual 27, 3) := by decide +kernel
theorem nd_RM_cut_14 : decode nb_RM_cut 14 = .ok (.istore 4, 2) := by decide +kernel
theorem nd_RM_cut_16 : decode nb_RM_cut 16 = .ok (.aload_n 0, 1) := by decide +kernel
theorem nd_RM_cut_17 : decode nb_RM_cut 17 = .ok (.getfield 13, 3) := by decide +kernel
theorem nd_RM_cut_20 : decode nb_RM_cut 20 = .ok (.iload 4, 2) := by decide +kernel
theorem nd_RM_cut_22 : decode nb_RM_cut 22 = .ok (.aaload, 1) := by decide +kernel
theorem nd_RM_cut_23 : decode nb_RM_cut 23 = .ok (.iload_n 2, 1) := by decide +kernel
theorem nd_RM_cut_24 : decode nb_RM_cut 24 = .ok (.iload_n 3, 1) := by decide +kernel
theorem nd_RM_cut_25 : decode nb_RM_cut 25 = .ok (.iconst 1, 1) := by decide +kernel
theorem nd_RM_cut_26 : decode nb_RM_cut 26 = .ok (.isub, 1) := by decide +kernel
theorem nd_RM_cut_27 : decode nb_RM_cut 27 = .ok (.invokestatic 35, 3) := by decide +kernel
theorem nd_RM_cut_30 : decode nb_RM_cut 30 = .ok (.iconst 0, 1) := by decide +kernel
theorem nd_RM_cut_31 : decode nb_RM_cut 31 = .ok (.iastore, 1) := by decide +kernel
theorem nd_RM_cut_32 : decode nb_RM_cut 32 = .ok (.aload_n 0, 1) := by decide +kernel
theorem nd_RM_cut_33 : decode nb_RM_cut 33 = .ok (.getfield 16, 3) := by decide +kernel
theorem nd_RM_cut_36 : decode nb_RM_cut 36 = .ok (.iload 4, 2) := by decide +kernel
theorem nd_RM_cut_38 : decode nb_RM_cut 38 = .ok (.dup2, 1) := by decide +kernel
theorem nd_RM_cut_39 : decode nb_RM_cut 39 = .ok (.iaload, 1) := by decide +kernel
theorem nd_RM_cut_40 : decode nb_RM_cut 40 = .ok (.iload_n 2, 1) := by decide +kernel
theorem nd_RM_cut_41 : decode nb_RM_cut 41 = .ok (.iload_n 3, 1) := by decide +kernel
theorem nd_RM_cut_42 : decode nb_RM_cut 42 = .ok (.iconst 1, 1) := by decide +kernel
theorem nd_RM_cut_43 : decode nb_RM_cut 43 = .ok (.isub, 1) := by decide +kernel
theorem nd_RM_cut_44 : decode nb_RM_cut 44 = .ok (.invokestatic 31, 3) := by decide +kernel
theorem nd_RM_cut_47 : decode nb_RM_cut 47 = .ok (.iconst (-1), 1) := by decide +kernel
theorem nd_RM_cut_48 : decode nb_RM_cut 48 = .ok (.ixor, 1) := by decide +kernel
theorem nd_RM_cut_49 : decode nb_RM_cut 49 = .ok (.iand, 1) := by decide +kernel
theorem nd_RM_cut_50 : decode nb_RM_cut 50 = .ok (.iastore, 1) := by decide +kernel
theorem nd_RM_cut_51 : decode nb_RM_cut 51 = .ok (.return_, 1) := by decide +kernel
abbrev nb_RM_freeze : ByteArray := prog_2_method_9_code
def ny_RM_freeze : MethodName := ⟨nr_RM, "freeze", "()V"⟩
theorem nc_RM_freeze : Cond.code ny_RM_freeze nb_RM_freeze 2 none ∈ wl := wl_t2 149 rfl rfl
theorem nd_RM_freeze_0 : decode nb_RM_freeze 0 = .ok (.iconst 0, 1) := by decide +kernel
theorem nd_RM_freeze_1 : decode nb_RM_freeze 1 = .ok (.istore_n 1, 1) := by decide +kernel
theorem nd_RM_freeze_2 : decode nb_RM_freeze 2 = .ok (.iload_n 1, 1) := by decide +kernel
theorem nd_RM_freeze_3 : decode nb_RM_freeze 3 = .ok (.aload_n 0, 1) := by decide +kernel
theorem nd_RM_freeze_4 : decode nb_RM_freeze 4 = .ok (.getfield 20, 3) := by decide +kernel
theorem nd_RM_freeze_7 : decode nb_RM_freeze 7 = .ok (.arraylength, 1) := by decide +kernel
theorem nd_RM_freeze_8 : decode nb_RM_freeze 8 = .ok (.if_icmp .ge 16, 3) := by decide +kernel
theorem nd_RM_freeze_11 : decode nb_RM_freeze 11 = .ok (.aload_n 0, 1) := by decide +kernel
theorem nd_RM_freeze_12 : decode nb_RM_freeze 12 = .ok (.getfield 20, 3) := by decide +kernel
theorem nd_RM_freeze_15 : decode nb_RM_freeze 15 = .ok (.iload_n 1, 1) := by decide +kernel
theorem nd_RM_freeze_16 : decode nb_RM_freeze 16 = .ok (.iconst 0, 1) := by decide +kernel
theorem nd_RM_freeze_17 : decode nb_RM_freeze 17 = .ok (.bastore, 1) := by decide +kernel
theorem nd_RM_freeze_18 : decode nb_RM_freeze 18 = .ok (.iinc 1 1, 3) := by decide +kernel
theorem nd_RM_freeze_21 : decode nb_RM_freeze 21 = .ok (.goto (-19), 3) := by decide +kernel
theorem nd_RM_freeze_24 : decode nb_RM_freeze 24 = .ok (.return_, 1) := by decide +kernel
abbrev nb_RM_unmarkAll : ByteArray := prog_2_method_10_code
def ny_RM_unmarkAll : MethodName := ⟨nr_RM, "unmarkAll", "()V"⟩
theorem nc_RM_unmarkAll : Cond.code ny_RM_unmarkAll nb_RM_unmarkAll 2 none ∈ wl := wl_t1 222 rfl rfl
theorem nd_RM_unmarkAll_0 : decode nb_RM_unmarkAll 0 = .ok (.iconst 0, 1) := by decide +kernel
theorem nd_RM_unmarkAll_1 : decode nb_RM_unmarkAll 1 = .ok (.istore_n 1, 1) := by decide +kernel
theorem nd_RM_unmarkAll_2 : decode nb_RM_unmarkAll 2 = .ok (.iload_n 1, 1) := by decide +kernel
theorem nd_RM_unmarkAll_3 : decode nb_RM_unmarkAll 3 = .ok (.aload_n 0, 1) := by decide +kernel
theorem nd_RM_unmarkAll_4 : decode nb_RM_unmarkAll 4 = .ok (.getfield 24, 3) := by decide +kernel
theorem nd_RM_unmarkAll_7 : decode nb_RM_unmarkAll 7 = .ok (.arraylength, 1) := by decide +kernel
theorem nd_RM_unmarkAll_8 : decode nb_RM_unmarkAll 8 = .ok (.if_icmp .ge 16, 3) := by decide +kernel
theorem nd_RM_unmarkAll_11 : decode nb_RM_unmarkAll 11 = .ok (.aload_n 0, 1) := by decide +kernel
theorem nd_RM_unmarkAll_12 : decode nb_RM_unmarkAll 12 = .ok (.getfield 24, 3) := by decide +kernel
theorem nd_RM_unmarkAll_15 : decode nb_RM_unmarkAll 15 = .ok (.iload_n 1, 1) := by decide +kernel
theorem nd_RM_unmarkAll_16 : decode nb_RM_unmarkAll 16 = .ok (.iconst 0, 1) := by decide +kernel
theorem nd_RM_unmarkAll_17 : decode nb_RM_unmarkAll 17 = .ok (.bastore, 1) := by decide +kernel
theorem nd_RM_unmarkAll_18 : decode nb_RM_unmarkAll 18 = .ok (.iinc 1 1, 3) := by decide +kernel
theorem nd_RM_unmarkAll_21 : decode nb_RM_unmarkAll 21 = .ok (.goto (-19), 3) := by decide +kernel
theorem nd_RM_unmarkAll_24 : decode nb_RM_unmarkAll 24 = .ok (.return_, 1) := by decide +kernel
abbrev nb_RM_mark : ByteArray := prog_2_method_11_code
def ny_RM_mark : MethodName := ⟨nr_RM, "mark", "(I)I"⟩
theorem nc_RM_mark : Cond.code ny_RM_mark nb_RM_mark 6 (some .int) ∈ wl := wl_t1 230 rfl rfl
theorem nd_RM_mark_0 : decode nb_RM_mark 0 = .ok (.iload_n 1, 1) := by decide +kernel
theorem nd_RM_mark_1 : decode nb_RM_mark 1 = .ok (.ifCond .eq 12, 3) := by decide +kernel
theorem nd_RM_mark_4 : decode nb_RM_mark 4 = .ok (.aload_n 0, 1) := by decide +kernel
theorem nd_RM_mark_5 : decode nb_RM_mark 5 = .ok (.getfield 24, 3) := by decide +kernel
theorem nd_RM_mark_8 : decode nb_RM_mark 8 = .ok (.iload_n 1, 1) := by decide +kernel
theorem nd_RM_mark_9 : decode nb_RM_mark 9 = .ok (.baload, 1) := by decide +kernel
theorem nd_RM_mark_10 : decode nb_RM_mark 10 = .ok (.ifCond .eq 5, 3) := by decide +kernel
theorem nd_RM_mark_13 : decode nb_RM_mark 13 = .ok (.iconst 0, 1) := by decide +kernel
theorem nd_RM_mark_14 : decode nb_RM_mark 14 = .ok (.ireturn, 1) := by decide +kernel
theorem nd_RM_mark_15 : decode nb_RM_mark 15 = .ok (.iconst 0, 1) := by decide +kernel
theorem nd_RM_mark_16 : decode nb_RM_mark 16 = .ok (.istore_n 2, 1) := by decide +kernel
theorem nd_RM_mark_17 : decode nb_RM_mark 17 = .ok (.iconst 0, 1) := by decide +kernel
theorem nd_RM_mark_18 : decode nb_RM_mark 18 = .ok (.istore_n 3, 1) := by decide +kernel
theorem nd_RM_mark_19 : decode nb_RM_mark 19 = .ok (.iload_n 3, 1) := by decide +kernel
theorem nd_RM_mark_20 : decode nb_RM_mark 20 = .ok (.bipush 64, 2) := by decide +kernel
theorem nd_RM_mark_22 : decode nb_RM_mark 22 = .ok (.if_icmp .ge 60, 3) := by decide +kernel
theorem nd_RM_mark_25 : decode nb_RM_mark 25 = .ok (.iconst 0, 1) := by decide +kernel
theorem nd_RM_mark_26 : decode nb_RM_mark 26 = .ok (.istore 4, 2) := by decide +kernel
theorem nd_RM_mark_28 : decode nb_RM_mark 28 = .ok (.iload 4, 2) := by decide +kernel
theorem nd_RM_mark_30 : decode nb_RM_mark 30 = .ok (.iconst 3, 1) := by decide +kernel
theorem nd_RM_mark_31 : decode nb_RM_mark 31 = .ok (.if_icmp .ge 45, 3) := by decide +kernel
theorem nd_RM_mark_34 : decode nb_RM_mark 34 = .ok (.aload_n 0, 1) := by decide +kernel
theorem nd_RM_mark_35 : decode nb_RM_mark 35 = .ok (.iload_n 1, 1) := by decide +kernel
theorem nd_RM_mark_36 : decode nb_RM_mark 36 = .ok (.iload_n 3, 1) := by decide +kernel
theorem nd_RM_mark_37 : decode nb_RM_mark 37 = .ok (.iload 4, 2) := by decide +kernel
theorem nd_RM_mark_39 : decode nb_RM_mark 39 = .ok (.invokevirtual 27, 3) := by decide +kernel
theorem nd_RM_mark_42 : decode nb_RM_mark 42 = .ok (.istore 5, 2) := by decide +kernel
theorem nd_RM_mark_44 : decode nb_RM_mark 44 = .ok (.iload 5, 2) := by decide +kernel
theorem nd_RM_mark_46 : decode nb_RM_mark 46 = .ok (.ifCond .eq 24, 3) := by decide +kernel
theorem nd_RM_mark_49 : decode nb_RM_mark 49 = .ok (.aload_n 0, 1) := by decide +kernel
theorem nd_RM_mark_50 : decode nb_RM_mark 50 = .ok (.getfield 24, 3) := by decide +kernel
theorem nd_RM_mark_53 : decode nb_RM_mark 53 = .ok (.iload 5, 2) := by decide +kernel
theorem nd_RM_mark_55 : decode nb_RM_mark 55 = .ok (.baload, 1) := by decide +kernel
theorem nd_RM_mark_56 : decode nb_RM_mark 56 = .ok (.ifCond .ne 14, 3) := by decide +kernel
theorem nd_RM_mark_59 : decode nb_RM_mark 59 = .ok (.aload_n 0, 1) := by decide +kernel
theorem nd_RM_mark_60 : decode nb_RM_mark 60 = .ok (.getfield 24, 3) := by decide +kernel
theorem nd_RM_mark_63 : decode nb_RM_mark 63 = .ok (.iload 5, 2) := by decide +kernel
theorem nd_RM_mark_65 : decode nb_RM_mark 65 = .ok (.iconst 1, 1) := by decide +kernel
theorem nd_RM_mark_66 : decode nb_RM_mark 66 = .ok (.bastore, 1) := by decide +kernel
theorem nd_RM_mark_67 : decode nb_RM_mark 67 = .ok (.iinc 2 1, 3) := by decide +kernel
theorem nd_RM_mark_70 : decode nb_RM_mark 70 = .ok (.iinc 4 1, 3) := by decide +kernel
theorem nd_RM_mark_73 : decode nb_RM_mark 73 = .ok (.goto (-45), 3) := by decide +kernel
theorem nd_RM_mark_76 : decode nb_RM_mark 76 = .ok (.iinc 3 4, 3) := by decide +kernel
theorem nd_RM_mark_79 : decode nb_RM_mark 79 = .ok (.goto (-60), 3) := by decide +kernel
theorem nd_RM_mark_82 : decode nb_RM_mark 82 = .ok (.iload_n 2, 1) := by decide +kernel
theorem nd_RM_mark_83 : decode nb_RM_mark 83 = .ok (.ireturn, 1) := by decide +kernel
abbrev nb_RM_nodeAt : ByteArray := prog_2_method_12_code
def ny_RM_nodeAt : MethodName := ⟨nr_RM, "nodeAt", "(III)I"⟩
theorem nc_RM_nodeAt : Cond.code ny_RM_nodeAt nb_RM_nodeAt 6 (some .int) ∈ wl := wl_t1 200 rfl rfl
theorem nd_RM_nodeAt_0 : decode nb_RM_nodeAt 0 = .ok (.iload_n 1, 1) := by decide +kernel
theorem nd_RM_nodeAt_1 : decode nb_RM_nodeAt 1 = .ok (.istore 4, 2) := by decide +kernel
theorem nd_RM_nodeAt_3 : decode nb_RM_nodeAt 3 = .ok (.iconst 0, 1) := by decide +kernel
theorem nd_RM_nodeAt_4 : decode nb_RM_nodeAt 4 = .ok (.istore 5, 2) := by decide +kernel
theorem nd_RM_nodeAt_6 : decode nb_RM_nodeAt 6 = .ok (.iload 5, 2) := by decide +kernel
theorem nd_RM_nodeAt_8 : decode nb_RM_nodeAt 8 = .ok (.iload_n 3, 1) := by decide +kernel
theorem nd_RM_nodeAt_9 : decode nb_RM_nodeAt 9 = .ok (.if_icmp .ge 25, 3) := by decide +kernel
theorem nd_RM_nodeAt_12 : decode nb_RM_nodeAt 12 = .ok (.aload_n 0, 1) := by decide +kernel
theorem nd_RM_nodeAt_13 : decode nb_RM_nodeAt 13 = .ok (.getfield 13, 3) := by decide +kernel
theorem nd_RM_nodeAt_16 : decode nb_RM_nodeAt 16 = .ok (.iload 4, 2) := by decide +kernel
theorem nd_RM_nodeAt_18 : decode nb_RM_nodeAt 18 = .ok (.aaload, 1) := by decide +kernel
theorem nd_RM_nodeAt_19 : decode nb_RM_nodeAt 19 = .ok (.iload_n 2, 1) := by decide +kernel
theorem nd_RM_nodeAt_20 : decode nb_RM_nodeAt 20 = .ok (.iload 5, 2) := by decide +kernel
theorem nd_RM_nodeAt_22 : decode nb_RM_nodeAt 22 = .ok (.invokestatic 35, 3) := by decide +kernel
theorem nd_RM_nodeAt_25 : decode nb_RM_nodeAt 25 = .ok (.iaload, 1) := by decide +kernel
theorem nd_RM_nodeAt_26 : decode nb_RM_nodeAt 26 = .ok (.istore 4, 2) := by decide +kernel
theorem nd_RM_nodeAt_28 : decode nb_RM_nodeAt 28 = .ok (.iinc 5 1, 3) := by decide +kernel
theorem nd_RM_nodeAt_31 : decode nb_RM_nodeAt 31 = .ok (.goto (-25), 3) := by decide +kernel
theorem nd_RM_nodeAt_34 : decode nb_RM_nodeAt 34 = .ok (.iload 4, 2) := by decide +kernel
theorem nd_RM_nodeAt_36 : decode nb_RM_nodeAt 36 = .ok (.ireturn, 1) := by decide +kernel
abbrev nb_RM_holdsNothingElse : ByteArray := prog_2_method_13_code
def ny_RM_holdsNothingElse : MethodName := ⟨nr_RM, "holdsNothingElse", "(III)Z"⟩
theorem nc_RM_holdsNothingElse : Cond.code ny_RM_holdsNothingElse nb_RM_holdsNothingElse 4 (some .boolean) ∈ wl := wl_t2 67 rfl rfl
theorem nd_RM_holdsNothingElse_0 : decode nb_RM_holdsNothingElse 0 = .ok (.aload_n 0, 1) := by decide +kernel
theorem nd_RM_holdsNothingElse_1 : decode nb_RM_holdsNothingElse 1 = .ok (.getfield 16, 3) := by decide +kernel
theorem nd_RM_holdsNothingElse_4 : decode nb_RM_holdsNothingElse 4 = .ok (.aload_n 0, 1) := by decide +kernel
theorem nd_RM_holdsNothingElse_5 : decode nb_RM_holdsNothingElse 5 = .ok (.iload_n 1, 1) := by decide +kernel
theorem nd_RM_holdsNothingElse_6 : decode nb_RM_holdsNothingElse 6 = .ok (.iload_n 2, 1) := by decide +kernel
theorem nd_RM_holdsNothingElse_7 : decode nb_RM_holdsNothingElse 7 = .ok (.iload_n 3, 1) := by decide +kernel
theorem nd_RM_holdsNothingElse_8 : decode nb_RM_holdsNothingElse 8 = .ok (.invokevirtual 27, 3) := by decide +kernel
theorem nd_RM_holdsNothingElse_11 : decode nb_RM_holdsNothingElse 11 = .ok (.iaload, 1) := by decide +kernel
theorem nd_RM_holdsNothingElse_12 : decode nb_RM_holdsNothingElse 12 = .ok (.iload_n 2, 1) := by decide +kernel
theorem nd_RM_holdsNothingElse_13 : decode nb_RM_holdsNothingElse 13 = .ok (.iload_n 3, 1) := by decide +kernel
theorem nd_RM_holdsNothingElse_14 : decode nb_RM_holdsNothingElse 14 = .ok (.invokestatic 31, 3) := by decide +kernel
theorem nd_RM_holdsNothingElse_17 : decode nb_RM_holdsNothingElse 17 = .ok (.if_icmp .ne 7, 3) := by decide +kernel
theorem nd_RM_holdsNothingElse_20 : decode nb_RM_holdsNothingElse 20 = .ok (.iconst 1, 1) := by decide +kernel
theorem nd_RM_holdsNothingElse_21 : decode nb_RM_holdsNothingElse 21 = .ok (.goto 4, 3) := by decide +kernel
theorem nd_RM_holdsNothingElse_24 : decode nb_RM_holdsNothingElse 24 = .ok (.iconst 0, 1) := by decide +kernel
theorem nd_RM_holdsNothingElse_25 : decode nb_RM_holdsNothingElse 25 = .ok (.ireturn, 1) := by decide +kernel
abbrev nb_RM_open : ByteArray := prog_2_method_14_code
def ny_RM_open : MethodName := ⟨nr_RM, "open", "(IIII)V"⟩
theorem nc_RM_open : Cond.code ny_RM_open nb_RM_open 5 none ∈ wl := wl_t2 27 rfl rfl
theorem nd_RM_open_0 : decode nb_RM_open 0 = .ok (.aload_n 0, 1) := by decide +kernel
theorem nd_RM_open_1 : decode nb_RM_open 1 = .ok (.getfield 13, 3) := by decide +kernel
theorem nd_RM_open_4 : decode nb_RM_open 4 = .ok (.iload_n 1, 1) := by decide +kernel
theorem nd_RM_open_5 : decode nb_RM_open 5 = .ok (.aaload, 1) := by decide +kernel
theorem nd_RM_open_6 : decode nb_RM_open 6 = .ok (.iload_n 2, 1) := by decide +kernel
theorem nd_RM_open_7 : decode nb_RM_open 7 = .ok (.iload_n 3, 1) := by decide +kernel
theorem nd_RM_open_8 : decode nb_RM_open 8 = .ok (.invokestatic 35, 3) := by decide +kernel
theorem nd_RM_open_11 : decode nb_RM_open 11 = .ok (.iload 4, 2) := by decide +kernel
theorem nd_RM_open_13 : decode nb_RM_open 13 = .ok (.iastore, 1) := by decide +kernel
theorem nd_RM_open_14 : decode nb_RM_open 14 = .ok (.aload_n 0, 1) := by decide +kernel
theorem nd_RM_open_15 : decode nb_RM_open 15 = .ok (.getfield 16, 3) := by decide +kernel
theorem nd_RM_open_18 : decode nb_RM_open 18 = .ok (.iload_n 1, 1) := by decide +kernel
theorem nd_RM_open_19 : decode nb_RM_open 19 = .ok (.dup2, 1) := by decide +kernel
theorem nd_RM_open_20 : decode nb_RM_open 20 = .ok (.iaload, 1) := by decide +kernel
theorem nd_RM_open_21 : decode nb_RM_open 21 = .ok (.iload_n 2, 1) := by decide +kernel
theorem nd_RM_open_22 : decode nb_RM_open 22 = .ok (.iload_n 3, 1) := by decide +kernel
theorem nd_RM_open_23 : decode nb_RM_open 23 = .ok (.invokestatic 31, 3) := by decide +kernel
theorem nd_RM_open_26 : decode nb_RM_open 26 = .ok (.ior, 1) := by decide +kernel
theorem nd_RM_open_27 : decode nb_RM_open 27 = .ok (.iastore, 1) := by decide +kernel
theorem nd_RM_open_28 : decode nb_RM_open 28 = .ok (.return_, 1) := by decide +kernel
abbrev nb_RM_own : ByteArray := prog_2_method_15_code
def ny_RM_own : MethodName := ⟨nr_RM, "own", "(I)I"⟩
theorem nc_RM_own : Cond.code ny_RM_own nb_RM_own 3 (some .int) ∈ wl := wl_t2 18 rfl rfl
theorem nd_RM_own_0 : decode nb_RM_own 0 = .ok (.aload_n 0, 1) := by decide +kernel
theorem nd_RM_own_1 : decode nb_RM_own 1 = .ok (.getfield 20, 3) := by decide +kernel
theorem nd_RM_own_4 : decode nb_RM_own 4 = .ok (.iload_n 1, 1) := by decide +kernel
theorem nd_RM_own_5 : decode nb_RM_own 5 = .ok (.baload, 1) := by decide +kernel
theorem nd_RM_own_6 : decode nb_RM_own 6 = .ok (.ifCond .eq 5, 3) := by decide +kernel
theorem nd_RM_own_9 : decode nb_RM_own 9 = .ok (.iload_n 1, 1) := by decide +kernel
theorem nd_RM_own_10 : decode nb_RM_own 10 = .ok (.ireturn, 1) := by decide +kernel
theorem nd_RM_own_11 : decode nb_RM_own 11 = .ok (.aload_n 0, 1) := by decide +kernel
theorem nd_RM_own_12 : decode nb_RM_own 12 = .ok (.invokevirtual 50, 3) := by decide +kernel
theorem nd_RM_own_15 : decode nb_RM_own 15 = .ok (.istore_n 2, 1) := by decide +kernel
theorem nd_RM_own_16 : decode nb_RM_own 16 = .ok (.aload_n 0, 1) := by decide +kernel
theorem nd_RM_own_17 : decode nb_RM_own 17 = .ok (.getfield 13, 3) := by decide +kernel
theorem nd_RM_own_20 : decode nb_RM_own 20 = .ok (.iload_n 1, 1) := by decide +kernel
theorem nd_RM_own_21 : decode nb_RM_own 21 = .ok (.aaload, 1) := by decide +kernel
theorem nd_RM_own_22 : decode nb_RM_own 22 = .ok (.iconst 0, 1) := by decide +kernel
theorem nd_RM_own_23 : decode nb_RM_own 23 = .ok (.aload_n 0, 1) := by decide +kernel
theorem nd_RM_own_24 : decode nb_RM_own 24 = .ok (.getfield 13, 3) := by decide +kernel
theorem nd_RM_own_27 : decode nb_RM_own 27 = .ok (.iload_n 2, 1) := by decide +kernel
theorem nd_RM_own_28 : decode nb_RM_own 28 = .ok (.aaload, 1) := by decide +kernel
theorem nd_RM_own_29 : decode nb_RM_own 29 = .ok (.iconst 0, 1) := by decide +kernel
theorem nd_RM_own_30 : decode nb_RM_own 30 = .ok (.iconst 4, 1) := by decide +kernel
theorem nd_RM_own_31 : decode nb_RM_own 31 = .ok (.invokestatic 54, 3) := by decide +kernel
theorem nd_RM_own_34 : decode nb_RM_own 34 = .ok (.aload_n 0, 1) := by decide +kernel
theorem nd_RM_own_35 : decode nb_RM_own 35 = .ok (.getfield 16, 3) := by decide +kernel
theorem nd_RM_own_38 : decode nb_RM_own 38 = .ok (.iload_n 2, 1) := by decide +kernel
theorem nd_RM_own_39 : decode nb_RM_own 39 = .ok (.aload_n 0, 1) := by decide +kernel
theorem nd_RM_own_40 : decode nb_RM_own 40 = .ok (.getfield 16, 3) := by decide +kernel
theorem nd_RM_own_43 : decode nb_RM_own 43 = .ok (.iload_n 1, 1) := by decide +kernel
theorem nd_RM_own_44 : decode nb_RM_own 44 = .ok (.iaload, 1) := by decide +kernel
theorem nd_RM_own_45 : decode nb_RM_own 45 = .ok (.iastore, 1) := by decide +kernel
theorem nd_RM_own_46 : decode nb_RM_own 46 = .ok (.aload_n 0, 1) := by decide +kernel
theorem nd_RM_own_47 : decode nb_RM_own 47 = .ok (.getfield 20, 3) := by decide +kernel
theorem nd_RM_own_50 : decode nb_RM_own 50 = .ok (.iload_n 2, 1) := by decide +kernel
theorem nd_RM_own_51 : decode nb_RM_own 51 = .ok (.iconst 1, 1) := by decide +kernel
theorem nd_RM_own_52 : decode nb_RM_own 52 = .ok (.bastore, 1) := by decide +kernel
theorem nd_RM_own_53 : decode nb_RM_own 53 = .ok (.iload_n 2, 1) := by decide +kernel
theorem nd_RM_own_54 : decode nb_RM_own 54 = .ok (.ireturn, 1) := by decide +kernel
abbrev nb_RM_takeUnmarked : ByteArray := prog_2_method_16_code
def ny_RM_takeUnmarked : MethodName := ⟨nr_RM, "takeUnmarked", "()I"⟩
theorem nc_RM_takeUnmarked : Cond.code ny_RM_takeUnmarked nb_RM_takeUnmarked 2 (some .int) ∈ wl := wl_t2 22 rfl rfl
theorem nd_RM_takeUnmarked_0 : decode nb_RM_takeUnmarked 0 = .ok (.iconst 1, 1) := by decide +kernel
theorem nd_RM_takeUnmarked_1 : decode nb_RM_takeUnmarked 1 = .ok (.istore_n 1, 1) := by decide +kernel
theorem nd_RM_takeUnmarked_2 : decode nb_RM_takeUnmarked 2 = .ok (.iload_n 1, 1) := by decide +kernel
theorem nd_RM_takeUnmarked_3 : decode nb_RM_takeUnmarked 3 = .ok (.bipush 60, 2) := by decide +kernel
theorem nd_RM_takeUnmarked_5 : decode nb_RM_takeUnmarked 5 = .ok (.if_icmp .ge 18, 3) := by decide +kernel
theorem nd_RM_takeUnmarked_8 : decode nb_RM_takeUnmarked 8 = .ok (.aload_n 0, 1) := by decide +kernel
theorem nd_RM_takeUnmarked_9 : decode nb_RM_takeUnmarked 9 = .ok (.getfield 24, 3) := by decide +kernel
theorem nd_RM_takeUnmarked_12 : decode nb_RM_takeUnmarked 12 = .ok (.iload_n 1, 1) := by decide +kernel
theorem nd_RM_takeUnmarked_13 : decode nb_RM_takeUnmarked 13 = .ok (.baload, 1) := by decide +kernel
theorem nd_RM_takeUnmarked_14 : decode nb_RM_takeUnmarked 14 = .ok (.ifCond .eq 9, 3) := by decide +kernel
theorem nd_RM_takeUnmarked_17 : decode nb_RM_takeUnmarked 17 = .ok (.iinc 1 1, 3) := by decide +kernel
theorem nd_RM_takeUnmarked_20 : decode nb_RM_takeUnmarked 20 = .ok (.goto (-18), 3) := by decide +kernel
theorem nd_RM_takeUnmarked_23 : decode nb_RM_takeUnmarked 23 = .ok (.aload_n 0, 1) := by decide +kernel
theorem nd_RM_takeUnmarked_24 : decode nb_RM_takeUnmarked 24 = .ok (.getfield 24, 3) := by decide +kernel
theorem nd_RM_takeUnmarked_27 : decode nb_RM_takeUnmarked 27 = .ok (.iload_n 1, 1) := by decide +kernel
theorem nd_RM_takeUnmarked_28 : decode nb_RM_takeUnmarked 28 = .ok (.iconst 1, 1) := by decide +kernel
theorem nd_RM_takeUnmarked_29 : decode nb_RM_takeUnmarked 29 = .ok (.bastore, 1) := by decide +kernel
theorem nd_RM_takeUnmarked_30 : decode nb_RM_takeUnmarked 30 = .ok (.iload_n 1, 1) := by decide +kernel
theorem nd_RM_takeUnmarked_31 : decode nb_RM_takeUnmarked 31 = .ok (.ireturn, 1) := by decide +kernel
abbrev nb_RM_turnOf : ByteArray := prog_2_method_17_code
def ny_RM_turnOf : MethodName := ⟨nr_RM, "turnOf", "(II)I"⟩
theorem nc_RM_turnOf : Cond.code ny_RM_turnOf nb_RM_turnOf 2 (some .int) ∈ wl := wl_t1 203 rfl rfl
theorem nd_RM_turnOf_0 : decode nb_RM_turnOf 0 = .ok (.iload_n 0, 1) := by decide +kernel
theorem nd_RM_turnOf_1 : decode nb_RM_turnOf 1 = .ok (.iconst 2, 1) := by decide +kernel
theorem nd_RM_turnOf_2 : decode nb_RM_turnOf 2 = .ok (.iconst 2, 1) := by decide +kernel
theorem nd_RM_turnOf_3 : decode nb_RM_turnOf 3 = .ok (.iload_n 1, 1) := by decide +kernel
theorem nd_RM_turnOf_4 : decode nb_RM_turnOf 4 = .ok (.isub, 1) := by decide +kernel
theorem nd_RM_turnOf_5 : decode nb_RM_turnOf 5 = .ok (.imul, 1) := by decide +kernel
theorem nd_RM_turnOf_6 : decode nb_RM_turnOf 6 = .ok (.ishr, 1) := by decide +kernel
theorem nd_RM_turnOf_7 : decode nb_RM_turnOf 7 = .ok (.iconst 3, 1) := by decide +kernel
theorem nd_RM_turnOf_8 : decode nb_RM_turnOf 8 = .ok (.iand, 1) := by decide +kernel
theorem nd_RM_turnOf_9 : decode nb_RM_turnOf 9 = .ok (.ireturn, 1) := by decide +kernel
abbrev nb_RM_bitOf : ByteArray := prog_2_method_18_code
def ny_RM_bitOf : MethodName := ⟨nr_RM, "bitOf", "(II)I"⟩
theorem nc_RM_bitOf : Cond.code ny_RM_bitOf nb_RM_bitOf 2 (some .int) ∈ wl := wl_t1 206 rfl rfl
theorem nd_RM_bitOf_0 : decode nb_RM_bitOf 0 = .ok (.iconst 1, 1) := by decide +kernel
theorem nd_RM_bitOf_1 : decode nb_RM_bitOf 1 = .ok (.iload_n 0, 1) := by decide +kernel
theorem nd_RM_bitOf_2 : decode nb_RM_bitOf 2 = .ok (.iload_n 1, 1) := by decide +kernel
theorem nd_RM_bitOf_3 : decode nb_RM_bitOf 3 = .ok (.invokestatic 35, 3) := by decide +kernel
theorem nd_RM_bitOf_6 : decode nb_RM_bitOf 6 = .ok (.ishl, 1) := by decide +kernel
theorem nd_RM_bitOf_7 : decode nb_RM_bitOf 7 = .ok (.ireturn, 1) := by decide +kernel
