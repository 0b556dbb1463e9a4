/-! names and decode rows of FrozenBranches (printed by names.py) -/
abbrev nb_FB_init : ByteArray := prog_1_method_1_code
def ny_FB_init : MethodName := ⟨nr_FB, "<init>", "()V"⟩
theorem nc_FB_init : Cond.code ny_FB_init nb_FB_init 1 none ∈ wl := wl_t1 18 rfl rfl
theorem nd_FB_init_0 : decode nb_FB_init 0 = .ok (.aload_n 0, 1) := by decide +kernel
theorem nd_FB_init_1 : decode nb_FB_init 1 = .ok (.invokespecial 1, 3) := by decide +kernel
theorem nd_FB_init_4 : decode nb_FB_init 4 = .ok (.aload_n 0, 1) := by decide +kernel
theorem nd_FB_init_5 : decode nb_FB_init 5 = .ok (.new 7, 3) := by decide +kernel
theorem nd_FB_init_8 : decode nb_FB_init 8 = .ok (.dup, 1) := by decide +kernel
theorem nd_FB_init_9 : decode nb_FB_init 9 = .ok (.invokespecial 9, 3) := by decide +kernel
theorem nd_FB_init_12 : decode nb_FB_init 12 = .ok (.putfield 10, 3) := by decide +kernel
theorem nd_FB_init_15 : decode nb_FB_init 15 = .ok (.aload_n 0, 1) := by decide +kernel
theorem nd_FB_init_16 : decode nb_FB_init 16 = .ok (.bipush 7, 2) := by decide +kernel
theorem nd_FB_init_18 : decode nb_FB_init 18 = .ok (.newarray .int, 2) := by decide +kernel
theorem nd_FB_init_20 : decode nb_FB_init 20 = .ok (.putfield 16, 3) := by decide +kernel
theorem nd_FB_init_23 : decode nb_FB_init 23 = .ok (.aload_n 0, 1) := by decide +kernel
theorem nd_FB_init_24 : decode nb_FB_init 24 = .ok (.bipush 7, 2) := by decide +kernel
theorem nd_FB_init_26 : decode nb_FB_init 26 = .ok (.newarray .int, 2) := by decide +kernel
theorem nd_FB_init_28 : decode nb_FB_init 28 = .ok (.putfield 20, 3) := by decide +kernel
theorem nd_FB_init_31 : decode nb_FB_init 31 = .ok (.aload_n 0, 1) := by decide +kernel
theorem nd_FB_init_32 : decode nb_FB_init 32 = .ok (.iconst (-1), 1) := by decide +kernel
theorem nd_FB_init_33 : decode nb_FB_init 33 = .ok (.putfield 23, 3) := by decide +kernel
theorem nd_FB_init_36 : decode nb_FB_init 36 = .ok (.aload_n 0, 1) := by decide +kernel
theorem nd_FB_init_37 : decode nb_FB_init 37 = .ok (.getfield 16, 3) := by decide +kernel
theorem nd_FB_init_40 : decode nb_FB_init 40 = .ok (.iconst (-1), 1) := by decide +kernel
theorem nd_FB_init_41 : decode nb_FB_init 41 = .ok (.invokestatic 27, 3) := by decide +kernel
theorem nd_FB_init_44 : decode nb_FB_init 44 = .ok (.aload_n 0, 1) := by decide +kernel
theorem nd_FB_init_45 : decode nb_FB_init 45 = .ok (.getfield 16, 3) := by decide +kernel
theorem nd_FB_init_48 : decode nb_FB_init 48 = .ok (.iconst 0, 1) := by decide +kernel
theorem nd_FB_init_49 : decode nb_FB_init 49 = .ok (.iconst 0, 1) := by decide +kernel
theorem nd_FB_init_50 : decode nb_FB_init 50 = .ok (.iastore, 1) := by decide +kernel
theorem nd_FB_init_51 : decode nb_FB_init 51 = .ok (.aload_n 0, 1) := by decide +kernel
theorem nd_FB_init_52 : decode nb_FB_init 52 = .ok (.getfield 16, 3) := by decide +kernel
theorem nd_FB_init_55 : decode nb_FB_init 55 = .ok (.iconst 0, 1) := by decide +kernel
theorem nd_FB_init_56 : decode nb_FB_init 56 = .ok (.aload_n 0, 1) := by decide +kernel
theorem nd_FB_init_57 : decode nb_FB_init 57 = .ok (.getfield 20, 3) := by decide +kernel
theorem nd_FB_init_60 : decode nb_FB_init 60 = .ok (.iconst 0, 1) := by decide +kernel
theorem nd_FB_init_61 : decode nb_FB_init 61 = .ok (.aload_n 0, 1) := by decide +kernel
theorem nd_FB_init_62 : decode nb_FB_init 62 = .ok (.getfield 16, 3) := by decide +kernel
theorem nd_FB_init_65 : decode nb_FB_init 65 = .ok (.arraylength, 1) := by decide +kernel
theorem nd_FB_init_66 : decode nb_FB_init 66 = .ok (.invokestatic 33, 3) := by decide +kernel
theorem nd_FB_init_69 : decode nb_FB_init 69 = .ok (.return_, 1) := by decide +kernel
abbrev nb_FB_put : ByteArray := prog_1_method_2_code
def ny_FB_put : MethodName := ⟨nr_FB, "put", "(II)I"⟩
theorem nc_FB_put : Cond.code ny_FB_put nb_FB_put 4 (some .int) ∈ wl := wl_t1 99 rfl rfl
theorem nd_FB_put_0 : decode nb_FB_put 0 = .ok (.aload_n 0, 1) := by decide +kernel
theorem nd_FB_put_1 : decode nb_FB_put 1 = .ok (.invokevirtual 39, 3) := by decide +kernel
theorem nd_FB_put_4 : decode nb_FB_put 4 = .ok (.aload_n 0, 1) := by decide +kernel
theorem nd_FB_put_5 : decode nb_FB_put 5 = .ok (.iload_n 1, 1) := by decide +kernel
theorem nd_FB_put_6 : decode nb_FB_put 6 = .ok (.invokevirtual 42, 3) := by decide +kernel
theorem nd_FB_put_9 : decode nb_FB_put 9 = .ok (.ifCond .ne 13, 3) := by decide +kernel
theorem nd_FB_put_12 : decode nb_FB_put 12 = .ok (.new 46, 3) := by decide +kernel
theorem nd_FB_put_15 : decode nb_FB_put 15 = .ok (.dup, 1) := by decide +kernel
theorem nd_FB_put_16 : decode nb_FB_put 16 = .ok (.ldc 48, 2) := by decide +kernel
theorem nd_FB_put_18 : decode nb_FB_put 18 = .ok (.invokespecial 50, 3) := by decide +kernel
theorem nd_FB_put_21 : decode nb_FB_put 21 = .ok (.athrow, 1) := by decide +kernel
theorem nd_FB_put_22 : decode nb_FB_put 22 = .ok (.aload_n 0, 1) := by decide +kernel
theorem nd_FB_put_23 : decode nb_FB_put 23 = .ok (.getfield 10, 3) := by decide +kernel
theorem nd_FB_put_26 : decode nb_FB_put 26 = .ok (.aload_n 0, 1) := by decide +kernel
theorem nd_FB_put_27 : decode nb_FB_put 27 = .ok (.getfield 16, 3) := by decide +kernel
theorem nd_FB_put_30 : decode nb_FB_put 30 = .ok (.iconst 0, 1) := by decide +kernel
theorem nd_FB_put_31 : decode nb_FB_put 31 = .ok (.iaload, 1) := by decide +kernel
theorem nd_FB_put_32 : decode nb_FB_put 32 = .ok (.iload_n 1, 1) := by decide +kernel
theorem nd_FB_put_33 : decode nb_FB_put 33 = .ok (.invokevirtual 53, 3) := by decide +kernel
theorem nd_FB_put_36 : decode nb_FB_put 36 = .ok (.istore_n 3, 1) := by decide +kernel
theorem nd_FB_put_37 : decode nb_FB_put 37 = .ok (.iload_n 3, 1) := by decide +kernel
theorem nd_FB_put_38 : decode nb_FB_put 38 = .ok (.ifCond .eq 23, 3) := by decide +kernel
theorem nd_FB_put_41 : decode nb_FB_put 41 = .ok (.aload_n 0, 1) := by decide +kernel
theorem nd_FB_put_42 : decode nb_FB_put 42 = .ok (.getfield 10, 3) := by decide +kernel
theorem nd_FB_put_45 : decode nb_FB_put 45 = .ok (.aload_n 0, 1) := by decide +kernel
theorem nd_FB_put_46 : decode nb_FB_put 46 = .ok (.getfield 16, 3) := by decide +kernel
theorem nd_FB_put_49 : decode nb_FB_put 49 = .ok (.iconst 0, 1) := by decide +kernel
theorem nd_FB_put_50 : decode nb_FB_put 50 = .ok (.iaload, 1) := by decide +kernel
theorem nd_FB_put_51 : decode nb_FB_put 51 = .ok (.iload_n 1, 1) := by decide +kernel
theorem nd_FB_put_52 : decode nb_FB_put 52 = .ok (.invokevirtual 57, 3) := by decide +kernel
theorem nd_FB_put_55 : decode nb_FB_put 55 = .ok (.iload_n 2, 1) := by decide +kernel
theorem nd_FB_put_56 : decode nb_FB_put 56 = .ok (.if_icmp .ne 5, 3) := by decide +kernel
theorem nd_FB_put_59 : decode nb_FB_put 59 = .ok (.iconst 2, 1) := by decide +kernel
theorem nd_FB_put_60 : decode nb_FB_put 60 = .ok (.ireturn, 1) := by decide +kernel
theorem nd_FB_put_61 : decode nb_FB_put 61 = .ok (.aload_n 0, 1) := by decide +kernel
theorem nd_FB_put_62 : decode nb_FB_put 62 = .ok (.iload_n 1, 1) := by decide +kernel
theorem nd_FB_put_63 : decode nb_FB_put 63 = .ok (.iconst 3, 1) := by decide +kernel
theorem nd_FB_put_64 : decode nb_FB_put 64 = .ok (.invokevirtual 61, 3) := by decide +kernel
theorem nd_FB_put_67 : decode nb_FB_put 67 = .ok (.aload_n 0, 1) := by decide +kernel
theorem nd_FB_put_68 : decode nb_FB_put 68 = .ok (.getfield 10, 3) := by decide +kernel
theorem nd_FB_put_71 : decode nb_FB_put 71 = .ok (.aload_n 0, 1) := by decide +kernel
theorem nd_FB_put_72 : decode nb_FB_put 72 = .ok (.getfield 16, 3) := by decide +kernel
theorem nd_FB_put_75 : decode nb_FB_put 75 = .ok (.iconst 0, 1) := by decide +kernel
theorem nd_FB_put_76 : decode nb_FB_put 76 = .ok (.iaload, 1) := by decide +kernel
theorem nd_FB_put_77 : decode nb_FB_put 77 = .ok (.iload_n 1, 1) := by decide +kernel
theorem nd_FB_put_78 : decode nb_FB_put 78 = .ok (.iload_n 2, 1) := by decide +kernel
theorem nd_FB_put_79 : decode nb_FB_put 79 = .ok (.invokevirtual 65, 3) := by decide +kernel
theorem nd_FB_put_82 : decode nb_FB_put 82 = .ok (.iload_n 3, 1) := by decide +kernel
theorem nd_FB_put_83 : decode nb_FB_put 83 = .ok (.ifCond .eq 7, 3) := by decide +kernel
theorem nd_FB_put_86 : decode nb_FB_put 86 = .ok (.iconst 1, 1) := by decide +kernel
theorem nd_FB_put_87 : decode nb_FB_put 87 = .ok (.goto 4, 3) := by decide +kernel
theorem nd_FB_put_90 : decode nb_FB_put 90 = .ok (.iconst 0, 1) := by decide +kernel
theorem nd_FB_put_91 : decode nb_FB_put 91 = .ok (.ireturn, 1) := by decide +kernel
abbrev nb_FB_remove : ByteArray := prog_1_method_3_code
def ny_FB_remove : MethodName := ⟨nr_FB, "remove", "(I)I"⟩
theorem nc_FB_remove : Cond.code ny_FB_remove nb_FB_remove 4 (some .int) ∈ wl := wl_t2 39 rfl rfl
theorem nd_FB_remove_0 : decode nb_FB_remove 0 = .ok (.aload_n 0, 1) := by decide +kernel
theorem nd_FB_remove_1 : decode nb_FB_remove 1 = .ok (.invokevirtual 39, 3) := by decide +kernel
theorem nd_FB_remove_4 : decode nb_FB_remove 4 = .ok (.aload_n 0, 1) := by decide +kernel
theorem nd_FB_remove_5 : decode nb_FB_remove 5 = .ok (.aload_n 0, 1) := by decide +kernel
theorem nd_FB_remove_6 : decode nb_FB_remove 6 = .ok (.getfield 16, 3) := by decide +kernel
theorem nd_FB_remove_9 : decode nb_FB_remove 9 = .ok (.iconst 0, 1) := by decide +kernel
theorem nd_FB_remove_10 : decode nb_FB_remove 10 = .ok (.iaload, 1) := by decide +kernel
theorem nd_FB_remove_11 : decode nb_FB_remove 11 = .ok (.iload_n 1, 1) := by decide +kernel
theorem nd_FB_remove_12 : decode nb_FB_remove 12 = .ok (.invokevirtual 69, 3) := by decide +kernel
theorem nd_FB_remove_15 : decode nb_FB_remove 15 = .ok (.aload_n 0, 1) := by decide +kernel
theorem nd_FB_remove_16 : decode nb_FB_remove 16 = .ok (.getfield 10, 3) := by decide +kernel
theorem nd_FB_remove_19 : decode nb_FB_remove 19 = .ok (.aload_n 0, 1) := by decide +kernel
theorem nd_FB_remove_20 : decode nb_FB_remove 20 = .ok (.getfield 16, 3) := by decide +kernel
theorem nd_FB_remove_23 : decode nb_FB_remove 23 = .ok (.iconst 0, 1) := by decide +kernel
theorem nd_FB_remove_24 : decode nb_FB_remove 24 = .ok (.iaload, 1) := by decide +kernel
theorem nd_FB_remove_25 : decode nb_FB_remove 25 = .ok (.iload_n 1, 1) := by decide +kernel
theorem nd_FB_remove_26 : decode nb_FB_remove 26 = .ok (.invokevirtual 57, 3) := by decide +kernel
theorem nd_FB_remove_29 : decode nb_FB_remove 29 = .ok (.istore_n 2, 1) := by decide +kernel
theorem nd_FB_remove_30 : decode nb_FB_remove 30 = .ok (.aload_n 0, 1) := by decide +kernel
theorem nd_FB_remove_31 : decode nb_FB_remove 31 = .ok (.getfield 10, 3) := by decide +kernel
theorem nd_FB_remove_34 : decode nb_FB_remove 34 = .ok (.aload_n 0, 1) := by decide +kernel
theorem nd_FB_remove_35 : decode nb_FB_remove 35 = .ok (.getfield 16, 3) := by decide +kernel
theorem nd_FB_remove_38 : decode nb_FB_remove 38 = .ok (.iconst 0, 1) := by decide +kernel
theorem nd_FB_remove_39 : decode nb_FB_remove 39 = .ok (.iaload, 1) := by decide +kernel
theorem nd_FB_remove_40 : decode nb_FB_remove 40 = .ok (.iload_n 1, 1) := by decide +kernel
theorem nd_FB_remove_41 : decode nb_FB_remove 41 = .ok (.invokevirtual 72, 3) := by decide +kernel
theorem nd_FB_remove_44 : decode nb_FB_remove 44 = .ok (.istore_n 3, 1) := by decide +kernel
theorem nd_FB_remove_45 : decode nb_FB_remove 45 = .ok (.aload_n 0, 1) := by decide +kernel
theorem nd_FB_remove_46 : decode nb_FB_remove 46 = .ok (.iload_n 1, 1) := by decide +kernel
theorem nd_FB_remove_47 : decode nb_FB_remove 47 = .ok (.iload_n 3, 1) := by decide +kernel
theorem nd_FB_remove_48 : decode nb_FB_remove 48 = .ok (.invokevirtual 61, 3) := by decide +kernel
theorem nd_FB_remove_51 : decode nb_FB_remove 51 = .ok (.aload_n 0, 1) := by decide +kernel
theorem nd_FB_remove_52 : decode nb_FB_remove 52 = .ok (.getfield 10, 3) := by decide +kernel
theorem nd_FB_remove_55 : decode nb_FB_remove 55 = .ok (.aload_n 0, 1) := by decide +kernel
theorem nd_FB_remove_56 : decode nb_FB_remove 56 = .ok (.getfield 16, 3) := by decide +kernel
theorem nd_FB_remove_59 : decode nb_FB_remove 59 = .ok (.iconst 0, 1) := by decide +kernel
theorem nd_FB_remove_60 : decode nb_FB_remove 60 = .ok (.iaload, 1) := by decide +kernel
theorem nd_FB_remove_61 : decode nb_FB_remove 61 = .ok (.iload_n 1, 1) := by decide +kernel
theorem nd_FB_remove_62 : decode nb_FB_remove 62 = .ok (.iload_n 3, 1) := by decide +kernel
theorem nd_FB_remove_63 : decode nb_FB_remove 63 = .ok (.invokevirtual 75, 3) := by decide +kernel
theorem nd_FB_remove_66 : decode nb_FB_remove 66 = .ok (.iload_n 2, 1) := by decide +kernel
theorem nd_FB_remove_67 : decode nb_FB_remove 67 = .ok (.ireturn, 1) := by decide +kernel
abbrev nb_FB_get : ByteArray := prog_1_method_4_code
def ny_FB_get : MethodName := ⟨nr_FB, "get", "(II)I"⟩
theorem nc_FB_get : Cond.code ny_FB_get nb_FB_get 3 (some .int) ∈ wl := wl_t2 78 rfl rfl
theorem nd_FB_get_0 : decode nb_FB_get 0 = .ok (.aload_n 0, 1) := by decide +kernel
theorem nd_FB_get_1 : decode nb_FB_get 1 = .ok (.invokevirtual 39, 3) := by decide +kernel
theorem nd_FB_get_4 : decode nb_FB_get 4 = .ok (.aload_n 0, 1) := by decide +kernel
theorem nd_FB_get_5 : decode nb_FB_get 5 = .ok (.iload_n 1, 1) := by decide +kernel
theorem nd_FB_get_6 : decode nb_FB_get 6 = .ok (.invokevirtual 78, 3) := by decide +kernel
theorem nd_FB_get_9 : decode nb_FB_get 9 = .ok (.aload_n 0, 1) := by decide +kernel
theorem nd_FB_get_10 : decode nb_FB_get 10 = .ok (.aload_n 0, 1) := by decide +kernel
theorem nd_FB_get_11 : decode nb_FB_get 11 = .ok (.getfield 16, 3) := by decide +kernel
theorem nd_FB_get_14 : decode nb_FB_get 14 = .ok (.iload_n 1, 1) := by decide +kernel
theorem nd_FB_get_15 : decode nb_FB_get 15 = .ok (.iaload, 1) := by decide +kernel
theorem nd_FB_get_16 : decode nb_FB_get 16 = .ok (.iload_n 2, 1) := by decide +kernel
theorem nd_FB_get_17 : decode nb_FB_get 17 = .ok (.invokevirtual 69, 3) := by decide +kernel
theorem nd_FB_get_20 : decode nb_FB_get 20 = .ok (.aload_n 0, 1) := by decide +kernel
theorem nd_FB_get_21 : decode nb_FB_get 21 = .ok (.getfield 10, 3) := by decide +kernel
theorem nd_FB_get_24 : decode nb_FB_get 24 = .ok (.aload_n 0, 1) := by decide +kernel
theorem nd_FB_get_25 : decode nb_FB_get 25 = .ok (.getfield 16, 3) := by decide +kernel
theorem nd_FB_get_28 : decode nb_FB_get 28 = .ok (.iload_n 1, 1) := by decide +kernel
theorem nd_FB_get_29 : decode nb_FB_get 29 = .ok (.iaload, 1) := by decide +kernel
theorem nd_FB_get_30 : decode nb_FB_get 30 = .ok (.iload_n 2, 1) := by decide +kernel
theorem nd_FB_get_31 : decode nb_FB_get 31 = .ok (.invokevirtual 57, 3) := by decide +kernel
theorem nd_FB_get_34 : decode nb_FB_get 34 = .ok (.ireturn, 1) := by decide +kernel
abbrev nb_FB_next : ByteArray := prog_1_method_5_code
def ny_FB_next : MethodName := ⟨nr_FB, "next", "(II)I"⟩
theorem nc_FB_next : Cond.code ny_FB_next nb_FB_next 4 (some .int) ∈ wl := wl_t2 94 rfl rfl
theorem nd_FB_next_0 : decode nb_FB_next 0 = .ok (.aload_n 0, 1) := by decide +kernel
theorem nd_FB_next_1 : decode nb_FB_next 1 = .ok (.invokevirtual 39, 3) := by decide +kernel
theorem nd_FB_next_4 : decode nb_FB_next 4 = .ok (.aload_n 0, 1) := by decide +kernel
theorem nd_FB_next_5 : decode nb_FB_next 5 = .ok (.iload_n 1, 1) := by decide +kernel
theorem nd_FB_next_6 : decode nb_FB_next 6 = .ok (.invokevirtual 78, 3) := by decide +kernel
theorem nd_FB_next_9 : decode nb_FB_next 9 = .ok (.iload_n 2, 1) := by decide +kernel
theorem nd_FB_next_10 : decode nb_FB_next 10 = .ok (.iconst 0, 1) := by decide +kernel
theorem nd_FB_next_11 : decode nb_FB_next 11 = .ok (.invokestatic 82, 3) := by decide +kernel
theorem nd_FB_next_14 : decode nb_FB_next 14 = .ok (.istore_n 3, 1) := by decide +kernel
theorem nd_FB_next_15 : decode nb_FB_next 15 = .ok (.iload_n 3, 1) := by decide +kernel
theorem nd_FB_next_16 : decode nb_FB_next 16 = .ok (.bipush 64, 2) := by decide +kernel
theorem nd_FB_next_18 : decode nb_FB_next 18 = .ok (.if_icmp .ge 28, 3) := by decide +kernel
theorem nd_FB_next_21 : decode nb_FB_next 21 = .ok (.aload_n 0, 1) := by decide +kernel
theorem nd_FB_next_22 : decode nb_FB_next 22 = .ok (.getfield 10, 3) := by decide +kernel
theorem nd_FB_next_25 : decode nb_FB_next 25 = .ok (.aload_n 0, 1) := by decide +kernel
theorem nd_FB_next_26 : decode nb_FB_next 26 = .ok (.getfield 16, 3) := by decide +kernel
theorem nd_FB_next_29 : decode nb_FB_next 29 = .ok (.iload_n 1, 1) := by decide +kernel
theorem nd_FB_next_30 : decode nb_FB_next 30 = .ok (.iaload, 1) := by decide +kernel
theorem nd_FB_next_31 : decode nb_FB_next 31 = .ok (.iload_n 3, 1) := by decide +kernel
theorem nd_FB_next_32 : decode nb_FB_next 32 = .ok (.invokevirtual 53, 3) := by decide +kernel
theorem nd_FB_next_35 : decode nb_FB_next 35 = .ok (.ifCond .eq 5, 3) := by decide +kernel
theorem nd_FB_next_38 : decode nb_FB_next 38 = .ok (.iload_n 3, 1) := by decide +kernel
theorem nd_FB_next_39 : decode nb_FB_next 39 = .ok (.ireturn, 1) := by decide +kernel
theorem nd_FB_next_40 : decode nb_FB_next 40 = .ok (.iinc 3 1, 3) := by decide +kernel
theorem nd_FB_next_43 : decode nb_FB_next 43 = .ok (.goto (-28), 3) := by decide +kernel
theorem nd_FB_next_46 : decode nb_FB_next 46 = .ok (.iconst (-1), 1) := by decide +kernel
theorem nd_FB_next_47 : decode nb_FB_next 47 = .ok (.ireturn, 1) := by decide +kernel
abbrev nb_FB_count : ByteArray := prog_1_method_6_code
def ny_FB_count : MethodName := ⟨nr_FB, "count", "(I)I"⟩
theorem nc_FB_count : Cond.code ny_FB_count nb_FB_count 2 (some .int) ∈ wl := wl_t2 104 rfl rfl
theorem nd_FB_count_0 : decode nb_FB_count 0 = .ok (.aload_n 0, 1) := by decide +kernel
theorem nd_FB_count_1 : decode nb_FB_count 1 = .ok (.invokevirtual 39, 3) := by decide +kernel
theorem nd_FB_count_4 : decode nb_FB_count 4 = .ok (.aload_n 0, 1) := by decide +kernel
theorem nd_FB_count_5 : decode nb_FB_count 5 = .ok (.iload_n 1, 1) := by decide +kernel
theorem nd_FB_count_6 : decode nb_FB_count 6 = .ok (.invokevirtual 78, 3) := by decide +kernel
theorem nd_FB_count_9 : decode nb_FB_count 9 = .ok (.aload_n 0, 1) := by decide +kernel
theorem nd_FB_count_10 : decode nb_FB_count 10 = .ok (.aload_n 0, 1) := by decide +kernel
theorem nd_FB_count_11 : decode nb_FB_count 11 = .ok (.getfield 16, 3) := by decide +kernel
theorem nd_FB_count_14 : decode nb_FB_count 14 = .ok (.iload_n 1, 1) := by decide +kernel
theorem nd_FB_count_15 : decode nb_FB_count 15 = .ok (.iaload, 1) := by decide +kernel
theorem nd_FB_count_16 : decode nb_FB_count 16 = .ok (.invokevirtual 87, 3) := by decide +kernel
theorem nd_FB_count_19 : decode nb_FB_count 19 = .ok (.ireturn, 1) := by decide +kernel
abbrev nb_FB_nodes : ByteArray := prog_1_method_7_code
def ny_FB_nodes : MethodName := ⟨nr_FB, "nodes", "(I)I"⟩
theorem nc_FB_nodes : Cond.code ny_FB_nodes nb_FB_nodes 2 (some .int) ∈ wl := wl_t2 115 rfl rfl
theorem nd_FB_nodes_0 : decode nb_FB_nodes 0 = .ok (.aload_n 0, 1) := by decide +kernel
theorem nd_FB_nodes_1 : decode nb_FB_nodes 1 = .ok (.invokevirtual 39, 3) := by decide +kernel
theorem nd_FB_nodes_4 : decode nb_FB_nodes 4 = .ok (.aload_n 0, 1) := by decide +kernel
theorem nd_FB_nodes_5 : decode nb_FB_nodes 5 = .ok (.iload_n 1, 1) := by decide +kernel
theorem nd_FB_nodes_6 : decode nb_FB_nodes 6 = .ok (.invokevirtual 78, 3) := by decide +kernel
theorem nd_FB_nodes_9 : decode nb_FB_nodes 9 = .ok (.aload_n 0, 1) := by decide +kernel
theorem nd_FB_nodes_10 : decode nb_FB_nodes 10 = .ok (.getfield 10, 3) := by decide +kernel
theorem nd_FB_nodes_13 : decode nb_FB_nodes 13 = .ok (.invokevirtual 91, 3) := by decide +kernel
theorem nd_FB_nodes_16 : decode nb_FB_nodes 16 = .ok (.aload_n 0, 1) := by decide +kernel
theorem nd_FB_nodes_17 : decode nb_FB_nodes 17 = .ok (.getfield 10, 3) := by decide +kernel
theorem nd_FB_nodes_20 : decode nb_FB_nodes 20 = .ok (.aload_n 0, 1) := by decide +kernel
theorem nd_FB_nodes_21 : decode nb_FB_nodes 21 = .ok (.getfield 16, 3) := by decide +kernel
theorem nd_FB_nodes_24 : decode nb_FB_nodes 24 = .ok (.iload_n 1, 1) := by decide +kernel
theorem nd_FB_nodes_25 : decode nb_FB_nodes 25 = .ok (.iaload, 1) := by decide +kernel
theorem nd_FB_nodes_26 : decode nb_FB_nodes 26 = .ok (.invokevirtual 94, 3) := by decide +kernel
theorem nd_FB_nodes_29 : decode nb_FB_nodes 29 = .ok (.ireturn, 1) := by decide +kernel
abbrev nb_FB_shared : ByteArray := prog_1_method_8_code
def ny_FB_shared : MethodName := ⟨nr_FB, "shared", "(II)I"⟩
theorem nc_FB_shared : Cond.code ny_FB_shared nb_FB_shared 5 (some .int) ∈ wl := wl_t2 122 rfl rfl
theorem nd_FB_shared_0 : decode nb_FB_shared 0 = .ok (.aload_n 0, 1) := by decide +kernel
theorem nd_FB_shared_1 : decode nb_FB_shared 1 = .ok (.invokevirtual 39, 3) := by decide +kernel
theorem nd_FB_shared_4 : decode nb_FB_shared 4 = .ok (.aload_n 0, 1) := by decide +kernel
theorem nd_FB_shared_5 : decode nb_FB_shared 5 = .ok (.iload_n 1, 1) := by decide +kernel
theorem nd_FB_shared_6 : decode nb_FB_shared 6 = .ok (.invokevirtual 78, 3) := by decide +kernel
theorem nd_FB_shared_9 : decode nb_FB_shared 9 = .ok (.aload_n 0, 1) := by decide +kernel
theorem nd_FB_shared_10 : decode nb_FB_shared 10 = .ok (.iload_n 2, 1) := by decide +kernel
theorem nd_FB_shared_11 : decode nb_FB_shared 11 = .ok (.invokevirtual 78, 3) := by decide +kernel
theorem nd_FB_shared_14 : decode nb_FB_shared 14 = .ok (.aload_n 0, 1) := by decide +kernel
theorem nd_FB_shared_15 : decode nb_FB_shared 15 = .ok (.getfield 10, 3) := by decide +kernel
theorem nd_FB_shared_18 : decode nb_FB_shared 18 = .ok (.invokevirtual 91, 3) := by decide +kernel
theorem nd_FB_shared_21 : decode nb_FB_shared 21 = .ok (.aload_n 0, 1) := by decide +kernel
theorem nd_FB_shared_22 : decode nb_FB_shared 22 = .ok (.getfield 10, 3) := by decide +kernel
theorem nd_FB_shared_25 : decode nb_FB_shared 25 = .ok (.aload_n 0, 1) := by decide +kernel
theorem nd_FB_shared_26 : decode nb_FB_shared 26 = .ok (.getfield 16, 3) := by decide +kernel
theorem nd_FB_shared_29 : decode nb_FB_shared 29 = .ok (.iload_n 2, 1) := by decide +kernel
theorem nd_FB_shared_30 : decode nb_FB_shared 30 = .ok (.iaload, 1) := by decide +kernel
theorem nd_FB_shared_31 : decode nb_FB_shared 31 = .ok (.invokevirtual 94, 3) := by decide +kernel
theorem nd_FB_shared_34 : decode nb_FB_shared 34 = .ok (.istore_n 3, 1) := by decide +kernel
theorem nd_FB_shared_35 : decode nb_FB_shared 35 = .ok (.aload_n 0, 1) := by decide +kernel
theorem nd_FB_shared_36 : decode nb_FB_shared 36 = .ok (.getfield 10, 3) := by decide +kernel
theorem nd_FB_shared_39 : decode nb_FB_shared 39 = .ok (.invokevirtual 91, 3) := by decide +kernel
theorem nd_FB_shared_42 : decode nb_FB_shared 42 = .ok (.aload_n 0, 1) := by decide +kernel
theorem nd_FB_shared_43 : decode nb_FB_shared 43 = .ok (.getfield 10, 3) := by decide +kernel
theorem nd_FB_shared_46 : decode nb_FB_shared 46 = .ok (.aload_n 0, 1) := by decide +kernel
theorem nd_FB_shared_47 : decode nb_FB_shared 47 = .ok (.getfield 16, 3) := by decide +kernel
theorem nd_FB_shared_50 : decode nb_FB_shared 50 = .ok (.iload_n 1, 1) := by decide +kernel
theorem nd_FB_shared_51 : decode nb_FB_shared 51 = .ok (.iaload, 1) := by decide +kernel
theorem nd_FB_shared_52 : decode nb_FB_shared 52 = .ok (.invokevirtual 94, 3) := by decide +kernel
theorem nd_FB_shared_55 : decode nb_FB_shared 55 = .ok (.pop, 1) := by decide +kernel
theorem nd_FB_shared_56 : decode nb_FB_shared 56 = .ok (.aload_n 0, 1) := by decide +kernel
theorem nd_FB_shared_57 : decode nb_FB_shared 57 = .ok (.getfield 10, 3) := by decide +kernel
theorem nd_FB_shared_60 : decode nb_FB_shared 60 = .ok (.aload_n 0, 1) := by decide +kernel
theorem nd_FB_shared_61 : decode nb_FB_shared 61 = .ok (.getfield 16, 3) := by decide +kernel
theorem nd_FB_shared_64 : decode nb_FB_shared 64 = .ok (.iload_n 2, 1) := by decide +kernel
theorem nd_FB_shared_65 : decode nb_FB_shared 65 = .ok (.iaload, 1) := by decide +kernel
theorem nd_FB_shared_66 : decode nb_FB_shared 66 = .ok (.invokevirtual 94, 3) := by decide +kernel
theorem nd_FB_shared_69 : decode nb_FB_shared 69 = .ok (.istore 4, 2) := by decide +kernel
theorem nd_FB_shared_71 : decode nb_FB_shared 71 = .ok (.iload_n 3, 1) := by decide +kernel
theorem nd_FB_shared_72 : decode nb_FB_shared 72 = .ok (.iload 4, 2) := by decide +kernel
theorem nd_FB_shared_74 : decode nb_FB_shared 74 = .ok (.isub, 1) := by decide +kernel
theorem nd_FB_shared_75 : decode nb_FB_shared 75 = .ok (.ireturn, 1) := by decide +kernel
abbrev nb_FB_differ : ByteArray := prog_1_method_9_code
def ny_FB_differ : MethodName := ⟨nr_FB, "differ", "(II)I"⟩
theorem nc_FB_differ : Cond.code ny_FB_differ nb_FB_differ 5 (some .int) ∈ wl := wl_t2 129 rfl rfl
theorem nd_FB_differ_0 : decode nb_FB_differ 0 = .ok (.aload_n 0, 1) := by decide +kernel
theorem nd_FB_differ_1 : decode nb_FB_differ 1 = .ok (.invokevirtual 39, 3) := by decide +kernel
theorem nd_FB_differ_4 : decode nb_FB_differ 4 = .ok (.aload_n 0, 1) := by decide +kernel
theorem nd_FB_differ_5 : decode nb_FB_differ 5 = .ok (.iload_n 1, 1) := by decide +kernel
theorem nd_FB_differ_6 : decode nb_FB_differ 6 = .ok (.invokevirtual 78, 3) := by decide +kernel
theorem nd_FB_differ_9 : decode nb_FB_differ 9 = .ok (.aload_n 0, 1) := by decide +kernel
theorem nd_FB_differ_10 : decode nb_FB_differ 10 = .ok (.iload_n 2, 1) := by decide +kernel
theorem nd_FB_differ_11 : decode nb_FB_differ 11 = .ok (.invokevirtual 78, 3) := by decide +kernel
theorem nd_FB_differ_14 : decode nb_FB_differ 14 = .ok (.iconst 0, 1) := by decide +kernel
theorem nd_FB_differ_15 : decode nb_FB_differ 15 = .ok (.istore_n 3, 1) := by decide +kernel
theorem nd_FB_differ_16 : decode nb_FB_differ 16 = .ok (.iconst 0, 1) := by decide +kernel
theorem nd_FB_differ_17 : decode nb_FB_differ 17 = .ok (.istore 4, 2) := by decide +kernel
theorem nd_FB_differ_19 : decode nb_FB_differ 19 = .ok (.iload 4, 2) := by decide +kernel
theorem nd_FB_differ_21 : decode nb_FB_differ 21 = .ok (.bipush 64, 2) := by decide +kernel
theorem nd_FB_differ_23 : decode nb_FB_differ 23 = .ok (.if_icmp .ge 33, 3) := by decide +kernel
theorem nd_FB_differ_26 : decode nb_FB_differ 26 = .ok (.aload_n 0, 1) := by decide +kernel
theorem nd_FB_differ_27 : decode nb_FB_differ 27 = .ok (.aload_n 0, 1) := by decide +kernel
theorem nd_FB_differ_28 : decode nb_FB_differ 28 = .ok (.getfield 16, 3) := by decide +kernel
theorem nd_FB_differ_31 : decode nb_FB_differ 31 = .ok (.iload_n 1, 1) := by decide +kernel
theorem nd_FB_differ_32 : decode nb_FB_differ 32 = .ok (.iaload, 1) := by decide +kernel
theorem nd_FB_differ_33 : decode nb_FB_differ 33 = .ok (.aload_n 0, 1) := by decide +kernel
theorem nd_FB_differ_34 : decode nb_FB_differ 34 = .ok (.getfield 16, 3) := by decide +kernel
theorem nd_FB_differ_37 : decode nb_FB_differ 37 = .ok (.iload_n 2, 1) := by decide +kernel
theorem nd_FB_differ_38 : decode nb_FB_differ 38 = .ok (.iaload, 1) := by decide +kernel
theorem nd_FB_differ_39 : decode nb_FB_differ 39 = .ok (.iload 4, 2) := by decide +kernel
theorem nd_FB_differ_41 : decode nb_FB_differ 41 = .ok (.invokevirtual 97, 3) := by decide +kernel
theorem nd_FB_differ_44 : decode nb_FB_differ 44 = .ok (.ifCond .ne 6, 3) := by decide +kernel
theorem nd_FB_differ_47 : decode nb_FB_differ 47 = .ok (.iinc 3 1, 3) := by decide +kernel
theorem nd_FB_differ_50 : decode nb_FB_differ 50 = .ok (.iinc 4 1, 3) := by decide +kernel
theorem nd_FB_differ_53 : decode nb_FB_differ 53 = .ok (.goto (-34), 3) := by decide +kernel
theorem nd_FB_differ_56 : decode nb_FB_differ 56 = .ok (.iload_n 3, 1) := by decide +kernel
theorem nd_FB_differ_57 : decode nb_FB_differ 57 = .ok (.ireturn, 1) := by decide +kernel
abbrev nb_FB_snapshot : ByteArray := prog_1_method_10_code
def ny_FB_snapshot : MethodName := ⟨nr_FB, "snapshot", "()I"⟩
theorem nc_FB_snapshot : Cond.code ny_FB_snapshot nb_FB_snapshot 2 (some .int) ∈ wl := wl_t2 140 rfl rfl
theorem nd_FB_snapshot_0 : decode nb_FB_snapshot 0 = .ok (.aload_n 0, 1) := by decide +kernel
theorem nd_FB_snapshot_1 : decode nb_FB_snapshot 1 = .ok (.invokevirtual 39, 3) := by decide +kernel
theorem nd_FB_snapshot_4 : decode nb_FB_snapshot 4 = .ok (.aload_n 0, 1) := by decide +kernel
theorem nd_FB_snapshot_5 : decode nb_FB_snapshot 5 = .ok (.invokevirtual 101, 3) := by decide +kernel
theorem nd_FB_snapshot_8 : decode nb_FB_snapshot 8 = .ok (.istore_n 1, 1) := by decide +kernel
theorem nd_FB_snapshot_9 : decode nb_FB_snapshot 9 = .ok (.iload_n 1, 1) := by decide +kernel
theorem nd_FB_snapshot_10 : decode nb_FB_snapshot 10 = .ok (.iconst (-1), 1) := by decide +kernel
theorem nd_FB_snapshot_11 : decode nb_FB_snapshot 11 = .ok (.if_icmp .ne 13, 3) := by decide +kernel
theorem nd_FB_snapshot_14 : decode nb_FB_snapshot 14 = .ok (.new 105, 3) := by decide +kernel
theorem nd_FB_snapshot_17 : decode nb_FB_snapshot 17 = .ok (.dup, 1) := by decide +kernel
theorem nd_FB_snapshot_18 : decode nb_FB_snapshot 18 = .ok (.ldc 107, 2) := by decide +kernel
theorem nd_FB_snapshot_20 : decode nb_FB_snapshot 20 = .ok (.invokespecial 109, 3) := by decide +kernel
theorem nd_FB_snapshot_23 : decode nb_FB_snapshot 23 = .ok (.athrow, 1) := by decide +kernel
theorem nd_FB_snapshot_24 : decode nb_FB_snapshot 24 = .ok (.aload_n 0, 1) := by decide +kernel
theorem nd_FB_snapshot_25 : decode nb_FB_snapshot 25 = .ok (.getfield 16, 3) := by decide +kernel
theorem nd_FB_snapshot_28 : decode nb_FB_snapshot 28 = .ok (.iload_n 1, 1) := by decide +kernel
theorem nd_FB_snapshot_29 : decode nb_FB_snapshot 29 = .ok (.aload_n 0, 1) := by decide +kernel
theorem nd_FB_snapshot_30 : decode nb_FB_snapshot 30 = .ok (.getfield 16, 3) := by decide +kernel
theorem nd_FB_snapshot_33 : decode nb_FB_snapshot 33 = .ok (.iconst 0, 1) := by decide +kernel
theorem nd_FB_snapshot_34 : decode nb_FB_snapshot 34 = .ok (.iaload, 1) := by decide +kernel
theorem nd_FB_snapshot_35 : decode nb_FB_snapshot 35 = .ok (.iastore, 1) := by decide +kernel
theorem nd_FB_snapshot_36 : decode nb_FB_snapshot 36 = .ok (.aload_n 0, 1) := by decide +kernel
theorem nd_FB_snapshot_37 : decode nb_FB_snapshot 37 = .ok (.getfield 10, 3) := by decide +kernel
theorem nd_FB_snapshot_40 : decode nb_FB_snapshot 40 = .ok (.invokevirtual 110, 3) := by decide +kernel
theorem nd_FB_snapshot_43 : decode nb_FB_snapshot 43 = .ok (.iload_n 1, 1) := by decide +kernel
theorem nd_FB_snapshot_44 : decode nb_FB_snapshot 44 = .ok (.ireturn, 1) := by decide +kernel
abbrev nb_FB_rollback : ByteArray := prog_1_method_11_code
def ny_FB_rollback : MethodName := ⟨nr_FB, "rollback", "(I)I"⟩
theorem nc_FB_rollback : Cond.code ny_FB_rollback nb_FB_rollback 2 (some .int) ∈ wl := wl_t2 156 rfl rfl
theorem nd_FB_rollback_0 : decode nb_FB_rollback 0 = .ok (.aload_n 0, 1) := by decide +kernel
theorem nd_FB_rollback_1 : decode nb_FB_rollback 1 = .ok (.invokevirtual 39, 3) := by decide +kernel
theorem nd_FB_rollback_4 : decode nb_FB_rollback 4 = .ok (.aload_n 0, 1) := by decide +kernel
theorem nd_FB_rollback_5 : decode nb_FB_rollback 5 = .ok (.iload_n 1, 1) := by decide +kernel
theorem nd_FB_rollback_6 : decode nb_FB_rollback 6 = .ok (.invokevirtual 113, 3) := by decide +kernel
theorem nd_FB_rollback_9 : decode nb_FB_rollback 9 = .ok (.aload_n 0, 1) := by decide +kernel
theorem nd_FB_rollback_10 : decode nb_FB_rollback 10 = .ok (.getfield 16, 3) := by decide +kernel
theorem nd_FB_rollback_13 : decode nb_FB_rollback 13 = .ok (.iconst 0, 1) := by decide +kernel
theorem nd_FB_rollback_14 : decode nb_FB_rollback 14 = .ok (.aload_n 0, 1) := by decide +kernel
theorem nd_FB_rollback_15 : decode nb_FB_rollback 15 = .ok (.getfield 16, 3) := by decide +kernel
theorem nd_FB_rollback_18 : decode nb_FB_rollback 18 = .ok (.iload_n 1, 1) := by decide +kernel
theorem nd_FB_rollback_19 : decode nb_FB_rollback 19 = .ok (.iaload, 1) := by decide +kernel
theorem nd_FB_rollback_20 : decode nb_FB_rollback 20 = .ok (.iastore, 1) := by decide +kernel
theorem nd_FB_rollback_21 : decode nb_FB_rollback 21 = .ok (.aload_n 0, 1) := by decide +kernel
theorem nd_FB_rollback_22 : decode nb_FB_rollback 22 = .ok (.aload_n 0, 1) := by decide +kernel
theorem nd_FB_rollback_23 : decode nb_FB_rollback 23 = .ok (.getfield 16, 3) := by decide +kernel
theorem nd_FB_rollback_26 : decode nb_FB_rollback 26 = .ok (.iconst 0, 1) := by decide +kernel
theorem nd_FB_rollback_27 : decode nb_FB_rollback 27 = .ok (.iaload, 1) := by decide +kernel
theorem nd_FB_rollback_28 : decode nb_FB_rollback 28 = .ok (.invokevirtual 87, 3) := by decide +kernel
theorem nd_FB_rollback_31 : decode nb_FB_rollback 31 = .ok (.ireturn, 1) := by decide +kernel
abbrev nb_FB_drop : ByteArray := prog_1_method_12_code
def ny_FB_drop : MethodName := ⟨nr_FB, "drop", "(I)I"⟩
theorem nc_FB_drop : Cond.code ny_FB_drop nb_FB_drop 3 (some .int) ∈ wl := wl_t2 168 rfl rfl
theorem nd_FB_drop_0 : decode nb_FB_drop 0 = .ok (.aload_n 0, 1) := by decide +kernel
theorem nd_FB_drop_1 : decode nb_FB_drop 1 = .ok (.invokevirtual 39, 3) := by decide +kernel
theorem nd_FB_drop_4 : decode nb_FB_drop 4 = .ok (.aload_n 0, 1) := by decide +kernel
theorem nd_FB_drop_5 : decode nb_FB_drop 5 = .ok (.iload_n 1, 1) := by decide +kernel
theorem nd_FB_drop_6 : decode nb_FB_drop 6 = .ok (.invokevirtual 113, 3) := by decide +kernel
theorem nd_FB_drop_9 : decode nb_FB_drop 9 = .ok (.aload_n 0, 1) := by decide +kernel
theorem nd_FB_drop_10 : decode nb_FB_drop 10 = .ok (.invokevirtual 116, 3) := by decide +kernel
theorem nd_FB_drop_13 : decode nb_FB_drop 13 = .ok (.istore_n 2, 1) := by decide +kernel
theorem nd_FB_drop_14 : decode nb_FB_drop 14 = .ok (.aload_n 0, 1) := by decide +kernel
theorem nd_FB_drop_15 : decode nb_FB_drop 15 = .ok (.getfield 16, 3) := by decide +kernel
theorem nd_FB_drop_18 : decode nb_FB_drop 18 = .ok (.iload_n 1, 1) := by decide +kernel
theorem nd_FB_drop_19 : decode nb_FB_drop 19 = .ok (.iconst (-1), 1) := by decide +kernel
theorem nd_FB_drop_20 : decode nb_FB_drop 20 = .ok (.iastore, 1) := by decide +kernel
theorem nd_FB_drop_21 : decode nb_FB_drop 21 = .ok (.aload_n 0, 1) := by decide +kernel
theorem nd_FB_drop_22 : decode nb_FB_drop 22 = .ok (.invokevirtual 116, 3) := by decide +kernel
theorem nd_FB_drop_25 : decode nb_FB_drop 25 = .ok (.iload_n 2, 1) := by decide +kernel
theorem nd_FB_drop_26 : decode nb_FB_drop 26 = .ok (.isub, 1) := by decide +kernel
theorem nd_FB_drop_27 : decode nb_FB_drop 27 = .ok (.ireturn, 1) := by decide +kernel
abbrev nb_FB_commit : ByteArray := prog_1_method_13_code
def ny_FB_commit : MethodName := ⟨nr_FB, "commit", "()I"⟩
theorem nc_FB_commit : Cond.code ny_FB_commit nb_FB_commit 2 (some .int) ∈ wl := wl_t2 175 rfl rfl
theorem nd_FB_commit_0 : decode nb_FB_commit 0 = .ok (.aload_n 0, 1) := by decide +kernel
theorem nd_FB_commit_1 : decode nb_FB_commit 1 = .ok (.invokevirtual 39, 3) := by decide +kernel
theorem nd_FB_commit_4 : decode nb_FB_commit 4 = .ok (.aload_n 0, 1) := by decide +kernel
theorem nd_FB_commit_5 : decode nb_FB_commit 5 = .ok (.invokevirtual 119, 3) := by decide +kernel
theorem nd_FB_commit_8 : decode nb_FB_commit 8 = .ok (.istore_n 1, 1) := by decide +kernel
theorem nd_FB_commit_9 : decode nb_FB_commit 9 = .ok (.aload_n 0, 1) := by decide +kernel
theorem nd_FB_commit_10 : decode nb_FB_commit 10 = .ok (.iload_n 1, 1) := by decide +kernel
theorem nd_FB_commit_11 : decode nb_FB_commit 11 = .ok (.invokevirtual 122, 3) := by decide +kernel
theorem nd_FB_commit_14 : decode nb_FB_commit 14 = .ok (.ifCond .eq 17, 3) := by decide +kernel
theorem nd_FB_commit_17 : decode nb_FB_commit 17 = .ok (.aload_n 0, 1) := by decide +kernel
theorem nd_FB_commit_18 : decode nb_FB_commit 18 = .ok (.invokevirtual 125, 3) := by decide +kernel
theorem nd_FB_commit_21 : decode nb_FB_commit 21 = .ok (.new 128, 3) := by decide +kernel
theorem nd_FB_commit_24 : decode nb_FB_commit 24 = .ok (.dup, 1) := by decide +kernel
theorem nd_FB_commit_25 : decode nb_FB_commit 25 = .ok (.ldc 130, 2) := by decide +kernel
theorem nd_FB_commit_27 : decode nb_FB_commit 27 = .ok (.invokespecial 132, 3) := by decide +kernel
theorem nd_FB_commit_30 : decode nb_FB_commit 30 = .ok (.athrow, 1) := by decide +kernel
theorem nd_FB_commit_31 : decode nb_FB_commit 31 = .ok (.aload_n 0, 1) := by decide +kernel
theorem nd_FB_commit_32 : decode nb_FB_commit 32 = .ok (.getfield 23, 3) := by decide +kernel
theorem nd_FB_commit_35 : decode nb_FB_commit 35 = .ok (.iconst (-1), 1) := by decide +kernel
theorem nd_FB_commit_36 : decode nb_FB_commit 36 = .ok (.if_icmp .eq 13, 3) := by decide +kernel
theorem nd_FB_commit_39 : decode nb_FB_commit 39 = .ok (.aload_n 0, 1) := by decide +kernel
theorem nd_FB_commit_40 : decode nb_FB_commit 40 = .ok (.dup, 1) := by decide +kernel
theorem nd_FB_commit_41 : decode nb_FB_commit 41 = .ok (.getfield 23, 3) := by decide +kernel
theorem nd_FB_commit_44 : decode nb_FB_commit 44 = .ok (.iload_n 1, 1) := by decide +kernel
theorem nd_FB_commit_45 : decode nb_FB_commit 45 = .ok (.isub, 1) := by decide +kernel
theorem nd_FB_commit_46 : decode nb_FB_commit 46 = .ok (.putfield 23, 3) := by decide +kernel
theorem nd_FB_commit_49 : decode nb_FB_commit 49 = .ok (.aload_n 0, 1) := by decide +kernel
theorem nd_FB_commit_50 : decode nb_FB_commit 50 = .ok (.dup, 1) := by decide +kernel
theorem nd_FB_commit_51 : decode nb_FB_commit 51 = .ok (.getfield 133, 3) := by decide +kernel
theorem nd_FB_commit_54 : decode nb_FB_commit 54 = .ok (.iload_n 1, 1) := by decide +kernel
theorem nd_FB_commit_55 : decode nb_FB_commit 55 = .ok (.iadd, 1) := by decide +kernel
theorem nd_FB_commit_56 : decode nb_FB_commit 56 = .ok (.putfield 133, 3) := by decide +kernel
theorem nd_FB_commit_59 : decode nb_FB_commit 59 = .ok (.aload_n 0, 1) := by decide +kernel
theorem nd_FB_commit_60 : decode nb_FB_commit 60 = .ok (.getfield 16, 3) := by decide +kernel
theorem nd_FB_commit_63 : decode nb_FB_commit 63 = .ok (.iconst 0, 1) := by decide +kernel
theorem nd_FB_commit_64 : decode nb_FB_commit 64 = .ok (.aload_n 0, 1) := by decide +kernel
theorem nd_FB_commit_65 : decode nb_FB_commit 65 = .ok (.getfield 20, 3) := by decide +kernel
theorem nd_FB_commit_68 : decode nb_FB_commit 68 = .ok (.iconst 0, 1) := by decide +kernel
theorem nd_FB_commit_69 : decode nb_FB_commit 69 = .ok (.aload_n 0, 1) := by decide +kernel
theorem nd_FB_commit_70 : decode nb_FB_commit 70 = .ok (.getfield 16, 3) := by decide +kernel
theorem nd_FB_commit_73 : decode nb_FB_commit 73 = .ok (.arraylength, 1) := by decide +kernel
theorem nd_FB_commit_74 : decode nb_FB_commit 74 = .ok (.invokestatic 33, 3) := by decide +kernel
theorem nd_FB_commit_77 : decode nb_FB_commit 77 = .ok (.aload_n 0, 1) := by decide +kernel
theorem nd_FB_commit_78 : decode nb_FB_commit 78 = .ok (.getfield 10, 3) := by decide +kernel
theorem nd_FB_commit_81 : decode nb_FB_commit 81 = .ok (.invokevirtual 110, 3) := by decide +kernel
theorem nd_FB_commit_84 : decode nb_FB_commit 84 = .ok (.iload_n 1, 1) := by decide +kernel
theorem nd_FB_commit_85 : decode nb_FB_commit 85 = .ok (.ireturn, 1) := by decide +kernel
abbrev nb_FB_free : ByteArray := prog_1_method_14_code
def ny_FB_free : MethodName := ⟨nr_FB, "free", "()I"⟩
theorem nc_FB_free : Cond.code ny_FB_free nb_FB_free 1 (some .int) ∈ wl := wl_t2 195 rfl rfl
theorem nd_FB_free_0 : decode nb_FB_free 0 = .ok (.aload_n 0, 1) := by decide +kernel
theorem nd_FB_free_1 : decode nb_FB_free 1 = .ok (.invokevirtual 39, 3) := by decide +kernel
theorem nd_FB_free_4 : decode nb_FB_free 4 = .ok (.aload_n 0, 1) := by decide +kernel
theorem nd_FB_free_5 : decode nb_FB_free 5 = .ok (.invokevirtual 116, 3) := by decide +kernel
theorem nd_FB_free_8 : decode nb_FB_free 8 = .ok (.ireturn, 1) := by decide +kernel
abbrev nb_FB_due : ByteArray := prog_1_method_15_code
def ny_FB_due : MethodName := ⟨nr_FB, "due", "()I"⟩
theorem nc_FB_due : Cond.code ny_FB_due nb_FB_due 1 (some .int) ∈ wl := wl_t2 202 rfl rfl
theorem nd_FB_due_0 : decode nb_FB_due 0 = .ok (.aload_n 0, 1) := by decide +kernel
theorem nd_FB_due_1 : decode nb_FB_due 1 = .ok (.invokevirtual 39, 3) := by decide +kernel
theorem nd_FB_due_4 : decode nb_FB_due 4 = .ok (.aload_n 0, 1) := by decide +kernel
theorem nd_FB_due_5 : decode nb_FB_due 5 = .ok (.invokevirtual 119, 3) := by decide +kernel
theorem nd_FB_due_8 : decode nb_FB_due 8 = .ok (.ireturn, 1) := by decide +kernel
abbrev nb_FB_order : ByteArray := prog_1_method_16_code
def ny_FB_order : MethodName := ⟨nr_FB, "order", "(I)Z"⟩
theorem nc_FB_order : Cond.code ny_FB_order nb_FB_order 2 (some .boolean) ∈ wl := wl_t1 73 rfl rfl
theorem nd_FB_order_0 : decode nb_FB_order 0 = .ok (.iload_n 1, 1) := by decide +kernel
theorem nd_FB_order_1 : decode nb_FB_order 1 = .ok (.ifCond .lt 9, 3) := by decide +kernel
theorem nd_FB_order_4 : decode nb_FB_order 4 = .ok (.iload_n 1, 1) := by decide +kernel
theorem nd_FB_order_5 : decode nb_FB_order 5 = .ok (.bipush 100, 2) := by decide +kernel
theorem nd_FB_order_7 : decode nb_FB_order 7 = .ok (.if_icmp .le 5, 3) := by decide +kernel
theorem nd_FB_order_10 : decode nb_FB_order 10 = .ok (.iconst 0, 1) := by decide +kernel
theorem nd_FB_order_11 : decode nb_FB_order 11 = .ok (.ireturn, 1) := by decide +kernel
theorem nd_FB_order_12 : decode nb_FB_order 12 = .ok (.aload_n 0, 1) := by decide +kernel
theorem nd_FB_order_13 : decode nb_FB_order 13 = .ok (.iload_n 1, 1) := by decide +kernel
theorem nd_FB_order_14 : decode nb_FB_order 14 = .ok (.putfield 23, 3) := by decide +kernel
theorem nd_FB_order_17 : decode nb_FB_order 17 = .ok (.iconst 1, 1) := by decide +kernel
theorem nd_FB_order_18 : decode nb_FB_order 18 = .ok (.ireturn, 1) := by decide +kernel
abbrev nb_FB_recover : ByteArray := prog_1_method_17_code
def ny_FB_recover : MethodName := ⟨nr_FB, "recover", "()I"⟩
theorem nc_FB_recover : Cond.code ny_FB_recover nb_FB_recover 1 (some .int) ∈ wl := wl_t1 77 rfl rfl
theorem nd_FB_recover_0 : decode nb_FB_recover 0 = .ok (.aload_n 0, 1) := by decide +kernel
theorem nd_FB_recover_1 : decode nb_FB_recover 1 = .ok (.getfield 136, 3) := by decide +kernel
theorem nd_FB_recover_4 : decode nb_FB_recover 4 = .ok (.ifCond .ne 5, 3) := by decide +kernel
theorem nd_FB_recover_7 : decode nb_FB_recover 7 = .ok (.iconst (-1), 1) := by decide +kernel
theorem nd_FB_recover_8 : decode nb_FB_recover 8 = .ok (.ireturn, 1) := by decide +kernel
theorem nd_FB_recover_9 : decode nb_FB_recover 9 = .ok (.aload_n 0, 1) := by decide +kernel
theorem nd_FB_recover_10 : decode nb_FB_recover 10 = .ok (.getfield 20, 3) := by decide +kernel
theorem nd_FB_recover_13 : decode nb_FB_recover 13 = .ok (.iconst 0, 1) := by decide +kernel
theorem nd_FB_recover_14 : decode nb_FB_recover 14 = .ok (.aload_n 0, 1) := by decide +kernel
theorem nd_FB_recover_15 : decode nb_FB_recover 15 = .ok (.getfield 16, 3) := by decide +kernel
theorem nd_FB_recover_18 : decode nb_FB_recover 18 = .ok (.iconst 0, 1) := by decide +kernel
theorem nd_FB_recover_19 : decode nb_FB_recover 19 = .ok (.aload_n 0, 1) := by decide +kernel
theorem nd_FB_recover_20 : decode nb_FB_recover 20 = .ok (.getfield 16, 3) := by decide +kernel
theorem nd_FB_recover_23 : decode nb_FB_recover 23 = .ok (.arraylength, 1) := by decide +kernel
theorem nd_FB_recover_24 : decode nb_FB_recover 24 = .ok (.invokestatic 33, 3) := by decide +kernel
theorem nd_FB_recover_27 : decode nb_FB_recover 27 = .ok (.aload_n 0, 1) := by decide +kernel
theorem nd_FB_recover_28 : decode nb_FB_recover 28 = .ok (.iconst 0, 1) := by decide +kernel
theorem nd_FB_recover_29 : decode nb_FB_recover 29 = .ok (.putfield 136, 3) := by decide +kernel
theorem nd_FB_recover_32 : decode nb_FB_recover 32 = .ok (.aload_n 0, 1) := by decide +kernel
theorem nd_FB_recover_33 : decode nb_FB_recover 33 = .ok (.invokevirtual 140, 3) := by decide +kernel
theorem nd_FB_recover_36 : decode nb_FB_recover 36 = .ok (.ireturn, 1) := by decide +kernel
abbrev nb_FB_writes : ByteArray := prog_1_method_18_code
def ny_FB_writes : MethodName := ⟨nr_FB, "writes", "()I"⟩
theorem nc_FB_writes : Cond.code ny_FB_writes nb_FB_writes 1 (some .int) ∈ wl := wl_t1 85 rfl rfl
theorem nd_FB_writes_0 : decode nb_FB_writes 0 = .ok (.aload_n 0, 1) := by decide +kernel
theorem nd_FB_writes_1 : decode nb_FB_writes 1 = .ok (.getfield 133, 3) := by decide +kernel
theorem nd_FB_writes_4 : decode nb_FB_writes 4 = .ok (.ireturn, 1) := by decide +kernel
abbrev nb_FB_down : ByteArray := prog_1_method_19_code
def ny_FB_down : MethodName := ⟨nr_FB, "down", "()Z"⟩
theorem nc_FB_down : Cond.code ny_FB_down nb_FB_down 1 (some .boolean) ∈ wl := wl_t1 89 rfl rfl
theorem nd_FB_down_0 : decode nb_FB_down 0 = .ok (.aload_n 0, 1) := by decide +kernel
theorem nd_FB_down_1 : decode nb_FB_down 1 = .ok (.getfield 136, 3) := by decide +kernel
theorem nd_FB_down_4 : decode nb_FB_down 4 = .ok (.ireturn, 1) := by decide +kernel
abbrev nb_FB_requireUp : ByteArray := prog_1_method_20_code
def ny_FB_requireUp : MethodName := ⟨nr_FB, "requireUp", "()V"⟩
theorem nc_FB_requireUp : Cond.code ny_FB_requireUp nb_FB_requireUp 1 none ∈ wl := wl_t1 103 rfl rfl
theorem nd_FB_requireUp_0 : decode nb_FB_requireUp 0 = .ok (.aload_n 0, 1) := by decide +kernel
theorem nd_FB_requireUp_1 : decode nb_FB_requireUp 1 = .ok (.getfield 136, 3) := by decide +kernel
theorem nd_FB_requireUp_4 : decode nb_FB_requireUp 4 = .ok (.ifCond .eq 13, 3) := by decide +kernel
theorem nd_FB_requireUp_7 : decode nb_FB_requireUp 7 = .ok (.new 128, 3) := by decide +kernel
theorem nd_FB_requireUp_10 : decode nb_FB_requireUp 10 = .ok (.dup, 1) := by decide +kernel
theorem nd_FB_requireUp_11 : decode nb_FB_requireUp 11 = .ok (.ldc 143, 2) := by decide +kernel
theorem nd_FB_requireUp_13 : decode nb_FB_requireUp 13 = .ok (.invokespecial 132, 3) := by decide +kernel
theorem nd_FB_requireUp_16 : decode nb_FB_requireUp 16 = .ok (.athrow, 1) := by decide +kernel
theorem nd_FB_requireUp_17 : decode nb_FB_requireUp 17 = .ok (.return_, 1) := by decide +kernel
abbrev nb_FB_requireMap : ByteArray := prog_1_method_21_code
def ny_FB_requireMap : MethodName := ⟨nr_FB, "requireMap", "(I)V"⟩
theorem nc_FB_requireMap : Cond.code ny_FB_requireMap nb_FB_requireMap 2 none ∈ wl := wl_t2 82 rfl rfl
theorem nd_FB_requireMap_0 : decode nb_FB_requireMap 0 = .ok (.aload_n 0, 1) := by decide +kernel
theorem nd_FB_requireMap_1 : decode nb_FB_requireMap 1 = .ok (.iload_n 1, 1) := by decide +kernel
theorem nd_FB_requireMap_2 : decode nb_FB_requireMap 2 = .ok (.invokevirtual 145, 3) := by decide +kernel
theorem nd_FB_requireMap_5 : decode nb_FB_requireMap 5 = .ok (.ifCond .ne 13, 3) := by decide +kernel
theorem nd_FB_requireMap_8 : decode nb_FB_requireMap 8 = .ok (.new 46, 3) := by decide +kernel
theorem nd_FB_requireMap_11 : decode nb_FB_requireMap 11 = .ok (.dup, 1) := by decide +kernel
theorem nd_FB_requireMap_12 : decode nb_FB_requireMap 12 = .ok (.ldc 148, 2) := by decide +kernel
theorem nd_FB_requireMap_14 : decode nb_FB_requireMap 14 = .ok (.invokespecial 50, 3) := by decide +kernel
theorem nd_FB_requireMap_17 : decode nb_FB_requireMap 17 = .ok (.athrow, 1) := by decide +kernel
theorem nd_FB_requireMap_18 : decode nb_FB_requireMap 18 = .ok (.return_, 1) := by decide +kernel
abbrev nb_FB_requireSnapshot : ByteArray := prog_1_method_22_code
def ny_FB_requireSnapshot : MethodName := ⟨nr_FB, "requireSnapshot", "(I)V"⟩
theorem nc_FB_requireSnapshot : Cond.code ny_FB_requireSnapshot nb_FB_requireSnapshot 2 none ∈ wl := wl_t2 160 rfl rfl
theorem nd_FB_requireSnapshot_0 : decode nb_FB_requireSnapshot 0 = .ok (.iload_n 1, 1) := by decide +kernel
theorem nd_FB_requireSnapshot_1 : decode nb_FB_requireSnapshot 1 = .ok (.ifCond .eq 11, 3) := by decide +kernel
theorem nd_FB_requireSnapshot_4 : decode nb_FB_requireSnapshot 4 = .ok (.aload_n 0, 1) := by decide +kernel
theorem nd_FB_requireSnapshot_5 : decode nb_FB_requireSnapshot 5 = .ok (.iload_n 1, 1) := by decide +kernel
theorem nd_FB_requireSnapshot_6 : decode nb_FB_requireSnapshot 6 = .ok (.invokevirtual 145, 3) := by decide +kernel
theorem nd_FB_requireSnapshot_9 : decode nb_FB_requireSnapshot 9 = .ok (.ifCond .ne 13, 3) := by decide +kernel
theorem nd_FB_requireSnapshot_12 : decode nb_FB_requireSnapshot 12 = .ok (.new 46, 3) := by decide +kernel
theorem nd_FB_requireSnapshot_15 : decode nb_FB_requireSnapshot 15 = .ok (.dup, 1) := by decide +kernel
theorem nd_FB_requireSnapshot_16 : decode nb_FB_requireSnapshot 16 = .ok (.ldc 150, 2) := by decide +kernel
theorem nd_FB_requireSnapshot_18 : decode nb_FB_requireSnapshot 18 = .ok (.invokespecial 50, 3) := by decide +kernel
theorem nd_FB_requireSnapshot_21 : decode nb_FB_requireSnapshot 21 = .ok (.athrow, 1) := by decide +kernel
theorem nd_FB_requireSnapshot_22 : decode nb_FB_requireSnapshot 22 = .ok (.return_, 1) := by decide +kernel
abbrev nb_FB_requireBound : ByteArray := prog_1_method_23_code
def ny_FB_requireBound : MethodName := ⟨nr_FB, "requireBound", "(II)V"⟩
theorem nc_FB_requireBound : Cond.code ny_FB_requireBound nb_FB_requireBound 3 none ∈ wl := wl_t2 43 rfl rfl
theorem nd_FB_requireBound_0 : decode nb_FB_requireBound 0 = .ok (.aload_n 0, 1) := by decide +kernel
theorem nd_FB_requireBound_1 : decode nb_FB_requireBound 1 = .ok (.iload_n 2, 1) := by decide +kernel
theorem nd_FB_requireBound_2 : decode nb_FB_requireBound 2 = .ok (.invokevirtual 42, 3) := by decide +kernel
theorem nd_FB_requireBound_5 : decode nb_FB_requireBound 5 = .ok (.ifCond .eq 15, 3) := by decide +kernel
theorem nd_FB_requireBound_8 : decode nb_FB_requireBound 8 = .ok (.aload_n 0, 1) := by decide +kernel
theorem nd_FB_requireBound_9 : decode nb_FB_requireBound 9 = .ok (.getfield 10, 3) := by decide +kernel
theorem nd_FB_requireBound_12 : decode nb_FB_requireBound 12 = .ok (.iload_n 1, 1) := by decide +kernel
theorem nd_FB_requireBound_13 : decode nb_FB_requireBound 13 = .ok (.iload_n 2, 1) := by decide +kernel
theorem nd_FB_requireBound_14 : decode nb_FB_requireBound 14 = .ok (.invokevirtual 53, 3) := by decide +kernel
theorem nd_FB_requireBound_17 : decode nb_FB_requireBound 17 = .ok (.ifCond .ne 13, 3) := by decide +kernel
theorem nd_FB_requireBound_20 : decode nb_FB_requireBound 20 = .ok (.new 152, 3) := by decide +kernel
theorem nd_FB_requireBound_23 : decode nb_FB_requireBound 23 = .ok (.dup, 1) := by decide +kernel
theorem nd_FB_requireBound_24 : decode nb_FB_requireBound 24 = .ok (.ldc 154, 2) := by decide +kernel
theorem nd_FB_requireBound_26 : decode nb_FB_requireBound 26 = .ok (.invokespecial 156, 3) := by decide +kernel
theorem nd_FB_requireBound_29 : decode nb_FB_requireBound 29 = .ok (.athrow, 1) := by decide +kernel
theorem nd_FB_requireBound_30 : decode nb_FB_requireBound 30 = .ok (.return_, 1) := by decide +kernel
abbrev nb_FB_ownCurrentPath : ByteArray := prog_1_method_24_code
def ny_FB_ownCurrentPath : MethodName := ⟨nr_FB, "ownCurrentPath", "(II)V"⟩
theorem nc_FB_ownCurrentPath : Cond.code ny_FB_ownCurrentPath nb_FB_ownCurrentPath 4 none ∈ wl := wl_t1 214 rfl rfl
theorem nd_FB_ownCurrentPath_0 : decode nb_FB_ownCurrentPath 0 = .ok (.aload_n 0, 1) := by decide +kernel
theorem nd_FB_ownCurrentPath_1 : decode nb_FB_ownCurrentPath 1 = .ok (.invokevirtual 116, 3) := by decide +kernel
theorem nd_FB_ownCurrentPath_4 : decode nb_FB_ownCurrentPath 4 = .ok (.istore_n 3, 1) := by decide +kernel
theorem nd_FB_ownCurrentPath_5 : decode nb_FB_ownCurrentPath 5 = .ok (.aload_n 0, 1) := by decide +kernel
theorem nd_FB_ownCurrentPath_6 : decode nb_FB_ownCurrentPath 6 = .ok (.getfield 10, 3) := by decide +kernel
theorem nd_FB_ownCurrentPath_9 : decode nb_FB_ownCurrentPath 9 = .ok (.aload_n 0, 1) := by decide +kernel
theorem nd_FB_ownCurrentPath_10 : decode nb_FB_ownCurrentPath 10 = .ok (.getfield 16, 3) := by decide +kernel
theorem nd_FB_ownCurrentPath_13 : decode nb_FB_ownCurrentPath 13 = .ok (.iconst 0, 1) := by decide +kernel
theorem nd_FB_ownCurrentPath_14 : decode nb_FB_ownCurrentPath 14 = .ok (.iaload, 1) := by decide +kernel
theorem nd_FB_ownCurrentPath_15 : decode nb_FB_ownCurrentPath 15 = .ok (.iload_n 1, 1) := by decide +kernel
theorem nd_FB_ownCurrentPath_16 : decode nb_FB_ownCurrentPath 16 = .ok (.iload_n 2, 1) := by decide +kernel
theorem nd_FB_ownCurrentPath_17 : decode nb_FB_ownCurrentPath 17 = .ok (.invokevirtual 157, 3) := by decide +kernel
theorem nd_FB_ownCurrentPath_20 : decode nb_FB_ownCurrentPath 20 = .ok (.iload_n 3, 1) := by decide +kernel
theorem nd_FB_ownCurrentPath_21 : decode nb_FB_ownCurrentPath 21 = .ok (.if_icmp .le 13, 3) := by decide +kernel
theorem nd_FB_ownCurrentPath_24 : decode nb_FB_ownCurrentPath 24 = .ok (.new 105, 3) := by decide +kernel
theorem nd_FB_ownCurrentPath_27 : decode nb_FB_ownCurrentPath 27 = .ok (.dup, 1) := by decide +kernel
theorem nd_FB_ownCurrentPath_28 : decode nb_FB_ownCurrentPath 28 = .ok (.ldc 161, 2) := by decide +kernel
theorem nd_FB_ownCurrentPath_30 : decode nb_FB_ownCurrentPath 30 = .ok (.invokespecial 109, 3) := by decide +kernel
theorem nd_FB_ownCurrentPath_33 : decode nb_FB_ownCurrentPath 33 = .ok (.athrow, 1) := by decide +kernel
theorem nd_FB_ownCurrentPath_34 : decode nb_FB_ownCurrentPath 34 = .ok (.aload_n 0, 1) := by decide +kernel
theorem nd_FB_ownCurrentPath_35 : decode nb_FB_ownCurrentPath 35 = .ok (.getfield 16, 3) := by decide +kernel
theorem nd_FB_ownCurrentPath_38 : decode nb_FB_ownCurrentPath 38 = .ok (.iconst 0, 1) := by decide +kernel
theorem nd_FB_ownCurrentPath_39 : decode nb_FB_ownCurrentPath 39 = .ok (.aload_n 0, 1) := by decide +kernel
theorem nd_FB_ownCurrentPath_40 : decode nb_FB_ownCurrentPath 40 = .ok (.getfield 10, 3) := by decide +kernel
theorem nd_FB_ownCurrentPath_43 : decode nb_FB_ownCurrentPath 43 = .ok (.aload_n 0, 1) := by decide +kernel
theorem nd_FB_ownCurrentPath_44 : decode nb_FB_ownCurrentPath 44 = .ok (.getfield 16, 3) := by decide +kernel
theorem nd_FB_ownCurrentPath_47 : decode nb_FB_ownCurrentPath 47 = .ok (.iconst 0, 1) := by decide +kernel
theorem nd_FB_ownCurrentPath_48 : decode nb_FB_ownCurrentPath 48 = .ok (.iaload, 1) := by decide +kernel
theorem nd_FB_ownCurrentPath_49 : decode nb_FB_ownCurrentPath 49 = .ok (.iload_n 1, 1) := by decide +kernel
theorem nd_FB_ownCurrentPath_50 : decode nb_FB_ownCurrentPath 50 = .ok (.iload_n 2, 1) := by decide +kernel
theorem nd_FB_ownCurrentPath_51 : decode nb_FB_ownCurrentPath 51 = .ok (.invokevirtual 163, 3) := by decide +kernel
theorem nd_FB_ownCurrentPath_54 : decode nb_FB_ownCurrentPath 54 = .ok (.iastore, 1) := by decide +kernel
theorem nd_FB_ownCurrentPath_55 : decode nb_FB_ownCurrentPath 55 = .ok (.return_, 1) := by decide +kernel
abbrev nb_FB_isKey : ByteArray := prog_1_method_25_code
def ny_FB_isKey : MethodName := ⟨nr_FB, "isKey", "(I)Z"⟩
theorem nc_FB_isKey : Cond.code ny_FB_isKey nb_FB_isKey 2 (some .boolean) ∈ wl := wl_t1 176 rfl rfl
theorem nd_FB_isKey_0 : decode nb_FB_isKey 0 = .ok (.iload_n 1, 1) := by decide +kernel
theorem nd_FB_isKey_1 : decode nb_FB_isKey 1 = .ok (.ifCond .lt 13, 3) := by decide +kernel
theorem nd_FB_isKey_4 : decode nb_FB_isKey 4 = .ok (.iload_n 1, 1) := by decide +kernel
theorem nd_FB_isKey_5 : decode nb_FB_isKey 5 = .ok (.bipush 64, 2) := by decide +kernel
theorem nd_FB_isKey_7 : decode nb_FB_isKey 7 = .ok (.if_icmp .ge 7, 3) := by decide +kernel
theorem nd_FB_isKey_10 : decode nb_FB_isKey 10 = .ok (.iconst 1, 1) := by decide +kernel
theorem nd_FB_isKey_11 : decode nb_FB_isKey 11 = .ok (.goto 4, 3) := by decide +kernel
theorem nd_FB_isKey_14 : decode nb_FB_isKey 14 = .ok (.iconst 0, 1) := by decide +kernel
theorem nd_FB_isKey_15 : decode nb_FB_isKey 15 = .ok (.ireturn, 1) := by decide +kernel
abbrev nb_FB_isMap : ByteArray := prog_1_method_26_code
def ny_FB_isMap : MethodName := ⟨nr_FB, "isMap", "(I)Z"⟩
theorem nc_FB_isMap : Cond.code ny_FB_isMap nb_FB_isMap 2 (some .boolean) ∈ wl := wl_t2 86 rfl rfl
theorem nd_FB_isMap_0 : decode nb_FB_isMap 0 = .ok (.iload_n 1, 1) := by decide +kernel
theorem nd_FB_isMap_1 : decode nb_FB_isMap 1 = .ok (.ifCond .lt 26, 3) := by decide +kernel
theorem nd_FB_isMap_4 : decode nb_FB_isMap 4 = .ok (.iload_n 1, 1) := by decide +kernel
theorem nd_FB_isMap_5 : decode nb_FB_isMap 5 = .ok (.aload_n 0, 1) := by decide +kernel
theorem nd_FB_isMap_6 : decode nb_FB_isMap 6 = .ok (.getfield 16, 3) := by decide +kernel
theorem nd_FB_isMap_9 : decode nb_FB_isMap 9 = .ok (.arraylength, 1) := by decide +kernel
theorem nd_FB_isMap_10 : decode nb_FB_isMap 10 = .ok (.if_icmp .ge 17, 3) := by decide +kernel
theorem nd_FB_isMap_13 : decode nb_FB_isMap 13 = .ok (.aload_n 0, 1) := by decide +kernel
theorem nd_FB_isMap_14 : decode nb_FB_isMap 14 = .ok (.getfield 16, 3) := by decide +kernel
theorem nd_FB_isMap_17 : decode nb_FB_isMap 17 = .ok (.iload_n 1, 1) := by decide +kernel
theorem nd_FB_isMap_18 : decode nb_FB_isMap 18 = .ok (.iaload, 1) := by decide +kernel
theorem nd_FB_isMap_19 : decode nb_FB_isMap 19 = .ok (.iconst (-1), 1) := by decide +kernel
theorem nd_FB_isMap_20 : decode nb_FB_isMap 20 = .ok (.if_icmp .eq 7, 3) := by decide +kernel
theorem nd_FB_isMap_23 : decode nb_FB_isMap 23 = .ok (.iconst 1, 1) := by decide +kernel
theorem nd_FB_isMap_24 : decode nb_FB_isMap 24 = .ok (.goto 4, 3) := by decide +kernel
theorem nd_FB_isMap_27 : decode nb_FB_isMap 27 = .ok (.iconst 0, 1) := by decide +kernel
theorem nd_FB_isMap_28 : decode nb_FB_isMap 28 = .ok (.ireturn, 1) := by decide +kernel
abbrev nb_FB_isBoundAlike : ByteArray := prog_1_method_27_code
def ny_FB_isBoundAlike : MethodName := ⟨nr_FB, "isBoundAlike", "(III)Z"⟩
theorem nc_FB_isBoundAlike : Cond.code ny_FB_isBoundAlike nb_FB_isBoundAlike 4 (some .boolean) ∈ wl := wl_t2 133 rfl rfl
theorem nd_FB_isBoundAlike_0 : decode nb_FB_isBoundAlike 0 = .ok (.aload_n 0, 1) := by decide +kernel
theorem nd_FB_isBoundAlike_1 : decode nb_FB_isBoundAlike 1 = .ok (.getfield 10, 3) := by decide +kernel
theorem nd_FB_isBoundAlike_4 : decode nb_FB_isBoundAlike 4 = .ok (.iload_n 1, 1) := by decide +kernel
theorem nd_FB_isBoundAlike_5 : decode nb_FB_isBoundAlike 5 = .ok (.iload_n 3, 1) := by decide +kernel
theorem nd_FB_isBoundAlike_6 : decode nb_FB_isBoundAlike 6 = .ok (.invokevirtual 53, 3) := by decide +kernel
theorem nd_FB_isBoundAlike_9 : decode nb_FB_isBoundAlike 9 = .ok (.ifCond .eq 15, 3) := by decide +kernel
theorem nd_FB_isBoundAlike_12 : decode nb_FB_isBoundAlike 12 = .ok (.aload_n 0, 1) := by decide +kernel
theorem nd_FB_isBoundAlike_13 : decode nb_FB_isBoundAlike 13 = .ok (.getfield 10, 3) := by decide +kernel
theorem nd_FB_isBoundAlike_16 : decode nb_FB_isBoundAlike 16 = .ok (.iload_n 2, 1) := by decide +kernel
theorem nd_FB_isBoundAlike_17 : decode nb_FB_isBoundAlike 17 = .ok (.iload_n 3, 1) := by decide +kernel
theorem nd_FB_isBoundAlike_18 : decode nb_FB_isBoundAlike 18 = .ok (.invokevirtual 53, 3) := by decide +kernel
theorem nd_FB_isBoundAlike_21 : decode nb_FB_isBoundAlike 21 = .ok (.ifCond .ne 30, 3) := by decide +kernel
theorem nd_FB_isBoundAlike_24 : decode nb_FB_isBoundAlike 24 = .ok (.aload_n 0, 1) := by decide +kernel
theorem nd_FB_isBoundAlike_25 : decode nb_FB_isBoundAlike 25 = .ok (.getfield 10, 3) := by decide +kernel
theorem nd_FB_isBoundAlike_28 : decode nb_FB_isBoundAlike 28 = .ok (.iload_n 1, 1) := by decide +kernel
theorem nd_FB_isBoundAlike_29 : decode nb_FB_isBoundAlike 29 = .ok (.iload_n 3, 1) := by decide +kernel
theorem nd_FB_isBoundAlike_30 : decode nb_FB_isBoundAlike 30 = .ok (.invokevirtual 53, 3) := by decide +kernel
theorem nd_FB_isBoundAlike_33 : decode nb_FB_isBoundAlike 33 = .ok (.aload_n 0, 1) := by decide +kernel
theorem nd_FB_isBoundAlike_34 : decode nb_FB_isBoundAlike 34 = .ok (.getfield 10, 3) := by decide +kernel
theorem nd_FB_isBoundAlike_37 : decode nb_FB_isBoundAlike 37 = .ok (.iload_n 2, 1) := by decide +kernel
theorem nd_FB_isBoundAlike_38 : decode nb_FB_isBoundAlike 38 = .ok (.iload_n 3, 1) := by decide +kernel
theorem nd_FB_isBoundAlike_39 : decode nb_FB_isBoundAlike 39 = .ok (.invokevirtual 53, 3) := by decide +kernel
theorem nd_FB_isBoundAlike_42 : decode nb_FB_isBoundAlike 42 = .ok (.if_icmp .ne 7, 3) := by decide +kernel
theorem nd_FB_isBoundAlike_45 : decode nb_FB_isBoundAlike 45 = .ok (.iconst 1, 1) := by decide +kernel
theorem nd_FB_isBoundAlike_46 : decode nb_FB_isBoundAlike 46 = .ok (.goto 4, 3) := by decide +kernel
theorem nd_FB_isBoundAlike_49 : decode nb_FB_isBoundAlike 49 = .ok (.iconst 0, 1) := by decide +kernel
theorem nd_FB_isBoundAlike_50 : decode nb_FB_isBoundAlike 50 = .ok (.ireturn, 1) := by decide +kernel
theorem nd_FB_isBoundAlike_51 : decode nb_FB_isBoundAlike 51 = .ok (.aload_n 0, 1) := by decide +kernel
theorem nd_FB_isBoundAlike_52 : decode nb_FB_isBoundAlike 52 = .ok (.getfield 10, 3) := by decide +kernel
theorem nd_FB_isBoundAlike_55 : decode nb_FB_isBoundAlike 55 = .ok (.iload_n 1, 1) := by decide +kernel
theorem nd_FB_isBoundAlike_56 : decode nb_FB_isBoundAlike 56 = .ok (.iload_n 3, 1) := by decide +kernel
theorem nd_FB_isBoundAlike_57 : decode nb_FB_isBoundAlike 57 = .ok (.invokevirtual 57, 3) := by decide +kernel
theorem nd_FB_isBoundAlike_60 : decode nb_FB_isBoundAlike 60 = .ok (.aload_n 0, 1) := by decide +kernel
theorem nd_FB_isBoundAlike_61 : decode nb_FB_isBoundAlike 61 = .ok (.getfield 10, 3) := by decide +kernel
theorem nd_FB_isBoundAlike_64 : decode nb_FB_isBoundAlike 64 = .ok (.iload_n 2, 1) := by decide +kernel
theorem nd_FB_isBoundAlike_65 : decode nb_FB_isBoundAlike 65 = .ok (.iload_n 3, 1) := by decide +kernel
theorem nd_FB_isBoundAlike_66 : decode nb_FB_isBoundAlike 66 = .ok (.invokevirtual 57, 3) := by decide +kernel
theorem nd_FB_isBoundAlike_69 : decode nb_FB_isBoundAlike 69 = .ok (.if_icmp .ne 7, 3) := by decide +kernel
theorem nd_FB_isBoundAlike_72 : decode nb_FB_isBoundAlike 72 = .ok (.iconst 1, 1) := by decide +kernel
theorem nd_FB_isBoundAlike_73 : decode nb_FB_isBoundAlike 73 = .ok (.goto 4, 3) := by decide +kernel
theorem nd_FB_isBoundAlike_76 : decode nb_FB_isBoundAlike 76 = .ok (.iconst 0, 1) := by decide +kernel
theorem nd_FB_isBoundAlike_77 : decode nb_FB_isBoundAlike 77 = .ok (.ireturn, 1) := by decide +kernel
abbrev nb_FB_keysBound : ByteArray := prog_1_method_28_code
def ny_FB_keysBound : MethodName := ⟨nr_FB, "keysBound", "(I)I"⟩
theorem nc_FB_keysBound : Cond.code ny_FB_keysBound nb_FB_keysBound 4 (some .int) ∈ wl := wl_t2 108 rfl rfl
theorem nd_FB_keysBound_0 : decode nb_FB_keysBound 0 = .ok (.iconst 0, 1) := by decide +kernel
theorem nd_FB_keysBound_1 : decode nb_FB_keysBound 1 = .ok (.istore_n 2, 1) := by decide +kernel
theorem nd_FB_keysBound_2 : decode nb_FB_keysBound 2 = .ok (.iconst 0, 1) := by decide +kernel
theorem nd_FB_keysBound_3 : decode nb_FB_keysBound 3 = .ok (.istore_n 3, 1) := by decide +kernel
theorem nd_FB_keysBound_4 : decode nb_FB_keysBound 4 = .ok (.iload_n 3, 1) := by decide +kernel
theorem nd_FB_keysBound_5 : decode nb_FB_keysBound 5 = .ok (.bipush 64, 2) := by decide +kernel
theorem nd_FB_keysBound_7 : decode nb_FB_keysBound 7 = .ok (.if_icmp .ge 24, 3) := by decide +kernel
theorem nd_FB_keysBound_10 : decode nb_FB_keysBound 10 = .ok (.aload_n 0, 1) := by decide +kernel
theorem nd_FB_keysBound_11 : decode nb_FB_keysBound 11 = .ok (.getfield 10, 3) := by decide +kernel
theorem nd_FB_keysBound_14 : decode nb_FB_keysBound 14 = .ok (.iload_n 1, 1) := by decide +kernel
theorem nd_FB_keysBound_15 : decode nb_FB_keysBound 15 = .ok (.iload_n 3, 1) := by decide +kernel
theorem nd_FB_keysBound_16 : decode nb_FB_keysBound 16 = .ok (.invokevirtual 53, 3) := by decide +kernel
theorem nd_FB_keysBound_19 : decode nb_FB_keysBound 19 = .ok (.ifCond .eq 6, 3) := by decide +kernel
theorem nd_FB_keysBound_22 : decode nb_FB_keysBound 22 = .ok (.iinc 2 1, 3) := by decide +kernel
theorem nd_FB_keysBound_25 : decode nb_FB_keysBound 25 = .ok (.iinc 3 1, 3) := by decide +kernel
theorem nd_FB_keysBound_28 : decode nb_FB_keysBound 28 = .ok (.goto (-24), 3) := by decide +kernel
theorem nd_FB_keysBound_31 : decode nb_FB_keysBound 31 = .ok (.iload_n 2, 1) := by decide +kernel
theorem nd_FB_keysBound_32 : decode nb_FB_keysBound 32 = .ok (.ireturn, 1) := by decide +kernel
abbrev nb_FB_leastUnusedSnapshot : ByteArray := prog_1_method_29_code
def ny_FB_leastUnusedSnapshot : MethodName := ⟨nr_FB, "leastUnusedSnapshot", "()I"⟩
theorem nc_FB_leastUnusedSnapshot : Cond.code ny_FB_leastUnusedSnapshot nb_FB_leastUnusedSnapshot 2 (some .int) ∈ wl := wl_t2 144 rfl rfl
theorem nd_FB_leastUnusedSnapshot_0 : decode nb_FB_leastUnusedSnapshot 0 = .ok (.iconst 1, 1) := by decide +kernel
theorem nd_FB_leastUnusedSnapshot_1 : decode nb_FB_leastUnusedSnapshot 1 = .ok (.istore_n 1, 1) := by decide +kernel
theorem nd_FB_leastUnusedSnapshot_2 : decode nb_FB_leastUnusedSnapshot 2 = .ok (.iload_n 1, 1) := by decide +kernel
theorem nd_FB_leastUnusedSnapshot_3 : decode nb_FB_leastUnusedSnapshot 3 = .ok (.aload_n 0, 1) := by decide +kernel
theorem nd_FB_leastUnusedSnapshot_4 : decode nb_FB_leastUnusedSnapshot 4 = .ok (.getfield 16, 3) := by decide +kernel
theorem nd_FB_leastUnusedSnapshot_7 : decode nb_FB_leastUnusedSnapshot 7 = .ok (.arraylength, 1) := by decide +kernel
theorem nd_FB_leastUnusedSnapshot_8 : decode nb_FB_leastUnusedSnapshot 8 = .ok (.if_icmp .ge 21, 3) := by decide +kernel
theorem nd_FB_leastUnusedSnapshot_11 : decode nb_FB_leastUnusedSnapshot 11 = .ok (.aload_n 0, 1) := by decide +kernel
theorem nd_FB_leastUnusedSnapshot_12 : decode nb_FB_leastUnusedSnapshot 12 = .ok (.getfield 16, 3) := by decide +kernel
theorem nd_FB_leastUnusedSnapshot_15 : decode nb_FB_leastUnusedSnapshot 15 = .ok (.iload_n 1, 1) := by decide +kernel
theorem nd_FB_leastUnusedSnapshot_16 : decode nb_FB_leastUnusedSnapshot 16 = .ok (.iaload, 1) := by decide +kernel
theorem nd_FB_leastUnusedSnapshot_17 : decode nb_FB_leastUnusedSnapshot 17 = .ok (.iconst (-1), 1) := by decide +kernel
theorem nd_FB_leastUnusedSnapshot_18 : decode nb_FB_leastUnusedSnapshot 18 = .ok (.if_icmp .ne 5, 3) := by decide +kernel
theorem nd_FB_leastUnusedSnapshot_21 : decode nb_FB_leastUnusedSnapshot 21 = .ok (.iload_n 1, 1) := by decide +kernel
theorem nd_FB_leastUnusedSnapshot_22 : decode nb_FB_leastUnusedSnapshot 22 = .ok (.ireturn, 1) := by decide +kernel
theorem nd_FB_leastUnusedSnapshot_23 : decode nb_FB_leastUnusedSnapshot 23 = .ok (.iinc 1 1, 3) := by decide +kernel
theorem nd_FB_leastUnusedSnapshot_26 : decode nb_FB_leastUnusedSnapshot 26 = .ok (.goto (-24), 3) := by decide +kernel
theorem nd_FB_leastUnusedSnapshot_29 : decode nb_FB_leastUnusedSnapshot 29 = .ok (.iconst (-1), 1) := by decide +kernel
theorem nd_FB_leastUnusedSnapshot_30 : decode nb_FB_leastUnusedSnapshot 30 = .ok (.ireturn, 1) := by decide +kernel
abbrev nb_FB_snapshotsThere : ByteArray := prog_1_method_30_code
def ny_FB_snapshotsThere : MethodName := ⟨nr_FB, "snapshotsThere", "()I"⟩
theorem nc_FB_snapshotsThere : Cond.code ny_FB_snapshotsThere nb_FB_snapshotsThere 3 (some .int) ∈ wl := wl_t1 81 rfl rfl
theorem nd_FB_snapshotsThere_0 : decode nb_FB_snapshotsThere 0 = .ok (.iconst 0, 1) := by decide +kernel
theorem nd_FB_snapshotsThere_1 : decode nb_FB_snapshotsThere 1 = .ok (.istore_n 1, 1) := by decide +kernel
theorem nd_FB_snapshotsThere_2 : decode nb_FB_snapshotsThere 2 = .ok (.iconst 1, 1) := by decide +kernel
theorem nd_FB_snapshotsThere_3 : decode nb_FB_snapshotsThere 3 = .ok (.istore_n 2, 1) := by decide +kernel
theorem nd_FB_snapshotsThere_4 : decode nb_FB_snapshotsThere 4 = .ok (.iload_n 2, 1) := by decide +kernel
theorem nd_FB_snapshotsThere_5 : decode nb_FB_snapshotsThere 5 = .ok (.aload_n 0, 1) := by decide +kernel
theorem nd_FB_snapshotsThere_6 : decode nb_FB_snapshotsThere 6 = .ok (.getfield 16, 3) := by decide +kernel
theorem nd_FB_snapshotsThere_9 : decode nb_FB_snapshotsThere 9 = .ok (.arraylength, 1) := by decide +kernel
theorem nd_FB_snapshotsThere_10 : decode nb_FB_snapshotsThere 10 = .ok (.if_icmp .ge 22, 3) := by decide +kernel
theorem nd_FB_snapshotsThere_13 : decode nb_FB_snapshotsThere 13 = .ok (.aload_n 0, 1) := by decide +kernel
theorem nd_FB_snapshotsThere_14 : decode nb_FB_snapshotsThere 14 = .ok (.getfield 16, 3) := by decide +kernel
theorem nd_FB_snapshotsThere_17 : decode nb_FB_snapshotsThere 17 = .ok (.iload_n 2, 1) := by decide +kernel
theorem nd_FB_snapshotsThere_18 : decode nb_FB_snapshotsThere 18 = .ok (.iaload, 1) := by decide +kernel
theorem nd_FB_snapshotsThere_19 : decode nb_FB_snapshotsThere 19 = .ok (.iconst (-1), 1) := by decide +kernel
theorem nd_FB_snapshotsThere_20 : decode nb_FB_snapshotsThere 20 = .ok (.if_icmp .eq 6, 3) := by decide +kernel
theorem nd_FB_snapshotsThere_23 : decode nb_FB_snapshotsThere 23 = .ok (.iinc 1 1, 3) := by decide +kernel
theorem nd_FB_snapshotsThere_26 : decode nb_FB_snapshotsThere 26 = .ok (.iinc 2 1, 3) := by decide +kernel
theorem nd_FB_snapshotsThere_29 : decode nb_FB_snapshotsThere 29 = .ok (.goto (-25), 3) := by decide +kernel
theorem nd_FB_snapshotsThere_32 : decode nb_FB_snapshotsThere 32 = .ok (.iload_n 1, 1) := by decide +kernel
theorem nd_FB_snapshotsThere_33 : decode nb_FB_snapshotsThere 33 = .ok (.ireturn, 1) := by decide +kernel
abbrev nb_FB_freeNodes : ByteArray := prog_1_method_31_code
def ny_FB_freeNodes : MethodName := ⟨nr_FB, "freeNodes", "()I"⟩
theorem nc_FB_freeNodes : Cond.code ny_FB_freeNodes nb_FB_freeNodes 1 (some .int) ∈ wl := wl_t1 218 rfl rfl
theorem nd_FB_freeNodes_0 : decode nb_FB_freeNodes 0 = .ok (.aload_n 0, 1) := by decide +kernel
theorem nd_FB_freeNodes_1 : decode nb_FB_freeNodes 1 = .ok (.getfield 10, 3) := by decide +kernel
theorem nd_FB_freeNodes_4 : decode nb_FB_freeNodes 4 = .ok (.invokevirtual 91, 3) := by decide +kernel
theorem nd_FB_freeNodes_7 : decode nb_FB_freeNodes 7 = .ok (.bipush 60, 2) := by decide +kernel
theorem nd_FB_freeNodes_9 : decode nb_FB_freeNodes 9 = .ok (.aload_n 0, 1) := by decide +kernel
theorem nd_FB_freeNodes_10 : decode nb_FB_freeNodes 10 = .ok (.aload_n 0, 1) := by decide +kernel
theorem nd_FB_freeNodes_11 : decode nb_FB_freeNodes 11 = .ok (.getfield 20, 3) := by decide +kernel
theorem nd_FB_freeNodes_14 : decode nb_FB_freeNodes 14 = .ok (.invokevirtual 166, 3) := by decide +kernel
theorem nd_FB_freeNodes_17 : decode nb_FB_freeNodes 17 = .ok (.isub, 1) := by decide +kernel
theorem nd_FB_freeNodes_18 : decode nb_FB_freeNodes 18 = .ok (.aload_n 0, 1) := by decide +kernel
theorem nd_FB_freeNodes_19 : decode nb_FB_freeNodes 19 = .ok (.aload_n 0, 1) := by decide +kernel
theorem nd_FB_freeNodes_20 : decode nb_FB_freeNodes 20 = .ok (.getfield 16, 3) := by decide +kernel
theorem nd_FB_freeNodes_23 : decode nb_FB_freeNodes 23 = .ok (.invokevirtual 166, 3) := by decide +kernel
theorem nd_FB_freeNodes_26 : decode nb_FB_freeNodes 26 = .ok (.isub, 1) := by decide +kernel
theorem nd_FB_freeNodes_27 : decode nb_FB_freeNodes 27 = .ok (.ireturn, 1) := by decide +kernel
abbrev nb_FB_writesNeeded : ByteArray := prog_1_method_32_code
def ny_FB_writesNeeded : MethodName := ⟨nr_FB, "writesNeeded", "()I"⟩
theorem nc_FB_writesNeeded : Cond.code ny_FB_writesNeeded nb_FB_writesNeeded 1 (some .int) ∈ wl := wl_t2 179 rfl rfl
theorem nd_FB_writesNeeded_0 : decode nb_FB_writesNeeded 0 = .ok (.aload_n 0, 1) := by decide +kernel
theorem nd_FB_writesNeeded_1 : decode nb_FB_writesNeeded 1 = .ok (.getfield 10, 3) := by decide +kernel
theorem nd_FB_writesNeeded_4 : decode nb_FB_writesNeeded 4 = .ok (.invokevirtual 91, 3) := by decide +kernel
theorem nd_FB_writesNeeded_7 : decode nb_FB_writesNeeded 7 = .ok (.aload_n 0, 1) := by decide +kernel
theorem nd_FB_writesNeeded_8 : decode nb_FB_writesNeeded 8 = .ok (.aload_n 0, 1) := by decide +kernel
theorem nd_FB_writesNeeded_9 : decode nb_FB_writesNeeded 9 = .ok (.getfield 20, 3) := by decide +kernel
theorem nd_FB_writesNeeded_12 : decode nb_FB_writesNeeded 12 = .ok (.invokevirtual 166, 3) := by decide +kernel
theorem nd_FB_writesNeeded_15 : decode nb_FB_writesNeeded 15 = .ok (.pop, 1) := by decide +kernel
theorem nd_FB_writesNeeded_16 : decode nb_FB_writesNeeded 16 = .ok (.aload_n 0, 1) := by decide +kernel
theorem nd_FB_writesNeeded_17 : decode nb_FB_writesNeeded 17 = .ok (.aload_n 0, 1) := by decide +kernel
theorem nd_FB_writesNeeded_18 : decode nb_FB_writesNeeded 18 = .ok (.getfield 16, 3) := by decide +kernel
theorem nd_FB_writesNeeded_21 : decode nb_FB_writesNeeded 21 = .ok (.invokevirtual 166, 3) := by decide +kernel
theorem nd_FB_writesNeeded_24 : decode nb_FB_writesNeeded 24 = .ok (.iconst 1, 1) := by decide +kernel
theorem nd_FB_writesNeeded_25 : decode nb_FB_writesNeeded 25 = .ok (.iadd, 1) := by decide +kernel
theorem nd_FB_writesNeeded_26 : decode nb_FB_writesNeeded 26 = .ok (.ireturn, 1) := by decide +kernel
abbrev nb_FB_markMaps : ByteArray := prog_1_method_33_code
def ny_FB_markMaps : MethodName := ⟨nr_FB, "markMaps", "([I)I"⟩
theorem nc_FB_markMaps : Cond.code ny_FB_markMaps nb_FB_markMaps 4 (some .int) ∈ wl := wl_t1 226 rfl rfl
theorem nd_FB_markMaps_0 : decode nb_FB_markMaps 0 = .ok (.iconst 0, 1) := by decide +kernel
theorem nd_FB_markMaps_1 : decode nb_FB_markMaps 1 = .ok (.istore_n 2, 1) := by decide +kernel
theorem nd_FB_markMaps_2 : decode nb_FB_markMaps 2 = .ok (.iconst 0, 1) := by decide +kernel
theorem nd_FB_markMaps_3 : decode nb_FB_markMaps 3 = .ok (.istore_n 3, 1) := by decide +kernel
theorem nd_FB_markMaps_4 : decode nb_FB_markMaps 4 = .ok (.iload_n 3, 1) := by decide +kernel
theorem nd_FB_markMaps_5 : decode nb_FB_markMaps 5 = .ok (.aload_n 1, 1) := by decide +kernel
theorem nd_FB_markMaps_6 : decode nb_FB_markMaps 6 = .ok (.arraylength, 1) := by decide +kernel
theorem nd_FB_markMaps_7 : decode nb_FB_markMaps 7 = .ok (.if_icmp .ge 29, 3) := by decide +kernel
theorem nd_FB_markMaps_10 : decode nb_FB_markMaps 10 = .ok (.aload_n 1, 1) := by decide +kernel
theorem nd_FB_markMaps_11 : decode nb_FB_markMaps 11 = .ok (.iload_n 3, 1) := by decide +kernel
theorem nd_FB_markMaps_12 : decode nb_FB_markMaps 12 = .ok (.iaload, 1) := by decide +kernel
theorem nd_FB_markMaps_13 : decode nb_FB_markMaps 13 = .ok (.iconst (-1), 1) := by decide +kernel
theorem nd_FB_markMaps_14 : decode nb_FB_markMaps 14 = .ok (.if_icmp .eq 16, 3) := by decide +kernel
theorem nd_FB_markMaps_17 : decode nb_FB_markMaps 17 = .ok (.iload_n 2, 1) := by decide +kernel
theorem nd_FB_markMaps_18 : decode nb_FB_markMaps 18 = .ok (.aload_n 0, 1) := by decide +kernel
theorem nd_FB_markMaps_19 : decode nb_FB_markMaps 19 = .ok (.getfield 10, 3) := by decide +kernel
theorem nd_FB_markMaps_22 : decode nb_FB_markMaps 22 = .ok (.aload_n 1, 1) := by decide +kernel
theorem nd_FB_markMaps_23 : decode nb_FB_markMaps 23 = .ok (.iload_n 3, 1) := by decide +kernel
theorem nd_FB_markMaps_24 : decode nb_FB_markMaps 24 = .ok (.iaload, 1) := by decide +kernel
theorem nd_FB_markMaps_25 : decode nb_FB_markMaps 25 = .ok (.invokevirtual 94, 3) := by decide +kernel
theorem nd_FB_markMaps_28 : decode nb_FB_markMaps 28 = .ok (.iadd, 1) := by decide +kernel
theorem nd_FB_markMaps_29 : decode nb_FB_markMaps 29 = .ok (.istore_n 2, 1) := by decide +kernel
theorem nd_FB_markMaps_30 : decode nb_FB_markMaps 30 = .ok (.iinc 3 1, 3) := by decide +kernel
theorem nd_FB_markMaps_33 : decode nb_FB_markMaps 33 = .ok (.goto (-29), 3) := by decide +kernel
theorem nd_FB_markMaps_36 : decode nb_FB_markMaps 36 = .ok (.iload_n 2, 1) := by decide +kernel
theorem nd_FB_markMaps_37 : decode nb_FB_markMaps 37 = .ok (.ireturn, 1) := by decide +kernel
abbrev nb_FB_failsWithin : ByteArray := prog_1_method_34_code
def ny_FB_failsWithin : MethodName := ⟨nr_FB, "failsWithin", "(I)Z"⟩
theorem nc_FB_failsWithin : Cond.code ny_FB_failsWithin nb_FB_failsWithin 2 (some .boolean) ∈ wl := wl_t2 183 rfl rfl
theorem nd_FB_failsWithin_0 : decode nb_FB_failsWithin 0 = .ok (.aload_n 0, 1) := by decide +kernel
theorem nd_FB_failsWithin_1 : decode nb_FB_failsWithin 1 = .ok (.getfield 23, 3) := by decide +kernel
theorem nd_FB_failsWithin_4 : decode nb_FB_failsWithin 4 = .ok (.iconst (-1), 1) := by decide +kernel
theorem nd_FB_failsWithin_5 : decode nb_FB_failsWithin 5 = .ok (.if_icmp .eq 15, 3) := by decide +kernel
theorem nd_FB_failsWithin_8 : decode nb_FB_failsWithin 8 = .ok (.aload_n 0, 1) := by decide +kernel
theorem nd_FB_failsWithin_9 : decode nb_FB_failsWithin 9 = .ok (.getfield 23, 3) := by decide +kernel
theorem nd_FB_failsWithin_12 : decode nb_FB_failsWithin 12 = .ok (.iload_n 1, 1) := by decide +kernel
theorem nd_FB_failsWithin_13 : decode nb_FB_failsWithin 13 = .ok (.if_icmp .ge 7, 3) := by decide +kernel
theorem nd_FB_failsWithin_16 : decode nb_FB_failsWithin 16 = .ok (.iconst 1, 1) := by decide +kernel
theorem nd_FB_failsWithin_17 : decode nb_FB_failsWithin 17 = .ok (.goto 4, 3) := by decide +kernel
theorem nd_FB_failsWithin_20 : decode nb_FB_failsWithin 20 = .ok (.iconst 0, 1) := by decide +kernel
theorem nd_FB_failsWithin_21 : decode nb_FB_failsWithin 21 = .ok (.ireturn, 1) := by decide +kernel
abbrev nb_FB_losePower : ByteArray := prog_1_method_35_code
def ny_FB_losePower : MethodName := ⟨nr_FB, "losePower", "()V"⟩
theorem nc_FB_losePower : Cond.code ny_FB_losePower nb_FB_losePower 1 none ∈ wl := wl_t2 187 rfl rfl
theorem nd_FB_losePower_0 : decode nb_FB_losePower 0 = .ok (.aload_n 0, 1) := by decide +kernel
theorem nd_FB_losePower_1 : decode nb_FB_losePower 1 = .ok (.dup, 1) := by decide +kernel
theorem nd_FB_losePower_2 : decode nb_FB_losePower 2 = .ok (.getfield 133, 3) := by decide +kernel
theorem nd_FB_losePower_5 : decode nb_FB_losePower 5 = .ok (.aload_n 0, 1) := by decide +kernel
theorem nd_FB_losePower_6 : decode nb_FB_losePower 6 = .ok (.getfield 23, 3) := by decide +kernel
theorem nd_FB_losePower_9 : decode nb_FB_losePower 9 = .ok (.iadd, 1) := by decide +kernel
theorem nd_FB_losePower_10 : decode nb_FB_losePower 10 = .ok (.putfield 133, 3) := by decide +kernel
theorem nd_FB_losePower_13 : decode nb_FB_losePower 13 = .ok (.aload_n 0, 1) := by decide +kernel
theorem nd_FB_losePower_14 : decode nb_FB_losePower 14 = .ok (.iconst (-1), 1) := by decide +kernel
theorem nd_FB_losePower_15 : decode nb_FB_losePower 15 = .ok (.putfield 23, 3) := by decide +kernel
theorem nd_FB_losePower_18 : decode nb_FB_losePower 18 = .ok (.aload_n 0, 1) := by decide +kernel
theorem nd_FB_losePower_19 : decode nb_FB_losePower 19 = .ok (.iconst 1, 1) := by decide +kernel
theorem nd_FB_losePower_20 : decode nb_FB_losePower 20 = .ok (.putfield 136, 3) := by decide +kernel
theorem nd_FB_losePower_23 : decode nb_FB_losePower 23 = .ok (.return_, 1) := by decide +kernel
