/-! names and decode rows of FrozenBranchesModel (printed by names.py) -/
abbrev nb_MO_init : ByteArray := prog_4_method_1_code
def ny_MO_init : MethodName := ⟨nr_MO, "<init>", "()V"⟩
theorem nc_MO_init : Cond.code ny_MO_init nb_MO_init 1 none ∈ wl := wl_t2 207 rfl rfl
theorem nd_MO_init_0 : decode nb_MO_init 0 = .ok (.aload_n 0, 1) := by decide +kernel
theorem nd_MO_init_1 : decode nb_MO_init 1 = .ok (.invokespecial 1, 3) := by decide +kernel
theorem nd_MO_init_4 : decode nb_MO_init 4 = .ok (.aload_n 0, 1) := by decide +kernel
theorem nd_MO_init_5 : decode nb_MO_init 5 = .ok (.bipush 14, 2) := by decide +kernel
theorem nd_MO_init_7 : decode nb_MO_init 7 = .ok (.newarray .boolean, 2) := by decide +kernel
theorem nd_MO_init_9 : decode nb_MO_init 9 = .ok (.putfield 7, 3) := by decide +kernel
theorem nd_MO_init_12 : decode nb_MO_init 12 = .ok (.aload_n 0, 1) := by decide +kernel
theorem nd_MO_init_13 : decode nb_MO_init 13 = .ok (.sipush 896, 3) := by decide +kernel
theorem nd_MO_init_16 : decode nb_MO_init 16 = .ok (.newarray .boolean, 2) := by decide +kernel
theorem nd_MO_init_18 : decode nb_MO_init 18 = .ok (.putfield 13, 3) := by decide +kernel
theorem nd_MO_init_21 : decode nb_MO_init 21 = .ok (.aload_n 0, 1) := by decide +kernel
theorem nd_MO_init_22 : decode nb_MO_init 22 = .ok (.sipush 896, 3) := by decide +kernel
theorem nd_MO_init_25 : decode nb_MO_init 25 = .ok (.newarray .int, 2) := by decide +kernel
theorem nd_MO_init_27 : decode nb_MO_init 27 = .ok (.putfield 16, 3) := by decide +kernel
theorem nd_MO_init_30 : decode nb_MO_init 30 = .ok (.aload_n 0, 1) := by decide +kernel
theorem nd_MO_init_31 : decode nb_MO_init 31 = .ok (.sipush 294, 3) := by decide +kernel
theorem nd_MO_init_34 : decode nb_MO_init 34 = .ok (.newarray .int, 2) := by decide +kernel
theorem nd_MO_init_36 : decode nb_MO_init 36 = .ok (.putfield 20, 3) := by decide +kernel
theorem nd_MO_init_39 : decode nb_MO_init 39 = .ok (.aload_n 0, 1) := by decide +kernel
theorem nd_MO_init_40 : decode nb_MO_init 40 = .ok (.iconst (-1), 1) := by decide +kernel
theorem nd_MO_init_41 : decode nb_MO_init 41 = .ok (.putfield 23, 3) := by decide +kernel
theorem nd_MO_init_44 : decode nb_MO_init 44 = .ok (.aload_n 0, 1) := by decide +kernel
theorem nd_MO_init_45 : decode nb_MO_init 45 = .ok (.getfield 7, 3) := by decide +kernel
theorem nd_MO_init_48 : decode nb_MO_init 48 = .ok (.iconst 0, 1) := by decide +kernel
theorem nd_MO_init_49 : decode nb_MO_init 49 = .ok (.iconst 1, 1) := by decide +kernel
theorem nd_MO_init_50 : decode nb_MO_init 50 = .ok (.bastore, 1) := by decide +kernel
theorem nd_MO_init_51 : decode nb_MO_init 51 = .ok (.aload_n 0, 1) := by decide +kernel
theorem nd_MO_init_52 : decode nb_MO_init 52 = .ok (.getfield 7, 3) := by decide +kernel
theorem nd_MO_init_55 : decode nb_MO_init 55 = .ok (.bipush 7, 2) := by decide +kernel
theorem nd_MO_init_57 : decode nb_MO_init 57 = .ok (.iconst 1, 1) := by decide +kernel
theorem nd_MO_init_58 : decode nb_MO_init 58 = .ok (.bastore, 1) := by decide +kernel
theorem nd_MO_init_59 : decode nb_MO_init 59 = .ok (.return_, 1) := by decide +kernel
abbrev nb_MO_thrown : ByteArray := prog_4_method_2_code
def ny_MO_thrown : MethodName := ⟨nr_MO, "thrown", "()I"⟩
theorem nc_MO_thrown : Cond.code ny_MO_thrown nb_MO_thrown 1 (some .int) ∈ wl := wl_t3 3 rfl rfl
theorem nd_MO_thrown_0 : decode nb_MO_thrown 0 = .ok (.aload_n 0, 1) := by decide +kernel
theorem nd_MO_thrown_1 : decode nb_MO_thrown 1 = .ok (.getfield 27, 3) := by decide +kernel
theorem nd_MO_thrown_4 : decode nb_MO_thrown 4 = .ok (.ireturn, 1) := by decide +kernel
abbrev nb_MO_copy : ByteArray := prog_4_method_3_code
def ny_MO_copy : MethodName := ⟨nr_MO, "copy", "(II)V"⟩
theorem nc_MO_copy : Cond.code ny_MO_copy nb_MO_copy 4 none ∈ wl := wl_t3 85 rfl rfl
theorem nd_MO_copy_0 : decode nb_MO_copy 0 = .ok (.aload_n 0, 1) := by decide +kernel
theorem nd_MO_copy_1 : decode nb_MO_copy 1 = .ok (.getfield 7, 3) := by decide +kernel
theorem nd_MO_copy_4 : decode nb_MO_copy 4 = .ok (.iload_n 2, 1) := by decide +kernel
theorem nd_MO_copy_5 : decode nb_MO_copy 5 = .ok (.aload_n 0, 1) := by decide +kernel
theorem nd_MO_copy_6 : decode nb_MO_copy 6 = .ok (.getfield 7, 3) := by decide +kernel
theorem nd_MO_copy_9 : decode nb_MO_copy 9 = .ok (.iload_n 1, 1) := by decide +kernel
theorem nd_MO_copy_10 : decode nb_MO_copy 10 = .ok (.baload, 1) := by decide +kernel
theorem nd_MO_copy_11 : decode nb_MO_copy 11 = .ok (.bastore, 1) := by decide +kernel
theorem nd_MO_copy_12 : decode nb_MO_copy 12 = .ok (.iconst 0, 1) := by decide +kernel
theorem nd_MO_copy_13 : decode nb_MO_copy 13 = .ok (.istore_n 3, 1) := by decide +kernel
theorem nd_MO_copy_14 : decode nb_MO_copy 14 = .ok (.iload_n 3, 1) := by decide +kernel
theorem nd_MO_copy_15 : decode nb_MO_copy 15 = .ok (.bipush 64, 2) := by decide +kernel
theorem nd_MO_copy_17 : decode nb_MO_copy 17 = .ok (.if_icmp .ge 53, 3) := by decide +kernel
theorem nd_MO_copy_20 : decode nb_MO_copy 20 = .ok (.aload_n 0, 1) := by decide +kernel
theorem nd_MO_copy_21 : decode nb_MO_copy 21 = .ok (.getfield 13, 3) := by decide +kernel
theorem nd_MO_copy_24 : decode nb_MO_copy 24 = .ok (.bipush 64, 2) := by decide +kernel
theorem nd_MO_copy_26 : decode nb_MO_copy 26 = .ok (.iload_n 2, 1) := by decide +kernel
theorem nd_MO_copy_27 : decode nb_MO_copy 27 = .ok (.imul, 1) := by decide +kernel
theorem nd_MO_copy_28 : decode nb_MO_copy 28 = .ok (.iload_n 3, 1) := by decide +kernel
theorem nd_MO_copy_29 : decode nb_MO_copy 29 = .ok (.iadd, 1) := by decide +kernel
theorem nd_MO_copy_30 : decode nb_MO_copy 30 = .ok (.aload_n 0, 1) := by decide +kernel
theorem nd_MO_copy_31 : decode nb_MO_copy 31 = .ok (.getfield 13, 3) := by decide +kernel
theorem nd_MO_copy_34 : decode nb_MO_copy 34 = .ok (.bipush 64, 2) := by decide +kernel
theorem nd_MO_copy_36 : decode nb_MO_copy 36 = .ok (.iload_n 1, 1) := by decide +kernel
theorem nd_MO_copy_37 : decode nb_MO_copy 37 = .ok (.imul, 1) := by decide +kernel
theorem nd_MO_copy_38 : decode nb_MO_copy 38 = .ok (.iload_n 3, 1) := by decide +kernel
theorem nd_MO_copy_39 : decode nb_MO_copy 39 = .ok (.iadd, 1) := by decide +kernel
theorem nd_MO_copy_40 : decode nb_MO_copy 40 = .ok (.baload, 1) := by decide +kernel
theorem nd_MO_copy_41 : decode nb_MO_copy 41 = .ok (.bastore, 1) := by decide +kernel
theorem nd_MO_copy_42 : decode nb_MO_copy 42 = .ok (.aload_n 0, 1) := by decide +kernel
theorem nd_MO_copy_43 : decode nb_MO_copy 43 = .ok (.getfield 16, 3) := by decide +kernel
theorem nd_MO_copy_46 : decode nb_MO_copy 46 = .ok (.bipush 64, 2) := by decide +kernel
theorem nd_MO_copy_48 : decode nb_MO_copy 48 = .ok (.iload_n 2, 1) := by decide +kernel
theorem nd_MO_copy_49 : decode nb_MO_copy 49 = .ok (.imul, 1) := by decide +kernel
theorem nd_MO_copy_50 : decode nb_MO_copy 50 = .ok (.iload_n 3, 1) := by decide +kernel
theorem nd_MO_copy_51 : decode nb_MO_copy 51 = .ok (.iadd, 1) := by decide +kernel
theorem nd_MO_copy_52 : decode nb_MO_copy 52 = .ok (.aload_n 0, 1) := by decide +kernel
theorem nd_MO_copy_53 : decode nb_MO_copy 53 = .ok (.getfield 16, 3) := by decide +kernel
theorem nd_MO_copy_56 : decode nb_MO_copy 56 = .ok (.bipush 64, 2) := by decide +kernel
theorem nd_MO_copy_58 : decode nb_MO_copy 58 = .ok (.iload_n 1, 1) := by decide +kernel
theorem nd_MO_copy_59 : decode nb_MO_copy 59 = .ok (.imul, 1) := by decide +kernel
theorem nd_MO_copy_60 : decode nb_MO_copy 60 = .ok (.iload_n 3, 1) := by decide +kernel
theorem nd_MO_copy_61 : decode nb_MO_copy 61 = .ok (.iadd, 1) := by decide +kernel
theorem nd_MO_copy_62 : decode nb_MO_copy 62 = .ok (.iaload, 1) := by decide +kernel
theorem nd_MO_copy_63 : decode nb_MO_copy 63 = .ok (.iastore, 1) := by decide +kernel
theorem nd_MO_copy_64 : decode nb_MO_copy 64 = .ok (.iinc 3 1, 3) := by decide +kernel
theorem nd_MO_copy_67 : decode nb_MO_copy 67 = .ok (.goto (-53), 3) := by decide +kernel
theorem nd_MO_copy_70 : decode nb_MO_copy 70 = .ok (.iconst 0, 1) := by decide +kernel
theorem nd_MO_copy_71 : decode nb_MO_copy 71 = .ok (.istore_n 3, 1) := by decide +kernel
theorem nd_MO_copy_72 : decode nb_MO_copy 72 = .ok (.iload_n 3, 1) := by decide +kernel
theorem nd_MO_copy_73 : decode nb_MO_copy 73 = .ok (.bipush 21, 2) := by decide +kernel
theorem nd_MO_copy_75 : decode nb_MO_copy 75 = .ok (.if_icmp .ge 31, 3) := by decide +kernel
theorem nd_MO_copy_78 : decode nb_MO_copy 78 = .ok (.aload_n 0, 1) := by decide +kernel
theorem nd_MO_copy_79 : decode nb_MO_copy 79 = .ok (.getfield 20, 3) := by decide +kernel
theorem nd_MO_copy_82 : decode nb_MO_copy 82 = .ok (.bipush 21, 2) := by decide +kernel
theorem nd_MO_copy_84 : decode nb_MO_copy 84 = .ok (.iload_n 2, 1) := by decide +kernel
theorem nd_MO_copy_85 : decode nb_MO_copy 85 = .ok (.imul, 1) := by decide +kernel
theorem nd_MO_copy_86 : decode nb_MO_copy 86 = .ok (.iload_n 3, 1) := by decide +kernel
theorem nd_MO_copy_87 : decode nb_MO_copy 87 = .ok (.iadd, 1) := by decide +kernel
theorem nd_MO_copy_88 : decode nb_MO_copy 88 = .ok (.aload_n 0, 1) := by decide +kernel
theorem nd_MO_copy_89 : decode nb_MO_copy 89 = .ok (.getfield 20, 3) := by decide +kernel
theorem nd_MO_copy_92 : decode nb_MO_copy 92 = .ok (.bipush 21, 2) := by decide +kernel
theorem nd_MO_copy_94 : decode nb_MO_copy 94 = .ok (.iload_n 1, 1) := by decide +kernel
theorem nd_MO_copy_95 : decode nb_MO_copy 95 = .ok (.imul, 1) := by decide +kernel
theorem nd_MO_copy_96 : decode nb_MO_copy 96 = .ok (.iload_n 3, 1) := by decide +kernel
theorem nd_MO_copy_97 : decode nb_MO_copy 97 = .ok (.iadd, 1) := by decide +kernel
theorem nd_MO_copy_98 : decode nb_MO_copy 98 = .ok (.iaload, 1) := by decide +kernel
theorem nd_MO_copy_99 : decode nb_MO_copy 99 = .ok (.iastore, 1) := by decide +kernel
theorem nd_MO_copy_100 : decode nb_MO_copy 100 = .ok (.iinc 3 1, 3) := by decide +kernel
theorem nd_MO_copy_103 : decode nb_MO_copy 103 = .ok (.goto (-31), 3) := by decide +kernel
theorem nd_MO_copy_106 : decode nb_MO_copy 106 = .ok (.return_, 1) := by decide +kernel
abbrev nb_MO_empty : ByteArray := prog_4_method_4_code
def ny_MO_empty : MethodName := ⟨nr_MO, "empty", "(I)V"⟩
theorem nc_MO_empty : Cond.code ny_MO_empty nb_MO_empty 3 none ∈ wl := wl_t3 101 rfl rfl
theorem nd_MO_empty_0 : decode nb_MO_empty 0 = .ok (.aload_n 0, 1) := by decide +kernel
theorem nd_MO_empty_1 : decode nb_MO_empty 1 = .ok (.getfield 7, 3) := by decide +kernel
theorem nd_MO_empty_4 : decode nb_MO_empty 4 = .ok (.iload_n 1, 1) := by decide +kernel
theorem nd_MO_empty_5 : decode nb_MO_empty 5 = .ok (.iconst 0, 1) := by decide +kernel
theorem nd_MO_empty_6 : decode nb_MO_empty 6 = .ok (.bastore, 1) := by decide +kernel
theorem nd_MO_empty_7 : decode nb_MO_empty 7 = .ok (.iconst 0, 1) := by decide +kernel
theorem nd_MO_empty_8 : decode nb_MO_empty 8 = .ok (.istore_n 2, 1) := by decide +kernel
theorem nd_MO_empty_9 : decode nb_MO_empty 9 = .ok (.iload_n 2, 1) := by decide +kernel
theorem nd_MO_empty_10 : decode nb_MO_empty 10 = .ok (.bipush 64, 2) := by decide +kernel
theorem nd_MO_empty_12 : decode nb_MO_empty 12 = .ok (.if_icmp .ge 21, 3) := by decide +kernel
theorem nd_MO_empty_15 : decode nb_MO_empty 15 = .ok (.aload_n 0, 1) := by decide +kernel
theorem nd_MO_empty_16 : decode nb_MO_empty 16 = .ok (.getfield 13, 3) := by decide +kernel
theorem nd_MO_empty_19 : decode nb_MO_empty 19 = .ok (.bipush 64, 2) := by decide +kernel
theorem nd_MO_empty_21 : decode nb_MO_empty 21 = .ok (.iload_n 1, 1) := by decide +kernel
theorem nd_MO_empty_22 : decode nb_MO_empty 22 = .ok (.imul, 1) := by decide +kernel
theorem nd_MO_empty_23 : decode nb_MO_empty 23 = .ok (.iload_n 2, 1) := by decide +kernel
theorem nd_MO_empty_24 : decode nb_MO_empty 24 = .ok (.iadd, 1) := by decide +kernel
theorem nd_MO_empty_25 : decode nb_MO_empty 25 = .ok (.iconst 0, 1) := by decide +kernel
theorem nd_MO_empty_26 : decode nb_MO_empty 26 = .ok (.bastore, 1) := by decide +kernel
theorem nd_MO_empty_27 : decode nb_MO_empty 27 = .ok (.iinc 2 1, 3) := by decide +kernel
theorem nd_MO_empty_30 : decode nb_MO_empty 30 = .ok (.goto (-21), 3) := by decide +kernel
theorem nd_MO_empty_33 : decode nb_MO_empty 33 = .ok (.iconst 0, 1) := by decide +kernel
theorem nd_MO_empty_34 : decode nb_MO_empty 34 = .ok (.istore_n 2, 1) := by decide +kernel
theorem nd_MO_empty_35 : decode nb_MO_empty 35 = .ok (.iload_n 2, 1) := by decide +kernel
theorem nd_MO_empty_36 : decode nb_MO_empty 36 = .ok (.bipush 21, 2) := by decide +kernel
theorem nd_MO_empty_38 : decode nb_MO_empty 38 = .ok (.if_icmp .ge 21, 3) := by decide +kernel
theorem nd_MO_empty_41 : decode nb_MO_empty 41 = .ok (.aload_n 0, 1) := by decide +kernel
theorem nd_MO_empty_42 : decode nb_MO_empty 42 = .ok (.getfield 20, 3) := by decide +kernel
theorem nd_MO_empty_45 : decode nb_MO_empty 45 = .ok (.bipush 21, 2) := by decide +kernel
theorem nd_MO_empty_47 : decode nb_MO_empty 47 = .ok (.iload_n 1, 1) := by decide +kernel
theorem nd_MO_empty_48 : decode nb_MO_empty 48 = .ok (.imul, 1) := by decide +kernel
theorem nd_MO_empty_49 : decode nb_MO_empty 49 = .ok (.iload_n 2, 1) := by decide +kernel
theorem nd_MO_empty_50 : decode nb_MO_empty 50 = .ok (.iadd, 1) := by decide +kernel
theorem nd_MO_empty_51 : decode nb_MO_empty 51 = .ok (.iconst 0, 1) := by decide +kernel
theorem nd_MO_empty_52 : decode nb_MO_empty 52 = .ok (.iastore, 1) := by decide +kernel
theorem nd_MO_empty_53 : decode nb_MO_empty 53 = .ok (.iinc 2 1, 3) := by decide +kernel
theorem nd_MO_empty_56 : decode nb_MO_empty 56 = .ok (.goto (-21), 3) := by decide +kernel
theorem nd_MO_empty_59 : decode nb_MO_empty 59 = .ok (.return_, 1) := by decide +kernel
abbrev nb_MO_isKey : ByteArray := prog_4_method_5_code
def ny_MO_isKey : MethodName := ⟨nr_MO, "isKey", "(I)Z"⟩
theorem nc_MO_isKey : Cond.code ny_MO_isKey nb_MO_isKey 1 (some .boolean) ∈ wl := wl_t3 10 rfl rfl
theorem nd_MO_isKey_0 : decode nb_MO_isKey 0 = .ok (.iload_n 0, 1) := by decide +kernel
theorem nd_MO_isKey_1 : decode nb_MO_isKey 1 = .ok (.ifCond .lt 13, 3) := by decide +kernel
theorem nd_MO_isKey_4 : decode nb_MO_isKey 4 = .ok (.iload_n 0, 1) := by decide +kernel
theorem nd_MO_isKey_5 : decode nb_MO_isKey 5 = .ok (.bipush 64, 2) := by decide +kernel
theorem nd_MO_isKey_7 : decode nb_MO_isKey 7 = .ok (.if_icmp .ge 7, 3) := by decide +kernel
theorem nd_MO_isKey_10 : decode nb_MO_isKey 10 = .ok (.iconst 1, 1) := by decide +kernel
theorem nd_MO_isKey_11 : decode nb_MO_isKey 11 = .ok (.goto 4, 3) := by decide +kernel
theorem nd_MO_isKey_14 : decode nb_MO_isKey 14 = .ok (.iconst 0, 1) := by decide +kernel
theorem nd_MO_isKey_15 : decode nb_MO_isKey 15 = .ok (.ireturn, 1) := by decide +kernel
abbrev nb_MO_isMap : ByteArray := prog_4_method_6_code
def ny_MO_isMap : MethodName := ⟨nr_MO, "isMap", "(I)Z"⟩
theorem nc_MO_isMap : Cond.code ny_MO_isMap nb_MO_isMap 2 (some .boolean) ∈ wl := wl_t3 57 rfl rfl
theorem nd_MO_isMap_0 : decode nb_MO_isMap 0 = .ok (.iload_n 1, 1) := by decide +kernel
theorem nd_MO_isMap_1 : decode nb_MO_isMap 1 = .ok (.ifCond .lt 22, 3) := by decide +kernel
theorem nd_MO_isMap_4 : decode nb_MO_isMap 4 = .ok (.iload_n 1, 1) := by decide +kernel
theorem nd_MO_isMap_5 : decode nb_MO_isMap 5 = .ok (.bipush 7, 2) := by decide +kernel
theorem nd_MO_isMap_7 : decode nb_MO_isMap 7 = .ok (.if_icmp .ge 16, 3) := by decide +kernel
theorem nd_MO_isMap_10 : decode nb_MO_isMap 10 = .ok (.aload_n 0, 1) := by decide +kernel
theorem nd_MO_isMap_11 : decode nb_MO_isMap 11 = .ok (.getfield 7, 3) := by decide +kernel
theorem nd_MO_isMap_14 : decode nb_MO_isMap 14 = .ok (.iload_n 1, 1) := by decide +kernel
theorem nd_MO_isMap_15 : decode nb_MO_isMap 15 = .ok (.baload, 1) := by decide +kernel
theorem nd_MO_isMap_16 : decode nb_MO_isMap 16 = .ok (.ifCond .eq 7, 3) := by decide +kernel
theorem nd_MO_isMap_19 : decode nb_MO_isMap 19 = .ok (.iconst 1, 1) := by decide +kernel
theorem nd_MO_isMap_20 : decode nb_MO_isMap 20 = .ok (.goto 4, 3) := by decide +kernel
theorem nd_MO_isMap_23 : decode nb_MO_isMap 23 = .ok (.iconst 0, 1) := by decide +kernel
theorem nd_MO_isMap_24 : decode nb_MO_isMap 24 = .ok (.ireturn, 1) := by decide +kernel
abbrev nb_MO_isSnapshot : ByteArray := prog_4_method_7_code
def ny_MO_isSnapshot : MethodName := ⟨nr_MO, "isSnapshot", "(I)Z"⟩
theorem nc_MO_isSnapshot : Cond.code ny_MO_isSnapshot nb_MO_isSnapshot 2 (some .boolean) ∈ wl := wl_t3 93 rfl rfl
theorem nd_MO_isSnapshot_0 : decode nb_MO_isSnapshot 0 = .ok (.iload_n 1, 1) := by decide +kernel
theorem nd_MO_isSnapshot_1 : decode nb_MO_isSnapshot 1 = .ok (.ifCond .le 15, 3) := by decide +kernel
theorem nd_MO_isSnapshot_4 : decode nb_MO_isSnapshot 4 = .ok (.aload_n 0, 1) := by decide +kernel
theorem nd_MO_isSnapshot_5 : decode nb_MO_isSnapshot 5 = .ok (.iload_n 1, 1) := by decide +kernel
theorem nd_MO_isSnapshot_6 : decode nb_MO_isSnapshot 6 = .ok (.invokevirtual 30, 3) := by decide +kernel
theorem nd_MO_isSnapshot_9 : decode nb_MO_isSnapshot 9 = .ok (.ifCond .eq 7, 3) := by decide +kernel
theorem nd_MO_isSnapshot_12 : decode nb_MO_isSnapshot 12 = .ok (.iconst 1, 1) := by decide +kernel
theorem nd_MO_isSnapshot_13 : decode nb_MO_isSnapshot 13 = .ok (.goto 4, 3) := by decide +kernel
theorem nd_MO_isSnapshot_16 : decode nb_MO_isSnapshot 16 = .ok (.iconst 0, 1) := by decide +kernel
theorem nd_MO_isSnapshot_17 : decode nb_MO_isSnapshot 17 = .ok (.ireturn, 1) := by decide +kernel
abbrev nb_MO_boundIn : ByteArray := prog_4_method_8_code
def ny_MO_boundIn : MethodName := ⟨nr_MO, "boundIn", "(III)I"⟩
theorem nc_MO_boundIn : Cond.code ny_MO_boundIn nb_MO_boundIn 6 (some .int) ∈ wl := wl_t3 26 rfl rfl
theorem nd_MO_boundIn_0 : decode nb_MO_boundIn 0 = .ok (.iconst 0, 1) := by decide +kernel
theorem nd_MO_boundIn_1 : decode nb_MO_boundIn 1 = .ok (.istore 4, 2) := by decide +kernel
theorem nd_MO_boundIn_3 : decode nb_MO_boundIn 3 = .ok (.iload_n 2, 1) := by decide +kernel
theorem nd_MO_boundIn_4 : decode nb_MO_boundIn 4 = .ok (.istore 5, 2) := by decide +kernel
theorem nd_MO_boundIn_6 : decode nb_MO_boundIn 6 = .ok (.iload 5, 2) := by decide +kernel
theorem nd_MO_boundIn_8 : decode nb_MO_boundIn 8 = .ok (.iload_n 2, 1) := by decide +kernel
theorem nd_MO_boundIn_9 : decode nb_MO_boundIn 9 = .ok (.iload_n 3, 1) := by decide +kernel
theorem nd_MO_boundIn_10 : decode nb_MO_boundIn 10 = .ok (.iadd, 1) := by decide +kernel
theorem nd_MO_boundIn_11 : decode nb_MO_boundIn 11 = .ok (.if_icmp .ge 35, 3) := by decide +kernel
theorem nd_MO_boundIn_14 : decode nb_MO_boundIn 14 = .ok (.aload_n 0, 1) := by decide +kernel
theorem nd_MO_boundIn_15 : decode nb_MO_boundIn 15 = .ok (.getfield 13, 3) := by decide +kernel
theorem nd_MO_boundIn_18 : decode nb_MO_boundIn 18 = .ok (.bipush 64, 2) := by decide +kernel
theorem nd_MO_boundIn_20 : decode nb_MO_boundIn 20 = .ok (.iload_n 1, 1) := by decide +kernel
theorem nd_MO_boundIn_21 : decode nb_MO_boundIn 21 = .ok (.imul, 1) := by decide +kernel
theorem nd_MO_boundIn_22 : decode nb_MO_boundIn 22 = .ok (.iload 5, 2) := by decide +kernel
theorem nd_MO_boundIn_24 : decode nb_MO_boundIn 24 = .ok (.iadd, 1) := by decide +kernel
theorem nd_MO_boundIn_25 : decode nb_MO_boundIn 25 = .ok (.baload, 1) := by decide +kernel
theorem nd_MO_boundIn_26 : decode nb_MO_boundIn 26 = .ok (.ifCond .eq 10, 3) := by decide +kernel
theorem nd_MO_boundIn_29 : decode nb_MO_boundIn 29 = .ok (.iload 4, 2) := by decide +kernel
theorem nd_MO_boundIn_31 : decode nb_MO_boundIn 31 = .ok (.iconst 1, 1) := by decide +kernel
theorem nd_MO_boundIn_32 : decode nb_MO_boundIn 32 = .ok (.iadd, 1) := by decide +kernel
theorem nd_MO_boundIn_33 : decode nb_MO_boundIn 33 = .ok (.goto 5, 3) := by decide +kernel
theorem nd_MO_boundIn_36 : decode nb_MO_boundIn 36 = .ok (.iload 4, 2) := by decide +kernel
theorem nd_MO_boundIn_38 : decode nb_MO_boundIn 38 = .ok (.istore 4, 2) := by decide +kernel
theorem nd_MO_boundIn_40 : decode nb_MO_boundIn 40 = .ok (.iinc 5 1, 3) := by decide +kernel
theorem nd_MO_boundIn_43 : decode nb_MO_boundIn 43 = .ok (.goto (-37), 3) := by decide +kernel
theorem nd_MO_boundIn_46 : decode nb_MO_boundIn 46 = .ok (.iload 4, 2) := by decide +kernel
theorem nd_MO_boundIn_48 : decode nb_MO_boundIn 48 = .ok (.ireturn, 1) := by decide +kernel
abbrev nb_MO_isIn : ByteArray := prog_4_method_9_code
def ny_MO_isIn : MethodName := ⟨nr_MO, "isIn", "(IIII)Z"⟩
theorem nc_MO_isIn : Cond.code ny_MO_isIn nb_MO_isIn 7 (some .boolean) ∈ wl := wl_t3 41 rfl rfl
theorem nd_MO_isIn_0 : decode nb_MO_isIn 0 = .ok (.iconst 0, 1) := by decide +kernel
theorem nd_MO_isIn_1 : decode nb_MO_isIn 1 = .ok (.istore 5, 2) := by decide +kernel
theorem nd_MO_isIn_3 : decode nb_MO_isIn 3 = .ok (.iload_n 3, 1) := by decide +kernel
theorem nd_MO_isIn_4 : decode nb_MO_isIn 4 = .ok (.istore 6, 2) := by decide +kernel
theorem nd_MO_isIn_6 : decode nb_MO_isIn 6 = .ok (.iload 6, 2) := by decide +kernel
theorem nd_MO_isIn_8 : decode nb_MO_isIn 8 = .ok (.iload 4, 2) := by decide +kernel
theorem nd_MO_isIn_10 : decode nb_MO_isIn 10 = .ok (.if_icmp .ge 37, 3) := by decide +kernel
theorem nd_MO_isIn_13 : decode nb_MO_isIn 13 = .ok (.iload 5, 2) := by decide +kernel
theorem nd_MO_isIn_15 : decode nb_MO_isIn 15 = .ok (.ifCond .ne 19, 3) := by decide +kernel
theorem nd_MO_isIn_18 : decode nb_MO_isIn 18 = .ok (.aload_n 0, 1) := by decide +kernel
theorem nd_MO_isIn_19 : decode nb_MO_isIn 19 = .ok (.getfield 20, 3) := by decide +kernel
theorem nd_MO_isIn_22 : decode nb_MO_isIn 22 = .ok (.bipush 21, 2) := by decide +kernel
theorem nd_MO_isIn_24 : decode nb_MO_isIn 24 = .ok (.iload 6, 2) := by decide +kernel
theorem nd_MO_isIn_26 : decode nb_MO_isIn 26 = .ok (.imul, 1) := by decide +kernel
theorem nd_MO_isIn_27 : decode nb_MO_isIn 27 = .ok (.iload_n 2, 1) := by decide +kernel
theorem nd_MO_isIn_28 : decode nb_MO_isIn 28 = .ok (.iadd, 1) := by decide +kernel
theorem nd_MO_isIn_29 : decode nb_MO_isIn 29 = .ok (.iaload, 1) := by decide +kernel
theorem nd_MO_isIn_30 : decode nb_MO_isIn 30 = .ok (.iload_n 1, 1) := by decide +kernel
theorem nd_MO_isIn_31 : decode nb_MO_isIn 31 = .ok (.if_icmp .ne 7, 3) := by decide +kernel
theorem nd_MO_isIn_34 : decode nb_MO_isIn 34 = .ok (.iconst 1, 1) := by decide +kernel
theorem nd_MO_isIn_35 : decode nb_MO_isIn 35 = .ok (.goto 4, 3) := by decide +kernel
theorem nd_MO_isIn_38 : decode nb_MO_isIn 38 = .ok (.iconst 0, 1) := by decide +kernel
theorem nd_MO_isIn_39 : decode nb_MO_isIn 39 = .ok (.istore 5, 2) := by decide +kernel
theorem nd_MO_isIn_41 : decode nb_MO_isIn 41 = .ok (.iinc 6 1, 3) := by decide +kernel
theorem nd_MO_isIn_44 : decode nb_MO_isIn 44 = .ok (.goto (-38), 3) := by decide +kernel
theorem nd_MO_isIn_47 : decode nb_MO_isIn 47 = .ok (.iload 5, 2) := by decide +kernel
theorem nd_MO_isIn_49 : decode nb_MO_isIn 49 = .ok (.ireturn, 1) := by decide +kernel
abbrev nb_MO_different : ByteArray := prog_4_method_10_code
def ny_MO_different : MethodName := ⟨nr_MO, "different", "(II)I"⟩
theorem nc_MO_different : Cond.code ny_MO_different nb_MO_different 7 (some .int) ∈ wl := wl_t3 37 rfl rfl
theorem nd_MO_different_0 : decode nb_MO_different 0 = .ok (.iconst 0, 1) := by decide +kernel
theorem nd_MO_different_1 : decode nb_MO_different 1 = .ok (.istore_n 3, 1) := by decide +kernel
theorem nd_MO_different_2 : decode nb_MO_different 2 = .ok (.iconst 0, 1) := by decide +kernel
theorem nd_MO_different_3 : decode nb_MO_different 3 = .ok (.istore 4, 2) := by decide +kernel
theorem nd_MO_different_5 : decode nb_MO_different 5 = .ok (.iload 4, 2) := by decide +kernel
theorem nd_MO_different_7 : decode nb_MO_different 7 = .ok (.bipush 21, 2) := by decide +kernel
theorem nd_MO_different_9 : decode nb_MO_different 9 = .ok (.if_icmp .ge 66, 3) := by decide +kernel
theorem nd_MO_different_12 : decode nb_MO_different 12 = .ok (.iload_n 1, 1) := by decide +kernel
theorem nd_MO_different_13 : decode nb_MO_different 13 = .ok (.istore 5, 2) := by decide +kernel
theorem nd_MO_different_15 : decode nb_MO_different 15 = .ok (.iload 5, 2) := by decide +kernel
theorem nd_MO_different_17 : decode nb_MO_different 17 = .ok (.iload_n 2, 1) := by decide +kernel
theorem nd_MO_different_18 : decode nb_MO_different 18 = .ok (.if_icmp .ge 51, 3) := by decide +kernel
theorem nd_MO_different_21 : decode nb_MO_different 21 = .ok (.aload_n 0, 1) := by decide +kernel
theorem nd_MO_different_22 : decode nb_MO_different 22 = .ok (.getfield 20, 3) := by decide +kernel
theorem nd_MO_different_25 : decode nb_MO_different 25 = .ok (.bipush 21, 2) := by decide +kernel
theorem nd_MO_different_27 : decode nb_MO_different 27 = .ok (.iload 5, 2) := by decide +kernel
theorem nd_MO_different_29 : decode nb_MO_different 29 = .ok (.imul, 1) := by decide +kernel
theorem nd_MO_different_30 : decode nb_MO_different 30 = .ok (.iload 4, 2) := by decide +kernel
theorem nd_MO_different_32 : decode nb_MO_different 32 = .ok (.iadd, 1) := by decide +kernel
theorem nd_MO_different_33 : decode nb_MO_different 33 = .ok (.iaload, 1) := by decide +kernel
theorem nd_MO_different_34 : decode nb_MO_different 34 = .ok (.istore 6, 2) := by decide +kernel
theorem nd_MO_different_36 : decode nb_MO_different 36 = .ok (.iload 6, 2) := by decide +kernel
theorem nd_MO_different_38 : decode nb_MO_different 38 = .ok (.ifCond .le 23, 3) := by decide +kernel
theorem nd_MO_different_41 : decode nb_MO_different 41 = .ok (.aload_n 0, 1) := by decide +kernel
theorem nd_MO_different_42 : decode nb_MO_different 42 = .ok (.iload 6, 2) := by decide +kernel
theorem nd_MO_different_44 : decode nb_MO_different 44 = .ok (.iload 4, 2) := by decide +kernel
theorem nd_MO_different_46 : decode nb_MO_different 46 = .ok (.iload_n 1, 1) := by decide +kernel
theorem nd_MO_different_47 : decode nb_MO_different 47 = .ok (.iload 5, 2) := by decide +kernel
theorem nd_MO_different_49 : decode nb_MO_different 49 = .ok (.invokevirtual 34, 3) := by decide +kernel
theorem nd_MO_different_52 : decode nb_MO_different 52 = .ok (.ifCond .ne 9, 3) := by decide +kernel
theorem nd_MO_different_55 : decode nb_MO_different 55 = .ok (.iload_n 3, 1) := by decide +kernel
theorem nd_MO_different_56 : decode nb_MO_different 56 = .ok (.iconst 1, 1) := by decide +kernel
theorem nd_MO_different_57 : decode nb_MO_different 57 = .ok (.iadd, 1) := by decide +kernel
theorem nd_MO_different_58 : decode nb_MO_different 58 = .ok (.goto 4, 3) := by decide +kernel
theorem nd_MO_different_61 : decode nb_MO_different 61 = .ok (.iload_n 3, 1) := by decide +kernel
theorem nd_MO_different_62 : decode nb_MO_different 62 = .ok (.istore_n 3, 1) := by decide +kernel
theorem nd_MO_different_63 : decode nb_MO_different 63 = .ok (.iinc 5 1, 3) := by decide +kernel
theorem nd_MO_different_66 : decode nb_MO_different 66 = .ok (.goto (-51), 3) := by decide +kernel
theorem nd_MO_different_69 : decode nb_MO_different 69 = .ok (.iinc 4 1, 3) := by decide +kernel
theorem nd_MO_different_72 : decode nb_MO_different 72 = .ok (.goto (-67), 3) := by decide +kernel
theorem nd_MO_different_75 : decode nb_MO_different 75 = .ok (.iload_n 3, 1) := by decide +kernel
theorem nd_MO_different_76 : decode nb_MO_different 76 = .ok (.ireturn, 1) := by decide +kernel
abbrev nb_MO_freeNow : ByteArray := prog_4_method_11_code
def ny_MO_freeNow : MethodName := ⟨nr_MO, "freeNow", "()I"⟩
theorem nc_MO_freeNow : Cond.code ny_MO_freeNow nb_MO_freeNow 1 (some .int) ∈ wl := wl_t3 33 rfl rfl
theorem nd_MO_freeNow_0 : decode nb_MO_freeNow 0 = .ok (.bipush 60, 2) := by decide +kernel
theorem nd_MO_freeNow_2 : decode nb_MO_freeNow 2 = .ok (.aload_n 0, 1) := by decide +kernel
theorem nd_MO_freeNow_3 : decode nb_MO_freeNow 3 = .ok (.iconst 0, 1) := by decide +kernel
theorem nd_MO_freeNow_4 : decode nb_MO_freeNow 4 = .ok (.bipush 14, 2) := by decide +kernel
theorem nd_MO_freeNow_6 : decode nb_MO_freeNow 6 = .ok (.invokevirtual 38, 3) := by decide +kernel
theorem nd_MO_freeNow_9 : decode nb_MO_freeNow 9 = .ok (.isub, 1) := by decide +kernel
theorem nd_MO_freeNow_10 : decode nb_MO_freeNow 10 = .ok (.ireturn, 1) := by decide +kernel
abbrev nb_MO_placeOf : ByteArray := prog_4_method_12_code
def ny_MO_placeOf : MethodName := ⟨nr_MO, "placeOf", "(II)I"⟩
theorem nc_MO_placeOf : Cond.code ny_MO_placeOf nb_MO_placeOf 2 (some .int) ∈ wl := wl_t3 29 rfl rfl
theorem nd_MO_placeOf_0 : decode nb_MO_placeOf 0 = .ok (.iload_n 0, 1) := by decide +kernel
theorem nd_MO_placeOf_1 : decode nb_MO_placeOf 1 = .ok (.ifCond .ne 7, 3) := by decide +kernel
theorem nd_MO_placeOf_4 : decode nb_MO_placeOf 4 = .ok (.iconst 0, 1) := by decide +kernel
theorem nd_MO_placeOf_5 : decode nb_MO_placeOf 5 = .ok (.goto 22, 3) := by decide +kernel
theorem nd_MO_placeOf_8 : decode nb_MO_placeOf 8 = .ok (.iload_n 0, 1) := by decide +kernel
theorem nd_MO_placeOf_9 : decode nb_MO_placeOf 9 = .ok (.iconst 1, 1) := by decide +kernel
theorem nd_MO_placeOf_10 : decode nb_MO_placeOf 10 = .ok (.if_icmp .ne 12, 3) := by decide +kernel
theorem nd_MO_placeOf_13 : decode nb_MO_placeOf 13 = .ok (.iconst 1, 1) := by decide +kernel
theorem nd_MO_placeOf_14 : decode nb_MO_placeOf 14 = .ok (.iload_n 1, 1) := by decide +kernel
theorem nd_MO_placeOf_15 : decode nb_MO_placeOf 15 = .ok (.bipush 16, 2) := by decide +kernel
theorem nd_MO_placeOf_17 : decode nb_MO_placeOf 17 = .ok (.idiv, 1) := by decide +kernel
theorem nd_MO_placeOf_18 : decode nb_MO_placeOf 18 = .ok (.iadd, 1) := by decide +kernel
theorem nd_MO_placeOf_19 : decode nb_MO_placeOf 19 = .ok (.goto 8, 3) := by decide +kernel
theorem nd_MO_placeOf_22 : decode nb_MO_placeOf 22 = .ok (.iconst 5, 1) := by decide +kernel
theorem nd_MO_placeOf_23 : decode nb_MO_placeOf 23 = .ok (.iload_n 1, 1) := by decide +kernel
theorem nd_MO_placeOf_24 : decode nb_MO_placeOf 24 = .ok (.iconst 4, 1) := by decide +kernel
theorem nd_MO_placeOf_25 : decode nb_MO_placeOf 25 = .ok (.idiv, 1) := by decide +kernel
theorem nd_MO_placeOf_26 : decode nb_MO_placeOf 26 = .ok (.iadd, 1) := by decide +kernel
theorem nd_MO_placeOf_27 : decode nb_MO_placeOf 27 = .ok (.ireturn, 1) := by decide +kernel
abbrev nb_MO_below : ByteArray := prog_4_method_13_code
def ny_MO_below : MethodName := ⟨nr_MO, "below", "(II)I"⟩
theorem nc_MO_below : Cond.code ny_MO_below nb_MO_below 4 (some .int) ∈ wl := wl_t3 22 rfl rfl
theorem nd_MO_below_0 : decode nb_MO_below 0 = .ok (.iload_n 1, 1) := by decide +kernel
theorem nd_MO_below_1 : decode nb_MO_below 1 = .ok (.ifCond .ne 8, 3) := by decide +kernel
theorem nd_MO_below_4 : decode nb_MO_below 4 = .ok (.bipush 64, 2) := by decide +kernel
theorem nd_MO_below_6 : decode nb_MO_below 6 = .ok (.goto 14, 3) := by decide +kernel
theorem nd_MO_below_9 : decode nb_MO_below 9 = .ok (.iload_n 1, 1) := by decide +kernel
theorem nd_MO_below_10 : decode nb_MO_below 10 = .ok (.iconst 1, 1) := by decide +kernel
theorem nd_MO_below_11 : decode nb_MO_below 11 = .ok (.if_icmp .ne 8, 3) := by decide +kernel
theorem nd_MO_below_14 : decode nb_MO_below 14 = .ok (.bipush 16, 2) := by decide +kernel
theorem nd_MO_below_16 : decode nb_MO_below 16 = .ok (.goto 4, 3) := by decide +kernel
theorem nd_MO_below_19 : decode nb_MO_below 19 = .ok (.iconst 4, 1) := by decide +kernel
theorem nd_MO_below_20 : decode nb_MO_below 20 = .ok (.istore_n 3, 1) := by decide +kernel
theorem nd_MO_below_21 : decode nb_MO_below 21 = .ok (.aload_n 0, 1) := by decide +kernel
theorem nd_MO_below_22 : decode nb_MO_below 22 = .ok (.iconst 0, 1) := by decide +kernel
theorem nd_MO_below_23 : decode nb_MO_below 23 = .ok (.iload_n 2, 1) := by decide +kernel
theorem nd_MO_below_24 : decode nb_MO_below 24 = .ok (.iload_n 2, 1) := by decide +kernel
theorem nd_MO_below_25 : decode nb_MO_below 25 = .ok (.iload_n 3, 1) := by decide +kernel
theorem nd_MO_below_26 : decode nb_MO_below 26 = .ok (.irem, 1) := by decide +kernel
theorem nd_MO_below_27 : decode nb_MO_below 27 = .ok (.isub, 1) := by decide +kernel
theorem nd_MO_below_28 : decode nb_MO_below 28 = .ok (.iload_n 3, 1) := by decide +kernel
theorem nd_MO_below_29 : decode nb_MO_below 29 = .ok (.invokevirtual 42, 3) := by decide +kernel
theorem nd_MO_below_32 : decode nb_MO_below 32 = .ok (.ireturn, 1) := by decide +kernel
abbrev nb_MO_makes : ByteArray := prog_4_method_14_code
def ny_MO_makes : MethodName := ⟨nr_MO, "makes", "(III)Z"⟩
theorem nc_MO_makes : Cond.code ny_MO_makes nb_MO_makes 4 (some .boolean) ∈ wl := wl_t3 18 rfl rfl
theorem nd_MO_makes_0 : decode nb_MO_makes 0 = .ok (.aload_n 0, 1) := by decide +kernel
theorem nd_MO_makes_1 : decode nb_MO_makes 1 = .ok (.iload_n 1, 1) := by decide +kernel
theorem nd_MO_makes_2 : decode nb_MO_makes 2 = .ok (.iload_n 2, 1) := by decide +kernel
theorem nd_MO_makes_3 : decode nb_MO_makes 3 = .ok (.invokevirtual 46, 3) := by decide +kernel
theorem nd_MO_makes_6 : decode nb_MO_makes 6 = .ok (.iload_n 3, 1) := by decide +kernel
theorem nd_MO_makes_7 : decode nb_MO_makes 7 = .ok (.iadd, 1) := by decide +kernel
theorem nd_MO_makes_8 : decode nb_MO_makes 8 = .ok (.ifCond .le 24, 3) := by decide +kernel
theorem nd_MO_makes_11 : decode nb_MO_makes 11 = .ok (.aload_n 0, 1) := by decide +kernel
theorem nd_MO_makes_12 : decode nb_MO_makes 12 = .ok (.getfield 20, 3) := by decide +kernel
theorem nd_MO_makes_15 : decode nb_MO_makes 15 = .ok (.iload_n 1, 1) := by decide +kernel
theorem nd_MO_makes_16 : decode nb_MO_makes 16 = .ok (.iload_n 2, 1) := by decide +kernel
theorem nd_MO_makes_17 : decode nb_MO_makes 17 = .ok (.invokestatic 49, 3) := by decide +kernel
theorem nd_MO_makes_20 : decode nb_MO_makes 20 = .ok (.iaload, 1) := by decide +kernel
theorem nd_MO_makes_21 : decode nb_MO_makes 21 = .ok (.aload_n 0, 1) := by decide +kernel
theorem nd_MO_makes_22 : decode nb_MO_makes 22 = .ok (.getfield 52, 3) := by decide +kernel
theorem nd_MO_makes_25 : decode nb_MO_makes 25 = .ok (.if_icmp .gt 7, 3) := by decide +kernel
theorem nd_MO_makes_28 : decode nb_MO_makes 28 = .ok (.iconst 1, 1) := by decide +kernel
theorem nd_MO_makes_29 : decode nb_MO_makes 29 = .ok (.goto 4, 3) := by decide +kernel
theorem nd_MO_makes_32 : decode nb_MO_makes 32 = .ok (.iconst 0, 1) := by decide +kernel
theorem nd_MO_makes_33 : decode nb_MO_makes 33 = .ok (.ireturn, 1) := by decide +kernel
abbrev nb_MO_fits : ByteArray := prog_4_method_15_code
def ny_MO_fits : MethodName := ⟨nr_MO, "fits", "(II)Z"⟩
theorem nc_MO_fits : Cond.code ny_MO_fits nb_MO_fits 5 (some .boolean) ∈ wl := wl_t3 14 rfl rfl
theorem nd_MO_fits_0 : decode nb_MO_fits 0 = .ok (.iconst 0, 1) := by decide +kernel
theorem nd_MO_fits_1 : decode nb_MO_fits 1 = .ok (.istore_n 3, 1) := by decide +kernel
theorem nd_MO_fits_2 : decode nb_MO_fits 2 = .ok (.iconst 0, 1) := by decide +kernel
theorem nd_MO_fits_3 : decode nb_MO_fits 3 = .ok (.istore 4, 2) := by decide +kernel
theorem nd_MO_fits_5 : decode nb_MO_fits 5 = .ok (.iload 4, 2) := by decide +kernel
theorem nd_MO_fits_7 : decode nb_MO_fits 7 = .ok (.iconst 3, 1) := by decide +kernel
theorem nd_MO_fits_8 : decode nb_MO_fits 8 = .ok (.if_icmp .ge 28, 3) := by decide +kernel
theorem nd_MO_fits_11 : decode nb_MO_fits 11 = .ok (.aload_n 0, 1) := by decide +kernel
theorem nd_MO_fits_12 : decode nb_MO_fits 12 = .ok (.iload 4, 2) := by decide +kernel
theorem nd_MO_fits_14 : decode nb_MO_fits 14 = .ok (.iload_n 1, 1) := by decide +kernel
theorem nd_MO_fits_15 : decode nb_MO_fits 15 = .ok (.iload_n 2, 1) := by decide +kernel
theorem nd_MO_fits_16 : decode nb_MO_fits 16 = .ok (.invokevirtual 55, 3) := by decide +kernel
theorem nd_MO_fits_19 : decode nb_MO_fits 19 = .ok (.ifCond .eq 9, 3) := by decide +kernel
theorem nd_MO_fits_22 : decode nb_MO_fits 22 = .ok (.iload_n 3, 1) := by decide +kernel
theorem nd_MO_fits_23 : decode nb_MO_fits 23 = .ok (.iconst 1, 1) := by decide +kernel
theorem nd_MO_fits_24 : decode nb_MO_fits 24 = .ok (.iadd, 1) := by decide +kernel
theorem nd_MO_fits_25 : decode nb_MO_fits 25 = .ok (.goto 4, 3) := by decide +kernel
theorem nd_MO_fits_28 : decode nb_MO_fits 28 = .ok (.iload_n 3, 1) := by decide +kernel
theorem nd_MO_fits_29 : decode nb_MO_fits 29 = .ok (.istore_n 3, 1) := by decide +kernel
theorem nd_MO_fits_30 : decode nb_MO_fits 30 = .ok (.iinc 4 1, 3) := by decide +kernel
theorem nd_MO_fits_33 : decode nb_MO_fits 33 = .ok (.goto (-28), 3) := by decide +kernel
theorem nd_MO_fits_36 : decode nb_MO_fits 36 = .ok (.iload_n 3, 1) := by decide +kernel
theorem nd_MO_fits_37 : decode nb_MO_fits 37 = .ok (.aload_n 0, 1) := by decide +kernel
theorem nd_MO_fits_38 : decode nb_MO_fits 38 = .ok (.invokevirtual 59, 3) := by decide +kernel
theorem nd_MO_fits_41 : decode nb_MO_fits 41 = .ok (.if_icmp .gt 7, 3) := by decide +kernel
theorem nd_MO_fits_44 : decode nb_MO_fits 44 = .ok (.iconst 1, 1) := by decide +kernel
theorem nd_MO_fits_45 : decode nb_MO_fits 45 = .ok (.goto 4, 3) := by decide +kernel
theorem nd_MO_fits_48 : decode nb_MO_fits 48 = .ok (.iconst 0, 1) := by decide +kernel
theorem nd_MO_fits_49 : decode nb_MO_fits 49 = .ok (.ireturn, 1) := by decide +kernel
abbrev nb_MO_change : ByteArray := prog_4_method_16_code
def ny_MO_change : MethodName := ⟨nr_MO, "change", "(II)V"⟩
theorem nc_MO_change : Cond.code ny_MO_change nb_MO_change 5 none ∈ wl := wl_t3 45 rfl rfl
theorem nd_MO_change_0 : decode nb_MO_change 0 = .ok (.iconst 0, 1) := by decide +kernel
theorem nd_MO_change_1 : decode nb_MO_change 1 = .ok (.istore_n 3, 1) := by decide +kernel
theorem nd_MO_change_2 : decode nb_MO_change 2 = .ok (.iload_n 3, 1) := by decide +kernel
theorem nd_MO_change_3 : decode nb_MO_change 3 = .ok (.iconst 3, 1) := by decide +kernel
theorem nd_MO_change_4 : decode nb_MO_change 4 = .ok (.if_icmp .ge 76, 3) := by decide +kernel
theorem nd_MO_change_7 : decode nb_MO_change 7 = .ok (.iload_n 3, 1) := by decide +kernel
theorem nd_MO_change_8 : decode nb_MO_change 8 = .ok (.iload_n 1, 1) := by decide +kernel
theorem nd_MO_change_9 : decode nb_MO_change 9 = .ok (.invokestatic 49, 3) := by decide +kernel
theorem nd_MO_change_12 : decode nb_MO_change 12 = .ok (.istore 4, 2) := by decide +kernel
theorem nd_MO_change_14 : decode nb_MO_change 14 = .ok (.aload_n 0, 1) := by decide +kernel
theorem nd_MO_change_15 : decode nb_MO_change 15 = .ok (.iload_n 3, 1) := by decide +kernel
theorem nd_MO_change_16 : decode nb_MO_change 16 = .ok (.iload_n 1, 1) := by decide +kernel
theorem nd_MO_change_17 : decode nb_MO_change 17 = .ok (.iload_n 2, 1) := by decide +kernel
theorem nd_MO_change_18 : decode nb_MO_change 18 = .ok (.invokevirtual 55, 3) := by decide +kernel
theorem nd_MO_change_21 : decode nb_MO_change 21 = .ok (.ifCond .eq 24, 3) := by decide +kernel
theorem nd_MO_change_24 : decode nb_MO_change 24 = .ok (.aload_n 0, 1) := by decide +kernel
theorem nd_MO_change_25 : decode nb_MO_change 25 = .ok (.aload_n 0, 1) := by decide +kernel
theorem nd_MO_change_26 : decode nb_MO_change 26 = .ok (.getfield 63, 3) := by decide +kernel
theorem nd_MO_change_29 : decode nb_MO_change 29 = .ok (.iconst 1, 1) := by decide +kernel
theorem nd_MO_change_30 : decode nb_MO_change 30 = .ok (.iadd, 1) := by decide +kernel
theorem nd_MO_change_31 : decode nb_MO_change 31 = .ok (.putfield 63, 3) := by decide +kernel
theorem nd_MO_change_34 : decode nb_MO_change 34 = .ok (.aload_n 0, 1) := by decide +kernel
theorem nd_MO_change_35 : decode nb_MO_change 35 = .ok (.getfield 20, 3) := by decide +kernel
theorem nd_MO_change_38 : decode nb_MO_change 38 = .ok (.iload 4, 2) := by decide +kernel
theorem nd_MO_change_40 : decode nb_MO_change 40 = .ok (.aload_n 0, 1) := by decide +kernel
theorem nd_MO_change_41 : decode nb_MO_change 41 = .ok (.getfield 63, 3) := by decide +kernel
theorem nd_MO_change_44 : decode nb_MO_change 44 = .ok (.iastore, 1) := by decide +kernel
theorem nd_MO_change_45 : decode nb_MO_change 45 = .ok (.aload_n 0, 1) := by decide +kernel
theorem nd_MO_change_46 : decode nb_MO_change 46 = .ok (.getfield 20, 3) := by decide +kernel
theorem nd_MO_change_49 : decode nb_MO_change 49 = .ok (.iload 4, 2) := by decide +kernel
theorem nd_MO_change_51 : decode nb_MO_change 51 = .ok (.aload_n 0, 1) := by decide +kernel
theorem nd_MO_change_52 : decode nb_MO_change 52 = .ok (.iload_n 3, 1) := by decide +kernel
theorem nd_MO_change_53 : decode nb_MO_change 53 = .ok (.iload_n 1, 1) := by decide +kernel
theorem nd_MO_change_54 : decode nb_MO_change 54 = .ok (.invokevirtual 46, 3) := by decide +kernel
theorem nd_MO_change_57 : decode nb_MO_change 57 = .ok (.iload_n 2, 1) := by decide +kernel
theorem nd_MO_change_58 : decode nb_MO_change 58 = .ok (.iadd, 1) := by decide +kernel
theorem nd_MO_change_59 : decode nb_MO_change 59 = .ok (.ifCond .le 13, 3) := by decide +kernel
theorem nd_MO_change_62 : decode nb_MO_change 62 = .ok (.aload_n 0, 1) := by decide +kernel
theorem nd_MO_change_63 : decode nb_MO_change 63 = .ok (.getfield 20, 3) := by decide +kernel
theorem nd_MO_change_66 : decode nb_MO_change 66 = .ok (.iload 4, 2) := by decide +kernel
theorem nd_MO_change_68 : decode nb_MO_change 68 = .ok (.iaload, 1) := by decide +kernel
theorem nd_MO_change_69 : decode nb_MO_change 69 = .ok (.goto 4, 3) := by decide +kernel
theorem nd_MO_change_72 : decode nb_MO_change 72 = .ok (.iconst 0, 1) := by decide +kernel
theorem nd_MO_change_73 : decode nb_MO_change 73 = .ok (.iastore, 1) := by decide +kernel
theorem nd_MO_change_74 : decode nb_MO_change 74 = .ok (.iinc 3 1, 3) := by decide +kernel
theorem nd_MO_change_77 : decode nb_MO_change 77 = .ok (.goto (-75), 3) := by decide +kernel
theorem nd_MO_change_80 : decode nb_MO_change 80 = .ok (.aload_n 0, 1) := by decide +kernel
theorem nd_MO_change_81 : decode nb_MO_change 81 = .ok (.getfield 13, 3) := by decide +kernel
theorem nd_MO_change_84 : decode nb_MO_change 84 = .ok (.iload_n 1, 1) := by decide +kernel
theorem nd_MO_change_85 : decode nb_MO_change 85 = .ok (.iload_n 2, 1) := by decide +kernel
theorem nd_MO_change_86 : decode nb_MO_change 86 = .ok (.ifCond .gt 7, 3) := by decide +kernel
theorem nd_MO_change_89 : decode nb_MO_change 89 = .ok (.iload_n 2, 1) := by decide +kernel
theorem nd_MO_change_90 : decode nb_MO_change 90 = .ok (.ifCond .ne 7, 3) := by decide +kernel
theorem nd_MO_change_93 : decode nb_MO_change 93 = .ok (.iconst 1, 1) := by decide +kernel
theorem nd_MO_change_94 : decode nb_MO_change 94 = .ok (.goto 4, 3) := by decide +kernel
theorem nd_MO_change_97 : decode nb_MO_change 97 = .ok (.iconst 0, 1) := by decide +kernel
theorem nd_MO_change_98 : decode nb_MO_change 98 = .ok (.bastore, 1) := by decide +kernel
theorem nd_MO_change_99 : decode nb_MO_change 99 = .ok (.return_, 1) := by decide +kernel
abbrev nb_MO_put : ByteArray := prog_4_method_17_code
def ny_MO_put : MethodName := ⟨nr_MO, "put", "(II)I"⟩
theorem nc_MO_put : Cond.code ny_MO_put nb_MO_put 5 (some .int) ∈ wl := wl_t3 7 rfl rfl
theorem nd_MO_put_0 : decode nb_MO_put 0 = .ok (.aload_n 0, 1) := by decide +kernel
theorem nd_MO_put_1 : decode nb_MO_put 1 = .ok (.aload_n 0, 1) := by decide +kernel
theorem nd_MO_put_2 : decode nb_MO_put 2 = .ok (.getfield 66, 3) := by decide +kernel
theorem nd_MO_put_5 : decode nb_MO_put 5 = .ok (.ifCond .eq 7, 3) := by decide +kernel
theorem nd_MO_put_8 : decode nb_MO_put 8 = .ok (.iconst 1, 1) := by decide +kernel
theorem nd_MO_put_9 : decode nb_MO_put 9 = .ok (.goto 15, 3) := by decide +kernel
theorem nd_MO_put_12 : decode nb_MO_put 12 = .ok (.iload_n 1, 1) := by decide +kernel
theorem nd_MO_put_13 : decode nb_MO_put 13 = .ok (.invokestatic 70, 3) := by decide +kernel
theorem nd_MO_put_16 : decode nb_MO_put 16 = .ok (.ifCond .ne 7, 3) := by decide +kernel
theorem nd_MO_put_19 : decode nb_MO_put 19 = .ok (.iconst 2, 1) := by decide +kernel
theorem nd_MO_put_20 : decode nb_MO_put 20 = .ok (.goto 4, 3) := by decide +kernel
theorem nd_MO_put_23 : decode nb_MO_put 23 = .ok (.iconst 0, 1) := by decide +kernel
theorem nd_MO_put_24 : decode nb_MO_put 24 = .ok (.putfield 27, 3) := by decide +kernel
theorem nd_MO_put_27 : decode nb_MO_put 27 = .ok (.aload_n 0, 1) := by decide +kernel
theorem nd_MO_put_28 : decode nb_MO_put 28 = .ok (.getfield 27, 3) := by decide +kernel
theorem nd_MO_put_31 : decode nb_MO_put 31 = .ok (.ifCond .le 5, 3) := by decide +kernel
theorem nd_MO_put_34 : decode nb_MO_put 34 = .ok (.iconst 0, 1) := by decide +kernel
theorem nd_MO_put_35 : decode nb_MO_put 35 = .ok (.ireturn, 1) := by decide +kernel
theorem nd_MO_put_36 : decode nb_MO_put 36 = .ok (.aload_n 0, 1) := by decide +kernel
theorem nd_MO_put_37 : decode nb_MO_put 37 = .ok (.getfield 13, 3) := by decide +kernel
theorem nd_MO_put_40 : decode nb_MO_put 40 = .ok (.iload_n 1, 1) := by decide +kernel
theorem nd_MO_put_41 : decode nb_MO_put 41 = .ok (.baload, 1) := by decide +kernel
theorem nd_MO_put_42 : decode nb_MO_put 42 = .ok (.istore_n 3, 1) := by decide +kernel
theorem nd_MO_put_43 : decode nb_MO_put 43 = .ok (.iload_n 3, 1) := by decide +kernel
theorem nd_MO_put_44 : decode nb_MO_put 44 = .ok (.ifCond .eq 15, 3) := by decide +kernel
theorem nd_MO_put_47 : decode nb_MO_put 47 = .ok (.aload_n 0, 1) := by decide +kernel
theorem nd_MO_put_48 : decode nb_MO_put 48 = .ok (.getfield 16, 3) := by decide +kernel
theorem nd_MO_put_51 : decode nb_MO_put 51 = .ok (.iload_n 1, 1) := by decide +kernel
theorem nd_MO_put_52 : decode nb_MO_put 52 = .ok (.iaload, 1) := by decide +kernel
theorem nd_MO_put_53 : decode nb_MO_put 53 = .ok (.iload_n 2, 1) := by decide +kernel
theorem nd_MO_put_54 : decode nb_MO_put 54 = .ok (.if_icmp .ne 5, 3) := by decide +kernel
theorem nd_MO_put_57 : decode nb_MO_put 57 = .ok (.iconst 2, 1) := by decide +kernel
theorem nd_MO_put_58 : decode nb_MO_put 58 = .ok (.ireturn, 1) := by decide +kernel
theorem nd_MO_put_59 : decode nb_MO_put 59 = .ok (.iload_n 3, 1) := by decide +kernel
theorem nd_MO_put_60 : decode nb_MO_put 60 = .ok (.ifCond .eq 7, 3) := by decide +kernel
theorem nd_MO_put_63 : decode nb_MO_put 63 = .ok (.iconst 0, 1) := by decide +kernel
theorem nd_MO_put_64 : decode nb_MO_put 64 = .ok (.goto 4, 3) := by decide +kernel
theorem nd_MO_put_67 : decode nb_MO_put 67 = .ok (.iconst 1, 1) := by decide +kernel
theorem nd_MO_put_68 : decode nb_MO_put 68 = .ok (.istore 4, 2) := by decide +kernel
theorem nd_MO_put_70 : decode nb_MO_put 70 = .ok (.aload_n 0, 1) := by decide +kernel
theorem nd_MO_put_71 : decode nb_MO_put 71 = .ok (.iload_n 1, 1) := by decide +kernel
theorem nd_MO_put_72 : decode nb_MO_put 72 = .ok (.iload 4, 2) := by decide +kernel
theorem nd_MO_put_74 : decode nb_MO_put 74 = .ok (.invokevirtual 73, 3) := by decide +kernel
theorem nd_MO_put_77 : decode nb_MO_put 77 = .ok (.ifCond .ne 10, 3) := by decide +kernel
theorem nd_MO_put_80 : decode nb_MO_put 80 = .ok (.aload_n 0, 1) := by decide +kernel
theorem nd_MO_put_81 : decode nb_MO_put 81 = .ok (.iconst 3, 1) := by decide +kernel
theorem nd_MO_put_82 : decode nb_MO_put 82 = .ok (.putfield 27, 3) := by decide +kernel
theorem nd_MO_put_85 : decode nb_MO_put 85 = .ok (.iconst 0, 1) := by decide +kernel
theorem nd_MO_put_86 : decode nb_MO_put 86 = .ok (.ireturn, 1) := by decide +kernel
theorem nd_MO_put_87 : decode nb_MO_put 87 = .ok (.aload_n 0, 1) := by decide +kernel
theorem nd_MO_put_88 : decode nb_MO_put 88 = .ok (.iload_n 1, 1) := by decide +kernel
theorem nd_MO_put_89 : decode nb_MO_put 89 = .ok (.iload 4, 2) := by decide +kernel
theorem nd_MO_put_91 : decode nb_MO_put 91 = .ok (.invokevirtual 77, 3) := by decide +kernel
theorem nd_MO_put_94 : decode nb_MO_put 94 = .ok (.aload_n 0, 1) := by decide +kernel
theorem nd_MO_put_95 : decode nb_MO_put 95 = .ok (.getfield 16, 3) := by decide +kernel
theorem nd_MO_put_98 : decode nb_MO_put 98 = .ok (.iload_n 1, 1) := by decide +kernel
theorem nd_MO_put_99 : decode nb_MO_put 99 = .ok (.iload_n 2, 1) := by decide +kernel
theorem nd_MO_put_100 : decode nb_MO_put 100 = .ok (.iastore, 1) := by decide +kernel
theorem nd_MO_put_101 : decode nb_MO_put 101 = .ok (.iload_n 3, 1) := by decide +kernel
theorem nd_MO_put_102 : decode nb_MO_put 102 = .ok (.ifCond .eq 7, 3) := by decide +kernel
theorem nd_MO_put_105 : decode nb_MO_put 105 = .ok (.iconst 1, 1) := by decide +kernel
theorem nd_MO_put_106 : decode nb_MO_put 106 = .ok (.goto 4, 3) := by decide +kernel
theorem nd_MO_put_109 : decode nb_MO_put 109 = .ok (.iconst 0, 1) := by decide +kernel
theorem nd_MO_put_110 : decode nb_MO_put 110 = .ok (.ireturn, 1) := by decide +kernel
abbrev nb_MO_remove : ByteArray := prog_4_method_18_code
def ny_MO_remove : MethodName := ⟨nr_MO, "remove", "(I)I"⟩
theorem nc_MO_remove : Cond.code ny_MO_remove nb_MO_remove 2 (some .int) ∈ wl := wl_t3 49 rfl rfl
theorem nd_MO_remove_0 : decode nb_MO_remove 0 = .ok (.aload_n 0, 1) := by decide +kernel
theorem nd_MO_remove_1 : decode nb_MO_remove 1 = .ok (.aload_n 0, 1) := by decide +kernel
theorem nd_MO_remove_2 : decode nb_MO_remove 2 = .ok (.getfield 66, 3) := by decide +kernel
theorem nd_MO_remove_5 : decode nb_MO_remove 5 = .ok (.ifCond .eq 7, 3) := by decide +kernel
theorem nd_MO_remove_8 : decode nb_MO_remove 8 = .ok (.iconst 1, 1) := by decide +kernel
theorem nd_MO_remove_9 : decode nb_MO_remove 9 = .ok (.goto 37, 3) := by decide +kernel
theorem nd_MO_remove_12 : decode nb_MO_remove 12 = .ok (.iload_n 1, 1) := by decide +kernel
theorem nd_MO_remove_13 : decode nb_MO_remove 13 = .ok (.invokestatic 70, 3) := by decide +kernel
theorem nd_MO_remove_16 : decode nb_MO_remove 16 = .ok (.ifCond .eq 12, 3) := by decide +kernel
theorem nd_MO_remove_19 : decode nb_MO_remove 19 = .ok (.aload_n 0, 1) := by decide +kernel
theorem nd_MO_remove_20 : decode nb_MO_remove 20 = .ok (.getfield 13, 3) := by decide +kernel
theorem nd_MO_remove_23 : decode nb_MO_remove 23 = .ok (.iload_n 1, 1) := by decide +kernel
theorem nd_MO_remove_24 : decode nb_MO_remove 24 = .ok (.baload, 1) := by decide +kernel
theorem nd_MO_remove_25 : decode nb_MO_remove 25 = .ok (.ifCond .ne 7, 3) := by decide +kernel
theorem nd_MO_remove_28 : decode nb_MO_remove 28 = .ok (.iconst 2, 1) := by decide +kernel
theorem nd_MO_remove_29 : decode nb_MO_remove 29 = .ok (.goto 17, 3) := by decide +kernel
theorem nd_MO_remove_32 : decode nb_MO_remove 32 = .ok (.aload_n 0, 1) := by decide +kernel
theorem nd_MO_remove_33 : decode nb_MO_remove 33 = .ok (.iload_n 1, 1) := by decide +kernel
theorem nd_MO_remove_34 : decode nb_MO_remove 34 = .ok (.iconst (-1), 1) := by decide +kernel
theorem nd_MO_remove_35 : decode nb_MO_remove 35 = .ok (.invokevirtual 73, 3) := by decide +kernel
theorem nd_MO_remove_38 : decode nb_MO_remove 38 = .ok (.ifCond .ne 7, 3) := by decide +kernel
theorem nd_MO_remove_41 : decode nb_MO_remove 41 = .ok (.iconst 3, 1) := by decide +kernel
theorem nd_MO_remove_42 : decode nb_MO_remove 42 = .ok (.goto 4, 3) := by decide +kernel
theorem nd_MO_remove_45 : decode nb_MO_remove 45 = .ok (.iconst 0, 1) := by decide +kernel
theorem nd_MO_remove_46 : decode nb_MO_remove 46 = .ok (.putfield 27, 3) := by decide +kernel
theorem nd_MO_remove_49 : decode nb_MO_remove 49 = .ok (.aload_n 0, 1) := by decide +kernel
theorem nd_MO_remove_50 : decode nb_MO_remove 50 = .ok (.getfield 27, 3) := by decide +kernel
theorem nd_MO_remove_53 : decode nb_MO_remove 53 = .ok (.ifCond .le 5, 3) := by decide +kernel
theorem nd_MO_remove_56 : decode nb_MO_remove 56 = .ok (.iconst 0, 1) := by decide +kernel
theorem nd_MO_remove_57 : decode nb_MO_remove 57 = .ok (.ireturn, 1) := by decide +kernel
theorem nd_MO_remove_58 : decode nb_MO_remove 58 = .ok (.aload_n 0, 1) := by decide +kernel
theorem nd_MO_remove_59 : decode nb_MO_remove 59 = .ok (.iload_n 1, 1) := by decide +kernel
theorem nd_MO_remove_60 : decode nb_MO_remove 60 = .ok (.iconst (-1), 1) := by decide +kernel
theorem nd_MO_remove_61 : decode nb_MO_remove 61 = .ok (.invokevirtual 77, 3) := by decide +kernel
theorem nd_MO_remove_64 : decode nb_MO_remove 64 = .ok (.aload_n 0, 1) := by decide +kernel
theorem nd_MO_remove_65 : decode nb_MO_remove 65 = .ok (.getfield 16, 3) := by decide +kernel
theorem nd_MO_remove_68 : decode nb_MO_remove 68 = .ok (.iload_n 1, 1) := by decide +kernel
theorem nd_MO_remove_69 : decode nb_MO_remove 69 = .ok (.iaload, 1) := by decide +kernel
theorem nd_MO_remove_70 : decode nb_MO_remove 70 = .ok (.ireturn, 1) := by decide +kernel
abbrev nb_MO_get : ByteArray := prog_4_method_19_code
def ny_MO_get : MethodName := ⟨nr_MO, "get", "(II)I"⟩
theorem nc_MO_get : Cond.code ny_MO_get nb_MO_get 3 (some .int) ∈ wl := wl_t3 53 rfl rfl
theorem nd_MO_get_0 : decode nb_MO_get 0 = .ok (.aload_n 0, 1) := by decide +kernel
theorem nd_MO_get_1 : decode nb_MO_get 1 = .ok (.aload_n 0, 1) := by decide +kernel
theorem nd_MO_get_2 : decode nb_MO_get 2 = .ok (.getfield 66, 3) := by decide +kernel
theorem nd_MO_get_5 : decode nb_MO_get 5 = .ok (.ifCond .eq 7, 3) := by decide +kernel
theorem nd_MO_get_8 : decode nb_MO_get 8 = .ok (.iconst 1, 1) := by decide +kernel
theorem nd_MO_get_9 : decode nb_MO_get 9 = .ok (.goto 41, 3) := by decide +kernel
theorem nd_MO_get_12 : decode nb_MO_get 12 = .ok (.aload_n 0, 1) := by decide +kernel
theorem nd_MO_get_13 : decode nb_MO_get 13 = .ok (.iload_n 1, 1) := by decide +kernel
theorem nd_MO_get_14 : decode nb_MO_get 14 = .ok (.invokevirtual 30, 3) := by decide +kernel
theorem nd_MO_get_17 : decode nb_MO_get 17 = .ok (.ifCond .ne 7, 3) := by decide +kernel
theorem nd_MO_get_20 : decode nb_MO_get 20 = .ok (.iconst 2, 1) := by decide +kernel
theorem nd_MO_get_21 : decode nb_MO_get 21 = .ok (.goto 29, 3) := by decide +kernel
theorem nd_MO_get_24 : decode nb_MO_get 24 = .ok (.iload_n 2, 1) := by decide +kernel
theorem nd_MO_get_25 : decode nb_MO_get 25 = .ok (.invokestatic 70, 3) := by decide +kernel
theorem nd_MO_get_28 : decode nb_MO_get 28 = .ok (.ifCond .eq 17, 3) := by decide +kernel
theorem nd_MO_get_31 : decode nb_MO_get 31 = .ok (.aload_n 0, 1) := by decide +kernel
theorem nd_MO_get_32 : decode nb_MO_get 32 = .ok (.getfield 13, 3) := by decide +kernel
theorem nd_MO_get_35 : decode nb_MO_get 35 = .ok (.bipush 64, 2) := by decide +kernel
theorem nd_MO_get_37 : decode nb_MO_get 37 = .ok (.iload_n 1, 1) := by decide +kernel
theorem nd_MO_get_38 : decode nb_MO_get 38 = .ok (.imul, 1) := by decide +kernel
theorem nd_MO_get_39 : decode nb_MO_get 39 = .ok (.iload_n 2, 1) := by decide +kernel
theorem nd_MO_get_40 : decode nb_MO_get 40 = .ok (.iadd, 1) := by decide +kernel
theorem nd_MO_get_41 : decode nb_MO_get 41 = .ok (.baload, 1) := by decide +kernel
theorem nd_MO_get_42 : decode nb_MO_get 42 = .ok (.ifCond .ne 7, 3) := by decide +kernel
theorem nd_MO_get_45 : decode nb_MO_get 45 = .ok (.iconst 3, 1) := by decide +kernel
theorem nd_MO_get_46 : decode nb_MO_get 46 = .ok (.goto 4, 3) := by decide +kernel
theorem nd_MO_get_49 : decode nb_MO_get 49 = .ok (.iconst 0, 1) := by decide +kernel
theorem nd_MO_get_50 : decode nb_MO_get 50 = .ok (.putfield 27, 3) := by decide +kernel
theorem nd_MO_get_53 : decode nb_MO_get 53 = .ok (.aload_n 0, 1) := by decide +kernel
theorem nd_MO_get_54 : decode nb_MO_get 54 = .ok (.getfield 27, 3) := by decide +kernel
theorem nd_MO_get_57 : decode nb_MO_get 57 = .ok (.ifCond .le 7, 3) := by decide +kernel
theorem nd_MO_get_60 : decode nb_MO_get 60 = .ok (.iconst 0, 1) := by decide +kernel
theorem nd_MO_get_61 : decode nb_MO_get 61 = .ok (.goto 14, 3) := by decide +kernel
theorem nd_MO_get_64 : decode nb_MO_get 64 = .ok (.aload_n 0, 1) := by decide +kernel
theorem nd_MO_get_65 : decode nb_MO_get 65 = .ok (.getfield 16, 3) := by decide +kernel
theorem nd_MO_get_68 : decode nb_MO_get 68 = .ok (.bipush 64, 2) := by decide +kernel
theorem nd_MO_get_70 : decode nb_MO_get 70 = .ok (.iload_n 1, 1) := by decide +kernel
theorem nd_MO_get_71 : decode nb_MO_get 71 = .ok (.imul, 1) := by decide +kernel
theorem nd_MO_get_72 : decode nb_MO_get 72 = .ok (.iload_n 2, 1) := by decide +kernel
theorem nd_MO_get_73 : decode nb_MO_get 73 = .ok (.iadd, 1) := by decide +kernel
theorem nd_MO_get_74 : decode nb_MO_get 74 = .ok (.iaload, 1) := by decide +kernel
theorem nd_MO_get_75 : decode nb_MO_get 75 = .ok (.ireturn, 1) := by decide +kernel
abbrev nb_MO_next : ByteArray := prog_4_method_20_code
def ny_MO_next : MethodName := ⟨nr_MO, "next", "(II)I"⟩
theorem nc_MO_next : Cond.code ny_MO_next nb_MO_next 5 (some .int) ∈ wl := wl_t3 61 rfl rfl
theorem nd_MO_next_0 : decode nb_MO_next 0 = .ok (.aload_n 0, 1) := by decide +kernel
theorem nd_MO_next_1 : decode nb_MO_next 1 = .ok (.aload_n 0, 1) := by decide +kernel
theorem nd_MO_next_2 : decode nb_MO_next 2 = .ok (.getfield 66, 3) := by decide +kernel
theorem nd_MO_next_5 : decode nb_MO_next 5 = .ok (.ifCond .eq 7, 3) := by decide +kernel
theorem nd_MO_next_8 : decode nb_MO_next 8 = .ok (.iconst 1, 1) := by decide +kernel
theorem nd_MO_next_9 : decode nb_MO_next 9 = .ok (.goto 16, 3) := by decide +kernel
theorem nd_MO_next_12 : decode nb_MO_next 12 = .ok (.aload_n 0, 1) := by decide +kernel
theorem nd_MO_next_13 : decode nb_MO_next 13 = .ok (.iload_n 1, 1) := by decide +kernel
theorem nd_MO_next_14 : decode nb_MO_next 14 = .ok (.invokevirtual 30, 3) := by decide +kernel
theorem nd_MO_next_17 : decode nb_MO_next 17 = .ok (.ifCond .eq 7, 3) := by decide +kernel
theorem nd_MO_next_20 : decode nb_MO_next 20 = .ok (.iconst 0, 1) := by decide +kernel
theorem nd_MO_next_21 : decode nb_MO_next 21 = .ok (.goto 4, 3) := by decide +kernel
theorem nd_MO_next_24 : decode nb_MO_next 24 = .ok (.iconst 2, 1) := by decide +kernel
theorem nd_MO_next_25 : decode nb_MO_next 25 = .ok (.putfield 27, 3) := by decide +kernel
theorem nd_MO_next_28 : decode nb_MO_next 28 = .ok (.aload_n 0, 1) := by decide +kernel
theorem nd_MO_next_29 : decode nb_MO_next 29 = .ok (.getfield 27, 3) := by decide +kernel
theorem nd_MO_next_32 : decode nb_MO_next 32 = .ok (.ifCond .le 5, 3) := by decide +kernel
theorem nd_MO_next_35 : decode nb_MO_next 35 = .ok (.iconst 0, 1) := by decide +kernel
theorem nd_MO_next_36 : decode nb_MO_next 36 = .ok (.ireturn, 1) := by decide +kernel
theorem nd_MO_next_37 : decode nb_MO_next 37 = .ok (.iconst (-1), 1) := by decide +kernel
theorem nd_MO_next_38 : decode nb_MO_next 38 = .ok (.istore_n 3, 1) := by decide +kernel
theorem nd_MO_next_39 : decode nb_MO_next 39 = .ok (.bipush 63, 2) := by decide +kernel
theorem nd_MO_next_41 : decode nb_MO_next 41 = .ok (.istore 4, 2) := by decide +kernel
theorem nd_MO_next_43 : decode nb_MO_next 43 = .ok (.iload 4, 2) := by decide +kernel
theorem nd_MO_next_45 : decode nb_MO_next 45 = .ok (.ifCond .lt 37, 3) := by decide +kernel
theorem nd_MO_next_48 : decode nb_MO_next 48 = .ok (.iload 4, 2) := by decide +kernel
theorem nd_MO_next_50 : decode nb_MO_next 50 = .ok (.iload_n 2, 1) := by decide +kernel
theorem nd_MO_next_51 : decode nb_MO_next 51 = .ok (.if_icmp .lt 31, 3) := by decide +kernel
theorem nd_MO_next_54 : decode nb_MO_next 54 = .ok (.aload_n 0, 1) := by decide +kernel
theorem nd_MO_next_55 : decode nb_MO_next 55 = .ok (.getfield 13, 3) := by decide +kernel
theorem nd_MO_next_58 : decode nb_MO_next 58 = .ok (.bipush 64, 2) := by decide +kernel
theorem nd_MO_next_60 : decode nb_MO_next 60 = .ok (.iload_n 1, 1) := by decide +kernel
theorem nd_MO_next_61 : decode nb_MO_next 61 = .ok (.imul, 1) := by decide +kernel
theorem nd_MO_next_62 : decode nb_MO_next 62 = .ok (.iload 4, 2) := by decide +kernel
theorem nd_MO_next_64 : decode nb_MO_next 64 = .ok (.iadd, 1) := by decide +kernel
theorem nd_MO_next_65 : decode nb_MO_next 65 = .ok (.baload, 1) := by decide +kernel
theorem nd_MO_next_66 : decode nb_MO_next 66 = .ok (.ifCond .eq 8, 3) := by decide +kernel
theorem nd_MO_next_69 : decode nb_MO_next 69 = .ok (.iload 4, 2) := by decide +kernel
theorem nd_MO_next_71 : decode nb_MO_next 71 = .ok (.goto 4, 3) := by decide +kernel
theorem nd_MO_next_74 : decode nb_MO_next 74 = .ok (.iload_n 3, 1) := by decide +kernel
theorem nd_MO_next_75 : decode nb_MO_next 75 = .ok (.istore_n 3, 1) := by decide +kernel
theorem nd_MO_next_76 : decode nb_MO_next 76 = .ok (.iinc 4 (-1), 3) := by decide +kernel
theorem nd_MO_next_79 : decode nb_MO_next 79 = .ok (.goto (-36), 3) := by decide +kernel
theorem nd_MO_next_82 : decode nb_MO_next 82 = .ok (.iload_n 3, 1) := by decide +kernel
theorem nd_MO_next_83 : decode nb_MO_next 83 = .ok (.ireturn, 1) := by decide +kernel
abbrev nb_MO_count : ByteArray := prog_4_method_21_code
def ny_MO_count : MethodName := ⟨nr_MO, "count", "(I)I"⟩
theorem nc_MO_count : Cond.code ny_MO_count nb_MO_count 2 (some .int) ∈ wl := wl_t3 65 rfl rfl
theorem nd_MO_count_0 : decode nb_MO_count 0 = .ok (.aload_n 0, 1) := by decide +kernel
theorem nd_MO_count_1 : decode nb_MO_count 1 = .ok (.aload_n 0, 1) := by decide +kernel
theorem nd_MO_count_2 : decode nb_MO_count 2 = .ok (.getfield 66, 3) := by decide +kernel
theorem nd_MO_count_5 : decode nb_MO_count 5 = .ok (.ifCond .eq 7, 3) := by decide +kernel
theorem nd_MO_count_8 : decode nb_MO_count 8 = .ok (.iconst 1, 1) := by decide +kernel
theorem nd_MO_count_9 : decode nb_MO_count 9 = .ok (.goto 16, 3) := by decide +kernel
theorem nd_MO_count_12 : decode nb_MO_count 12 = .ok (.aload_n 0, 1) := by decide +kernel
theorem nd_MO_count_13 : decode nb_MO_count 13 = .ok (.iload_n 1, 1) := by decide +kernel
theorem nd_MO_count_14 : decode nb_MO_count 14 = .ok (.invokevirtual 30, 3) := by decide +kernel
theorem nd_MO_count_17 : decode nb_MO_count 17 = .ok (.ifCond .eq 7, 3) := by decide +kernel
theorem nd_MO_count_20 : decode nb_MO_count 20 = .ok (.iconst 0, 1) := by decide +kernel
theorem nd_MO_count_21 : decode nb_MO_count 21 = .ok (.goto 4, 3) := by decide +kernel
theorem nd_MO_count_24 : decode nb_MO_count 24 = .ok (.iconst 2, 1) := by decide +kernel
theorem nd_MO_count_25 : decode nb_MO_count 25 = .ok (.putfield 27, 3) := by decide +kernel
theorem nd_MO_count_28 : decode nb_MO_count 28 = .ok (.aload_n 0, 1) := by decide +kernel
theorem nd_MO_count_29 : decode nb_MO_count 29 = .ok (.getfield 27, 3) := by decide +kernel
theorem nd_MO_count_32 : decode nb_MO_count 32 = .ok (.ifCond .le 7, 3) := by decide +kernel
theorem nd_MO_count_35 : decode nb_MO_count 35 = .ok (.iconst 0, 1) := by decide +kernel
theorem nd_MO_count_36 : decode nb_MO_count 36 = .ok (.goto 11, 3) := by decide +kernel
theorem nd_MO_count_39 : decode nb_MO_count 39 = .ok (.aload_n 0, 1) := by decide +kernel
theorem nd_MO_count_40 : decode nb_MO_count 40 = .ok (.iload_n 1, 1) := by decide +kernel
theorem nd_MO_count_41 : decode nb_MO_count 41 = .ok (.iconst 0, 1) := by decide +kernel
theorem nd_MO_count_42 : decode nb_MO_count 42 = .ok (.bipush 64, 2) := by decide +kernel
theorem nd_MO_count_44 : decode nb_MO_count 44 = .ok (.invokevirtual 42, 3) := by decide +kernel
theorem nd_MO_count_47 : decode nb_MO_count 47 = .ok (.ireturn, 1) := by decide +kernel
abbrev nb_MO_nodes : ByteArray := prog_4_method_22_code
def ny_MO_nodes : MethodName := ⟨nr_MO, "nodes", "(I)I"⟩
theorem nc_MO_nodes : Cond.code ny_MO_nodes nb_MO_nodes 2 (some .int) ∈ wl := wl_t3 69 rfl rfl
theorem nd_MO_nodes_0 : decode nb_MO_nodes 0 = .ok (.aload_n 0, 1) := by decide +kernel
theorem nd_MO_nodes_1 : decode nb_MO_nodes 1 = .ok (.aload_n 0, 1) := by decide +kernel
theorem nd_MO_nodes_2 : decode nb_MO_nodes 2 = .ok (.getfield 66, 3) := by decide +kernel
theorem nd_MO_nodes_5 : decode nb_MO_nodes 5 = .ok (.ifCond .eq 7, 3) := by decide +kernel
theorem nd_MO_nodes_8 : decode nb_MO_nodes 8 = .ok (.iconst 1, 1) := by decide +kernel
theorem nd_MO_nodes_9 : decode nb_MO_nodes 9 = .ok (.goto 16, 3) := by decide +kernel
theorem nd_MO_nodes_12 : decode nb_MO_nodes 12 = .ok (.aload_n 0, 1) := by decide +kernel
theorem nd_MO_nodes_13 : decode nb_MO_nodes 13 = .ok (.iload_n 1, 1) := by decide +kernel
theorem nd_MO_nodes_14 : decode nb_MO_nodes 14 = .ok (.invokevirtual 30, 3) := by decide +kernel
theorem nd_MO_nodes_17 : decode nb_MO_nodes 17 = .ok (.ifCond .eq 7, 3) := by decide +kernel
theorem nd_MO_nodes_20 : decode nb_MO_nodes 20 = .ok (.iconst 0, 1) := by decide +kernel
theorem nd_MO_nodes_21 : decode nb_MO_nodes 21 = .ok (.goto 4, 3) := by decide +kernel
theorem nd_MO_nodes_24 : decode nb_MO_nodes 24 = .ok (.iconst 2, 1) := by decide +kernel
theorem nd_MO_nodes_25 : decode nb_MO_nodes 25 = .ok (.putfield 27, 3) := by decide +kernel
theorem nd_MO_nodes_28 : decode nb_MO_nodes 28 = .ok (.aload_n 0, 1) := by decide +kernel
theorem nd_MO_nodes_29 : decode nb_MO_nodes 29 = .ok (.getfield 27, 3) := by decide +kernel
theorem nd_MO_nodes_32 : decode nb_MO_nodes 32 = .ok (.ifCond .le 7, 3) := by decide +kernel
theorem nd_MO_nodes_35 : decode nb_MO_nodes 35 = .ok (.iconst 0, 1) := by decide +kernel
theorem nd_MO_nodes_36 : decode nb_MO_nodes 36 = .ok (.goto 11, 3) := by decide +kernel
theorem nd_MO_nodes_39 : decode nb_MO_nodes 39 = .ok (.aload_n 0, 1) := by decide +kernel
theorem nd_MO_nodes_40 : decode nb_MO_nodes 40 = .ok (.iload_n 1, 1) := by decide +kernel
theorem nd_MO_nodes_41 : decode nb_MO_nodes 41 = .ok (.iload_n 1, 1) := by decide +kernel
theorem nd_MO_nodes_42 : decode nb_MO_nodes 42 = .ok (.iconst 1, 1) := by decide +kernel
theorem nd_MO_nodes_43 : decode nb_MO_nodes 43 = .ok (.iadd, 1) := by decide +kernel
theorem nd_MO_nodes_44 : decode nb_MO_nodes 44 = .ok (.invokevirtual 38, 3) := by decide +kernel
theorem nd_MO_nodes_47 : decode nb_MO_nodes 47 = .ok (.ireturn, 1) := by decide +kernel
abbrev nb_MO_shared : ByteArray := prog_4_method_23_code
def ny_MO_shared : MethodName := ⟨nr_MO, "shared", "(II)I"⟩
theorem nc_MO_shared : Cond.code ny_MO_shared nb_MO_shared 6 (some .int) ∈ wl := wl_t3 73 rfl rfl
theorem nd_MO_shared_0 : decode nb_MO_shared 0 = .ok (.aload_n 0, 1) := by decide +kernel
theorem nd_MO_shared_1 : decode nb_MO_shared 1 = .ok (.aload_n 0, 1) := by decide +kernel
theorem nd_MO_shared_2 : decode nb_MO_shared 2 = .ok (.getfield 66, 3) := by decide +kernel
theorem nd_MO_shared_5 : decode nb_MO_shared 5 = .ok (.ifCond .eq 7, 3) := by decide +kernel
theorem nd_MO_shared_8 : decode nb_MO_shared 8 = .ok (.iconst 1, 1) := by decide +kernel
theorem nd_MO_shared_9 : decode nb_MO_shared 9 = .ok (.goto 24, 3) := by decide +kernel
theorem nd_MO_shared_12 : decode nb_MO_shared 12 = .ok (.aload_n 0, 1) := by decide +kernel
theorem nd_MO_shared_13 : decode nb_MO_shared 13 = .ok (.iload_n 1, 1) := by decide +kernel
theorem nd_MO_shared_14 : decode nb_MO_shared 14 = .ok (.invokevirtual 30, 3) := by decide +kernel
theorem nd_MO_shared_17 : decode nb_MO_shared 17 = .ok (.ifCond .eq 15, 3) := by decide +kernel
theorem nd_MO_shared_20 : decode nb_MO_shared 20 = .ok (.aload_n 0, 1) := by decide +kernel
theorem nd_MO_shared_21 : decode nb_MO_shared 21 = .ok (.iload_n 2, 1) := by decide +kernel
theorem nd_MO_shared_22 : decode nb_MO_shared 22 = .ok (.invokevirtual 30, 3) := by decide +kernel
theorem nd_MO_shared_25 : decode nb_MO_shared 25 = .ok (.ifCond .eq 7, 3) := by decide +kernel
theorem nd_MO_shared_28 : decode nb_MO_shared 28 = .ok (.iconst 0, 1) := by decide +kernel
theorem nd_MO_shared_29 : decode nb_MO_shared 29 = .ok (.goto 4, 3) := by decide +kernel
theorem nd_MO_shared_32 : decode nb_MO_shared 32 = .ok (.iconst 2, 1) := by decide +kernel
theorem nd_MO_shared_33 : decode nb_MO_shared 33 = .ok (.putfield 27, 3) := by decide +kernel
theorem nd_MO_shared_36 : decode nb_MO_shared 36 = .ok (.iconst 0, 1) := by decide +kernel
theorem nd_MO_shared_37 : decode nb_MO_shared 37 = .ok (.istore_n 3, 1) := by decide +kernel
theorem nd_MO_shared_38 : decode nb_MO_shared 38 = .ok (.iconst 0, 1) := by decide +kernel
theorem nd_MO_shared_39 : decode nb_MO_shared 39 = .ok (.istore 4, 2) := by decide +kernel
theorem nd_MO_shared_41 : decode nb_MO_shared 41 = .ok (.iload 4, 2) := by decide +kernel
theorem nd_MO_shared_43 : decode nb_MO_shared 43 = .ok (.bipush 21, 2) := by decide +kernel
theorem nd_MO_shared_45 : decode nb_MO_shared 45 = .ok (.if_icmp .ge 60, 3) := by decide +kernel
theorem nd_MO_shared_48 : decode nb_MO_shared 48 = .ok (.aload_n 0, 1) := by decide +kernel
theorem nd_MO_shared_49 : decode nb_MO_shared 49 = .ok (.getfield 27, 3) := by decide +kernel
theorem nd_MO_shared_52 : decode nb_MO_shared 52 = .ok (.ifCond .ne 53, 3) := by decide +kernel
theorem nd_MO_shared_55 : decode nb_MO_shared 55 = .ok (.aload_n 0, 1) := by decide +kernel
theorem nd_MO_shared_56 : decode nb_MO_shared 56 = .ok (.getfield 20, 3) := by decide +kernel
theorem nd_MO_shared_59 : decode nb_MO_shared 59 = .ok (.bipush 21, 2) := by decide +kernel
theorem nd_MO_shared_61 : decode nb_MO_shared 61 = .ok (.iload_n 1, 1) := by decide +kernel
theorem nd_MO_shared_62 : decode nb_MO_shared 62 = .ok (.imul, 1) := by decide +kernel
theorem nd_MO_shared_63 : decode nb_MO_shared 63 = .ok (.iload 4, 2) := by decide +kernel
theorem nd_MO_shared_65 : decode nb_MO_shared 65 = .ok (.iadd, 1) := by decide +kernel
theorem nd_MO_shared_66 : decode nb_MO_shared 66 = .ok (.iaload, 1) := by decide +kernel
theorem nd_MO_shared_67 : decode nb_MO_shared 67 = .ok (.istore 5, 2) := by decide +kernel
theorem nd_MO_shared_69 : decode nb_MO_shared 69 = .ok (.iload 5, 2) := by decide +kernel
theorem nd_MO_shared_71 : decode nb_MO_shared 71 = .ok (.ifCond .le 26, 3) := by decide +kernel
theorem nd_MO_shared_74 : decode nb_MO_shared 74 = .ok (.aload_n 0, 1) := by decide +kernel
theorem nd_MO_shared_75 : decode nb_MO_shared 75 = .ok (.getfield 20, 3) := by decide +kernel
theorem nd_MO_shared_78 : decode nb_MO_shared 78 = .ok (.bipush 21, 2) := by decide +kernel
theorem nd_MO_shared_80 : decode nb_MO_shared 80 = .ok (.iload_n 2, 1) := by decide +kernel
theorem nd_MO_shared_81 : decode nb_MO_shared 81 = .ok (.imul, 1) := by decide +kernel
theorem nd_MO_shared_82 : decode nb_MO_shared 82 = .ok (.iload 4, 2) := by decide +kernel
theorem nd_MO_shared_84 : decode nb_MO_shared 84 = .ok (.iadd, 1) := by decide +kernel
theorem nd_MO_shared_85 : decode nb_MO_shared 85 = .ok (.iaload, 1) := by decide +kernel
theorem nd_MO_shared_86 : decode nb_MO_shared 86 = .ok (.iload 5, 2) := by decide +kernel
theorem nd_MO_shared_88 : decode nb_MO_shared 88 = .ok (.if_icmp .ne 9, 3) := by decide +kernel
theorem nd_MO_shared_91 : decode nb_MO_shared 91 = .ok (.iload_n 3, 1) := by decide +kernel
theorem nd_MO_shared_92 : decode nb_MO_shared 92 = .ok (.iconst 1, 1) := by decide +kernel
theorem nd_MO_shared_93 : decode nb_MO_shared 93 = .ok (.iadd, 1) := by decide +kernel
theorem nd_MO_shared_94 : decode nb_MO_shared 94 = .ok (.goto 4, 3) := by decide +kernel
theorem nd_MO_shared_97 : decode nb_MO_shared 97 = .ok (.iload_n 3, 1) := by decide +kernel
theorem nd_MO_shared_98 : decode nb_MO_shared 98 = .ok (.istore_n 3, 1) := by decide +kernel
theorem nd_MO_shared_99 : decode nb_MO_shared 99 = .ok (.iinc 4 1, 3) := by decide +kernel
theorem nd_MO_shared_102 : decode nb_MO_shared 102 = .ok (.goto (-61), 3) := by decide +kernel
theorem nd_MO_shared_105 : decode nb_MO_shared 105 = .ok (.iload_n 3, 1) := by decide +kernel
theorem nd_MO_shared_106 : decode nb_MO_shared 106 = .ok (.ireturn, 1) := by decide +kernel
abbrev nb_MO_differ : ByteArray := prog_4_method_24_code
def ny_MO_differ : MethodName := ⟨nr_MO, "differ", "(II)I"⟩
theorem nc_MO_differ : Cond.code ny_MO_differ nb_MO_differ 8 (some .int) ∈ wl := wl_t3 77 rfl rfl
theorem nd_MO_differ_0 : decode nb_MO_differ 0 = .ok (.aload_n 0, 1) := by decide +kernel
theorem nd_MO_differ_1 : decode nb_MO_differ 1 = .ok (.aload_n 0, 1) := by decide +kernel
theorem nd_MO_differ_2 : decode nb_MO_differ 2 = .ok (.getfield 66, 3) := by decide +kernel
theorem nd_MO_differ_5 : decode nb_MO_differ 5 = .ok (.ifCond .eq 7, 3) := by decide +kernel
theorem nd_MO_differ_8 : decode nb_MO_differ 8 = .ok (.iconst 1, 1) := by decide +kernel
theorem nd_MO_differ_9 : decode nb_MO_differ 9 = .ok (.goto 24, 3) := by decide +kernel
theorem nd_MO_differ_12 : decode nb_MO_differ 12 = .ok (.aload_n 0, 1) := by decide +kernel
theorem nd_MO_differ_13 : decode nb_MO_differ 13 = .ok (.iload_n 1, 1) := by decide +kernel
theorem nd_MO_differ_14 : decode nb_MO_differ 14 = .ok (.invokevirtual 30, 3) := by decide +kernel
theorem nd_MO_differ_17 : decode nb_MO_differ 17 = .ok (.ifCond .eq 15, 3) := by decide +kernel
theorem nd_MO_differ_20 : decode nb_MO_differ 20 = .ok (.aload_n 0, 1) := by decide +kernel
theorem nd_MO_differ_21 : decode nb_MO_differ 21 = .ok (.iload_n 2, 1) := by decide +kernel
theorem nd_MO_differ_22 : decode nb_MO_differ 22 = .ok (.invokevirtual 30, 3) := by decide +kernel
theorem nd_MO_differ_25 : decode nb_MO_differ 25 = .ok (.ifCond .eq 7, 3) := by decide +kernel
theorem nd_MO_differ_28 : decode nb_MO_differ 28 = .ok (.iconst 0, 1) := by decide +kernel
theorem nd_MO_differ_29 : decode nb_MO_differ 29 = .ok (.goto 4, 3) := by decide +kernel
theorem nd_MO_differ_32 : decode nb_MO_differ 32 = .ok (.iconst 2, 1) := by decide +kernel
theorem nd_MO_differ_33 : decode nb_MO_differ 33 = .ok (.putfield 27, 3) := by decide +kernel
theorem nd_MO_differ_36 : decode nb_MO_differ 36 = .ok (.iconst 0, 1) := by decide +kernel
theorem nd_MO_differ_37 : decode nb_MO_differ 37 = .ok (.istore_n 3, 1) := by decide +kernel
theorem nd_MO_differ_38 : decode nb_MO_differ 38 = .ok (.iconst 0, 1) := by decide +kernel
theorem nd_MO_differ_39 : decode nb_MO_differ 39 = .ok (.istore 4, 2) := by decide +kernel
theorem nd_MO_differ_41 : decode nb_MO_differ 41 = .ok (.iload 4, 2) := by decide +kernel
theorem nd_MO_differ_43 : decode nb_MO_differ 43 = .ok (.bipush 64, 2) := by decide +kernel
theorem nd_MO_differ_45 : decode nb_MO_differ 45 = .ok (.if_icmp .ge 103, 3) := by decide +kernel
theorem nd_MO_differ_48 : decode nb_MO_differ 48 = .ok (.aload_n 0, 1) := by decide +kernel
theorem nd_MO_differ_49 : decode nb_MO_differ 49 = .ok (.getfield 27, 3) := by decide +kernel
theorem nd_MO_differ_52 : decode nb_MO_differ 52 = .ok (.ifCond .ne 96, 3) := by decide +kernel
theorem nd_MO_differ_55 : decode nb_MO_differ 55 = .ok (.aload_n 0, 1) := by decide +kernel
theorem nd_MO_differ_56 : decode nb_MO_differ 56 = .ok (.getfield 13, 3) := by decide +kernel
theorem nd_MO_differ_59 : decode nb_MO_differ 59 = .ok (.bipush 64, 2) := by decide +kernel
theorem nd_MO_differ_61 : decode nb_MO_differ 61 = .ok (.iload_n 1, 1) := by decide +kernel
theorem nd_MO_differ_62 : decode nb_MO_differ 62 = .ok (.imul, 1) := by decide +kernel
theorem nd_MO_differ_63 : decode nb_MO_differ 63 = .ok (.iload 4, 2) := by decide +kernel
theorem nd_MO_differ_65 : decode nb_MO_differ 65 = .ok (.iadd, 1) := by decide +kernel
theorem nd_MO_differ_66 : decode nb_MO_differ 66 = .ok (.baload, 1) := by decide +kernel
theorem nd_MO_differ_67 : decode nb_MO_differ 67 = .ok (.istore 5, 2) := by decide +kernel
theorem nd_MO_differ_69 : decode nb_MO_differ 69 = .ok (.aload_n 0, 1) := by decide +kernel
theorem nd_MO_differ_70 : decode nb_MO_differ 70 = .ok (.getfield 13, 3) := by decide +kernel
theorem nd_MO_differ_73 : decode nb_MO_differ 73 = .ok (.bipush 64, 2) := by decide +kernel
theorem nd_MO_differ_75 : decode nb_MO_differ 75 = .ok (.iload_n 2, 1) := by decide +kernel
theorem nd_MO_differ_76 : decode nb_MO_differ 76 = .ok (.imul, 1) := by decide +kernel
theorem nd_MO_differ_77 : decode nb_MO_differ 77 = .ok (.iload 4, 2) := by decide +kernel
theorem nd_MO_differ_79 : decode nb_MO_differ 79 = .ok (.iadd, 1) := by decide +kernel
theorem nd_MO_differ_80 : decode nb_MO_differ 80 = .ok (.baload, 1) := by decide +kernel
theorem nd_MO_differ_81 : decode nb_MO_differ 81 = .ok (.istore 6, 2) := by decide +kernel
theorem nd_MO_differ_83 : decode nb_MO_differ 83 = .ok (.iload 5, 2) := by decide +kernel
theorem nd_MO_differ_85 : decode nb_MO_differ 85 = .ok (.iload 6, 2) := by decide +kernel
theorem nd_MO_differ_87 : decode nb_MO_differ 87 = .ok (.if_icmp .ne 39, 3) := by decide +kernel
theorem nd_MO_differ_90 : decode nb_MO_differ 90 = .ok (.iload 5, 2) := by decide +kernel
theorem nd_MO_differ_92 : decode nb_MO_differ 92 = .ok (.ifCond .eq 30, 3) := by decide +kernel
theorem nd_MO_differ_95 : decode nb_MO_differ 95 = .ok (.aload_n 0, 1) := by decide +kernel
theorem nd_MO_differ_96 : decode nb_MO_differ 96 = .ok (.getfield 16, 3) := by decide +kernel
theorem nd_MO_differ_99 : decode nb_MO_differ 99 = .ok (.bipush 64, 2) := by decide +kernel
theorem nd_MO_differ_101 : decode nb_MO_differ 101 = .ok (.iload_n 1, 1) := by decide +kernel
theorem nd_MO_differ_102 : decode nb_MO_differ 102 = .ok (.imul, 1) := by decide +kernel
theorem nd_MO_differ_103 : decode nb_MO_differ 103 = .ok (.iload 4, 2) := by decide +kernel
theorem nd_MO_differ_105 : decode nb_MO_differ 105 = .ok (.iadd, 1) := by decide +kernel
theorem nd_MO_differ_106 : decode nb_MO_differ 106 = .ok (.iaload, 1) := by decide +kernel
theorem nd_MO_differ_107 : decode nb_MO_differ 107 = .ok (.aload_n 0, 1) := by decide +kernel
theorem nd_MO_differ_108 : decode nb_MO_differ 108 = .ok (.getfield 16, 3) := by decide +kernel
theorem nd_MO_differ_111 : decode nb_MO_differ 111 = .ok (.bipush 64, 2) := by decide +kernel
theorem nd_MO_differ_113 : decode nb_MO_differ 113 = .ok (.iload_n 2, 1) := by decide +kernel
theorem nd_MO_differ_114 : decode nb_MO_differ 114 = .ok (.imul, 1) := by decide +kernel
theorem nd_MO_differ_115 : decode nb_MO_differ 115 = .ok (.iload 4, 2) := by decide +kernel
theorem nd_MO_differ_117 : decode nb_MO_differ 117 = .ok (.iadd, 1) := by decide +kernel
theorem nd_MO_differ_118 : decode nb_MO_differ 118 = .ok (.iaload, 1) := by decide +kernel
theorem nd_MO_differ_119 : decode nb_MO_differ 119 = .ok (.if_icmp .ne 7, 3) := by decide +kernel
theorem nd_MO_differ_122 : decode nb_MO_differ 122 = .ok (.iconst 1, 1) := by decide +kernel
theorem nd_MO_differ_123 : decode nb_MO_differ 123 = .ok (.goto 4, 3) := by decide +kernel
theorem nd_MO_differ_126 : decode nb_MO_differ 126 = .ok (.iconst 0, 1) := by decide +kernel
theorem nd_MO_differ_127 : decode nb_MO_differ 127 = .ok (.istore 7, 2) := by decide +kernel
theorem nd_MO_differ_129 : decode nb_MO_differ 129 = .ok (.iload 7, 2) := by decide +kernel
theorem nd_MO_differ_131 : decode nb_MO_differ 131 = .ok (.ifCond .eq 7, 3) := by decide +kernel
theorem nd_MO_differ_134 : decode nb_MO_differ 134 = .ok (.iload_n 3, 1) := by decide +kernel
theorem nd_MO_differ_135 : decode nb_MO_differ 135 = .ok (.goto 6, 3) := by decide +kernel
theorem nd_MO_differ_138 : decode nb_MO_differ 138 = .ok (.iload_n 3, 1) := by decide +kernel
theorem nd_MO_differ_139 : decode nb_MO_differ 139 = .ok (.iconst 1, 1) := by decide +kernel
theorem nd_MO_differ_140 : decode nb_MO_differ 140 = .ok (.iadd, 1) := by decide +kernel
theorem nd_MO_differ_141 : decode nb_MO_differ 141 = .ok (.istore_n 3, 1) := by decide +kernel
theorem nd_MO_differ_142 : decode nb_MO_differ 142 = .ok (.iinc 4 1, 3) := by decide +kernel
theorem nd_MO_differ_145 : decode nb_MO_differ 145 = .ok (.goto (-104), 3) := by decide +kernel
theorem nd_MO_differ_148 : decode nb_MO_differ 148 = .ok (.iload_n 3, 1) := by decide +kernel
theorem nd_MO_differ_149 : decode nb_MO_differ 149 = .ok (.ireturn, 1) := by decide +kernel
abbrev nb_MO_snapshot : ByteArray := prog_4_method_25_code
def ny_MO_snapshot : MethodName := ⟨nr_MO, "snapshot", "()I"⟩
theorem nc_MO_snapshot : Cond.code ny_MO_snapshot nb_MO_snapshot 2 (some .int) ∈ wl := wl_t3 81 rfl rfl
theorem nd_MO_snapshot_0 : decode nb_MO_snapshot 0 = .ok (.iconst 1, 1) := by decide +kernel
theorem nd_MO_snapshot_1 : decode nb_MO_snapshot 1 = .ok (.istore_n 1, 1) := by decide +kernel
theorem nd_MO_snapshot_2 : decode nb_MO_snapshot 2 = .ok (.iload_n 1, 1) := by decide +kernel
theorem nd_MO_snapshot_3 : decode nb_MO_snapshot 3 = .ok (.bipush 7, 2) := by decide +kernel
theorem nd_MO_snapshot_5 : decode nb_MO_snapshot 5 = .ok (.if_icmp .ge 19, 3) := by decide +kernel
theorem nd_MO_snapshot_8 : decode nb_MO_snapshot 8 = .ok (.aload_n 0, 1) := by decide +kernel
theorem nd_MO_snapshot_9 : decode nb_MO_snapshot 9 = .ok (.getfield 7, 3) := by decide +kernel
theorem nd_MO_snapshot_12 : decode nb_MO_snapshot 12 = .ok (.iload_n 1, 1) := by decide +kernel
theorem nd_MO_snapshot_13 : decode nb_MO_snapshot 13 = .ok (.baload, 1) := by decide +kernel
theorem nd_MO_snapshot_14 : decode nb_MO_snapshot 14 = .ok (.ifCond .eq 10, 3) := by decide +kernel
theorem nd_MO_snapshot_17 : decode nb_MO_snapshot 17 = .ok (.iload_n 1, 1) := by decide +kernel
theorem nd_MO_snapshot_18 : decode nb_MO_snapshot 18 = .ok (.iconst 1, 1) := by decide +kernel
theorem nd_MO_snapshot_19 : decode nb_MO_snapshot 19 = .ok (.iadd, 1) := by decide +kernel
theorem nd_MO_snapshot_20 : decode nb_MO_snapshot 20 = .ok (.istore_n 1, 1) := by decide +kernel
theorem nd_MO_snapshot_21 : decode nb_MO_snapshot 21 = .ok (.goto (-19), 3) := by decide +kernel
theorem nd_MO_snapshot_24 : decode nb_MO_snapshot 24 = .ok (.aload_n 0, 1) := by decide +kernel
theorem nd_MO_snapshot_25 : decode nb_MO_snapshot 25 = .ok (.aload_n 0, 1) := by decide +kernel
theorem nd_MO_snapshot_26 : decode nb_MO_snapshot 26 = .ok (.getfield 66, 3) := by decide +kernel
theorem nd_MO_snapshot_29 : decode nb_MO_snapshot 29 = .ok (.ifCond .eq 7, 3) := by decide +kernel
theorem nd_MO_snapshot_32 : decode nb_MO_snapshot 32 = .ok (.iconst 1, 1) := by decide +kernel
theorem nd_MO_snapshot_33 : decode nb_MO_snapshot 33 = .ok (.goto 14, 3) := by decide +kernel
theorem nd_MO_snapshot_36 : decode nb_MO_snapshot 36 = .ok (.iload_n 1, 1) := by decide +kernel
theorem nd_MO_snapshot_37 : decode nb_MO_snapshot 37 = .ok (.bipush 7, 2) := by decide +kernel
theorem nd_MO_snapshot_39 : decode nb_MO_snapshot 39 = .ok (.if_icmp .ne 7, 3) := by decide +kernel
theorem nd_MO_snapshot_42 : decode nb_MO_snapshot 42 = .ok (.iconst 2, 1) := by decide +kernel
theorem nd_MO_snapshot_43 : decode nb_MO_snapshot 43 = .ok (.goto 4, 3) := by decide +kernel
theorem nd_MO_snapshot_46 : decode nb_MO_snapshot 46 = .ok (.iconst 0, 1) := by decide +kernel
theorem nd_MO_snapshot_47 : decode nb_MO_snapshot 47 = .ok (.putfield 27, 3) := by decide +kernel
theorem nd_MO_snapshot_50 : decode nb_MO_snapshot 50 = .ok (.aload_n 0, 1) := by decide +kernel
theorem nd_MO_snapshot_51 : decode nb_MO_snapshot 51 = .ok (.getfield 27, 3) := by decide +kernel
theorem nd_MO_snapshot_54 : decode nb_MO_snapshot 54 = .ok (.ifCond .le 5, 3) := by decide +kernel
theorem nd_MO_snapshot_57 : decode nb_MO_snapshot 57 = .ok (.iconst 0, 1) := by decide +kernel
theorem nd_MO_snapshot_58 : decode nb_MO_snapshot 58 = .ok (.ireturn, 1) := by decide +kernel
theorem nd_MO_snapshot_59 : decode nb_MO_snapshot 59 = .ok (.aload_n 0, 1) := by decide +kernel
theorem nd_MO_snapshot_60 : decode nb_MO_snapshot 60 = .ok (.iconst 0, 1) := by decide +kernel
theorem nd_MO_snapshot_61 : decode nb_MO_snapshot 61 = .ok (.iload_n 1, 1) := by decide +kernel
theorem nd_MO_snapshot_62 : decode nb_MO_snapshot 62 = .ok (.invokevirtual 81, 3) := by decide +kernel
theorem nd_MO_snapshot_65 : decode nb_MO_snapshot 65 = .ok (.aload_n 0, 1) := by decide +kernel
theorem nd_MO_snapshot_66 : decode nb_MO_snapshot 66 = .ok (.aload_n 0, 1) := by decide +kernel
theorem nd_MO_snapshot_67 : decode nb_MO_snapshot 67 = .ok (.getfield 63, 3) := by decide +kernel
theorem nd_MO_snapshot_70 : decode nb_MO_snapshot 70 = .ok (.putfield 52, 3) := by decide +kernel
theorem nd_MO_snapshot_73 : decode nb_MO_snapshot 73 = .ok (.iload_n 1, 1) := by decide +kernel
theorem nd_MO_snapshot_74 : decode nb_MO_snapshot 74 = .ok (.ireturn, 1) := by decide +kernel
abbrev nb_MO_rollback : ByteArray := prog_4_method_26_code
def ny_MO_rollback : MethodName := ⟨nr_MO, "rollback", "(I)I"⟩
theorem nc_MO_rollback : Cond.code ny_MO_rollback nb_MO_rollback 2 (some .int) ∈ wl := wl_t3 89 rfl rfl
theorem nd_MO_rollback_0 : decode nb_MO_rollback 0 = .ok (.aload_n 0, 1) := by decide +kernel
theorem nd_MO_rollback_1 : decode nb_MO_rollback 1 = .ok (.aload_n 0, 1) := by decide +kernel
theorem nd_MO_rollback_2 : decode nb_MO_rollback 2 = .ok (.getfield 66, 3) := by decide +kernel
theorem nd_MO_rollback_5 : decode nb_MO_rollback 5 = .ok (.ifCond .eq 7, 3) := by decide +kernel
theorem nd_MO_rollback_8 : decode nb_MO_rollback 8 = .ok (.iconst 1, 1) := by decide +kernel
theorem nd_MO_rollback_9 : decode nb_MO_rollback 9 = .ok (.goto 16, 3) := by decide +kernel
theorem nd_MO_rollback_12 : decode nb_MO_rollback 12 = .ok (.aload_n 0, 1) := by decide +kernel
theorem nd_MO_rollback_13 : decode nb_MO_rollback 13 = .ok (.iload_n 1, 1) := by decide +kernel
theorem nd_MO_rollback_14 : decode nb_MO_rollback 14 = .ok (.invokevirtual 84, 3) := by decide +kernel
theorem nd_MO_rollback_17 : decode nb_MO_rollback 17 = .ok (.ifCond .eq 7, 3) := by decide +kernel
theorem nd_MO_rollback_20 : decode nb_MO_rollback 20 = .ok (.iconst 0, 1) := by decide +kernel
theorem nd_MO_rollback_21 : decode nb_MO_rollback 21 = .ok (.goto 4, 3) := by decide +kernel
theorem nd_MO_rollback_24 : decode nb_MO_rollback 24 = .ok (.iconst 2, 1) := by decide +kernel
theorem nd_MO_rollback_25 : decode nb_MO_rollback 25 = .ok (.putfield 27, 3) := by decide +kernel
theorem nd_MO_rollback_28 : decode nb_MO_rollback 28 = .ok (.aload_n 0, 1) := by decide +kernel
theorem nd_MO_rollback_29 : decode nb_MO_rollback 29 = .ok (.getfield 27, 3) := by decide +kernel
theorem nd_MO_rollback_32 : decode nb_MO_rollback 32 = .ok (.ifCond .le 5, 3) := by decide +kernel
theorem nd_MO_rollback_35 : decode nb_MO_rollback 35 = .ok (.iconst 0, 1) := by decide +kernel
theorem nd_MO_rollback_36 : decode nb_MO_rollback 36 = .ok (.ireturn, 1) := by decide +kernel
theorem nd_MO_rollback_37 : decode nb_MO_rollback 37 = .ok (.aload_n 0, 1) := by decide +kernel
theorem nd_MO_rollback_38 : decode nb_MO_rollback 38 = .ok (.iload_n 1, 1) := by decide +kernel
theorem nd_MO_rollback_39 : decode nb_MO_rollback 39 = .ok (.iconst 0, 1) := by decide +kernel
theorem nd_MO_rollback_40 : decode nb_MO_rollback 40 = .ok (.invokevirtual 81, 3) := by decide +kernel
theorem nd_MO_rollback_43 : decode nb_MO_rollback 43 = .ok (.aload_n 0, 1) := by decide +kernel
theorem nd_MO_rollback_44 : decode nb_MO_rollback 44 = .ok (.iconst 0, 1) := by decide +kernel
theorem nd_MO_rollback_45 : decode nb_MO_rollback 45 = .ok (.iconst 0, 1) := by decide +kernel
theorem nd_MO_rollback_46 : decode nb_MO_rollback 46 = .ok (.bipush 64, 2) := by decide +kernel
theorem nd_MO_rollback_48 : decode nb_MO_rollback 48 = .ok (.invokevirtual 42, 3) := by decide +kernel
theorem nd_MO_rollback_51 : decode nb_MO_rollback 51 = .ok (.ireturn, 1) := by decide +kernel
abbrev nb_MO_drop : ByteArray := prog_4_method_27_code
def ny_MO_drop : MethodName := ⟨nr_MO, "drop", "(I)I"⟩
theorem nc_MO_drop : Cond.code ny_MO_drop nb_MO_drop 3 (some .int) ∈ wl := wl_t3 97 rfl rfl
theorem nd_MO_drop_0 : decode nb_MO_drop 0 = .ok (.aload_n 0, 1) := by decide +kernel
theorem nd_MO_drop_1 : decode nb_MO_drop 1 = .ok (.aload_n 0, 1) := by decide +kernel
theorem nd_MO_drop_2 : decode nb_MO_drop 2 = .ok (.getfield 66, 3) := by decide +kernel
theorem nd_MO_drop_5 : decode nb_MO_drop 5 = .ok (.ifCond .eq 7, 3) := by decide +kernel
theorem nd_MO_drop_8 : decode nb_MO_drop 8 = .ok (.iconst 1, 1) := by decide +kernel
theorem nd_MO_drop_9 : decode nb_MO_drop 9 = .ok (.goto 16, 3) := by decide +kernel
theorem nd_MO_drop_12 : decode nb_MO_drop 12 = .ok (.aload_n 0, 1) := by decide +kernel
theorem nd_MO_drop_13 : decode nb_MO_drop 13 = .ok (.iload_n 1, 1) := by decide +kernel
theorem nd_MO_drop_14 : decode nb_MO_drop 14 = .ok (.invokevirtual 84, 3) := by decide +kernel
theorem nd_MO_drop_17 : decode nb_MO_drop 17 = .ok (.ifCond .eq 7, 3) := by decide +kernel
theorem nd_MO_drop_20 : decode nb_MO_drop 20 = .ok (.iconst 0, 1) := by decide +kernel
theorem nd_MO_drop_21 : decode nb_MO_drop 21 = .ok (.goto 4, 3) := by decide +kernel
theorem nd_MO_drop_24 : decode nb_MO_drop 24 = .ok (.iconst 2, 1) := by decide +kernel
theorem nd_MO_drop_25 : decode nb_MO_drop 25 = .ok (.putfield 27, 3) := by decide +kernel
theorem nd_MO_drop_28 : decode nb_MO_drop 28 = .ok (.aload_n 0, 1) := by decide +kernel
theorem nd_MO_drop_29 : decode nb_MO_drop 29 = .ok (.getfield 27, 3) := by decide +kernel
theorem nd_MO_drop_32 : decode nb_MO_drop 32 = .ok (.ifCond .le 5, 3) := by decide +kernel
theorem nd_MO_drop_35 : decode nb_MO_drop 35 = .ok (.iconst 0, 1) := by decide +kernel
theorem nd_MO_drop_36 : decode nb_MO_drop 36 = .ok (.ireturn, 1) := by decide +kernel
theorem nd_MO_drop_37 : decode nb_MO_drop 37 = .ok (.aload_n 0, 1) := by decide +kernel
theorem nd_MO_drop_38 : decode nb_MO_drop 38 = .ok (.invokevirtual 59, 3) := by decide +kernel
theorem nd_MO_drop_41 : decode nb_MO_drop 41 = .ok (.istore_n 2, 1) := by decide +kernel
theorem nd_MO_drop_42 : decode nb_MO_drop 42 = .ok (.aload_n 0, 1) := by decide +kernel
theorem nd_MO_drop_43 : decode nb_MO_drop 43 = .ok (.iload_n 1, 1) := by decide +kernel
theorem nd_MO_drop_44 : decode nb_MO_drop 44 = .ok (.invokevirtual 87, 3) := by decide +kernel
theorem nd_MO_drop_47 : decode nb_MO_drop 47 = .ok (.aload_n 0, 1) := by decide +kernel
theorem nd_MO_drop_48 : decode nb_MO_drop 48 = .ok (.invokevirtual 59, 3) := by decide +kernel
theorem nd_MO_drop_51 : decode nb_MO_drop 51 = .ok (.iload_n 2, 1) := by decide +kernel
theorem nd_MO_drop_52 : decode nb_MO_drop 52 = .ok (.isub, 1) := by decide +kernel
theorem nd_MO_drop_53 : decode nb_MO_drop 53 = .ok (.ireturn, 1) := by decide +kernel
abbrev nb_MO_dueNow : ByteArray := prog_4_method_28_code
def ny_MO_dueNow : MethodName := ⟨nr_MO, "dueNow", "()I"⟩
theorem nc_MO_dueNow : Cond.code ny_MO_dueNow nb_MO_dueNow 1 (some .int) ∈ wl := wl_t3 109 rfl rfl
theorem nd_MO_dueNow_0 : decode nb_MO_dueNow 0 = .ok (.aload_n 0, 1) := by decide +kernel
theorem nd_MO_dueNow_1 : decode nb_MO_dueNow 1 = .ok (.iconst 0, 1) := by decide +kernel
theorem nd_MO_dueNow_2 : decode nb_MO_dueNow 2 = .ok (.bipush 14, 2) := by decide +kernel
theorem nd_MO_dueNow_4 : decode nb_MO_dueNow 4 = .ok (.invokevirtual 38, 3) := by decide +kernel
theorem nd_MO_dueNow_7 : decode nb_MO_dueNow 7 = .ok (.aload_n 0, 1) := by decide +kernel
theorem nd_MO_dueNow_8 : decode nb_MO_dueNow 8 = .ok (.bipush 7, 2) := by decide +kernel
theorem nd_MO_dueNow_10 : decode nb_MO_dueNow 10 = .ok (.bipush 14, 2) := by decide +kernel
theorem nd_MO_dueNow_12 : decode nb_MO_dueNow 12 = .ok (.invokevirtual 38, 3) := by decide +kernel
theorem nd_MO_dueNow_15 : decode nb_MO_dueNow 15 = .ok (.isub, 1) := by decide +kernel
theorem nd_MO_dueNow_16 : decode nb_MO_dueNow 16 = .ok (.iconst 1, 1) := by decide +kernel
theorem nd_MO_dueNow_17 : decode nb_MO_dueNow 17 = .ok (.iadd, 1) := by decide +kernel
theorem nd_MO_dueNow_18 : decode nb_MO_dueNow 18 = .ok (.ireturn, 1) := by decide +kernel
abbrev nb_MO_commit : ByteArray := prog_4_method_29_code
def ny_MO_commit : MethodName := ⟨nr_MO, "commit", "()I"⟩
theorem nc_MO_commit : Cond.code ny_MO_commit nb_MO_commit 3 (some .int) ∈ wl := wl_t3 105 rfl rfl
theorem nd_MO_commit_0 : decode nb_MO_commit 0 = .ok (.aload_n 0, 1) := by decide +kernel
theorem nd_MO_commit_1 : decode nb_MO_commit 1 = .ok (.aload_n 0, 1) := by decide +kernel
theorem nd_MO_commit_2 : decode nb_MO_commit 2 = .ok (.getfield 66, 3) := by decide +kernel
theorem nd_MO_commit_5 : decode nb_MO_commit 5 = .ok (.ifCond .eq 7, 3) := by decide +kernel
theorem nd_MO_commit_8 : decode nb_MO_commit 8 = .ok (.iconst 1, 1) := by decide +kernel
theorem nd_MO_commit_9 : decode nb_MO_commit 9 = .ok (.goto 4, 3) := by decide +kernel
theorem nd_MO_commit_12 : decode nb_MO_commit 12 = .ok (.iconst 0, 1) := by decide +kernel
theorem nd_MO_commit_13 : decode nb_MO_commit 13 = .ok (.putfield 27, 3) := by decide +kernel
theorem nd_MO_commit_16 : decode nb_MO_commit 16 = .ok (.aload_n 0, 1) := by decide +kernel
theorem nd_MO_commit_17 : decode nb_MO_commit 17 = .ok (.getfield 27, 3) := by decide +kernel
theorem nd_MO_commit_20 : decode nb_MO_commit 20 = .ok (.ifCond .le 5, 3) := by decide +kernel
theorem nd_MO_commit_23 : decode nb_MO_commit 23 = .ok (.iconst 0, 1) := by decide +kernel
theorem nd_MO_commit_24 : decode nb_MO_commit 24 = .ok (.ireturn, 1) := by decide +kernel
theorem nd_MO_commit_25 : decode nb_MO_commit 25 = .ok (.aload_n 0, 1) := by decide +kernel
theorem nd_MO_commit_26 : decode nb_MO_commit 26 = .ok (.invokevirtual 91, 3) := by decide +kernel
theorem nd_MO_commit_29 : decode nb_MO_commit 29 = .ok (.istore_n 1, 1) := by decide +kernel
theorem nd_MO_commit_30 : decode nb_MO_commit 30 = .ok (.aload_n 0, 1) := by decide +kernel
theorem nd_MO_commit_31 : decode nb_MO_commit 31 = .ok (.getfield 23, 3) := by decide +kernel
theorem nd_MO_commit_34 : decode nb_MO_commit 34 = .ok (.ifCond .lt 41, 3) := by decide +kernel
theorem nd_MO_commit_37 : decode nb_MO_commit 37 = .ok (.aload_n 0, 1) := by decide +kernel
theorem nd_MO_commit_38 : decode nb_MO_commit 38 = .ok (.getfield 23, 3) := by decide +kernel
theorem nd_MO_commit_41 : decode nb_MO_commit 41 = .ok (.iload_n 1, 1) := by decide +kernel
theorem nd_MO_commit_42 : decode nb_MO_commit 42 = .ok (.if_icmp .ge 33, 3) := by decide +kernel
theorem nd_MO_commit_45 : decode nb_MO_commit 45 = .ok (.aload_n 0, 1) := by decide +kernel
theorem nd_MO_commit_46 : decode nb_MO_commit 46 = .ok (.aload_n 0, 1) := by decide +kernel
theorem nd_MO_commit_47 : decode nb_MO_commit 47 = .ok (.getfield 94, 3) := by decide +kernel
theorem nd_MO_commit_50 : decode nb_MO_commit 50 = .ok (.aload_n 0, 1) := by decide +kernel
theorem nd_MO_commit_51 : decode nb_MO_commit 51 = .ok (.getfield 23, 3) := by decide +kernel
theorem nd_MO_commit_54 : decode nb_MO_commit 54 = .ok (.iadd, 1) := by decide +kernel
theorem nd_MO_commit_55 : decode nb_MO_commit 55 = .ok (.putfield 94, 3) := by decide +kernel
theorem nd_MO_commit_58 : decode nb_MO_commit 58 = .ok (.aload_n 0, 1) := by decide +kernel
theorem nd_MO_commit_59 : decode nb_MO_commit 59 = .ok (.iconst (-1), 1) := by decide +kernel
theorem nd_MO_commit_60 : decode nb_MO_commit 60 = .ok (.putfield 23, 3) := by decide +kernel
theorem nd_MO_commit_63 : decode nb_MO_commit 63 = .ok (.aload_n 0, 1) := by decide +kernel
theorem nd_MO_commit_64 : decode nb_MO_commit 64 = .ok (.iconst 1, 1) := by decide +kernel
theorem nd_MO_commit_65 : decode nb_MO_commit 65 = .ok (.putfield 66, 3) := by decide +kernel
theorem nd_MO_commit_68 : decode nb_MO_commit 68 = .ok (.aload_n 0, 1) := by decide +kernel
theorem nd_MO_commit_69 : decode nb_MO_commit 69 = .ok (.iconst 1, 1) := by decide +kernel
theorem nd_MO_commit_70 : decode nb_MO_commit 70 = .ok (.putfield 27, 3) := by decide +kernel
theorem nd_MO_commit_73 : decode nb_MO_commit 73 = .ok (.iconst 0, 1) := by decide +kernel
theorem nd_MO_commit_74 : decode nb_MO_commit 74 = .ok (.ireturn, 1) := by decide +kernel
theorem nd_MO_commit_75 : decode nb_MO_commit 75 = .ok (.aload_n 0, 1) := by decide +kernel
theorem nd_MO_commit_76 : decode nb_MO_commit 76 = .ok (.aload_n 0, 1) := by decide +kernel
theorem nd_MO_commit_77 : decode nb_MO_commit 77 = .ok (.getfield 23, 3) := by decide +kernel
theorem nd_MO_commit_80 : decode nb_MO_commit 80 = .ok (.ifCond .ge 10, 3) := by decide +kernel
theorem nd_MO_commit_83 : decode nb_MO_commit 83 = .ok (.aload_n 0, 1) := by decide +kernel
theorem nd_MO_commit_84 : decode nb_MO_commit 84 = .ok (.getfield 23, 3) := by decide +kernel
theorem nd_MO_commit_87 : decode nb_MO_commit 87 = .ok (.goto 9, 3) := by decide +kernel
theorem nd_MO_commit_90 : decode nb_MO_commit 90 = .ok (.aload_n 0, 1) := by decide +kernel
theorem nd_MO_commit_91 : decode nb_MO_commit 91 = .ok (.getfield 23, 3) := by decide +kernel
theorem nd_MO_commit_94 : decode nb_MO_commit 94 = .ok (.iload_n 1, 1) := by decide +kernel
theorem nd_MO_commit_95 : decode nb_MO_commit 95 = .ok (.isub, 1) := by decide +kernel
theorem nd_MO_commit_96 : decode nb_MO_commit 96 = .ok (.putfield 23, 3) := by decide +kernel
theorem nd_MO_commit_99 : decode nb_MO_commit 99 = .ok (.aload_n 0, 1) := by decide +kernel
theorem nd_MO_commit_100 : decode nb_MO_commit 100 = .ok (.aload_n 0, 1) := by decide +kernel
theorem nd_MO_commit_101 : decode nb_MO_commit 101 = .ok (.getfield 94, 3) := by decide +kernel
theorem nd_MO_commit_104 : decode nb_MO_commit 104 = .ok (.iload_n 1, 1) := by decide +kernel
theorem nd_MO_commit_105 : decode nb_MO_commit 105 = .ok (.iadd, 1) := by decide +kernel
theorem nd_MO_commit_106 : decode nb_MO_commit 106 = .ok (.putfield 94, 3) := by decide +kernel
theorem nd_MO_commit_109 : decode nb_MO_commit 109 = .ok (.iconst 0, 1) := by decide +kernel
theorem nd_MO_commit_110 : decode nb_MO_commit 110 = .ok (.istore_n 2, 1) := by decide +kernel
theorem nd_MO_commit_111 : decode nb_MO_commit 111 = .ok (.iload_n 2, 1) := by decide +kernel
theorem nd_MO_commit_112 : decode nb_MO_commit 112 = .ok (.bipush 7, 2) := by decide +kernel
theorem nd_MO_commit_114 : decode nb_MO_commit 114 = .ok (.if_icmp .ge 18, 3) := by decide +kernel
theorem nd_MO_commit_117 : decode nb_MO_commit 117 = .ok (.aload_n 0, 1) := by decide +kernel
theorem nd_MO_commit_118 : decode nb_MO_commit 118 = .ok (.iload_n 2, 1) := by decide +kernel
theorem nd_MO_commit_119 : decode nb_MO_commit 119 = .ok (.bipush 7, 2) := by decide +kernel
theorem nd_MO_commit_121 : decode nb_MO_commit 121 = .ok (.iload_n 2, 1) := by decide +kernel
theorem nd_MO_commit_122 : decode nb_MO_commit 122 = .ok (.iadd, 1) := by decide +kernel
theorem nd_MO_commit_123 : decode nb_MO_commit 123 = .ok (.invokevirtual 81, 3) := by decide +kernel
theorem nd_MO_commit_126 : decode nb_MO_commit 126 = .ok (.iinc 2 1, 3) := by decide +kernel
theorem nd_MO_commit_129 : decode nb_MO_commit 129 = .ok (.goto (-18), 3) := by decide +kernel
theorem nd_MO_commit_132 : decode nb_MO_commit 132 = .ok (.aload_n 0, 1) := by decide +kernel
theorem nd_MO_commit_133 : decode nb_MO_commit 133 = .ok (.aload_n 0, 1) := by decide +kernel
theorem nd_MO_commit_134 : decode nb_MO_commit 134 = .ok (.getfield 63, 3) := by decide +kernel
theorem nd_MO_commit_137 : decode nb_MO_commit 137 = .ok (.putfield 52, 3) := by decide +kernel
theorem nd_MO_commit_140 : decode nb_MO_commit 140 = .ok (.iload_n 1, 1) := by decide +kernel
theorem nd_MO_commit_141 : decode nb_MO_commit 141 = .ok (.ireturn, 1) := by decide +kernel
abbrev nb_MO_free : ByteArray := prog_4_method_30_code
def ny_MO_free : MethodName := ⟨nr_MO, "free", "()I"⟩
theorem nc_MO_free : Cond.code ny_MO_free nb_MO_free 1 (some .int) ∈ wl := wl_t3 113 rfl rfl
theorem nd_MO_free_0 : decode nb_MO_free 0 = .ok (.aload_n 0, 1) := by decide +kernel
theorem nd_MO_free_1 : decode nb_MO_free 1 = .ok (.aload_n 0, 1) := by decide +kernel
theorem nd_MO_free_2 : decode nb_MO_free 2 = .ok (.getfield 66, 3) := by decide +kernel
theorem nd_MO_free_5 : decode nb_MO_free 5 = .ok (.ifCond .eq 7, 3) := by decide +kernel
theorem nd_MO_free_8 : decode nb_MO_free 8 = .ok (.iconst 1, 1) := by decide +kernel
theorem nd_MO_free_9 : decode nb_MO_free 9 = .ok (.goto 4, 3) := by decide +kernel
theorem nd_MO_free_12 : decode nb_MO_free 12 = .ok (.iconst 0, 1) := by decide +kernel
theorem nd_MO_free_13 : decode nb_MO_free 13 = .ok (.putfield 27, 3) := by decide +kernel
theorem nd_MO_free_16 : decode nb_MO_free 16 = .ok (.aload_n 0, 1) := by decide +kernel
theorem nd_MO_free_17 : decode nb_MO_free 17 = .ok (.getfield 27, 3) := by decide +kernel
theorem nd_MO_free_20 : decode nb_MO_free 20 = .ok (.ifCond .le 7, 3) := by decide +kernel
theorem nd_MO_free_23 : decode nb_MO_free 23 = .ok (.iconst 0, 1) := by decide +kernel
theorem nd_MO_free_24 : decode nb_MO_free 24 = .ok (.goto 7, 3) := by decide +kernel
theorem nd_MO_free_27 : decode nb_MO_free 27 = .ok (.aload_n 0, 1) := by decide +kernel
theorem nd_MO_free_28 : decode nb_MO_free 28 = .ok (.invokevirtual 59, 3) := by decide +kernel
theorem nd_MO_free_31 : decode nb_MO_free 31 = .ok (.ireturn, 1) := by decide +kernel
abbrev nb_MO_due : ByteArray := prog_4_method_31_code
def ny_MO_due : MethodName := ⟨nr_MO, "due", "()I"⟩
theorem nc_MO_due : Cond.code ny_MO_due nb_MO_due 1 (some .int) ∈ wl := wl_t3 117 rfl rfl
theorem nd_MO_due_0 : decode nb_MO_due 0 = .ok (.aload_n 0, 1) := by decide +kernel
theorem nd_MO_due_1 : decode nb_MO_due 1 = .ok (.aload_n 0, 1) := by decide +kernel
theorem nd_MO_due_2 : decode nb_MO_due 2 = .ok (.getfield 66, 3) := by decide +kernel
theorem nd_MO_due_5 : decode nb_MO_due 5 = .ok (.ifCond .eq 7, 3) := by decide +kernel
theorem nd_MO_due_8 : decode nb_MO_due 8 = .ok (.iconst 1, 1) := by decide +kernel
theorem nd_MO_due_9 : decode nb_MO_due 9 = .ok (.goto 4, 3) := by decide +kernel
theorem nd_MO_due_12 : decode nb_MO_due 12 = .ok (.iconst 0, 1) := by decide +kernel
theorem nd_MO_due_13 : decode nb_MO_due 13 = .ok (.putfield 27, 3) := by decide +kernel
theorem nd_MO_due_16 : decode nb_MO_due 16 = .ok (.aload_n 0, 1) := by decide +kernel
theorem nd_MO_due_17 : decode nb_MO_due 17 = .ok (.getfield 27, 3) := by decide +kernel
theorem nd_MO_due_20 : decode nb_MO_due 20 = .ok (.ifCond .le 7, 3) := by decide +kernel
theorem nd_MO_due_23 : decode nb_MO_due 23 = .ok (.iconst 0, 1) := by decide +kernel
theorem nd_MO_due_24 : decode nb_MO_due 24 = .ok (.goto 7, 3) := by decide +kernel
theorem nd_MO_due_27 : decode nb_MO_due 27 = .ok (.aload_n 0, 1) := by decide +kernel
theorem nd_MO_due_28 : decode nb_MO_due 28 = .ok (.invokevirtual 91, 3) := by decide +kernel
theorem nd_MO_due_31 : decode nb_MO_due 31 = .ok (.ireturn, 1) := by decide +kernel
abbrev nb_MO_order : ByteArray := prog_4_method_32_code
def ny_MO_order : MethodName := ⟨nr_MO, "order", "(I)Z"⟩
theorem nc_MO_order : Cond.code ny_MO_order nb_MO_order 2 (some .boolean) ∈ wl := wl_t3 121 rfl rfl
theorem nd_MO_order_0 : decode nb_MO_order 0 = .ok (.aload_n 0, 1) := by decide +kernel
theorem nd_MO_order_1 : decode nb_MO_order 1 = .ok (.iconst 0, 1) := by decide +kernel
theorem nd_MO_order_2 : decode nb_MO_order 2 = .ok (.putfield 27, 3) := by decide +kernel
theorem nd_MO_order_5 : decode nb_MO_order 5 = .ok (.iload_n 1, 1) := by decide +kernel
theorem nd_MO_order_6 : decode nb_MO_order 6 = .ok (.ifCond .lt 9, 3) := by decide +kernel
theorem nd_MO_order_9 : decode nb_MO_order 9 = .ok (.iload_n 1, 1) := by decide +kernel
theorem nd_MO_order_10 : decode nb_MO_order 10 = .ok (.bipush 100, 2) := by decide +kernel
theorem nd_MO_order_12 : decode nb_MO_order 12 = .ok (.if_icmp .le 5, 3) := by decide +kernel
theorem nd_MO_order_15 : decode nb_MO_order 15 = .ok (.iconst 0, 1) := by decide +kernel
theorem nd_MO_order_16 : decode nb_MO_order 16 = .ok (.ireturn, 1) := by decide +kernel
theorem nd_MO_order_17 : decode nb_MO_order 17 = .ok (.aload_n 0, 1) := by decide +kernel
theorem nd_MO_order_18 : decode nb_MO_order 18 = .ok (.iload_n 1, 1) := by decide +kernel
theorem nd_MO_order_19 : decode nb_MO_order 19 = .ok (.putfield 23, 3) := by decide +kernel
theorem nd_MO_order_22 : decode nb_MO_order 22 = .ok (.iconst 1, 1) := by decide +kernel
theorem nd_MO_order_23 : decode nb_MO_order 23 = .ok (.ireturn, 1) := by decide +kernel
abbrev nb_MO_recover : ByteArray := prog_4_method_33_code
def ny_MO_recover : MethodName := ⟨nr_MO, "recover", "()I"⟩
theorem nc_MO_recover : Cond.code ny_MO_recover nb_MO_recover 3 (some .int) ∈ wl := wl_t3 125 rfl rfl
theorem nd_MO_recover_0 : decode nb_MO_recover 0 = .ok (.aload_n 0, 1) := by decide +kernel
theorem nd_MO_recover_1 : decode nb_MO_recover 1 = .ok (.iconst 0, 1) := by decide +kernel
theorem nd_MO_recover_2 : decode nb_MO_recover 2 = .ok (.putfield 27, 3) := by decide +kernel
theorem nd_MO_recover_5 : decode nb_MO_recover 5 = .ok (.aload_n 0, 1) := by decide +kernel
theorem nd_MO_recover_6 : decode nb_MO_recover 6 = .ok (.getfield 66, 3) := by decide +kernel
theorem nd_MO_recover_9 : decode nb_MO_recover 9 = .ok (.ifCond .ne 5, 3) := by decide +kernel
theorem nd_MO_recover_12 : decode nb_MO_recover 12 = .ok (.iconst (-1), 1) := by decide +kernel
theorem nd_MO_recover_13 : decode nb_MO_recover 13 = .ok (.ireturn, 1) := by decide +kernel
theorem nd_MO_recover_14 : decode nb_MO_recover 14 = .ok (.iconst 0, 1) := by decide +kernel
theorem nd_MO_recover_15 : decode nb_MO_recover 15 = .ok (.istore_n 1, 1) := by decide +kernel
theorem nd_MO_recover_16 : decode nb_MO_recover 16 = .ok (.iconst 0, 1) := by decide +kernel
theorem nd_MO_recover_17 : decode nb_MO_recover 17 = .ok (.istore_n 2, 1) := by decide +kernel
theorem nd_MO_recover_18 : decode nb_MO_recover 18 = .ok (.iload_n 2, 1) := by decide +kernel
theorem nd_MO_recover_19 : decode nb_MO_recover 19 = .ok (.bipush 7, 2) := by decide +kernel
theorem nd_MO_recover_21 : decode nb_MO_recover 21 = .ok (.if_icmp .ge 39, 3) := by decide +kernel
theorem nd_MO_recover_24 : decode nb_MO_recover 24 = .ok (.aload_n 0, 1) := by decide +kernel
theorem nd_MO_recover_25 : decode nb_MO_recover 25 = .ok (.bipush 7, 2) := by decide +kernel
theorem nd_MO_recover_27 : decode nb_MO_recover 27 = .ok (.iload_n 2, 1) := by decide +kernel
theorem nd_MO_recover_28 : decode nb_MO_recover 28 = .ok (.iadd, 1) := by decide +kernel
theorem nd_MO_recover_29 : decode nb_MO_recover 29 = .ok (.iload_n 2, 1) := by decide +kernel
theorem nd_MO_recover_30 : decode nb_MO_recover 30 = .ok (.invokevirtual 81, 3) := by decide +kernel
theorem nd_MO_recover_33 : decode nb_MO_recover 33 = .ok (.iload_n 2, 1) := by decide +kernel
theorem nd_MO_recover_34 : decode nb_MO_recover 34 = .ok (.ifCond .le 18, 3) := by decide +kernel
theorem nd_MO_recover_37 : decode nb_MO_recover 37 = .ok (.aload_n 0, 1) := by decide +kernel
theorem nd_MO_recover_38 : decode nb_MO_recover 38 = .ok (.getfield 7, 3) := by decide +kernel
theorem nd_MO_recover_41 : decode nb_MO_recover 41 = .ok (.iload_n 2, 1) := by decide +kernel
theorem nd_MO_recover_42 : decode nb_MO_recover 42 = .ok (.baload, 1) := by decide +kernel
theorem nd_MO_recover_43 : decode nb_MO_recover 43 = .ok (.ifCond .eq 9, 3) := by decide +kernel
theorem nd_MO_recover_46 : decode nb_MO_recover 46 = .ok (.iload_n 1, 1) := by decide +kernel
theorem nd_MO_recover_47 : decode nb_MO_recover 47 = .ok (.iconst 1, 1) := by decide +kernel
theorem nd_MO_recover_48 : decode nb_MO_recover 48 = .ok (.iadd, 1) := by decide +kernel
theorem nd_MO_recover_49 : decode nb_MO_recover 49 = .ok (.goto 4, 3) := by decide +kernel
theorem nd_MO_recover_52 : decode nb_MO_recover 52 = .ok (.iload_n 1, 1) := by decide +kernel
theorem nd_MO_recover_53 : decode nb_MO_recover 53 = .ok (.istore_n 1, 1) := by decide +kernel
theorem nd_MO_recover_54 : decode nb_MO_recover 54 = .ok (.iinc 2 1, 3) := by decide +kernel
theorem nd_MO_recover_57 : decode nb_MO_recover 57 = .ok (.goto (-39), 3) := by decide +kernel
theorem nd_MO_recover_60 : decode nb_MO_recover 60 = .ok (.aload_n 0, 1) := by decide +kernel
theorem nd_MO_recover_61 : decode nb_MO_recover 61 = .ok (.iconst 0, 1) := by decide +kernel
theorem nd_MO_recover_62 : decode nb_MO_recover 62 = .ok (.putfield 66, 3) := by decide +kernel
theorem nd_MO_recover_65 : decode nb_MO_recover 65 = .ok (.iload_n 1, 1) := by decide +kernel
theorem nd_MO_recover_66 : decode nb_MO_recover 66 = .ok (.ireturn, 1) := by decide +kernel
abbrev nb_MO_writes : ByteArray := prog_4_method_34_code
def ny_MO_writes : MethodName := ⟨nr_MO, "writes", "()I"⟩
theorem nc_MO_writes : Cond.code ny_MO_writes nb_MO_writes 1 (some .int) ∈ wl := wl_t3 129 rfl rfl
theorem nd_MO_writes_0 : decode nb_MO_writes 0 = .ok (.aload_n 0, 1) := by decide +kernel
theorem nd_MO_writes_1 : decode nb_MO_writes 1 = .ok (.iconst 0, 1) := by decide +kernel
theorem nd_MO_writes_2 : decode nb_MO_writes 2 = .ok (.putfield 27, 3) := by decide +kernel
theorem nd_MO_writes_5 : decode nb_MO_writes 5 = .ok (.aload_n 0, 1) := by decide +kernel
theorem nd_MO_writes_6 : decode nb_MO_writes 6 = .ok (.getfield 94, 3) := by decide +kernel
theorem nd_MO_writes_9 : decode nb_MO_writes 9 = .ok (.ireturn, 1) := by decide +kernel
abbrev nb_MO_down : ByteArray := prog_4_method_35_code
def ny_MO_down : MethodName := ⟨nr_MO, "down", "()Z"⟩
theorem nc_MO_down : Cond.code ny_MO_down nb_MO_down 1 (some .boolean) ∈ wl := wl_t3 133 rfl rfl
theorem nd_MO_down_0 : decode nb_MO_down 0 = .ok (.aload_n 0, 1) := by decide +kernel
theorem nd_MO_down_1 : decode nb_MO_down 1 = .ok (.iconst 0, 1) := by decide +kernel
theorem nd_MO_down_2 : decode nb_MO_down 2 = .ok (.putfield 27, 3) := by decide +kernel
theorem nd_MO_down_5 : decode nb_MO_down 5 = .ok (.aload_n 0, 1) := by decide +kernel
theorem nd_MO_down_6 : decode nb_MO_down 6 = .ok (.getfield 66, 3) := by decide +kernel
theorem nd_MO_down_9 : decode nb_MO_down 9 = .ok (.ireturn, 1) := by decide +kernel
