/-! names and decode rows of FrozenBranchesLaw (printed by names.py) -/
abbrev nb_LW_put : ByteArray := method_3_code
def ny_LW_put : MethodName := ⟨nr_LW, "put", "(LFrozenBranches;II[J)I"⟩
theorem nd_LW_put_0 : decode nb_LW_put 0 = .ok (.aload_n 3, 1) := by decide +kernel
theorem nd_LW_put_1 : decode nb_LW_put 1 = .ok (.iconst 0, 1) := by decide +kernel
theorem nd_LW_put_2 : decode nb_LW_put 2 = .ok (.aload_n 0, 1) := by decide +kernel
theorem nd_LW_put_3 : decode nb_LW_put 3 = .ok (.iload_n 1, 1) := by decide +kernel
theorem nd_LW_put_4 : decode nb_LW_put 4 = .ok (.iload_n 2, 1) := by decide +kernel
theorem nd_LW_put_5 : decode nb_LW_put 5 = .ok (.invokevirtual 7, 3) := by decide +kernel
theorem nd_LW_put_8 : decode nb_LW_put 8 = .ok (.i2l, 1) := by decide +kernel
theorem nd_LW_put_9 : decode nb_LW_put 9 = .ok (.lastore, 1) := by decide +kernel
theorem nd_LW_put_10 : decode nb_LW_put 10 = .ok (.goto 15, 3) := by decide +kernel
theorem nd_LW_put_13 : decode nb_LW_put 13 = .ok (.astore 4, 2) := by decide +kernel
theorem nd_LW_put_15 : decode nb_LW_put 15 = .ok (.iconst 1, 1) := by decide +kernel
theorem nd_LW_put_16 : decode nb_LW_put 16 = .ok (.ireturn, 1) := by decide +kernel
theorem nd_LW_put_17 : decode nb_LW_put 17 = .ok (.astore 4, 2) := by decide +kernel
theorem nd_LW_put_19 : decode nb_LW_put 19 = .ok (.iconst 2, 1) := by decide +kernel
theorem nd_LW_put_20 : decode nb_LW_put 20 = .ok (.ireturn, 1) := by decide +kernel
theorem nd_LW_put_21 : decode nb_LW_put 21 = .ok (.astore 4, 2) := by decide +kernel
theorem nd_LW_put_23 : decode nb_LW_put 23 = .ok (.iconst 3, 1) := by decide +kernel
theorem nd_LW_put_24 : decode nb_LW_put 24 = .ok (.ireturn, 1) := by decide +kernel
theorem nd_LW_put_25 : decode nb_LW_put 25 = .ok (.iconst 0, 1) := by decide +kernel
theorem nd_LW_put_26 : decode nb_LW_put 26 = .ok (.ireturn, 1) := by decide +kernel
abbrev nb_LW_remove : ByteArray := method_4_code
def ny_LW_remove : MethodName := ⟨nr_LW, "remove", "(LFrozenBranches;I[J)I"⟩
theorem nd_LW_remove_0 : decode nb_LW_remove 0 = .ok (.aload_n 2, 1) := by decide +kernel
theorem nd_LW_remove_1 : decode nb_LW_remove 1 = .ok (.iconst 0, 1) := by decide +kernel
theorem nd_LW_remove_2 : decode nb_LW_remove 2 = .ok (.aload_n 0, 1) := by decide +kernel
theorem nd_LW_remove_3 : decode nb_LW_remove 3 = .ok (.iload_n 1, 1) := by decide +kernel
theorem nd_LW_remove_4 : decode nb_LW_remove 4 = .ok (.invokevirtual 19, 3) := by decide +kernel
theorem nd_LW_remove_7 : decode nb_LW_remove 7 = .ok (.i2l, 1) := by decide +kernel
theorem nd_LW_remove_8 : decode nb_LW_remove 8 = .ok (.lastore, 1) := by decide +kernel
theorem nd_LW_remove_9 : decode nb_LW_remove 9 = .ok (.goto 12, 3) := by decide +kernel
theorem nd_LW_remove_12 : decode nb_LW_remove 12 = .ok (.astore_n 3, 1) := by decide +kernel
theorem nd_LW_remove_13 : decode nb_LW_remove 13 = .ok (.iconst 1, 1) := by decide +kernel
theorem nd_LW_remove_14 : decode nb_LW_remove 14 = .ok (.ireturn, 1) := by decide +kernel
theorem nd_LW_remove_15 : decode nb_LW_remove 15 = .ok (.astore_n 3, 1) := by decide +kernel
theorem nd_LW_remove_16 : decode nb_LW_remove 16 = .ok (.iconst 2, 1) := by decide +kernel
theorem nd_LW_remove_17 : decode nb_LW_remove 17 = .ok (.ireturn, 1) := by decide +kernel
theorem nd_LW_remove_18 : decode nb_LW_remove 18 = .ok (.astore_n 3, 1) := by decide +kernel
theorem nd_LW_remove_19 : decode nb_LW_remove 19 = .ok (.iconst 3, 1) := by decide +kernel
theorem nd_LW_remove_20 : decode nb_LW_remove 20 = .ok (.ireturn, 1) := by decide +kernel
theorem nd_LW_remove_21 : decode nb_LW_remove 21 = .ok (.iconst 0, 1) := by decide +kernel
theorem nd_LW_remove_22 : decode nb_LW_remove 22 = .ok (.ireturn, 1) := by decide +kernel
abbrev nb_LW_get : ByteArray := method_5_code
def ny_LW_get : MethodName := ⟨nr_LW, "get", "(LFrozenBranches;II[J)I"⟩
theorem nd_LW_get_0 : decode nb_LW_get 0 = .ok (.aload_n 3, 1) := by decide +kernel
theorem nd_LW_get_1 : decode nb_LW_get 1 = .ok (.iconst 0, 1) := by decide +kernel
theorem nd_LW_get_2 : decode nb_LW_get 2 = .ok (.aload_n 0, 1) := by decide +kernel
theorem nd_LW_get_3 : decode nb_LW_get 3 = .ok (.iload_n 1, 1) := by decide +kernel
theorem nd_LW_get_4 : decode nb_LW_get 4 = .ok (.iload_n 2, 1) := by decide +kernel
theorem nd_LW_get_5 : decode nb_LW_get 5 = .ok (.invokevirtual 25, 3) := by decide +kernel
theorem nd_LW_get_8 : decode nb_LW_get 8 = .ok (.i2l, 1) := by decide +kernel
theorem nd_LW_get_9 : decode nb_LW_get 9 = .ok (.lastore, 1) := by decide +kernel
theorem nd_LW_get_10 : decode nb_LW_get 10 = .ok (.goto 15, 3) := by decide +kernel
theorem nd_LW_get_13 : decode nb_LW_get 13 = .ok (.astore 4, 2) := by decide +kernel
theorem nd_LW_get_15 : decode nb_LW_get 15 = .ok (.iconst 1, 1) := by decide +kernel
theorem nd_LW_get_16 : decode nb_LW_get 16 = .ok (.ireturn, 1) := by decide +kernel
theorem nd_LW_get_17 : decode nb_LW_get 17 = .ok (.astore 4, 2) := by decide +kernel
theorem nd_LW_get_19 : decode nb_LW_get 19 = .ok (.iconst 2, 1) := by decide +kernel
theorem nd_LW_get_20 : decode nb_LW_get 20 = .ok (.ireturn, 1) := by decide +kernel
theorem nd_LW_get_21 : decode nb_LW_get 21 = .ok (.astore 4, 2) := by decide +kernel
theorem nd_LW_get_23 : decode nb_LW_get 23 = .ok (.iconst 3, 1) := by decide +kernel
theorem nd_LW_get_24 : decode nb_LW_get 24 = .ok (.ireturn, 1) := by decide +kernel
theorem nd_LW_get_25 : decode nb_LW_get 25 = .ok (.iconst 0, 1) := by decide +kernel
theorem nd_LW_get_26 : decode nb_LW_get 26 = .ok (.ireturn, 1) := by decide +kernel
abbrev nb_LW_next : ByteArray := method_6_code
def ny_LW_next : MethodName := ⟨nr_LW, "next", "(LFrozenBranches;II[J)I"⟩
theorem nd_LW_next_0 : decode nb_LW_next 0 = .ok (.aload_n 3, 1) := by decide +kernel
theorem nd_LW_next_1 : decode nb_LW_next 1 = .ok (.iconst 0, 1) := by decide +kernel
theorem nd_LW_next_2 : decode nb_LW_next 2 = .ok (.aload_n 0, 1) := by decide +kernel
theorem nd_LW_next_3 : decode nb_LW_next 3 = .ok (.iload_n 1, 1) := by decide +kernel
theorem nd_LW_next_4 : decode nb_LW_next 4 = .ok (.iload_n 2, 1) := by decide +kernel
theorem nd_LW_next_5 : decode nb_LW_next 5 = .ok (.invokevirtual 28, 3) := by decide +kernel
theorem nd_LW_next_8 : decode nb_LW_next 8 = .ok (.i2l, 1) := by decide +kernel
theorem nd_LW_next_9 : decode nb_LW_next 9 = .ok (.lastore, 1) := by decide +kernel
theorem nd_LW_next_10 : decode nb_LW_next 10 = .ok (.goto 11, 3) := by decide +kernel
theorem nd_LW_next_13 : decode nb_LW_next 13 = .ok (.astore 4, 2) := by decide +kernel
theorem nd_LW_next_15 : decode nb_LW_next 15 = .ok (.iconst 1, 1) := by decide +kernel
theorem nd_LW_next_16 : decode nb_LW_next 16 = .ok (.ireturn, 1) := by decide +kernel
theorem nd_LW_next_17 : decode nb_LW_next 17 = .ok (.astore 4, 2) := by decide +kernel
theorem nd_LW_next_19 : decode nb_LW_next 19 = .ok (.iconst 2, 1) := by decide +kernel
theorem nd_LW_next_20 : decode nb_LW_next 20 = .ok (.ireturn, 1) := by decide +kernel
theorem nd_LW_next_21 : decode nb_LW_next 21 = .ok (.iconst 0, 1) := by decide +kernel
theorem nd_LW_next_22 : decode nb_LW_next 22 = .ok (.ireturn, 1) := by decide +kernel
abbrev nb_LW_count : ByteArray := method_7_code
def ny_LW_count : MethodName := ⟨nr_LW, "count", "(LFrozenBranches;I[J)I"⟩
theorem nd_LW_count_0 : decode nb_LW_count 0 = .ok (.aload_n 2, 1) := by decide +kernel
theorem nd_LW_count_1 : decode nb_LW_count 1 = .ok (.iconst 0, 1) := by decide +kernel
theorem nd_LW_count_2 : decode nb_LW_count 2 = .ok (.aload_n 0, 1) := by decide +kernel
theorem nd_LW_count_3 : decode nb_LW_count 3 = .ok (.iload_n 1, 1) := by decide +kernel
theorem nd_LW_count_4 : decode nb_LW_count 4 = .ok (.invokevirtual 31, 3) := by decide +kernel
theorem nd_LW_count_7 : decode nb_LW_count 7 = .ok (.i2l, 1) := by decide +kernel
theorem nd_LW_count_8 : decode nb_LW_count 8 = .ok (.lastore, 1) := by decide +kernel
theorem nd_LW_count_9 : decode nb_LW_count 9 = .ok (.goto 9, 3) := by decide +kernel
theorem nd_LW_count_12 : decode nb_LW_count 12 = .ok (.astore_n 3, 1) := by decide +kernel
theorem nd_LW_count_13 : decode nb_LW_count 13 = .ok (.iconst 1, 1) := by decide +kernel
theorem nd_LW_count_14 : decode nb_LW_count 14 = .ok (.ireturn, 1) := by decide +kernel
theorem nd_LW_count_15 : decode nb_LW_count 15 = .ok (.astore_n 3, 1) := by decide +kernel
theorem nd_LW_count_16 : decode nb_LW_count 16 = .ok (.iconst 2, 1) := by decide +kernel
theorem nd_LW_count_17 : decode nb_LW_count 17 = .ok (.ireturn, 1) := by decide +kernel
theorem nd_LW_count_18 : decode nb_LW_count 18 = .ok (.iconst 0, 1) := by decide +kernel
theorem nd_LW_count_19 : decode nb_LW_count 19 = .ok (.ireturn, 1) := by decide +kernel
abbrev nb_LW_nodes : ByteArray := method_8_code
def ny_LW_nodes : MethodName := ⟨nr_LW, "nodes", "(LFrozenBranches;I[J)I"⟩
theorem nd_LW_nodes_0 : decode nb_LW_nodes 0 = .ok (.aload_n 2, 1) := by decide +kernel
theorem nd_LW_nodes_1 : decode nb_LW_nodes 1 = .ok (.iconst 0, 1) := by decide +kernel
theorem nd_LW_nodes_2 : decode nb_LW_nodes 2 = .ok (.aload_n 0, 1) := by decide +kernel
theorem nd_LW_nodes_3 : decode nb_LW_nodes 3 = .ok (.iload_n 1, 1) := by decide +kernel
theorem nd_LW_nodes_4 : decode nb_LW_nodes 4 = .ok (.invokevirtual 34, 3) := by decide +kernel
theorem nd_LW_nodes_7 : decode nb_LW_nodes 7 = .ok (.i2l, 1) := by decide +kernel
theorem nd_LW_nodes_8 : decode nb_LW_nodes 8 = .ok (.lastore, 1) := by decide +kernel
theorem nd_LW_nodes_9 : decode nb_LW_nodes 9 = .ok (.goto 9, 3) := by decide +kernel
theorem nd_LW_nodes_12 : decode nb_LW_nodes 12 = .ok (.astore_n 3, 1) := by decide +kernel
theorem nd_LW_nodes_13 : decode nb_LW_nodes 13 = .ok (.iconst 1, 1) := by decide +kernel
theorem nd_LW_nodes_14 : decode nb_LW_nodes 14 = .ok (.ireturn, 1) := by decide +kernel
theorem nd_LW_nodes_15 : decode nb_LW_nodes 15 = .ok (.astore_n 3, 1) := by decide +kernel
theorem nd_LW_nodes_16 : decode nb_LW_nodes 16 = .ok (.iconst 2, 1) := by decide +kernel
theorem nd_LW_nodes_17 : decode nb_LW_nodes 17 = .ok (.ireturn, 1) := by decide +kernel
theorem nd_LW_nodes_18 : decode nb_LW_nodes 18 = .ok (.iconst 0, 1) := by decide +kernel
theorem nd_LW_nodes_19 : decode nb_LW_nodes 19 = .ok (.ireturn, 1) := by decide +kernel
abbrev nb_LW_shared : ByteArray := method_9_code
def ny_LW_shared : MethodName := ⟨nr_LW, "shared", "(LFrozenBranches;II[J)I"⟩
theorem nd_LW_shared_0 : decode nb_LW_shared 0 = .ok (.aload_n 3, 1) := by decide +kernel
theorem nd_LW_shared_1 : decode nb_LW_shared 1 = .ok (.iconst 0, 1) := by decide +kernel
theorem nd_LW_shared_2 : decode nb_LW_shared 2 = .ok (.aload_n 0, 1) := by decide +kernel
theorem nd_LW_shared_3 : decode nb_LW_shared 3 = .ok (.iload_n 1, 1) := by decide +kernel
theorem nd_LW_shared_4 : decode nb_LW_shared 4 = .ok (.iload_n 2, 1) := by decide +kernel
theorem nd_LW_shared_5 : decode nb_LW_shared 5 = .ok (.invokevirtual 37, 3) := by decide +kernel
theorem nd_LW_shared_8 : decode nb_LW_shared 8 = .ok (.i2l, 1) := by decide +kernel
theorem nd_LW_shared_9 : decode nb_LW_shared 9 = .ok (.lastore, 1) := by decide +kernel
theorem nd_LW_shared_10 : decode nb_LW_shared 10 = .ok (.goto 11, 3) := by decide +kernel
theorem nd_LW_shared_13 : decode nb_LW_shared 13 = .ok (.astore 4, 2) := by decide +kernel
theorem nd_LW_shared_15 : decode nb_LW_shared 15 = .ok (.iconst 1, 1) := by decide +kernel
theorem nd_LW_shared_16 : decode nb_LW_shared 16 = .ok (.ireturn, 1) := by decide +kernel
theorem nd_LW_shared_17 : decode nb_LW_shared 17 = .ok (.astore 4, 2) := by decide +kernel
theorem nd_LW_shared_19 : decode nb_LW_shared 19 = .ok (.iconst 2, 1) := by decide +kernel
theorem nd_LW_shared_20 : decode nb_LW_shared 20 = .ok (.ireturn, 1) := by decide +kernel
theorem nd_LW_shared_21 : decode nb_LW_shared 21 = .ok (.iconst 0, 1) := by decide +kernel
theorem nd_LW_shared_22 : decode nb_LW_shared 22 = .ok (.ireturn, 1) := by decide +kernel
abbrev nb_LW_differ : ByteArray := method_10_code
def ny_LW_differ : MethodName := ⟨nr_LW, "differ", "(LFrozenBranches;II[J)I"⟩
theorem nd_LW_differ_0 : decode nb_LW_differ 0 = .ok (.aload_n 3, 1) := by decide +kernel
theorem nd_LW_differ_1 : decode nb_LW_differ 1 = .ok (.iconst 0, 1) := by decide +kernel
theorem nd_LW_differ_2 : decode nb_LW_differ 2 = .ok (.aload_n 0, 1) := by decide +kernel
theorem nd_LW_differ_3 : decode nb_LW_differ 3 = .ok (.iload_n 1, 1) := by decide +kernel
theorem nd_LW_differ_4 : decode nb_LW_differ 4 = .ok (.iload_n 2, 1) := by decide +kernel
theorem nd_LW_differ_5 : decode nb_LW_differ 5 = .ok (.invokevirtual 40, 3) := by decide +kernel
theorem nd_LW_differ_8 : decode nb_LW_differ 8 = .ok (.i2l, 1) := by decide +kernel
theorem nd_LW_differ_9 : decode nb_LW_differ 9 = .ok (.lastore, 1) := by decide +kernel
theorem nd_LW_differ_10 : decode nb_LW_differ 10 = .ok (.goto 11, 3) := by decide +kernel
theorem nd_LW_differ_13 : decode nb_LW_differ 13 = .ok (.astore 4, 2) := by decide +kernel
theorem nd_LW_differ_15 : decode nb_LW_differ 15 = .ok (.iconst 1, 1) := by decide +kernel
theorem nd_LW_differ_16 : decode nb_LW_differ 16 = .ok (.ireturn, 1) := by decide +kernel
theorem nd_LW_differ_17 : decode nb_LW_differ 17 = .ok (.astore 4, 2) := by decide +kernel
theorem nd_LW_differ_19 : decode nb_LW_differ 19 = .ok (.iconst 2, 1) := by decide +kernel
theorem nd_LW_differ_20 : decode nb_LW_differ 20 = .ok (.ireturn, 1) := by decide +kernel
theorem nd_LW_differ_21 : decode nb_LW_differ 21 = .ok (.iconst 0, 1) := by decide +kernel
theorem nd_LW_differ_22 : decode nb_LW_differ 22 = .ok (.ireturn, 1) := by decide +kernel
abbrev nb_LW_snapshot : ByteArray := method_11_code
def ny_LW_snapshot : MethodName := ⟨nr_LW, "snapshot", "(LFrozenBranches;[J)I"⟩
theorem nd_LW_snapshot_0 : decode nb_LW_snapshot 0 = .ok (.aload_n 1, 1) := by decide +kernel
theorem nd_LW_snapshot_1 : decode nb_LW_snapshot 1 = .ok (.iconst 0, 1) := by decide +kernel
theorem nd_LW_snapshot_2 : decode nb_LW_snapshot 2 = .ok (.aload_n 0, 1) := by decide +kernel
theorem nd_LW_snapshot_3 : decode nb_LW_snapshot 3 = .ok (.invokevirtual 43, 3) := by decide +kernel
theorem nd_LW_snapshot_6 : decode nb_LW_snapshot 6 = .ok (.i2l, 1) := by decide +kernel
theorem nd_LW_snapshot_7 : decode nb_LW_snapshot 7 = .ok (.lastore, 1) := by decide +kernel
theorem nd_LW_snapshot_8 : decode nb_LW_snapshot 8 = .ok (.goto 9, 3) := by decide +kernel
theorem nd_LW_snapshot_11 : decode nb_LW_snapshot 11 = .ok (.astore_n 2, 1) := by decide +kernel
theorem nd_LW_snapshot_12 : decode nb_LW_snapshot 12 = .ok (.iconst 1, 1) := by decide +kernel
theorem nd_LW_snapshot_13 : decode nb_LW_snapshot 13 = .ok (.ireturn, 1) := by decide +kernel
theorem nd_LW_snapshot_14 : decode nb_LW_snapshot 14 = .ok (.astore_n 2, 1) := by decide +kernel
theorem nd_LW_snapshot_15 : decode nb_LW_snapshot 15 = .ok (.iconst 2, 1) := by decide +kernel
theorem nd_LW_snapshot_16 : decode nb_LW_snapshot 16 = .ok (.ireturn, 1) := by decide +kernel
theorem nd_LW_snapshot_17 : decode nb_LW_snapshot 17 = .ok (.iconst 0, 1) := by decide +kernel
theorem nd_LW_snapshot_18 : decode nb_LW_snapshot 18 = .ok (.ireturn, 1) := by decide +kernel
abbrev nb_LW_rollback : ByteArray := method_12_code
def ny_LW_rollback : MethodName := ⟨nr_LW, "rollback", "(LFrozenBranches;I[J)I"⟩
theorem nd_LW_rollback_0 : decode nb_LW_rollback 0 = .ok (.aload_n 2, 1) := by decide +kernel
theorem nd_LW_rollback_1 : decode nb_LW_rollback 1 = .ok (.iconst 0, 1) := by decide +kernel
theorem nd_LW_rollback_2 : decode nb_LW_rollback 2 = .ok (.aload_n 0, 1) := by decide +kernel
theorem nd_LW_rollback_3 : decode nb_LW_rollback 3 = .ok (.iload_n 1, 1) := by decide +kernel
theorem nd_LW_rollback_4 : decode nb_LW_rollback 4 = .ok (.invokevirtual 47, 3) := by decide +kernel
theorem nd_LW_rollback_7 : decode nb_LW_rollback 7 = .ok (.i2l, 1) := by decide +kernel
theorem nd_LW_rollback_8 : decode nb_LW_rollback 8 = .ok (.lastore, 1) := by decide +kernel
theorem nd_LW_rollback_9 : decode nb_LW_rollback 9 = .ok (.goto 9, 3) := by decide +kernel
theorem nd_LW_rollback_12 : decode nb_LW_rollback 12 = .ok (.astore_n 3, 1) := by decide +kernel
theorem nd_LW_rollback_13 : decode nb_LW_rollback 13 = .ok (.iconst 1, 1) := by decide +kernel
theorem nd_LW_rollback_14 : decode nb_LW_rollback 14 = .ok (.ireturn, 1) := by decide +kernel
theorem nd_LW_rollback_15 : decode nb_LW_rollback 15 = .ok (.astore_n 3, 1) := by decide +kernel
theorem nd_LW_rollback_16 : decode nb_LW_rollback 16 = .ok (.iconst 2, 1) := by decide +kernel
theorem nd_LW_rollback_17 : decode nb_LW_rollback 17 = .ok (.ireturn, 1) := by decide +kernel
theorem nd_LW_rollback_18 : decode nb_LW_rollback 18 = .ok (.iconst 0, 1) := by decide +kernel
theorem nd_LW_rollback_19 : decode nb_LW_rollback 19 = .ok (.ireturn, 1) := by decide +kernel
abbrev nb_LW_drop : ByteArray := method_13_code
def ny_LW_drop : MethodName := ⟨nr_LW, "drop", "(LFrozenBranches;I[J)I"⟩
theorem nd_LW_drop_0 : decode nb_LW_drop 0 = .ok (.aload_n 2, 1) := by decide +kernel
theorem nd_LW_drop_1 : decode nb_LW_drop 1 = .ok (.iconst 0, 1) := by decide +kernel
theorem nd_LW_drop_2 : decode nb_LW_drop 2 = .ok (.aload_n 0, 1) := by decide +kernel
theorem nd_LW_drop_3 : decode nb_LW_drop 3 = .ok (.iload_n 1, 1) := by decide +kernel
theorem nd_LW_drop_4 : decode nb_LW_drop 4 = .ok (.invokevirtual 50, 3) := by decide +kernel
theorem nd_LW_drop_7 : decode nb_LW_drop 7 = .ok (.i2l, 1) := by decide +kernel
theorem nd_LW_drop_8 : decode nb_LW_drop 8 = .ok (.lastore, 1) := by decide +kernel
theorem nd_LW_drop_9 : decode nb_LW_drop 9 = .ok (.goto 9, 3) := by decide +kernel
theorem nd_LW_drop_12 : decode nb_LW_drop 12 = .ok (.astore_n 3, 1) := by decide +kernel
theorem nd_LW_drop_13 : decode nb_LW_drop 13 = .ok (.iconst 1, 1) := by decide +kernel
theorem nd_LW_drop_14 : decode nb_LW_drop 14 = .ok (.ireturn, 1) := by decide +kernel
theorem nd_LW_drop_15 : decode nb_LW_drop 15 = .ok (.astore_n 3, 1) := by decide +kernel
theorem nd_LW_drop_16 : decode nb_LW_drop 16 = .ok (.iconst 2, 1) := by decide +kernel
theorem nd_LW_drop_17 : decode nb_LW_drop 17 = .ok (.ireturn, 1) := by decide +kernel
theorem nd_LW_drop_18 : decode nb_LW_drop 18 = .ok (.iconst 0, 1) := by decide +kernel
theorem nd_LW_drop_19 : decode nb_LW_drop 19 = .ok (.ireturn, 1) := by decide +kernel
abbrev nb_LW_commit : ByteArray := method_14_code
def ny_LW_commit : MethodName := ⟨nr_LW, "commit", "(LFrozenBranches;[J)I"⟩
theorem nd_LW_commit_0 : decode nb_LW_commit 0 = .ok (.aload_n 1, 1) := by decide +kernel
theorem nd_LW_commit_1 : decode nb_LW_commit 1 = .ok (.iconst 0, 1) := by decide +kernel
theorem nd_LW_commit_2 : decode nb_LW_commit 2 = .ok (.aload_n 0, 1) := by decide +kernel
theorem nd_LW_commit_3 : decode nb_LW_commit 3 = .ok (.invokevirtual 53, 3) := by decide +kernel
theorem nd_LW_commit_6 : decode nb_LW_commit 6 = .ok (.i2l, 1) := by decide +kernel
theorem nd_LW_commit_7 : decode nb_LW_commit 7 = .ok (.lastore, 1) := by decide +kernel
theorem nd_LW_commit_8 : decode nb_LW_commit 8 = .ok (.goto 6, 3) := by decide +kernel
theorem nd_LW_commit_11 : decode nb_LW_commit 11 = .ok (.astore_n 2, 1) := by decide +kernel
theorem nd_LW_commit_12 : decode nb_LW_commit 12 = .ok (.iconst 1, 1) := by decide +kernel
theorem nd_LW_commit_13 : decode nb_LW_commit 13 = .ok (.ireturn, 1) := by decide +kernel
theorem nd_LW_commit_14 : decode nb_LW_commit 14 = .ok (.iconst 0, 1) := by decide +kernel
theorem nd_LW_commit_15 : decode nb_LW_commit 15 = .ok (.ireturn, 1) := by decide +kernel
abbrev nb_LW_free : ByteArray := method_15_code
def ny_LW_free : MethodName := ⟨nr_LW, "free", "(LFrozenBranches;[J)I"⟩
theorem nd_LW_free_0 : decode nb_LW_free 0 = .ok (.aload_n 1, 1) := by decide +kernel
theorem nd_LW_free_1 : decode nb_LW_free 1 = .ok (.iconst 0, 1) := by decide +kernel
theorem nd_LW_free_2 : decode nb_LW_free 2 = .ok (.aload_n 0, 1) := by decide +kernel
theorem nd_LW_free_3 : decode nb_LW_free 3 = .ok (.invokevirtual 56, 3) := by decide +kernel
theorem nd_LW_free_6 : decode nb_LW_free 6 = .ok (.i2l, 1) := by decide +kernel
theorem nd_LW_free_7 : decode nb_LW_free 7 = .ok (.lastore, 1) := by decide +kernel
theorem nd_LW_free_8 : decode nb_LW_free 8 = .ok (.goto 6, 3) := by decide +kernel
theorem nd_LW_free_11 : decode nb_LW_free 11 = .ok (.astore_n 2, 1) := by decide +kernel
theorem nd_LW_free_12 : decode nb_LW_free 12 = .ok (.iconst 1, 1) := by decide +kernel
theorem nd_LW_free_13 : decode nb_LW_free 13 = .ok (.ireturn, 1) := by decide +kernel
theorem nd_LW_free_14 : decode nb_LW_free 14 = .ok (.iconst 0, 1) := by decide +kernel
theorem nd_LW_free_15 : decode nb_LW_free 15 = .ok (.ireturn, 1) := by decide +kernel
abbrev nb_LW_due : ByteArray := method_16_code
def ny_LW_due : MethodName := ⟨nr_LW, "due", "(LFrozenBranches;[J)I"⟩
theorem nd_LW_due_0 : decode nb_LW_due 0 = .ok (.aload_n 1, 1) := by decide +kernel
theorem nd_LW_due_1 : decode nb_LW_due 1 = .ok (.iconst 0, 1) := by decide +kernel
theorem nd_LW_due_2 : decode nb_LW_due 2 = .ok (.aload_n 0, 1) := by decide +kernel
theorem nd_LW_due_3 : decode nb_LW_due 3 = .ok (.invokevirtual 59, 3) := by decide +kernel
theorem nd_LW_due_6 : decode nb_LW_due 6 = .ok (.i2l, 1) := by decide +kernel
theorem nd_LW_due_7 : decode nb_LW_due 7 = .ok (.lastore, 1) := by decide +kernel
theorem nd_LW_due_8 : decode nb_LW_due 8 = .ok (.goto 6, 3) := by decide +kernel
theorem nd_LW_due_11 : decode nb_LW_due 11 = .ok (.astore_n 2, 1) := by decide +kernel
theorem nd_LW_due_12 : decode nb_LW_due 12 = .ok (.iconst 1, 1) := by decide +kernel
theorem nd_LW_due_13 : decode nb_LW_due 13 = .ok (.ireturn, 1) := by decide +kernel
theorem nd_LW_due_14 : decode nb_LW_due 14 = .ok (.iconst 0, 1) := by decide +kernel
theorem nd_LW_due_15 : decode nb_LW_due 15 = .ok (.ireturn, 1) := by decide +kernel
