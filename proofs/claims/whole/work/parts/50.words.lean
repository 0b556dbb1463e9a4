/-! words of wl by their places (printed by words.py): nz_ initialised, nf_ fields, nm_ method links, ni_ about a method, ns_ its kind, nv_ its choice -/
theorem nz_FB : Cond.initialized nr_FB ∈ wl := wl_t1 1 rfl rfl
theorem nz_RM : Cond.initialized nr_RM ∈ wl := wl_t1 2 rfl rfl
theorem nz_MO : Cond.initialized nr_MO ∈ wl := wl_t1 5 rfl rfl
theorem nz_LW : Cond.initialized nr_LW ∈ wl := wl_t1 0 rfl rfl
theorem nm_LW_62 : Cond.methodLink nr_LW 62 ny_FB_init ∈ wl := wl_t1 16 rfl rfl
theorem nm_FB_1 : Cond.methodLink nr_FB 1 ⟨"java/lang/Object", "<init>", "()V"⟩ ∈ wl := wl_t1 19 rfl rfl
theorem nm_RM_3 : Cond.methodLink nr_RM 3 ⟨"java/lang/Object", "<init>", "()V"⟩ ∈ wl := wl_t1 27 rfl rfl
theorem nf_RM_13 : Cond.fieldLink nr_RM 13 (nt_RM 0).1 (nt_RM 0).2.1 (nt_RM 0).2.2.1 ∈ wl := wl_t1 30 rfl rfl
theorem nf_RM_16 : Cond.fieldLink nr_RM 16 (nt_RM 1).1 (nt_RM 1).2.1 (nt_RM 1).2.2.1 ∈ wl := wl_t1 31 rfl rfl
theorem nf_RM_20 : Cond.fieldLink nr_RM 20 (nt_RM 2).1 (nt_RM 2).2.1 (nt_RM 2).2.2.1 ∈ wl := wl_t1 32 rfl rfl
theorem nf_RM_24 : Cond.fieldLink nr_RM 24 (nt_RM 3).1 (nt_RM 3).2.1 (nt_RM 3).2.2.1 ∈ wl := wl_t1 33 rfl rfl
theorem nm_FB_27 : Cond.methodLink nr_FB 27 ⟨"java/util/Arrays", "fill", "([II)V"⟩ ∈ wl := wl_t1 45 rfl rfl
theorem nm_FB_33 : Cond.methodLink nr_FB 33 ⟨"java/lang/System", "arraycopy", "(Ljava/lang/Object;ILjava/lang/Object;II)V"⟩ ∈ wl := wl_t1 48 rfl rfl
theorem nf_FB_10 : Cond.fieldLink nr_FB 10 (nt_FB 0).1 (nt_FB 0).2.1 (nt_FB 0).2.2.1 ∈ wl := wl_t1 51 rfl rfl
theorem nf_FB_16 : Cond.fieldLink nr_FB 16 (nt_FB 1).1 (nt_FB 1).2.1 (nt_FB 1).2.2.1 ∈ wl := wl_t1 52 rfl rfl
theorem nf_FB_20 : Cond.fieldLink nr_FB 20 (nt_FB 2).1 (nt_FB 2).2.1 (nt_FB 2).2.2.1 ∈ wl := wl_t1 53 rfl rfl
theorem nf_FB_136 : Cond.fieldLink nr_FB 136 (nt_FB 3).1 (nt_FB 3).2.1 (nt_FB 3).2.2.1 ∈ wl := wl_t1 54 rfl rfl
theorem nf_FB_133 : Cond.fieldLink nr_FB 133 (nt_FB 4).1 (nt_FB 4).2.1 (nt_FB 4).2.2.1 ∈ wl := wl_t1 55 rfl rfl
theorem nf_FB_23 : Cond.fieldLink nr_FB 23 (nt_FB 5).1 (nt_FB 5).2.1 (nt_FB 5).2.2.1 ∈ wl := wl_t1 56 rfl rfl
theorem nm_LW_116 : Cond.methodLink nr_LW 116 ny_FB_order ∈ wl := wl_t1 70 rfl rfl
theorem nm_LW_121 : Cond.methodLink nr_LW 121 ny_FB_recover ∈ wl := wl_t1 74 rfl rfl
theorem nm_FB_140 : Cond.methodLink nr_FB 140 ny_FB_snapshotsThere ∈ wl := wl_t1 78 rfl rfl
theorem nm_LW_125 : Cond.methodLink nr_LW 125 ny_FB_writes ∈ wl := wl_t1 82 rfl rfl
theorem nm_LW_129 : Cond.methodLink nr_LW 129 ny_FB_down ∈ wl := wl_t1 86 rfl rfl
theorem nm_LW_66 : Cond.methodLink nr_LW 66 ny_LW_put ∈ wl := wl_t1 90 rfl rfl
theorem nm_LW_7 : Cond.methodLink nr_LW 7 ny_FB_put ∈ wl := wl_t1 96 rfl rfl
theorem nm_FB_39 : Cond.methodLink nr_FB 39 ny_FB_requireUp ∈ wl := wl_t1 100 rfl rfl
theorem nm_FB_132 : Cond.methodLink nr_FB 132 ⟨"java/lang/IllegalStateException", "<init>", "(Ljava/lang/String;)V"⟩ ∈ wl := wl_t1 147 rfl rfl
theorem nm_FB_42 : Cond.methodLink nr_FB 42 ny_FB_isKey ∈ wl := wl_t1 173 rfl rfl
theorem nm_FB_50 : Cond.methodLink nr_FB 50 ⟨"java/lang/IllegalArgumentException", "<init>", "(Ljava/lang/String;)V"⟩ ∈ wl := wl_t1 187 rfl rfl
theorem nm_FB_53 : Cond.methodLink nr_FB 53 ny_RM_binds ∈ wl := wl_t1 193 rfl rfl
theorem nm_RM_27 : Cond.methodLink nr_RM 27 ny_RM_nodeAt ∈ wl := wl_t1 197 rfl rfl
theorem nm_RM_35 : Cond.methodLink nr_RM 35 ny_RM_turnOf ∈ wl := wl_t1 201 rfl rfl
theorem nm_RM_31 : Cond.methodLink nr_RM 31 ny_RM_bitOf ∈ wl := wl_t1 204 rfl rfl
theorem nm_FB_57 : Cond.methodLink nr_FB 57 ny_RM_valueOf ∈ wl := wl_t1 207 rfl rfl
theorem nm_FB_61 : Cond.methodLink nr_FB 61 ny_FB_ownCurrentPath ∈ wl := wl_t1 211 rfl rfl
theorem nm_FB_116 : Cond.methodLink nr_FB 116 ny_FB_freeNodes ∈ wl := wl_t1 215 rfl rfl
theorem nm_FB_91 : Cond.methodLink nr_FB 91 ny_RM_unmarkAll ∈ wl := wl_t1 219 rfl rfl
theorem nm_FB_166 : Cond.methodLink nr_FB 166 ny_FB_markMaps ∈ wl := wl_t1 223 rfl rfl
theorem nm_FB_94 : Cond.methodLink nr_FB 94 ny_RM_mark ∈ wl := wl_t1 227 rfl rfl
theorem nm_FB_157 : Cond.methodLink nr_FB 157 ny_RM_nodesToMake ∈ wl := wl_t1 231 rfl rfl
theorem nm_FB_109 : Cond.methodLink nr_FB 109 ⟨"java/lang/UnsupportedOperationException", "<init>", "(Ljava/lang/String;)V"⟩ ∈ wl := wl_t2 5 rfl rfl
theorem nm_FB_163 : Cond.methodLink nr_FB 163 ny_RM_ownPath ∈ wl := wl_t2 11 rfl rfl
theorem nm_RM_42 : Cond.methodLink nr_RM 42 ny_RM_own ∈ wl := wl_t2 15 rfl rfl
theorem nm_RM_50 : Cond.methodLink nr_RM 50 ny_RM_takeUnmarked ∈ wl := wl_t2 19 rfl rfl
theorem nm_RM_54 : Cond.methodLink nr_RM 54 ⟨"java/lang/System", "arraycopy", "(Ljava/lang/Object;ILjava/lang/Object;II)V"⟩ ∈ wl := wl_t2 23 rfl rfl
theorem nm_RM_46 : Cond.methodLink nr_RM 46 ny_RM_open ∈ wl := wl_t2 24 rfl rfl
theorem nm_FB_65 : Cond.methodLink nr_FB 65 ny_RM_bind ∈ wl := wl_t2 28 rfl rfl
theorem nm_LW_75 : Cond.methodLink nr_LW 75 ny_LW_remove ∈ wl := wl_t2 32 rfl rfl
theorem nm_LW_19 : Cond.methodLink nr_LW 19 ny_FB_remove ∈ wl := wl_t2 36 rfl rfl
theorem nm_FB_69 : Cond.methodLink nr_FB 69 ny_FB_requireBound ∈ wl := wl_t2 40 rfl rfl
theorem nm_FB_156 : Cond.methodLink nr_FB 156 ⟨"java/util/NoSuchElementException", "<init>", "(Ljava/lang/String;)V"⟩ ∈ wl := wl_t2 54 rfl rfl
theorem nm_FB_72 : Cond.methodLink nr_FB 72 ny_RM_levelsWithout ∈ wl := wl_t2 60 rfl rfl
theorem nm_RM_38 : Cond.methodLink nr_RM 38 ny_RM_holdsNothingElse ∈ wl := wl_t2 64 rfl rfl
theorem nm_FB_75 : Cond.methodLink nr_FB 75 ny_RM_cut ∈ wl := wl_t2 68 rfl rfl
theorem nm_LW_79 : Cond.methodLink nr_LW 79 ny_LW_get ∈ wl := wl_t2 72 rfl rfl
theorem nm_LW_25 : Cond.methodLink nr_LW 25 ny_FB_get ∈ wl := wl_t2 75 rfl rfl
theorem nm_FB_78 : Cond.methodLink nr_FB 78 ny_FB_requireMap ∈ wl := wl_t2 79 rfl rfl
theorem nm_FB_145 : Cond.methodLink nr_FB 145 ny_FB_isMap ∈ wl := wl_t2 83 rfl rfl
theorem nm_LW_82 : Cond.methodLink nr_LW 82 ny_LW_next ∈ wl := wl_t2 88 rfl rfl
theorem nm_LW_28 : Cond.methodLink nr_LW 28 ny_FB_next ∈ wl := wl_t2 91 rfl rfl
theorem nm_FB_82 : Cond.methodLink nr_FB 82 ⟨"java/lang/Math", "max", "(II)I"⟩ ∈ wl := wl_t2 95 rfl rfl
theorem nm_LW_85 : Cond.methodLink nr_LW 85 ny_LW_count ∈ wl := wl_t2 98 rfl rfl
theorem nm_LW_31 : Cond.methodLink nr_LW 31 ny_FB_count ∈ wl := wl_t2 101 rfl rfl
theorem nm_FB_87 : Cond.methodLink nr_FB 87 ny_FB_keysBound ∈ wl := wl_t2 105 rfl rfl
theorem nm_LW_88 : Cond.methodLink nr_LW 88 ny_LW_nodes ∈ wl := wl_t2 109 rfl rfl
theorem nm_LW_34 : Cond.methodLink nr_LW 34 ny_FB_nodes ∈ wl := wl_t2 112 rfl rfl
theorem nm_LW_91 : Cond.methodLink nr_LW 91 ny_LW_shared ∈ wl := wl_t2 116 rfl rfl
theorem nm_LW_37 : Cond.methodLink nr_LW 37 ny_FB_shared ∈ wl := wl_t2 119 rfl rfl
theorem nm_LW_94 : Cond.methodLink nr_LW 94 ny_LW_differ ∈ wl := wl_t2 123 rfl rfl
theorem nm_LW_40 : Cond.methodLink nr_LW 40 ny_FB_differ ∈ wl := wl_t2 126 rfl rfl
theorem nm_FB_97 : Cond.methodLink nr_FB 97 ny_FB_isBoundAlike ∈ wl := wl_t2 130 rfl rfl
theorem nm_LW_97 : Cond.methodLink nr_LW 97 ny_LW_snapshot ∈ wl := wl_t2 134 rfl rfl
theorem nm_LW_43 : Cond.methodLink nr_LW 43 ny_FB_snapshot ∈ wl := wl_t2 137 rfl rfl
theorem nm_FB_101 : Cond.methodLink nr_FB 101 ny_FB_leastUnusedSnapshot ∈ wl := wl_t2 141 rfl rfl
theorem nm_FB_110 : Cond.methodLink nr_FB 110 ny_RM_freeze ∈ wl := wl_t2 146 rfl rfl
theorem nm_LW_101 : Cond.methodLink nr_LW 101 ny_LW_rollback ∈ wl := wl_t2 150 rfl rfl
theorem nm_LW_47 : Cond.methodLink nr_LW 47 ny_FB_rollback ∈ wl := wl_t2 153 rfl rfl
theorem nm_FB_113 : Cond.methodLink nr_FB 113 ny_FB_requireSnapshot ∈ wl := wl_t2 157 rfl rfl
theorem nm_LW_104 : Cond.methodLink nr_LW 104 ny_LW_drop ∈ wl := wl_t2 162 rfl rfl
theorem nm_LW_50 : Cond.methodLink nr_LW 50 ny_FB_drop ∈ wl := wl_t2 165 rfl rfl
theorem nm_LW_107 : Cond.methodLink nr_LW 107 ny_LW_commit ∈ wl := wl_t2 169 rfl rfl
theorem nm_LW_53 : Cond.methodLink nr_LW 53 ny_FB_commit ∈ wl := wl_t2 172 rfl rfl
theorem nm_FB_119 : Cond.methodLink nr_FB 119 ny_FB_writesNeeded ∈ wl := wl_t2 176 rfl rfl
theorem nm_FB_122 : Cond.methodLink nr_FB 122 ny_FB_failsWithin ∈ wl := wl_t2 180 rfl rfl
theorem nm_FB_125 : Cond.methodLink nr_FB 125 ny_FB_losePower ∈ wl := wl_t2 184 rfl rfl
theorem nm_LW_110 : Cond.methodLink nr_LW 110 ny_LW_free ∈ wl := wl_t2 189 rfl rfl
theorem nm_LW_56 : Cond.methodLink nr_LW 56 ny_FB_free ∈ wl := wl_t2 192 rfl rfl
theorem nm_LW_113 : Cond.methodLink nr_LW 113 ny_LW_due ∈ wl := wl_t2 196 rfl rfl
theorem nm_LW_59 : Cond.methodLink nr_LW 59 ny_FB_due ∈ wl := wl_t2 199 rfl rfl
theorem nm_LW_65 : Cond.methodLink nr_LW 65 ny_MO_init ∈ wl := wl_t2 205 rfl rfl
theorem nm_MO_1 : Cond.methodLink nr_MO 1 ⟨"java/lang/Object", "<init>", "()V"⟩ ∈ wl := wl_t2 208 rfl rfl
theorem nf_MO_27 : Cond.fieldLink nr_MO 27 (nt_MO 0).1 (nt_MO 0).2.1 (nt_MO 0).2.2.1 ∈ wl := wl_t2 209 rfl rfl
theorem nf_MO_7 : Cond.fieldLink nr_MO 7 (nt_MO 1).1 (nt_MO 1).2.1 (nt_MO 1).2.2.1 ∈ wl := wl_t2 210 rfl rfl
theorem nf_MO_13 : Cond.fieldLink nr_MO 13 (nt_MO 2).1 (nt_MO 2).2.1 (nt_MO 2).2.2.1 ∈ wl := wl_t2 211 rfl rfl
theorem nf_MO_16 : Cond.fieldLink nr_MO 16 (nt_MO 3).1 (nt_MO 3).2.1 (nt_MO 3).2.2.1 ∈ wl := wl_t2 212 rfl rfl
theorem nf_MO_20 : Cond.fieldLink nr_MO 20 (nt_MO 4).1 (nt_MO 4).2.1 (nt_MO 4).2.2.1 ∈ wl := wl_t2 213 rfl rfl
theorem nf_MO_63 : Cond.fieldLink nr_MO 63 (nt_MO 5).1 (nt_MO 5).2.1 (nt_MO 5).2.2.1 ∈ wl := wl_t2 214 rfl rfl
theorem nf_MO_52 : Cond.fieldLink nr_MO 52 (nt_MO 6).1 (nt_MO 6).2.1 (nt_MO 6).2.2.1 ∈ wl := wl_t2 215 rfl rfl
theorem nf_MO_94 : Cond.fieldLink nr_MO 94 (nt_MO 7).1 (nt_MO 7).2.1 (nt_MO 7).2.2.1 ∈ wl := wl_t2 216 rfl rfl
theorem nf_MO_23 : Cond.fieldLink nr_MO 23 (nt_MO 8).1 (nt_MO 8).2.1 (nt_MO 8).2.2.1 ∈ wl := wl_t2 217 rfl rfl
theorem nf_MO_66 : Cond.fieldLink nr_MO 66 (nt_MO 9).1 (nt_MO 9).2.1 (nt_MO 9).2.2.1 ∈ wl := wl_t2 218 rfl rfl
theorem nm_LW_72 : Cond.methodLink nr_LW 72 ny_MO_thrown ∈ wl := wl_t3 0 rfl rfl
theorem nm_LW_71 : Cond.methodLink nr_LW 71 ny_MO_put ∈ wl := wl_t3 4 rfl rfl
theorem nm_MO_70 : Cond.methodLink nr_MO 70 ny_MO_isKey ∈ wl := wl_t3 8 rfl rfl
theorem nm_MO_73 : Cond.methodLink nr_MO 73 ny_MO_fits ∈ wl := wl_t3 11 rfl rfl
theorem nm_MO_55 : Cond.methodLink nr_MO 55 ny_MO_makes ∈ wl := wl_t3 15 rfl rfl
theorem nm_MO_46 : Cond.methodLink nr_MO 46 ny_MO_below ∈ wl := wl_t3 19 rfl rfl
theorem nm_MO_42 : Cond.methodLink nr_MO 42 ny_MO_boundIn ∈ wl := wl_t3 23 rfl rfl
theorem nm_MO_49 : Cond.methodLink nr_MO 49 ny_MO_placeOf ∈ wl := wl_t3 27 rfl rfl
theorem nm_MO_59 : Cond.methodLink nr_MO 59 ny_MO_freeNow ∈ wl := wl_t3 30 rfl rfl
theorem nm_MO_38 : Cond.methodLink nr_MO 38 ny_MO_different ∈ wl := wl_t3 34 rfl rfl
theorem nm_MO_34 : Cond.methodLink nr_MO 34 ny_MO_isIn ∈ wl := wl_t3 38 rfl rfl
theorem nm_MO_77 : Cond.methodLink nr_MO 77 ny_MO_change ∈ wl := wl_t3 42 rfl rfl
theorem nm_LW_78 : Cond.methodLink nr_LW 78 ny_MO_remove ∈ wl := wl_t3 46 rfl rfl
theorem nm_LW_81 : Cond.methodLink nr_LW 81 ny_MO_get ∈ wl := wl_t3 50 rfl rfl
theorem nm_MO_30 : Cond.methodLink nr_MO 30 ny_MO_isMap ∈ wl := wl_t3 54 rfl rfl
theorem nm_LW_84 : Cond.methodLink nr_LW 84 ny_MO_next ∈ wl := wl_t3 58 rfl rfl
theorem nm_LW_87 : Cond.methodLink nr_LW 87 ny_MO_count ∈ wl := wl_t3 62 rfl rfl
theorem nm_LW_90 : Cond.methodLink nr_LW 90 ny_MO_nodes ∈ wl := wl_t3 66 rfl rfl
theorem nm_LW_93 : Cond.methodLink nr_LW 93 ny_MO_shared ∈ wl := wl_t3 70 rfl rfl
theorem nm_LW_96 : Cond.methodLink nr_LW 96 ny_MO_differ ∈ wl := wl_t3 74 rfl rfl
theorem nm_LW_100 : Cond.methodLink nr_LW 100 ny_MO_snapshot ∈ wl := wl_t3 78 rfl rfl
theorem nm_MO_81 : Cond.methodLink nr_MO 81 ny_MO_copy ∈ wl := wl_t3 82 rfl rfl
theorem nm_LW_103 : Cond.methodLink nr_LW 103 ny_MO_rollback ∈ wl := wl_t3 86 rfl rfl
theorem nm_MO_84 : Cond.methodLink nr_MO 84 ny_MO_isSnapshot ∈ wl := wl_t3 90 rfl rfl
theorem nm_LW_106 : Cond.methodLink nr_LW 106 ny_MO_drop ∈ wl := wl_t3 94 rfl rfl
theorem nm_MO_87 : Cond.methodLink nr_MO 87 ny_MO_empty ∈ wl := wl_t3 98 rfl rfl
theorem nm_LW_109 : Cond.methodLink nr_LW 109 ny_MO_commit ∈ wl := wl_t3 102 rfl rfl
theorem nm_MO_91 : Cond.methodLink nr_MO 91 ny_MO_dueNow ∈ wl := wl_t3 106 rfl rfl
theorem nm_LW_112 : Cond.methodLink nr_LW 112 ny_MO_free ∈ wl := wl_t3 110 rfl rfl
theorem nm_LW_115 : Cond.methodLink nr_LW 115 ny_MO_due ∈ wl := wl_t3 114 rfl rfl
theorem nm_LW_120 : Cond.methodLink nr_LW 120 ny_MO_order ∈ wl := wl_t3 118 rfl rfl
theorem nm_LW_124 : Cond.methodLink nr_LW 124 ny_MO_recover ∈ wl := wl_t3 122 rfl rfl
theorem nm_LW_128 : Cond.methodLink nr_LW 128 ny_MO_writes ∈ wl := wl_t3 126 rfl rfl
theorem nm_LW_133 : Cond.methodLink nr_LW 133 ny_MO_down ∈ wl := wl_t3 130 rfl rfl
theorem ni_FB_init : ny_FB_init.cls = nr_FB ∧ ny_FB_init.cls ≠ "java/lang/invoke/MethodHandle" ∧ ny_FB_init.cls ≠ "java/lang/invoke/VarHandle" ∧ (parseMethodDescriptor ny_FB_init.desc).map (fun d => d.parameters.length) = some 0 := by decide +kernel
theorem ns_FB_init : Cond.instanceMethod ny_FB_init ∈ wl := wl_t1 17 rfl rfl
theorem ni_FB_put : ny_FB_put.cls = nr_FB ∧ ny_FB_put.cls ≠ "java/lang/invoke/MethodHandle" ∧ ny_FB_put.cls ≠ "java/lang/invoke/VarHandle" ∧ (parseMethodDescriptor ny_FB_put.desc).map (fun d => d.parameters.length) = some 2 := by decide +kernel
theorem ns_FB_put : Cond.instanceMethod ny_FB_put ∈ wl := wl_t1 97 rfl rfl
theorem nv_FB_put : Cond.selects nr_FB ny_FB_put ny_FB_put ∈ wl := wl_t1 98 rfl rfl
theorem ni_FB_remove : ny_FB_remove.cls = nr_FB ∧ ny_FB_remove.cls ≠ "java/lang/invoke/MethodHandle" ∧ ny_FB_remove.cls ≠ "java/lang/invoke/VarHandle" ∧ (parseMethodDescriptor ny_FB_remove.desc).map (fun d => d.parameters.length) = some 1 := by decide +kernel
theorem ns_FB_remove : Cond.instanceMethod ny_FB_remove ∈ wl := wl_t2 37 rfl rfl
theorem nv_FB_remove : Cond.selects nr_FB ny_FB_remove ny_FB_remove ∈ wl := wl_t2 38 rfl rfl
theorem ni_FB_get : ny_FB_get.cls = nr_FB ∧ ny_FB_get.cls ≠ "java/lang/invoke/MethodHandle" ∧ ny_FB_get.cls ≠ "java/lang/invoke/VarHandle" ∧ (parseMethodDescriptor ny_FB_get.desc).map (fun d => d.parameters.length) = some 2 := by decide +kernel
theorem ns_FB_get : Cond.instanceMethod ny_FB_get ∈ wl := wl_t2 76 rfl rfl
theorem nv_FB_get : Cond.selects nr_FB ny_FB_get ny_FB_get ∈ wl := wl_t2 77 rfl rfl
theorem ni_FB_next : ny_FB_next.cls = nr_FB ∧ ny_FB_next.cls ≠ "java/lang/invoke/MethodHandle" ∧ ny_FB_next.cls ≠ "java/lang/invoke/VarHandle" ∧ (parseMethodDescriptor ny_FB_next.desc).map (fun d => d.parameters.length) = some 2 := by decide +kernel
theorem ns_FB_next : Cond.instanceMethod ny_FB_next ∈ wl := wl_t2 92 rfl rfl
theorem nv_FB_next : Cond.selects nr_FB ny_FB_next ny_FB_next ∈ wl := wl_t2 93 rfl rfl
theorem ni_FB_count : ny_FB_count.cls = nr_FB ∧ ny_FB_count.cls ≠ "java/lang/invoke/MethodHandle" ∧ ny_FB_count.cls ≠ "java/lang/invoke/VarHandle" ∧ (parseMethodDescriptor ny_FB_count.desc).map (fun d => d.parameters.length) = some 1 := by decide +kernel
theorem ns_FB_count : Cond.instanceMethod ny_FB_count ∈ wl := wl_t2 102 rfl rfl
theorem nv_FB_count : Cond.selects nr_FB ny_FB_count ny_FB_count ∈ wl := wl_t2 103 rfl rfl
theorem ni_FB_nodes : ny_FB_nodes.cls = nr_FB ∧ ny_FB_nodes.cls ≠ "java/lang/invoke/MethodHandle" ∧ ny_FB_nodes.cls ≠ "java/lang/invoke/VarHandle" ∧ (parseMethodDescriptor ny_FB_nodes.desc).map (fun d => d.parameters.length) = some 1 := by decide +kernel
theorem ns_FB_nodes : Cond.instanceMethod ny_FB_nodes ∈ wl := wl_t2 113 rfl rfl
theorem nv_FB_nodes : Cond.selects nr_FB ny_FB_nodes ny_FB_nodes ∈ wl := wl_t2 114 rfl rfl
theorem ni_FB_shared : ny_FB_shared.cls = nr_FB ∧ ny_FB_shared.cls ≠ "java/lang/invoke/MethodHandle" ∧ ny_FB_shared.cls ≠ "java/lang/invoke/VarHandle" ∧ (parseMethodDescriptor ny_FB_shared.desc).map (fun d => d.parameters.length) = some 2 := by decide +kernel
theorem ns_FB_shared : Cond.instanceMethod ny_FB_shared ∈ wl := wl_t2 120 rfl rfl
theorem nv_FB_shared : Cond.selects nr_FB ny_FB_shared ny_FB_shared ∈ wl := wl_t2 121 rfl rfl
theorem ni_FB_differ : ny_FB_differ.cls = nr_FB ∧ ny_FB_differ.cls ≠ "java/lang/invoke/MethodHandle" ∧ ny_FB_differ.cls ≠ "java/lang/invoke/VarHandle" ∧ (parseMethodDescriptor ny_FB_differ.desc).map (fun d => d.parameters.length) = some 2 := by decide +kernel
theorem ns_FB_differ : Cond.instanceMethod ny_FB_differ ∈ wl := wl_t2 127 rfl rfl
theorem nv_FB_differ : Cond.selects nr_FB ny_FB_differ ny_FB_differ ∈ wl := wl_t2 128 rfl rfl
theorem ni_FB_snapshot : ny_FB_snapshot.cls = nr_FB ∧ ny_FB_snapshot.cls ≠ "java/lang/invoke/MethodHandle" ∧ ny_FB_snapshot.cls ≠ "java/lang/invoke/VarHandle" ∧ (parseMethodDescriptor ny_FB_snapshot.desc).map (fun d => d.parameters.length) = some 0 := by decide +kernel
theorem ns_FB_snapshot : Cond.instanceMethod ny_FB_snapshot ∈ wl := wl_t2 138 rfl rfl
theorem nv_FB_snapshot : Cond.selects nr_FB ny_FB_snapshot ny_FB_snapshot ∈ wl := wl_t2 139 rfl rfl
theorem ni_FB_rollback : ny_FB_rollback.cls = nr_FB ∧ ny_FB_rollback.cls ≠ "java/lang/invoke/MethodHandle" ∧ ny_FB_rollback.cls ≠ "java/lang/invoke/VarHandle" ∧ (parseMethodDescriptor ny_FB_rollback.desc).map (fun d => d.parameters.length) = some 1 := by decide +kernel
theorem ns_FB_rollback : Cond.instanceMethod ny_FB_rollback ∈ wl := wl_t2 154 rfl rfl
theorem nv_FB_rollback : Cond.selects nr_FB ny_FB_rollback ny_FB_rollback ∈ wl := wl_t2 155 rfl rfl
theorem ni_FB_drop : ny_FB_drop.cls = nr_FB ∧ ny_FB_drop.cls ≠ "java/lang/invoke/MethodHandle" ∧ ny_FB_drop.cls ≠ "java/lang/invoke/VarHandle" ∧ (parseMethodDescriptor ny_FB_drop.desc).map (fun d => d.parameters.length) = some 1 := by decide +kernel
theorem ns_FB_drop : Cond.instanceMethod ny_FB_drop ∈ wl := wl_t2 166 rfl rfl
theorem nv_FB_drop : Cond.selects nr_FB ny_FB_drop ny_FB_drop ∈ wl := wl_t2 167 rfl rfl
theorem ni_FB_commit : ny_FB_commit.cls = nr_FB ∧ ny_FB_commit.cls ≠ "java/lang/invoke/MethodHandle" ∧ ny_FB_commit.cls ≠ "java/lang/invoke/VarHandle" ∧ (parseMethodDescriptor ny_FB_commit.desc).map (fun d => d.parameters.length) = some 0 := by decide +kernel
theorem ns_FB_commit : Cond.instanceMethod ny_FB_commit ∈ wl := wl_t2 173 rfl rfl
theorem nv_FB_commit : Cond.selects nr_FB ny_FB_commit ny_FB_commit ∈ wl := wl_t2 174 rfl rfl
theorem ni_FB_free : ny_FB_free.cls = nr_FB ∧ ny_FB_free.cls ≠ "java/lang/invoke/MethodHandle" ∧ ny_FB_free.cls ≠ "java/lang/invoke/VarHandle" ∧ (parseMethodDescriptor ny_FB_free.desc).map (fun d => d.parameters.length) = some 0 := by decide +kernel
theorem ns_FB_free : Cond.instanceMethod ny_FB_free ∈ wl := wl_t2 193 rfl rfl
theorem nv_FB_free : Cond.selects nr_FB ny_FB_free ny_FB_free ∈ wl := wl_t2 194 rfl rfl
theorem ni_FB_due : ny_FB_due.cls = nr_FB ∧ ny_FB_due.cls ≠ "java/lang/invoke/MethodHandle" ∧ ny_FB_due.cls ≠ "java/lang/invoke/VarHandle" ∧ (parseMethodDescriptor ny_FB_due.desc).map (fun d => d.parameters.length) = some 0 := by decide +kernel
theorem ns_FB_due : Cond.instanceMethod ny_FB_due ∈ wl := wl_t2 200 rfl rfl
theorem nv_FB_due : Cond.selects nr_FB ny_FB_due ny_FB_due ∈ wl := wl_t2 201 rfl rfl
theorem ni_FB_order : ny_FB_order.cls = nr_FB ∧ ny_FB_order.cls ≠ "java/lang/invoke/MethodHandle" ∧ ny_FB_order.cls ≠ "java/lang/invoke/VarHandle" ∧ (parseMethodDescriptor ny_FB_order.desc).map (fun d => d.parameters.length) = some 1 := by decide +kernel
theorem ns_FB_order : Cond.instanceMethod ny_FB_order ∈ wl := wl_t1 71 rfl rfl
theorem nv_FB_order : Cond.selects nr_FB ny_FB_order ny_FB_order ∈ wl := wl_t1 72 rfl rfl
theorem ni_FB_recover : ny_FB_recover.cls = nr_FB ∧ ny_FB_recover.cls ≠ "java/lang/invoke/MethodHandle" ∧ ny_FB_recover.cls ≠ "java/lang/invoke/VarHandle" ∧ (parseMethodDescriptor ny_FB_recover.desc).map (fun d => d.parameters.length) = some 0 := by decide +kernel
theorem ns_FB_recover : Cond.instanceMethod ny_FB_recover ∈ wl := wl_t1 75 rfl rfl
theorem nv_FB_recover : Cond.selects nr_FB ny_FB_recover ny_FB_recover ∈ wl := wl_t1 76 rfl rfl
theorem ni_FB_writes : ny_FB_writes.cls = nr_FB ∧ ny_FB_writes.cls ≠ "java/lang/invoke/MethodHandle" ∧ ny_FB_writes.cls ≠ "java/lang/invoke/VarHandle" ∧ (parseMethodDescriptor ny_FB_writes.desc).map (fun d => d.parameters.length) = some 0 := by decide +kernel
theorem ns_FB_writes : Cond.instanceMethod ny_FB_writes ∈ wl := wl_t1 83 rfl rfl
theorem nv_FB_writes : Cond.selects nr_FB ny_FB_writes ny_FB_writes ∈ wl := wl_t1 84 rfl rfl
theorem ni_FB_down : ny_FB_down.cls = nr_FB ∧ ny_FB_down.cls ≠ "java/lang/invoke/MethodHandle" ∧ ny_FB_down.cls ≠ "java/lang/invoke/VarHandle" ∧ (parseMethodDescriptor ny_FB_down.desc).map (fun d => d.parameters.length) = some 0 := by decide +kernel
theorem ns_FB_down : Cond.instanceMethod ny_FB_down ∈ wl := wl_t1 87 rfl rfl
theorem nv_FB_down : Cond.selects nr_FB ny_FB_down ny_FB_down ∈ wl := wl_t1 88 rfl rfl
theorem ni_FB_requireUp : ny_FB_requireUp.cls = nr_FB ∧ ny_FB_requireUp.cls ≠ "java/lang/invoke/MethodHandle" ∧ ny_FB_requireUp.cls ≠ "java/lang/invoke/VarHandle" ∧ (parseMethodDescriptor ny_FB_requireUp.desc).map (fun d => d.parameters.length) = some 0 := by decide +kernel
theorem ns_FB_requireUp : Cond.instanceMethod ny_FB_requireUp ∈ wl := wl_t1 102 rfl rfl
theorem nv_FB_requireUp : Cond.selects nr_FB ny_FB_requireUp ny_FB_requireUp ∈ wl := wl_sel 1 rfl rfl
theorem ni_FB_requireMap : ny_FB_requireMap.cls = nr_FB ∧ ny_FB_requireMap.cls ≠ "java/lang/invoke/MethodHandle" ∧ ny_FB_requireMap.cls ≠ "java/lang/invoke/VarHandle" ∧ (parseMethodDescriptor ny_FB_requireMap.desc).map (fun d => d.parameters.length) = some 1 := by decide +kernel
theorem ns_FB_requireMap : Cond.instanceMethod ny_FB_requireMap ∈ wl := wl_t2 81 rfl rfl
theorem nv_FB_requireMap : Cond.selects nr_FB ny_FB_requireMap ny_FB_requireMap ∈ wl := wl_sel 13 rfl rfl
theorem ni_FB_requireSnapshot : ny_FB_requireSnapshot.cls = nr_FB ∧ ny_FB_requireSnapshot.cls ≠ "java/lang/invoke/MethodHandle" ∧ ny_FB_requireSnapshot.cls ≠ "java/lang/invoke/VarHandle" ∧ (parseMethodDescriptor ny_FB_requireSnapshot.desc).map (fun d => d.parameters.length) = some 1 := by decide +kernel
theorem ns_FB_requireSnapshot : Cond.instanceMethod ny_FB_requireSnapshot ∈ wl := wl_t2 159 rfl rfl
theorem nv_FB_requireSnapshot : Cond.selects nr_FB ny_FB_requireSnapshot ny_FB_requireSnapshot ∈ wl := wl_sel 18 rfl rfl
theorem ni_FB_requireBound : ny_FB_requireBound.cls = nr_FB ∧ ny_FB_requireBound.cls ≠ "java/lang/invoke/MethodHandle" ∧ ny_FB_requireBound.cls ≠ "java/lang/invoke/VarHandle" ∧ (parseMethodDescriptor ny_FB_requireBound.desc).map (fun d => d.parameters.length) = some 2 := by decide +kernel
theorem ns_FB_requireBound : Cond.instanceMethod ny_FB_requireBound ∈ wl := wl_t2 42 rfl rfl
theorem nv_FB_requireBound : Cond.selects nr_FB ny_FB_requireBound ny_FB_requireBound ∈ wl := wl_sel 11 rfl rfl
theorem ni_FB_ownCurrentPath : ny_FB_ownCurrentPath.cls = nr_FB ∧ ny_FB_ownCurrentPath.cls ≠ "java/lang/invoke/MethodHandle" ∧ ny_FB_ownCurrentPath.cls ≠ "java/lang/invoke/VarHandle" ∧ (parseMethodDescriptor ny_FB_ownCurrentPath.desc).map (fun d => d.parameters.length) = some 2 := by decide +kernel
theorem ns_FB_ownCurrentPath : Cond.instanceMethod ny_FB_ownCurrentPath ∈ wl := wl_t1 213 rfl rfl
theorem nv_FB_ownCurrentPath : Cond.selects nr_FB ny_FB_ownCurrentPath ny_FB_ownCurrentPath ∈ wl := wl_sel 5 rfl rfl
theorem ni_FB_isKey : ny_FB_isKey.cls = nr_FB ∧ ny_FB_isKey.cls ≠ "java/lang/invoke/MethodHandle" ∧ ny_FB_isKey.cls ≠ "java/lang/invoke/VarHandle" ∧ (parseMethodDescriptor ny_FB_isKey.desc).map (fun d => d.parameters.length) = some 1 := by decide +kernel
theorem ns_FB_isKey : Cond.instanceMethod ny_FB_isKey ∈ wl := wl_t1 175 rfl rfl
theorem nv_FB_isKey : Cond.selects nr_FB ny_FB_isKey ny_FB_isKey ∈ wl := wl_sel 3 rfl rfl
theorem ni_FB_isMap : ny_FB_isMap.cls = nr_FB ∧ ny_FB_isMap.cls ≠ "java/lang/invoke/MethodHandle" ∧ ny_FB_isMap.cls ≠ "java/lang/invoke/VarHandle" ∧ (parseMethodDescriptor ny_FB_isMap.desc).map (fun d => d.parameters.length) = some 1 := by decide +kernel
theorem ns_FB_isMap : Cond.instanceMethod ny_FB_isMap ∈ wl := wl_t2 85 rfl rfl
theorem nv_FB_isMap : Cond.selects nr_FB ny_FB_isMap ny_FB_isMap ∈ wl := wl_sel 14 rfl rfl
theorem ni_FB_isBoundAlike : ny_FB_isBoundAlike.cls = nr_FB ∧ ny_FB_isBoundAlike.cls ≠ "java/lang/invoke/MethodHandle" ∧ ny_FB_isBoundAlike.cls ≠ "java/lang/invoke/VarHandle" ∧ (parseMethodDescriptor ny_FB_isBoundAlike.desc).map (fun d => d.parameters.length) = some 3 := by decide +kernel
theorem ns_FB_isBoundAlike : Cond.instanceMethod ny_FB_isBoundAlike ∈ wl := wl_t2 132 rfl rfl
theorem nv_FB_isBoundAlike : Cond.selects nr_FB ny_FB_isBoundAlike ny_FB_isBoundAlike ∈ wl := wl_sel 16 rfl rfl
theorem ni_FB_keysBound : ny_FB_keysBound.cls = nr_FB ∧ ny_FB_keysBound.cls ≠ "java/lang/invoke/MethodHandle" ∧ ny_FB_keysBound.cls ≠ "java/lang/invoke/VarHandle" ∧ (parseMethodDescriptor ny_FB_keysBound.desc).map (fun d => d.parameters.length) = some 1 := by decide +kernel
theorem ns_FB_keysBound : Cond.instanceMethod ny_FB_keysBound ∈ wl := wl_t2 107 rfl rfl
theorem nv_FB_keysBound : Cond.selects nr_FB ny_FB_keysBound ny_FB_keysBound ∈ wl := wl_sel 15 rfl rfl
theorem ni_FB_leastUnusedSnapshot : ny_FB_leastUnusedSnapshot.cls = nr_FB ∧ ny_FB_leastUnusedSnapshot.cls ≠ "java/lang/invoke/MethodHandle" ∧ ny_FB_leastUnusedSnapshot.cls ≠ "java/lang/invoke/VarHandle" ∧ (parseMethodDescriptor ny_FB_leastUnusedSnapshot.desc).map (fun d => d.parameters.length) = some 0 := by decide +kernel
theorem ns_FB_leastUnusedSnapshot : Cond.instanceMethod ny_FB_leastUnusedSnapshot ∈ wl := wl_t2 143 rfl rfl
theorem nv_FB_leastUnusedSnapshot : Cond.selects nr_FB ny_FB_leastUnusedSnapshot ny_FB_leastUnusedSnapshot ∈ wl := wl_sel 17 rfl rfl
theorem ni_FB_snapshotsThere : ny_FB_snapshotsThere.cls = nr_FB ∧ ny_FB_snapshotsThere.cls ≠ "java/lang/invoke/MethodHandle" ∧ ny_FB_snapshotsThere.cls ≠ "java/lang/invoke/VarHandle" ∧ (parseMethodDescriptor ny_FB_snapshotsThere.desc).map (fun d => d.parameters.length) = some 0 := by decide +kernel
theorem ns_FB_snapshotsThere : Cond.instanceMethod ny_FB_snapshotsThere ∈ wl := wl_t1 80 rfl rfl
theorem nv_FB_snapshotsThere : Cond.selects nr_FB ny_FB_snapshotsThere ny_FB_snapshotsThere ∈ wl := wl_sel 0 rfl rfl
theorem ni_FB_freeNodes : ny_FB_freeNodes.cls = nr_FB ∧ ny_FB_freeNodes.cls ≠ "java/lang/invoke/MethodHandle" ∧ ny_FB_freeNodes.cls ≠ "java/lang/invoke/VarHandle" ∧ (parseMethodDescriptor ny_FB_freeNodes.desc).map (fun d => d.parameters.length) = some 0 := by decide +kernel
theorem ns_FB_freeNodes : Cond.instanceMethod ny_FB_freeNodes ∈ wl := wl_t1 217 rfl rfl
theorem nv_FB_freeNodes : Cond.selects nr_FB ny_FB_freeNodes ny_FB_freeNodes ∈ wl := wl_sel 6 rfl rfl
theorem ni_FB_writesNeeded : ny_FB_writesNeeded.cls = nr_FB ∧ ny_FB_writesNeeded.cls ≠ "java/lang/invoke/MethodHandle" ∧ ny_FB_writesNeeded.cls ≠ "java/lang/invoke/VarHandle" ∧ (parseMethodDescriptor ny_FB_writesNeeded.desc).map (fun d => d.parameters.length) = some 0 := by decide +kernel
theorem ns_FB_writesNeeded : Cond.instanceMethod ny_FB_writesNeeded ∈ wl := wl_t2 178 rfl rfl
theorem nv_FB_writesNeeded : Cond.selects nr_FB ny_FB_writesNeeded ny_FB_writesNeeded ∈ wl := wl_sel 19 rfl rfl
theorem ni_FB_markMaps : ny_FB_markMaps.cls = nr_FB ∧ ny_FB_markMaps.cls ≠ "java/lang/invoke/MethodHandle" ∧ ny_FB_markMaps.cls ≠ "java/lang/invoke/VarHandle" ∧ (parseMethodDescriptor ny_FB_markMaps.desc).map (fun d => d.parameters.length) = some 1 := by decide +kernel
theorem ns_FB_markMaps : Cond.instanceMethod ny_FB_markMaps ∈ wl := wl_t1 225 rfl rfl
theorem nv_FB_markMaps : Cond.selects nr_FB ny_FB_markMaps ny_FB_markMaps ∈ wl := wl_sel 7 rfl rfl
theorem ni_FB_failsWithin : ny_FB_failsWithin.cls = nr_FB ∧ ny_FB_failsWithin.cls ≠ "java/lang/invoke/MethodHandle" ∧ ny_FB_failsWithin.cls ≠ "java/lang/invoke/VarHandle" ∧ (parseMethodDescriptor ny_FB_failsWithin.desc).map (fun d => d.parameters.length) = some 1 := by decide +kernel
theorem ns_FB_failsWithin : Cond.instanceMethod ny_FB_failsWithin ∈ wl := wl_t2 182 rfl rfl
theorem nv_FB_failsWithin : Cond.selects nr_FB ny_FB_failsWithin ny_FB_failsWithin ∈ wl := wl_sel 20 rfl rfl
theorem ni_FB_losePower : ny_FB_losePower.cls = nr_FB ∧ ny_FB_losePower.cls ≠ "java/lang/invoke/MethodHandle" ∧ ny_FB_losePower.cls ≠ "java/lang/invoke/VarHandle" ∧ (parseMethodDescriptor ny_FB_losePower.desc).map (fun d => d.parameters.length) = some 0 := by decide +kernel
theorem ns_FB_losePower : Cond.instanceMethod ny_FB_losePower ∈ wl := wl_t2 186 rfl rfl
theorem nv_FB_losePower : Cond.selects nr_FB ny_FB_losePower ny_FB_losePower ∈ wl := wl_sel 21 rfl rfl
theorem ni_MO_init : ny_MO_init.cls = nr_MO ∧ ny_MO_init.cls ≠ "java/lang/invoke/MethodHandle" ∧ ny_MO_init.cls ≠ "java/lang/invoke/VarHandle" ∧ (parseMethodDescriptor ny_MO_init.desc).map (fun d => d.parameters.length) = some 0 := by decide +kernel
theorem ns_MO_init : Cond.instanceMethod ny_MO_init ∈ wl := wl_t2 206 rfl rfl
theorem ni_MO_thrown : ny_MO_thrown.cls = nr_MO ∧ ny_MO_thrown.cls ≠ "java/lang/invoke/MethodHandle" ∧ ny_MO_thrown.cls ≠ "java/lang/invoke/VarHandle" ∧ (parseMethodDescriptor ny_MO_thrown.desc).map (fun d => d.parameters.length) = some 0 := by decide +kernel
theorem ns_MO_thrown : Cond.instanceMethod ny_MO_thrown ∈ wl := wl_t3 1 rfl rfl
theorem nv_MO_thrown : Cond.selects nr_MO ny_MO_thrown ny_MO_thrown ∈ wl := wl_t3 2 rfl rfl
theorem ni_MO_copy : ny_MO_copy.cls = nr_MO ∧ ny_MO_copy.cls ≠ "java/lang/invoke/MethodHandle" ∧ ny_MO_copy.cls ≠ "java/lang/invoke/VarHandle" ∧ (parseMethodDescriptor ny_MO_copy.desc).map (fun d => d.parameters.length) = some 2 := by decide +kernel
theorem ns_MO_copy : Cond.instanceMethod ny_MO_copy ∈ wl := wl_t3 84 rfl rfl
theorem nv_MO_copy : Cond.selects nr_MO ny_MO_copy ny_MO_copy ∈ wl := wl_sel 31 rfl rfl
theorem ni_MO_empty : ny_MO_empty.cls = nr_MO ∧ ny_MO_empty.cls ≠ "java/lang/invoke/MethodHandle" ∧ ny_MO_empty.cls ≠ "java/lang/invoke/VarHandle" ∧ (parseMethodDescriptor ny_MO_empty.desc).map (fun d => d.parameters.length) = some 1 := by decide +kernel
theorem ns_MO_empty : Cond.instanceMethod ny_MO_empty ∈ wl := wl_t3 100 rfl rfl
theorem nv_MO_empty : Cond.selects nr_MO ny_MO_empty ny_MO_empty ∈ wl := wl_sel 33 rfl rfl
theorem ni_MO_isKey : ny_MO_isKey.cls = nr_MO ∧ ny_MO_isKey.cls ≠ "java/lang/invoke/MethodHandle" ∧ ny_MO_isKey.cls ≠ "java/lang/invoke/VarHandle" ∧ (parseMethodDescriptor ny_MO_isKey.desc).map (fun d => d.parameters.length) = some 1 := by decide +kernel
theorem ns_MO_isKey : Cond.static ny_MO_isKey ∈ wl := wl_t3 9 rfl rfl
theorem ni_MO_isMap : ny_MO_isMap.cls = nr_MO ∧ ny_MO_isMap.cls ≠ "java/lang/invoke/MethodHandle" ∧ ny_MO_isMap.cls ≠ "java/lang/invoke/VarHandle" ∧ (parseMethodDescriptor ny_MO_isMap.desc).map (fun d => d.parameters.length) = some 1 := by decide +kernel
theorem ns_MO_isMap : Cond.instanceMethod ny_MO_isMap ∈ wl := wl_t3 56 rfl rfl
theorem nv_MO_isMap : Cond.selects nr_MO ny_MO_isMap ny_MO_isMap ∈ wl := wl_sel 30 rfl rfl
theorem ni_MO_isSnapshot : ny_MO_isSnapshot.cls = nr_MO ∧ ny_MO_isSnapshot.cls ≠ "java/lang/invoke/MethodHandle" ∧ ny_MO_isSnapshot.cls ≠ "java/lang/invoke/VarHandle" ∧ (parseMethodDescriptor ny_MO_isSnapshot.desc).map (fun d => d.parameters.length) = some 1 := by decide +kernel
theorem ns_MO_isSnapshot : Cond.instanceMethod ny_MO_isSnapshot ∈ wl := wl_t3 92 rfl rfl
theorem nv_MO_isSnapshot : Cond.selects nr_MO ny_MO_isSnapshot ny_MO_isSnapshot ∈ wl := wl_sel 32 rfl rfl
theorem ni_MO_boundIn : ny_MO_boundIn.cls = nr_MO ∧ ny_MO_boundIn.cls ≠ "java/lang/invoke/MethodHandle" ∧ ny_MO_boundIn.cls ≠ "java/lang/invoke/VarHandle" ∧ (parseMethodDescriptor ny_MO_boundIn.desc).map (fun d => d.parameters.length) = some 3 := by decide +kernel
theorem ns_MO_boundIn : Cond.instanceMethod ny_MO_boundIn ∈ wl := wl_t3 25 rfl rfl
theorem nv_MO_boundIn : Cond.selects nr_MO ny_MO_boundIn ny_MO_boundIn ∈ wl := wl_sel 25 rfl rfl
theorem ni_MO_isIn : ny_MO_isIn.cls = nr_MO ∧ ny_MO_isIn.cls ≠ "java/lang/invoke/MethodHandle" ∧ ny_MO_isIn.cls ≠ "java/lang/invoke/VarHandle" ∧ (parseMethodDescriptor ny_MO_isIn.desc).map (fun d => d.parameters.length) = some 4 := by decide +kernel
theorem ns_MO_isIn : Cond.instanceMethod ny_MO_isIn ∈ wl := wl_t3 40 rfl rfl
theorem nv_MO_isIn : Cond.selects nr_MO ny_MO_isIn ny_MO_isIn ∈ wl := wl_sel 28 rfl rfl
theorem ni_MO_different : ny_MO_different.cls = nr_MO ∧ ny_MO_different.cls ≠ "java/lang/invoke/MethodHandle" ∧ ny_MO_different.cls ≠ "java/lang/invoke/VarHandle" ∧ (parseMethodDescriptor ny_MO_different.desc).map (fun d => d.parameters.length) = some 2 := by decide +kernel
theorem ns_MO_different : Cond.instanceMethod ny_MO_different ∈ wl := wl_t3 36 rfl rfl
theorem nv_MO_different : Cond.selects nr_MO ny_MO_different ny_MO_different ∈ wl := wl_sel 27 rfl rfl
theorem ni_MO_freeNow : ny_MO_freeNow.cls = nr_MO ∧ ny_MO_freeNow.cls ≠ "java/lang/invoke/MethodHandle" ∧ ny_MO_freeNow.cls ≠ "java/lang/invoke/VarHandle" ∧ (parseMethodDescriptor ny_MO_freeNow.desc).map (fun d => d.parameters.length) = some 0 := by decide +kernel
theorem ns_MO_freeNow : Cond.instanceMethod ny_MO_freeNow ∈ wl := wl_t3 32 rfl rfl
theorem nv_MO_freeNow : Cond.selects nr_MO ny_MO_freeNow ny_MO_freeNow ∈ wl := wl_sel 26 rfl rfl
theorem ni_MO_placeOf : ny_MO_placeOf.cls = nr_MO ∧ ny_MO_placeOf.cls ≠ "java/lang/invoke/MethodHandle" ∧ ny_MO_placeOf.cls ≠ "java/lang/invoke/VarHandle" ∧ (parseMethodDescriptor ny_MO_placeOf.desc).map (fun d => d.parameters.length) = some 2 := by decide +kernel
theorem ns_MO_placeOf : Cond.static ny_MO_placeOf ∈ wl := wl_t3 28 rfl rfl
theorem ni_MO_below : ny_MO_below.cls = nr_MO ∧ ny_MO_below.cls ≠ "java/lang/invoke/MethodHandle" ∧ ny_MO_below.cls ≠ "java/lang/invoke/VarHandle" ∧ (parseMethodDescriptor ny_MO_below.desc).map (fun d => d.parameters.length) = some 2 := by decide +kernel
theorem ns_MO_below : Cond.instanceMethod ny_MO_below ∈ wl := wl_t3 21 rfl rfl
theorem nv_MO_below : Cond.selects nr_MO ny_MO_below ny_MO_below ∈ wl := wl_sel 24 rfl rfl
theorem ni_MO_makes : ny_MO_makes.cls = nr_MO ∧ ny_MO_makes.cls ≠ "java/lang/invoke/MethodHandle" ∧ ny_MO_makes.cls ≠ "java/lang/invoke/VarHandle" ∧ (parseMethodDescriptor ny_MO_makes.desc).map (fun d => d.parameters.length) = some 3 := by decide +kernel
theorem ns_MO_makes : Cond.instanceMethod ny_MO_makes ∈ wl := wl_t3 17 rfl rfl
theorem nv_MO_makes : Cond.selects nr_MO ny_MO_makes ny_MO_makes ∈ wl := wl_sel 23 rfl rfl
theorem ni_MO_fits : ny_MO_fits.cls = nr_MO ∧ ny_MO_fits.cls ≠ "java/lang/invoke/MethodHandle" ∧ ny_MO_fits.cls ≠ "java/lang/invoke/VarHandle" ∧ (parseMethodDescriptor ny_MO_fits.desc).map (fun d => d.parameters.length) = some 2 := by decide +kernel
theorem ns_MO_fits : Cond.instanceMethod ny_MO_fits ∈ wl := wl_t3 13 rfl rfl
theorem nv_MO_fits : Cond.selects nr_MO ny_MO_fits ny_MO_fits ∈ wl := wl_sel 22 rfl rfl
theorem ni_MO_change : ny_MO_change.cls = nr_MO ∧ ny_MO_change.cls ≠ "java/lang/invoke/MethodHandle" ∧ ny_MO_change.cls ≠ "java/lang/invoke/VarHandle" ∧ (parseMethodDescriptor ny_MO_change.desc).map (fun d => d.parameters.length) = some 2 := by decide +kernel
theorem ns_MO_change : Cond.instanceMethod ny_MO_change ∈ wl := wl_t3 44 rfl rfl
theorem nv_MO_change : Cond.selects nr_MO ny_MO_change ny_MO_change ∈ wl := wl_sel 29 rfl rfl
theorem ni_MO_put : ny_MO_put.cls = nr_MO ∧ ny_MO_put.cls ≠ "java/lang/invoke/MethodHandle" ∧ ny_MO_put.cls ≠ "java/lang/invoke/VarHandle" ∧ (parseMethodDescriptor ny_MO_put.desc).map (fun d => d.parameters.length) = some 2 := by decide +kernel
theorem ns_MO_put : Cond.instanceMethod ny_MO_put ∈ wl := wl_t3 5 rfl rfl
theorem nv_MO_put : Cond.selects nr_MO ny_MO_put ny_MO_put ∈ wl := wl_t3 6 rfl rfl
theorem ni_MO_remove : ny_MO_remove.cls = nr_MO ∧ ny_MO_remove.cls ≠ "java/lang/invoke/MethodHandle" ∧ ny_MO_remove.cls ≠ "java/lang/invoke/VarHandle" ∧ (parseMethodDescriptor ny_MO_remove.desc).map (fun d => d.parameters.length) = some 1 := by decide +kernel
theorem ns_MO_remove : Cond.instanceMethod ny_MO_remove ∈ wl := wl_t3 47 rfl rfl
theorem nv_MO_remove : Cond.selects nr_MO ny_MO_remove ny_MO_remove ∈ wl := wl_t3 48 rfl rfl
theorem ni_MO_get : ny_MO_get.cls = nr_MO ∧ ny_MO_get.cls ≠ "java/lang/invoke/MethodHandle" ∧ ny_MO_get.cls ≠ "java/lang/invoke/VarHandle" ∧ (parseMethodDescriptor ny_MO_get.desc).map (fun d => d.parameters.length) = some 2 := by decide +kernel
theorem ns_MO_get : Cond.instanceMethod ny_MO_get ∈ wl := wl_t3 51 rfl rfl
theorem nv_MO_get : Cond.selects nr_MO ny_MO_get ny_MO_get ∈ wl := wl_t3 52 rfl rfl
theorem ni_MO_next : ny_MO_next.cls = nr_MO ∧ ny_MO_next.cls ≠ "java/lang/invoke/MethodHandle" ∧ ny_MO_next.cls ≠ "java/lang/invoke/VarHandle" ∧ (parseMethodDescriptor ny_MO_next.desc).map (fun d => d.parameters.length) = some 2 := by decide +kernel
theorem ns_MO_next : Cond.instanceMethod ny_MO_next ∈ wl := wl_t3 59 rfl rfl
theorem nv_MO_next : Cond.selects nr_MO ny_MO_next ny_MO_next ∈ wl := wl_t3 60 rfl rfl
theorem ni_MO_count : ny_MO_count.cls = nr_MO ∧ ny_MO_count.cls ≠ "java/lang/invoke/MethodHandle" ∧ ny_MO_count.cls ≠ "java/lang/invoke/VarHandle" ∧ (parseMethodDescriptor ny_MO_count.desc).map (fun d => d.parameters.length) = some 1 := by decide +kernel
theorem ns_MO_count : Cond.instanceMethod ny_MO_count ∈ wl := wl_t3 63 rfl rfl
theorem nv_MO_count : Cond.selects nr_MO ny_MO_count ny_MO_count ∈ wl := wl_t3 64 rfl rfl
theorem ni_MO_nodes : ny_MO_nodes.cls = nr_MO ∧ ny_MO_nodes.cls ≠ "java/lang/invoke/MethodHandle" ∧ ny_MO_nodes.cls ≠ "java/lang/invoke/VarHandle" ∧ (parseMethodDescriptor ny_MO_nodes.desc).map (fun d => d.parameters.length) = some 1 := by decide +kernel
theorem ns_MO_nodes : Cond.instanceMethod ny_MO_nodes ∈ wl := wl_t3 67 rfl rfl
theorem nv_MO_nodes : Cond.selects nr_MO ny_MO_nodes ny_MO_nodes ∈ wl := wl_t3 68 rfl rfl
theorem ni_MO_shared : ny_MO_shared.cls = nr_MO ∧ ny_MO_shared.cls ≠ "java/lang/invoke/MethodHandle" ∧ ny_MO_shared.cls ≠ "java/lang/invoke/VarHandle" ∧ (parseMethodDescriptor ny_MO_shared.desc).map (fun d => d.parameters.length) = some 2 := by decide +kernel
theorem ns_MO_shared : Cond.instanceMethod ny_MO_shared ∈ wl := wl_t3 71 rfl rfl
theorem nv_MO_shared : Cond.selects nr_MO ny_MO_shared ny_MO_shared ∈ wl := wl_t3 72 rfl rfl
theorem ni_MO_differ : ny_MO_differ.cls = nr_MO ∧ ny_MO_differ.cls ≠ "java/lang/invoke/MethodHandle" ∧ ny_MO_differ.cls ≠ "java/lang/invoke/VarHandle" ∧ (parseMethodDescriptor ny_MO_differ.desc).map (fun d => d.parameters.length) = some 2 := by decide +kernel
theorem ns_MO_differ : Cond.instanceMethod ny_MO_differ ∈ wl := wl_t3 75 rfl rfl
theorem nv_MO_differ : Cond.selects nr_MO ny_MO_differ ny_MO_differ ∈ wl := wl_t3 76 rfl rfl
theorem ni_MO_snapshot : ny_MO_snapshot.cls = nr_MO ∧ ny_MO_snapshot.cls ≠ "java/lang/invoke/MethodHandle" ∧ ny_MO_snapshot.cls ≠ "java/lang/invoke/VarHandle" ∧ (parseMethodDescriptor ny_MO_snapshot.desc).map (fun d => d.parameters.length) = some 0 := by decide +kernel
theorem ns_MO_snapshot : Cond.instanceMethod ny_MO_snapshot ∈ wl := wl_t3 79 rfl rfl
theorem nv_MO_snapshot : Cond.selects nr_MO ny_MO_snapshot ny_MO_snapshot ∈ wl := wl_t3 80 rfl rfl
theorem ni_MO_rollback : ny_MO_rollback.cls = nr_MO ∧ ny_MO_rollback.cls ≠ "java/lang/invoke/MethodHandle" ∧ ny_MO_rollback.cls ≠ "java/lang/invoke/VarHandle" ∧ (parseMethodDescriptor ny_MO_rollback.desc).map (fun d => d.parameters.length) = some 1 := by decide +kernel
theorem ns_MO_rollback : Cond.instanceMethod ny_MO_rollback ∈ wl := wl_t3 87 rfl rfl
theorem nv_MO_rollback : Cond.selects nr_MO ny_MO_rollback ny_MO_rollback ∈ wl := wl_t3 88 rfl rfl
theorem ni_MO_drop : ny_MO_drop.cls = nr_MO ∧ ny_MO_drop.cls ≠ "java/lang/invoke/MethodHandle" ∧ ny_MO_drop.cls ≠ "java/lang/invoke/VarHandle" ∧ (parseMethodDescriptor ny_MO_drop.desc).map (fun d => d.parameters.length) = some 1 := by decide +kernel
theorem ns_MO_drop : Cond.instanceMethod ny_MO_drop ∈ wl := wl_t3 95 rfl rfl
theorem nv_MO_drop : Cond.selects nr_MO ny_MO_drop ny_MO_drop ∈ wl := wl_t3 96 rfl rfl
theorem ni_MO_dueNow : ny_MO_dueNow.cls = nr_MO ∧ ny_MO_dueNow.cls ≠ "java/lang/invoke/MethodHandle" ∧ ny_MO_dueNow.cls ≠ "java/lang/invoke/VarHandle" ∧ (parseMethodDescriptor ny_MO_dueNow.desc).map (fun d => d.parameters.length) = some 0 := by decide +kernel
theorem ns_MO_dueNow : Cond.instanceMethod ny_MO_dueNow ∈ wl := wl_t3 108 rfl rfl
theorem nv_MO_dueNow : Cond.selects nr_MO ny_MO_dueNow ny_MO_dueNow ∈ wl := wl_sel 34 rfl rfl
theorem ni_MO_commit : ny_MO_commit.cls = nr_MO ∧ ny_MO_commit.cls ≠ "java/lang/invoke/MethodHandle" ∧ ny_MO_commit.cls ≠ "java/lang/invoke/VarHandle" ∧ (parseMethodDescriptor ny_MO_commit.desc).map (fun d => d.parameters.length) = some 0 := by decide +kernel
theorem ns_MO_commit : Cond.instanceMethod ny_MO_commit ∈ wl := wl_t3 103 rfl rfl
theorem nv_MO_commit : Cond.selects nr_MO ny_MO_commit ny_MO_commit ∈ wl := wl_t3 104 rfl rfl
theorem ni_MO_free : ny_MO_free.cls = nr_MO ∧ ny_MO_free.cls ≠ "java/lang/invoke/MethodHandle" ∧ ny_MO_free.cls ≠ "java/lang/invoke/VarHandle" ∧ (parseMethodDescriptor ny_MO_free.desc).map (fun d => d.parameters.length) = some 0 := by decide +kernel
theorem ns_MO_free : Cond.instanceMethod ny_MO_free ∈ wl := wl_t3 111 rfl rfl
theorem nv_MO_free : Cond.selects nr_MO ny_MO_free ny_MO_free ∈ wl := wl_t3 112 rfl rfl
theorem ni_MO_due : ny_MO_due.cls = nr_MO ∧ ny_MO_due.cls ≠ "java/lang/invoke/MethodHandle" ∧ ny_MO_due.cls ≠ "java/lang/invoke/VarHandle" ∧ (parseMethodDescriptor ny_MO_due.desc).map (fun d => d.parameters.length) = some 0 := by decide +kernel
theorem ns_MO_due : Cond.instanceMethod ny_MO_due ∈ wl := wl_t3 115 rfl rfl
theorem nv_MO_due : Cond.selects nr_MO ny_MO_due ny_MO_due ∈ wl := wl_t3 116 rfl rfl
theorem ni_MO_order : ny_MO_order.cls = nr_MO ∧ ny_MO_order.cls ≠ "java/lang/invoke/MethodHandle" ∧ ny_MO_order.cls ≠ "java/lang/invoke/VarHandle" ∧ (parseMethodDescriptor ny_MO_order.desc).map (fun d => d.parameters.length) = some 1 := by decide +kernel
theorem ns_MO_order : Cond.instanceMethod ny_MO_order ∈ wl := wl_t3 119 rfl rfl
theorem nv_MO_order : Cond.selects nr_MO ny_MO_order ny_MO_order ∈ wl := wl_t3 120 rfl rfl
theorem ni_MO_recover : ny_MO_recover.cls = nr_MO ∧ ny_MO_recover.cls ≠ "java/lang/invoke/MethodHandle" ∧ ny_MO_recover.cls ≠ "java/lang/invoke/VarHandle" ∧ (parseMethodDescriptor ny_MO_recover.desc).map (fun d => d.parameters.length) = some 0 := by decide +kernel
theorem ns_MO_recover : Cond.instanceMethod ny_MO_recover ∈ wl := wl_t3 123 rfl rfl
theorem nv_MO_recover : Cond.selects nr_MO ny_MO_recover ny_MO_recover ∈ wl := wl_t3 124 rfl rfl
theorem ni_MO_writes : ny_MO_writes.cls = nr_MO ∧ ny_MO_writes.cls ≠ "java/lang/invoke/MethodHandle" ∧ ny_MO_writes.cls ≠ "java/lang/invoke/VarHandle" ∧ (parseMethodDescriptor ny_MO_writes.desc).map (fun d => d.parameters.length) = some 0 := by decide +kernel
theorem ns_MO_writes : Cond.instanceMethod ny_MO_writes ∈ wl := wl_t3 127 rfl rfl
theorem nv_MO_writes : Cond.selects nr_MO ny_MO_writes ny_MO_writes ∈ wl := wl_t3 128 rfl rfl
theorem ni_MO_down : ny_MO_down.cls = nr_MO ∧ ny_MO_down.cls ≠ "java/lang/invoke/MethodHandle" ∧ ny_MO_down.cls ≠ "java/lang/invoke/VarHandle" ∧ (parseMethodDescriptor ny_MO_down.desc).map (fun d => d.parameters.length) = some 0 := by decide +kernel
theorem ns_MO_down : Cond.instanceMethod ny_MO_down ∈ wl := wl_t3 131 rfl rfl
theorem nv_MO_down : Cond.selects nr_MO ny_MO_down ny_MO_down ∈ wl := wl_t3 132 rfl rfl
theorem ni_RM_init : ny_RM_init.cls = nr_RM ∧ ny_RM_init.cls ≠ "java/lang/invoke/MethodHandle" ∧ ny_RM_init.cls ≠ "java/lang/invoke/VarHandle" ∧ (parseMethodDescriptor ny_RM_init.desc).map (fun d => d.parameters.length) = some 0 := by decide +kernel
theorem ns_RM_init : Cond.instanceMethod ny_RM_init ∈ wl := wl_t1 25 rfl rfl
theorem ni_RM_binds : ny_RM_binds.cls = nr_RM ∧ ny_RM_binds.cls ≠ "java/lang/invoke/MethodHandle" ∧ ny_RM_binds.cls ≠ "java/lang/invoke/VarHandle" ∧ (parseMethodDescriptor ny_RM_binds.desc).map (fun d => d.parameters.length) = some 2 := by decide +kernel
theorem ns_RM_binds : Cond.instanceMethod ny_RM_binds ∈ wl := wl_t1 194 rfl rfl
theorem nv_RM_binds : Cond.selects nr_RM ny_RM_binds ny_RM_binds ∈ wl := wl_t1 195 rfl rfl
theorem ni_RM_valueOf : ny_RM_valueOf.cls = nr_RM ∧ ny_RM_valueOf.cls ≠ "java/lang/invoke/MethodHandle" ∧ ny_RM_valueOf.cls ≠ "java/lang/invoke/VarHandle" ∧ (parseMethodDescriptor ny_RM_valueOf.desc).map (fun d => d.parameters.length) = some 2 := by decide +kernel
theorem ns_RM_valueOf : Cond.instanceMethod ny_RM_valueOf ∈ wl := wl_t1 208 rfl rfl
theorem nv_RM_valueOf : Cond.selects nr_RM ny_RM_valueOf ny_RM_valueOf ∈ wl := wl_t1 209 rfl rfl
theorem ni_RM_levelsWithout : ny_RM_levelsWithout.cls = nr_RM ∧ ny_RM_levelsWithout.cls ≠ "java/lang/invoke/MethodHandle" ∧ ny_RM_levelsWithout.cls ≠ "java/lang/invoke/VarHandle" ∧ (parseMethodDescriptor ny_RM_levelsWithout.desc).map (fun d => d.parameters.length) = some 2 := by decide +kernel
theorem ns_RM_levelsWithout : Cond.instanceMethod ny_RM_levelsWithout ∈ wl := wl_t2 61 rfl rfl
theorem nv_RM_levelsWithout : Cond.selects nr_RM ny_RM_levelsWithout ny_RM_levelsWithout ∈ wl := wl_t2 62 rfl rfl
theorem ni_RM_nodesToMake : ny_RM_nodesToMake.cls = nr_RM ∧ ny_RM_nodesToMake.cls ≠ "java/lang/invoke/MethodHandle" ∧ ny_RM_nodesToMake.cls ≠ "java/lang/invoke/VarHandle" ∧ (parseMethodDescriptor ny_RM_nodesToMake.desc).map (fun d => d.parameters.length) = some 3 := by decide +kernel
theorem ns_RM_nodesToMake : Cond.instanceMethod ny_RM_nodesToMake ∈ wl := wl_t1 232 rfl rfl
theorem nv_RM_nodesToMake : Cond.selects nr_RM ny_RM_nodesToMake ny_RM_nodesToMake ∈ wl := wl_t1 233 rfl rfl
theorem ni_RM_ownPath : ny_RM_ownPath.cls = nr_RM ∧ ny_RM_ownPath.cls ≠ "java/lang/invoke/MethodHandle" ∧ ny_RM_ownPath.cls ≠ "java/lang/invoke/VarHandle" ∧ (parseMethodDescriptor ny_RM_ownPath.desc).map (fun d => d.parameters.length) = some 3 := by decide +kernel
theorem ns_RM_ownPath : Cond.instanceMethod ny_RM_ownPath ∈ wl := wl_t2 12 rfl rfl
theorem nv_RM_ownPath : Cond.selects nr_RM ny_RM_ownPath ny_RM_ownPath ∈ wl := wl_t2 13 rfl rfl
theorem ni_RM_bind : ny_RM_bind.cls = nr_RM ∧ ny_RM_bind.cls ≠ "java/lang/invoke/MethodHandle" ∧ ny_RM_bind.cls ≠ "java/lang/invoke/VarHandle" ∧ (parseMethodDescriptor ny_RM_bind.desc).map (fun d => d.parameters.length) = some 3 := by decide +kernel
theorem ns_RM_bind : Cond.instanceMethod ny_RM_bind ∈ wl := wl_t2 29 rfl rfl
theorem nv_RM_bind : Cond.selects nr_RM ny_RM_bind ny_RM_bind ∈ wl := wl_t2 30 rfl rfl
theorem ni_RM_cut : ny_RM_cut.cls = nr_RM ∧ ny_RM_cut.cls ≠ "java/lang/invoke/MethodHandle" ∧ ny_RM_cut.cls ≠ "java/lang/invoke/VarHandle" ∧ (parseMethodDescriptor ny_RM_cut.desc).map (fun d => d.parameters.length) = some 3 := by decide +kernel
theorem ns_RM_cut : Cond.instanceMethod ny_RM_cut ∈ wl := wl_t2 69 rfl rfl
theorem nv_RM_cut : Cond.selects nr_RM ny_RM_cut ny_RM_cut ∈ wl := wl_t2 70 rfl rfl
theorem ni_RM_freeze : ny_RM_freeze.cls = nr_RM ∧ ny_RM_freeze.cls ≠ "java/lang/invoke/MethodHandle" ∧ ny_RM_freeze.cls ≠ "java/lang/invoke/VarHandle" ∧ (parseMethodDescriptor ny_RM_freeze.desc).map (fun d => d.parameters.length) = some 0 := by decide +kernel
theorem ns_RM_freeze : Cond.instanceMethod ny_RM_freeze ∈ wl := wl_t2 147 rfl rfl
theorem nv_RM_freeze : Cond.selects nr_RM ny_RM_freeze ny_RM_freeze ∈ wl := wl_t2 148 rfl rfl
theorem ni_RM_unmarkAll : ny_RM_unmarkAll.cls = nr_RM ∧ ny_RM_unmarkAll.cls ≠ "java/lang/invoke/MethodHandle" ∧ ny_RM_unmarkAll.cls ≠ "java/lang/invoke/VarHandle" ∧ (parseMethodDescriptor ny_RM_unmarkAll.desc).map (fun d => d.parameters.length) = some 0 := by decide +kernel
theorem ns_RM_unmarkAll : Cond.instanceMethod ny_RM_unmarkAll ∈ wl := wl_t1 220 rfl rfl
theorem nv_RM_unmarkAll : Cond.selects nr_RM ny_RM_unmarkAll ny_RM_unmarkAll ∈ wl := wl_t1 221 rfl rfl
theorem ni_RM_mark : ny_RM_mark.cls = nr_RM ∧ ny_RM_mark.cls ≠ "java/lang/invoke/MethodHandle" ∧ ny_RM_mark.cls ≠ "java/lang/invoke/VarHandle" ∧ (parseMethodDescriptor ny_RM_mark.desc).map (fun d => d.parameters.length) = some 1 := by decide +kernel
theorem ns_RM_mark : Cond.instanceMethod ny_RM_mark ∈ wl := wl_t1 228 rfl rfl
theorem nv_RM_mark : Cond.selects nr_RM ny_RM_mark ny_RM_mark ∈ wl := wl_t1 229 rfl rfl
theorem ni_RM_nodeAt : ny_RM_nodeAt.cls = nr_RM ∧ ny_RM_nodeAt.cls ≠ "java/lang/invoke/MethodHandle" ∧ ny_RM_nodeAt.cls ≠ "java/lang/invoke/VarHandle" ∧ (parseMethodDescriptor ny_RM_nodeAt.desc).map (fun d => d.parameters.length) = some 3 := by decide +kernel
theorem ns_RM_nodeAt : Cond.instanceMethod ny_RM_nodeAt ∈ wl := wl_t1 199 rfl rfl
theorem nv_RM_nodeAt : Cond.selects nr_RM ny_RM_nodeAt ny_RM_nodeAt ∈ wl := wl_sel 4 rfl rfl
theorem ni_RM_holdsNothingElse : ny_RM_holdsNothingElse.cls = nr_RM ∧ ny_RM_holdsNothingElse.cls ≠ "java/lang/invoke/MethodHandle" ∧ ny_RM_holdsNothingElse.cls ≠ "java/lang/invoke/VarHandle" ∧ (parseMethodDescriptor ny_RM_holdsNothingElse.desc).map (fun d => d.parameters.length) = some 3 := by decide +kernel
theorem ns_RM_holdsNothingElse : Cond.instanceMethod ny_RM_holdsNothingElse ∈ wl := wl_t2 66 rfl rfl
theorem nv_RM_holdsNothingElse : Cond.selects nr_RM ny_RM_holdsNothingElse ny_RM_holdsNothingElse ∈ wl := wl_sel 12 rfl rfl
theorem ni_RM_open : ny_RM_open.cls = nr_RM ∧ ny_RM_open.cls ≠ "java/lang/invoke/MethodHandle" ∧ ny_RM_open.cls ≠ "java/lang/invoke/VarHandle" ∧ (parseMethodDescriptor ny_RM_open.desc).map (fun d => d.parameters.length) = some 4 := by decide +kernel
theorem ns_RM_open : Cond.instanceMethod ny_RM_open ∈ wl := wl_t2 26 rfl rfl
theorem nv_RM_open : Cond.selects nr_RM ny_RM_open ny_RM_open ∈ wl := wl_sel 10 rfl rfl
theorem ni_RM_own : ny_RM_own.cls = nr_RM ∧ ny_RM_own.cls ≠ "java/lang/invoke/MethodHandle" ∧ ny_RM_own.cls ≠ "java/lang/invoke/VarHandle" ∧ (parseMethodDescriptor ny_RM_own.desc).map (fun d => d.parameters.length) = some 1 := by decide +kernel
theorem ns_RM_own : Cond.instanceMethod ny_RM_own ∈ wl := wl_t2 17 rfl rfl
theorem nv_RM_own : Cond.selects nr_RM ny_RM_own ny_RM_own ∈ wl := wl_sel 8 rfl rfl
theorem ni_RM_takeUnmarked : ny_RM_takeUnmarked.cls = nr_RM ∧ ny_RM_takeUnmarked.cls ≠ "java/lang/invoke/MethodHandle" ∧ ny_RM_takeUnmarked.cls ≠ "java/lang/invoke/VarHandle" ∧ (parseMethodDescriptor ny_RM_takeUnmarked.desc).map (fun d => d.parameters.length) = some 0 := by decide +kernel
theorem ns_RM_takeUnmarked : Cond.instanceMethod ny_RM_takeUnmarked ∈ wl := wl_t2 21 rfl rfl
theorem nv_RM_takeUnmarked : Cond.selects nr_RM ny_RM_takeUnmarked ny_RM_takeUnmarked ∈ wl := wl_sel 9 rfl rfl
theorem ni_RM_turnOf : ny_RM_turnOf.cls = nr_RM ∧ ny_RM_turnOf.cls ≠ "java/lang/invoke/MethodHandle" ∧ ny_RM_turnOf.cls ≠ "java/lang/invoke/VarHandle" ∧ (parseMethodDescriptor ny_RM_turnOf.desc).map (fun d => d.parameters.length) = some 2 := by decide +kernel
theorem ns_RM_turnOf : Cond.static ny_RM_turnOf ∈ wl := wl_t1 202 rfl rfl
theorem ni_RM_bitOf : ny_RM_bitOf.cls = nr_RM ∧ ny_RM_bitOf.cls ≠ "java/lang/invoke/MethodHandle" ∧ ny_RM_bitOf.cls ≠ "java/lang/invoke/VarHandle" ∧ (parseMethodDescriptor ny_RM_bitOf.desc).map (fun d => d.parameters.length) = some 2 := by decide +kernel
theorem ns_RM_bitOf : Cond.static ny_RM_bitOf ∈ wl := wl_t1 205 rfl rfl
theorem ni_LW_put : ny_LW_put.cls = nr_LW ∧ ny_LW_put.cls ≠ "java/lang/invoke/MethodHandle" ∧ ny_LW_put.cls ≠ "java/lang/invoke/VarHandle" ∧ (parseMethodDescriptor ny_LW_put.desc).map (fun d => d.parameters.length) = some 4 := by decide +kernel
theorem ns_LW_put : Cond.static ny_LW_put ∈ wl := wl_t1 91 rfl rfl
theorem ni_LW_remove : ny_LW_remove.cls = nr_LW ∧ ny_LW_remove.cls ≠ "java/lang/invoke/MethodHandle" ∧ ny_LW_remove.cls ≠ "java/lang/invoke/VarHandle" ∧ (parseMethodDescriptor ny_LW_remove.desc).map (fun d => d.parameters.length) = some 3 := by decide +kernel
theorem ns_LW_remove : Cond.static ny_LW_remove ∈ wl := wl_t2 33 rfl rfl
theorem ni_LW_get : ny_LW_get.cls = nr_LW ∧ ny_LW_get.cls ≠ "java/lang/invoke/MethodHandle" ∧ ny_LW_get.cls ≠ "java/lang/invoke/VarHandle" ∧ (parseMethodDescriptor ny_LW_get.desc).map (fun d => d.parameters.length) = some 4 := by decide +kernel
theorem ns_LW_get : Cond.static ny_LW_get ∈ wl := wl_t2 73 rfl rfl
theorem ni_LW_next : ny_LW_next.cls = nr_LW ∧ ny_LW_next.cls ≠ "java/lang/invoke/MethodHandle" ∧ ny_LW_next.cls ≠ "java/lang/invoke/VarHandle" ∧ (parseMethodDescriptor ny_LW_next.desc).map (fun d => d.parameters.length) = some 4 := by decide +kernel
theorem ns_LW_next : Cond.static ny_LW_next ∈ wl := wl_t2 89 rfl rfl
theorem ni_LW_count : ny_LW_count.cls = nr_LW ∧ ny_LW_count.cls ≠ "java/lang/invoke/MethodHandle" ∧ ny_LW_count.cls ≠ "java/lang/invoke/VarHandle" ∧ (parseMethodDescriptor ny_LW_count.desc).map (fun d => d.parameters.length) = some 3 := by decide +kernel
theorem ns_LW_count : Cond.static ny_LW_count ∈ wl := wl_t2 99 rfl rfl
theorem ni_LW_nodes : ny_LW_nodes.cls = nr_LW ∧ ny_LW_nodes.cls ≠ "java/lang/invoke/MethodHandle" ∧ ny_LW_nodes.cls ≠ "java/lang/invoke/VarHandle" ∧ (parseMethodDescriptor ny_LW_nodes.desc).map (fun d => d.parameters.length) = some 3 := by decide +kernel
theorem ns_LW_nodes : Cond.static ny_LW_nodes ∈ wl := wl_t2 110 rfl rfl
theorem ni_LW_shared : ny_LW_shared.cls = nr_LW ∧ ny_LW_shared.cls ≠ "java/lang/invoke/MethodHandle" ∧ ny_LW_shared.cls ≠ "java/lang/invoke/VarHandle" ∧ (parseMethodDescriptor ny_LW_shared.desc).map (fun d => d.parameters.length) = some 4 := by decide +kernel
theorem ns_LW_shared : Cond.static ny_LW_shared ∈ wl := wl_t2 117 rfl rfl
theorem ni_LW_differ : ny_LW_differ.cls = nr_LW ∧ ny_LW_differ.cls ≠ "java/lang/invoke/MethodHandle" ∧ ny_LW_differ.cls ≠ "java/lang/invoke/VarHandle" ∧ (parseMethodDescriptor ny_LW_differ.desc).map (fun d => d.parameters.length) = some 4 := by decide +kernel
theorem ns_LW_differ : Cond.static ny_LW_differ ∈ wl := wl_t2 124 rfl rfl
theorem ni_LW_snapshot : ny_LW_snapshot.cls = nr_LW ∧ ny_LW_snapshot.cls ≠ "java/lang/invoke/MethodHandle" ∧ ny_LW_snapshot.cls ≠ "java/lang/invoke/VarHandle" ∧ (parseMethodDescriptor ny_LW_snapshot.desc).map (fun d => d.parameters.length) = some 2 := by decide +kernel
theorem ns_LW_snapshot : Cond.static ny_LW_snapshot ∈ wl := wl_t2 135 rfl rfl
theorem ni_LW_rollback : ny_LW_rollback.cls = nr_LW ∧ ny_LW_rollback.cls ≠ "java/lang/invoke/MethodHandle" ∧ ny_LW_rollback.cls ≠ "java/lang/invoke/VarHandle" ∧ (parseMethodDescriptor ny_LW_rollback.desc).map (fun d => d.parameters.length) = some 3 := by decide +kernel
theorem ns_LW_rollback : Cond.static ny_LW_rollback ∈ wl := wl_t2 151 rfl rfl
theorem ni_LW_drop : ny_LW_drop.cls = nr_LW ∧ ny_LW_drop.cls ≠ "java/lang/invoke/MethodHandle" ∧ ny_LW_drop.cls ≠ "java/lang/invoke/VarHandle" ∧ (parseMethodDescriptor ny_LW_drop.desc).map (fun d => d.parameters.length) = some 3 := by decide +kernel
theorem ns_LW_drop : Cond.static ny_LW_drop ∈ wl := wl_t2 163 rfl rfl
theorem ni_LW_commit : ny_LW_commit.cls = nr_LW ∧ ny_LW_commit.cls ≠ "java/lang/invoke/MethodHandle" ∧ ny_LW_commit.cls ≠ "java/lang/invoke/VarHandle" ∧ (parseMethodDescriptor ny_LW_commit.desc).map (fun d => d.parameters.length) = some 2 := by decide +kernel
theorem ns_LW_commit : Cond.static ny_LW_commit ∈ wl := wl_t2 170 rfl rfl
theorem ni_LW_free : ny_LW_free.cls = nr_LW ∧ ny_LW_free.cls ≠ "java/lang/invoke/MethodHandle" ∧ ny_LW_free.cls ≠ "java/lang/invoke/VarHandle" ∧ (parseMethodDescriptor ny_LW_free.desc).map (fun d => d.parameters.length) = some 2 := by decide +kernel
theorem ns_LW_free : Cond.static ny_LW_free ∈ wl := wl_t2 190 rfl rfl
theorem ni_LW_due : ny_LW_due.cls = nr_LW ∧ ny_LW_due.cls ≠ "java/lang/invoke/MethodHandle" ∧ ny_LW_due.cls ≠ "java/lang/invoke/VarHandle" ∧ (parseMethodDescriptor ny_LW_due.desc).map (fun d => d.parameters.length) = some 2 := by decide +kernel
theorem ns_LW_due : Cond.static ny_LW_due ∈ wl := wl_t2 197 rfl rfl
