theorem dX7_gate_1 : decode cX7_gate 1 = .ok (.iconst 0, 1) := by decide +kernel
theorem dX7_gate_2 : decode cX7_gate 2 = .ok (.putfield 184, 3) := by decide +kernel
theorem dX7_gate_5 : decode cX7_gate 5 = .ok (.aload_n 0, 1) := by decide +kernel
theorem dX7_gate_6 : decode cX7_gate 6 = .ok (.iconst 0, 1) := by decide +kernel
theorem dX7_gate_7 : decode cX7_gate 7 = .ok (.putfield 187, 3) := by decide +kernel
theorem dX7_gate_10 : decode cX7_gate 10 = .ok (.aload_n 0, 1) := by decide +kernel
theorem dX7_gate_11 : decode cX7_gate 11 = .ok (.getfield 303, 3) := by decide +kernel
theorem dX7_gate_14 : decode cX7_gate 14 = .ok (.ifCond .ne 9, 3) := by decide +kernel
theorem dX7_gate_17 : decode cX7_gate 17 = .ok (.aload_n 0, 1) := by decide +kernel
theorem dX7_gate_18 : decode cX7_gate 18 = .ok (.iconst 1, 1) := by decide +kernel
theorem dX7_gate_19 : decode cX7_gate 19 = .ok (.invokevirtual 327, 3) := by decide +kernel
theorem dX7_gate_22 : decode cX7_gate 22 = .ok (.ireturn, 1) := by decide +kernel
theorem dX7_gate_23 : decode cX7_gate 23 = .ok (.aload_n 0, 1) := by decide +kernel
theorem dX7_gate_24 : decode cX7_gate 24 = .ok (.iload_n 1, 1) := by decide +kernel
theorem dX7_gate_25 : decode cX7_gate 25 = .ok (.invokevirtual 372, 3) := by decide +kernel
theorem dX7_gate_28 : decode cX7_gate 28 = .ok (.ifCond .eq 12, 3) := by decide +kernel
theorem dX7_gate_31 : decode cX7_gate 31 = .ok (.aload_n 0, 1) := by decide +kernel
theorem dX7_gate_32 : decode cX7_gate 32 = .ok (.iload_n 2, 1) := by decide +kernel
theorem dX7_gate_33 : decode cX7_gate 33 = .ok (.iload_n 3, 1) := by decide +kernel
theorem dX7_gate_34 : decode cX7_gate 34 = .ok (.invokevirtual 229, 3) := by decide +kernel
theorem dX7_gate_37 : decode cX7_gate 37 = .ok (.ifCond .ne 9, 3) := by decide +kernel
theorem dX7_gate_40 : decode cX7_gate 40 = .ok (.aload_n 0, 1) := by decide +kernel
theorem dX7_gate_41 : decode cX7_gate 41 = .ok (.iconst 2, 1) := by decide +kernel
theorem dX7_gate_42 : decode cX7_gate 42 = .ok (.invokevirtual 327, 3) := by decide +kernel
theorem dX7_gate_45 : decode cX7_gate 45 = .ok (.ireturn, 1) := by decide +kernel
theorem dX7_gate_46 : decode cX7_gate 46 = .ok (.aload_n 0, 1) := by decide +kernel
theorem dX7_gate_47 : decode cX7_gate 47 = .ok (.getfield 23, 3) := by decide +kernel
theorem dX7_gate_50 : decode cX7_gate 50 = .ok (.iload_n 1, 1) := by decide +kernel
theorem dX7_gate_51 : decode cX7_gate 51 = .ok (.iaload, 1) := by decide +kernel
theorem dX7_gate_52 : decode cX7_gate 52 = .ok (.iconst 5, 1) := by decide +kernel
theorem dX7_gate_53 : decode cX7_gate 53 = .ok (.if_icmp .eq 9, 3) := by decide +kernel
theorem dX7_gate_56 : decode cX7_gate 56 = .ok (.aload_n 0, 1) := by decide +kernel
theorem dX7_gate_57 : decode cX7_gate 57 = .ok (.iconst 5, 1) := by decide +kernel
theorem dX7_gate_58 : decode cX7_gate 58 = .ok (.invokevirtual 327, 3) := by decide +kernel
theorem dX7_gate_61 : decode cX7_gate 61 = .ok (.ireturn, 1) := by decide +kernel
theorem dX7_gate_62 : decode cX7_gate 62 = .ok (.aload_n 0, 1) := by decide +kernel
theorem dX7_gate_63 : decode cX7_gate 63 = .ok (.getfield 32, 3) := by decide +kernel
theorem dX7_gate_66 : decode cX7_gate 66 = .ok (.iload_n 1, 1) := by decide +kernel
theorem dX7_gate_67 : decode cX7_gate 67 = .ok (.iaload, 1) := by decide +kernel
theorem dX7_gate_68 : decode cX7_gate 68 = .ok (.ifCond .ne 24, 3) := by decide +kernel
theorem dX7_gate_71 : decode cX7_gate 71 = .ok (.iload_n 3, 1) := by decide +kernel
theorem dX7_gate_72 : decode cX7_gate 72 = .ok (.aload_n 0, 1) := by decide +kernel
theorem dX7_gate_73 : decode cX7_gate 73 = .ok (.getfield 26, 3) := by decide +kernel
theorem dX7_gate_76 : decode cX7_gate 76 = .ok (.iload_n 1, 1) := by decide +kernel
theorem dX7_gate_77 : decode cX7_gate 77 = .ok (.iaload, 1) := by decide +kernel
theorem dX7_gate_78 : decode cX7_gate 78 = .ok (.bipush 8, 2) := by decide +kernel
theorem dX7_gate_80 : decode cX7_gate 80 = .ok (.idiv, 1) := by decide +kernel
theorem dX7_gate_81 : decode cX7_gate 81 = .ok (.if_icmp .ne 7, 3) := by decide +kernel
theorem dX7_gate_84 : decode cX7_gate 84 = .ok (.iconst 1, 1) := by decide +kernel
theorem dX7_gate_85 : decode cX7_gate 85 = .ok (.goto 25, 3) := by decide +kernel
theorem dX7_gate_88 : decode cX7_gate 88 = .ok (.iconst 0, 1) := by decide +kernel
theorem dX7_gate_89 : decode cX7_gate 89 = .ok (.goto 21, 3) := by decide +kernel
theorem dX7_gate_92 : decode cX7_gate 92 = .ok (.iload_n 2, 1) := by decide +kernel
theorem dX7_gate_93 : decode cX7_gate 93 = .ok (.aload_n 0, 1) := by decide +kernel
theorem dX7_gate_94 : decode cX7_gate 94 = .ok (.getfield 26, 3) := by decide +kernel
theorem dX7_gate_97 : decode cX7_gate 97 = .ok (.iload_n 1, 1) := by decide +kernel
theorem dX7_gate_98 : decode cX7_gate 98 = .ok (.iaload, 1) := by decide +kernel
theorem dX7_gate_99 : decode cX7_gate 99 = .ok (.bipush 8, 2) := by decide +kernel
theorem dX7_gate_101 : decode cX7_gate 101 = .ok (.irem, 1) := by decide +kernel
theorem dX7_gate_102 : decode cX7_gate 102 = .ok (.if_icmp .ne 7, 3) := by decide +kernel
theorem dX7_gate_105 : decode cX7_gate 105 = .ok (.iconst 1, 1) := by decide +kernel
theorem dX7_gate_106 : decode cX7_gate 106 = .ok (.goto 4, 3) := by decide +kernel
theorem dX7_gate_109 : decode cX7_gate 109 = .ok (.iconst 0, 1) := by decide +kernel
theorem dX7_gate_110 : decode cX7_gate 110 = .ok (.istore 4, 2) := by decide +kernel
theorem dX7_gate_112 : decode cX7_gate 112 = .ok (.iload 4, 2) := by decide +kernel
theorem dX7_gate_114 : decode cX7_gate 114 = .ok (.ifCond .eq 31, 3) := by decide +kernel
theorem dX7_gate_117 : decode cX7_gate 117 = .ok (.iload_n 2, 1) := by decide +kernel
theorem dX7_gate_118 : decode cX7_gate 118 = .ok (.aload_n 0, 1) := by decide +kernel
theorem dX7_gate_119 : decode cX7_gate 119 = .ok (.iload_n 1, 1) := by decide +kernel
theorem dX7_gate_120 : decode cX7_gate 120 = .ok (.invokevirtual 210, 3) := by decide +kernel
theorem dX7_gate_123 : decode cX7_gate 123 = .ok (.iadd, 1) := by decide +kernel
theorem dX7_gate_124 : decode cX7_gate 124 = .ok (.aload_n 0, 1) := by decide +kernel
theorem dX7_gate_125 : decode cX7_gate 125 = .ok (.getfield 190, 3) := by decide +kernel
theorem dX7_gate_128 : decode cX7_gate 128 = .ok (.if_icmp .gt 17, 3) := by decide +kernel
theorem dX7_gate_131 : decode cX7_gate 131 = .ok (.iload_n 3, 1) := by decide +kernel
theorem dX7_gate_132 : decode cX7_gate 132 = .ok (.aload_n 0, 1) := by decide +kernel
theorem dX7_gate_133 : decode cX7_gate 133 = .ok (.iload_n 1, 1) := by decide +kernel
theorem dX7_gate_134 : decode cX7_gate 134 = .ok (.invokevirtual 206, 3) := by decide +kernel
theorem dX7_gate_137 : decode cX7_gate 137 = .ok (.iadd, 1) := by decide +kernel
theorem dX7_gate_138 : decode cX7_gate 138 = .ok (.aload_n 0, 1) := by decide +kernel
theorem dX7_gate_139 : decode cX7_gate 139 = .ok (.getfield 193, 3) := by decide +kernel
theorem dX7_gate_142 : decode cX7_gate 142 = .ok (.if_icmp .le 10, 3) := by decide +kernel
theorem dX7_gate_145 : decode cX7_gate 145 = .ok (.aload_n 0, 1) := by decide +kernel
theorem dX7_gate_146 : decode cX7_gate 146 = .ok (.bipush 7, 2) := by decide +kernel
theorem dX7_gate_148 : decode cX7_gate 148 = .ok (.invokevirtual 327, 3) := by decide +kernel
theorem dX7_gate_151 : decode cX7_gate 151 = .ok (.ireturn, 1) := by decide +kernel
theorem dX7_gate_152 : decode cX7_gate 152 = .ok (.aload_n 0, 1) := by decide +kernel
theorem dX7_gate_153 : decode cX7_gate 153 = .ok (.getfield 35, 3) := by decide +kernel
theorem dX7_gate_156 : decode cX7_gate 156 = .ok (.iload_n 1, 1) := by decide +kernel
theorem dX7_gate_157 : decode cX7_gate 157 = .ok (.iload_n 2, 1) := by decide +kernel
theorem dX7_gate_158 : decode cX7_gate 158 = .ok (.bipush 8, 2) := by decide +kernel
theorem dX7_gate_160 : decode cX7_gate 160 = .ok (.iload_n 3, 1) := by decide +kernel
theorem dX7_gate_161 : decode cX7_gate 161 = .ok (.imul, 1) := by decide +kernel
theorem dX7_gate_162 : decode cX7_gate 162 = .ok (.iadd, 1) := by decide +kernel
theorem dX7_gate_163 : decode cX7_gate 163 = .ok (.iastore, 1) := by decide +kernel
theorem dX7_gate_164 : decode cX7_gate 164 = .ok (.aload_n 0, 1) := by decide +kernel
theorem dX7_gate_165 : decode cX7_gate 165 = .ok (.invokevirtual 342, 3) := by decide +kernel
theorem dX7_gate_168 : decode cX7_gate 168 = .ok (.iconst 1, 1) := by decide +kernel
theorem dX7_gate_169 : decode cX7_gate 169 = .ok (.ireturn, 1) := by decide +kernel
theorem dX7_remove_0 : decode cX7_remove 0 = .ok (.iload_n 1, 1) := by decide +kernel
theorem dX7_remove_1 : decode cX7_remove 1 = .ok (.istore_n 2, 1) := by decide +kernel
theorem dX7_remove_2 : decode cX7_remove 2 = .ok (.iload_n 2, 1) := by decide +kernel
theorem dX7_remove_3 : decode cX7_remove 3 = .ok (.iconst 1, 1) := by decide +kernel
theorem dX7_remove_4 : decode cX7_remove 4 = .ok (.iadd, 1) := by decide +kernel
theorem dX7_remove_5 : decode cX7_remove 5 = .ok (.aload_n 0, 1) := by decide +kernel
theorem dX7_remove_6 : decode cX7_remove 6 = .ok (.getfield 216, 3) := by decide +kernel
theorem dX7_remove_9 : decode cX7_remove 9 = .ok (.if_icmp .ge 79, 3) := by decide +kernel
theorem dX7_remove_12 : decode cX7_remove 12 = .ok (.aload_n 0, 1) := by decide +kernel
theorem dX7_remove_13 : decode cX7_remove 13 = .ok (.getfield 23, 3) := by decide +kernel
theorem dX7_remove_16 : decode cX7_remove 16 = .ok (.iload_n 2, 1) := by decide +kernel
theorem dX7_remove_17 : decode cX7_remove 17 = .ok (.aload_n 0, 1) := by decide +kernel
theorem dX7_remove_18 : decode cX7_remove 18 = .ok (.getfield 23, 3) := by decide +kernel
theorem dX7_remove_21 : decode cX7_remove 21 = .ok (.iload_n 2, 1) := by decide +kernel
theorem dX7_remove_22 : decode cX7_remove 22 = .ok (.iconst 1, 1) := by decide +kernel
theorem dX7_remove_23 : decode cX7_remove 23 = .ok (.iadd, 1) := by decide +kernel
theorem dX7_remove_24 : decode cX7_remove 24 = .ok (.iaload, 1) := by decide +kernel
theorem dX7_remove_25 : decode cX7_remove 25 = .ok (.iastore, 1) := by decide +kernel
theorem dX7_remove_26 : decode cX7_remove 26 = .ok (.aload_n 0, 1) := by decide +kernel
theorem dX7_remove_27 : decode cX7_remove 27 = .ok (.getfield 26, 3) := by decide +kernel
theorem dX7_remove_30 : decode cX7_remove 30 = .ok (.iload_n 2, 1) := by decide +kernel
theorem dX7_remove_31 : decode cX7_remove 31 = .ok (.aload_n 0, 1) := by decide +kernel
theorem dX7_remove_32 : decode cX7_remove 32 = .ok (.getfield 26, 3) := by decide +kernel
theorem dX7_remove_35 : decode cX7_remove 35 = .ok (.iload_n 2, 1) := by decide +kernel
theorem dX7_remove_36 : decode cX7_remove 36 = .ok (.iconst 1, 1) := by decide +kernel
theorem dX7_remove_37 : decode cX7_remove 37 = .ok (.iadd, 1) := by decide +kernel
theorem dX7_remove_38 : decode cX7_remove 38 = .ok (.iaload, 1) := by decide +kernel
theorem dX7_remove_39 : decode cX7_remove 39 = .ok (.iastore, 1) := by decide +kernel
theorem dX7_remove_40 : decode cX7_remove 40 = .ok (.aload_n 0, 1) := by decide +kernel
theorem dX7_remove_41 : decode cX7_remove 41 = .ok (.getfield 29, 3) := by decide +kernel
theorem dX7_remove_44 : decode cX7_remove 44 = .ok (.iload_n 2, 1) := by decide +kernel
theorem dX7_remove_45 : decode cX7_remove 45 = .ok (.aload_n 0, 1) := by decide +kernel
theorem dX7_remove_46 : decode cX7_remove 46 = .ok (.getfield 29, 3) := by decide +kernel
theorem dX7_remove_49 : decode cX7_remove 49 = .ok (.iload_n 2, 1) := by decide +kernel
theorem dX7_remove_50 : decode cX7_remove 50 = .ok (.iconst 1, 1) := by decide +kernel
theorem dX7_remove_51 : decode cX7_remove 51 = .ok (.iadd, 1) := by decide +kernel
theorem dX7_remove_52 : decode cX7_remove 52 = .ok (.iaload, 1) := by decide +kernel
theorem dX7_remove_53 : decode cX7_remove 53 = .ok (.iastore, 1) := by decide +kernel
theorem dX7_remove_54 : decode cX7_remove 54 = .ok (.aload_n 0, 1) := by decide +kernel
theorem dX7_remove_55 : decode cX7_remove 55 = .ok (.getfield 32, 3) := by decide +kernel
theorem dX7_remove_58 : decode cX7_remove 58 = .ok (.iload_n 2, 1) := by decide +kernel
theorem dX7_remove_59 : decode cX7_remove 59 = .ok (.aload_n 0, 1) := by decide +kernel
theorem dX7_remove_60 : decode cX7_remove 60 = .ok (.getfield 32, 3) := by decide +kernel
theorem dX7_remove_63 : decode cX7_remove 63 = .ok (.iload_n 2, 1) := by decide +kernel
theorem dX7_remove_64 : decode cX7_remove 64 = .ok (.iconst 1, 1) := by decide +kernel
theorem dX7_remove_65 : decode cX7_remove 65 = .ok (.iadd, 1) := by decide +kernel
theorem dX7_remove_66 : decode cX7_remove 66 = .ok (.iaload, 1) := by decide +kernel
theorem dX7_remove_67 : decode cX7_remove 67 = .ok (.iastore, 1) := by decide +kernel
theorem dX7_remove_68 : decode cX7_remove 68 = .ok (.aload_n 0, 1) := by decide +kernel
theorem dX7_remove_69 : decode cX7_remove 69 = .ok (.getfield 35, 3) := by decide +kernel
theorem dX7_remove_72 : decode cX7_remove 72 = .ok (.iload_n 2, 1) := by decide +kernel
theorem dX7_remove_73 : decode cX7_remove 73 = .ok (.aload_n 0, 1) := by decide +kernel
theorem dX7_remove_74 : decode cX7_remove 74 = .ok (.getfield 35, 3) := by decide +kernel
theorem dX7_remove_77 : decode cX7_remove 77 = .ok (.iload_n 2, 1) := by decide +kernel
theorem dX7_remove_78 : decode cX7_remove 78 = .ok (.iconst 1, 1) := by decide +kernel
theorem dX7_remove_79 : decode cX7_remove 79 = .ok (.iadd, 1) := by decide +kernel
theorem dX7_remove_80 : decode cX7_remove 80 = .ok (.iaload, 1) := by decide +kernel
theorem dX7_remove_81 : decode cX7_remove 81 = .ok (.iastore, 1) := by decide +kernel
theorem dX7_remove_82 : decode cX7_remove 82 = .ok (.iinc 2 1, 3) := by decide +kernel
theorem dX7_remove_85 : decode cX7_remove 85 = .ok (.goto (-83), 3) := by decide +kernel
theorem dX7_remove_88 : decode cX7_remove 88 = .ok (.aload_n 0, 1) := by decide +kernel
theorem dX7_remove_89 : decode cX7_remove 89 = .ok (.dup, 1) := by decide +kernel
theorem dX7_remove_90 : decode cX7_remove 90 = .ok (.getfield 216, 3) := by decide +kernel
theorem dX7_remove_93 : decode cX7_remove 93 = .ok (.iconst 1, 1) := by decide +kernel
theorem dX7_remove_94 : decode cX7_remove 94 = .ok (.isub, 1) := by decide +kernel
theorem dX7_remove_95 : decode cX7_remove 95 = .ok (.putfield 216, 3) := by decide +kernel
theorem dX7_remove_98 : decode cX7_remove 98 = .ok (.return_, 1) := by decide +kernel
theorem dX7_insert_0 : decode cX7_insert 0 = .ok (.aload_n 0, 1) := by decide +kernel
theorem dX7_insert_1 : decode cX7_insert 1 = .ok (.getfield 216, 3) := by decide +kernel
theorem dX7_insert_4 : decode cX7_insert 4 = .ok (.istore_n 2, 1) := by decide +kernel
theorem dX7_insert_5 : decode cX7_insert 5 = .ok (.iload_n 2, 1) := by decide +kernel
theorem dX7_insert_6 : decode cX7_insert 6 = .ok (.iload_n 1, 1) := by decide +kernel
theorem dX7_insert_7 : decode cX7_insert 7 = .ok (.if_icmp .le 79, 3) := by decide +kernel
theorem dX7_insert_10 : decode cX7_insert 10 = .ok (.aload_n 0, 1) := by decide +kernel
theorem dX7_insert_11 : decode cX7_insert 11 = .ok (.getfield 23, 3) := by decide +kernel
theorem dX7_insert_14 : decode cX7_insert 14 = .ok (.iload_n 2, 1) := by decide +kernel
theorem dX7_insert_15 : decode cX7_insert 15 = .ok (.aload_n 0, 1) := by decide +kernel
theorem dX7_insert_16 : decode cX7_insert 16 = .ok (.getfield 23, 3) := by decide +kernel
theorem dX7_insert_19 : decode cX7_insert 19 = .ok (.iload_n 2, 1) := by decide +kernel
theorem dX7_insert_20 : decode cX7_insert 20 = .ok (.iconst 1, 1) := by decide +kernel
theorem dX7_insert_21 : decode cX7_insert 21 = .ok (.isub, 1) := by decide +kernel
theorem dX7_insert_22 : decode cX7_insert 22 = .ok (.iaload, 1) := by decide +kernel
theorem dX7_insert_23 : decode cX7_insert 23 = .ok (.iastore, 1) := by decide +kernel
theorem dX7_insert_24 : decode cX7_insert 24 = .ok (.aload_n 0, 1) := by decide +kernel
theorem dX7_insert_25 : decode cX7_insert 25 = .ok (.getfield 26, 3) := by decide +kernel
theorem dX7_insert_28 : decode cX7_insert 28 = .ok (.iload_n 2, 1) := by decide +kernel
theorem dX7_insert_29 : decode cX7_insert 29 = .ok (.aload_n 0, 1) := by decide +kernel
theorem dX7_insert_30 : decode cX7_insert 30 = .ok (.getfield 26, 3) := by decide +kernel
theorem dX7_insert_33 : decode cX7_insert 33 = .ok (.iload_n 2, 1) := by decide +kernel
theorem dX7_insert_34 : decode cX7_insert 34 = .ok (.iconst 1, 1) := by decide +kernel
theorem dX7_insert_35 : decode cX7_insert 35 = .ok (.isub, 1) := by decide +kernel
theorem dX7_insert_36 : decode cX7_insert 36 = .ok (.iaload, 1) := by decide +kernel
theorem dX7_insert_37 : decode cX7_insert 37 = .ok (.iastore, 1) := by decide +kernel
theorem dX7_insert_38 : decode cX7_insert 38 = .ok (.aload_n 0, 1) := by decide +kernel
theorem dX7_insert_39 : decode cX7_insert 39 = .ok (.getfield 29, 3) := by decide +kernel
theorem dX7_insert_42 : decode cX7_insert 42 = .ok (.iload_n 2, 1) := by decide +kernel
theorem dX7_insert_43 : decode cX7_insert 43 = .ok (.aload_n 0, 1) := by decide +kernel
theorem dX7_insert_44 : decode cX7_insert 44 = .ok (.getfield 29, 3) := by decide +kernel
theorem dX7_insert_47 : decode cX7_insert 47 = .ok (.iload_n 2, 1) := by decide +kernel
theorem dX7_insert_48 : decode cX7_insert 48 = .ok (.iconst 1, 1) := by decide +kernel
theorem dX7_insert_49 : decode cX7_insert 49 = .ok (.isub, 1) := by decide +kernel
theorem dX7_insert_50 : decode cX7_insert 50 = .ok (.iaload, 1) := by decide +kernel
theorem dX7_insert_51 : decode cX7_insert 51 = .ok (.iastore, 1) := by decide +kernel
theorem dX7_insert_52 : decode cX7_insert 52 = .ok (.aload_n 0, 1) := by decide +kernel
theorem dX7_insert_53 : decode cX7_insert 53 = .ok (.getfield 32, 3) := by decide +kernel
theorem dX7_insert_56 : decode cX7_insert 56 = .ok (.iload_n 2, 1) := by decide +kernel
theorem dX7_insert_57 : decode cX7_insert 57 = .ok (.aload_n 0, 1) := by decide +kernel
theorem dX7_insert_58 : decode cX7_insert 58 = .ok (.getfield 32, 3) := by decide +kernel
theorem dX7_insert_61 : decode cX7_insert 61 = .ok (.iload_n 2, 1) := by decide +kernel
theorem dX7_insert_62 : decode cX7_insert 62 = .ok (.iconst 1, 1) := by decide +kernel
theorem dX7_insert_63 : decode cX7_insert 63 = .ok (.isub, 1) := by decide +kernel
theorem dX7_insert_64 : decode cX7_insert 64 = .ok (.iaload, 1) := by decide +kernel
theorem dX7_insert_65 : decode cX7_insert 65 = .ok (.iastore, 1) := by decide +kernel
theorem dX7_insert_66 : decode cX7_insert 66 = .ok (.aload_n 0, 1) := by decide +kernel
theorem dX7_insert_67 : decode cX7_insert 67 = .ok (.getfield 35, 3) := by decide +kernel
theorem dX7_insert_70 : decode cX7_insert 70 = .ok (.iload_n 2, 1) := by decide +kernel
theorem dX7_insert_71 : decode cX7_insert 71 = .ok (.aload_n 0, 1) := by decide +kernel
theorem dX7_insert_72 : decode cX7_insert 72 = .ok (.getfield 35, 3) := by decide +kernel
theorem dX7_insert_75 : decode cX7_insert 75 = .ok (.iload_n 2, 1) := by decide +kernel
theorem dX7_insert_76 : decode cX7_insert 76 = .ok (.iconst 1, 1) := by decide +kernel
theorem dX7_insert_77 : decode cX7_insert 77 = .ok (.isub, 1) := by decide +kernel
theorem dX7_insert_78 : decode cX7_insert 78 = .ok (.iaload, 1) := by decide +kernel
theorem dX7_insert_79 : decode cX7_insert 79 = .ok (.iastore, 1) := by decide +kernel
theorem dX7_insert_80 : decode cX7_insert 80 = .ok (.iinc 2 (-1), 3) := by decide +kernel
theorem dX7_insert_83 : decode cX7_insert 83 = .ok (.goto (-78), 3) := by decide +kernel
theorem dX7_insert_86 : decode cX7_insert 86 = .ok (.aload_n 0, 1) := by decide +kernel
theorem dX7_insert_87 : decode cX7_insert 87 = .ok (.dup, 1) := by decide +kernel
theorem dX7_insert_88 : decode cX7_insert 88 = .ok (.getfield 216, 3) := by decide +kernel
theorem dX7_insert_91 : decode cX7_insert 91 = .ok (.iconst 1, 1) := by decide +kernel
theorem dX7_insert_92 : decode cX7_insert 92 = .ok (.iadd, 1) := by decide +kernel
theorem dX7_insert_93 : decode cX7_insert 93 = .ok (.putfield 216, 3) := by decide +kernel
theorem dX7_insert_96 : decode cX7_insert 96 = .ok (.return_, 1) := by decide +kernel
set_option maxRecDepth 20000 in
theorem mc_X7_lift_X7_lift_r1 : mjIn wsX7_lift wsX7_lift_r1 := fun w h => (List.mem_cons_of_mem _ (List.mem_append_left _ (List.mem_append_left _ h)))
set_option maxRecDepth 20000 in
theorem mc_X7_lift_X70 : mjIn wsX7_lift wsX70 := fun w h => (List.mem_cons_of_mem _ (List.mem_append_right _ h))
set_option maxRecDepth 20000 in
theorem ggX7_lift_X7_no : GoodIn wsX7_lift wsX7_no := mj_good (mj_cons (mc_X7_lift_X7_lift_r1 _ (List.mem_of_getElem? (i := 7) rfl)) (mj_app (mj_cons (mc_X7_lift_X7_lift_r1 _ (List.mem_of_getElem? (i := 1) rfl)) mj_nil) mc_X7_lift_X70)) (by decide +kernel)
set_option maxRecDepth 20000 in
theorem gX7_lift_X7_no : GoodIn wsX7_lift (wsV RX7 327 RX7 yX7_no wsX7_no) := goodIn_app (mj_good (mj_cons (mc_X7_lift_X7_lift_r1 _ (List.mem_of_getElem? (i := 3) rfl)) (mj_cons (mc_X7_lift_X7_lift_r1 _ (List.mem_of_getElem? (i := 4) rfl)) (mj_cons (mc_X7_lift_X7_lift_r1 _ (List.mem_of_getElem? (i := 5) rfl)) (mj_cons (mc_X7_lift_X7_lift_r1 _ (List.mem_of_getElem? (i := 6) rfl)) mj_nil)))) (by decide +kernel)) ggX7_lift_X7_no
set_option maxRecDepth 20000 in
theorem ggX7_lift_X7_isBarge : GoodIn wsX7_lift wsX7_isBarge := mj_good (mj_cons (mc_X7_lift_X7_lift_r1 _ (List.mem_of_getElem? (i := 11) rfl)) (mj_app (mj_cons (mc_X7_lift_X7_lift_r1 _ (List.mem_of_getElem? (i := 12) rfl)) mj_nil) mc_X7_lift_X70)) (by decide +kernel)
set_option maxRecDepth 20000 in
theorem gX7_lift_X7_isBarge : GoodIn wsX7_lift (wsV RX7 372 RX7 yX7_isBarge wsX7_isBarge) := goodIn_app (mj_good (mj_cons (mc_X7_lift_X7_lift_r1 _ (List.mem_of_getElem? (i := 8) rfl)) (mj_cons (mc_X7_lift_X7_lift_r1 _ (List.mem_of_getElem? (i := 9) rfl)) (mj_cons (mc_X7_lift_X7_lift_r1 _ (List.mem_of_getElem? (i := 10) rfl)) (mj_cons (mc_X7_lift_X7_lift_r1 _ (List.mem_of_getElem? (i := 6) rfl)) mj_nil)))) (by decide +kernel)) ggX7_lift_X7_isBarge
set_option maxRecDepth 20000 in
theorem ggX7_lift_X7_remove : GoodIn wsX7_lift wsX7_remove := mj_good (mj_cons (mc_X7_lift_X7_lift_r1 _ (List.mem_of_getElem? (i := 16) rfl)) (mj_app (mj_cons (mc_X7_lift_X7_lift_r1 _ (List.mem_of_getElem? (i := 12) rfl)) (mj_cons (mc_X7_lift_X7_lift_r1 _ (List.mem_of_getElem? (i := 17) rfl)) (mj_cons (mc_X7_lift_X7_lift_r1 _ (List.mem_of_getElem? (i := 18) rfl)) (mj_cons (mc_X7_lift_X7_lift_r1 _ (List.mem_of_getElem? (i := 19) rfl)) (mj_cons (mc_X7_lift_X7_lift_r1 _ (List.mem_of_getElem? (i := 20) rfl)) (mj_cons (mc_X7_lift_X7_lift_r1 _ (List.mem_of_getElem? (i := 21) rfl)) mj_nil)))))) mc_X7_lift_X70)) (by decide +kernel)
set_option maxRecDepth 20000 in
theorem gX7_lift_X7_remove : GoodIn wsX7_lift (wsV RX7 375 RX7 yX7_remove wsX7_remove) := goodIn_app (mj_good (mj_cons (mc_X7_lift_X7_lift_r1 _ (List.mem_of_getElem? (i := 13) rfl)) (mj_cons (mc_X7_lift_X7_lift_r1 _ (List.mem_of_getElem? (i := 14) rfl)) (mj_cons (mc_X7_lift_X7_lift_r1 _ (List.mem_of_getElem? (i := 15) rfl)) (mj_cons (mc_X7_lift_X7_lift_r1 _ (List.mem_of_getElem? (i := 6) rfl)) mj_nil)))) (by decide +kernel)) ggX7_lift_X7_remove
set_option maxRecDepth 20000 in
theorem mc_X7_lift_X7_lift_r2 : mjIn wsX7_lift wsX7_lift_r2 := fun w h => (List.mem_cons_of_mem _ (List.mem_append_left _ (List.mem_append_right _ h)))
set_option maxRecDepth 20000 in
theorem ggX7_lift_X7_ends : GoodIn wsX7_lift wsX7_ends := mj_good (mj_cons (mc_X7_lift_X7_lift_r2 _ (List.mem_of_getElem? (i := 1) rfl)) (mj_app (mj_cons (mc_X7_lift_X7_lift_r2 _ (List.mem_of_getElem? (i := 2) rfl)) (mj_cons (mc_X7_lift_X7_lift_r2 _ (List.mem_of_getElem? (i := 3) rfl)) (mj_cons (mc_X7_lift_X7_lift_r2 _ (List.mem_of_getElem? (i := 4) rfl)) (mj_cons (mc_X7_lift_X7_lift_r1 _ (List.mem_of_getElem? (i := 6) rfl)) (mj_cons (mc_X7_lift_X7_lift_r2 _ (List.mem_of_getElem? (i := 5) rfl)) (mj_cons (mc_X7_lift_X7_lift_r2 _ (List.mem_of_getElem? (i := 6) rfl)) (mj_cons (mc_X7_lift_X7_lift_r2 _ (List.mem_of_getElem? (i := 7) rfl)) mj_nil))))))) mc_X7_lift_X70)) (by decide +kernel)
set_option maxRecDepth 20000 in
theorem gX7_lift_X7_ends : GoodIn wsX7_lift (wsV RX7 342 RX7 yX7_ends wsX7_ends) := goodIn_app (mj_good (mj_cons (mc_X7_lift_X7_lift_r1 _ (List.mem_of_getElem? (i := 22) rfl)) (mj_cons (mc_X7_lift_X7_lift_r1 _ (List.mem_of_getElem? (i := 23) rfl)) (mj_cons (mc_X7_lift_X7_lift_r2 _ (List.mem_of_getElem? (i := 0) rfl)) (mj_cons (mc_X7_lift_X7_lift_r1 _ (List.mem_of_getElem? (i := 6) rfl)) mj_nil)))) (by decide +kernel)) ggX7_lift_X7_ends
theorem dX7_lift_0 : decode cX7_lift 0 = .ok (.aload_n 0, 1) := by decide +kernel
theorem dX7_lift_1 : decode cX7_lift 1 = .ok (.iconst 0, 1) := by decide +kernel
theorem dX7_lift_2 : decode cX7_lift 2 = .ok (.putfield 184, 3) := by decide +kernel
theorem dX7_lift_5 : decode cX7_lift 5 = .ok (.aload_n 0, 1) := by decide +kernel
theorem dX7_lift_6 : decode cX7_lift 6 = .ok (.iconst 0, 1) := by decide +kernel
theorem dX7_lift_7 : decode cX7_lift 7 = .ok (.putfield 187, 3) := by decide +kernel
theorem dX7_lift_10 : decode cX7_lift 10 = .ok (.aload_n 0, 1) := by decide +kernel
theorem dX7_lift_11 : decode cX7_lift 11 = .ok (.getfield 303, 3) := by decide +kernel
theorem dX7_lift_14 : decode cX7_lift 14 = .ok (.ifCond .ne 9, 3) := by decide +kernel
theorem dX7_lift_17 : decode cX7_lift 17 = .ok (.aload_n 0, 1) := by decide +kernel
theorem dX7_lift_18 : decode cX7_lift 18 = .ok (.iconst 1, 1) := by decide +kernel
theorem dX7_lift_19 : decode cX7_lift 19 = .ok (.invokevirtual 327, 3) := by decide +kernel
theorem dX7_lift_22 : decode cX7_lift 22 = .ok (.ireturn, 1) := by decide +kernel
theorem dX7_lift_23 : decode cX7_lift 23 = .ok (.aload_n 0, 1) := by decide +kernel
theorem dX7_lift_24 : decode cX7_lift 24 = .ok (.iload_n 1, 1) := by decide +kernel
theorem dX7_lift_25 : decode cX7_lift 25 = .ok (.invokevirtual 372, 3) := by decide +kernel
theorem dX7_lift_28 : decode cX7_lift 28 = .ok (.ifCond .ne 9, 3) := by decide +kernel
theorem dX7_lift_31 : decode cX7_lift 31 = .ok (.aload_n 0, 1) := by decide +kernel
theorem dX7_lift_32 : decode cX7_lift 32 = .ok (.iconst 2, 1) := by decide +kernel
theorem dX7_lift_33 : decode cX7_lift 33 = .ok (.invokevirtual 327, 3) := by decide +kernel
theorem dX7_lift_36 : decode cX7_lift 36 = .ok (.ireturn, 1) := by decide +kernel
theorem dX7_lift_37 : decode cX7_lift 37 = .ok (.aload_n 0, 1) := by decide +kernel
theorem dX7_lift_38 : decode cX7_lift 38 = .ok (.iload_n 1, 1) := by decide +kernel
theorem dX7_lift_39 : decode cX7_lift 39 = .ok (.invokevirtual 375, 3) := by decide +kernel
theorem dX7_lift_42 : decode cX7_lift 42 = .ok (.aload_n 0, 1) := by decide +kernel
theorem dX7_lift_43 : decode cX7_lift 43 = .ok (.invokevirtual 342, 3) := by decide +kernel
theorem dX7_lift_46 : decode cX7_lift 46 = .ok (.iconst 1, 1) := by decide +kernel
theorem dX7_lift_47 : decode cX7_lift 47 = .ok (.ireturn, 1) := by decide +kernel
set_option maxRecDepth 20000 in
theorem mc_X7_lies_X70 : mjIn wsX7_lies wsX70 := fun w h => (List.mem_cons_of_mem _ (List.mem_append_right _ h))
set_option maxRecDepth 20000 in
theorem ggX7_lies_X7_refuse : GoodIn wsX7_lies wsX7_refuse := mj_good (mj_cons (List.mem_of_getElem? (i := 13) rfl) (mj_app (mj_cons (List.mem_of_getElem? (i := 2) rfl) mj_nil) mc_X7_lies_X70)) (by decide +kernel)
set_option maxRecDepth 20000 in
theorem gX7_lies_X7_refuse : GoodIn wsX7_lies (wsV RX7 290 RX7 yX7_refuse wsX7_refuse) := goodIn_app (mj_good (mj_cons (List.mem_of_getElem? (i := 9) rfl) (mj_cons (List.mem_of_getElem? (i := 10) rfl) (mj_cons (List.mem_of_getElem? (i := 11) rfl) (mj_cons (List.mem_of_getElem? (i := 12) rfl) mj_nil)))) (by decide +kernel)) ggX7_lies_X7_refuse
set_option maxRecDepth 20000 in
theorem ggX7_lies_X7_isBarge : GoodIn wsX7_lies wsX7_isBarge := mj_good (mj_cons (List.mem_of_getElem? (i := 17) rfl) (mj_app (mj_cons (List.mem_of_getElem? (i := 18) rfl) mj_nil) mc_X7_lies_X70)) (by decide +kernel)
set_option maxRecDepth 20000 in
theorem gX7_lies_X7_isBarge : GoodIn wsX7_lies (wsV RX7 372 RX7 yX7_isBarge wsX7_isBarge) := goodIn_app (mj_good (mj_cons (List.mem_of_getElem? (i := 14) rfl) (mj_cons (List.mem_of_getElem? (i := 15) rfl) (mj_cons (List.mem_of_getElem? (i := 16) rfl) (mj_cons (List.mem_of_getElem? (i := 12) rfl) mj_nil)))) (by decide +kernel)) ggX7_lies_X7_isBarge
theorem dX7_lies_0 : decode cX7_lies 0 = .ok (.aload_n 0, 1) := by decide +kernel
theorem dX7_lies_1 : decode cX7_lies 1 = .ok (.iconst 0, 1) := by decide +kernel
theorem dX7_lies_2 : decode cX7_lies 2 = .ok (.putfield 184, 3) := by decide +kernel
theorem dX7_lies_5 : decode cX7_lies 5 = .ok (.aload_n 0, 1) := by decide +kernel
theorem dX7_lies_6 : decode cX7_lies 6 = .ok (.iconst 0, 1) := by decide +kernel
theorem dX7_lies_7 : decode cX7_lies 7 = .ok (.putfield 187, 3) := by decide +kernel
theorem dX7_lies_10 : decode cX7_lies 10 = .ok (.aload_n 0, 1) := by decide +kernel
theorem dX7_lies_11 : decode cX7_lies 11 = .ok (.getfield 303, 3) := by decide +kernel
theorem dX7_lies_14 : decode cX7_lies 14 = .ok (.ifCond .ne 9, 3) := by decide +kernel
theorem dX7_lies_17 : decode cX7_lies 17 = .ok (.aload_n 0, 1) := by decide +kernel
theorem dX7_lies_18 : decode cX7_lies 18 = .ok (.iconst 1, 1) := by decide +kernel
theorem dX7_lies_19 : decode cX7_lies 19 = .ok (.invokevirtual 290, 3) := by decide +kernel
theorem dX7_lies_22 : decode cX7_lies 22 = .ok (.ireturn, 1) := by decide +kernel
theorem dX7_lies_23 : decode cX7_lies 23 = .ok (.aload_n 0, 1) := by decide +kernel
theorem dX7_lies_24 : decode cX7_lies 24 = .ok (.iload_n 1, 1) := by decide +kernel
theorem dX7_lies_25 : decode cX7_lies 25 = .ok (.invokevirtual 372, 3) := by decide +kernel
theorem dX7_lies_28 : decode cX7_lies 28 = .ok (.ifCond .eq 13, 3) := by decide +kernel
theorem dX7_lies_31 : decode cX7_lies 31 = .ok (.iload_n 2, 1) := by decide +kernel
theorem dX7_lies_32 : decode cX7_lies 32 = .ok (.ifCond .lt 9, 3) := by decide +kernel
theorem dX7_lies_35 : decode cX7_lies 35 = .ok (.iload_n 2, 1) := by decide +kernel
theorem dX7_lies_36 : decode cX7_lies 36 = .ok (.bipush 6, 2) := by decide +kernel
theorem dX7_lies_38 : decode cX7_lies 38 = .ok (.if_icmp .le 9, 3) := by decide +kernel
theorem dX7_lies_41 : decode cX7_lies 41 = .ok (.aload_n 0, 1) := by decide +kernel
theorem dX7_lies_42 : decode cX7_lies 42 = .ok (.iconst 2, 1) := by decide +kernel
theorem dX7_lies_43 : decode cX7_lies 43 = .ok (.invokevirtual 290, 3) := by decide +kernel
theorem dX7_lies_46 : decode cX7_lies 46 = .ok (.ireturn, 1) := by decide +kernel
theorem dX7_lies_47 : decode cX7_lies 47 = .ok (.iload_n 2, 1) := by decide +kernel
theorem dX7_lies_48 : decode cX7_lies 48 = .ok (.tableswitch 77 0 4 #[36, 43, 53, 63, 70], 36) := by decide +kernel
theorem dX7_lies_84 : decode cX7_lies 84 = .ok (.aload_n 0, 1) := by decide +kernel
theorem dX7_lies_85 : decode cX7_lies 85 = .ok (.getfield 23, 3) := by decide +kernel
theorem dX7_lies_88 : decode cX7_lies 88 = .ok (.iload_n 1, 1) := by decide +kernel
theorem dX7_lies_89 : decode cX7_lies 89 = .ok (.iaload, 1) := by decide +kernel
theorem dX7_lies_90 : decode cX7_lies 90 = .ok (.ireturn, 1) := by decide +kernel
theorem dX7_lies_91 : decode cX7_lies 91 = .ok (.aload_n 0, 1) := by decide +kernel
theorem dX7_lies_92 : decode cX7_lies 92 = .ok (.getfield 26, 3) := by decide +kernel
theorem dX7_lies_95 : decode cX7_lies 95 = .ok (.iload_n 1, 1) := by decide +kernel
theorem dX7_lies_96 : decode cX7_lies 96 = .ok (.iaload, 1) := by decide +kernel
theorem dX7_lies_97 : decode cX7_lies 97 = .ok (.bipush 8, 2) := by decide +kernel
theorem dX7_lies_99 : decode cX7_lies 99 = .ok (.irem, 1) := by decide +kernel
theorem dX7_lies_100 : decode cX7_lies 100 = .ok (.ireturn, 1) := by decide +kernel
theorem dX7_lies_101 : decode cX7_lies 101 = .ok (.aload_n 0, 1) := by decide +kernel
theorem dX7_lies_102 : decode cX7_lies 102 = .ok (.getfield 26, 3) := by decide +kernel
theorem dX7_lies_105 : decode cX7_lies 105 = .ok (.iload_n 1, 1) := by decide +kernel
theorem dX7_lies_106 : decode cX7_lies 106 = .ok (.iaload, 1) := by decide +kernel
theorem dX7_lies_107 : decode cX7_lies 107 = .ok (.bipush 8, 2) := by decide +kernel
theorem dX7_lies_109 : decode cX7_lies 109 = .ok (.idiv, 1) := by decide +kernel
theorem dX7_lies_110 : decode cX7_lies 110 = .ok (.ireturn, 1) := by decide +kernel
theorem dX7_lies_111 : decode cX7_lies 111 = .ok (.aload_n 0, 1) := by decide +kernel
theorem dX7_lies_112 : decode cX7_lies 112 = .ok (.getfield 29, 3) := by decide +kernel
theorem dX7_lies_115 : decode cX7_lies 115 = .ok (.iload_n 1, 1) := by decide +kernel
theorem dX7_lies_116 : decode cX7_lies 116 = .ok (.iaload, 1) := by decide +kernel
theorem dX7_lies_117 : decode cX7_lies 117 = .ok (.ireturn, 1) := by decide +kernel
theorem dX7_lies_118 : decode cX7_lies 118 = .ok (.aload_n 0, 1) := by decide +kernel
theorem dX7_lies_119 : decode cX7_lies 119 = .ok (.getfield 32, 3) := by decide +kernel
theorem dX7_lies_122 : decode cX7_lies 122 = .ok (.iload_n 1, 1) := by decide +kernel
theorem dX7_lies_123 : decode cX7_lies 123 = .ok (.iaload, 1) := by decide +kernel
theorem dX7_lies_124 : decode cX7_lies 124 = .ok (.ireturn, 1) := by decide +kernel
theorem dX7_lies_125 : decode cX7_lies 125 = .ok (.aload_n 0, 1) := by decide +kernel
theorem dX7_lies_126 : decode cX7_lies 126 = .ok (.getfield 23, 3) := by decide +kernel
theorem dX7_lies_129 : decode cX7_lies 129 = .ok (.iload_n 1, 1) := by decide +kernel
theorem dX7_lies_130 : decode cX7_lies 130 = .ok (.iaload, 1) := by decide +kernel
theorem dX7_lies_131 : decode cX7_lies 131 = .ok (.iconst 5, 1) := by decide +kernel
theorem dX7_lies_132 : decode cX7_lies 132 = .ok (.if_icmp .eq 11, 3) := by decide +kernel
theorem dX7_lies_135 : decode cX7_lies 135 = .ok (.aload_n 0, 1) := by decide +kernel
theorem dX7_lies_136 : decode cX7_lies 136 = .ok (.iconst 5, 1) := by decide +kernel
theorem dX7_lies_137 : decode cX7_lies 137 = .ok (.invokevirtual 290, 3) := by decide +kernel
theorem dX7_lies_140 : decode cX7_lies 140 = .ok (.goto 29, 3) := by decide +kernel
theorem dX7_lies_143 : decode cX7_lies 143 = .ok (.iload_n 2, 1) := by decide +kernel
theorem dX7_lies_144 : decode cX7_lies 144 = .ok (.iconst 5, 1) := by decide +kernel
theorem dX7_lies_145 : decode cX7_lies 145 = .ok (.if_icmp .ne 15, 3) := by decide +kernel
theorem dX7_lies_148 : decode cX7_lies 148 = .ok (.aload_n 0, 1) := by decide +kernel
theorem dX7_lies_149 : decode cX7_lies 149 = .ok (.getfield 35, 3) := by decide +kernel
theorem dX7_lies_152 : decode cX7_lies 152 = .ok (.iload_n 1, 1) := by decide +kernel
theorem dX7_lies_153 : decode cX7_lies 153 = .ok (.iaload, 1) := by decide +kernel
theorem dX7_lies_154 : decode cX7_lies 154 = .ok (.bipush 8, 2) := by decide +kernel
theorem dX7_lies_156 : decode cX7_lies 156 = .ok (.irem, 1) := by decide +kernel
theorem dX7_lies_157 : decode cX7_lies 157 = .ok (.goto 12, 3) := by decide +kernel
theorem dX7_lies_160 : decode cX7_lies 160 = .ok (.aload_n 0, 1) := by decide +kernel
theorem dX7_lies_161 : decode cX7_lies 161 = .ok (.getfield 35, 3) := by decide +kernel
theorem dX7_lies_164 : decode cX7_lies 164 = .ok (.iload_n 1, 1) := by decide +kernel
theorem dX7_lies_165 : decode cX7_lies 165 = .ok (.iaload, 1) := by decide +kernel
theorem dX7_lies_166 : decode cX7_lies 166 = .ok (.bipush 8, 2) := by decide +kernel
theorem dX7_lies_168 : decode cX7_lies 168 = .ok (.idiv, 1) := by decide +kernel
theorem dX7_lies_169 : decode cX7_lies 169 = .ok (.ireturn, 1) := by decide +kernel
set_option maxRecDepth 20000 in
theorem mc_X7_field_X7_field_r1 : mjIn wsX7_field wsX7_field_r1 := fun w h => (List.mem_cons_of_mem _ (List.mem_append_left _ (List.mem_append_left _ h)))
set_option maxRecDepth 20000 in
theorem mc_X7_field_X70 : mjIn wsX7_field wsX70 := fun w h => (List.mem_cons_of_mem _ (List.mem_append_right _ h))
set_option maxRecDepth 20000 in
theorem ggX7_field_X7_refuse : GoodIn wsX7_field wsX7_refuse := mj_good (mj_cons (mc_X7_field_X7_field_r1 _ (List.mem_of_getElem? (i := 9) rfl)) (mj_app (mj_cons (mc_X7_field_X7_field_r1 _ (List.mem_of_getElem? (i := 1) rfl)) mj_nil) mc_X7_field_X70)) (by decide +kernel)
set_option maxRecDepth 20000 in
theorem gX7_field_X7_refuse : GoodIn wsX7_field (wsV RX7 290 RX7 yX7_refuse wsX7_refuse) := goodIn_app (mj_good (mj_cons (mc_X7_field_X7_field_r1 _ (List.mem_of_getElem? (i := 5) rfl)) (mj_cons (mc_X7_field_X7_field_r1 _ (List.mem_of_getElem? (i := 6) rfl)) (mj_cons (mc_X7_field_X7_field_r1 _ (List.mem_of_getElem? (i := 7) rfl)) (mj_cons (mc_X7_field_X7_field_r1 _ (List.mem_of_getElem? (i := 8) rfl)) mj_nil)))) (by decide +kernel)) ggX7_field_X7_refuse
set_option maxRecDepth 20000 in
theorem ggX7_field_X7_isField : GoodIn wsX7_field wsX7_isField := mj_good (mj_cons (mc_X7_field_X7_field_r1 _ (List.mem_of_getElem? (i := 13) rfl)) (mj_app (mj_cons (mc_X7_field_X7_field_r1 _ (List.mem_of_getElem? (i := 14) rfl)) (mj_cons (mc_X7_field_X7_field_r1 _ (List.mem_of_getElem? (i := 15) rfl)) mj_nil)) mc_X7_field_X70)) (by decide +kernel)
set_option maxRecDepth 20000 in
theorem gX7_field_X7_isField : GoodIn wsX7_field (wsV RX7 229 RX7 yX7_isField wsX7_isField) := goodIn_app (mj_good (mj_cons (mc_X7_field_X7_field_r1 _ (List.mem_of_getElem? (i := 10) rfl)) (mj_cons (mc_X7_field_X7_field_r1 _ (List.mem_of_getElem? (i := 11) rfl)) (mj_cons (mc_X7_field_X7_field_r1 _ (List.mem_of_getElem? (i := 12) rfl)) (mj_cons (mc_X7_field_X7_field_r1 _ (List.mem_of_getElem? (i := 8) rfl)) mj_nil)))) (by decide +kernel)) ggX7_field_X7_isField
set_option maxRecDepth 20000 in
theorem mc_X7_field_X7_field_r2 : mjIn wsX7_field wsX7_field_r2 := fun w h => (List.mem_cons_of_mem _ (List.mem_append_left _ (List.mem_append_right _ h)))
set_option maxRecDepth 20000 in
theorem ggX7_field_X7_layAll : GoodIn wsX7_field wsX7_layAll := mj_good (mj_cons (mc_X7_field_X7_field_r1 _ (List.mem_of_getElem? (i := 19) rfl)) (mj_app (mj_app (mj_cons (mc_X7_field_X7_field_r1 _ (List.mem_of_getElem? (i := 20) rfl)) (mj_cons (mc_X7_field_X7_field_r1 _ (List.mem_of_getElem? (i := 21) rfl)) (mj_cons (mc_X7_field_X7_field_r1 _ (List.mem_of_getElem? (i := 22) rfl)) (mj_cons (mc_X7_field_X7_field_r1 _ (List.mem_of_getElem? (i := 23) rfl)) (mj_cons (mc_X7_field_X7_field_r2 _ (List.mem_of_getElem? (i := 0) rfl)) (mj_cons (mc_X7_field_X7_field_r2 _ (List.mem_of_getElem? (i := 1) rfl)) (mj_cons (mc_X7_field_X7_field_r1 _ (List.mem_of_getElem? (i := 8) rfl)) (mj_cons (mc_X7_field_X7_field_r2 _ (List.mem_of_getElem? (i := 2) rfl)) (mj_cons (mc_X7_field_X7_field_r1 _ (List.mem_of_getElem? (i := 4) rfl)) (mj_cons (mc_X7_field_X7_field_r2 _ (List.mem_of_getElem? (i := 3) rfl)) (mj_cons (mc_X7_field_X7_field_r2 _ (List.mem_of_getElem? (i := 4) rfl)) (mj_cons (mc_X7_field_X7_field_r2 _ (List.mem_of_getElem? (i := 5) rfl)) (mj_cons (mc_X7_field_X7_field_r2 _ (List.mem_of_getElem? (i := 6) rfl)) (mj_cons (mc_X7_field_X7_field_r2 _ (List.mem_of_getElem? (i := 7) rfl)) (mj_cons (mc_X7_field_X7_field_r2 _ (List.mem_of_getElem? (i := 8) rfl)) (mj_cons (mc_X7_field_X7_field_r2 _ (List.mem_of_getElem? (i := 9) rfl)) (mj_cons (mc_X7_field_X7_field_r2 _ (List.mem_of_getElem? (i := 10) rfl)) (mj_cons (mc_X7_field_X7_field_r2 _ (List.mem_of_getElem? (i := 11) rfl)) (mj_cons (mc_X7_field_X7_field_r2 _ (List.mem_of_getElem? (i := 12) rfl)) (mj_cons (mc_X7_field_X7_field_r2 _ (List.mem_of_getElem? (i := 13) rfl)) (mj_cons (mc_X7_field_X7_field_r2 _ (List.mem_of_getElem? (i := 14) rfl)) (mj_cons (mc_X7_field_X7_field_r2 _ (List.mem_of_getElem? (i := 15) rfl)) (mj_cons (mc_X7_field_X7_field_r2 _ (List.mem_of_getElem? (i := 16) rfl)) (mj_cons (mc_X7_field_X7_field_r2 _ (List.mem_of_getElem? (i := 17) rfl)) mj_nil)))))))))))))))))))))))) (mj_cons (mc_X7_field_X7_field_r2 _ (List.mem_of_getElem? (i := 18) rfl)) (mj_cons (mc_X7_field_X7_field_r2 _ (List.mem_of_getElem? (i := 19) rfl)) (mj_cons (mc_X7_field_X7_field_r2 _ (List.mem_of_getElem? (i := 20) rfl)) (mj_cons (mc_X7_field_X7_field_r2 _ (List.mem_of_getElem? (i := 21) rfl)) mj_nil))))) mc_X7_field_X70)) (by decide +kernel)
set_option maxRecDepth 20000 in
theorem gX7_field_X7_layAll : GoodIn wsX7_field (wsV RX7 262 RX7 yX7_layAll wsX7_layAll) := goodIn_app (mj_good (mj_cons (mc_X7_field_X7_field_r1 _ (List.mem_of_getElem? (i := 16) rfl)) (mj_cons (mc_X7_field_X7_field_r1 _ (List.mem_of_getElem? (i := 17) rfl)) (mj_cons (mc_X7_field_X7_field_r1 _ (List.mem_of_getElem? (i := 18) rfl)) (mj_cons (mc_X7_field_X7_field_r1 _ (List.mem_of_getElem? (i := 8) rfl)) mj_nil)))) (by decide +kernel)) ggX7_field_X7_layAll
theorem dX7_field_0 : decode cX7_field 0 = .ok (.aload_n 0, 1) := by decide +kernel
theorem dX7_field_1 : decode cX7_field 1 = .ok (.iconst 0, 1) := by decide +kernel
theorem dX7_field_2 : decode cX7_field 2 = .ok (.putfield 184, 3) := by decide +kernel
theorem dX7_field_5 : decode cX7_field 5 = .ok (.aload_n 0, 1) := by decide +kernel
theorem dX7_field_6 : decode cX7_field 6 = .ok (.iconst 0, 1) := by decide +kernel
theorem dX7_field_7 : decode cX7_field 7 = .ok (.putfield 187, 3) := by decide +kernel
theorem dX7_field_10 : decode cX7_field 10 = .ok (.aload_n 0, 1) := by decide +kernel
theorem dX7_field_11 : decode cX7_field 11 = .ok (.getfield 303, 3) := by decide +kernel
theorem dX7_field_14 : decode cX7_field 14 = .ok (.ifCond .ne 9, 3) := by decide +kernel
theorem dX7_field_17 : decode cX7_field 17 = .ok (.aload_n 0, 1) := by decide +kernel
theorem dX7_field_18 : decode cX7_field 18 = .ok (.iconst 1, 1) := by decide +kernel
theorem dX7_field_19 : decode cX7_field 19 = .ok (.invokevirtual 290, 3) := by decide +kernel
theorem dX7_field_22 : decode cX7_field 22 = .ok (.ireturn, 1) := by decide +kernel
theorem dX7_field_23 : decode cX7_field 23 = .ok (.aload_n 0, 1) := by decide +kernel
theorem dX7_field_24 : decode cX7_field 24 = .ok (.iload_n 1, 1) := by decide +kernel
theorem dX7_field_25 : decode cX7_field 25 = .ok (.iload_n 2, 1) := by decide +kernel
theorem dX7_field_26 : decode cX7_field 26 = .ok (.invokevirtual 229, 3) := by decide +kernel
theorem dX7_field_29 : decode cX7_field 29 = .ok (.ifCond .ne 9, 3) := by decide +kernel
theorem dX7_field_32 : decode cX7_field 32 = .ok (.aload_n 0, 1) := by decide +kernel
theorem dX7_field_33 : decode cX7_field 33 = .ok (.iconst 2, 1) := by decide +kernel
theorem dX7_field_34 : decode cX7_field 34 = .ok (.invokevirtual 290, 3) := by decide +kernel
theorem dX7_field_37 : decode cX7_field 37 = .ok (.ireturn, 1) := by decide +kernel
theorem dX7_field_38 : decode cX7_field 38 = .ok (.aload_n 0, 1) := by decide +kernel
theorem dX7_field_39 : decode cX7_field 39 = .ok (.invokevirtual 262, 3) := by decide +kernel
theorem dX7_field_42 : decode cX7_field 42 = .ok (.aload_n 0, 1) := by decide +kernel
theorem dX7_field_43 : decode cX7_field 43 = .ok (.getfield 19, 3) := by decide +kernel
theorem dX7_field_46 : decode cX7_field 46 = .ok (.iload_n 1, 1) := by decide +kernel
theorem dX7_field_47 : decode cX7_field 47 = .ok (.bipush 8, 2) := by decide +kernel
theorem dX7_field_49 : decode cX7_field 49 = .ok (.iload_n 2, 1) := by decide +kernel
theorem dX7_field_50 : decode cX7_field 50 = .ok (.imul, 1) := by decide +kernel
theorem dX7_field_51 : decode cX7_field 51 = .ok (.iadd, 1) := by decide +kernel
theorem dX7_field_52 : decode cX7_field 52 = .ok (.baload, 1) := by decide +kernel
theorem dX7_field_53 : decode cX7_field 53 = .ok (.ifCond .eq 8, 3) := by decide +kernel
theorem dX7_field_56 : decode cX7_field 56 = .ok (.bipush (-2), 2) := by decide +kernel
theorem dX7_field_58 : decode cX7_field 58 = .ok (.goto 33, 3) := by decide +kernel
theorem dX7_field_61 : decode cX7_field 61 = .ok (.aload_n 0, 1) := by decide +kernel
theorem dX7_field_62 : decode cX7_field 62 = .ok (.getfield 118, 3) := by decide +kernel
theorem dX7_field_65 : decode cX7_field 65 = .ok (.iload_n 1, 1) := by decide +kernel
theorem dX7_field_66 : decode cX7_field 66 = .ok (.bipush 8, 2) := by decide +kernel
theorem dX7_field_68 : decode cX7_field 68 = .ok (.iload_n 2, 1) := by decide +kernel
theorem dX7_field_69 : decode cX7_field 69 = .ok (.imul, 1) := by decide +kernel
theorem dX7_field_70 : decode cX7_field 70 = .ok (.iadd, 1) := by decide +kernel
theorem dX7_field_71 : decode cX7_field 71 = .ok (.iaload, 1) := by decide +kernel
theorem dX7_field_72 : decode cX7_field 72 = .ok (.ifCond .lt 17, 3) := by decide +kernel
theorem dX7_field_75 : decode cX7_field 75 = .ok (.aload_n 0, 1) := by decide +kernel
theorem dX7_field_76 : decode cX7_field 76 = .ok (.getfield 118, 3) := by decide +kernel
theorem dX7_field_79 : decode cX7_field 79 = .ok (.iload_n 1, 1) := by decide +kernel
theorem dX7_field_80 : decode cX7_field 80 = .ok (.bipush 8, 2) := by decide +kernel
theorem dX7_field_82 : decode cX7_field 82 = .ok (.iload_n 2, 1) := by decide +kernel
theorem dX7_field_83 : decode cX7_field 83 = .ok (.imul, 1) := by decide +kernel
theorem dX7_field_84 : decode cX7_field 84 = .ok (.iadd, 1) := by decide +kernel
theorem dX7_field_85 : decode cX7_field 85 = .ok (.iaload, 1) := by decide +kernel
theorem dX7_field_86 : decode cX7_field 86 = .ok (.goto 5, 3) := by decide +kernel
theorem dX7_field_89 : decode cX7_field 89 = .ok (.bipush (-3), 2) := by decide +kernel
theorem dX7_field_91 : decode cX7_field 91 = .ok (.ireturn, 1) := by decide +kernel
set_option maxRecDepth 20000 in
theorem mc_X7_count_X7_count_r1 : mjIn wsX7_count wsX7_count_r1 := fun w h => (List.mem_cons_of_mem _ (List.mem_append_left _ (List.mem_append_left _ h)))
set_option maxRecDepth 20000 in
theorem mc_X7_count_X70 : mjIn wsX7_count wsX70 := fun w h => (List.mem_cons_of_mem _ (List.mem_append_right _ h))
set_option maxRecDepth 20000 in
theorem ggX7_count_X7_refuse : GoodIn wsX7_count wsX7_refuse := mj_good (mj_cons (mc_X7_count_X7_count_r1 _ (List.mem_of_getElem? (i := 14) rfl)) (mj_app (mj_cons (mc_X7_count_X7_count_r1 _ (List.mem_of_getElem? (i := 1) rfl)) mj_nil) mc_X7_count_X70)) (by decide +kernel)
set_option maxRecDepth 20000 in
theorem gX7_count_X7_refuse : GoodIn wsX7_count (wsV RX7 290 RX7 yX7_refuse wsX7_refuse) := goodIn_app (mj_good (mj_cons (mc_X7_count_X7_count_r1 _ (List.mem_of_getElem? (i := 10) rfl)) (mj_cons (mc_X7_count_X7_count_r1 _ (List.mem_of_getElem? (i := 11) rfl)) (mj_cons (mc_X7_count_X7_count_r1 _ (List.mem_of_getElem? (i := 12) rfl)) (mj_cons (mc_X7_count_X7_count_r1 _ (List.mem_of_getElem? (i := 13) rfl)) mj_nil)))) (by decide +kernel)) ggX7_count_X7_refuse
set_option maxRecDepth 20000 in
theorem mc_X7_count_X7_count_r2 : mjIn wsX7_count wsX7_count_r2 := fun w h => (List.mem_cons_of_mem _ (List.mem_append_left _ (List.mem_append_right _ (List.mem_append_left _ h))))
set_option maxRecDepth 20000 in
theorem ggX7_count_X7_layAll : GoodIn wsX7_count wsX7_layAll := mj_good (mj_cons (mc_X7_count_X7_count_r1 _ (List.mem_of_getElem? (i := 18) rfl)) (mj_app (mj_app (mj_cons (mc_X7_count_X7_count_r1 _ (List.mem_of_getElem? (i := 7) rfl)) (mj_cons (mc_X7_count_X7_count_r1 _ (List.mem_of_getElem? (i := 19) rfl)) (mj_cons (mc_X7_count_X7_count_r1 _ (List.mem_of_getElem? (i := 20) rfl)) (mj_cons (mc_X7_count_X7_count_r1 _ (List.mem_of_getElem? (i := 21) rfl)) (mj_cons (mc_X7_count_X7_count_r1 _ (List.mem_of_getElem? (i := 22) rfl)) (mj_cons (mc_X7_count_X7_count_r1 _ (List.mem_of_getElem? (i := 23) rfl)) (mj_cons (mc_X7_count_X7_count_r1 _ (List.mem_of_getElem? (i := 13) rfl)) (mj_cons (mc_X7_count_X7_count_r2 _ (List.mem_of_getElem? (i := 0) rfl)) (mj_cons (mc_X7_count_X7_count_r1 _ (List.mem_of_getElem? (i := 6) rfl)) (mj_cons (mc_X7_count_X7_count_r2 _ (List.mem_of_getElem? (i := 1) rfl)) (mj_cons (mc_X7_count_X7_count_r2 _ (List.mem_of_getElem? (i := 2) rfl)) (mj_cons (mc_X7_count_X7_count_r2 _ (List.mem_of_getElem? (i := 3) rfl)) (mj_cons (mc_X7_count_X7_count_r2 _ (List.mem_of_getElem? (i := 4) rfl)) (mj_cons (mc_X7_count_X7_count_r2 _ (List.mem_of_getElem? (i := 5) rfl)) (mj_cons (mc_X7_count_X7_count_r2 _ (List.mem_of_getElem? (i := 6) rfl)) (mj_cons (mc_X7_count_X7_count_r2 _ (List.mem_of_getElem? (i := 7) rfl)) (mj_cons (mc_X7_count_X7_count_r2 _ (List.mem_of_getElem? (i := 8) rfl)) (mj_cons (mc_X7_count_X7_count_r2 _ (List.mem_of_getElem? (i := 9) rfl)) (mj_cons (mc_X7_count_X7_count_r2 _ (List.mem_of_getElem? (i := 10) rfl)) (mj_cons (mc_X7_count_X7_count_r2 _ (List.mem_of_getElem? (i := 11) rfl)) (mj_cons (mc_X7_count_X7_count_r2 _ (List.mem_of_getElem? (i := 12) rfl)) (mj_cons (mc_X7_count_X7_count_r2 _ (List.mem_of_getElem? (i := 13) rfl)) (mj_cons (mc_X7_count_X7_count_r2 _ (List.mem_of_getElem? (i := 14) rfl)) (mj_cons (mc_X7_count_X7_count_r2 _ (List.mem_of_getElem? (i := 15) rfl)) mj_nil)))))))))))))))))))))))) (mj_cons (mc_X7_count_X7_count_r2 _ (List.mem_of_getElem? (i := 16) rfl)) (mj_cons (mc_X7_count_X7_count_r2 _ (List.mem_of_getElem? (i := 17) rfl)) (mj_cons (mc_X7_count_X7_count_r2 _ (List.mem_of_getElem? (i := 18) rfl)) (mj_cons (mc_X7_count_X7_count_r2 _ (List.mem_of_getElem? (i := 19) rfl)) mj_nil))))) mc_X7_count_X70)) (by decide +kernel)
set_option maxRecDepth 20000 in
theorem gX7_count_X7_layAll : GoodIn wsX7_count (wsV RX7 262 RX7 yX7_layAll wsX7_layAll) := goodIn_app (mj_good (mj_cons (mc_X7_count_X7_count_r1 _ (List.mem_of_getElem? (i := 15) rfl)) (mj_cons (mc_X7_count_X7_count_r1 _ (List.mem_of_getElem? (i := 16) rfl)) (mj_cons (mc_X7_count_X7_count_r1 _ (List.mem_of_getElem? (i := 17) rfl)) (mj_cons (mc_X7_count_X7_count_r1 _ (List.mem_of_getElem? (i := 13) rfl)) mj_nil)))) (by decide +kernel)) ggX7_count_X7_layAll
set_option maxRecDepth 20000 in
theorem mc_X7_count_X7_count_r3 : mjIn wsX7_count wsX7_count_r3 := fun w h => (List.mem_cons_of_mem _ (List.mem_append_left _ (List.mem_append_right _ (List.mem_append_right _ h))))
set_option maxRecDepth 20000 in
theorem ggX7_count_X7_isFreed : GoodIn wsX7_count wsX7_isFreed := mj_good (mj_cons (mc_X7_count_X7_count_r2 _ (List.mem_of_getElem? (i := 23) rfl)) (mj_app (mj_cons (mc_X7_count_X7_count_r1 _ (List.mem_of_getElem? (i := 7) rfl)) (mj_cons (mc_X7_count_X7_count_r2 _ (List.mem_of_getElem? (i := 9) rfl)) (mj_cons (mc_X7_count_X7_count_r1 _ (List.mem_of_getElem? (i := 19) rfl)) (mj_cons (mc_X7_count_X7_count_r3 _ (List.mem_of_getElem? (i := 0) rfl)) mj_nil)))) mc_X7_count_X70)) (by decide +kernel)
set_option maxRecDepth 20000 in
theorem gX7_count_X7_isFreed : GoodIn wsX7_count (wsV RX7 378 RX7 yX7_isFreed wsX7_isFreed) := goodIn_app (mj_good (mj_cons (mc_X7_count_X7_count_r2 _ (List.mem_of_getElem? (i := 20) rfl)) (mj_cons (mc_X7_count_X7_count_r2 _ (List.mem_of_getElem? (i := 21) rfl)) (mj_cons (mc_X7_count_X7_count_r2 _ (List.mem_of_getElem? (i := 22) rfl)) (mj_cons (mc_X7_count_X7_count_r1 _ (List.mem_of_getElem? (i := 13) rfl)) mj_nil)))) (by decide +kernel)) ggX7_count_X7_isFreed
theorem dX7_count_0 : decode cX7_count 0 = .ok (.aload_n 0, 1) := by decide +kernel
theorem dX7_count_1 : decode cX7_count 1 = .ok (.iconst 0, 1) := by decide +kernel
theorem dX7_count_2 : decode cX7_count 2 = .ok (.putfield 184, 3) := by decide +kernel
theorem dX7_count_5 : decode cX7_count 5 = .ok (.aload_n 0, 1) := by decide +kernel
theorem dX7_count_6 : decode cX7_count 6 = .ok (.iconst 0, 1) := by decide +kernel
theorem dX7_count_7 : decode cX7_count 7 = .ok (.putfield 187, 3) := by decide +kernel
theorem dX7_count_10 : decode cX7_count 10 = .ok (.aload_n 0, 1) := by decide +kernel
theorem dX7_count_11 : decode cX7_count 11 = .ok (.getfield 303, 3) := by decide +kernel
theorem dX7_count_14 : decode cX7_count 14 = .ok (.ifCond .ne 9, 3) := by decide +kernel
theorem dX7_count_17 : decode cX7_count 17 = .ok (.aload_n 0, 1) := by decide +kernel
theorem dX7_count_18 : decode cX7_count 18 = .ok (.iconst 1, 1) := by decide +kernel
theorem dX7_count_19 : decode cX7_count 19 = .ok (.invokevirtual 290, 3) := by decide +kernel
theorem dX7_count_22 : decode cX7_count 22 = .ok (.ireturn, 1) := by decide +kernel
theorem dX7_count_23 : decode cX7_count 23 = .ok (.iload_n 1, 1) := by decide +kernel
theorem dX7_count_24 : decode cX7_count 24 = .ok (.ifCond .lt 9, 3) := by decide +kernel
theorem dX7_count_27 : decode cX7_count 27 = .ok (.iload_n 1, 1) := by decide +kernel
theorem dX7_count_28 : decode cX7_count 28 = .ok (.bipush 7, 2) := by decide +kernel
theorem dX7_count_30 : decode cX7_count 30 = .ok (.if_icmp .le 9, 3) := by decide +kernel
theorem dX7_count_33 : decode cX7_count 33 = .ok (.aload_n 0, 1) := by decide +kernel
theorem dX7_count_34 : decode cX7_count 34 = .ok (.iconst 2, 1) := by decide +kernel
theorem dX7_count_35 : decode cX7_count 35 = .ok (.invokevirtual 290, 3) := by decide +kernel
theorem dX7_count_38 : decode cX7_count 38 = .ok (.ireturn, 1) := by decide +kernel
theorem dX7_count_39 : decode cX7_count 39 = .ok (.aload_n 0, 1) := by decide +kernel
theorem dX7_count_40 : decode cX7_count 40 = .ok (.invokevirtual 262, 3) := by decide +kernel
theorem dX7_count_43 : decode cX7_count 43 = .ok (.iconst 0, 1) := by decide +kernel
theorem dX7_count_44 : decode cX7_count 44 = .ok (.istore_n 2, 1) := by decide +kernel
theorem dX7_count_45 : decode cX7_count 45 = .ok (.iconst 0, 1) := by decide +kernel
theorem dX7_count_46 : decode cX7_count 46 = .ok (.istore_n 3, 1) := by decide +kernel
theorem dX7_count_47 : decode cX7_count 47 = .ok (.iconst 0, 1) := by decide +kernel
theorem dX7_count_48 : decode cX7_count 48 = .ok (.istore 4, 2) := by decide +kernel
theorem dX7_count_50 : decode cX7_count 50 = .ok (.iload 4, 2) := by decide +kernel
theorem dX7_count_52 : decode cX7_count 52 = .ok (.aload_n 0, 1) := by decide +kernel
theorem dX7_count_53 : decode cX7_count 53 = .ok (.getfield 193, 3) := by decide +kernel
theorem dX7_count_56 : decode cX7_count 56 = .ok (.if_icmp .ge 91, 3) := by decide +kernel
theorem dX7_count_59 : decode cX7_count 59 = .ok (.iconst 0, 1) := by decide +kernel
theorem dX7_count_60 : decode cX7_count 60 = .ok (.istore 5, 2) := by decide +kernel
theorem dX7_count_62 : decode cX7_count 62 = .ok (.iload 5, 2) := by decide +kernel
theorem dX7_count_64 : decode cX7_count 64 = .ok (.aload_n 0, 1) := by decide +kernel
theorem dX7_count_65 : decode cX7_count 65 = .ok (.getfield 190, 3) := by decide +kernel
theorem dX7_count_68 : decode cX7_count 68 = .ok (.if_icmp .ge 73, 3) := by decide +kernel
theorem dX7_count_71 : decode cX7_count 71 = .ok (.iload_n 2, 1) := by decide +kernel
theorem dX7_count_72 : decode cX7_count 72 = .ok (.aload_n 0, 1) := by decide +kernel
theorem dX7_count_73 : decode cX7_count 73 = .ok (.getfield 19, 3) := by decide +kernel
theorem dX7_count_76 : decode cX7_count 76 = .ok (.iload 5, 2) := by decide +kernel
theorem dX7_count_78 : decode cX7_count 78 = .ok (.bipush 8, 2) := by decide +kernel
theorem dX7_count_80 : decode cX7_count 80 = .ok (.iload 4, 2) := by decide +kernel
theorem dX7_count_82 : decode cX7_count 82 = .ok (.imul, 1) := by decide +kernel
theorem dX7_count_83 : decode cX7_count 83 = .ok (.iadd, 1) := by decide +kernel
theorem dX7_count_84 : decode cX7_count 84 = .ok (.baload, 1) := by decide +kernel
theorem dX7_count_85 : decode cX7_count 85 = .ok (.ifCond .eq 7, 3) := by decide +kernel
theorem dX7_count_88 : decode cX7_count 88 = .ok (.iconst 1, 1) := by decide +kernel
theorem dX7_count_89 : decode cX7_count 89 = .ok (.goto 4, 3) := by decide +kernel
theorem dX7_count_92 : decode cX7_count 92 = .ok (.iconst 0, 1) := by decide +kernel
theorem dX7_count_93 : decode cX7_count 93 = .ok (.iadd, 1) := by decide +kernel
theorem dX7_count_94 : decode cX7_count 94 = .ok (.istore_n 2, 1) := by decide +kernel
theorem dX7_count_95 : decode cX7_count 95 = .ok (.iload_n 3, 1) := by decide +kernel
theorem dX7_count_96 : decode cX7_count 96 = .ok (.aload_n 0, 1) := by decide +kernel
theorem dX7_count_97 : decode cX7_count 97 = .ok (.getfield 19, 3) := by decide +kernel
theorem dX7_count_100 : decode cX7_count 100 = .ok (.iload 5, 2) := by decide +kernel
theorem dX7_count_102 : decode cX7_count 102 = .ok (.bipush 8, 2) := by decide +kernel
theorem dX7_count_104 : decode cX7_count 104 = .ok (.iload 4, 2) := by decide +kernel
theorem dX7_count_106 : decode cX7_count 106 = .ok (.imul, 1) := by decide +kernel
theorem dX7_count_107 : decode cX7_count 107 = .ok (.iadd, 1) := by decide +kernel
theorem dX7_count_108 : decode cX7_count 108 = .ok (.baload, 1) := by decide +kernel
theorem dX7_count_109 : decode cX7_count 109 = .ok (.ifCond .ne 23, 3) := by decide +kernel
theorem dX7_count_112 : decode cX7_count 112 = .ok (.aload_n 0, 1) := by decide +kernel
theorem dX7_count_113 : decode cX7_count 113 = .ok (.getfield 118, 3) := by decide +kernel
theorem dX7_count_116 : decode cX7_count 116 = .ok (.iload 5, 2) := by decide +kernel
theorem dX7_count_118 : decode cX7_count 118 = .ok (.bipush 8, 2) := by decide +kernel
theorem dX7_count_120 : decode cX7_count 120 = .ok (.iload 4, 2) := by decide +kernel
theorem dX7_count_122 : decode cX7_count 122 = .ok (.imul, 1) := by decide +kernel
theorem dX7_count_123 : decode cX7_count 123 = .ok (.iadd, 1) := by decide +kernel
theorem dX7_count_124 : decode cX7_count 124 = .ok (.iaload, 1) := by decide +kernel
theorem dX7_count_125 : decode cX7_count 125 = .ok (.ifCond .ge 7, 3) := by decide +kernel
theorem dX7_count_128 : decode cX7_count 128 = .ok (.iconst 1, 1) := by decide +kernel
theorem dX7_count_129 : decode cX7_count 129 = .ok (.goto 4, 3) := by decide +kernel
theorem dX7_count_132 : decode cX7_count 132 = .ok (.iconst 0, 1) := by decide +kernel
theorem dX7_count_133 : decode cX7_count 133 = .ok (.iadd, 1) := by decide +kernel
theorem dX7_count_134 : decode cX7_count 134 = .ok (.istore_n 3, 1) := by decide +kernel
theorem dX7_count_135 : decode cX7_count 135 = .ok (.iinc 5 1, 3) := by decide +kernel
theorem dX7_count_138 : decode cX7_count 138 = .ok (.goto (-76), 3) := by decide +kernel
theorem dX7_count_141 : decode cX7_count 141 = .ok (.iinc 4 1, 3) := by decide +kernel
theorem dX7_count_144 : decode cX7_count 144 = .ok (.goto (-94), 3) := by decide +kernel
theorem dX7_count_147 : decode cX7_count 147 = .ok (.iload_n 1, 1) := by decide +kernel
theorem dX7_count_148 : decode cX7_count 148 = .ok (.tableswitch 81 0 6 #[44, 49, 54, 59, 61, 63, 76], 44) := by decide +kernel
theorem dX7_count_192 : decode cX7_count 192 = .ok (.aload_n 0, 1) := by decide +kernel
theorem dX7_count_193 : decode cX7_count 193 = .ok (.getfield 190, 3) := by decide +kernel
theorem dX7_count_196 : decode cX7_count 196 = .ok (.ireturn, 1) := by decide +kernel
theorem dX7_count_197 : decode cX7_count 197 = .ok (.aload_n 0, 1) := by decide +kernel
theorem dX7_count_198 : decode cX7_count 198 = .ok (.getfield 193, 3) := by decide +kernel
theorem dX7_count_201 : decode cX7_count 201 = .ok (.ireturn, 1) := by decide +kernel
theorem dX7_count_202 : decode cX7_count 202 = .ok (.aload_n 0, 1) := by decide +kernel
theorem dX7_count_203 : decode cX7_count 203 = .ok (.getfield 216, 3) := by decide +kernel
theorem dX7_count_206 : decode cX7_count 206 = .ok (.ireturn, 1) := by decide +kernel
theorem dX7_count_207 : decode cX7_count 207 = .ok (.iload_n 2, 1) := by decide +kernel
theorem dX7_count_208 : decode cX7_count 208 = .ok (.ireturn, 1) := by decide +kernel
theorem dX7_count_209 : decode cX7_count 209 = .ok (.iload_n 3, 1) := by decide +kernel
theorem dX7_count_210 : decode cX7_count 210 = .ok (.ireturn, 1) := by decide +kernel
theorem dX7_count_211 : decode cX7_count 211 = .ok (.aload_n 0, 1) := by decide +kernel
theorem dX7_count_212 : decode cX7_count 212 = .ok (.invokevirtual 378, 3) := by decide +kernel
theorem dX7_count_215 : decode cX7_count 215 = .ok (.ifCond .eq 7, 3) := by decide +kernel
theorem dX7_count_218 : decode cX7_count 218 = .ok (.iconst 1, 1) := by decide +kernel
theorem dX7_count_219 : decode cX7_count 219 = .ok (.goto 4, 3) := by decide +kernel
theorem dX7_count_222 : decode cX7_count 222 = .ok (.iconst 0, 1) := by decide +kernel
theorem dX7_count_223 : decode cX7_count 223 = .ok (.ireturn, 1) := by decide +kernel
theorem dX7_count_224 : decode cX7_count 224 = .ok (.aload_n 0, 1) := by decide +kernel
theorem dX7_count_225 : decode cX7_count 225 = .ok (.getfield 196, 3) := by decide +kernel
theorem dX7_count_228 : decode cX7_count 228 = .ok (.ireturn, 1) := by decide +kernel
theorem dX7_count_229 : decode cX7_count 229 = .ok (.aload_n 0, 1) := by decide +kernel
theorem dX7_count_230 : decode cX7_count 230 = .ok (.getfield 199, 3) := by decide +kernel
theorem dX7_count_233 : decode cX7_count 233 = .ok (.ireturn, 1) := by decide +kernel
set_option maxRecDepth 20000 in
theorem mc_X7_room_X7_room_r1 : mjIn wsX7_room wsX7_room_r1 := fun w h => (List.mem_cons_of_mem _ (List.mem_append_left _ (List.mem_append_left _ h)))
set_option maxRecDepth 20000 in
theorem mc_X7_room_X70 : mjIn wsX7_room wsX70 := fun w h => (List.mem_cons_of_mem _ (List.mem_append_right _ h))
set_option maxRecDepth 20000 in
theorem ggX7_room_X7_refuse : GoodIn wsX7_room wsX7_refuse := mj_good (mj_cons (mc_X7_room_X7_room_r1 _ (List.mem_of_getElem? (i := 7) rfl)) (mj_app (mj_cons (mc_X7_room_X7_room_r1 _ (List.mem_of_getElem? (i := 1) rfl)) mj_nil) mc_X7_room_X70)) (by decide +kernel)
set_option maxRecDepth 20000 in
theorem gX7_room_X7_refuse : GoodIn wsX7_room (wsV RX7 290 RX7 yX7_refuse wsX7_refuse) := goodIn_app (mj_good (mj_cons (mc_X7_room_X7_room_r1 _ (List.mem_of_getElem? (i := 3) rfl)) (mj_cons (mc_X7_room_X7_room_r1 _ (List.mem_of_getElem? (i := 4) rfl)) (mj_cons (mc_X7_room_X7_room_r1 _ (List.mem_of_getElem? (i := 5) rfl)) (mj_cons (mc_X7_room_X7_room_r1 _ (List.mem_of_getElem? (i := 6) rfl)) mj_nil)))) (by decide +kernel)) ggX7_room_X7_refuse
set_option maxRecDepth 20000 in
theorem ggX7_room_X7_isBarge : GoodIn wsX7_room wsX7_isBarge := mj_good (mj_cons (mc_X7_room_X7_room_r1 _ (List.mem_of_getElem? (i := 11) rfl)) (mj_app (mj_cons (mc_X7_room_X7_room_r1 _ (List.mem_of_getElem? (i := 12) rfl)) mj_nil) mc_X7_room_X70)) (by decide +kernel)
set_option maxRecDepth 20000 in
theorem gX7_room_X7_isBarge : GoodIn wsX7_room (wsV RX7 372 RX7 yX7_isBarge wsX7_isBarge) := goodIn_app (mj_good (mj_cons (mc_X7_room_X7_room_r1 _ (List.mem_of_getElem? (i := 8) rfl)) (mj_cons (mc_X7_room_X7_room_r1 _ (List.mem_of_getElem? (i := 9) rfl)) (mj_cons (mc_X7_room_X7_room_r1 _ (List.mem_of_getElem? (i := 10) rfl)) (mj_cons (mc_X7_room_X7_room_r1 _ (List.mem_of_getElem? (i := 6) rfl)) mj_nil)))) (by decide +kernel)) ggX7_room_X7_isBarge
set_option maxRecDepth 20000 in
theorem mc_X7_room_X7_room_r2 : mjIn wsX7_room wsX7_room_r2 := fun w h => (List.mem_cons_of_mem _ (List.mem_append_left _ (List.mem_append_right _ (List.mem_append_left _ h))))
set_option maxRecDepth 20000 in
theorem ggX7_room_X7_layAll : GoodIn wsX7_room wsX7_layAll := mj_good (mj_cons (mc_X7_room_X7_room_r1 _ (List.mem_of_getElem? (i := 16) rfl)) (mj_app (mj_app (mj_cons (mc_X7_room_X7_room_r1 _ (List.mem_of_getElem? (i := 12) rfl)) (mj_cons (mc_X7_room_X7_room_r1 _ (List.mem_of_getElem? (i := 17) rfl)) (mj_cons (mc_X7_room_X7_room_r1 _ (List.mem_of_getElem? (i := 18) rfl)) (mj_cons (mc_X7_room_X7_room_r1 _ (List.mem_of_getElem? (i := 19) rfl)) (mj_cons (mc_X7_room_X7_room_r1 _ (List.mem_of_getElem? (i := 20) rfl)) (mj_cons (mc_X7_room_X7_room_r1 _ (List.mem_of_getElem? (i := 21) rfl)) (mj_cons (mc_X7_room_X7_room_r1 _ (List.mem_of_getElem? (i := 6) rfl)) (mj_cons (mc_X7_room_X7_room_r1 _ (List.mem_of_getElem? (i := 22) rfl)) (mj_cons (mc_X7_room_X7_room_r1 _ (List.mem_of_getElem? (i := 23) rfl)) (mj_cons (mc_X7_room_X7_room_r2 _ (List.mem_of_getElem? (i := 0) rfl)) (mj_cons (mc_X7_room_X7_room_r2 _ (List.mem_of_getElem? (i := 1) rfl)) (mj_cons (mc_X7_room_X7_room_r2 _ (List.mem_of_getElem? (i := 2) rfl)) (mj_cons (mc_X7_room_X7_room_r2 _ (List.mem_of_getElem? (i := 3) rfl)) (mj_cons (mc_X7_room_X7_room_r2 _ (List.mem_of_getElem? (i := 4) rfl)) (mj_cons (mc_X7_room_X7_room_r2 _ (List.mem_of_getElem? (i := 5) rfl)) (mj_cons (mc_X7_room_X7_room_r2 _ (List.mem_of_getElem? (i := 6) rfl)) (mj_cons (mc_X7_room_X7_room_r2 _ (List.mem_of_getElem? (i := 7) rfl)) (mj_cons (mc_X7_room_X7_room_r2 _ (List.mem_of_getElem? (i := 8) rfl)) (mj_cons (mc_X7_room_X7_room_r2 _ (List.mem_of_getElem? (i := 9) rfl)) (mj_cons (mc_X7_room_X7_room_r2 _ (List.mem_of_getElem? (i := 10) rfl)) (mj_cons (mc_X7_room_X7_room_r2 _ (List.mem_of_getElem? (i := 11) rfl)) (mj_cons (mc_X7_room_X7_room_r2 _ (List.mem_of_getElem? (i := 12) rfl)) (mj_cons (mc_X7_room_X7_room_r2 _ (List.mem_of_getElem? (i := 13) rfl)) (mj_cons (mc_X7_room_X7_room_r2 _ (List.mem_of_getElem? (i := 14) rfl)) mj_nil)))))))))))))))))))))))) (mj_cons (mc_X7_room_X7_room_r2 _ (List.mem_of_getElem? (i := 15) rfl)) (mj_cons (mc_X7_room_X7_room_r2 _ (List.mem_of_getElem? (i := 16) rfl)) (mj_cons (mc_X7_room_X7_room_r2 _ (List.mem_of_getElem? (i := 17) rfl)) (mj_cons (mc_X7_room_X7_room_r2 _ (List.mem_of_getElem? (i := 18) rfl)) mj_nil))))) mc_X7_room_X70)) (by decide +kernel)
set_option maxRecDepth 20000 in
theorem gX7_room_X7_layAll : GoodIn wsX7_room (wsV RX7 262 RX7 yX7_layAll wsX7_layAll) := goodIn_app (mj_good (mj_cons (mc_X7_room_X7_room_r1 _ (List.mem_of_getElem? (i := 13) rfl)) (mj_cons (mc_X7_room_X7_room_r1 _ (List.mem_of_getElem? (i := 14) rfl)) (mj_cons (mc_X7_room_X7_room_r1 _ (List.mem_of_getElem? (i := 15) rfl)) (mj_cons (mc_X7_room_X7_room_r1 _ (List.mem_of_getElem? (i := 6) rfl)) mj_nil)))) (by decide +kernel)) ggX7_room_X7_layAll
set_option maxRecDepth 20000 in
theorem mc_X7_room_X7_room_r3 : mjIn wsX7_room wsX7_room_r3 := fun w h => (List.mem_cons_of_mem _ (List.mem_append_left _ (List.mem_append_right _ (List.mem_append_right _ (List.mem_append_left _ h)))))
set_option maxRecDepth 20000 in
theorem mc_X7_room_X7_room_r4 : mjIn wsX7_room wsX7_room_r4 := fun w h => (List.mem_cons_of_mem _ (List.mem_append_left _ (List.mem_append_right _ (List.mem_append_right _ (List.mem_append_right _ h)))))
set_option maxRecDepth 20000 in
theorem ggX7_room_X7_hinders : GoodIn wsX7_room wsX7_hinders := mj_good (mj_cons (mc_X7_room_X7_room_r2 _ (List.mem_of_getElem? (i := 22) rfl)) (mj_app (mj_app (mj_cons (mc_X7_room_X7_room_r1 _ (List.mem_of_getElem? (i := 17) rfl)) (mj_cons (mc_X7_room_X7_room_r2 _ (List.mem_of_getElem? (i := 8) rfl)) (mj_cons (mc_X7_room_X7_room_r2 _ (List.mem_of_getElem? (i := 23) rfl)) (mj_cons (mc_X7_room_X7_room_r3 _ (List.mem_of_getElem? (i := 0) rfl)) (mj_cons (mc_X7_room_X7_room_r3 _ (List.mem_of_getElem? (i := 1) rfl)) (mj_cons (mc_X7_room_X7_room_r1 _ (List.mem_of_getElem? (i := 6) rfl)) (mj_cons (mc_X7_room_X7_room_r3 _ (List.mem_of_getElem? (i := 2) rfl)) (mj_cons (mc_X7_room_X7_room_r2 _ (List.mem_of_getElem? (i := 9) rfl)) (mj_cons (mc_X7_room_X7_room_r2 _ (List.mem_of_getElem? (i := 11) rfl)) (mj_cons (mc_X7_room_X7_room_r2 _ (List.mem_of_getElem? (i := 12) rfl)) (mj_cons (mc_X7_room_X7_room_r2 _ (List.mem_of_getElem? (i := 13) rfl)) (mj_cons (mc_X7_room_X7_room_r2 _ (List.mem_of_getElem? (i := 14) rfl)) (mj_cons (mc_X7_room_X7_room_r3 _ (List.mem_of_getElem? (i := 3) rfl)) (mj_cons (mc_X7_room_X7_room_r3 _ (List.mem_of_getElem? (i := 4) rfl)) (mj_cons (mc_X7_room_X7_room_r3 _ (List.mem_of_getElem? (i := 5) rfl)) (mj_cons (mc_X7_room_X7_room_r3 _ (List.mem_of_getElem? (i := 6) rfl)) (mj_cons (mc_X7_room_X7_room_r3 _ (List.mem_of_getElem? (i := 7) rfl)) (mj_cons (mc_X7_room_X7_room_r3 _ (List.mem_of_getElem? (i := 8) rfl)) (mj_cons (mc_X7_room_X7_room_r3 _ (List.mem_of_getElem? (i := 9) rfl)) (mj_cons (mc_X7_room_X7_room_r3 _ (List.mem_of_getElem? (i := 10) rfl)) (mj_cons (mc_X7_room_X7_room_r3 _ (List.mem_of_getElem? (i := 11) rfl)) (mj_cons (mc_X7_room_X7_room_r3 _ (List.mem_of_getElem? (i := 12) rfl)) (mj_cons (mc_X7_room_X7_room_r3 _ (List.mem_of_getElem? (i := 13) rfl)) (mj_cons (mc_X7_room_X7_room_r3 _ (List.mem_of_getElem? (i := 14) rfl)) mj_nil)))))))))))))))))))))))) (mj_cons (mc_X7_room_X7_room_r3 _ (List.mem_of_getElem? (i := 15) rfl)) (mj_cons (mc_X7_room_X7_room_r1 _ (List.mem_of_getElem? (i := 23) rfl)) (mj_cons (mc_X7_room_X7_room_r2 _ (List.mem_of_getElem? (i := 15) rfl)) (mj_cons (mc_X7_room_X7_room_r2 _ (List.mem_of_getElem? (i := 16) rfl)) (mj_cons (mc_X7_room_X7_room_r2 _ (List.mem_of_getElem? (i := 17) rfl)) (mj_cons (mc_X7_room_X7_room_r2 _ (List.mem_of_getElem? (i := 18) rfl)) (mj_cons (mc_X7_room_X7_room_r2 _ (List.mem_of_getElem? (i := 10) rfl)) (mj_cons (mc_X7_room_X7_room_r2 _ (List.mem_of_getElem? (i := 4) rfl)) (mj_cons (mc_X7_room_X7_room_r2 _ (List.mem_of_getElem? (i := 5) rfl)) (mj_cons (mc_X7_room_X7_room_r2 _ (List.mem_of_getElem? (i := 6) rfl)) (mj_cons (mc_X7_room_X7_room_r2 _ (List.mem_of_getElem? (i := 7) rfl)) (mj_cons (mc_X7_room_X7_room_r3 _ (List.mem_of_getElem? (i := 16) rfl)) (mj_cons (mc_X7_room_X7_room_r3 _ (List.mem_of_getElem? (i := 17) rfl)) (mj_cons (mc_X7_room_X7_room_r3 _ (List.mem_of_getElem? (i := 18) rfl)) (mj_cons (mc_X7_room_X7_room_r3 _ (List.mem_of_getElem? (i := 19) rfl)) (mj_cons (mc_X7_room_X7_room_r3 _ (List.mem_of_getElem? (i := 20) rfl)) (mj_cons (mc_X7_room_X7_room_r3 _ (List.mem_of_getElem? (i := 21) rfl)) (mj_cons (mc_X7_room_X7_room_r3 _ (List.mem_of_getElem? (i := 22) rfl)) (mj_cons (mc_X7_room_X7_room_r3 _ (List.mem_of_getElem? (i := 23) rfl)) (mj_cons (mc_X7_room_X7_room_r4 _ (List.mem_of_getElem? (i := 0) rfl)) (mj_cons (mc_X7_room_X7_room_r4 _ (List.mem_of_getElem? (i := 1) rfl)) (mj_cons (mc_X7_room_X7_room_r4 _ (List.mem_of_getElem? (i := 2) rfl)) (mj_cons (mc_X7_room_X7_room_r4 _ (List.mem_of_getElem? (i := 3) rfl)) mj_nil)))))))))))))))))))))))) mc_X7_room_X70)) (by decide +kernel)
set_option maxRecDepth 20000 in
theorem gX7_room_X7_hinders : GoodIn wsX7_room (wsV RX7 276 RX7 yX7_hinders wsX7_hinders) := goodIn_app (mj_good (mj_cons (mc_X7_room_X7_room_r2 _ (List.mem_of_getElem? (i := 19) rfl)) (mj_cons (mc_X7_room_X7_room_r2 _ (List.mem_of_getElem? (i := 20) rfl)) (mj_cons (mc_X7_room_X7_room_r2 _ (List.mem_of_getElem? (i := 21) rfl)) (mj_cons (mc_X7_room_X7_room_r1 _ (List.mem_of_getElem? (i := 6) rfl)) mj_nil)))) (by decide +kernel)) ggX7_room_X7_hinders
set_option maxRecDepth 20000 in
theorem ggX7_room_X7_step : GoodIn wsX7_room wsX7_step := mj_good (mj_cons (mc_X7_room_X7_room_r4 _ (List.mem_of_getElem? (i := 7) rfl)) (mj_app (mj_app (mj_cons (mc_X7_room_X7_room_r1 _ (List.mem_of_getElem? (i := 17) rfl)) (mj_cons (mc_X7_room_X7_room_r2 _ (List.mem_of_getElem? (i := 0) rfl)) (mj_cons (mc_X7_room_X7_room_r2 _ (List.mem_of_getElem? (i := 1) rfl)) (mj_cons (mc_X7_room_X7_room_r2 _ (List.mem_of_getElem? (i := 2) rfl)) (mj_cons (mc_X7_room_X7_room_r1 _ (List.mem_of_getElem? (i := 6) rfl)) (mj_cons (mc_X7_room_X7_room_r2 _ (List.mem_of_getElem? (i := 3) rfl)) (mj_cons (mc_X7_room_X7_room_r1 _ (List.mem_of_getElem? (i := 23) rfl)) (mj_cons (mc_X7_room_X7_room_r2 _ (List.mem_of_getElem? (i := 4) rfl)) (mj_cons (mc_X7_room_X7_room_r2 _ (List.mem_of_getElem? (i := 5) rfl)) (mj_cons (mc_X7_room_X7_room_r2 _ (List.mem_of_getElem? (i := 6) rfl)) (mj_cons (mc_X7_room_X7_room_r2 _ (List.mem_of_getElem? (i := 7) rfl)) (mj_cons (mc_X7_room_X7_room_r2 _ (List.mem_of_getElem? (i := 8) rfl)) (mj_cons (mc_X7_room_X7_room_r2 _ (List.mem_of_getElem? (i := 9) rfl)) (mj_cons (mc_X7_room_X7_room_r2 _ (List.mem_of_getElem? (i := 10) rfl)) (mj_cons (mc_X7_room_X7_room_r2 _ (List.mem_of_getElem? (i := 11) rfl)) (mj_cons (mc_X7_room_X7_room_r2 _ (List.mem_of_getElem? (i := 12) rfl)) (mj_cons (mc_X7_room_X7_room_r2 _ (List.mem_of_getElem? (i := 13) rfl)) (mj_cons (mc_X7_room_X7_room_r2 _ (List.mem_of_getElem? (i := 14) rfl)) (mj_cons (mc_X7_room_X7_room_r2 _ (List.mem_of_getElem? (i := 15) rfl)) (mj_cons (mc_X7_room_X7_room_r2 _ (List.mem_of_getElem? (i := 16) rfl)) (mj_cons (mc_X7_room_X7_room_r2 _ (List.mem_of_getElem? (i := 17) rfl)) (mj_cons (mc_X7_room_X7_room_r2 _ (List.mem_of_getElem? (i := 18) rfl)) (mj_cons (mc_X7_room_X7_room_r3 _ (List.mem_of_getElem? (i := 3) rfl)) (mj_cons (mc_X7_room_X7_room_r3 _ (List.mem_of_getElem? (i := 4) rfl)) mj_nil)))))))))))))))))))))))) (mj_cons (mc_X7_room_X7_room_r3 _ (List.mem_of_getElem? (i := 5) rfl)) (mj_cons (mc_X7_room_X7_room_r3 _ (List.mem_of_getElem? (i := 6) rfl)) (mj_cons (mc_X7_room_X7_room_r3 _ (List.mem_of_getElem? (i := 7) rfl)) (mj_cons (mc_X7_room_X7_room_r3 _ (List.mem_of_getElem? (i := 8) rfl)) mj_nil))))) mc_X7_room_X70)) (by decide +kernel)
set_option maxRecDepth 20000 in
theorem gX7_room_X7_step : GoodIn wsX7_room (wsV RX7 279 RX7 yX7_step wsX7_step) := goodIn_app (mj_good (mj_cons (mc_X7_room_X7_room_r4 _ (List.mem_of_getElem? (i := 4) rfl)) (mj_cons (mc_X7_room_X7_room_r4 _ (List.mem_of_getElem? (i := 5) rfl)) (mj_cons (mc_X7_room_X7_room_r4 _ (List.mem_of_getElem? (i := 6) rfl)) (mj_cons (mc_X7_room_X7_room_r1 _ (List.mem_of_getElem? (i := 6) rfl)) mj_nil)))) (by decide +kernel)) ggX7_room_X7_step
theorem dX7_room_0 : decode cX7_room 0 = .ok (.aload_n 0, 1) := by decide +kernel
theorem dX7_room_1 : decode cX7_room 1 = .ok (.iconst 0, 1) := by decide +kernel
theorem dX7_room_2 : decode cX7_room 2 = .ok (.putfield 184, 3) := by decide +kernel
theorem dX7_room_5 : decode cX7_room 5 = .ok (.aload_n 0, 1) := by decide +kernel
theorem dX7_room_6 : decode cX7_room 6 = .ok (.iconst 0, 1) := by decide +kernel
theorem dX7_room_7 : decode cX7_room 7 = .ok (.putfield 187, 3) := by decide +kernel
theorem dX7_room_10 : decode cX7_room 10 = .ok (.aload_n 0, 1) := by decide +kernel
theorem dX7_room_11 : decode cX7_room 11 = .ok (.getfield 303, 3) := by decide +kernel
theorem dX7_room_14 : decode cX7_room 14 = .ok (.ifCond .ne 9, 3) := by decide +kernel
theorem dX7_room_17 : decode cX7_room 17 = .ok (.aload_n 0, 1) := by decide +kernel
theorem dX7_room_18 : decode cX7_room 18 = .ok (.iconst 1, 1) := by decide +kernel
theorem dX7_room_19 : decode cX7_room 19 = .ok (.invokevirtual 290, 3) := by decide +kernel
theorem dX7_room_22 : decode cX7_room 22 = .ok (.ireturn, 1) := by decide +kernel
theorem dX7_room_23 : decode cX7_room 23 = .ok (.aload_n 0, 1) := by decide +kernel
theorem dX7_room_24 : decode cX7_room 24 = .ok (.iload_n 1, 1) := by decide +kernel
theorem dX7_room_25 : decode cX7_room 25 = .ok (.invokevirtual 372, 3) := by decide +kernel
theorem dX7_room_28 : decode cX7_room 28 = .ok (.ifCond .eq 12, 3) := by decide +kernel
theorem dX7_room_31 : decode cX7_room 31 = .ok (.iload_n 2, 1) := by decide +kernel
theorem dX7_room_32 : decode cX7_room 32 = .ok (.ifCond .lt 8, 3) := by decide +kernel
theorem dX7_room_35 : decode cX7_room 35 = .ok (.iload_n 2, 1) := by decide +kernel
theorem dX7_room_36 : decode cX7_room 36 = .ok (.iconst 3, 1) := by decide +kernel
theorem dX7_room_37 : decode cX7_room 37 = .ok (.if_icmp .le 9, 3) := by decide +kernel
theorem dX7_room_40 : decode cX7_room 40 = .ok (.aload_n 0, 1) := by decide +kernel
theorem dX7_room_41 : decode cX7_room 41 = .ok (.iconst 2, 1) := by decide +kernel
theorem dX7_room_42 : decode cX7_room 42 = .ok (.invokevirtual 290, 3) := by decide +kernel
theorem dX7_room_45 : decode cX7_room 45 = .ok (.ireturn, 1) := by decide +kernel
theorem dX7_room_46 : decode cX7_room 46 = .ok (.aload_n 0, 1) := by decide +kernel
theorem dX7_room_47 : decode cX7_room 47 = .ok (.invokevirtual 262, 3) := by decide +kernel
theorem dX7_room_50 : decode cX7_room 50 = .ok (.iconst 0, 1) := by decide +kernel
theorem dX7_room_51 : decode cX7_room 51 = .ok (.istore_n 3, 1) := by decide +kernel
theorem dX7_room_52 : decode cX7_room 52 = .ok (.aload_n 0, 1) := by decide +kernel
theorem dX7_room_53 : decode cX7_room 53 = .ok (.iload_n 1, 1) := by decide +kernel
theorem dX7_room_54 : decode cX7_room 54 = .ok (.iload_n 2, 1) := by decide +kernel
theorem dX7_room_55 : decode cX7_room 55 = .ok (.invokevirtual 276, 3) := by decide +kernel
theorem dX7_room_58 : decode cX7_room 58 = .ok (.ifCond .ne 15, 3) := by decide +kernel
theorem dX7_room_61 : decode cX7_room 61 = .ok (.aload_n 0, 1) := by decide +kernel
theorem dX7_room_62 : decode cX7_room 62 = .ok (.iload_n 1, 1) := by decide +kernel
theorem dX7_room_63 : decode cX7_room 63 = .ok (.iload_n 2, 1) := by decide +kernel
theorem dX7_room_64 : decode cX7_room 64 = .ok (.invokevirtual 279, 3) := by decide +kernel
theorem dX7_room_67 : decode cX7_room 67 = .ok (.iinc 3 1, 3) := by decide +kernel
theorem dX7_room_70 : decode cX7_room 70 = .ok (.goto (-18), 3) := by decide +kernel
theorem dX7_room_73 : decode cX7_room 73 = .ok (.iload_n 3, 1) := by decide +kernel
theorem dX7_room_74 : decode cX7_room 74 = .ok (.ireturn, 1) := by decide +kernel
set_option maxRecDepth 20000 in
theorem mc_X7_slides_X7_slides_r1 : mjIn wsX7_slides wsX7_slides_r1 := fun w h => (List.mem_cons_of_mem _ (List.mem_append_left _ (List.mem_append_left _ h)))
set_option maxRecDepth 20000 in
theorem mc_X7_slides_X7_slides_r2 : mjIn wsX7_slides wsX7_slides_r2 := fun w h => (List.mem_cons_of_mem _ (List.mem_append_left _ (List.mem_append_right _ (List.mem_append_left _ h))))
set_option maxRecDepth 20000 in
theorem mc_X7_slides_X70 : mjIn wsX7_slides wsX70 := fun w h => (List.mem_cons_of_mem _ (List.mem_append_right _ h))
set_option maxRecDepth 20000 in
theorem ggX7_slides_X7_layAll : GoodIn wsX7_slides wsX7_layAll := mj_good (mj_cons (mc_X7_slides_X7_slides_r1 _ (List.mem_of_getElem? (i := 14) rfl)) (mj_app (mj_app (mj_cons (mc_X7_slides_X7_slides_r1 _ (List.mem_of_getElem? (i := 15) rfl)) (mj_cons (mc_X7_slides_X7_slides_r1 _ (List.mem_of_getElem? (i := 8) rfl)) (mj_cons (mc_X7_slides_X7_slides_r1 _ (List.mem_of_getElem? (i := 7) rfl)) (mj_cons (mc_X7_slides_X7_slides_r1 _ (List.mem_of_getElem? (i := 16) rfl)) (mj_cons (mc_X7_slides_X7_slides_r1 _ (List.mem_of_getElem? (i := 17) rfl)) (mj_cons (mc_X7_slides_X7_slides_r1 _ (List.mem_of_getElem? (i := 18) rfl)) (mj_cons (mc_X7_slides_X7_slides_r1 _ (List.mem_of_getElem? (i := 13) rfl)) (mj_cons (mc_X7_slides_X7_slides_r1 _ (List.mem_of_getElem? (i := 19) rfl)) (mj_cons (mc_X7_slides_X7_slides_r1 _ (List.mem_of_getElem? (i := 20) rfl)) (mj_cons (mc_X7_slides_X7_slides_r1 _ (List.mem_of_getElem? (i := 21) rfl)) (mj_cons (mc_X7_slides_X7_slides_r1 _ (List.mem_of_getElem? (i := 22) rfl)) (mj_cons (mc_X7_slides_X7_slides_r1 _ (List.mem_of_getElem? (i := 23) rfl)) (mj_cons (mc_X7_slides_X7_slides_r2 _ (List.mem_of_getElem? (i := 0) rfl)) (mj_cons (mc_X7_slides_X7_slides_r2 _ (List.mem_of_getElem? (i := 1) rfl)) (mj_cons (mc_X7_slides_X7_slides_r2 _ (List.mem_of_getElem? (i := 2) rfl)) (mj_cons (mc_X7_slides_X7_slides_r2 _ (List.mem_of_getElem? (i := 3) rfl)) (mj_cons (mc_X7_slides_X7_slides_r2 _ (List.mem_of_getElem? (i := 4) rfl)) (mj_cons (mc_X7_slides_X7_slides_r2 _ (List.mem_of_getElem? (i := 5) rfl)) (mj_cons (mc_X7_slides_X7_slides_r2 _ (List.mem_of_getElem? (i := 6) rfl)) (mj_cons (mc_X7_slides_X7_slides_r2 _ (List.mem_of_getElem? (i := 7) rfl)) (mj_cons (mc_X7_slides_X7_slides_r2 _ (List.mem_of_getElem? (i := 8) rfl)) (mj_cons (mc_X7_slides_X7_slides_r2 _ (List.mem_of_getElem? (i := 9) rfl)) (mj_cons (mc_X7_slides_X7_slides_r2 _ (List.mem_of_getElem? (i := 10) rfl)) (mj_cons (mc_X7_slides_X7_slides_r2 _ (List.mem_of_getElem? (i := 11) rfl)) mj_nil)))))))))))))))))))))))) (mj_cons (mc_X7_slides_X7_slides_r2 _ (List.mem_of_getElem? (i := 12) rfl)) (mj_cons (mc_X7_slides_X7_slides_r2 _ (List.mem_of_getElem? (i := 13) rfl)) (mj_cons (mc_X7_slides_X7_slides_r2 _ (List.mem_of_getElem? (i := 14) rfl)) (mj_cons (mc_X7_slides_X7_slides_r2 _ (List.mem_of_getElem? (i := 15) rfl)) mj_nil))))) mc_X7_slides_X70)) (by decide +kernel)
set_option maxRecDepth 20000 in
theorem gX7_slides_X7_layAll : GoodIn wsX7_slides (wsV RX7 262 RX7 yX7_layAll wsX7_layAll) := goodIn_app (mj_good (mj_cons (mc_X7_slides_X7_slides_r1 _ (List.mem_of_getElem? (i := 10) rfl)) (mj_cons (mc_X7_slides_X7_slides_r1 _ (List.mem_of_getElem? (i := 11) rfl)) (mj_cons (mc_X7_slides_X7_slides_r1 _ (List.mem_of_getElem? (i := 12) rfl)) (mj_cons (mc_X7_slides_X7_slides_r1 _ (List.mem_of_getElem? (i := 13) rfl)) mj_nil)))) (by decide +kernel)) ggX7_slides_X7_layAll
set_option maxRecDepth 20000 in
theorem mc_X7_slides_X7_slides_r3 : mjIn wsX7_slides wsX7_slides_r3 := fun w h => (List.mem_cons_of_mem _ (List.mem_append_left _ (List.mem_append_right _ (List.mem_append_right _ (List.mem_append_left _ h)))))
set_option maxRecDepth 20000 in
theorem mc_X7_slides_X7_slides_r4 : mjIn wsX7_slides wsX7_slides_r4 := fun w h => (List.mem_cons_of_mem _ (List.mem_append_left _ (List.mem_append_right _ (List.mem_append_right _ (List.mem_append_right _ h)))))
set_option maxRecDepth 20000 in
theorem ggX7_slides_X7_hinders : GoodIn wsX7_slides wsX7_hinders := mj_good (mj_cons (mc_X7_slides_X7_slides_r2 _ (List.mem_of_getElem? (i := 19) rfl)) (mj_app (mj_app (mj_cons (mc_X7_slides_X7_slides_r1 _ (List.mem_of_getElem? (i := 8) rfl)) (mj_cons (mc_X7_slides_X7_slides_r2 _ (List.mem_of_getElem? (i := 5) rfl)) (mj_cons (mc_X7_slides_X7_slides_r2 _ (List.mem_of_getElem? (i := 20) rfl)) (mj_cons (mc_X7_slides_X7_slides_r2 _ (List.mem_of_getElem? (i := 21) rfl)) (mj_cons (mc_X7_slides_X7_slides_r2 _ (List.mem_of_getElem? (i := 22) rfl)) (mj_cons (mc_X7_slides_X7_slides_r1 _ (List.mem_of_getElem? (i := 13) rfl)) (mj_cons (mc_X7_slides_X7_slides_r2 _ (List.mem_of_getElem? (i := 23) rfl)) (mj_cons (mc_X7_slides_X7_slides_r2 _ (List.mem_of_getElem? (i := 6) rfl)) (mj_cons (mc_X7_slides_X7_slides_r2 _ (List.mem_of_getElem? (i := 8) rfl)) (mj_cons (mc_X7_slides_X7_slides_r2 _ (List.mem_of_getElem? (i := 9) rfl)) (mj_cons (mc_X7_slides_X7_slides_r2 _ (List.mem_of_getElem? (i := 10) rfl)) (mj_cons (mc_X7_slides_X7_slides_r2 _ (List.mem_of_getElem? (i := 11) rfl)) (mj_cons (mc_X7_slides_X7_slides_r3 _ (List.mem_of_getElem? (i := 0) rfl)) (mj_cons (mc_X7_slides_X7_slides_r3 _ (List.mem_of_getElem? (i := 1) rfl)) (mj_cons (mc_X7_slides_X7_slides_r3 _ (List.mem_of_getElem? (i := 2) rfl)) (mj_cons (mc_X7_slides_X7_slides_r3 _ (List.mem_of_getElem? (i := 3) rfl)) (mj_cons (mc_X7_slides_X7_slides_r3 _ (List.mem_of_getElem? (i := 4) rfl)) (mj_cons (mc_X7_slides_X7_slides_r3 _ (List.mem_of_getElem? (i := 5) rfl)) (mj_cons (mc_X7_slides_X7_slides_r3 _ (List.mem_of_getElem? (i := 6) rfl)) (mj_cons (mc_X7_slides_X7_slides_r3 _ (List.mem_of_getElem? (i := 7) rfl)) (mj_cons (mc_X7_slides_X7_slides_r3 _ (List.mem_of_getElem? (i := 8) rfl)) (mj_cons (mc_X7_slides_X7_slides_r3 _ (List.mem_of_getElem? (i := 9) rfl)) (mj_cons (mc_X7_slides_X7_slides_r3 _ (List.mem_of_getElem? (i := 10) rfl)) (mj_cons (mc_X7_slides_X7_slides_r3 _ (List.mem_of_getElem? (i := 11) rfl)) mj_nil)))))))))))))))))))))))) (mj_cons (mc_X7_slides_X7_slides_r3 _ (List.mem_of_getElem? (i := 12) rfl)) (mj_cons (mc_X7_slides_X7_slides_r1 _ (List.mem_of_getElem? (i := 20) rfl)) (mj_cons (mc_X7_slides_X7_slides_r2 _ (List.mem_of_getElem? (i := 12) rfl)) (mj_cons (mc_X7_slides_X7_slides_r2 _ (List.mem_of_getElem? (i := 13) rfl)) (mj_cons (mc_X7_slides_X7_slides_r2 _ (List.mem_of_getElem? (i := 14) rfl)) (mj_cons (mc_X7_slides_X7_slides_r2 _ (List.mem_of_getElem? (i := 15) rfl)) (mj_cons (mc_X7_slides_X7_slides_r2 _ (List.mem_of_getElem? (i := 7) rfl)) (mj_cons (mc_X7_slides_X7_slides_r2 _ (List.mem_of_getElem? (i := 1) rfl)) (mj_cons (mc_X7_slides_X7_slides_r2 _ (List.mem_of_getElem? (i := 2) rfl)) (mj_cons (mc_X7_slides_X7_slides_r2 _ (List.mem_of_getElem? (i := 3) rfl)) (mj_cons (mc_X7_slides_X7_slides_r2 _ (List.mem_of_getElem? (i := 4) rfl)) (mj_cons (mc_X7_slides_X7_slides_r3 _ (List.mem_of_getElem? (i := 13) rfl)) (mj_cons (mc_X7_slides_X7_slides_r3 _ (List.mem_of_getElem? (i := 14) rfl)) (mj_cons (mc_X7_slides_X7_slides_r3 _ (List.mem_of_getElem? (i := 15) rfl)) (mj_cons (mc_X7_slides_X7_slides_r3 _ (List.mem_of_getElem? (i := 16) rfl)) (mj_cons (mc_X7_slides_X7_slides_r3 _ (List.mem_of_getElem? (i := 17) rfl)) (mj_cons (mc_X7_slides_X7_slides_r3 _ (List.mem_of_getElem? (i := 18) rfl)) (mj_cons (mc_X7_slides_X7_slides_r3 _ (List.mem_of_getElem? (i := 19) rfl)) (mj_cons (mc_X7_slides_X7_slides_r3 _ (List.mem_of_getElem? (i := 20) rfl)) (mj_cons (mc_X7_slides_X7_slides_r3 _ (List.mem_of_getElem? (i := 21) rfl)) (mj_cons (mc_X7_slides_X7_slides_r3 _ (List.mem_of_getElem? (i := 22) rfl)) (mj_cons (mc_X7_slides_X7_slides_r3 _ (List.mem_of_getElem? (i := 23) rfl)) (mj_cons (mc_X7_slides_X7_slides_r4 _ (List.mem_of_getElem? (i := 0) rfl)) mj_nil)))))))))))))))))))))))) mc_X7_slides_X70)) (by decide +kernel)
set_option maxRecDepth 20000 in
theorem gX7_slides_X7_hinders : GoodIn wsX7_slides (wsV RX7 276 RX7 yX7_hinders wsX7_hinders) := goodIn_app (mj_good (mj_cons (mc_X7_slides_X7_slides_r2 _ (List.mem_of_getElem? (i := 16) rfl)) (mj_cons (mc_X7_slides_X7_slides_r2 _ (List.mem_of_getElem? (i := 17) rfl)) (mj_cons (mc_X7_slides_X7_slides_r2 _ (List.mem_of_getElem? (i := 18) rfl)) (mj_cons (mc_X7_slides_X7_slides_r1 _ (List.mem_of_getElem? (i := 13) rfl)) mj_nil)))) (by decide +kernel)) ggX7_slides_X7_hinders
set_option maxRecDepth 20000 in
theorem ggX7_slides_X7_beside : GoodIn wsX7_slides wsX7_beside := mj_good (mj_cons (mc_X7_slides_X7_slides_r3 _ (List.mem_of_getElem? (i := 16) rfl)) (mj_app (mj_cons (mc_X7_slides_X7_slides_r1 _ (List.mem_of_getElem? (i := 8) rfl)) (mj_cons (mc_X7_slides_X7_slides_r1 _ (List.mem_of_getElem? (i := 20) rfl)) (mj_cons (mc_X7_slides_X7_slides_r3 _ (List.mem_of_getElem? (i := 17) rfl)) (mj_cons (mc_X7_slides_X7_slides_r3 _ (List.mem_of_getElem? (i := 18) rfl)) (mj_cons (mc_X7_slides_X7_slides_r3 _ (List.mem_of_getElem? (i := 19) rfl)) (mj_cons (mc_X7_slides_X7_slides_r3 _ (List.mem_of_getElem? (i := 20) rfl)) (mj_cons (mc_X7_slides_X7_slides_r3 _ (List.mem_of_getElem? (i := 0) rfl)) (mj_cons (mc_X7_slides_X7_slides_r3 _ (List.mem_of_getElem? (i := 1) rfl)) (mj_cons (mc_X7_slides_X7_slides_r1 _ (List.mem_of_getElem? (i := 13) rfl)) (mj_cons (mc_X7_slides_X7_slides_r3 _ (List.mem_of_getElem? (i := 2) rfl)) (mj_cons (mc_X7_slides_X7_slides_r3 _ (List.mem_of_getElem? (i := 3) rfl)) (mj_cons (mc_X7_slides_X7_slides_r3 _ (List.mem_of_getElem? (i := 4) rfl)) (mj_cons (mc_X7_slides_X7_slides_r3 _ (List.mem_of_getElem? (i := 5) rfl)) (mj_cons (mc_X7_slides_X7_slides_r3 _ (List.mem_of_getElem? (i := 21) rfl)) (mj_cons (mc_X7_slides_X7_slides_r3 _ (List.mem_of_getElem? (i := 22) rfl)) (mj_cons (mc_X7_slides_X7_slides_r3 _ (List.mem_of_getElem? (i := 23) rfl)) (mj_cons (mc_X7_slides_X7_slides_r4 _ (List.mem_of_getElem? (i := 0) rfl)) (mj_cons (mc_X7_slides_X7_slides_r3 _ (List.mem_of_getElem? (i := 10) rfl)) (mj_cons (mc_X7_slides_X7_slides_r3 _ (List.mem_of_getElem? (i := 11) rfl)) mj_nil))))))))))))))))))) mc_X7_slides_X70)) (by decide +kernel)
set_option maxRecDepth 20000 in
theorem gX7_slides_X7_beside : GoodIn wsX7_slides (wsV RX7 246 RX7 yX7_beside wsX7_beside) := goodIn_app (mj_good (mj_cons (mc_X7_slides_X7_slides_r3 _ (List.mem_of_getElem? (i := 13) rfl)) (mj_cons (mc_X7_slides_X7_slides_r3 _ (List.mem_of_getElem? (i := 14) rfl)) (mj_cons (mc_X7_slides_X7_slides_r3 _ (List.mem_of_getElem? (i := 15) rfl)) (mj_cons (mc_X7_slides_X7_slides_r1 _ (List.mem_of_getElem? (i := 13) rfl)) mj_nil)))) (by decide +kernel)) ggX7_slides_X7_beside
set_option maxRecDepth 20000 in
theorem ggX7_slides_X7_least : GoodIn wsX7_slides wsX7_least := mj_good (mj_cons (mc_X7_slides_X7_slides_r4 _ (List.mem_of_getElem? (i := 4) rfl)) (mj_app (mj_app (mj_cons (mc_X7_slides_X7_slides_r1 _ (List.mem_of_getElem? (i := 8) rfl)) (mj_cons (mc_X7_slides_X7_slides_r1 _ (List.mem_of_getElem? (i := 20) rfl)) (mj_cons (mc_X7_slides_X7_slides_r3 _ (List.mem_of_getElem? (i := 17) rfl)) (mj_cons (mc_X7_slides_X7_slides_r3 _ (List.mem_of_getElem? (i := 18) rfl)) (mj_cons (mc_X7_slides_X7_slides_r3 _ (List.mem_of_getElem? (i := 19) rfl)) (mj_cons (mc_X7_slides_X7_slides_r3 _ (List.mem_of_getElem? (i := 20) rfl)) (mj_cons (mc_X7_slides_X7_slides_r3 _ (List.mem_of_getElem? (i := 0) rfl)) (mj_cons (mc_X7_slides_X7_slides_r3 _ (List.mem_of_getElem? (i := 1) rfl)) (mj_cons (mc_X7_slides_X7_slides_r1 _ (List.mem_of_getElem? (i := 13) rfl)) (mj_cons (mc_X7_slides_X7_slides_r3 _ (List.mem_of_getElem? (i := 2) rfl)) (mj_cons (mc_X7_slides_X7_slides_r3 _ (List.mem_of_getElem? (i := 3) rfl)) (mj_cons (mc_X7_slides_X7_slides_r3 _ (List.mem_of_getElem? (i := 4) rfl)) (mj_cons (mc_X7_slides_X7_slides_r3 _ (List.mem_of_getElem? (i := 5) rfl)) (mj_cons (mc_X7_slides_X7_slides_r2 _ (List.mem_of_getElem? (i := 1) rfl)) (mj_cons (mc_X7_slides_X7_slides_r2 _ (List.mem_of_getElem? (i := 2) rfl)) (mj_cons (mc_X7_slides_X7_slides_r2 _ (List.mem_of_getElem? (i := 3) rfl)) (mj_cons (mc_X7_slides_X7_slides_r2 _ (List.mem_of_getElem? (i := 4) rfl)) (mj_cons (mc_X7_slides_X7_slides_r2 _ (List.mem_of_getElem? (i := 5) rfl)) (mj_cons (mc_X7_slides_X7_slides_r2 _ (List.mem_of_getElem? (i := 6) rfl)) (mj_cons (mc_X7_slides_X7_slides_r2 _ (List.mem_of_getElem? (i := 7) rfl)) (mj_cons (mc_X7_slides_X7_slides_r2 _ (List.mem_of_getElem? (i := 8) rfl)) (mj_cons (mc_X7_slides_X7_slides_r2 _ (List.mem_of_getElem? (i := 9) rfl)) (mj_cons (mc_X7_slides_X7_slides_r2 _ (List.mem_of_getElem? (i := 10) rfl)) (mj_cons (mc_X7_slides_X7_slides_r2 _ (List.mem_of_getElem? (i := 11) rfl)) mj_nil)))))))))))))))))))))))) (mj_cons (mc_X7_slides_X7_slides_r2 _ (List.mem_of_getElem? (i := 12) rfl)) (mj_cons (mc_X7_slides_X7_slides_r2 _ (List.mem_of_getElem? (i := 13) rfl)) (mj_cons (mc_X7_slides_X7_slides_r2 _ (List.mem_of_getElem? (i := 14) rfl)) (mj_cons (mc_X7_slides_X7_slides_r2 _ (List.mem_of_getElem? (i := 15) rfl)) mj_nil))))) mc_X7_slides_X70)) (by decide +kernel)
set_option maxRecDepth 20000 in
theorem gX7_slides_X7_least : GoodIn wsX7_slides (wsV RX7 382 RX7 yX7_least wsX7_least) := goodIn_app (mj_good (mj_cons (mc_X7_slides_X7_slides_r4 _ (List.mem_of_getElem? (i := 1) rfl)) (mj_cons (mc_X7_slides_X7_slides_r4 _ (List.mem_of_getElem? (i := 2) rfl)) (mj_cons (mc_X7_slides_X7_slides_r4 _ (List.mem_of_getElem? (i := 3) rfl)) (mj_cons (mc_X7_slides_X7_slides_r1 _ (List.mem_of_getElem? (i := 13) rfl)) mj_nil)))) (by decide +kernel)) ggX7_slides_X7_least
set_option maxRecDepth 20000 in
theorem ggX7_slides_X7_step : GoodIn wsX7_slides wsX7_step := mj_good (mj_cons (mc_X7_slides_X7_slides_r4 _ (List.mem_of_getElem? (i := 8) rfl)) (mj_app (mj_app (mj_cons (mc_X7_slides_X7_slides_r1 _ (List.mem_of_getElem? (i := 8) rfl)) (mj_cons (mc_X7_slides_X7_slides_r1 _ (List.mem_of_getElem? (i := 21) rfl)) (mj_cons (mc_X7_slides_X7_slides_r1 _ (List.mem_of_getElem? (i := 22) rfl)) (mj_cons (mc_X7_slides_X7_slides_r1 _ (List.mem_of_getElem? (i := 23) rfl)) (mj_cons (mc_X7_slides_X7_slides_r1 _ (List.mem_of_getElem? (i := 13) rfl)) (mj_cons (mc_X7_slides_X7_slides_r2 _ (List.mem_of_getElem? (i := 0) rfl)) (mj_cons (mc_X7_slides_X7_slides_r1 _ (List.mem_of_getElem? (i := 20) rfl)) (mj_cons (mc_X7_slides_X7_slides_r2 _ (List.mem_of_getElem? (i := 1) rfl)) (mj_cons (mc_X7_slides_X7_slides_r2 _ (List.mem_of_getElem? (i := 2) rfl)) (mj_cons (mc_X7_slides_X7_slides_r2 _ (List.mem_of_getElem? (i := 3) rfl)) (mj_cons (mc_X7_slides_X7_slides_r2 _ (List.mem_of_getElem? (i := 4) rfl)) (mj_cons (mc_X7_slides_X7_slides_r2 _ (List.mem_of_getElem? (i := 5) rfl)) (mj_cons (mc_X7_slides_X7_slides_r2 _ (List.mem_of_getElem? (i := 6) rfl)) (mj_cons (mc_X7_slides_X7_slides_r2 _ (List.mem_of_getElem? (i := 7) rfl)) (mj_cons (mc_X7_slides_X7_slides_r2 _ (List.mem_of_getElem? (i := 8) rfl)) (mj_cons (mc_X7_slides_X7_slides_r2 _ (List.mem_of_getElem? (i := 9) rfl)) (mj_cons (mc_X7_slides_X7_slides_r2 _ (List.mem_of_getElem? (i := 10) rfl)) (mj_cons (mc_X7_slides_X7_slides_r2 _ (List.mem_of_getElem? (i := 11) rfl)) (mj_cons (mc_X7_slides_X7_slides_r2 _ (List.mem_of_getElem? (i := 12) rfl)) (mj_cons (mc_X7_slides_X7_slides_r2 _ (List.mem_of_getElem? (i := 13) rfl)) (mj_cons (mc_X7_slides_X7_slides_r2 _ (List.mem_of_getElem? (i := 14) rfl)) (mj_cons (mc_X7_slides_X7_slides_r2 _ (List.mem_of_getElem? (i := 15) rfl)) (mj_cons (mc_X7_slides_X7_slides_r3 _ (List.mem_of_getElem? (i := 0) rfl)) (mj_cons (mc_X7_slides_X7_slides_r3 _ (List.mem_of_getElem? (i := 1) rfl)) mj_nil)))))))))))))))))))))))) (mj_cons (mc_X7_slides_X7_slides_r3 _ (List.mem_of_getElem? (i := 2) rfl)) (mj_cons (mc_X7_slides_X7_slides_r3 _ (List.mem_of_getElem? (i := 3) rfl)) (mj_cons (mc_X7_slides_X7_slides_r3 _ (List.mem_of_getElem? (i := 4) rfl)) (mj_cons (mc_X7_slides_X7_slides_r3 _ (List.mem_of_getElem? (i := 5) rfl)) mj_nil))))) mc_X7_slides_X70)) (by decide +kernel)
set_option maxRecDepth 20000 in
theorem gX7_slides_X7_step : GoodIn wsX7_slides (wsV RX7 279 RX7 yX7_step wsX7_step) := goodIn_app (mj_good (mj_cons (mc_X7_slides_X7_slides_r4 _ (List.mem_of_getElem? (i := 5) rfl)) (mj_cons (mc_X7_slides_X7_slides_r4 _ (List.mem_of_getElem? (i := 6) rfl)) (mj_cons (mc_X7_slides_X7_slides_r4 _ (List.mem_of_getElem? (i := 7) rfl)) (mj_cons (mc_X7_slides_X7_slides_r1 _ (List.mem_of_getElem? (i := 13) rfl)) mj_nil)))) (by decide +kernel)) ggX7_slides_X7_step
theorem dX7_slides_0 : decode cX7_slides 0 = .ok (.aload_n 0, 1) := by decide +kernel
theorem dX7_slides_1 : decode cX7_slides 1 = .ok (.invokevirtual 262, 3) := by decide +kernel
theorem dX7_slides_4 : decode cX7_slides 4 = .ok (.iconst 1, 1) := by decide +kernel
theorem dX7_slides_5 : decode cX7_slides 5 = .ok (.istore 4, 2) := by decide +kernel
theorem dX7_slides_7 : decode cX7_slides 7 = .ok (.iload 4, 2) := by decide +kernel
theorem dX7_slides_9 : decode cX7_slides 9 = .ok (.iload_n 3, 1) := by decide +kernel
theorem dX7_slides_10 : decode cX7_slides 10 = .ok (.if_icmp .gt 76, 3) := by decide +kernel
theorem dX7_slides_13 : decode cX7_slides 13 = .ok (.aload_n 0, 1) := by decide +kernel
theorem dX7_slides_14 : decode cX7_slides 14 = .ok (.iload_n 1, 1) := by decide +kernel
theorem dX7_slides_15 : decode cX7_slides 15 = .ok (.iload_n 2, 1) := by decide +kernel
theorem dX7_slides_16 : decode cX7_slides 16 = .ok (.invokevirtual 276, 3) := by decide +kernel
theorem dX7_slides_19 : decode cX7_slides 19 = .ok (.istore 5, 2) := by decide +kernel
theorem dX7_slides_21 : decode cX7_slides 21 = .ok (.iload 5, 2) := by decide +kernel
theorem dX7_slides_23 : decode cX7_slides 23 = .ok (.ifCond .le 51, 3) := by decide +kernel
theorem dX7_slides_26 : decode cX7_slides 26 = .ok (.aload_n 0, 1) := by decide +kernel
theorem dX7_slides_27 : decode cX7_slides 27 = .ok (.iload 4, 2) := by decide +kernel
theorem dX7_slides_29 : decode cX7_slides 29 = .ok (.putfield 56, 3) := by decide +kernel
theorem dX7_slides_32 : decode cX7_slides 32 = .ok (.aload_n 0, 1) := by decide +kernel
theorem dX7_slides_33 : decode cX7_slides 33 = .ok (.iload 5, 2) := by decide +kernel
theorem dX7_slides_35 : decode cX7_slides 35 = .ok (.putfield 60, 3) := by decide +kernel
theorem dX7_slides_38 : decode cX7_slides 38 = .ok (.aload_n 0, 1) := by decide +kernel
theorem dX7_slides_39 : decode cX7_slides 39 = .ok (.iload 5, 2) := by decide +kernel
theorem dX7_slides_41 : decode cX7_slides 41 = .ok (.iconst 5, 1) := by decide +kernel
theorem dX7_slides_42 : decode cX7_slides 42 = .ok (.if_icmp .ne 11, 3) := by decide +kernel
theorem dX7_slides_45 : decode cX7_slides 45 = .ok (.aload_n 0, 1) := by decide +kernel
theorem dX7_slides_46 : decode cX7_slides 46 = .ok (.iload_n 1, 1) := by decide +kernel
theorem dX7_slides_47 : decode cX7_slides 47 = .ok (.invokevirtual 246, 3) := by decide +kernel
theorem dX7_slides_50 : decode cX7_slides 50 = .ok (.goto 19, 3) := by decide +kernel
theorem dX7_slides_53 : decode cX7_slides 53 = .ok (.iload 5, 2) := by decide +kernel
theorem dX7_slides_55 : decode cX7_slides 55 = .ok (.iconst 4, 1) := by decide +kernel
theorem dX7_slides_56 : decode cX7_slides 56 = .ok (.if_icmp .ne 12, 3) := by decide +kernel
theorem dX7_slides_59 : decode cX7_slides 59 = .ok (.aload_n 0, 1) := by decide +kernel
theorem dX7_slides_60 : decode cX7_slides 60 = .ok (.iload_n 1, 1) := by decide +kernel
theorem dX7_slides_61 : decode cX7_slides 61 = .ok (.iload_n 2, 1) := by decide +kernel
theorem dX7_slides_62 : decode cX7_slides 62 = .ok (.invokevirtual 382, 3) := by decide +kernel
theorem dX7_slides_65 : decode cX7_slides 65 = .ok (.goto 4, 3) := by decide +kernel
theorem dX7_slides_68 : decode cX7_slides 68 = .ok (.iconst (-1), 1) := by decide +kernel
theorem dX7_slides_69 : decode cX7_slides 69 = .ok (.putfield 63, 3) := by decide +kernel
theorem dX7_slides_72 : decode cX7_slides 72 = .ok (.iconst 0, 1) := by decide +kernel
theorem dX7_slides_73 : decode cX7_slides 73 = .ok (.ireturn, 1) := by decide +kernel
theorem dX7_slides_74 : decode cX7_slides 74 = .ok (.aload_n 0, 1) := by decide +kernel
theorem dX7_slides_75 : decode cX7_slides 75 = .ok (.iload_n 1, 1) := by decide +kernel
theorem dX7_slides_76 : decode cX7_slides 76 = .ok (.iload_n 2, 1) := by decide +kernel
theorem dX7_slides_77 : decode cX7_slides 77 = .ok (.invokevirtual 279, 3) := by decide +kernel
theorem dX7_slides_80 : decode cX7_slides 80 = .ok (.iinc 4 1, 3) := by decide +kernel
theorem dX7_slides_83 : decode cX7_slides 83 = .ok (.goto (-76), 3) := by decide +kernel
theorem dX7_slides_86 : decode cX7_slides 86 = .ok (.aload_n 0, 1) := by decide +kernel
theorem dX7_slides_87 : decode cX7_slides 87 = .ok (.getfield 196, 3) := by decide +kernel
theorem dX7_slides_90 : decode cX7_slides 90 = .ok (.bipush 60, 2) := by decide +kernel
theorem dX7_slides_92 : decode cX7_slides 92 = .ok (.if_icmp .ne 77, 3) := by decide +kernel
theorem dX7_slides_95 : decode cX7_slides 95 = .ok (.iconst 1, 1) := by decide +kernel
theorem dX7_slides_96 : decode cX7_slides 96 = .ok (.istore 4, 2) := by decide +kernel
theorem dX7_slides_98 : decode cX7_slides 98 = .ok (.iload 4, 2) := by decide +kernel
theorem dX7_slides_100 : decode cX7_slides 100 = .ok (.bipush 60, 2) := by decide +kernel
theorem dX7_slides_102 : decode cX7_slides 102 = .ok (.if_icmp .ge 57, 3) := by decide +kernel
theorem dX7_slides_105 : decode cX7_slides 105 = .ok (.aload_n 0, 1) := by decide +kernel
theorem dX7_slides_106 : decode cX7_slides 106 = .ok (.getfield 38, 3) := by decide +kernel
theorem dX7_slides_109 : decode cX7_slides 109 = .ok (.iload 4, 2) := by decide +kernel
theorem dX7_slides_111 : decode cX7_slides 111 = .ok (.iconst 1, 1) := by decide +kernel
theorem dX7_slides_112 : decode cX7_slides 112 = .ok (.isub, 1) := by decide +kernel
theorem dX7_slides_113 : decode cX7_slides 113 = .ok (.aload_n 0, 1) := by decide +kernel
theorem dX7_slides_114 : decode cX7_slides 114 = .ok (.getfield 38, 3) := by decide +kernel
theorem dX7_slides_117 : decode cX7_slides 117 = .ok (.iload 4, 2) := by decide +kernel
theorem dX7_slides_119 : decode cX7_slides 119 = .ok (.iaload, 1) := by decide +kernel
theorem dX7_slides_120 : decode cX7_slides 120 = .ok (.iastore, 1) := by decide +kernel
theorem dX7_slides_121 : decode cX7_slides 121 = .ok (.aload_n 0, 1) := by decide +kernel
theorem dX7_slides_122 : decode cX7_slides 122 = .ok (.getfield 41, 3) := by decide +kernel
theorem dX7_slides_125 : decode cX7_slides 125 = .ok (.iload 4, 2) := by decide +kernel
theorem dX7_slides_127 : decode cX7_slides 127 = .ok (.iconst 1, 1) := by decide +kernel
theorem dX7_slides_128 : decode cX7_slides 128 = .ok (.isub, 1) := by decide +kernel
theorem dX7_slides_129 : decode cX7_slides 129 = .ok (.aload_n 0, 1) := by decide +kernel
theorem dX7_slides_130 : decode cX7_slides 130 = .ok (.getfield 41, 3) := by decide +kernel
theorem dX7_slides_133 : decode cX7_slides 133 = .ok (.iload 4, 2) := by decide +kernel
theorem dX7_slides_135 : decode cX7_slides 135 = .ok (.iaload, 1) := by decide +kernel
theorem dX7_slides_136 : decode cX7_slides 136 = .ok (.iastore, 1) := by decide +kernel
theorem dX7_slides_137 : decode cX7_slides 137 = .ok (.aload_n 0, 1) := by decide +kernel
theorem dX7_slides_138 : decode cX7_slides 138 = .ok (.getfield 44, 3) := by decide +kernel
theorem dX7_slides_141 : decode cX7_slides 141 = .ok (.iload 4, 2) := by decide +kernel
theorem dX7_slides_143 : decode cX7_slides 143 = .ok (.iconst 1, 1) := by decide +kernel
theorem dX7_slides_144 : decode cX7_slides 144 = .ok (.isub, 1) := by decide +kernel
theorem dX7_slides_145 : decode cX7_slides 145 = .ok (.aload_n 0, 1) := by decide +kernel
theorem dX7_slides_146 : decode cX7_slides 146 = .ok (.getfield 44, 3) := by decide +kernel
theorem dX7_slides_149 : decode cX7_slides 149 = .ok (.iload 4, 2) := by decide +kernel
theorem dX7_slides_151 : decode cX7_slides 151 = .ok (.iaload, 1) := by decide +kernel
theorem dX7_slides_152 : decode cX7_slides 152 = .ok (.iastore, 1) := by decide +kernel
theorem dX7_slides_153 : decode cX7_slides 153 = .ok (.iinc 4 1, 3) := by decide +kernel
theorem dX7_slides_156 : decode cX7_slides 156 = .ok (.goto (-58), 3) := by decide +kernel
theorem dX7_slides_159 : decode cX7_slides 159 = .ok (.aload_n 0, 1) := by decide +kernel
theorem dX7_slides_160 : decode cX7_slides 160 = .ok (.dup, 1) := by decide +kernel
theorem dX7_slides_161 : decode cX7_slides 161 = .ok (.getfield 196, 3) := by decide +kernel
theorem dX7_slides_164 : decode cX7_slides 164 = .ok (.iconst 1, 1) := by decide +kernel
theorem dX7_slides_165 : decode cX7_slides 165 = .ok (.isub, 1) := by decide +kernel
theorem dX7_slides_166 : decode cX7_slides 166 = .ok (.putfield 196, 3) := by decide +kernel
theorem dX7_slides_169 : decode cX7_slides 169 = .ok (.aload_n 0, 1) := by decide +kernel
theorem dX7_slides_170 : decode cX7_slides 170 = .ok (.getfield 38, 3) := by decide +kernel
theorem dX7_slides_173 : decode cX7_slides 173 = .ok (.aload_n 0, 1) := by decide +kernel
theorem dX7_slides_174 : decode cX7_slides 174 = .ok (.getfield 196, 3) := by decide +kernel
theorem dX7_slides_177 : decode cX7_slides 177 = .ok (.iload_n 1, 1) := by decide +kernel
theorem dX7_slides_178 : decode cX7_slides 178 = .ok (.iastore, 1) := by decide +kernel
theorem dX7_slides_179 : decode cX7_slides 179 = .ok (.aload_n 0, 1) := by decide +kernel
theorem dX7_slides_180 : decode cX7_slides 180 = .ok (.getfield 41, 3) := by decide +kernel
theorem dX7_slides_183 : decode cX7_slides 183 = .ok (.aload_n 0, 1) := by decide +kernel
theorem dX7_slides_184 : decode cX7_slides 184 = .ok (.getfield 196, 3) := by decide +kernel
theorem dX7_slides_187 : decode cX7_slides 187 = .ok (.aload_n 0, 1) := by decide +kernel
theorem dX7_slides_188 : decode cX7_slides 188 = .ok (.getfield 26, 3) := by decide +kernel
theorem dX7_slides_191 : decode cX7_slides 191 = .ok (.iload_n 1, 1) := by decide +kernel
theorem dX7_slides_192 : decode cX7_slides 192 = .ok (.iaload, 1) := by decide +kernel
theorem dX7_slides_193 : decode cX7_slides 193 = .ok (.iastore, 1) := by decide +kernel
theorem dX7_slides_194 : decode cX7_slides 194 = .ok (.aload_n 0, 1) := by decide +kernel
theorem dX7_slides_195 : decode cX7_slides 195 = .ok (.getfield 44, 3) := by decide +kernel
theorem dX7_slides_198 : decode cX7_slides 198 = .ok (.aload_n 0, 1) := by decide +kernel
theorem dX7_slides_199 : decode cX7_slides 199 = .ok (.getfield 196, 3) := by decide +kernel
theorem dX7_slides_202 : decode cX7_slides 202 = .ok (.aload_n 0, 1) := by decide +kernel
theorem dX7_slides_203 : decode cX7_slides 203 = .ok (.getfield 121, 3) := by decide +kernel
theorem dX7_slides_206 : decode cX7_slides 206 = .ok (.iload_n 1, 1) := by decide +kernel
theorem dX7_slides_207 : decode cX7_slides 207 = .ok (.iaload, 1) := by decide +kernel
theorem dX7_slides_208 : decode cX7_slides 208 = .ok (.iastore, 1) := by decide +kernel
theorem dX7_slides_209 : decode cX7_slides 209 = .ok (.aload_n 0, 1) := by decide +kernel
theorem dX7_slides_210 : decode cX7_slides 210 = .ok (.dup, 1) := by decide +kernel
theorem dX7_slides_211 : decode cX7_slides 211 = .ok (.getfield 196, 3) := by decide +kernel
theorem dX7_slides_214 : decode cX7_slides 214 = .ok (.iconst 1, 1) := by decide +kernel
theorem dX7_slides_215 : decode cX7_slides 215 = .ok (.iadd, 1) := by decide +kernel
theorem dX7_slides_216 : decode cX7_slides 216 = .ok (.putfield 196, 3) := by decide +kernel
theorem dX7_slides_219 : decode cX7_slides 219 = .ok (.aload_n 0, 1) := by decide +kernel
theorem dX7_slides_220 : decode cX7_slides 220 = .ok (.iconst 0, 1) := by decide +kernel
theorem dX7_slides_221 : decode cX7_slides 221 = .ok (.putfield 199, 3) := by decide +kernel
theorem dX7_slides_224 : decode cX7_slides 224 = .ok (.aload_n 0, 1) := by decide +kernel
theorem dX7_slides_225 : decode cX7_slides 225 = .ok (.getfield 26, 3) := by decide +kernel
theorem dX7_slides_228 : decode cX7_slides 228 = .ok (.iload_n 1, 1) := by decide +kernel
theorem dX7_slides_229 : decode cX7_slides 229 = .ok (.aload_n 0, 1) := by decide +kernel
theorem dX7_slides_230 : decode cX7_slides 230 = .ok (.getfield 121, 3) := by decide +kernel
theorem dX7_slides_233 : decode cX7_slides 233 = .ok (.iload_n 1, 1) := by decide +kernel
theorem dX7_slides_234 : decode cX7_slides 234 = .ok (.iaload, 1) := by decide +kernel
theorem dX7_slides_235 : decode cX7_slides 235 = .ok (.iastore, 1) := by decide +kernel
theorem dX7_slides_236 : decode cX7_slides 236 = .ok (.iconst 1, 1) := by decide +kernel
theorem dX7_slides_237 : decode cX7_slides 237 = .ok (.ireturn, 1) := by decide +kernel
set_option maxRecDepth 20000 in
theorem mc_X7_least_X7_least_r1 : mjIn wsX7_least wsX7_least_r1 := fun w h => (List.mem_cons_of_mem _ (List.mem_append_left _ (List.mem_append_left _ h)))
set_option maxRecDepth 20000 in
theorem ggX7_least_X7_right : GoodIn wsX7_least wsX7_right := mj_good (mj_cons (mc_X7_least_X7_least_r1 _ (List.mem_of_getElem? (i := 9) rfl)) mj_nil) (by decide +kernel)
set_option maxRecDepth 20000 in
theorem gX7_least_X7_right : GoodIn wsX7_least (va_wsS RX7 223 yX7_right wsX7_right) := goodIn_app (mj_good (mj_cons (mc_X7_least_X7_least_r1 _ (List.mem_of_getElem? (i := 6) rfl)) (mj_cons (mc_X7_least_X7_least_r1 _ (List.mem_of_getElem? (i := 7) rfl)) (mj_cons (mc_X7_least_X7_least_r1 _ (List.mem_of_getElem? (i := 8) rfl)) mj_nil))) (by decide +kernel)) ggX7_least_X7_right
set_option maxRecDepth 20000 in
theorem ggX7_least_X7_down : GoodIn wsX7_least wsX7_down := mj_good (mj_cons (mc_X7_least_X7_least_r1 _ (List.mem_of_getElem? (i := 12) rfl)) mj_nil) (by decide +kernel)
set_option maxRecDepth 20000 in
theorem gX7_least_X7_down : GoodIn wsX7_least (va_wsS RX7 226 yX7_down wsX7_down) := goodIn_app (mj_good (mj_cons (mc_X7_least_X7_least_r1 _ (List.mem_of_getElem? (i := 10) rfl)) (mj_cons (mc_X7_least_X7_least_r1 _ (List.mem_of_getElem? (i := 11) rfl)) (mj_cons (mc_X7_least_X7_least_r1 _ (List.mem_of_getElem? (i := 8) rfl)) mj_nil))) (by decide +kernel)) ggX7_least_X7_down
set_option maxRecDepth 20000 in
theorem mc_X7_least_X70 : mjIn wsX7_least wsX70 := fun w h => (List.mem_cons_of_mem _ (List.mem_append_right _ h))
set_option maxRecDepth 20000 in
theorem ggX7_least_X7_tall : GoodIn wsX7_least wsX7_tall := mj_good (mj_cons (mc_X7_least_X7_least_r1 _ (List.mem_of_getElem? (i := 16) rfl)) (mj_app (mj_cons (mc_X7_least_X7_least_r1 _ (List.mem_of_getElem? (i := 17) rfl)) (mj_cons (mc_X7_least_X7_least_r1 _ (List.mem_of_getElem? (i := 18) rfl)) (mj_cons (mc_X7_least_X7_least_r1 _ (List.mem_of_getElem? (i := 19) rfl)) (mj_cons (mc_X7_least_X7_least_r1 _ (List.mem_of_getElem? (i := 20) rfl)) (mj_cons (mc_X7_least_X7_least_r1 _ (List.mem_of_getElem? (i := 21) rfl)) (mj_cons (mc_X7_least_X7_least_r1 _ (List.mem_of_getElem? (i := 22) rfl)) (mj_cons (mc_X7_least_X7_least_r1 _ (List.mem_of_getElem? (i := 8) rfl)) (mj_cons (mc_X7_least_X7_least_r1 _ (List.mem_of_getElem? (i := 23) rfl)) mj_nil)))))))) mc_X7_least_X70)) (by decide +kernel)
set_option maxRecDepth 20000 in
theorem gX7_least_X7_tall : GoodIn wsX7_least (wsV RX7 206 RX7 yX7_tall wsX7_tall) := goodIn_app (mj_good (mj_cons (mc_X7_least_X7_least_r1 _ (List.mem_of_getElem? (i := 13) rfl)) (mj_cons (mc_X7_least_X7_least_r1 _ (List.mem_of_getElem? (i := 14) rfl)) (mj_cons (mc_X7_least_X7_least_r1 _ (List.mem_of_getElem? (i := 15) rfl)) (mj_cons (mc_X7_least_X7_least_r1 _ (List.mem_of_getElem? (i := 8) rfl)) mj_nil)))) (by decide +kernel)) ggX7_least_X7_tall
set_option maxRecDepth 20000 in
theorem mc_X7_least_X7_least_r2 : mjIn wsX7_least wsX7_least_r2 := fun w h => (List.mem_cons_of_mem _ (List.mem_append_left _ (List.mem_append_right _ h)))
set_option maxRecDepth 20000 in
theorem ggX7_least_X7_wide : GoodIn wsX7_least wsX7_wide := mj_good (mj_cons (mc_X7_least_X7_least_r2 _ (List.mem_of_getElem? (i := 3) rfl)) (mj_app (mj_cons (mc_X7_least_X7_least_r1 _ (List.mem_of_getElem? (i := 17) rfl)) (mj_cons (mc_X7_least_X7_least_r1 _ (List.mem_of_getElem? (i := 18) rfl)) (mj_cons (mc_X7_least_X7_least_r1 _ (List.mem_of_getElem? (i := 19) rfl)) (mj_cons (mc_X7_least_X7_least_r1 _ (List.mem_of_getElem? (i := 20) rfl)) (mj_cons (mc_X7_least_X7_least_r1 _ (List.mem_of_getElem? (i := 21) rfl)) (mj_cons (mc_X7_least_X7_least_r1 _ (List.mem_of_getElem? (i := 22) rfl)) (mj_cons (mc_X7_least_X7_least_r1 _ (List.mem_of_getElem? (i := 8) rfl)) (mj_cons (mc_X7_least_X7_least_r1 _ (List.mem_of_getElem? (i := 23) rfl)) mj_nil)))))))) mc_X7_least_X70)) (by decide +kernel)
set_option maxRecDepth 20000 in
theorem gX7_least_X7_wide : GoodIn wsX7_least (wsV RX7 210 RX7 yX7_wide wsX7_wide) := goodIn_app (mj_good (mj_cons (mc_X7_least_X7_least_r2 _ (List.mem_of_getElem? (i := 0) rfl)) (mj_cons (mc_X7_least_X7_least_r2 _ (List.mem_of_getElem? (i := 1) rfl)) (mj_cons (mc_X7_least_X7_least_r2 _ (List.mem_of_getElem? (i := 2) rfl)) (mj_cons (mc_X7_least_X7_least_r1 _ (List.mem_of_getElem? (i := 8) rfl)) mj_nil)))) (by decide +kernel)) ggX7_least_X7_wide
theorem dX7_least_0 : decode cX7_least 0 = .ok (.aload_n 0, 1) := by decide +kernel
theorem dX7_least_1 : decode cX7_least 1 = .ok (.getfield 121, 3) := by decide +kernel
theorem dX7_least_4 : decode cX7_least 4 = .ok (.iload_n 1, 1) := by decide +kernel
theorem dX7_least_5 : decode cX7_least 5 = .ok (.iaload, 1) := by decide +kernel
theorem dX7_least_6 : decode cX7_least 6 = .ok (.bipush 8, 2) := by decide +kernel
theorem dX7_least_8 : decode cX7_least 8 = .ok (.irem, 1) := by decide +kernel
theorem dX7_least_9 : decode cX7_least 9 = .ok (.iload_n 2, 1) := by decide +kernel
theorem dX7_least_10 : decode cX7_least 10 = .ok (.invokestatic 223, 3) := by decide +kernel
theorem dX7_least_13 : decode cX7_least 13 = .ok (.iadd, 1) := by decide +kernel
theorem dX7_least_14 : decode cX7_least 14 = .ok (.istore_n 3, 1) := by decide +kernel
theorem dX7_least_15 : decode cX7_least 15 = .ok (.aload_n 0, 1) := by decide +kernel
theorem dX7_least_16 : decode cX7_least 16 = .ok (.getfield 121, 3) := by decide +kernel
theorem dX7_least_19 : decode cX7_least 19 = .ok (.iload_n 1, 1) := by decide +kernel
theorem dX7_least_20 : decode cX7_least 20 = .ok (.iaload, 1) := by decide +kernel
theorem dX7_least_21 : decode cX7_least 21 = .ok (.bipush 8, 2) := by decide +kernel
theorem dX7_least_23 : decode cX7_least 23 = .ok (.idiv, 1) := by decide +kernel
theorem dX7_least_24 : decode cX7_least 24 = .ok (.iload_n 2, 1) := by decide +kernel
theorem dX7_least_25 : decode cX7_least 25 = .ok (.invokestatic 226, 3) := by decide +kernel
theorem dX7_least_28 : decode cX7_least 28 = .ok (.iadd, 1) := by decide +kernel
theorem dX7_least_29 : decode cX7_least 29 = .ok (.istore 4, 2) := by decide +kernel
theorem dX7_least_31 : decode cX7_least 31 = .ok (.bipush 12, 2) := by decide +kernel
theorem dX7_least_33 : decode cX7_least 33 = .ok (.istore 5, 2) := by decide +kernel
theorem dX7_least_35 : decode cX7_least 35 = .ok (.iload 4, 2) := by decide +kernel
theorem dX7_least_37 : decode cX7_least 37 = .ok (.istore 6, 2) := by decide +kernel
theorem dX7_least_39 : decode cX7_least 39 = .ok (.iload 6, 2) := by decide +kernel
theorem dX7_least_41 : decode cX7_least 41 = .ok (.iload 4, 2) := by decide +kernel
theorem dX7_least_43 : decode cX7_least 43 = .ok (.aload_n 0, 1) := by decide +kernel
theorem dX7_least_44 : decode cX7_least 44 = .ok (.iload_n 1, 1) := by decide +kernel
theorem dX7_least_45 : decode cX7_least 45 = .ok (.invokevirtual 206, 3) := by decide +kernel
theorem dX7_least_48 : decode cX7_least 48 = .ok (.iadd, 1) := by decide +kernel
theorem dX7_least_49 : decode cX7_least 49 = .ok (.if_icmp .ge 83, 3) := by decide +kernel
theorem dX7_least_52 : decode cX7_least 52 = .ok (.iload_n 3, 1) := by decide +kernel
theorem dX7_least_53 : decode cX7_least 53 = .ok (.istore 7, 2) := by decide +kernel
theorem dX7_least_55 : decode cX7_least 55 = .ok (.iload 7, 2) := by decide +kernel
theorem dX7_least_57 : decode cX7_least 57 = .ok (.iload_n 3, 1) := by decide +kernel
theorem dX7_least_58 : decode cX7_least 58 = .ok (.aload_n 0, 1) := by decide +kernel
theorem dX7_least_59 : decode cX7_least 59 = .ok (.iload_n 1, 1) := by decide +kernel
theorem dX7_least_60 : decode cX7_least 60 = .ok (.invokevirtual 210, 3) := by decide +kernel
theorem dX7_least_63 : decode cX7_least 63 = .ok (.iadd, 1) := by decide +kernel
theorem dX7_least_64 : decode cX7_least 64 = .ok (.if_icmp .ge 62, 3) := by decide +kernel
theorem dX7_least_67 : decode cX7_least 67 = .ok (.aload_n 0, 1) := by decide +kernel
theorem dX7_least_68 : decode cX7_least 68 = .ok (.getfield 118, 3) := by decide +kernel
theorem dX7_least_71 : decode cX7_least 71 = .ok (.iload 7, 2) := by decide +kernel
theorem dX7_least_73 : decode cX7_least 73 = .ok (.bipush 8, 2) := by decide +kernel
theorem dX7_least_75 : decode cX7_least 75 = .ok (.iload 6, 2) := by decide +kernel
theorem dX7_least_77 : decode cX7_least 77 = .ok (.imul, 1) := by decide +kernel
theorem dX7_least_78 : decode cX7_least 78 = .ok (.iadd, 1) := by decide +kernel
theorem dX7_least_79 : decode cX7_least 79 = .ok (.iaload, 1) := by decide +kernel
theorem dX7_least_80 : decode cX7_least 80 = .ok (.ifCond .lt 40, 3) := by decide +kernel
theorem dX7_least_83 : decode cX7_least 83 = .ok (.aload_n 0, 1) := by decide +kernel
theorem dX7_least_84 : decode cX7_least 84 = .ok (.getfield 118, 3) := by decide +kernel
theorem dX7_least_87 : decode cX7_least 87 = .ok (.iload 7, 2) := by decide +kernel
theorem dX7_least_89 : decode cX7_least 89 = .ok (.bipush 8, 2) := by decide +kernel
theorem dX7_least_91 : decode cX7_least 91 = .ok (.iload 6, 2) := by decide +kernel
theorem dX7_least_93 : decode cX7_least 93 = .ok (.imul, 1) := by decide +kernel
theorem dX7_least_94 : decode cX7_least 94 = .ok (.iadd, 1) := by decide +kernel
theorem dX7_least_95 : decode cX7_least 95 = .ok (.iaload, 1) := by decide +kernel
theorem dX7_least_96 : decode cX7_least 96 = .ok (.iload_n 1, 1) := by decide +kernel
theorem dX7_least_97 : decode cX7_least 97 = .ok (.if_icmp .eq 23, 3) := by decide +kernel
theorem dX7_least_100 : decode cX7_least 100 = .ok (.iload 5, 2) := by decide +kernel
theorem dX7_least_102 : decode cX7_least 102 = .ok (.aload_n 0, 1) := by decide +kernel
theorem dX7_least_103 : decode cX7_least 103 = .ok (.getfield 118, 3) := by decide +kernel
theorem dX7_least_106 : decode cX7_least 106 = .ok (.iload 7, 2) := by decide +kernel
theorem dX7_least_108 : decode cX7_least 108 = .ok (.bipush 8, 2) := by decide +kernel
theorem dX7_least_110 : decode cX7_least 110 = .ok (.iload 6, 2) := by decide +kernel
theorem dX7_least_112 : decode cX7_least 112 = .ok (.imul, 1) := by decide +kernel
theorem dX7_least_113 : decode cX7_least 113 = .ok (.iadd, 1) := by decide +kernel
theorem dX7_least_114 : decode cX7_least 114 = .ok (.iaload, 1) := by decide +kernel
theorem dX7_least_115 : decode cX7_least 115 = .ok (.invokestatic 233, 3) := by decide +kernel
theorem dX7_least_118 : decode cX7_least 118 = .ok (.istore 5, 2) := by decide +kernel
theorem dX7_least_120 : decode cX7_least 120 = .ok (.iinc 7 1, 3) := by decide +kernel
theorem dX7_least_123 : decode cX7_least 123 = .ok (.goto (-68), 3) := by decide +kernel
theorem dX7_least_126 : decode cX7_least 126 = .ok (.iinc 6 1, 3) := by decide +kernel
theorem dX7_least_129 : decode cX7_least 129 = .ok (.goto (-90), 3) := by decide +kernel
theorem dX7_least_132 : decode cX7_least 132 = .ok (.iload 5, 2) := by decide +kernel
theorem dX7_least_134 : decode cX7_least 134 = .ok (.ireturn, 1) := by decide +kernel
set_option maxRecDepth 20000 in
theorem mc_X7_slide_X7_slide_r1 : mjIn wsX7_slide wsX7_slide_r1 := fun w h => (List.mem_cons_of_mem _ (List.mem_append_left _ (List.mem_append_left _ h)))
set_option maxRecDepth 20000 in
theorem mc_X7_slide_X70 : mjIn wsX7_slide wsX70 := fun w h => (List.mem_cons_of_mem _ (List.mem_append_right _ h))
set_option maxRecDepth 20000 in
theorem ggX7_slide_X7_no : GoodIn wsX7_slide wsX7_no := mj_good (mj_cons (mc_X7_slide_X7_slide_r1 _ (List.mem_of_getElem? (i := 7) rfl)) (mj_app (mj_cons (mc_X7_slide_X7_slide_r1 _ (List.mem_of_getElem? (i := 1) rfl)) mj_nil) mc_X7_slide_X70)) (by decide +kernel)
set_option maxRecDepth 20000 in
theorem gX7_slide_X7_no : GoodIn wsX7_slide (wsV RX7 327 RX7 yX7_no wsX7_no) := goodIn_app (mj_good (mj_cons (mc_X7_slide_X7_slide_r1 _ (List.mem_of_getElem? (i := 3) rfl)) (mj_cons (mc_X7_slide_X7_slide_r1 _ (List.mem_of_getElem? (i := 4) rfl)) (mj_cons (mc_X7_slide_X7_slide_r1 _ (List.mem_of_getElem? (i := 5) rfl)) (mj_cons (mc_X7_slide_X7_slide_r1 _ (List.mem_of_getElem? (i := 6) rfl)) mj_nil)))) (by decide +kernel)) ggX7_slide_X7_no
set_option maxRecDepth 20000 in
theorem ggX7_slide_X7_isBarge : GoodIn wsX7_slide wsX7_isBarge := mj_good (mj_cons (mc_X7_slide_X7_slide_r1 _ (List.mem_of_getElem? (i := 11) rfl)) (mj_app (mj_cons (mc_X7_slide_X7_slide_r1 _ (List.mem_of_getElem? (i := 12) rfl)) mj_nil) mc_X7_slide_X70)) (by decide +kernel)
set_option maxRecDepth 20000 in
theorem gX7_slide_X7_isBarge : GoodIn wsX7_slide (wsV RX7 372 RX7 yX7_isBarge wsX7_isBarge) := goodIn_app (mj_good (mj_cons (mc_X7_slide_X7_slide_r1 _ (List.mem_of_getElem? (i := 8) rfl)) (mj_cons (mc_X7_slide_X7_slide_r1 _ (List.mem_of_getElem? (i := 9) rfl)) (mj_cons (mc_X7_slide_X7_slide_r1 _ (List.mem_of_getElem? (i := 10) rfl)) (mj_cons (mc_X7_slide_X7_slide_r1 _ (List.mem_of_getElem? (i := 6) rfl)) mj_nil)))) (by decide +kernel)) ggX7_slide_X7_isBarge
set_option maxRecDepth 20000 in
theorem mc_X7_slide_X7_slide_r2 : mjIn wsX7_slide wsX7_slide_r2 := fun w h => (List.mem_cons_of_mem _ (List.mem_append_left _ (List.mem_append_right _ (List.mem_append_left _ h))))
set_option maxRecDepth 20000 in
theorem mc_X7_slide_X7_slide_r3 : mjIn wsX7_slide wsX7_slide_r3 := fun w h => (List.mem_cons_of_mem _ (List.mem_append_left _ (List.mem_append_right _ (List.mem_append_right _ (List.mem_append_left _ h)))))
set_option maxRecDepth 20000 in
theorem mc_X7_slide_X7_slide_r4 : mjIn wsX7_slide wsX7_slide_r4 := fun w h => (List.mem_cons_of_mem _ (List.mem_append_left _ (List.mem_append_right _ (List.mem_append_right _ (List.mem_append_right _ h)))))
set_option maxRecDepth 20000 in
theorem ggX7_slide_X7_slides : GoodIn wsX7_slide wsX7_slides := mj_good (mj_cons (mc_X7_slide_X7_slide_r1 _ (List.mem_of_getElem? (i := 16) rfl)) (mj_app (mj_app (mj_cons (mc_X7_slide_X7_slide_r1 _ (List.mem_of_getElem? (i := 17) rfl)) (mj_cons (mc_X7_slide_X7_slide_r1 _ (List.mem_of_getElem? (i := 18) rfl)) (mj_cons (mc_X7_slide_X7_slide_r1 _ (List.mem_of_getElem? (i := 19) rfl)) (mj_cons (mc_X7_slide_X7_slide_r1 _ (List.mem_of_getElem? (i := 20) rfl)) (mj_cons (mc_X7_slide_X7_slide_r1 _ (List.mem_of_getElem? (i := 21) rfl)) (mj_cons (mc_X7_slide_X7_slide_r1 _ (List.mem_of_getElem? (i := 22) rfl)) (mj_cons (mc_X7_slide_X7_slide_r1 _ (List.mem_of_getElem? (i := 23) rfl)) (mj_cons (mc_X7_slide_X7_slide_r2 _ (List.mem_of_getElem? (i := 0) rfl)) (mj_cons (mc_X7_slide_X7_slide_r2 _ (List.mem_of_getElem? (i := 1) rfl)) (mj_cons (mc_X7_slide_X7_slide_r2 _ (List.mem_of_getElem? (i := 2) rfl)) (mj_cons (mc_X7_slide_X7_slide_r2 _ (List.mem_of_getElem? (i := 3) rfl)) (mj_cons (mc_X7_slide_X7_slide_r2 _ (List.mem_of_getElem? (i := 4) rfl)) (mj_cons (mc_X7_slide_X7_slide_r2 _ (List.mem_of_getElem? (i := 5) rfl)) (mj_cons (mc_X7_slide_X7_slide_r1 _ (List.mem_of_getElem? (i := 6) rfl)) (mj_cons (mc_X7_slide_X7_slide_r2 _ (List.mem_of_getElem? (i := 6) rfl)) (mj_cons (mc_X7_slide_X7_slide_r1 _ (List.mem_of_getElem? (i := 12) rfl)) (mj_cons (mc_X7_slide_X7_slide_r2 _ (List.mem_of_getElem? (i := 7) rfl)) (mj_cons (mc_X7_slide_X7_slide_r2 _ (List.mem_of_getElem? (i := 8) rfl)) (mj_cons (mc_X7_slide_X7_slide_r2 _ (List.mem_of_getElem? (i := 9) rfl)) (mj_cons (mc_X7_slide_X7_slide_r2 _ (List.mem_of_getElem? (i := 10) rfl)) (mj_cons (mc_X7_slide_X7_slide_r2 _ (List.mem_of_getElem? (i := 11) rfl)) (mj_cons (mc_X7_slide_X7_slide_r2 _ (List.mem_of_getElem? (i := 12) rfl)) (mj_cons (mc_X7_slide_X7_slide_r2 _ (List.mem_of_getElem? (i := 13) rfl)) (mj_cons (mc_X7_slide_X7_slide_r2 _ (List.mem_of_getElem? (i := 14) rfl)) mj_nil)))))))))))))))))))))))) (mj_app (mj_cons (mc_X7_slide_X7_slide_r2 _ (List.mem_of_getElem? (i := 15) rfl)) (mj_cons (mc_X7_slide_X7_slide_r2 _ (List.mem_of_getElem? (i := 16) rfl)) (mj_cons (mc_X7_slide_X7_slide_r2 _ (List.mem_of_getElem? (i := 17) rfl)) (mj_cons (mc_X7_slide_X7_slide_r2 _ (List.mem_of_getElem? (i := 18) rfl)) (mj_cons (mc_X7_slide_X7_slide_r2 _ (List.mem_of_getElem? (i := 19) rfl)) (mj_cons (mc_X7_slide_X7_slide_r2 _ (List.mem_of_getElem? (i := 20) rfl)) (mj_cons (mc_X7_slide_X7_slide_r2 _ (List.mem_of_getElem? (i := 21) rfl)) (mj_cons (mc_X7_slide_X7_slide_r2 _ (List.mem_of_getElem? (i := 22) rfl)) (mj_cons (mc_X7_slide_X7_slide_r2 _ (List.mem_of_getElem? (i := 23) rfl)) (mj_cons (mc_X7_slide_X7_slide_r3 _ (List.mem_of_getElem? (i := 0) rfl)) (mj_cons (mc_X7_slide_X7_slide_r3 _ (List.mem_of_getElem? (i := 1) rfl)) (mj_cons (mc_X7_slide_X7_slide_r3 _ (List.mem_of_getElem? (i := 2) rfl)) (mj_cons (mc_X7_slide_X7_slide_r3 _ (List.mem_of_getElem? (i := 3) rfl)) (mj_cons (mc_X7_slide_X7_slide_r3 _ (List.mem_of_getElem? (i := 4) rfl)) (mj_cons (mc_X7_slide_X7_slide_r3 _ (List.mem_of_getElem? (i := 5) rfl)) (mj_cons (mc_X7_slide_X7_slide_r3 _ (List.mem_of_getElem? (i := 6) rfl)) (mj_cons (mc_X7_slide_X7_slide_r3 _ (List.mem_of_getElem? (i := 7) rfl)) (mj_cons (mc_X7_slide_X7_slide_r3 _ (List.mem_of_getElem? (i := 8) rfl)) (mj_cons (mc_X7_slide_X7_slide_r3 _ (List.mem_of_getElem? (i := 9) rfl)) (mj_cons (mc_X7_slide_X7_slide_r3 _ (List.mem_of_getElem? (i := 10) rfl)) (mj_cons (mc_X7_slide_X7_slide_r3 _ (List.mem_of_getElem? (i := 11) rfl)) (mj_cons (mc_X7_slide_X7_slide_r3 _ (List.mem_of_getElem? (i := 12) rfl)) (mj_cons (mc_X7_slide_X7_slide_r3 _ (List.mem_of_getElem? (i := 13) rfl)) (mj_cons (mc_X7_slide_X7_slide_r3 _ (List.mem_of_getElem? (i := 14) rfl)) mj_nil)))))))))))))))))))))))) (mj_app (mj_cons (mc_X7_slide_X7_slide_r3 _ (List.mem_of_getElem? (i := 15) rfl)) (mj_cons (mc_X7_slide_X7_slide_r3 _ (List.mem_of_getElem? (i := 16) rfl)) (mj_cons (mc_X7_slide_X7_slide_r3 _ (List.mem_of_getElem? (i := 17) rfl)) (mj_cons (mc_X7_slide_X7_slide_r3 _ (List.mem_of_getElem? (i := 18) rfl)) (mj_cons (mc_X7_slide_X7_slide_r3 _ (List.mem_of_getElem? (i := 19) rfl)) (mj_cons (mc_X7_slide_X7_slide_r3 _ (List.mem_of_getElem? (i := 20) rfl)) (mj_cons (mc_X7_slide_X7_slide_r3 _ (List.mem_of_getElem? (i := 21) rfl)) (mj_cons (mc_X7_slide_X7_slide_r3 _ (List.mem_of_getElem? (i := 22) rfl)) (mj_cons (mc_X7_slide_X7_slide_r3 _ (List.mem_of_getElem? (i := 23) rfl)) (mj_cons (mc_X7_slide_X7_slide_r4 _ (List.mem_of_getElem? (i := 0) rfl)) (mj_cons (mc_X7_slide_X7_slide_r4 _ (List.mem_of_getElem? (i := 1) rfl)) (mj_cons (mc_X7_slide_X7_slide_r4 _ (List.mem_of_getElem? (i := 2) rfl)) (mj_cons (mc_X7_slide_X7_slide_r4 _ (List.mem_of_getElem? (i := 3) rfl)) (mj_cons (mc_X7_slide_X7_slide_r4 _ (List.mem_of_getElem? (i := 4) rfl)) (mj_cons (mc_X7_slide_X7_slide_r4 _ (List.mem_of_getElem? (i := 5) rfl)) (mj_cons (mc_X7_slide_X7_slide_r4 _ (List.mem_of_getElem? (i := 6) rfl)) (mj_cons (mc_X7_slide_X7_slide_r4 _ (List.mem_of_getElem? (i := 7) rfl)) (mj_cons (mc_X7_slide_X7_slide_r4 _ (List.mem_of_getElem? (i := 8) rfl)) (mj_cons (mc_X7_slide_X7_slide_r4 _ (List.mem_of_getElem? (i := 9) rfl)) (mj_cons (mc_X7_slide_X7_slide_r4 _ (List.mem_of_getElem? (i := 10) rfl)) (mj_cons (mc_X7_slide_X7_slide_r4 _ (List.mem_of_getElem? (i := 11) rfl)) (mj_cons (mc_X7_slide_X7_slide_r4 _ (List.mem_of_getElem? (i := 12) rfl)) (mj_cons (mc_X7_slide_X7_slide_r4 _ (List.mem_of_getElem? (i := 13) rfl)) (mj_cons (mc_X7_slide_X7_slide_r4 _ (List.mem_of_getElem? (i := 14) rfl)) mj_nil)))))))))))))))))))))))) (mj_cons (mc_X7_slide_X7_slide_r4 _ (List.mem_of_getElem? (i := 15) rfl)) (mj_cons (mc_X7_slide_X7_slide_r4 _ (List.mem_of_getElem? (i := 16) rfl)) (mj_cons (mc_X7_slide_X7_slide_r4 _ (List.mem_of_getElem? (i := 17) rfl)) (mj_cons (mc_X7_slide_X7_slide_r4 _ (List.mem_of_getElem? (i := 18) rfl)) (mj_cons (mc_X7_slide_X7_slide_r4 _ (List.mem_of_getElem? (i := 19) rfl)) (mj_cons (mc_X7_slide_X7_slide_r4 _ (List.mem_of_getElem? (i := 20) rfl)) (mj_cons (mc_X7_slide_X7_slide_r4 _ (List.mem_of_getElem? (i := 21) rfl)) (mj_cons (mc_X7_slide_X7_slide_r4 _ (List.mem_of_getElem? (i := 22) rfl)) (mj_cons (mc_X7_slide_X7_slide_r4 _ (List.mem_of_getElem? (i := 23) rfl)) mj_nil)))))))))))) mc_X7_slide_X70)) (by decide +kernel)
set_option maxRecDepth 20000 in
theorem gX7_slide_X7_slides : GoodIn wsX7_slide (wsV RX7 385 RX7 yX7_slides wsX7_slides) := goodIn_app (mj_good (mj_cons (mc_X7_slide_X7_slide_r1 _ (List.mem_of_getElem? (i := 13) rfl)) (mj_cons (mc_X7_slide_X7_slide_r1 _ (List.mem_of_getElem? (i := 14) rfl)) (mj_cons (mc_X7_slide_X7_slide_r1 _ (List.mem_of_getElem? (i := 15) rfl)) (mj_cons (mc_X7_slide_X7_slide_r1 _ (List.mem_of_getElem? (i := 6) rfl)) mj_nil)))) (by decide +kernel)) ggX7_slide_X7_slides
theorem dX7_slide_0 : decode cX7_slide 0 = .ok (.aload_n 0, 1) := by decide +kernel
theorem dX7_slide_1 : decode cX7_slide 1 = .ok (.iconst 0, 1) := by decide +kernel
theorem dX7_slide_2 : decode cX7_slide 2 = .ok (.putfield 184, 3) := by decide +kernel
theorem dX7_slide_5 : decode cX7_slide 5 = .ok (.aload_n 0, 1) := by decide +kernel
theorem dX7_slide_6 : decode cX7_slide 6 = .ok (.iconst 0, 1) := by decide +kernel
theorem dX7_slide_7 : decode cX7_slide 7 = .ok (.putfield 187, 3) := by decide +kernel
theorem dX7_slide_10 : decode cX7_slide 10 = .ok (.aload_n 0, 1) := by decide +kernel
theorem dX7_slide_11 : decode cX7_slide 11 = .ok (.getfield 303, 3) := by decide +kernel
theorem dX7_slide_14 : decode cX7_slide 14 = .ok (.ifCond .ne 9, 3) := by decide +kernel
theorem dX7_slide_17 : decode cX7_slide 17 = .ok (.aload_n 0, 1) := by decide +kernel
theorem dX7_slide_18 : decode cX7_slide 18 = .ok (.iconst 1, 1) := by decide +kernel
theorem dX7_slide_19 : decode cX7_slide 19 = .ok (.invokevirtual 327, 3) := by decide +kernel
theorem dX7_slide_22 : decode cX7_slide 22 = .ok (.ireturn, 1) := by decide +kernel
theorem dX7_slide_23 : decode cX7_slide 23 = .ok (.aload_n 0, 1) := by decide +kernel
theorem dX7_slide_24 : decode cX7_slide 24 = .ok (.iload_n 1, 1) := by decide +kernel
theorem dX7_slide_25 : decode cX7_slide 25 = .ok (.invokevirtual 372, 3) := by decide +kernel
theorem dX7_slide_28 : decode cX7_slide 28 = .ok (.ifCond .eq 23, 3) := by decide +kernel
theorem dX7_slide_31 : decode cX7_slide 31 = .ok (.iload_n 2, 1) := by decide +kernel
theorem dX7_slide_32 : decode cX7_slide 32 = .ok (.ifCond .lt 19, 3) := by decide +kernel
theorem dX7_slide_35 : decode cX7_slide 35 = .ok (.iload_n 2, 1) := by decide +kernel
theorem dX7_slide_36 : decode cX7_slide 36 = .ok (.iconst 3, 1) := by decide +kernel
theorem dX7_slide_37 : decode cX7_slide 37 = .ok (.if_icmp .gt 14, 3) := by decide +kernel
theorem dX7_slide_40 : decode cX7_slide 40 = .ok (.iload_n 3, 1) := by decide +kernel
theorem dX7_slide_41 : decode cX7_slide 41 = .ok (.iconst 1, 1) := by decide +kernel
theorem dX7_slide_42 : decode cX7_slide 42 = .ok (.if_icmp .lt 9, 3) := by decide +kernel
theorem dX7_slide_45 : decode cX7_slide 45 = .ok (.iload_n 3, 1) := by decide +kernel
theorem dX7_slide_46 : decode cX7_slide 46 = .ok (.bipush 7, 2) := by decide +kernel
theorem dX7_slide_48 : decode cX7_slide 48 = .ok (.if_icmp .le 9, 3) := by decide +kernel
theorem dX7_slide_51 : decode cX7_slide 51 = .ok (.aload_n 0, 1) := by decide +kernel
theorem dX7_slide_52 : decode cX7_slide 52 = .ok (.iconst 2, 1) := by decide +kernel
theorem dX7_slide_53 : decode cX7_slide 53 = .ok (.invokevirtual 327, 3) := by decide +kernel
theorem dX7_slide_56 : decode cX7_slide 56 = .ok (.ireturn, 1) := by decide +kernel
theorem dX7_slide_57 : decode cX7_slide 57 = .ok (.aload_n 0, 1) := by decide +kernel
theorem dX7_slide_58 : decode cX7_slide 58 = .ok (.iload_n 1, 1) := by decide +kernel
theorem dX7_slide_59 : decode cX7_slide 59 = .ok (.iload_n 2, 1) := by decide +kernel
theorem dX7_slide_60 : decode cX7_slide 60 = .ok (.iload_n 3, 1) := by decide +kernel
theorem dX7_slide_61 : decode cX7_slide 61 = .ok (.invokevirtual 385, 3) := by decide +kernel
theorem dX7_slide_64 : decode cX7_slide 64 = .ok (.ifCond .ne 12, 3) := by decide +kernel
theorem dX7_slide_67 : decode cX7_slide 67 = .ok (.aload_n 0, 1) := by decide +kernel
theorem dX7_slide_68 : decode cX7_slide 68 = .ok (.bipush 9, 2) := by decide +kernel
theorem dX7_slide_70 : decode cX7_slide 70 = .ok (.invokevirtual 327, 3) := by decide +kernel
theorem dX7_slide_73 : decode cX7_slide 73 = .ok (.ifCond .eq 7, 3) := by decide +kernel
theorem dX7_slide_76 : decode cX7_slide 76 = .ok (.iconst 1, 1) := by decide +kernel
theorem dX7_slide_77 : decode cX7_slide 77 = .ok (.goto 4, 3) := by decide +kernel
theorem dX7_slide_80 : decode cX7_slide 80 = .ok (.iconst 0, 1) := by decide +kernel
theorem dX7_slide_81 : decode cX7_slide 81 = .ok (.ireturn, 1) := by decide +kernel
theorem dX7_why_0 : decode cX7_why 0 = .ok (.aload_n 0, 1) := by decide +kernel
theorem dX7_why_1 : decode cX7_why 1 = .ok (.iconst 0, 1) := by decide +kernel
theorem dX7_why_2 : decode cX7_why 2 = .ok (.putfield 184, 3) := by decide +kernel
theorem dX7_why_5 : decode cX7_why 5 = .ok (.iload_n 1, 1) := by decide +kernel
theorem dX7_why_6 : decode cX7_why 6 = .ok (.ifCond .ne 10, 3) := by decide +kernel
theorem dX7_why_9 : decode cX7_why 9 = .ok (.aload_n 0, 1) := by decide +kernel
theorem dX7_why_10 : decode cX7_why 10 = .ok (.getfield 56, 3) := by decide +kernel
theorem dX7_why_13 : decode cX7_why 13 = .ok (.goto 28, 3) := by decide +kernel
theorem dX7_why_16 : decode cX7_why 16 = .ok (.iload_n 1, 1) := by decide +kernel
theorem dX7_why_17 : decode cX7_why 17 = .ok (.iconst 1, 1) := by decide +kernel
theorem dX7_why_18 : decode cX7_why 18 = .ok (.if_icmp .ne 10, 3) := by decide +kernel
theorem dX7_why_21 : decode cX7_why 21 = .ok (.aload_n 0, 1) := by decide +kernel
theorem dX7_why_22 : decode cX7_why 22 = .ok (.getfield 60, 3) := by decide +kernel
theorem dX7_why_25 : decode cX7_why 25 = .ok (.goto 16, 3) := by decide +kernel
theorem dX7_why_28 : decode cX7_why 28 = .ok (.iload_n 1, 1) := by decide +kernel
theorem dX7_why_29 : decode cX7_why 29 = .ok (.iconst 2, 1) := by decide +kernel
theorem dX7_why_30 : decode cX7_why 30 = .ok (.if_icmp .ne 10, 3) := by decide +kernel
theorem dX7_why_33 : decode cX7_why 33 = .ok (.aload_n 0, 1) := by decide +kernel
theorem dX7_why_34 : decode cX7_why 34 = .ok (.getfield 63, 3) := by decide +kernel
theorem dX7_why_37 : decode cX7_why 37 = .ok (.goto 4, 3) := by decide +kernel
theorem dX7_why_40 : decode cX7_why 40 = .ok (.iconst (-1), 1) := by decide +kernel
theorem dX7_why_41 : decode cX7_why 41 = .ok (.ireturn, 1) := by decide +kernel
set_option maxRecDepth 20000 in
theorem mc_X7_undo_X70 : mjIn wsX7_undo wsX70 := fun w h => (List.mem_cons_of_mem _ (List.mem_append_right _ h))
set_option maxRecDepth 20000 in
theorem ggX7_undo_X7_no : GoodIn wsX7_undo wsX7_no := mj_good (mj_cons (List.mem_of_getElem? (i := 17) rfl) (mj_app (mj_cons (List.mem_of_getElem? (i := 2) rfl) mj_nil) mc_X7_undo_X70)) (by decide +kernel)
set_option maxRecDepth 20000 in
theorem gX7_undo_X7_no : GoodIn wsX7_undo (wsV RX7 327 RX7 yX7_no wsX7_no) := goodIn_app (mj_good (mj_cons (List.mem_of_getElem? (i := 13) rfl) (mj_cons (List.mem_of_getElem? (i := 14) rfl) (mj_cons (List.mem_of_getElem? (i := 15) rfl) (mj_cons (List.mem_of_getElem? (i := 16) rfl) mj_nil)))) (by decide +kernel)) ggX7_undo_X7_no
theorem dX7_undo_0 : decode cX7_undo 0 = .ok (.aload_n 0, 1) := by decide +kernel
theorem dX7_undo_1 : decode cX7_undo 1 = .ok (.iconst 0, 1) := by decide +kernel
theorem dX7_undo_2 : decode cX7_undo 2 = .ok (.putfield 184, 3) := by decide +kernel
theorem dX7_undo_5 : decode cX7_undo 5 = .ok (.aload_n 0, 1) := by decide +kernel
theorem dX7_undo_6 : decode cX7_undo 6 = .ok (.iconst 0, 1) := by decide +kernel
theorem dX7_undo_7 : decode cX7_undo 7 = .ok (.putfield 187, 3) := by decide +kernel
theorem dX7_undo_10 : decode cX7_undo 10 = .ok (.aload_n 0, 1) := by decide +kernel
theorem dX7_undo_11 : decode cX7_undo 11 = .ok (.getfield 303, 3) := by decide +kernel
theorem dX7_undo_14 : decode cX7_undo 14 = .ok (.ifCond .ne 9, 3) := by decide +kernel
theorem dX7_undo_17 : decode cX7_undo 17 = .ok (.aload_n 0, 1) := by decide +kernel
theorem dX7_undo_18 : decode cX7_undo 18 = .ok (.iconst 1, 1) := by decide +kernel
theorem dX7_undo_19 : decode cX7_undo 19 = .ok (.invokevirtual 327, 3) := by decide +kernel
theorem dX7_undo_22 : decode cX7_undo 22 = .ok (.ireturn, 1) := by decide +kernel
theorem dX7_undo_23 : decode cX7_undo 23 = .ok (.aload_n 0, 1) := by decide +kernel
theorem dX7_undo_24 : decode cX7_undo 24 = .ok (.getfield 196, 3) := by decide +kernel
theorem dX7_undo_27 : decode cX7_undo 27 = .ok (.ifCond .ne 10, 3) := by decide +kernel
theorem dX7_undo_30 : decode cX7_undo 30 = .ok (.aload_n 0, 1) := by decide +kernel
theorem dX7_undo_31 : decode cX7_undo 31 = .ok (.bipush 11, 2) := by decide +kernel
theorem dX7_undo_33 : decode cX7_undo 33 = .ok (.invokevirtual 327, 3) := by decide +kernel
theorem dX7_undo_36 : decode cX7_undo 36 = .ok (.ireturn, 1) := by decide +kernel
theorem dX7_undo_37 : decode cX7_undo 37 = .ok (.aload_n 0, 1) := by decide +kernel
theorem dX7_undo_38 : decode cX7_undo 38 = .ok (.dup, 1) := by decide +kernel
theorem dX7_undo_39 : decode cX7_undo 39 = .ok (.getfield 196, 3) := by decide +kernel
theorem dX7_undo_42 : decode cX7_undo 42 = .ok (.iconst 1, 1) := by decide +kernel
theorem dX7_undo_43 : decode cX7_undo 43 = .ok (.isub, 1) := by decide +kernel
theorem dX7_undo_44 : decode cX7_undo 44 = .ok (.putfield 196, 3) := by decide +kernel
theorem dX7_undo_47 : decode cX7_undo 47 = .ok (.aload_n 0, 1) := by decide +kernel
theorem dX7_undo_48 : decode cX7_undo 48 = .ok (.getfield 47, 3) := by decide +kernel
theorem dX7_undo_51 : decode cX7_undo 51 = .ok (.aload_n 0, 1) := by decide +kernel
theorem dX7_undo_52 : decode cX7_undo 52 = .ok (.getfield 199, 3) := by decide +kernel
theorem dX7_undo_55 : decode cX7_undo 55 = .ok (.aload_n 0, 1) := by decide +kernel
theorem dX7_undo_56 : decode cX7_undo 56 = .ok (.getfield 38, 3) := by decide +kernel
theorem dX7_undo_59 : decode cX7_undo 59 = .ok (.aload_n 0, 1) := by decide +kernel
theorem dX7_undo_60 : decode cX7_undo 60 = .ok (.getfield 196, 3) := by decide +kernel
theorem dX7_undo_63 : decode cX7_undo 63 = .ok (.iaload, 1) := by decide +kernel
theorem dX7_undo_64 : decode cX7_undo 64 = .ok (.iastore, 1) := by decide +kernel
theorem dX7_undo_65 : decode cX7_undo 65 = .ok (.aload_n 0, 1) := by decide +kernel
theorem dX7_undo_66 : decode cX7_undo 66 = .ok (.getfield 50, 3) := by decide +kernel
theorem dX7_undo_69 : decode cX7_undo 69 = .ok (.aload_n 0, 1) := by decide +kernel
theorem dX7_undo_70 : decode cX7_undo 70 = .ok (.getfield 199, 3) := by decide +kernel
theorem dX7_undo_73 : decode cX7_undo 73 = .ok (.aload_n 0, 1) := by decide +kernel
theorem dX7_undo_74 : decode cX7_undo 74 = .ok (.getfield 41, 3) := by decide +kernel
theorem dX7_undo_77 : decode cX7_undo 77 = .ok (.aload_n 0, 1) := by decide +kernel
theorem dX7_undo_78 : decode cX7_undo 78 = .ok (.getfield 196, 3) := by decide +kernel
theorem dX7_undo_81 : decode cX7_undo 81 = .ok (.iaload, 1) := by decide +kernel
theorem dX7_undo_82 : decode cX7_undo 82 = .ok (.iastore, 1) := by decide +kernel
theorem dX7_undo_83 : decode cX7_undo 83 = .ok (.aload_n 0, 1) := by decide +kernel
theorem dX7_undo_84 : decode cX7_undo 84 = .ok (.getfield 53, 3) := by decide +kernel
theorem dX7_undo_87 : decode cX7_undo 87 = .ok (.aload_n 0, 1) := by decide +kernel
theorem dX7_undo_88 : decode cX7_undo 88 = .ok (.getfield 199, 3) := by decide +kernel
theorem dX7_undo_91 : decode cX7_undo 91 = .ok (.aload_n 0, 1) := by decide +kernel
theorem dX7_undo_92 : decode cX7_undo 92 = .ok (.getfield 44, 3) := by decide +kernel
theorem dX7_undo_95 : decode cX7_undo 95 = .ok (.aload_n 0, 1) := by decide +kernel
theorem dX7_undo_96 : decode cX7_undo 96 = .ok (.getfield 196, 3) := by decide +kernel
theorem dX7_undo_99 : decode cX7_undo 99 = .ok (.iaload, 1) := by decide +kernel
theorem dX7_undo_100 : decode cX7_undo 100 = .ok (.iastore, 1) := by decide +kernel
theorem dX7_undo_101 : decode cX7_undo 101 = .ok (.aload_n 0, 1) := by decide +kernel
theorem dX7_undo_102 : decode cX7_undo 102 = .ok (.dup, 1) := by decide +kernel
theorem dX7_undo_103 : decode cX7_undo 103 = .ok (.getfield 199, 3) := by decide +kernel
theorem dX7_undo_106 : decode cX7_undo 106 = .ok (.iconst 1, 1) := by decide +kernel
theorem dX7_undo_107 : decode cX7_undo 107 = .ok (.iadd, 1) := by decide +kernel
theorem dX7_undo_108 : decode cX7_undo 108 = .ok (.putfield 199, 3) := by decide +kernel
theorem dX7_undo_111 : decode cX7_undo 111 = .ok (.aload_n 0, 1) := by decide +kernel
theorem dX7_undo_112 : decode cX7_undo 112 = .ok (.getfield 26, 3) := by decide +kernel
theorem dX7_undo_115 : decode cX7_undo 115 = .ok (.aload_n 0, 1) := by decide +kernel
theorem dX7_undo_116 : decode cX7_undo 116 = .ok (.getfield 38, 3) := by decide +kernel
theorem dX7_undo_119 : decode cX7_undo 119 = .ok (.aload_n 0, 1) := by decide +kernel
theorem dX7_undo_120 : decode cX7_undo 120 = .ok (.getfield 196, 3) := by decide +kernel
theorem dX7_undo_123 : decode cX7_undo 123 = .ok (.iaload, 1) := by decide +kernel
theorem dX7_undo_124 : decode cX7_undo 124 = .ok (.aload_n 0, 1) := by decide +kernel
theorem dX7_undo_125 : decode cX7_undo 125 = .ok (.getfield 41, 3) := by decide +kernel
theorem dX7_undo_128 : decode cX7_undo 128 = .ok (.aload_n 0, 1) := by decide +kernel
theorem dX7_undo_129 : decode cX7_undo 129 = .ok (.getfield 196, 3) := by decide +kernel
theorem dX7_undo_132 : decode cX7_undo 132 = .ok (.iaload, 1) := by decide +kernel
theorem dX7_undo_133 : decode cX7_undo 133 = .ok (.iastore, 1) := by decide +kernel
theorem dX7_undo_134 : decode cX7_undo 134 = .ok (.iconst 1, 1) := by decide +kernel
theorem dX7_undo_135 : decode cX7_undo 135 = .ok (.ireturn, 1) := by decide +kernel
set_option maxRecDepth 20000 in
theorem mc_X7_redo_X70 : mjIn wsX7_redo wsX70 := fun w h => (List.mem_cons_of_mem _ (List.mem_append_right _ h))
set_option maxRecDepth 20000 in
theorem ggX7_redo_X7_no : GoodIn wsX7_redo wsX7_no := mj_good (mj_cons (List.mem_of_getElem? (i := 17) rfl) (mj_app (mj_cons (List.mem_of_getElem? (i := 2) rfl) mj_nil) mc_X7_redo_X70)) (by decide +kernel)
set_option maxRecDepth 20000 in
theorem gX7_redo_X7_no : GoodIn wsX7_redo (wsV RX7 327 RX7 yX7_no wsX7_no) := goodIn_app (mj_good (mj_cons (List.mem_of_getElem? (i := 13) rfl) (mj_cons (List.mem_of_getElem? (i := 14) rfl) (mj_cons (List.mem_of_getElem? (i := 15) rfl) (mj_cons (List.mem_of_getElem? (i := 16) rfl) mj_nil)))) (by decide +kernel)) ggX7_redo_X7_no
theorem dX7_redo_0 : decode cX7_redo 0 = .ok (.aload_n 0, 1) := by decide +kernel
theorem dX7_redo_1 : decode cX7_redo 1 = .ok (.iconst 0, 1) := by decide +kernel
theorem dX7_redo_2 : decode cX7_redo 2 = .ok (.putfield 184, 3) := by decide +kernel
theorem dX7_redo_5 : decode cX7_redo 5 = .ok (.aload_n 0, 1) := by decide +kernel
theorem dX7_redo_6 : decode cX7_redo 6 = .ok (.iconst 0, 1) := by decide +kernel
theorem dX7_redo_7 : decode cX7_redo 7 = .ok (.putfield 187, 3) := by decide +kernel
theorem dX7_redo_10 : decode cX7_redo 10 = .ok (.aload_n 0, 1) := by decide +kernel
theorem dX7_redo_11 : decode cX7_redo 11 = .ok (.getfield 303, 3) := by decide +kernel
theorem dX7_redo_14 : decode cX7_redo 14 = .ok (.ifCond .ne 9, 3) := by decide +kernel
theorem dX7_redo_17 : decode cX7_redo 17 = .ok (.aload_n 0, 1) := by decide +kernel
theorem dX7_redo_18 : decode cX7_redo 18 = .ok (.iconst 1, 1) := by decide +kernel
theorem dX7_redo_19 : decode cX7_redo 19 = .ok (.invokevirtual 327, 3) := by decide +kernel
theorem dX7_redo_22 : decode cX7_redo 22 = .ok (.ireturn, 1) := by decide +kernel
theorem dX7_redo_23 : decode cX7_redo 23 = .ok (.aload_n 0, 1) := by decide +kernel
theorem dX7_redo_24 : decode cX7_redo 24 = .ok (.getfield 199, 3) := by decide +kernel
theorem dX7_redo_27 : decode cX7_redo 27 = .ok (.ifCond .ne 10, 3) := by decide +kernel
theorem dX7_redo_30 : decode cX7_redo 30 = .ok (.aload_n 0, 1) := by decide +kernel
theorem dX7_redo_31 : decode cX7_redo 31 = .ok (.bipush 11, 2) := by decide +kernel
theorem dX7_redo_33 : decode cX7_redo 33 = .ok (.invokevirtual 327, 3) := by decide +kernel
theorem dX7_redo_36 : decode cX7_redo 36 = .ok (.ireturn, 1) := by decide +kernel
theorem dX7_redo_37 : decode cX7_redo 37 = .ok (.aload_n 0, 1) := by decide +kernel
theorem dX7_redo_38 : decode cX7_redo 38 = .ok (.dup, 1) := by decide +kernel
theorem dX7_redo_39 : decode cX7_redo 39 = .ok (.getfield 199, 3) := by decide +kernel
theorem dX7_redo_42 : decode cX7_redo 42 = .ok (.iconst 1, 1) := by decide +kernel
theorem dX7_redo_43 : decode cX7_redo 43 = .ok (.isub, 1) := by decide +kernel
theorem dX7_redo_44 : decode cX7_redo 44 = .ok (.putfield 199, 3) := by decide +kernel
theorem dX7_redo_47 : decode cX7_redo 47 = .ok (.aload_n 0, 1) := by decide +kernel
theorem dX7_redo_48 : decode cX7_redo 48 = .ok (.getfield 38, 3) := by decide +kernel
theorem dX7_redo_51 : decode cX7_redo 51 = .ok (.aload_n 0, 1) := by decide +kernel
theorem dX7_redo_52 : decode cX7_redo 52 = .ok (.getfield 196, 3) := by decide +kernel
theorem dX7_redo_55 : decode cX7_redo 55 = .ok (.aload_n 0, 1) := by decide +kernel
theorem dX7_redo_56 : decode cX7_redo 56 = .ok (.getfield 47, 3) := by decide +kernel
theorem dX7_redo_59 : decode cX7_redo 59 = .ok (.aload_n 0, 1) := by decide +kernel
theorem dX7_redo_60 : decode cX7_redo 60 = .ok (.getfield 199, 3) := by decide +kernel
theorem dX7_redo_63 : decode cX7_redo 63 = .ok (.iaload, 1) := by decide +kernel
theorem dX7_redo_64 : decode cX7_redo 64 = .ok (.iastore, 1) := by decide +kernel
theorem dX7_redo_65 : decode cX7_redo 65 = .ok (.aload_n 0, 1) := by decide +kernel
theorem dX7_redo_66 : decode cX7_redo 66 = .ok (.getfield 41, 3) := by decide +kernel
theorem dX7_redo_69 : decode cX7_redo 69 = .ok (.aload_n 0, 1) := by decide +kernel
theorem dX7_redo_70 : decode cX7_redo 70 = .ok (.getfield 196, 3) := by decide +kernel
theorem dX7_redo_73 : decode cX7_redo 73 = .ok (.aload_n 0, 1) := by decide +kernel
theorem dX7_redo_74 : decode cX7_redo 74 = .ok (.getfield 50, 3) := by decide +kernel
theorem dX7_redo_77 : decode cX7_redo 77 = .ok (.aload_n 0, 1) := by decide +kernel
theorem dX7_redo_78 : decode cX7_redo 78 = .ok (.getfield 199, 3) := by decide +kernel
theorem dX7_redo_81 : decode cX7_redo 81 = .ok (.iaload, 1) := by decide +kernel
theorem dX7_redo_82 : decode cX7_redo 82 = .ok (.iastore, 1) := by decide +kernel
theorem dX7_redo_83 : decode cX7_redo 83 = .ok (.aload_n 0, 1) := by decide +kernel
theorem dX7_redo_84 : decode cX7_redo 84 = .ok (.getfield 44, 3) := by decide +kernel
theorem dX7_redo_87 : decode cX7_redo 87 = .ok (.aload_n 0, 1) := by decide +kernel
theorem dX7_redo_88 : decode cX7_redo 88 = .ok (.getfield 196, 3) := by decide +kernel
theorem dX7_redo_91 : decode cX7_redo 91 = .ok (.aload_n 0, 1) := by decide +kernel
theorem dX7_redo_92 : decode cX7_redo 92 = .ok (.getfield 53, 3) := by decide +kernel
theorem dX7_redo_95 : decode cX7_redo 95 = .ok (.aload_n 0, 1) := by decide +kernel
theorem dX7_redo_96 : decode cX7_redo 96 = .ok (.getfield 199, 3) := by decide +kernel
theorem dX7_redo_99 : decode cX7_redo 99 = .ok (.iaload, 1) := by decide +kernel
theorem dX7_redo_100 : decode cX7_redo 100 = .ok (.iastore, 1) := by decide +kernel
theorem dX7_redo_101 : decode cX7_redo 101 = .ok (.aload_n 0, 1) := by decide +kernel
theorem dX7_redo_102 : decode cX7_redo 102 = .ok (.dup, 1) := by decide +kernel
theorem dX7_redo_103 : decode cX7_redo 103 = .ok (.getfield 196, 3) := by decide +kernel
theorem dX7_redo_106 : decode cX7_redo 106 = .ok (.iconst 1, 1) := by decide +kernel
theorem dX7_redo_107 : decode cX7_redo 107 = .ok (.iadd, 1) := by decide +kernel
theorem dX7_redo_108 : decode cX7_redo 108 = .ok (.putfield 196, 3) := by decide +kernel
theorem dX7_redo_111 : decode cX7_redo 111 = .ok (.aload_n 0, 1) := by decide +kernel
theorem dX7_redo_112 : decode cX7_redo 112 = .ok (.getfield 26, 3) := by decide +kernel
theorem dX7_redo_115 : decode cX7_redo 115 = .ok (.aload_n 0, 1) := by decide +kernel
theorem dX7_redo_116 : decode cX7_redo 116 = .ok (.getfield 47, 3) := by decide +kernel
theorem dX7_redo_119 : decode cX7_redo 119 = .ok (.aload_n 0, 1) := by decide +kernel
theorem dX7_redo_120 : decode cX7_redo 120 = .ok (.getfield 199, 3) := by decide +kernel
theorem dX7_redo_123 : decode cX7_redo 123 = .ok (.iaload, 1) := by decide +kernel
theorem dX7_redo_124 : decode cX7_redo 124 = .ok (.aload_n 0, 1) := by decide +kernel
theorem dX7_redo_125 : decode cX7_redo 125 = .ok (.getfield 53, 3) := by decide +kernel
theorem dX7_redo_128 : decode cX7_redo 128 = .ok (.aload_n 0, 1) := by decide +kernel
theorem dX7_redo_129 : decode cX7_redo 129 = .ok (.getfield 199, 3) := by decide +kernel
theorem dX7_redo_132 : decode cX7_redo 132 = .ok (.iaload, 1) := by decide +kernel
theorem dX7_redo_133 : decode cX7_redo 133 = .ok (.iastore, 1) := by decide +kernel
theorem dX7_redo_134 : decode cX7_redo 134 = .ok (.iconst 1, 1) := by decide +kernel
theorem dX7_redo_135 : decode cX7_redo 135 = .ok (.ireturn, 1) := by decide +kernel
set_option maxRecDepth 20000 in
theorem mc_X7_follow_X7_follow_r1 : mjIn wsX7_follow wsX7_follow_r1 := fun w h => (List.mem_cons_of_mem _ (List.mem_append_left _ (List.mem_append_left _ h)))
set_option maxRecDepth 20000 in
theorem mc_X7_follow_X70 : mjIn wsX7_follow wsX70 := fun w h => (List.mem_cons_of_mem _ (List.mem_append_right _ h))
set_option maxRecDepth 20000 in
theorem ggX7_follow_X7_refuse : GoodIn wsX7_follow wsX7_refuse := mj_good (mj_cons (mc_X7_follow_X7_follow_r1 _ (List.mem_of_getElem? (i := 12) rfl)) (mj_app (mj_cons (mc_X7_follow_X7_follow_r1 _ (List.mem_of_getElem? (i := 1) rfl)) mj_nil) mc_X7_follow_X70)) (by decide +kernel)
set_option maxRecDepth 20000 in
theorem gX7_follow_X7_refuse : GoodIn wsX7_follow (wsV RX7 290 RX7 yX7_refuse wsX7_refuse) := goodIn_app (mj_good (mj_cons (mc_X7_follow_X7_follow_r1 _ (List.mem_of_getElem? (i := 8) rfl)) (mj_cons (mc_X7_follow_X7_follow_r1 _ (List.mem_of_getElem? (i := 9) rfl)) (mj_cons (mc_X7_follow_X7_follow_r1 _ (List.mem_of_getElem? (i := 10) rfl)) (mj_cons (mc_X7_follow_X7_follow_r1 _ (List.mem_of_getElem? (i := 11) rfl)) mj_nil)))) (by decide +kernel)) ggX7_follow_X7_refuse
set_option maxRecDepth 20000 in
theorem ggX7_follow_X7_isBarge : GoodIn wsX7_follow wsX7_isBarge := mj_good (mj_cons (mc_X7_follow_X7_follow_r1 _ (List.mem_of_getElem? (i := 16) rfl)) (mj_app (mj_cons (mc_X7_follow_X7_follow_r1 _ (List.mem_of_getElem? (i := 17) rfl)) mj_nil) mc_X7_follow_X70)) (by decide +kernel)
set_option maxRecDepth 20000 in
theorem gX7_follow_X7_isBarge : GoodIn wsX7_follow (wsV RX7 372 RX7 yX7_isBarge wsX7_isBarge) := goodIn_app (mj_good (mj_cons (mc_X7_follow_X7_follow_r1 _ (List.mem_of_getElem? (i := 13) rfl)) (mj_cons (mc_X7_follow_X7_follow_r1 _ (List.mem_of_getElem? (i := 14) rfl)) (mj_cons (mc_X7_follow_X7_follow_r1 _ (List.mem_of_getElem? (i := 15) rfl)) (mj_cons (mc_X7_follow_X7_follow_r1 _ (List.mem_of_getElem? (i := 11) rfl)) mj_nil)))) (by decide +kernel)) ggX7_follow_X7_isBarge
set_option maxRecDepth 20000 in
theorem mc_X7_follow_X7_follow_r2 : mjIn wsX7_follow wsX7_follow_r2 := fun w h => (List.mem_cons_of_mem _ (List.mem_append_left _ (List.mem_append_right _ (List.mem_append_left _ h))))
set_option maxRecDepth 20000 in
theorem mc_X7_follow_X7_follow_r3 : mjIn wsX7_follow wsX7_follow_r3 := fun w h => (List.mem_cons_of_mem _ (List.mem_append_left _ (List.mem_append_right _ (List.mem_append_right _ (List.mem_append_left _ h)))))
set_option maxRecDepth 20000 in
theorem mc_X7_follow_X7_follow_r4 : mjIn wsX7_follow wsX7_follow_r4 := fun w h => (List.mem_cons_of_mem _ (List.mem_append_left _ (List.mem_append_right _ (List.mem_append_right _ (List.mem_append_right _ (List.mem_append_left _ h))))))
set_option maxRecDepth 20000 in
theorem mc_X7_follow_X7_follow_r5 : mjIn wsX7_follow wsX7_follow_r5 := fun w h => (List.mem_cons_of_mem _ (List.mem_append_left _ (List.mem_append_right _ (List.mem_append_right _ (List.mem_append_right _ (List.mem_append_right _ h))))))
set_option maxRecDepth 20000 in
theorem ggX7_follow_X7_slidesQuietly : GoodIn wsX7_follow wsX7_slidesQuietly := mj_good (mj_cons (mc_X7_follow_X7_follow_r1 _ (List.mem_of_getElem? (i := 21) rfl)) (mj_app (mj_app (mj_cons (mc_X7_follow_X7_follow_r1 _ (List.mem_of_getElem? (i := 22) rfl)) (mj_cons (mc_X7_follow_X7_follow_r1 _ (List.mem_of_getElem? (i := 23) rfl)) (mj_cons (mc_X7_follow_X7_follow_r2 _ (List.mem_of_getElem? (i := 0) rfl)) (mj_cons (mc_X7_follow_X7_follow_r2 _ (List.mem_of_getElem? (i := 1) rfl)) (mj_cons (mc_X7_follow_X7_follow_r2 _ (List.mem_of_getElem? (i := 2) rfl)) (mj_cons (mc_X7_follow_X7_follow_r2 _ (List.mem_of_getElem? (i := 3) rfl)) (mj_cons (mc_X7_follow_X7_follow_r1 _ (List.mem_of_getElem? (i := 11) rfl)) (mj_cons (mc_X7_follow_X7_follow_r2 _ (List.mem_of_getElem? (i := 4) rfl)) (mj_cons (mc_X7_follow_X7_follow_r2 _ (List.mem_of_getElem? (i := 5) rfl)) (mj_cons (mc_X7_follow_X7_follow_r2 _ (List.mem_of_getElem? (i := 6) rfl)) (mj_cons (mc_X7_follow_X7_follow_r2 _ (List.mem_of_getElem? (i := 7) rfl)) (mj_cons (mc_X7_follow_X7_follow_r2 _ (List.mem_of_getElem? (i := 8) rfl)) (mj_cons (mc_X7_follow_X7_follow_r2 _ (List.mem_of_getElem? (i := 9) rfl)) (mj_cons (mc_X7_follow_X7_follow_r2 _ (List.mem_of_getElem? (i := 10) rfl)) (mj_cons (mc_X7_follow_X7_follow_r2 _ (List.mem_of_getElem? (i := 11) rfl)) (mj_cons (mc_X7_follow_X7_follow_r2 _ (List.mem_of_getElem? (i := 12) rfl)) (mj_cons (mc_X7_follow_X7_follow_r2 _ (List.mem_of_getElem? (i := 13) rfl)) (mj_cons (mc_X7_follow_X7_follow_r2 _ (List.mem_of_getElem? (i := 14) rfl)) (mj_cons (mc_X7_follow_X7_follow_r2 _ (List.mem_of_getElem? (i := 15) rfl)) (mj_cons (mc_X7_follow_X7_follow_r1 _ (List.mem_of_getElem? (i := 17) rfl)) (mj_cons (mc_X7_follow_X7_follow_r2 _ (List.mem_of_getElem? (i := 16) rfl)) (mj_cons (mc_X7_follow_X7_follow_r2 _ (List.mem_of_getElem? (i := 17) rfl)) (mj_cons (mc_X7_follow_X7_follow_r2 _ (List.mem_of_getElem? (i := 18) rfl)) (mj_cons (mc_X7_follow_X7_follow_r2 _ (List.mem_of_getElem? (i := 19) rfl)) mj_nil)))))))))))))))))))))))) (mj_app (mj_cons (mc_X7_follow_X7_follow_r2 _ (List.mem_of_getElem? (i := 20) rfl)) (mj_cons (mc_X7_follow_X7_follow_r2 _ (List.mem_of_getElem? (i := 21) rfl)) (mj_cons (mc_X7_follow_X7_follow_r2 _ (List.mem_of_getElem? (i := 22) rfl)) (mj_cons (mc_X7_follow_X7_follow_r2 _ (List.mem_of_getElem? (i := 23) rfl)) (mj_cons (mc_X7_follow_X7_follow_r3 _ (List.mem_of_getElem? (i := 0) rfl)) (mj_cons (mc_X7_follow_X7_follow_r3 _ (List.mem_of_getElem? (i := 1) rfl)) (mj_cons (mc_X7_follow_X7_follow_r3 _ (List.mem_of_getElem? (i := 2) rfl)) (mj_cons (mc_X7_follow_X7_follow_r3 _ (List.mem_of_getElem? (i := 3) rfl)) (mj_cons (mc_X7_follow_X7_follow_r3 _ (List.mem_of_getElem? (i := 4) rfl)) (mj_cons (mc_X7_follow_X7_follow_r3 _ (List.mem_of_getElem? (i := 5) rfl)) (mj_cons (mc_X7_follow_X7_follow_r3 _ (List.mem_of_getElem? (i := 6) rfl)) (mj_cons (mc_X7_follow_X7_follow_r3 _ (List.mem_of_getElem? (i := 7) rfl)) (mj_cons (mc_X7_follow_X7_follow_r3 _ (List.mem_of_getElem? (i := 8) rfl)) (mj_cons (mc_X7_follow_X7_follow_r3 _ (List.mem_of_getElem? (i := 9) rfl)) (mj_cons (mc_X7_follow_X7_follow_r3 _ (List.mem_of_getElem? (i := 10) rfl)) (mj_cons (mc_X7_follow_X7_follow_r3 _ (List.mem_of_getElem? (i := 11) rfl)) (mj_cons (mc_X7_follow_X7_follow_r3 _ (List.mem_of_getElem? (i := 12) rfl)) (mj_cons (mc_X7_follow_X7_follow_r3 _ (List.mem_of_getElem? (i := 13) rfl)) (mj_cons (mc_X7_follow_X7_follow_r3 _ (List.mem_of_getElem? (i := 14) rfl)) (mj_cons (mc_X7_follow_X7_follow_r3 _ (List.mem_of_getElem? (i := 15) rfl)) (mj_cons (mc_X7_follow_X7_follow_r3 _ (List.mem_of_getElem? (i := 16) rfl)) (mj_cons (mc_X7_follow_X7_follow_r3 _ (List.mem_of_getElem? (i := 17) rfl)) (mj_cons (mc_X7_follow_X7_follow_r3 _ (List.mem_of_getElem? (i := 18) rfl)) (mj_cons (mc_X7_follow_X7_follow_r3 _ (List.mem_of_getElem? (i := 19) rfl)) mj_nil)))))))))))))))))))))))) (mj_app (mj_cons (mc_X7_follow_X7_follow_r3 _ (List.mem_of_getElem? (i := 20) rfl)) (mj_cons (mc_X7_follow_X7_follow_r3 _ (List.mem_of_getElem? (i := 21) rfl)) (mj_cons (mc_X7_follow_X7_follow_r3 _ (List.mem_of_getElem? (i := 22) rfl)) (mj_cons (mc_X7_follow_X7_follow_r3 _ (List.mem_of_getElem? (i := 23) rfl)) (mj_cons (mc_X7_follow_X7_follow_r4 _ (List.mem_of_getElem? (i := 0) rfl)) (mj_cons (mc_X7_follow_X7_follow_r4 _ (List.mem_of_getElem? (i := 1) rfl)) (mj_cons (mc_X7_follow_X7_follow_r4 _ (List.mem_of_getElem? (i := 2) rfl)) (mj_cons (mc_X7_follow_X7_follow_r4 _ (List.mem_of_getElem? (i := 3) rfl)) (mj_cons (mc_X7_follow_X7_follow_r4 _ (List.mem_of_getElem? (i := 4) rfl)) (mj_cons (mc_X7_follow_X7_follow_r4 _ (List.mem_of_getElem? (i := 5) rfl)) (mj_cons (mc_X7_follow_X7_follow_r4 _ (List.mem_of_getElem? (i := 6) rfl)) (mj_cons (mc_X7_follow_X7_follow_r4 _ (List.mem_of_getElem? (i := 7) rfl)) (mj_cons (mc_X7_follow_X7_follow_r4 _ (List.mem_of_getElem? (i := 8) rfl)) (mj_cons (mc_X7_follow_X7_follow_r4 _ (List.mem_of_getElem? (i := 9) rfl)) (mj_cons (mc_X7_follow_X7_follow_r4 _ (List.mem_of_getElem? (i := 10) rfl)) (mj_cons (mc_X7_follow_X7_follow_r4 _ (List.mem_of_getElem? (i := 11) rfl)) (mj_cons (mc_X7_follow_X7_follow_r4 _ (List.mem_of_getElem? (i := 12) rfl)) (mj_cons (mc_X7_follow_X7_follow_r4 _ (List.mem_of_getElem? (i := 13) rfl)) (mj_cons (mc_X7_follow_X7_follow_r4 _ (List.mem_of_getElem? (i := 14) rfl)) (mj_cons (mc_X7_follow_X7_follow_r4 _ (List.mem_of_getElem? (i := 15) rfl)) (mj_cons (mc_X7_follow_X7_follow_r4 _ (List.mem_of_getElem? (i := 16) rfl)) (mj_cons (mc_X7_follow_X7_follow_r4 _ (List.mem_of_getElem? (i := 17) rfl)) (mj_cons (mc_X7_follow_X7_follow_r4 _ (List.mem_of_getElem? (i := 18) rfl)) (mj_cons (mc_X7_follow_X7_follow_r4 _ (List.mem_of_getElem? (i := 19) rfl)) mj_nil)))))))))))))))))))))))) (mj_cons (mc_X7_follow_X7_follow_r4 _ (List.mem_of_getElem? (i := 20) rfl)) (mj_cons (mc_X7_follow_X7_follow_r4 _ (List.mem_of_getElem? (i := 21) rfl)) (mj_cons (mc_X7_follow_X7_follow_r4 _ (List.mem_of_getElem? (i := 22) rfl)) (mj_cons (mc_X7_follow_X7_follow_r4 _ (List.mem_of_getElem? (i := 23) rfl)) (mj_cons (mc_X7_follow_X7_follow_r5 _ (List.mem_of_getElem? (i := 0) rfl)) (mj_cons (mc_X7_follow_X7_follow_r5 _ (List.mem_of_getElem? (i := 1) rfl)) (mj_cons (mc_X7_follow_X7_follow_r5 _ (List.mem_of_getElem? (i := 2) rfl)) (mj_cons (mc_X7_follow_X7_follow_r5 _ (List.mem_of_getElem? (i := 3) rfl)) (mj_cons (mc_X7_follow_X7_follow_r5 _ (List.mem_of_getElem? (i := 4) rfl)) (mj_cons (mc_X7_follow_X7_follow_r5 _ (List.mem_of_getElem? (i := 5) rfl)) (mj_cons (mc_X7_follow_X7_follow_r5 _ (List.mem_of_getElem? (i := 6) rfl)) (mj_cons (mc_X7_follow_X7_follow_r5 _ (List.mem_of_getElem? (i := 7) rfl)) (mj_cons (mc_X7_follow_X7_follow_r5 _ (List.mem_of_getElem? (i := 8) rfl)) mj_nil)))))))))))))))) mc_X7_follow_X70)) (by decide +kernel)
set_option maxRecDepth 20000 in
theorem gX7_follow_X7_slidesQuietly : GoodIn wsX7_follow (wsV RX7 389 RX7 yX7_slidesQuietly wsX7_slidesQuietly) := goodIn_app (mj_good (mj_cons (mc_X7_follow_X7_follow_r1 _ (List.mem_of_getElem? (i := 18) rfl)) (mj_cons (mc_X7_follow_X7_follow_r1 _ (List.mem_of_getElem? (i := 19) rfl)) (mj_cons (mc_X7_follow_X7_follow_r1 _ (List.mem_of_getElem? (i := 20) rfl)) (mj_cons (mc_X7_follow_X7_follow_r1 _ (List.mem_of_getElem? (i := 11) rfl)) mj_nil)))) (by decide +kernel)) ggX7_follow_X7_slidesQuietly
theorem dX7_follow_0 : decode cX7_follow 0 = .ok (.aload_n 0, 1) := by decide +kernel
theorem dX7_follow_1 : decode cX7_follow 1 = .ok (.iconst 0, 1) := by decide +kernel
theorem dX7_follow_2 : decode cX7_follow 2 = .ok (.putfield 184, 3) := by decide +kernel
theorem dX7_follow_5 : decode cX7_follow 5 = .ok (.aload_n 0, 1) := by decide +kernel
theorem dX7_follow_6 : decode cX7_follow 6 = .ok (.iconst 0, 1) := by decide +kernel
theorem dX7_follow_7 : decode cX7_follow 7 = .ok (.putfield 187, 3) := by decide +kernel
theorem dX7_follow_10 : decode cX7_follow 10 = .ok (.aload_n 0, 1) := by decide +kernel
theorem dX7_follow_11 : decode cX7_follow 11 = .ok (.getfield 303, 3) := by decide +kernel
theorem dX7_follow_14 : decode cX7_follow 14 = .ok (.ifCond .ne 9, 3) := by decide +kernel
theorem dX7_follow_17 : decode cX7_follow 17 = .ok (.aload_n 0, 1) := by decide +kernel
theorem dX7_follow_18 : decode cX7_follow 18 = .ok (.iconst 1, 1) := by decide +kernel
theorem dX7_follow_19 : decode cX7_follow 19 = .ok (.invokevirtual 290, 3) := by decide +kernel
theorem dX7_follow_22 : decode cX7_follow 22 = .ok (.ireturn, 1) := by decide +kernel
theorem dX7_follow_23 : decode cX7_follow 23 = .ok (.iload_n 1, 1) := by decide +kernel
theorem dX7_follow_24 : decode cX7_follow 24 = .ok (.ifCond .lt 7, 3) := by decide +kernel
theorem dX7_follow_27 : decode cX7_follow 27 = .ok (.iload_n 2, 1) := by decide +kernel
theorem dX7_follow_28 : decode cX7_follow 28 = .ok (.ifCond .ge 9, 3) := by decide +kernel
theorem dX7_follow_31 : decode cX7_follow 31 = .ok (.aload_n 0, 1) := by decide +kernel
theorem dX7_follow_32 : decode cX7_follow 32 = .ok (.iconst 2, 1) := by decide +kernel
theorem dX7_follow_33 : decode cX7_follow 33 = .ok (.invokevirtual 290, 3) := by decide +kernel
theorem dX7_follow_36 : decode cX7_follow 36 = .ok (.ireturn, 1) := by decide +kernel
theorem dX7_follow_37 : decode cX7_follow 37 = .ok (.aload_n 0, 1) := by decide +kernel
theorem dX7_follow_38 : decode cX7_follow 38 = .ok (.getfield 296, 3) := by decide +kernel
theorem dX7_follow_41 : decode cX7_follow 41 = .ok (.ifCond .ne 10, 3) := by decide +kernel
theorem dX7_follow_44 : decode cX7_follow 44 = .ok (.aload_n 0, 1) := by decide +kernel
theorem dX7_follow_45 : decode cX7_follow 45 = .ok (.bipush 11, 2) := by decide +kernel
theorem dX7_follow_47 : decode cX7_follow 47 = .ok (.invokevirtual 290, 3) := by decide +kernel
theorem dX7_follow_50 : decode cX7_follow 50 = .ok (.ireturn, 1) := by decide +kernel
theorem dX7_follow_51 : decode cX7_follow 51 = .ok (.iconst 0, 1) := by decide +kernel
theorem dX7_follow_52 : decode cX7_follow 52 = .ok (.istore_n 3, 1) := by decide +kernel
theorem dX7_follow_53 : decode cX7_follow 53 = .ok (.iconst 1, 1) := by decide +kernel
theorem dX7_follow_54 : decode cX7_follow 54 = .ok (.istore 4, 2) := by decide +kernel
theorem dX7_follow_56 : decode cX7_follow 56 = .ok (.iload 4, 2) := by decide +kernel
theorem dX7_follow_58 : decode cX7_follow 58 = .ok (.ifCond .eq 88, 3) := by decide +kernel
theorem dX7_follow_61 : decode cX7_follow 61 = .ok (.iload_n 3, 1) := by decide +kernel
theorem dX7_follow_62 : decode cX7_follow 62 = .ok (.iload_n 2, 1) := by decide +kernel
theorem dX7_follow_63 : decode cX7_follow 63 = .ok (.if_icmp .ge 83, 3) := by decide +kernel
theorem dX7_follow_66 : decode cX7_follow 66 = .ok (.iload_n 3, 1) := by decide +kernel
theorem dX7_follow_67 : decode cX7_follow 67 = .ok (.aload_n 0, 1) := by decide +kernel
theorem dX7_follow_68 : decode cX7_follow 68 = .ok (.getfield 300, 3) := by decide +kernel
theorem dX7_follow_71 : decode cX7_follow 71 = .ok (.iload_n 1, 1) := by decide +kernel
theorem dX7_follow_72 : decode cX7_follow 72 = .ok (.isub, 1) := by decide +kernel
theorem dX7_follow_73 : decode cX7_follow 73 = .ok (.if_icmp .ge 73, 3) := by decide +kernel
theorem dX7_follow_76 : decode cX7_follow 76 = .ok (.iload_n 1, 1) := by decide +kernel
theorem dX7_follow_77 : decode cX7_follow 77 = .ok (.iload_n 3, 1) := by decide +kernel
theorem dX7_follow_78 : decode cX7_follow 78 = .ok (.iadd, 1) := by decide +kernel
theorem dX7_follow_79 : decode cX7_follow 79 = .ok (.istore 5, 2) := by decide +kernel
theorem dX7_follow_81 : decode cX7_follow 81 = .ok (.aload_n 0, 1) := by decide +kernel
theorem dX7_follow_82 : decode cX7_follow 82 = .ok (.aload_n 0, 1) := by decide +kernel
theorem dX7_follow_83 : decode cX7_follow 83 = .ok (.getfield 66, 3) := by decide +kernel
theorem dX7_follow_86 : decode cX7_follow 86 = .ok (.iload 5, 2) := by decide +kernel
theorem dX7_follow_88 : decode cX7_follow 88 = .ok (.iaload, 1) := by decide +kernel
theorem dX7_follow_89 : decode cX7_follow 89 = .ok (.invokevirtual 372, 3) := by decide +kernel
theorem dX7_follow_92 : decode cX7_follow 92 = .ok (.ifCond .eq 35, 3) := by decide +kernel
theorem dX7_follow_95 : decode cX7_follow 95 = .ok (.aload_n 0, 1) := by decide +kernel
theorem dX7_follow_96 : decode cX7_follow 96 = .ok (.aload_n 0, 1) := by decide +kernel
theorem dX7_follow_97 : decode cX7_follow 97 = .ok (.getfield 66, 3) := by decide +kernel
theorem dX7_follow_100 : decode cX7_follow 100 = .ok (.iload 5, 2) := by decide +kernel
theorem dX7_follow_102 : decode cX7_follow 102 = .ok (.iaload, 1) := by decide +kernel
theorem dX7_follow_103 : decode cX7_follow 103 = .ok (.aload_n 0, 1) := by decide +kernel
theorem dX7_follow_104 : decode cX7_follow 104 = .ok (.getfield 69, 3) := by decide +kernel
theorem dX7_follow_107 : decode cX7_follow 107 = .ok (.iload 5, 2) := by decide +kernel
theorem dX7_follow_109 : decode cX7_follow 109 = .ok (.iaload, 1) := by decide +kernel
theorem dX7_follow_110 : decode cX7_follow 110 = .ok (.aload_n 0, 1) := by decide +kernel
theorem dX7_follow_111 : decode cX7_follow 111 = .ok (.getfield 72, 3) := by decide +kernel
theorem dX7_follow_114 : decode cX7_follow 114 = .ok (.iload 5, 2) := by decide +kernel
theorem dX7_follow_116 : decode cX7_follow 116 = .ok (.iaload, 1) := by decide +kernel
theorem dX7_follow_117 : decode cX7_follow 117 = .ok (.invokevirtual 389, 3) := by decide +kernel
theorem dX7_follow_120 : decode cX7_follow 120 = .ok (.ifCond .eq 7, 3) := by decide +kernel
theorem dX7_follow_123 : decode cX7_follow 123 = .ok (.iconst 1, 1) := by decide +kernel
theorem dX7_follow_124 : decode cX7_follow 124 = .ok (.goto 4, 3) := by decide +kernel
theorem dX7_follow_127 : decode cX7_follow 127 = .ok (.iconst 0, 1) := by decide +kernel
theorem dX7_follow_128 : decode cX7_follow 128 = .ok (.istore 4, 2) := by decide +kernel
theorem dX7_follow_130 : decode cX7_follow 130 = .ok (.iload_n 3, 1) := by decide +kernel
theorem dX7_follow_131 : decode cX7_follow 131 = .ok (.iload 4, 2) := by decide +kernel
theorem dX7_follow_133 : decode cX7_follow 133 = .ok (.ifCond .eq 7, 3) := by decide +kernel
theorem dX7_follow_136 : decode cX7_follow 136 = .ok (.iconst 1, 1) := by decide +kernel
theorem dX7_follow_137 : decode cX7_follow 137 = .ok (.goto 4, 3) := by decide +kernel
theorem dX7_follow_140 : decode cX7_follow 140 = .ok (.iconst 0, 1) := by decide +kernel
theorem dX7_follow_141 : decode cX7_follow 141 = .ok (.iadd, 1) := by decide +kernel
theorem dX7_follow_142 : decode cX7_follow 142 = .ok (.istore_n 3, 1) := by decide +kernel
theorem dX7_follow_143 : decode cX7_follow 143 = .ok (.goto (-87), 3) := by decide +kernel
theorem dX7_follow_146 : decode cX7_follow 146 = .ok (.iload_n 3, 1) := by decide +kernel
theorem dX7_follow_147 : decode cX7_follow 147 = .ok (.ireturn, 1) := by decide +kernel
set_option maxRecDepth 20000 in
theorem mc_X7_slidesQuietly_X7_slidesQuietly_r1 : mjIn wsX7_slidesQuietly wsX7_slidesQuietly_r1 := fun w h => (List.mem_cons_of_mem _ (List.mem_append_left _ (List.mem_append_left _ h)))
set_option maxRecDepth 20000 in
theorem mc_X7_slidesQuietly_X7_slidesQuietly_r2 : mjIn wsX7_slidesQuietly wsX7_slidesQuietly_r2 := fun w h => (List.mem_cons_of_mem _ (List.mem_append_left _ (List.mem_append_right _ (List.mem_append_left _ h))))
set_option maxRecDepth 20000 in
theorem mc_X7_slidesQuietly_X7_slidesQuietly_r3 : mjIn wsX7_slidesQuietly wsX7_slidesQuietly_r3 := fun w h => (List.mem_cons_of_mem _ (List.mem_append_left _ (List.mem_append_right _ (List.mem_append_right _ (List.mem_append_left _ h)))))
set_option maxRecDepth 20000 in
theorem mc_X7_slidesQuietly_X7_slidesQuietly_r4 : mjIn wsX7_slidesQuietly wsX7_slidesQuietly_r4 := fun w h => (List.mem_cons_of_mem _ (List.mem_append_left _ (List.mem_append_right _ (List.mem_append_right _ (List.mem_append_right _ h)))))
set_option maxRecDepth 20000 in
theorem mc_X7_slidesQuietly_X70 : mjIn wsX7_slidesQuietly wsX70 := fun w h => (List.mem_cons_of_mem _ (List.mem_append_right _ h))
set_option maxRecDepth 20000 in
theorem ggX7_slidesQuietly_X7_slides : GoodIn wsX7_slidesQuietly wsX7_slides := mj_good (mj_cons (mc_X7_slidesQuietly_X7_slidesQuietly_r1 _ (List.mem_of_getElem? (i := 7) rfl)) (mj_app (mj_app (mj_cons (mc_X7_slidesQuietly_X7_slidesQuietly_r1 _ (List.mem_of_getElem? (i := 0) rfl)) (mj_cons (mc_X7_slidesQuietly_X7_slidesQuietly_r1 _ (List.mem_of_getElem? (i := 1) rfl)) (mj_cons (mc_X7_slidesQuietly_X7_slidesQuietly_r1 _ (List.mem_of_getElem? (i := 2) rfl)) (mj_cons (mc_X7_slidesQuietly_X7_slidesQuietly_r1 _ (List.mem_of_getElem? (i := 8) rfl)) (mj_cons (mc_X7_slidesQuietly_X7_slidesQuietly_r1 _ (List.mem_of_getElem? (i := 9) rfl)) (mj_cons (mc_X7_slidesQuietly_X7_slidesQuietly_r1 _ (List.mem_of_getElem? (i := 10) rfl)) (mj_cons (mc_X7_slidesQuietly_X7_slidesQuietly_r1 _ (List.mem_of_getElem? (i := 11) rfl)) (mj_cons (mc_X7_slidesQuietly_X7_slidesQuietly_r1 _ (List.mem_of_getElem? (i := 12) rfl)) (mj_cons (mc_X7_slidesQuietly_X7_slidesQuietly_r1 _ (List.mem_of_getElem? (i := 13) rfl)) (mj_cons (mc_X7_slidesQuietly_X7_slidesQuietly_r1 _ (List.mem_of_getElem? (i := 14) rfl)) (mj_cons (mc_X7_slidesQuietly_X7_slidesQuietly_r1 _ (List.mem_of_getElem? (i := 15) rfl)) (mj_cons (mc_X7_slidesQuietly_X7_slidesQuietly_r1 _ (List.mem_of_getElem? (i := 16) rfl)) (mj_cons (mc_X7_slidesQuietly_X7_slidesQuietly_r1 _ (List.mem_of_getElem? (i := 17) rfl)) (mj_cons (mc_X7_slidesQuietly_X7_slidesQuietly_r1 _ (List.mem_of_getElem? (i := 6) rfl)) (mj_cons (mc_X7_slidesQuietly_X7_slidesQuietly_r1 _ (List.mem_of_getElem? (i := 18) rfl)) (mj_cons (mc_X7_slidesQuietly_X7_slidesQuietly_r1 _ (List.mem_of_getElem? (i := 19) rfl)) (mj_cons (mc_X7_slidesQuietly_X7_slidesQuietly_r1 _ (List.mem_of_getElem? (i := 20) rfl)) (mj_cons (mc_X7_slidesQuietly_X7_slidesQuietly_r1 _ (List.mem_of_getElem? (i := 21) rfl)) (mj_cons (mc_X7_slidesQuietly_X7_slidesQuietly_r1 _ (List.mem_of_getElem? (i := 22) rfl)) (mj_cons (mc_X7_slidesQuietly_X7_slidesQuietly_r1 _ (List.mem_of_getElem? (i := 23) rfl)) (mj_cons (mc_X7_slidesQuietly_X7_slidesQuietly_r2 _ (List.mem_of_getElem? (i := 0) rfl)) (mj_cons (mc_X7_slidesQuietly_X7_slidesQuietly_r2 _ (List.mem_of_getElem? (i := 1) rfl)) (mj_cons (mc_X7_slidesQuietly_X7_slidesQuietly_r2 _ (List.mem_of_getElem? (i := 2) rfl)) (mj_cons (mc_X7_slidesQuietly_X7_slidesQuietly_r2 _ (List.mem_of_getElem? (i := 3) rfl)) mj_nil)))))))))))))))))))))))) (mj_app (mj_cons (mc_X7_slidesQuietly_X7_slidesQuietly_r2 _ (List.mem_of_getElem? (i := 4) rfl)) (mj_cons (mc_X7_slidesQuietly_X7_slidesQuietly_r2 _ (List.mem_of_getElem? (i := 5) rfl)) (mj_cons (mc_X7_slidesQuietly_X7_slidesQuietly_r2 _ (List.mem_of_getElem? (i := 6) rfl)) (mj_cons (mc_X7_slidesQuietly_X7_slidesQuietly_r2 _ (List.mem_of_getElem? (i := 7) rfl)) (mj_cons (mc_X7_slidesQuietly_X7_slidesQuietly_r2 _ (List.mem_of_getElem? (i := 8) rfl)) (mj_cons (mc_X7_slidesQuietly_X7_slidesQuietly_r2 _ (List.mem_of_getElem? (i := 9) rfl)) (mj_cons (mc_X7_slidesQuietly_X7_slidesQuietly_r2 _ (List.mem_of_getElem? (i := 10) rfl)) (mj_cons (mc_X7_slidesQuietly_X7_slidesQuietly_r2 _ (List.mem_of_getElem? (i := 11) rfl)) (mj_cons (mc_X7_slidesQuietly_X7_slidesQuietly_r2 _ (List.mem_of_getElem? (i := 12) rfl)) (mj_cons (mc_X7_slidesQuietly_X7_slidesQuietly_r2 _ (List.mem_of_getElem? (i := 13) rfl)) (mj_cons (mc_X7_slidesQuietly_X7_slidesQuietly_r2 _ (List.mem_of_getElem? (i := 14) rfl)) (mj_cons (mc_X7_slidesQuietly_X7_slidesQuietly_r2 _ (List.mem_of_getElem? (i := 15) rfl)) (mj_cons (mc_X7_slidesQuietly_X7_slidesQuietly_r2 _ (List.mem_of_getElem? (i := 16) rfl)) (mj_cons (mc_X7_slidesQuietly_X7_slidesQuietly_r2 _ (List.mem_of_getElem? (i := 17) rfl)) (mj_cons (mc_X7_slidesQuietly_X7_slidesQuietly_r2 _ (List.mem_of_getElem? (i := 18) rfl)) (mj_cons (mc_X7_slidesQuietly_X7_slidesQuietly_r2 _ (List.mem_of_getElem? (i := 19) rfl)) (mj_cons (mc_X7_slidesQuietly_X7_slidesQuietly_r2 _ (List.mem_of_getElem? (i := 20) rfl)) (mj_cons (mc_X7_slidesQuietly_X7_slidesQuietly_r2 _ (List.mem_of_getElem? (i := 21) rfl)) (mj_cons (mc_X7_slidesQuietly_X7_slidesQuietly_r2 _ (List.mem_of_getElem? (i := 22) rfl)) (mj_cons (mc_X7_slidesQuietly_X7_slidesQuietly_r2 _ (List.mem_of_getElem? (i := 23) rfl)) (mj_cons (mc_X7_slidesQuietly_X7_slidesQuietly_r3 _ (List.mem_of_getElem? (i := 0) rfl)) (mj_cons (mc_X7_slidesQuietly_X7_slidesQuietly_r3 _ (List.mem_of_getElem? (i := 1) rfl)) (mj_cons (mc_X7_slidesQuietly_X7_slidesQuietly_r3 _ (List.mem_of_getElem? (i := 2) rfl)) (mj_cons (mc_X7_slidesQuietly_X7_slidesQuietly_r3 _ (List.mem_of_getElem? (i := 3) rfl)) mj_nil)))))))))))))))))))))))) (mj_app (mj_cons (mc_X7_slidesQuietly_X7_slidesQuietly_r3 _ (List.mem_of_getElem? (i := 4) rfl)) (mj_cons (mc_X7_slidesQuietly_X7_slidesQuietly_r3 _ (List.mem_of_getElem? (i := 5) rfl)) (mj_cons (mc_X7_slidesQuietly_X7_slidesQuietly_r3 _ (List.mem_of_getElem? (i := 6) rfl)) (mj_cons (mc_X7_slidesQuietly_X7_slidesQuietly_r3 _ (List.mem_of_getElem? (i := 7) rfl)) (mj_cons (mc_X7_slidesQuietly_X7_slidesQuietly_r3 _ (List.mem_of_getElem? (i := 8) rfl)) (mj_cons (mc_X7_slidesQuietly_X7_slidesQuietly_r3 _ (List.mem_of_getElem? (i := 9) rfl)) (mj_cons (mc_X7_slidesQuietly_X7_slidesQuietly_r3 _ (List.mem_of_getElem? (i := 10) rfl)) (mj_cons (mc_X7_slidesQuietly_X7_slidesQuietly_r3 _ (List.mem_of_getElem? (i := 11) rfl)) (mj_cons (mc_X7_slidesQuietly_X7_slidesQuietly_r3 _ (List.mem_of_getElem? (i := 12) rfl)) (mj_cons (mc_X7_slidesQuietly_X7_slidesQuietly_r3 _ (List.mem_of_getElem? (i := 13) rfl)) (mj_cons (mc_X7_slidesQuietly_X7_slidesQuietly_r3 _ (List.mem_of_getElem? (i := 14) rfl)) (mj_cons (mc_X7_slidesQuietly_X7_slidesQuietly_r3 _ (List.mem_of_getElem? (i := 15) rfl)) (mj_cons (mc_X7_slidesQuietly_X7_slidesQuietly_r3 _ (List.mem_of_getElem? (i := 16) rfl)) (mj_cons (mc_X7_slidesQuietly_X7_slidesQuietly_r3 _ (List.mem_of_getElem? (i := 17) rfl)) (mj_cons (mc_X7_slidesQuietly_X7_slidesQuietly_r3 _ (List.mem_of_getElem? (i := 18) rfl)) (mj_cons (mc_X7_slidesQuietly_X7_slidesQuietly_r3 _ (List.mem_of_getElem? (i := 19) rfl)) (mj_cons (mc_X7_slidesQuietly_X7_slidesQuietly_r3 _ (List.mem_of_getElem? (i := 20) rfl)) (mj_cons (mc_X7_slidesQuietly_X7_slidesQuietly_r3 _ (List.mem_of_getElem? (i := 21) rfl)) (mj_cons (mc_X7_slidesQuietly_X7_slidesQuietly_r3 _ (List.mem_of_getElem? (i := 22) rfl)) (mj_cons (mc_X7_slidesQuietly_X7_slidesQuietly_r3 _ (List.mem_of_getElem? (i := 23) rfl)) (mj_cons (mc_X7_slidesQuietly_X7_slidesQuietly_r4 _ (List.mem_of_getElem? (i := 0) rfl)) (mj_cons (mc_X7_slidesQuietly_X7_slidesQuietly_r4 _ (List.mem_of_getElem? (i := 1) rfl)) (mj_cons (mc_X7_slidesQuietly_X7_slidesQuietly_r4 _ (List.mem_of_getElem? (i := 2) rfl)) (mj_cons (mc_X7_slidesQuietly_X7_slidesQuietly_r4 _ (List.mem_of_getElem? (i := 3) rfl)) mj_nil)))))))))))))))))))))))) (mj_cons (mc_X7_slidesQuietly_X7_slidesQuietly_r4 _ (List.mem_of_getElem? (i := 4) rfl)) (mj_cons (mc_X7_slidesQuietly_X7_slidesQuietly_r4 _ (List.mem_of_getElem? (i := 5) rfl)) (mj_cons (mc_X7_slidesQuietly_X7_slidesQuietly_r4 _ (List.mem_of_getElem? (i := 6) rfl)) (mj_cons (mc_X7_slidesQuietly_X7_slidesQuietly_r4 _ (List.mem_of_getElem? (i := 7) rfl)) (mj_cons (mc_X7_slidesQuietly_X7_slidesQuietly_r4 _ (List.mem_of_getElem? (i := 8) rfl)) (mj_cons (mc_X7_slidesQuietly_X7_slidesQuietly_r4 _ (List.mem_of_getElem? (i := 9) rfl)) (mj_cons (mc_X7_slidesQuietly_X7_slidesQuietly_r4 _ (List.mem_of_getElem? (i := 10) rfl)) (mj_cons (mc_X7_slidesQuietly_X7_slidesQuietly_r4 _ (List.mem_of_getElem? (i := 11) rfl)) (mj_cons (mc_X7_slidesQuietly_X7_slidesQuietly_r4 _ (List.mem_of_getElem? (i := 12) rfl)) mj_nil)))))))))))) mc_X7_slidesQuietly_X70)) (by decide +kernel)
set_option maxRecDepth 20000 in
theorem gX7_slidesQuietly_X7_slides : GoodIn wsX7_slidesQuietly (wsV RX7 385 RX7 yX7_slides wsX7_slides) := goodIn_app (mj_good (mj_cons (mc_X7_slidesQuietly_X7_slidesQuietly_r1 _ (List.mem_of_getElem? (i := 3) rfl)) (mj_cons (mc_X7_slidesQuietly_X7_slidesQuietly_r1 _ (List.mem_of_getElem? (i := 4) rfl)) (mj_cons (mc_X7_slidesQuietly_X7_slidesQuietly_r1 _ (List.mem_of_getElem? (i := 5) rfl)) (mj_cons (mc_X7_slidesQuietly_X7_slidesQuietly_r1 _ (List.mem_of_getElem? (i := 6) rfl)) mj_nil)))) (by decide +kernel)) ggX7_slidesQuietly_X7_slides
theorem dX7_slidesQuietly_0 : decode cX7_slidesQuietly 0 = .ok (.aload_n 0, 1) := by decide +kernel
theorem dX7_slidesQuietly_1 : decode cX7_slidesQuietly 1 = .ok (.getfield 56, 3) := by decide +kernel
theorem dX7_slidesQuietly_4 : decode cX7_slidesQuietly 4 = .ok (.istore 4, 2) := by decide +kernel
theorem dX7_slidesQuietly_6 : decode cX7_slidesQuietly 6 = .ok (.aload_n 0, 1) := by decide +kernel
theorem dX7_slidesQuietly_7 : decode cX7_slidesQuietly 7 = .ok (.getfield 60, 3) := by decide +kernel
theorem dX7_slidesQuietly_10 : decode cX7_slidesQuietly 10 = .ok (.istore 5, 2) := by decide +kernel
theorem dX7_slidesQuietly_12 : decode cX7_slidesQuietly 12 = .ok (.aload_n 0, 1) := by decide +kernel
theorem dX7_slidesQuietly_13 : decode cX7_slidesQuietly 13 = .ok (.getfield 63, 3) := by decide +kernel
theorem dX7_slidesQuietly_16 : decode cX7_slidesQuietly 16 = .ok (.istore 6, 2) := by decide +kernel
theorem dX7_slidesQuietly_18 : decode cX7_slidesQuietly 18 = .ok (.aload_n 0, 1) := by decide +kernel
theorem dX7_slidesQuietly_19 : decode cX7_slidesQuietly 19 = .ok (.iload_n 1, 1) := by decide +kernel
theorem dX7_slidesQuietly_20 : decode cX7_slidesQuietly 20 = .ok (.iload_n 2, 1) := by decide +kernel
theorem dX7_slidesQuietly_21 : decode cX7_slidesQuietly 21 = .ok (.iload_n 3, 1) := by decide +kernel
theorem dX7_slidesQuietly_22 : decode cX7_slidesQuietly 22 = .ok (.invokevirtual 385, 3) := by decide +kernel
theorem dX7_slidesQuietly_25 : decode cX7_slidesQuietly 25 = .ok (.istore 7, 2) := by decide +kernel
theorem dX7_slidesQuietly_27 : decode cX7_slidesQuietly 27 = .ok (.aload_n 0, 1) := by decide +kernel
theorem dX7_slidesQuietly_28 : decode cX7_slidesQuietly 28 = .ok (.iload 4, 2) := by decide +kernel
theorem dX7_slidesQuietly_30 : decode cX7_slidesQuietly 30 = .ok (.putfield 56, 3) := by decide +kernel
theorem dX7_slidesQuietly_33 : decode cX7_slidesQuietly 33 = .ok (.aload_n 0, 1) := by decide +kernel
theorem dX7_slidesQuietly_34 : decode cX7_slidesQuietly 34 = .ok (.iload 5, 2) := by decide +kernel
theorem dX7_slidesQuietly_36 : decode cX7_slidesQuietly 36 = .ok (.putfield 60, 3) := by decide +kernel
theorem dX7_slidesQuietly_39 : decode cX7_slidesQuietly 39 = .ok (.aload_n 0, 1) := by decide +kernel
theorem dX7_slidesQuietly_40 : decode cX7_slidesQuietly 40 = .ok (.iload 6, 2) := by decide +kernel
theorem dX7_slidesQuietly_42 : decode cX7_slidesQuietly 42 = .ok (.putfield 63, 3) := by decide +kernel
theorem dX7_slidesQuietly_45 : decode cX7_slidesQuietly 45 = .ok (.iload 7, 2) := by decide +kernel
theorem dX7_slidesQuietly_47 : decode cX7_slidesQuietly 47 = .ok (.ireturn, 1) := by decide +kernel
theorem dX7_below_0 : decode cX7_below 0 = .ok (.aload_n 0, 1) := by decide +kernel
theorem dX7_below_1 : decode cX7_below 1 = .ok (.ldc2_w 392, 3) := by decide +kernel
theorem dX7_below_4 : decode cX7_below 4 = .ok (.aload_n 0, 1) := by decide +kernel
theorem dX7_below_5 : decode cX7_below 5 = .ok (.getfield 394, 3) := by decide +kernel
theorem dX7_below_8 : decode cX7_below 8 = .ok (.i2l, 1) := by decide +kernel
theorem dX7_below_9 : decode cX7_below 9 = .ok (.lmul, 1) := by decide +kernel
theorem dX7_below_10 : decode cX7_below 10 = .ok (.ldc2_w 397, 3) := by decide +kernel
theorem dX7_below_13 : decode cX7_below 13 = .ok (.ladd, 1) := by decide +kernel
theorem dX7_below_14 : decode cX7_below 14 = .ok (.ldc2_w 399, 3) := by decide +kernel
theorem dX7_below_17 : decode cX7_below 17 = .ok (.land, 1) := by decide +kernel
theorem dX7_below_18 : decode cX7_below 18 = .ok (.l2i, 1) := by decide +kernel
theorem dX7_below_19 : decode cX7_below 19 = .ok (.putfield 394, 3) := by decide +kernel
theorem dX7_below_22 : decode cX7_below 22 = .ok (.aload_n 0, 1) := by decide +kernel
theorem dX7_below_23 : decode cX7_below 23 = .ok (.getfield 394, 3) := by decide +kernel
theorem dX7_below_26 : decode cX7_below 26 = .ok (.bipush 16, 2) := by decide +kernel
theorem dX7_below_28 : decode cX7_below 28 = .ok (.ishr, 1) := by decide +kernel
theorem dX7_below_29 : decode cX7_below 29 = .ok (.iload_n 1, 1) := by decide +kernel
theorem dX7_below_30 : decode cX7_below 30 = .ok (.irem, 1) := by decide +kernel
theorem dX7_below_31 : decode cX7_below 31 = .ok (.ireturn, 1) := by decide +kernel
set_option maxRecDepth 20000 in
theorem mc_X7_make_X7_make_r1 : mjIn wsX7_make wsX7_make_r1 := fun w h => (List.mem_cons_of_mem _ (List.mem_append_left _ (List.mem_append_left _ h)))
set_option maxRecDepth 20000 in
theorem mc_X7_make_X70 : mjIn wsX7_make wsX70 := fun w h => (List.mem_cons_of_mem _ (List.mem_append_right _ h))
set_option maxRecDepth 20000 in
theorem ggX7_make_X7_refuse : GoodIn wsX7_make wsX7_refuse := mj_good (mj_cons (mc_X7_make_X7_make_r1 _ (List.mem_of_getElem? (i := 9) rfl)) (mj_app (mj_cons (mc_X7_make_X7_make_r1 _ (List.mem_of_getElem? (i := 1) rfl)) mj_nil) mc_X7_make_X70)) (by decide +kernel)
set_option maxRecDepth 20000 in
theorem gX7_make_X7_refuse : GoodIn wsX7_make (wsV RX7 290 RX7 yX7_refuse wsX7_refuse) := goodIn_app (mj_good (mj_cons (mc_X7_make_X7_make_r1 _ (List.mem_of_getElem? (i := 5) rfl)) (mj_cons (mc_X7_make_X7_make_r1 _ (List.mem_of_getElem? (i := 6) rfl)) (mj_cons (mc_X7_make_X7_make_r1 _ (List.mem_of_getElem? (i := 7) rfl)) (mj_cons (mc_X7_make_X7_make_r1 _ (List.mem_of_getElem? (i := 8) rfl)) mj_nil)))) (by decide +kernel)) ggX7_make_X7_refuse
set_option maxRecDepth 20000 in
theorem mc_X7_make_X7_make_r2 : mjIn wsX7_make wsX7_make_r2 := fun w h => (List.mem_cons_of_mem _ (List.mem_append_left _ (List.mem_append_right _ (List.mem_append_left _ h))))
set_option maxRecDepth 20000 in
theorem mc_X7_make_X7_make_r3 : mjIn wsX7_make wsX7_make_r3 := fun w h => (List.mem_cons_of_mem _ (List.mem_append_left _ (List.mem_append_right _ (List.mem_append_right _ h))))
set_option maxRecDepth 20000 in
theorem ggX7_make_X7_draws : GoodIn wsX7_make wsX7_draws := mj_good (mj_cons (mc_X7_make_X7_make_r1 _ (List.mem_of_getElem? (i := 13) rfl)) (mj_app (mj_app (mj_cons (mc_X7_make_X7_make_r1 _ (List.mem_of_getElem? (i := 4) rfl)) (mj_cons (mc_X7_make_X7_make_r1 _ (List.mem_of_getElem? (i := 14) rfl)) (mj_cons (mc_X7_make_X7_make_r1 _ (List.mem_of_getElem? (i := 15) rfl)) (mj_cons (mc_X7_make_X7_make_r1 _ (List.mem_of_getElem? (i := 16) rfl)) (mj_cons (mc_X7_make_X7_make_r1 _ (List.mem_of_getElem? (i := 17) rfl)) (mj_cons (mc_X7_make_X7_make_r1 _ (List.mem_of_getElem? (i := 18) rfl)) (mj_cons (mc_X7_make_X7_make_r1 _ (List.mem_of_getElem? (i := 19) rfl)) (mj_cons (mc_X7_make_X7_make_r1 _ (List.mem_of_getElem? (i := 20) rfl)) (mj_cons (mc_X7_make_X7_make_r1 _ (List.mem_of_getElem? (i := 21) rfl)) (mj_cons (mc_X7_make_X7_make_r1 _ (List.mem_of_getElem? (i := 22) rfl)) (mj_cons (mc_X7_make_X7_make_r1 _ (List.mem_of_getElem? (i := 23) rfl)) (mj_cons (mc_X7_make_X7_make_r1 _ (List.mem_of_getElem? (i := 8) rfl)) (mj_cons (mc_X7_make_X7_make_r2 _ (List.mem_of_getElem? (i := 0) rfl)) (mj_cons (mc_X7_make_X7_make_r2 _ (List.mem_of_getElem? (i := 1) rfl)) (mj_cons (mc_X7_make_X7_make_r2 _ (List.mem_of_getElem? (i := 2) rfl)) (mj_cons (mc_X7_make_X7_make_r2 _ (List.mem_of_getElem? (i := 3) rfl)) (mj_cons (mc_X7_make_X7_make_r2 _ (List.mem_of_getElem? (i := 4) rfl)) (mj_cons (mc_X7_make_X7_make_r2 _ (List.mem_of_getElem? (i := 5) rfl)) (mj_cons (mc_X7_make_X7_make_r2 _ (List.mem_of_getElem? (i := 6) rfl)) (mj_cons (mc_X7_make_X7_make_r2 _ (List.mem_of_getElem? (i := 7) rfl)) (mj_cons (mc_X7_make_X7_make_r2 _ (List.mem_of_getElem? (i := 8) rfl)) (mj_cons (mc_X7_make_X7_make_r2 _ (List.mem_of_getElem? (i := 9) rfl)) (mj_cons (mc_X7_make_X7_make_r2 _ (List.mem_of_getElem? (i := 10) rfl)) (mj_cons (mc_X7_make_X7_make_r2 _ (List.mem_of_getElem? (i := 11) rfl)) mj_nil)))))))))))))))))))))))) (mj_cons (mc_X7_make_X7_make_r2 _ (List.mem_of_getElem? (i := 12) rfl)) (mj_cons (mc_X7_make_X7_make_r2 _ (List.mem_of_getElem? (i := 13) rfl)) (mj_cons (mc_X7_make_X7_make_r2 _ (List.mem_of_getElem? (i := 14) rfl)) (mj_cons (mc_X7_make_X7_make_r2 _ (List.mem_of_getElem? (i := 15) rfl)) (mj_cons (mc_X7_make_X7_make_r2 _ (List.mem_of_getElem? (i := 16) rfl)) (mj_cons (mc_X7_make_X7_make_r2 _ (List.mem_of_getElem? (i := 17) rfl)) (mj_cons (mc_X7_make_X7_make_r2 _ (List.mem_of_getElem? (i := 18) rfl)) (mj_cons (mc_X7_make_X7_make_r2 _ (List.mem_of_getElem? (i := 19) rfl)) (mj_cons (mc_X7_make_X7_make_r2 _ (List.mem_of_getElem? (i := 20) rfl)) (mj_cons (mc_X7_make_X7_make_r2 _ (List.mem_of_getElem? (i := 21) rfl)) (mj_cons (mc_X7_make_X7_make_r2 _ (List.mem_of_getElem? (i := 22) rfl)) (mj_cons (mc_X7_make_X7_make_r2 _ (List.mem_of_getElem? (i := 23) rfl)) (mj_cons (mc_X7_make_X7_make_r3 _ (List.mem_of_getElem? (i := 0) rfl)) (mj_cons (mc_X7_make_X7_make_r3 _ (List.mem_of_getElem? (i := 1) rfl)) (mj_cons (mc_X7_make_X7_make_r3 _ (List.mem_of_getElem? (i := 2) rfl)) (mj_cons (mc_X7_make_X7_make_r3 _ (List.mem_of_getElem? (i := 3) rfl)) (mj_cons (mc_X7_make_X7_make_r1 _ (List.mem_of_getElem? (i := 3) rfl)) (mj_cons (mc_X7_make_X7_make_r3 _ (List.mem_of_getElem? (i := 4) rfl)) (mj_cons (mc_X7_make_X7_make_r3 _ (List.mem_of_getElem? (i := 5) rfl)) (mj_cons (mc_X7_make_X7_make_r3 _ (List.mem_of_getElem? (i := 6) rfl)) (mj_cons (mc_X7_make_X7_make_r3 _ (List.mem_of_getElem? (i := 7) rfl)) (mj_cons (mc_X7_make_X7_make_r3 _ (List.mem_of_getElem? (i := 8) rfl)) (mj_cons (mc_X7_make_X7_make_r3 _ (List.mem_of_getElem? (i := 9) rfl)) (mj_cons (mc_X7_make_X7_make_r3 _ (List.mem_of_getElem? (i := 10) rfl)) mj_nil))))))))))))))))))))))))) mc_X7_make_X70)) (by decide +kernel)
set_option maxRecDepth 20000 in
theorem gX7_make_X7_draws : GoodIn wsX7_make (wsV RX7 401 RX7 yX7_draws wsX7_draws) := goodIn_app (mj_good (mj_cons (mc_X7_make_X7_make_r1 _ (List.mem_of_getElem? (i := 10) rfl)) (mj_cons (mc_X7_make_X7_make_r1 _ (List.mem_of_getElem? (i := 11) rfl)) (mj_cons (mc_X7_make_X7_make_r1 _ (List.mem_of_getElem? (i := 12) rfl)) (mj_cons (mc_X7_make_X7_make_r1 _ (List.mem_of_getElem? (i := 8) rfl)) mj_nil)))) (by decide +kernel)) ggX7_make_X7_draws
set_option maxRecDepth 20000 in
theorem ggX7_make_X7_ends : GoodIn wsX7_make wsX7_ends := mj_good (mj_cons (mc_X7_make_X7_make_r3 _ (List.mem_of_getElem? (i := 14) rfl)) (mj_app (mj_cons (mc_X7_make_X7_make_r3 _ (List.mem_of_getElem? (i := 15) rfl)) (mj_cons (mc_X7_make_X7_make_r3 _ (List.mem_of_getElem? (i := 16) rfl)) (mj_cons (mc_X7_make_X7_make_r3 _ (List.mem_of_getElem? (i := 17) rfl)) (mj_cons (mc_X7_make_X7_make_r1 _ (List.mem_of_getElem? (i := 8) rfl)) (mj_cons (mc_X7_make_X7_make_r3 _ (List.mem_of_getElem? (i := 18) rfl)) (mj_cons (mc_X7_make_X7_make_r3 _ (List.mem_of_getElem? (i := 19) rfl)) (mj_cons (mc_X7_make_X7_make_r3 _ (List.mem_of_getElem? (i := 20) rfl)) mj_nil))))))) mc_X7_make_X70)) (by decide +kernel)
set_option maxRecDepth 20000 in
theorem gX7_make_X7_ends : GoodIn wsX7_make (wsV RX7 342 RX7 yX7_ends wsX7_ends) := goodIn_app (mj_good (mj_cons (mc_X7_make_X7_make_r3 _ (List.mem_of_getElem? (i := 11) rfl)) (mj_cons (mc_X7_make_X7_make_r3 _ (List.mem_of_getElem? (i := 12) rfl)) (mj_cons (mc_X7_make_X7_make_r3 _ (List.mem_of_getElem? (i := 13) rfl)) (mj_cons (mc_X7_make_X7_make_r1 _ (List.mem_of_getElem? (i := 8) rfl)) mj_nil)))) (by decide +kernel)) ggX7_make_X7_ends
theorem dX7_make_0 : decode cX7_make 0 = .ok (.aload_n 0, 1) := by decide +kernel
theorem dX7_make_1 : decode cX7_make 1 = .ok (.iconst 0, 1) := by decide +kernel
theorem dX7_make_2 : decode cX7_make 2 = .ok (.putfield 184, 3) := by decide +kernel
theorem dX7_make_5 : decode cX7_make 5 = .ok (.aload_n 0, 1) := by decide +kernel
theorem dX7_make_6 : decode cX7_make 6 = .ok (.iconst 0, 1) := by decide +kernel
theorem dX7_make_7 : decode cX7_make 7 = .ok (.putfield 187, 3) := by decide +kernel
theorem dX7_make_10 : decode cX7_make 10 = .ok (.aload_n 0, 1) := by decide +kernel
theorem dX7_make_11 : decode cX7_make 11 = .ok (.getfield 303, 3) := by decide +kernel
theorem dX7_make_14 : decode cX7_make 14 = .ok (.ifCond .ne 9, 3) := by decide +kernel
theorem dX7_make_17 : decode cX7_make 17 = .ok (.aload_n 0, 1) := by decide +kernel
theorem dX7_make_18 : decode cX7_make 18 = .ok (.iconst 1, 1) := by decide +kernel
theorem dX7_make_19 : decode cX7_make 19 = .ok (.invokevirtual 290, 3) := by decide +kernel
theorem dX7_make_22 : decode cX7_make 22 = .ok (.ireturn, 1) := by decide +kernel
theorem dX7_make_23 : decode cX7_make 23 = .ok (.iload_n 1, 1) := by decide +kernel
theorem dX7_make_24 : decode cX7_make 24 = .ok (.ifCond .lt 13, 3) := by decide +kernel
theorem dX7_make_27 : decode cX7_make 27 = .ok (.iload_n 2, 1) := by decide +kernel
theorem dX7_make_28 : decode cX7_make 28 = .ok (.ifCond .lt 9, 3) := by decide +kernel
theorem dX7_make_31 : decode cX7_make 31 = .ok (.iload_n 2, 1) := by decide +kernel
theorem dX7_make_32 : decode cX7_make 32 = .ok (.bipush 12, 2) := by decide +kernel
theorem dX7_make_34 : decode cX7_make 34 = .ok (.if_icmp .le 9, 3) := by decide +kernel
theorem dX7_make_37 : decode cX7_make 37 = .ok (.aload_n 0, 1) := by decide +kernel
theorem dX7_make_38 : decode cX7_make 38 = .ok (.iconst 2, 1) := by decide +kernel
theorem dX7_make_39 : decode cX7_make 39 = .ok (.invokevirtual 290, 3) := by decide +kernel
theorem dX7_make_42 : decode cX7_make 42 = .ok (.ireturn, 1) := by decide +kernel
theorem dX7_make_43 : decode cX7_make 43 = .ok (.aload_n 0, 1) := by decide +kernel
theorem dX7_make_44 : decode cX7_make 44 = .ok (.iload_n 1, 1) := by decide +kernel
theorem dX7_make_45 : decode cX7_make 45 = .ok (.putfield 394, 3) := by decide +kernel
theorem dX7_make_48 : decode cX7_make 48 = .ok (.aload_n 0, 1) := by decide +kernel
theorem dX7_make_49 : decode cX7_make 49 = .ok (.iconst 0, 1) := by decide +kernel
theorem dX7_make_50 : decode cX7_make 50 = .ok (.putfield 216, 3) := by decide +kernel
theorem dX7_make_53 : decode cX7_make 53 = .ok (.iconst 0, 1) := by decide +kernel
theorem dX7_make_54 : decode cX7_make 54 = .ok (.istore_n 3, 1) := by decide +kernel
theorem dX7_make_55 : decode cX7_make 55 = .ok (.iload_n 3, 1) := by decide +kernel
theorem dX7_make_56 : decode cX7_make 56 = .ok (.iload_n 2, 1) := by decide +kernel
theorem dX7_make_57 : decode cX7_make 57 = .ok (.if_icmp .ge 13, 3) := by decide +kernel
theorem dX7_make_60 : decode cX7_make 60 = .ok (.aload_n 0, 1) := by decide +kernel
theorem dX7_make_61 : decode cX7_make 61 = .ok (.invokevirtual 401, 3) := by decide +kernel
theorem dX7_make_64 : decode cX7_make 64 = .ok (.iinc 3 1, 3) := by decide +kernel
theorem dX7_make_67 : decode cX7_make 67 = .ok (.goto (-12), 3) := by decide +kernel
theorem dX7_make_70 : decode cX7_make 70 = .ok (.aload_n 0, 1) := by decide +kernel
theorem dX7_make_71 : decode cX7_make 71 = .ok (.invokevirtual 342, 3) := by decide +kernel
theorem dX7_make_74 : decode cX7_make 74 = .ok (.aload_n 0, 1) := by decide +kernel
theorem dX7_make_75 : decode cX7_make 75 = .ok (.getfield 216, 3) := by decide +kernel
theorem dX7_make_78 : decode cX7_make 78 = .ok (.ireturn, 1) := by decide +kernel
set_option maxRecDepth 20000 in
theorem mc_X7_draws_X7_draws_r1 : mjIn wsX7_draws wsX7_draws_r1 := fun w h => (List.mem_cons_of_mem _ (List.mem_append_left _ (List.mem_append_left _ h)))
set_option maxRecDepth 20000 in
theorem mc_X7_draws_X7_draws_r2 : mjIn wsX7_draws wsX7_draws_r2 := fun w h => (List.mem_cons_of_mem _ (List.mem_append_left _ (List.mem_append_right _ h)))
set_option maxRecDepth 20000 in
theorem mc_X7_draws_X70 : mjIn wsX7_draws wsX70 := fun w h => (List.mem_cons_of_mem _ (List.mem_append_right _ h))
set_option maxRecDepth 20000 in
theorem ggX7_draws_X7_layAll : GoodIn wsX7_draws wsX7_layAll := mj_good (mj_cons (mc_X7_draws_X7_draws_r1 _ (List.mem_of_getElem? (i := 12) rfl)) (mj_app (mj_app (mj_cons (mc_X7_draws_X7_draws_r1 _ (List.mem_of_getElem? (i := 0) rfl)) (mj_cons (mc_X7_draws_X7_draws_r1 _ (List.mem_of_getElem? (i := 13) rfl)) (mj_cons (mc_X7_draws_X7_draws_r1 _ (List.mem_of_getElem? (i := 6) rfl)) (mj_cons (mc_X7_draws_X7_draws_r1 _ (List.mem_of_getElem? (i := 14) rfl)) (mj_cons (mc_X7_draws_X7_draws_r1 _ (List.mem_of_getElem? (i := 15) rfl)) (mj_cons (mc_X7_draws_X7_draws_r1 _ (List.mem_of_getElem? (i := 16) rfl)) (mj_cons (mc_X7_draws_X7_draws_r1 _ (List.mem_of_getElem? (i := 11) rfl)) (mj_cons (mc_X7_draws_X7_draws_r1 _ (List.mem_of_getElem? (i := 17) rfl)) (mj_cons (mc_X7_draws_X7_draws_r1 _ (List.mem_of_getElem? (i := 18) rfl)) (mj_cons (mc_X7_draws_X7_draws_r1 _ (List.mem_of_getElem? (i := 19) rfl)) (mj_cons (mc_X7_draws_X7_draws_r1 _ (List.mem_of_getElem? (i := 20) rfl)) (mj_cons (mc_X7_draws_X7_draws_r1 _ (List.mem_of_getElem? (i := 21) rfl)) (mj_cons (mc_X7_draws_X7_draws_r1 _ (List.mem_of_getElem? (i := 22) rfl)) (mj_cons (mc_X7_draws_X7_draws_r1 _ (List.mem_of_getElem? (i := 23) rfl)) (mj_cons (mc_X7_draws_X7_draws_r2 _ (List.mem_of_getElem? (i := 0) rfl)) (mj_cons (mc_X7_draws_X7_draws_r2 _ (List.mem_of_getElem? (i := 1) rfl)) (mj_cons (mc_X7_draws_X7_draws_r2 _ (List.mem_of_getElem? (i := 2) rfl)) (mj_cons (mc_X7_draws_X7_draws_r1 _ (List.mem_of_getElem? (i := 1) rfl)) (mj_cons (mc_X7_draws_X7_draws_r1 _ (List.mem_of_getElem? (i := 2) rfl)) (mj_cons (mc_X7_draws_X7_draws_r1 _ (List.mem_of_getElem? (i := 3) rfl)) (mj_cons (mc_X7_draws_X7_draws_r2 _ (List.mem_of_getElem? (i := 3) rfl)) (mj_cons (mc_X7_draws_X7_draws_r2 _ (List.mem_of_getElem? (i := 4) rfl)) (mj_cons (mc_X7_draws_X7_draws_r2 _ (List.mem_of_getElem? (i := 5) rfl)) (mj_cons (mc_X7_draws_X7_draws_r2 _ (List.mem_of_getElem? (i := 6) rfl)) mj_nil)))))))))))))))))))))))) (mj_cons (mc_X7_draws_X7_draws_r2 _ (List.mem_of_getElem? (i := 7) rfl)) (mj_cons (mc_X7_draws_X7_draws_r2 _ (List.mem_of_getElem? (i := 8) rfl)) (mj_cons (mc_X7_draws_X7_draws_r2 _ (List.mem_of_getElem? (i := 9) rfl)) (mj_cons (mc_X7_draws_X7_draws_r2 _ (List.mem_of_getElem? (i := 10) rfl)) mj_nil))))) mc_X7_draws_X70)) (by decide +kernel)
set_option maxRecDepth 20000 in
theorem gX7_draws_X7_layAll : GoodIn wsX7_draws (wsV RX7 262 RX7 yX7_layAll wsX7_layAll) := goodIn_app (mj_good (mj_cons (mc_X7_draws_X7_draws_r1 _ (List.mem_of_getElem? (i := 8) rfl)) (mj_cons (mc_X7_draws_X7_draws_r1 _ (List.mem_of_getElem? (i := 9) rfl)) (mj_cons (mc_X7_draws_X7_draws_r1 _ (List.mem_of_getElem? (i := 10) rfl)) (mj_cons (mc_X7_draws_X7_draws_r1 _ (List.mem_of_getElem? (i := 11) rfl)) mj_nil)))) (by decide +kernel)) ggX7_draws_X7_layAll
set_option maxRecDepth 20000 in
theorem ggX7_draws_X7_below : GoodIn wsX7_draws wsX7_below := mj_good (mj_cons (mc_X7_draws_X7_draws_r2 _ (List.mem_of_getElem? (i := 14) rfl)) (mj_app (mj_cons (mc_X7_draws_X7_draws_r2 _ (List.mem_of_getElem? (i := 15) rfl)) (mj_cons (mc_X7_draws_X7_draws_r2 _ (List.mem_of_getElem? (i := 16) rfl)) (mj_cons (mc_X7_draws_X7_draws_r2 _ (List.mem_of_getElem? (i := 17) rfl)) (mj_cons (mc_X7_draws_X7_draws_r2 _ (List.mem_of_getElem? (i := 18) rfl)) mj_nil)))) mc_X7_draws_X70)) (by decide +kernel)
set_option maxRecDepth 20000 in
theorem gX7_draws_X7_below : GoodIn wsX7_draws (wsV RX7 404 RX7 yX7_below wsX7_below) := goodIn_app (mj_good (mj_cons (mc_X7_draws_X7_draws_r2 _ (List.mem_of_getElem? (i := 11) rfl)) (mj_cons (mc_X7_draws_X7_draws_r2 _ (List.mem_of_getElem? (i := 12) rfl)) (mj_cons (mc_X7_draws_X7_draws_r2 _ (List.mem_of_getElem? (i := 13) rfl)) (mj_cons (mc_X7_draws_X7_draws_r1 _ (List.mem_of_getElem? (i := 11) rfl)) mj_nil)))) (by decide +kernel)) ggX7_draws_X7_below
set_option maxRecDepth 20000 in
theorem ggX7_draws_X7_againstAny : GoodIn wsX7_draws wsX7_againstAny := mj_good (mj_cons (mc_X7_draws_X7_draws_r2 _ (List.mem_of_getElem? (i := 22) rfl)) (mj_app (mj_cons (mc_X7_draws_X7_draws_r1 _ (List.mem_of_getElem? (i := 4) rfl)) (mj_cons (mc_X7_draws_X7_draws_r1 _ (List.mem_of_getElem? (i := 5) rfl)) (mj_cons (mc_X7_draws_X7_draws_r2 _ (List.mem_of_getElem? (i := 23) rfl)) (mj_cons (mc_X7_draws_X7_draws_r1 _ (List.mem_of_getElem? (i := 18) rfl)) (mj_cons (mc_X7_draws_X7_draws_r2 _ (List.mem_of_getElem? (i := 7) rfl)) (mj_cons (mc_X7_draws_X7_draws_r2 _ (List.mem_of_getElem? (i := 8) rfl)) (mj_cons (mc_X7_draws_X7_draws_r2 _ (List.mem_of_getElem? (i := 9) rfl)) (mj_cons (mc_X7_draws_X7_draws_r1 _ (List.mem_of_getElem? (i := 11) rfl)) (mj_cons (mc_X7_draws_X7_draws_r2 _ (List.mem_of_getElem? (i := 10) rfl)) (mj_cons (mc_X7_draws_X7_draws_r1 _ (List.mem_of_getElem? (i := 1) rfl)) (mj_cons (mc_X7_draws_X7_draws_r1 _ (List.mem_of_getElem? (i := 2) rfl)) (mj_cons (mc_X7_draws_X7_draws_r1 _ (List.mem_of_getElem? (i := 3) rfl)) (mj_cons (mc_X7_draws_X7_draws_r2 _ (List.mem_of_getElem? (i := 3) rfl)) (mj_cons (mc_X7_draws_X7_draws_r2 _ (List.mem_of_getElem? (i := 4) rfl)) (mj_cons (mc_X7_draws_X7_draws_r2 _ (List.mem_of_getElem? (i := 5) rfl)) (mj_cons (mc_X7_draws_X7_draws_r2 _ (List.mem_of_getElem? (i := 6) rfl)) (mj_cons (mc_X7_draws_X7_draws_r1 _ (List.mem_of_getElem? (i := 23) rfl)) (mj_cons (mc_X7_draws_X7_draws_r2 _ (List.mem_of_getElem? (i := 0) rfl)) (mj_cons (mc_X7_draws_X7_draws_r2 _ (List.mem_of_getElem? (i := 1) rfl)) (mj_cons (mc_X7_draws_X7_draws_r2 _ (List.mem_of_getElem? (i := 2) rfl)) mj_nil)))))))))))))))))))) mc_X7_draws_X70)) (by decide +kernel)
set_option maxRecDepth 20000 in
theorem gX7_draws_X7_againstAny : GoodIn wsX7_draws (wsV RX7 369 RX7 yX7_againstAny wsX7_againstAny) := goodIn_app (mj_good (mj_cons (mc_X7_draws_X7_draws_r2 _ (List.mem_of_getElem? (i := 19) rfl)) (mj_cons (mc_X7_draws_X7_draws_r2 _ (List.mem_of_getElem? (i := 20) rfl)) (mj_cons (mc_X7_draws_X7_draws_r2 _ (List.mem_of_getElem? (i := 21) rfl)) (mj_cons (mc_X7_draws_X7_draws_r1 _ (List.mem_of_getElem? (i := 11) rfl)) mj_nil)))) (by decide +kernel)) ggX7_draws_X7_againstAny
theorem dX7_draws_0 : decode cX7_draws 0 = .ok (.aload_n 0, 1) := by decide +kernel
theorem dX7_draws_1 : decode cX7_draws 1 = .ok (.invokevirtual 262, 3) := by decide +kernel
theorem dX7_draws_4 : decode cX7_draws 4 = .ok (.aload_n 0, 1) := by decide +kernel
theorem dX7_draws_5 : decode cX7_draws 5 = .ok (.getfield 216, 3) := by decide +kernel
theorem dX7_draws_8 : decode cX7_draws 8 = .ok (.istore_n 1, 1) := by decide +kernel
theorem dX7_draws_9 : decode cX7_draws 9 = .ok (.iconst 0, 1) := by decide +kernel
theorem dX7_draws_10 : decode cX7_draws 10 = .ok (.istore_n 2, 1) := by decide +kernel
theorem dX7_draws_11 : decode cX7_draws 11 = .ok (.iload_n 2, 1) := by decide +kernel
theorem dX7_draws_12 : decode cX7_draws 12 = .ok (.bipush 20, 2) := by decide +kernel
theorem dX7_draws_14 : decode cX7_draws 14 = .ok (.if_icmp .ge 165, 3) := by decide +kernel
theorem dX7_draws_17 : decode cX7_draws 17 = .ok (.aload_n 0, 1) := by decide +kernel
theorem dX7_draws_18 : decode cX7_draws 18 = .ok (.bipush 6, 2) := by decide +kernel
theorem dX7_draws_20 : decode cX7_draws 20 = .ok (.invokevirtual 404, 3) := by decide +kernel
theorem dX7_draws_23 : decode cX7_draws 23 = .ok (.istore_n 3, 1) := by decide +kernel
theorem dX7_draws_24 : decode cX7_draws 24 = .ok (.aload_n 0, 1) := by decide +kernel
theorem dX7_draws_25 : decode cX7_draws 25 = .ok (.getfield 23, 3) := by decide +kernel
theorem dX7_draws_28 : decode cX7_draws 28 = .ok (.iload_n 1, 1) := by decide +kernel
theorem dX7_draws_29 : decode cX7_draws 29 = .ok (.iload_n 3, 1) := by decide +kernel
theorem dX7_draws_30 : decode cX7_draws 30 = .ok (.iconst 3, 1) := by decide +kernel
theorem dX7_draws_31 : decode cX7_draws 31 = .ok (.if_icmp .ne 7, 3) := by decide +kernel
theorem dX7_draws_34 : decode cX7_draws 34 = .ok (.iconst 2, 1) := by decide +kernel
theorem dX7_draws_35 : decode cX7_draws 35 = .ok (.goto 13, 3) := by decide +kernel
theorem dX7_draws_38 : decode cX7_draws 38 = .ok (.iload_n 3, 1) := by decide +kernel
theorem dX7_draws_39 : decode cX7_draws 39 = .ok (.iconst 4, 1) := by decide +kernel
theorem dX7_draws_40 : decode cX7_draws 40 = .ok (.if_icmp .ne 7, 3) := by decide +kernel
theorem dX7_draws_43 : decode cX7_draws 43 = .ok (.iconst 3, 1) := by decide +kernel
theorem dX7_draws_44 : decode cX7_draws 44 = .ok (.goto 4, 3) := by decide +kernel
theorem dX7_draws_47 : decode cX7_draws 47 = .ok (.iconst 1, 1) := by decide +kernel
theorem dX7_draws_48 : decode cX7_draws 48 = .ok (.iastore, 1) := by decide +kernel
theorem dX7_draws_49 : decode cX7_draws 49 = .ok (.aload_n 0, 1) := by decide +kernel
theorem dX7_draws_50 : decode cX7_draws 50 = .ok (.getfield 32, 3) := by decide +kernel
theorem dX7_draws_53 : decode cX7_draws 53 = .ok (.iload_n 1, 1) := by decide +kernel
theorem dX7_draws_54 : decode cX7_draws 54 = .ok (.iload_n 3, 1) := by decide +kernel
theorem dX7_draws_55 : decode cX7_draws 55 = .ok (.iconst 1, 1) := by decide +kernel
theorem dX7_draws_56 : decode cX7_draws 56 = .ok (.if_icmp .eq 8, 3) := by decide +kernel
theorem dX7_draws_59 : decode cX7_draws 59 = .ok (.iload_n 3, 1) := by decide +kernel
theorem dX7_draws_60 : decode cX7_draws 60 = .ok (.iconst 2, 1) := by decide +kernel
theorem dX7_draws_61 : decode cX7_draws 61 = .ok (.if_icmp .ne 7, 3) := by decide +kernel
theorem dX7_draws_64 : decode cX7_draws 64 = .ok (.iconst 1, 1) := by decide +kernel
theorem dX7_draws_65 : decode cX7_draws 65 = .ok (.goto 4, 3) := by decide +kernel
theorem dX7_draws_68 : decode cX7_draws 68 = .ok (.iconst 0, 1) := by decide +kernel
theorem dX7_draws_69 : decode cX7_draws 69 = .ok (.iastore, 1) := by decide +kernel
theorem dX7_draws_70 : decode cX7_draws 70 = .ok (.aload_n 0, 1) := by decide +kernel
theorem dX7_draws_71 : decode cX7_draws 71 = .ok (.getfield 29, 3) := by decide +kernel
theorem dX7_draws_74 : decode cX7_draws 74 = .ok (.iload_n 1, 1) := by decide +kernel
theorem dX7_draws_75 : decode cX7_draws 75 = .ok (.iload_n 3, 1) := by decide +kernel
theorem dX7_draws_76 : decode cX7_draws 76 = .ok (.iconst 3, 1) := by decide +kernel
theorem dX7_draws_77 : decode cX7_draws 77 = .ok (.if_icmp .ne 7, 3) := by decide +kernel
theorem dX7_draws_80 : decode cX7_draws 80 = .ok (.iconst 1, 1) := by decide +kernel
theorem dX7_draws_81 : decode cX7_draws 81 = .ok (.goto 19, 3) := by decide +kernel
theorem dX7_draws_84 : decode cX7_draws 84 = .ok (.iload_n 3, 1) := by decide +kernel
theorem dX7_draws_85 : decode cX7_draws 85 = .ok (.iconst 4, 1) := by decide +kernel
theorem dX7_draws_86 : decode cX7_draws 86 = .ok (.if_icmp .ne 7, 3) := by decide +kernel
theorem dX7_draws_89 : decode cX7_draws 89 = .ok (.iconst 2, 1) := by decide +kernel
theorem dX7_draws_90 : decode cX7_draws 90 = .ok (.goto 10, 3) := by decide +kernel
theorem dX7_draws_93 : decode cX7_draws 93 = .ok (.iconst 2, 1) := by decide +kernel
theorem dX7_draws_94 : decode cX7_draws 94 = .ok (.aload_n 0, 1) := by decide +kernel
theorem dX7_draws_95 : decode cX7_draws 95 = .ok (.iconst 3, 1) := by decide +kernel
theorem dX7_draws_96 : decode cX7_draws 96 = .ok (.invokevirtual 404, 3) := by decide +kernel
theorem dX7_draws_99 : decode cX7_draws 99 = .ok (.iadd, 1) := by decide +kernel
theorem dX7_draws_100 : decode cX7_draws 100 = .ok (.iastore, 1) := by decide +kernel
theorem dX7_draws_101 : decode cX7_draws 101 = .ok (.aload_n 0, 1) := by decide +kernel
theorem dX7_draws_102 : decode cX7_draws 102 = .ok (.aload_n 0, 1) := by decide +kernel
theorem dX7_draws_103 : decode cX7_draws 103 = .ok (.getfield 190, 3) := by decide +kernel
theorem dX7_draws_106 : decode cX7_draws 106 = .ok (.invokevirtual 404, 3) := by decide +kernel
theorem dX7_draws_109 : decode cX7_draws 109 = .ok (.istore 4, 2) := by decide +kernel
theorem dX7_draws_111 : decode cX7_draws 111 = .ok (.aload_n 0, 1) := by decide +kernel
theorem dX7_draws_112 : decode cX7_draws 112 = .ok (.aload_n 0, 1) := by decide +kernel
theorem dX7_draws_113 : decode cX7_draws 113 = .ok (.getfield 193, 3) := by decide +kernel
theorem dX7_draws_116 : decode cX7_draws 116 = .ok (.invokevirtual 404, 3) := by decide +kernel
theorem dX7_draws_119 : decode cX7_draws 119 = .ok (.istore 5, 2) := by decide +kernel
theorem dX7_draws_121 : decode cX7_draws 121 = .ok (.aload_n 0, 1) := by decide +kernel
theorem dX7_draws_122 : decode cX7_draws 122 = .ok (.iload_n 1, 1) := by decide +kernel
theorem dX7_draws_123 : decode cX7_draws 123 = .ok (.iload 4, 2) := by decide +kernel
theorem dX7_draws_125 : decode cX7_draws 125 = .ok (.iload 5, 2) := by decide +kernel
theorem dX7_draws_127 : decode cX7_draws 127 = .ok (.invokevirtual 369, 3) := by decide +kernel
theorem dX7_draws_130 : decode cX7_draws 130 = .ok (.ifCond .le 6, 3) := by decide +kernel
theorem dX7_draws_133 : decode cX7_draws 133 = .ok (.goto 40, 3) := by decide +kernel
theorem dX7_draws_136 : decode cX7_draws 136 = .ok (.aload_n 0, 1) := by decide +kernel
theorem dX7_draws_137 : decode cX7_draws 137 = .ok (.getfield 26, 3) := by decide +kernel
theorem dX7_draws_140 : decode cX7_draws 140 = .ok (.iload_n 1, 1) := by decide +kernel
theorem dX7_draws_141 : decode cX7_draws 141 = .ok (.iload 4, 2) := by decide +kernel
theorem dX7_draws_143 : decode cX7_draws 143 = .ok (.bipush 8, 2) := by decide +kernel
theorem dX7_draws_145 : decode cX7_draws 145 = .ok (.iload 5, 2) := by decide +kernel
theorem dX7_draws_147 : decode cX7_draws 147 = .ok (.imul, 1) := by decide +kernel
theorem dX7_draws_148 : decode cX7_draws 148 = .ok (.iadd, 1) := by decide +kernel
theorem dX7_draws_149 : decode cX7_draws 149 = .ok (.iastore, 1) := by decide +kernel
theorem dX7_draws_150 : decode cX7_draws 150 = .ok (.aload_n 0, 1) := by decide +kernel
theorem dX7_draws_151 : decode cX7_draws 151 = .ok (.getfield 35, 3) := by decide +kernel
theorem dX7_draws_154 : decode cX7_draws 154 = .ok (.iload_n 1, 1) := by decide +kernel
theorem dX7_draws_155 : decode cX7_draws 155 = .ok (.aload_n 0, 1) := by decide +kernel
theorem dX7_draws_156 : decode cX7_draws 156 = .ok (.getfield 26, 3) := by decide +kernel
theorem dX7_draws_159 : decode cX7_draws 159 = .ok (.iload_n 1, 1) := by decide +kernel
theorem dX7_draws_160 : decode cX7_draws 160 = .ok (.iaload, 1) := by decide +kernel
theorem dX7_draws_161 : decode cX7_draws 161 = .ok (.iastore, 1) := by decide +kernel
theorem dX7_draws_162 : decode cX7_draws 162 = .ok (.aload_n 0, 1) := by decide +kernel
theorem dX7_draws_163 : decode cX7_draws 163 = .ok (.dup, 1) := by decide +kernel
theorem dX7_draws_164 : decode cX7_draws 164 = .ok (.getfield 216, 3) := by decide +kernel
theorem dX7_draws_167 : decode cX7_draws 167 = .ok (.iconst 1, 1) := by decide +kernel
theorem dX7_draws_168 : decode cX7_draws 168 = .ok (.iadd, 1) := by decide +kernel
theorem dX7_draws_169 : decode cX7_draws 169 = .ok (.putfield 216, 3) := by decide +kernel
theorem dX7_draws_172 : decode cX7_draws 172 = .ok (.return_, 1) := by decide +kernel
theorem dX7_draws_173 : decode cX7_draws 173 = .ok (.iinc 2 1, 3) := by decide +kernel
theorem dX7_draws_176 : decode cX7_draws 176 = .ok (.goto (-165), 3) := by decide +kernel
theorem dX7_draws_179 : decode cX7_draws 179 = .ok (.return_, 1) := by decide +kernel
set_option maxRecDepth 20000 in
theorem mc_X7_farNow_X7_farNow_r1 : mjIn wsX7_farNow wsX7_farNow_r1 := fun w h => (List.mem_cons_of_mem _ (List.mem_append_left _ (List.mem_append_left _ h)))
set_option maxRecDepth 20000 in
theorem mc_X7_farNow_X7_farNow_r2 : mjIn wsX7_farNow wsX7_farNow_r2 := fun w h => (List.mem_cons_of_mem _ (List.mem_append_left _ (List.mem_append_right _ (List.mem_append_left _ h))))
set_option maxRecDepth 20000 in
theorem mc_X7_farNow_X7_farNow_r3 : mjIn wsX7_farNow wsX7_farNow_r3 := fun w h => (List.mem_cons_of_mem _ (List.mem_append_left _ (List.mem_append_right _ (List.mem_append_right _ (List.mem_append_left _ h)))))
set_option maxRecDepth 20000 in
theorem mc_X7_farNow_X7_farNow_r4 : mjIn wsX7_farNow wsX7_farNow_r4 := fun w h => (List.mem_cons_of_mem _ (List.mem_append_left _ (List.mem_append_right _ (List.mem_append_right _ (List.mem_append_right _ (List.mem_append_left _ h))))))
set_option maxRecDepth 20000 in
theorem mc_X7_farNow_X7_farNow_r5 : mjIn wsX7_farNow wsX7_farNow_r5 := fun w h => (List.mem_cons_of_mem _ (List.mem_append_left _ (List.mem_append_right _ (List.mem_append_right _ (List.mem_append_right _ (List.mem_append_right _ h))))))
set_option maxRecDepth 20000 in
theorem mc_X7_farNow_X70 : mjIn wsX7_farNow wsX70 := fun w h => (List.mem_cons_of_mem _ (List.mem_append_right _ h))
set_option maxRecDepth 20000 in
theorem ggX7_farNow_X7_hardest : GoodIn wsX7_farNow wsX7_hardest := mj_good (mj_cons (mc_X7_farNow_X7_farNow_r1 _ (List.mem_of_getElem? (i := 5) rfl)) (mj_app (mj_app (mj_cons (mc_X7_farNow_X7_farNow_r1 _ (List.mem_of_getElem? (i := 6) rfl)) (mj_cons (mc_X7_farNow_X7_farNow_r1 _ (List.mem_of_getElem? (i := 0) rfl)) (mj_cons (mc_X7_farNow_X7_farNow_r1 _ (List.mem_of_getElem? (i := 7) rfl)) (mj_cons (mc_X7_farNow_X7_farNow_r1 _ (List.mem_of_getElem? (i := 8) rfl)) (mj_cons (mc_X7_farNow_X7_farNow_r1 _ (List.mem_of_getElem? (i := 9) rfl)) (mj_cons (mc_X7_farNow_X7_farNow_r1 _ (List.mem_of_getElem? (i := 10) rfl)) (mj_cons (mc_X7_farNow_X7_farNow_r1 _ (List.mem_of_getElem? (i := 11) rfl)) (mj_cons (mc_X7_farNow_X7_farNow_r1 _ (List.mem_of_getElem? (i := 4) rfl)) (mj_cons (mc_X7_farNow_X7_farNow_r1 _ (List.mem_of_getElem? (i := 12) rfl)) (mj_cons (mc_X7_farNow_X7_farNow_r1 _ (List.mem_of_getElem? (i := 13) rfl)) (mj_cons (mc_X7_farNow_X7_farNow_r1 _ (List.mem_of_getElem? (i := 14) rfl)) (mj_cons (mc_X7_farNow_X7_farNow_r1 _ (List.mem_of_getElem? (i := 15) rfl)) (mj_cons (mc_X7_farNow_X7_farNow_r1 _ (List.mem_of_getElem? (i := 16) rfl)) (mj_cons (mc_X7_farNow_X7_farNow_r1 _ (List.mem_of_getElem? (i := 17) rfl)) (mj_cons (mc_X7_farNow_X7_farNow_r1 _ (List.mem_of_getElem? (i := 18) rfl)) (mj_cons (mc_X7_farNow_X7_farNow_r1 _ (List.mem_of_getElem? (i := 19) rfl)) (mj_cons (mc_X7_farNow_X7_farNow_r1 _ (List.mem_of_getElem? (i := 20) rfl)) (mj_cons (mc_X7_farNow_X7_farNow_r1 _ (List.mem_of_getElem? (i := 21) rfl)) (mj_cons (mc_X7_farNow_X7_farNow_r1 _ (List.mem_of_getElem? (i := 22) rfl)) (mj_cons (mc_X7_farNow_X7_farNow_r1 _ (List.mem_of_getElem? (i := 23) rfl)) (mj_cons (mc_X7_farNow_X7_farNow_r2 _ (List.mem_of_getElem? (i := 0) rfl)) (mj_cons (mc_X7_farNow_X7_farNow_r2 _ (List.mem_of_getElem? (i := 1) rfl)) (mj_cons (mc_X7_farNow_X7_farNow_r2 _ (List.mem_of_getElem? (i := 2) rfl)) (mj_cons (mc_X7_farNow_X7_farNow_r2 _ (List.mem_of_getElem? (i := 3) rfl)) mj_nil)))))))))))))))))))))))) (mj_app (mj_cons (mc_X7_farNow_X7_farNow_r2 _ (List.mem_of_getElem? (i := 4) rfl)) (mj_cons (mc_X7_farNow_X7_farNow_r2 _ (List.mem_of_getElem? (i := 5) rfl)) (mj_cons (mc_X7_farNow_X7_farNow_r2 _ (List.mem_of_getElem? (i := 6) rfl)) (mj_cons (mc_X7_farNow_X7_farNow_r2 _ (List.mem_of_getElem? (i := 7) rfl)) (mj_cons (mc_X7_farNow_X7_farNow_r2 _ (List.mem_of_getElem? (i := 8) rfl)) (mj_cons (mc_X7_farNow_X7_farNow_r2 _ (List.mem_of_getElem? (i := 9) rfl)) (mj_cons (mc_X7_farNow_X7_farNow_r2 _ (List.mem_of_getElem? (i := 10) rfl)) (mj_cons (mc_X7_farNow_X7_farNow_r2 _ (List.mem_of_getElem? (i := 11) rfl)) (mj_cons (mc_X7_farNow_X7_farNow_r2 _ (List.mem_of_getElem? (i := 12) rfl)) (mj_cons (mc_X7_farNow_X7_farNow_r2 _ (List.mem_of_getElem? (i := 13) rfl)) (mj_cons (mc_X7_farNow_X7_farNow_r2 _ (List.mem_of_getElem? (i := 14) rfl)) (mj_cons (mc_X7_farNow_X7_farNow_r2 _ (List.mem_of_getElem? (i := 15) rfl)) (mj_cons (mc_X7_farNow_X7_farNow_r2 _ (List.mem_of_getElem? (i := 16) rfl)) (mj_cons (mc_X7_farNow_X7_farNow_r2 _ (List.mem_of_getElem? (i := 17) rfl)) (mj_cons (mc_X7_farNow_X7_farNow_r2 _ (List.mem_of_getElem? (i := 18) rfl)) (mj_cons (mc_X7_farNow_X7_farNow_r2 _ (List.mem_of_getElem? (i := 19) rfl)) (mj_cons (mc_X7_farNow_X7_farNow_r2 _ (List.mem_of_getElem? (i := 20) rfl)) (mj_cons (mc_X7_farNow_X7_farNow_r2 _ (List.mem_of_getElem? (i := 21) rfl)) (mj_cons (mc_X7_farNow_X7_farNow_r2 _ (List.mem_of_getElem? (i := 22) rfl)) (mj_cons (mc_X7_farNow_X7_farNow_r2 _ (List.mem_of_getElem? (i := 23) rfl)) (mj_cons (mc_X7_farNow_X7_farNow_r3 _ (List.mem_of_getElem? (i := 0) rfl)) (mj_cons (mc_X7_farNow_X7_farNow_r3 _ (List.mem_of_getElem? (i := 1) rfl)) (mj_cons (mc_X7_farNow_X7_farNow_r3 _ (List.mem_of_getElem? (i := 2) rfl)) (mj_cons (mc_X7_farNow_X7_farNow_r3 _ (List.mem_of_getElem? (i := 3) rfl)) mj_nil)))))))))))))))))))))))) (mj_app (mj_cons (mc_X7_farNow_X7_farNow_r3 _ (List.mem_of_getElem? (i := 4) rfl)) (mj_cons (mc_X7_farNow_X7_farNow_r3 _ (List.mem_of_getElem? (i := 5) rfl)) (mj_cons (mc_X7_farNow_X7_farNow_r3 _ (List.mem_of_getElem? (i := 6) rfl)) (mj_cons (mc_X7_farNow_X7_farNow_r3 _ (List.mem_of_getElem? (i := 7) rfl)) (mj_cons (mc_X7_farNow_X7_farNow_r3 _ (List.mem_of_getElem? (i := 8) rfl)) (mj_cons (mc_X7_farNow_X7_farNow_r3 _ (List.mem_of_getElem? (i := 9) rfl)) (mj_cons (mc_X7_farNow_X7_farNow_r3 _ (List.mem_of_getElem? (i := 10) rfl)) (mj_cons (mc_X7_farNow_X7_farNow_r3 _ (List.mem_of_getElem? (i := 11) rfl)) (mj_cons (mc_X7_farNow_X7_farNow_r3 _ (List.mem_of_getElem? (i := 12) rfl)) (mj_cons (mc_X7_farNow_X7_farNow_r3 _ (List.mem_of_getElem? (i := 13) rfl)) (mj_cons (mc_X7_farNow_X7_farNow_r3 _ (List.mem_of_getElem? (i := 14) rfl)) (mj_cons (mc_X7_farNow_X7_farNow_r3 _ (List.mem_of_getElem? (i := 15) rfl)) (mj_cons (mc_X7_farNow_X7_farNow_r3 _ (List.mem_of_getElem? (i := 16) rfl)) (mj_cons (mc_X7_farNow_X7_farNow_r3 _ (List.mem_of_getElem? (i := 17) rfl)) (mj_cons (mc_X7_farNow_X7_farNow_r3 _ (List.mem_of_getElem? (i := 18) rfl)) (mj_cons (mc_X7_farNow_X7_farNow_r3 _ (List.mem_of_getElem? (i := 19) rfl)) (mj_cons (mc_X7_farNow_X7_farNow_r3 _ (List.mem_of_getElem? (i := 20) rfl)) (mj_cons (mc_X7_farNow_X7_farNow_r3 _ (List.mem_of_getElem? (i := 21) rfl)) (mj_cons (mc_X7_farNow_X7_farNow_r3 _ (List.mem_of_getElem? (i := 22) rfl)) (mj_cons (mc_X7_farNow_X7_farNow_r3 _ (List.mem_of_getElem? (i := 23) rfl)) (mj_cons (mc_X7_farNow_X7_farNow_r4 _ (List.mem_of_getElem? (i := 0) rfl)) (mj_cons (mc_X7_farNow_X7_farNow_r4 _ (List.mem_of_getElem? (i := 1) rfl)) (mj_cons (mc_X7_farNow_X7_farNow_r4 _ (List.mem_of_getElem? (i := 2) rfl)) (mj_cons (mc_X7_farNow_X7_farNow_r4 _ (List.mem_of_getElem? (i := 3) rfl)) mj_nil)))))))))))))))))))))))) (mj_app (mj_cons (mc_X7_farNow_X7_farNow_r4 _ (List.mem_of_getElem? (i := 4) rfl)) (mj_cons (mc_X7_farNow_X7_farNow_r4 _ (List.mem_of_getElem? (i := 5) rfl)) (mj_cons (mc_X7_farNow_X7_farNow_r4 _ (List.mem_of_getElem? (i := 6) rfl)) (mj_cons (mc_X7_farNow_X7_farNow_r4 _ (List.mem_of_getElem? (i := 7) rfl)) (mj_cons (mc_X7_farNow_X7_farNow_r4 _ (List.mem_of_getElem? (i := 8) rfl)) (mj_cons (mc_X7_farNow_X7_farNow_r4 _ (List.mem_of_getElem? (i := 9) rfl)) (mj_cons (mc_X7_farNow_X7_farNow_r4 _ (List.mem_of_getElem? (i := 10) rfl)) (mj_cons (mc_X7_farNow_X7_farNow_r4 _ (List.mem_of_getElem? (i := 11) rfl)) (mj_cons (mc_X7_farNow_X7_farNow_r4 _ (List.mem_of_getElem? (i := 12) rfl)) (mj_cons (mc_X7_farNow_X7_farNow_r4 _ (List.mem_of_getElem? (i := 13) rfl)) (mj_cons (mc_X7_farNow_X7_farNow_r4 _ (List.mem_of_getElem? (i := 14) rfl)) (mj_cons (mc_X7_farNow_X7_farNow_r4 _ (List.mem_of_getElem? (i := 15) rfl)) (mj_cons (mc_X7_farNow_X7_farNow_r4 _ (List.mem_of_getElem? (i := 16) rfl)) (mj_cons (mc_X7_farNow_X7_farNow_r4 _ (List.mem_of_getElem? (i := 17) rfl)) (mj_cons (mc_X7_farNow_X7_farNow_r4 _ (List.mem_of_getElem? (i := 18) rfl)) (mj_cons (mc_X7_farNow_X7_farNow_r4 _ (List.mem_of_getElem? (i := 19) rfl)) (mj_cons (mc_X7_farNow_X7_farNow_r4 _ (List.mem_of_getElem? (i := 20) rfl)) (mj_cons (mc_X7_farNow_X7_farNow_r4 _ (List.mem_of_getElem? (i := 21) rfl)) (mj_cons (mc_X7_farNow_X7_farNow_r4 _ (List.mem_of_getElem? (i := 22) rfl)) (mj_cons (mc_X7_farNow_X7_farNow_r4 _ (List.mem_of_getElem? (i := 23) rfl)) (mj_cons (mc_X7_farNow_X7_farNow_r5 _ (List.mem_of_getElem? (i := 0) rfl)) (mj_cons (mc_X7_farNow_X7_farNow_r5 _ (List.mem_of_getElem? (i := 1) rfl)) (mj_cons (mc_X7_farNow_X7_farNow_r5 _ (List.mem_of_getElem? (i := 2) rfl)) (mj_cons (mc_X7_farNow_X7_farNow_r5 _ (List.mem_of_getElem? (i := 3) rfl)) mj_nil)))))))))))))))))))))))) (mj_cons (mc_X7_farNow_X7_farNow_r5 _ (List.mem_of_getElem? (i := 4) rfl)) (mj_cons (mc_X7_farNow_X7_farNow_r5 _ (List.mem_of_getElem? (i := 5) rfl)) (mj_cons (mc_X7_farNow_X7_farNow_r5 _ (List.mem_of_getElem? (i := 6) rfl)) (mj_cons (mc_X7_farNow_X7_farNow_r5 _ (List.mem_of_getElem? (i := 7) rfl)) (mj_cons (mc_X7_farNow_X7_farNow_r5 _ (List.mem_of_getElem? (i := 8) rfl)) (mj_cons (mc_X7_farNow_X7_farNow_r5 _ (List.mem_of_getElem? (i := 9) rfl)) (mj_cons (mc_X7_farNow_X7_farNow_r5 _ (List.mem_of_getElem? (i := 10) rfl)) (mj_cons (mc_X7_farNow_X7_farNow_r5 _ (List.mem_of_getElem? (i := 11) rfl)) (mj_cons (mc_X7_farNow_X7_farNow_r5 _ (List.mem_of_getElem? (i := 12) rfl)) (mj_cons (mc_X7_farNow_X7_farNow_r5 _ (List.mem_of_getElem? (i := 13) rfl)) (mj_cons (mc_X7_farNow_X7_farNow_r5 _ (List.mem_of_getElem? (i := 14) rfl)) (mj_cons (mc_X7_farNow_X7_farNow_r5 _ (List.mem_of_getElem? (i := 15) rfl)) (mj_cons (mc_X7_farNow_X7_farNow_r5 _ (List.mem_of_getElem? (i := 16) rfl)) (mj_cons (mc_X7_farNow_X7_farNow_r5 _ (List.mem_of_getElem? (i := 17) rfl)) (mj_cons (mc_X7_farNow_X7_farNow_r5 _ (List.mem_of_getElem? (i := 18) rfl)) (mj_cons (mc_X7_farNow_X7_farNow_r5 _ (List.mem_of_getElem? (i := 19) rfl)) mj_nil)))))))))))))))))))) mc_X7_farNow_X70)) (by decide +kernel)
set_option maxRecDepth 20000 in
theorem gX7_farNow_X7_hardest : GoodIn wsX7_farNow (wsV RX7 324 RX7 yX7_hardest wsX7_hardest) := goodIn_app (mj_good (mj_cons (mc_X7_farNow_X7_farNow_r1 _ (List.mem_of_getElem? (i := 1) rfl)) (mj_cons (mc_X7_farNow_X7_farNow_r1 _ (List.mem_of_getElem? (i := 2) rfl)) (mj_cons (mc_X7_farNow_X7_farNow_r1 _ (List.mem_of_getElem? (i := 3) rfl)) (mj_cons (mc_X7_farNow_X7_farNow_r1 _ (List.mem_of_getElem? (i := 4) rfl)) mj_nil)))) (by decide +kernel)) ggX7_farNow_X7_hardest
theorem dX7_farNow_0 : decode cX7_farNow 0 = .ok (.aload_n 0, 1) := by decide +kernel
theorem dX7_farNow_1 : decode cX7_farNow 1 = .ok (.invokevirtual 324, 3) := by decide +kernel
theorem dX7_farNow_4 : decode cX7_farNow 4 = .ok (.istore_n 1, 1) := by decide +kernel
theorem dX7_farNow_5 : decode cX7_farNow 5 = .ok (.iload_n 1, 1) := by decide +kernel
theorem dX7_farNow_6 : decode cX7_farNow 6 = .ok (.ifCond .ge 7, 3) := by decide +kernel
theorem dX7_farNow_9 : decode cX7_farNow 9 = .ok (.iload_n 1, 1) := by decide +kernel
theorem dX7_farNow_10 : decode cX7_farNow 10 = .ok (.goto 9, 3) := by decide +kernel
theorem dX7_farNow_13 : decode cX7_farNow 13 = .ok (.aload_n 0, 1) := by decide +kernel
theorem dX7_farNow_14 : decode cX7_farNow 14 = .ok (.getfield 101, 3) := by decide +kernel
theorem dX7_farNow_17 : decode cX7_farNow 17 = .ok (.iload_n 1, 1) := by decide +kernel
theorem dX7_farNow_18 : decode cX7_farNow 18 = .ok (.iaload, 1) := by decide +kernel
theorem dX7_farNow_19 : decode cX7_farNow 19 = .ok (.ireturn, 1) := by decide +kernel
set_option maxRecDepth 20000 in
theorem mc_X7_trim_X7_trim_r1 : mjIn wsX7_trim wsX7_trim_r1 := fun w h => (List.mem_cons_of_mem _ (List.mem_append_left _ (List.mem_append_left _ h)))
set_option maxRecDepth 20000 in
theorem mc_X7_trim_X70 : mjIn wsX7_trim wsX70 := fun w h => (List.mem_cons_of_mem _ (List.mem_append_right _ h))
set_option maxRecDepth 20000 in
theorem ggX7_trim_X7_refuse : GoodIn wsX7_trim wsX7_refuse := mj_good (mj_cons (mc_X7_trim_X7_trim_r1 _ (List.mem_of_getElem? (i := 11) rfl)) (mj_app (mj_cons (mc_X7_trim_X7_trim_r1 _ (List.mem_of_getElem? (i := 1) rfl)) mj_nil) mc_X7_trim_X70)) (by decide +kernel)
set_option maxRecDepth 20000 in
theorem gX7_trim_X7_refuse : GoodIn wsX7_trim (wsV RX7 290 RX7 yX7_refuse wsX7_refuse) := goodIn_app (mj_good (mj_cons (mc_X7_trim_X7_trim_r1 _ (List.mem_of_getElem? (i := 7) rfl)) (mj_cons (mc_X7_trim_X7_trim_r1 _ (List.mem_of_getElem? (i := 8) rfl)) (mj_cons (mc_X7_trim_X7_trim_r1 _ (List.mem_of_getElem? (i := 9) rfl)) (mj_cons (mc_X7_trim_X7_trim_r1 _ (List.mem_of_getElem? (i := 10) rfl)) mj_nil)))) (by decide +kernel)) ggX7_trim_X7_refuse
set_option maxRecDepth 20000 in
theorem mc_X7_trim_X7_trim_r2 : mjIn wsX7_trim wsX7_trim_r2 := fun w h => (List.mem_cons_of_mem _ (List.mem_append_left _ (List.mem_append_right _ (List.mem_append_left _ h))))
set_option maxRecDepth 20000 in
theorem mc_X7_trim_X7_trim_r3 : mjIn wsX7_trim wsX7_trim_r3 := fun w h => (List.mem_cons_of_mem _ (List.mem_append_left _ (List.mem_append_right _ (List.mem_append_right _ (List.mem_append_left _ h)))))
set_option maxRecDepth 20000 in
theorem mc_X7_trim_X7_trim_r4 : mjIn wsX7_trim wsX7_trim_r4 := fun w h => (List.mem_cons_of_mem _ (List.mem_append_left _ (List.mem_append_right _ (List.mem_append_right _ (List.mem_append_right _ (List.mem_append_left _ h))))))
set_option maxRecDepth 20000 in
theorem mc_X7_trim_X7_trim_r5 : mjIn wsX7_trim wsX7_trim_r5 := fun w h => (List.mem_cons_of_mem _ (List.mem_append_left _ (List.mem_append_right _ (List.mem_append_right _ (List.mem_append_right _ (List.mem_append_right _ (List.mem_append_left _ h)))))))
set_option maxRecDepth 20000 in
theorem mc_X7_trim_X7_trim_r6 : mjIn wsX7_trim wsX7_trim_r6 := fun w h => (List.mem_cons_of_mem _ (List.mem_append_left _ (List.mem_append_right _ (List.mem_append_right _ (List.mem_append_right _ (List.mem_append_right _ (List.mem_append_right _ (List.mem_append_left _ h))))))))
set_option maxRecDepth 20000 in
theorem ggX7_trim_X7_farNow : GoodIn wsX7_trim wsX7_farNow := mj_good (mj_cons (mc_X7_trim_X7_trim_r1 _ (List.mem_of_getElem? (i := 15) rfl)) (mj_app (mj_app (mj_cons (mc_X7_trim_X7_trim_r1 _ (List.mem_of_getElem? (i := 16) rfl)) (mj_cons (mc_X7_trim_X7_trim_r1 _ (List.mem_of_getElem? (i := 17) rfl)) (mj_cons (mc_X7_trim_X7_trim_r1 _ (List.mem_of_getElem? (i := 18) rfl)) (mj_cons (mc_X7_trim_X7_trim_r1 _ (List.mem_of_getElem? (i := 19) rfl)) (mj_cons (mc_X7_trim_X7_trim_r1 _ (List.mem_of_getElem? (i := 10) rfl)) (mj_cons (mc_X7_trim_X7_trim_r1 _ (List.mem_of_getElem? (i := 20) rfl)) (mj_cons (mc_X7_trim_X7_trim_r1 _ (List.mem_of_getElem? (i := 21) rfl)) (mj_cons (mc_X7_trim_X7_trim_r1 _ (List.mem_of_getElem? (i := 22) rfl)) (mj_cons (mc_X7_trim_X7_trim_r1 _ (List.mem_of_getElem? (i := 23) rfl)) (mj_cons (mc_X7_trim_X7_trim_r2 _ (List.mem_of_getElem? (i := 0) rfl)) (mj_cons (mc_X7_trim_X7_trim_r2 _ (List.mem_of_getElem? (i := 1) rfl)) (mj_cons (mc_X7_trim_X7_trim_r2 _ (List.mem_of_getElem? (i := 2) rfl)) (mj_cons (mc_X7_trim_X7_trim_r2 _ (List.mem_of_getElem? (i := 3) rfl)) (mj_cons (mc_X7_trim_X7_trim_r2 _ (List.mem_of_getElem? (i := 4) rfl)) (mj_cons (mc_X7_trim_X7_trim_r2 _ (List.mem_of_getElem? (i := 5) rfl)) (mj_cons (mc_X7_trim_X7_trim_r2 _ (List.mem_of_getElem? (i := 6) rfl)) (mj_cons (mc_X7_trim_X7_trim_r2 _ (List.mem_of_getElem? (i := 7) rfl)) (mj_cons (mc_X7_trim_X7_trim_r1 _ (List.mem_of_getElem? (i := 3) rfl)) (mj_cons (mc_X7_trim_X7_trim_r2 _ (List.mem_of_getElem? (i := 8) rfl)) (mj_cons (mc_X7_trim_X7_trim_r2 _ (List.mem_of_getElem? (i := 9) rfl)) (mj_cons (mc_X7_trim_X7_trim_r2 _ (List.mem_of_getElem? (i := 10) rfl)) (mj_cons (mc_X7_trim_X7_trim_r2 _ (List.mem_of_getElem? (i := 11) rfl)) (mj_cons (mc_X7_trim_X7_trim_r2 _ (List.mem_of_getElem? (i := 12) rfl)) (mj_cons (mc_X7_trim_X7_trim_r2 _ (List.mem_of_getElem? (i := 13) rfl)) mj_nil)))))))))))))))))))))))) (mj_app (mj_cons (mc_X7_trim_X7_trim_r2 _ (List.mem_of_getElem? (i := 14) rfl)) (mj_cons (mc_X7_trim_X7_trim_r2 _ (List.mem_of_getElem? (i := 15) rfl)) (mj_cons (mc_X7_trim_X7_trim_r2 _ (List.mem_of_getElem? (i := 16) rfl)) (mj_cons (mc_X7_trim_X7_trim_r2 _ (List.mem_of_getElem? (i := 17) rfl)) (mj_cons (mc_X7_trim_X7_trim_r2 _ (List.mem_of_getElem? (i := 18) rfl)) (mj_cons (mc_X7_trim_X7_trim_r2 _ (List.mem_of_getElem? (i := 19) rfl)) (mj_cons (mc_X7_trim_X7_trim_r2 _ (List.mem_of_getElem? (i := 20) rfl)) (mj_cons (mc_X7_trim_X7_trim_r2 _ (List.mem_of_getElem? (i := 21) rfl)) (mj_cons (mc_X7_trim_X7_trim_r2 _ (List.mem_of_getElem? (i := 22) rfl)) (mj_cons (mc_X7_trim_X7_trim_r2 _ (List.mem_of_getElem? (i := 23) rfl)) (mj_cons (mc_X7_trim_X7_trim_r3 _ (List.mem_of_getElem? (i := 0) rfl)) (mj_cons (mc_X7_trim_X7_trim_r3 _ (List.mem_of_getElem? (i := 1) rfl)) (mj_cons (mc_X7_trim_X7_trim_r3 _ (List.mem_of_getElem? (i := 2) rfl)) (mj_cons (mc_X7_trim_X7_trim_r1 _ (List.mem_of_getElem? (i := 4) rfl)) (mj_cons (mc_X7_trim_X7_trim_r3 _ (List.mem_of_getElem? (i := 3) rfl)) (mj_cons (mc_X7_trim_X7_trim_r3 _ (List.mem_of_getElem? (i := 4) rfl)) (mj_cons (mc_X7_trim_X7_trim_r3 _ (List.mem_of_getElem? (i := 5) rfl)) (mj_cons (mc_X7_trim_X7_trim_r3 _ (List.mem_of_getElem? (i := 6) rfl)) (mj_cons (mc_X7_trim_X7_trim_r3 _ (List.mem_of_getElem? (i := 7) rfl)) (mj_cons (mc_X7_trim_X7_trim_r3 _ (List.mem_of_getElem? (i := 8) rfl)) (mj_cons (mc_X7_trim_X7_trim_r3 _ (List.mem_of_getElem? (i := 9) rfl)) (mj_cons (mc_X7_trim_X7_trim_r3 _ (List.mem_of_getElem? (i := 10) rfl)) (mj_cons (mc_X7_trim_X7_trim_r3 _ (List.mem_of_getElem? (i := 11) rfl)) (mj_cons (mc_X7_trim_X7_trim_r3 _ (List.mem_of_getElem? (i := 12) rfl)) mj_nil)))))))))))))))))))))))) (mj_app (mj_cons (mc_X7_trim_X7_trim_r3 _ (List.mem_of_getElem? (i := 13) rfl)) (mj_cons (mc_X7_trim_X7_trim_r3 _ (List.mem_of_getElem? (i := 14) rfl)) (mj_cons (mc_X7_trim_X7_trim_r3 _ (List.mem_of_getElem? (i := 15) rfl)) (mj_cons (mc_X7_trim_X7_trim_r3 _ (List.mem_of_getElem? (i := 16) rfl)) (mj_cons (mc_X7_trim_X7_trim_r3 _ (List.mem_of_getElem? (i := 17) rfl)) (mj_cons (mc_X7_trim_X7_trim_r3 _ (List.mem_of_getElem? (i := 18) rfl)) (mj_cons (mc_X7_trim_X7_trim_r3 _ (List.mem_of_getElem? (i := 19) rfl)) (mj_cons (mc_X7_trim_X7_trim_r3 _ (List.mem_of_getElem? (i := 20) rfl)) (mj_cons (mc_X7_trim_X7_trim_r3 _ (List.mem_of_getElem? (i := 21) rfl)) (mj_cons (mc_X7_trim_X7_trim_r3 _ (List.mem_of_getElem? (i := 22) rfl)) (mj_cons (mc_X7_trim_X7_trim_r3 _ (List.mem_of_getElem? (i := 23) rfl)) (mj_cons (mc_X7_trim_X7_trim_r4 _ (List.mem_of_getElem? (i := 0) rfl)) (mj_cons (mc_X7_trim_X7_trim_r4 _ (List.mem_of_getElem? (i := 1) rfl)) (mj_cons (mc_X7_trim_X7_trim_r4 _ (List.mem_of_getElem? (i := 2) rfl)) (mj_cons (mc_X7_trim_X7_trim_r4 _ (List.mem_of_getElem? (i := 3) rfl)) (mj_cons (mc_X7_trim_X7_trim_r4 _ (List.mem_of_getElem? (i := 4) rfl)) (mj_cons (mc_X7_trim_X7_trim_r4 _ (List.mem_of_getElem? (i := 5) rfl)) (mj_cons (mc_X7_trim_X7_trim_r4 _ (List.mem_of_getElem? (i := 6) rfl)) (mj_cons (mc_X7_trim_X7_trim_r4 _ (List.mem_of_getElem? (i := 7) rfl)) (mj_cons (mc_X7_trim_X7_trim_r4 _ (List.mem_of_getElem? (i := 8) rfl)) (mj_cons (mc_X7_trim_X7_trim_r4 _ (List.mem_of_getElem? (i := 9) rfl)) (mj_cons (mc_X7_trim_X7_trim_r4 _ (List.mem_of_getElem? (i := 10) rfl)) (mj_cons (mc_X7_trim_X7_trim_r4 _ (List.mem_of_getElem? (i := 11) rfl)) (mj_cons (mc_X7_trim_X7_trim_r4 _ (List.mem_of_getElem? (i := 12) rfl)) mj_nil)))))))))))))))))))))))) (mj_app (mj_cons (mc_X7_trim_X7_trim_r4 _ (List.mem_of_getElem? (i := 13) rfl)) (mj_cons (mc_X7_trim_X7_trim_r4 _ (List.mem_of_getElem? (i := 14) rfl)) (mj_cons (mc_X7_trim_X7_trim_r4 _ (List.mem_of_getElem? (i := 15) rfl)) (mj_cons (mc_X7_trim_X7_trim_r4 _ (List.mem_of_getElem? (i := 16) rfl)) (mj_cons (mc_X7_trim_X7_trim_r4 _ (List.mem_of_getElem? (i := 17) rfl)) (mj_cons (mc_X7_trim_X7_trim_r4 _ (List.mem_of_getElem? (i := 18) rfl)) (mj_cons (mc_X7_trim_X7_trim_r4 _ (List.mem_of_getElem? (i := 19) rfl)) (mj_cons (mc_X7_trim_X7_trim_r4 _ (List.mem_of_getElem? (i := 20) rfl)) (mj_cons (mc_X7_trim_X7_trim_r4 _ (List.mem_of_getElem? (i := 21) rfl)) (mj_cons (mc_X7_trim_X7_trim_r4 _ (List.mem_of_getElem? (i := 22) rfl)) (mj_cons (mc_X7_trim_X7_trim_r4 _ (List.mem_of_getElem? (i := 23) rfl)) (mj_cons (mc_X7_trim_X7_trim_r5 _ (List.mem_of_getElem? (i := 0) rfl)) (mj_cons (mc_X7_trim_X7_trim_r5 _ (List.mem_of_getElem? (i := 1) rfl)) (mj_cons (mc_X7_trim_X7_trim_r5 _ (List.mem_of_getElem? (i := 2) rfl)) (mj_cons (mc_X7_trim_X7_trim_r5 _ (List.mem_of_getElem? (i := 3) rfl)) (mj_cons (mc_X7_trim_X7_trim_r5 _ (List.mem_of_getElem? (i := 4) rfl)) (mj_cons (mc_X7_trim_X7_trim_r5 _ (List.mem_of_getElem? (i := 5) rfl)) (mj_cons (mc_X7_trim_X7_trim_r5 _ (List.mem_of_getElem? (i := 6) rfl)) (mj_cons (mc_X7_trim_X7_trim_r5 _ (List.mem_of_getElem? (i := 7) rfl)) (mj_cons (mc_X7_trim_X7_trim_r5 _ (List.mem_of_getElem? (i := 8) rfl)) (mj_cons (mc_X7_trim_X7_trim_r1 _ (List.mem_of_getElem? (i := 6) rfl)) (mj_cons (mc_X7_trim_X7_trim_r1 _ (List.mem_of_getElem? (i := 5) rfl)) (mj_cons (mc_X7_trim_X7_trim_r5 _ (List.mem_of_getElem? (i := 9) rfl)) (mj_cons (mc_X7_trim_X7_trim_r5 _ (List.mem_of_getElem? (i := 10) rfl)) mj_nil)))))))))))))))))))))))) (mj_cons (mc_X7_trim_X7_trim_r5 _ (List.mem_of_getElem? (i := 11) rfl)) (mj_cons (mc_X7_trim_X7_trim_r5 _ (List.mem_of_getElem? (i := 12) rfl)) (mj_cons (mc_X7_trim_X7_trim_r5 _ (List.mem_of_getElem? (i := 13) rfl)) (mj_cons (mc_X7_trim_X7_trim_r5 _ (List.mem_of_getElem? (i := 14) rfl)) (mj_cons (mc_X7_trim_X7_trim_r5 _ (List.mem_of_getElem? (i := 15) rfl)) (mj_cons (mc_X7_trim_X7_trim_r5 _ (List.mem_of_getElem? (i := 16) rfl)) (mj_cons (mc_X7_trim_X7_trim_r5 _ (List.mem_of_getElem? (i := 17) rfl)) (mj_cons (mc_X7_trim_X7_trim_r5 _ (List.mem_of_getElem? (i := 18) rfl)) (mj_cons (mc_X7_trim_X7_trim_r5 _ (List.mem_of_getElem? (i := 19) rfl)) (mj_cons (mc_X7_trim_X7_trim_r5 _ (List.mem_of_getElem? (i := 20) rfl)) (mj_cons (mc_X7_trim_X7_trim_r5 _ (List.mem_of_getElem? (i := 21) rfl)) (mj_cons (mc_X7_trim_X7_trim_r5 _ (List.mem_of_getElem? (i := 22) rfl)) (mj_cons (mc_X7_trim_X7_trim_r5 _ (List.mem_of_getElem? (i := 23) rfl)) (mj_cons (mc_X7_trim_X7_trim_r6 _ (List.mem_of_getElem? (i := 0) rfl)) (mj_cons (mc_X7_trim_X7_trim_r6 _ (List.mem_of_getElem? (i := 1) rfl)) (mj_cons (mc_X7_trim_X7_trim_r6 _ (List.mem_of_getElem? (i := 2) rfl)) (mj_cons (mc_X7_trim_X7_trim_r6 _ (List.mem_of_getElem? (i := 3) rfl)) (mj_cons (mc_X7_trim_X7_trim_r6 _ (List.mem_of_getElem? (i := 4) rfl)) (mj_cons (mc_X7_trim_X7_trim_r6 _ (List.mem_of_getElem? (i := 5) rfl)) (mj_cons (mc_X7_trim_X7_trim_r6 _ (List.mem_of_getElem? (i := 6) rfl)) mj_nil)))))))))))))))))))))))) mc_X7_trim_X70)) (by decide +kernel)
set_option maxRecDepth 20000 in
theorem gX7_trim_X7_farNow : GoodIn wsX7_trim (wsV RX7 407 RX7 yX7_farNow wsX7_farNow) := goodIn_app (mj_good (mj_cons (mc_X7_trim_X7_trim_r1 _ (List.mem_of_getElem? (i := 12) rfl)) (mj_cons (mc_X7_trim_X7_trim_r1 _ (List.mem_of_getElem? (i := 13) rfl)) (mj_cons (mc_X7_trim_X7_trim_r1 _ (List.mem_of_getElem? (i := 14) rfl)) (mj_cons (mc_X7_trim_X7_trim_r1 _ (List.mem_of_getElem? (i := 10) rfl)) mj_nil)))) (by decide +kernel)) ggX7_trim_X7_farNow
set_option maxRecDepth 20000 in
theorem ggX7_trim_X7_trimsBarge : GoodIn wsX7_trim wsX7_trimsBarge := mj_good (mj_cons (mc_X7_trim_X7_trim_r6 _ (List.mem_of_getElem? (i := 10) rfl)) (mj_app (mj_app (mj_cons (mc_X7_trim_X7_trim_r1 _ (List.mem_of_getElem? (i := 4) rfl)) (mj_cons (mc_X7_trim_X7_trim_r2 _ (List.mem_of_getElem? (i := 13) rfl)) (mj_cons (mc_X7_trim_X7_trim_r3 _ (List.mem_of_getElem? (i := 4) rfl)) (mj_cons (mc_X7_trim_X7_trim_r3 _ (List.mem_of_getElem? (i := 3) rfl)) (mj_cons (mc_X7_trim_X7_trim_r6 _ (List.mem_of_getElem? (i := 6) rfl)) (mj_cons (mc_X7_trim_X7_trim_r6 _ (List.mem_of_getElem? (i := 11) rfl)) (mj_cons (mc_X7_trim_X7_trim_r6 _ (List.mem_of_getElem? (i := 12) rfl)) (mj_cons (mc_X7_trim_X7_trim_r6 _ (List.mem_of_getElem? (i := 13) rfl)) (mj_cons (mc_X7_trim_X7_trim_r1 _ (List.mem_of_getElem? (i := 10) rfl)) (mj_cons (mc_X7_trim_X7_trim_r6 _ (List.mem_of_getElem? (i := 14) rfl)) (mj_cons (mc_X7_trim_X7_trim_r1 _ (List.mem_of_getElem? (i := 3) rfl)) (mj_cons (mc_X7_trim_X7_trim_r1 _ (List.mem_of_getElem? (i := 12) rfl)) (mj_cons (mc_X7_trim_X7_trim_r1 _ (List.mem_of_getElem? (i := 13) rfl)) (mj_cons (mc_X7_trim_X7_trim_r1 _ (List.mem_of_getElem? (i := 14) rfl)) (mj_cons (mc_X7_trim_X7_trim_r1 _ (List.mem_of_getElem? (i := 15) rfl)) (mj_cons (mc_X7_trim_X7_trim_r1 _ (List.mem_of_getElem? (i := 16) rfl)) (mj_cons (mc_X7_trim_X7_trim_r1 _ (List.mem_of_getElem? (i := 17) rfl)) (mj_cons (mc_X7_trim_X7_trim_r1 _ (List.mem_of_getElem? (i := 18) rfl)) (mj_cons (mc_X7_trim_X7_trim_r1 _ (List.mem_of_getElem? (i := 19) rfl)) (mj_cons (mc_X7_trim_X7_trim_r1 _ (List.mem_of_getElem? (i := 20) rfl)) (mj_cons (mc_X7_trim_X7_trim_r1 _ (List.mem_of_getElem? (i := 21) rfl)) (mj_cons (mc_X7_trim_X7_trim_r1 _ (List.mem_of_getElem? (i := 22) rfl)) (mj_cons (mc_X7_trim_X7_trim_r1 _ (List.mem_of_getElem? (i := 23) rfl)) (mj_cons (mc_X7_trim_X7_trim_r2 _ (List.mem_of_getElem? (i := 0) rfl)) mj_nil)))))))))))))))))))))))) (mj_app (mj_cons (mc_X7_trim_X7_trim_r2 _ (List.mem_of_getElem? (i := 1) rfl)) (mj_cons (mc_X7_trim_X7_trim_r2 _ (List.mem_of_getElem? (i := 2) rfl)) (mj_cons (mc_X7_trim_X7_trim_r2 _ (List.mem_of_getElem? (i := 3) rfl)) (mj_cons (mc_X7_trim_X7_trim_r2 _ (List.mem_of_getElem? (i := 4) rfl)) (mj_cons (mc_X7_trim_X7_trim_r2 _ (List.mem_of_getElem? (i := 5) rfl)) (mj_cons (mc_X7_trim_X7_trim_r2 _ (List.mem_of_getElem? (i := 6) rfl)) (mj_cons (mc_X7_trim_X7_trim_r2 _ (List.mem_of_getElem? (i := 7) rfl)) (mj_cons (mc_X7_trim_X7_trim_r2 _ (List.mem_of_getElem? (i := 8) rfl)) (mj_cons (mc_X7_trim_X7_trim_r2 _ (List.mem_of_getElem? (i := 9) rfl)) (mj_cons (mc_X7_trim_X7_trim_r2 _ (List.mem_of_getElem? (i := 10) rfl)) (mj_cons (mc_X7_trim_X7_trim_r2 _ (List.mem_of_getElem? (i := 11) rfl)) (mj_cons (mc_X7_trim_X7_trim_r2 _ (List.mem_of_getElem? (i := 12) rfl)) (mj_cons (mc_X7_trim_X7_trim_r2 _ (List.mem_of_getElem? (i := 14) rfl)) (mj_cons (mc_X7_trim_X7_trim_r2 _ (List.mem_of_getElem? (i := 15) rfl)) (mj_cons (mc_X7_trim_X7_trim_r2 _ (List.mem_of_getElem? (i := 16) rfl)) (mj_cons (mc_X7_trim_X7_trim_r2 _ (List.mem_of_getElem? (i := 17) rfl)) (mj_cons (mc_X7_trim_X7_trim_r2 _ (List.mem_of_getElem? (i := 18) rfl)) (mj_cons (mc_X7_trim_X7_trim_r2 _ (List.mem_of_getElem? (i := 19) rfl)) (mj_cons (mc_X7_trim_X7_trim_r2 _ (List.mem_of_getElem? (i := 20) rfl)) (mj_cons (mc_X7_trim_X7_trim_r2 _ (List.mem_of_getElem? (i := 21) rfl)) (mj_cons (mc_X7_trim_X7_trim_r2 _ (List.mem_of_getElem? (i := 22) rfl)) (mj_cons (mc_X7_trim_X7_trim_r2 _ (List.mem_of_getElem? (i := 23) rfl)) (mj_cons (mc_X7_trim_X7_trim_r3 _ (List.mem_of_getElem? (i := 0) rfl)) (mj_cons (mc_X7_trim_X7_trim_r3 _ (List.mem_of_getElem? (i := 1) rfl)) mj_nil)))))))))))))))))))))))) (mj_app (mj_cons (mc_X7_trim_X7_trim_r3 _ (List.mem_of_getElem? (i := 2) rfl)) (mj_cons (mc_X7_trim_X7_trim_r3 _ (List.mem_of_getElem? (i := 5) rfl)) (mj_cons (mc_X7_trim_X7_trim_r3 _ (List.mem_of_getElem? (i := 6) rfl)) (mj_cons (mc_X7_trim_X7_trim_r3 _ (List.mem_of_getElem? (i := 7) rfl)) (mj_cons (mc_X7_trim_X7_trim_r3 _ (List.mem_of_getElem? (i := 8) rfl)) (mj_cons (mc_X7_trim_X7_trim_r3 _ (List.mem_of_getElem? (i := 9) rfl)) (mj_cons (mc_X7_trim_X7_trim_r3 _ (List.mem_of_getElem? (i := 10) rfl)) (mj_cons (mc_X7_trim_X7_trim_r3 _ (List.mem_of_getElem? (i := 11) rfl)) (mj_cons (mc_X7_trim_X7_trim_r3 _ (List.mem_of_getElem? (i := 12) rfl)) (mj_cons (mc_X7_trim_X7_trim_r3 _ (List.mem_of_getElem? (i := 13) rfl)) (mj_cons (mc_X7_trim_X7_trim_r3 _ (List.mem_of_getElem? (i := 14) rfl)) (mj_cons (mc_X7_trim_X7_trim_r3 _ (List.mem_of_getElem? (i := 15) rfl)) (mj_cons (mc_X7_trim_X7_trim_r3 _ (List.mem_of_getElem? (i := 16) rfl)) (mj_cons (mc_X7_trim_X7_trim_r3 _ (List.mem_of_getElem? (i := 17) rfl)) (mj_cons (mc_X7_trim_X7_trim_r3 _ (List.mem_of_getElem? (i := 18) rfl)) (mj_cons (mc_X7_trim_X7_trim_r3 _ (List.mem_of_getElem? (i := 19) rfl)) (mj_cons (mc_X7_trim_X7_trim_r3 _ (List.mem_of_getElem? (i := 20) rfl)) (mj_cons (mc_X7_trim_X7_trim_r3 _ (List.mem_of_getElem? (i := 21) rfl)) (mj_cons (mc_X7_trim_X7_trim_r3 _ (List.mem_of_getElem? (i := 22) rfl)) (mj_cons (mc_X7_trim_X7_trim_r3 _ (List.mem_of_getElem? (i := 23) rfl)) (mj_cons (mc_X7_trim_X7_trim_r4 _ (List.mem_of_getElem? (i := 0) rfl)) (mj_cons (mc_X7_trim_X7_trim_r4 _ (List.mem_of_getElem? (i := 1) rfl)) (mj_cons (mc_X7_trim_X7_trim_r4 _ (List.mem_of_getElem? (i := 2) rfl)) (mj_cons (mc_X7_trim_X7_trim_r4 _ (List.mem_of_getElem? (i := 3) rfl)) mj_nil)))))))))))))))))))))))) (mj_app (mj_cons (mc_X7_trim_X7_trim_r4 _ (List.mem_of_getElem? (i := 4) rfl)) (mj_cons (mc_X7_trim_X7_trim_r4 _ (List.mem_of_getElem? (i := 5) rfl)) (mj_cons (mc_X7_trim_X7_trim_r4 _ (List.mem_of_getElem? (i := 6) rfl)) (mj_cons (mc_X7_trim_X7_trim_r4 _ (List.mem_of_getElem? (i := 7) rfl)) (mj_cons (mc_X7_trim_X7_trim_r4 _ (List.mem_of_getElem? (i := 8) rfl)) (mj_cons (mc_X7_trim_X7_trim_r4 _ (List.mem_of_getElem? (i := 9) rfl)) (mj_cons (mc_X7_trim_X7_trim_r4 _ (List.mem_of_getElem? (i := 10) rfl)) (mj_cons (mc_X7_trim_X7_trim_r4 _ (List.mem_of_getElem? (i := 11) rfl)) (mj_cons (mc_X7_trim_X7_trim_r4 _ (List.mem_of_getElem? (i := 12) rfl)) (mj_cons (mc_X7_trim_X7_trim_r4 _ (List.mem_of_getElem? (i := 13) rfl)) (mj_cons (mc_X7_trim_X7_trim_r4 _ (List.mem_of_getElem? (i := 14) rfl)) (mj_cons (mc_X7_trim_X7_trim_r4 _ (List.mem_of_getElem? (i := 15) rfl)) (mj_cons (mc_X7_trim_X7_trim_r4 _ (List.mem_of_getElem? (i := 16) rfl)) (mj_cons (mc_X7_trim_X7_trim_r4 _ (List.mem_of_getElem? (i := 17) rfl)) (mj_cons (mc_X7_trim_X7_trim_r4 _ (List.mem_of_getElem? (i := 18) rfl)) (mj_cons (mc_X7_trim_X7_trim_r4 _ (List.mem_of_getElem? (i := 19) rfl)) (mj_cons (mc_X7_trim_X7_trim_r4 _ (List.mem_of_getElem? (i := 20) rfl)) (mj_cons (mc_X7_trim_X7_trim_r4 _ (List.mem_of_getElem? (i := 21) rfl)) (mj_cons (mc_X7_trim_X7_trim_r4 _ (List.mem_of_getElem? (i := 22) rfl)) (mj_cons (mc_X7_trim_X7_trim_r4 _ (List.mem_of_getElem? (i := 23) rfl)) (mj_cons (mc_X7_trim_X7_trim_r5 _ (List.mem_of_getElem? (i := 0) rfl)) (mj_cons (mc_X7_trim_X7_trim_r5 _ (List.mem_of_getElem? (i := 1) rfl)) (mj_cons (mc_X7_trim_X7_trim_r5 _ (List.mem_of_getElem? (i := 2) rfl)) (mj_cons (mc_X7_trim_X7_trim_r5 _ (List.mem_of_getElem? (i := 3) rfl)) mj_nil)))))))))))))))))))))))) (mj_app (mj_cons (mc_X7_trim_X7_trim_r5 _ (List.mem_of_getElem? (i := 4) rfl)) (mj_cons (mc_X7_trim_X7_trim_r5 _ (List.mem_of_getElem? (i := 5) rfl)) (mj_cons (mc_X7_trim_X7_trim_r5 _ (List.mem_of_getElem? (i := 6) rfl)) (mj_cons (mc_X7_trim_X7_trim_r5 _ (List.mem_of_getElem? (i := 7) rfl)) (mj_cons (mc_X7_trim_X7_trim_r5 _ (List.mem_of_getElem? (i := 8) rfl)) (mj_cons (mc_X7_trim_X7_trim_r1 _ (List.mem_of_getElem? (i := 6) rfl)) (mj_cons (mc_X7_trim_X7_trim_r1 _ (List.mem_of_getElem? (i := 5) rfl)) (mj_cons (mc_X7_trim_X7_trim_r5 _ (List.mem_of_getElem? (i := 9) rfl)) (mj_cons (mc_X7_trim_X7_trim_r5 _ (List.mem_of_getElem? (i := 10) rfl)) (mj_cons (mc_X7_trim_X7_trim_r5 _ (List.mem_of_getElem? (i := 11) rfl)) (mj_cons (mc_X7_trim_X7_trim_r5 _ (List.mem_of_getElem? (i := 12) rfl)) (mj_cons (mc_X7_trim_X7_trim_r5 _ (List.mem_of_getElem? (i := 13) rfl)) (mj_cons (mc_X7_trim_X7_trim_r5 _ (List.mem_of_getElem? (i := 14) rfl)) (mj_cons (mc_X7_trim_X7_trim_r5 _ (List.mem_of_getElem? (i := 15) rfl)) (mj_cons (mc_X7_trim_X7_trim_r5 _ (List.mem_of_getElem? (i := 16) rfl)) (mj_cons (mc_X7_trim_X7_trim_r5 _ (List.mem_of_getElem? (i := 17) rfl)) (mj_cons (mc_X7_trim_X7_trim_r5 _ (List.mem_of_getElem? (i := 18) rfl)) (mj_cons (mc_X7_trim_X7_trim_r5 _ (List.mem_of_getElem? (i := 19) rfl)) (mj_cons (mc_X7_trim_X7_trim_r5 _ (List.mem_of_getElem? (i := 20) rfl)) (mj_cons (mc_X7_trim_X7_trim_r5 _ (List.mem_of_getElem? (i := 21) rfl)) (mj_cons (mc_X7_trim_X7_trim_r5 _ (List.mem_of_getElem? (i := 22) rfl)) (mj_cons (mc_X7_trim_X7_trim_r5 _ (List.mem_of_getElem? (i := 23) rfl)) (mj_cons (mc_X7_trim_X7_trim_r6 _ (List.mem_of_getElem? (i := 0) rfl)) (mj_cons (mc_X7_trim_X7_trim_r6 _ (List.mem_of_getElem? (i := 1) rfl)) mj_nil)))))))))))))))))))))))) (mj_cons (mc_X7_trim_X7_trim_r6 _ (List.mem_of_getElem? (i := 2) rfl)) (mj_cons (mc_X7_trim_X7_trim_r6 _ (List.mem_of_getElem? (i := 3) rfl)) (mj_cons (mc_X7_trim_X7_trim_r6 _ (List.mem_of_getElem? (i := 4) rfl)) (mj_cons (mc_X7_trim_X7_trim_r6 _ (List.mem_of_getElem? (i := 5) rfl)) (mj_cons (mc_X7_trim_X7_trim_r6 _ (List.mem_of_getElem? (i := 15) rfl)) (mj_cons (mc_X7_trim_X7_trim_r6 _ (List.mem_of_getElem? (i := 16) rfl)) (mj_cons (mc_X7_trim_X7_trim_r6 _ (List.mem_of_getElem? (i := 17) rfl)) (mj_cons (mc_X7_trim_X7_trim_r6 _ (List.mem_of_getElem? (i := 18) rfl)) mj_nil))))))))))))) mc_X7_trim_X70)) (by decide +kernel)
set_option maxRecDepth 20000 in
theorem gX7_trim_X7_trimsBarge : GoodIn wsX7_trim (wsV RX7 410 RX7 yX7_trimsBarge wsX7_trimsBarge) := goodIn_app (mj_good (mj_cons (mc_X7_trim_X7_trim_r6 _ (List.mem_of_getElem? (i := 7) rfl)) (mj_cons (mc_X7_trim_X7_trim_r6 _ (List.mem_of_getElem? (i := 8) rfl)) (mj_cons (mc_X7_trim_X7_trim_r6 _ (List.mem_of_getElem? (i := 9) rfl)) (mj_cons (mc_X7_trim_X7_trim_r1 _ (List.mem_of_getElem? (i := 10) rfl)) mj_nil)))) (by decide +kernel)) ggX7_trim_X7_trimsBarge
set_option maxRecDepth 20000 in
theorem ggX7_trim_X7_trimsWall : GoodIn wsX7_trim wsX7_trimsWall := mj_good (mj_cons (mc_X7_trim_X7_trim_r6 _ (List.mem_of_getElem? (i := 22) rfl)) (mj_app (mj_app (mj_cons (mc_X7_trim_X7_trim_r5 _ (List.mem_of_getElem? (i := 9) rfl)) (mj_cons (mc_X7_trim_X7_trim_r1 _ (List.mem_of_getElem? (i := 12) rfl)) (mj_cons (mc_X7_trim_X7_trim_r1 _ (List.mem_of_getElem? (i := 13) rfl)) (mj_cons (mc_X7_trim_X7_trim_r1 _ (List.mem_of_getElem? (i := 14) rfl)) (mj_cons (mc_X7_trim_X7_trim_r1 _ (List.mem_of_getElem? (i := 10) rfl)) (mj_cons (mc_X7_trim_X7_trim_r1 _ (List.mem_of_getElem? (i := 15) rfl)) (mj_cons (mc_X7_trim_X7_trim_r1 _ (List.mem_of_getElem? (i := 16) rfl)) (mj_cons (mc_X7_trim_X7_trim_r1 _ (List.mem_of_getElem? (i := 17) rfl)) (mj_cons (mc_X7_trim_X7_trim_r1 _ (List.mem_of_getElem? (i := 18) rfl)) (mj_cons (mc_X7_trim_X7_trim_r1 _ (List.mem_of_getElem? (i := 19) rfl)) (mj_cons (mc_X7_trim_X7_trim_r1 _ (List.mem_of_getElem? (i := 20) rfl)) (mj_cons (mc_X7_trim_X7_trim_r1 _ (List.mem_of_getElem? (i := 21) rfl)) (mj_cons (mc_X7_trim_X7_trim_r1 _ (List.mem_of_getElem? (i := 22) rfl)) (mj_cons (mc_X7_trim_X7_trim_r1 _ (List.mem_of_getElem? (i := 23) rfl)) (mj_cons (mc_X7_trim_X7_trim_r2 _ (List.mem_of_getElem? (i := 0) rfl)) (mj_cons (mc_X7_trim_X7_trim_r2 _ (List.mem_of_getElem? (i := 1) rfl)) (mj_cons (mc_X7_trim_X7_trim_r2 _ (List.mem_of_getElem? (i := 2) rfl)) (mj_cons (mc_X7_trim_X7_trim_r2 _ (List.mem_of_getElem? (i := 3) rfl)) (mj_cons (mc_X7_trim_X7_trim_r2 _ (List.mem_of_getElem? (i := 4) rfl)) (mj_cons (mc_X7_trim_X7_trim_r2 _ (List.mem_of_getElem? (i := 5) rfl)) (mj_cons (mc_X7_trim_X7_trim_r2 _ (List.mem_of_getElem? (i := 6) rfl)) (mj_cons (mc_X7_trim_X7_trim_r2 _ (List.mem_of_getElem? (i := 7) rfl)) (mj_cons (mc_X7_trim_X7_trim_r1 _ (List.mem_of_getElem? (i := 3) rfl)) (mj_cons (mc_X7_trim_X7_trim_r2 _ (List.mem_of_getElem? (i := 8) rfl)) mj_nil)))))))))))))))))))))))) (mj_app (mj_cons (mc_X7_trim_X7_trim_r2 _ (List.mem_of_getElem? (i := 9) rfl)) (mj_cons (mc_X7_trim_X7_trim_r2 _ (List.mem_of_getElem? (i := 10) rfl)) (mj_cons (mc_X7_trim_X7_trim_r2 _ (List.mem_of_getElem? (i := 11) rfl)) (mj_cons (mc_X7_trim_X7_trim_r2 _ (List.mem_of_getElem? (i := 12) rfl)) (mj_cons (mc_X7_trim_X7_trim_r2 _ (List.mem_of_getElem? (i := 13) rfl)) (mj_cons (mc_X7_trim_X7_trim_r2 _ (List.mem_of_getElem? (i := 14) rfl)) (mj_cons (mc_X7_trim_X7_trim_r2 _ (List.mem_of_getElem? (i := 15) rfl)) (mj_cons (mc_X7_trim_X7_trim_r2 _ (List.mem_of_getElem? (i := 16) rfl)) (mj_cons (mc_X7_trim_X7_trim_r2 _ (List.mem_of_getElem? (i := 17) rfl)) (mj_cons (mc_X7_trim_X7_trim_r2 _ (List.mem_of_getElem? (i := 18) rfl)) (mj_cons (mc_X7_trim_X7_trim_r2 _ (List.mem_of_getElem? (i := 19) rfl)) (mj_cons (mc_X7_trim_X7_trim_r2 _ (List.mem_of_getElem? (i := 20) rfl)) (mj_cons (mc_X7_trim_X7_trim_r2 _ (List.mem_of_getElem? (i := 21) rfl)) (mj_cons (mc_X7_trim_X7_trim_r2 _ (List.mem_of_getElem? (i := 22) rfl)) (mj_cons (mc_X7_trim_X7_trim_r2 _ (List.mem_of_getElem? (i := 23) rfl)) (mj_cons (mc_X7_trim_X7_trim_r3 _ (List.mem_of_getElem? (i := 0) rfl)) (mj_cons (mc_X7_trim_X7_trim_r3 _ (List.mem_of_getElem? (i := 1) rfl)) (mj_cons (mc_X7_trim_X7_trim_r3 _ (List.mem_of_getElem? (i := 2) rfl)) (mj_cons (mc_X7_trim_X7_trim_r1 _ (List.mem_of_getElem? (i := 4) rfl)) (mj_cons (mc_X7_trim_X7_trim_r3 _ (List.mem_of_getElem? (i := 3) rfl)) (mj_cons (mc_X7_trim_X7_trim_r3 _ (List.mem_of_getElem? (i := 4) rfl)) (mj_cons (mc_X7_trim_X7_trim_r3 _ (List.mem_of_getElem? (i := 5) rfl)) (mj_cons (mc_X7_trim_X7_trim_r3 _ (List.mem_of_getElem? (i := 6) rfl)) (mj_cons (mc_X7_trim_X7_trim_r3 _ (List.mem_of_getElem? (i := 7) rfl)) mj_nil)))))))))))))))))))))))) (mj_app (mj_cons (mc_X7_trim_X7_trim_r3 _ (List.mem_of_getElem? (i := 8) rfl)) (mj_cons (mc_X7_trim_X7_trim_r3 _ (List.mem_of_getElem? (i := 9) rfl)) (mj_cons (mc_X7_trim_X7_trim_r3 _ (List.mem_of_getElem? (i := 10) rfl)) (mj_cons (mc_X7_trim_X7_trim_r3 _ (List.mem_of_getElem? (i := 11) rfl)) (mj_cons (mc_X7_trim_X7_trim_r3 _ (List.mem_of_getElem? (i := 12) rfl)) (mj_cons (mc_X7_trim_X7_trim_r3 _ (List.mem_of_getElem? (i := 13) rfl)) (mj_cons (mc_X7_trim_X7_trim_r3 _ (List.mem_of_getElem? (i := 14) rfl)) (mj_cons (mc_X7_trim_X7_trim_r3 _ (List.mem_of_getElem? (i := 15) rfl)) (mj_cons (mc_X7_trim_X7_trim_r3 _ (List.mem_of_getElem? (i := 16) rfl)) (mj_cons (mc_X7_trim_X7_trim_r3 _ (List.mem_of_getElem? (i := 17) rfl)) (mj_cons (mc_X7_trim_X7_trim_r3 _ (List.mem_of_getElem? (i := 18) rfl)) (mj_cons (mc_X7_trim_X7_trim_r3 _ (List.mem_of_getElem? (i := 19) rfl)) (mj_cons (mc_X7_trim_X7_trim_r3 _ (List.mem_of_getElem? (i := 20) rfl)) (mj_cons (mc_X7_trim_X7_trim_r3 _ (List.mem_of_getElem? (i := 21) rfl)) (mj_cons (mc_X7_trim_X7_trim_r3 _ (List.mem_of_getElem? (i := 22) rfl)) (mj_cons (mc_X7_trim_X7_trim_r3 _ (List.mem_of_getElem? (i := 23) rfl)) (mj_cons (mc_X7_trim_X7_trim_r4 _ (List.mem_of_getElem? (i := 0) rfl)) (mj_cons (mc_X7_trim_X7_trim_r4 _ (List.mem_of_getElem? (i := 1) rfl)) (mj_cons (mc_X7_trim_X7_trim_r4 _ (List.mem_of_getElem? (i := 2) rfl)) (mj_cons (mc_X7_trim_X7_trim_r4 _ (List.mem_of_getElem? (i := 3) rfl)) (mj_cons (mc_X7_trim_X7_trim_r4 _ (List.mem_of_getElem? (i := 4) rfl)) (mj_cons (mc_X7_trim_X7_trim_r4 _ (List.mem_of_getElem? (i := 5) rfl)) (mj_cons (mc_X7_trim_X7_trim_r4 _ (List.mem_of_getElem? (i := 6) rfl)) (mj_cons (mc_X7_trim_X7_trim_r4 _ (List.mem_of_getElem? (i := 7) rfl)) mj_nil)))))))))))))))))))))))) (mj_app (mj_cons (mc_X7_trim_X7_trim_r4 _ (List.mem_of_getElem? (i := 8) rfl)) (mj_cons (mc_X7_trim_X7_trim_r4 _ (List.mem_of_getElem? (i := 9) rfl)) (mj_cons (mc_X7_trim_X7_trim_r4 _ (List.mem_of_getElem? (i := 10) rfl)) (mj_cons (mc_X7_trim_X7_trim_r4 _ (List.mem_of_getElem? (i := 11) rfl)) (mj_cons (mc_X7_trim_X7_trim_r4 _ (List.mem_of_getElem? (i := 12) rfl)) (mj_cons (mc_X7_trim_X7_trim_r4 _ (List.mem_of_getElem? (i := 13) rfl)) (mj_cons (mc_X7_trim_X7_trim_r4 _ (List.mem_of_getElem? (i := 14) rfl)) (mj_cons (mc_X7_trim_X7_trim_r4 _ (List.mem_of_getElem? (i := 15) rfl)) (mj_cons (mc_X7_trim_X7_trim_r4 _ (List.mem_of_getElem? (i := 16) rfl)) (mj_cons (mc_X7_trim_X7_trim_r4 _ (List.mem_of_getElem? (i := 17) rfl)) (mj_cons (mc_X7_trim_X7_trim_r4 _ (List.mem_of_getElem? (i := 18) rfl)) (mj_cons (mc_X7_trim_X7_trim_r4 _ (List.mem_of_getElem? (i := 19) rfl)) (mj_cons (mc_X7_trim_X7_trim_r4 _ (List.mem_of_getElem? (i := 20) rfl)) (mj_cons (mc_X7_trim_X7_trim_r4 _ (List.mem_of_getElem? (i := 21) rfl)) (mj_cons (mc_X7_trim_X7_trim_r4 _ (List.mem_of_getElem? (i := 22) rfl)) (mj_cons (mc_X7_trim_X7_trim_r4 _ (List.mem_of_getElem? (i := 23) rfl)) (mj_cons (mc_X7_trim_X7_trim_r5 _ (List.mem_of_getElem? (i := 0) rfl)) (mj_cons (mc_X7_trim_X7_trim_r5 _ (List.mem_of_getElem? (i := 1) rfl)) (mj_cons (mc_X7_trim_X7_trim_r5 _ (List.mem_of_getElem? (i := 2) rfl)) (mj_cons (mc_X7_trim_X7_trim_r5 _ (List.mem_of_getElem? (i := 3) rfl)) (mj_cons (mc_X7_trim_X7_trim_r5 _ (List.mem_of_getElem? (i := 4) rfl)) (mj_cons (mc_X7_trim_X7_trim_r5 _ (List.mem_of_getElem? (i := 5) rfl)) (mj_cons (mc_X7_trim_X7_trim_r5 _ (List.mem_of_getElem? (i := 6) rfl)) (mj_cons (mc_X7_trim_X7_trim_r5 _ (List.mem_of_getElem? (i := 7) rfl)) mj_nil)))))))))))))))))))))))) (mj_cons (mc_X7_trim_X7_trim_r5 _ (List.mem_of_getElem? (i := 8) rfl)) (mj_cons (mc_X7_trim_X7_trim_r1 _ (List.mem_of_getElem? (i := 6) rfl)) (mj_cons (mc_X7_trim_X7_trim_r1 _ (List.mem_of_getElem? (i := 5) rfl)) (mj_cons (mc_X7_trim_X7_trim_r5 _ (List.mem_of_getElem? (i := 10) rfl)) (mj_cons (mc_X7_trim_X7_trim_r5 _ (List.mem_of_getElem? (i := 11) rfl)) (mj_cons (mc_X7_trim_X7_trim_r5 _ (List.mem_of_getElem? (i := 12) rfl)) (mj_cons (mc_X7_trim_X7_trim_r5 _ (List.mem_of_getElem? (i := 13) rfl)) (mj_cons (mc_X7_trim_X7_trim_r5 _ (List.mem_of_getElem? (i := 14) rfl)) (mj_cons (mc_X7_trim_X7_trim_r5 _ (List.mem_of_getElem? (i := 15) rfl)) (mj_cons (mc_X7_trim_X7_trim_r5 _ (List.mem_of_getElem? (i := 16) rfl)) (mj_cons (mc_X7_trim_X7_trim_r5 _ (List.mem_of_getElem? (i := 17) rfl)) (mj_cons (mc_X7_trim_X7_trim_r5 _ (List.mem_of_getElem? (i := 18) rfl)) (mj_cons (mc_X7_trim_X7_trim_r5 _ (List.mem_of_getElem? (i := 19) rfl)) (mj_cons (mc_X7_trim_X7_trim_r5 _ (List.mem_of_getElem? (i := 20) rfl)) (mj_cons (mc_X7_trim_X7_trim_r5 _ (List.mem_of_getElem? (i := 21) rfl)) (mj_cons (mc_X7_trim_X7_trim_r5 _ (List.mem_of_getElem? (i := 22) rfl)) (mj_cons (mc_X7_trim_X7_trim_r5 _ (List.mem_of_getElem? (i := 23) rfl)) (mj_cons (mc_X7_trim_X7_trim_r6 _ (List.mem_of_getElem? (i := 0) rfl)) (mj_cons (mc_X7_trim_X7_trim_r6 _ (List.mem_of_getElem? (i := 1) rfl)) (mj_cons (mc_X7_trim_X7_trim_r6 _ (List.mem_of_getElem? (i := 2) rfl)) (mj_cons (mc_X7_trim_X7_trim_r6 _ (List.mem_of_getElem? (i := 3) rfl)) (mj_cons (mc_X7_trim_X7_trim_r6 _ (List.mem_of_getElem? (i := 4) rfl)) (mj_cons (mc_X7_trim_X7_trim_r6 _ (List.mem_of_getElem? (i := 5) rfl)) (mj_cons (mc_X7_trim_X7_trim_r6 _ (List.mem_of_getElem? (i := 6) rfl)) mj_nil)))))))))))))))))))))))))))) mc_X7_trim_X70)) (by decide +kernel)
set_option maxRecDepth 20000 in
theorem gX7_trim_X7_trimsWall : GoodIn wsX7_trim (wsV RX7 413 RX7 yX7_trimsWall wsX7_trimsWall) := goodIn_app (mj_good (mj_cons (mc_X7_trim_X7_trim_r6 _ (List.mem_of_getElem? (i := 19) rfl)) (mj_cons (mc_X7_trim_X7_trim_r6 _ (List.mem_of_getElem? (i := 20) rfl)) (mj_cons (mc_X7_trim_X7_trim_r6 _ (List.mem_of_getElem? (i := 21) rfl)) (mj_cons (mc_X7_trim_X7_trim_r1 _ (List.mem_of_getElem? (i := 10) rfl)) mj_nil)))) (by decide +kernel)) ggX7_trim_X7_trimsWall
set_option maxRecDepth 20000 in
theorem mc_X7_trim_X7_trim_r7 : mjIn wsX7_trim wsX7_trim_r7 := fun w h => (List.mem_cons_of_mem _ (List.mem_append_left _ (List.mem_append_right _ (List.mem_append_right _ (List.mem_append_right _ (List.mem_append_right _ (List.mem_append_right _ (List.mem_append_right _ h))))))))
set_option maxRecDepth 20000 in
theorem ggX7_trim_X7_linesByWalls : GoodIn wsX7_trim wsX7_linesByWalls := mj_good (mj_cons (mc_X7_trim_X7_trim_r7 _ (List.mem_of_getElem? (i := 2) rfl)) (mj_app (mj_cons (mc_X7_trim_X7_trim_r1 _ (List.mem_of_getElem? (i := 5) rfl)) (mj_cons (mc_X7_trim_X7_trim_r7 _ (List.mem_of_getElem? (i := 3) rfl)) (mj_cons (mc_X7_trim_X7_trim_r7 _ (List.mem_of_getElem? (i := 4) rfl)) (mj_cons (mc_X7_trim_X7_trim_r1 _ (List.mem_of_getElem? (i := 6) rfl)) (mj_cons (mc_X7_trim_X7_trim_r7 _ (List.mem_of_getElem? (i := 5) rfl)) (mj_cons (mc_X7_trim_X7_trim_r5 _ (List.mem_of_getElem? (i := 9) rfl)) mj_nil)))))) mc_X7_trim_X70)) (by decide +kernel)
set_option maxRecDepth 20000 in
theorem gX7_trim_X7_linesByWalls : GoodIn wsX7_trim (wsV RX7 416 RX7 yX7_linesByWalls wsX7_linesByWalls) := goodIn_app (mj_good (mj_cons (mc_X7_trim_X7_trim_r6 _ (List.mem_of_getElem? (i := 23) rfl)) (mj_cons (mc_X7_trim_X7_trim_r7 _ (List.mem_of_getElem? (i := 0) rfl)) (mj_cons (mc_X7_trim_X7_trim_r7 _ (List.mem_of_getElem? (i := 1) rfl)) (mj_cons (mc_X7_trim_X7_trim_r1 _ (List.mem_of_getElem? (i := 10) rfl)) mj_nil)))) (by decide +kernel)) ggX7_trim_X7_linesByWalls
set_option maxRecDepth 20000 in
theorem ggX7_trim_X7_ends : GoodIn wsX7_trim wsX7_ends := mj_good (mj_cons (mc_X7_trim_X7_trim_r7 _ (List.mem_of_getElem? (i := 9) rfl)) (mj_app (mj_cons (mc_X7_trim_X7_trim_r7 _ (List.mem_of_getElem? (i := 10) rfl)) (mj_cons (mc_X7_trim_X7_trim_r7 _ (List.mem_of_getElem? (i := 11) rfl)) (mj_cons (mc_X7_trim_X7_trim_r7 _ (List.mem_of_getElem? (i := 12) rfl)) (mj_cons (mc_X7_trim_X7_trim_r1 _ (List.mem_of_getElem? (i := 10) rfl)) (mj_cons (mc_X7_trim_X7_trim_r7 _ (List.mem_of_getElem? (i := 13) rfl)) (mj_cons (mc_X7_trim_X7_trim_r7 _ (List.mem_of_getElem? (i := 14) rfl)) (mj_cons (mc_X7_trim_X7_trim_r7 _ (List.mem_of_getElem? (i := 15) rfl)) mj_nil))))))) mc_X7_trim_X70)) (by decide +kernel)
set_option maxRecDepth 20000 in
theorem gX7_trim_X7_ends : GoodIn wsX7_trim (wsV RX7 342 RX7 yX7_ends wsX7_ends) := goodIn_app (mj_good (mj_cons (mc_X7_trim_X7_trim_r7 _ (List.mem_of_getElem? (i := 6) rfl)) (mj_cons (mc_X7_trim_X7_trim_r7 _ (List.mem_of_getElem? (i := 7) rfl)) (mj_cons (mc_X7_trim_X7_trim_r7 _ (List.mem_of_getElem? (i := 8) rfl)) (mj_cons (mc_X7_trim_X7_trim_r1 _ (List.mem_of_getElem? (i := 10) rfl)) mj_nil)))) (by decide +kernel)) ggX7_trim_X7_ends
theorem dX7_trim_0 : decode cX7_trim 0 = .ok (.aload_n 0, 1) := by decide +kernel
theorem dX7_trim_1 : decode cX7_trim 1 = .ok (.iconst 0, 1) := by decide +kernel
theorem dX7_trim_2 : decode cX7_trim 2 = .ok (.putfield 184, 3) := by decide +kernel
theorem dX7_trim_5 : decode cX7_trim 5 = .ok (.aload_n 0, 1) := by decide +kernel
theorem dX7_trim_6 : decode cX7_trim 6 = .ok (.iconst 0, 1) := by decide +kernel
theorem dX7_trim_7 : decode cX7_trim 7 = .ok (.putfield 187, 3) := by decide +kernel
theorem dX7_trim_10 : decode cX7_trim 10 = .ok (.aload_n 0, 1) := by decide +kernel
theorem dX7_trim_11 : decode cX7_trim 11 = .ok (.getfield 303, 3) := by decide +kernel
theorem dX7_trim_14 : decode cX7_trim 14 = .ok (.ifCond .ne 9, 3) := by decide +kernel
theorem dX7_trim_17 : decode cX7_trim 17 = .ok (.aload_n 0, 1) := by decide +kernel
theorem dX7_trim_18 : decode cX7_trim 18 = .ok (.iconst 1, 1) := by decide +kernel
theorem dX7_trim_19 : decode cX7_trim 19 = .ok (.invokevirtual 290, 3) := by decide +kernel
theorem dX7_trim_22 : decode cX7_trim 22 = .ok (.ireturn, 1) := by decide +kernel
theorem dX7_trim_23 : decode cX7_trim 23 = .ok (.aload_n 0, 1) := by decide +kernel
theorem dX7_trim_24 : decode cX7_trim 24 = .ok (.invokevirtual 407, 3) := by decide +kernel
theorem dX7_trim_27 : decode cX7_trim 27 = .ok (.istore_n 1, 1) := by decide +kernel
theorem dX7_trim_28 : decode cX7_trim 28 = .ok (.iload_n 1, 1) := by decide +kernel
theorem dX7_trim_29 : decode cX7_trim 29 = .ok (.ifCond .ge 10, 3) := by decide +kernel
theorem dX7_trim_32 : decode cX7_trim 32 = .ok (.aload_n 0, 1) := by decide +kernel
theorem dX7_trim_33 : decode cX7_trim 33 = .ok (.iload_n 1, 1) := by decide +kernel
theorem dX7_trim_34 : decode cX7_trim 34 = .ok (.ineg, 1) := by decide +kernel
theorem dX7_trim_35 : decode cX7_trim 35 = .ok (.invokevirtual 290, 3) := by decide +kernel
theorem dX7_trim_38 : decode cX7_trim 38 = .ok (.ireturn, 1) := by decide +kernel
theorem dX7_trim_39 : decode cX7_trim 39 = .ok (.iconst 0, 1) := by decide +kernel
theorem dX7_trim_40 : decode cX7_trim 40 = .ok (.istore_n 2, 1) := by decide +kernel
theorem dX7_trim_41 : decode cX7_trim 41 = .ok (.aload_n 0, 1) := by decide +kernel
theorem dX7_trim_42 : decode cX7_trim 42 = .ok (.getfield 216, 3) := by decide +kernel
theorem dX7_trim_45 : decode cX7_trim 45 = .ok (.iconst 1, 1) := by decide +kernel
theorem dX7_trim_46 : decode cX7_trim 46 = .ok (.isub, 1) := by decide +kernel
theorem dX7_trim_47 : decode cX7_trim 47 = .ok (.istore_n 3, 1) := by decide +kernel
theorem dX7_trim_48 : decode cX7_trim 48 = .ok (.iload_n 3, 1) := by decide +kernel
theorem dX7_trim_49 : decode cX7_trim 49 = .ok (.ifCond .lt 36, 3) := by decide +kernel
theorem dX7_trim_52 : decode cX7_trim 52 = .ok (.aload_n 0, 1) := by decide +kernel
theorem dX7_trim_53 : decode cX7_trim 53 = .ok (.getfield 23, 3) := by decide +kernel
theorem dX7_trim_56 : decode cX7_trim 56 = .ok (.iload_n 3, 1) := by decide +kernel
theorem dX7_trim_57 : decode cX7_trim 57 = .ok (.iaload, 1) := by decide +kernel
theorem dX7_trim_58 : decode cX7_trim 58 = .ok (.iconst 5, 1) := by decide +kernel
theorem dX7_trim_59 : decode cX7_trim 59 = .ok (.if_icmp .eq 20, 3) := by decide +kernel
theorem dX7_trim_62 : decode cX7_trim 62 = .ok (.iload_n 2, 1) := by decide +kernel
theorem dX7_trim_63 : decode cX7_trim 63 = .ok (.aload_n 0, 1) := by decide +kernel
theorem dX7_trim_64 : decode cX7_trim 64 = .ok (.iload_n 3, 1) := by decide +kernel
theorem dX7_trim_65 : decode cX7_trim 65 = .ok (.iload_n 1, 1) := by decide +kernel
theorem dX7_trim_66 : decode cX7_trim 66 = .ok (.invokevirtual 410, 3) := by decide +kernel
theorem dX7_trim_69 : decode cX7_trim 69 = .ok (.ifCond .eq 7, 3) := by decide +kernel
theorem dX7_trim_72 : decode cX7_trim 72 = .ok (.iconst 1, 1) := by decide +kernel
theorem dX7_trim_73 : decode cX7_trim 73 = .ok (.goto 4, 3) := by decide +kernel
theorem dX7_trim_76 : decode cX7_trim 76 = .ok (.iconst 0, 1) := by decide +kernel
theorem dX7_trim_77 : decode cX7_trim 77 = .ok (.iadd, 1) := by decide +kernel
theorem dX7_trim_78 : decode cX7_trim 78 = .ok (.istore_n 2, 1) := by decide +kernel
theorem dX7_trim_79 : decode cX7_trim 79 = .ok (.iinc 3 (-1), 3) := by decide +kernel
theorem dX7_trim_82 : decode cX7_trim 82 = .ok (.goto (-34), 3) := by decide +kernel
theorem dX7_trim_85 : decode cX7_trim 85 = .ok (.iconst 0, 1) := by decide +kernel
theorem dX7_trim_86 : decode cX7_trim 86 = .ok (.istore_n 3, 1) := by decide +kernel
theorem dX7_trim_87 : decode cX7_trim 87 = .ok (.iconst 0, 1) := by decide +kernel
theorem dX7_trim_88 : decode cX7_trim 88 = .ok (.istore 4, 2) := by decide +kernel
theorem dX7_trim_90 : decode cX7_trim 90 = .ok (.iload 4, 2) := by decide +kernel
theorem dX7_trim_92 : decode cX7_trim 92 = .ok (.aload_n 0, 1) := by decide +kernel
theorem dX7_trim_93 : decode cX7_trim 93 = .ok (.getfield 193, 3) := by decide +kernel
theorem dX7_trim_96 : decode cX7_trim 96 = .ok (.if_icmp .ge 51, 3) := by decide +kernel
theorem dX7_trim_99 : decode cX7_trim 99 = .ok (.iconst 0, 1) := by decide +kernel
theorem dX7_trim_100 : decode cX7_trim 100 = .ok (.istore 5, 2) := by decide +kernel
theorem dX7_trim_102 : decode cX7_trim 102 = .ok (.iload 5, 2) := by decide +kernel
theorem dX7_trim_104 : decode cX7_trim 104 = .ok (.aload_n 0, 1) := by decide +kernel
theorem dX7_trim_105 : decode cX7_trim 105 = .ok (.getfield 190, 3) := by decide +kernel
theorem dX7_trim_108 : decode cX7_trim 108 = .ok (.if_icmp .ge 33, 3) := by decide +kernel
theorem dX7_trim_111 : decode cX7_trim 111 = .ok (.iload_n 3, 1) := by decide +kernel
theorem dX7_trim_112 : decode cX7_trim 112 = .ok (.aload_n 0, 1) := by decide +kernel
theorem dX7_trim_113 : decode cX7_trim 113 = .ok (.iload 5, 2) := by decide +kernel
theorem dX7_trim_115 : decode cX7_trim 115 = .ok (.bipush 8, 2) := by decide +kernel
theorem dX7_trim_117 : decode cX7_trim 117 = .ok (.iload 4, 2) := by decide +kernel
theorem dX7_trim_119 : decode cX7_trim 119 = .ok (.imul, 1) := by decide +kernel
theorem dX7_trim_120 : decode cX7_trim 120 = .ok (.iadd, 1) := by decide +kernel
theorem dX7_trim_121 : decode cX7_trim 121 = .ok (.iload_n 1, 1) := by decide +kernel
theorem dX7_trim_122 : decode cX7_trim 122 = .ok (.invokevirtual 413, 3) := by decide +kernel
theorem dX7_trim_125 : decode cX7_trim 125 = .ok (.ifCond .eq 7, 3) := by decide +kernel
theorem dX7_trim_128 : decode cX7_trim 128 = .ok (.iconst 1, 1) := by decide +kernel
theorem dX7_trim_129 : decode cX7_trim 129 = .ok (.goto 4, 3) := by decide +kernel
theorem dX7_trim_132 : decode cX7_trim 132 = .ok (.iconst 0, 1) := by decide +kernel
theorem dX7_trim_133 : decode cX7_trim 133 = .ok (.iadd, 1) := by decide +kernel
theorem dX7_trim_134 : decode cX7_trim 134 = .ok (.istore_n 3, 1) := by decide +kernel
theorem dX7_trim_135 : decode cX7_trim 135 = .ok (.iinc 5 1, 3) := by decide +kernel
theorem dX7_trim_138 : decode cX7_trim 138 = .ok (.goto (-36), 3) := by decide +kernel
theorem dX7_trim_141 : decode cX7_trim 141 = .ok (.iinc 4 1, 3) := by decide +kernel
theorem dX7_trim_144 : decode cX7_trim 144 = .ok (.goto (-54), 3) := by decide +kernel
theorem dX7_trim_147 : decode cX7_trim 147 = .ok (.iload_n 3, 1) := by decide +kernel
theorem dX7_trim_148 : decode cX7_trim 148 = .ok (.ifCond .le 7, 3) := by decide +kernel
theorem dX7_trim_151 : decode cX7_trim 151 = .ok (.aload_n 0, 1) := by decide +kernel
theorem dX7_trim_152 : decode cX7_trim 152 = .ok (.invokevirtual 416, 3) := by decide +kernel
theorem dX7_trim_155 : decode cX7_trim 155 = .ok (.aload_n 0, 1) := by decide +kernel
theorem dX7_trim_156 : decode cX7_trim 156 = .ok (.invokevirtual 342, 3) := by decide +kernel
theorem dX7_trim_159 : decode cX7_trim 159 = .ok (.iload_n 2, 1) := by decide +kernel
theorem dX7_trim_160 : decode cX7_trim 160 = .ok (.iload_n 3, 1) := by decide +kernel
theorem dX7_trim_161 : decode cX7_trim 161 = .ok (.iadd, 1) := by decide +kernel
theorem dX7_trim_162 : decode cX7_trim 162 = .ok (.ireturn, 1) := by decide +kernel
set_option maxRecDepth 20000 in
theorem mc_X7_trimsBarge_X7_trimsBarge_r1 : mjIn wsX7_trimsBarge wsX7_trimsBarge_r1 := fun w h => (List.mem_cons_of_mem _ (List.mem_append_left _ (List.mem_append_left _ h)))
set_option maxRecDepth 20000 in
theorem mc_X7_trimsBarge_X70 : mjIn wsX7_trimsBarge wsX70 := fun w h => (List.mem_cons_of_mem _ (List.mem_append_right _ h))
set_option maxRecDepth 20000 in
theorem ggX7_trimsBarge_X7_remove : GoodIn wsX7_trimsBarge wsX7_remove := mj_good (mj_cons (mc_X7_trimsBarge_X7_trimsBarge_r1 _ (List.mem_of_getElem? (i := 9) rfl)) (mj_app (mj_cons (mc_X7_trimsBarge_X7_trimsBarge_r1 _ (List.mem_of_getElem? (i := 10) rfl)) (mj_cons (mc_X7_trimsBarge_X7_trimsBarge_r1 _ (List.mem_of_getElem? (i := 0) rfl)) (mj_cons (mc_X7_trimsBarge_X7_trimsBarge_r1 _ (List.mem_of_getElem? (i := 1) rfl)) (mj_cons (mc_X7_trimsBarge_X7_trimsBarge_r1 _ (List.mem_of_getElem? (i := 2) rfl)) (mj_cons (mc_X7_trimsBarge_X7_trimsBarge_r1 _ (List.mem_of_getElem? (i := 3) rfl)) (mj_cons (mc_X7_trimsBarge_X7_trimsBarge_r1 _ (List.mem_of_getElem? (i := 4) rfl)) mj_nil)))))) mc_X7_trimsBarge_X70)) (by decide +kernel)
set_option maxRecDepth 20000 in
theorem gX7_trimsBarge_X7_remove : GoodIn wsX7_trimsBarge (wsV RX7 375 RX7 yX7_remove wsX7_remove) := goodIn_app (mj_good (mj_cons (mc_X7_trimsBarge_X7_trimsBarge_r1 _ (List.mem_of_getElem? (i := 5) rfl)) (mj_cons (mc_X7_trimsBarge_X7_trimsBarge_r1 _ (List.mem_of_getElem? (i := 6) rfl)) (mj_cons (mc_X7_trimsBarge_X7_trimsBarge_r1 _ (List.mem_of_getElem? (i := 7) rfl)) (mj_cons (mc_X7_trimsBarge_X7_trimsBarge_r1 _ (List.mem_of_getElem? (i := 8) rfl)) mj_nil)))) (by decide +kernel)) ggX7_trimsBarge_X7_remove
set_option maxRecDepth 20000 in
theorem mc_X7_trimsBarge_X7_trimsBarge_r2 : mjIn wsX7_trimsBarge wsX7_trimsBarge_r2 := fun w h => (List.mem_cons_of_mem _ (List.mem_append_left _ (List.mem_append_right _ (List.mem_append_left _ h))))
set_option maxRecDepth 20000 in
theorem mc_X7_trimsBarge_X7_trimsBarge_r3 : mjIn wsX7_trimsBarge wsX7_trimsBarge_r3 := fun w h => (List.mem_cons_of_mem _ (List.mem_append_left _ (List.mem_append_right _ (List.mem_append_right _ (List.mem_append_left _ h)))))
set_option maxRecDepth 20000 in
theorem mc_X7_trimsBarge_X7_trimsBarge_r4 : mjIn wsX7_trimsBarge wsX7_trimsBarge_r4 := fun w h => (List.mem_cons_of_mem _ (List.mem_append_left _ (List.mem_append_right _ (List.mem_append_right _ (List.mem_append_right _ (List.mem_append_left _ h))))))
set_option maxRecDepth 20000 in
theorem mc_X7_trimsBarge_X7_trimsBarge_r5 : mjIn wsX7_trimsBarge wsX7_trimsBarge_r5 := fun w h => (List.mem_cons_of_mem _ (List.mem_append_left _ (List.mem_append_right _ (List.mem_append_right _ (List.mem_append_right _ (List.mem_append_right _ (List.mem_append_left _ h)))))))
set_option maxRecDepth 20000 in
theorem mc_X7_trimsBarge_X7_trimsBarge_r6 : mjIn wsX7_trimsBarge wsX7_trimsBarge_r6 := fun w h => (List.mem_cons_of_mem _ (List.mem_append_left _ (List.mem_append_right _ (List.mem_append_right _ (List.mem_append_right _ (List.mem_append_right _ (List.mem_append_right _ h)))))))
set_option maxRecDepth 20000 in
theorem ggX7_trimsBarge_X7_farNow : GoodIn wsX7_trimsBarge wsX7_farNow := mj_good (mj_cons (mc_X7_trimsBarge_X7_trimsBarge_r1 _ (List.mem_of_getElem? (i := 14) rfl)) (mj_app (mj_app (mj_cons (mc_X7_trimsBarge_X7_trimsBarge_r1 _ (List.mem_of_getElem? (i := 15) rfl)) (mj_cons (mc_X7_trimsBarge_X7_trimsBarge_r1 _ (List.mem_of_getElem? (i := 16) rfl)) (mj_cons (mc_X7_trimsBarge_X7_trimsBarge_r1 _ (List.mem_of_getElem? (i := 17) rfl)) (mj_cons (mc_X7_trimsBarge_X7_trimsBarge_r1 _ (List.mem_of_getElem? (i := 18) rfl)) (mj_cons (mc_X7_trimsBarge_X7_trimsBarge_r1 _ (List.mem_of_getElem? (i := 8) rfl)) (mj_cons (mc_X7_trimsBarge_X7_trimsBarge_r1 _ (List.mem_of_getElem? (i := 19) rfl)) (mj_cons (mc_X7_trimsBarge_X7_trimsBarge_r1 _ (List.mem_of_getElem? (i := 20) rfl)) (mj_cons (mc_X7_trimsBarge_X7_trimsBarge_r1 _ (List.mem_of_getElem? (i := 21) rfl)) (mj_cons (mc_X7_trimsBarge_X7_trimsBarge_r1 _ (List.mem_of_getElem? (i := 22) rfl)) (mj_cons (mc_X7_trimsBarge_X7_trimsBarge_r1 _ (List.mem_of_getElem? (i := 23) rfl)) (mj_cons (mc_X7_trimsBarge_X7_trimsBarge_r2 _ (List.mem_of_getElem? (i := 0) rfl)) (mj_cons (mc_X7_trimsBarge_X7_trimsBarge_r2 _ (List.mem_of_getElem? (i := 1) rfl)) (mj_cons (mc_X7_trimsBarge_X7_trimsBarge_r2 _ (List.mem_of_getElem? (i := 2) rfl)) (mj_cons (mc_X7_trimsBarge_X7_trimsBarge_r2 _ (List.mem_of_getElem? (i := 3) rfl)) (mj_cons (mc_X7_trimsBarge_X7_trimsBarge_r2 _ (List.mem_of_getElem? (i := 4) rfl)) (mj_cons (mc_X7_trimsBarge_X7_trimsBarge_r2 _ (List.mem_of_getElem? (i := 5) rfl)) (mj_cons (mc_X7_trimsBarge_X7_trimsBarge_r2 _ (List.mem_of_getElem? (i := 6) rfl)) (mj_cons (mc_X7_trimsBarge_X7_trimsBarge_r1 _ (List.mem_of_getElem? (i := 10) rfl)) (mj_cons (mc_X7_trimsBarge_X7_trimsBarge_r2 _ (List.mem_of_getElem? (i := 7) rfl)) (mj_cons (mc_X7_trimsBarge_X7_trimsBarge_r2 _ (List.mem_of_getElem? (i := 8) rfl)) (mj_cons (mc_X7_trimsBarge_X7_trimsBarge_r2 _ (List.mem_of_getElem? (i := 9) rfl)) (mj_cons (mc_X7_trimsBarge_X7_trimsBarge_r2 _ (List.mem_of_getElem? (i := 10) rfl)) (mj_cons (mc_X7_trimsBarge_X7_trimsBarge_r2 _ (List.mem_of_getElem? (i := 11) rfl)) (mj_cons (mc_X7_trimsBarge_X7_trimsBarge_r1 _ (List.mem_of_getElem? (i := 1) rfl)) mj_nil)))))))))))))))))))))))) (mj_app (mj_cons (mc_X7_trimsBarge_X7_trimsBarge_r2 _ (List.mem_of_getElem? (i := 12) rfl)) (mj_cons (mc_X7_trimsBarge_X7_trimsBarge_r2 _ (List.mem_of_getElem? (i := 13) rfl)) (mj_cons (mc_X7_trimsBarge_X7_trimsBarge_r2 _ (List.mem_of_getElem? (i := 14) rfl)) (mj_cons (mc_X7_trimsBarge_X7_trimsBarge_r2 _ (List.mem_of_getElem? (i := 15) rfl)) (mj_cons (mc_X7_trimsBarge_X7_trimsBarge_r2 _ (List.mem_of_getElem? (i := 16) rfl)) (mj_cons (mc_X7_trimsBarge_X7_trimsBarge_r2 _ (List.mem_of_getElem? (i := 17) rfl)) (mj_cons (mc_X7_trimsBarge_X7_trimsBarge_r2 _ (List.mem_of_getElem? (i := 18) rfl)) (mj_cons (mc_X7_trimsBarge_X7_trimsBarge_r2 _ (List.mem_of_getElem? (i := 19) rfl)) (mj_cons (mc_X7_trimsBarge_X7_trimsBarge_r2 _ (List.mem_of_getElem? (i := 20) rfl)) (mj_cons (mc_X7_trimsBarge_X7_trimsBarge_r2 _ (List.mem_of_getElem? (i := 21) rfl)) (mj_cons (mc_X7_trimsBarge_X7_trimsBarge_r2 _ (List.mem_of_getElem? (i := 22) rfl)) (mj_cons (mc_X7_trimsBarge_X7_trimsBarge_r2 _ (List.mem_of_getElem? (i := 23) rfl)) (mj_cons (mc_X7_trimsBarge_X7_trimsBarge_r3 _ (List.mem_of_getElem? (i := 0) rfl)) (mj_cons (mc_X7_trimsBarge_X7_trimsBarge_r1 _ (List.mem_of_getElem? (i := 0) rfl)) (mj_cons (mc_X7_trimsBarge_X7_trimsBarge_r1 _ (List.mem_of_getElem? (i := 3) rfl)) (mj_cons (mc_X7_trimsBarge_X7_trimsBarge_r1 _ (List.mem_of_getElem? (i := 2) rfl)) (mj_cons (mc_X7_trimsBarge_X7_trimsBarge_r3 _ (List.mem_of_getElem? (i := 1) rfl)) (mj_cons (mc_X7_trimsBarge_X7_trimsBarge_r3 _ (List.mem_of_getElem? (i := 2) rfl)) (mj_cons (mc_X7_trimsBarge_X7_trimsBarge_r3 _ (List.mem_of_getElem? (i := 3) rfl)) (mj_cons (mc_X7_trimsBarge_X7_trimsBarge_r3 _ (List.mem_of_getElem? (i := 4) rfl)) (mj_cons (mc_X7_trimsBarge_X7_trimsBarge_r3 _ (List.mem_of_getElem? (i := 5) rfl)) (mj_cons (mc_X7_trimsBarge_X7_trimsBarge_r3 _ (List.mem_of_getElem? (i := 6) rfl)) (mj_cons (mc_X7_trimsBarge_X7_trimsBarge_r3 _ (List.mem_of_getElem? (i := 7) rfl)) (mj_cons (mc_X7_trimsBarge_X7_trimsBarge_r3 _ (List.mem_of_getElem? (i := 8) rfl)) mj_nil)))))))))))))))))))))))) (mj_app (mj_cons (mc_X7_trimsBarge_X7_trimsBarge_r3 _ (List.mem_of_getElem? (i := 9) rfl)) (mj_cons (mc_X7_trimsBarge_X7_trimsBarge_r3 _ (List.mem_of_getElem? (i := 10) rfl)) (mj_cons (mc_X7_trimsBarge_X7_trimsBarge_r3 _ (List.mem_of_getElem? (i := 11) rfl)) (mj_cons (mc_X7_trimsBarge_X7_trimsBarge_r3 _ (List.mem_of_getElem? (i := 12) rfl)) (mj_cons (mc_X7_trimsBarge_X7_trimsBarge_r3 _ (List.mem_of_getElem? (i := 13) rfl)) (mj_cons (mc_X7_trimsBarge_X7_trimsBarge_r3 _ (List.mem_of_getElem? (i := 14) rfl)) (mj_cons (mc_X7_trimsBarge_X7_trimsBarge_r3 _ (List.mem_of_getElem? (i := 15) rfl)) (mj_cons (mc_X7_trimsBarge_X7_trimsBarge_r3 _ (List.mem_of_getElem? (i := 16) rfl)) (mj_cons (mc_X7_trimsBarge_X7_trimsBarge_r3 _ (List.mem_of_getElem? (i := 17) rfl)) (mj_cons (mc_X7_trimsBarge_X7_trimsBarge_r3 _ (List.mem_of_getElem? (i := 18) rfl)) (mj_cons (mc_X7_trimsBarge_X7_trimsBarge_r3 _ (List.mem_of_getElem? (i := 19) rfl)) (mj_cons (mc_X7_trimsBarge_X7_trimsBarge_r3 _ (List.mem_of_getElem? (i := 20) rfl)) (mj_cons (mc_X7_trimsBarge_X7_trimsBarge_r3 _ (List.mem_of_getElem? (i := 21) rfl)) (mj_cons (mc_X7_trimsBarge_X7_trimsBarge_r3 _ (List.mem_of_getElem? (i := 22) rfl)) (mj_cons (mc_X7_trimsBarge_X7_trimsBarge_r3 _ (List.mem_of_getElem? (i := 23) rfl)) (mj_cons (mc_X7_trimsBarge_X7_trimsBarge_r4 _ (List.mem_of_getElem? (i := 0) rfl)) (mj_cons (mc_X7_trimsBarge_X7_trimsBarge_r4 _ (List.mem_of_getElem? (i := 1) rfl)) (mj_cons (mc_X7_trimsBarge_X7_trimsBarge_r4 _ (List.mem_of_getElem? (i := 2) rfl)) (mj_cons (mc_X7_trimsBarge_X7_trimsBarge_r4 _ (List.mem_of_getElem? (i := 3) rfl)) (mj_cons (mc_X7_trimsBarge_X7_trimsBarge_r4 _ (List.mem_of_getElem? (i := 4) rfl)) (mj_cons (mc_X7_trimsBarge_X7_trimsBarge_r4 _ (List.mem_of_getElem? (i := 5) rfl)) (mj_cons (mc_X7_trimsBarge_X7_trimsBarge_r4 _ (List.mem_of_getElem? (i := 6) rfl)) (mj_cons (mc_X7_trimsBarge_X7_trimsBarge_r4 _ (List.mem_of_getElem? (i := 7) rfl)) (mj_cons (mc_X7_trimsBarge_X7_trimsBarge_r4 _ (List.mem_of_getElem? (i := 8) rfl)) mj_nil)))))))))))))))))))))))) (mj_app (mj_cons (mc_X7_trimsBarge_X7_trimsBarge_r4 _ (List.mem_of_getElem? (i := 9) rfl)) (mj_cons (mc_X7_trimsBarge_X7_trimsBarge_r4 _ (List.mem_of_getElem? (i := 10) rfl)) (mj_cons (mc_X7_trimsBarge_X7_trimsBarge_r4 _ (List.mem_of_getElem? (i := 11) rfl)) (mj_cons (mc_X7_trimsBarge_X7_trimsBarge_r4 _ (List.mem_of_getElem? (i := 12) rfl)) (mj_cons (mc_X7_trimsBarge_X7_trimsBarge_r4 _ (List.mem_of_getElem? (i := 13) rfl)) (mj_cons (mc_X7_trimsBarge_X7_trimsBarge_r4 _ (List.mem_of_getElem? (i := 14) rfl)) (mj_cons (mc_X7_trimsBarge_X7_trimsBarge_r4 _ (List.mem_of_getElem? (i := 15) rfl)) (mj_cons (mc_X7_trimsBarge_X7_trimsBarge_r4 _ (List.mem_of_getElem? (i := 16) rfl)) (mj_cons (mc_X7_trimsBarge_X7_trimsBarge_r4 _ (List.mem_of_getElem? (i := 17) rfl)) (mj_cons (mc_X7_trimsBarge_X7_trimsBarge_r4 _ (List.mem_of_getElem? (i := 18) rfl)) (mj_cons (mc_X7_trimsBarge_X7_trimsBarge_r4 _ (List.mem_of_getElem? (i := 19) rfl)) (mj_cons (mc_X7_trimsBarge_X7_trimsBarge_r4 _ (List.mem_of_getElem? (i := 20) rfl)) (mj_cons (mc_X7_trimsBarge_X7_trimsBarge_r4 _ (List.mem_of_getElem? (i := 21) rfl)) (mj_cons (mc_X7_trimsBarge_X7_trimsBarge_r4 _ (List.mem_of_getElem? (i := 22) rfl)) (mj_cons (mc_X7_trimsBarge_X7_trimsBarge_r4 _ (List.mem_of_getElem? (i := 23) rfl)) (mj_cons (mc_X7_trimsBarge_X7_trimsBarge_r5 _ (List.mem_of_getElem? (i := 0) rfl)) (mj_cons (mc_X7_trimsBarge_X7_trimsBarge_r5 _ (List.mem_of_getElem? (i := 1) rfl)) (mj_cons (mc_X7_trimsBarge_X7_trimsBarge_r5 _ (List.mem_of_getElem? (i := 2) rfl)) (mj_cons (mc_X7_trimsBarge_X7_trimsBarge_r5 _ (List.mem_of_getElem? (i := 3) rfl)) (mj_cons (mc_X7_trimsBarge_X7_trimsBarge_r5 _ (List.mem_of_getElem? (i := 4) rfl)) (mj_cons (mc_X7_trimsBarge_X7_trimsBarge_r5 _ (List.mem_of_getElem? (i := 5) rfl)) (mj_cons (mc_X7_trimsBarge_X7_trimsBarge_r5 _ (List.mem_of_getElem? (i := 6) rfl)) (mj_cons (mc_X7_trimsBarge_X7_trimsBarge_r5 _ (List.mem_of_getElem? (i := 7) rfl)) (mj_cons (mc_X7_trimsBarge_X7_trimsBarge_r5 _ (List.mem_of_getElem? (i := 8) rfl)) mj_nil)))))))))))))))))))))))) (mj_cons (mc_X7_trimsBarge_X7_trimsBarge_r5 _ (List.mem_of_getElem? (i := 9) rfl)) (mj_cons (mc_X7_trimsBarge_X7_trimsBarge_r5 _ (List.mem_of_getElem? (i := 10) rfl)) (mj_cons (mc_X7_trimsBarge_X7_trimsBarge_r5 _ (List.mem_of_getElem? (i := 11) rfl)) (mj_cons (mc_X7_trimsBarge_X7_trimsBarge_r5 _ (List.mem_of_getElem? (i := 12) rfl)) (mj_cons (mc_X7_trimsBarge_X7_trimsBarge_r5 _ (List.mem_of_getElem? (i := 13) rfl)) (mj_cons (mc_X7_trimsBarge_X7_trimsBarge_r5 _ (List.mem_of_getElem? (i := 14) rfl)) (mj_cons (mc_X7_trimsBarge_X7_trimsBarge_r5 _ (List.mem_of_getElem? (i := 15) rfl)) (mj_cons (mc_X7_trimsBarge_X7_trimsBarge_r5 _ (List.mem_of_getElem? (i := 16) rfl)) (mj_cons (mc_X7_trimsBarge_X7_trimsBarge_r5 _ (List.mem_of_getElem? (i := 17) rfl)) (mj_cons (mc_X7_trimsBarge_X7_trimsBarge_r5 _ (List.mem_of_getElem? (i := 18) rfl)) (mj_cons (mc_X7_trimsBarge_X7_trimsBarge_r5 _ (List.mem_of_getElem? (i := 19) rfl)) (mj_cons (mc_X7_trimsBarge_X7_trimsBarge_r5 _ (List.mem_of_getElem? (i := 20) rfl)) (mj_cons (mc_X7_trimsBarge_X7_trimsBarge_r5 _ (List.mem_of_getElem? (i := 21) rfl)) (mj_cons (mc_X7_trimsBarge_X7_trimsBarge_r5 _ (List.mem_of_getElem? (i := 22) rfl)) (mj_cons (mc_X7_trimsBarge_X7_trimsBarge_r5 _ (List.mem_of_getElem? (i := 23) rfl)) (mj_cons (mc_X7_trimsBarge_X7_trimsBarge_r6 _ (List.mem_of_getElem? (i := 0) rfl)) (mj_cons (mc_X7_trimsBarge_X7_trimsBarge_r6 _ (List.mem_of_getElem? (i := 1) rfl)) (mj_cons (mc_X7_trimsBarge_X7_trimsBarge_r6 _ (List.mem_of_getElem? (i := 2) rfl)) (mj_cons (mc_X7_trimsBarge_X7_trimsBarge_r6 _ (List.mem_of_getElem? (i := 3) rfl)) (mj_cons (mc_X7_trimsBarge_X7_trimsBarge_r1 _ (List.mem_of_getElem? (i := 4) rfl)) mj_nil)))))))))))))))))))))))) mc_X7_trimsBarge_X70)) (by decide +kernel)
set_option maxRecDepth 20000 in
theorem gX7_trimsBarge_X7_farNow : GoodIn wsX7_trimsBarge (wsV RX7 407 RX7 yX7_farNow wsX7_farNow) := goodIn_app (mj_good (mj_cons (mc_X7_trimsBarge_X7_trimsBarge_r1 _ (List.mem_of_getElem? (i := 11) rfl)) (mj_cons (mc_X7_trimsBarge_X7_trimsBarge_r1 _ (List.mem_of_getElem? (i := 12) rfl)) (mj_cons (mc_X7_trimsBarge_X7_trimsBarge_r1 _ (List.mem_of_getElem? (i := 13) rfl)) (mj_cons (mc_X7_trimsBarge_X7_trimsBarge_r1 _ (List.mem_of_getElem? (i := 8) rfl)) mj_nil)))) (by decide +kernel)) ggX7_trimsBarge_X7_farNow
set_option maxRecDepth 20000 in
theorem ggX7_trimsBarge_X7_insert : GoodIn wsX7_trimsBarge wsX7_insert := mj_good (mj_cons (mc_X7_trimsBarge_X7_trimsBarge_r6 _ (List.mem_of_getElem? (i := 7) rfl)) (mj_app (mj_cons (mc_X7_trimsBarge_X7_trimsBarge_r1 _ (List.mem_of_getElem? (i := 10) rfl)) (mj_cons (mc_X7_trimsBarge_X7_trimsBarge_r1 _ (List.mem_of_getElem? (i := 0) rfl)) (mj_cons (mc_X7_trimsBarge_X7_trimsBarge_r1 _ (List.mem_of_getElem? (i := 1) rfl)) (mj_cons (mc_X7_trimsBarge_X7_trimsBarge_r1 _ (List.mem_of_getElem? (i := 2) rfl)) (mj_cons (mc_X7_trimsBarge_X7_trimsBarge_r1 _ (List.mem_of_getElem? (i := 3) rfl)) (mj_cons (mc_X7_trimsBarge_X7_trimsBarge_r1 _ (List.mem_of_getElem? (i := 4) rfl)) mj_nil)))))) mc_X7_trimsBarge_X70)) (by decide +kernel)
set_option maxRecDepth 20000 in
theorem gX7_trimsBarge_X7_insert : GoodIn wsX7_trimsBarge (wsV RX7 419 RX7 yX7_insert wsX7_insert) := goodIn_app (mj_good (mj_cons (mc_X7_trimsBarge_X7_trimsBarge_r6 _ (List.mem_of_getElem? (i := 4) rfl)) (mj_cons (mc_X7_trimsBarge_X7_trimsBarge_r6 _ (List.mem_of_getElem? (i := 5) rfl)) (mj_cons (mc_X7_trimsBarge_X7_trimsBarge_r6 _ (List.mem_of_getElem? (i := 6) rfl)) (mj_cons (mc_X7_trimsBarge_X7_trimsBarge_r1 _ (List.mem_of_getElem? (i := 8) rfl)) mj_nil)))) (by decide +kernel)) ggX7_trimsBarge_X7_insert
theorem dX7_trimsBarge_0 : decode cX7_trimsBarge 0 = .ok (.aload_n 0, 1) := by decide +kernel
theorem dX7_trimsBarge_1 : decode cX7_trimsBarge 1 = .ok (.getfield 23, 3) := by decide +kernel
theorem dX7_trimsBarge_4 : decode cX7_trimsBarge 4 = .ok (.iload_n 1, 1) := by decide +kernel
theorem dX7_trimsBarge_5 : decode cX7_trimsBarge 5 = .ok (.iaload, 1) := by decide +kernel
theorem dX7_trimsBarge_6 : decode cX7_trimsBarge 6 = .ok (.istore_n 3, 1) := by decide +kernel
theorem dX7_trimsBarge_7 : decode cX7_trimsBarge 7 = .ok (.aload_n 0, 1) := by decide +kernel
theorem dX7_trimsBarge_8 : decode cX7_trimsBarge 8 = .ok (.getfield 26, 3) := by decide +kernel
theorem dX7_trimsBarge_11 : decode cX7_trimsBarge 11 = .ok (.iload_n 1, 1) := by decide +kernel
theorem dX7_trimsBarge_12 : decode cX7_trimsBarge 12 = .ok (.iaload, 1) := by decide +kernel
theorem dX7_trimsBarge_13 : decode cX7_trimsBarge 13 = .ok (.istore 4, 2) := by decide +kernel
theorem dX7_trimsBarge_15 : decode cX7_trimsBarge 15 = .ok (.aload_n 0, 1) := by decide +kernel
theorem dX7_trimsBarge_16 : decode cX7_trimsBarge 16 = .ok (.getfield 29, 3) := by decide +kernel
theorem dX7_trimsBarge_19 : decode cX7_trimsBarge 19 = .ok (.iload_n 1, 1) := by decide +kernel
theorem dX7_trimsBarge_20 : decode cX7_trimsBarge 20 = .ok (.iaload, 1) := by decide +kernel
theorem dX7_trimsBarge_21 : decode cX7_trimsBarge 21 = .ok (.istore 5, 2) := by decide +kernel
theorem dX7_trimsBarge_23 : decode cX7_trimsBarge 23 = .ok (.aload_n 0, 1) := by decide +kernel
theorem dX7_trimsBarge_24 : decode cX7_trimsBarge 24 = .ok (.getfield 32, 3) := by decide +kernel
theorem dX7_trimsBarge_27 : decode cX7_trimsBarge 27 = .ok (.iload_n 1, 1) := by decide +kernel
theorem dX7_trimsBarge_28 : decode cX7_trimsBarge 28 = .ok (.iaload, 1) := by decide +kernel
theorem dX7_trimsBarge_29 : decode cX7_trimsBarge 29 = .ok (.istore 6, 2) := by decide +kernel
theorem dX7_trimsBarge_31 : decode cX7_trimsBarge 31 = .ok (.aload_n 0, 1) := by decide +kernel
theorem dX7_trimsBarge_32 : decode cX7_trimsBarge 32 = .ok (.getfield 35, 3) := by decide +kernel
theorem dX7_trimsBarge_35 : decode cX7_trimsBarge 35 = .ok (.iload_n 1, 1) := by decide +kernel
theorem dX7_trimsBarge_36 : decode cX7_trimsBarge 36 = .ok (.iaload, 1) := by decide +kernel
theorem dX7_trimsBarge_37 : decode cX7_trimsBarge 37 = .ok (.istore 7, 2) := by decide +kernel
theorem dX7_trimsBarge_39 : decode cX7_trimsBarge 39 = .ok (.aload_n 0, 1) := by decide +kernel
theorem dX7_trimsBarge_40 : decode cX7_trimsBarge 40 = .ok (.iload_n 1, 1) := by decide +kernel
theorem dX7_trimsBarge_41 : decode cX7_trimsBarge 41 = .ok (.invokevirtual 375, 3) := by decide +kernel
theorem dX7_trimsBarge_44 : decode cX7_trimsBarge 44 = .ok (.aload_n 0, 1) := by decide +kernel
theorem dX7_trimsBarge_45 : decode cX7_trimsBarge 45 = .ok (.invokevirtual 407, 3) := by decide +kernel
theorem dX7_trimsBarge_48 : decode cX7_trimsBarge 48 = .ok (.iload_n 2, 1) := by decide +kernel
theorem dX7_trimsBarge_49 : decode cX7_trimsBarge 49 = .ok (.if_icmp .lt 5, 3) := by decide +kernel
theorem dX7_trimsBarge_52 : decode cX7_trimsBarge 52 = .ok (.iconst 1, 1) := by decide +kernel
theorem dX7_trimsBarge_53 : decode cX7_trimsBarge 53 = .ok (.ireturn, 1) := by decide +kernel
theorem dX7_trimsBarge_54 : decode cX7_trimsBarge 54 = .ok (.aload_n 0, 1) := by decide +kernel
theorem dX7_trimsBarge_55 : decode cX7_trimsBarge 55 = .ok (.iload_n 1, 1) := by decide +kernel
theorem dX7_trimsBarge_56 : decode cX7_trimsBarge 56 = .ok (.invokevirtual 419, 3) := by decide +kernel
theorem dX7_trimsBarge_59 : decode cX7_trimsBarge 59 = .ok (.aload_n 0, 1) := by decide +kernel
theorem dX7_trimsBarge_60 : decode cX7_trimsBarge 60 = .ok (.getfield 23, 3) := by decide +kernel
theorem dX7_trimsBarge_63 : decode cX7_trimsBarge 63 = .ok (.iload_n 1, 1) := by decide +kernel
theorem dX7_trimsBarge_64 : decode cX7_trimsBarge 64 = .ok (.iload_n 3, 1) := by decide +kernel
theorem dX7_trimsBarge_65 : decode cX7_trimsBarge 65 = .ok (.iastore, 1) := by decide +kernel
theorem dX7_trimsBarge_66 : decode cX7_trimsBarge 66 = .ok (.aload_n 0, 1) := by decide +kernel
theorem dX7_trimsBarge_67 : decode cX7_trimsBarge 67 = .ok (.getfield 26, 3) := by decide +kernel
theorem dX7_trimsBarge_70 : decode cX7_trimsBarge 70 = .ok (.iload_n 1, 1) := by decide +kernel
theorem dX7_trimsBarge_71 : decode cX7_trimsBarge 71 = .ok (.iload 4, 2) := by decide +kernel
theorem dX7_trimsBarge_73 : decode cX7_trimsBarge 73 = .ok (.iastore, 1) := by decide +kernel
theorem dX7_trimsBarge_74 : decode cX7_trimsBarge 74 = .ok (.aload_n 0, 1) := by decide +kernel
theorem dX7_trimsBarge_75 : decode cX7_trimsBarge 75 = .ok (.getfield 29, 3) := by decide +kernel
theorem dX7_trimsBarge_78 : decode cX7_trimsBarge 78 = .ok (.iload_n 1, 1) := by decide +kernel
theorem dX7_trimsBarge_79 : decode cX7_trimsBarge 79 = .ok (.iload 5, 2) := by decide +kernel
theorem dX7_trimsBarge_81 : decode cX7_trimsBarge 81 = .ok (.iastore, 1) := by decide +kernel
theorem dX7_trimsBarge_82 : decode cX7_trimsBarge 82 = .ok (.aload_n 0, 1) := by decide +kernel
theorem dX7_trimsBarge_83 : decode cX7_trimsBarge 83 = .ok (.getfield 32, 3) := by decide +kernel
theorem dX7_trimsBarge_86 : decode cX7_trimsBarge 86 = .ok (.iload_n 1, 1) := by decide +kernel
theorem dX7_trimsBarge_87 : decode cX7_trimsBarge 87 = .ok (.iload 6, 2) := by decide +kernel
theorem dX7_trimsBarge_89 : decode cX7_trimsBarge 89 = .ok (.iastore, 1) := by decide +kernel
theorem dX7_trimsBarge_90 : decode cX7_trimsBarge 90 = .ok (.aload_n 0, 1) := by decide +kernel
theorem dX7_trimsBarge_91 : decode cX7_trimsBarge 91 = .ok (.getfield 35, 3) := by decide +kernel
theorem dX7_trimsBarge_94 : decode cX7_trimsBarge 94 = .ok (.iload_n 1, 1) := by decide +kernel
theorem dX7_trimsBarge_95 : decode cX7_trimsBarge 95 = .ok (.iload 7, 2) := by decide +kernel
theorem dX7_trimsBarge_97 : decode cX7_trimsBarge 97 = .ok (.iastore, 1) := by decide +kernel
theorem dX7_trimsBarge_98 : decode cX7_trimsBarge 98 = .ok (.iconst 0, 1) := by decide +kernel
theorem dX7_trimsBarge_99 : decode cX7_trimsBarge 99 = .ok (.ireturn, 1) := by decide +kernel
set_option maxRecDepth 20000 in
theorem mc_X7_trimsWall_X7_trimsWall_r1 : mjIn wsX7_trimsWall wsX7_trimsWall_r1 := fun w h => (List.mem_cons_of_mem _ (List.mem_append_left _ (List.mem_append_left _ h)))
set_option maxRecDepth 20000 in
theorem mc_X7_trimsWall_X7_trimsWall_r2 : mjIn wsX7_trimsWall wsX7_trimsWall_r2 := fun w h => (List.mem_cons_of_mem _ (List.mem_append_left _ (List.mem_append_right _ (List.mem_append_left _ h))))
set_option maxRecDepth 20000 in
theorem mc_X7_trimsWall_X7_trimsWall_r3 : mjIn wsX7_trimsWall wsX7_trimsWall_r3 := fun w h => (List.mem_cons_of_mem _ (List.mem_append_left _ (List.mem_append_right _ (List.mem_append_right _ (List.mem_append_left _ h)))))
set_option maxRecDepth 20000 in
theorem mc_X7_trimsWall_X7_trimsWall_r4 : mjIn wsX7_trimsWall wsX7_trimsWall_r4 := fun w h => (List.mem_cons_of_mem _ (List.mem_append_left _ (List.mem_append_right _ (List.mem_append_right _ (List.mem_append_right _ (List.mem_append_left _ h))))))
set_option maxRecDepth 20000 in
theorem mc_X7_trimsWall_X7_trimsWall_r5 : mjIn wsX7_trimsWall wsX7_trimsWall_r5 := fun w h => (List.mem_cons_of_mem _ (List.mem_append_left _ (List.mem_append_right _ (List.mem_append_right _ (List.mem_append_right _ (List.mem_append_right _ h))))))
set_option maxRecDepth 20000 in
theorem mc_X7_trimsWall_X70 : mjIn wsX7_trimsWall wsX70 := fun w h => (List.mem_cons_of_mem _ (List.mem_append_right _ h))
set_option maxRecDepth 20000 in
theorem ggX7_trimsWall_X7_farNow : GoodIn wsX7_trimsWall wsX7_farNow := mj_good (mj_cons (mc_X7_trimsWall_X7_trimsWall_r1 _ (List.mem_of_getElem? (i := 5) rfl)) (mj_app (mj_app (mj_cons (mc_X7_trimsWall_X7_trimsWall_r1 _ (List.mem_of_getElem? (i := 6) rfl)) (mj_cons (mc_X7_trimsWall_X7_trimsWall_r1 _ (List.mem_of_getElem? (i := 7) rfl)) (mj_cons (mc_X7_trimsWall_X7_trimsWall_r1 _ (List.mem_of_getElem? (i := 8) rfl)) (mj_cons (mc_X7_trimsWall_X7_trimsWall_r1 _ (List.mem_of_getElem? (i := 9) rfl)) (mj_cons (mc_X7_trimsWall_X7_trimsWall_r1 _ (List.mem_of_getElem? (i := 4) rfl)) (mj_cons (mc_X7_trimsWall_X7_trimsWall_r1 _ (List.mem_of_getElem? (i := 10) rfl)) (mj_cons (mc_X7_trimsWall_X7_trimsWall_r1 _ (List.mem_of_getElem? (i := 11) rfl)) (mj_cons (mc_X7_trimsWall_X7_trimsWall_r1 _ (List.mem_of_getElem? (i := 12) rfl)) (mj_cons (mc_X7_trimsWall_X7_trimsWall_r1 _ (List.mem_of_getElem? (i := 13) rfl)) (mj_cons (mc_X7_trimsWall_X7_trimsWall_r1 _ (List.mem_of_getElem? (i := 14) rfl)) (mj_cons (mc_X7_trimsWall_X7_trimsWall_r1 _ (List.mem_of_getElem? (i := 15) rfl)) (mj_cons (mc_X7_trimsWall_X7_trimsWall_r1 _ (List.mem_of_getElem? (i := 16) rfl)) (mj_cons (mc_X7_trimsWall_X7_trimsWall_r1 _ (List.mem_of_getElem? (i := 17) rfl)) (mj_cons (mc_X7_trimsWall_X7_trimsWall_r1 _ (List.mem_of_getElem? (i := 18) rfl)) (mj_cons (mc_X7_trimsWall_X7_trimsWall_r1 _ (List.mem_of_getElem? (i := 19) rfl)) (mj_cons (mc_X7_trimsWall_X7_trimsWall_r1 _ (List.mem_of_getElem? (i := 20) rfl)) (mj_cons (mc_X7_trimsWall_X7_trimsWall_r1 _ (List.mem_of_getElem? (i := 21) rfl)) (mj_cons (mc_X7_trimsWall_X7_trimsWall_r1 _ (List.mem_of_getElem? (i := 22) rfl)) (mj_cons (mc_X7_trimsWall_X7_trimsWall_r1 _ (List.mem_of_getElem? (i := 23) rfl)) (mj_cons (mc_X7_trimsWall_X7_trimsWall_r2 _ (List.mem_of_getElem? (i := 0) rfl)) (mj_cons (mc_X7_trimsWall_X7_trimsWall_r2 _ (List.mem_of_getElem? (i := 1) rfl)) (mj_cons (mc_X7_trimsWall_X7_trimsWall_r2 _ (List.mem_of_getElem? (i := 2) rfl)) (mj_cons (mc_X7_trimsWall_X7_trimsWall_r2 _ (List.mem_of_getElem? (i := 3) rfl)) (mj_cons (mc_X7_trimsWall_X7_trimsWall_r2 _ (List.mem_of_getElem? (i := 4) rfl)) mj_nil)))))))))))))))))))))))) (mj_app (mj_cons (mc_X7_trimsWall_X7_trimsWall_r2 _ (List.mem_of_getElem? (i := 5) rfl)) (mj_cons (mc_X7_trimsWall_X7_trimsWall_r2 _ (List.mem_of_getElem? (i := 6) rfl)) (mj_cons (mc_X7_trimsWall_X7_trimsWall_r2 _ (List.mem_of_getElem? (i := 7) rfl)) (mj_cons (mc_X7_trimsWall_X7_trimsWall_r2 _ (List.mem_of_getElem? (i := 8) rfl)) (mj_cons (mc_X7_trimsWall_X7_trimsWall_r2 _ (List.mem_of_getElem? (i := 9) rfl)) (mj_cons (mc_X7_trimsWall_X7_trimsWall_r2 _ (List.mem_of_getElem? (i := 10) rfl)) (mj_cons (mc_X7_trimsWall_X7_trimsWall_r2 _ (List.mem_of_getElem? (i := 11) rfl)) (mj_cons (mc_X7_trimsWall_X7_trimsWall_r2 _ (List.mem_of_getElem? (i := 12) rfl)) (mj_cons (mc_X7_trimsWall_X7_trimsWall_r2 _ (List.mem_of_getElem? (i := 13) rfl)) (mj_cons (mc_X7_trimsWall_X7_trimsWall_r2 _ (List.mem_of_getElem? (i := 14) rfl)) (mj_cons (mc_X7_trimsWall_X7_trimsWall_r2 _ (List.mem_of_getElem? (i := 15) rfl)) (mj_cons (mc_X7_trimsWall_X7_trimsWall_r2 _ (List.mem_of_getElem? (i := 16) rfl)) (mj_cons (mc_X7_trimsWall_X7_trimsWall_r2 _ (List.mem_of_getElem? (i := 17) rfl)) (mj_cons (mc_X7_trimsWall_X7_trimsWall_r2 _ (List.mem_of_getElem? (i := 18) rfl)) (mj_cons (mc_X7_trimsWall_X7_trimsWall_r2 _ (List.mem_of_getElem? (i := 19) rfl)) (mj_cons (mc_X7_trimsWall_X7_trimsWall_r2 _ (List.mem_of_getElem? (i := 20) rfl)) (mj_cons (mc_X7_trimsWall_X7_trimsWall_r2 _ (List.mem_of_getElem? (i := 21) rfl)) (mj_cons (mc_X7_trimsWall_X7_trimsWall_r2 _ (List.mem_of_getElem? (i := 22) rfl)) (mj_cons (mc_X7_trimsWall_X7_trimsWall_r2 _ (List.mem_of_getElem? (i := 23) rfl)) (mj_cons (mc_X7_trimsWall_X7_trimsWall_r3 _ (List.mem_of_getElem? (i := 0) rfl)) (mj_cons (mc_X7_trimsWall_X7_trimsWall_r3 _ (List.mem_of_getElem? (i := 1) rfl)) (mj_cons (mc_X7_trimsWall_X7_trimsWall_r3 _ (List.mem_of_getElem? (i := 2) rfl)) (mj_cons (mc_X7_trimsWall_X7_trimsWall_r3 _ (List.mem_of_getElem? (i := 3) rfl)) (mj_cons (mc_X7_trimsWall_X7_trimsWall_r3 _ (List.mem_of_getElem? (i := 4) rfl)) mj_nil)))))))))))))))))))))))) (mj_app (mj_cons (mc_X7_trimsWall_X7_trimsWall_r3 _ (List.mem_of_getElem? (i := 5) rfl)) (mj_cons (mc_X7_trimsWall_X7_trimsWall_r3 _ (List.mem_of_getElem? (i := 6) rfl)) (mj_cons (mc_X7_trimsWall_X7_trimsWall_r3 _ (List.mem_of_getElem? (i := 7) rfl)) (mj_cons (mc_X7_trimsWall_X7_trimsWall_r3 _ (List.mem_of_getElem? (i := 8) rfl)) (mj_cons (mc_X7_trimsWall_X7_trimsWall_r3 _ (List.mem_of_getElem? (i := 9) rfl)) (mj_cons (mc_X7_trimsWall_X7_trimsWall_r3 _ (List.mem_of_getElem? (i := 10) rfl)) (mj_cons (mc_X7_trimsWall_X7_trimsWall_r3 _ (List.mem_of_getElem? (i := 11) rfl)) (mj_cons (mc_X7_trimsWall_X7_trimsWall_r3 _ (List.mem_of_getElem? (i := 12) rfl)) (mj_cons (mc_X7_trimsWall_X7_trimsWall_r3 _ (List.mem_of_getElem? (i := 13) rfl)) (mj_cons (mc_X7_trimsWall_X7_trimsWall_r3 _ (List.mem_of_getElem? (i := 14) rfl)) (mj_cons (mc_X7_trimsWall_X7_trimsWall_r3 _ (List.mem_of_getElem? (i := 15) rfl)) (mj_cons (mc_X7_trimsWall_X7_trimsWall_r3 _ (List.mem_of_getElem? (i := 16) rfl)) (mj_cons (mc_X7_trimsWall_X7_trimsWall_r3 _ (List.mem_of_getElem? (i := 17) rfl)) (mj_cons (mc_X7_trimsWall_X7_trimsWall_r3 _ (List.mem_of_getElem? (i := 18) rfl)) (mj_cons (mc_X7_trimsWall_X7_trimsWall_r3 _ (List.mem_of_getElem? (i := 19) rfl)) (mj_cons (mc_X7_trimsWall_X7_trimsWall_r3 _ (List.mem_of_getElem? (i := 20) rfl)) (mj_cons (mc_X7_trimsWall_X7_trimsWall_r3 _ (List.mem_of_getElem? (i := 21) rfl)) (mj_cons (mc_X7_trimsWall_X7_trimsWall_r3 _ (List.mem_of_getElem? (i := 22) rfl)) (mj_cons (mc_X7_trimsWall_X7_trimsWall_r3 _ (List.mem_of_getElem? (i := 23) rfl)) (mj_cons (mc_X7_trimsWall_X7_trimsWall_r4 _ (List.mem_of_getElem? (i := 0) rfl)) (mj_cons (mc_X7_trimsWall_X7_trimsWall_r4 _ (List.mem_of_getElem? (i := 1) rfl)) (mj_cons (mc_X7_trimsWall_X7_trimsWall_r4 _ (List.mem_of_getElem? (i := 2) rfl)) (mj_cons (mc_X7_trimsWall_X7_trimsWall_r4 _ (List.mem_of_getElem? (i := 3) rfl)) (mj_cons (mc_X7_trimsWall_X7_trimsWall_r4 _ (List.mem_of_getElem? (i := 4) rfl)) mj_nil)))))))))))))))))))))))) (mj_app (mj_cons (mc_X7_trimsWall_X7_trimsWall_r4 _ (List.mem_of_getElem? (i := 5) rfl)) (mj_cons (mc_X7_trimsWall_X7_trimsWall_r4 _ (List.mem_of_getElem? (i := 6) rfl)) (mj_cons (mc_X7_trimsWall_X7_trimsWall_r4 _ (List.mem_of_getElem? (i := 7) rfl)) (mj_cons (mc_X7_trimsWall_X7_trimsWall_r4 _ (List.mem_of_getElem? (i := 8) rfl)) (mj_cons (mc_X7_trimsWall_X7_trimsWall_r4 _ (List.mem_of_getElem? (i := 9) rfl)) (mj_cons (mc_X7_trimsWall_X7_trimsWall_r4 _ (List.mem_of_getElem? (i := 10) rfl)) (mj_cons (mc_X7_trimsWall_X7_trimsWall_r4 _ (List.mem_of_getElem? (i := 11) rfl)) (mj_cons (mc_X7_trimsWall_X7_trimsWall_r4 _ (List.mem_of_getElem? (i := 12) rfl)) (mj_cons (mc_X7_trimsWall_X7_trimsWall_r4 _ (List.mem_of_getElem? (i := 13) rfl)) (mj_cons (mc_X7_trimsWall_X7_trimsWall_r4 _ (List.mem_of_getElem? (i := 14) rfl)) (mj_cons (mc_X7_trimsWall_X7_trimsWall_r4 _ (List.mem_of_getElem? (i := 15) rfl)) (mj_cons (mc_X7_trimsWall_X7_trimsWall_r4 _ (List.mem_of_getElem? (i := 16) rfl)) (mj_cons (mc_X7_trimsWall_X7_trimsWall_r4 _ (List.mem_of_getElem? (i := 17) rfl)) (mj_cons (mc_X7_trimsWall_X7_trimsWall_r4 _ (List.mem_of_getElem? (i := 18) rfl)) (mj_cons (mc_X7_trimsWall_X7_trimsWall_r4 _ (List.mem_of_getElem? (i := 19) rfl)) (mj_cons (mc_X7_trimsWall_X7_trimsWall_r4 _ (List.mem_of_getElem? (i := 20) rfl)) (mj_cons (mc_X7_trimsWall_X7_trimsWall_r4 _ (List.mem_of_getElem? (i := 21) rfl)) (mj_cons (mc_X7_trimsWall_X7_trimsWall_r4 _ (List.mem_of_getElem? (i := 22) rfl)) (mj_cons (mc_X7_trimsWall_X7_trimsWall_r4 _ (List.mem_of_getElem? (i := 23) rfl)) (mj_cons (mc_X7_trimsWall_X7_trimsWall_r5 _ (List.mem_of_getElem? (i := 0) rfl)) (mj_cons (mc_X7_trimsWall_X7_trimsWall_r5 _ (List.mem_of_getElem? (i := 1) rfl)) (mj_cons (mc_X7_trimsWall_X7_trimsWall_r5 _ (List.mem_of_getElem? (i := 2) rfl)) (mj_cons (mc_X7_trimsWall_X7_trimsWall_r1 _ (List.mem_of_getElem? (i := 0) rfl)) (mj_cons (mc_X7_trimsWall_X7_trimsWall_r5 _ (List.mem_of_getElem? (i := 3) rfl)) mj_nil)))))))))))))))))))))))) (mj_cons (mc_X7_trimsWall_X7_trimsWall_r5 _ (List.mem_of_getElem? (i := 4) rfl)) (mj_cons (mc_X7_trimsWall_X7_trimsWall_r5 _ (List.mem_of_getElem? (i := 5) rfl)) (mj_cons (mc_X7_trimsWall_X7_trimsWall_r5 _ (List.mem_of_getElem? (i := 6) rfl)) (mj_cons (mc_X7_trimsWall_X7_trimsWall_r5 _ (List.mem_of_getElem? (i := 7) rfl)) (mj_cons (mc_X7_trimsWall_X7_trimsWall_r5 _ (List.mem_of_getElem? (i := 8) rfl)) (mj_cons (mc_X7_trimsWall_X7_trimsWall_r5 _ (List.mem_of_getElem? (i := 9) rfl)) (mj_cons (mc_X7_trimsWall_X7_trimsWall_r5 _ (List.mem_of_getElem? (i := 10) rfl)) (mj_cons (mc_X7_trimsWall_X7_trimsWall_r5 _ (List.mem_of_getElem? (i := 11) rfl)) (mj_cons (mc_X7_trimsWall_X7_trimsWall_r5 _ (List.mem_of_getElem? (i := 12) rfl)) (mj_cons (mc_X7_trimsWall_X7_trimsWall_r5 _ (List.mem_of_getElem? (i := 13) rfl)) (mj_cons (mc_X7_trimsWall_X7_trimsWall_r5 _ (List.mem_of_getElem? (i := 14) rfl)) (mj_cons (mc_X7_trimsWall_X7_trimsWall_r5 _ (List.mem_of_getElem? (i := 15) rfl)) (mj_cons (mc_X7_trimsWall_X7_trimsWall_r5 _ (List.mem_of_getElem? (i := 16) rfl)) (mj_cons (mc_X7_trimsWall_X7_trimsWall_r5 _ (List.mem_of_getElem? (i := 17) rfl)) (mj_cons (mc_X7_trimsWall_X7_trimsWall_r5 _ (List.mem_of_getElem? (i := 18) rfl)) (mj_cons (mc_X7_trimsWall_X7_trimsWall_r5 _ (List.mem_of_getElem? (i := 19) rfl)) (mj_cons (mc_X7_trimsWall_X7_trimsWall_r5 _ (List.mem_of_getElem? (i := 20) rfl)) (mj_cons (mc_X7_trimsWall_X7_trimsWall_r5 _ (List.mem_of_getElem? (i := 21) rfl)) (mj_cons (mc_X7_trimsWall_X7_trimsWall_r5 _ (List.mem_of_getElem? (i := 22) rfl)) (mj_cons (mc_X7_trimsWall_X7_trimsWall_r5 _ (List.mem_of_getElem? (i := 23) rfl)) mj_nil)))))))))))))))))))))))) mc_X7_trimsWall_X70)) (by decide +kernel)
set_option maxRecDepth 20000 in
theorem gX7_trimsWall_X7_farNow : GoodIn wsX7_trimsWall (wsV RX7 407 RX7 yX7_farNow wsX7_farNow) := goodIn_app (mj_good (mj_cons (mc_X7_trimsWall_X7_trimsWall_r1 _ (List.mem_of_getElem? (i := 1) rfl)) (mj_cons (mc_X7_trimsWall_X7_trimsWall_r1 _ (List.mem_of_getElem? (i := 2) rfl)) (mj_cons (mc_X7_trimsWall_X7_trimsWall_r1 _ (List.mem_of_getElem? (i := 3) rfl)) (mj_cons (mc_X7_trimsWall_X7_trimsWall_r1 _ (List.mem_of_getElem? (i := 4) rfl)) mj_nil)))) (by decide +kernel)) ggX7_trimsWall_X7_farNow
theorem dX7_trimsWall_0 : decode cX7_trimsWall 0 = .ok (.aload_n 0, 1) := by decide +kernel
theorem dX7_trimsWall_1 : decode cX7_trimsWall 1 = .ok (.getfield 19, 3) := by decide +kernel
theorem dX7_trimsWall_4 : decode cX7_trimsWall 4 = .ok (.iload_n 1, 1) := by decide +kernel
theorem dX7_trimsWall_5 : decode cX7_trimsWall 5 = .ok (.baload, 1) := by decide +kernel
theorem dX7_trimsWall_6 : decode cX7_trimsWall 6 = .ok (.ifCond .ne 5, 3) := by decide +kernel
theorem dX7_trimsWall_9 : decode cX7_trimsWall 9 = .ok (.iconst 0, 1) := by decide +kernel
theorem dX7_trimsWall_10 : decode cX7_trimsWall 10 = .ok (.ireturn, 1) := by decide +kernel
theorem dX7_trimsWall_11 : decode cX7_trimsWall 11 = .ok (.aload_n 0, 1) := by decide +kernel
theorem dX7_trimsWall_12 : decode cX7_trimsWall 12 = .ok (.getfield 19, 3) := by decide +kernel
theorem dX7_trimsWall_15 : decode cX7_trimsWall 15 = .ok (.iload_n 1, 1) := by decide +kernel
theorem dX7_trimsWall_16 : decode cX7_trimsWall 16 = .ok (.iconst 0, 1) := by decide +kernel
theorem dX7_trimsWall_17 : decode cX7_trimsWall 17 = .ok (.bastore, 1) := by decide +kernel
theorem dX7_trimsWall_18 : decode cX7_trimsWall 18 = .ok (.aload_n 0, 1) := by decide +kernel
theorem dX7_trimsWall_19 : decode cX7_trimsWall 19 = .ok (.invokevirtual 407, 3) := by decide +kernel
theorem dX7_trimsWall_22 : decode cX7_trimsWall 22 = .ok (.iload_n 2, 1) := by decide +kernel
theorem dX7_trimsWall_23 : decode cX7_trimsWall 23 = .ok (.if_icmp .lt 5, 3) := by decide +kernel
theorem dX7_trimsWall_26 : decode cX7_trimsWall 26 = .ok (.iconst 1, 1) := by decide +kernel
theorem dX7_trimsWall_27 : decode cX7_trimsWall 27 = .ok (.ireturn, 1) := by decide +kernel
theorem dX7_trimsWall_28 : decode cX7_trimsWall 28 = .ok (.aload_n 0, 1) := by decide +kernel
theorem dX7_trimsWall_29 : decode cX7_trimsWall 29 = .ok (.getfield 19, 3) := by decide +kernel
theorem dX7_trimsWall_32 : decode cX7_trimsWall 32 = .ok (.iload_n 1, 1) := by decide +kernel
theorem dX7_trimsWall_33 : decode cX7_trimsWall 33 = .ok (.iconst 1, 1) := by decide +kernel
theorem dX7_trimsWall_34 : decode cX7_trimsWall 34 = .ok (.bastore, 1) := by decide +kernel
theorem dX7_trimsWall_35 : decode cX7_trimsWall 35 = .ok (.iconst 0, 1) := by decide +kernel
theorem dX7_trimsWall_36 : decode cX7_trimsWall 36 = .ok (.ireturn, 1) := by decide +kernel
theorem dX7_turned_0 : decode cX7_turned 0 = .ok (.iload_n 0, 1) := by decide +kernel
theorem dX7_turned_1 : decode cX7_turned 1 = .ok (.bipush 8, 2) := by decide +kernel
theorem dX7_turned_3 : decode cX7_turned 3 = .ok (.irem, 1) := by decide +kernel
theorem dX7_turned_4 : decode cX7_turned 4 = .ok (.istore 6, 2) := by decide +kernel
theorem dX7_turned_6 : decode cX7_turned 6 = .ok (.iload_n 0, 1) := by decide +kernel
theorem dX7_turned_7 : decode cX7_turned 7 = .ok (.bipush 8, 2) := by decide +kernel
theorem dX7_turned_9 : decode cX7_turned 9 = .ok (.idiv, 1) := by decide +kernel
theorem dX7_turned_10 : decode cX7_turned 10 = .ok (.istore 7, 2) := by decide +kernel
theorem dX7_turned_12 : decode cX7_turned 12 = .ok (.iload 5, 2) := by decide +kernel
theorem dX7_turned_14 : decode cX7_turned 14 = .ok (.ifCond .eq 18, 3) := by decide +kernel
theorem dX7_turned_17 : decode cX7_turned 17 = .ok (.iload_n 3, 1) := by decide +kernel
theorem dX7_turned_18 : decode cX7_turned 18 = .ok (.iload 6, 2) := by decide +kernel
theorem dX7_turned_20 : decode cX7_turned 20 = .ok (.isub, 1) := by decide +kernel
theorem dX7_turned_21 : decode cX7_turned 21 = .ok (.iload_n 1, 1) := by decide +kernel
theorem dX7_turned_22 : decode cX7_turned 22 = .ok (.isub, 1) := by decide +kernel
theorem dX7_turned_23 : decode cX7_turned 23 = .ok (.bipush 8, 2) := by decide +kernel
theorem dX7_turned_25 : decode cX7_turned 25 = .ok (.iload 7, 2) := by decide +kernel
theorem dX7_turned_27 : decode cX7_turned 27 = .ok (.imul, 1) := by decide +kernel
theorem dX7_turned_28 : decode cX7_turned 28 = .ok (.iadd, 1) := by decide +kernel
theorem dX7_turned_29 : decode cX7_turned 29 = .ok (.goto 16, 3) := by decide +kernel
theorem dX7_turned_32 : decode cX7_turned 32 = .ok (.iload 4, 2) := by decide +kernel
theorem dX7_turned_34 : decode cX7_turned 34 = .ok (.iload 7, 2) := by decide +kernel
theorem dX7_turned_36 : decode cX7_turned 36 = .ok (.isub, 1) := by decide +kernel
theorem dX7_turned_37 : decode cX7_turned 37 = .ok (.iload_n 2, 1) := by decide +kernel
theorem dX7_turned_38 : decode cX7_turned 38 = .ok (.isub, 1) := by decide +kernel
theorem dX7_turned_39 : decode cX7_turned 39 = .ok (.bipush 8, 2) := by decide +kernel
theorem dX7_turned_41 : decode cX7_turned 41 = .ok (.iload 6, 2) := by decide +kernel
theorem dX7_turned_43 : decode cX7_turned 43 = .ok (.imul, 1) := by decide +kernel
theorem dX7_turned_44 : decode cX7_turned 44 = .ok (.iadd, 1) := by decide +kernel
theorem dX7_turned_45 : decode cX7_turned 45 = .ok (.ireturn, 1) := by decide +kernel
set_option maxRecDepth 20000 in
theorem mc_X7_turn_X7_turn_r1 : mjIn wsX7_turn wsX7_turn_r1 := fun w h => (List.mem_cons_of_mem _ (List.mem_append_left _ (List.mem_append_left _ h)))
set_option maxRecDepth 20000 in
theorem mc_X7_turn_X70 : mjIn wsX7_turn wsX70 := fun w h => (List.mem_cons_of_mem _ (List.mem_append_right _ h))
set_option maxRecDepth 20000 in
theorem ggX7_turn_X7_no : GoodIn wsX7_turn wsX7_no := mj_good (mj_cons (mc_X7_turn_X7_turn_r1 _ (List.mem_of_getElem? (i := 17) rfl)) (mj_app (mj_cons (mc_X7_turn_X7_turn_r1 _ (List.mem_of_getElem? (i := 1) rfl)) mj_nil) mc_X7_turn_X70)) (by decide +kernel)
set_option maxRecDepth 20000 in
theorem gX7_turn_X7_no : GoodIn wsX7_turn (wsV RX7 327 RX7 yX7_no wsX7_no) := goodIn_app (mj_good (mj_cons (mc_X7_turn_X7_turn_r1 _ (List.mem_of_getElem? (i := 13) rfl)) (mj_cons (mc_X7_turn_X7_turn_r1 _ (List.mem_of_getElem? (i := 14) rfl)) (mj_cons (mc_X7_turn_X7_turn_r1 _ (List.mem_of_getElem? (i := 15) rfl)) (mj_cons (mc_X7_turn_X7_turn_r1 _ (List.mem_of_getElem? (i := 16) rfl)) mj_nil)))) (by decide +kernel)) ggX7_turn_X7_no
set_option maxRecDepth 20000 in
theorem mc_X7_turn_X7_turn_r2 : mjIn wsX7_turn wsX7_turn_r2 := fun w h => (List.mem_cons_of_mem _ (List.mem_append_left _ (List.mem_append_right _ (List.mem_append_left _ h))))
set_option maxRecDepth 20000 in
theorem ggX7_turn_X7_wide : GoodIn wsX7_turn wsX7_wide := mj_good (mj_cons (mc_X7_turn_X7_turn_r1 _ (List.mem_of_getElem? (i := 21) rfl)) (mj_app (mj_cons (mc_X7_turn_X7_turn_r1 _ (List.mem_of_getElem? (i := 8) rfl)) (mj_cons (mc_X7_turn_X7_turn_r1 _ (List.mem_of_getElem? (i := 9) rfl)) (mj_cons (mc_X7_turn_X7_turn_r1 _ (List.mem_of_getElem? (i := 22) rfl)) (mj_cons (mc_X7_turn_X7_turn_r1 _ (List.mem_of_getElem? (i := 23) rfl)) (mj_cons (mc_X7_turn_X7_turn_r2 _ (List.mem_of_getElem? (i := 0) rfl)) (mj_cons (mc_X7_turn_X7_turn_r2 _ (List.mem_of_getElem? (i := 1) rfl)) (mj_cons (mc_X7_turn_X7_turn_r1 _ (List.mem_of_getElem? (i := 16) rfl)) (mj_cons (mc_X7_turn_X7_turn_r2 _ (List.mem_of_getElem? (i := 2) rfl)) mj_nil)))))))) mc_X7_turn_X70)) (by decide +kernel)
set_option maxRecDepth 20000 in
theorem gX7_turn_X7_wide : GoodIn wsX7_turn (wsV RX7 210 RX7 yX7_wide wsX7_wide) := goodIn_app (mj_good (mj_cons (mc_X7_turn_X7_turn_r1 _ (List.mem_of_getElem? (i := 18) rfl)) (mj_cons (mc_X7_turn_X7_turn_r1 _ (List.mem_of_getElem? (i := 19) rfl)) (mj_cons (mc_X7_turn_X7_turn_r1 _ (List.mem_of_getElem? (i := 20) rfl)) (mj_cons (mc_X7_turn_X7_turn_r1 _ (List.mem_of_getElem? (i := 16) rfl)) mj_nil)))) (by decide +kernel)) ggX7_turn_X7_wide
set_option maxRecDepth 20000 in
theorem ggX7_turn_X7_tall : GoodIn wsX7_turn wsX7_tall := mj_good (mj_cons (mc_X7_turn_X7_turn_r2 _ (List.mem_of_getElem? (i := 6) rfl)) (mj_app (mj_cons (mc_X7_turn_X7_turn_r1 _ (List.mem_of_getElem? (i := 8) rfl)) (mj_cons (mc_X7_turn_X7_turn_r1 _ (List.mem_of_getElem? (i := 9) rfl)) (mj_cons (mc_X7_turn_X7_turn_r1 _ (List.mem_of_getElem? (i := 22) rfl)) (mj_cons (mc_X7_turn_X7_turn_r1 _ (List.mem_of_getElem? (i := 23) rfl)) (mj_cons (mc_X7_turn_X7_turn_r2 _ (List.mem_of_getElem? (i := 0) rfl)) (mj_cons (mc_X7_turn_X7_turn_r2 _ (List.mem_of_getElem? (i := 1) rfl)) (mj_cons (mc_X7_turn_X7_turn_r1 _ (List.mem_of_getElem? (i := 16) rfl)) (mj_cons (mc_X7_turn_X7_turn_r2 _ (List.mem_of_getElem? (i := 2) rfl)) mj_nil)))))))) mc_X7_turn_X70)) (by decide +kernel)
set_option maxRecDepth 20000 in
theorem gX7_turn_X7_tall : GoodIn wsX7_turn (wsV RX7 206 RX7 yX7_tall wsX7_tall) := goodIn_app (mj_good (mj_cons (mc_X7_turn_X7_turn_r2 _ (List.mem_of_getElem? (i := 3) rfl)) (mj_cons (mc_X7_turn_X7_turn_r2 _ (List.mem_of_getElem? (i := 4) rfl)) (mj_cons (mc_X7_turn_X7_turn_r2 _ (List.mem_of_getElem? (i := 5) rfl)) (mj_cons (mc_X7_turn_X7_turn_r1 _ (List.mem_of_getElem? (i := 16) rfl)) mj_nil)))) (by decide +kernel)) ggX7_turn_X7_tall
set_option maxRecDepth 20000 in
theorem ggX7_turn_X7_turned : GoodIn wsX7_turn wsX7_turned := mj_good (mj_cons (mc_X7_turn_X7_turn_r2 _ (List.mem_of_getElem? (i := 9) rfl)) mj_nil) (by decide +kernel)
set_option maxRecDepth 20000 in
theorem gX7_turn_X7_turned : GoodIn wsX7_turn (va_wsS RX7 422 yX7_turned wsX7_turned) := goodIn_app (mj_good (mj_cons (mc_X7_turn_X7_turn_r2 _ (List.mem_of_getElem? (i := 7) rfl)) (mj_cons (mc_X7_turn_X7_turn_r2 _ (List.mem_of_getElem? (i := 8) rfl)) (mj_cons (mc_X7_turn_X7_turn_r1 _ (List.mem_of_getElem? (i := 16) rfl)) mj_nil))) (by decide +kernel)) ggX7_turn_X7_turned
set_option maxRecDepth 20000 in
theorem ggX7_turn_X7_isLong : GoodIn wsX7_turn wsX7_isLong := mj_good (mj_cons (mc_X7_turn_X7_turn_r2 _ (List.mem_of_getElem? (i := 2) rfl)) (mj_app (mj_cons (mc_X7_turn_X7_turn_r1 _ (List.mem_of_getElem? (i := 8) rfl)) mj_nil) mc_X7_turn_X70)) (by decide +kernel)
set_option maxRecDepth 20000 in
theorem gX7_turn_X7_isLong : GoodIn wsX7_turn (wsV RX7 202 RX7 yX7_isLong wsX7_isLong) := goodIn_app (mj_good (mj_cons (mc_X7_turn_X7_turn_r1 _ (List.mem_of_getElem? (i := 23) rfl)) (mj_cons (mc_X7_turn_X7_turn_r2 _ (List.mem_of_getElem? (i := 0) rfl)) (mj_cons (mc_X7_turn_X7_turn_r2 _ (List.mem_of_getElem? (i := 1) rfl)) (mj_cons (mc_X7_turn_X7_turn_r1 _ (List.mem_of_getElem? (i := 16) rfl)) mj_nil)))) (by decide +kernel)) ggX7_turn_X7_isLong
set_option maxRecDepth 20000 in
theorem ggX7_turn_X7_linesByWalls : GoodIn wsX7_turn wsX7_linesByWalls := mj_good (mj_cons (mc_X7_turn_X7_turn_r2 _ (List.mem_of_getElem? (i := 13) rfl)) (mj_app (mj_cons (mc_X7_turn_X7_turn_r1 _ (List.mem_of_getElem? (i := 6) rfl)) (mj_cons (mc_X7_turn_X7_turn_r2 _ (List.mem_of_getElem? (i := 14) rfl)) (mj_cons (mc_X7_turn_X7_turn_r1 _ (List.mem_of_getElem? (i := 12) rfl)) (mj_cons (mc_X7_turn_X7_turn_r1 _ (List.mem_of_getElem? (i := 5) rfl)) (mj_cons (mc_X7_turn_X7_turn_r2 _ (List.mem_of_getElem? (i := 15) rfl)) (mj_cons (mc_X7_turn_X7_turn_r1 _ (List.mem_of_getElem? (i := 11) rfl)) mj_nil)))))) mc_X7_turn_X70)) (by decide +kernel)
set_option maxRecDepth 20000 in
theorem gX7_turn_X7_linesByWalls : GoodIn wsX7_turn (wsV RX7 416 RX7 yX7_linesByWalls wsX7_linesByWalls) := goodIn_app (mj_good (mj_cons (mc_X7_turn_X7_turn_r2 _ (List.mem_of_getElem? (i := 10) rfl)) (mj_cons (mc_X7_turn_X7_turn_r2 _ (List.mem_of_getElem? (i := 11) rfl)) (mj_cons (mc_X7_turn_X7_turn_r2 _ (List.mem_of_getElem? (i := 12) rfl)) (mj_cons (mc_X7_turn_X7_turn_r1 _ (List.mem_of_getElem? (i := 16) rfl)) mj_nil)))) (by decide +kernel)) ggX7_turn_X7_linesByWalls
set_option maxRecDepth 20000 in
theorem mc_X7_turn_X7_turn_r3 : mjIn wsX7_turn wsX7_turn_r3 := fun w h => (List.mem_cons_of_mem _ (List.mem_append_left _ (List.mem_append_right _ (List.mem_append_right _ h))))
set_option maxRecDepth 20000 in
theorem ggX7_turn_X7_ends : GoodIn wsX7_turn wsX7_ends := mj_good (mj_cons (mc_X7_turn_X7_turn_r2 _ (List.mem_of_getElem? (i := 19) rfl)) (mj_app (mj_cons (mc_X7_turn_X7_turn_r2 _ (List.mem_of_getElem? (i := 20) rfl)) (mj_cons (mc_X7_turn_X7_turn_r2 _ (List.mem_of_getElem? (i := 21) rfl)) (mj_cons (mc_X7_turn_X7_turn_r2 _ (List.mem_of_getElem? (i := 22) rfl)) (mj_cons (mc_X7_turn_X7_turn_r1 _ (List.mem_of_getElem? (i := 16) rfl)) (mj_cons (mc_X7_turn_X7_turn_r2 _ (List.mem_of_getElem? (i := 23) rfl)) (mj_cons (mc_X7_turn_X7_turn_r3 _ (List.mem_of_getElem? (i := 0) rfl)) (mj_cons (mc_X7_turn_X7_turn_r3 _ (List.mem_of_getElem? (i := 1) rfl)) mj_nil))))))) mc_X7_turn_X70)) (by decide +kernel)
set_option maxRecDepth 20000 in
theorem gX7_turn_X7_ends : GoodIn wsX7_turn (wsV RX7 342 RX7 yX7_ends wsX7_ends) := goodIn_app (mj_good (mj_cons (mc_X7_turn_X7_turn_r2 _ (List.mem_of_getElem? (i := 16) rfl)) (mj_cons (mc_X7_turn_X7_turn_r2 _ (List.mem_of_getElem? (i := 17) rfl)) (mj_cons (mc_X7_turn_X7_turn_r2 _ (List.mem_of_getElem? (i := 18) rfl)) (mj_cons (mc_X7_turn_X7_turn_r1 _ (List.mem_of_getElem? (i := 16) rfl)) mj_nil)))) (by decide +kernel)) ggX7_turn_X7_ends
theorem dX7_turn_0 : decode cX7_turn 0 = .ok (.aload_n 0, 1) := by decide +kernel
theorem dX7_turn_1 : decode cX7_turn 1 = .ok (.iconst 0, 1) := by decide +kernel
theorem dX7_turn_2 : decode cX7_turn 2 = .ok (.putfield 184, 3) := by decide +kernel
theorem dX7_turn_5 : decode cX7_turn 5 = .ok (.aload_n 0, 1) := by decide +kernel
theorem dX7_turn_6 : decode cX7_turn 6 = .ok (.iconst 0, 1) := by decide +kernel
theorem dX7_turn_7 : decode cX7_turn 7 = .ok (.putfield 187, 3) := by decide +kernel
theorem dX7_turn_10 : decode cX7_turn 10 = .ok (.aload_n 0, 1) := by decide +kernel
theorem dX7_turn_11 : decode cX7_turn 11 = .ok (.getfield 303, 3) := by decide +kernel
theorem dX7_turn_14 : decode cX7_turn 14 = .ok (.ifCond .ne 9, 3) := by decide +kernel
theorem dX7_turn_17 : decode cX7_turn 17 = .ok (.aload_n 0, 1) := by decide +kernel
theorem dX7_turn_18 : decode cX7_turn 18 = .ok (.iconst 1, 1) := by decide +kernel
theorem dX7_turn_19 : decode cX7_turn 19 = .ok (.invokevirtual 327, 3) := by decide +kernel
theorem dX7_turn_22 : decode cX7_turn 22 = .ok (.ireturn, 1) := by decide +kernel
theorem dX7_turn_23 : decode cX7_turn 23 = .ok (.iconst 0, 1) := by decide +kernel
theorem dX7_turn_24 : decode cX7_turn 24 = .ok (.istore_n 2, 1) := by decide +kernel
theorem dX7_turn_25 : decode cX7_turn 25 = .ok (.iload_n 2, 1) := by decide +kernel
theorem dX7_turn_26 : decode cX7_turn 26 = .ok (.aload_n 0, 1) := by decide +kernel
theorem dX7_turn_27 : decode cX7_turn 27 = .ok (.getfield 216, 3) := by decide +kernel
theorem dX7_turn_30 : decode cX7_turn 30 = .ok (.if_icmp .ge 121, 3) := by decide +kernel
theorem dX7_turn_33 : decode cX7_turn 33 = .ok (.aload_n 0, 1) := by decide +kernel
theorem dX7_turn_34 : decode cX7_turn 34 = .ok (.iload_n 2, 1) := by decide +kernel
theorem dX7_turn_35 : decode cX7_turn 35 = .ok (.invokevirtual 210, 3) := by decide +kernel
theorem dX7_turn_38 : decode cX7_turn 38 = .ok (.istore_n 3, 1) := by decide +kernel
theorem dX7_turn_39 : decode cX7_turn 39 = .ok (.aload_n 0, 1) := by decide +kernel
theorem dX7_turn_40 : decode cX7_turn 40 = .ok (.iload_n 2, 1) := by decide +kernel
theorem dX7_turn_41 : decode cX7_turn 41 = .ok (.invokevirtual 206, 3) := by decide +kernel
theorem dX7_turn_44 : decode cX7_turn 44 = .ok (.istore 4, 2) := by decide +kernel
theorem dX7_turn_46 : decode cX7_turn 46 = .ok (.aload_n 0, 1) := by decide +kernel
theorem dX7_turn_47 : decode cX7_turn 47 = .ok (.getfield 26, 3) := by decide +kernel
theorem dX7_turn_50 : decode cX7_turn 50 = .ok (.iload_n 2, 1) := by decide +kernel
theorem dX7_turn_51 : decode cX7_turn 51 = .ok (.aload_n 0, 1) := by decide +kernel
theorem dX7_turn_52 : decode cX7_turn 52 = .ok (.getfield 26, 3) := by decide +kernel
theorem dX7_turn_55 : decode cX7_turn 55 = .ok (.iload_n 2, 1) := by decide +kernel
theorem dX7_turn_56 : decode cX7_turn 56 = .ok (.iaload, 1) := by decide +kernel
theorem dX7_turn_57 : decode cX7_turn 57 = .ok (.iload_n 3, 1) := by decide +kernel
theorem dX7_turn_58 : decode cX7_turn 58 = .ok (.iload 4, 2) := by decide +kernel
theorem dX7_turn_60 : decode cX7_turn 60 = .ok (.aload_n 0, 1) := by decide +kernel
theorem dX7_turn_61 : decode cX7_turn 61 = .ok (.getfield 190, 3) := by decide +kernel
theorem dX7_turn_64 : decode cX7_turn 64 = .ok (.aload_n 0, 1) := by decide +kernel
theorem dX7_turn_65 : decode cX7_turn 65 = .ok (.getfield 193, 3) := by decide +kernel
theorem dX7_turn_68 : decode cX7_turn 68 = .ok (.iload_n 1, 1) := by decide +kernel
theorem dX7_turn_69 : decode cX7_turn 69 = .ok (.invokestatic 422, 3) := by decide +kernel
theorem dX7_turn_72 : decode cX7_turn 72 = .ok (.iastore, 1) := by decide +kernel
theorem dX7_turn_73 : decode cX7_turn 73 = .ok (.aload_n 0, 1) := by decide +kernel
theorem dX7_turn_74 : decode cX7_turn 74 = .ok (.getfield 35, 3) := by decide +kernel
theorem dX7_turn_77 : decode cX7_turn 77 = .ok (.iload_n 2, 1) := by decide +kernel
theorem dX7_turn_78 : decode cX7_turn 78 = .ok (.aload_n 0, 1) := by decide +kernel
theorem dX7_turn_79 : decode cX7_turn 79 = .ok (.getfield 23, 3) := by decide +kernel
theorem dX7_turn_82 : decode cX7_turn 82 = .ok (.iload_n 2, 1) := by decide +kernel
theorem dX7_turn_83 : decode cX7_turn 83 = .ok (.iaload, 1) := by decide +kernel
theorem dX7_turn_84 : decode cX7_turn 84 = .ok (.iconst 5, 1) := by decide +kernel
theorem dX7_turn_85 : decode cX7_turn 85 = .ok (.if_icmp .ne 27, 3) := by decide +kernel
theorem dX7_turn_88 : decode cX7_turn 88 = .ok (.aload_n 0, 1) := by decide +kernel
theorem dX7_turn_89 : decode cX7_turn 89 = .ok (.getfield 35, 3) := by decide +kernel
theorem dX7_turn_92 : decode cX7_turn 92 = .ok (.iload_n 2, 1) := by decide +kernel
theorem dX7_turn_93 : decode cX7_turn 93 = .ok (.iaload, 1) := by decide +kernel
theorem dX7_turn_94 : decode cX7_turn 94 = .ok (.iload_n 3, 1) := by decide +kernel
theorem dX7_turn_95 : decode cX7_turn 95 = .ok (.iload 4, 2) := by decide +kernel
theorem dX7_turn_97 : decode cX7_turn 97 = .ok (.aload_n 0, 1) := by decide +kernel
theorem dX7_turn_98 : decode cX7_turn 98 = .ok (.getfield 190, 3) := by decide +kernel
theorem dX7_turn_101 : decode cX7_turn 101 = .ok (.aload_n 0, 1) := by decide +kernel
theorem dX7_turn_102 : decode cX7_turn 102 = .ok (.getfield 193, 3) := by decide +kernel
theorem dX7_turn_105 : decode cX7_turn 105 = .ok (.iload_n 1, 1) := by decide +kernel
theorem dX7_turn_106 : decode cX7_turn 106 = .ok (.invokestatic 422, 3) := by decide +kernel
theorem dX7_turn_109 : decode cX7_turn 109 = .ok (.goto 9, 3) := by decide +kernel
theorem dX7_turn_112 : decode cX7_turn 112 = .ok (.aload_n 0, 1) := by decide +kernel
theorem dX7_turn_113 : decode cX7_turn 113 = .ok (.getfield 26, 3) := by decide +kernel
theorem dX7_turn_116 : decode cX7_turn 116 = .ok (.iload_n 2, 1) := by decide +kernel
theorem dX7_turn_117 : decode cX7_turn 117 = .ok (.iaload, 1) := by decide +kernel
theorem dX7_turn_118 : decode cX7_turn 118 = .ok (.iastore, 1) := by decide +kernel
theorem dX7_turn_119 : decode cX7_turn 119 = .ok (.iload_n 1, 1) := by decide +kernel
theorem dX7_turn_120 : decode cX7_turn 120 = .ok (.ifCond .ne 25, 3) := by decide +kernel
theorem dX7_turn_123 : decode cX7_turn 123 = .ok (.aload_n 0, 1) := by decide +kernel
theorem dX7_turn_124 : decode cX7_turn 124 = .ok (.iload_n 2, 1) := by decide +kernel
theorem dX7_turn_125 : decode cX7_turn 125 = .ok (.invokevirtual 202, 3) := by decide +kernel
theorem dX7_turn_128 : decode cX7_turn 128 = .ok (.ifCond .eq 17, 3) := by decide +kernel
theorem dX7_turn_131 : decode cX7_turn 131 = .ok (.aload_n 0, 1) := by decide +kernel
theorem dX7_turn_132 : decode cX7_turn 132 = .ok (.getfield 32, 3) := by decide +kernel
theorem dX7_turn_135 : decode cX7_turn 135 = .ok (.iload_n 2, 1) := by decide +kernel
theorem dX7_turn_136 : decode cX7_turn 136 = .ok (.iconst 1, 1) := by decide +kernel
theorem dX7_turn_137 : decode cX7_turn 137 = .ok (.aload_n 0, 1) := by decide +kernel
theorem dX7_turn_138 : decode cX7_turn 138 = .ok (.getfield 32, 3) := by decide +kernel
theorem dX7_turn_141 : decode cX7_turn 141 = .ok (.iload_n 2, 1) := by decide +kernel
theorem dX7_turn_142 : decode cX7_turn 142 = .ok (.iaload, 1) := by decide +kernel
theorem dX7_turn_143 : decode cX7_turn 143 = .ok (.isub, 1) := by decide +kernel
theorem dX7_turn_144 : decode cX7_turn 144 = .ok (.iastore, 1) := by decide +kernel
theorem dX7_turn_145 : decode cX7_turn 145 = .ok (.iinc 2 1, 3) := by decide +kernel
theorem dX7_turn_148 : decode cX7_turn 148 = .ok (.goto (-123), 3) := by decide +kernel
theorem dX7_turn_151 : decode cX7_turn 151 = .ok (.iconst 0, 1) := by decide +kernel
theorem dX7_turn_152 : decode cX7_turn 152 = .ok (.istore_n 2, 1) := by decide +kernel
theorem dX7_turn_153 : decode cX7_turn 153 = .ok (.iload_n 2, 1) := by decide +kernel
theorem dX7_turn_154 : decode cX7_turn 154 = .ok (.bipush 64, 2) := by decide +kernel
theorem dX7_turn_156 : decode cX7_turn 156 = .ok (.if_icmp .ge 16, 3) := by decide +kernel
theorem dX7_turn_159 : decode cX7_turn 159 = .ok (.aload_n 0, 1) := by decide +kernel
theorem dX7_turn_160 : decode cX7_turn 160 = .ok (.getfield 163, 3) := by decide +kernel
theorem dX7_turn_163 : decode cX7_turn 163 = .ok (.iload_n 2, 1) := by decide +kernel
theorem dX7_turn_164 : decode cX7_turn 164 = .ok (.iconst 0, 1) := by decide +kernel
theorem dX7_turn_165 : decode cX7_turn 165 = .ok (.bastore, 1) := by decide +kernel
theorem dX7_turn_166 : decode cX7_turn 166 = .ok (.iinc 2 1, 3) := by decide +kernel
theorem dX7_turn_169 : decode cX7_turn 169 = .ok (.goto (-16), 3) := by decide +kernel
theorem dX7_turn_172 : decode cX7_turn 172 = .ok (.iconst 0, 1) := by decide +kernel
theorem dX7_turn_173 : decode cX7_turn 173 = .ok (.istore_n 2, 1) := by decide +kernel
theorem dX7_turn_174 : decode cX7_turn 174 = .ok (.iload_n 2, 1) := by decide +kernel
theorem dX7_turn_175 : decode cX7_turn 175 = .ok (.aload_n 0, 1) := by decide +kernel
theorem dX7_turn_176 : decode cX7_turn 176 = .ok (.getfield 193, 3) := by decide +kernel
theorem dX7_turn_179 : decode cX7_turn 179 = .ok (.if_icmp .ge 65, 3) := by decide +kernel
theorem dX7_turn_182 : decode cX7_turn 182 = .ok (.iconst 0, 1) := by decide +kernel
theorem dX7_turn_183 : decode cX7_turn 183 = .ok (.istore_n 3, 1) := by decide +kernel
theorem dX7_turn_184 : decode cX7_turn 184 = .ok (.iload_n 3, 1) := by decide +kernel
theorem dX7_turn_185 : decode cX7_turn 185 = .ok (.aload_n 0, 1) := by decide +kernel
theorem dX7_turn_186 : decode cX7_turn 186 = .ok (.getfield 190, 3) := by decide +kernel
theorem dX7_turn_189 : decode cX7_turn 189 = .ok (.if_icmp .ge 49, 3) := by decide +kernel
theorem dX7_turn_192 : decode cX7_turn 192 = .ok (.aload_n 0, 1) := by decide +kernel
theorem dX7_turn_193 : decode cX7_turn 193 = .ok (.getfield 19, 3) := by decide +kernel
theorem dX7_turn_196 : decode cX7_turn 196 = .ok (.iload_n 3, 1) := by decide +kernel
theorem dX7_turn_197 : decode cX7_turn 197 = .ok (.bipush 8, 2) := by decide +kernel
theorem dX7_turn_199 : decode cX7_turn 199 = .ok (.iload_n 2, 1) := by decide +kernel
theorem dX7_turn_200 : decode cX7_turn 200 = .ok (.imul, 1) := by decide +kernel
theorem dX7_turn_201 : decode cX7_turn 201 = .ok (.iadd, 1) := by decide +kernel
theorem dX7_turn_202 : decode cX7_turn 202 = .ok (.baload, 1) := by decide +kernel
theorem dX7_turn_203 : decode cX7_turn 203 = .ok (.ifCond .eq 29, 3) := by decide +kernel
theorem dX7_turn_206 : decode cX7_turn 206 = .ok (.aload_n 0, 1) := by decide +kernel
theorem dX7_turn_207 : decode cX7_turn 207 = .ok (.getfield 163, 3) := by decide +kernel
theorem dX7_turn_210 : decode cX7_turn 210 = .ok (.iload_n 3, 1) := by decide +kernel
theorem dX7_turn_211 : decode cX7_turn 211 = .ok (.bipush 8, 2) := by decide +kernel
theorem dX7_turn_213 : decode cX7_turn 213 = .ok (.iload_n 2, 1) := by decide +kernel
theorem dX7_turn_214 : decode cX7_turn 214 = .ok (.imul, 1) := by decide +kernel
theorem dX7_turn_215 : decode cX7_turn 215 = .ok (.iadd, 1) := by decide +kernel
theorem dX7_turn_216 : decode cX7_turn 216 = .ok (.iconst 1, 1) := by decide +kernel
theorem dX7_turn_217 : decode cX7_turn 217 = .ok (.iconst 1, 1) := by decide +kernel
theorem dX7_turn_218 : decode cX7_turn 218 = .ok (.aload_n 0, 1) := by decide +kernel
theorem dX7_turn_219 : decode cX7_turn 219 = .ok (.getfield 190, 3) := by decide +kernel
theorem dX7_turn_222 : decode cX7_turn 222 = .ok (.aload_n 0, 1) := by decide +kernel
theorem dX7_turn_223 : decode cX7_turn 223 = .ok (.getfield 193, 3) := by decide +kernel
theorem dX7_turn_226 : decode cX7_turn 226 = .ok (.iload_n 1, 1) := by decide +kernel
theorem dX7_turn_227 : decode cX7_turn 227 = .ok (.invokestatic 422, 3) := by decide +kernel
theorem dX7_turn_230 : decode cX7_turn 230 = .ok (.iconst 1, 1) := by decide +kernel
theorem dX7_turn_231 : decode cX7_turn 231 = .ok (.bastore, 1) := by decide +kernel
theorem dX7_turn_232 : decode cX7_turn 232 = .ok (.iinc 3 1, 3) := by decide +kernel
theorem dX7_turn_235 : decode cX7_turn 235 = .ok (.goto (-51), 3) := by decide +kernel
theorem dX7_turn_238 : decode cX7_turn 238 = .ok (.iinc 2 1, 3) := by decide +kernel
theorem dX7_turn_241 : decode cX7_turn 241 = .ok (.goto (-67), 3) := by decide +kernel
theorem dX7_turn_244 : decode cX7_turn 244 = .ok (.iconst 0, 1) := by decide +kernel
theorem dX7_turn_245 : decode cX7_turn 245 = .ok (.istore_n 2, 1) := by decide +kernel
theorem dX7_turn_246 : decode cX7_turn 246 = .ok (.iload_n 2, 1) := by decide +kernel
theorem dX7_turn_247 : decode cX7_turn 247 = .ok (.bipush 64, 2) := by decide +kernel
theorem dX7_turn_249 : decode cX7_turn 249 = .ok (.if_icmp .ge 21, 3) := by decide +kernel
theorem dX7_turn_252 : decode cX7_turn 252 = .ok (.aload_n 0, 1) := by decide +kernel
theorem dX7_turn_253 : decode cX7_turn 253 = .ok (.getfield 19, 3) := by decide +kernel
theorem dX7_turn_256 : decode cX7_turn 256 = .ok (.iload_n 2, 1) := by decide +kernel
theorem dX7_turn_257 : decode cX7_turn 257 = .ok (.aload_n 0, 1) := by decide +kernel
theorem dX7_turn_258 : decode cX7_turn 258 = .ok (.getfield 163, 3) := by decide +kernel
theorem dX7_turn_261 : decode cX7_turn 261 = .ok (.iload_n 2, 1) := by decide +kernel
theorem dX7_turn_262 : decode cX7_turn 262 = .ok (.baload, 1) := by decide +kernel
theorem dX7_turn_263 : decode cX7_turn 263 = .ok (.bastore, 1) := by decide +kernel
theorem dX7_turn_264 : decode cX7_turn 264 = .ok (.iinc 2 1, 3) := by decide +kernel
theorem dX7_turn_267 : decode cX7_turn 267 = .ok (.goto (-21), 3) := by decide +kernel
theorem dX7_turn_270 : decode cX7_turn 270 = .ok (.iload_n 1, 1) := by decide +kernel
theorem dX7_turn_271 : decode cX7_turn 271 = .ok (.ifCond .ne 45, 3) := by decide +kernel
theorem dX7_turn_274 : decode cX7_turn 274 = .ok (.aload_n 0, 1) := by decide +kernel
theorem dX7_turn_275 : decode cX7_turn 275 = .ok (.getfield 190, 3) := by decide +kernel
theorem dX7_turn_278 : decode cX7_turn 278 = .ok (.istore_n 2, 1) := by decide +kernel
theorem dX7_turn_279 : decode cX7_turn 279 = .ok (.aload_n 0, 1) := by decide +kernel
theorem dX7_turn_280 : decode cX7_turn 280 = .ok (.aload_n 0, 1) := by decide +kernel
theorem dX7_turn_281 : decode cX7_turn 281 = .ok (.getfield 193, 3) := by decide +kernel
theorem dX7_turn_284 : decode cX7_turn 284 = .ok (.putfield 190, 3) := by decide +kernel
theorem dX7_turn_287 : decode cX7_turn 287 = .ok (.aload_n 0, 1) := by decide +kernel
theorem dX7_turn_288 : decode cX7_turn 288 = .ok (.iload_n 2, 1) := by decide +kernel
theorem dX7_turn_289 : decode cX7_turn 289 = .ok (.putfield 193, 3) := by decide +kernel
theorem dX7_turn_292 : decode cX7_turn 292 = .ok (.aload_n 0, 1) := by decide +kernel
theorem dX7_turn_293 : decode cX7_turn 293 = .ok (.getfield 193, 3) := by decide +kernel
theorem dX7_turn_296 : decode cX7_turn 296 = .ok (.istore_n 3, 1) := by decide +kernel
theorem dX7_turn_297 : decode cX7_turn 297 = .ok (.iload_n 3, 1) := by decide +kernel
theorem dX7_turn_298 : decode cX7_turn 298 = .ok (.bipush 8, 2) := by decide +kernel
theorem dX7_turn_300 : decode cX7_turn 300 = .ok (.if_icmp .ge 16, 3) := by decide +kernel
theorem dX7_turn_303 : decode cX7_turn 303 = .ok (.aload_n 0, 1) := by decide +kernel
theorem dX7_turn_304 : decode cX7_turn 304 = .ok (.getfield 13, 3) := by decide +kernel
theorem dX7_turn_307 : decode cX7_turn 307 = .ok (.iload_n 3, 1) := by decide +kernel
theorem dX7_turn_308 : decode cX7_turn 308 = .ok (.iconst (-1), 1) := by decide +kernel
theorem dX7_turn_309 : decode cX7_turn 309 = .ok (.iastore, 1) := by decide +kernel
theorem dX7_turn_310 : decode cX7_turn 310 = .ok (.iinc 3 1, 3) := by decide +kernel
theorem dX7_turn_313 : decode cX7_turn 313 = .ok (.goto (-16), 3) := by decide +kernel
theorem dX7_turn_316 : decode cX7_turn 316 = .ok (.aload_n 0, 1) := by decide +kernel
theorem dX7_turn_317 : decode cX7_turn 317 = .ok (.invokevirtual 416, 3) := by decide +kernel
theorem dX7_turn_320 : decode cX7_turn 320 = .ok (.aload_n 0, 1) := by decide +kernel
theorem dX7_turn_321 : decode cX7_turn 321 = .ok (.invokevirtual 342, 3) := by decide +kernel
theorem dX7_turn_324 : decode cX7_turn 324 = .ok (.iconst 1, 1) := by decide +kernel
theorem dX7_turn_325 : decode cX7_turn 325 = .ok (.ireturn, 1) := by decide +kernel
set_option maxRecDepth 20000 in
theorem mc_X7_keep_X7_keep_r2 : mjIn wsX7_keep wsX7_keep_r2 := fun w h => (List.mem_cons_of_mem _ (List.mem_append_left _ (List.mem_append_right _ h)))
set_option maxRecDepth 20000 in
theorem mc_X7_keep_X7_keep_r1 : mjIn wsX7_keep wsX7_keep_r1 := fun w h => (List.mem_cons_of_mem _ (List.mem_append_left _ (List.mem_append_left _ h)))
set_option maxRecDepth 20000 in
theorem mc_X7_keep_X70 : mjIn wsX7_keep wsX70 := fun w h => (List.mem_cons_of_mem _ (List.mem_append_right _ h))
set_option maxRecDepth 20000 in
theorem ggX7_keep_X7_no : GoodIn wsX7_keep wsX7_no := mj_good (mj_cons (mc_X7_keep_X7_keep_r2 _ (List.mem_of_getElem? (i := 2) rfl)) (mj_app (mj_cons (mc_X7_keep_X7_keep_r1 _ (List.mem_of_getElem? (i := 1) rfl)) mj_nil) mc_X7_keep_X70)) (by decide +kernel)
set_option maxRecDepth 20000 in
theorem gX7_keep_X7_no : GoodIn wsX7_keep (wsV RX7 327 RX7 yX7_no wsX7_no) := goodIn_app (mj_good (mj_cons (mc_X7_keep_X7_keep_r1 _ (List.mem_of_getElem? (i := 22) rfl)) (mj_cons (mc_X7_keep_X7_keep_r1 _ (List.mem_of_getElem? (i := 23) rfl)) (mj_cons (mc_X7_keep_X7_keep_r2 _ (List.mem_of_getElem? (i := 0) rfl)) (mj_cons (mc_X7_keep_X7_keep_r2 _ (List.mem_of_getElem? (i := 1) rfl)) mj_nil)))) (by decide +kernel)) ggX7_keep_X7_no
theorem dX7_keep_0 : decode cX7_keep 0 = .ok (.aload_n 0, 1) := by decide +kernel
theorem dX7_keep_1 : decode cX7_keep 1 = .ok (.iconst 0, 1) := by decide +kernel
theorem dX7_keep_2 : decode cX7_keep 2 = .ok (.putfield 184, 3) := by decide +kernel
theorem dX7_keep_5 : decode cX7_keep 5 = .ok (.aload_n 0, 1) := by decide +kernel
theorem dX7_keep_6 : decode cX7_keep 6 = .ok (.iconst 0, 1) := by decide +kernel
theorem dX7_keep_7 : decode cX7_keep 7 = .ok (.putfield 187, 3) := by decide +kernel
theorem dX7_keep_10 : decode cX7_keep 10 = .ok (.aload_n 0, 1) := by decide +kernel
theorem dX7_keep_11 : decode cX7_keep 11 = .ok (.getfield 303, 3) := by decide +kernel
theorem dX7_keep_14 : decode cX7_keep 14 = .ok (.ifCond .ne 9, 3) := by decide +kernel
theorem dX7_keep_17 : decode cX7_keep 17 = .ok (.aload_n 0, 1) := by decide +kernel
theorem dX7_keep_18 : decode cX7_keep 18 = .ok (.iconst 1, 1) := by decide +kernel
theorem dX7_keep_19 : decode cX7_keep 19 = .ok (.invokevirtual 327, 3) := by decide +kernel
theorem dX7_keep_22 : decode cX7_keep 22 = .ok (.ireturn, 1) := by decide +kernel
theorem dX7_keep_23 : decode cX7_keep 23 = .ok (.iload_n 1, 1) := by decide +kernel
theorem dX7_keep_24 : decode cX7_keep 24 = .ok (.ifCond .lt 8, 3) := by decide +kernel
theorem dX7_keep_27 : decode cX7_keep 27 = .ok (.iload_n 1, 1) := by decide +kernel
theorem dX7_keep_28 : decode cX7_keep 28 = .ok (.iconst 3, 1) := by decide +kernel
theorem dX7_keep_29 : decode cX7_keep 29 = .ok (.if_icmp .le 9, 3) := by decide +kernel
theorem dX7_keep_32 : decode cX7_keep 32 = .ok (.aload_n 0, 1) := by decide +kernel
theorem dX7_keep_33 : decode cX7_keep 33 = .ok (.iconst 2, 1) := by decide +kernel
theorem dX7_keep_34 : decode cX7_keep 34 = .ok (.invokevirtual 327, 3) := by decide +kernel
theorem dX7_keep_37 : decode cX7_keep 37 = .ok (.ireturn, 1) := by decide +kernel
theorem dX7_keep_38 : decode cX7_keep 38 = .ok (.aload_n 0, 1) := by decide +kernel
theorem dX7_keep_39 : decode cX7_keep 39 = .ok (.getfield 124, 3) := by decide +kernel
theorem dX7_keep_42 : decode cX7_keep 42 = .ok (.iload_n 1, 1) := by decide +kernel
theorem dX7_keep_43 : decode cX7_keep 43 = .ok (.iconst 1, 1) := by decide +kernel
theorem dX7_keep_44 : decode cX7_keep 44 = .ok (.bastore, 1) := by decide +kernel
theorem dX7_keep_45 : decode cX7_keep 45 = .ok (.aload_n 0, 1) := by decide +kernel
theorem dX7_keep_46 : decode cX7_keep 46 = .ok (.getfield 127, 3) := by decide +kernel
theorem dX7_keep_49 : decode cX7_keep 49 = .ok (.iload_n 1, 1) := by decide +kernel
theorem dX7_keep_50 : decode cX7_keep 50 = .ok (.aload_n 0, 1) := by decide +kernel
theorem dX7_keep_51 : decode cX7_keep 51 = .ok (.getfield 190, 3) := by decide +kernel
theorem dX7_keep_54 : decode cX7_keep 54 = .ok (.iastore, 1) := by decide +kernel
theorem dX7_keep_55 : decode cX7_keep 55 = .ok (.aload_n 0, 1) := by decide +kernel
theorem dX7_keep_56 : decode cX7_keep 56 = .ok (.getfield 130, 3) := by decide +kernel
theorem dX7_keep_59 : decode cX7_keep 59 = .ok (.iload_n 1, 1) := by decide +kernel
theorem dX7_keep_60 : decode cX7_keep 60 = .ok (.aload_n 0, 1) := by decide +kernel
theorem dX7_keep_61 : decode cX7_keep 61 = .ok (.getfield 193, 3) := by decide +kernel
theorem dX7_keep_64 : decode cX7_keep 64 = .ok (.iastore, 1) := by decide +kernel
theorem dX7_keep_65 : decode cX7_keep 65 = .ok (.aload_n 0, 1) := by decide +kernel
theorem dX7_keep_66 : decode cX7_keep 66 = .ok (.getfield 133, 3) := by decide +kernel
theorem dX7_keep_69 : decode cX7_keep 69 = .ok (.iload_n 1, 1) := by decide +kernel
theorem dX7_keep_70 : decode cX7_keep 70 = .ok (.aload_n 0, 1) := by decide +kernel
theorem dX7_keep_71 : decode cX7_keep 71 = .ok (.getfield 216, 3) := by decide +kernel
theorem dX7_keep_74 : decode cX7_keep 74 = .ok (.iastore, 1) := by decide +kernel
theorem dX7_keep_75 : decode cX7_keep 75 = .ok (.iconst 0, 1) := by decide +kernel
theorem dX7_keep_76 : decode cX7_keep 76 = .ok (.istore_n 2, 1) := by decide +kernel
theorem dX7_keep_77 : decode cX7_keep 77 = .ok (.iload_n 2, 1) := by decide +kernel
theorem dX7_keep_78 : decode cX7_keep 78 = .ok (.bipush 64, 2) := by decide +kernel
theorem dX7_keep_80 : decode cX7_keep 80 = .ok (.if_icmp .ge 26, 3) := by decide +kernel
theorem dX7_keep_83 : decode cX7_keep 83 = .ok (.aload_n 0, 1) := by decide +kernel
theorem dX7_keep_84 : decode cX7_keep 84 = .ok (.getfield 136, 3) := by decide +kernel
theorem dX7_keep_87 : decode cX7_keep 87 = .ok (.bipush 64, 2) := by decide +kernel
theorem dX7_keep_89 : decode cX7_keep 89 = .ok (.iload_n 1, 1) := by decide +kernel
theorem dX7_keep_90 : decode cX7_keep 90 = .ok (.imul, 1) := by decide +kernel
theorem dX7_keep_91 : decode cX7_keep 91 = .ok (.iload_n 2, 1) := by decide +kernel
theorem dX7_keep_92 : decode cX7_keep 92 = .ok (.iadd, 1) := by decide +kernel
theorem dX7_keep_93 : decode cX7_keep 93 = .ok (.aload_n 0, 1) := by decide +kernel
theorem dX7_keep_94 : decode cX7_keep 94 = .ok (.getfield 19, 3) := by decide +kernel
theorem dX7_keep_97 : decode cX7_keep 97 = .ok (.iload_n 2, 1) := by decide +kernel
theorem dX7_keep_98 : decode cX7_keep 98 = .ok (.baload, 1) := by decide +kernel
theorem dX7_keep_99 : decode cX7_keep 99 = .ok (.bastore, 1) := by decide +kernel
theorem dX7_keep_100 : decode cX7_keep 100 = .ok (.iinc 2 1, 3) := by decide +kernel
theorem dX7_keep_103 : decode cX7_keep 103 = .ok (.goto (-26), 3) := by decide +kernel
theorem dX7_keep_106 : decode cX7_keep 106 = .ok (.iconst 0, 1) := by decide +kernel
theorem dX7_keep_107 : decode cX7_keep 107 = .ok (.istore_n 2, 1) := by decide +kernel
theorem dX7_keep_108 : decode cX7_keep 108 = .ok (.iload_n 2, 1) := by decide +kernel
theorem dX7_keep_109 : decode cX7_keep 109 = .ok (.aload_n 0, 1) := by decide +kernel
theorem dX7_keep_110 : decode cX7_keep 110 = .ok (.getfield 216, 3) := by decide +kernel
theorem dX7_keep_113 : decode cX7_keep 113 = .ok (.if_icmp .ge 76, 3) := by decide +kernel
theorem dX7_keep_116 : decode cX7_keep 116 = .ok (.bipush 12, 2) := by decide +kernel
theorem dX7_keep_118 : decode cX7_keep 118 = .ok (.iload_n 1, 1) := by decide +kernel
theorem dX7_keep_119 : decode cX7_keep 119 = .ok (.imul, 1) := by decide +kernel
theorem dX7_keep_120 : decode cX7_keep 120 = .ok (.iload_n 2, 1) := by decide +kernel
theorem dX7_keep_121 : decode cX7_keep 121 = .ok (.iadd, 1) := by decide +kernel
theorem dX7_keep_122 : decode cX7_keep 122 = .ok (.istore_n 3, 1) := by decide +kernel
theorem dX7_keep_123 : decode cX7_keep 123 = .ok (.aload_n 0, 1) := by decide +kernel
theorem dX7_keep_124 : decode cX7_keep 124 = .ok (.getfield 139, 3) := by decide +kernel
theorem dX7_keep_127 : decode cX7_keep 127 = .ok (.iload_n 3, 1) := by decide +kernel
theorem dX7_keep_128 : decode cX7_keep 128 = .ok (.aload_n 0, 1) := by decide +kernel
theorem dX7_keep_129 : decode cX7_keep 129 = .ok (.getfield 23, 3) := by decide +kernel
theorem dX7_keep_132 : decode cX7_keep 132 = .ok (.iload_n 2, 1) := by decide +kernel
theorem dX7_keep_133 : decode cX7_keep 133 = .ok (.iaload, 1) := by decide +kernel
theorem dX7_keep_134 : decode cX7_keep 134 = .ok (.iastore, 1) := by decide +kernel
theorem dX7_keep_135 : decode cX7_keep 135 = .ok (.aload_n 0, 1) := by decide +kernel
theorem dX7_keep_136 : decode cX7_keep 136 = .ok (.getfield 142, 3) := by decide +kernel
theorem dX7_keep_139 : decode cX7_keep 139 = .ok (.iload_n 3, 1) := by decide +kernel
theorem dX7_keep_140 : decode cX7_keep 140 = .ok (.aload_n 0, 1) := by decide +kernel
theorem dX7_keep_141 : decode cX7_keep 141 = .ok (.getfield 26, 3) := by decide +kernel
theorem dX7_keep_144 : decode cX7_keep 144 = .ok (.iload_n 2, 1) := by decide +kernel
theorem dX7_keep_145 : decode cX7_keep 145 = .ok (.iaload, 1) := by decide +kernel
theorem dX7_keep_146 : decode cX7_keep 146 = .ok (.iastore, 1) := by decide +kernel
theorem dX7_keep_147 : decode cX7_keep 147 = .ok (.aload_n 0, 1) := by decide +kernel
theorem dX7_keep_148 : decode cX7_keep 148 = .ok (.getfield 145, 3) := by decide +kernel
theorem dX7_keep_151 : decode cX7_keep 151 = .ok (.iload_n 3, 1) := by decide +kernel
theorem dX7_keep_152 : decode cX7_keep 152 = .ok (.aload_n 0, 1) := by decide +kernel
theorem dX7_keep_153 : decode cX7_keep 153 = .ok (.getfield 29, 3) := by decide +kernel
theorem dX7_keep_156 : decode cX7_keep 156 = .ok (.iload_n 2, 1) := by decide +kernel
theorem dX7_keep_157 : decode cX7_keep 157 = .ok (.iaload, 1) := by decide +kernel
theorem dX7_keep_158 : decode cX7_keep 158 = .ok (.iastore, 1) := by decide +kernel
theorem dX7_keep_159 : decode cX7_keep 159 = .ok (.aload_n 0, 1) := by decide +kernel
theorem dX7_keep_160 : decode cX7_keep 160 = .ok (.getfield 148, 3) := by decide +kernel
theorem dX7_keep_163 : decode cX7_keep 163 = .ok (.iload_n 3, 1) := by decide +kernel
theorem dX7_keep_164 : decode cX7_keep 164 = .ok (.aload_n 0, 1) := by decide +kernel
theorem dX7_keep_165 : decode cX7_keep 165 = .ok (.getfield 32, 3) := by decide +kernel
theorem dX7_keep_168 : decode cX7_keep 168 = .ok (.iload_n 2, 1) := by decide +kernel
theorem dX7_keep_169 : decode cX7_keep 169 = .ok (.iaload, 1) := by decide +kernel
theorem dX7_keep_170 : decode cX7_keep 170 = .ok (.iastore, 1) := by decide +kernel
theorem dX7_keep_171 : decode cX7_keep 171 = .ok (.aload_n 0, 1) := by decide +kernel
theorem dX7_keep_172 : decode cX7_keep 172 = .ok (.getfield 151, 3) := by decide +kernel
theorem dX7_keep_175 : decode cX7_keep 175 = .ok (.iload_n 3, 1) := by decide +kernel
theorem dX7_keep_176 : decode cX7_keep 176 = .ok (.aload_n 0, 1) := by decide +kernel
theorem dX7_keep_177 : decode cX7_keep 177 = .ok (.getfield 35, 3) := by decide +kernel
theorem dX7_keep_180 : decode cX7_keep 180 = .ok (.iload_n 2, 1) := by decide +kernel
theorem dX7_keep_181 : decode cX7_keep 181 = .ok (.iaload, 1) := by decide +kernel
theorem dX7_keep_182 : decode cX7_keep 182 = .ok (.iastore, 1) := by decide +kernel
theorem dX7_keep_183 : decode cX7_keep 183 = .ok (.iinc 2 1, 3) := by decide +kernel
theorem dX7_keep_186 : decode cX7_keep 186 = .ok (.goto (-78), 3) := by decide +kernel
theorem dX7_keep_189 : decode cX7_keep 189 = .ok (.iconst 1, 1) := by decide +kernel
theorem dX7_keep_190 : decode cX7_keep 190 = .ok (.ireturn, 1) := by decide +kernel
set_option maxRecDepth 20000 in
theorem mc_X7_asItIs_X7_asItIs_r1 : mjIn wsX7_asItIs wsX7_asItIs_r1 := fun w h => (List.mem_cons_of_mem _ (List.mem_append_left _ (List.mem_append_left _ h)))
set_option maxRecDepth 20000 in
theorem mc_X7_asItIs_X7_asItIs_r2 : mjIn wsX7_asItIs wsX7_asItIs_r2 := fun w h => (List.mem_cons_of_mem _ (List.mem_append_left _ (List.mem_append_right _ h)))
set_option maxRecDepth 20000 in
theorem mc_X7_asItIs_X70 : mjIn wsX7_asItIs wsX70 := fun w h => (List.mem_cons_of_mem _ (List.mem_append_right _ h))
set_option maxRecDepth 20000 in
theorem ggX7_asItIs_X7_wide : GoodIn wsX7_asItIs wsX7_wide := mj_good (mj_cons (mc_X7_asItIs_X7_asItIs_r1 _ (List.mem_of_getElem? (i := 19) rfl)) (mj_app (mj_cons (mc_X7_asItIs_X7_asItIs_r1 _ (List.mem_of_getElem? (i := 20) rfl)) (mj_cons (mc_X7_asItIs_X7_asItIs_r1 _ (List.mem_of_getElem? (i := 12) rfl)) (mj_cons (mc_X7_asItIs_X7_asItIs_r1 _ (List.mem_of_getElem? (i := 21) rfl)) (mj_cons (mc_X7_asItIs_X7_asItIs_r1 _ (List.mem_of_getElem? (i := 22) rfl)) (mj_cons (mc_X7_asItIs_X7_asItIs_r1 _ (List.mem_of_getElem? (i := 23) rfl)) (mj_cons (mc_X7_asItIs_X7_asItIs_r2 _ (List.mem_of_getElem? (i := 0) rfl)) (mj_cons (mc_X7_asItIs_X7_asItIs_r1 _ (List.mem_of_getElem? (i := 18) rfl)) (mj_cons (mc_X7_asItIs_X7_asItIs_r2 _ (List.mem_of_getElem? (i := 1) rfl)) mj_nil)))))))) mc_X7_asItIs_X70)) (by decide +kernel)
set_option maxRecDepth 20000 in
theorem gX7_asItIs_X7_wide : GoodIn wsX7_asItIs (wsV RX7 210 RX7 yX7_wide wsX7_wide) := goodIn_app (mj_good (mj_cons (mc_X7_asItIs_X7_asItIs_r1 _ (List.mem_of_getElem? (i := 15) rfl)) (mj_cons (mc_X7_asItIs_X7_asItIs_r1 _ (List.mem_of_getElem? (i := 16) rfl)) (mj_cons (mc_X7_asItIs_X7_asItIs_r1 _ (List.mem_of_getElem? (i := 17) rfl)) (mj_cons (mc_X7_asItIs_X7_asItIs_r1 _ (List.mem_of_getElem? (i := 18) rfl)) mj_nil)))) (by decide +kernel)) ggX7_asItIs_X7_wide
set_option maxRecDepth 20000 in
theorem ggX7_asItIs_X7_tall : GoodIn wsX7_asItIs wsX7_tall := mj_good (mj_cons (mc_X7_asItIs_X7_asItIs_r2 _ (List.mem_of_getElem? (i := 5) rfl)) (mj_app (mj_cons (mc_X7_asItIs_X7_asItIs_r1 _ (List.mem_of_getElem? (i := 20) rfl)) (mj_cons (mc_X7_asItIs_X7_asItIs_r1 _ (List.mem_of_getElem? (i := 12) rfl)) (mj_cons (mc_X7_asItIs_X7_asItIs_r1 _ (List.mem_of_getElem? (i := 21) rfl)) (mj_cons (mc_X7_asItIs_X7_asItIs_r1 _ (List.mem_of_getElem? (i := 22) rfl)) (mj_cons (mc_X7_asItIs_X7_asItIs_r1 _ (List.mem_of_getElem? (i := 23) rfl)) (mj_cons (mc_X7_asItIs_X7_asItIs_r2 _ (List.mem_of_getElem? (i := 0) rfl)) (mj_cons (mc_X7_asItIs_X7_asItIs_r1 _ (List.mem_of_getElem? (i := 18) rfl)) (mj_cons (mc_X7_asItIs_X7_asItIs_r2 _ (List.mem_of_getElem? (i := 1) rfl)) mj_nil)))))))) mc_X7_asItIs_X70)) (by decide +kernel)
set_option maxRecDepth 20000 in
theorem gX7_asItIs_X7_tall : GoodIn wsX7_asItIs (wsV RX7 206 RX7 yX7_tall wsX7_tall) := goodIn_app (mj_good (mj_cons (mc_X7_asItIs_X7_asItIs_r2 _ (List.mem_of_getElem? (i := 2) rfl)) (mj_cons (mc_X7_asItIs_X7_asItIs_r2 _ (List.mem_of_getElem? (i := 3) rfl)) (mj_cons (mc_X7_asItIs_X7_asItIs_r2 _ (List.mem_of_getElem? (i := 4) rfl)) (mj_cons (mc_X7_asItIs_X7_asItIs_r1 _ (List.mem_of_getElem? (i := 18) rfl)) mj_nil)))) (by decide +kernel)) ggX7_asItIs_X7_tall
theorem dX7_asItIs_0 : decode cX7_asItIs 0 = .ok (.aload_n 0, 1) := by decide +kernel
theorem dX7_asItIs_1 : decode cX7_asItIs 1 = .ok (.aload_n 0, 1) := by decide +kernel
theorem dX7_asItIs_2 : decode cX7_asItIs 2 = .ok (.getfield 190, 3) := by decide +kernel
theorem dX7_asItIs_5 : decode cX7_asItIs 5 = .ok (.putfield 426, 3) := by decide +kernel
theorem dX7_asItIs_8 : decode cX7_asItIs 8 = .ok (.aload_n 0, 1) := by decide +kernel
theorem dX7_asItIs_9 : decode cX7_asItIs 9 = .ok (.aload_n 0, 1) := by decide +kernel
theorem dX7_asItIs_10 : decode cX7_asItIs 10 = .ok (.getfield 193, 3) := by decide +kernel
theorem dX7_asItIs_13 : decode cX7_asItIs 13 = .ok (.putfield 429, 3) := by decide +kernel
theorem dX7_asItIs_16 : decode cX7_asItIs 16 = .ok (.iconst 0, 1) := by decide +kernel
theorem dX7_asItIs_17 : decode cX7_asItIs 17 = .ok (.istore_n 1, 1) := by decide +kernel
theorem dX7_asItIs_18 : decode cX7_asItIs 18 = .ok (.iload_n 1, 1) := by decide +kernel
theorem dX7_asItIs_19 : decode cX7_asItIs 19 = .ok (.bipush 64, 2) := by decide +kernel
theorem dX7_asItIs_21 : decode cX7_asItIs 21 = .ok (.if_icmp .ge 21, 3) := by decide +kernel
theorem dX7_asItIs_24 : decode cX7_asItIs 24 = .ok (.aload_n 0, 1) := by decide +kernel
theorem dX7_asItIs_25 : decode cX7_asItIs 25 = .ok (.getfield 181, 3) := by decide +kernel
theorem dX7_asItIs_28 : decode cX7_asItIs 28 = .ok (.iload_n 1, 1) := by decide +kernel
theorem dX7_asItIs_29 : decode cX7_asItIs 29 = .ok (.aload_n 0, 1) := by decide +kernel
theorem dX7_asItIs_30 : decode cX7_asItIs 30 = .ok (.getfield 19, 3) := by decide +kernel
theorem dX7_asItIs_33 : decode cX7_asItIs 33 = .ok (.iload_n 1, 1) := by decide +kernel
theorem dX7_asItIs_34 : decode cX7_asItIs 34 = .ok (.baload, 1) := by decide +kernel
theorem dX7_asItIs_35 : decode cX7_asItIs 35 = .ok (.bastore, 1) := by decide +kernel
theorem dX7_asItIs_36 : decode cX7_asItIs 36 = .ok (.iinc 1 1, 3) := by decide +kernel
theorem dX7_asItIs_39 : decode cX7_asItIs 39 = .ok (.goto (-21), 3) := by decide +kernel
theorem dX7_asItIs_42 : decode cX7_asItIs 42 = .ok (.iconst 0, 1) := by decide +kernel
theorem dX7_asItIs_43 : decode cX7_asItIs 43 = .ok (.istore_n 1, 1) := by decide +kernel
theorem dX7_asItIs_44 : decode cX7_asItIs 44 = .ok (.iload_n 1, 1) := by decide +kernel
theorem dX7_asItIs_45 : decode cX7_asItIs 45 = .ok (.aload_n 0, 1) := by decide +kernel
theorem dX7_asItIs_46 : decode cX7_asItIs 46 = .ok (.getfield 216, 3) := by decide +kernel
theorem dX7_asItIs_49 : decode cX7_asItIs 49 = .ok (.if_icmp .ge 67, 3) := by decide +kernel
theorem dX7_asItIs_52 : decode cX7_asItIs 52 = .ok (.aload_n 0, 1) := by decide +kernel
theorem dX7_asItIs_53 : decode cX7_asItIs 53 = .ok (.getfield 166, 3) := by decide +kernel
theorem dX7_asItIs_56 : decode cX7_asItIs 56 = .ok (.iload_n 1, 1) := by decide +kernel
theorem dX7_asItIs_57 : decode cX7_asItIs 57 = .ok (.aload_n 0, 1) := by decide +kernel
theorem dX7_asItIs_58 : decode cX7_asItIs 58 = .ok (.getfield 26, 3) := by decide +kernel
theorem dX7_asItIs_61 : decode cX7_asItIs 61 = .ok (.iload_n 1, 1) := by decide +kernel
theorem dX7_asItIs_62 : decode cX7_asItIs 62 = .ok (.iaload, 1) := by decide +kernel
theorem dX7_asItIs_63 : decode cX7_asItIs 63 = .ok (.iastore, 1) := by decide +kernel
theorem dX7_asItIs_64 : decode cX7_asItIs 64 = .ok (.aload_n 0, 1) := by decide +kernel
theorem dX7_asItIs_65 : decode cX7_asItIs 65 = .ok (.getfield 169, 3) := by decide +kernel
theorem dX7_asItIs_68 : decode cX7_asItIs 68 = .ok (.iload_n 1, 1) := by decide +kernel
theorem dX7_asItIs_69 : decode cX7_asItIs 69 = .ok (.aload_n 0, 1) := by decide +kernel
theorem dX7_asItIs_70 : decode cX7_asItIs 70 = .ok (.getfield 35, 3) := by decide +kernel
theorem dX7_asItIs_73 : decode cX7_asItIs 73 = .ok (.iload_n 1, 1) := by decide +kernel
theorem dX7_asItIs_74 : decode cX7_asItIs 74 = .ok (.iaload, 1) := by decide +kernel
theorem dX7_asItIs_75 : decode cX7_asItIs 75 = .ok (.iastore, 1) := by decide +kernel
theorem dX7_asItIs_76 : decode cX7_asItIs 76 = .ok (.aload_n 0, 1) := by decide +kernel
theorem dX7_asItIs_77 : decode cX7_asItIs 77 = .ok (.getfield 172, 3) := by decide +kernel
theorem dX7_asItIs_80 : decode cX7_asItIs 80 = .ok (.iload_n 1, 1) := by decide +kernel
theorem dX7_asItIs_81 : decode cX7_asItIs 81 = .ok (.aload_n 0, 1) := by decide +kernel
theorem dX7_asItIs_82 : decode cX7_asItIs 82 = .ok (.getfield 32, 3) := by decide +kernel
theorem dX7_asItIs_85 : decode cX7_asItIs 85 = .ok (.iload_n 1, 1) := by decide +kernel
theorem dX7_asItIs_86 : decode cX7_asItIs 86 = .ok (.iaload, 1) := by decide +kernel
theorem dX7_asItIs_87 : decode cX7_asItIs 87 = .ok (.iastore, 1) := by decide +kernel
theorem dX7_asItIs_88 : decode cX7_asItIs 88 = .ok (.aload_n 0, 1) := by decide +kernel
theorem dX7_asItIs_89 : decode cX7_asItIs 89 = .ok (.getfield 175, 3) := by decide +kernel
theorem dX7_asItIs_92 : decode cX7_asItIs 92 = .ok (.iload_n 1, 1) := by decide +kernel
theorem dX7_asItIs_93 : decode cX7_asItIs 93 = .ok (.aload_n 0, 1) := by decide +kernel
theorem dX7_asItIs_94 : decode cX7_asItIs 94 = .ok (.iload_n 1, 1) := by decide +kernel
theorem dX7_asItIs_95 : decode cX7_asItIs 95 = .ok (.invokevirtual 210, 3) := by decide +kernel
theorem dX7_asItIs_98 : decode cX7_asItIs 98 = .ok (.iastore, 1) := by decide +kernel
theorem dX7_asItIs_99 : decode cX7_asItIs 99 = .ok (.aload_n 0, 1) := by decide +kernel
theorem dX7_asItIs_100 : decode cX7_asItIs 100 = .ok (.getfield 178, 3) := by decide +kernel
theorem dX7_asItIs_103 : decode cX7_asItIs 103 = .ok (.iload_n 1, 1) := by decide +kernel
theorem dX7_asItIs_104 : decode cX7_asItIs 104 = .ok (.aload_n 0, 1) := by decide +kernel
theorem dX7_asItIs_105 : decode cX7_asItIs 105 = .ok (.iload_n 1, 1) := by decide +kernel
theorem dX7_asItIs_106 : decode cX7_asItIs 106 = .ok (.invokevirtual 206, 3) := by decide +kernel
theorem dX7_asItIs_109 : decode cX7_asItIs 109 = .ok (.iastore, 1) := by decide +kernel
theorem dX7_asItIs_110 : decode cX7_asItIs 110 = .ok (.iinc 1 1, 3) := by decide +kernel
theorem dX7_asItIs_113 : decode cX7_asItIs 113 = .ok (.goto (-69), 3) := by decide +kernel
theorem dX7_asItIs_116 : decode cX7_asItIs 116 = .ok (.return_, 1) := by decide +kernel
set_option maxRecDepth 20000 in
theorem ggX7_asTurned_X7_turned : GoodIn wsX7_asTurned wsX7_turned := mj_good (mj_cons (List.mem_of_getElem? (i := 14) rfl) mj_nil) (by decide +kernel)
set_option maxRecDepth 20000 in
theorem gX7_asTurned_X7_turned : GoodIn wsX7_asTurned (va_wsS RX7 422 yX7_turned wsX7_turned) := goodIn_app (mj_good (mj_cons (List.mem_of_getElem? (i := 11) rfl) (mj_cons (List.mem_of_getElem? (i := 12) rfl) (mj_cons (List.mem_of_getElem? (i := 13) rfl) mj_nil))) (by decide +kernel)) ggX7_asTurned_X7_turned
set_option maxRecDepth 20000 in
theorem mc_X7_asTurned_X70 : mjIn wsX7_asTurned wsX70 := fun w h => (List.mem_cons_of_mem _ (List.mem_append_right _ h))
set_option maxRecDepth 20000 in
theorem ggX7_asTurned_X7_isLong : GoodIn wsX7_asTurned wsX7_isLong := mj_good (mj_cons (List.mem_of_getElem? (i := 18) rfl) (mj_app (mj_cons (List.mem_of_getElem? (i := 19) rfl) mj_nil) mc_X7_asTurned_X70)) (by decide +kernel)
set_option maxRecDepth 20000 in
theorem gX7_asTurned_X7_isLong : GoodIn wsX7_asTurned (wsV RX7 202 RX7 yX7_isLong wsX7_isLong) := goodIn_app (mj_good (mj_cons (List.mem_of_getElem? (i := 15) rfl) (mj_cons (List.mem_of_getElem? (i := 16) rfl) (mj_cons (List.mem_of_getElem? (i := 17) rfl) (mj_cons (List.mem_of_getElem? (i := 13) rfl) mj_nil)))) (by decide +kernel)) ggX7_asTurned_X7_isLong
theorem dX7_asTurned_0 : decode cX7_asTurned 0 = .ok (.iconst 0, 1) := by decide +kernel
theorem dX7_asTurned_1 : decode cX7_asTurned 1 = .ok (.istore_n 2, 1) := by decide +kernel
theorem dX7_asTurned_2 : decode cX7_asTurned 2 = .ok (.iload_n 2, 1) := by decide +kernel
theorem dX7_asTurned_3 : decode cX7_asTurned 3 = .ok (.bipush 64, 2) := by decide +kernel
theorem dX7_asTurned_5 : decode cX7_asTurned 5 = .ok (.if_icmp .ge 16, 3) := by decide +kernel
theorem dX7_asTurned_8 : decode cX7_asTurned 8 = .ok (.aload_n 0, 1) := by decide +kernel
theorem dX7_asTurned_9 : decode cX7_asTurned 9 = .ok (.getfield 163, 3) := by decide +kernel
theorem dX7_asTurned_12 : decode cX7_asTurned 12 = .ok (.iload_n 2, 1) := by decide +kernel
theorem dX7_asTurned_13 : decode cX7_asTurned 13 = .ok (.iconst 0, 1) := by decide +kernel
theorem dX7_asTurned_14 : decode cX7_asTurned 14 = .ok (.bastore, 1) := by decide +kernel
theorem dX7_asTurned_15 : decode cX7_asTurned 15 = .ok (.iinc 2 1, 3) := by decide +kernel
theorem dX7_asTurned_18 : decode cX7_asTurned 18 = .ok (.goto (-16), 3) := by decide +kernel
theorem dX7_asTurned_21 : decode cX7_asTurned 21 = .ok (.iconst 0, 1) := by decide +kernel
theorem dX7_asTurned_22 : decode cX7_asTurned 22 = .ok (.istore_n 2, 1) := by decide +kernel
theorem dX7_asTurned_23 : decode cX7_asTurned 23 = .ok (.iload_n 2, 1) := by decide +kernel
theorem dX7_asTurned_24 : decode cX7_asTurned 24 = .ok (.aload_n 0, 1) := by decide +kernel
theorem dX7_asTurned_25 : decode cX7_asTurned 25 = .ok (.getfield 429, 3) := by decide +kernel
theorem dX7_asTurned_28 : decode cX7_asTurned 28 = .ok (.if_icmp .ge 65, 3) := by decide +kernel
theorem dX7_asTurned_31 : decode cX7_asTurned 31 = .ok (.iconst 0, 1) := by decide +kernel
theorem dX7_asTurned_32 : decode cX7_asTurned 32 = .ok (.istore_n 3, 1) := by decide +kernel
theorem dX7_asTurned_33 : decode cX7_asTurned 33 = .ok (.iload_n 3, 1) := by decide +kernel
theorem dX7_asTurned_34 : decode cX7_asTurned 34 = .ok (.aload_n 0, 1) := by decide +kernel
theorem dX7_asTurned_35 : decode cX7_asTurned 35 = .ok (.getfield 426, 3) := by decide +kernel
theorem dX7_asTurned_38 : decode cX7_asTurned 38 = .ok (.if_icmp .ge 49, 3) := by decide +kernel
theorem dX7_asTurned_41 : decode cX7_asTurned 41 = .ok (.aload_n 0, 1) := by decide +kernel
theorem dX7_asTurned_42 : decode cX7_asTurned 42 = .ok (.getfield 181, 3) := by decide +kernel
theorem dX7_asTurned_45 : decode cX7_asTurned 45 = .ok (.iload_n 3, 1) := by decide +kernel
theorem dX7_asTurned_46 : decode cX7_asTurned 46 = .ok (.bipush 8, 2) := by decide +kernel
theorem dX7_asTurned_48 : decode cX7_asTurned 48 = .ok (.iload_n 2, 1) := by decide +kernel
theorem dX7_asTurned_49 : decode cX7_asTurned 49 = .ok (.imul, 1) := by decide +kernel
theorem dX7_asTurned_50 : decode cX7_asTurned 50 = .ok (.iadd, 1) := by decide +kernel
theorem dX7_asTurned_51 : decode cX7_asTurned 51 = .ok (.baload, 1) := by decide +kernel
theorem dX7_asTurned_52 : decode cX7_asTurned 52 = .ok (.ifCond .eq 29, 3) := by decide +kernel
theorem dX7_asTurned_55 : decode cX7_asTurned 55 = .ok (.aload_n 0, 1) := by decide +kernel
theorem dX7_asTurned_56 : decode cX7_asTurned 56 = .ok (.getfield 163, 3) := by decide +kernel
theorem dX7_asTurned_59 : decode cX7_asTurned 59 = .ok (.iload_n 3, 1) := by decide +kernel
theorem dX7_asTurned_60 : decode cX7_asTurned 60 = .ok (.bipush 8, 2) := by decide +kernel
theorem dX7_asTurned_62 : decode cX7_asTurned 62 = .ok (.iload_n 2, 1) := by decide +kernel
theorem dX7_asTurned_63 : decode cX7_asTurned 63 = .ok (.imul, 1) := by decide +kernel
theorem dX7_asTurned_64 : decode cX7_asTurned 64 = .ok (.iadd, 1) := by decide +kernel
theorem dX7_asTurned_65 : decode cX7_asTurned 65 = .ok (.iconst 1, 1) := by decide +kernel
theorem dX7_asTurned_66 : decode cX7_asTurned 66 = .ok (.iconst 1, 1) := by decide +kernel
theorem dX7_asTurned_67 : decode cX7_asTurned 67 = .ok (.aload_n 0, 1) := by decide +kernel
theorem dX7_asTurned_68 : decode cX7_asTurned 68 = .ok (.getfield 426, 3) := by decide +kernel
theorem dX7_asTurned_71 : decode cX7_asTurned 71 = .ok (.aload_n 0, 1) := by decide +kernel
theorem dX7_asTurned_72 : decode cX7_asTurned 72 = .ok (.getfield 429, 3) := by decide +kernel
theorem dX7_asTurned_75 : decode cX7_asTurned 75 = .ok (.iload_n 1, 1) := by decide +kernel
theorem dX7_asTurned_76 : decode cX7_asTurned 76 = .ok (.invokestatic 422, 3) := by decide +kernel
theorem dX7_asTurned_79 : decode cX7_asTurned 79 = .ok (.iconst 1, 1) := by decide +kernel
theorem dX7_asTurned_80 : decode cX7_asTurned 80 = .ok (.bastore, 1) := by decide +kernel
theorem dX7_asTurned_81 : decode cX7_asTurned 81 = .ok (.iinc 3 1, 3) := by decide +kernel
theorem dX7_asTurned_84 : decode cX7_asTurned 84 = .ok (.goto (-51), 3) := by decide +kernel
theorem dX7_asTurned_87 : decode cX7_asTurned 87 = .ok (.iinc 2 1, 3) := by decide +kernel
theorem dX7_asTurned_90 : decode cX7_asTurned 90 = .ok (.goto (-67), 3) := by decide +kernel
theorem dX7_asTurned_93 : decode cX7_asTurned 93 = .ok (.iconst 0, 1) := by decide +kernel
theorem dX7_asTurned_94 : decode cX7_asTurned 94 = .ok (.istore_n 2, 1) := by decide +kernel
theorem dX7_asTurned_95 : decode cX7_asTurned 95 = .ok (.iload_n 2, 1) := by decide +kernel
theorem dX7_asTurned_96 : decode cX7_asTurned 96 = .ok (.bipush 64, 2) := by decide +kernel
theorem dX7_asTurned_98 : decode cX7_asTurned 98 = .ok (.if_icmp .ge 21, 3) := by decide +kernel
theorem dX7_asTurned_101 : decode cX7_asTurned 101 = .ok (.aload_n 0, 1) := by decide +kernel
theorem dX7_asTurned_102 : decode cX7_asTurned 102 = .ok (.getfield 181, 3) := by decide +kernel
theorem dX7_asTurned_105 : decode cX7_asTurned 105 = .ok (.iload_n 2, 1) := by decide +kernel
theorem dX7_asTurned_106 : decode cX7_asTurned 106 = .ok (.aload_n 0, 1) := by decide +kernel
theorem dX7_asTurned_107 : decode cX7_asTurned 107 = .ok (.getfield 163, 3) := by decide +kernel
theorem dX7_asTurned_110 : decode cX7_asTurned 110 = .ok (.iload_n 2, 1) := by decide +kernel
theorem dX7_asTurned_111 : decode cX7_asTurned 111 = .ok (.baload, 1) := by decide +kernel
theorem dX7_asTurned_112 : decode cX7_asTurned 112 = .ok (.bastore, 1) := by decide +kernel
theorem dX7_asTurned_113 : decode cX7_asTurned 113 = .ok (.iinc 2 1, 3) := by decide +kernel
theorem dX7_asTurned_116 : decode cX7_asTurned 116 = .ok (.goto (-21), 3) := by decide +kernel
theorem dX7_asTurned_119 : decode cX7_asTurned 119 = .ok (.iconst 0, 1) := by decide +kernel
theorem dX7_asTurned_120 : decode cX7_asTurned 120 = .ok (.istore_n 2, 1) := by decide +kernel
theorem dX7_asTurned_121 : decode cX7_asTurned 121 = .ok (.iload_n 2, 1) := by decide +kernel
theorem dX7_asTurned_122 : decode cX7_asTurned 122 = .ok (.aload_n 0, 1) := by decide +kernel
theorem dX7_asTurned_123 : decode cX7_asTurned 123 = .ok (.getfield 216, 3) := by decide +kernel
theorem dX7_asTurned_126 : decode cX7_asTurned 126 = .ok (.if_icmp .ge 136, 3) := by decide +kernel
theorem dX7_asTurned_129 : decode cX7_asTurned 129 = .ok (.aload_n 0, 1) := by decide +kernel
theorem dX7_asTurned_130 : decode cX7_asTurned 130 = .ok (.getfield 166, 3) := by decide +kernel
theorem dX7_asTurned_133 : decode cX7_asTurned 133 = .ok (.iload_n 2, 1) := by decide +kernel
theorem dX7_asTurned_134 : decode cX7_asTurned 134 = .ok (.aload_n 0, 1) := by decide +kernel
theorem dX7_asTurned_135 : decode cX7_asTurned 135 = .ok (.getfield 166, 3) := by decide +kernel
theorem dX7_asTurned_138 : decode cX7_asTurned 138 = .ok (.iload_n 2, 1) := by decide +kernel
theorem dX7_asTurned_139 : decode cX7_asTurned 139 = .ok (.iaload, 1) := by decide +kernel
theorem dX7_asTurned_140 : decode cX7_asTurned 140 = .ok (.aload_n 0, 1) := by decide +kernel
theorem dX7_asTurned_141 : decode cX7_asTurned 141 = .ok (.getfield 175, 3) := by decide +kernel
theorem dX7_asTurned_144 : decode cX7_asTurned 144 = .ok (.iload_n 2, 1) := by decide +kernel
theorem dX7_asTurned_145 : decode cX7_asTurned 145 = .ok (.iaload, 1) := by decide +kernel
theorem dX7_asTurned_146 : decode cX7_asTurned 146 = .ok (.aload_n 0, 1) := by decide +kernel
theorem dX7_asTurned_147 : decode cX7_asTurned 147 = .ok (.getfield 178, 3) := by decide +kernel
theorem dX7_asTurned_150 : decode cX7_asTurned 150 = .ok (.iload_n 2, 1) := by decide +kernel
theorem dX7_asTurned_151 : decode cX7_asTurned 151 = .ok (.iaload, 1) := by decide +kernel
theorem dX7_asTurned_152 : decode cX7_asTurned 152 = .ok (.aload_n 0, 1) := by decide +kernel
theorem dX7_asTurned_153 : decode cX7_asTurned 153 = .ok (.getfield 426, 3) := by decide +kernel
theorem dX7_asTurned_156 : decode cX7_asTurned 156 = .ok (.aload_n 0, 1) := by decide +kernel
theorem dX7_asTurned_157 : decode cX7_asTurned 157 = .ok (.getfield 429, 3) := by decide +kernel
theorem dX7_asTurned_160 : decode cX7_asTurned 160 = .ok (.iload_n 1, 1) := by decide +kernel
theorem dX7_asTurned_161 : decode cX7_asTurned 161 = .ok (.invokestatic 422, 3) := by decide +kernel
theorem dX7_asTurned_164 : decode cX7_asTurned 164 = .ok (.iastore, 1) := by decide +kernel
theorem dX7_asTurned_165 : decode cX7_asTurned 165 = .ok (.aload_n 0, 1) := by decide +kernel
theorem dX7_asTurned_166 : decode cX7_asTurned 166 = .ok (.getfield 169, 3) := by decide +kernel
theorem dX7_asTurned_169 : decode cX7_asTurned 169 = .ok (.iload_n 2, 1) := by decide +kernel
theorem dX7_asTurned_170 : decode cX7_asTurned 170 = .ok (.aload_n 0, 1) := by decide +kernel
theorem dX7_asTurned_171 : decode cX7_asTurned 171 = .ok (.getfield 169, 3) := by decide +kernel
theorem dX7_asTurned_174 : decode cX7_asTurned 174 = .ok (.iload_n 2, 1) := by decide +kernel
theorem dX7_asTurned_175 : decode cX7_asTurned 175 = .ok (.iaload, 1) := by decide +kernel
theorem dX7_asTurned_176 : decode cX7_asTurned 176 = .ok (.aload_n 0, 1) := by decide +kernel
theorem dX7_asTurned_177 : decode cX7_asTurned 177 = .ok (.getfield 175, 3) := by decide +kernel
theorem dX7_asTurned_180 : decode cX7_asTurned 180 = .ok (.iload_n 2, 1) := by decide +kernel
theorem dX7_asTurned_181 : decode cX7_asTurned 181 = .ok (.iaload, 1) := by decide +kernel
theorem dX7_asTurned_182 : decode cX7_asTurned 182 = .ok (.aload_n 0, 1) := by decide +kernel
theorem dX7_asTurned_183 : decode cX7_asTurned 183 = .ok (.getfield 178, 3) := by decide +kernel
theorem dX7_asTurned_186 : decode cX7_asTurned 186 = .ok (.iload_n 2, 1) := by decide +kernel
theorem dX7_asTurned_187 : decode cX7_asTurned 187 = .ok (.iaload, 1) := by decide +kernel
theorem dX7_asTurned_188 : decode cX7_asTurned 188 = .ok (.aload_n 0, 1) := by decide +kernel
theorem dX7_asTurned_189 : decode cX7_asTurned 189 = .ok (.getfield 426, 3) := by decide +kernel
theorem dX7_asTurned_192 : decode cX7_asTurned 192 = .ok (.aload_n 0, 1) := by decide +kernel
theorem dX7_asTurned_193 : decode cX7_asTurned 193 = .ok (.getfield 429, 3) := by decide +kernel
theorem dX7_asTurned_196 : decode cX7_asTurned 196 = .ok (.iload_n 1, 1) := by decide +kernel
theorem dX7_asTurned_197 : decode cX7_asTurned 197 = .ok (.invokestatic 422, 3) := by decide +kernel
theorem dX7_asTurned_200 : decode cX7_asTurned 200 = .ok (.iastore, 1) := by decide +kernel
theorem dX7_asTurned_201 : decode cX7_asTurned 201 = .ok (.iload_n 1, 1) := by decide +kernel
theorem dX7_asTurned_202 : decode cX7_asTurned 202 = .ok (.ifCond .eq 6, 3) := by decide +kernel
theorem dX7_asTurned_205 : decode cX7_asTurned 205 = .ok (.goto 51, 3) := by decide +kernel
theorem dX7_asTurned_208 : decode cX7_asTurned 208 = .ok (.aload_n 0, 1) := by decide +kernel
theorem dX7_asTurned_209 : decode cX7_asTurned 209 = .ok (.getfield 175, 3) := by decide +kernel
theorem dX7_asTurned_212 : decode cX7_asTurned 212 = .ok (.iload_n 2, 1) := by decide +kernel
theorem dX7_asTurned_213 : decode cX7_asTurned 213 = .ok (.iaload, 1) := by decide +kernel
theorem dX7_asTurned_214 : decode cX7_asTurned 214 = .ok (.istore_n 3, 1) := by decide +kernel
theorem dX7_asTurned_215 : decode cX7_asTurned 215 = .ok (.aload_n 0, 1) := by decide +kernel
theorem dX7_asTurned_216 : decode cX7_asTurned 216 = .ok (.getfield 175, 3) := by decide +kernel
theorem dX7_asTurned_219 : decode cX7_asTurned 219 = .ok (.iload_n 2, 1) := by decide +kernel
theorem dX7_asTurned_220 : decode cX7_asTurned 220 = .ok (.aload_n 0, 1) := by decide +kernel
theorem dX7_asTurned_221 : decode cX7_asTurned 221 = .ok (.getfield 178, 3) := by decide +kernel
theorem dX7_asTurned_224 : decode cX7_asTurned 224 = .ok (.iload_n 2, 1) := by decide +kernel
theorem dX7_asTurned_225 : decode cX7_asTurned 225 = .ok (.iaload, 1) := by decide +kernel
theorem dX7_asTurned_226 : decode cX7_asTurned 226 = .ok (.iastore, 1) := by decide +kernel
theorem dX7_asTurned_227 : decode cX7_asTurned 227 = .ok (.aload_n 0, 1) := by decide +kernel
theorem dX7_asTurned_228 : decode cX7_asTurned 228 = .ok (.getfield 178, 3) := by decide +kernel
theorem dX7_asTurned_231 : decode cX7_asTurned 231 = .ok (.iload_n 2, 1) := by decide +kernel
theorem dX7_asTurned_232 : decode cX7_asTurned 232 = .ok (.iload_n 3, 1) := by decide +kernel
theorem dX7_asTurned_233 : decode cX7_asTurned 233 = .ok (.iastore, 1) := by decide +kernel
theorem dX7_asTurned_234 : decode cX7_asTurned 234 = .ok (.aload_n 0, 1) := by decide +kernel
theorem dX7_asTurned_235 : decode cX7_asTurned 235 = .ok (.iload_n 2, 1) := by decide +kernel
theorem dX7_asTurned_236 : decode cX7_asTurned 236 = .ok (.invokevirtual 202, 3) := by decide +kernel
theorem dX7_asTurned_239 : decode cX7_asTurned 239 = .ok (.ifCond .eq 17, 3) := by decide +kernel
theorem dX7_asTurned_242 : decode cX7_asTurned 242 = .ok (.aload_n 0, 1) := by decide +kernel
theorem dX7_asTurned_243 : decode cX7_asTurned 243 = .ok (.getfield 172, 3) := by decide +kernel
theorem dX7_asTurned_246 : decode cX7_asTurned 246 = .ok (.iload_n 2, 1) := by decide +kernel
theorem dX7_asTurned_247 : decode cX7_asTurned 247 = .ok (.iconst 1, 1) := by decide +kernel
theorem dX7_asTurned_248 : decode cX7_asTurned 248 = .ok (.aload_n 0, 1) := by decide +kernel
theorem dX7_asTurned_249 : decode cX7_asTurned 249 = .ok (.getfield 172, 3) := by decide +kernel
theorem dX7_asTurned_252 : decode cX7_asTurned 252 = .ok (.iload_n 2, 1) := by decide +kernel
theorem dX7_asTurned_253 : decode cX7_asTurned 253 = .ok (.iaload, 1) := by decide +kernel
theorem dX7_asTurned_254 : decode cX7_asTurned 254 = .ok (.isub, 1) := by decide +kernel
theorem dX7_asTurned_255 : decode cX7_asTurned 255 = .ok (.iastore, 1) := by decide +kernel
theorem dX7_asTurned_256 : decode cX7_asTurned 256 = .ok (.iinc 2 1, 3) := by decide +kernel
theorem dX7_asTurned_259 : decode cX7_asTurned 259 = .ok (.goto (-138), 3) := by decide +kernel
theorem dX7_asTurned_262 : decode cX7_asTurned 262 = .ok (.iload_n 1, 1) := by decide +kernel
theorem dX7_asTurned_263 : decode cX7_asTurned 263 = .ok (.ifCond .eq 4, 3) := by decide +kernel
theorem dX7_asTurned_266 : decode cX7_asTurned 266 = .ok (.return_, 1) := by decide +kernel
theorem dX7_asTurned_267 : decode cX7_asTurned 267 = .ok (.aload_n 0, 1) := by decide +kernel
theorem dX7_asTurned_268 : decode cX7_asTurned 268 = .ok (.getfield 426, 3) := by decide +kernel
theorem dX7_asTurned_271 : decode cX7_asTurned 271 = .ok (.istore_n 2, 1) := by decide +kernel
theorem dX7_asTurned_272 : decode cX7_asTurned 272 = .ok (.aload_n 0, 1) := by decide +kernel
theorem dX7_asTurned_273 : decode cX7_asTurned 273 = .ok (.aload_n 0, 1) := by decide +kernel
theorem dX7_asTurned_274 : decode cX7_asTurned 274 = .ok (.getfield 429, 3) := by decide +kernel
theorem dX7_asTurned_277 : decode cX7_asTurned 277 = .ok (.putfield 426, 3) := by decide +kernel
theorem dX7_asTurned_280 : decode cX7_asTurned 280 = .ok (.aload_n 0, 1) := by decide +kernel
theorem dX7_asTurned_281 : decode cX7_asTurned 281 = .ok (.iload_n 2, 1) := by decide +kernel
theorem dX7_asTurned_282 : decode cX7_asTurned 282 = .ok (.putfield 429, 3) := by decide +kernel
theorem dX7_asTurned_285 : decode cX7_asTurned 285 = .ok (.return_, 1) := by decide +kernel
set_option maxRecDepth 20000 in
theorem mc_X7_isAs_X70 : mjIn wsX7_isAs wsX70 := fun w h => (List.mem_cons_of_mem _ (List.mem_append_right _ h))
set_option maxRecDepth 20000 in
theorem ggX7_isAs_X7_hasLike : GoodIn wsX7_isAs wsX7_hasLike := mj_good (mj_cons (List.mem_of_getElem? (i := 13) rfl) (mj_app (mj_cons (List.mem_of_getElem? (i := 5) rfl) (mj_cons (List.mem_of_getElem? (i := 14) rfl) (mj_cons (List.mem_of_getElem? (i := 15) rfl) (mj_cons (List.mem_of_getElem? (i := 16) rfl) (mj_cons (List.mem_of_getElem? (i := 17) rfl) (mj_cons (List.mem_of_getElem? (i := 18) rfl) (mj_cons (List.mem_of_getElem? (i := 19) rfl) (mj_cons (List.mem_of_getElem? (i := 20) rfl) (mj_cons (List.mem_of_getElem? (i := 21) rfl) (mj_cons (List.mem_of_getElem? (i := 22) rfl) (mj_cons (List.mem_of_getElem? (i := 23) rfl) mj_nil))))))))))) mc_X7_isAs_X70)) (by decide +kernel)
set_option maxRecDepth 20000 in
theorem gX7_isAs_X7_hasLike : GoodIn wsX7_isAs (wsV RX7 432 RX7 yX7_hasLike wsX7_hasLike) := goodIn_app (mj_good (mj_cons (List.mem_of_getElem? (i := 9) rfl) (mj_cons (List.mem_of_getElem? (i := 10) rfl) (mj_cons (List.mem_of_getElem? (i := 11) rfl) (mj_cons (List.mem_of_getElem? (i := 12) rfl) mj_nil)))) (by decide +kernel)) ggX7_isAs_X7_hasLike
theorem dX7_isAs_0 : decode cX7_isAs 0 = .ok (.aload_n 0, 1) := by decide +kernel
theorem dX7_isAs_1 : decode cX7_isAs 1 = .ok (.getfield 426, 3) := by decide +kernel
theorem dX7_isAs_4 : decode cX7_isAs 4 = .ok (.aload_n 0, 1) := by decide +kernel
theorem dX7_isAs_5 : decode cX7_isAs 5 = .ok (.getfield 127, 3) := by decide +kernel
theorem dX7_isAs_8 : decode cX7_isAs 8 = .ok (.iload_n 1, 1) := by decide +kernel
theorem dX7_isAs_9 : decode cX7_isAs 9 = .ok (.iaload, 1) := by decide +kernel
theorem dX7_isAs_10 : decode cX7_isAs 10 = .ok (.if_icmp .ne 29, 3) := by decide +kernel
theorem dX7_isAs_13 : decode cX7_isAs 13 = .ok (.aload_n 0, 1) := by decide +kernel
theorem dX7_isAs_14 : decode cX7_isAs 14 = .ok (.getfield 429, 3) := by decide +kernel
theorem dX7_isAs_17 : decode cX7_isAs 17 = .ok (.aload_n 0, 1) := by decide +kernel
theorem dX7_isAs_18 : decode cX7_isAs 18 = .ok (.getfield 130, 3) := by decide +kernel
theorem dX7_isAs_21 : decode cX7_isAs 21 = .ok (.iload_n 1, 1) := by decide +kernel
theorem dX7_isAs_22 : decode cX7_isAs 22 = .ok (.iaload, 1) := by decide +kernel
theorem dX7_isAs_23 : decode cX7_isAs 23 = .ok (.if_icmp .ne 16, 3) := by decide +kernel
theorem dX7_isAs_26 : decode cX7_isAs 26 = .ok (.aload_n 0, 1) := by decide +kernel
theorem dX7_isAs_27 : decode cX7_isAs 27 = .ok (.getfield 216, 3) := by decide +kernel
theorem dX7_isAs_30 : decode cX7_isAs 30 = .ok (.aload_n 0, 1) := by decide +kernel
theorem dX7_isAs_31 : decode cX7_isAs 31 = .ok (.getfield 133, 3) := by decide +kernel
theorem dX7_isAs_34 : decode cX7_isAs 34 = .ok (.iload_n 1, 1) := by decide +kernel
theorem dX7_isAs_35 : decode cX7_isAs 35 = .ok (.iaload, 1) := by decide +kernel
theorem dX7_isAs_36 : decode cX7_isAs 36 = .ok (.if_icmp .eq 5, 3) := by decide +kernel
theorem dX7_isAs_39 : decode cX7_isAs 39 = .ok (.iconst 0, 1) := by decide +kernel
theorem dX7_isAs_40 : decode cX7_isAs 40 = .ok (.ireturn, 1) := by decide +kernel
theorem dX7_isAs_41 : decode cX7_isAs 41 = .ok (.iconst 0, 1) := by decide +kernel
theorem dX7_isAs_42 : decode cX7_isAs 42 = .ok (.istore_n 2, 1) := by decide +kernel
theorem dX7_isAs_43 : decode cX7_isAs 43 = .ok (.iload_n 2, 1) := by decide +kernel
theorem dX7_isAs_44 : decode cX7_isAs 44 = .ok (.aload_n 0, 1) := by decide +kernel
theorem dX7_isAs_45 : decode cX7_isAs 45 = .ok (.getfield 429, 3) := by decide +kernel
theorem dX7_isAs_48 : decode cX7_isAs 48 = .ok (.if_icmp .ge 57, 3) := by decide +kernel
theorem dX7_isAs_51 : decode cX7_isAs 51 = .ok (.iconst 0, 1) := by decide +kernel
theorem dX7_isAs_52 : decode cX7_isAs 52 = .ok (.istore_n 3, 1) := by decide +kernel
theorem dX7_isAs_53 : decode cX7_isAs 53 = .ok (.iload_n 3, 1) := by decide +kernel
theorem dX7_isAs_54 : decode cX7_isAs 54 = .ok (.aload_n 0, 1) := by decide +kernel
theorem dX7_isAs_55 : decode cX7_isAs 55 = .ok (.getfield 426, 3) := by decide +kernel
theorem dX7_isAs_58 : decode cX7_isAs 58 = .ok (.if_icmp .ge 41, 3) := by decide +kernel
theorem dX7_isAs_61 : decode cX7_isAs 61 = .ok (.aload_n 0, 1) := by decide +kernel
theorem dX7_isAs_62 : decode cX7_isAs 62 = .ok (.getfield 181, 3) := by decide +kernel
theorem dX7_isAs_65 : decode cX7_isAs 65 = .ok (.iload_n 3, 1) := by decide +kernel
theorem dX7_isAs_66 : decode cX7_isAs 66 = .ok (.bipush 8, 2) := by decide +kernel
theorem dX7_isAs_68 : decode cX7_isAs 68 = .ok (.iload_n 2, 1) := by decide +kernel
theorem dX7_isAs_69 : decode cX7_isAs 69 = .ok (.imul, 1) := by decide +kernel
theorem dX7_isAs_70 : decode cX7_isAs 70 = .ok (.iadd, 1) := by decide +kernel
theorem dX7_isAs_71 : decode cX7_isAs 71 = .ok (.baload, 1) := by decide +kernel
theorem dX7_isAs_72 : decode cX7_isAs 72 = .ok (.aload_n 0, 1) := by decide +kernel
theorem dX7_isAs_73 : decode cX7_isAs 73 = .ok (.getfield 136, 3) := by decide +kernel
theorem dX7_isAs_76 : decode cX7_isAs 76 = .ok (.bipush 64, 2) := by decide +kernel
theorem dX7_isAs_78 : decode cX7_isAs 78 = .ok (.iload_n 1, 1) := by decide +kernel
theorem dX7_isAs_79 : decode cX7_isAs 79 = .ok (.imul, 1) := by decide +kernel
theorem dX7_isAs_80 : decode cX7_isAs 80 = .ok (.iload_n 3, 1) := by decide +kernel
theorem dX7_isAs_81 : decode cX7_isAs 81 = .ok (.iadd, 1) := by decide +kernel
theorem dX7_isAs_82 : decode cX7_isAs 82 = .ok (.bipush 8, 2) := by decide +kernel
theorem dX7_isAs_84 : decode cX7_isAs 84 = .ok (.iload_n 2, 1) := by decide +kernel
theorem dX7_isAs_85 : decode cX7_isAs 85 = .ok (.imul, 1) := by decide +kernel
theorem dX7_isAs_86 : decode cX7_isAs 86 = .ok (.iadd, 1) := by decide +kernel
theorem dX7_isAs_87 : decode cX7_isAs 87 = .ok (.baload, 1) := by decide +kernel
theorem dX7_isAs_88 : decode cX7_isAs 88 = .ok (.if_icmp .eq 5, 3) := by decide +kernel
theorem dX7_isAs_91 : decode cX7_isAs 91 = .ok (.iconst 0, 1) := by decide +kernel
theorem dX7_isAs_92 : decode cX7_isAs 92 = .ok (.ireturn, 1) := by decide +kernel
theorem dX7_isAs_93 : decode cX7_isAs 93 = .ok (.iinc 3 1, 3) := by decide +kernel
theorem dX7_isAs_96 : decode cX7_isAs 96 = .ok (.goto (-43), 3) := by decide +kernel
theorem dX7_isAs_99 : decode cX7_isAs 99 = .ok (.iinc 2 1, 3) := by decide +kernel
theorem dX7_isAs_102 : decode cX7_isAs 102 = .ok (.goto (-59), 3) := by decide +kernel
theorem dX7_isAs_105 : decode cX7_isAs 105 = .ok (.iconst 0, 1) := by decide +kernel
theorem dX7_isAs_106 : decode cX7_isAs 106 = .ok (.istore_n 2, 1) := by decide +kernel
theorem dX7_isAs_107 : decode cX7_isAs 107 = .ok (.iload_n 2, 1) := by decide +kernel
theorem dX7_isAs_108 : decode cX7_isAs 108 = .ok (.aload_n 0, 1) := by decide +kernel
theorem dX7_isAs_109 : decode cX7_isAs 109 = .ok (.getfield 216, 3) := by decide +kernel
theorem dX7_isAs_112 : decode cX7_isAs 112 = .ok (.if_icmp .ge 20, 3) := by decide +kernel
theorem dX7_isAs_115 : decode cX7_isAs 115 = .ok (.aload_n 0, 1) := by decide +kernel
theorem dX7_isAs_116 : decode cX7_isAs 116 = .ok (.iload_n 1, 1) := by decide +kernel
theorem dX7_isAs_117 : decode cX7_isAs 117 = .ok (.iload_n 2, 1) := by decide +kernel
theorem dX7_isAs_118 : decode cX7_isAs 118 = .ok (.invokevirtual 432, 3) := by decide +kernel
theorem dX7_isAs_121 : decode cX7_isAs 121 = .ok (.ifCond .ne 5, 3) := by decide +kernel
theorem dX7_isAs_124 : decode cX7_isAs 124 = .ok (.iconst 0, 1) := by decide +kernel
theorem dX7_isAs_125 : decode cX7_isAs 125 = .ok (.ireturn, 1) := by decide +kernel
theorem dX7_isAs_126 : decode cX7_isAs 126 = .ok (.iinc 2 1, 3) := by decide +kernel
theorem dX7_isAs_129 : decode cX7_isAs 129 = .ok (.goto (-22), 3) := by decide +kernel
theorem dX7_isAs_132 : decode cX7_isAs 132 = .ok (.iconst 1, 1) := by decide +kernel
theorem dX7_isAs_133 : decode cX7_isAs 133 = .ok (.ireturn, 1) := by decide +kernel
theorem dX7_hasLike_0 : decode cX7_hasLike 0 = .ok (.bipush 12, 2) := by decide +kernel
theorem dX7_hasLike_2 : decode cX7_hasLike 2 = .ok (.iload_n 1, 1) := by decide +kernel
theorem dX7_hasLike_3 : decode cX7_hasLike 3 = .ok (.imul, 1) := by decide +kernel
theorem dX7_hasLike_4 : decode cX7_hasLike 4 = .ok (.istore_n 3, 1) := by decide +kernel
theorem dX7_hasLike_5 : decode cX7_hasLike 5 = .ok (.iload_n 3, 1) := by decide +kernel
theorem dX7_hasLike_6 : decode cX7_hasLike 6 = .ok (.bipush 12, 2) := by decide +kernel
theorem dX7_hasLike_8 : decode cX7_hasLike 8 = .ok (.iload_n 1, 1) := by decide +kernel
theorem dX7_hasLike_9 : decode cX7_hasLike 9 = .ok (.imul, 1) := by decide +kernel
theorem dX7_hasLike_10 : decode cX7_hasLike 10 = .ok (.aload_n 0, 1) := by decide +kernel
theorem dX7_hasLike_11 : decode cX7_hasLike 11 = .ok (.getfield 216, 3) := by decide +kernel
theorem dX7_hasLike_14 : decode cX7_hasLike 14 = .ok (.iadd, 1) := by decide +kernel
theorem dX7_hasLike_15 : decode cX7_hasLike 15 = .ok (.if_icmp .ge 108, 3) := by decide +kernel
theorem dX7_hasLike_18 : decode cX7_hasLike 18 = .ok (.aload_n 0, 1) := by decide +kernel
theorem dX7_hasLike_19 : decode cX7_hasLike 19 = .ok (.getfield 142, 3) := by decide +kernel
theorem dX7_hasLike_22 : decode cX7_hasLike 22 = .ok (.iload_n 3, 1) := by decide +kernel
theorem dX7_hasLike_23 : decode cX7_hasLike 23 = .ok (.iaload, 1) := by decide +kernel
theorem dX7_hasLike_24 : decode cX7_hasLike 24 = .ok (.aload_n 0, 1) := by decide +kernel
theorem dX7_hasLike_25 : decode cX7_hasLike 25 = .ok (.getfield 166, 3) := by decide +kernel
theorem dX7_hasLike_28 : decode cX7_hasLike 28 = .ok (.iload_n 2, 1) := by decide +kernel
theorem dX7_hasLike_29 : decode cX7_hasLike 29 = .ok (.iaload, 1) := by decide +kernel
theorem dX7_hasLike_30 : decode cX7_hasLike 30 = .ok (.if_icmp .ne 52, 3) := by decide +kernel
theorem dX7_hasLike_33 : decode cX7_hasLike 33 = .ok (.aload_n 0, 1) := by decide +kernel
theorem dX7_hasLike_34 : decode cX7_hasLike 34 = .ok (.getfield 139, 3) := by decide +kernel
theorem dX7_hasLike_37 : decode cX7_hasLike 37 = .ok (.iload_n 3, 1) := by decide +kernel
theorem dX7_hasLike_38 : decode cX7_hasLike 38 = .ok (.iaload, 1) := by decide +kernel
theorem dX7_hasLike_39 : decode cX7_hasLike 39 = .ok (.aload_n 0, 1) := by decide +kernel
theorem dX7_hasLike_40 : decode cX7_hasLike 40 = .ok (.getfield 23, 3) := by decide +kernel
theorem dX7_hasLike_43 : decode cX7_hasLike 43 = .ok (.iload_n 2, 1) := by decide +kernel
theorem dX7_hasLike_44 : decode cX7_hasLike 44 = .ok (.iaload, 1) := by decide +kernel
theorem dX7_hasLike_45 : decode cX7_hasLike 45 = .ok (.if_icmp .ne 37, 3) := by decide +kernel
theorem dX7_hasLike_48 : decode cX7_hasLike 48 = .ok (.aload_n 0, 1) := by decide +kernel
theorem dX7_hasLike_49 : decode cX7_hasLike 49 = .ok (.getfield 145, 3) := by decide +kernel
theorem dX7_hasLike_52 : decode cX7_hasLike 52 = .ok (.iload_n 3, 1) := by decide +kernel
theorem dX7_hasLike_53 : decode cX7_hasLike 53 = .ok (.iaload, 1) := by decide +kernel
theorem dX7_hasLike_54 : decode cX7_hasLike 54 = .ok (.aload_n 0, 1) := by decide +kernel
theorem dX7_hasLike_55 : decode cX7_hasLike 55 = .ok (.getfield 29, 3) := by decide +kernel
theorem dX7_hasLike_58 : decode cX7_hasLike 58 = .ok (.iload_n 2, 1) := by decide +kernel
theorem dX7_hasLike_59 : decode cX7_hasLike 59 = .ok (.iaload, 1) := by decide +kernel
theorem dX7_hasLike_60 : decode cX7_hasLike 60 = .ok (.if_icmp .ne 22, 3) := by decide +kernel
theorem dX7_hasLike_63 : decode cX7_hasLike 63 = .ok (.aload_n 0, 1) := by decide +kernel
theorem dX7_hasLike_64 : decode cX7_hasLike 64 = .ok (.getfield 148, 3) := by decide +kernel
theorem dX7_hasLike_67 : decode cX7_hasLike 67 = .ok (.iload_n 3, 1) := by decide +kernel
theorem dX7_hasLike_68 : decode cX7_hasLike 68 = .ok (.iaload, 1) := by decide +kernel
theorem dX7_hasLike_69 : decode cX7_hasLike 69 = .ok (.aload_n 0, 1) := by decide +kernel
theorem dX7_hasLike_70 : decode cX7_hasLike 70 = .ok (.getfield 172, 3) := by decide +kernel
theorem dX7_hasLike_73 : decode cX7_hasLike 73 = .ok (.iload_n 2, 1) := by decide +kernel
theorem dX7_hasLike_74 : decode cX7_hasLike 74 = .ok (.iaload, 1) := by decide +kernel
theorem dX7_hasLike_75 : decode cX7_hasLike 75 = .ok (.if_icmp .ne 7, 3) := by decide +kernel
theorem dX7_hasLike_78 : decode cX7_hasLike 78 = .ok (.iconst 1, 1) := by decide +kernel
theorem dX7_hasLike_79 : decode cX7_hasLike 79 = .ok (.goto 4, 3) := by decide +kernel
theorem dX7_hasLike_82 : decode cX7_hasLike 82 = .ok (.iconst 0, 1) := by decide +kernel
theorem dX7_hasLike_83 : decode cX7_hasLike 83 = .ok (.istore 4, 2) := by decide +kernel
theorem dX7_hasLike_85 : decode cX7_hasLike 85 = .ok (.iload 4, 2) := by decide +kernel
theorem dX7_hasLike_87 : decode cX7_hasLike 87 = .ok (.ifCond .eq 30, 3) := by decide +kernel
theorem dX7_hasLike_90 : decode cX7_hasLike 90 = .ok (.aload_n 0, 1) := by decide +kernel
theorem dX7_hasLike_91 : decode cX7_hasLike 91 = .ok (.getfield 23, 3) := by decide +kernel
theorem dX7_hasLike_94 : decode cX7_hasLike 94 = .ok (.iload_n 2, 1) := by decide +kernel
theorem dX7_hasLike_95 : decode cX7_hasLike 95 = .ok (.iaload, 1) := by decide +kernel
theorem dX7_hasLike_96 : decode cX7_hasLike 96 = .ok (.iconst 5, 1) := by decide +kernel
theorem dX7_hasLike_97 : decode cX7_hasLike 97 = .ok (.if_icmp .ne 18, 3) := by decide +kernel
theorem dX7_hasLike_100 : decode cX7_hasLike 100 = .ok (.aload_n 0, 1) := by decide +kernel
theorem dX7_hasLike_101 : decode cX7_hasLike 101 = .ok (.getfield 151, 3) := by decide +kernel
theorem dX7_hasLike_104 : decode cX7_hasLike 104 = .ok (.iload_n 3, 1) := by decide +kernel
theorem dX7_hasLike_105 : decode cX7_hasLike 105 = .ok (.iaload, 1) := by decide +kernel
theorem dX7_hasLike_106 : decode cX7_hasLike 106 = .ok (.aload_n 0, 1) := by decide +kernel
theorem dX7_hasLike_107 : decode cX7_hasLike 107 = .ok (.getfield 169, 3) := by decide +kernel
theorem dX7_hasLike_110 : decode cX7_hasLike 110 = .ok (.iload_n 2, 1) := by decide +kernel
theorem dX7_hasLike_111 : decode cX7_hasLike 111 = .ok (.iaload, 1) := by decide +kernel
theorem dX7_hasLike_112 : decode cX7_hasLike 112 = .ok (.if_icmp .ne 5, 3) := by decide +kernel
theorem dX7_hasLike_115 : decode cX7_hasLike 115 = .ok (.iconst 1, 1) := by decide +kernel
theorem dX7_hasLike_116 : decode cX7_hasLike 116 = .ok (.ireturn, 1) := by decide +kernel
theorem dX7_hasLike_117 : decode cX7_hasLike 117 = .ok (.iinc 3 1, 3) := by decide +kernel
theorem dX7_hasLike_120 : decode cX7_hasLike 120 = .ok (.goto (-115), 3) := by decide +kernel
theorem dX7_hasLike_123 : decode cX7_hasLike 123 = .ok (.iconst 0, 1) := by decide +kernel
theorem dX7_hasLike_124 : decode cX7_hasLike 124 = .ok (.ireturn, 1) := by decide +kernel
set_option maxRecDepth 20000 in
theorem mc_X7_same_X7_same_r1 : mjIn wsX7_same wsX7_same_r1 := fun w h => (List.mem_cons_of_mem _ (List.mem_append_left _ (List.mem_append_left _ h)))
set_option maxRecDepth 20000 in
theorem mc_X7_same_X70 : mjIn wsX7_same wsX70 := fun w h => (List.mem_cons_of_mem _ (List.mem_append_right _ h))
set_option maxRecDepth 20000 in
theorem ggX7_same_X7_refuse : GoodIn wsX7_same wsX7_refuse := mj_good (mj_cons (mc_X7_same_X7_same_r1 _ (List.mem_of_getElem? (i := 8) rfl)) (mj_app (mj_cons (mc_X7_same_X7_same_r1 _ (List.mem_of_getElem? (i := 1) rfl)) mj_nil) mc_X7_same_X70)) (by decide +kernel)
set_option maxRecDepth 20000 in
theorem gX7_same_X7_refuse : GoodIn wsX7_same (wsV RX7 290 RX7 yX7_refuse wsX7_refuse) := goodIn_app (mj_good (mj_cons (mc_X7_same_X7_same_r1 _ (List.mem_of_getElem? (i := 4) rfl)) (mj_cons (mc_X7_same_X7_same_r1 _ (List.mem_of_getElem? (i := 5) rfl)) (mj_cons (mc_X7_same_X7_same_r1 _ (List.mem_of_getElem? (i := 6) rfl)) (mj_cons (mc_X7_same_X7_same_r1 _ (List.mem_of_getElem? (i := 7) rfl)) mj_nil)))) (by decide +kernel)) ggX7_same_X7_refuse
set_option maxRecDepth 20000 in
theorem mc_X7_same_X7_same_r2 : mjIn wsX7_same wsX7_same_r2 := fun w h => (List.mem_cons_of_mem _ (List.mem_append_left _ (List.mem_append_right _ (List.mem_append_left _ h))))
set_option maxRecDepth 20000 in
theorem ggX7_same_X7_asItIs : GoodIn wsX7_same wsX7_asItIs := mj_good (mj_cons (mc_X7_same_X7_same_r1 _ (List.mem_of_getElem? (i := 12) rfl)) (mj_app (mj_app (mj_cons (mc_X7_same_X7_same_r1 _ (List.mem_of_getElem? (i := 13) rfl)) (mj_cons (mc_X7_same_X7_same_r1 _ (List.mem_of_getElem? (i := 14) rfl)) (mj_cons (mc_X7_same_X7_same_r1 _ (List.mem_of_getElem? (i := 15) rfl)) (mj_cons (mc_X7_same_X7_same_r1 _ (List.mem_of_getElem? (i := 16) rfl)) (mj_cons (mc_X7_same_X7_same_r1 _ (List.mem_of_getElem? (i := 17) rfl)) (mj_cons (mc_X7_same_X7_same_r1 _ (List.mem_of_getElem? (i := 18) rfl)) (mj_cons (mc_X7_same_X7_same_r1 _ (List.mem_of_getElem? (i := 19) rfl)) (mj_cons (mc_X7_same_X7_same_r1 _ (List.mem_of_getElem? (i := 20) rfl)) (mj_cons (mc_X7_same_X7_same_r1 _ (List.mem_of_getElem? (i := 21) rfl)) (mj_cons (mc_X7_same_X7_same_r1 _ (List.mem_of_getElem? (i := 22) rfl)) (mj_cons (mc_X7_same_X7_same_r1 _ (List.mem_of_getElem? (i := 23) rfl)) (mj_cons (mc_X7_same_X7_same_r2 _ (List.mem_of_getElem? (i := 0) rfl)) (mj_cons (mc_X7_same_X7_same_r2 _ (List.mem_of_getElem? (i := 1) rfl)) (mj_cons (mc_X7_same_X7_same_r2 _ (List.mem_of_getElem? (i := 2) rfl)) (mj_cons (mc_X7_same_X7_same_r2 _ (List.mem_of_getElem? (i := 3) rfl)) (mj_cons (mc_X7_same_X7_same_r2 _ (List.mem_of_getElem? (i := 4) rfl)) (mj_cons (mc_X7_same_X7_same_r2 _ (List.mem_of_getElem? (i := 5) rfl)) (mj_cons (mc_X7_same_X7_same_r2 _ (List.mem_of_getElem? (i := 6) rfl)) (mj_cons (mc_X7_same_X7_same_r1 _ (List.mem_of_getElem? (i := 7) rfl)) (mj_cons (mc_X7_same_X7_same_r2 _ (List.mem_of_getElem? (i := 7) rfl)) (mj_cons (mc_X7_same_X7_same_r2 _ (List.mem_of_getElem? (i := 8) rfl)) (mj_cons (mc_X7_same_X7_same_r2 _ (List.mem_of_getElem? (i := 9) rfl)) (mj_cons (mc_X7_same_X7_same_r2 _ (List.mem_of_getElem? (i := 10) rfl)) (mj_cons (mc_X7_same_X7_same_r2 _ (List.mem_of_getElem? (i := 11) rfl)) mj_nil)))))))))))))))))))))))) (mj_cons (mc_X7_same_X7_same_r2 _ (List.mem_of_getElem? (i := 12) rfl)) (mj_cons (mc_X7_same_X7_same_r2 _ (List.mem_of_getElem? (i := 13) rfl)) (mj_cons (mc_X7_same_X7_same_r2 _ (List.mem_of_getElem? (i := 14) rfl)) (mj_cons (mc_X7_same_X7_same_r2 _ (List.mem_of_getElem? (i := 15) rfl)) (mj_cons (mc_X7_same_X7_same_r2 _ (List.mem_of_getElem? (i := 16) rfl)) (mj_cons (mc_X7_same_X7_same_r2 _ (List.mem_of_getElem? (i := 17) rfl)) mj_nil))))))) mc_X7_same_X70)) (by decide +kernel)
set_option maxRecDepth 20000 in
theorem gX7_same_X7_asItIs : GoodIn wsX7_same (wsV RX7 435 RX7 yX7_asItIs wsX7_asItIs) := goodIn_app (mj_good (mj_cons (mc_X7_same_X7_same_r1 _ (List.mem_of_getElem? (i := 9) rfl)) (mj_cons (mc_X7_same_X7_same_r1 _ (List.mem_of_getElem? (i := 10) rfl)) (mj_cons (mc_X7_same_X7_same_r1 _ (List.mem_of_getElem? (i := 11) rfl)) (mj_cons (mc_X7_same_X7_same_r1 _ (List.mem_of_getElem? (i := 7) rfl)) mj_nil)))) (by decide +kernel)) ggX7_same_X7_asItIs
set_option maxRecDepth 20000 in
theorem mc_X7_same_X7_same_r3 : mjIn wsX7_same wsX7_same_r3 := fun w h => (List.mem_cons_of_mem _ (List.mem_append_left _ (List.mem_append_right _ (List.mem_append_right _ h))))
set_option maxRecDepth 20000 in
theorem ggX7_same_X7_isAs : GoodIn wsX7_same wsX7_isAs := mj_good (mj_cons (mc_X7_same_X7_same_r2 _ (List.mem_of_getElem? (i := 21) rfl)) (mj_app (mj_cons (mc_X7_same_X7_same_r1 _ (List.mem_of_getElem? (i := 14) rfl)) (mj_cons (mc_X7_same_X7_same_r2 _ (List.mem_of_getElem? (i := 22) rfl)) (mj_cons (mc_X7_same_X7_same_r1 _ (List.mem_of_getElem? (i := 16) rfl)) (mj_cons (mc_X7_same_X7_same_r2 _ (List.mem_of_getElem? (i := 23) rfl)) (mj_cons (mc_X7_same_X7_same_r1 _ (List.mem_of_getElem? (i := 19) rfl)) (mj_cons (mc_X7_same_X7_same_r3 _ (List.mem_of_getElem? (i := 0) rfl)) (mj_cons (mc_X7_same_X7_same_r1 _ (List.mem_of_getElem? (i := 17) rfl)) (mj_cons (mc_X7_same_X7_same_r3 _ (List.mem_of_getElem? (i := 1) rfl)) (mj_cons (mc_X7_same_X7_same_r3 _ (List.mem_of_getElem? (i := 2) rfl)) (mj_cons (mc_X7_same_X7_same_r3 _ (List.mem_of_getElem? (i := 3) rfl)) (mj_cons (mc_X7_same_X7_same_r3 _ (List.mem_of_getElem? (i := 4) rfl)) (mj_cons (mc_X7_same_X7_same_r1 _ (List.mem_of_getElem? (i := 7) rfl)) (mj_cons (mc_X7_same_X7_same_r3 _ (List.mem_of_getElem? (i := 5) rfl)) (mj_cons (mc_X7_same_X7_same_r3 _ (List.mem_of_getElem? (i := 6) rfl)) (mj_cons (mc_X7_same_X7_same_r1 _ (List.mem_of_getElem? (i := 20) rfl)) (mj_cons (mc_X7_same_X7_same_r3 _ (List.mem_of_getElem? (i := 7) rfl)) (mj_cons (mc_X7_same_X7_same_r2 _ (List.mem_of_getElem? (i := 8) rfl)) (mj_cons (mc_X7_same_X7_same_r3 _ (List.mem_of_getElem? (i := 8) rfl)) (mj_cons (mc_X7_same_X7_same_r2 _ (List.mem_of_getElem? (i := 9) rfl)) (mj_cons (mc_X7_same_X7_same_r3 _ (List.mem_of_getElem? (i := 9) rfl)) (mj_cons (mc_X7_same_X7_same_r2 _ (List.mem_of_getElem? (i := 0) rfl)) (mj_cons (mc_X7_same_X7_same_r3 _ (List.mem_of_getElem? (i := 10) rfl)) (mj_cons (mc_X7_same_X7_same_r1 _ (List.mem_of_getElem? (i := 22) rfl)) mj_nil))))))))))))))))))))))) mc_X7_same_X70)) (by decide +kernel)
set_option maxRecDepth 20000 in
theorem gX7_same_X7_isAs : GoodIn wsX7_same (wsV RX7 438 RX7 yX7_isAs wsX7_isAs) := goodIn_app (mj_good (mj_cons (mc_X7_same_X7_same_r2 _ (List.mem_of_getElem? (i := 18) rfl)) (mj_cons (mc_X7_same_X7_same_r2 _ (List.mem_of_getElem? (i := 19) rfl)) (mj_cons (mc_X7_same_X7_same_r2 _ (List.mem_of_getElem? (i := 20) rfl)) (mj_cons (mc_X7_same_X7_same_r1 _ (List.mem_of_getElem? (i := 7) rfl)) mj_nil)))) (by decide +kernel)) ggX7_same_X7_isAs
set_option maxRecDepth 20000 in
theorem ggX7_same_X7_asTurned : GoodIn wsX7_same wsX7_asTurned := mj_good (mj_cons (mc_X7_same_X7_same_r3 _ (List.mem_of_getElem? (i := 14) rfl)) (mj_app (mj_cons (mc_X7_same_X7_same_r3 _ (List.mem_of_getElem? (i := 15) rfl)) (mj_cons (mc_X7_same_X7_same_r1 _ (List.mem_of_getElem? (i := 16) rfl)) (mj_cons (mc_X7_same_X7_same_r1 _ (List.mem_of_getElem? (i := 14) rfl)) (mj_cons (mc_X7_same_X7_same_r1 _ (List.mem_of_getElem? (i := 17) rfl)) (mj_cons (mc_X7_same_X7_same_r1 _ (List.mem_of_getElem? (i := 19) rfl)) (mj_cons (mc_X7_same_X7_same_r1 _ (List.mem_of_getElem? (i := 20) rfl)) (mj_cons (mc_X7_same_X7_same_r2 _ (List.mem_of_getElem? (i := 2) rfl)) (mj_cons (mc_X7_same_X7_same_r2 _ (List.mem_of_getElem? (i := 3) rfl)) (mj_cons (mc_X7_same_X7_same_r1 _ (List.mem_of_getElem? (i := 22) rfl)) (mj_cons (mc_X7_same_X7_same_r2 _ (List.mem_of_getElem? (i := 0) rfl)) (mj_cons (mc_X7_same_X7_same_r3 _ (List.mem_of_getElem? (i := 16) rfl)) (mj_cons (mc_X7_same_X7_same_r3 _ (List.mem_of_getElem? (i := 17) rfl)) (mj_cons (mc_X7_same_X7_same_r1 _ (List.mem_of_getElem? (i := 7) rfl)) (mj_cons (mc_X7_same_X7_same_r3 _ (List.mem_of_getElem? (i := 18) rfl)) (mj_cons (mc_X7_same_X7_same_r2 _ (List.mem_of_getElem? (i := 10) rfl)) (mj_cons (mc_X7_same_X7_same_r2 _ (List.mem_of_getElem? (i := 11) rfl)) (mj_cons (mc_X7_same_X7_same_r2 _ (List.mem_of_getElem? (i := 12) rfl)) (mj_cons (mc_X7_same_X7_same_r2 _ (List.mem_of_getElem? (i := 13) rfl)) (mj_cons (mc_X7_same_X7_same_r2 _ (List.mem_of_getElem? (i := 8) rfl)) mj_nil))))))))))))))))))) mc_X7_same_X70)) (by decide +kernel)
set_option maxRecDepth 20000 in
theorem gX7_same_X7_asTurned : GoodIn wsX7_same (wsV RX7 441 RX7 yX7_asTurned wsX7_asTurned) := goodIn_app (mj_good (mj_cons (mc_X7_same_X7_same_r3 _ (List.mem_of_getElem? (i := 11) rfl)) (mj_cons (mc_X7_same_X7_same_r3 _ (List.mem_of_getElem? (i := 12) rfl)) (mj_cons (mc_X7_same_X7_same_r3 _ (List.mem_of_getElem? (i := 13) rfl)) (mj_cons (mc_X7_same_X7_same_r1 _ (List.mem_of_getElem? (i := 7) rfl)) mj_nil)))) (by decide +kernel)) ggX7_same_X7_asTurned
theorem dX7_same_0 : decode cX7_same 0 = .ok (.aload_n 0, 1) := by decide +kernel
theorem dX7_same_1 : decode cX7_same 1 = .ok (.iconst 0, 1) := by decide +kernel
theorem dX7_same_2 : decode cX7_same 2 = .ok (.putfield 184, 3) := by decide +kernel
theorem dX7_same_5 : decode cX7_same 5 = .ok (.aload_n 0, 1) := by decide +kernel
theorem dX7_same_6 : decode cX7_same 6 = .ok (.iconst 0, 1) := by decide +kernel
theorem dX7_same_7 : decode cX7_same 7 = .ok (.putfield 187, 3) := by decide +kernel
theorem dX7_same_10 : decode cX7_same 10 = .ok (.aload_n 0, 1) := by decide +kernel
theorem dX7_same_11 : decode cX7_same 11 = .ok (.getfield 303, 3) := by decide +kernel
theorem dX7_same_14 : decode cX7_same 14 = .ok (.ifCond .ne 9, 3) := by decide +kernel
theorem dX7_same_17 : decode cX7_same 17 = .ok (.aload_n 0, 1) := by decide +kernel
theorem dX7_same_18 : decode cX7_same 18 = .ok (.iconst 1, 1) := by decide +kernel
theorem dX7_same_19 : decode cX7_same 19 = .ok (.invokevirtual 290, 3) := by decide +kernel
theorem dX7_same_22 : decode cX7_same 22 = .ok (.ireturn, 1) := by decide +kernel
theorem dX7_same_23 : decode cX7_same 23 = .ok (.iload_n 1, 1) := by decide +kernel
theorem dX7_same_24 : decode cX7_same 24 = .ok (.ifCond .lt 8, 3) := by decide +kernel
theorem dX7_same_27 : decode cX7_same 27 = .ok (.iload_n 1, 1) := by decide +kernel
theorem dX7_same_28 : decode cX7_same 28 = .ok (.iconst 3, 1) := by decide +kernel
theorem dX7_same_29 : decode cX7_same 29 = .ok (.if_icmp .le 9, 3) := by decide +kernel
theorem dX7_same_32 : decode cX7_same 32 = .ok (.aload_n 0, 1) := by decide +kernel
theorem dX7_same_33 : decode cX7_same 33 = .ok (.iconst 2, 1) := by decide +kernel
theorem dX7_same_34 : decode cX7_same 34 = .ok (.invokevirtual 290, 3) := by decide +kernel
theorem dX7_same_37 : decode cX7_same 37 = .ok (.ireturn, 1) := by decide +kernel
theorem dX7_same_38 : decode cX7_same 38 = .ok (.aload_n 0, 1) := by decide +kernel
theorem dX7_same_39 : decode cX7_same 39 = .ok (.getfield 124, 3) := by decide +kernel
theorem dX7_same_42 : decode cX7_same 42 = .ok (.iload_n 1, 1) := by decide +kernel
theorem dX7_same_43 : decode cX7_same 43 = .ok (.baload, 1) := by decide +kernel
theorem dX7_same_44 : decode cX7_same 44 = .ok (.ifCond .ne 10, 3) := by decide +kernel
theorem dX7_same_47 : decode cX7_same 47 = .ok (.aload_n 0, 1) := by decide +kernel
theorem dX7_same_48 : decode cX7_same 48 = .ok (.bipush 11, 2) := by decide +kernel
theorem dX7_same_50 : decode cX7_same 50 = .ok (.invokevirtual 290, 3) := by decide +kernel
theorem dX7_same_53 : decode cX7_same 53 = .ok (.ireturn, 1) := by decide +kernel
theorem dX7_same_54 : decode cX7_same 54 = .ok (.aload_n 0, 1) := by decide +kernel
theorem dX7_same_55 : decode cX7_same 55 = .ok (.invokevirtual 435, 3) := by decide +kernel
theorem dX7_same_58 : decode cX7_same 58 = .ok (.iconst 0, 1) := by decide +kernel
theorem dX7_same_59 : decode cX7_same 59 = .ok (.istore_n 2, 1) := by decide +kernel
theorem dX7_same_60 : decode cX7_same 60 = .ok (.iload_n 2, 1) := by decide +kernel
theorem dX7_same_61 : decode cX7_same 61 = .ok (.bipush 8, 2) := by decide +kernel
theorem dX7_same_63 : decode cX7_same 63 = .ok (.if_icmp .ge 42, 3) := by decide +kernel
theorem dX7_same_66 : decode cX7_same 66 = .ok (.aload_n 0, 1) := by decide +kernel
theorem dX7_same_67 : decode cX7_same 67 = .ok (.iload_n 1, 1) := by decide +kernel
theorem dX7_same_68 : decode cX7_same 68 = .ok (.invokevirtual 438, 3) := by decide +kernel
theorem dX7_same_71 : decode cX7_same 71 = .ok (.ifCond .eq 13, 3) := by decide +kernel
theorem dX7_same_74 : decode cX7_same 74 = .ok (.iload_n 2, 1) := by decide +kernel
theorem dX7_same_75 : decode cX7_same 75 = .ok (.ifCond .ne 7, 3) := by decide +kernel
theorem dX7_same_78 : decode cX7_same 78 = .ok (.iconst 1, 1) := by decide +kernel
theorem dX7_same_79 : decode cX7_same 79 = .ok (.goto 4, 3) := by decide +kernel
theorem dX7_same_82 : decode cX7_same 82 = .ok (.iconst 2, 1) := by decide +kernel
theorem dX7_same_83 : decode cX7_same 83 = .ok (.ireturn, 1) := by decide +kernel
theorem dX7_same_84 : decode cX7_same 84 = .ok (.aload_n 0, 1) := by decide +kernel
theorem dX7_same_85 : decode cX7_same 85 = .ok (.iconst 0, 1) := by decide +kernel
theorem dX7_same_86 : decode cX7_same 86 = .ok (.invokevirtual 441, 3) := by decide +kernel
theorem dX7_same_89 : decode cX7_same 89 = .ok (.iload_n 2, 1) := by decide +kernel
theorem dX7_same_90 : decode cX7_same 90 = .ok (.iconst 3, 1) := by decide +kernel
theorem dX7_same_91 : decode cX7_same 91 = .ok (.if_icmp .ne 8, 3) := by decide +kernel
theorem dX7_same_94 : decode cX7_same 94 = .ok (.aload_n 0, 1) := by decide +kernel
theorem dX7_same_95 : decode cX7_same 95 = .ok (.iconst 1, 1) := by decide +kernel
theorem dX7_same_96 : decode cX7_same 96 = .ok (.invokevirtual 441, 3) := by decide +kernel
theorem dX7_same_99 : decode cX7_same 99 = .ok (.iinc 2 1, 3) := by decide +kernel
theorem dX7_same_102 : decode cX7_same 102 = .ok (.goto (-42), 3) := by decide +kernel
theorem dX7_same_105 : decode cX7_same 105 = .ok (.iconst 0, 1) := by decide +kernel
theorem dX7_same_106 : decode cX7_same 106 = .ok (.ireturn, 1) := by decide +kernel
set_option maxRecDepth 20000 in
theorem mc_X7_show_X7_show_r1 : mjIn wsX7_show wsX7_show_r1 := fun w h => (List.mem_cons_of_mem _ (List.mem_append_left _ (List.mem_append_left _ h)))
set_option maxRecDepth 20000 in
theorem mc_X7_show_X70 : mjIn wsX7_show wsX70 := fun w h => (List.mem_cons_of_mem _ (List.mem_append_right _ h))
set_option maxRecDepth 20000 in
theorem ggX7_show_X7_refuse : GoodIn wsX7_show wsX7_refuse := mj_good (mj_cons (mc_X7_show_X7_show_r1 _ (List.mem_of_getElem? (i := 13) rfl)) (mj_app (mj_cons (mc_X7_show_X7_show_r1 _ (List.mem_of_getElem? (i := 1) rfl)) mj_nil) mc_X7_show_X70)) (by decide +kernel)
set_option maxRecDepth 20000 in
theorem gX7_show_X7_refuse : GoodIn wsX7_show (wsV RX7 290 RX7 yX7_refuse wsX7_refuse) := goodIn_app (mj_good (mj_cons (mc_X7_show_X7_show_r1 _ (List.mem_of_getElem? (i := 9) rfl)) (mj_cons (mc_X7_show_X7_show_r1 _ (List.mem_of_getElem? (i := 10) rfl)) (mj_cons (mc_X7_show_X7_show_r1 _ (List.mem_of_getElem? (i := 11) rfl)) (mj_cons (mc_X7_show_X7_show_r1 _ (List.mem_of_getElem? (i := 12) rfl)) mj_nil)))) (by decide +kernel)) ggX7_show_X7_refuse
set_option maxRecDepth 20000 in
theorem ggX7_show_X7_isLine : GoodIn wsX7_show wsX7_isLine := mj_good (mj_cons (mc_X7_show_X7_show_r1 _ (List.mem_of_getElem? (i := 17) rfl)) (mj_app (mj_cons (mc_X7_show_X7_show_r1 _ (List.mem_of_getElem? (i := 18) rfl)) mj_nil) mc_X7_show_X70)) (by decide +kernel)
set_option maxRecDepth 20000 in
theorem gX7_show_X7_isLine : GoodIn wsX7_show (wsV RX7 345 RX7 yX7_isLine wsX7_isLine) := goodIn_app (mj_good (mj_cons (mc_X7_show_X7_show_r1 _ (List.mem_of_getElem? (i := 14) rfl)) (mj_cons (mc_X7_show_X7_show_r1 _ (List.mem_of_getElem? (i := 15) rfl)) (mj_cons (mc_X7_show_X7_show_r1 _ (List.mem_of_getElem? (i := 16) rfl)) (mj_cons (mc_X7_show_X7_show_r1 _ (List.mem_of_getElem? (i := 12) rfl)) mj_nil)))) (by decide +kernel)) ggX7_show_X7_isLine
set_option maxRecDepth 20000 in
theorem mc_X7_show_X7_show_r2 : mjIn wsX7_show wsX7_show_r2 := fun w h => (List.mem_cons_of_mem _ (List.mem_append_left _ (List.mem_append_right _ h)))
set_option maxRecDepth 20000 in
theorem ggX7_show_X7_layAll : GoodIn wsX7_show wsX7_layAll := mj_good (mj_cons (mc_X7_show_X7_show_r1 _ (List.mem_of_getElem? (i := 22) rfl)) (mj_app (mj_app (mj_cons (mc_X7_show_X7_show_r1 _ (List.mem_of_getElem? (i := 23) rfl)) (mj_cons (mc_X7_show_X7_show_r2 _ (List.mem_of_getElem? (i := 0) rfl)) (mj_cons (mc_X7_show_X7_show_r2 _ (List.mem_of_getElem? (i := 1) rfl)) (mj_cons (mc_X7_show_X7_show_r2 _ (List.mem_of_getElem? (i := 2) rfl)) (mj_cons (mc_X7_show_X7_show_r2 _ (List.mem_of_getElem? (i := 3) rfl)) (mj_cons (mc_X7_show_X7_show_r2 _ (List.mem_of_getElem? (i := 4) rfl)) (mj_cons (mc_X7_show_X7_show_r1 _ (List.mem_of_getElem? (i := 12) rfl)) (mj_cons (mc_X7_show_X7_show_r2 _ (List.mem_of_getElem? (i := 5) rfl)) (mj_cons (mc_X7_show_X7_show_r1 _ (List.mem_of_getElem? (i := 5) rfl)) (mj_cons (mc_X7_show_X7_show_r2 _ (List.mem_of_getElem? (i := 6) rfl)) (mj_cons (mc_X7_show_X7_show_r2 _ (List.mem_of_getElem? (i := 7) rfl)) (mj_cons (mc_X7_show_X7_show_r2 _ (List.mem_of_getElem? (i := 8) rfl)) (mj_cons (mc_X7_show_X7_show_r2 _ (List.mem_of_getElem? (i := 9) rfl)) (mj_cons (mc_X7_show_X7_show_r2 _ (List.mem_of_getElem? (i := 10) rfl)) (mj_cons (mc_X7_show_X7_show_r2 _ (List.mem_of_getElem? (i := 11) rfl)) (mj_cons (mc_X7_show_X7_show_r2 _ (List.mem_of_getElem? (i := 12) rfl)) (mj_cons (mc_X7_show_X7_show_r2 _ (List.mem_of_getElem? (i := 13) rfl)) (mj_cons (mc_X7_show_X7_show_r1 _ (List.mem_of_getElem? (i := 8) rfl)) (mj_cons (mc_X7_show_X7_show_r2 _ (List.mem_of_getElem? (i := 14) rfl)) (mj_cons (mc_X7_show_X7_show_r2 _ (List.mem_of_getElem? (i := 15) rfl)) (mj_cons (mc_X7_show_X7_show_r2 _ (List.mem_of_getElem? (i := 16) rfl)) (mj_cons (mc_X7_show_X7_show_r2 _ (List.mem_of_getElem? (i := 17) rfl)) (mj_cons (mc_X7_show_X7_show_r2 _ (List.mem_of_getElem? (i := 18) rfl)) (mj_cons (mc_X7_show_X7_show_r2 _ (List.mem_of_getElem? (i := 19) rfl)) mj_nil)))))))))))))))))))))))) (mj_cons (mc_X7_show_X7_show_r2 _ (List.mem_of_getElem? (i := 20) rfl)) (mj_cons (mc_X7_show_X7_show_r2 _ (List.mem_of_getElem? (i := 21) rfl)) (mj_cons (mc_X7_show_X7_show_r2 _ (List.mem_of_getElem? (i := 22) rfl)) (mj_cons (mc_X7_show_X7_show_r2 _ (List.mem_of_getElem? (i := 23) rfl)) mj_nil))))) mc_X7_show_X70)) (by decide +kernel)
set_option maxRecDepth 20000 in
theorem gX7_show_X7_layAll : GoodIn wsX7_show (wsV RX7 262 RX7 yX7_layAll wsX7_layAll) := goodIn_app (mj_good (mj_cons (mc_X7_show_X7_show_r1 _ (List.mem_of_getElem? (i := 19) rfl)) (mj_cons (mc_X7_show_X7_show_r1 _ (List.mem_of_getElem? (i := 20) rfl)) (mj_cons (mc_X7_show_X7_show_r1 _ (List.mem_of_getElem? (i := 21) rfl)) (mj_cons (mc_X7_show_X7_show_r1 _ (List.mem_of_getElem? (i := 12) rfl)) mj_nil)))) (by decide +kernel)) ggX7_show_X7_layAll
theorem dX7_show_0 : decode cX7_show 0 = .ok (.aload_n 0, 1) := by decide +kernel
theorem dX7_show_1 : decode cX7_show 1 = .ok (.iconst 0, 1) := by decide +kernel
theorem dX7_show_2 : decode cX7_show 2 = .ok (.putfield 184, 3) := by decide +kernel
theorem dX7_show_5 : decode cX7_show 5 = .ok (.aload_n 0, 1) := by decide +kernel
theorem dX7_show_6 : decode cX7_show 6 = .ok (.iconst 0, 1) := by decide +kernel
theorem dX7_show_7 : decode cX7_show 7 = .ok (.putfield 187, 3) := by decide +kernel
theorem dX7_show_10 : decode cX7_show 10 = .ok (.aload_n 0, 1) := by decide +kernel
theorem dX7_show_11 : decode cX7_show 11 = .ok (.getfield 303, 3) := by decide +kernel
theorem dX7_show_14 : decode cX7_show 14 = .ok (.ifCond .ne 9, 3) := by decide +kernel
theorem dX7_show_17 : decode cX7_show 17 = .ok (.aload_n 0, 1) := by decide +kernel
theorem dX7_show_18 : decode cX7_show 18 = .ok (.iconst 1, 1) := by decide +kernel
theorem dX7_show_19 : decode cX7_show 19 = .ok (.invokevirtual 290, 3) := by decide +kernel
theorem dX7_show_22 : decode cX7_show 22 = .ok (.ireturn, 1) := by decide +kernel
theorem dX7_show_23 : decode cX7_show 23 = .ok (.aload_n 0, 1) := by decide +kernel
theorem dX7_show_24 : decode cX7_show 24 = .ok (.iload_n 1, 1) := by decide +kernel
theorem dX7_show_25 : decode cX7_show 25 = .ok (.invokevirtual 345, 3) := by decide +kernel
theorem dX7_show_28 : decode cX7_show 28 = .ok (.ifCond .ne 9, 3) := by decide +kernel
theorem dX7_show_31 : decode cX7_show 31 = .ok (.aload_n 0, 1) := by decide +kernel
theorem dX7_show_32 : decode cX7_show 32 = .ok (.iconst 2, 1) := by decide +kernel
theorem dX7_show_33 : decode cX7_show 33 = .ok (.invokevirtual 290, 3) := by decide +kernel
theorem dX7_show_36 : decode cX7_show 36 = .ok (.ireturn, 1) := by decide +kernel
theorem dX7_show_37 : decode cX7_show 37 = .ok (.aload_n 0, 1) := by decide +kernel
theorem dX7_show_38 : decode cX7_show 38 = .ok (.invokevirtual 262, 3) := by decide +kernel
theorem dX7_show_41 : decode cX7_show 41 = .ok (.aload_n 0, 1) := by decide +kernel
theorem dX7_show_42 : decode cX7_show 42 = .ok (.aload_n 0, 1) := by decide +kernel
theorem dX7_show_43 : decode cX7_show 43 = .ok (.getfield 190, 3) := by decide +kernel
theorem dX7_show_46 : decode cX7_show 46 = .ok (.putfield 445, 3) := by decide +kernel
theorem dX7_show_49 : decode cX7_show 49 = .ok (.iconst 0, 1) := by decide +kernel
theorem dX7_show_50 : decode cX7_show 50 = .ok (.istore_n 2, 1) := by decide +kernel
theorem dX7_show_51 : decode cX7_show 51 = .ok (.iload_n 2, 1) := by decide +kernel
theorem dX7_show_52 : decode cX7_show 52 = .ok (.aload_n 0, 1) := by decide +kernel
theorem dX7_show_53 : decode cX7_show 53 = .ok (.getfield 190, 3) := by decide +kernel
theorem dX7_show_56 : decode cX7_show 56 = .ok (.if_icmp .ge 77, 3) := by decide +kernel
theorem dX7_show_59 : decode cX7_show 59 = .ok (.aload_n 0, 1) := by decide +kernel
theorem dX7_show_60 : decode cX7_show 60 = .ok (.getfield 118, 3) := by decide +kernel
theorem dX7_show_63 : decode cX7_show 63 = .ok (.iload_n 2, 1) := by decide +kernel
theorem dX7_show_64 : decode cX7_show 64 = .ok (.bipush 8, 2) := by decide +kernel
theorem dX7_show_66 : decode cX7_show 66 = .ok (.iload_n 1, 1) := by decide +kernel
theorem dX7_show_67 : decode cX7_show 67 = .ok (.imul, 1) := by decide +kernel
theorem dX7_show_68 : decode cX7_show 68 = .ok (.iadd, 1) := by decide +kernel
theorem dX7_show_69 : decode cX7_show 69 = .ok (.iaload, 1) := by decide +kernel
theorem dX7_show_70 : decode cX7_show 70 = .ok (.istore_n 3, 1) := by decide +kernel
theorem dX7_show_71 : decode cX7_show 71 = .ok (.aload_n 0, 1) := by decide +kernel
theorem dX7_show_72 : decode cX7_show 72 = .ok (.getfield 154, 3) := by decide +kernel
theorem dX7_show_75 : decode cX7_show 75 = .ok (.iload_n 2, 1) := by decide +kernel
theorem dX7_show_76 : decode cX7_show 76 = .ok (.aload_n 0, 1) := by decide +kernel
theorem dX7_show_77 : decode cX7_show 77 = .ok (.getfield 19, 3) := by decide +kernel
theorem dX7_show_80 : decode cX7_show 80 = .ok (.iload_n 2, 1) := by decide +kernel
theorem dX7_show_81 : decode cX7_show 81 = .ok (.bipush 8, 2) := by decide +kernel
theorem dX7_show_83 : decode cX7_show 83 = .ok (.iload_n 1, 1) := by decide +kernel
theorem dX7_show_84 : decode cX7_show 84 = .ok (.imul, 1) := by decide +kernel
theorem dX7_show_85 : decode cX7_show 85 = .ok (.iadd, 1) := by decide +kernel
theorem dX7_show_86 : decode cX7_show 86 = .ok (.baload, 1) := by decide +kernel
theorem dX7_show_87 : decode cX7_show 87 = .ok (.ifCond .eq 8, 3) := by decide +kernel
theorem dX7_show_90 : decode cX7_show 90 = .ok (.bipush 35, 2) := by decide +kernel
theorem dX7_show_92 : decode cX7_show 92 = .ok (.goto 33, 3) := by decide +kernel
theorem dX7_show_95 : decode cX7_show 95 = .ok (.iload_n 3, 1) := by decide +kernel
theorem dX7_show_96 : decode cX7_show 96 = .ok (.ifCond .ge 8, 3) := by decide +kernel
theorem dX7_show_99 : decode cX7_show 99 = .ok (.bipush 46, 2) := by decide +kernel
theorem dX7_show_101 : decode cX7_show 101 = .ok (.goto 24, 3) := by decide +kernel
theorem dX7_show_104 : decode cX7_show 104 = .ok (.aload_n 0, 1) := by decide +kernel
theorem dX7_show_105 : decode cX7_show 105 = .ok (.getfield 23, 3) := by decide +kernel
theorem dX7_show_108 : decode cX7_show 108 = .ok (.iload_n 3, 1) := by decide +kernel
theorem dX7_show_109 : decode cX7_show 109 = .ok (.iaload, 1) := by decide +kernel
theorem dX7_show_110 : decode cX7_show 110 = .ok (.iconst 5, 1) := by decide +kernel
theorem dX7_show_111 : decode cX7_show 111 = .ok (.if_icmp .ne 10, 3) := by decide +kernel
theorem dX7_show_114 : decode cX7_show 114 = .ok (.bipush 65, 2) := by decide +kernel
theorem dX7_show_116 : decode cX7_show 116 = .ok (.iload_n 3, 1) := by decide +kernel
theorem dX7_show_117 : decode cX7_show 117 = .ok (.iadd, 1) := by decide +kernel
theorem dX7_show_118 : decode cX7_show 118 = .ok (.goto 7, 3) := by decide +kernel
theorem dX7_show_121 : decode cX7_show 121 = .ok (.bipush 97, 2) := by decide +kernel
theorem dX7_show_123 : decode cX7_show 123 = .ok (.iload_n 3, 1) := by decide +kernel
theorem dX7_show_124 : decode cX7_show 124 = .ok (.iadd, 1) := by decide +kernel
theorem dX7_show_125 : decode cX7_show 125 = .ok (.i2b, 1) := by decide +kernel
theorem dX7_show_126 : decode cX7_show 126 = .ok (.bastore, 1) := by decide +kernel
theorem dX7_show_127 : decode cX7_show 127 = .ok (.iinc 2 1, 3) := by decide +kernel
theorem dX7_show_130 : decode cX7_show 130 = .ok (.goto (-79), 3) := by decide +kernel
theorem dX7_show_133 : decode cX7_show 133 = .ok (.aload_n 0, 1) := by decide +kernel
theorem dX7_show_134 : decode cX7_show 134 = .ok (.getfield 445, 3) := by decide +kernel
theorem dX7_show_137 : decode cX7_show 137 = .ok (.ireturn, 1) := by decide +kernel
theorem dX7_out_0 : decode cX7_out 0 = .ok (.aload_n 0, 1) := by decide +kernel
theorem dX7_out_1 : decode cX7_out 1 = .ok (.iconst 0, 1) := by decide +kernel
theorem dX7_out_2 : decode cX7_out 2 = .ok (.putfield 184, 3) := by decide +kernel
theorem dX7_out_5 : decode cX7_out 5 = .ok (.iload_n 1, 1) := by decide +kernel
theorem dX7_out_6 : decode cX7_out 6 = .ok (.ifCond .lt 11, 3) := by decide +kernel
theorem dX7_out_9 : decode cX7_out 9 = .ok (.iload_n 1, 1) := by decide +kernel
theorem dX7_out_10 : decode cX7_out 10 = .ok (.aload_n 0, 1) := by decide +kernel
theorem dX7_out_11 : decode cX7_out 11 = .ok (.getfield 445, 3) := by decide +kernel
theorem dX7_out_14 : decode cX7_out 14 = .ok (.if_icmp .lt 10, 3) := by decide +kernel
theorem dX7_out_17 : decode cX7_out 17 = .ok (.aload_n 0, 1) := by decide +kernel
theorem dX7_out_18 : decode cX7_out 18 = .ok (.iconst 1, 1) := by decide +kernel
theorem dX7_out_19 : decode cX7_out 19 = .ok (.putfield 184, 3) := by decide +kernel
theorem dX7_out_22 : decode cX7_out 22 = .ok (.iconst 0, 1) := by decide +kernel
theorem dX7_out_23 : decode cX7_out 23 = .ok (.ireturn, 1) := by decide +kernel
theorem dX7_out_24 : decode cX7_out 24 = .ok (.aload_n 0, 1) := by decide +kernel
theorem dX7_out_25 : decode cX7_out 25 = .ok (.getfield 154, 3) := by decide +kernel
theorem dX7_out_28 : decode cX7_out 28 = .ok (.iload_n 1, 1) := by decide +kernel
theorem dX7_out_29 : decode cX7_out 29 = .ok (.baload, 1) := by decide +kernel
theorem dX7_out_30 : decode cX7_out 30 = .ok (.ireturn, 1) := by decide +kernel
