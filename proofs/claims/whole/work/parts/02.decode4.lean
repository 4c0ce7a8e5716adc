theorem dc_M_stableKind_68 : decode bc_M_stableKind 68 = .ok (.aload_n 0, 1) := by decide +kernel
theorem dc_M_stableKind_69 : decode bc_M_stableKind 69 = .ok (.ldc 179, 2) := by decide +kernel
theorem dc_M_stableKind_71 : decode bc_M_stableKind 71 = .ok (.invokevirtual 144, 3) := by decide +kernel
theorem dc_M_stableKind_74 : decode bc_M_stableKind 74 = .ok (.ifCond .eq 8, 3) := by decide +kernel
theorem dc_M_stableKind_77 : decode bc_M_stableKind 77 = .ok (.bipush 14, 2) := by decide +kernel
theorem dc_M_stableKind_79 : decode bc_M_stableKind 79 = .ok (.goto 46, 3) := by decide +kernel
theorem dc_M_stableKind_82 : decode bc_M_stableKind 82 = .ok (.aload_n 0, 1) := by decide +kernel
theorem dc_M_stableKind_83 : decode bc_M_stableKind 83 = .ok (.ldc 181, 2) := by decide +kernel
theorem dc_M_stableKind_85 : decode bc_M_stableKind 85 = .ok (.invokevirtual 144, 3) := by decide +kernel
theorem dc_M_stableKind_88 : decode bc_M_stableKind 88 = .ok (.ifCond .eq 8, 3) := by decide +kernel
theorem dc_M_stableKind_91 : decode bc_M_stableKind 91 = .ok (.bipush 15, 2) := by decide +kernel
theorem dc_M_stableKind_93 : decode bc_M_stableKind 93 = .ok (.goto 32, 3) := by decide +kernel
theorem dc_M_stableKind_96 : decode bc_M_stableKind 96 = .ok (.aload_n 0, 1) := by decide +kernel
theorem dc_M_stableKind_97 : decode bc_M_stableKind 97 = .ok (.ldc 150, 2) := by decide +kernel
theorem dc_M_stableKind_99 : decode bc_M_stableKind 99 = .ok (.invokevirtual 144, 3) := by decide +kernel
theorem dc_M_stableKind_102 : decode bc_M_stableKind 102 = .ok (.ifCond .eq 8, 3) := by decide +kernel
theorem dc_M_stableKind_105 : decode bc_M_stableKind 105 = .ok (.bipush 16, 2) := by decide +kernel
theorem dc_M_stableKind_107 : decode bc_M_stableKind 107 = .ok (.goto 18, 3) := by decide +kernel
theorem dc_M_stableKind_110 : decode bc_M_stableKind 110 = .ok (.aload_n 0, 1) := by decide +kernel
theorem dc_M_stableKind_111 : decode bc_M_stableKind 111 = .ok (.ldc 152, 2) := by decide +kernel
theorem dc_M_stableKind_113 : decode bc_M_stableKind 113 = .ok (.invokevirtual 144, 3) := by decide +kernel
theorem dc_M_stableKind_116 : decode bc_M_stableKind 116 = .ok (.ifCond .eq 8, 3) := by decide +kernel
theorem dc_M_stableKind_119 : decode bc_M_stableKind 119 = .ok (.bipush 17, 2) := by decide +kernel
theorem dc_M_stableKind_121 : decode bc_M_stableKind 121 = .ok (.goto 4, 3) := by decide +kernel
theorem dc_M_stableKind_124 : decode bc_M_stableKind 124 = .ok (.iconst (-1), 1) := by decide +kernel
theorem dc_M_stableKind_125 : decode bc_M_stableKind 125 = .ok (.ireturn, 1) := by decide +kernel
theorem dc_M_operation_0 : decode bc_M_operation 0 = .ok (.aload_n 0, 1) := by decide +kernel
theorem dc_M_operation_1 : decode bc_M_operation 1 = .ok (.ldc 154, 2) := by decide +kernel
theorem dc_M_operation_3 : decode bc_M_operation 3 = .ok (.invokevirtual 144, 3) := by decide +kernel
theorem dc_M_operation_6 : decode bc_M_operation 6 = .ok (.ifCond .eq 7, 3) := by decide +kernel
theorem dc_M_operation_9 : decode bc_M_operation 9 = .ok (.iconst 3, 1) := by decide +kernel
theorem dc_M_operation_10 : decode bc_M_operation 10 = .ok (.goto 86, 3) := by decide +kernel
theorem dc_M_operation_13 : decode bc_M_operation 13 = .ok (.aload_n 0, 1) := by decide +kernel
theorem dc_M_operation_14 : decode bc_M_operation 14 = .ok (.ldc 156, 2) := by decide +kernel
theorem dc_M_operation_16 : decode bc_M_operation 16 = .ok (.invokevirtual 144, 3) := by decide +kernel
theorem dc_M_operation_19 : decode bc_M_operation 19 = .ok (.ifCond .eq 7, 3) := by decide +kernel
theorem dc_M_operation_22 : decode bc_M_operation 22 = .ok (.iconst 4, 1) := by decide +kernel
theorem dc_M_operation_23 : decode bc_M_operation 23 = .ok (.goto 73, 3) := by decide +kernel
theorem dc_M_operation_26 : decode bc_M_operation 26 = .ok (.aload_n 0, 1) := by decide +kernel
theorem dc_M_operation_27 : decode bc_M_operation 27 = .ok (.ldc 158, 2) := by decide +kernel
theorem dc_M_operation_29 : decode bc_M_operation 29 = .ok (.invokevirtual 144, 3) := by decide +kernel
theorem dc_M_operation_32 : decode bc_M_operation 32 = .ok (.ifCond .eq 7, 3) := by decide +kernel
theorem dc_M_operation_35 : decode bc_M_operation 35 = .ok (.iconst 5, 1) := by decide +kernel
theorem dc_M_operation_36 : decode bc_M_operation 36 = .ok (.goto 60, 3) := by decide +kernel
theorem dc_M_operation_39 : decode bc_M_operation 39 = .ok (.aload_n 0, 1) := by decide +kernel
theorem dc_M_operation_40 : decode bc_M_operation 40 = .ok (.ldc 160, 2) := by decide +kernel
theorem dc_M_operation_42 : decode bc_M_operation 42 = .ok (.invokevirtual 144, 3) := by decide +kernel
theorem dc_M_operation_45 : decode bc_M_operation 45 = .ok (.ifCond .eq 8, 3) := by decide +kernel
theorem dc_M_operation_48 : decode bc_M_operation 48 = .ok (.bipush 6, 2) := by decide +kernel
theorem dc_M_operation_50 : decode bc_M_operation 50 = .ok (.goto 46, 3) := by decide +kernel
theorem dc_M_operation_53 : decode bc_M_operation 53 = .ok (.aload_n 0, 1) := by decide +kernel
theorem dc_M_operation_54 : decode bc_M_operation 54 = .ok (.ldc 162, 2) := by decide +kernel
theorem dc_M_operation_56 : decode bc_M_operation 56 = .ok (.invokevirtual 144, 3) := by decide +kernel
theorem dc_M_operation_59 : decode bc_M_operation 59 = .ok (.ifCond .eq 8, 3) := by decide +kernel
theorem dc_M_operation_62 : decode bc_M_operation 62 = .ok (.bipush 7, 2) := by decide +kernel
theorem dc_M_operation_64 : decode bc_M_operation 64 = .ok (.goto 32, 3) := by decide +kernel
theorem dc_M_operation_67 : decode bc_M_operation 67 = .ok (.aload_n 0, 1) := by decide +kernel
theorem dc_M_operation_68 : decode bc_M_operation 68 = .ok (.ldc 164, 2) := by decide +kernel
theorem dc_M_operation_70 : decode bc_M_operation 70 = .ok (.invokevirtual 144, 3) := by decide +kernel
theorem dc_M_operation_73 : decode bc_M_operation 73 = .ok (.ifCond .eq 8, 3) := by decide +kernel
theorem dc_M_operation_76 : decode bc_M_operation 76 = .ok (.bipush 8, 2) := by decide +kernel
theorem dc_M_operation_78 : decode bc_M_operation 78 = .ok (.goto 18, 3) := by decide +kernel
theorem dc_M_operation_81 : decode bc_M_operation 81 = .ok (.aload_n 0, 1) := by decide +kernel
theorem dc_M_operation_82 : decode bc_M_operation 82 = .ok (.ldc 166, 2) := by decide +kernel
theorem dc_M_operation_84 : decode bc_M_operation 84 = .ok (.invokevirtual 144, 3) := by decide +kernel
theorem dc_M_operation_87 : decode bc_M_operation 87 = .ok (.ifCond .eq 8, 3) := by decide +kernel
theorem dc_M_operation_90 : decode bc_M_operation 90 = .ok (.bipush 9, 2) := by decide +kernel
theorem dc_M_operation_92 : decode bc_M_operation 92 = .ok (.goto 4, 3) := by decide +kernel
theorem dc_M_operation_95 : decode bc_M_operation 95 = .ok (.iconst (-1), 1) := by decide +kernel
theorem dc_M_operation_96 : decode bc_M_operation 96 = .ok (.ireturn, 1) := by decide +kernel
theorem dc_M_changeableKind_0 : decode bc_M_changeableKind 0 = .ok (.aload_n 0, 1) := by decide +kernel
theorem dc_M_changeableKind_1 : decode bc_M_changeableKind 1 = .ok (.ldc 183, 2) := by decide +kernel
theorem dc_M_changeableKind_3 : decode bc_M_changeableKind 3 = .ok (.invokevirtual 144, 3) := by decide +kernel
theorem dc_M_changeableKind_6 : decode bc_M_changeableKind 6 = .ok (.ifCond .eq 8, 3) := by decide +kernel
theorem dc_M_changeableKind_9 : decode bc_M_changeableKind 9 = .ok (.bipush 18, 2) := by decide +kernel
theorem dc_M_changeableKind_11 : decode bc_M_changeableKind 11 = .ok (.goto 74, 3) := by decide +kernel
theorem dc_M_changeableKind_14 : decode bc_M_changeableKind 14 = .ok (.aload_n 0, 1) := by decide +kernel
theorem dc_M_changeableKind_15 : decode bc_M_changeableKind 15 = .ok (.ldc 185, 2) := by decide +kernel
theorem dc_M_changeableKind_17 : decode bc_M_changeableKind 17 = .ok (.invokevirtual 144, 3) := by decide +kernel
theorem dc_M_changeableKind_20 : decode bc_M_changeableKind 20 = .ok (.ifCond .eq 8, 3) := by decide +kernel
theorem dc_M_changeableKind_23 : decode bc_M_changeableKind 23 = .ok (.bipush 19, 2) := by decide +kernel
theorem dc_M_changeableKind_25 : decode bc_M_changeableKind 25 = .ok (.goto 60, 3) := by decide +kernel
theorem dc_M_changeableKind_28 : decode bc_M_changeableKind 28 = .ok (.aload_n 0, 1) := by decide +kernel
theorem dc_M_changeableKind_29 : decode bc_M_changeableKind 29 = .ok (.ldc 171, 2) := by decide +kernel
theorem dc_M_changeableKind_31 : decode bc_M_changeableKind 31 = .ok (.invokevirtual 144, 3) := by decide +kernel
theorem dc_M_changeableKind_34 : decode bc_M_changeableKind 34 = .ok (.ifCond .eq 8, 3) := by decide +kernel
theorem dc_M_changeableKind_37 : decode bc_M_changeableKind 37 = .ok (.bipush 20, 2) := by decide +kernel
theorem dc_M_changeableKind_39 : decode bc_M_changeableKind 39 = .ok (.goto 46, 3) := by decide +kernel
theorem dc_M_changeableKind_42 : decode bc_M_changeableKind 42 = .ok (.aload_n 0, 1) := by decide +kernel
theorem dc_M_changeableKind_43 : decode bc_M_changeableKind 43 = .ok (.ldc 173, 2) := by decide +kernel
theorem dc_M_changeableKind_45 : decode bc_M_changeableKind 45 = .ok (.invokevirtual 144, 3) := by decide +kernel
theorem dc_M_changeableKind_48 : decode bc_M_changeableKind 48 = .ok (.ifCond .eq 8, 3) := by decide +kernel
theorem dc_M_changeableKind_51 : decode bc_M_changeableKind 51 = .ok (.bipush 21, 2) := by decide +kernel
theorem dc_M_changeableKind_53 : decode bc_M_changeableKind 53 = .ok (.goto 32, 3) := by decide +kernel
theorem dc_M_changeableKind_56 : decode bc_M_changeableKind 56 = .ok (.aload_n 0, 1) := by decide +kernel
theorem dc_M_changeableKind_57 : decode bc_M_changeableKind 57 = .ok (.ldc 175, 2) := by decide +kernel
theorem dc_M_changeableKind_59 : decode bc_M_changeableKind 59 = .ok (.invokevirtual 144, 3) := by decide +kernel
theorem dc_M_changeableKind_62 : decode bc_M_changeableKind 62 = .ok (.ifCond .eq 8, 3) := by decide +kernel
theorem dc_M_changeableKind_65 : decode bc_M_changeableKind 65 = .ok (.bipush 22, 2) := by decide +kernel
theorem dc_M_changeableKind_67 : decode bc_M_changeableKind 67 = .ok (.goto 18, 3) := by decide +kernel
theorem dc_M_changeableKind_70 : decode bc_M_changeableKind 70 = .ok (.aload_n 0, 1) := by decide +kernel
theorem dc_M_changeableKind_71 : decode bc_M_changeableKind 71 = .ok (.ldc 187, 2) := by decide +kernel
theorem dc_M_changeableKind_73 : decode bc_M_changeableKind 73 = .ok (.invokevirtual 144, 3) := by decide +kernel
theorem dc_M_changeableKind_76 : decode bc_M_changeableKind 76 = .ok (.ifCond .eq 8, 3) := by decide +kernel
theorem dc_M_changeableKind_79 : decode bc_M_changeableKind 79 = .ok (.bipush 23, 2) := by decide +kernel
theorem dc_M_changeableKind_81 : decode bc_M_changeableKind 81 = .ok (.goto 4, 3) := by decide +kernel
theorem dc_M_changeableKind_84 : decode bc_M_changeableKind 84 = .ok (.iconst (-1), 1) := by decide +kernel
theorem dc_M_changeableKind_85 : decode bc_M_changeableKind 85 = .ok (.ireturn, 1) := by decide +kernel
theorem dc_M_readParameter_0 : decode bc_M_readParameter 0 = .ok (.aload_n 0, 1) := by decide +kernel
theorem dc_M_readParameter_1 : decode bc_M_readParameter 1 = .ok (.aload_n 0, 1) := by decide +kernel
theorem dc_M_readParameter_2 : decode bc_M_readParameter 2 = .ok (.getfield 24, 3) := by decide +kernel
theorem dc_M_readParameter_5 : decode bc_M_readParameter 5 = .ok (.iload_n 1, 1) := by decide +kernel
theorem dc_M_readParameter_6 : decode bc_M_readParameter 6 = .ok (.iaload, 1) := by decide +kernel
theorem dc_M_readParameter_7 : decode bc_M_readParameter 7 = .ok (.bipush 8, 2) := by decide +kernel
theorem dc_M_readParameter_9 : decode bc_M_readParameter 9 = .ok (.if_icmp .ge 7, 3) := by decide +kernel
theorem dc_M_readParameter_12 : decode bc_M_readParameter 12 = .ok (.iconst 1, 1) := by decide +kernel
theorem dc_M_readParameter_13 : decode bc_M_readParameter 13 = .ok (.goto 4, 3) := by decide +kernel
theorem dc_M_readParameter_16 : decode bc_M_readParameter 16 = .ok (.iconst 0, 1) := by decide +kernel
theorem dc_M_readParameter_17 : decode bc_M_readParameter 17 = .ok (.invokevirtual 213, 3) := by decide +kernel
theorem dc_M_readParameter_20 : decode bc_M_readParameter 20 = .ok (.pop, 1) := by decide +kernel
theorem dc_M_readParameter_21 : decode bc_M_readParameter 21 = .ok (.aload_n 0, 1) := by decide +kernel
theorem dc_M_readParameter_22 : decode bc_M_readParameter 22 = .ok (.invokevirtual 232, 3) := by decide +kernel
theorem dc_M_readParameter_25 : decode bc_M_readParameter 25 = .ok (.iconst 0, 1) := by decide +kernel
theorem dc_M_readParameter_26 : decode bc_M_readParameter 26 = .ok (.istore_n 2, 1) := by decide +kernel
theorem dc_M_readParameter_27 : decode bc_M_readParameter 27 = .ok (.iconst 0, 1) := by decide +kernel
theorem dc_M_readParameter_28 : decode bc_M_readParameter 28 = .ok (.istore_n 3, 1) := by decide +kernel
theorem dc_M_readParameter_29 : decode bc_M_readParameter 29 = .ok (.iload_n 3, 1) := by decide +kernel
theorem dc_M_readParameter_30 : decode bc_M_readParameter 30 = .ok (.aload_n 0, 1) := by decide +kernel
theorem dc_M_readParameter_31 : decode bc_M_readParameter 31 = .ok (.getfield 24, 3) := by decide +kernel
theorem dc_M_readParameter_34 : decode bc_M_readParameter 34 = .ok (.iload_n 1, 1) := by decide +kernel
theorem dc_M_readParameter_35 : decode bc_M_readParameter 35 = .ok (.iaload, 1) := by decide +kernel
theorem dc_M_readParameter_36 : decode bc_M_readParameter 36 = .ok (.if_icmp .ge 38, 3) := by decide +kernel
theorem dc_M_readParameter_39 : decode bc_M_readParameter 39 = .ok (.iload_n 2, 1) := by decide +kernel
theorem dc_M_readParameter_40 : decode bc_M_readParameter 40 = .ok (.ifCond .ne 22, 3) := by decide +kernel
theorem dc_M_readParameter_43 : decode bc_M_readParameter 43 = .ok (.aload_n 0, 1) := by decide +kernel
theorem dc_M_readParameter_44 : decode bc_M_readParameter 44 = .ok (.getfield 37, 3) := by decide +kernel
theorem dc_M_readParameter_47 : decode bc_M_readParameter 47 = .ok (.bipush 8, 2) := by decide +kernel
theorem dc_M_readParameter_49 : decode bc_M_readParameter 49 = .ok (.iload_n 1, 1) := by decide +kernel
theorem dc_M_readParameter_50 : decode bc_M_readParameter 50 = .ok (.imul, 1) := by decide +kernel
theorem dc_M_readParameter_51 : decode bc_M_readParameter 51 = .ok (.iload_n 3, 1) := by decide +kernel
theorem dc_M_readParameter_52 : decode bc_M_readParameter 52 = .ok (.iadd, 1) := by decide +kernel
theorem dc_M_readParameter_53 : decode bc_M_readParameter 53 = .ok (.laload, 1) := by decide +kernel
theorem dc_M_readParameter_54 : decode bc_M_readParameter 54 = .ok (.aload_n 0, 1) := by decide +kernel
theorem dc_M_readParameter_55 : decode bc_M_readParameter 55 = .ok (.getfield 115, 3) := by decide +kernel
theorem dc_M_readParameter_58 : decode bc_M_readParameter 58 = .ok (.lcmp, 1) := by decide +kernel
theorem dc_M_readParameter_59 : decode bc_M_readParameter 59 = .ok (.ifCond .ne 7, 3) := by decide +kernel
theorem dc_M_readParameter_62 : decode bc_M_readParameter 62 = .ok (.iconst 1, 1) := by decide +kernel
theorem dc_M_readParameter_63 : decode bc_M_readParameter 63 = .ok (.goto 4, 3) := by decide +kernel
theorem dc_M_readParameter_66 : decode bc_M_readParameter 66 = .ok (.iconst 0, 1) := by decide +kernel
theorem dc_M_readParameter_67 : decode bc_M_readParameter 67 = .ok (.istore_n 2, 1) := by decide +kernel
theorem dc_M_readParameter_68 : decode bc_M_readParameter 68 = .ok (.iinc 3 1, 3) := by decide +kernel
theorem dc_M_readParameter_71 : decode bc_M_readParameter 71 = .ok (.goto (-42), 3) := by decide +kernel
theorem dc_M_readParameter_74 : decode bc_M_readParameter 74 = .ok (.aload_n 0, 1) := by decide +kernel
theorem dc_M_readParameter_75 : decode bc_M_readParameter 75 = .ok (.aload_n 0, 1) := by decide +kernel
theorem dc_M_readParameter_76 : decode bc_M_readParameter 76 = .ok (.getfield 83, 3) := by decide +kernel
theorem dc_M_readParameter_79 : decode bc_M_readParameter 79 = .ok (.ifCond .gt 14, 3) := by decide +kernel
theorem dc_M_readParameter_82 : decode bc_M_readParameter 82 = .ok (.aload_n 0, 1) := by decide +kernel
theorem dc_M_readParameter_83 : decode bc_M_readParameter 83 = .ok (.invokevirtual 224, 3) := by decide +kernel
theorem dc_M_readParameter_86 : decode bc_M_readParameter 86 = .ok (.ifCond .eq 11, 3) := by decide +kernel
theorem dc_M_readParameter_89 : decode bc_M_readParameter 89 = .ok (.iload_n 2, 1) := by decide +kernel
theorem dc_M_readParameter_90 : decode bc_M_readParameter 90 = .ok (.ifCond .ne 7, 3) := by decide +kernel
theorem dc_M_readParameter_93 : decode bc_M_readParameter 93 = .ok (.iconst 1, 1) := by decide +kernel
theorem dc_M_readParameter_94 : decode bc_M_readParameter 94 = .ok (.goto 4, 3) := by decide +kernel
theorem dc_M_readParameter_97 : decode bc_M_readParameter 97 = .ok (.iconst 0, 1) := by decide +kernel
theorem dc_M_readParameter_98 : decode bc_M_readParameter 98 = .ok (.invokevirtual 213, 3) := by decide +kernel
theorem dc_M_readParameter_101 : decode bc_M_readParameter 101 = .ok (.pop, 1) := by decide +kernel
theorem dc_M_readParameter_102 : decode bc_M_readParameter 102 = .ok (.aload_n 0, 1) := by decide +kernel
theorem dc_M_readParameter_103 : decode bc_M_readParameter 103 = .ok (.getfield 83, 3) := by decide +kernel
theorem dc_M_readParameter_106 : decode bc_M_readParameter 106 = .ok (.ifCond .le 4, 3) := by decide +kernel
theorem dc_M_readParameter_109 : decode bc_M_readParameter 109 = .ok (.return_, 1) := by decide +kernel
theorem dc_M_readParameter_110 : decode bc_M_readParameter 110 = .ok (.aload_n 0, 1) := by decide +kernel
theorem dc_M_readParameter_111 : decode bc_M_readParameter 111 = .ok (.getfield 37, 3) := by decide +kernel
theorem dc_M_readParameter_114 : decode bc_M_readParameter 114 = .ok (.bipush 8, 2) := by decide +kernel
theorem dc_M_readParameter_116 : decode bc_M_readParameter 116 = .ok (.iload_n 1, 1) := by decide +kernel
theorem dc_M_readParameter_117 : decode bc_M_readParameter 117 = .ok (.imul, 1) := by decide +kernel
theorem dc_M_readParameter_118 : decode bc_M_readParameter 118 = .ok (.aload_n 0, 1) := by decide +kernel
theorem dc_M_readParameter_119 : decode bc_M_readParameter 119 = .ok (.getfield 24, 3) := by decide +kernel
theorem dc_M_readParameter_122 : decode bc_M_readParameter 122 = .ok (.iload_n 1, 1) := by decide +kernel
theorem dc_M_readParameter_123 : decode bc_M_readParameter 123 = .ok (.iaload, 1) := by decide +kernel
theorem dc_M_readParameter_124 : decode bc_M_readParameter 124 = .ok (.iadd, 1) := by decide +kernel
theorem dc_M_readParameter_125 : decode bc_M_readParameter 125 = .ok (.aload_n 0, 1) := by decide +kernel
theorem dc_M_readParameter_126 : decode bc_M_readParameter 126 = .ok (.getfield 115, 3) := by decide +kernel
theorem dc_M_readParameter_129 : decode bc_M_readParameter 129 = .ok (.lastore, 1) := by decide +kernel
theorem dc_M_readParameter_130 : decode bc_M_readParameter 130 = .ok (.aload_n 0, 1) := by decide +kernel
theorem dc_M_readParameter_131 : decode bc_M_readParameter 131 = .ok (.invokevirtual 232, 3) := by decide +kernel
theorem dc_M_readParameter_134 : decode bc_M_readParameter 134 = .ok (.aload_n 0, 1) := by decide +kernel
theorem dc_M_readParameter_135 : decode bc_M_readParameter 135 = .ok (.aload_n 0, 1) := by decide +kernel
theorem dc_M_readParameter_136 : decode bc_M_readParameter 136 = .ok (.getfield 83, 3) := by decide +kernel
theorem dc_M_readParameter_139 : decode bc_M_readParameter 139 = .ok (.ifCond .gt 10, 3) := by decide +kernel
theorem dc_M_readParameter_142 : decode bc_M_readParameter 142 = .ok (.aload_n 0, 1) := by decide +kernel
theorem dc_M_readParameter_143 : decode bc_M_readParameter 143 = .ok (.invokevirtual 189, 3) := by decide +kernel
theorem dc_M_readParameter_146 : decode bc_M_readParameter 146 = .ok (.ifCond .lt 7, 3) := by decide +kernel
theorem dc_M_readParameter_149 : decode bc_M_readParameter 149 = .ok (.iconst 1, 1) := by decide +kernel
theorem dc_M_readParameter_150 : decode bc_M_readParameter 150 = .ok (.goto 4, 3) := by decide +kernel
theorem dc_M_readParameter_153 : decode bc_M_readParameter 153 = .ok (.iconst 0, 1) := by decide +kernel
theorem dc_M_readParameter_154 : decode bc_M_readParameter 154 = .ok (.invokevirtual 213, 3) := by decide +kernel
theorem dc_M_readParameter_157 : decode bc_M_readParameter 157 = .ok (.pop, 1) := by decide +kernel
theorem dc_M_readParameter_158 : decode bc_M_readParameter 158 = .ok (.aload_n 0, 1) := by decide +kernel
theorem dc_M_readParameter_159 : decode bc_M_readParameter 159 = .ok (.getfield 40, 3) := by decide +kernel
theorem dc_M_readParameter_162 : decode bc_M_readParameter 162 = .ok (.bipush 8, 2) := by decide +kernel
theorem dc_M_readParameter_164 : decode bc_M_readParameter 164 = .ok (.iload_n 1, 1) := by decide +kernel
theorem dc_M_readParameter_165 : decode bc_M_readParameter 165 = .ok (.imul, 1) := by decide +kernel
theorem dc_M_readParameter_166 : decode bc_M_readParameter 166 = .ok (.aload_n 0, 1) := by decide +kernel
theorem dc_M_readParameter_167 : decode bc_M_readParameter 167 = .ok (.getfield 24, 3) := by decide +kernel
theorem dc_M_readParameter_170 : decode bc_M_readParameter 170 = .ok (.iload_n 1, 1) := by decide +kernel
theorem dc_M_readParameter_171 : decode bc_M_readParameter 171 = .ok (.iaload, 1) := by decide +kernel
theorem dc_M_readParameter_172 : decode bc_M_readParameter 172 = .ok (.bipush 7, 2) := by decide +kernel
theorem dc_M_readParameter_174 : decode bc_M_readParameter 174 = .ok (.iand, 1) := by decide +kernel
theorem dc_M_readParameter_175 : decode bc_M_readParameter 175 = .ok (.iadd, 1) := by decide +kernel
theorem dc_M_readParameter_176 : decode bc_M_readParameter 176 = .ok (.aload_n 0, 1) := by decide +kernel
theorem dc_M_readParameter_177 : decode bc_M_readParameter 177 = .ok (.getfield 83, 3) := by decide +kernel
theorem dc_M_readParameter_180 : decode bc_M_readParameter 180 = .ok (.ifCond .le 7, 3) := by decide +kernel
theorem dc_M_readParameter_183 : decode bc_M_readParameter 183 = .ok (.iconst 0, 1) := by decide +kernel
theorem dc_M_readParameter_184 : decode bc_M_readParameter 184 = .ok (.goto 7, 3) := by decide +kernel
theorem dc_M_readParameter_187 : decode bc_M_readParameter 187 = .ok (.aload_n 0, 1) := by decide +kernel
theorem dc_M_readParameter_188 : decode bc_M_readParameter 188 = .ok (.invokevirtual 189, 3) := by decide +kernel
theorem dc_M_readParameter_191 : decode bc_M_readParameter 191 = .ok (.iastore, 1) := by decide +kernel
theorem dc_M_readParameter_192 : decode bc_M_readParameter 192 = .ok (.aload_n 0, 1) := by decide +kernel
theorem dc_M_readParameter_193 : decode bc_M_readParameter 193 = .ok (.getfield 24, 3) := by decide +kernel
theorem dc_M_readParameter_196 : decode bc_M_readParameter 196 = .ok (.iload_n 1, 1) := by decide +kernel
theorem dc_M_readParameter_197 : decode bc_M_readParameter 197 = .ok (.dup2, 1) := by decide +kernel
theorem dc_M_readParameter_198 : decode bc_M_readParameter 198 = .ok (.iaload, 1) := by decide +kernel
theorem dc_M_readParameter_199 : decode bc_M_readParameter 199 = .ok (.iconst 1, 1) := by decide +kernel
theorem dc_M_readParameter_200 : decode bc_M_readParameter 200 = .ok (.iadd, 1) := by decide +kernel
theorem dc_M_readParameter_201 : decode bc_M_readParameter 201 = .ok (.iastore, 1) := by decide +kernel
theorem dc_M_readParameter_202 : decode bc_M_readParameter 202 = .ok (.aload_n 0, 1) := by decide +kernel
theorem dc_M_readParameter_203 : decode bc_M_readParameter 203 = .ok (.getfield 83, 3) := by decide +kernel
theorem dc_M_readParameter_206 : decode bc_M_readParameter 206 = .ok (.ifCond .ne 25, 3) := by decide +kernel
theorem dc_M_readParameter_209 : decode bc_M_readParameter 209 = .ok (.aload_n 0, 1) := by decide +kernel
theorem dc_M_readParameter_210 : decode bc_M_readParameter 210 = .ok (.invokevirtual 232, 3) := by decide +kernel
theorem dc_M_readParameter_213 : decode bc_M_readParameter 213 = .ok (.aload_n 0, 1) := by decide +kernel
theorem dc_M_readParameter_214 : decode bc_M_readParameter 214 = .ok (.aload_n 0, 1) := by decide +kernel
theorem dc_M_readParameter_215 : decode bc_M_readParameter 215 = .ok (.getfield 99, 3) := by decide +kernel
theorem dc_M_readParameter_218 : decode bc_M_readParameter 218 = .ok (.iconst 1, 1) := by decide +kernel
theorem dc_M_readParameter_219 : decode bc_M_readParameter 219 = .ok (.if_icmp .ne 7, 3) := by decide +kernel
theorem dc_M_readParameter_222 : decode bc_M_readParameter 222 = .ok (.iconst 1, 1) := by decide +kernel
theorem dc_M_readParameter_223 : decode bc_M_readParameter 223 = .ok (.goto 4, 3) := by decide +kernel
theorem dc_M_readParameter_226 : decode bc_M_readParameter 226 = .ok (.iconst 0, 1) := by decide +kernel
theorem dc_M_readParameter_227 : decode bc_M_readParameter 227 = .ok (.invokevirtual 213, 3) := by decide +kernel
theorem dc_M_readParameter_230 : decode bc_M_readParameter 230 = .ok (.pop, 1) := by decide +kernel
theorem dc_M_readParameter_231 : decode bc_M_readParameter 231 = .ok (.return_, 1) := by decide +kernel
theorem dc_M_expression_0 : decode bc_M_expression 0 = .ok (.aload_n 0, 1) := by decide +kernel
theorem dc_M_expression_1 : decode bc_M_expression 1 = .ok (.iconst 0, 1) := by decide +kernel
theorem dc_M_expression_2 : decode bc_M_expression 2 = .ok (.putfield 204, 3) := by decide +kernel
theorem dc_M_expression_5 : decode bc_M_expression 5 = .ok (.aload_n 0, 1) := by decide +kernel
theorem dc_M_expression_6 : decode bc_M_expression 6 = .ok (.iload_n 1, 1) := by decide +kernel
theorem dc_M_expression_7 : decode bc_M_expression 7 = .ok (.ifCond .eq 7, 3) := by decide +kernel
theorem dc_M_expression_10 : decode bc_M_expression 10 = .ok (.iconst 1, 1) := by decide +kernel
theorem dc_M_expression_11 : decode bc_M_expression 11 = .ok (.goto 4, 3) := by decide +kernel
theorem dc_M_expression_14 : decode bc_M_expression 14 = .ok (.iconst 2, 1) := by decide +kernel
theorem dc_M_expression_15 : decode bc_M_expression 15 = .ok (.iconst (-1), 1) := by decide +kernel
theorem dc_M_expression_16 : decode bc_M_expression 16 = .ok (.invokevirtual 217, 3) := by decide +kernel
theorem dc_M_expression_19 : decode bc_M_expression 19 = .ok (.aload_n 0, 1) := by decide +kernel
theorem dc_M_expression_20 : decode bc_M_expression 20 = .ok (.getfield 204, 3) := by decide +kernel
theorem dc_M_expression_23 : decode bc_M_expression 23 = .ok (.ifCond .le 56, 3) := by decide +kernel
theorem dc_M_expression_26 : decode bc_M_expression 26 = .ok (.aload_n 0, 1) := by decide +kernel
theorem dc_M_expression_27 : decode bc_M_expression 27 = .ok (.getfield 83, 3) := by decide +kernel
theorem dc_M_expression_30 : decode bc_M_expression 30 = .ok (.ifCond .ne 49, 3) := by decide +kernel
theorem dc_M_expression_33 : decode bc_M_expression 33 = .ok (.aload_n 0, 1) := by decide +kernel
theorem dc_M_expression_34 : decode bc_M_expression 34 = .ok (.getfield 71, 3) := by decide +kernel
theorem dc_M_expression_37 : decode bc_M_expression 37 = .ok (.aload_n 0, 1) := by decide +kernel
theorem dc_M_expression_38 : decode bc_M_expression 38 = .ok (.getfield 204, 3) := by decide +kernel
theorem dc_M_expression_41 : decode bc_M_expression 41 = .ok (.iconst 1, 1) := by decide +kernel
theorem dc_M_expression_42 : decode bc_M_expression 42 = .ok (.isub, 1) := by decide +kernel
theorem dc_M_expression_43 : decode bc_M_expression 43 = .ok (.baload, 1) := by decide +kernel
theorem dc_M_expression_44 : decode bc_M_expression 44 = .ok (.bipush 10, 2) := by decide +kernel
theorem dc_M_expression_46 : decode bc_M_expression 46 = .ok (.if_icmp .ne 26, 3) := by decide +kernel
theorem dc_M_expression_49 : decode bc_M_expression 49 = .ok (.aload_n 0, 1) := by decide +kernel
theorem dc_M_expression_50 : decode bc_M_expression 50 = .ok (.dup, 1) := by decide +kernel
theorem dc_M_expression_51 : decode bc_M_expression 51 = .ok (.getfield 204, 3) := by decide +kernel
theorem dc_M_expression_54 : decode bc_M_expression 54 = .ok (.iconst 1, 1) := by decide +kernel
theorem dc_M_expression_55 : decode bc_M_expression 55 = .ok (.isub, 1) := by decide +kernel
theorem dc_M_expression_56 : decode bc_M_expression 56 = .ok (.putfield 204, 3) := by decide +kernel
theorem dc_M_expression_59 : decode bc_M_expression 59 = .ok (.aload_n 0, 1) := by decide +kernel
theorem dc_M_expression_60 : decode bc_M_expression 60 = .ok (.dup, 1) := by decide +kernel
theorem dc_M_expression_61 : decode bc_M_expression 61 = .ok (.getfield 210, 3) := by decide +kernel
theorem dc_M_expression_64 : decode bc_M_expression 64 = .ok (.iconst 1, 1) := by decide +kernel
theorem dc_M_expression_65 : decode bc_M_expression 65 = .ok (.iadd, 1) := by decide +kernel
theorem dc_M_expression_66 : decode bc_M_expression 66 = .ok (.putfield 210, 3) := by decide +kernel
theorem dc_M_expression_69 : decode bc_M_expression 69 = .ok (.goto (-50), 3) := by decide +kernel
theorem dc_M_expression_72 : decode bc_M_expression 72 = .ok (.aload_n 0, 1) := by decide +kernel
theorem dc_M_expression_73 : decode bc_M_expression 73 = .ok (.invokevirtual 248, 3) := by decide +kernel
theorem dc_M_expression_76 : decode bc_M_expression 76 = .ok (.goto (-57), 3) := by decide +kernel
theorem dc_M_expression_79 : decode bc_M_expression 79 = .ok (.return_, 1) := by decide +kernel
theorem dc_M_push_0 : decode bc_M_push 0 = .ok (.aload_n 0, 1) := by decide +kernel
theorem dc_M_push_1 : decode bc_M_push 1 = .ok (.getfield 71, 3) := by decide +kernel
theorem dc_M_push_4 : decode bc_M_push 4 = .ok (.aload_n 0, 1) := by decide +kernel
theorem dc_M_push_5 : decode bc_M_push 5 = .ok (.getfield 204, 3) := by decide +kernel
theorem dc_M_push_8 : decode bc_M_push 8 = .ok (.iload_n 1, 1) := by decide +kernel
theorem dc_M_push_9 : decode bc_M_push 9 = .ok (.i2b, 1) := by decide +kernel
theorem dc_M_push_10 : decode bc_M_push 10 = .ok (.bastore, 1) := by decide +kernel
theorem dc_M_push_11 : decode bc_M_push 11 = .ok (.aload_n 0, 1) := by decide +kernel
theorem dc_M_push_12 : decode bc_M_push 12 = .ok (.getfield 74, 3) := by decide +kernel
theorem dc_M_push_15 : decode bc_M_push 15 = .ok (.aload_n 0, 1) := by decide +kernel
theorem dc_M_push_16 : decode bc_M_push 16 = .ok (.getfield 204, 3) := by decide +kernel
theorem dc_M_push_19 : decode bc_M_push 19 = .ok (.iload_n 2, 1) := by decide +kernel
theorem dc_M_push_20 : decode bc_M_push 20 = .ok (.iastore, 1) := by decide +kernel
theorem dc_M_push_21 : decode bc_M_push 21 = .ok (.aload_n 0, 1) := by decide +kernel
theorem dc_M_push_22 : decode bc_M_push 22 = .ok (.dup, 1) := by decide +kernel
theorem dc_M_push_23 : decode bc_M_push 23 = .ok (.getfield 204, 3) := by decide +kernel
theorem dc_M_push_26 : decode bc_M_push 26 = .ok (.iconst 1, 1) := by decide +kernel
theorem dc_M_push_27 : decode bc_M_push 27 = .ok (.iadd, 1) := by decide +kernel
theorem dc_M_push_28 : decode bc_M_push 28 = .ok (.putfield 204, 3) := by decide +kernel
theorem dc_M_push_31 : decode bc_M_push 31 = .ok (.return_, 1) := by decide +kernel
theorem dc_M_step_0 : decode bc_M_step 0 = .ok (.aload_n 0, 1) := by decide +kernel
theorem dc_M_step_1 : decode bc_M_step 1 = .ok (.dup, 1) := by decide +kernel
theorem dc_M_step_2 : decode bc_M_step 2 = .ok (.getfield 204, 3) := by decide +kernel
theorem dc_M_step_5 : decode bc_M_step 5 = .ok (.iconst 1, 1) := by decide +kernel
theorem dc_M_step_6 : decode bc_M_step 6 = .ok (.isub, 1) := by decide +kernel
theorem dc_M_step_7 : decode bc_M_step 7 = .ok (.putfield 204, 3) := by decide +kernel
theorem dc_M_step_10 : decode bc_M_step 10 = .ok (.aload_n 0, 1) := by decide +kernel
theorem dc_M_step_11 : decode bc_M_step 11 = .ok (.getfield 71, 3) := by decide +kernel
theorem dc_M_step_14 : decode bc_M_step 14 = .ok (.aload_n 0, 1) := by decide +kernel
theorem dc_M_step_15 : decode bc_M_step 15 = .ok (.getfield 204, 3) := by decide +kernel
theorem dc_M_step_18 : decode bc_M_step 18 = .ok (.baload, 1) := by decide +kernel
theorem dc_M_step_19 : decode bc_M_step 19 = .ok (.istore_n 1, 1) := by decide +kernel
theorem dc_M_step_20 : decode bc_M_step 20 = .ok (.aload_n 0, 1) := by decide +kernel
theorem dc_M_step_21 : decode bc_M_step 21 = .ok (.getfield 74, 3) := by decide +kernel
theorem dc_M_step_24 : decode bc_M_step 24 = .ok (.aload_n 0, 1) := by decide +kernel
theorem dc_M_step_25 : decode bc_M_step 25 = .ok (.getfield 204, 3) := by decide +kernel
theorem dc_M_step_28 : decode bc_M_step 28 = .ok (.iaload, 1) := by decide +kernel
theorem dc_M_step_29 : decode bc_M_step 29 = .ok (.istore_n 2, 1) := by decide +kernel
theorem dc_M_step_30 : decode bc_M_step 30 = .ok (.iload_n 1, 1) := by decide +kernel
theorem dc_M_step_31 : decode bc_M_step 31 = .ok (.bipush 8, 2) := by decide +kernel
theorem dc_M_step_33 : decode bc_M_step 33 = .ok (.if_icmp .ne 40, 3) := by decide +kernel
theorem dc_M_step_36 : decode bc_M_step 36 = .ok (.aload_n 0, 1) := by decide +kernel
theorem dc_M_step_37 : decode bc_M_step 37 = .ok (.dup, 1) := by decide +kernel
theorem dc_M_step_38 : decode bc_M_step 38 = .ok (.getfield 210, 3) := by decide +kernel
theorem dc_M_step_41 : decode bc_M_step 41 = .ok (.aload_n 0, 1) := by decide +kernel
theorem dc_M_step_42 : decode bc_M_step 42 = .ok (.getfield 43, 3) := by decide +kernel
theorem dc_M_step_45 : decode bc_M_step 45 = .ok (.iload_n 2, 1) := by decide +kernel
theorem dc_M_step_46 : decode bc_M_step 46 = .ok (.iaload, 1) := by decide +kernel
theorem dc_M_step_47 : decode bc_M_step 47 = .ok (.bipush 12, 2) := by decide +kernel
theorem dc_M_step_49 : decode bc_M_step 49 = .ok (.if_icmp .eq 14, 3) := by decide +kernel
theorem dc_M_step_52 : decode bc_M_step 52 = .ok (.aload_n 0, 1) := by decide +kernel
theorem dc_M_step_53 : decode bc_M_step 53 = .ok (.getfield 43, 3) := by decide +kernel
theorem dc_M_step_56 : decode bc_M_step 56 = .ok (.iload_n 2, 1) := by decide +kernel
theorem dc_M_step_57 : decode bc_M_step 57 = .ok (.iaload, 1) := by decide +kernel
theorem dc_M_step_58 : decode bc_M_step 58 = .ok (.bipush 22, 2) := by decide +kernel
theorem dc_M_step_60 : decode bc_M_step 60 = .ok (.if_icmp .ne 7, 3) := by decide +kernel
theorem dc_M_step_63 : decode bc_M_step 63 = .ok (.iconst 2, 1) := by decide +kernel
theorem dc_M_step_64 : decode bc_M_step 64 = .ok (.goto 4, 3) := by decide +kernel
theorem dc_M_step_67 : decode bc_M_step 67 = .ok (.iconst 1, 1) := by decide +kernel
theorem dc_M_step_68 : decode bc_M_step 68 = .ok (.isub, 1) := by decide +kernel
theorem dc_M_step_69 : decode bc_M_step 69 = .ok (.putfield 210, 3) := by decide +kernel
theorem dc_M_step_72 : decode bc_M_step 72 = .ok (.return_, 1) := by decide +kernel
theorem dc_M_step_73 : decode bc_M_step 73 = .ok (.aload_n 0, 1) := by decide +kernel
theorem dc_M_step_74 : decode bc_M_step 74 = .ok (.invokevirtual 232, 3) := by decide +kernel
theorem dc_M_step_77 : decode bc_M_step 77 = .ok (.aload_n 0, 1) := by decide +kernel
theorem dc_M_step_78 : decode bc_M_step 78 = .ok (.getfield 83, 3) := by decide +kernel
theorem dc_M_step_81 : decode bc_M_step 81 = .ok (.ifCond .le 4, 3) := by decide +kernel
theorem dc_M_step_84 : decode bc_M_step 84 = .ok (.return_, 1) := by decide +kernel
theorem dc_M_step_85 : decode bc_M_step 85 = .ok (.iload_n 1, 1) := by decide +kernel
theorem dc_M_step_86 : decode bc_M_step 86 = .ok (.tableswitch 251 1 7 #[42, 42, 60, 81, 101, 154, 214], 42) := by decide +kernel
theorem dc_M_step_128 : decode bc_M_step 128 = .ok (.aload_n 0, 1) := by decide +kernel
theorem dc_M_step_129 : decode bc_M_step 129 = .ok (.iload_n 1, 1) := by decide +kernel
theorem dc_M_step_130 : decode bc_M_step 130 = .ok (.iconst 1, 1) := by decide +kernel
theorem dc_M_step_131 : decode bc_M_step 131 = .ok (.if_icmp .ne 7, 3) := by decide +kernel
theorem dc_M_step_134 : decode bc_M_step 134 = .ok (.iconst 1, 1) := by decide +kernel
theorem dc_M_step_135 : decode bc_M_step 135 = .ok (.goto 4, 3) := by decide +kernel
theorem dc_M_step_138 : decode bc_M_step 138 = .ok (.iconst 0, 1) := by decide +kernel
theorem dc_M_step_139 : decode bc_M_step 139 = .ok (.iload_n 2, 1) := by decide +kernel
theorem dc_M_step_140 : decode bc_M_step 140 = .ok (.invokevirtual 238, 3) := by decide +kernel
theorem dc_M_step_143 : decode bc_M_step 143 = .ok (.goto 210, 3) := by decide +kernel
theorem dc_M_step_146 : decode bc_M_step 146 = .ok (.aload_n 0, 1) := by decide +kernel
theorem dc_M_step_147 : decode bc_M_step 147 = .ok (.aload_n 0, 1) := by decide +kernel
theorem dc_M_step_148 : decode bc_M_step 148 = .ok (.getfield 99, 3) := by decide +kernel
theorem dc_M_step_151 : decode bc_M_step 151 = .ok (.iconst 1, 1) := by decide +kernel
theorem dc_M_step_152 : decode bc_M_step 152 = .ok (.if_icmp .ne 7, 3) := by decide +kernel
theorem dc_M_step_155 : decode bc_M_step 155 = .ok (.iconst 1, 1) := by decide +kernel
theorem dc_M_step_156 : decode bc_M_step 156 = .ok (.goto 4, 3) := by decide +kernel
theorem dc_M_step_159 : decode bc_M_step 159 = .ok (.iconst 0, 1) := by decide +kernel
theorem dc_M_step_160 : decode bc_M_step 160 = .ok (.invokevirtual 213, 3) := by decide +kernel
theorem dc_M_step_163 : decode bc_M_step 163 = .ok (.pop, 1) := by decide +kernel
theorem dc_M_step_164 : decode bc_M_step 164 = .ok (.goto 189, 3) := by decide +kernel
theorem dc_M_step_167 : decode bc_M_step 167 = .ok (.aload_n 0, 1) := by decide +kernel
theorem dc_M_step_168 : decode bc_M_step 168 = .ok (.aload_n 0, 1) := by decide +kernel
theorem dc_M_step_169 : decode bc_M_step 169 = .ok (.getfield 99, 3) := by decide +kernel
theorem dc_M_step_172 : decode bc_M_step 172 = .ok (.ifCond .ne 7, 3) := by decide +kernel
theorem dc_M_step_175 : decode bc_M_step 175 = .ok (.iconst 1, 1) := by decide +kernel
theorem dc_M_step_176 : decode bc_M_step 176 = .ok (.goto 4, 3) := by decide +kernel
theorem dc_M_step_179 : decode bc_M_step 179 = .ok (.iconst 0, 1) := by decide +kernel
theorem dc_M_step_180 : decode bc_M_step 180 = .ok (.invokevirtual 213, 3) := by decide +kernel
theorem dc_M_step_183 : decode bc_M_step 183 = .ok (.pop, 1) := by decide +kernel
theorem dc_M_step_184 : decode bc_M_step 184 = .ok (.goto 169, 3) := by decide +kernel
theorem dc_M_step_187 : decode bc_M_step 187 = .ok (.aload_n 0, 1) := by decide +kernel
theorem dc_M_step_188 : decode bc_M_step 188 = .ok (.aload_n 0, 1) := by decide +kernel
theorem dc_M_step_189 : decode bc_M_step 189 = .ok (.invokevirtual 224, 3) := by decide +kernel
theorem dc_M_step_192 : decode bc_M_step 192 = .ok (.invokevirtual 213, 3) := by decide +kernel
theorem dc_M_step_195 : decode bc_M_step 195 = .ok (.ifCond .eq 158, 3) := by decide +kernel
theorem dc_M_step_198 : decode bc_M_step 198 = .ok (.aload_n 0, 1) := by decide +kernel
theorem dc_M_step_199 : decode bc_M_step 199 = .ok (.iload_n 2, 1) := by decide +kernel
theorem dc_M_step_200 : decode bc_M_step 200 = .ok (.invokevirtual 228, 3) := by decide +kernel
theorem dc_M_step_203 : decode bc_M_step 203 = .ok (.aload_n 0, 1) := by decide +kernel
theorem dc_M_step_204 : decode bc_M_step 204 = .ok (.getfield 43, 3) := by decide +kernel
theorem dc_M_step_207 : decode bc_M_step 207 = .ok (.iload_n 2, 1) := by decide +kernel
theorem dc_M_step_208 : decode bc_M_step 208 = .ok (.iaload, 1) := by decide +kernel
theorem dc_M_step_209 : decode bc_M_step 209 = .ok (.bipush 11, 2) := by decide +kernel
theorem dc_M_step_211 : decode bc_M_step 211 = .ok (.if_icmp .eq 14, 3) := by decide +kernel
theorem dc_M_step_214 : decode bc_M_step 214 = .ok (.aload_n 0, 1) := by decide +kernel
theorem dc_M_step_215 : decode bc_M_step 215 = .ok (.getfield 43, 3) := by decide +kernel
theorem dc_M_step_218 : decode bc_M_step 218 = .ok (.iload_n 2, 1) := by decide +kernel
theorem dc_M_step_219 : decode bc_M_step 219 = .ok (.iaload, 1) := by decide +kernel
theorem dc_M_step_220 : decode bc_M_step 220 = .ok (.bipush 21, 2) := by decide +kernel
theorem dc_M_step_222 : decode bc_M_step 222 = .ok (.if_icmp .ne 11, 3) := by decide +kernel
theorem dc_M_step_225 : decode bc_M_step 225 = .ok (.aload_n 0, 1) := by decide +kernel
theorem dc_M_step_226 : decode bc_M_step 226 = .ok (.iload_n 2, 1) := by decide +kernel
theorem dc_M_step_227 : decode bc_M_step 227 = .ok (.invokevirtual 242, 3) := by decide +kernel
theorem dc_M_step_230 : decode bc_M_step 230 = .ok (.goto 123, 3) := by decide +kernel
theorem dc_M_step_233 : decode bc_M_step 233 = .ok (.aload_n 0, 1) := by decide +kernel
theorem dc_M_step_234 : decode bc_M_step 234 = .ok (.invokevirtual 245, 3) := by decide +kernel
theorem dc_M_step_237 : decode bc_M_step 237 = .ok (.goto 116, 3) := by decide +kernel
theorem dc_M_step_240 : decode bc_M_step 240 = .ok (.aload_n 0, 1) := by decide +kernel
theorem dc_M_step_241 : decode bc_M_step 241 = .ok (.aload_n 0, 1) := by decide +kernel
theorem dc_M_step_242 : decode bc_M_step 242 = .ok (.invokevirtual 224, 3) := by decide +kernel
theorem dc_M_step_245 : decode bc_M_step 245 = .ok (.ifCond .eq 21, 3) := by decide +kernel
theorem dc_M_step_248 : decode bc_M_step 248 = .ok (.aload_n 0, 1) := by decide +kernel
theorem dc_M_step_249 : decode bc_M_step 249 = .ok (.getfield 115, 3) := by decide +kernel
theorem dc_M_step_252 : decode bc_M_step 252 = .ok (.aload_n 0, 1) := by decide +kernel
theorem dc_M_step_253 : decode bc_M_step 253 = .ok (.getfield 64, 3) := by decide +kernel
theorem dc_M_step_256 : decode bc_M_step 256 = .ok (.iload_n 2, 1) := by decide +kernel
theorem dc_M_step_257 : decode bc_M_step 257 = .ok (.laload, 1) := by decide +kernel
theorem dc_M_step_258 : decode bc_M_step 258 = .ok (.lcmp, 1) := by decide +kernel
theorem dc_M_step_259 : decode bc_M_step 259 = .ok (.ifCond .eq 7, 3) := by decide +kernel
theorem dc_M_step_262 : decode bc_M_step 262 = .ok (.iconst 1, 1) := by decide +kernel
theorem dc_M_step_263 : decode bc_M_step 263 = .ok (.goto 4, 3) := by decide +kernel
theorem dc_M_step_266 : decode bc_M_step 266 = .ok (.iconst 0, 1) := by decide +kernel
theorem dc_M_step_267 : decode bc_M_step 267 = .ok (.invokevirtual 213, 3) := by decide +kernel
theorem dc_M_step_270 : decode bc_M_step 270 = .ok (.ifCond .eq 83, 3) := by decide +kernel
theorem dc_M_step_273 : decode bc_M_step 273 = .ok (.aload_n 0, 1) := by decide +kernel
theorem dc_M_step_274 : decode bc_M_step 274 = .ok (.getfield 67, 3) := by decide +kernel
theorem dc_M_step_277 : decode bc_M_step 277 = .ok (.iload_n 2, 1) := by decide +kernel
theorem dc_M_step_278 : decode bc_M_step 278 = .ok (.aload_n 0, 1) := by decide +kernel
theorem dc_M_step_279 : decode bc_M_step 279 = .ok (.getfield 115, 3) := by decide +kernel
theorem dc_M_step_282 : decode bc_M_step 282 = .ok (.lastore, 1) := by decide +kernel
theorem dc_M_step_283 : decode bc_M_step 283 = .ok (.aload_n 0, 1) := by decide +kernel
theorem dc_M_step_284 : decode bc_M_step 284 = .ok (.getfield 55, 3) := by decide +kernel
theorem dc_M_step_287 : decode bc_M_step 287 = .ok (.iload_n 2, 1) := by decide +kernel
theorem dc_M_step_288 : decode bc_M_step 288 = .ok (.aload_n 0, 1) := by decide +kernel
theorem dc_M_step_289 : decode bc_M_step 289 = .ok (.getfield 96, 3) := by decide +kernel
theorem dc_M_step_292 : decode bc_M_step 292 = .ok (.iastore, 1) := by decide +kernel
theorem dc_M_step_293 : decode bc_M_step 293 = .ok (.aload_n 0, 1) := by decide +kernel
theorem dc_M_step_294 : decode bc_M_step 294 = .ok (.invokevirtual 245, 3) := by decide +kernel
theorem dc_M_step_297 : decode bc_M_step 297 = .ok (.goto 56, 3) := by decide +kernel
theorem dc_M_step_300 : decode bc_M_step 300 = .ok (.aload_n 0, 1) := by decide +kernel
theorem dc_M_step_301 : decode bc_M_step 301 = .ok (.getfield 99, 3) := by decide +kernel
theorem dc_M_step_304 : decode bc_M_step 304 = .ok (.iconst 1, 1) := by decide +kernel
theorem dc_M_step_305 : decode bc_M_step 305 = .ok (.if_icmp .eq 19, 3) := by decide +kernel
theorem dc_M_step_308 : decode bc_M_step 308 = .ok (.aload_n 0, 1) := by decide +kernel
theorem dc_M_step_309 : decode bc_M_step 309 = .ok (.bipush 7, 2) := by decide +kernel
theorem dc_M_step_311 : decode bc_M_step 311 = .ok (.iload_n 2, 1) := by decide +kernel
theorem dc_M_step_312 : decode bc_M_step 312 = .ok (.invokevirtual 217, 3) := by decide +kernel
theorem dc_M_step_315 : decode bc_M_step 315 = .ok (.aload_n 0, 1) := by decide +kernel
theorem dc_M_step_316 : decode bc_M_step 316 = .ok (.iconst 1, 1) := by decide +kernel
theorem dc_M_step_317 : decode bc_M_step 317 = .ok (.iload_n 2, 1) := by decide +kernel
theorem dc_M_step_318 : decode bc_M_step 318 = .ok (.invokevirtual 238, 3) := by decide +kernel
theorem dc_M_step_321 : decode bc_M_step 321 = .ok (.goto 32, 3) := by decide +kernel
theorem dc_M_step_324 : decode bc_M_step 324 = .ok (.aload_n 0, 1) := by decide +kernel
theorem dc_M_step_325 : decode bc_M_step 325 = .ok (.dup, 1) := by decide +kernel
theorem dc_M_step_326 : decode bc_M_step 326 = .ok (.getfield 204, 3) := by decide +kernel
theorem dc_M_step_329 : decode bc_M_step 329 = .ok (.iconst 1, 1) := by decide +kernel
theorem dc_M_step_330 : decode bc_M_step 330 = .ok (.isub, 1) := by decide +kernel
theorem dc_M_step_331 : decode bc_M_step 331 = .ok (.putfield 204, 3) := by decide +kernel
theorem dc_M_step_334 : decode bc_M_step 334 = .ok (.goto 19, 3) := by decide +kernel
theorem dc_M_step_337 : decode bc_M_step 337 = .ok (.aload_n 0, 1) := by decide +kernel
theorem dc_M_step_338 : decode bc_M_step 338 = .ok (.aload_n 0, 1) := by decide +kernel
theorem dc_M_step_339 : decode bc_M_step 339 = .ok (.invokevirtual 224, 3) := by decide +kernel
theorem dc_M_step_342 : decode bc_M_step 342 = .ok (.invokevirtual 213, 3) := by decide +kernel
theorem dc_M_step_345 : decode bc_M_step 345 = .ok (.ifCond .eq 8, 3) := by decide +kernel
theorem dc_M_step_348 : decode bc_M_step 348 = .ok (.aload_n 0, 1) := by decide +kernel
theorem dc_M_step_349 : decode bc_M_step 349 = .ok (.iload_n 2, 1) := by decide +kernel
theorem dc_M_step_350 : decode bc_M_step 350 = .ok (.invokevirtual 228, 3) := by decide +kernel
theorem dc_M_step_353 : decode bc_M_step 353 = .ok (.return_, 1) := by decide +kernel
theorem dc_M_begin_0 : decode bc_M_begin 0 = .ok (.aload_n 0, 1) := by decide +kernel
theorem dc_M_begin_1 : decode bc_M_begin 1 = .ok (.getfield 99, 3) := by decide +kernel
theorem dc_M_begin_4 : decode bc_M_begin 4 = .ok (.iconst 3, 1) := by decide +kernel
theorem dc_M_begin_5 : decode bc_M_begin 5 = .ok (.if_icmp .ne 27, 3) := by decide +kernel
theorem dc_M_begin_8 : decode bc_M_begin 8 = .ok (.iload_n 1, 1) := by decide +kernel
theorem dc_M_begin_9 : decode bc_M_begin 9 = .ok (.ifCond .eq 23, 3) := by decide +kernel
theorem dc_M_begin_12 : decode bc_M_begin 12 = .ok (.aload_n 0, 1) := by decide +kernel
theorem dc_M_begin_13 : decode bc_M_begin 13 = .ok (.iconst 0, 1) := by decide +kernel
theorem dc_M_begin_14 : decode bc_M_begin 14 = .ok (.iload_n 2, 1) := by decide +kernel
theorem dc_M_begin_15 : decode bc_M_begin 15 = .ok (.invokevirtual 220, 3) := by decide +kernel
theorem dc_M_begin_18 : decode bc_M_begin 18 = .ok (.istore_n 3, 1) := by decide +kernel
theorem dc_M_begin_19 : decode bc_M_begin 19 = .ok (.aload_n 0, 1) := by decide +kernel
theorem dc_M_begin_20 : decode bc_M_begin 20 = .ok (.getfield 61, 3) := by decide +kernel
theorem dc_M_begin_23 : decode bc_M_begin 23 = .ok (.iload_n 3, 1) := by decide +kernel
theorem dc_M_begin_24 : decode bc_M_begin 24 = .ok (.aload_n 0, 1) := by decide +kernel
theorem dc_M_begin_25 : decode bc_M_begin 25 = .ok (.getfield 129, 3) := by decide +kernel
theorem dc_M_begin_28 : decode bc_M_begin 28 = .ok (.iastore, 1) := by decide +kernel
theorem dc_M_begin_29 : decode bc_M_begin 29 = .ok (.goto 140, 3) := by decide +kernel
theorem dc_M_begin_32 : decode bc_M_begin 32 = .ok (.iload_n 1, 1) := by decide +kernel
theorem dc_M_begin_33 : decode bc_M_begin 33 = .ok (.ifCond .eq 25, 3) := by decide +kernel
theorem dc_M_begin_36 : decode bc_M_begin 36 = .ok (.aload_n 0, 1) := by decide +kernel
theorem dc_M_begin_37 : decode bc_M_begin 37 = .ok (.invokevirtual 224, 3) := by decide +kernel
theorem dc_M_begin_40 : decode bc_M_begin 40 = .ok (.ifCond .eq 18, 3) := by decide +kernel
theorem dc_M_begin_43 : decode bc_M_begin 43 = .ok (.aload_n 0, 1) := by decide +kernel
theorem dc_M_begin_44 : decode bc_M_begin 44 = .ok (.iconst 1, 1) := by decide +kernel
theorem dc_M_begin_45 : decode bc_M_begin 45 = .ok (.iload_n 2, 1) := by decide +kernel
theorem dc_M_begin_46 : decode bc_M_begin 46 = .ok (.invokevirtual 220, 3) := by decide +kernel
theorem dc_M_begin_49 : decode bc_M_begin 49 = .ok (.istore_n 3, 1) := by decide +kernel
theorem dc_M_begin_50 : decode bc_M_begin 50 = .ok (.aload_n 0, 1) := by decide +kernel
theorem dc_M_begin_51 : decode bc_M_begin 51 = .ok (.iload_n 3, 1) := by decide +kernel
theorem dc_M_begin_52 : decode bc_M_begin 52 = .ok (.invokevirtual 228, 3) := by decide +kernel
theorem dc_M_begin_55 : decode bc_M_begin 55 = .ok (.goto 114, 3) := by decide +kernel
theorem dc_M_begin_58 : decode bc_M_begin 58 = .ok (.iload_n 1, 1) := by decide +kernel
theorem dc_M_begin_59 : decode bc_M_begin 59 = .ok (.ifCond .eq 22, 3) := by decide +kernel
theorem dc_M_begin_62 : decode bc_M_begin 62 = .ok (.aload_n 0, 1) := by decide +kernel
theorem dc_M_begin_63 : decode bc_M_begin 63 = .ok (.ldc 202, 2) := by decide +kernel
theorem dc_M_begin_65 : decode bc_M_begin 65 = .ok (.invokevirtual 144, 3) := by decide +kernel
theorem dc_M_begin_68 : decode bc_M_begin 68 = .ok (.ifCond .eq 13, 3) := by decide +kernel
theorem dc_M_begin_71 : decode bc_M_begin 71 = .ok (.aload_n 0, 1) := by decide +kernel
theorem dc_M_begin_72 : decode bc_M_begin 72 = .ok (.iconst 2, 1) := by decide +kernel
theorem dc_M_begin_73 : decode bc_M_begin 73 = .ok (.iload_n 2, 1) := by decide +kernel
theorem dc_M_begin_74 : decode bc_M_begin 74 = .ok (.invokevirtual 220, 3) := by decide +kernel
theorem dc_M_begin_77 : decode bc_M_begin 77 = .ok (.istore_n 3, 1) := by decide +kernel
theorem dc_M_begin_78 : decode bc_M_begin 78 = .ok (.goto 91, 3) := by decide +kernel
theorem dc_M_begin_81 : decode bc_M_begin 81 = .ok (.aload_n 0, 1) := by decide +kernel
theorem dc_M_begin_82 : decode bc_M_begin 82 = .ok (.aload_n 0, 1) := by decide +kernel
theorem dc_M_begin_83 : decode bc_M_begin 83 = .ok (.getfield 99, 3) := by decide +kernel
theorem dc_M_begin_86 : decode bc_M_begin 86 = .ok (.ifCond .ne 7, 3) := by decide +kernel
theorem dc_M_begin_89 : decode bc_M_begin 89 = .ok (.iconst 1, 1) := by decide +kernel
theorem dc_M_begin_90 : decode bc_M_begin 90 = .ok (.goto 4, 3) := by decide +kernel
theorem dc_M_begin_93 : decode bc_M_begin 93 = .ok (.iconst 0, 1) := by decide +kernel
theorem dc_M_begin_94 : decode bc_M_begin 94 = .ok (.invokevirtual 213, 3) := by decide +kernel
theorem dc_M_begin_97 : decode bc_M_begin 97 = .ok (.ifCond .eq 72, 3) := by decide +kernel
theorem dc_M_begin_100 : decode bc_M_begin 100 = .ok (.aload_n 0, 1) := by decide +kernel
theorem dc_M_begin_101 : decode bc_M_begin 101 = .ok (.iconst 0, 1) := by decide +kernel
theorem dc_M_begin_102 : decode bc_M_begin 102 = .ok (.iload_n 2, 1) := by decide +kernel
theorem dc_M_begin_103 : decode bc_M_begin 103 = .ok (.invokevirtual 220, 3) := by decide +kernel
theorem dc_M_begin_106 : decode bc_M_begin 106 = .ok (.istore_n 3, 1) := by decide +kernel
theorem dc_M_begin_107 : decode bc_M_begin 107 = .ok (.aload_n 0, 1) := by decide +kernel
theorem dc_M_begin_108 : decode bc_M_begin 108 = .ok (.invokevirtual 232, 3) := by decide +kernel
theorem dc_M_begin_111 : decode bc_M_begin 111 = .ok (.aload_n 0, 1) := by decide +kernel
theorem dc_M_begin_112 : decode bc_M_begin 112 = .ok (.getfield 83, 3) := by decide +kernel
theorem dc_M_begin_115 : decode bc_M_begin 115 = .ok (.ifCond .le 7, 3) := by decide +kernel
theorem dc_M_begin_118 : decode bc_M_begin 118 = .ok (.iconst (-1), 1) := by decide +kernel
theorem dc_M_begin_119 : decode bc_M_begin 119 = .ok (.goto 18, 3) := by decide +kernel
theorem dc_M_begin_122 : decode bc_M_begin 122 = .ok (.iload_n 1, 1) := by decide +kernel
theorem dc_M_begin_123 : decode bc_M_begin 123 = .ok (.ifCond .eq 10, 3) := by decide +kernel
theorem dc_M_begin_126 : decode bc_M_begin 126 = .ok (.aload_n 0, 1) := by decide +kernel
theorem dc_M_begin_127 : decode bc_M_begin 127 = .ok (.invokevirtual 192, 3) := by decide +kernel
theorem dc_M_begin_130 : decode bc_M_begin 130 = .ok (.goto 7, 3) := by decide +kernel
theorem dc_M_begin_133 : decode bc_M_begin 133 = .ok (.aload_n 0, 1) := by decide +kernel
theorem dc_M_begin_134 : decode bc_M_begin 134 = .ok (.invokevirtual 195, 3) := by decide +kernel
theorem dc_M_begin_137 : decode bc_M_begin 137 = .ok (.istore 4, 2) := by decide +kernel
theorem dc_M_begin_139 : decode bc_M_begin 139 = .ok (.aload_n 0, 1) := by decide +kernel
theorem dc_M_begin_140 : decode bc_M_begin 140 = .ok (.iload 4, 2) := by decide +kernel
theorem dc_M_begin_142 : decode bc_M_begin 142 = .ok (.ifCond .lt 7, 3) := by decide +kernel
theorem dc_M_begin_145 : decode bc_M_begin 145 = .ok (.iconst 1, 1) := by decide +kernel
theorem dc_M_begin_146 : decode bc_M_begin 146 = .ok (.goto 4, 3) := by decide +kernel
theorem dc_M_begin_149 : decode bc_M_begin 149 = .ok (.iconst 0, 1) := by decide +kernel
theorem dc_M_begin_150 : decode bc_M_begin 150 = .ok (.invokevirtual 213, 3) := by decide +kernel
theorem dc_M_begin_153 : decode bc_M_begin 153 = .ok (.ifCond .eq 16, 3) := by decide +kernel
theorem dc_M_begin_156 : decode bc_M_begin 156 = .ok (.aload_n 0, 1) := by decide +kernel
theorem dc_M_begin_157 : decode bc_M_begin 157 = .ok (.getfield 43, 3) := by decide +kernel
theorem dc_M_begin_160 : decode bc_M_begin 160 = .ok (.iload_n 3, 1) := by decide +kernel
theorem dc_M_begin_161 : decode bc_M_begin 161 = .ok (.iload 4, 2) := by decide +kernel
theorem dc_M_begin_163 : decode bc_M_begin 163 = .ok (.iastore, 1) := by decide +kernel
theorem dc_M_begin_164 : decode bc_M_begin 164 = .ok (.aload_n 0, 1) := by decide +kernel
theorem dc_M_begin_165 : decode bc_M_begin 165 = .ok (.iload_n 3, 1) := by decide +kernel
theorem dc_M_begin_166 : decode bc_M_begin 166 = .ok (.invokevirtual 235, 3) := by decide +kernel
theorem dc_M_begin_169 : decode bc_M_begin 169 = .ok (.return_, 1) := by decide +kernel
theorem dc_M_make_0 : decode bc_M_make 0 = .ok (.aload_n 0, 1) := by decide +kernel
theorem dc_M_make_1 : decode bc_M_make 1 = .ok (.getfield 207, 3) := by decide +kernel
theorem dc_M_make_4 : decode bc_M_make 4 = .ok (.istore_n 3, 1) := by decide +kernel
theorem dc_M_make_5 : decode bc_M_make 5 = .ok (.aload_n 0, 1) := by decide +kernel
theorem dc_M_make_6 : decode bc_M_make 6 = .ok (.dup, 1) := by decide +kernel
theorem dc_M_make_7 : decode bc_M_make 7 = .ok (.getfield 207, 3) := by decide +kernel
theorem dc_M_make_10 : decode bc_M_make 10 = .ok (.iconst 1, 1) := by decide +kernel
theorem dc_M_make_11 : decode bc_M_make 11 = .ok (.iadd, 1) := by decide +kernel
theorem dc_M_make_12 : decode bc_M_make 12 = .ok (.putfield 207, 3) := by decide +kernel
theorem dc_M_make_15 : decode bc_M_make 15 = .ok (.aload_n 0, 1) := by decide +kernel
theorem dc_M_make_16 : decode bc_M_make 16 = .ok (.getfield 43, 3) := by decide +kernel
theorem dc_M_make_19 : decode bc_M_make 19 = .ok (.iload_n 3, 1) := by decide +kernel
theorem dc_M_make_20 : decode bc_M_make 20 = .ok (.iload_n 1, 1) := by decide +kernel
theorem dc_M_make_21 : decode bc_M_make 21 = .ok (.iastore, 1) := by decide +kernel
theorem dc_M_make_22 : decode bc_M_make 22 = .ok (.aload_n 0, 1) := by decide +kernel
theorem dc_M_make_23 : decode bc_M_make 23 = .ok (.getfield 46, 3) := by decide +kernel
theorem dc_M_make_26 : decode bc_M_make 26 = .ok (.iload_n 3, 1) := by decide +kernel
theorem dc_M_make_27 : decode bc_M_make 27 = .ok (.iload_n 2, 1) := by decide +kernel
theorem dc_M_make_28 : decode bc_M_make 28 = .ok (.iastore, 1) := by decide +kernel
theorem dc_M_make_29 : decode bc_M_make 29 = .ok (.aload_n 0, 1) := by decide +kernel
theorem dc_M_make_30 : decode bc_M_make 30 = .ok (.getfield 49, 3) := by decide +kernel
theorem dc_M_make_33 : decode bc_M_make 33 = .ok (.iload_n 3, 1) := by decide +kernel
theorem dc_M_make_34 : decode bc_M_make 34 = .ok (.aload_n 0, 1) := by decide +kernel
theorem dc_M_make_35 : decode bc_M_make 35 = .ok (.getfield 96, 3) := by decide +kernel
theorem dc_M_make_38 : decode bc_M_make 38 = .ok (.iastore, 1) := by decide +kernel
theorem dc_M_make_39 : decode bc_M_make 39 = .ok (.aload_n 0, 1) := by decide +kernel
theorem dc_M_make_40 : decode bc_M_make 40 = .ok (.getfield 52, 3) := by decide +kernel
theorem dc_M_make_43 : decode bc_M_make 43 = .ok (.iload_n 3, 1) := by decide +kernel
theorem dc_M_make_44 : decode bc_M_make 44 = .ok (.iconst (-1), 1) := by decide +kernel
theorem dc_M_make_45 : decode bc_M_make 45 = .ok (.iastore, 1) := by decide +kernel
theorem dc_M_make_46 : decode bc_M_make 46 = .ok (.aload_n 0, 1) := by decide +kernel
theorem dc_M_make_47 : decode bc_M_make 47 = .ok (.getfield 55, 3) := by decide +kernel
theorem dc_M_make_50 : decode bc_M_make 50 = .ok (.iload_n 3, 1) := by decide +kernel
theorem dc_M_make_51 : decode bc_M_make 51 = .ok (.iconst (-1), 1) := by decide +kernel
theorem dc_M_make_52 : decode bc_M_make 52 = .ok (.iastore, 1) := by decide +kernel
theorem dc_M_make_53 : decode bc_M_make 53 = .ok (.aload_n 0, 1) := by decide +kernel
theorem dc_M_make_54 : decode bc_M_make 54 = .ok (.getfield 64, 3) := by decide +kernel
theorem dc_M_make_57 : decode bc_M_make 57 = .ok (.iload_n 3, 1) := by decide +kernel
theorem dc_M_make_58 : decode bc_M_make 58 = .ok (.lconst 0, 1) := by decide +kernel
theorem dc_M_make_59 : decode bc_M_make 59 = .ok (.lastore, 1) := by decide +kernel
theorem dc_M_make_60 : decode bc_M_make 60 = .ok (.aload_n 0, 1) := by decide +kernel
theorem dc_M_make_61 : decode bc_M_make 61 = .ok (.getfield 67, 3) := by decide +kernel
theorem dc_M_make_64 : decode bc_M_make 64 = .ok (.iload_n 3, 1) := by decide +kernel
theorem dc_M_make_65 : decode bc_M_make 65 = .ok (.lconst 0, 1) := by decide +kernel
theorem dc_M_make_66 : decode bc_M_make 66 = .ok (.lastore, 1) := by decide +kernel
theorem dc_M_make_67 : decode bc_M_make 67 = .ok (.aload_n 0, 1) := by decide +kernel
theorem dc_M_make_68 : decode bc_M_make 68 = .ok (.getfield 61, 3) := by decide +kernel
theorem dc_M_make_71 : decode bc_M_make 71 = .ok (.iload_n 3, 1) := by decide +kernel
theorem dc_M_make_72 : decode bc_M_make 72 = .ok (.iconst 0, 1) := by decide +kernel
theorem dc_M_make_73 : decode bc_M_make 73 = .ok (.iastore, 1) := by decide +kernel
theorem dc_M_make_74 : decode bc_M_make 74 = .ok (.aload_n 0, 1) := by decide +kernel
theorem dc_M_make_75 : decode bc_M_make 75 = .ok (.getfield 58, 3) := by decide +kernel
theorem dc_M_make_78 : decode bc_M_make 78 = .ok (.iload_n 3, 1) := by decide +kernel
theorem dc_M_make_79 : decode bc_M_make 79 = .ok (.aload_n 0, 1) := by decide +kernel
theorem dc_M_make_80 : decode bc_M_make 80 = .ok (.getfield 210, 3) := by decide +kernel
theorem dc_M_make_83 : decode bc_M_make 83 = .ok (.iastore, 1) := by decide +kernel
theorem dc_M_make_84 : decode bc_M_make 84 = .ok (.iload_n 3, 1) := by decide +kernel
theorem dc_M_make_85 : decode bc_M_make 85 = .ok (.ireturn, 1) := by decide +kernel
theorem dc_M_setName_0 : decode bc_M_setName 0 = .ok (.aload_n 0, 1) := by decide +kernel
theorem dc_M_setName_1 : decode bc_M_setName 1 = .ok (.getfield 64, 3) := by decide +kernel
theorem dc_M_setName_4 : decode bc_M_setName 4 = .ok (.iload_n 1, 1) := by decide +kernel
theorem dc_M_setName_5 : decode bc_M_setName 5 = .ok (.aload_n 0, 1) := by decide +kernel
theorem dc_M_setName_6 : decode bc_M_setName 6 = .ok (.getfield 115, 3) := by decide +kernel
theorem dc_M_setName_9 : decode bc_M_setName 9 = .ok (.lastore, 1) := by decide +kernel
theorem dc_M_setName_10 : decode bc_M_setName 10 = .ok (.aload_n 0, 1) := by decide +kernel
theorem dc_M_setName_11 : decode bc_M_setName 11 = .ok (.getfield 52, 3) := by decide +kernel
theorem dc_M_setName_14 : decode bc_M_setName 14 = .ok (.iload_n 1, 1) := by decide +kernel
theorem dc_M_setName_15 : decode bc_M_setName 15 = .ok (.aload_n 0, 1) := by decide +kernel
theorem dc_M_setName_16 : decode bc_M_setName 16 = .ok (.getfield 96, 3) := by decide +kernel
theorem dc_M_setName_19 : decode bc_M_setName 19 = .ok (.iastore, 1) := by decide +kernel
theorem dc_M_setName_20 : decode bc_M_setName 20 = .ok (.return_, 1) := by decide +kernel
theorem dc_M_expect_0 : decode bc_M_expect 0 = .ok (.aload_n 0, 1) := by decide +kernel
theorem dc_M_expect_1 : decode bc_M_expect 1 = .ok (.getfield 43, 3) := by decide +kernel
theorem dc_M_expect_4 : decode bc_M_expect 4 = .ok (.iload_n 1, 1) := by decide +kernel
theorem dc_M_expect_5 : decode bc_M_expect 5 = .ok (.iaload, 1) := by decide +kernel
theorem dc_M_expect_6 : decode bc_M_expect 6 = .ok (.istore_n 2, 1) := by decide +kernel
theorem dc_M_expect_7 : decode bc_M_expect 7 = .ok (.iload_n 2, 1) := by decide +kernel
theorem dc_M_expect_8 : decode bc_M_expect 8 = .ok (.bipush 18, 2) := by decide +kernel
theorem dc_M_expect_10 : decode bc_M_expect 10 = .ok (.if_icmp .ge 7, 3) := by decide +kernel
theorem dc_M_expect_13 : decode bc_M_expect 13 = .ok (.iconst 1, 1) := by decide +kernel
theorem dc_M_expect_14 : decode bc_M_expect 14 = .ok (.goto 4, 3) := by decide +kernel
theorem dc_M_expect_17 : decode bc_M_expect 17 = .ok (.iconst 2, 1) := by decide +kernel
theorem dc_M_expect_18 : decode bc_M_expect 18 = .ok (.istore_n 3, 1) := by decide +kernel
theorem dc_M_expect_19 : decode bc_M_expect 19 = .ok (.aload_n 0, 1) := by decide +kernel
theorem dc_M_expect_20 : decode bc_M_expect 20 = .ok (.iconst 3, 1) := by decide +kernel
theorem dc_M_expect_21 : decode bc_M_expect 21 = .ok (.iload_n 1, 1) := by decide +kernel
theorem dc_M_expect_22 : decode bc_M_expect 22 = .ok (.invokevirtual 217, 3) := by decide +kernel
theorem dc_M_expect_25 : decode bc_M_expect 25 = .ok (.iload_n 2, 1) := by decide +kernel
theorem dc_M_expect_26 : decode bc_M_expect 26 = .ok (.tableswitch 229 10 23 #[70, 91, 113, 229, 166, 166, 183, 183, 192, 220, 70, 91, 113, 166], 70) := by decide +kernel
theorem dc_M_expect_96 : decode bc_M_expect 96 = .ok (.aload_n 0, 1) := by decide +kernel
theorem dc_M_expect_97 : decode bc_M_expect 97 = .ok (.iload_n 3, 1) := by decide +kernel
theorem dc_M_expect_98 : decode bc_M_expect 98 = .ok (.iload_n 1, 1) := by decide +kernel
theorem dc_M_expect_99 : decode bc_M_expect 99 = .ok (.invokevirtual 217, 3) := by decide +kernel
theorem dc_M_expect_102 : decode bc_M_expect 102 = .ok (.aload_n 0, 1) := by decide +kernel
theorem dc_M_expect_103 : decode bc_M_expect 103 = .ok (.iload_n 3, 1) := by decide +kernel
theorem dc_M_expect_104 : decode bc_M_expect 104 = .ok (.iload_n 1, 1) := by decide +kernel
theorem dc_M_expect_105 : decode bc_M_expect 105 = .ok (.invokevirtual 217, 3) := by decide +kernel
theorem dc_M_expect_108 : decode bc_M_expect 108 = .ok (.aload_n 0, 1) := by decide +kernel
theorem dc_M_expect_109 : decode bc_M_expect 109 = .ok (.iconst 1, 1) := by decide +kernel
theorem dc_M_expect_110 : decode bc_M_expect 110 = .ok (.iload_n 1, 1) := by decide +kernel
theorem dc_M_expect_111 : decode bc_M_expect 111 = .ok (.invokevirtual 217, 3) := by decide +kernel
theorem dc_M_expect_114 : decode bc_M_expect 114 = .ok (.goto 153, 3) := by decide +kernel
theorem dc_M_expect_117 : decode bc_M_expect 117 = .ok (.aload_n 0, 1) := by decide +kernel
theorem dc_M_expect_118 : decode bc_M_expect 118 = .ok (.bipush 8, 2) := by decide +kernel
theorem dc_M_expect_120 : decode bc_M_expect 120 = .ok (.iload_n 1, 1) := by decide +kernel
theorem dc_M_expect_121 : decode bc_M_expect 121 = .ok (.invokevirtual 217, 3) := by decide +kernel
theorem dc_M_expect_124 : decode bc_M_expect 124 = .ok (.aload_n 0, 1) := by decide +kernel
theorem dc_M_expect_125 : decode bc_M_expect 125 = .ok (.iload_n 3, 1) := by decide +kernel
theorem dc_M_expect_126 : decode bc_M_expect 126 = .ok (.iload_n 1, 1) := by decide +kernel
theorem dc_M_expect_127 : decode bc_M_expect 127 = .ok (.invokevirtual 217, 3) := by decide +kernel
theorem dc_M_expect_130 : decode bc_M_expect 130 = .ok (.aload_n 0, 1) := by decide +kernel
theorem dc_M_expect_131 : decode bc_M_expect 131 = .ok (.iconst 5, 1) := by decide +kernel
theorem dc_M_expect_132 : decode bc_M_expect 132 = .ok (.iload_n 1, 1) := by decide +kernel
theorem dc_M_expect_133 : decode bc_M_expect 133 = .ok (.invokevirtual 217, 3) := by decide +kernel
theorem dc_M_expect_136 : decode bc_M_expect 136 = .ok (.goto 131, 3) := by decide +kernel
theorem dc_M_expect_139 : decode bc_M_expect 139 = .ok (.aload_n 0, 1) := by decide +kernel
theorem dc_M_expect_140 : decode bc_M_expect 140 = .ok (.iconst 3, 1) := by decide +kernel
theorem dc_M_expect_141 : decode bc_M_expect 141 = .ok (.iload_n 1, 1) := by decide +kernel
theorem dc_M_expect_142 : decode bc_M_expect 142 = .ok (.invokevirtual 217, 3) := by decide +kernel
theorem dc_M_expect_145 : decode bc_M_expect 145 = .ok (.aload_n 0, 1) := by decide +kernel
theorem dc_M_expect_146 : decode bc_M_expect 146 = .ok (.bipush 8, 2) := by decide +kernel
theorem dc_M_expect_148 : decode bc_M_expect 148 = .ok (.iload_n 1, 1) := by decide +kernel
theorem dc_M_expect_149 : decode bc_M_expect 149 = .ok (.invokevirtual 217, 3) := by decide +kernel
theorem dc_M_expect_152 : decode bc_M_expect 152 = .ok (.aload_n 0, 1) := by decide +kernel
theorem dc_M_expect_153 : decode bc_M_expect 153 = .ok (.iload_n 3, 1) := by decide +kernel
theorem dc_M_expect_154 : decode bc_M_expect 154 = .ok (.iload_n 1, 1) := by decide +kernel
theorem dc_M_expect_155 : decode bc_M_expect 155 = .ok (.invokevirtual 217, 3) := by decide +kernel
theorem dc_M_expect_158 : decode bc_M_expect 158 = .ok (.aload_n 0, 1) := by decide +kernel
theorem dc_M_expect_159 : decode bc_M_expect 159 = .ok (.bipush 6, 2) := by decide +kernel
theorem dc_M_expect_161 : decode bc_M_expect 161 = .ok (.iload_n 1, 1) := by decide +kernel
theorem dc_M_expect_162 : decode bc_M_expect 162 = .ok (.invokevirtual 217, 3) := by decide +kernel
theorem dc_M_expect_165 : decode bc_M_expect 165 = .ok (.aload_n 0, 1) := by decide +kernel
theorem dc_M_expect_166 : decode bc_M_expect 166 = .ok (.iconst 5, 1) := by decide +kernel
theorem dc_M_expect_167 : decode bc_M_expect 167 = .ok (.iload_n 1, 1) := by decide +kernel
theorem dc_M_expect_168 : decode bc_M_expect 168 = .ok (.invokevirtual 217, 3) := by decide +kernel
theorem dc_M_expect_171 : decode bc_M_expect 171 = .ok (.aload_n 0, 1) := by decide +kernel
theorem dc_M_expect_172 : decode bc_M_expect 172 = .ok (.iconst 4, 1) := by decide +kernel
