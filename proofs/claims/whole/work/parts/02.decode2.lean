theorem dc_P_takesOutside_91 : decode bc_P_takesOutside 91 = .ok (.invokevirtual 92, 3) := by decide +kernel
theorem dc_P_takesOutside_94 : decode bc_P_takesOutside 94 = .ok (.ireturn, 1) := by decide +kernel
theorem dc_P_takesOutside_95 : decode bc_P_takesOutside 95 = .ok (.aload_n 0, 1) := by decide +kernel
theorem dc_P_takesOutside_96 : decode bc_P_takesOutside 96 = .ok (.invokevirtual 95, 3) := by decide +kernel
theorem dc_P_takesOutside_99 : decode bc_P_takesOutside 99 = .ok (.ireturn, 1) := by decide +kernel
theorem dc_P_takesOutside_100 : decode bc_P_takesOutside 100 = .ok (.aload_n 0, 1) := by decide +kernel
theorem dc_P_takesOutside_101 : decode bc_P_takesOutside 101 = .ok (.invokevirtual 98, 3) := by decide +kernel
theorem dc_P_takesOutside_104 : decode bc_P_takesOutside 104 = .ok (.ireturn, 1) := by decide +kernel
theorem dc_P_takesOutside_105 : decode bc_P_takesOutside 105 = .ok (.aload_n 0, 1) := by decide +kernel
theorem dc_P_takesOutside_106 : decode bc_P_takesOutside 106 = .ok (.iconst 3, 1) := by decide +kernel
theorem dc_P_takesOutside_107 : decode bc_P_takesOutside 107 = .ok (.iconst 4, 1) := by decide +kernel
theorem dc_P_takesOutside_108 : decode bc_P_takesOutside 108 = .ok (.invokevirtual 88, 3) := by decide +kernel
theorem dc_P_takesOutside_111 : decode bc_P_takesOutside 111 = .ok (.ireturn, 1) := by decide +kernel
theorem dc_P_takesOutside_112 : decode bc_P_takesOutside 112 = .ok (.aload_n 0, 1) := by decide +kernel
theorem dc_P_takesOutside_113 : decode bc_P_takesOutside 113 = .ok (.invokevirtual 101, 3) := by decide +kernel
theorem dc_P_takesOutside_116 : decode bc_P_takesOutside 116 = .ok (.ireturn, 1) := by decide +kernel
theorem dc_P_takesOutside_117 : decode bc_P_takesOutside 117 = .ok (.aload_n 0, 1) := by decide +kernel
theorem dc_P_takesOutside_118 : decode bc_P_takesOutside 118 = .ok (.invokevirtual 104, 3) := by decide +kernel
theorem dc_P_takesOutside_121 : decode bc_P_takesOutside 121 = .ok (.ifCond .eq 10, 3) := by decide +kernel
theorem dc_P_takesOutside_124 : decode bc_P_takesOutside 124 = .ok (.aload_n 0, 1) := by decide +kernel
theorem dc_P_takesOutside_125 : decode bc_P_takesOutside 125 = .ok (.invokevirtual 107, 3) := by decide +kernel
theorem dc_P_takesOutside_128 : decode bc_P_takesOutside 128 = .ok (.goto 7, 3) := by decide +kernel
theorem dc_P_takesOutside_131 : decode bc_P_takesOutside 131 = .ok (.aload_n 0, 1) := by decide +kernel
theorem dc_P_takesOutside_132 : decode bc_P_takesOutside 132 = .ok (.invokevirtual 110, 3) := by decide +kernel
theorem dc_P_takesOutside_135 : decode bc_P_takesOutside 135 = .ok (.ireturn, 1) := by decide +kernel
theorem dc_P_takesOutside_136 : decode bc_P_takesOutside 136 = .ok (.aload_n 0, 1) := by decide +kernel
theorem dc_P_takesOutside_137 : decode bc_P_takesOutside 137 = .ok (.aload_n 0, 1) := by decide +kernel
theorem dc_P_takesOutside_138 : decode bc_P_takesOutside 138 = .ok (.invokevirtual 113, 3) := by decide +kernel
theorem dc_P_takesOutside_141 : decode bc_P_takesOutside 141 = .ok (.invokevirtual 116, 3) := by decide +kernel
theorem dc_P_takesOutside_144 : decode bc_P_takesOutside 144 = .ok (.ireturn, 1) := by decide +kernel
theorem dc_P_takesOutside_145 : decode bc_P_takesOutside 145 = .ok (.aload_n 0, 1) := by decide +kernel
theorem dc_P_takesOutside_146 : decode bc_P_takesOutside 146 = .ok (.aload_n 0, 1) := by decide +kernel
theorem dc_P_takesOutside_147 : decode bc_P_takesOutside 147 = .ok (.invokevirtual 120, 3) := by decide +kernel
theorem dc_P_takesOutside_150 : decode bc_P_takesOutside 150 = .ok (.invokevirtual 116, 3) := by decide +kernel
theorem dc_P_takesOutside_153 : decode bc_P_takesOutside 153 = .ok (.ireturn, 1) := by decide +kernel
theorem dc_P_takesOutside_154 : decode bc_P_takesOutside 154 = .ok (.aload_n 0, 1) := by decide +kernel
theorem dc_P_takesOutside_155 : decode bc_P_takesOutside 155 = .ok (.iconst 3, 1) := by decide +kernel
theorem dc_P_takesOutside_156 : decode bc_P_takesOutside 156 = .ok (.iconst 0, 1) := by decide +kernel
theorem dc_P_takesOutside_157 : decode bc_P_takesOutside 157 = .ok (.invokevirtual 88, 3) := by decide +kernel
theorem dc_P_takesOutside_160 : decode bc_P_takesOutside 160 = .ok (.ireturn, 1) := by decide +kernel
theorem dc_P_beginsDefinition_0 : decode bc_P_beginsDefinition 0 = .ok (.aload_n 0, 1) := by decide +kernel
theorem dc_P_beginsDefinition_1 : decode bc_P_beginsDefinition 1 = .ok (.getfield 23, 3) := by decide +kernel
theorem dc_P_beginsDefinition_4 : decode bc_P_beginsDefinition 4 = .ok (.invokevirtual 129, 3) := by decide +kernel
theorem dc_P_beginsDefinition_7 : decode bc_P_beginsDefinition 7 = .ok (.bipush 64, 2) := by decide +kernel
theorem dc_P_beginsDefinition_9 : decode bc_P_beginsDefinition 9 = .ok (.if_icmp .ge 12, 3) := by decide +kernel
theorem dc_P_beginsDefinition_12 : decode bc_P_beginsDefinition 12 = .ok (.aload_n 0, 1) := by decide +kernel
theorem dc_P_beginsDefinition_13 : decode bc_P_beginsDefinition 13 = .ok (.iconst 2, 1) := by decide +kernel
theorem dc_P_beginsDefinition_14 : decode bc_P_beginsDefinition 14 = .ok (.iconst 1, 1) := by decide +kernel
theorem dc_P_beginsDefinition_15 : decode bc_P_beginsDefinition 15 = .ok (.invokevirtual 88, 3) := by decide +kernel
theorem dc_P_beginsDefinition_18 : decode bc_P_beginsDefinition 18 = .ok (.ifCond .ne 5, 3) := by decide +kernel
theorem dc_P_beginsDefinition_21 : decode bc_P_beginsDefinition 21 = .ok (.iconst 0, 1) := by decide +kernel
theorem dc_P_beginsDefinition_22 : decode bc_P_beginsDefinition 22 = .ok (.ireturn, 1) := by decide +kernel
theorem dc_P_beginsDefinition_23 : decode bc_P_beginsDefinition 23 = .ok (.aload_n 0, 1) := by decide +kernel
theorem dc_P_beginsDefinition_24 : decode bc_P_beginsDefinition 24 = .ok (.aload_n 0, 1) := by decide +kernel
theorem dc_P_beginsDefinition_25 : decode bc_P_beginsDefinition 25 = .ok (.getfield 23, 3) := by decide +kernel
theorem dc_P_beginsDefinition_28 : decode bc_P_beginsDefinition 28 = .ok (.invokevirtual 130, 3) := by decide +kernel
theorem dc_P_beginsDefinition_31 : decode bc_P_beginsDefinition 31 = .ok (.putfield 40, 3) := by decide +kernel
theorem dc_P_beginsDefinition_34 : decode bc_P_beginsDefinition 34 = .ok (.aload_n 0, 1) := by decide +kernel
theorem dc_P_beginsDefinition_35 : decode bc_P_beginsDefinition 35 = .ok (.getfield 23, 3) := by decide +kernel
theorem dc_P_beginsDefinition_38 : decode bc_P_beginsDefinition 38 = .ok (.aload_n 0, 1) := by decide +kernel
theorem dc_P_beginsDefinition_39 : decode bc_P_beginsDefinition 39 = .ok (.getfield 40, 3) := by decide +kernel
theorem dc_P_beginsDefinition_42 : decode bc_P_beginsDefinition 42 = .ok (.iconst 2, 1) := by decide +kernel
theorem dc_P_beginsDefinition_43 : decode bc_P_beginsDefinition 43 = .ok (.iconst 0, 1) := by decide +kernel
theorem dc_P_beginsDefinition_44 : decode bc_P_beginsDefinition 44 = .ok (.invokevirtual 133, 3) := by decide +kernel
theorem dc_P_beginsDefinition_47 : decode bc_P_beginsDefinition 47 = .ok (.iconst 1, 1) := by decide +kernel
theorem dc_P_beginsDefinition_48 : decode bc_P_beginsDefinition 48 = .ok (.ireturn, 1) := by decide +kernel
theorem dc_P_passes_0 : decode bc_P_passes 0 = .ok (.aload_n 0, 1) := by decide +kernel
theorem dc_P_passes_1 : decode bc_P_passes 1 = .ok (.getfield 12, 3) := by decide +kernel
theorem dc_P_passes_4 : decode bc_P_passes 4 = .ok (.getfield 57, 3) := by decide +kernel
theorem dc_P_passes_7 : decode bc_P_passes 7 = .ok (.iload_n 1, 1) := by decide +kernel
theorem dc_P_passes_8 : decode bc_P_passes 8 = .ok (.if_icmp .eq 5, 3) := by decide +kernel
theorem dc_P_passes_11 : decode bc_P_passes 11 = .ok (.iconst 0, 1) := by decide +kernel
theorem dc_P_passes_12 : decode bc_P_passes 12 = .ok (.ireturn, 1) := by decide +kernel
theorem dc_P_passes_13 : decode bc_P_passes 13 = .ok (.aload_n 0, 1) := by decide +kernel
theorem dc_P_passes_14 : decode bc_P_passes 14 = .ok (.iload_n 2, 1) := by decide +kernel
theorem dc_P_passes_15 : decode bc_P_passes 15 = .ok (.putfield 37, 3) := by decide +kernel
theorem dc_P_passes_18 : decode bc_P_passes 18 = .ok (.iconst 1, 1) := by decide +kernel
theorem dc_P_passes_19 : decode bc_P_passes 19 = .ok (.ireturn, 1) := by decide +kernel
theorem dc_P_takesLevel_0 : decode bc_P_takesLevel 0 = .ok (.aload_n 0, 1) := by decide +kernel
theorem dc_P_takesLevel_1 : decode bc_P_takesLevel 1 = .ok (.invokevirtual 126, 3) := by decide +kernel
theorem dc_P_takesLevel_4 : decode bc_P_takesLevel 4 = .ok (.istore_n 1, 1) := by decide +kernel
theorem dc_P_takesLevel_5 : decode bc_P_takesLevel 5 = .ok (.iload_n 1, 1) := by decide +kernel
theorem dc_P_takesLevel_6 : decode bc_P_takesLevel 6 = .ok (.ifCond .eq 10, 3) := by decide +kernel
theorem dc_P_takesLevel_9 : decode bc_P_takesLevel 9 = .ok (.iload_n 1, 1) := by decide +kernel
theorem dc_P_takesLevel_10 : decode bc_P_takesLevel 10 = .ok (.iconst 1, 1) := by decide +kernel
theorem dc_P_takesLevel_11 : decode bc_P_takesLevel 11 = .ok (.if_icmp .eq 5, 3) := by decide +kernel
theorem dc_P_takesLevel_14 : decode bc_P_takesLevel 14 = .ok (.iconst 0, 1) := by decide +kernel
theorem dc_P_takesLevel_15 : decode bc_P_takesLevel 15 = .ok (.ireturn, 1) := by decide +kernel
theorem dc_P_takesLevel_16 : decode bc_P_takesLevel 16 = .ok (.aload_n 0, 1) := by decide +kernel
theorem dc_P_takesLevel_17 : decode bc_P_takesLevel 17 = .ok (.getfield 23, 3) := by decide +kernel
theorem dc_P_takesLevel_20 : decode bc_P_takesLevel 20 = .ok (.aload_n 0, 1) := by decide +kernel
theorem dc_P_takesLevel_21 : decode bc_P_takesLevel 21 = .ok (.getfield 40, 3) := by decide +kernel
theorem dc_P_takesLevel_24 : decode bc_P_takesLevel 24 = .ok (.iconst 0, 1) := by decide +kernel
theorem dc_P_takesLevel_25 : decode bc_P_takesLevel 25 = .ok (.iload_n 1, 1) := by decide +kernel
theorem dc_P_takesLevel_26 : decode bc_P_takesLevel 26 = .ok (.iconst 1, 1) := by decide +kernel
theorem dc_P_takesLevel_27 : decode bc_P_takesLevel 27 = .ok (.if_icmp .ne 7, 3) := by decide +kernel
theorem dc_P_takesLevel_30 : decode bc_P_takesLevel 30 = .ok (.iconst 1, 1) := by decide +kernel
theorem dc_P_takesLevel_31 : decode bc_P_takesLevel 31 = .ok (.goto 4, 3) := by decide +kernel
theorem dc_P_takesLevel_34 : decode bc_P_takesLevel 34 = .ok (.iconst 0, 1) := by decide +kernel
theorem dc_P_takesLevel_35 : decode bc_P_takesLevel 35 = .ok (.invokevirtual 133, 3) := by decide +kernel
theorem dc_P_takesLevel_38 : decode bc_P_takesLevel 38 = .ok (.aload_n 0, 1) := by decide +kernel
theorem dc_P_takesLevel_39 : decode bc_P_takesLevel 39 = .ok (.iconst 2, 1) := by decide +kernel
theorem dc_P_takesLevel_40 : decode bc_P_takesLevel 40 = .ok (.putfield 37, 3) := by decide +kernel
theorem dc_P_takesLevel_43 : decode bc_P_takesLevel 43 = .ok (.iconst 1, 1) := by decide +kernel
theorem dc_P_takesLevel_44 : decode bc_P_takesLevel 44 = .ok (.ireturn, 1) := by decide +kernel
theorem dc_P_takesTitle_0 : decode bc_P_takesTitle 0 = .ok (.aload_n 0, 1) := by decide +kernel
theorem dc_P_takesTitle_1 : decode bc_P_takesTitle 1 = .ok (.invokevirtual 137, 3) := by decide +kernel
theorem dc_P_takesTitle_4 : decode bc_P_takesTitle 4 = .ok (.ifCond .ne 5, 3) := by decide +kernel
theorem dc_P_takesTitle_7 : decode bc_P_takesTitle 7 = .ok (.iconst 0, 1) := by decide +kernel
theorem dc_P_takesTitle_8 : decode bc_P_takesTitle 8 = .ok (.ireturn, 1) := by decide +kernel
theorem dc_P_takesTitle_9 : decode bc_P_takesTitle 9 = .ok (.iconst 0, 1) := by decide +kernel
theorem dc_P_takesTitle_10 : decode bc_P_takesTitle 10 = .ok (.istore_n 1, 1) := by decide +kernel
theorem dc_P_takesTitle_11 : decode bc_P_takesTitle 11 = .ok (.iload_n 1, 1) := by decide +kernel
theorem dc_P_takesTitle_12 : decode bc_P_takesTitle 12 = .ok (.aload_n 0, 1) := by decide +kernel
theorem dc_P_takesTitle_13 : decode bc_P_takesTitle 13 = .ok (.getfield 40, 3) := by decide +kernel
theorem dc_P_takesTitle_16 : decode bc_P_takesTitle 16 = .ok (.if_icmp .ge 31, 3) := by decide +kernel
theorem dc_P_takesTitle_19 : decode bc_P_takesTitle 19 = .ok (.aload_n 0, 1) := by decide +kernel
theorem dc_P_takesTitle_20 : decode bc_P_takesTitle 20 = .ok (.getfield 23, 3) := by decide +kernel
theorem dc_P_takesTitle_23 : decode bc_P_takesTitle 23 = .ok (.iload_n 1, 1) := by decide +kernel
theorem dc_P_takesTitle_24 : decode bc_P_takesTitle 24 = .ok (.iconst 0, 1) := by decide +kernel
theorem dc_P_takesTitle_25 : decode bc_P_takesTitle 25 = .ok (.invokevirtual 140, 3) := by decide +kernel
theorem dc_P_takesTitle_28 : decode bc_P_takesTitle 28 = .ok (.aload_n 0, 1) := by decide +kernel
theorem dc_P_takesTitle_29 : decode bc_P_takesTitle 29 = .ok (.getfield 12, 3) := by decide +kernel
theorem dc_P_takesTitle_32 : decode bc_P_takesTitle 32 = .ok (.getfield 144, 3) := by decide +kernel
theorem dc_P_takesTitle_35 : decode bc_P_takesTitle 35 = .ok (.lcmp, 1) := by decide +kernel
theorem dc_P_takesTitle_36 : decode bc_P_takesTitle 36 = .ok (.ifCond .ne 5, 3) := by decide +kernel
theorem dc_P_takesTitle_39 : decode bc_P_takesTitle 39 = .ok (.iconst 0, 1) := by decide +kernel
theorem dc_P_takesTitle_40 : decode bc_P_takesTitle 40 = .ok (.ireturn, 1) := by decide +kernel
theorem dc_P_takesTitle_41 : decode bc_P_takesTitle 41 = .ok (.iinc 1 1, 3) := by decide +kernel
theorem dc_P_takesTitle_44 : decode bc_P_takesTitle 44 = .ok (.goto (-33), 3) := by decide +kernel
theorem dc_P_takesTitle_47 : decode bc_P_takesTitle 47 = .ok (.aload_n 0, 1) := by decide +kernel
theorem dc_P_takesTitle_48 : decode bc_P_takesTitle 48 = .ok (.getfield 23, 3) := by decide +kernel
theorem dc_P_takesTitle_51 : decode bc_P_takesTitle 51 = .ok (.aload_n 0, 1) := by decide +kernel
theorem dc_P_takesTitle_52 : decode bc_P_takesTitle 52 = .ok (.getfield 40, 3) := by decide +kernel
theorem dc_P_takesTitle_55 : decode bc_P_takesTitle 55 = .ok (.iconst 0, 1) := by decide +kernel
theorem dc_P_takesTitle_56 : decode bc_P_takesTitle 56 = .ok (.aload_n 0, 1) := by decide +kernel
theorem dc_P_takesTitle_57 : decode bc_P_takesTitle 57 = .ok (.getfield 12, 3) := by decide +kernel
theorem dc_P_takesTitle_60 : decode bc_P_takesTitle 60 = .ok (.getfield 144, 3) := by decide +kernel
theorem dc_P_takesTitle_63 : decode bc_P_takesTitle 63 = .ok (.invokevirtual 148, 3) := by decide +kernel
theorem dc_P_takesTitle_66 : decode bc_P_takesTitle 66 = .ok (.aload_n 0, 1) := by decide +kernel
theorem dc_P_takesTitle_67 : decode bc_P_takesTitle 67 = .ok (.getfield 23, 3) := by decide +kernel
theorem dc_P_takesTitle_70 : decode bc_P_takesTitle 70 = .ok (.aload_n 0, 1) := by decide +kernel
theorem dc_P_takesTitle_71 : decode bc_P_takesTitle 71 = .ok (.getfield 40, 3) := by decide +kernel
theorem dc_P_takesTitle_74 : decode bc_P_takesTitle 74 = .ok (.iconst 4, 1) := by decide +kernel
theorem dc_P_takesTitle_75 : decode bc_P_takesTitle 75 = .ok (.aload_n 0, 1) := by decide +kernel
theorem dc_P_takesTitle_76 : decode bc_P_takesTitle 76 = .ok (.getfield 12, 3) := by decide +kernel
theorem dc_P_takesTitle_79 : decode bc_P_takesTitle 79 = .ok (.getfield 70, 3) := by decide +kernel
theorem dc_P_takesTitle_82 : decode bc_P_takesTitle 82 = .ok (.invokevirtual 133, 3) := by decide +kernel
theorem dc_P_takesTitle_85 : decode bc_P_takesTitle 85 = .ok (.aload_n 0, 1) := by decide +kernel
theorem dc_P_takesTitle_86 : decode bc_P_takesTitle 86 = .ok (.iconst 3, 1) := by decide +kernel
theorem dc_P_takesTitle_87 : decode bc_P_takesTitle 87 = .ok (.putfield 37, 3) := by decide +kernel
theorem dc_P_takesTitle_90 : decode bc_P_takesTitle 90 = .ok (.iconst 1, 1) := by decide +kernel
theorem dc_P_takesTitle_91 : decode bc_P_takesTitle 91 = .ok (.ireturn, 1) := by decide +kernel
theorem dc_P_takesParameterOrEnd_0 : decode bc_P_takesParameterOrEnd 0 = .ok (.aload_n 0, 1) := by decide +kernel
theorem dc_P_takesParameterOrEnd_1 : decode bc_P_takesParameterOrEnd 1 = .ok (.getfield 12, 3) := by decide +kernel
theorem dc_P_takesParameterOrEnd_4 : decode bc_P_takesParameterOrEnd 4 = .ok (.getfield 57, 3) := by decide +kernel
theorem dc_P_takesParameterOrEnd_7 : decode bc_P_takesParameterOrEnd 7 = .ok (.iconst 3, 1) := by decide +kernel
theorem dc_P_takesParameterOrEnd_8 : decode bc_P_takesParameterOrEnd 8 = .ok (.if_icmp .ne 11, 3) := by decide +kernel
theorem dc_P_takesParameterOrEnd_11 : decode bc_P_takesParameterOrEnd 11 = .ok (.aload_n 0, 1) := by decide +kernel
theorem dc_P_takesParameterOrEnd_12 : decode bc_P_takesParameterOrEnd 12 = .ok (.bipush 8, 2) := by decide +kernel
theorem dc_P_takesParameterOrEnd_14 : decode bc_P_takesParameterOrEnd 14 = .ok (.putfield 37, 3) := by decide +kernel
theorem dc_P_takesParameterOrEnd_17 : decode bc_P_takesParameterOrEnd 17 = .ok (.iconst 1, 1) := by decide +kernel
theorem dc_P_takesParameterOrEnd_18 : decode bc_P_takesParameterOrEnd 18 = .ok (.ireturn, 1) := by decide +kernel
theorem dc_P_takesParameterOrEnd_19 : decode bc_P_takesParameterOrEnd 19 = .ok (.aload_n 0, 1) := by decide +kernel
theorem dc_P_takesParameterOrEnd_20 : decode bc_P_takesParameterOrEnd 20 = .ok (.getfield 23, 3) := by decide +kernel
theorem dc_P_takesParameterOrEnd_23 : decode bc_P_takesParameterOrEnd 23 = .ok (.aload_n 0, 1) := by decide +kernel
theorem dc_P_takesParameterOrEnd_24 : decode bc_P_takesParameterOrEnd 24 = .ok (.getfield 40, 3) := by decide +kernel
theorem dc_P_takesParameterOrEnd_27 : decode bc_P_takesParameterOrEnd 27 = .ok (.iconst 2, 1) := by decide +kernel
theorem dc_P_takesParameterOrEnd_28 : decode bc_P_takesParameterOrEnd 28 = .ok (.invokevirtual 152, 3) := by decide +kernel
theorem dc_P_takesParameterOrEnd_31 : decode bc_P_takesParameterOrEnd 31 = .ok (.bipush 8, 2) := by decide +kernel
theorem dc_P_takesParameterOrEnd_33 : decode bc_P_takesParameterOrEnd 33 = .ok (.if_icmp .ge 16, 3) := by decide +kernel
theorem dc_P_takesParameterOrEnd_36 : decode bc_P_takesParameterOrEnd 36 = .ok (.aload_n 0, 1) := by decide +kernel
theorem dc_P_takesParameterOrEnd_37 : decode bc_P_takesParameterOrEnd 37 = .ok (.iconst 2, 1) := by decide +kernel
theorem dc_P_takesParameterOrEnd_38 : decode bc_P_takesParameterOrEnd 38 = .ok (.iconst 5, 1) := by decide +kernel
theorem dc_P_takesParameterOrEnd_39 : decode bc_P_takesParameterOrEnd 39 = .ok (.invokevirtual 88, 3) := by decide +kernel
theorem dc_P_takesParameterOrEnd_42 : decode bc_P_takesParameterOrEnd 42 = .ok (.ifCond .eq 7, 3) := by decide +kernel
theorem dc_P_takesParameterOrEnd_45 : decode bc_P_takesParameterOrEnd 45 = .ok (.iconst 1, 1) := by decide +kernel
theorem dc_P_takesParameterOrEnd_46 : decode bc_P_takesParameterOrEnd 46 = .ok (.goto 4, 3) := by decide +kernel
theorem dc_P_takesParameterOrEnd_49 : decode bc_P_takesParameterOrEnd 49 = .ok (.iconst 0, 1) := by decide +kernel
theorem dc_P_takesParameterOrEnd_50 : decode bc_P_takesParameterOrEnd 50 = .ok (.ireturn, 1) := by decide +kernel
theorem dc_P_takesParameter_0 : decode bc_P_takesParameter 0 = .ok (.aload_n 0, 1) := by decide +kernel
theorem dc_P_takesParameter_1 : decode bc_P_takesParameter 1 = .ok (.invokevirtual 137, 3) := by decide +kernel
theorem dc_P_takesParameter_4 : decode bc_P_takesParameter 4 = .ok (.ifCond .ne 5, 3) := by decide +kernel
theorem dc_P_takesParameter_7 : decode bc_P_takesParameter 7 = .ok (.iconst 0, 1) := by decide +kernel
theorem dc_P_takesParameter_8 : decode bc_P_takesParameter 8 = .ok (.ireturn, 1) := by decide +kernel
theorem dc_P_takesParameter_9 : decode bc_P_takesParameter 9 = .ok (.aload_n 0, 1) := by decide +kernel
theorem dc_P_takesParameter_10 : decode bc_P_takesParameter 10 = .ok (.getfield 23, 3) := by decide +kernel
theorem dc_P_takesParameter_13 : decode bc_P_takesParameter 13 = .ok (.aload_n 0, 1) := by decide +kernel
theorem dc_P_takesParameter_14 : decode bc_P_takesParameter 14 = .ok (.getfield 40, 3) := by decide +kernel
theorem dc_P_takesParameter_17 : decode bc_P_takesParameter 17 = .ok (.iconst 2, 1) := by decide +kernel
theorem dc_P_takesParameter_18 : decode bc_P_takesParameter 18 = .ok (.invokevirtual 152, 3) := by decide +kernel
theorem dc_P_takesParameter_21 : decode bc_P_takesParameter 21 = .ok (.istore_n 1, 1) := by decide +kernel
theorem dc_P_takesParameter_22 : decode bc_P_takesParameter 22 = .ok (.iconst 0, 1) := by decide +kernel
theorem dc_P_takesParameter_23 : decode bc_P_takesParameter 23 = .ok (.istore_n 2, 1) := by decide +kernel
theorem dc_P_takesParameter_24 : decode bc_P_takesParameter 24 = .ok (.iload_n 2, 1) := by decide +kernel
theorem dc_P_takesParameter_25 : decode bc_P_takesParameter 25 = .ok (.iload_n 1, 1) := by decide +kernel
theorem dc_P_takesParameter_26 : decode bc_P_takesParameter 26 = .ok (.if_icmp .ge 36, 3) := by decide +kernel
theorem dc_P_takesParameter_29 : decode bc_P_takesParameter 29 = .ok (.aload_n 0, 1) := by decide +kernel
theorem dc_P_takesParameter_30 : decode bc_P_takesParameter 30 = .ok (.getfield 23, 3) := by decide +kernel
theorem dc_P_takesParameter_33 : decode bc_P_takesParameter 33 = .ok (.aload_n 0, 1) := by decide +kernel
theorem dc_P_takesParameter_34 : decode bc_P_takesParameter 34 = .ok (.getfield 40, 3) := by decide +kernel
theorem dc_P_takesParameter_37 : decode bc_P_takesParameter 37 = .ok (.iconst 1, 1) := by decide +kernel
theorem dc_P_takesParameter_38 : decode bc_P_takesParameter 38 = .ok (.iload_n 2, 1) := by decide +kernel
theorem dc_P_takesParameter_39 : decode bc_P_takesParameter 39 = .ok (.iadd, 1) := by decide +kernel
theorem dc_P_takesParameter_40 : decode bc_P_takesParameter 40 = .ok (.invokevirtual 140, 3) := by decide +kernel
theorem dc_P_takesParameter_43 : decode bc_P_takesParameter 43 = .ok (.aload_n 0, 1) := by decide +kernel
theorem dc_P_takesParameter_44 : decode bc_P_takesParameter 44 = .ok (.getfield 12, 3) := by decide +kernel
theorem dc_P_takesParameter_47 : decode bc_P_takesParameter 47 = .ok (.getfield 144, 3) := by decide +kernel
theorem dc_P_takesParameter_50 : decode bc_P_takesParameter 50 = .ok (.lcmp, 1) := by decide +kernel
theorem dc_P_takesParameter_51 : decode bc_P_takesParameter 51 = .ok (.ifCond .ne 5, 3) := by decide +kernel
theorem dc_P_takesParameter_54 : decode bc_P_takesParameter 54 = .ok (.iconst 0, 1) := by decide +kernel
theorem dc_P_takesParameter_55 : decode bc_P_takesParameter 55 = .ok (.ireturn, 1) := by decide +kernel
theorem dc_P_takesParameter_56 : decode bc_P_takesParameter 56 = .ok (.iinc 2 1, 3) := by decide +kernel
theorem dc_P_takesParameter_59 : decode bc_P_takesParameter 59 = .ok (.goto (-35), 3) := by decide +kernel
theorem dc_P_takesParameter_62 : decode bc_P_takesParameter 62 = .ok (.aload_n 0, 1) := by decide +kernel
theorem dc_P_takesParameter_63 : decode bc_P_takesParameter 63 = .ok (.getfield 23, 3) := by decide +kernel
theorem dc_P_takesParameter_66 : decode bc_P_takesParameter 66 = .ok (.aload_n 0, 1) := by decide +kernel
theorem dc_P_takesParameter_67 : decode bc_P_takesParameter 67 = .ok (.getfield 40, 3) := by decide +kernel
theorem dc_P_takesParameter_70 : decode bc_P_takesParameter 70 = .ok (.iconst 1, 1) := by decide +kernel
theorem dc_P_takesParameter_71 : decode bc_P_takesParameter 71 = .ok (.iload_n 1, 1) := by decide +kernel
theorem dc_P_takesParameter_72 : decode bc_P_takesParameter 72 = .ok (.iadd, 1) := by decide +kernel
theorem dc_P_takesParameter_73 : decode bc_P_takesParameter 73 = .ok (.aload_n 0, 1) := by decide +kernel
theorem dc_P_takesParameter_74 : decode bc_P_takesParameter 74 = .ok (.getfield 12, 3) := by decide +kernel
theorem dc_P_takesParameter_77 : decode bc_P_takesParameter 77 = .ok (.getfield 144, 3) := by decide +kernel
theorem dc_P_takesParameter_80 : decode bc_P_takesParameter 80 = .ok (.invokevirtual 148, 3) := by decide +kernel
theorem dc_P_takesParameter_83 : decode bc_P_takesParameter 83 = .ok (.aload_n 0, 1) := by decide +kernel
theorem dc_P_takesParameter_84 : decode bc_P_takesParameter 84 = .ok (.bipush 6, 2) := by decide +kernel
theorem dc_P_takesParameter_86 : decode bc_P_takesParameter 86 = .ok (.putfield 37, 3) := by decide +kernel
theorem dc_P_takesParameter_89 : decode bc_P_takesParameter 89 = .ok (.iconst 1, 1) := by decide +kernel
theorem dc_P_takesParameter_90 : decode bc_P_takesParameter 90 = .ok (.ireturn, 1) := by decide +kernel
theorem dc_P_takesParameterType_0 : decode bc_P_takesParameterType 0 = .ok (.aload_n 0, 1) := by decide +kernel
theorem dc_P_takesParameterType_1 : decode bc_P_takesParameterType 1 = .ok (.invokevirtual 156, 3) := by decide +kernel
theorem dc_P_takesParameterType_4 : decode bc_P_takesParameterType 4 = .ok (.istore_n 1, 1) := by decide +kernel
theorem dc_P_takesParameterType_5 : decode bc_P_takesParameterType 5 = .ok (.iload_n 1, 1) := by decide +kernel
theorem dc_P_takesParameterType_6 : decode bc_P_takesParameterType 6 = .ok (.iconst (-1), 1) := by decide +kernel
theorem dc_P_takesParameterType_7 : decode bc_P_takesParameterType 7 = .ok (.if_icmp .ne 5, 3) := by decide +kernel
theorem dc_P_takesParameterType_10 : decode bc_P_takesParameterType 10 = .ok (.iconst 0, 1) := by decide +kernel
theorem dc_P_takesParameterType_11 : decode bc_P_takesParameterType 11 = .ok (.ireturn, 1) := by decide +kernel
theorem dc_P_takesParameterType_12 : decode bc_P_takesParameterType 12 = .ok (.aload_n 0, 1) := by decide +kernel
theorem dc_P_takesParameterType_13 : decode bc_P_takesParameterType 13 = .ok (.getfield 23, 3) := by decide +kernel
theorem dc_P_takesParameterType_16 : decode bc_P_takesParameterType 16 = .ok (.aload_n 0, 1) := by decide +kernel
theorem dc_P_takesParameterType_17 : decode bc_P_takesParameterType 17 = .ok (.getfield 40, 3) := by decide +kernel
theorem dc_P_takesParameterType_20 : decode bc_P_takesParameterType 20 = .ok (.iconst 2, 1) := by decide +kernel
theorem dc_P_takesParameterType_21 : decode bc_P_takesParameterType 21 = .ok (.invokevirtual 152, 3) := by decide +kernel
theorem dc_P_takesParameterType_24 : decode bc_P_takesParameterType 24 = .ok (.istore_n 2, 1) := by decide +kernel
theorem dc_P_takesParameterType_25 : decode bc_P_takesParameterType 25 = .ok (.aload_n 0, 1) := by decide +kernel
theorem dc_P_takesParameterType_26 : decode bc_P_takesParameterType 26 = .ok (.getfield 23, 3) := by decide +kernel
theorem dc_P_takesParameterType_29 : decode bc_P_takesParameterType 29 = .ok (.aload_n 0, 1) := by decide +kernel
theorem dc_P_takesParameterType_30 : decode bc_P_takesParameterType 30 = .ok (.getfield 40, 3) := by decide +kernel
theorem dc_P_takesParameterType_33 : decode bc_P_takesParameterType 33 = .ok (.iconst 5, 1) := by decide +kernel
theorem dc_P_takesParameterType_34 : decode bc_P_takesParameterType 34 = .ok (.iload_n 2, 1) := by decide +kernel
theorem dc_P_takesParameterType_35 : decode bc_P_takesParameterType 35 = .ok (.iadd, 1) := by decide +kernel
theorem dc_P_takesParameterType_36 : decode bc_P_takesParameterType 36 = .ok (.iload_n 1, 1) := by decide +kernel
theorem dc_P_takesParameterType_37 : decode bc_P_takesParameterType 37 = .ok (.invokevirtual 133, 3) := by decide +kernel
theorem dc_P_takesParameterType_40 : decode bc_P_takesParameterType 40 = .ok (.aload_n 0, 1) := by decide +kernel
theorem dc_P_takesParameterType_41 : decode bc_P_takesParameterType 41 = .ok (.getfield 23, 3) := by decide +kernel
theorem dc_P_takesParameterType_44 : decode bc_P_takesParameterType 44 = .ok (.aload_n 0, 1) := by decide +kernel
theorem dc_P_takesParameterType_45 : decode bc_P_takesParameterType 45 = .ok (.getfield 40, 3) := by decide +kernel
theorem dc_P_takesParameterType_48 : decode bc_P_takesParameterType 48 = .ok (.iconst 2, 1) := by decide +kernel
theorem dc_P_takesParameterType_49 : decode bc_P_takesParameterType 49 = .ok (.iload_n 2, 1) := by decide +kernel
theorem dc_P_takesParameterType_50 : decode bc_P_takesParameterType 50 = .ok (.iconst 1, 1) := by decide +kernel
theorem dc_P_takesParameterType_51 : decode bc_P_takesParameterType 51 = .ok (.iadd, 1) := by decide +kernel
theorem dc_P_takesParameterType_52 : decode bc_P_takesParameterType 52 = .ok (.invokevirtual 133, 3) := by decide +kernel
theorem dc_P_takesParameterType_55 : decode bc_P_takesParameterType 55 = .ok (.aload_n 0, 1) := by decide +kernel
theorem dc_P_takesParameterType_56 : decode bc_P_takesParameterType 56 = .ok (.bipush 7, 2) := by decide +kernel
theorem dc_P_takesParameterType_58 : decode bc_P_takesParameterType 58 = .ok (.putfield 37, 3) := by decide +kernel
theorem dc_P_takesParameterType_61 : decode bc_P_takesParameterType 61 = .ok (.iconst 1, 1) := by decide +kernel
theorem dc_P_takesParameterType_62 : decode bc_P_takesParameterType 62 = .ok (.ireturn, 1) := by decide +kernel
theorem dc_P_typeHere_0 : decode bc_P_typeHere 0 = .ok (.aload_n 0, 1) := by decide +kernel
theorem dc_P_typeHere_1 : decode bc_P_typeHere 1 = .ok (.invokevirtual 126, 3) := by decide +kernel
theorem dc_P_typeHere_4 : decode bc_P_typeHere 4 = .ok (.tableswitch 52 16 22 #[48, 50, 52, 52, 52, 44, 46], 44) := by decide +kernel
theorem dc_P_typeHere_48 : decode bc_P_typeHere 48 = .ok (.iconst 0, 1) := by decide +kernel
theorem dc_P_typeHere_49 : decode bc_P_typeHere 49 = .ok (.ireturn, 1) := by decide +kernel
theorem dc_P_typeHere_50 : decode bc_P_typeHere 50 = .ok (.iconst 1, 1) := by decide +kernel
theorem dc_P_typeHere_51 : decode bc_P_typeHere 51 = .ok (.ireturn, 1) := by decide +kernel
theorem dc_P_typeHere_52 : decode bc_P_typeHere 52 = .ok (.iconst 2, 1) := by decide +kernel
theorem dc_P_typeHere_53 : decode bc_P_typeHere 53 = .ok (.ireturn, 1) := by decide +kernel
theorem dc_P_typeHere_54 : decode bc_P_typeHere 54 = .ok (.iconst 3, 1) := by decide +kernel
theorem dc_P_typeHere_55 : decode bc_P_typeHere 55 = .ok (.ireturn, 1) := by decide +kernel
theorem dc_P_typeHere_56 : decode bc_P_typeHere 56 = .ok (.iconst (-1), 1) := by decide +kernel
theorem dc_P_typeHere_57 : decode bc_P_typeHere 57 = .ok (.ireturn, 1) := by decide +kernel
theorem dc_P_takesType_0 : decode bc_P_takesType 0 = .ok (.aload_n 0, 1) := by decide +kernel
theorem dc_P_takesType_1 : decode bc_P_takesType 1 = .ok (.invokevirtual 156, 3) := by decide +kernel
theorem dc_P_takesType_4 : decode bc_P_takesType 4 = .ok (.istore_n 1, 1) := by decide +kernel
theorem dc_P_takesType_5 : decode bc_P_takesType 5 = .ok (.iload_n 1, 1) := by decide +kernel
theorem dc_P_takesType_6 : decode bc_P_takesType 6 = .ok (.iconst (-1), 1) := by decide +kernel
theorem dc_P_takesType_7 : decode bc_P_takesType 7 = .ok (.if_icmp .eq 15, 3) := by decide +kernel
theorem dc_P_takesType_10 : decode bc_P_takesType 10 = .ok (.iload_n 1, 1) := by decide +kernel
theorem dc_P_takesType_11 : decode bc_P_takesType 11 = .ok (.iconst 1, 1) := by decide +kernel
theorem dc_P_takesType_12 : decode bc_P_takesType 12 = .ok (.if_icmp .le 12, 3) := by decide +kernel
theorem dc_P_takesType_15 : decode bc_P_takesType 15 = .ok (.aload_n 0, 1) := by decide +kernel
theorem dc_P_takesType_16 : decode bc_P_takesType 16 = .ok (.invokevirtual 104, 3) := by decide +kernel
theorem dc_P_takesType_19 : decode bc_P_takesType 19 = .ok (.ifCond .eq 5, 3) := by decide +kernel
theorem dc_P_takesType_22 : decode bc_P_takesType 22 = .ok (.iconst 0, 1) := by decide +kernel
theorem dc_P_takesType_23 : decode bc_P_takesType 23 = .ok (.ireturn, 1) := by decide +kernel
theorem dc_P_takesType_24 : decode bc_P_takesType 24 = .ok (.aload_n 0, 1) := by decide +kernel
theorem dc_P_takesType_25 : decode bc_P_takesType 25 = .ok (.getfield 23, 3) := by decide +kernel
theorem dc_P_takesType_28 : decode bc_P_takesType 28 = .ok (.aload_n 0, 1) := by decide +kernel
theorem dc_P_takesType_29 : decode bc_P_takesType 29 = .ok (.getfield 40, 3) := by decide +kernel
theorem dc_P_takesType_32 : decode bc_P_takesType 32 = .ok (.iconst 1, 1) := by decide +kernel
theorem dc_P_takesType_33 : decode bc_P_takesType 33 = .ok (.iload_n 1, 1) := by decide +kernel
theorem dc_P_takesType_34 : decode bc_P_takesType 34 = .ok (.invokevirtual 133, 3) := by decide +kernel
theorem dc_P_takesType_37 : decode bc_P_takesType 37 = .ok (.aload_n 0, 1) := by decide +kernel
theorem dc_P_takesType_38 : decode bc_P_takesType 38 = .ok (.getfield 23, 3) := by decide +kernel
theorem dc_P_takesType_41 : decode bc_P_takesType 41 = .ok (.aload_n 0, 1) := by decide +kernel
theorem dc_P_takesType_42 : decode bc_P_takesType 42 = .ok (.getfield 40, 3) := by decide +kernel
theorem dc_P_takesType_45 : decode bc_P_takesType 45 = .ok (.iconst 3, 1) := by decide +kernel
theorem dc_P_takesType_46 : decode bc_P_takesType 46 = .ok (.aload_n 0, 1) := by decide +kernel
theorem dc_P_takesType_47 : decode bc_P_takesType 47 = .ok (.getfield 27, 3) := by decide +kernel
theorem dc_P_takesType_50 : decode bc_P_takesType 50 = .ok (.invokevirtual 129, 3) := by decide +kernel
theorem dc_P_takesType_53 : decode bc_P_takesType 53 = .ok (.invokevirtual 133, 3) := by decide +kernel
theorem dc_P_takesType_56 : decode bc_P_takesType 56 = .ok (.aload_n 0, 1) := by decide +kernel
theorem dc_P_takesType_57 : decode bc_P_takesType 57 = .ok (.bipush 9, 2) := by decide +kernel
theorem dc_P_takesType_59 : decode bc_P_takesType 59 = .ok (.putfield 37, 3) := by decide +kernel
theorem dc_P_takesType_62 : decode bc_P_takesType 62 = .ok (.iconst 1, 1) := by decide +kernel
theorem dc_P_takesType_63 : decode bc_P_takesType 63 = .ok (.ireturn, 1) := by decide +kernel
theorem dc_P_isChange_0 : decode bc_P_isChange 0 = .ok (.aload_n 0, 1) := by decide +kernel
theorem dc_P_isChange_1 : decode bc_P_isChange 1 = .ok (.getfield 23, 3) := by decide +kernel
theorem dc_P_isChange_4 : decode bc_P_isChange 4 = .ok (.aload_n 0, 1) := by decide +kernel
theorem dc_P_isChange_5 : decode bc_P_isChange 5 = .ok (.getfield 40, 3) := by decide +kernel
theorem dc_P_isChange_8 : decode bc_P_isChange 8 = .ok (.iconst 0, 1) := by decide +kernel
theorem dc_P_isChange_9 : decode bc_P_isChange 9 = .ok (.invokevirtual 152, 3) := by decide +kernel
theorem dc_P_isChange_12 : decode bc_P_isChange 12 = .ok (.iconst 1, 1) := by decide +kernel
theorem dc_P_isChange_13 : decode bc_P_isChange 13 = .ok (.if_icmp .ne 7, 3) := by decide +kernel
theorem dc_P_isChange_16 : decode bc_P_isChange 16 = .ok (.iconst 1, 1) := by decide +kernel
theorem dc_P_isChange_17 : decode bc_P_isChange 17 = .ok (.goto 4, 3) := by decide +kernel
theorem dc_P_isChange_20 : decode bc_P_isChange 20 = .ok (.iconst 0, 1) := by decide +kernel
theorem dc_P_isChange_21 : decode bc_P_isChange 21 = .ok (.ireturn, 1) := by decide +kernel
theorem dc_P_kindOfE_0 : decode bc_P_kindOfE 0 = .ok (.aload_n 0, 1) := by decide +kernel
theorem dc_P_kindOfE_1 : decode bc_P_kindOfE 1 = .ok (.invokevirtual 126, 3) := by decide +kernel
theorem dc_P_kindOfE_4 : decode bc_P_kindOfE 4 = .ok (.istore_n 1, 1) := by decide +kernel
theorem dc_P_kindOfE_5 : decode bc_P_kindOfE 5 = .ok (.iload_n 1, 1) := by decide +kernel
theorem dc_P_kindOfE_6 : decode bc_P_kindOfE 6 = .ok (.iconst 3, 1) := by decide +kernel
theorem dc_P_kindOfE_7 : decode bc_P_kindOfE 7 = .ok (.if_icmp .lt 13, 3) := by decide +kernel
theorem dc_P_kindOfE_10 : decode bc_P_kindOfE 10 = .ok (.iload_n 1, 1) := by decide +kernel
theorem dc_P_kindOfE_11 : decode bc_P_kindOfE 11 = .ok (.bipush 17, 2) := by decide +kernel
theorem dc_P_kindOfE_13 : decode bc_P_kindOfE 13 = .ok (.if_icmp .gt 7, 3) := by decide +kernel
theorem dc_P_kindOfE_16 : decode bc_P_kindOfE 16 = .ok (.iload_n 1, 1) := by decide +kernel
theorem dc_P_kindOfE_17 : decode bc_P_kindOfE 17 = .ok (.goto 4, 3) := by decide +kernel
theorem dc_P_kindOfE_20 : decode bc_P_kindOfE 20 = .ok (.iconst (-1), 1) := by decide +kernel
theorem dc_P_kindOfE_21 : decode bc_P_kindOfE 21 = .ok (.ireturn, 1) := by decide +kernel
theorem dc_P_takesHead_0 : decode bc_P_takesHead 0 = .ok (.iload_n 1, 1) := by decide +kernel
theorem dc_P_takesHead_1 : decode bc_P_takesHead 1 = .ok (.iconst (-1), 1) := by decide +kernel
theorem dc_P_takesHead_2 : decode bc_P_takesHead 2 = .ok (.if_icmp .ne 5, 3) := by decide +kernel
theorem dc_P_takesHead_5 : decode bc_P_takesHead 5 = .ok (.iconst 0, 1) := by decide +kernel
theorem dc_P_takesHead_6 : decode bc_P_takesHead 6 = .ok (.ireturn, 1) := by decide +kernel
theorem dc_P_takesHead_7 : decode bc_P_takesHead 7 = .ok (.aload_n 0, 1) := by decide +kernel
theorem dc_P_takesHead_8 : decode bc_P_takesHead 8 = .ok (.getfield 27, 3) := by decide +kernel
theorem dc_P_takesHead_11 : decode bc_P_takesHead 11 = .ok (.aload_n 0, 1) := by decide +kernel
theorem dc_P_takesHead_12 : decode bc_P_takesHead 12 = .ok (.getfield 43, 3) := by decide +kernel
theorem dc_P_takesHead_15 : decode bc_P_takesHead 15 = .ok (.iconst 0, 1) := by decide +kernel
theorem dc_P_takesHead_16 : decode bc_P_takesHead 16 = .ok (.iload_n 1, 1) := by decide +kernel
theorem dc_P_takesHead_17 : decode bc_P_takesHead 17 = .ok (.invokevirtual 133, 3) := by decide +kernel
theorem dc_P_takesHead_20 : decode bc_P_takesHead 20 = .ok (.aload_n 0, 1) := by decide +kernel
theorem dc_P_takesHead_21 : decode bc_P_takesHead 21 = .ok (.getfield 27, 3) := by decide +kernel
theorem dc_P_takesHead_24 : decode bc_P_takesHead 24 = .ok (.aload_n 0, 1) := by decide +kernel
theorem dc_P_takesHead_25 : decode bc_P_takesHead 25 = .ok (.getfield 43, 3) := by decide +kernel
theorem dc_P_takesHead_28 : decode bc_P_takesHead 28 = .ok (.bipush 9, 2) := by decide +kernel
theorem dc_P_takesHead_30 : decode bc_P_takesHead 30 = .ok (.iconst 0, 1) := by decide +kernel
theorem dc_P_takesHead_31 : decode bc_P_takesHead 31 = .ok (.invokevirtual 133, 3) := by decide +kernel
theorem dc_P_takesHead_34 : decode bc_P_takesHead 34 = .ok (.aload_n 0, 1) := by decide +kernel
theorem dc_P_takesHead_35 : decode bc_P_takesHead 35 = .ok (.bipush 12, 2) := by decide +kernel
theorem dc_P_takesHead_37 : decode bc_P_takesHead 37 = .ok (.putfield 37, 3) := by decide +kernel
theorem dc_P_takesHead_40 : decode bc_P_takesHead 40 = .ok (.iconst 1, 1) := by decide +kernel
theorem dc_P_takesHead_41 : decode bc_P_takesHead 41 = .ok (.ireturn, 1) := by decide +kernel
theorem dc_P_kindOfC_0 : decode bc_P_kindOfC 0 = .ok (.aload_n 0, 1) := by decide +kernel
theorem dc_P_kindOfC_1 : decode bc_P_kindOfC 1 = .ok (.invokevirtual 126, 3) := by decide +kernel
theorem dc_P_kindOfC_4 : decode bc_P_kindOfC 4 = .ok (.tableswitch 78 10 20 #[66, 69, 72, 78, 78, 78, 78, 78, 60, 63, 75], 60) := by decide +kernel
theorem dc_P_kindOfC_64 : decode bc_P_kindOfC 64 = .ok (.bipush 18, 2) := by decide +kernel
theorem dc_P_kindOfC_66 : decode bc_P_kindOfC 66 = .ok (.ireturn, 1) := by decide +kernel
theorem dc_P_kindOfC_67 : decode bc_P_kindOfC 67 = .ok (.bipush 19, 2) := by decide +kernel
theorem dc_P_kindOfC_69 : decode bc_P_kindOfC 69 = .ok (.ireturn, 1) := by decide +kernel
theorem dc_P_kindOfC_70 : decode bc_P_kindOfC 70 = .ok (.bipush 20, 2) := by decide +kernel
theorem dc_P_kindOfC_72 : decode bc_P_kindOfC 72 = .ok (.ireturn, 1) := by decide +kernel
theorem dc_P_kindOfC_73 : decode bc_P_kindOfC 73 = .ok (.bipush 21, 2) := by decide +kernel
theorem dc_P_kindOfC_75 : decode bc_P_kindOfC 75 = .ok (.ireturn, 1) := by decide +kernel
theorem dc_P_kindOfC_76 : decode bc_P_kindOfC 76 = .ok (.bipush 22, 2) := by decide +kernel
theorem dc_P_kindOfC_78 : decode bc_P_kindOfC 78 = .ok (.ireturn, 1) := by decide +kernel
theorem dc_P_kindOfC_79 : decode bc_P_kindOfC 79 = .ok (.bipush 23, 2) := by decide +kernel
theorem dc_P_kindOfC_81 : decode bc_P_kindOfC 81 = .ok (.ireturn, 1) := by decide +kernel
theorem dc_P_kindOfC_82 : decode bc_P_kindOfC 82 = .ok (.iconst (-1), 1) := by decide +kernel
theorem dc_P_kindOfC_83 : decode bc_P_kindOfC 83 = .ok (.ireturn, 1) := by decide +kernel
theorem dc_X_definition_0 : decode bc_X_definition 0 = .ok (.iload_n 2, 1) := by decide +kernel
theorem dc_X_definition_1 : decode bc_X_definition 1 = .ok (.iconst 4, 1) := by decide +kernel
theorem dc_X_definition_2 : decode bc_X_definition 2 = .ok (.if_icmp .le 7, 3) := by decide +kernel
theorem dc_X_definition_5 : decode bc_X_definition 5 = .ok (.iconst (-1), 1) := by decide +kernel
theorem dc_X_definition_6 : decode bc_X_definition 6 = .ok (.goto 15, 3) := by decide +kernel
theorem dc_X_definition_9 : decode bc_X_definition 9 = .ok (.aload_n 0, 1) := by decide +kernel
theorem dc_X_definition_10 : decode bc_X_definition 10 = .ok (.getfield 12, 3) := by decide +kernel
theorem dc_X_definition_13 : decode bc_X_definition 13 = .ok (.getfield 33, 3) := by decide +kernel
theorem dc_X_definition_16 : decode bc_X_definition 16 = .ok (.iload_n 1, 1) := by decide +kernel
theorem dc_X_definition_17 : decode bc_X_definition 17 = .ok (.iload_n 2, 1) := by decide +kernel
theorem dc_X_definition_18 : decode bc_X_definition 18 = .ok (.invokevirtual 37, 3) := by decide +kernel
theorem dc_X_definition_21 : decode bc_X_definition 21 = .ok (.ireturn, 1) := by decide +kernel
theorem dc_X_title_0 : decode bc_X_title 0 = .ok (.iload_n 2, 1) := by decide +kernel
theorem dc_X_title_1 : decode bc_X_title 1 = .ok (.iconst (-1), 1) := by decide +kernel
theorem dc_X_title_2 : decode bc_X_title 2 = .ok (.if_icmp .lt 9, 3) := by decide +kernel
theorem dc_X_title_5 : decode bc_X_title 5 = .ok (.iload_n 2, 1) := by decide +kernel
theorem dc_X_title_6 : decode bc_X_title 6 = .ok (.bipush 8, 2) := by decide +kernel
theorem dc_X_title_8 : decode bc_X_title 8 = .ok (.if_icmp .lt 7, 3) := by decide +kernel
theorem dc_X_title_11 : decode bc_X_title 11 = .ok (.lconst 0, 1) := by decide +kernel
theorem dc_X_title_12 : decode bc_X_title 12 = .ok (.goto 17, 3) := by decide +kernel
theorem dc_X_title_15 : decode bc_X_title 15 = .ok (.aload_n 0, 1) := by decide +kernel
theorem dc_X_title_16 : decode bc_X_title 16 = .ok (.getfield 12, 3) := by decide +kernel
theorem dc_X_title_19 : decode bc_X_title 19 = .ok (.getfield 33, 3) := by decide +kernel
theorem dc_X_title_22 : decode bc_X_title 22 = .ok (.iload_n 1, 1) := by decide +kernel
theorem dc_X_title_23 : decode bc_X_title 23 = .ok (.iload_n 2, 1) := by decide +kernel
theorem dc_X_title_24 : decode bc_X_title 24 = .ok (.iconst 1, 1) := by decide +kernel
theorem dc_X_title_25 : decode bc_X_title 25 = .ok (.iadd, 1) := by decide +kernel
theorem dc_X_title_26 : decode bc_X_title 26 = .ok (.invokevirtual 43, 3) := by decide +kernel
theorem dc_X_title_29 : decode bc_X_title 29 = .ok (.lreturn, 1) := by decide +kernel
theorem dc_X_parameter_0 : decode bc_X_parameter 0 = .ok (.iload_n 2, 1) := by decide +kernel
theorem dc_X_parameter_1 : decode bc_X_parameter 1 = .ok (.ifCond .lt 9, 3) := by decide +kernel
theorem dc_X_parameter_4 : decode bc_X_parameter 4 = .ok (.iload_n 2, 1) := by decide +kernel
theorem dc_X_parameter_5 : decode bc_X_parameter 5 = .ok (.bipush 8, 2) := by decide +kernel
theorem dc_X_parameter_7 : decode bc_X_parameter 7 = .ok (.if_icmp .lt 7, 3) := by decide +kernel
theorem dc_X_parameter_10 : decode bc_X_parameter 10 = .ok (.iconst (-1), 1) := by decide +kernel
theorem dc_X_parameter_11 : decode bc_X_parameter 11 = .ok (.goto 17, 3) := by decide +kernel
theorem dc_X_parameter_14 : decode bc_X_parameter 14 = .ok (.aload_n 0, 1) := by decide +kernel
theorem dc_X_parameter_15 : decode bc_X_parameter 15 = .ok (.getfield 12, 3) := by decide +kernel
theorem dc_X_parameter_18 : decode bc_X_parameter 18 = .ok (.getfield 33, 3) := by decide +kernel
theorem dc_X_parameter_21 : decode bc_X_parameter 21 = .ok (.iload_n 1, 1) := by decide +kernel
theorem dc_X_parameter_22 : decode bc_X_parameter 22 = .ok (.iload_n 2, 1) := by decide +kernel
theorem dc_X_parameter_23 : decode bc_X_parameter 23 = .ok (.iconst 5, 1) := by decide +kernel
theorem dc_X_parameter_24 : decode bc_X_parameter 24 = .ok (.iadd, 1) := by decide +kernel
theorem dc_X_parameter_25 : decode bc_X_parameter 25 = .ok (.invokevirtual 37, 3) := by decide +kernel
theorem dc_X_parameter_28 : decode bc_X_parameter 28 = .ok (.ireturn, 1) := by decide +kernel
theorem dc_X_node_0 : decode bc_X_node 0 = .ok (.iload_n 2, 1) := by decide +kernel
theorem dc_X_node_1 : decode bc_X_node 1 = .ok (.bipush 7, 2) := by decide +kernel
theorem dc_X_node_3 : decode bc_X_node 3 = .ok (.if_icmp .le 7, 3) := by decide +kernel
theorem dc_X_node_6 : decode bc_X_node 6 = .ok (.iconst (-1), 1) := by decide +kernel
theorem dc_X_node_7 : decode bc_X_node 7 = .ok (.goto 15, 3) := by decide +kernel
theorem dc_X_node_10 : decode bc_X_node 10 = .ok (.aload_n 0, 1) := by decide +kernel
theorem dc_X_node_11 : decode bc_X_node 11 = .ok (.getfield 12, 3) := by decide +kernel
theorem dc_X_node_14 : decode bc_X_node 14 = .ok (.getfield 47, 3) := by decide +kernel
theorem dc_X_node_17 : decode bc_X_node 17 = .ok (.iload_n 1, 1) := by decide +kernel
theorem dc_X_node_18 : decode bc_X_node 18 = .ok (.iload_n 2, 1) := by decide +kernel
theorem dc_X_node_19 : decode bc_X_node 19 = .ok (.invokevirtual 37, 3) := by decide +kernel
theorem dc_X_node_22 : decode bc_X_node 22 = .ok (.ireturn, 1) := by decide +kernel
theorem dc_X_name_0 : decode bc_X_name 0 = .ok (.aload_n 0, 1) := by decide +kernel
theorem dc_X_name_1 : decode bc_X_name 1 = .ok (.getfield 12, 3) := by decide +kernel
theorem dc_X_name_4 : decode bc_X_name 4 = .ok (.getfield 47, 3) := by decide +kernel
theorem dc_X_name_7 : decode bc_X_name 7 = .ok (.iload_n 1, 1) := by decide +kernel
theorem dc_X_name_8 : decode bc_X_name 8 = .ok (.iload_n 2, 1) := by decide +kernel
theorem dc_X_name_9 : decode bc_X_name 9 = .ok (.invokevirtual 43, 3) := by decide +kernel
theorem dc_X_name_12 : decode bc_X_name 12 = .ok (.lreturn, 1) := by decide +kernel
theorem dc_X_number_0 : decode bc_X_number 0 = .ok (.aload_n 0, 1) := by decide +kernel
theorem dc_X_number_1 : decode bc_X_number 1 = .ok (.getfield 12, 3) := by decide +kernel
theorem dc_X_number_4 : decode bc_X_number 4 = .ok (.getfield 47, 3) := by decide +kernel
theorem dc_X_number_7 : decode bc_X_number 7 = .ok (.iload_n 1, 1) := by decide +kernel
theorem dc_X_number_8 : decode bc_X_number 8 = .ok (.iconst 0, 1) := by decide +kernel
theorem dc_X_number_9 : decode bc_X_number 9 = .ok (.invokevirtual 37, 3) := by decide +kernel
theorem dc_X_number_12 : decode bc_X_number 12 = .ok (.ifCond .ne 19, 3) := by decide +kernel
theorem dc_X_number_15 : decode bc_X_number 15 = .ok (.aload_n 0, 1) := by decide +kernel
theorem dc_X_number_16 : decode bc_X_number 16 = .ok (.getfield 12, 3) := by decide +kernel
theorem dc_X_number_19 : decode bc_X_number 19 = .ok (.getfield 47, 3) := by decide +kernel
theorem dc_X_number_22 : decode bc_X_number 22 = .ok (.iload_n 1, 1) := by decide +kernel
theorem dc_X_number_23 : decode bc_X_number 23 = .ok (.bipush 8, 2) := by decide +kernel
theorem dc_X_number_25 : decode bc_X_number 25 = .ok (.invokevirtual 37, 3) := by decide +kernel
theorem dc_X_number_28 : decode bc_X_number 28 = .ok (.goto 4, 3) := by decide +kernel
theorem dc_X_number_31 : decode bc_X_number 31 = .ok (.iconst 0, 1) := by decide +kernel
theorem dc_X_number_32 : decode bc_X_number 32 = .ok (.ireturn, 1) := by decide +kernel
theorem dc_X_look_0 : decode bc_X_look 0 = .ok (.iload_n 1, 1) := by decide +kernel
theorem dc_X_look_1 : decode bc_X_look 1 = .ok (.tableswitch 84 0 4 #[35, 46, 54, 62, 73], 35) := by decide +kernel
theorem dc_X_look_36 : decode bc_X_look 36 = .ok (.aload_n 0, 1) := by decide +kernel
theorem dc_X_look_37 : decode bc_X_look 37 = .ok (.getfield 12, 3) := by decide +kernel
theorem dc_X_look_40 : decode bc_X_look 40 = .ok (.getfield 16, 3) := by decide +kernel
theorem dc_X_look_43 : decode bc_X_look 43 = .ok (.invokevirtual 50, 3) := by decide +kernel
theorem dc_X_look_46 : decode bc_X_look 46 = .ok (.ireturn, 1) := by decide +kernel
theorem dc_X_look_47 : decode bc_X_look 47 = .ok (.aload_n 0, 1) := by decide +kernel
theorem dc_X_look_48 : decode bc_X_look 48 = .ok (.getfield 12, 3) := by decide +kernel
theorem dc_X_look_51 : decode bc_X_look 51 = .ok (.getfield 53, 3) := by decide +kernel
theorem dc_X_look_54 : decode bc_X_look 54 = .ok (.ireturn, 1) := by decide +kernel
theorem dc_X_look_55 : decode bc_X_look 55 = .ok (.aload_n 0, 1) := by decide +kernel
theorem dc_X_look_56 : decode bc_X_look 56 = .ok (.getfield 12, 3) := by decide +kernel
theorem dc_X_look_59 : decode bc_X_look 59 = .ok (.getfield 57, 3) := by decide +kernel
theorem dc_X_look_62 : decode bc_X_look 62 = .ok (.ireturn, 1) := by decide +kernel
theorem dc_X_look_63 : decode bc_X_look 63 = .ok (.aload_n 0, 1) := by decide +kernel
theorem dc_X_look_64 : decode bc_X_look 64 = .ok (.getfield 12, 3) := by decide +kernel
theorem dc_X_look_67 : decode bc_X_look 67 = .ok (.getfield 33, 3) := by decide +kernel
theorem dc_X_look_70 : decode bc_X_look 70 = .ok (.invokevirtual 60, 3) := by decide +kernel
theorem dc_X_look_73 : decode bc_X_look 73 = .ok (.ireturn, 1) := by decide +kernel
theorem dc_X_look_74 : decode bc_X_look 74 = .ok (.aload_n 0, 1) := by decide +kernel
theorem dc_X_look_75 : decode bc_X_look 75 = .ok (.getfield 12, 3) := by decide +kernel
theorem dc_X_look_78 : decode bc_X_look 78 = .ok (.getfield 47, 3) := by decide +kernel
theorem dc_X_look_81 : decode bc_X_look 81 = .ok (.invokevirtual 60, 3) := by decide +kernel
theorem dc_X_look_84 : decode bc_X_look 84 = .ok (.ireturn, 1) := by decide +kernel
theorem dc_X_look_85 : decode bc_X_look 85 = .ok (.iconst (-1), 1) := by decide +kernel
theorem dc_X_look_86 : decode bc_X_look 86 = .ok (.ireturn, 1) := by decide +kernel
theorem dc_M_init_0 : decode bc_M_init 0 = .ok (.aload_n 0, 1) := by decide +kernel
theorem dc_M_init_1 : decode bc_M_init 1 = .ok (.invokespecial 1, 3) := by decide +kernel
theorem dc_M_init_4 : decode bc_M_init 4 = .ok (.aload_n 0, 1) := by decide +kernel
theorem dc_M_init_5 : decode bc_M_init 5 = .ok (.sipush 8192, 3) := by decide +kernel
theorem dc_M_init_8 : decode bc_M_init 8 = .ok (.newarray .byte, 2) := by decide +kernel
theorem dc_M_init_10 : decode bc_M_init 10 = .ok (.putfield 7, 3) := by decide +kernel
theorem dc_M_init_13 : decode bc_M_init 13 = .ok (.aload_n 0, 1) := by decide +kernel
theorem dc_M_init_14 : decode bc_M_init 14 = .ok (.iconst (-1), 1) := by decide +kernel
theorem dc_M_init_15 : decode bc_M_init 15 = .ok (.putfield 13, 3) := by decide +kernel
theorem dc_M_init_18 : decode bc_M_init 18 = .ok (.aload_n 0, 1) := by decide +kernel
theorem dc_M_init_19 : decode bc_M_init 19 = .ok (.bipush 64, 2) := by decide +kernel
theorem dc_M_init_21 : decode bc_M_init 21 = .ok (.newarray .int, 2) := by decide +kernel
theorem dc_M_init_23 : decode bc_M_init 23 = .ok (.putfield 17, 3) := by decide +kernel
theorem dc_M_init_26 : decode bc_M_init 26 = .ok (.aload_n 0, 1) := by decide +kernel
theorem dc_M_init_27 : decode bc_M_init 27 = .ok (.bipush 64, 2) := by decide +kernel
theorem dc_M_init_29 : decode bc_M_init 29 = .ok (.newarray .int, 2) := by decide +kernel
theorem dc_M_init_31 : decode bc_M_init 31 = .ok (.putfield 21, 3) := by decide +kernel
theorem dc_M_init_34 : decode bc_M_init 34 = .ok (.aload_n 0, 1) := by decide +kernel
theorem dc_M_init_35 : decode bc_M_init 35 = .ok (.bipush 64, 2) := by decide +kernel
theorem dc_M_init_37 : decode bc_M_init 37 = .ok (.newarray .int, 2) := by decide +kernel
theorem dc_M_init_39 : decode bc_M_init 39 = .ok (.putfield 24, 3) := by decide +kernel
theorem dc_M_init_42 : decode bc_M_init 42 = .ok (.aload_n 0, 1) := by decide +kernel
theorem dc_M_init_43 : decode bc_M_init 43 = .ok (.bipush 64, 2) := by decide +kernel
theorem dc_M_init_45 : decode bc_M_init 45 = .ok (.newarray .int, 2) := by decide +kernel
theorem dc_M_init_47 : decode bc_M_init 47 = .ok (.putfield 27, 3) := by decide +kernel
theorem dc_M_init_50 : decode bc_M_init 50 = .ok (.aload_n 0, 1) := by decide +kernel
theorem dc_M_init_51 : decode bc_M_init 51 = .ok (.bipush 64, 2) := by decide +kernel
theorem dc_M_init_53 : decode bc_M_init 53 = .ok (.newarray .int, 2) := by decide +kernel
theorem dc_M_init_55 : decode bc_M_init 55 = .ok (.putfield 30, 3) := by decide +kernel
theorem dc_M_init_58 : decode bc_M_init 58 = .ok (.aload_n 0, 1) := by decide +kernel
theorem dc_M_init_59 : decode bc_M_init 59 = .ok (.bipush 64, 2) := by decide +kernel
theorem dc_M_init_61 : decode bc_M_init 61 = .ok (.newarray .long, 2) := by decide +kernel
theorem dc_M_init_63 : decode bc_M_init 63 = .ok (.putfield 33, 3) := by decide +kernel
theorem dc_M_init_66 : decode bc_M_init 66 = .ok (.aload_n 0, 1) := by decide +kernel
theorem dc_M_init_67 : decode bc_M_init 67 = .ok (.sipush 512, 3) := by decide +kernel
theorem dc_M_init_70 : decode bc_M_init 70 = .ok (.newarray .long, 2) := by decide +kernel
theorem dc_M_init_72 : decode bc_M_init 72 = .ok (.putfield 37, 3) := by decide +kernel
theorem dc_M_init_75 : decode bc_M_init 75 = .ok (.aload_n 0, 1) := by decide +kernel
theorem dc_M_init_76 : decode bc_M_init 76 = .ok (.sipush 512, 3) := by decide +kernel
theorem dc_M_init_79 : decode bc_M_init 79 = .ok (.newarray .int, 2) := by decide +kernel
theorem dc_M_init_81 : decode bc_M_init 81 = .ok (.putfield 40, 3) := by decide +kernel
theorem dc_M_init_84 : decode bc_M_init 84 = .ok (.aload_n 0, 1) := by decide +kernel
theorem dc_M_init_85 : decode bc_M_init 85 = .ok (.sipush 8192, 3) := by decide +kernel
theorem dc_M_init_88 : decode bc_M_init 88 = .ok (.newarray .int, 2) := by decide +kernel
theorem dc_M_init_90 : decode bc_M_init 90 = .ok (.putfield 43, 3) := by decide +kernel
theorem dc_M_init_93 : decode bc_M_init 93 = .ok (.aload_n 0, 1) := by decide +kernel
theorem dc_M_init_94 : decode bc_M_init 94 = .ok (.sipush 8192, 3) := by decide +kernel
theorem dc_M_init_97 : decode bc_M_init 97 = .ok (.newarray .int, 2) := by decide +kernel
theorem dc_M_init_99 : decode bc_M_init 99 = .ok (.putfield 46, 3) := by decide +kernel
theorem dc_M_init_102 : decode bc_M_init 102 = .ok (.aload_n 0, 1) := by decide +kernel
theorem dc_M_init_103 : decode bc_M_init 103 = .ok (.sipush 8192, 3) := by decide +kernel
theorem dc_M_init_106 : decode bc_M_init 106 = .ok (.newarray .int, 2) := by decide +kernel
theorem dc_M_init_108 : decode bc_M_init 108 = .ok (.putfield 49, 3) := by decide +kernel
theorem dc_M_init_111 : decode bc_M_init 111 = .ok (.aload_n 0, 1) := by decide +kernel
theorem dc_M_init_112 : decode bc_M_init 112 = .ok (.sipush 8192, 3) := by decide +kernel
theorem dc_M_init_115 : decode bc_M_init 115 = .ok (.newarray .int, 2) := by decide +kernel
theorem dc_M_init_117 : decode bc_M_init 117 = .ok (.putfield 52, 3) := by decide +kernel
theorem dc_M_init_120 : decode bc_M_init 120 = .ok (.aload_n 0, 1) := by decide +kernel
theorem dc_M_init_121 : decode bc_M_init 121 = .ok (.sipush 8192, 3) := by decide +kernel
theorem dc_M_init_124 : decode bc_M_init 124 = .ok (.newarray .int, 2) := by decide +kernel
theorem dc_M_init_126 : decode bc_M_init 126 = .ok (.putfield 55, 3) := by decide +kernel
theorem dc_M_init_129 : decode bc_M_init 129 = .ok (.aload_n 0, 1) := by decide +kernel
theorem dc_M_init_130 : decode bc_M_init 130 = .ok (.sipush 8192, 3) := by decide +kernel
theorem dc_M_init_133 : decode bc_M_init 133 = .ok (.newarray .int, 2) := by decide +kernel
theorem dc_M_init_135 : decode bc_M_init 135 = .ok (.putfield 58, 3) := by decide +kernel
theorem dc_M_init_138 : decode bc_M_init 138 = .ok (.aload_n 0, 1) := by decide +kernel
theorem dc_M_init_139 : decode bc_M_init 139 = .ok (.sipush 8192, 3) := by decide +kernel
theorem dc_M_init_142 : decode bc_M_init 142 = .ok (.newarray .int, 2) := by decide +kernel
theorem dc_M_init_144 : decode bc_M_init 144 = .ok (.putfield 61, 3) := by decide +kernel
theorem dc_M_init_147 : decode bc_M_init 147 = .ok (.aload_n 0, 1) := by decide +kernel
theorem dc_M_init_148 : decode bc_M_init 148 = .ok (.sipush 8192, 3) := by decide +kernel
theorem dc_M_init_151 : decode bc_M_init 151 = .ok (.newarray .long, 2) := by decide +kernel
theorem dc_M_init_153 : decode bc_M_init 153 = .ok (.putfield 64, 3) := by decide +kernel
theorem dc_M_init_156 : decode bc_M_init 156 = .ok (.aload_n 0, 1) := by decide +kernel
theorem dc_M_init_157 : decode bc_M_init 157 = .ok (.sipush 8192, 3) := by decide +kernel
theorem dc_M_init_160 : decode bc_M_init 160 = .ok (.newarray .long, 2) := by decide +kernel
theorem dc_M_init_162 : decode bc_M_init 162 = .ok (.putfield 67, 3) := by decide +kernel
theorem dc_M_init_165 : decode bc_M_init 165 = .ok (.aload_n 0, 1) := by decide +kernel
theorem dc_M_init_166 : decode bc_M_init 166 = .ok (.ldc 70, 2) := by decide +kernel
theorem dc_M_init_168 : decode bc_M_init 168 = .ok (.newarray .byte, 2) := by decide +kernel
theorem dc_M_init_170 : decode bc_M_init 170 = .ok (.putfield 71, 3) := by decide +kernel
theorem dc_M_init_173 : decode bc_M_init 173 = .ok (.aload_n 0, 1) := by decide +kernel
theorem dc_M_init_174 : decode bc_M_init 174 = .ok (.ldc 70, 2) := by decide +kernel
theorem dc_M_init_176 : decode bc_M_init 176 = .ok (.newarray .int, 2) := by decide +kernel
theorem dc_M_init_178 : decode bc_M_init 178 = .ok (.putfield 74, 3) := by decide +kernel
theorem dc_M_init_181 : decode bc_M_init 181 = .ok (.return_, 1) := by decide +kernel
theorem dc_M_give_0 : decode bc_M_give 0 = .ok (.aload_n 0, 1) := by decide +kernel
theorem dc_M_give_1 : decode bc_M_give 1 = .ok (.iconst 0, 1) := by decide +kernel
theorem dc_M_give_2 : decode bc_M_give 2 = .ok (.putfield 77, 3) := by decide +kernel
theorem dc_M_give_5 : decode bc_M_give 5 = .ok (.iload_n 3, 1) := by decide +kernel
theorem dc_M_give_6 : decode bc_M_give 6 = .ok (.iconst 1, 1) := by decide +kernel
theorem dc_M_give_7 : decode bc_M_give 7 = .ok (.if_icmp .lt 21, 3) := by decide +kernel
theorem dc_M_give_10 : decode bc_M_give 10 = .ok (.iload_n 3, 1) := by decide +kernel
theorem dc_M_give_11 : decode bc_M_give 11 = .ok (.bipush 8, 2) := by decide +kernel
theorem dc_M_give_13 : decode bc_M_give 13 = .ok (.if_icmp .gt 15, 3) := by decide +kernel
theorem dc_M_give_16 : decode bc_M_give 16 = .ok (.aload_n 0, 1) := by decide +kernel
theorem dc_M_give_17 : decode bc_M_give 17 = .ok (.getfield 80, 3) := by decide +kernel
theorem dc_M_give_20 : decode bc_M_give 20 = .ok (.iload_n 3, 1) := by decide +kernel
theorem dc_M_give_21 : decode bc_M_give 21 = .ok (.iadd, 1) := by decide +kernel
theorem dc_M_give_22 : decode bc_M_give 22 = .ok (.sipush 8192, 3) := by decide +kernel
theorem dc_M_give_25 : decode bc_M_give 25 = .ok (.if_icmp .le 5, 3) := by decide +kernel
theorem dc_M_give_28 : decode bc_M_give 28 = .ok (.iconst 0, 1) := by decide +kernel
theorem dc_M_give_29 : decode bc_M_give 29 = .ok (.ireturn, 1) := by decide +kernel
theorem dc_M_give_30 : decode bc_M_give 30 = .ok (.iload_n 3, 1) := by decide +kernel
theorem dc_M_give_31 : decode bc_M_give 31 = .ok (.iconst 1, 1) := by decide +kernel
theorem dc_M_give_32 : decode bc_M_give 32 = .ok (.isub, 1) := by decide +kernel
theorem dc_M_give_33 : decode bc_M_give 33 = .ok (.istore 4, 2) := by decide +kernel
theorem dc_M_give_35 : decode bc_M_give 35 = .ok (.iload 4, 2) := by decide +kernel
theorem dc_M_give_37 : decode bc_M_give 37 = .ok (.ifCond .lt 37, 3) := by decide +kernel
theorem dc_M_give_40 : decode bc_M_give 40 = .ok (.aload_n 0, 1) := by decide +kernel
theorem dc_M_give_41 : decode bc_M_give 41 = .ok (.getfield 7, 3) := by decide +kernel
theorem dc_M_give_44 : decode bc_M_give 44 = .ok (.aload_n 0, 1) := by decide +kernel
theorem dc_M_give_45 : decode bc_M_give 45 = .ok (.getfield 80, 3) := by decide +kernel
theorem dc_M_give_48 : decode bc_M_give 48 = .ok (.lload_n 1, 1) := by decide +kernel
theorem dc_M_give_49 : decode bc_M_give 49 = .ok (.bipush 8, 2) := by decide +kernel
theorem dc_M_give_51 : decode bc_M_give 51 = .ok (.iload 4, 2) := by decide +kernel
theorem dc_M_give_53 : decode bc_M_give 53 = .ok (.imul, 1) := by decide +kernel
theorem dc_M_give_54 : decode bc_M_give 54 = .ok (.lshr, 1) := by decide +kernel
theorem dc_M_give_55 : decode bc_M_give 55 = .ok (.l2i, 1) := by decide +kernel
theorem dc_M_give_56 : decode bc_M_give 56 = .ok (.i2b, 1) := by decide +kernel
theorem dc_M_give_57 : decode bc_M_give 57 = .ok (.bastore, 1) := by decide +kernel
theorem dc_M_give_58 : decode bc_M_give 58 = .ok (.aload_n 0, 1) := by decide +kernel
theorem dc_M_give_59 : decode bc_M_give 59 = .ok (.dup, 1) := by decide +kernel
theorem dc_M_give_60 : decode bc_M_give 60 = .ok (.getfield 80, 3) := by decide +kernel
theorem dc_M_give_63 : decode bc_M_give 63 = .ok (.iconst 1, 1) := by decide +kernel
theorem dc_M_give_64 : decode bc_M_give 64 = .ok (.iadd, 1) := by decide +kernel
theorem dc_M_give_65 : decode bc_M_give 65 = .ok (.putfield 80, 3) := by decide +kernel
theorem dc_M_give_68 : decode bc_M_give 68 = .ok (.iinc 4 (-1), 3) := by decide +kernel
theorem dc_M_give_71 : decode bc_M_give 71 = .ok (.goto (-36), 3) := by decide +kernel
theorem dc_M_give_74 : decode bc_M_give 74 = .ok (.iconst 1, 1) := by decide +kernel
theorem dc_M_give_75 : decode bc_M_give 75 = .ok (.ireturn, 1) := by decide +kernel
theorem dc_M_wipe_0 : decode bc_M_wipe 0 = .ok (.aload_n 0, 1) := by decide +kernel
theorem dc_M_wipe_1 : decode bc_M_wipe 1 = .ok (.iconst 0, 1) := by decide +kernel
theorem dc_M_wipe_2 : decode bc_M_wipe 2 = .ok (.putfield 77, 3) := by decide +kernel
theorem dc_M_wipe_5 : decode bc_M_wipe 5 = .ok (.aload_n 0, 1) := by decide +kernel
theorem dc_M_wipe_6 : decode bc_M_wipe 6 = .ok (.iconst 0, 1) := by decide +kernel
theorem dc_M_wipe_7 : decode bc_M_wipe 7 = .ok (.putfield 80, 3) := by decide +kernel
theorem dc_M_wipe_10 : decode bc_M_wipe 10 = .ok (.return_, 1) := by decide +kernel
theorem dc_M_read_0 : decode bc_M_read 0 = .ok (.aload_n 0, 1) := by decide +kernel
theorem dc_M_read_1 : decode bc_M_read 1 = .ok (.iconst 0, 1) := by decide +kernel
theorem dc_M_read_2 : decode bc_M_read 2 = .ok (.putfield 77, 3) := by decide +kernel
theorem dc_M_read_5 : decode bc_M_read 5 = .ok (.aload_n 0, 1) := by decide +kernel
theorem dc_M_read_6 : decode bc_M_read 6 = .ok (.iconst 0, 1) := by decide +kernel
theorem dc_M_read_7 : decode bc_M_read 7 = .ok (.putfield 83, 3) := by decide +kernel
theorem dc_M_read_10 : decode bc_M_read 10 = .ok (.aload_n 0, 1) := by decide +kernel
theorem dc_M_read_11 : decode bc_M_read 11 = .ok (.iconst (-1), 1) := by decide +kernel
theorem dc_M_read_12 : decode bc_M_read 12 = .ok (.putfield 13, 3) := by decide +kernel
theorem dc_M_read_15 : decode bc_M_read 15 = .ok (.aload_n 0, 1) := by decide +kernel
theorem dc_M_read_16 : decode bc_M_read 16 = .ok (.iconst 0, 1) := by decide +kernel
theorem dc_M_read_17 : decode bc_M_read 17 = .ok (.putfield 251, 3) := by decide +kernel
theorem dc_M_read_20 : decode bc_M_read 20 = .ok (.aload_n 0, 1) := by decide +kernel
theorem dc_M_read_21 : decode bc_M_read 21 = .ok (.iconst 0, 1) := by decide +kernel
theorem dc_M_read_22 : decode bc_M_read 22 = .ok (.putfield 207, 3) := by decide +kernel
theorem dc_M_read_25 : decode bc_M_read 25 = .ok (.aload_n 0, 1) := by decide +kernel
theorem dc_M_read_26 : decode bc_M_read 26 = .ok (.iconst 0, 1) := by decide +kernel
theorem dc_M_read_27 : decode bc_M_read 27 = .ok (.putfield 93, 3) := by decide +kernel
theorem dc_M_read_30 : decode bc_M_read 30 = .ok (.aload_n 0, 1) := by decide +kernel
theorem dc_M_read_31 : decode bc_M_read 31 = .ok (.invokevirtual 232, 3) := by decide +kernel
theorem dc_M_read_34 : decode bc_M_read 34 = .ok (.aload_n 0, 1) := by decide +kernel
theorem dc_M_read_35 : decode bc_M_read 35 = .ok (.getfield 83, 3) := by decide +kernel
theorem dc_M_read_38 : decode bc_M_read 38 = .ok (.ifCond .ne 29, 3) := by decide +kernel
theorem dc_M_read_41 : decode bc_M_read 41 = .ok (.aload_n 0, 1) := by decide +kernel
theorem dc_M_read_42 : decode bc_M_read 42 = .ok (.getfield 99, 3) := by decide +kernel
theorem dc_M_read_45 : decode bc_M_read 45 = .ok (.iconst 4, 1) := by decide +kernel
theorem dc_M_read_46 : decode bc_M_read 46 = .ok (.if_icmp .eq 21, 3) := by decide +kernel
theorem dc_M_read_49 : decode bc_M_read 49 = .ok (.aload_n 0, 1) := by decide +kernel
theorem dc_M_read_50 : decode bc_M_read 50 = .ok (.invokevirtual 261, 3) := by decide +kernel
theorem dc_M_read_53 : decode bc_M_read 53 = .ok (.aload_n 0, 1) := by decide +kernel
theorem dc_M_read_54 : decode bc_M_read 54 = .ok (.getfield 83, 3) := by decide +kernel
theorem dc_M_read_57 : decode bc_M_read 57 = .ok (.ifCond .ne (-23), 3) := by decide +kernel
theorem dc_M_read_60 : decode bc_M_read 60 = .ok (.aload_n 0, 1) := by decide +kernel
theorem dc_M_read_61 : decode bc_M_read 61 = .ok (.invokevirtual 232, 3) := by decide +kernel
theorem dc_M_read_64 : decode bc_M_read 64 = .ok (.goto (-30), 3) := by decide +kernel
theorem dc_M_read_67 : decode bc_M_read 67 = .ok (.aload_n 0, 1) := by decide +kernel
theorem dc_M_read_68 : decode bc_M_read 68 = .ok (.getfield 83, 3) := by decide +kernel
theorem dc_M_read_71 : decode bc_M_read 71 = .ok (.ifCond .le 13, 3) := by decide +kernel
theorem dc_M_read_74 : decode bc_M_read 74 = .ok (.aload_n 0, 1) := by decide +kernel
theorem dc_M_read_75 : decode bc_M_read 75 = .ok (.iconst 0, 1) := by decide +kernel
theorem dc_M_read_76 : decode bc_M_read 76 = .ok (.putfield 251, 3) := by decide +kernel
theorem dc_M_read_79 : decode bc_M_read 79 = .ok (.aload_n 0, 1) := by decide +kernel
theorem dc_M_read_80 : decode bc_M_read 80 = .ok (.iconst 0, 1) := by decide +kernel
theorem dc_M_read_81 : decode bc_M_read 81 = .ok (.putfield 207, 3) := by decide +kernel
theorem dc_M_read_84 : decode bc_M_read 84 = .ok (.aload_n 0, 1) := by decide +kernel
theorem dc_M_read_85 : decode bc_M_read 85 = .ok (.getfield 83, 3) := by decide +kernel
theorem dc_M_read_88 : decode bc_M_read 88 = .ok (.ireturn, 1) := by decide +kernel
theorem dc_M_next_0 : decode bc_M_next 0 = .ok (.aload_n 0, 1) := by decide +kernel
theorem dc_M_next_1 : decode bc_M_next 1 = .ok (.getfield 93, 3) := by decide +kernel
theorem dc_M_next_4 : decode bc_M_next 4 = .ok (.aload_n 0, 1) := by decide +kernel
theorem dc_M_next_5 : decode bc_M_next 5 = .ok (.getfield 80, 3) := by decide +kernel
theorem dc_M_next_8 : decode bc_M_next 8 = .ok (.if_icmp .ge 44, 3) := by decide +kernel
theorem dc_M_next_11 : decode bc_M_next 11 = .ok (.aload_n 0, 1) := by decide +kernel
theorem dc_M_next_12 : decode bc_M_next 12 = .ok (.getfield 7, 3) := by decide +kernel
theorem dc_M_next_15 : decode bc_M_next 15 = .ok (.aload_n 0, 1) := by decide +kernel
theorem dc_M_next_16 : decode bc_M_next 16 = .ok (.getfield 93, 3) := by decide +kernel
theorem dc_M_next_19 : decode bc_M_next 19 = .ok (.baload, 1) := by decide +kernel
theorem dc_M_next_20 : decode bc_M_next 20 = .ok (.bipush 32, 2) := by decide +kernel
theorem dc_M_next_22 : decode bc_M_next 22 = .ok (.if_icmp .eq 17, 3) := by decide +kernel
theorem dc_M_next_25 : decode bc_M_next 25 = .ok (.aload_n 0, 1) := by decide +kernel
theorem dc_M_next_26 : decode bc_M_next 26 = .ok (.getfield 7, 3) := by decide +kernel
theorem dc_M_next_29 : decode bc_M_next 29 = .ok (.aload_n 0, 1) := by decide +kernel
theorem dc_M_next_30 : decode bc_M_next 30 = .ok (.getfield 93, 3) := by decide +kernel
theorem dc_M_next_33 : decode bc_M_next 33 = .ok (.baload, 1) := by decide +kernel
theorem dc_M_next_34 : decode bc_M_next 34 = .ok (.bipush 10, 2) := by decide +kernel
theorem dc_M_next_36 : decode bc_M_next 36 = .ok (.if_icmp .ne 16, 3) := by decide +kernel
theorem dc_M_next_39 : decode bc_M_next 39 = .ok (.aload_n 0, 1) := by decide +kernel
theorem dc_M_next_40 : decode bc_M_next 40 = .ok (.dup, 1) := by decide +kernel
theorem dc_M_next_41 : decode bc_M_next 41 = .ok (.getfield 93, 3) := by decide +kernel
theorem dc_M_next_44 : decode bc_M_next 44 = .ok (.iconst 1, 1) := by decide +kernel
theorem dc_M_next_45 : decode bc_M_next 45 = .ok (.iadd, 1) := by decide +kernel
theorem dc_M_next_46 : decode bc_M_next 46 = .ok (.putfield 93, 3) := by decide +kernel
theorem dc_M_next_49 : decode bc_M_next 49 = .ok (.goto (-49), 3) := by decide +kernel
