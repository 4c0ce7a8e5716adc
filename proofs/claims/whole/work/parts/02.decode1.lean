theorem dc_P_takesStep_222 : decode bc_P_takesStep 222 = .ok (.iconst 3, 1) := by decide +kernel
theorem dc_P_takesStep_223 : decode bc_P_takesStep 223 = .ok (.if_icmp .ne 14, 3) := by decide +kernel
theorem dc_P_takesStep_226 : decode bc_P_takesStep 226 = .ok (.aload_n 0, 1) := by decide +kernel
theorem dc_P_takesStep_227 : decode bc_P_takesStep 227 = .ok (.invokevirtual 193, 3) := by decide +kernel
theorem dc_P_takesStep_230 : decode bc_P_takesStep 230 = .ok (.ifCond .eq 7, 3) := by decide +kernel
theorem dc_P_takesStep_233 : decode bc_P_takesStep 233 = .ok (.iconst 1, 1) := by decide +kernel
theorem dc_P_takesStep_234 : decode bc_P_takesStep 234 = .ok (.goto 4, 3) := by decide +kernel
theorem dc_P_takesStep_237 : decode bc_P_takesStep 237 = .ok (.iconst 0, 1) := by decide +kernel
theorem dc_P_takesStep_238 : decode bc_P_takesStep 238 = .ok (.ireturn, 1) := by decide +kernel
theorem dc_R_numberAt_0 : decode bc_R_numberAt 0 = .ok (.iload_n 1, 1) := by decide +kernel
theorem dc_R_numberAt_1 : decode bc_R_numberAt 1 = .ok (.ifCond .lt 27, 3) := by decide +kernel
theorem dc_R_numberAt_4 : decode bc_R_numberAt 4 = .ok (.iload_n 1, 1) := by decide +kernel
theorem dc_R_numberAt_5 : decode bc_R_numberAt 5 = .ok (.aload_n 0, 1) := by decide +kernel
theorem dc_R_numberAt_6 : decode bc_R_numberAt 6 = .ok (.getfield 9, 3) := by decide +kernel
theorem dc_R_numberAt_9 : decode bc_R_numberAt 9 = .ok (.if_icmp .ge 19, 3) := by decide +kernel
theorem dc_R_numberAt_12 : decode bc_R_numberAt 12 = .ok (.iload_n 2, 1) := by decide +kernel
theorem dc_R_numberAt_13 : decode bc_R_numberAt 13 = .ok (.ifCond .lt 15, 3) := by decide +kernel
theorem dc_R_numberAt_16 : decode bc_R_numberAt 16 = .ok (.iload_n 2, 1) := by decide +kernel
theorem dc_R_numberAt_17 : decode bc_R_numberAt 17 = .ok (.aload_n 0, 1) := by decide +kernel
theorem dc_R_numberAt_18 : decode bc_R_numberAt 18 = .ok (.getfield 21, 3) := by decide +kernel
theorem dc_R_numberAt_21 : decode bc_R_numberAt 21 = .ok (.if_icmp .ge 7, 3) := by decide +kernel
theorem dc_R_numberAt_24 : decode bc_R_numberAt 24 = .ok (.iconst 1, 1) := by decide +kernel
theorem dc_R_numberAt_25 : decode bc_R_numberAt 25 = .ok (.goto 4, 3) := by decide +kernel
theorem dc_R_numberAt_28 : decode bc_R_numberAt 28 = .ok (.iconst 0, 1) := by decide +kernel
theorem dc_R_numberAt_29 : decode bc_R_numberAt 29 = .ok (.istore_n 3, 1) := by decide +kernel
theorem dc_R_numberAt_30 : decode bc_R_numberAt 30 = .ok (.iload_n 3, 1) := by decide +kernel
theorem dc_R_numberAt_31 : decode bc_R_numberAt 31 = .ok (.ifCond .eq 19, 3) := by decide +kernel
theorem dc_R_numberAt_34 : decode bc_R_numberAt 34 = .ok (.aload_n 0, 1) := by decide +kernel
theorem dc_R_numberAt_35 : decode bc_R_numberAt 35 = .ok (.getfield 27, 3) := by decide +kernel
theorem dc_R_numberAt_38 : decode bc_R_numberAt 38 = .ok (.iload_n 1, 1) := by decide +kernel
theorem dc_R_numberAt_39 : decode bc_R_numberAt 39 = .ok (.aload_n 0, 1) := by decide +kernel
theorem dc_R_numberAt_40 : decode bc_R_numberAt 40 = .ok (.getfield 21, 3) := by decide +kernel
theorem dc_R_numberAt_43 : decode bc_R_numberAt 43 = .ok (.imul, 1) := by decide +kernel
theorem dc_R_numberAt_44 : decode bc_R_numberAt 44 = .ok (.iload_n 2, 1) := by decide +kernel
theorem dc_R_numberAt_45 : decode bc_R_numberAt 45 = .ok (.iadd, 1) := by decide +kernel
theorem dc_R_numberAt_46 : decode bc_R_numberAt 46 = .ok (.iaload, 1) := by decide +kernel
theorem dc_R_numberAt_47 : decode bc_R_numberAt 47 = .ok (.goto 4, 3) := by decide +kernel
theorem dc_R_numberAt_50 : decode bc_R_numberAt 50 = .ok (.iconst (-1), 1) := by decide +kernel
theorem dc_R_numberAt_51 : decode bc_R_numberAt 51 = .ok (.ireturn, 1) := by decide +kernel
theorem dc_P_shapeOf_0 : decode bc_P_shapeOf 0 = .ok (.iload_n 0, 1) := by decide +kernel
theorem dc_P_shapeOf_1 : decode bc_P_shapeOf 1 = .ok (.tableswitch 101 10 23 #[71, 74, 77, 101, 80, 80, 83, 83, 86, 89, 92, 95, 98, 80], 71) := by decide +kernel
theorem dc_P_shapeOf_72 : decode bc_P_shapeOf 72 = .ok (.ldc 159, 2) := by decide +kernel
theorem dc_P_shapeOf_74 : decode bc_P_shapeOf 74 = .ok (.areturn, 1) := by decide +kernel
theorem dc_P_shapeOf_75 : decode bc_P_shapeOf 75 = .ok (.ldc 161, 2) := by decide +kernel
theorem dc_P_shapeOf_77 : decode bc_P_shapeOf 77 = .ok (.areturn, 1) := by decide +kernel
theorem dc_P_shapeOf_78 : decode bc_P_shapeOf 78 = .ok (.ldc 163, 2) := by decide +kernel
theorem dc_P_shapeOf_80 : decode bc_P_shapeOf 80 = .ok (.areturn, 1) := by decide +kernel
theorem dc_P_shapeOf_81 : decode bc_P_shapeOf 81 = .ok (.ldc 165, 2) := by decide +kernel
theorem dc_P_shapeOf_83 : decode bc_P_shapeOf 83 = .ok (.areturn, 1) := by decide +kernel
theorem dc_P_shapeOf_84 : decode bc_P_shapeOf 84 = .ok (.ldc 167, 2) := by decide +kernel
theorem dc_P_shapeOf_86 : decode bc_P_shapeOf 86 = .ok (.areturn, 1) := by decide +kernel
theorem dc_P_shapeOf_87 : decode bc_P_shapeOf 87 = .ok (.ldc 168, 2) := by decide +kernel
theorem dc_P_shapeOf_89 : decode bc_P_shapeOf 89 = .ok (.areturn, 1) := by decide +kernel
theorem dc_P_shapeOf_90 : decode bc_P_shapeOf 90 = .ok (.ldc 170, 2) := by decide +kernel
theorem dc_P_shapeOf_92 : decode bc_P_shapeOf 92 = .ok (.areturn, 1) := by decide +kernel
theorem dc_P_shapeOf_93 : decode bc_P_shapeOf 93 = .ok (.ldc 172, 2) := by decide +kernel
theorem dc_P_shapeOf_95 : decode bc_P_shapeOf 95 = .ok (.areturn, 1) := by decide +kernel
theorem dc_P_shapeOf_96 : decode bc_P_shapeOf 96 = .ok (.ldc 174, 2) := by decide +kernel
theorem dc_P_shapeOf_98 : decode bc_P_shapeOf 98 = .ok (.areturn, 1) := by decide +kernel
theorem dc_P_shapeOf_99 : decode bc_P_shapeOf 99 = .ok (.ldc 176, 2) := by decide +kernel
theorem dc_P_shapeOf_101 : decode bc_P_shapeOf 101 = .ok (.areturn, 1) := by decide +kernel
theorem dc_P_shapeOf_102 : decode bc_P_shapeOf 102 = .ok (.ldc 178, 2) := by decide +kernel
theorem dc_P_shapeOf_104 : decode bc_P_shapeOf 104 = .ok (.areturn, 1) := by decide +kernel
theorem dc_Js_length_0 : decode bc_Js_length 0 = .ok (.aload_n 0, 1) := by decide +kernel
theorem dc_Js_length_1 : decode bc_Js_length 1 = .ok (.getfield 9, 3) := by decide +kernel
theorem dc_Js_length_4 : decode bc_Js_length 4 = .ok (.arraylength, 1) := by decide +kernel
theorem dc_Js_length_5 : decode bc_Js_length 5 = .ok (.aload_n 0, 1) := by decide +kernel
theorem dc_Js_length_6 : decode bc_Js_length 6 = .ok (.invokevirtual 335, 3) := by decide +kernel
theorem dc_Js_length_9 : decode bc_Js_length 9 = .ok (.ishr, 1) := by decide +kernel
theorem dc_Js_length_10 : decode bc_Js_length 10 = .ok (.ireturn, 1) := by decide +kernel
theorem dc_Js_coder_0 : decode bc_Js_coder 0 = .ok (.getstatic 38, 3) := by decide +kernel
theorem dc_Js_coder_3 : decode bc_Js_coder 3 = .ok (.ifCond .eq 10, 3) := by decide +kernel
theorem dc_Js_coder_6 : decode bc_Js_coder 6 = .ok (.aload_n 0, 1) := by decide +kernel
theorem dc_Js_coder_7 : decode bc_Js_coder 7 = .ok (.getfield 15, 3) := by decide +kernel
theorem dc_Js_coder_10 : decode bc_Js_coder 10 = .ok (.goto 4, 3) := by decide +kernel
theorem dc_Js_coder_13 : decode bc_Js_coder 13 = .ok (.iconst 1, 1) := by decide +kernel
theorem dc_Js_coder_14 : decode bc_Js_coder 14 = .ok (.ireturn, 1) := by decide +kernel
theorem dc_Js_charAt_0 : decode bc_Js_charAt 0 = .ok (.aload_n 0, 1) := by decide +kernel
theorem dc_Js_charAt_1 : decode bc_Js_charAt 1 = .ok (.invokevirtual 492, 3) := by decide +kernel
theorem dc_Js_charAt_4 : decode bc_Js_charAt 4 = .ok (.ifCond .eq 12, 3) := by decide +kernel
theorem dc_Js_charAt_7 : decode bc_Js_charAt 7 = .ok (.aload_n 0, 1) := by decide +kernel
theorem dc_Js_charAt_8 : decode bc_Js_charAt 8 = .ok (.getfield 9, 3) := by decide +kernel
theorem dc_Js_charAt_11 : decode bc_Js_charAt 11 = .ok (.iload_n 1, 1) := by decide +kernel
theorem dc_Js_charAt_12 : decode bc_Js_charAt 12 = .ok (.invokestatic 495, 3) := by decide +kernel
theorem dc_Js_charAt_15 : decode bc_Js_charAt 15 = .ok (.ireturn, 1) := by decide +kernel
theorem dc_Js_charAt_16 : decode bc_Js_charAt 16 = .ok (.aload_n 0, 1) := by decide +kernel
theorem dc_Js_charAt_17 : decode bc_Js_charAt 17 = .ok (.getfield 9, 3) := by decide +kernel
theorem dc_Js_charAt_20 : decode bc_Js_charAt 20 = .ok (.iload_n 1, 1) := by decide +kernel
theorem dc_Js_charAt_21 : decode bc_Js_charAt 21 = .ok (.invokestatic 498, 3) := by decide +kernel
theorem dc_Js_charAt_24 : decode bc_Js_charAt 24 = .ok (.ireturn, 1) := by decide +kernel
theorem dc_Js_isLatin1_0 : decode bc_Js_isLatin1 0 = .ok (.getstatic 38, 3) := by decide +kernel
theorem dc_Js_isLatin1_3 : decode bc_Js_isLatin1 3 = .ok (.ifCond .eq 14, 3) := by decide +kernel
theorem dc_Js_isLatin1_6 : decode bc_Js_isLatin1 6 = .ok (.aload_n 0, 1) := by decide +kernel
theorem dc_Js_isLatin1_7 : decode bc_Js_isLatin1 7 = .ok (.getfield 15, 3) := by decide +kernel
theorem dc_Js_isLatin1_10 : decode bc_Js_isLatin1 10 = .ok (.ifCond .ne 7, 3) := by decide +kernel
theorem dc_Js_isLatin1_13 : decode bc_Js_isLatin1 13 = .ok (.iconst 1, 1) := by decide +kernel
theorem dc_Js_isLatin1_14 : decode bc_Js_isLatin1 14 = .ok (.goto 4, 3) := by decide +kernel
theorem dc_Js_isLatin1_17 : decode bc_Js_isLatin1 17 = .ok (.iconst 0, 1) := by decide +kernel
theorem dc_Js_isLatin1_18 : decode bc_Js_isLatin1 18 = .ok (.ireturn, 1) := by decide +kernel
theorem dc_Jl_charAt_0 : decode bc_Jl_charAt 0 = .ok (.iload_n 1, 1) := by decide +kernel
theorem dc_Jl_charAt_1 : decode bc_Jl_charAt 1 = .ok (.aload_n 0, 1) := by decide +kernel
theorem dc_Jl_charAt_2 : decode bc_Jl_charAt 2 = .ok (.arraylength, 1) := by decide +kernel
theorem dc_Jl_charAt_3 : decode bc_Jl_charAt 3 = .ok (.invokestatic 9, 3) := by decide +kernel
theorem dc_Jl_charAt_6 : decode bc_Jl_charAt 6 = .ok (.aload_n 0, 1) := by decide +kernel
theorem dc_Jl_charAt_7 : decode bc_Jl_charAt 7 = .ok (.iload_n 1, 1) := by decide +kernel
theorem dc_Jl_charAt_8 : decode bc_Jl_charAt 8 = .ok (.baload, 1) := by decide +kernel
theorem dc_Jl_charAt_9 : decode bc_Jl_charAt 9 = .ok (.sipush 255, 3) := by decide +kernel
theorem dc_Jl_charAt_12 : decode bc_Jl_charAt 12 = .ok (.iand, 1) := by decide +kernel
theorem dc_Jl_charAt_13 : decode bc_Jl_charAt 13 = .ok (.i2c, 1) := by decide +kernel
theorem dc_Jl_charAt_14 : decode bc_Jl_charAt 14 = .ok (.ireturn, 1) := by decide +kernel
theorem dc_Js_checkIndex_0 : decode bc_Js_checkIndex 0 = .ok (.iload_n 0, 1) := by decide +kernel
theorem dc_Js_checkIndex_1 : decode bc_Js_checkIndex 1 = .ok (.iload_n 1, 1) := by decide +kernel
theorem dc_Js_checkIndex_2 : decode bc_Js_checkIndex 2 = .ok (.getstatic 1053, 3) := by decide +kernel
theorem dc_Js_checkIndex_5 : decode bc_Js_checkIndex 5 = .ok (.invokestatic 1059, 3) := by decide +kernel
theorem dc_Js_checkIndex_8 : decode bc_Js_checkIndex 8 = .ok (.pop, 1) := by decide +kernel
theorem dc_Js_checkIndex_9 : decode bc_Js_checkIndex 9 = .ok (.return_, 1) := by decide +kernel
theorem dc_Jp_checkIndex_0 : decode bc_Jp_checkIndex 0 = .ok (.iload_n 0, 1) := by decide +kernel
theorem dc_Jp_checkIndex_1 : decode bc_Jp_checkIndex 1 = .ok (.ifCond .lt 8, 3) := by decide +kernel
theorem dc_Jp_checkIndex_4 : decode bc_Jp_checkIndex 4 = .ok (.iload_n 0, 1) := by decide +kernel
theorem dc_Jp_checkIndex_5 : decode bc_Jp_checkIndex 5 = .ok (.iload_n 1, 1) := by decide +kernel
theorem dc_Jp_checkIndex_6 : decode bc_Jp_checkIndex 6 = .ok (.if_icmp .lt 10, 3) := by decide +kernel
theorem dc_Jp_checkIndex_9 : decode bc_Jp_checkIndex 9 = .ok (.aload_n 2, 1) := by decide +kernel
theorem dc_Jp_checkIndex_10 : decode bc_Jp_checkIndex 10 = .ok (.iload_n 0, 1) := by decide +kernel
theorem dc_Jp_checkIndex_11 : decode bc_Jp_checkIndex 11 = .ok (.iload_n 1, 1) := by decide +kernel
theorem dc_Jp_checkIndex_12 : decode bc_Jp_checkIndex 12 = .ok (.invokestatic 95, 3) := by decide +kernel
theorem dc_Jp_checkIndex_15 : decode bc_Jp_checkIndex 15 = .ok (.athrow, 1) := by decide +kernel
theorem dc_Jp_checkIndex_16 : decode bc_Jp_checkIndex 16 = .ok (.iload_n 0, 1) := by decide +kernel
theorem dc_Jp_checkIndex_17 : decode bc_Jp_checkIndex 17 = .ok (.ireturn, 1) := by decide +kernel
theorem dc_P_beginsE_0 : decode bc_P_beginsE 0 = .ok (.aload_n 0, 1) := by decide +kernel
theorem dc_P_beginsE_1 : decode bc_P_beginsE 1 = .ok (.getfield 12, 3) := by decide +kernel
theorem dc_P_beginsE_4 : decode bc_P_beginsE 4 = .ok (.getfield 57, 3) := by decide +kernel
theorem dc_P_beginsE_7 : decode bc_P_beginsE 7 = .ok (.iconst 2, 1) := by decide +kernel
theorem dc_P_beginsE_8 : decode bc_P_beginsE 8 = .ok (.if_icmp .ne 20, 3) := by decide +kernel
theorem dc_P_beginsE_11 : decode bc_P_beginsE 11 = .ok (.aload_n 0, 1) := by decide +kernel
theorem dc_P_beginsE_12 : decode bc_P_beginsE 12 = .ok (.aload_n 0, 1) := by decide +kernel
theorem dc_P_beginsE_13 : decode bc_P_beginsE 13 = .ok (.iconst (-1), 1) := by decide +kernel
theorem dc_P_beginsE_14 : decode bc_P_beginsE 14 = .ok (.invokevirtual 211, 3) := by decide +kernel
theorem dc_P_beginsE_17 : decode bc_P_beginsE 17 = .ok (.putfield 43, 3) := by decide +kernel
theorem dc_P_beginsE_20 : decode bc_P_beginsE 20 = .ok (.aload_n 0, 1) := by decide +kernel
theorem dc_P_beginsE_21 : decode bc_P_beginsE 21 = .ok (.bipush 10, 2) := by decide +kernel
theorem dc_P_beginsE_23 : decode bc_P_beginsE 23 = .ok (.putfield 37, 3) := by decide +kernel
theorem dc_P_beginsE_26 : decode bc_P_beginsE 26 = .ok (.iconst 1, 1) := by decide +kernel
theorem dc_P_beginsE_27 : decode bc_P_beginsE 27 = .ok (.ireturn, 1) := by decide +kernel
theorem dc_P_beginsE_28 : decode bc_P_beginsE 28 = .ok (.aload_n 0, 1) := by decide +kernel
theorem dc_P_beginsE_29 : decode bc_P_beginsE 29 = .ok (.invokevirtual 215, 3) := by decide +kernel
theorem dc_P_beginsE_32 : decode bc_P_beginsE 32 = .ok (.istore_n 1, 1) := by decide +kernel
theorem dc_P_beginsE_33 : decode bc_P_beginsE 33 = .ok (.iload_n 1, 1) := by decide +kernel
theorem dc_P_beginsE_34 : decode bc_P_beginsE 34 = .ok (.iconst (-1), 1) := by decide +kernel
theorem dc_P_beginsE_35 : decode bc_P_beginsE 35 = .ok (.if_icmp .ne 5, 3) := by decide +kernel
theorem dc_P_beginsE_38 : decode bc_P_beginsE 38 = .ok (.iconst 0, 1) := by decide +kernel
theorem dc_P_beginsE_39 : decode bc_P_beginsE 39 = .ok (.ireturn, 1) := by decide +kernel
theorem dc_P_beginsE_40 : decode bc_P_beginsE 40 = .ok (.aload_n 0, 1) := by decide +kernel
theorem dc_P_beginsE_41 : decode bc_P_beginsE 41 = .ok (.iload_n 1, 1) := by decide +kernel
theorem dc_P_beginsE_42 : decode bc_P_beginsE 42 = .ok (.invokevirtual 211, 3) := by decide +kernel
theorem dc_P_beginsE_45 : decode bc_P_beginsE 45 = .ok (.istore_n 2, 1) := by decide +kernel
theorem dc_P_beginsE_46 : decode bc_P_beginsE 46 = .ok (.aload_n 0, 1) := by decide +kernel
theorem dc_P_beginsE_47 : decode bc_P_beginsE 47 = .ok (.getfield 27, 3) := by decide +kernel
theorem dc_P_beginsE_50 : decode bc_P_beginsE 50 = .ok (.iload_n 2, 1) := by decide +kernel
theorem dc_P_beginsE_51 : decode bc_P_beginsE 51 = .ok (.iconst 2, 1) := by decide +kernel
theorem dc_P_beginsE_52 : decode bc_P_beginsE 52 = .ok (.iconst 1, 1) := by decide +kernel
theorem dc_P_beginsE_53 : decode bc_P_beginsE 53 = .ok (.invokevirtual 133, 3) := by decide +kernel
theorem dc_P_beginsE_56 : decode bc_P_beginsE 56 = .ok (.iload_n 1, 1) := by decide +kernel
theorem dc_P_beginsE_57 : decode bc_P_beginsE 57 = .ok (.ifCond .ne 23, 3) := by decide +kernel
theorem dc_P_beginsE_60 : decode bc_P_beginsE 60 = .ok (.aload_n 0, 1) := by decide +kernel
theorem dc_P_beginsE_61 : decode bc_P_beginsE 61 = .ok (.getfield 27, 3) := by decide +kernel
theorem dc_P_beginsE_64 : decode bc_P_beginsE 64 = .ok (.iload_n 2, 1) := by decide +kernel
theorem dc_P_beginsE_65 : decode bc_P_beginsE 65 = .ok (.bipush 8, 2) := by decide +kernel
theorem dc_P_beginsE_67 : decode bc_P_beginsE 67 = .ok (.aload_n 0, 1) := by decide +kernel
theorem dc_P_beginsE_68 : decode bc_P_beginsE 68 = .ok (.getfield 12, 3) := by decide +kernel
theorem dc_P_beginsE_71 : decode bc_P_beginsE 71 = .ok (.getfield 218, 3) := by decide +kernel
theorem dc_P_beginsE_74 : decode bc_P_beginsE 74 = .ok (.invokevirtual 133, 3) := by decide +kernel
theorem dc_P_beginsE_77 : decode bc_P_beginsE 77 = .ok (.goto 14, 3) := by decide +kernel
theorem dc_P_beginsE_80 : decode bc_P_beginsE 80 = .ok (.iload_n 1, 1) := by decide +kernel
theorem dc_P_beginsE_81 : decode bc_P_beginsE 81 = .ok (.iconst 1, 1) := by decide +kernel
theorem dc_P_beginsE_82 : decode bc_P_beginsE 82 = .ok (.if_icmp .ne 9, 3) := by decide +kernel
theorem dc_P_beginsE_85 : decode bc_P_beginsE 85 = .ok (.aload_n 0, 1) := by decide +kernel
theorem dc_P_beginsE_86 : decode bc_P_beginsE 86 = .ok (.iload_n 2, 1) := by decide +kernel
theorem dc_P_beginsE_87 : decode bc_P_beginsE 87 = .ok (.iconst 0, 1) := by decide +kernel
theorem dc_P_beginsE_88 : decode bc_P_beginsE 88 = .ok (.invokevirtual 208, 3) := by decide +kernel
theorem dc_P_beginsE_91 : decode bc_P_beginsE 91 = .ok (.aload_n 0, 1) := by decide +kernel
theorem dc_P_beginsE_92 : decode bc_P_beginsE 92 = .ok (.aload_n 0, 1) := by decide +kernel
theorem dc_P_beginsE_93 : decode bc_P_beginsE 93 = .ok (.getfield 43, 3) := by decide +kernel
theorem dc_P_beginsE_96 : decode bc_P_beginsE 96 = .ok (.invokevirtual 221, 3) := by decide +kernel
theorem dc_P_beginsE_99 : decode bc_P_beginsE 99 = .ok (.iconst 1, 1) := by decide +kernel
theorem dc_P_beginsE_100 : decode bc_P_beginsE 100 = .ok (.ireturn, 1) := by decide +kernel
theorem dc_P_addNode_0 : decode bc_P_addNode 0 = .ok (.aload_n 0, 1) := by decide +kernel
theorem dc_P_addNode_1 : decode bc_P_addNode 1 = .ok (.invokevirtual 225, 3) := by decide +kernel
theorem dc_P_addNode_4 : decode bc_P_addNode 4 = .ok (.istore_n 2, 1) := by decide +kernel
theorem dc_P_addNode_5 : decode bc_P_addNode 5 = .ok (.aload_n 0, 1) := by decide +kernel
theorem dc_P_addNode_6 : decode bc_P_addNode 6 = .ok (.getfield 43, 3) := by decide +kernel
theorem dc_P_addNode_9 : decode bc_P_addNode 9 = .ok (.iconst (-1), 1) := by decide +kernel
theorem dc_P_addNode_10 : decode bc_P_addNode 10 = .ok (.if_icmp .eq 42, 3) := by decide +kernel
theorem dc_P_addNode_13 : decode bc_P_addNode 13 = .ok (.aload_n 0, 1) := by decide +kernel
theorem dc_P_addNode_14 : decode bc_P_addNode 14 = .ok (.getfield 27, 3) := by decide +kernel
theorem dc_P_addNode_17 : decode bc_P_addNode 17 = .ok (.aload_n 0, 1) := by decide +kernel
theorem dc_P_addNode_18 : decode bc_P_addNode 18 = .ok (.getfield 43, 3) := by decide +kernel
theorem dc_P_addNode_21 : decode bc_P_addNode 21 = .ok (.iconst 1, 1) := by decide +kernel
theorem dc_P_addNode_22 : decode bc_P_addNode 22 = .ok (.aload_n 0, 1) := by decide +kernel
theorem dc_P_addNode_23 : decode bc_P_addNode 23 = .ok (.getfield 27, 3) := by decide +kernel
theorem dc_P_addNode_26 : decode bc_P_addNode 26 = .ok (.aload_n 0, 1) := by decide +kernel
theorem dc_P_addNode_27 : decode bc_P_addNode 27 = .ok (.getfield 43, 3) := by decide +kernel
theorem dc_P_addNode_30 : decode bc_P_addNode 30 = .ok (.iconst 1, 1) := by decide +kernel
theorem dc_P_addNode_31 : decode bc_P_addNode 31 = .ok (.invokevirtual 152, 3) := by decide +kernel
theorem dc_P_addNode_34 : decode bc_P_addNode 34 = .ok (.iconst 1, 1) := by decide +kernel
theorem dc_P_addNode_35 : decode bc_P_addNode 35 = .ok (.iadd, 1) := by decide +kernel
theorem dc_P_addNode_36 : decode bc_P_addNode 36 = .ok (.invokevirtual 133, 3) := by decide +kernel
theorem dc_P_addNode_39 : decode bc_P_addNode 39 = .ok (.aload_n 0, 1) := by decide +kernel
theorem dc_P_addNode_40 : decode bc_P_addNode 40 = .ok (.getfield 46, 3) := by decide +kernel
theorem dc_P_addNode_43 : decode bc_P_addNode 43 = .ok (.bipush 42, 2) := by decide +kernel
theorem dc_P_addNode_45 : decode bc_P_addNode 45 = .ok (.if_icmp .eq 7, 3) := by decide +kernel
theorem dc_P_addNode_48 : decode bc_P_addNode 48 = .ok (.aload_n 0, 1) := by decide +kernel
theorem dc_P_addNode_49 : decode bc_P_addNode 49 = .ok (.invokevirtual 205, 3) := by decide +kernel
theorem dc_P_addNode_52 : decode bc_P_addNode 52 = .ok (.aload_n 0, 1) := by decide +kernel
theorem dc_P_addNode_53 : decode bc_P_addNode 53 = .ok (.getfield 27, 3) := by decide +kernel
theorem dc_P_addNode_56 : decode bc_P_addNode 56 = .ok (.invokevirtual 130, 3) := by decide +kernel
theorem dc_P_addNode_59 : decode bc_P_addNode 59 = .ok (.istore_n 3, 1) := by decide +kernel
theorem dc_P_addNode_60 : decode bc_P_addNode 60 = .ok (.aload_n 0, 1) := by decide +kernel
theorem dc_P_addNode_61 : decode bc_P_addNode 61 = .ok (.getfield 27, 3) := by decide +kernel
theorem dc_P_addNode_64 : decode bc_P_addNode 64 = .ok (.iload_n 3, 1) := by decide +kernel
theorem dc_P_addNode_65 : decode bc_P_addNode 65 = .ok (.iconst 0, 1) := by decide +kernel
theorem dc_P_addNode_66 : decode bc_P_addNode 66 = .ok (.iload_n 1, 1) := by decide +kernel
theorem dc_P_addNode_67 : decode bc_P_addNode 67 = .ok (.invokevirtual 133, 3) := by decide +kernel
theorem dc_P_addNode_70 : decode bc_P_addNode 70 = .ok (.aload_n 0, 1) := by decide +kernel
theorem dc_P_addNode_71 : decode bc_P_addNode 71 = .ok (.getfield 27, 3) := by decide +kernel
theorem dc_P_addNode_74 : decode bc_P_addNode 74 = .ok (.iload_n 3, 1) := by decide +kernel
theorem dc_P_addNode_75 : decode bc_P_addNode 75 = .ok (.iconst 1, 1) := by decide +kernel
theorem dc_P_addNode_76 : decode bc_P_addNode 76 = .ok (.iconst 0, 1) := by decide +kernel
theorem dc_P_addNode_77 : decode bc_P_addNode 77 = .ok (.invokevirtual 133, 3) := by decide +kernel
theorem dc_P_addNode_80 : decode bc_P_addNode 80 = .ok (.aload_n 0, 1) := by decide +kernel
theorem dc_P_addNode_81 : decode bc_P_addNode 81 = .ok (.getfield 27, 3) := by decide +kernel
theorem dc_P_addNode_84 : decode bc_P_addNode 84 = .ok (.iload_n 3, 1) := by decide +kernel
theorem dc_P_addNode_85 : decode bc_P_addNode 85 = .ok (.iconst 3, 1) := by decide +kernel
theorem dc_P_addNode_86 : decode bc_P_addNode 86 = .ok (.aload_n 0, 1) := by decide +kernel
theorem dc_P_addNode_87 : decode bc_P_addNode 87 = .ok (.getfield 12, 3) := by decide +kernel
theorem dc_P_addNode_90 : decode bc_P_addNode 90 = .ok (.getfield 70, 3) := by decide +kernel
theorem dc_P_addNode_93 : decode bc_P_addNode 93 = .ok (.invokevirtual 133, 3) := by decide +kernel
theorem dc_P_addNode_96 : decode bc_P_addNode 96 = .ok (.aload_n 0, 1) := by decide +kernel
theorem dc_P_addNode_97 : decode bc_P_addNode 97 = .ok (.getfield 27, 3) := by decide +kernel
theorem dc_P_addNode_100 : decode bc_P_addNode 100 = .ok (.iload_n 3, 1) := by decide +kernel
theorem dc_P_addNode_101 : decode bc_P_addNode 101 = .ok (.iconst 4, 1) := by decide +kernel
theorem dc_P_addNode_102 : decode bc_P_addNode 102 = .ok (.aload_n 0, 1) := by decide +kernel
theorem dc_P_addNode_103 : decode bc_P_addNode 103 = .ok (.getfield 43, 3) := by decide +kernel
theorem dc_P_addNode_106 : decode bc_P_addNode 106 = .ok (.invokevirtual 133, 3) := by decide +kernel
theorem dc_P_addNode_109 : decode bc_P_addNode 109 = .ok (.aload_n 0, 1) := by decide +kernel
theorem dc_P_addNode_110 : decode bc_P_addNode 110 = .ok (.getfield 27, 3) := by decide +kernel
theorem dc_P_addNode_113 : decode bc_P_addNode 113 = .ok (.iload_n 3, 1) := by decide +kernel
theorem dc_P_addNode_114 : decode bc_P_addNode 114 = .ok (.bipush 7, 2) := by decide +kernel
theorem dc_P_addNode_116 : decode bc_P_addNode 116 = .ok (.iload_n 2, 1) := by decide +kernel
theorem dc_P_addNode_117 : decode bc_P_addNode 117 = .ok (.invokevirtual 133, 3) := by decide +kernel
theorem dc_P_addNode_120 : decode bc_P_addNode 120 = .ok (.iload_n 3, 1) := by decide +kernel
theorem dc_P_addNode_121 : decode bc_P_addNode 121 = .ok (.ireturn, 1) := by decide +kernel
theorem dc_P_variablesHere_0 : decode bc_P_variablesHere 0 = .ok (.aload_n 0, 1) := by decide +kernel
theorem dc_P_variablesHere_1 : decode bc_P_variablesHere 1 = .ok (.getfield 43, 3) := by decide +kernel
theorem dc_P_variablesHere_4 : decode bc_P_variablesHere 4 = .ok (.iconst (-1), 1) := by decide +kernel
theorem dc_P_variablesHere_5 : decode bc_P_variablesHere 5 = .ok (.if_icmp .ne 16, 3) := by decide +kernel
theorem dc_P_variablesHere_8 : decode bc_P_variablesHere 8 = .ok (.aload_n 0, 1) := by decide +kernel
theorem dc_P_variablesHere_9 : decode bc_P_variablesHere 9 = .ok (.getfield 23, 3) := by decide +kernel
theorem dc_P_variablesHere_12 : decode bc_P_variablesHere 12 = .ok (.aload_n 0, 1) := by decide +kernel
theorem dc_P_variablesHere_13 : decode bc_P_variablesHere 13 = .ok (.getfield 40, 3) := by decide +kernel
theorem dc_P_variablesHere_16 : decode bc_P_variablesHere 16 = .ok (.iconst 2, 1) := by decide +kernel
theorem dc_P_variablesHere_17 : decode bc_P_variablesHere 17 = .ok (.invokevirtual 152, 3) := by decide +kernel
theorem dc_P_variablesHere_20 : decode bc_P_variablesHere 20 = .ok (.ireturn, 1) := by decide +kernel
theorem dc_P_variablesHere_21 : decode bc_P_variablesHere 21 = .ok (.aload_n 0, 1) := by decide +kernel
theorem dc_P_variablesHere_22 : decode bc_P_variablesHere 22 = .ok (.getfield 27, 3) := by decide +kernel
theorem dc_P_variablesHere_25 : decode bc_P_variablesHere 25 = .ok (.aload_n 0, 1) := by decide +kernel
theorem dc_P_variablesHere_26 : decode bc_P_variablesHere 26 = .ok (.getfield 43, 3) := by decide +kernel
theorem dc_P_variablesHere_29 : decode bc_P_variablesHere 29 = .ok (.bipush 7, 2) := by decide +kernel
theorem dc_P_variablesHere_31 : decode bc_P_variablesHere 31 = .ok (.invokevirtual 152, 3) := by decide +kernel
theorem dc_P_variablesHere_34 : decode bc_P_variablesHere 34 = .ok (.istore_n 1, 1) := by decide +kernel
theorem dc_P_variablesHere_35 : decode bc_P_variablesHere 35 = .ok (.aload_n 0, 1) := by decide +kernel
theorem dc_P_variablesHere_36 : decode bc_P_variablesHere 36 = .ok (.getfield 46, 3) := by decide +kernel
theorem dc_P_variablesHere_39 : decode bc_P_variablesHere 39 = .ok (.bipush 101, 2) := by decide +kernel
theorem dc_P_variablesHere_41 : decode bc_P_variablesHere 41 = .ok (.if_icmp .eq 14, 3) := by decide +kernel
theorem dc_P_variablesHere_44 : decode bc_P_variablesHere 44 = .ok (.aload_n 0, 1) := by decide +kernel
theorem dc_P_variablesHere_45 : decode bc_P_variablesHere 45 = .ok (.getfield 46, 3) := by decide +kernel
theorem dc_P_variablesHere_48 : decode bc_P_variablesHere 48 = .ok (.bipush 99, 2) := by decide +kernel
theorem dc_P_variablesHere_50 : decode bc_P_variablesHere 50 = .ok (.if_icmp .eq 5, 3) := by decide +kernel
theorem dc_P_variablesHere_53 : decode bc_P_variablesHere 53 = .ok (.iload_n 1, 1) := by decide +kernel
theorem dc_P_variablesHere_54 : decode bc_P_variablesHere 54 = .ok (.ireturn, 1) := by decide +kernel
theorem dc_P_variablesHere_55 : decode bc_P_variablesHere 55 = .ok (.iload_n 1, 1) := by decide +kernel
theorem dc_P_variablesHere_56 : decode bc_P_variablesHere 56 = .ok (.aload_n 0, 1) := by decide +kernel
theorem dc_P_variablesHere_57 : decode bc_P_variablesHere 57 = .ok (.getfield 27, 3) := by decide +kernel
theorem dc_P_variablesHere_60 : decode bc_P_variablesHere 60 = .ok (.aload_n 0, 1) := by decide +kernel
theorem dc_P_variablesHere_61 : decode bc_P_variablesHere 61 = .ok (.getfield 43, 3) := by decide +kernel
theorem dc_P_variablesHere_64 : decode bc_P_variablesHere 64 = .ok (.bipush 6, 2) := by decide +kernel
theorem dc_P_variablesHere_66 : decode bc_P_variablesHere 66 = .ok (.invokevirtual 152, 3) := by decide +kernel
theorem dc_P_variablesHere_69 : decode bc_P_variablesHere 69 = .ok (.iconst (-1), 1) := by decide +kernel
theorem dc_P_variablesHere_70 : decode bc_P_variablesHere 70 = .ok (.if_icmp .ne 7, 3) := by decide +kernel
theorem dc_P_variablesHere_73 : decode bc_P_variablesHere 73 = .ok (.iconst 1, 1) := by decide +kernel
theorem dc_P_variablesHere_74 : decode bc_P_variablesHere 74 = .ok (.goto 4, 3) := by decide +kernel
theorem dc_P_variablesHere_77 : decode bc_P_variablesHere 77 = .ok (.iconst 2, 1) := by decide +kernel
theorem dc_P_variablesHere_78 : decode bc_P_variablesHere 78 = .ok (.iadd, 1) := by decide +kernel
theorem dc_P_variablesHere_79 : decode bc_P_variablesHere 79 = .ok (.ireturn, 1) := by decide +kernel
theorem dc_R_setNumber_0 : decode bc_R_setNumber 0 = .ok (.iload_n 1, 1) := by decide +kernel
theorem dc_R_setNumber_1 : decode bc_R_setNumber 1 = .ok (.ifCond .lt 37, 3) := by decide +kernel
theorem dc_R_setNumber_4 : decode bc_R_setNumber 4 = .ok (.iload_n 1, 1) := by decide +kernel
theorem dc_R_setNumber_5 : decode bc_R_setNumber 5 = .ok (.aload_n 0, 1) := by decide +kernel
theorem dc_R_setNumber_6 : decode bc_R_setNumber 6 = .ok (.getfield 9, 3) := by decide +kernel
theorem dc_R_setNumber_9 : decode bc_R_setNumber 9 = .ok (.if_icmp .ge 29, 3) := by decide +kernel
theorem dc_R_setNumber_12 : decode bc_R_setNumber 12 = .ok (.iload_n 2, 1) := by decide +kernel
theorem dc_R_setNumber_13 : decode bc_R_setNumber 13 = .ok (.ifCond .lt 25, 3) := by decide +kernel
theorem dc_R_setNumber_16 : decode bc_R_setNumber 16 = .ok (.iload_n 2, 1) := by decide +kernel
theorem dc_R_setNumber_17 : decode bc_R_setNumber 17 = .ok (.aload_n 0, 1) := by decide +kernel
theorem dc_R_setNumber_18 : decode bc_R_setNumber 18 = .ok (.getfield 21, 3) := by decide +kernel
theorem dc_R_setNumber_21 : decode bc_R_setNumber 21 = .ok (.if_icmp .ge 17, 3) := by decide +kernel
theorem dc_R_setNumber_24 : decode bc_R_setNumber 24 = .ok (.aload_n 0, 1) := by decide +kernel
theorem dc_R_setNumber_25 : decode bc_R_setNumber 25 = .ok (.getfield 27, 3) := by decide +kernel
theorem dc_R_setNumber_28 : decode bc_R_setNumber 28 = .ok (.iload_n 1, 1) := by decide +kernel
theorem dc_R_setNumber_29 : decode bc_R_setNumber 29 = .ok (.aload_n 0, 1) := by decide +kernel
theorem dc_R_setNumber_30 : decode bc_R_setNumber 30 = .ok (.getfield 21, 3) := by decide +kernel
theorem dc_R_setNumber_33 : decode bc_R_setNumber 33 = .ok (.imul, 1) := by decide +kernel
theorem dc_R_setNumber_34 : decode bc_R_setNumber 34 = .ok (.iload_n 2, 1) := by decide +kernel
theorem dc_R_setNumber_35 : decode bc_R_setNumber 35 = .ok (.iadd, 1) := by decide +kernel
theorem dc_R_setNumber_36 : decode bc_R_setNumber 36 = .ok (.iload_n 3, 1) := by decide +kernel
theorem dc_R_setNumber_37 : decode bc_R_setNumber 37 = .ok (.iastore, 1) := by decide +kernel
theorem dc_R_setNumber_38 : decode bc_R_setNumber 38 = .ok (.return_, 1) := by decide +kernel
theorem dc_P_goOn_0 : decode bc_P_goOn 0 = .ok (.aload_n 0, 1) := by decide +kernel
theorem dc_P_goOn_1 : decode bc_P_goOn 1 = .ok (.getfield 27, 3) := by decide +kernel
theorem dc_P_goOn_4 : decode bc_P_goOn 4 = .ok (.aload_n 0, 1) := by decide +kernel
theorem dc_P_goOn_5 : decode bc_P_goOn 5 = .ok (.getfield 43, 3) := by decide +kernel
theorem dc_P_goOn_8 : decode bc_P_goOn 8 = .ok (.bipush 9, 2) := by decide +kernel
theorem dc_P_goOn_10 : decode bc_P_goOn 10 = .ok (.aload_n 0, 1) := by decide +kernel
theorem dc_P_goOn_11 : decode bc_P_goOn 11 = .ok (.getfield 27, 3) := by decide +kernel
theorem dc_P_goOn_14 : decode bc_P_goOn 14 = .ok (.aload_n 0, 1) := by decide +kernel
theorem dc_P_goOn_15 : decode bc_P_goOn 15 = .ok (.getfield 43, 3) := by decide +kernel
theorem dc_P_goOn_18 : decode bc_P_goOn 18 = .ok (.bipush 9, 2) := by decide +kernel
theorem dc_P_goOn_20 : decode bc_P_goOn 20 = .ok (.invokevirtual 152, 3) := by decide +kernel
theorem dc_P_goOn_23 : decode bc_P_goOn 23 = .ok (.iconst 1, 1) := by decide +kernel
theorem dc_P_goOn_24 : decode bc_P_goOn 24 = .ok (.iadd, 1) := by decide +kernel
theorem dc_P_goOn_25 : decode bc_P_goOn 25 = .ok (.invokevirtual 133, 3) := by decide +kernel
theorem dc_P_goOn_28 : decode bc_P_goOn 28 = .ok (.return_, 1) := by decide +kernel
theorem dc_R_addRow_0 : decode bc_R_addRow 0 = .ok (.aload_n 0, 1) := by decide +kernel
theorem dc_R_addRow_1 : decode bc_R_addRow 1 = .ok (.getfield 9, 3) := by decide +kernel
theorem dc_R_addRow_4 : decode bc_R_addRow 4 = .ok (.istore_n 1, 1) := by decide +kernel
theorem dc_R_addRow_5 : decode bc_R_addRow 5 = .ok (.iload_n 1, 1) := by decide +kernel
theorem dc_R_addRow_6 : decode bc_R_addRow 6 = .ok (.iconst 1, 1) := by decide +kernel
theorem dc_R_addRow_7 : decode bc_R_addRow 7 = .ok (.iadd, 1) := by decide +kernel
theorem dc_R_addRow_8 : decode bc_R_addRow 8 = .ok (.aload_n 0, 1) := by decide +kernel
theorem dc_R_addRow_9 : decode bc_R_addRow 9 = .ok (.getfield 21, 3) := by decide +kernel
theorem dc_R_addRow_12 : decode bc_R_addRow 12 = .ok (.imul, 1) := by decide +kernel
theorem dc_R_addRow_13 : decode bc_R_addRow 13 = .ok (.aload_n 0, 1) := by decide +kernel
theorem dc_R_addRow_14 : decode bc_R_addRow 14 = .ok (.getfield 27, 3) := by decide +kernel
theorem dc_R_addRow_17 : decode bc_R_addRow 17 = .ok (.arraylength, 1) := by decide +kernel
theorem dc_R_addRow_18 : decode bc_R_addRow 18 = .ok (.if_icmp .le 39, 3) := by decide +kernel
theorem dc_R_addRow_21 : decode bc_R_addRow 21 = .ok (.aload_n 0, 1) := by decide +kernel
theorem dc_R_addRow_22 : decode bc_R_addRow 22 = .ok (.aload_n 0, 1) := by decide +kernel
theorem dc_R_addRow_23 : decode bc_R_addRow 23 = .ok (.getfield 27, 3) := by decide +kernel
theorem dc_R_addRow_26 : decode bc_R_addRow 26 = .ok (.iconst 2, 1) := by decide +kernel
theorem dc_R_addRow_27 : decode bc_R_addRow 27 = .ok (.aload_n 0, 1) := by decide +kernel
theorem dc_R_addRow_28 : decode bc_R_addRow 28 = .ok (.getfield 27, 3) := by decide +kernel
theorem dc_R_addRow_31 : decode bc_R_addRow 31 = .ok (.arraylength, 1) := by decide +kernel
theorem dc_R_addRow_32 : decode bc_R_addRow 32 = .ok (.imul, 1) := by decide +kernel
theorem dc_R_addRow_33 : decode bc_R_addRow 33 = .ok (.invokestatic 35, 3) := by decide +kernel
theorem dc_R_addRow_36 : decode bc_R_addRow 36 = .ok (.putfield 27, 3) := by decide +kernel
theorem dc_R_addRow_39 : decode bc_R_addRow 39 = .ok (.aload_n 0, 1) := by decide +kernel
theorem dc_R_addRow_40 : decode bc_R_addRow 40 = .ok (.aload_n 0, 1) := by decide +kernel
theorem dc_R_addRow_41 : decode bc_R_addRow 41 = .ok (.getfield 31, 3) := by decide +kernel
theorem dc_R_addRow_44 : decode bc_R_addRow 44 = .ok (.iconst 2, 1) := by decide +kernel
theorem dc_R_addRow_45 : decode bc_R_addRow 45 = .ok (.aload_n 0, 1) := by decide +kernel
theorem dc_R_addRow_46 : decode bc_R_addRow 46 = .ok (.getfield 31, 3) := by decide +kernel
theorem dc_R_addRow_49 : decode bc_R_addRow 49 = .ok (.arraylength, 1) := by decide +kernel
theorem dc_R_addRow_50 : decode bc_R_addRow 50 = .ok (.imul, 1) := by decide +kernel
theorem dc_R_addRow_51 : decode bc_R_addRow 51 = .ok (.invokestatic 41, 3) := by decide +kernel
theorem dc_R_addRow_54 : decode bc_R_addRow 54 = .ok (.putfield 31, 3) := by decide +kernel
theorem dc_R_addRow_57 : decode bc_R_addRow 57 = .ok (.aload_n 0, 1) := by decide +kernel
theorem dc_R_addRow_58 : decode bc_R_addRow 58 = .ok (.dup, 1) := by decide +kernel
theorem dc_R_addRow_59 : decode bc_R_addRow 59 = .ok (.getfield 9, 3) := by decide +kernel
theorem dc_R_addRow_62 : decode bc_R_addRow 62 = .ok (.iconst 1, 1) := by decide +kernel
theorem dc_R_addRow_63 : decode bc_R_addRow 63 = .ok (.iadd, 1) := by decide +kernel
theorem dc_R_addRow_64 : decode bc_R_addRow 64 = .ok (.putfield 9, 3) := by decide +kernel
theorem dc_R_addRow_67 : decode bc_R_addRow 67 = .ok (.iconst 0, 1) := by decide +kernel
theorem dc_R_addRow_68 : decode bc_R_addRow 68 = .ok (.istore_n 2, 1) := by decide +kernel
theorem dc_R_addRow_69 : decode bc_R_addRow 69 = .ok (.iload_n 2, 1) := by decide +kernel
theorem dc_R_addRow_70 : decode bc_R_addRow 70 = .ok (.aload_n 0, 1) := by decide +kernel
theorem dc_R_addRow_71 : decode bc_R_addRow 71 = .ok (.getfield 21, 3) := by decide +kernel
theorem dc_R_addRow_74 : decode bc_R_addRow 74 = .ok (.if_icmp .ge 16, 3) := by decide +kernel
theorem dc_R_addRow_77 : decode bc_R_addRow 77 = .ok (.aload_n 0, 1) := by decide +kernel
theorem dc_R_addRow_78 : decode bc_R_addRow 78 = .ok (.iload_n 1, 1) := by decide +kernel
theorem dc_R_addRow_79 : decode bc_R_addRow 79 = .ok (.iload_n 2, 1) := by decide +kernel
theorem dc_R_addRow_80 : decode bc_R_addRow 80 = .ok (.iconst (-1), 1) := by decide +kernel
theorem dc_R_addRow_81 : decode bc_R_addRow 81 = .ok (.invokevirtual 44, 3) := by decide +kernel
theorem dc_R_addRow_84 : decode bc_R_addRow 84 = .ok (.iinc 2 1, 3) := by decide +kernel
theorem dc_R_addRow_87 : decode bc_R_addRow 87 = .ok (.goto (-18), 3) := by decide +kernel
theorem dc_R_addRow_90 : decode bc_R_addRow 90 = .ok (.iconst 0, 1) := by decide +kernel
theorem dc_R_addRow_91 : decode bc_R_addRow 91 = .ok (.istore_n 2, 1) := by decide +kernel
theorem dc_R_addRow_92 : decode bc_R_addRow 92 = .ok (.iload_n 2, 1) := by decide +kernel
theorem dc_R_addRow_93 : decode bc_R_addRow 93 = .ok (.aload_n 0, 1) := by decide +kernel
theorem dc_R_addRow_94 : decode bc_R_addRow 94 = .ok (.getfield 24, 3) := by decide +kernel
theorem dc_R_addRow_97 : decode bc_R_addRow 97 = .ok (.if_icmp .ge 16, 3) := by decide +kernel
theorem dc_R_addRow_100 : decode bc_R_addRow 100 = .ok (.aload_n 0, 1) := by decide +kernel
theorem dc_R_addRow_101 : decode bc_R_addRow 101 = .ok (.iload_n 1, 1) := by decide +kernel
theorem dc_R_addRow_102 : decode bc_R_addRow 102 = .ok (.iload_n 2, 1) := by decide +kernel
theorem dc_R_addRow_103 : decode bc_R_addRow 103 = .ok (.lconst 0, 1) := by decide +kernel
theorem dc_R_addRow_104 : decode bc_R_addRow 104 = .ok (.invokevirtual 48, 3) := by decide +kernel
theorem dc_R_addRow_107 : decode bc_R_addRow 107 = .ok (.iinc 2 1, 3) := by decide +kernel
theorem dc_R_addRow_110 : decode bc_R_addRow 110 = .ok (.goto (-18), 3) := by decide +kernel
theorem dc_R_addRow_113 : decode bc_R_addRow 113 = .ok (.iload_n 1, 1) := by decide +kernel
theorem dc_R_addRow_114 : decode bc_R_addRow 114 = .ok (.ireturn, 1) := by decide +kernel
theorem dc_Ja_copyOf_iIi_0 : decode bc_Ja_copyOf_iIi 0 = .ok (.iload_n 1, 1) := by decide +kernel
theorem dc_Ja_copyOf_iIi_1 : decode bc_Ja_copyOf_iIi 1 = .ok (.aload_n 0, 1) := by decide +kernel
theorem dc_Ja_copyOf_iIi_2 : decode bc_Ja_copyOf_iIi 2 = .ok (.arraylength, 1) := by decide +kernel
theorem dc_Ja_copyOf_iIi_3 : decode bc_Ja_copyOf_iIi 3 = .ok (.if_icmp .ne 11, 3) := by decide +kernel
theorem dc_Ja_copyOf_iIi_6 : decode bc_Ja_copyOf_iIi 6 = .ok (.aload_n 0, 1) := by decide +kernel
theorem dc_Ja_copyOf_iIi_7 : decode bc_Ja_copyOf_iIi 7 = .ok (.invokevirtual 316, 3) := by decide +kernel
theorem dc_Ja_copyOf_iIi_10 : decode bc_Ja_copyOf_iIi 10 = .ok (.checkcast 317, 3) := by decide +kernel
theorem dc_Ja_copyOf_iIi_13 : decode bc_Ja_copyOf_iIi 13 = .ok (.areturn, 1) := by decide +kernel
theorem dc_Ja_copyOf_iIi_14 : decode bc_Ja_copyOf_iIi 14 = .ok (.iload_n 1, 1) := by decide +kernel
theorem dc_Ja_copyOf_iIi_15 : decode bc_Ja_copyOf_iIi 15 = .ok (.newarray .int, 2) := by decide +kernel
theorem dc_Ja_copyOf_iIi_17 : decode bc_Ja_copyOf_iIi 17 = .ok (.astore_n 2, 1) := by decide +kernel
theorem dc_Ja_copyOf_iIi_18 : decode bc_Ja_copyOf_iIi 18 = .ok (.aload_n 0, 1) := by decide +kernel
theorem dc_Ja_copyOf_iIi_19 : decode bc_Ja_copyOf_iIi 19 = .ok (.iconst 0, 1) := by decide +kernel
theorem dc_Ja_copyOf_iIi_20 : decode bc_Ja_copyOf_iIi 20 = .ok (.aload_n 2, 1) := by decide +kernel
theorem dc_Ja_copyOf_iIi_21 : decode bc_Ja_copyOf_iIi 21 = .ok (.iconst 0, 1) := by decide +kernel
theorem dc_Ja_copyOf_iIi_22 : decode bc_Ja_copyOf_iIi 22 = .ok (.aload_n 0, 1) := by decide +kernel
theorem dc_Ja_copyOf_iIi_23 : decode bc_Ja_copyOf_iIi 23 = .ok (.arraylength, 1) := by decide +kernel
theorem dc_Ja_copyOf_iIi_24 : decode bc_Ja_copyOf_iIi 24 = .ok (.iload_n 1, 1) := by decide +kernel
theorem dc_Ja_copyOf_iIi_25 : decode bc_Ja_copyOf_iIi 25 = .ok (.invokestatic 304, 3) := by decide +kernel
theorem dc_Ja_copyOf_iIi_28 : decode bc_Ja_copyOf_iIi 28 = .ok (.invokestatic 150, 3) := by decide +kernel
theorem dc_Ja_copyOf_iIi_31 : decode bc_Ja_copyOf_iIi 31 = .ok (.aload_n 2, 1) := by decide +kernel
theorem dc_Ja_copyOf_iIi_32 : decode bc_Ja_copyOf_iIi 32 = .ok (.areturn, 1) := by decide +kernel
theorem dc_Ja_copyOf_jIj_0 : decode bc_Ja_copyOf_jIj 0 = .ok (.iload_n 1, 1) := by decide +kernel
theorem dc_Ja_copyOf_jIj_1 : decode bc_Ja_copyOf_jIj 1 = .ok (.aload_n 0, 1) := by decide +kernel
theorem dc_Ja_copyOf_jIj_2 : decode bc_Ja_copyOf_jIj 2 = .ok (.arraylength, 1) := by decide +kernel
theorem dc_Ja_copyOf_jIj_3 : decode bc_Ja_copyOf_jIj 3 = .ok (.if_icmp .ne 11, 3) := by decide +kernel
theorem dc_Ja_copyOf_jIj_6 : decode bc_Ja_copyOf_jIj 6 = .ok (.aload_n 0, 1) := by decide +kernel
theorem dc_Ja_copyOf_jIj_7 : decode bc_Ja_copyOf_jIj 7 = .ok (.invokevirtual 319, 3) := by decide +kernel
theorem dc_Ja_copyOf_jIj_10 : decode bc_Ja_copyOf_jIj 10 = .ok (.checkcast 320, 3) := by decide +kernel
theorem dc_Ja_copyOf_jIj_13 : decode bc_Ja_copyOf_jIj 13 = .ok (.areturn, 1) := by decide +kernel
theorem dc_Ja_copyOf_jIj_14 : decode bc_Ja_copyOf_jIj 14 = .ok (.iload_n 1, 1) := by decide +kernel
theorem dc_Ja_copyOf_jIj_15 : decode bc_Ja_copyOf_jIj 15 = .ok (.newarray .long, 2) := by decide +kernel
theorem dc_Ja_copyOf_jIj_17 : decode bc_Ja_copyOf_jIj 17 = .ok (.astore_n 2, 1) := by decide +kernel
theorem dc_Ja_copyOf_jIj_18 : decode bc_Ja_copyOf_jIj 18 = .ok (.aload_n 0, 1) := by decide +kernel
theorem dc_Ja_copyOf_jIj_19 : decode bc_Ja_copyOf_jIj 19 = .ok (.iconst 0, 1) := by decide +kernel
theorem dc_Ja_copyOf_jIj_20 : decode bc_Ja_copyOf_jIj 20 = .ok (.aload_n 2, 1) := by decide +kernel
theorem dc_Ja_copyOf_jIj_21 : decode bc_Ja_copyOf_jIj 21 = .ok (.iconst 0, 1) := by decide +kernel
theorem dc_Ja_copyOf_jIj_22 : decode bc_Ja_copyOf_jIj 22 = .ok (.aload_n 0, 1) := by decide +kernel
theorem dc_Ja_copyOf_jIj_23 : decode bc_Ja_copyOf_jIj 23 = .ok (.arraylength, 1) := by decide +kernel
theorem dc_Ja_copyOf_jIj_24 : decode bc_Ja_copyOf_jIj 24 = .ok (.iload_n 1, 1) := by decide +kernel
theorem dc_Ja_copyOf_jIj_25 : decode bc_Ja_copyOf_jIj 25 = .ok (.invokestatic 304, 3) := by decide +kernel
theorem dc_Ja_copyOf_jIj_28 : decode bc_Ja_copyOf_jIj 28 = .ok (.invokestatic 150, 3) := by decide +kernel
theorem dc_Ja_copyOf_jIj_31 : decode bc_Ja_copyOf_jIj 31 = .ok (.aload_n 2, 1) := by decide +kernel
theorem dc_Ja_copyOf_jIj_32 : decode bc_Ja_copyOf_jIj 32 = .ok (.areturn, 1) := by decide +kernel
theorem dc_R_setName_0 : decode bc_R_setName 0 = .ok (.iload_n 1, 1) := by decide +kernel
theorem dc_R_setName_1 : decode bc_R_setName 1 = .ok (.ifCond .lt 37, 3) := by decide +kernel
theorem dc_R_setName_4 : decode bc_R_setName 4 = .ok (.iload_n 1, 1) := by decide +kernel
theorem dc_R_setName_5 : decode bc_R_setName 5 = .ok (.aload_n 0, 1) := by decide +kernel
theorem dc_R_setName_6 : decode bc_R_setName 6 = .ok (.getfield 9, 3) := by decide +kernel
theorem dc_R_setName_9 : decode bc_R_setName 9 = .ok (.if_icmp .ge 29, 3) := by decide +kernel
theorem dc_R_setName_12 : decode bc_R_setName 12 = .ok (.iload_n 2, 1) := by decide +kernel
theorem dc_R_setName_13 : decode bc_R_setName 13 = .ok (.ifCond .lt 25, 3) := by decide +kernel
theorem dc_R_setName_16 : decode bc_R_setName 16 = .ok (.iload_n 2, 1) := by decide +kernel
theorem dc_R_setName_17 : decode bc_R_setName 17 = .ok (.aload_n 0, 1) := by decide +kernel
theorem dc_R_setName_18 : decode bc_R_setName 18 = .ok (.getfield 24, 3) := by decide +kernel
theorem dc_R_setName_21 : decode bc_R_setName 21 = .ok (.if_icmp .ge 17, 3) := by decide +kernel
theorem dc_R_setName_24 : decode bc_R_setName 24 = .ok (.aload_n 0, 1) := by decide +kernel
theorem dc_R_setName_25 : decode bc_R_setName 25 = .ok (.getfield 31, 3) := by decide +kernel
theorem dc_R_setName_28 : decode bc_R_setName 28 = .ok (.iload_n 1, 1) := by decide +kernel
theorem dc_R_setName_29 : decode bc_R_setName 29 = .ok (.aload_n 0, 1) := by decide +kernel
theorem dc_R_setName_30 : decode bc_R_setName 30 = .ok (.getfield 24, 3) := by decide +kernel
theorem dc_R_setName_33 : decode bc_R_setName 33 = .ok (.imul, 1) := by decide +kernel
theorem dc_R_setName_34 : decode bc_R_setName 34 = .ok (.iload_n 2, 1) := by decide +kernel
theorem dc_R_setName_35 : decode bc_R_setName 35 = .ok (.iadd, 1) := by decide +kernel
theorem dc_R_setName_36 : decode bc_R_setName 36 = .ok (.lload_n 3, 1) := by decide +kernel
theorem dc_R_setName_37 : decode bc_R_setName 37 = .ok (.lastore, 1) := by decide +kernel
theorem dc_R_setName_38 : decode bc_R_setName 38 = .ok (.return_, 1) := by decide +kernel
theorem dc_P_kindOfLeaf_0 : decode bc_P_kindOfLeaf 0 = .ok (.aload_n 0, 1) := by decide +kernel
theorem dc_P_kindOfLeaf_1 : decode bc_P_kindOfLeaf 1 = .ok (.getfield 12, 3) := by decide +kernel
theorem dc_P_kindOfLeaf_4 : decode bc_P_kindOfLeaf 4 = .ok (.getfield 57, 3) := by decide +kernel
theorem dc_P_kindOfLeaf_7 : decode bc_P_kindOfLeaf 7 = .ok (.iconst 5, 1) := by decide +kernel
theorem dc_P_kindOfLeaf_8 : decode bc_P_kindOfLeaf 8 = .ok (.if_icmp .ne 5, 3) := by decide +kernel
theorem dc_P_kindOfLeaf_11 : decode bc_P_kindOfLeaf 11 = .ok (.iconst 0, 1) := by decide +kernel
theorem dc_P_kindOfLeaf_12 : decode bc_P_kindOfLeaf 12 = .ok (.ireturn, 1) := by decide +kernel
theorem dc_P_kindOfLeaf_13 : decode bc_P_kindOfLeaf 13 = .ok (.aload_n 0, 1) := by decide +kernel
theorem dc_P_kindOfLeaf_14 : decode bc_P_kindOfLeaf 14 = .ok (.invokevirtual 137, 3) := by decide +kernel
theorem dc_P_kindOfLeaf_17 : decode bc_P_kindOfLeaf 17 = .ok (.ifCond .eq 5, 3) := by decide +kernel
theorem dc_P_kindOfLeaf_20 : decode bc_P_kindOfLeaf 20 = .ok (.iconst 1, 1) := by decide +kernel
theorem dc_P_kindOfLeaf_21 : decode bc_P_kindOfLeaf 21 = .ok (.ireturn, 1) := by decide +kernel
theorem dc_P_kindOfLeaf_22 : decode bc_P_kindOfLeaf 22 = .ok (.aload_n 0, 1) := by decide +kernel
theorem dc_P_kindOfLeaf_23 : decode bc_P_kindOfLeaf 23 = .ok (.invokevirtual 126, 3) := by decide +kernel
theorem dc_P_kindOfLeaf_26 : decode bc_P_kindOfLeaf 26 = .ok (.iconst 2, 1) := by decide +kernel
theorem dc_P_kindOfLeaf_27 : decode bc_P_kindOfLeaf 27 = .ok (.if_icmp .ne 7, 3) := by decide +kernel
theorem dc_P_kindOfLeaf_30 : decode bc_P_kindOfLeaf 30 = .ok (.iconst 2, 1) := by decide +kernel
theorem dc_P_kindOfLeaf_31 : decode bc_P_kindOfLeaf 31 = .ok (.goto 4, 3) := by decide +kernel
theorem dc_P_kindOfLeaf_34 : decode bc_P_kindOfLeaf 34 = .ok (.iconst (-1), 1) := by decide +kernel
theorem dc_P_kindOfLeaf_35 : decode bc_P_kindOfLeaf 35 = .ok (.ireturn, 1) := by decide +kernel
theorem dc_P_isFreeName_0 : decode bc_P_isFreeName 0 = .ok (.aload_n 0, 1) := by decide +kernel
theorem dc_P_isFreeName_1 : decode bc_P_isFreeName 1 = .ok (.getfield 12, 3) := by decide +kernel
theorem dc_P_isFreeName_4 : decode bc_P_isFreeName 4 = .ok (.getfield 57, 3) := by decide +kernel
theorem dc_P_isFreeName_7 : decode bc_P_isFreeName 7 = .ok (.iconst 4, 1) := by decide +kernel
theorem dc_P_isFreeName_8 : decode bc_P_isFreeName 8 = .ok (.if_icmp .ne 18, 3) := by decide +kernel
theorem dc_P_isFreeName_11 : decode bc_P_isFreeName 11 = .ok (.aload_n 0, 1) := by decide +kernel
theorem dc_P_isFreeName_12 : decode bc_P_isFreeName 12 = .ok (.getfield 12, 3) := by decide +kernel
theorem dc_P_isFreeName_15 : decode bc_P_isFreeName 15 = .ok (.getfield 123, 3) := by decide +kernel
theorem dc_P_isFreeName_18 : decode bc_P_isFreeName 18 = .ok (.iconst (-1), 1) := by decide +kernel
theorem dc_P_isFreeName_19 : decode bc_P_isFreeName 19 = .ok (.if_icmp .ne 7, 3) := by decide +kernel
theorem dc_P_isFreeName_22 : decode bc_P_isFreeName 22 = .ok (.iconst 1, 1) := by decide +kernel
theorem dc_P_isFreeName_23 : decode bc_P_isFreeName 23 = .ok (.goto 4, 3) := by decide +kernel
theorem dc_P_isFreeName_26 : decode bc_P_isFreeName 26 = .ok (.iconst 0, 1) := by decide +kernel
theorem dc_P_isFreeName_27 : decode bc_P_isFreeName 27 = .ok (.ireturn, 1) := by decide +kernel
theorem dc_P_wordHere_0 : decode bc_P_wordHere 0 = .ok (.aload_n 0, 1) := by decide +kernel
theorem dc_P_wordHere_1 : decode bc_P_wordHere 1 = .ok (.getfield 12, 3) := by decide +kernel
theorem dc_P_wordHere_4 : decode bc_P_wordHere 4 = .ok (.getfield 57, 3) := by decide +kernel
theorem dc_P_wordHere_7 : decode bc_P_wordHere 7 = .ok (.iconst 4, 1) := by decide +kernel
theorem dc_P_wordHere_8 : decode bc_P_wordHere 8 = .ok (.if_icmp .ne 13, 3) := by decide +kernel
theorem dc_P_wordHere_11 : decode bc_P_wordHere 11 = .ok (.aload_n 0, 1) := by decide +kernel
theorem dc_P_wordHere_12 : decode bc_P_wordHere 12 = .ok (.getfield 12, 3) := by decide +kernel
theorem dc_P_wordHere_15 : decode bc_P_wordHere 15 = .ok (.getfield 123, 3) := by decide +kernel
theorem dc_P_wordHere_18 : decode bc_P_wordHere 18 = .ok (.goto 4, 3) := by decide +kernel
theorem dc_P_wordHere_21 : decode bc_P_wordHere 21 = .ok (.iconst (-1), 1) := by decide +kernel
theorem dc_P_wordHere_22 : decode bc_P_wordHere 22 = .ok (.ireturn, 1) := by decide +kernel
theorem dc_P_setNodeName_0 : decode bc_P_setNodeName 0 = .ok (.aload_n 0, 1) := by decide +kernel
theorem dc_P_setNodeName_1 : decode bc_P_setNodeName 1 = .ok (.getfield 27, 3) := by decide +kernel
theorem dc_P_setNodeName_4 : decode bc_P_setNodeName 4 = .ok (.iload_n 1, 1) := by decide +kernel
theorem dc_P_setNodeName_5 : decode bc_P_setNodeName 5 = .ok (.iload_n 2, 1) := by decide +kernel
theorem dc_P_setNodeName_6 : decode bc_P_setNodeName 6 = .ok (.aload_n 0, 1) := by decide +kernel
theorem dc_P_setNodeName_7 : decode bc_P_setNodeName 7 = .ok (.getfield 12, 3) := by decide +kernel
theorem dc_P_setNodeName_10 : decode bc_P_setNodeName 10 = .ok (.getfield 144, 3) := by decide +kernel
theorem dc_P_setNodeName_13 : decode bc_P_setNodeName 13 = .ok (.invokevirtual 148, 3) := by decide +kernel
theorem dc_P_setNodeName_16 : decode bc_P_setNodeName 16 = .ok (.aload_n 0, 1) := by decide +kernel
theorem dc_P_setNodeName_17 : decode bc_P_setNodeName 17 = .ok (.getfield 27, 3) := by decide +kernel
theorem dc_P_setNodeName_20 : decode bc_P_setNodeName 20 = .ok (.iload_n 1, 1) := by decide +kernel
theorem dc_P_setNodeName_21 : decode bc_P_setNodeName 21 = .ok (.iconst 5, 1) := by decide +kernel
theorem dc_P_setNodeName_22 : decode bc_P_setNodeName 22 = .ok (.iload_n 2, 1) := by decide +kernel
theorem dc_P_setNodeName_23 : decode bc_P_setNodeName 23 = .ok (.iadd, 1) := by decide +kernel
theorem dc_P_setNodeName_24 : decode bc_P_setNodeName 24 = .ok (.aload_n 0, 1) := by decide +kernel
theorem dc_P_setNodeName_25 : decode bc_P_setNodeName 25 = .ok (.getfield 12, 3) := by decide +kernel
theorem dc_P_setNodeName_28 : decode bc_P_setNodeName 28 = .ok (.getfield 70, 3) := by decide +kernel
theorem dc_P_setNodeName_31 : decode bc_P_setNodeName 31 = .ok (.invokevirtual 133, 3) := by decide +kernel
theorem dc_P_setNodeName_34 : decode bc_P_setNodeName 34 = .ok (.return_, 1) := by decide +kernel
theorem dc_P_goOutTo_0 : decode bc_P_goOutTo 0 = .ok (.aload_n 0, 1) := by decide +kernel
theorem dc_P_goOutTo_1 : decode bc_P_goOutTo 1 = .ok (.iload_n 1, 1) := by decide +kernel
theorem dc_P_goOutTo_2 : decode bc_P_goOutTo 2 = .ok (.putfield 43, 3) := by decide +kernel
theorem dc_P_goOutTo_5 : decode bc_P_goOutTo 5 = .ok (.aload_n 0, 1) := by decide +kernel
theorem dc_P_goOutTo_6 : decode bc_P_goOutTo 6 = .ok (.iload_n 1, 1) := by decide +kernel
theorem dc_P_goOutTo_7 : decode bc_P_goOutTo 7 = .ok (.iconst (-1), 1) := by decide +kernel
theorem dc_P_goOutTo_8 : decode bc_P_goOutTo 8 = .ok (.if_icmp .ne 8, 3) := by decide +kernel
theorem dc_P_goOutTo_11 : decode bc_P_goOutTo 11 = .ok (.bipush 13, 2) := by decide +kernel
theorem dc_P_goOutTo_13 : decode bc_P_goOutTo 13 = .ok (.goto 5, 3) := by decide +kernel
theorem dc_P_goOutTo_16 : decode bc_P_goOutTo 16 = .ok (.bipush 12, 2) := by decide +kernel
theorem dc_P_goOutTo_18 : decode bc_P_goOutTo 18 = .ok (.putfield 37, 3) := by decide +kernel
theorem dc_P_goOutTo_21 : decode bc_P_goOutTo 21 = .ok (.return_, 1) := by decide +kernel
theorem dc_P_beginsC_0 : decode bc_P_beginsC 0 = .ok (.aload_n 0, 1) := by decide +kernel
theorem dc_P_beginsC_1 : decode bc_P_beginsC 1 = .ok (.getfield 12, 3) := by decide +kernel
theorem dc_P_beginsC_4 : decode bc_P_beginsC 4 = .ok (.getfield 57, 3) := by decide +kernel
theorem dc_P_beginsC_7 : decode bc_P_beginsC 7 = .ok (.iconst 2, 1) := by decide +kernel
theorem dc_P_beginsC_8 : decode bc_P_beginsC 8 = .ok (.if_icmp .eq 5, 3) := by decide +kernel
theorem dc_P_beginsC_11 : decode bc_P_beginsC 11 = .ok (.iconst 0, 1) := by decide +kernel
theorem dc_P_beginsC_12 : decode bc_P_beginsC 12 = .ok (.ireturn, 1) := by decide +kernel
theorem dc_P_beginsC_13 : decode bc_P_beginsC 13 = .ok (.aload_n 0, 1) := by decide +kernel
theorem dc_P_beginsC_14 : decode bc_P_beginsC 14 = .ok (.aload_n 0, 1) := by decide +kernel
theorem dc_P_beginsC_15 : decode bc_P_beginsC 15 = .ok (.iconst (-1), 1) := by decide +kernel
theorem dc_P_beginsC_16 : decode bc_P_beginsC 16 = .ok (.invokevirtual 211, 3) := by decide +kernel
theorem dc_P_beginsC_19 : decode bc_P_beginsC 19 = .ok (.putfield 43, 3) := by decide +kernel
theorem dc_P_beginsC_22 : decode bc_P_beginsC 22 = .ok (.aload_n 0, 1) := by decide +kernel
theorem dc_P_beginsC_23 : decode bc_P_beginsC 23 = .ok (.bipush 11, 2) := by decide +kernel
theorem dc_P_beginsC_25 : decode bc_P_beginsC 25 = .ok (.putfield 37, 3) := by decide +kernel
theorem dc_P_beginsC_28 : decode bc_P_beginsC 28 = .ok (.iconst 1, 1) := by decide +kernel
theorem dc_P_beginsC_29 : decode bc_P_beginsC 29 = .ok (.ireturn, 1) := by decide +kernel
theorem dc_P_endsNode_0 : decode bc_P_endsNode 0 = .ok (.aload_n 0, 1) := by decide +kernel
theorem dc_P_endsNode_1 : decode bc_P_endsNode 1 = .ok (.getfield 27, 3) := by decide +kernel
theorem dc_P_endsNode_4 : decode bc_P_endsNode 4 = .ok (.aload_n 0, 1) := by decide +kernel
theorem dc_P_endsNode_5 : decode bc_P_endsNode 5 = .ok (.getfield 43, 3) := by decide +kernel
theorem dc_P_endsNode_8 : decode bc_P_endsNode 8 = .ok (.iconst 2, 1) := by decide +kernel
theorem dc_P_endsNode_9 : decode bc_P_endsNode 9 = .ok (.aload_n 0, 1) := by decide +kernel
theorem dc_P_endsNode_10 : decode bc_P_endsNode 10 = .ok (.getfield 27, 3) := by decide +kernel
theorem dc_P_endsNode_13 : decode bc_P_endsNode 13 = .ok (.invokevirtual 129, 3) := by decide +kernel
theorem dc_P_endsNode_16 : decode bc_P_endsNode 16 = .ok (.aload_n 0, 1) := by decide +kernel
theorem dc_P_endsNode_17 : decode bc_P_endsNode 17 = .ok (.getfield 43, 3) := by decide +kernel
theorem dc_P_endsNode_20 : decode bc_P_endsNode 20 = .ok (.isub, 1) := by decide +kernel
theorem dc_P_endsNode_21 : decode bc_P_endsNode 21 = .ok (.invokevirtual 133, 3) := by decide +kernel
theorem dc_P_endsNode_24 : decode bc_P_endsNode 24 = .ok (.aload_n 0, 1) := by decide +kernel
theorem dc_P_endsNode_25 : decode bc_P_endsNode 25 = .ok (.aload_n 0, 1) := by decide +kernel
theorem dc_P_endsNode_26 : decode bc_P_endsNode 26 = .ok (.getfield 27, 3) := by decide +kernel
theorem dc_P_endsNode_29 : decode bc_P_endsNode 29 = .ok (.aload_n 0, 1) := by decide +kernel
theorem dc_P_endsNode_30 : decode bc_P_endsNode 30 = .ok (.getfield 43, 3) := by decide +kernel
theorem dc_P_endsNode_33 : decode bc_P_endsNode 33 = .ok (.iconst 4, 1) := by decide +kernel
theorem dc_P_endsNode_34 : decode bc_P_endsNode 34 = .ok (.invokevirtual 152, 3) := by decide +kernel
theorem dc_P_endsNode_37 : decode bc_P_endsNode 37 = .ok (.invokevirtual 221, 3) := by decide +kernel
theorem dc_P_endsNode_40 : decode bc_P_endsNode 40 = .ok (.iconst 1, 1) := by decide +kernel
theorem dc_P_endsNode_41 : decode bc_P_endsNode 41 = .ok (.ireturn, 1) := by decide +kernel
theorem dc_R_size_0 : decode bc_R_size 0 = .ok (.aload_n 0, 1) := by decide +kernel
theorem dc_R_size_1 : decode bc_R_size 1 = .ok (.getfield 9, 3) := by decide +kernel
theorem dc_R_size_4 : decode bc_R_size 4 = .ok (.ireturn, 1) := by decide +kernel
theorem dc_P_takesName_0 : decode bc_P_takesName 0 = .ok (.aload_n 0, 1) := by decide +kernel
theorem dc_P_takesName_1 : decode bc_P_takesName 1 = .ok (.invokevirtual 137, 3) := by decide +kernel
theorem dc_P_takesName_4 : decode bc_P_takesName 4 = .ok (.ifCond .ne 5, 3) := by decide +kernel
theorem dc_P_takesName_7 : decode bc_P_takesName 7 = .ok (.iconst 0, 1) := by decide +kernel
theorem dc_P_takesName_8 : decode bc_P_takesName 8 = .ok (.ireturn, 1) := by decide +kernel
theorem dc_P_takesName_9 : decode bc_P_takesName 9 = .ok (.aload_n 0, 1) := by decide +kernel
theorem dc_P_takesName_10 : decode bc_P_takesName 10 = .ok (.aload_n 0, 1) := by decide +kernel
theorem dc_P_takesName_11 : decode bc_P_takesName 11 = .ok (.getfield 43, 3) := by decide +kernel
theorem dc_P_takesName_14 : decode bc_P_takesName 14 = .ok (.iload_n 1, 1) := by decide +kernel
theorem dc_P_takesName_15 : decode bc_P_takesName 15 = .ok (.invokevirtual 208, 3) := by decide +kernel
theorem dc_P_takesName_18 : decode bc_P_takesName 18 = .ok (.aload_n 0, 1) := by decide +kernel
theorem dc_P_takesName_19 : decode bc_P_takesName 19 = .ok (.invokevirtual 205, 3) := by decide +kernel
theorem dc_P_takesName_22 : decode bc_P_takesName 22 = .ok (.iconst 1, 1) := by decide +kernel
theorem dc_P_takesName_23 : decode bc_P_takesName 23 = .ok (.ireturn, 1) := by decide +kernel
theorem dc_P_takesVariable_0 : decode bc_P_takesVariable 0 = .ok (.iload_n 1, 1) := by decide +kernel
theorem dc_P_takesVariable_1 : decode bc_P_takesVariable 1 = .ok (.iconst 1, 1) := by decide +kernel
theorem dc_P_takesVariable_2 : decode bc_P_takesVariable 2 = .ok (.if_icmp .ne 30, 3) := by decide +kernel
theorem dc_P_takesVariable_5 : decode bc_P_takesVariable 5 = .ok (.aload_n 0, 1) := by decide +kernel
theorem dc_P_takesVariable_6 : decode bc_P_takesVariable 6 = .ok (.getfield 12, 3) := by decide +kernel
theorem dc_P_takesVariable_9 : decode bc_P_takesVariable 9 = .ok (.getfield 144, 3) := by decide +kernel
theorem dc_P_takesVariable_12 : decode bc_P_takesVariable 12 = .ok (.aload_n 0, 1) := by decide +kernel
theorem dc_P_takesVariable_13 : decode bc_P_takesVariable 13 = .ok (.getfield 27, 3) := by decide +kernel
theorem dc_P_takesVariable_16 : decode bc_P_takesVariable 16 = .ok (.aload_n 0, 1) := by decide +kernel
theorem dc_P_takesVariable_17 : decode bc_P_takesVariable 17 = .ok (.getfield 43, 3) := by decide +kernel
theorem dc_P_takesVariable_20 : decode bc_P_takesVariable 20 = .ok (.iconst 0, 1) := by decide +kernel
theorem dc_P_takesVariable_21 : decode bc_P_takesVariable 21 = .ok (.invokevirtual 140, 3) := by decide +kernel
theorem dc_P_takesVariable_24 : decode bc_P_takesVariable 24 = .ok (.lcmp, 1) := by decide +kernel
theorem dc_P_takesVariable_25 : decode bc_P_takesVariable 25 = .ok (.ifCond .ne 7, 3) := by decide +kernel
theorem dc_P_takesVariable_28 : decode bc_P_takesVariable 28 = .ok (.iconst 1, 1) := by decide +kernel
theorem dc_P_takesVariable_29 : decode bc_P_takesVariable 29 = .ok (.goto 4, 3) := by decide +kernel
theorem dc_P_takesVariable_32 : decode bc_P_takesVariable 32 = .ok (.iconst 0, 1) := by decide +kernel
theorem dc_P_takesVariable_33 : decode bc_P_takesVariable 33 = .ok (.istore_n 2, 1) := by decide +kernel
theorem dc_P_takesVariable_34 : decode bc_P_takesVariable 34 = .ok (.aload_n 0, 1) := by decide +kernel
theorem dc_P_takesVariable_35 : decode bc_P_takesVariable 35 = .ok (.getfield 27, 3) := by decide +kernel
theorem dc_P_takesVariable_38 : decode bc_P_takesVariable 38 = .ok (.aload_n 0, 1) := by decide +kernel
theorem dc_P_takesVariable_39 : decode bc_P_takesVariable 39 = .ok (.getfield 43, 3) := by decide +kernel
theorem dc_P_takesVariable_42 : decode bc_P_takesVariable 42 = .ok (.bipush 7, 2) := by decide +kernel
theorem dc_P_takesVariable_44 : decode bc_P_takesVariable 44 = .ok (.invokevirtual 152, 3) := by decide +kernel
theorem dc_P_takesVariable_47 : decode bc_P_takesVariable 47 = .ok (.iload_n 1, 1) := by decide +kernel
theorem dc_P_takesVariable_48 : decode bc_P_takesVariable 48 = .ok (.iadd, 1) := by decide +kernel
theorem dc_P_takesVariable_49 : decode bc_P_takesVariable 49 = .ok (.bipush 24, 2) := by decide +kernel
theorem dc_P_takesVariable_51 : decode bc_P_takesVariable 51 = .ok (.if_icmp .ge 7, 3) := by decide +kernel
theorem dc_P_takesVariable_54 : decode bc_P_takesVariable 54 = .ok (.iconst 1, 1) := by decide +kernel
theorem dc_P_takesVariable_55 : decode bc_P_takesVariable 55 = .ok (.goto 4, 3) := by decide +kernel
theorem dc_P_takesVariable_58 : decode bc_P_takesVariable 58 = .ok (.iconst 0, 1) := by decide +kernel
theorem dc_P_takesVariable_59 : decode bc_P_takesVariable 59 = .ok (.istore_n 3, 1) := by decide +kernel
theorem dc_P_takesVariable_60 : decode bc_P_takesVariable 60 = .ok (.iload_n 3, 1) := by decide +kernel
theorem dc_P_takesVariable_61 : decode bc_P_takesVariable 61 = .ok (.ifCond .eq 19, 3) := by decide +kernel
theorem dc_P_takesVariable_64 : decode bc_P_takesVariable 64 = .ok (.iload_n 2, 1) := by decide +kernel
theorem dc_P_takesVariable_65 : decode bc_P_takesVariable 65 = .ok (.ifCond .ne 15, 3) := by decide +kernel
theorem dc_P_takesVariable_68 : decode bc_P_takesVariable 68 = .ok (.aload_n 0, 1) := by decide +kernel
theorem dc_P_takesVariable_69 : decode bc_P_takesVariable 69 = .ok (.iload_n 1, 1) := by decide +kernel
theorem dc_P_takesVariable_70 : decode bc_P_takesVariable 70 = .ok (.invokevirtual 196, 3) := by decide +kernel
theorem dc_P_takesVariable_73 : decode bc_P_takesVariable 73 = .ok (.ifCond .eq 7, 3) := by decide +kernel
theorem dc_P_takesVariable_76 : decode bc_P_takesVariable 76 = .ok (.iconst 1, 1) := by decide +kernel
theorem dc_P_takesVariable_77 : decode bc_P_takesVariable 77 = .ok (.goto 4, 3) := by decide +kernel
theorem dc_P_takesVariable_80 : decode bc_P_takesVariable 80 = .ok (.iconst 0, 1) := by decide +kernel
theorem dc_P_takesVariable_81 : decode bc_P_takesVariable 81 = .ok (.ireturn, 1) := by decide +kernel
theorem dc_R_nameAt_0 : decode bc_R_nameAt 0 = .ok (.iload_n 1, 1) := by decide +kernel
theorem dc_R_nameAt_1 : decode bc_R_nameAt 1 = .ok (.ifCond .lt 27, 3) := by decide +kernel
theorem dc_R_nameAt_4 : decode bc_R_nameAt 4 = .ok (.iload_n 1, 1) := by decide +kernel
theorem dc_R_nameAt_5 : decode bc_R_nameAt 5 = .ok (.aload_n 0, 1) := by decide +kernel
theorem dc_R_nameAt_6 : decode bc_R_nameAt 6 = .ok (.getfield 9, 3) := by decide +kernel
theorem dc_R_nameAt_9 : decode bc_R_nameAt 9 = .ok (.if_icmp .ge 19, 3) := by decide +kernel
theorem dc_R_nameAt_12 : decode bc_R_nameAt 12 = .ok (.iload_n 2, 1) := by decide +kernel
theorem dc_R_nameAt_13 : decode bc_R_nameAt 13 = .ok (.ifCond .lt 15, 3) := by decide +kernel
theorem dc_R_nameAt_16 : decode bc_R_nameAt 16 = .ok (.iload_n 2, 1) := by decide +kernel
theorem dc_R_nameAt_17 : decode bc_R_nameAt 17 = .ok (.aload_n 0, 1) := by decide +kernel
theorem dc_R_nameAt_18 : decode bc_R_nameAt 18 = .ok (.getfield 24, 3) := by decide +kernel
theorem dc_R_nameAt_21 : decode bc_R_nameAt 21 = .ok (.if_icmp .ge 7, 3) := by decide +kernel
theorem dc_R_nameAt_24 : decode bc_R_nameAt 24 = .ok (.iconst 1, 1) := by decide +kernel
theorem dc_R_nameAt_25 : decode bc_R_nameAt 25 = .ok (.goto 4, 3) := by decide +kernel
theorem dc_R_nameAt_28 : decode bc_R_nameAt 28 = .ok (.iconst 0, 1) := by decide +kernel
theorem dc_R_nameAt_29 : decode bc_R_nameAt 29 = .ok (.istore_n 3, 1) := by decide +kernel
theorem dc_R_nameAt_30 : decode bc_R_nameAt 30 = .ok (.iload_n 3, 1) := by decide +kernel
theorem dc_R_nameAt_31 : decode bc_R_nameAt 31 = .ok (.ifCond .eq 19, 3) := by decide +kernel
theorem dc_R_nameAt_34 : decode bc_R_nameAt 34 = .ok (.aload_n 0, 1) := by decide +kernel
theorem dc_R_nameAt_35 : decode bc_R_nameAt 35 = .ok (.getfield 31, 3) := by decide +kernel
theorem dc_R_nameAt_38 : decode bc_R_nameAt 38 = .ok (.iload_n 1, 1) := by decide +kernel
theorem dc_R_nameAt_39 : decode bc_R_nameAt 39 = .ok (.aload_n 0, 1) := by decide +kernel
theorem dc_R_nameAt_40 : decode bc_R_nameAt 40 = .ok (.getfield 24, 3) := by decide +kernel
theorem dc_R_nameAt_43 : decode bc_R_nameAt 43 = .ok (.imul, 1) := by decide +kernel
theorem dc_R_nameAt_44 : decode bc_R_nameAt 44 = .ok (.iload_n 2, 1) := by decide +kernel
theorem dc_R_nameAt_45 : decode bc_R_nameAt 45 = .ok (.iadd, 1) := by decide +kernel
theorem dc_R_nameAt_46 : decode bc_R_nameAt 46 = .ok (.laload, 1) := by decide +kernel
theorem dc_R_nameAt_47 : decode bc_R_nameAt 47 = .ok (.goto 4, 3) := by decide +kernel
theorem dc_R_nameAt_50 : decode bc_R_nameAt 50 = .ok (.lconst 0, 1) := by decide +kernel
theorem dc_R_nameAt_51 : decode bc_R_nameAt 51 = .ok (.lreturn, 1) := by decide +kernel
theorem dc_P_passesInside_0 : decode bc_P_passesInside 0 = .ok (.aload_n 0, 1) := by decide +kernel
theorem dc_P_passesInside_1 : decode bc_P_passesInside 1 = .ok (.getfield 12, 3) := by decide +kernel
theorem dc_P_passesInside_4 : decode bc_P_passesInside 4 = .ok (.getfield 57, 3) := by decide +kernel
theorem dc_P_passesInside_7 : decode bc_P_passesInside 7 = .ok (.iload_n 1, 1) := by decide +kernel
theorem dc_P_passesInside_8 : decode bc_P_passesInside 8 = .ok (.if_icmp .eq 5, 3) := by decide +kernel
theorem dc_P_passesInside_11 : decode bc_P_passesInside 11 = .ok (.iconst 0, 1) := by decide +kernel
theorem dc_P_passesInside_12 : decode bc_P_passesInside 12 = .ok (.ireturn, 1) := by decide +kernel
theorem dc_P_passesInside_13 : decode bc_P_passesInside 13 = .ok (.aload_n 0, 1) := by decide +kernel
theorem dc_P_passesInside_14 : decode bc_P_passesInside 14 = .ok (.invokevirtual 205, 3) := by decide +kernel
theorem dc_P_passesInside_17 : decode bc_P_passesInside 17 = .ok (.iconst 1, 1) := by decide +kernel
theorem dc_P_passesInside_18 : decode bc_P_passesInside 18 = .ok (.ireturn, 1) := by decide +kernel
theorem dc_P_takesOutside_0 : decode bc_P_takesOutside 0 = .ok (.aload_n 0, 1) := by decide +kernel
theorem dc_P_takesOutside_1 : decode bc_P_takesOutside 1 = .ok (.getfield 37, 3) := by decide +kernel
theorem dc_P_takesOutside_4 : decode bc_P_takesOutside 4 = .ok (.tableswitch 150 0 11 #[64, 69, 74, 79, 86, 91, 96, 101, 108, 113, 132, 141], 64) := by decide +kernel
theorem dc_P_takesOutside_68 : decode bc_P_takesOutside 68 = .ok (.aload_n 0, 1) := by decide +kernel
theorem dc_P_takesOutside_69 : decode bc_P_takesOutside 69 = .ok (.invokevirtual 79, 3) := by decide +kernel
theorem dc_P_takesOutside_72 : decode bc_P_takesOutside 72 = .ok (.ireturn, 1) := by decide +kernel
theorem dc_P_takesOutside_73 : decode bc_P_takesOutside 73 = .ok (.aload_n 0, 1) := by decide +kernel
theorem dc_P_takesOutside_74 : decode bc_P_takesOutside 74 = .ok (.invokevirtual 82, 3) := by decide +kernel
theorem dc_P_takesOutside_77 : decode bc_P_takesOutside 77 = .ok (.ireturn, 1) := by decide +kernel
theorem dc_P_takesOutside_78 : decode bc_P_takesOutside 78 = .ok (.aload_n 0, 1) := by decide +kernel
theorem dc_P_takesOutside_79 : decode bc_P_takesOutside 79 = .ok (.invokevirtual 85, 3) := by decide +kernel
theorem dc_P_takesOutside_82 : decode bc_P_takesOutside 82 = .ok (.ireturn, 1) := by decide +kernel
theorem dc_P_takesOutside_83 : decode bc_P_takesOutside 83 = .ok (.aload_n 0, 1) := by decide +kernel
theorem dc_P_takesOutside_84 : decode bc_P_takesOutside 84 = .ok (.iconst 2, 1) := by decide +kernel
theorem dc_P_takesOutside_85 : decode bc_P_takesOutside 85 = .ok (.iconst 4, 1) := by decide +kernel
theorem dc_P_takesOutside_86 : decode bc_P_takesOutside 86 = .ok (.invokevirtual 88, 3) := by decide +kernel
theorem dc_P_takesOutside_89 : decode bc_P_takesOutside 89 = .ok (.ireturn, 1) := by decide +kernel
theorem dc_P_takesOutside_90 : decode bc_P_takesOutside 90 = .ok (.aload_n 0, 1) := by decide +kernel
