theorem dc_X_init_0 : decode bc_X_init 0 = .ok (.aload_n 0, 1) := by decide +kernel
theorem dc_X_init_1 : decode bc_X_init 1 = .ok (.invokespecial 3, 3) := by decide +kernel
theorem dc_X_init_4 : decode bc_X_init 4 = .ok (.aload_n 0, 1) := by decide +kernel
theorem dc_X_init_5 : decode bc_X_init 5 = .ok (.new 9, 3) := by decide +kernel
theorem dc_X_init_8 : decode bc_X_init 8 = .ok (.dup, 1) := by decide +kernel
theorem dc_X_init_9 : decode bc_X_init 9 = .ok (.invokespecial 11, 3) := by decide +kernel
theorem dc_X_init_12 : decode bc_X_init 12 = .ok (.putfield 12, 3) := by decide +kernel
theorem dc_X_init_15 : decode bc_X_init 15 = .ok (.return_, 1) := by decide +kernel
theorem dc_P_init_0 : decode bc_P_init 0 = .ok (.aload_n 0, 1) := by decide +kernel
theorem dc_P_init_1 : decode bc_P_init 1 = .ok (.invokespecial 3, 3) := by decide +kernel
theorem dc_P_init_4 : decode bc_P_init 4 = .ok (.aload_n 0, 1) := by decide +kernel
theorem dc_P_init_5 : decode bc_P_init 5 = .ok (.new 9, 3) := by decide +kernel
theorem dc_P_init_8 : decode bc_P_init 8 = .ok (.dup, 1) := by decide +kernel
theorem dc_P_init_9 : decode bc_P_init 9 = .ok (.invokespecial 11, 3) := by decide +kernel
theorem dc_P_init_12 : decode bc_P_init 12 = .ok (.putfield 12, 3) := by decide +kernel
theorem dc_P_init_15 : decode bc_P_init 15 = .ok (.aload_n 0, 1) := by decide +kernel
theorem dc_P_init_16 : decode bc_P_init 16 = .ok (.new 18, 3) := by decide +kernel
theorem dc_P_init_19 : decode bc_P_init 19 = .ok (.dup, 1) := by decide +kernel
theorem dc_P_init_20 : decode bc_P_init 20 = .ok (.bipush 13, 2) := by decide +kernel
theorem dc_P_init_22 : decode bc_P_init 22 = .ok (.bipush 9, 2) := by decide +kernel
theorem dc_P_init_24 : decode bc_P_init 24 = .ok (.invokespecial 20, 3) := by decide +kernel
theorem dc_P_init_27 : decode bc_P_init 27 = .ok (.putfield 23, 3) := by decide +kernel
theorem dc_P_init_30 : decode bc_P_init 30 = .ok (.aload_n 0, 1) := by decide +kernel
theorem dc_P_init_31 : decode bc_P_init 31 = .ok (.new 18, 3) := by decide +kernel
theorem dc_P_init_34 : decode bc_P_init 34 = .ok (.dup, 1) := by decide +kernel
theorem dc_P_init_35 : decode bc_P_init 35 = .ok (.bipush 10, 2) := by decide +kernel
theorem dc_P_init_37 : decode bc_P_init 37 = .ok (.iconst 2, 1) := by decide +kernel
theorem dc_P_init_38 : decode bc_P_init 38 = .ok (.invokespecial 20, 3) := by decide +kernel
theorem dc_P_init_41 : decode bc_P_init 41 = .ok (.putfield 27, 3) := by decide +kernel
theorem dc_P_init_44 : decode bc_P_init 44 = .ok (.aload_n 0, 1) := by decide +kernel
theorem dc_P_init_45 : decode bc_P_init 45 = .ok (.iconst 0, 1) := by decide +kernel
theorem dc_P_init_46 : decode bc_P_init 46 = .ok (.putfield 30, 3) := by decide +kernel
theorem dc_P_init_49 : decode bc_P_init 49 = .ok (.aload_n 0, 1) := by decide +kernel
theorem dc_P_init_50 : decode bc_P_init 50 = .ok (.iconst (-1), 1) := by decide +kernel
theorem dc_P_init_51 : decode bc_P_init 51 = .ok (.putfield 34, 3) := by decide +kernel
theorem dc_P_init_54 : decode bc_P_init 54 = .ok (.aload_n 0, 1) := by decide +kernel
theorem dc_P_init_55 : decode bc_P_init 55 = .ok (.iconst 0, 1) := by decide +kernel
theorem dc_P_init_56 : decode bc_P_init 56 = .ok (.putfield 37, 3) := by decide +kernel
theorem dc_P_init_59 : decode bc_P_init 59 = .ok (.aload_n 0, 1) := by decide +kernel
theorem dc_P_init_60 : decode bc_P_init 60 = .ok (.iconst (-1), 1) := by decide +kernel
theorem dc_P_init_61 : decode bc_P_init 61 = .ok (.putfield 40, 3) := by decide +kernel
theorem dc_P_init_64 : decode bc_P_init 64 = .ok (.aload_n 0, 1) := by decide +kernel
theorem dc_P_init_65 : decode bc_P_init 65 = .ok (.iconst (-1), 1) := by decide +kernel
theorem dc_P_init_66 : decode bc_P_init 66 = .ok (.putfield 43, 3) := by decide +kernel
theorem dc_P_init_69 : decode bc_P_init 69 = .ok (.aload_n 0, 1) := by decide +kernel
theorem dc_P_init_70 : decode bc_P_init 70 = .ok (.bipush 46, 2) := by decide +kernel
theorem dc_P_init_72 : decode bc_P_init 72 = .ok (.putfield 46, 3) := by decide +kernel
theorem dc_P_init_75 : decode bc_P_init 75 = .ok (.return_, 1) := by decide +kernel
theorem dc_T_init_0 : decode bc_T_init 0 = .ok (.aload_n 0, 1) := by decide +kernel
theorem dc_T_init_1 : decode bc_T_init 1 = .ok (.invokespecial 3, 3) := by decide +kernel
theorem dc_T_init_4 : decode bc_T_init 4 = .ok (.aload_n 0, 1) := by decide +kernel
theorem dc_T_init_5 : decode bc_T_init 5 = .ok (.bipush 64, 2) := by decide +kernel
theorem dc_T_init_7 : decode bc_T_init 7 = .ok (.newarray .byte, 2) := by decide +kernel
theorem dc_T_init_9 : decode bc_T_init 9 = .ok (.putfield 11, 3) := by decide +kernel
theorem dc_T_init_12 : decode bc_T_init 12 = .ok (.aload_n 0, 1) := by decide +kernel
theorem dc_T_init_13 : decode bc_T_init 13 = .ok (.iconst 0, 1) := by decide +kernel
theorem dc_T_init_14 : decode bc_T_init 14 = .ok (.putfield 15, 3) := by decide +kernel
theorem dc_T_init_17 : decode bc_T_init 17 = .ok (.aload_n 0, 1) := by decide +kernel
theorem dc_T_init_18 : decode bc_T_init 18 = .ok (.iconst 0, 1) := by decide +kernel
theorem dc_T_init_19 : decode bc_T_init 19 = .ok (.putfield 19, 3) := by decide +kernel
theorem dc_T_init_22 : decode bc_T_init 22 = .ok (.aload_n 0, 1) := by decide +kernel
theorem dc_T_init_23 : decode bc_T_init 23 = .ok (.iconst 0, 1) := by decide +kernel
theorem dc_T_init_24 : decode bc_T_init 24 = .ok (.putfield 22, 3) := by decide +kernel
theorem dc_T_init_27 : decode bc_T_init 27 = .ok (.aload_n 0, 1) := by decide +kernel
theorem dc_T_init_28 : decode bc_T_init 28 = .ok (.iconst 0, 1) := by decide +kernel
theorem dc_T_init_29 : decode bc_T_init 29 = .ok (.putfield 25, 3) := by decide +kernel
theorem dc_T_init_32 : decode bc_T_init 32 = .ok (.aload_n 0, 1) := by decide +kernel
theorem dc_T_init_33 : decode bc_T_init 33 = .ok (.lconst 0, 1) := by decide +kernel
theorem dc_T_init_34 : decode bc_T_init 34 = .ok (.putfield 28, 3) := by decide +kernel
theorem dc_T_init_37 : decode bc_T_init 37 = .ok (.aload_n 0, 1) := by decide +kernel
theorem dc_T_init_38 : decode bc_T_init 38 = .ok (.iconst (-1), 1) := by decide +kernel
theorem dc_T_init_39 : decode bc_T_init 39 = .ok (.putfield 32, 3) := by decide +kernel
theorem dc_T_init_42 : decode bc_T_init 42 = .ok (.aload_n 0, 1) := by decide +kernel
theorem dc_T_init_43 : decode bc_T_init 43 = .ok (.iconst 0, 1) := by decide +kernel
theorem dc_T_init_44 : decode bc_T_init 44 = .ok (.putfield 35, 3) := by decide +kernel
theorem dc_T_init_47 : decode bc_T_init 47 = .ok (.return_, 1) := by decide +kernel
theorem dc_R_init_0 : decode bc_R_init 0 = .ok (.aload_n 0, 1) := by decide +kernel
theorem dc_R_init_1 : decode bc_R_init 1 = .ok (.invokespecial 3, 3) := by decide +kernel
theorem dc_R_init_4 : decode bc_R_init 4 = .ok (.aload_n 0, 1) := by decide +kernel
theorem dc_R_init_5 : decode bc_R_init 5 = .ok (.iconst 0, 1) := by decide +kernel
theorem dc_R_init_6 : decode bc_R_init 6 = .ok (.putfield 9, 3) := by decide +kernel
theorem dc_R_init_9 : decode bc_R_init 9 = .ok (.aload_n 0, 1) := by decide +kernel
theorem dc_R_init_10 : decode bc_R_init 10 = .ok (.iload_n 1, 1) := by decide +kernel
theorem dc_R_init_11 : decode bc_R_init 11 = .ok (.iconst 1, 1) := by decide +kernel
theorem dc_R_init_12 : decode bc_R_init 12 = .ok (.invokestatic 15, 3) := by decide +kernel
theorem dc_R_init_15 : decode bc_R_init 15 = .ok (.putfield 21, 3) := by decide +kernel
theorem dc_R_init_18 : decode bc_R_init 18 = .ok (.aload_n 0, 1) := by decide +kernel
theorem dc_R_init_19 : decode bc_R_init 19 = .ok (.iload_n 2, 1) := by decide +kernel
theorem dc_R_init_20 : decode bc_R_init 20 = .ok (.iconst 1, 1) := by decide +kernel
theorem dc_R_init_21 : decode bc_R_init 21 = .ok (.invokestatic 15, 3) := by decide +kernel
theorem dc_R_init_24 : decode bc_R_init 24 = .ok (.putfield 24, 3) := by decide +kernel
theorem dc_R_init_27 : decode bc_R_init 27 = .ok (.aload_n 0, 1) := by decide +kernel
theorem dc_R_init_28 : decode bc_R_init 28 = .ok (.iconst 4, 1) := by decide +kernel
theorem dc_R_init_29 : decode bc_R_init 29 = .ok (.aload_n 0, 1) := by decide +kernel
theorem dc_R_init_30 : decode bc_R_init 30 = .ok (.getfield 21, 3) := by decide +kernel
theorem dc_R_init_33 : decode bc_R_init 33 = .ok (.imul, 1) := by decide +kernel
theorem dc_R_init_34 : decode bc_R_init 34 = .ok (.newarray .int, 2) := by decide +kernel
theorem dc_R_init_36 : decode bc_R_init 36 = .ok (.putfield 27, 3) := by decide +kernel
theorem dc_R_init_39 : decode bc_R_init 39 = .ok (.aload_n 0, 1) := by decide +kernel
theorem dc_R_init_40 : decode bc_R_init 40 = .ok (.iconst 4, 1) := by decide +kernel
theorem dc_R_init_41 : decode bc_R_init 41 = .ok (.aload_n 0, 1) := by decide +kernel
theorem dc_R_init_42 : decode bc_R_init 42 = .ok (.getfield 24, 3) := by decide +kernel
theorem dc_R_init_45 : decode bc_R_init 45 = .ok (.imul, 1) := by decide +kernel
theorem dc_R_init_46 : decode bc_R_init 46 = .ok (.newarray .long, 2) := by decide +kernel
theorem dc_R_init_48 : decode bc_R_init 48 = .ok (.putfield 31, 3) := by decide +kernel
theorem dc_R_init_51 : decode bc_R_init 51 = .ok (.return_, 1) := by decide +kernel
theorem dc_Jm_max_0 : decode bc_Jm_max 0 = .ok (.iload_n 0, 1) := by decide +kernel
theorem dc_Jm_max_1 : decode bc_Jm_max 1 = .ok (.iload_n 1, 1) := by decide +kernel
theorem dc_Jm_max_2 : decode bc_Jm_max 2 = .ok (.if_icmp .lt 7, 3) := by decide +kernel
theorem dc_Jm_max_5 : decode bc_Jm_max 5 = .ok (.iload_n 0, 1) := by decide +kernel
theorem dc_Jm_max_6 : decode bc_Jm_max 6 = .ok (.goto 4, 3) := by decide +kernel
theorem dc_Jm_max_9 : decode bc_Jm_max 9 = .ok (.iload_n 1, 1) := by decide +kernel
theorem dc_Jm_max_10 : decode bc_Jm_max 10 = .ok (.ireturn, 1) := by decide +kernel
theorem dc_X_give_0 : decode bc_X_give 0 = .ok (.aload_n 0, 1) := by decide +kernel
theorem dc_X_give_1 : decode bc_X_give 1 = .ok (.getfield 12, 3) := by decide +kernel
theorem dc_X_give_4 : decode bc_X_give 4 = .ok (.getfield 16, 3) := by decide +kernel
theorem dc_X_give_7 : decode bc_X_give 7 = .ok (.lload_n 1, 1) := by decide +kernel
theorem dc_X_give_8 : decode bc_X_give 8 = .ok (.iload_n 3, 1) := by decide +kernel
theorem dc_X_give_9 : decode bc_X_give 9 = .ok (.invokevirtual 20, 3) := by decide +kernel
theorem dc_X_give_12 : decode bc_X_give 12 = .ok (.ireturn, 1) := by decide +kernel
theorem dc_T_append_0 : decode bc_T_append 0 = .ok (.iload_n 3, 1) := by decide +kernel
theorem dc_T_append_1 : decode bc_T_append 1 = .ok (.iconst 1, 1) := by decide +kernel
theorem dc_T_append_2 : decode bc_T_append 2 = .ok (.if_icmp .lt 21, 3) := by decide +kernel
theorem dc_T_append_5 : decode bc_T_append 5 = .ok (.iload_n 3, 1) := by decide +kernel
theorem dc_T_append_6 : decode bc_T_append 6 = .ok (.bipush 8, 2) := by decide +kernel
theorem dc_T_append_8 : decode bc_T_append 8 = .ok (.if_icmp .gt 15, 3) := by decide +kernel
theorem dc_T_append_11 : decode bc_T_append 11 = .ok (.iload_n 3, 1) := by decide +kernel
theorem dc_T_append_12 : decode bc_T_append 12 = .ok (.sipush 8192, 3) := by decide +kernel
theorem dc_T_append_15 : decode bc_T_append 15 = .ok (.aload_n 0, 1) := by decide +kernel
theorem dc_T_append_16 : decode bc_T_append 16 = .ok (.getfield 15, 3) := by decide +kernel
theorem dc_T_append_19 : decode bc_T_append 19 = .ok (.isub, 1) := by decide +kernel
theorem dc_T_append_20 : decode bc_T_append 20 = .ok (.if_icmp .le 5, 3) := by decide +kernel
theorem dc_T_append_23 : decode bc_T_append 23 = .ok (.iconst 0, 1) := by decide +kernel
theorem dc_T_append_24 : decode bc_T_append 24 = .ok (.ireturn, 1) := by decide +kernel
theorem dc_T_append_25 : decode bc_T_append 25 = .ok (.aload_n 0, 1) := by decide +kernel
theorem dc_T_append_26 : decode bc_T_append 26 = .ok (.getfield 15, 3) := by decide +kernel
theorem dc_T_append_29 : decode bc_T_append 29 = .ok (.iload_n 3, 1) := by decide +kernel
theorem dc_T_append_30 : decode bc_T_append 30 = .ok (.iadd, 1) := by decide +kernel
theorem dc_T_append_31 : decode bc_T_append 31 = .ok (.aload_n 0, 1) := by decide +kernel
theorem dc_T_append_32 : decode bc_T_append 32 = .ok (.getfield 11, 3) := by decide +kernel
theorem dc_T_append_35 : decode bc_T_append 35 = .ok (.arraylength, 1) := by decide +kernel
theorem dc_T_append_36 : decode bc_T_append 36 = .ok (.if_icmp .le 21, 3) := by decide +kernel
theorem dc_T_append_39 : decode bc_T_append 39 = .ok (.aload_n 0, 1) := by decide +kernel
theorem dc_T_append_40 : decode bc_T_append 40 = .ok (.aload_n 0, 1) := by decide +kernel
theorem dc_T_append_41 : decode bc_T_append 41 = .ok (.getfield 11, 3) := by decide +kernel
theorem dc_T_append_44 : decode bc_T_append 44 = .ok (.iconst 2, 1) := by decide +kernel
theorem dc_T_append_45 : decode bc_T_append 45 = .ok (.aload_n 0, 1) := by decide +kernel
theorem dc_T_append_46 : decode bc_T_append 46 = .ok (.getfield 11, 3) := by decide +kernel
theorem dc_T_append_49 : decode bc_T_append 49 = .ok (.arraylength, 1) := by decide +kernel
theorem dc_T_append_50 : decode bc_T_append 50 = .ok (.imul, 1) := by decide +kernel
theorem dc_T_append_51 : decode bc_T_append 51 = .ok (.invokestatic 38, 3) := by decide +kernel
theorem dc_T_append_54 : decode bc_T_append 54 = .ok (.putfield 11, 3) := by decide +kernel
theorem dc_T_append_57 : decode bc_T_append 57 = .ok (.iload_n 3, 1) := by decide +kernel
theorem dc_T_append_58 : decode bc_T_append 58 = .ok (.iconst 1, 1) := by decide +kernel
theorem dc_T_append_59 : decode bc_T_append 59 = .ok (.isub, 1) := by decide +kernel
theorem dc_T_append_60 : decode bc_T_append 60 = .ok (.istore 4, 2) := by decide +kernel
theorem dc_T_append_62 : decode bc_T_append 62 = .ok (.iload 4, 2) := by decide +kernel
theorem dc_T_append_64 : decode bc_T_append 64 = .ok (.ifCond .lt 37, 3) := by decide +kernel
theorem dc_T_append_67 : decode bc_T_append 67 = .ok (.aload_n 0, 1) := by decide +kernel
theorem dc_T_append_68 : decode bc_T_append 68 = .ok (.getfield 11, 3) := by decide +kernel
theorem dc_T_append_71 : decode bc_T_append 71 = .ok (.aload_n 0, 1) := by decide +kernel
theorem dc_T_append_72 : decode bc_T_append 72 = .ok (.getfield 15, 3) := by decide +kernel
theorem dc_T_append_75 : decode bc_T_append 75 = .ok (.lload_n 1, 1) := by decide +kernel
theorem dc_T_append_76 : decode bc_T_append 76 = .ok (.bipush 8, 2) := by decide +kernel
theorem dc_T_append_78 : decode bc_T_append 78 = .ok (.iload 4, 2) := by decide +kernel
theorem dc_T_append_80 : decode bc_T_append 80 = .ok (.imul, 1) := by decide +kernel
theorem dc_T_append_81 : decode bc_T_append 81 = .ok (.lushr, 1) := by decide +kernel
theorem dc_T_append_82 : decode bc_T_append 82 = .ok (.l2i, 1) := by decide +kernel
theorem dc_T_append_83 : decode bc_T_append 83 = .ok (.i2b, 1) := by decide +kernel
theorem dc_T_append_84 : decode bc_T_append 84 = .ok (.bastore, 1) := by decide +kernel
theorem dc_T_append_85 : decode bc_T_append 85 = .ok (.aload_n 0, 1) := by decide +kernel
theorem dc_T_append_86 : decode bc_T_append 86 = .ok (.dup, 1) := by decide +kernel
theorem dc_T_append_87 : decode bc_T_append 87 = .ok (.getfield 15, 3) := by decide +kernel
theorem dc_T_append_90 : decode bc_T_append 90 = .ok (.iconst 1, 1) := by decide +kernel
theorem dc_T_append_91 : decode bc_T_append 91 = .ok (.iadd, 1) := by decide +kernel
theorem dc_T_append_92 : decode bc_T_append 92 = .ok (.putfield 15, 3) := by decide +kernel
theorem dc_T_append_95 : decode bc_T_append 95 = .ok (.iinc 4 (-1), 3) := by decide +kernel
theorem dc_T_append_98 : decode bc_T_append 98 = .ok (.goto (-36), 3) := by decide +kernel
theorem dc_T_append_101 : decode bc_T_append 101 = .ok (.iconst 1, 1) := by decide +kernel
theorem dc_T_append_102 : decode bc_T_append 102 = .ok (.ireturn, 1) := by decide +kernel
theorem dc_Ja_copyOf_bIb_0 : decode bc_Ja_copyOf_bIb 0 = .ok (.iload_n 1, 1) := by decide +kernel
theorem dc_Ja_copyOf_bIb_1 : decode bc_Ja_copyOf_bIb 1 = .ok (.aload_n 0, 1) := by decide +kernel
theorem dc_Ja_copyOf_bIb_2 : decode bc_Ja_copyOf_bIb 2 = .ok (.arraylength, 1) := by decide +kernel
theorem dc_Ja_copyOf_bIb_3 : decode bc_Ja_copyOf_bIb 3 = .ok (.if_icmp .ne 11, 3) := by decide +kernel
theorem dc_Ja_copyOf_bIb_6 : decode bc_Ja_copyOf_bIb 6 = .ok (.aload_n 0, 1) := by decide +kernel
theorem dc_Ja_copyOf_bIb_7 : decode bc_Ja_copyOf_bIb 7 = .ok (.invokevirtual 310, 3) := by decide +kernel
theorem dc_Ja_copyOf_bIb_10 : decode bc_Ja_copyOf_bIb 10 = .ok (.checkcast 311, 3) := by decide +kernel
theorem dc_Ja_copyOf_bIb_13 : decode bc_Ja_copyOf_bIb 13 = .ok (.areturn, 1) := by decide +kernel
theorem dc_Ja_copyOf_bIb_14 : decode bc_Ja_copyOf_bIb 14 = .ok (.iload_n 1, 1) := by decide +kernel
theorem dc_Ja_copyOf_bIb_15 : decode bc_Ja_copyOf_bIb 15 = .ok (.newarray .byte, 2) := by decide +kernel
theorem dc_Ja_copyOf_bIb_17 : decode bc_Ja_copyOf_bIb 17 = .ok (.astore_n 2, 1) := by decide +kernel
theorem dc_Ja_copyOf_bIb_18 : decode bc_Ja_copyOf_bIb 18 = .ok (.aload_n 0, 1) := by decide +kernel
theorem dc_Ja_copyOf_bIb_19 : decode bc_Ja_copyOf_bIb 19 = .ok (.iconst 0, 1) := by decide +kernel
theorem dc_Ja_copyOf_bIb_20 : decode bc_Ja_copyOf_bIb 20 = .ok (.aload_n 2, 1) := by decide +kernel
theorem dc_Ja_copyOf_bIb_21 : decode bc_Ja_copyOf_bIb 21 = .ok (.iconst 0, 1) := by decide +kernel
theorem dc_Ja_copyOf_bIb_22 : decode bc_Ja_copyOf_bIb 22 = .ok (.aload_n 0, 1) := by decide +kernel
theorem dc_Ja_copyOf_bIb_23 : decode bc_Ja_copyOf_bIb 23 = .ok (.arraylength, 1) := by decide +kernel
theorem dc_Ja_copyOf_bIb_24 : decode bc_Ja_copyOf_bIb 24 = .ok (.iload_n 1, 1) := by decide +kernel
theorem dc_Ja_copyOf_bIb_25 : decode bc_Ja_copyOf_bIb 25 = .ok (.invokestatic 304, 3) := by decide +kernel
theorem dc_Ja_copyOf_bIb_28 : decode bc_Ja_copyOf_bIb 28 = .ok (.invokestatic 150, 3) := by decide +kernel
theorem dc_Ja_copyOf_bIb_31 : decode bc_Ja_copyOf_bIb 31 = .ok (.aload_n 2, 1) := by decide +kernel
theorem dc_Ja_copyOf_bIb_32 : decode bc_Ja_copyOf_bIb 32 = .ok (.areturn, 1) := by decide +kernel
theorem dc_Jm_min_0 : decode bc_Jm_min 0 = .ok (.iload_n 0, 1) := by decide +kernel
theorem dc_Jm_min_1 : decode bc_Jm_min 1 = .ok (.iload_n 1, 1) := by decide +kernel
theorem dc_Jm_min_2 : decode bc_Jm_min 2 = .ok (.if_icmp .gt 7, 3) := by decide +kernel
theorem dc_Jm_min_5 : decode bc_Jm_min 5 = .ok (.iload_n 0, 1) := by decide +kernel
theorem dc_Jm_min_6 : decode bc_Jm_min 6 = .ok (.goto 4, 3) := by decide +kernel
theorem dc_Jm_min_9 : decode bc_Jm_min 9 = .ok (.iload_n 1, 1) := by decide +kernel
theorem dc_Jm_min_10 : decode bc_Jm_min 10 = .ok (.ireturn, 1) := by decide +kernel
theorem dc_X_wipe_0 : decode bc_X_wipe 0 = .ok (.aload_n 0, 1) := by decide +kernel
theorem dc_X_wipe_1 : decode bc_X_wipe 1 = .ok (.getfield 12, 3) := by decide +kernel
theorem dc_X_wipe_4 : decode bc_X_wipe 4 = .ok (.getfield 16, 3) := by decide +kernel
theorem dc_X_wipe_7 : decode bc_X_wipe 7 = .ok (.invokevirtual 26, 3) := by decide +kernel
theorem dc_X_wipe_10 : decode bc_X_wipe 10 = .ok (.return_, 1) := by decide +kernel
theorem dc_T_clear_0 : decode bc_T_clear 0 = .ok (.aload_n 0, 1) := by decide +kernel
theorem dc_T_clear_1 : decode bc_T_clear 1 = .ok (.iconst 0, 1) := by decide +kernel
theorem dc_T_clear_2 : decode bc_T_clear 2 = .ok (.putfield 15, 3) := by decide +kernel
theorem dc_T_clear_5 : decode bc_T_clear 5 = .ok (.return_, 1) := by decide +kernel
theorem dc_X_read_0 : decode bc_X_read 0 = .ok (.aload_n 0, 1) := by decide +kernel
theorem dc_X_read_1 : decode bc_X_read 1 = .ok (.getfield 12, 3) := by decide +kernel
theorem dc_X_read_4 : decode bc_X_read 4 = .ok (.invokevirtual 29, 3) := by decide +kernel
theorem dc_X_read_7 : decode bc_X_read 7 = .ok (.ireturn, 1) := by decide +kernel
theorem dc_P_parse_0 : decode bc_P_parse 0 = .ok (.aload_n 0, 1) := by decide +kernel
theorem dc_P_parse_1 : decode bc_P_parse 1 = .ok (.invokevirtual 50, 3) := by decide +kernel
theorem dc_P_parse_4 : decode bc_P_parse 4 = .ok (.aload_n 0, 1) := by decide +kernel
theorem dc_P_parse_5 : decode bc_P_parse 5 = .ok (.getfield 12, 3) := by decide +kernel
theorem dc_P_parse_8 : decode bc_P_parse 8 = .ok (.invokevirtual 53, 3) := by decide +kernel
theorem dc_P_parse_11 : decode bc_P_parse 11 = .ok (.istore_n 1, 1) := by decide +kernel
theorem dc_P_parse_12 : decode bc_P_parse 12 = .ok (.iload_n 1, 1) := by decide +kernel
theorem dc_P_parse_13 : decode bc_P_parse 13 = .ok (.ifCond .le 86, 3) := by decide +kernel
theorem dc_P_parse_16 : decode bc_P_parse 16 = .ok (.aload_n 0, 1) := by decide +kernel
theorem dc_P_parse_17 : decode bc_P_parse 17 = .ok (.getfield 30, 3) := by decide +kernel
theorem dc_P_parse_20 : decode bc_P_parse 20 = .ok (.ifCond .ne 79, 3) := by decide +kernel
theorem dc_P_parse_23 : decode bc_P_parse 23 = .ok (.aload_n 0, 1) := by decide +kernel
theorem dc_P_parse_24 : decode bc_P_parse 24 = .ok (.getfield 12, 3) := by decide +kernel
theorem dc_P_parse_27 : decode bc_P_parse 27 = .ok (.getfield 57, 3) := by decide +kernel
theorem dc_P_parse_30 : decode bc_P_parse 30 = .ok (.ifCond .eq 69, 3) := by decide +kernel
theorem dc_P_parse_33 : decode bc_P_parse 33 = .ok (.aload_n 0, 1) := by decide +kernel
theorem dc_P_parse_34 : decode bc_P_parse 34 = .ok (.getfield 12, 3) := by decide +kernel
theorem dc_P_parse_37 : decode bc_P_parse 37 = .ok (.getfield 57, 3) := by decide +kernel
theorem dc_P_parse_40 : decode bc_P_parse 40 = .ok (.iconst 1, 1) := by decide +kernel
theorem dc_P_parse_41 : decode bc_P_parse 41 = .ok (.if_icmp .ne 11, 3) := by decide +kernel
theorem dc_P_parse_44 : decode bc_P_parse 44 = .ok (.aload_n 0, 1) := by decide +kernel
theorem dc_P_parse_45 : decode bc_P_parse 45 = .ok (.iconst 1, 1) := by decide +kernel
theorem dc_P_parse_46 : decode bc_P_parse 46 = .ok (.putfield 30, 3) := by decide +kernel
theorem dc_P_parse_49 : decode bc_P_parse 49 = .ok (.goto 44, 3) := by decide +kernel
theorem dc_P_parse_52 : decode bc_P_parse 52 = .ok (.aload_n 0, 1) := by decide +kernel
theorem dc_P_parse_53 : decode bc_P_parse 53 = .ok (.getfield 37, 3) := by decide +kernel
theorem dc_P_parse_56 : decode bc_P_parse 56 = .ok (.bipush 12, 2) := by decide +kernel
theorem dc_P_parse_58 : decode bc_P_parse 58 = .ok (.if_icmp .ne 13, 3) := by decide +kernel
theorem dc_P_parse_61 : decode bc_P_parse 61 = .ok (.aload_n 0, 1) := by decide +kernel
theorem dc_P_parse_62 : decode bc_P_parse 62 = .ok (.invokevirtual 60, 3) := by decide +kernel
theorem dc_P_parse_65 : decode bc_P_parse 65 = .ok (.ifCond .eq 23, 3) := by decide +kernel
theorem dc_P_parse_68 : decode bc_P_parse 68 = .ok (.goto 10, 3) := by decide +kernel
theorem dc_P_parse_71 : decode bc_P_parse 71 = .ok (.aload_n 0, 1) := by decide +kernel
theorem dc_P_parse_72 : decode bc_P_parse 72 = .ok (.invokevirtual 64, 3) := by decide +kernel
theorem dc_P_parse_75 : decode bc_P_parse 75 = .ok (.ifCond .eq 13, 3) := by decide +kernel
theorem dc_P_parse_78 : decode bc_P_parse 78 = .ok (.aload_n 0, 1) := by decide +kernel
theorem dc_P_parse_79 : decode bc_P_parse 79 = .ok (.getfield 12, 3) := by decide +kernel
theorem dc_P_parse_82 : decode bc_P_parse 82 = .ok (.invokevirtual 67, 3) := by decide +kernel
theorem dc_P_parse_85 : decode bc_P_parse 85 = .ok (.goto 8, 3) := by decide +kernel
theorem dc_P_parse_88 : decode bc_P_parse 88 = .ok (.aload_n 0, 1) := by decide +kernel
theorem dc_P_parse_89 : decode bc_P_parse 89 = .ok (.iconst 2, 1) := by decide +kernel
theorem dc_P_parse_90 : decode bc_P_parse 90 = .ok (.putfield 30, 3) := by decide +kernel
theorem dc_P_parse_93 : decode bc_P_parse 93 = .ok (.iinc 1 (-1), 3) := by decide +kernel
theorem dc_P_parse_96 : decode bc_P_parse 96 = .ok (.goto (-84), 3) := by decide +kernel
theorem dc_P_parse_99 : decode bc_P_parse 99 = .ok (.aload_n 0, 1) := by decide +kernel
theorem dc_P_parse_100 : decode bc_P_parse 100 = .ok (.getfield 30, 3) := by decide +kernel
theorem dc_P_parse_103 : decode bc_P_parse 103 = .ok (.ifCond .ne 15, 3) := by decide +kernel
theorem dc_P_parse_106 : decode bc_P_parse 106 = .ok (.aload_n 0, 1) := by decide +kernel
theorem dc_P_parse_107 : decode bc_P_parse 107 = .ok (.getfield 37, 3) := by decide +kernel
theorem dc_P_parse_110 : decode bc_P_parse 110 = .ok (.ifCond .eq 8, 3) := by decide +kernel
theorem dc_P_parse_113 : decode bc_P_parse 113 = .ok (.aload_n 0, 1) := by decide +kernel
theorem dc_P_parse_114 : decode bc_P_parse 114 = .ok (.iconst 3, 1) := by decide +kernel
theorem dc_P_parse_115 : decode bc_P_parse 115 = .ok (.putfield 30, 3) := by decide +kernel
theorem dc_P_parse_118 : decode bc_P_parse 118 = .ok (.aload_n 0, 1) := by decide +kernel
theorem dc_P_parse_119 : decode bc_P_parse 119 = .ok (.getfield 30, 3) := by decide +kernel
theorem dc_P_parse_122 : decode bc_P_parse 122 = .ok (.ifCond .eq 28, 3) := by decide +kernel
theorem dc_P_parse_125 : decode bc_P_parse 125 = .ok (.aload_n 0, 1) := by decide +kernel
theorem dc_P_parse_126 : decode bc_P_parse 126 = .ok (.aload_n 0, 1) := by decide +kernel
theorem dc_P_parse_127 : decode bc_P_parse 127 = .ok (.getfield 12, 3) := by decide +kernel
theorem dc_P_parse_130 : decode bc_P_parse 130 = .ok (.getfield 70, 3) := by decide +kernel
theorem dc_P_parse_133 : decode bc_P_parse 133 = .ok (.putfield 34, 3) := by decide +kernel
theorem dc_P_parse_136 : decode bc_P_parse 136 = .ok (.aload_n 0, 1) := by decide +kernel
theorem dc_P_parse_137 : decode bc_P_parse 137 = .ok (.getfield 23, 3) := by decide +kernel
theorem dc_P_parse_140 : decode bc_P_parse 140 = .ok (.invokevirtual 73, 3) := by decide +kernel
theorem dc_P_parse_143 : decode bc_P_parse 143 = .ok (.aload_n 0, 1) := by decide +kernel
theorem dc_P_parse_144 : decode bc_P_parse 144 = .ok (.getfield 27, 3) := by decide +kernel
theorem dc_P_parse_147 : decode bc_P_parse 147 = .ok (.invokevirtual 73, 3) := by decide +kernel
theorem dc_P_parse_150 : decode bc_P_parse 150 = .ok (.aload_n 0, 1) := by decide +kernel
theorem dc_P_parse_151 : decode bc_P_parse 151 = .ok (.getfield 30, 3) := by decide +kernel
theorem dc_P_parse_154 : decode bc_P_parse 154 = .ok (.ireturn, 1) := by decide +kernel
theorem dc_P_start_0 : decode bc_P_start 0 = .ok (.aload_n 0, 1) := by decide +kernel
theorem dc_P_start_1 : decode bc_P_start 1 = .ok (.getfield 23, 3) := by decide +kernel
theorem dc_P_start_4 : decode bc_P_start 4 = .ok (.invokevirtual 73, 3) := by decide +kernel
theorem dc_P_start_7 : decode bc_P_start 7 = .ok (.aload_n 0, 1) := by decide +kernel
theorem dc_P_start_8 : decode bc_P_start 8 = .ok (.getfield 27, 3) := by decide +kernel
theorem dc_P_start_11 : decode bc_P_start 11 = .ok (.invokevirtual 73, 3) := by decide +kernel
theorem dc_P_start_14 : decode bc_P_start 14 = .ok (.aload_n 0, 1) := by decide +kernel
theorem dc_P_start_15 : decode bc_P_start 15 = .ok (.iconst 0, 1) := by decide +kernel
theorem dc_P_start_16 : decode bc_P_start 16 = .ok (.putfield 37, 3) := by decide +kernel
theorem dc_P_start_19 : decode bc_P_start 19 = .ok (.aload_n 0, 1) := by decide +kernel
theorem dc_P_start_20 : decode bc_P_start 20 = .ok (.iconst (-1), 1) := by decide +kernel
theorem dc_P_start_21 : decode bc_P_start 21 = .ok (.putfield 40, 3) := by decide +kernel
theorem dc_P_start_24 : decode bc_P_start 24 = .ok (.aload_n 0, 1) := by decide +kernel
theorem dc_P_start_25 : decode bc_P_start 25 = .ok (.iconst (-1), 1) := by decide +kernel
theorem dc_P_start_26 : decode bc_P_start 26 = .ok (.putfield 43, 3) := by decide +kernel
theorem dc_P_start_29 : decode bc_P_start 29 = .ok (.aload_n 0, 1) := by decide +kernel
theorem dc_P_start_30 : decode bc_P_start 30 = .ok (.iconst 0, 1) := by decide +kernel
theorem dc_P_start_31 : decode bc_P_start 31 = .ok (.putfield 30, 3) := by decide +kernel
theorem dc_P_start_34 : decode bc_P_start 34 = .ok (.aload_n 0, 1) := by decide +kernel
theorem dc_P_start_35 : decode bc_P_start 35 = .ok (.iconst (-1), 1) := by decide +kernel
theorem dc_P_start_36 : decode bc_P_start 36 = .ok (.putfield 34, 3) := by decide +kernel
theorem dc_P_start_39 : decode bc_P_start 39 = .ok (.aload_n 0, 1) := by decide +kernel
theorem dc_P_start_40 : decode bc_P_start 40 = .ok (.getfield 12, 3) := by decide +kernel
theorem dc_P_start_43 : decode bc_P_start 43 = .ok (.invokevirtual 76, 3) := by decide +kernel
theorem dc_P_start_46 : decode bc_P_start 46 = .ok (.return_, 1) := by decide +kernel
theorem dc_R_clear_0 : decode bc_R_clear 0 = .ok (.aload_n 0, 1) := by decide +kernel
theorem dc_R_clear_1 : decode bc_R_clear 1 = .ok (.iconst 0, 1) := by decide +kernel
theorem dc_R_clear_2 : decode bc_R_clear 2 = .ok (.putfield 9, 3) := by decide +kernel
theorem dc_R_clear_5 : decode bc_R_clear 5 = .ok (.return_, 1) := by decide +kernel
theorem dc_T_toFirstToken_0 : decode bc_T_toFirstToken 0 = .ok (.aload_n 0, 1) := by decide +kernel
theorem dc_T_toFirstToken_1 : decode bc_T_toFirstToken 1 = .ok (.iconst 0, 1) := by decide +kernel
theorem dc_T_toFirstToken_2 : decode bc_T_toFirstToken 2 = .ok (.putfield 19, 3) := by decide +kernel
theorem dc_T_toFirstToken_5 : decode bc_T_toFirstToken 5 = .ok (.aload_n 0, 1) := by decide +kernel
theorem dc_T_toFirstToken_6 : decode bc_T_toFirstToken 6 = .ok (.invokevirtual 44, 3) := by decide +kernel
theorem dc_T_toFirstToken_9 : decode bc_T_toFirstToken 9 = .ok (.return_, 1) := by decide +kernel
theorem dc_T_toNextToken_0 : decode bc_T_toNextToken 0 = .ok (.aload_n 0, 1) := by decide +kernel
theorem dc_T_toNextToken_1 : decode bc_T_toNextToken 1 = .ok (.getfield 19, 3) := by decide +kernel
theorem dc_T_toNextToken_4 : decode bc_T_toNextToken 4 = .ok (.aload_n 0, 1) := by decide +kernel
theorem dc_T_toNextToken_5 : decode bc_T_toNextToken 5 = .ok (.getfield 15, 3) := by decide +kernel
theorem dc_T_toNextToken_8 : decode bc_T_toNextToken 8 = .ok (.if_icmp .ge 30, 3) := by decide +kernel
theorem dc_T_toNextToken_11 : decode bc_T_toNextToken 11 = .ok (.aload_n 0, 1) := by decide +kernel
theorem dc_T_toNextToken_12 : decode bc_T_toNextToken 12 = .ok (.aload_n 0, 1) := by decide +kernel
theorem dc_T_toNextToken_13 : decode bc_T_toNextToken 13 = .ok (.getfield 19, 3) := by decide +kernel
theorem dc_T_toNextToken_16 : decode bc_T_toNextToken 16 = .ok (.invokevirtual 47, 3) := by decide +kernel
theorem dc_T_toNextToken_19 : decode bc_T_toNextToken 19 = .ok (.invokestatic 51, 3) := by decide +kernel
theorem dc_T_toNextToken_22 : decode bc_T_toNextToken 22 = .ok (.ifCond .eq 16, 3) := by decide +kernel
theorem dc_T_toNextToken_25 : decode bc_T_toNextToken 25 = .ok (.aload_n 0, 1) := by decide +kernel
theorem dc_T_toNextToken_26 : decode bc_T_toNextToken 26 = .ok (.dup, 1) := by decide +kernel
theorem dc_T_toNextToken_27 : decode bc_T_toNextToken 27 = .ok (.getfield 19, 3) := by decide +kernel
theorem dc_T_toNextToken_30 : decode bc_T_toNextToken 30 = .ok (.iconst 1, 1) := by decide +kernel
theorem dc_T_toNextToken_31 : decode bc_T_toNextToken 31 = .ok (.iadd, 1) := by decide +kernel
theorem dc_T_toNextToken_32 : decode bc_T_toNextToken 32 = .ok (.putfield 19, 3) := by decide +kernel
theorem dc_T_toNextToken_35 : decode bc_T_toNextToken 35 = .ok (.goto (-35), 3) := by decide +kernel
theorem dc_T_toNextToken_38 : decode bc_T_toNextToken 38 = .ok (.aload_n 0, 1) := by decide +kernel
theorem dc_T_toNextToken_39 : decode bc_T_toNextToken 39 = .ok (.aload_n 0, 1) := by decide +kernel
theorem dc_T_toNextToken_40 : decode bc_T_toNextToken 40 = .ok (.getfield 19, 3) := by decide +kernel
theorem dc_T_toNextToken_43 : decode bc_T_toNextToken 43 = .ok (.putfield 25, 3) := by decide +kernel
theorem dc_T_toNextToken_46 : decode bc_T_toNextToken 46 = .ok (.aload_n 0, 1) := by decide +kernel
theorem dc_T_toNextToken_47 : decode bc_T_toNextToken 47 = .ok (.aload_n 0, 1) := by decide +kernel
theorem dc_T_toNextToken_48 : decode bc_T_toNextToken 48 = .ok (.getfield 25, 3) := by decide +kernel
theorem dc_T_toNextToken_51 : decode bc_T_toNextToken 51 = .ok (.invokevirtual 47, 3) := by decide +kernel
theorem dc_T_toNextToken_54 : decode bc_T_toNextToken 54 = .ok (.istore_n 1, 1) := by decide +kernel
theorem dc_T_toNextToken_55 : decode bc_T_toNextToken 55 = .ok (.iload_n 1, 1) := by decide +kernel
theorem dc_T_toNextToken_56 : decode bc_T_toNextToken 56 = .ok (.iconst (-1), 1) := by decide +kernel
theorem dc_T_toNextToken_57 : decode bc_T_toNextToken 57 = .ok (.if_icmp .ne 11, 3) := by decide +kernel
theorem dc_T_toNextToken_60 : decode bc_T_toNextToken 60 = .ok (.aload_n 0, 1) := by decide +kernel
theorem dc_T_toNextToken_61 : decode bc_T_toNextToken 61 = .ok (.iconst 0, 1) := by decide +kernel
theorem dc_T_toNextToken_62 : decode bc_T_toNextToken 62 = .ok (.putfield 22, 3) := by decide +kernel
theorem dc_T_toNextToken_65 : decode bc_T_toNextToken 65 = .ok (.goto 53, 3) := by decide +kernel
theorem dc_T_toNextToken_68 : decode bc_T_toNextToken 68 = .ok (.iload_n 1, 1) := by decide +kernel
theorem dc_T_toNextToken_69 : decode bc_T_toNextToken 69 = .ok (.invokestatic 55, 3) := by decide +kernel
theorem dc_T_toNextToken_72 : decode bc_T_toNextToken 72 = .ok (.ifCond .eq 11, 3) := by decide +kernel
theorem dc_T_toNextToken_75 : decode bc_T_toNextToken 75 = .ok (.aload_n 0, 1) := by decide +kernel
theorem dc_T_toNextToken_76 : decode bc_T_toNextToken 76 = .ok (.iload_n 1, 1) := by decide +kernel
theorem dc_T_toNextToken_77 : decode bc_T_toNextToken 77 = .ok (.invokevirtual 58, 3) := by decide +kernel
theorem dc_T_toNextToken_80 : decode bc_T_toNextToken 80 = .ok (.goto 38, 3) := by decide +kernel
theorem dc_T_toNextToken_83 : decode bc_T_toNextToken 83 = .ok (.aload_n 0, 1) := by decide +kernel
theorem dc_T_toNextToken_84 : decode bc_T_toNextToken 84 = .ok (.iload_n 1, 1) := by decide +kernel
theorem dc_T_toNextToken_85 : decode bc_T_toNextToken 85 = .ok (.bipush 40, 2) := by decide +kernel
theorem dc_T_toNextToken_87 : decode bc_T_toNextToken 87 = .ok (.if_icmp .ne 7, 3) := by decide +kernel
theorem dc_T_toNextToken_90 : decode bc_T_toNextToken 90 = .ok (.iconst 2, 1) := by decide +kernel
theorem dc_T_toNextToken_91 : decode bc_T_toNextToken 91 = .ok (.goto 14, 3) := by decide +kernel
theorem dc_T_toNextToken_94 : decode bc_T_toNextToken 94 = .ok (.iload_n 1, 1) := by decide +kernel
theorem dc_T_toNextToken_95 : decode bc_T_toNextToken 95 = .ok (.bipush 41, 2) := by decide +kernel
theorem dc_T_toNextToken_97 : decode bc_T_toNextToken 97 = .ok (.if_icmp .ne 7, 3) := by decide +kernel
theorem dc_T_toNextToken_100 : decode bc_T_toNextToken 100 = .ok (.iconst 3, 1) := by decide +kernel
theorem dc_T_toNextToken_101 : decode bc_T_toNextToken 101 = .ok (.goto 4, 3) := by decide +kernel
theorem dc_T_toNextToken_104 : decode bc_T_toNextToken 104 = .ok (.iconst 1, 1) := by decide +kernel
theorem dc_T_toNextToken_105 : decode bc_T_toNextToken 105 = .ok (.putfield 22, 3) := by decide +kernel
theorem dc_T_toNextToken_108 : decode bc_T_toNextToken 108 = .ok (.aload_n 0, 1) := by decide +kernel
theorem dc_T_toNextToken_109 : decode bc_T_toNextToken 109 = .ok (.aload_n 0, 1) := by decide +kernel
theorem dc_T_toNextToken_110 : decode bc_T_toNextToken 110 = .ok (.getfield 25, 3) := by decide +kernel
theorem dc_T_toNextToken_113 : decode bc_T_toNextToken 113 = .ok (.iconst 1, 1) := by decide +kernel
theorem dc_T_toNextToken_114 : decode bc_T_toNextToken 114 = .ok (.iadd, 1) := by decide +kernel
theorem dc_T_toNextToken_115 : decode bc_T_toNextToken 115 = .ok (.putfield 19, 3) := by decide +kernel
theorem dc_T_toNextToken_118 : decode bc_T_toNextToken 118 = .ok (.return_, 1) := by decide +kernel
theorem dc_T_byteAt_0 : decode bc_T_byteAt 0 = .ok (.iload_n 1, 1) := by decide +kernel
theorem dc_T_byteAt_1 : decode bc_T_byteAt 1 = .ok (.ifCond .lt 24, 3) := by decide +kernel
theorem dc_T_byteAt_4 : decode bc_T_byteAt 4 = .ok (.iload_n 1, 1) := by decide +kernel
theorem dc_T_byteAt_5 : decode bc_T_byteAt 5 = .ok (.aload_n 0, 1) := by decide +kernel
theorem dc_T_byteAt_6 : decode bc_T_byteAt 6 = .ok (.getfield 15, 3) := by decide +kernel
theorem dc_T_byteAt_9 : decode bc_T_byteAt 9 = .ok (.if_icmp .ge 16, 3) := by decide +kernel
theorem dc_T_byteAt_12 : decode bc_T_byteAt 12 = .ok (.aload_n 0, 1) := by decide +kernel
theorem dc_T_byteAt_13 : decode bc_T_byteAt 13 = .ok (.getfield 11, 3) := by decide +kernel
theorem dc_T_byteAt_16 : decode bc_T_byteAt 16 = .ok (.iload_n 1, 1) := by decide +kernel
theorem dc_T_byteAt_17 : decode bc_T_byteAt 17 = .ok (.baload, 1) := by decide +kernel
theorem dc_T_byteAt_18 : decode bc_T_byteAt 18 = .ok (.sipush 255, 3) := by decide +kernel
theorem dc_T_byteAt_21 : decode bc_T_byteAt 21 = .ok (.iand, 1) := by decide +kernel
theorem dc_T_byteAt_22 : decode bc_T_byteAt 22 = .ok (.goto 4, 3) := by decide +kernel
theorem dc_T_byteAt_25 : decode bc_T_byteAt 25 = .ok (.iconst (-1), 1) := by decide +kernel
theorem dc_T_byteAt_26 : decode bc_T_byteAt 26 = .ok (.ireturn, 1) := by decide +kernel
theorem dc_T_isBlank_0 : decode bc_T_isBlank 0 = .ok (.iload_n 0, 1) := by decide +kernel
theorem dc_T_isBlank_1 : decode bc_T_isBlank 1 = .ok (.bipush 32, 2) := by decide +kernel
theorem dc_T_isBlank_3 : decode bc_T_isBlank 3 = .ok (.if_icmp .eq 9, 3) := by decide +kernel
theorem dc_T_isBlank_6 : decode bc_T_isBlank 6 = .ok (.iload_n 0, 1) := by decide +kernel
theorem dc_T_isBlank_7 : decode bc_T_isBlank 7 = .ok (.bipush 10, 2) := by decide +kernel
theorem dc_T_isBlank_9 : decode bc_T_isBlank 9 = .ok (.if_icmp .ne 7, 3) := by decide +kernel
theorem dc_T_isBlank_12 : decode bc_T_isBlank 12 = .ok (.iconst 1, 1) := by decide +kernel
theorem dc_T_isBlank_13 : decode bc_T_isBlank 13 = .ok (.goto 4, 3) := by decide +kernel
theorem dc_T_isBlank_16 : decode bc_T_isBlank 16 = .ok (.iconst 0, 1) := by decide +kernel
theorem dc_T_isBlank_17 : decode bc_T_isBlank 17 = .ok (.ireturn, 1) := by decide +kernel
theorem dc_T_isJoined_0 : decode bc_T_isJoined 0 = .ok (.iload_n 0, 1) := by decide +kernel
theorem dc_T_isJoined_1 : decode bc_T_isJoined 1 = .ok (.invokestatic 62, 3) := by decide +kernel
theorem dc_T_isJoined_4 : decode bc_T_isJoined 4 = .ok (.ifCond .ne 16, 3) := by decide +kernel
theorem dc_T_isJoined_7 : decode bc_T_isJoined 7 = .ok (.iload_n 0, 1) := by decide +kernel
theorem dc_T_isJoined_8 : decode bc_T_isJoined 8 = .ok (.invokestatic 83, 3) := by decide +kernel
theorem dc_T_isJoined_11 : decode bc_T_isJoined 11 = .ok (.ifCond .ne 9, 3) := by decide +kernel
theorem dc_T_isJoined_14 : decode bc_T_isJoined 14 = .ok (.iload_n 0, 1) := by decide +kernel
theorem dc_T_isJoined_15 : decode bc_T_isJoined 15 = .ok (.bipush 45, 2) := by decide +kernel
theorem dc_T_isJoined_17 : decode bc_T_isJoined 17 = .ok (.if_icmp .ne 7, 3) := by decide +kernel
theorem dc_T_isJoined_20 : decode bc_T_isJoined 20 = .ok (.iconst 1, 1) := by decide +kernel
theorem dc_T_isJoined_21 : decode bc_T_isJoined 21 = .ok (.goto 4, 3) := by decide +kernel
theorem dc_T_isJoined_24 : decode bc_T_isJoined 24 = .ok (.iconst 0, 1) := by decide +kernel
theorem dc_T_isJoined_25 : decode bc_T_isJoined 25 = .ok (.ireturn, 1) := by decide +kernel
theorem dc_T_isLetter_0 : decode bc_T_isLetter 0 = .ok (.iload_n 0, 1) := by decide +kernel
theorem dc_T_isLetter_1 : decode bc_T_isLetter 1 = .ok (.bipush 97, 2) := by decide +kernel
theorem dc_T_isLetter_3 : decode bc_T_isLetter 3 = .ok (.if_icmp .lt 13, 3) := by decide +kernel
theorem dc_T_isLetter_6 : decode bc_T_isLetter 6 = .ok (.iload_n 0, 1) := by decide +kernel
theorem dc_T_isLetter_7 : decode bc_T_isLetter 7 = .ok (.bipush 122, 2) := by decide +kernel
theorem dc_T_isLetter_9 : decode bc_T_isLetter 9 = .ok (.if_icmp .gt 7, 3) := by decide +kernel
theorem dc_T_isLetter_12 : decode bc_T_isLetter 12 = .ok (.iconst 1, 1) := by decide +kernel
theorem dc_T_isLetter_13 : decode bc_T_isLetter 13 = .ok (.goto 4, 3) := by decide +kernel
theorem dc_T_isLetter_16 : decode bc_T_isLetter 16 = .ok (.iconst 0, 1) := by decide +kernel
theorem dc_T_isLetter_17 : decode bc_T_isLetter 17 = .ok (.ireturn, 1) := by decide +kernel
theorem dc_T_isDigit_0 : decode bc_T_isDigit 0 = .ok (.iload_n 0, 1) := by decide +kernel
theorem dc_T_isDigit_1 : decode bc_T_isDigit 1 = .ok (.bipush 48, 2) := by decide +kernel
theorem dc_T_isDigit_3 : decode bc_T_isDigit 3 = .ok (.if_icmp .lt 13, 3) := by decide +kernel
theorem dc_T_isDigit_6 : decode bc_T_isDigit 6 = .ok (.iload_n 0, 1) := by decide +kernel
theorem dc_T_isDigit_7 : decode bc_T_isDigit 7 = .ok (.bipush 57, 2) := by decide +kernel
theorem dc_T_isDigit_9 : decode bc_T_isDigit 9 = .ok (.if_icmp .gt 7, 3) := by decide +kernel
theorem dc_T_isDigit_12 : decode bc_T_isDigit 12 = .ok (.iconst 1, 1) := by decide +kernel
theorem dc_T_isDigit_13 : decode bc_T_isDigit 13 = .ok (.goto 4, 3) := by decide +kernel
theorem dc_T_isDigit_16 : decode bc_T_isDigit 16 = .ok (.iconst 0, 1) := by decide +kernel
theorem dc_T_isDigit_17 : decode bc_T_isDigit 17 = .ok (.ireturn, 1) := by decide +kernel
theorem dc_T_scanJoined_0 : decode bc_T_scanJoined 0 = .ok (.aload_n 0, 1) := by decide +kernel
theorem dc_T_scanJoined_1 : decode bc_T_scanJoined 1 = .ok (.getfield 19, 3) := by decide +kernel
theorem dc_T_scanJoined_4 : decode bc_T_scanJoined 4 = .ok (.aload_n 0, 1) := by decide +kernel
theorem dc_T_scanJoined_5 : decode bc_T_scanJoined 5 = .ok (.getfield 15, 3) := by decide +kernel
theorem dc_T_scanJoined_8 : decode bc_T_scanJoined 8 = .ok (.if_icmp .ge 30, 3) := by decide +kernel
theorem dc_T_scanJoined_11 : decode bc_T_scanJoined 11 = .ok (.aload_n 0, 1) := by decide +kernel
theorem dc_T_scanJoined_12 : decode bc_T_scanJoined 12 = .ok (.aload_n 0, 1) := by decide +kernel
theorem dc_T_scanJoined_13 : decode bc_T_scanJoined 13 = .ok (.getfield 19, 3) := by decide +kernel
theorem dc_T_scanJoined_16 : decode bc_T_scanJoined 16 = .ok (.invokevirtual 47, 3) := by decide +kernel
theorem dc_T_scanJoined_19 : decode bc_T_scanJoined 19 = .ok (.invokestatic 55, 3) := by decide +kernel
theorem dc_T_scanJoined_22 : decode bc_T_scanJoined 22 = .ok (.ifCond .eq 16, 3) := by decide +kernel
theorem dc_T_scanJoined_25 : decode bc_T_scanJoined 25 = .ok (.aload_n 0, 1) := by decide +kernel
theorem dc_T_scanJoined_26 : decode bc_T_scanJoined 26 = .ok (.dup, 1) := by decide +kernel
theorem dc_T_scanJoined_27 : decode bc_T_scanJoined 27 = .ok (.getfield 19, 3) := by decide +kernel
theorem dc_T_scanJoined_30 : decode bc_T_scanJoined 30 = .ok (.iconst 1, 1) := by decide +kernel
theorem dc_T_scanJoined_31 : decode bc_T_scanJoined 31 = .ok (.iadd, 1) := by decide +kernel
theorem dc_T_scanJoined_32 : decode bc_T_scanJoined 32 = .ok (.putfield 19, 3) := by decide +kernel
theorem dc_T_scanJoined_35 : decode bc_T_scanJoined 35 = .ok (.goto (-35), 3) := by decide +kernel
theorem dc_T_scanJoined_38 : decode bc_T_scanJoined 38 = .ok (.iload_n 1, 1) := by decide +kernel
theorem dc_T_scanJoined_39 : decode bc_T_scanJoined 39 = .ok (.invokestatic 62, 3) := by decide +kernel
theorem dc_T_scanJoined_42 : decode bc_T_scanJoined 42 = .ok (.ifCond .eq 22, 3) := by decide +kernel
theorem dc_T_scanJoined_45 : decode bc_T_scanJoined 45 = .ok (.aload_n 0, 1) := by decide +kernel
theorem dc_T_scanJoined_46 : decode bc_T_scanJoined 46 = .ok (.aload_n 0, 1) := by decide +kernel
theorem dc_T_scanJoined_47 : decode bc_T_scanJoined 47 = .ok (.invokevirtual 65, 3) := by decide +kernel
theorem dc_T_scanJoined_50 : decode bc_T_scanJoined 50 = .ok (.ifCond .eq 7, 3) := by decide +kernel
theorem dc_T_scanJoined_53 : decode bc_T_scanJoined 53 = .ok (.iconst 4, 1) := by decide +kernel
theorem dc_T_scanJoined_54 : decode bc_T_scanJoined 54 = .ok (.goto 4, 3) := by decide +kernel
theorem dc_T_scanJoined_57 : decode bc_T_scanJoined 57 = .ok (.iconst 1, 1) := by decide +kernel
theorem dc_T_scanJoined_58 : decode bc_T_scanJoined 58 = .ok (.putfield 22, 3) := by decide +kernel
theorem dc_T_scanJoined_61 : decode bc_T_scanJoined 61 = .ok (.goto 30, 3) := by decide +kernel
theorem dc_T_scanJoined_64 : decode bc_T_scanJoined 64 = .ok (.aload_n 0, 1) := by decide +kernel
theorem dc_T_scanJoined_65 : decode bc_T_scanJoined 65 = .ok (.aload_n 0, 1) := by decide +kernel
theorem dc_T_scanJoined_66 : decode bc_T_scanJoined 66 = .ok (.iload_n 1, 1) := by decide +kernel
theorem dc_T_scanJoined_67 : decode bc_T_scanJoined 67 = .ok (.bipush 45, 2) := by decide +kernel
theorem dc_T_scanJoined_69 : decode bc_T_scanJoined 69 = .ok (.if_icmp .ne 7, 3) := by decide +kernel
theorem dc_T_scanJoined_72 : decode bc_T_scanJoined 72 = .ok (.iconst 1, 1) := by decide +kernel
theorem dc_T_scanJoined_73 : decode bc_T_scanJoined 73 = .ok (.goto 4, 3) := by decide +kernel
theorem dc_T_scanJoined_76 : decode bc_T_scanJoined 76 = .ok (.iconst 0, 1) := by decide +kernel
theorem dc_T_scanJoined_77 : decode bc_T_scanJoined 77 = .ok (.invokevirtual 69, 3) := by decide +kernel
theorem dc_T_scanJoined_80 : decode bc_T_scanJoined 80 = .ok (.ifCond .eq 7, 3) := by decide +kernel
theorem dc_T_scanJoined_83 : decode bc_T_scanJoined 83 = .ok (.iconst 5, 1) := by decide +kernel
theorem dc_T_scanJoined_84 : decode bc_T_scanJoined 84 = .ok (.goto 4, 3) := by decide +kernel
theorem dc_T_scanJoined_87 : decode bc_T_scanJoined 87 = .ok (.iconst 1, 1) := by decide +kernel
theorem dc_T_scanJoined_88 : decode bc_T_scanJoined 88 = .ok (.putfield 22, 3) := by decide +kernel
theorem dc_T_scanJoined_91 : decode bc_T_scanJoined 91 = .ok (.return_, 1) := by decide +kernel
theorem dc_T_scansName_0 : decode bc_T_scansName 0 = .ok (.aload_n 0, 1) := by decide +kernel
theorem dc_T_scansName_1 : decode bc_T_scansName 1 = .ok (.getfield 19, 3) := by decide +kernel
theorem dc_T_scansName_4 : decode bc_T_scansName 4 = .ok (.aload_n 0, 1) := by decide +kernel
theorem dc_T_scansName_5 : decode bc_T_scansName 5 = .ok (.getfield 25, 3) := by decide +kernel
theorem dc_T_scansName_8 : decode bc_T_scansName 8 = .ok (.isub, 1) := by decide +kernel
theorem dc_T_scansName_9 : decode bc_T_scansName 9 = .ok (.bipush 12, 2) := by decide +kernel
theorem dc_T_scansName_11 : decode bc_T_scansName 11 = .ok (.if_icmp .le 5, 3) := by decide +kernel
theorem dc_T_scansName_14 : decode bc_T_scansName 14 = .ok (.iconst 0, 1) := by decide +kernel
theorem dc_T_scansName_15 : decode bc_T_scansName 15 = .ok (.ireturn, 1) := by decide +kernel
theorem dc_T_scansName_16 : decode bc_T_scansName 16 = .ok (.aload_n 0, 1) := by decide +kernel
theorem dc_T_scansName_17 : decode bc_T_scansName 17 = .ok (.lconst 0, 1) := by decide +kernel
theorem dc_T_scansName_18 : decode bc_T_scansName 18 = .ok (.putfield 28, 3) := by decide +kernel
theorem dc_T_scansName_21 : decode bc_T_scansName 21 = .ok (.aload_n 0, 1) := by decide +kernel
theorem dc_T_scansName_22 : decode bc_T_scansName 22 = .ok (.getfield 25, 3) := by decide +kernel
theorem dc_T_scansName_25 : decode bc_T_scansName 25 = .ok (.istore_n 1, 1) := by decide +kernel
theorem dc_T_scansName_26 : decode bc_T_scansName 26 = .ok (.iload_n 1, 1) := by decide +kernel
theorem dc_T_scansName_27 : decode bc_T_scansName 27 = .ok (.aload_n 0, 1) := by decide +kernel
theorem dc_T_scansName_28 : decode bc_T_scansName 28 = .ok (.getfield 19, 3) := by decide +kernel
theorem dc_T_scansName_31 : decode bc_T_scansName 31 = .ok (.if_icmp .ge 44, 3) := by decide +kernel
theorem dc_T_scansName_34 : decode bc_T_scansName 34 = .ok (.aload_n 0, 1) := by decide +kernel
theorem dc_T_scansName_35 : decode bc_T_scansName 35 = .ok (.iload_n 1, 1) := by decide +kernel
theorem dc_T_scansName_36 : decode bc_T_scansName 36 = .ok (.invokevirtual 47, 3) := by decide +kernel
theorem dc_T_scansName_39 : decode bc_T_scansName 39 = .ok (.istore_n 2, 1) := by decide +kernel
theorem dc_T_scansName_40 : decode bc_T_scansName 40 = .ok (.iload_n 2, 1) := by decide +kernel
theorem dc_T_scansName_41 : decode bc_T_scansName 41 = .ok (.invokestatic 62, 3) := by decide +kernel
theorem dc_T_scansName_44 : decode bc_T_scansName 44 = .ok (.ifCond .ne 5, 3) := by decide +kernel
theorem dc_T_scansName_47 : decode bc_T_scansName 47 = .ok (.iconst 0, 1) := by decide +kernel
theorem dc_T_scansName_48 : decode bc_T_scansName 48 = .ok (.ireturn, 1) := by decide +kernel
theorem dc_T_scansName_49 : decode bc_T_scansName 49 = .ok (.aload_n 0, 1) := by decide +kernel
theorem dc_T_scansName_50 : decode bc_T_scansName 50 = .ok (.aload_n 0, 1) := by decide +kernel
theorem dc_T_scansName_51 : decode bc_T_scansName 51 = .ok (.getfield 28, 3) := by decide +kernel
theorem dc_T_scansName_54 : decode bc_T_scansName 54 = .ok (.ldc2_w 73, 3) := by decide +kernel
theorem dc_T_scansName_57 : decode bc_T_scansName 57 = .ok (.lmul, 1) := by decide +kernel
theorem dc_T_scansName_58 : decode bc_T_scansName 58 = .ok (.iload_n 2, 1) := by decide +kernel
theorem dc_T_scansName_59 : decode bc_T_scansName 59 = .ok (.bipush 97, 2) := by decide +kernel
theorem dc_T_scansName_61 : decode bc_T_scansName 61 = .ok (.isub, 1) := by decide +kernel
theorem dc_T_scansName_62 : decode bc_T_scansName 62 = .ok (.iconst 1, 1) := by decide +kernel
theorem dc_T_scansName_63 : decode bc_T_scansName 63 = .ok (.iadd, 1) := by decide +kernel
theorem dc_T_scansName_64 : decode bc_T_scansName 64 = .ok (.i2l, 1) := by decide +kernel
theorem dc_T_scansName_65 : decode bc_T_scansName 65 = .ok (.ladd, 1) := by decide +kernel
theorem dc_T_scansName_66 : decode bc_T_scansName 66 = .ok (.putfield 28, 3) := by decide +kernel
theorem dc_T_scansName_69 : decode bc_T_scansName 69 = .ok (.iinc 1 1, 3) := by decide +kernel
theorem dc_T_scansName_72 : decode bc_T_scansName 72 = .ok (.goto (-46), 3) := by decide +kernel
theorem dc_T_scansName_75 : decode bc_T_scansName 75 = .ok (.aload_n 0, 1) := by decide +kernel
theorem dc_T_scansName_76 : decode bc_T_scansName 76 = .ok (.aload_n 0, 1) := by decide +kernel
theorem dc_T_scansName_77 : decode bc_T_scansName 77 = .ok (.getfield 28, 3) := by decide +kernel
theorem dc_T_scansName_80 : decode bc_T_scansName 80 = .ok (.invokestatic 75, 3) := by decide +kernel
theorem dc_T_scansName_83 : decode bc_T_scansName 83 = .ok (.putfield 32, 3) := by decide +kernel
theorem dc_T_scansName_86 : decode bc_T_scansName 86 = .ok (.iconst 1, 1) := by decide +kernel
theorem dc_T_scansName_87 : decode bc_T_scansName 87 = .ok (.ireturn, 1) := by decide +kernel
theorem dc_T_wordOf_0 : decode bc_T_wordOf 0 = .ok (.iconst 0, 1) := by decide +kernel
theorem dc_T_wordOf_1 : decode bc_T_wordOf 1 = .ok (.istore_n 2, 1) := by decide +kernel
theorem dc_T_wordOf_2 : decode bc_T_wordOf 2 = .ok (.iload_n 2, 1) := by decide +kernel
theorem dc_T_wordOf_3 : decode bc_T_wordOf 3 = .ok (.getstatic 88, 3) := by decide +kernel
theorem dc_T_wordOf_6 : decode bc_T_wordOf 6 = .ok (.arraylength, 1) := by decide +kernel
theorem dc_T_wordOf_7 : decode bc_T_wordOf 7 = .ok (.if_icmp .ge 21, 3) := by decide +kernel
theorem dc_T_wordOf_10 : decode bc_T_wordOf 10 = .ok (.getstatic 88, 3) := by decide +kernel
theorem dc_T_wordOf_13 : decode bc_T_wordOf 13 = .ok (.iload_n 2, 1) := by decide +kernel
theorem dc_T_wordOf_14 : decode bc_T_wordOf 14 = .ok (.laload, 1) := by decide +kernel
theorem dc_T_wordOf_15 : decode bc_T_wordOf 15 = .ok (.lload_n 0, 1) := by decide +kernel
theorem dc_T_wordOf_16 : decode bc_T_wordOf 16 = .ok (.lcmp, 1) := by decide +kernel
theorem dc_T_wordOf_17 : decode bc_T_wordOf 17 = .ok (.ifCond .ne 5, 3) := by decide +kernel
theorem dc_T_wordOf_20 : decode bc_T_wordOf 20 = .ok (.iload_n 2, 1) := by decide +kernel
theorem dc_T_wordOf_21 : decode bc_T_wordOf 21 = .ok (.ireturn, 1) := by decide +kernel
theorem dc_T_wordOf_22 : decode bc_T_wordOf 22 = .ok (.iinc 2 1, 3) := by decide +kernel
theorem dc_T_wordOf_25 : decode bc_T_wordOf 25 = .ok (.goto (-23), 3) := by decide +kernel
theorem dc_T_wordOf_28 : decode bc_T_wordOf 28 = .ok (.iconst (-1), 1) := by decide +kernel
theorem dc_T_wordOf_29 : decode bc_T_wordOf 29 = .ok (.ireturn, 1) := by decide +kernel
theorem dc_T_scansNumber_0 : decode bc_T_scansNumber 0 = .ok (.iload_n 1, 1) := by decide +kernel
theorem dc_T_scansNumber_1 : decode bc_T_scansNumber 1 = .ok (.ifCond .eq 12, 3) := by decide +kernel
theorem dc_T_scansNumber_4 : decode bc_T_scansNumber 4 = .ok (.aload_n 0, 1) := by decide +kernel
theorem dc_T_scansNumber_5 : decode bc_T_scansNumber 5 = .ok (.getfield 25, 3) := by decide +kernel
theorem dc_T_scansNumber_8 : decode bc_T_scansNumber 8 = .ok (.iconst 1, 1) := by decide +kernel
theorem dc_T_scansNumber_9 : decode bc_T_scansNumber 9 = .ok (.iadd, 1) := by decide +kernel
theorem dc_T_scansNumber_10 : decode bc_T_scansNumber 10 = .ok (.goto 7, 3) := by decide +kernel
theorem dc_T_scansNumber_13 : decode bc_T_scansNumber 13 = .ok (.aload_n 0, 1) := by decide +kernel
theorem dc_T_scansNumber_14 : decode bc_T_scansNumber 14 = .ok (.getfield 25, 3) := by decide +kernel
theorem dc_T_scansNumber_17 : decode bc_T_scansNumber 17 = .ok (.istore_n 2, 1) := by decide +kernel
theorem dc_T_scansNumber_18 : decode bc_T_scansNumber 18 = .ok (.iload_n 1, 1) := by decide +kernel
theorem dc_T_scansNumber_19 : decode bc_T_scansNumber 19 = .ok (.ifCond .eq 9, 3) := by decide +kernel
theorem dc_T_scansNumber_22 : decode bc_T_scansNumber 22 = .ok (.ldc2_w 79, 3) := by decide +kernel
theorem dc_T_scansNumber_25 : decode bc_T_scansNumber 25 = .ok (.goto 6, 3) := by decide +kernel
theorem dc_T_scansNumber_28 : decode bc_T_scansNumber 28 = .ok (.ldc2_w 81, 3) := by decide +kernel
theorem dc_T_scansNumber_31 : decode bc_T_scansNumber 31 = .ok (.lstore_n 3, 1) := by decide +kernel
theorem dc_T_scansNumber_32 : decode bc_T_scansNumber 32 = .ok (.lconst 0, 1) := by decide +kernel
theorem dc_T_scansNumber_33 : decode bc_T_scansNumber 33 = .ok (.lstore 5, 2) := by decide +kernel
theorem dc_T_scansNumber_35 : decode bc_T_scansNumber 35 = .ok (.iload_n 2, 1) := by decide +kernel
theorem dc_T_scansNumber_36 : decode bc_T_scansNumber 36 = .ok (.istore 7, 2) := by decide +kernel
theorem dc_T_scansNumber_38 : decode bc_T_scansNumber 38 = .ok (.iload 7, 2) := by decide +kernel
theorem dc_T_scansNumber_40 : decode bc_T_scansNumber 40 = .ok (.aload_n 0, 1) := by decide +kernel
theorem dc_T_scansNumber_41 : decode bc_T_scansNumber 41 = .ok (.getfield 19, 3) := by decide +kernel
theorem dc_T_scansNumber_44 : decode bc_T_scansNumber 44 = .ok (.if_icmp .ge 51, 3) := by decide +kernel
theorem dc_T_scansNumber_47 : decode bc_T_scansNumber 47 = .ok (.aload_n 0, 1) := by decide +kernel
theorem dc_T_scansNumber_48 : decode bc_T_scansNumber 48 = .ok (.iload 7, 2) := by decide +kernel
theorem dc_T_scansNumber_50 : decode bc_T_scansNumber 50 = .ok (.invokevirtual 47, 3) := by decide +kernel
theorem dc_T_scansNumber_53 : decode bc_T_scansNumber 53 = .ok (.istore 8, 2) := by decide +kernel
theorem dc_T_scansNumber_55 : decode bc_T_scansNumber 55 = .ok (.iload 8, 2) := by decide +kernel
theorem dc_T_scansNumber_57 : decode bc_T_scansNumber 57 = .ok (.invokestatic 83, 3) := by decide +kernel
theorem dc_T_scansNumber_60 : decode bc_T_scansNumber 60 = .ok (.ifCond .ne 5, 3) := by decide +kernel
theorem dc_T_scansNumber_63 : decode bc_T_scansNumber 63 = .ok (.iconst 0, 1) := by decide +kernel
theorem dc_T_scansNumber_64 : decode bc_T_scansNumber 64 = .ok (.ireturn, 1) := by decide +kernel
theorem dc_T_scansNumber_65 : decode bc_T_scansNumber 65 = .ok (.lload 5, 2) := by decide +kernel
theorem dc_T_scansNumber_67 : decode bc_T_scansNumber 67 = .ok (.ldc2_w 86, 3) := by decide +kernel
theorem dc_T_scansNumber_70 : decode bc_T_scansNumber 70 = .ok (.lmul, 1) := by decide +kernel
theorem dc_T_scansNumber_71 : decode bc_T_scansNumber 71 = .ok (.iload 8, 2) := by decide +kernel
theorem dc_T_scansNumber_73 : decode bc_T_scansNumber 73 = .ok (.bipush 48, 2) := by decide +kernel
theorem dc_T_scansNumber_75 : decode bc_T_scansNumber 75 = .ok (.isub, 1) := by decide +kernel
theorem dc_T_scansNumber_76 : decode bc_T_scansNumber 76 = .ok (.i2l, 1) := by decide +kernel
theorem dc_T_scansNumber_77 : decode bc_T_scansNumber 77 = .ok (.ladd, 1) := by decide +kernel
theorem dc_T_scansNumber_78 : decode bc_T_scansNumber 78 = .ok (.lstore 5, 2) := by decide +kernel
theorem dc_T_scansNumber_80 : decode bc_T_scansNumber 80 = .ok (.lload 5, 2) := by decide +kernel
theorem dc_T_scansNumber_82 : decode bc_T_scansNumber 82 = .ok (.lload_n 3, 1) := by decide +kernel
theorem dc_T_scansNumber_83 : decode bc_T_scansNumber 83 = .ok (.lcmp, 1) := by decide +kernel
theorem dc_T_scansNumber_84 : decode bc_T_scansNumber 84 = .ok (.ifCond .le 5, 3) := by decide +kernel
theorem dc_T_scansNumber_87 : decode bc_T_scansNumber 87 = .ok (.iconst 0, 1) := by decide +kernel
theorem dc_T_scansNumber_88 : decode bc_T_scansNumber 88 = .ok (.ireturn, 1) := by decide +kernel
theorem dc_T_scansNumber_89 : decode bc_T_scansNumber 89 = .ok (.iinc 7 1, 3) := by decide +kernel
theorem dc_T_scansNumber_92 : decode bc_T_scansNumber 92 = .ok (.goto (-54), 3) := by decide +kernel
theorem dc_T_scansNumber_95 : decode bc_T_scansNumber 95 = .ok (.aload_n 0, 1) := by decide +kernel
theorem dc_T_scansNumber_96 : decode bc_T_scansNumber 96 = .ok (.iload_n 1, 1) := by decide +kernel
theorem dc_T_scansNumber_97 : decode bc_T_scansNumber 97 = .ok (.ifCond .eq 9, 3) := by decide +kernel
theorem dc_T_scansNumber_100 : decode bc_T_scansNumber 100 = .ok (.lload 5, 2) := by decide +kernel
theorem dc_T_scansNumber_102 : decode bc_T_scansNumber 102 = .ok (.lneg, 1) := by decide +kernel
theorem dc_T_scansNumber_103 : decode bc_T_scansNumber 103 = .ok (.goto 5, 3) := by decide +kernel
theorem dc_T_scansNumber_106 : decode bc_T_scansNumber 106 = .ok (.lload 5, 2) := by decide +kernel
theorem dc_T_scansNumber_108 : decode bc_T_scansNumber 108 = .ok (.l2i, 1) := by decide +kernel
theorem dc_T_scansNumber_109 : decode bc_T_scansNumber 109 = .ok (.putfield 35, 3) := by decide +kernel
theorem dc_T_scansNumber_112 : decode bc_T_scansNumber 112 = .ok (.iload_n 2, 1) := by decide +kernel
theorem dc_T_scansNumber_113 : decode bc_T_scansNumber 113 = .ok (.aload_n 0, 1) := by decide +kernel
theorem dc_T_scansNumber_114 : decode bc_T_scansNumber 114 = .ok (.getfield 19, 3) := by decide +kernel
theorem dc_T_scansNumber_117 : decode bc_T_scansNumber 117 = .ok (.if_icmp .ge 7, 3) := by decide +kernel
theorem dc_T_scansNumber_120 : decode bc_T_scansNumber 120 = .ok (.iconst 1, 1) := by decide +kernel
theorem dc_T_scansNumber_121 : decode bc_T_scansNumber 121 = .ok (.goto 4, 3) := by decide +kernel
theorem dc_T_scansNumber_124 : decode bc_T_scansNumber 124 = .ok (.iconst 0, 1) := by decide +kernel
theorem dc_T_scansNumber_125 : decode bc_T_scansNumber 125 = .ok (.ireturn, 1) := by decide +kernel
theorem dc_T_size_0 : decode bc_T_size 0 = .ok (.aload_n 0, 1) := by decide +kernel
theorem dc_T_size_1 : decode bc_T_size 1 = .ok (.getfield 15, 3) := by decide +kernel
theorem dc_T_size_4 : decode bc_T_size 4 = .ok (.ireturn, 1) := by decide +kernel
theorem dc_P_takesStep_0 : decode bc_P_takesStep 0 = .ok (.aload_n 0, 1) := by decide +kernel
theorem dc_P_takesStep_1 : decode bc_P_takesStep 1 = .ok (.getfield 27, 3) := by decide +kernel
theorem dc_P_takesStep_4 : decode bc_P_takesStep 4 = .ok (.aload_n 0, 1) := by decide +kernel
theorem dc_P_takesStep_5 : decode bc_P_takesStep 5 = .ok (.getfield 43, 3) := by decide +kernel
theorem dc_P_takesStep_8 : decode bc_P_takesStep 8 = .ok (.iconst 0, 1) := by decide +kernel
theorem dc_P_takesStep_9 : decode bc_P_takesStep 9 = .ok (.invokevirtual 152, 3) := by decide +kernel
theorem dc_P_takesStep_12 : decode bc_P_takesStep 12 = .ok (.invokestatic 180, 3) := by decide +kernel
theorem dc_P_takesStep_15 : decode bc_P_takesStep 15 = .ok (.astore_n 1, 1) := by decide +kernel
theorem dc_P_takesStep_16 : decode bc_P_takesStep 16 = .ok (.aload_n 0, 1) := by decide +kernel
theorem dc_P_takesStep_17 : decode bc_P_takesStep 17 = .ok (.getfield 27, 3) := by decide +kernel
theorem dc_P_takesStep_20 : decode bc_P_takesStep 20 = .ok (.aload_n 0, 1) := by decide +kernel
theorem dc_P_takesStep_21 : decode bc_P_takesStep 21 = .ok (.getfield 43, 3) := by decide +kernel
theorem dc_P_takesStep_24 : decode bc_P_takesStep 24 = .ok (.bipush 9, 2) := by decide +kernel
theorem dc_P_takesStep_26 : decode bc_P_takesStep 26 = .ok (.invokevirtual 152, 3) := by decide +kernel
theorem dc_P_takesStep_29 : decode bc_P_takesStep 29 = .ok (.istore_n 2, 1) := by decide +kernel
theorem dc_P_takesStep_30 : decode bc_P_takesStep 30 = .ok (.aload_n 0, 1) := by decide +kernel
theorem dc_P_takesStep_31 : decode bc_P_takesStep 31 = .ok (.iload_n 2, 1) := by decide +kernel
theorem dc_P_takesStep_32 : decode bc_P_takesStep 32 = .ok (.ifCond .lt 19, 3) := by decide +kernel
theorem dc_P_takesStep_35 : decode bc_P_takesStep 35 = .ok (.iload_n 2, 1) := by decide +kernel
theorem dc_P_takesStep_36 : decode bc_P_takesStep 36 = .ok (.aload_n 1, 1) := by decide +kernel
theorem dc_P_takesStep_37 : decode bc_P_takesStep 37 = .ok (.invokevirtual 184, 3) := by decide +kernel
theorem dc_P_takesStep_40 : decode bc_P_takesStep 40 = .ok (.if_icmp .ge 11, 3) := by decide +kernel
theorem dc_P_takesStep_43 : decode bc_P_takesStep 43 = .ok (.aload_n 1, 1) := by decide +kernel
theorem dc_P_takesStep_44 : decode bc_P_takesStep 44 = .ok (.iload_n 2, 1) := by decide +kernel
theorem dc_P_takesStep_45 : decode bc_P_takesStep 45 = .ok (.invokevirtual 189, 3) := by decide +kernel
theorem dc_P_takesStep_48 : decode bc_P_takesStep 48 = .ok (.goto 5, 3) := by decide +kernel
theorem dc_P_takesStep_51 : decode bc_P_takesStep 51 = .ok (.bipush 46, 2) := by decide +kernel
theorem dc_P_takesStep_53 : decode bc_P_takesStep 53 = .ok (.putfield 46, 3) := by decide +kernel
theorem dc_P_takesStep_56 : decode bc_P_takesStep 56 = .ok (.aload_n 0, 1) := by decide +kernel
theorem dc_P_takesStep_57 : decode bc_P_takesStep 57 = .ok (.getfield 46, 3) := by decide +kernel
theorem dc_P_takesStep_60 : decode bc_P_takesStep 60 = .ok (.lookupswitch 155 #[(40, 143), (41, 149), (42, 102), (67, 97), (69, 92), (70, 125), (88, 131), (89, 137), (99, 97), (101, 92)], 92) := by decide +kernel
theorem dc_P_takesStep_152 : decode bc_P_takesStep 152 = .ok (.aload_n 0, 1) := by decide +kernel
theorem dc_P_takesStep_153 : decode bc_P_takesStep 153 = .ok (.invokevirtual 110, 3) := by decide +kernel
theorem dc_P_takesStep_156 : decode bc_P_takesStep 156 = .ok (.ireturn, 1) := by decide +kernel
theorem dc_P_takesStep_157 : decode bc_P_takesStep 157 = .ok (.aload_n 0, 1) := by decide +kernel
theorem dc_P_takesStep_158 : decode bc_P_takesStep 158 = .ok (.invokevirtual 107, 3) := by decide +kernel
theorem dc_P_takesStep_161 : decode bc_P_takesStep 161 = .ok (.ireturn, 1) := by decide +kernel
theorem dc_P_takesStep_162 : decode bc_P_takesStep 162 = .ok (.aload_n 0, 1) := by decide +kernel
theorem dc_P_takesStep_163 : decode bc_P_takesStep 163 = .ok (.getfield 12, 3) := by decide +kernel
theorem dc_P_takesStep_166 : decode bc_P_takesStep 166 = .ok (.getfield 57, 3) := by decide +kernel
theorem dc_P_takesStep_169 : decode bc_P_takesStep 169 = .ok (.iconst 3, 1) := by decide +kernel
theorem dc_P_takesStep_170 : decode bc_P_takesStep 170 = .ok (.if_icmp .ne 10, 3) := by decide +kernel
theorem dc_P_takesStep_173 : decode bc_P_takesStep 173 = .ok (.aload_n 0, 1) := by decide +kernel
theorem dc_P_takesStep_174 : decode bc_P_takesStep 174 = .ok (.invokevirtual 193, 3) := by decide +kernel
theorem dc_P_takesStep_177 : decode bc_P_takesStep 177 = .ok (.goto 7, 3) := by decide +kernel
theorem dc_P_takesStep_180 : decode bc_P_takesStep 180 = .ok (.aload_n 0, 1) := by decide +kernel
theorem dc_P_takesStep_181 : decode bc_P_takesStep 181 = .ok (.invokevirtual 110, 3) := by decide +kernel
theorem dc_P_takesStep_184 : decode bc_P_takesStep 184 = .ok (.ireturn, 1) := by decide +kernel
theorem dc_P_takesStep_185 : decode bc_P_takesStep 185 = .ok (.aload_n 0, 1) := by decide +kernel
theorem dc_P_takesStep_186 : decode bc_P_takesStep 186 = .ok (.iconst 0, 1) := by decide +kernel
theorem dc_P_takesStep_187 : decode bc_P_takesStep 187 = .ok (.invokevirtual 196, 3) := by decide +kernel
theorem dc_P_takesStep_190 : decode bc_P_takesStep 190 = .ok (.ireturn, 1) := by decide +kernel
theorem dc_P_takesStep_191 : decode bc_P_takesStep 191 = .ok (.aload_n 0, 1) := by decide +kernel
theorem dc_P_takesStep_192 : decode bc_P_takesStep 192 = .ok (.iconst 0, 1) := by decide +kernel
theorem dc_P_takesStep_193 : decode bc_P_takesStep 193 = .ok (.invokevirtual 199, 3) := by decide +kernel
theorem dc_P_takesStep_196 : decode bc_P_takesStep 196 = .ok (.ireturn, 1) := by decide +kernel
theorem dc_P_takesStep_197 : decode bc_P_takesStep 197 = .ok (.aload_n 0, 1) := by decide +kernel
theorem dc_P_takesStep_198 : decode bc_P_takesStep 198 = .ok (.iconst 1, 1) := by decide +kernel
theorem dc_P_takesStep_199 : decode bc_P_takesStep 199 = .ok (.invokevirtual 199, 3) := by decide +kernel
theorem dc_P_takesStep_202 : decode bc_P_takesStep 202 = .ok (.ireturn, 1) := by decide +kernel
theorem dc_P_takesStep_203 : decode bc_P_takesStep 203 = .ok (.aload_n 0, 1) := by decide +kernel
theorem dc_P_takesStep_204 : decode bc_P_takesStep 204 = .ok (.iconst 2, 1) := by decide +kernel
theorem dc_P_takesStep_205 : decode bc_P_takesStep 205 = .ok (.invokevirtual 202, 3) := by decide +kernel
theorem dc_P_takesStep_208 : decode bc_P_takesStep 208 = .ok (.ireturn, 1) := by decide +kernel
theorem dc_P_takesStep_209 : decode bc_P_takesStep 209 = .ok (.aload_n 0, 1) := by decide +kernel
theorem dc_P_takesStep_210 : decode bc_P_takesStep 210 = .ok (.iconst 3, 1) := by decide +kernel
theorem dc_P_takesStep_211 : decode bc_P_takesStep 211 = .ok (.invokevirtual 202, 3) := by decide +kernel
theorem dc_P_takesStep_214 : decode bc_P_takesStep 214 = .ok (.ireturn, 1) := by decide +kernel
theorem dc_P_takesStep_215 : decode bc_P_takesStep 215 = .ok (.aload_n 0, 1) := by decide +kernel
theorem dc_P_takesStep_216 : decode bc_P_takesStep 216 = .ok (.getfield 12, 3) := by decide +kernel
theorem dc_P_takesStep_219 : decode bc_P_takesStep 219 = .ok (.getfield 57, 3) := by decide +kernel
